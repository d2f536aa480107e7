section
-- ===== PART A: goes FIRST, ahead of the names: the tables' words, and 'selects' of the private methods out of them =====
/-- a private method of a class that the tables say can be made, by its rows of tables_1 -/
def lw_okq (q : MethodName × Nat) : Prop := (q.1.cls ≠ "java/lang/invoke/MethodHandle" ∧ q.1.cls ≠ "java/lang/invoke/VarHandle") ∧ Cond.instantiable q.1.cls q.2 ∈ tables_1 ∧ Cond.privateMethod q.1 ∈ tables_1 ∧ Cond.instanceMethod q.1 ∈ tables_1
theorem lw_p0 : lw_okq (⟨"java/lang/Throwable", "fillInStackTrace", "(I)Ljava/lang/Throwable;"⟩, 6) := ⟨⟨by decide +kernel, by decide +kernel⟩, List.mem_of_getElem? (i := 168) (by decide +kernel), List.mem_of_getElem? (i := 166) (by decide +kernel), List.mem_of_getElem? (i := 167) (by decide +kernel)⟩
theorem lw_p1 : lw_okq (⟨"DirectoryServers", "needDirectory", "(I)LDirectoryServers$Directory;"⟩, 10) := ⟨⟨by decide +kernel, by decide +kernel⟩, List.mem_of_getElem? (i := 12) (by decide +kernel), List.mem_of_getElem? (i := 202) (by decide +kernel), List.mem_of_getElem? (i := 203) (by decide +kernel)⟩
theorem lw_p2 : lw_okq (⟨"DirectoryServers", "directoryNumbered", "(I)LDirectoryServers$Directory;"⟩, 10) := ⟨⟨by decide +kernel, by decide +kernel⟩, List.mem_of_getElem? (i := 12) (by decide +kernel), List.mem_of_getElem? (i := 206) (by decide +kernel), List.mem_of_getElem? (i := 207) (by decide +kernel)⟩
theorem lw_p3 : lw_okq (⟨"DirectoryServers", "needFree", "(LDirectoryServers$Directory;I)V"⟩, 10) := ⟨⟨by decide +kernel, by decide +kernel⟩, List.mem_of_getElem? (i := 12) (by decide +kernel), List.mem_of_getElem? (i := 260) (by decide +kernel), List.mem_of_getElem? (i := 261) (by decide +kernel)⟩
theorem lw_p4 : lw_okq (⟨"DirectoryServers", "frozen", "(LDirectoryServers$Fragment;)Z"⟩, 10) := ⟨⟨by decide +kernel, by decide +kernel⟩, List.mem_of_getElem? (i := 12) (by decide +kernel), List.mem_of_getElem? (i := 264) (by decide +kernel), List.mem_of_getElem? (i := 265) (by decide +kernel)⟩
theorem lw_p5 : lw_okq (⟨"DirectoryServers", "fragmentAbove", "(LDirectoryServers$Fragment;)LDirectoryServers$Fragment;"⟩, 10) := ⟨⟨by decide +kernel, by decide +kernel⟩, List.mem_of_getElem? (i := 12) (by decide +kernel), List.mem_of_getElem? (i := 268) (by decide +kernel), List.mem_of_getElem? (i := 269) (by decide +kernel)⟩
theorem lw_p6 : lw_okq (⟨"DirectoryServers", "changeName", "(ILDirectoryServers$Directory;III)V"⟩, 10) := ⟨⟨by decide +kernel, by decide +kernel⟩, List.mem_of_getElem? (i := 12) (by decide +kernel), List.mem_of_getElem? (i := 289) (by decide +kernel), List.mem_of_getElem? (i := 290) (by decide +kernel)⟩
theorem lw_p7 : lw_okq (⟨"DirectoryServers", "endLeases", "(LDirectoryServers$Directory;II)V"⟩, 10) := ⟨⟨by decide +kernel, by decide +kernel⟩, List.mem_of_getElem? (i := 12) (by decide +kernel), List.mem_of_getElem? (i := 297) (by decide +kernel), List.mem_of_getElem? (i := 298) (by decide +kernel)⟩
theorem lw_p8 : lw_okq (⟨"DirectoryServers", "makeLink", "(ILDirectoryServers$Directory;II)V"⟩, 10) := ⟨⟨by decide +kernel, by decide +kernel⟩, List.mem_of_getElem? (i := 12) (by decide +kernel), List.mem_of_getElem? (i := 309) (by decide +kernel), List.mem_of_getElem? (i := 310) (by decide +kernel)⟩
theorem lw_p9 : lw_okq (⟨"DirectoryServers", "needFile", "(I)V"⟩, 10) := ⟨⟨by decide +kernel, by decide +kernel⟩, List.mem_of_getElem? (i := 12) (by decide +kernel), List.mem_of_getElem? (i := 320) (by decide +kernel), List.mem_of_getElem? (i := 321) (by decide +kernel)⟩
theorem lw_p10 : lw_okq (⟨"DirectoryServers", "countLinks", "(I)I"⟩, 10) := ⟨⟨by decide +kernel, by decide +kernel⟩, List.mem_of_getElem? (i := 12) (by decide +kernel), List.mem_of_getElem? (i := 325) (by decide +kernel), List.mem_of_getElem? (i := 326) (by decide +kernel)⟩
theorem lw_p11 : lw_okq (⟨"DirectoryServers", "needTaken", "(LDirectoryServers$Directory;I)V"⟩, 10) := ⟨⟨by decide +kernel, by decide +kernel⟩, List.mem_of_getElem? (i := 12) (by decide +kernel), List.mem_of_getElem? (i := 341) (by decide +kernel), List.mem_of_getElem? (i := 342) (by decide +kernel)⟩
theorem lw_p12 : lw_okq (⟨"DirectoryServers", "directoryMeant", "(I)LDirectoryServers$Directory;"⟩, 10) := ⟨⟨by decide +kernel, by decide +kernel⟩, List.mem_of_getElem? (i := 12) (by decide +kernel), List.mem_of_getElem? (i := 346) (by decide +kernel), List.mem_of_getElem? (i := 347) (by decide +kernel)⟩
theorem lw_p13 : lw_okq (⟨"DirectoryServers", "needRemovable", "(LDirectoryServers$Directory;)V"⟩, 10) := ⟨⟨by decide +kernel, by decide +kernel⟩, List.mem_of_getElem? (i := 12) (by decide +kernel), List.mem_of_getElem? (i := 350) (by decide +kernel), List.mem_of_getElem? (i := 351) (by decide +kernel)⟩
theorem lw_p14 : lw_okq (⟨"DirectoryServers", "dropDirectory", "(I)V"⟩, 10) := ⟨⟨by decide +kernel, by decide +kernel⟩, List.mem_of_getElem? (i := 12) (by decide +kernel), List.mem_of_getElem? (i := 360) (by decide +kernel), List.mem_of_getElem? (i := 361) (by decide +kernel)⟩
theorem lw_p15 : lw_okq (⟨"DirectoryServers$Directory", "putByHash", "(LDirectoryServers$Fragment;)V"⟩, 7) := ⟨⟨by decide +kernel, by decide +kernel⟩, List.mem_of_getElem? (i := 21) (by decide +kernel), List.mem_of_getElem? (i := 431) (by decide +kernel), List.mem_of_getElem? (i := 432) (by decide +kernel)⟩
def lw_privs_1 : List (MethodName × Nat) := [(⟨"java/lang/Throwable", "fillInStackTrace", "(I)Ljava/lang/Throwable;"⟩, 6), (⟨"DirectoryServers", "needDirectory", "(I)LDirectoryServers$Directory;"⟩, 10), (⟨"DirectoryServers", "directoryNumbered", "(I)LDirectoryServers$Directory;"⟩, 10), (⟨"DirectoryServers", "needFree", "(LDirectoryServers$Directory;I)V"⟩, 10), (⟨"DirectoryServers", "frozen", "(LDirectoryServers$Fragment;)Z"⟩, 10), (⟨"DirectoryServers", "fragmentAbove", "(LDirectoryServers$Fragment;)LDirectoryServers$Fragment;"⟩, 10), (⟨"DirectoryServers", "changeName", "(ILDirectoryServers$Directory;III)V"⟩, 10), (⟨"DirectoryServers", "endLeases", "(LDirectoryServers$Directory;II)V"⟩, 10), (⟨"DirectoryServers", "makeLink", "(ILDirectoryServers$Directory;II)V"⟩, 10), (⟨"DirectoryServers", "needFile", "(I)V"⟩, 10), (⟨"DirectoryServers", "countLinks", "(I)I"⟩, 10), (⟨"DirectoryServers", "needTaken", "(LDirectoryServers$Directory;I)V"⟩, 10), (⟨"DirectoryServers", "directoryMeant", "(I)LDirectoryServers$Directory;"⟩, 10), (⟨"DirectoryServers", "needRemovable", "(LDirectoryServers$Directory;)V"⟩, 10), (⟨"DirectoryServers", "dropDirectory", "(I)V"⟩, 10), (⟨"DirectoryServers$Directory", "putByHash", "(LDirectoryServers$Fragment;)V"⟩, 7)]
theorem lw_r1 : ∀ q ∈ lw_privs_1, lw_okq q := List.forall_mem_cons.mpr ⟨lw_p0, List.forall_mem_cons.mpr ⟨lw_p1, List.forall_mem_cons.mpr ⟨lw_p2, List.forall_mem_cons.mpr ⟨lw_p3, List.forall_mem_cons.mpr ⟨lw_p4, List.forall_mem_cons.mpr ⟨lw_p5, List.forall_mem_cons.mpr ⟨lw_p6, List.forall_mem_cons.mpr ⟨lw_p7, List.forall_mem_cons.mpr ⟨lw_p8, List.forall_mem_cons.mpr ⟨lw_p9, List.forall_mem_cons.mpr ⟨lw_p10, List.forall_mem_cons.mpr ⟨lw_p11, List.forall_mem_cons.mpr ⟨lw_p12, List.forall_mem_cons.mpr ⟨lw_p13, List.forall_mem_cons.mpr ⟨lw_p14, List.forall_mem_cons.mpr ⟨lw_p15, fun _ h => absurd h List.not_mem_nil⟩⟩⟩⟩⟩⟩⟩⟩⟩⟩⟩⟩⟩⟩⟩⟩
theorem lw_p16 : lw_okq (⟨"DirectoryServers", "serverOfFragment", "(LDirectoryServers$Fragment;)I"⟩, 10) := ⟨⟨by decide +kernel, by decide +kernel⟩, List.mem_of_getElem? (i := 12) (by decide +kernel), List.mem_of_getElem? (i := 471) (by decide +kernel), List.mem_of_getElem? (i := 472) (by decide +kernel)⟩
theorem lw_p17 : lw_okq (⟨"DirectoryServers", "loadOfServer", "(I)I"⟩, 10) := ⟨⟨by decide +kernel, by decide +kernel⟩, List.mem_of_getElem? (i := 12) (by decide +kernel), List.mem_of_getElem? (i := 493) (by decide +kernel), List.mem_of_getElem? (i := 494) (by decide +kernel)⟩
theorem lw_p18 : lw_okq (⟨"DirectoryServers", "fragmentInSlot", "(I)LDirectoryServers$Fragment;"⟩, 10) := ⟨⟨by decide +kernel, by decide +kernel⟩, List.mem_of_getElem? (i := 12) (by decide +kernel), List.mem_of_getElem? (i := 497) (by decide +kernel), List.mem_of_getElem? (i := 498) (by decide +kernel)⟩
theorem lw_p19 : lw_okq (⟨"DirectoryServers", "needNoMove", "()V"⟩, 10) := ⟨⟨by decide +kernel, by decide +kernel⟩, List.mem_of_getElem? (i := 12) (by decide +kernel), List.mem_of_getElem? (i := 509) (by decide +kernel), List.mem_of_getElem? (i := 510) (by decide +kernel)⟩
theorem lw_p20 : lw_okq (⟨"DirectoryServers", "startMove", "(LDirectoryServers$Fragment;I)V"⟩, 10) := ⟨⟨by decide +kernel, by decide +kernel⟩, List.mem_of_getElem? (i := 12) (by decide +kernel), List.mem_of_getElem? (i := 515) (by decide +kernel), List.mem_of_getElem? (i := 516) (by decide +kernel)⟩
theorem lw_p21 : lw_okq (⟨"DirectoryServers", "recallFrozenNames", "()V"⟩, 10) := ⟨⟨by decide +kernel, by decide +kernel⟩, List.mem_of_getElem? (i := 12) (by decide +kernel), List.mem_of_getElem? (i := 527) (by decide +kernel), List.mem_of_getElem? (i := 528) (by decide +kernel)⟩
theorem lw_p22 : lw_okq (⟨"DirectoryServers", "recallFrozenNamesOf", "(LDirectoryServers$Directory;)V"⟩, 10) := ⟨⟨by decide +kernel, by decide +kernel⟩, List.mem_of_getElem? (i := 12) (by decide +kernel), List.mem_of_getElem? (i := 531) (by decide +kernel), List.mem_of_getElem? (i := 532) (by decide +kernel)⟩
theorem lw_p23 : lw_okq (⟨"DirectoryServers", "heaviestFragment", "(II)LDirectoryServers$Fragment;"⟩, 10) := ⟨⟨by decide +kernel, by decide +kernel⟩, List.mem_of_getElem? (i := 12) (by decide +kernel), List.mem_of_getElem? (i := 556) (by decide +kernel), List.mem_of_getElem? (i := 557) (by decide +kernel)⟩
theorem lw_p24 : lw_okq (⟨"DirectoryServers", "halveLoads", "()V"⟩, 10) := ⟨⟨by decide +kernel, by decide +kernel⟩, List.mem_of_getElem? (i := 12) (by decide +kernel), List.mem_of_getElem? (i := 560) (by decide +kernel), List.mem_of_getElem? (i := 561) (by decide +kernel)⟩
theorem lw_p25 : lw_okq (⟨"DirectoryServersModel", "begins", "(II)V"⟩, 19) := ⟨⟨by decide +kernel, by decide +kernel⟩, List.mem_of_getElem? (i := 596) (by decide +kernel), List.mem_of_getElem? (i := 602) (by decide +kernel), List.mem_of_getElem? (i := 603) (by decide +kernel)⟩
theorem lw_p26 : lw_okq (⟨"DirectoryServersModel", "barsName", "(III)I"⟩, 19) := ⟨⟨by decide +kernel, by decide +kernel⟩, List.mem_of_getElem? (i := 596) (by decide +kernel), List.mem_of_getElem? (i := 673) (by decide +kernel), List.mem_of_getElem? (i := 674) (by decide +kernel)⟩
theorem lw_p27 : lw_okq (⟨"DirectoryServersModel", "isDirectory", "(I)Z"⟩, 19) := ⟨⟨by decide +kernel, by decide +kernel⟩, List.mem_of_getElem? (i := 596) (by decide +kernel), List.mem_of_getElem? (i := 686) (by decide +kernel), List.mem_of_getElem? (i := 687) (by decide +kernel)⟩
theorem lw_p28 : lw_okq (⟨"DirectoryServersModel", "runs", "(II)Z"⟩, 19) := ⟨⟨by decide +kernel, by decide +kernel⟩, List.mem_of_getElem? (i := 596) (by decide +kernel), List.mem_of_getElem? (i := 693) (by decide +kernel), List.mem_of_getElem? (i := 694) (by decide +kernel)⟩
theorem lw_p29 : lw_okq (⟨"DirectoryServersModel", "fragmentOfName", "(II)I"⟩, 19) := ⟨⟨by decide +kernel, by decide +kernel⟩, List.mem_of_getElem? (i := 596) (by decide +kernel), List.mem_of_getElem? (i := 697) (by decide +kernel), List.mem_of_getElem? (i := 698) (by decide +kernel)⟩
theorem lw_p30 : lw_okq (⟨"DirectoryServersModel", "fragment", "(II)I"⟩, 19) := ⟨⟨by decide +kernel, by decide +kernel⟩, List.mem_of_getElem? (i := 596) (by decide +kernel), List.mem_of_getElem? (i := 704) (by decide +kernel), List.mem_of_getElem? (i := 705) (by decide +kernel)⟩
theorem lw_p31 : lw_okq (⟨"DirectoryServersModel", "barsNew", "(III)I"⟩, 19) := ⟨⟨by decide +kernel, by decide +kernel⟩, List.mem_of_getElem? (i := 596) (by decide +kernel), List.mem_of_getElem? (i := 712) (by decide +kernel), List.mem_of_getElem? (i := 713) (by decide +kernel)⟩
def lw_privs_2 : List (MethodName × Nat) := [(⟨"DirectoryServers", "serverOfFragment", "(LDirectoryServers$Fragment;)I"⟩, 10), (⟨"DirectoryServers", "loadOfServer", "(I)I"⟩, 10), (⟨"DirectoryServers", "fragmentInSlot", "(I)LDirectoryServers$Fragment;"⟩, 10), (⟨"DirectoryServers", "needNoMove", "()V"⟩, 10), (⟨"DirectoryServers", "startMove", "(LDirectoryServers$Fragment;I)V"⟩, 10), (⟨"DirectoryServers", "recallFrozenNames", "()V"⟩, 10), (⟨"DirectoryServers", "recallFrozenNamesOf", "(LDirectoryServers$Directory;)V"⟩, 10), (⟨"DirectoryServers", "heaviestFragment", "(II)LDirectoryServers$Fragment;"⟩, 10), (⟨"DirectoryServers", "halveLoads", "()V"⟩, 10), (⟨"DirectoryServersModel", "begins", "(II)V"⟩, 19), (⟨"DirectoryServersModel", "barsName", "(III)I"⟩, 19), (⟨"DirectoryServersModel", "isDirectory", "(I)Z"⟩, 19), (⟨"DirectoryServersModel", "runs", "(II)Z"⟩, 19), (⟨"DirectoryServersModel", "fragmentOfName", "(II)I"⟩, 19), (⟨"DirectoryServersModel", "fragment", "(II)I"⟩, 19), (⟨"DirectoryServersModel", "barsNew", "(III)I"⟩, 19)]
theorem lw_r2 : ∀ q ∈ lw_privs_2, lw_okq q := List.forall_mem_cons.mpr ⟨lw_p16, List.forall_mem_cons.mpr ⟨lw_p17, List.forall_mem_cons.mpr ⟨lw_p18, List.forall_mem_cons.mpr ⟨lw_p19, List.forall_mem_cons.mpr ⟨lw_p20, List.forall_mem_cons.mpr ⟨lw_p21, List.forall_mem_cons.mpr ⟨lw_p22, List.forall_mem_cons.mpr ⟨lw_p23, List.forall_mem_cons.mpr ⟨lw_p24, List.forall_mem_cons.mpr ⟨lw_p25, List.forall_mem_cons.mpr ⟨lw_p26, List.forall_mem_cons.mpr ⟨lw_p27, List.forall_mem_cons.mpr ⟨lw_p28, List.forall_mem_cons.mpr ⟨lw_p29, List.forall_mem_cons.mpr ⟨lw_p30, List.forall_mem_cons.mpr ⟨lw_p31, fun _ h => absurd h List.not_mem_nil⟩⟩⟩⟩⟩⟩⟩⟩⟩⟩⟩⟩⟩⟩⟩⟩
theorem lw_p32 : lw_okq (⟨"DirectoryServersModel", "isFrozenName", "(II)Z"⟩, 19) := ⟨⟨by decide +kernel, by decide +kernel⟩, List.mem_of_getElem? (i := 596) (by decide +kernel), List.mem_of_getElem? (i := 716) (by decide +kernel), List.mem_of_getElem? (i := 717) (by decide +kernel)⟩
theorem lw_p33 : lw_okq (⟨"DirectoryServersModel", "frozen", "(I)Z"⟩, 19) := ⟨⟨by decide +kernel, by decide +kernel⟩, List.mem_of_getElem? (i := 596) (by decide +kernel), List.mem_of_getElem? (i := 720) (by decide +kernel), List.mem_of_getElem? (i := 721) (by decide +kernel)⟩
theorem lw_p34 : lw_okq (⟨"DirectoryServersModel", "inherited", "(I)I"⟩, 19) := ⟨⟨by decide +kernel, by decide +kernel⟩, List.mem_of_getElem? (i := 596) (by decide +kernel), List.mem_of_getElem? (i := 724) (by decide +kernel), List.mem_of_getElem? (i := 725) (by decide +kernel)⟩
theorem lw_p35 : lw_okq (⟨"DirectoryServersModel", "changes", "(III)V"⟩, 19) := ⟨⟨by decide +kernel, by decide +kernel⟩, List.mem_of_getElem? (i := 596) (by decide +kernel), List.mem_of_getElem? (i := 728) (by decide +kernel), List.mem_of_getElem? (i := 729) (by decide +kernel)⟩
theorem lw_p36 : lw_okq (⟨"DirectoryServersModel", "ends", "(II)V"⟩, 19) := ⟨⟨by decide +kernel, by decide +kernel⟩, List.mem_of_getElem? (i := 596) (by decide +kernel), List.mem_of_getElem? (i := 732) (by decide +kernel), List.mem_of_getElem? (i := 733) (by decide +kernel)⟩
theorem lw_p37 : lw_okq (⟨"DirectoryServersModel", "links", "(II)V"⟩, 19) := ⟨⟨by decide +kernel, by decide +kernel⟩, List.mem_of_getElem? (i := 596) (by decide +kernel), List.mem_of_getElem? (i := 740) (by decide +kernel), List.mem_of_getElem? (i := 741) (by decide +kernel)⟩
theorem lw_p38 : lw_okq (⟨"DirectoryServersModel", "isFile", "(I)Z"⟩, 19) := ⟨⟨by decide +kernel, by decide +kernel⟩, List.mem_of_getElem? (i := 596) (by decide +kernel), List.mem_of_getElem? (i := 748) (by decide +kernel), List.mem_of_getElem? (i := 749) (by decide +kernel)⟩
theorem lw_p39 : lw_okq (⟨"DirectoryServersModel", "countLinks", "(I)I"⟩, 19) := ⟨⟨by decide +kernel, by decide +kernel⟩, List.mem_of_getElem? (i := 596) (by decide +kernel), List.mem_of_getElem? (i := 752) (by decide +kernel), List.mem_of_getElem? (i := 753) (by decide +kernel)⟩
theorem lw_p40 : lw_okq (⟨"DirectoryServersModel", "isHeld", "(I)Z"⟩, 19) := ⟨⟨by decide +kernel, by decide +kernel⟩, List.mem_of_getElem? (i := 596) (by decide +kernel), List.mem_of_getElem? (i := 760) (by decide +kernel), List.mem_of_getElem? (i := 761) (by decide +kernel)⟩
theorem lw_p41 : lw_okq (⟨"DirectoryServersModel", "used", "(I)I"⟩, 19) := ⟨⟨by decide +kernel, by decide +kernel⟩, List.mem_of_getElem? (i := 596) (by decide +kernel), List.mem_of_getElem? (i := 764) (by decide +kernel), List.mem_of_getElem? (i := 765) (by decide +kernel)⟩
theorem lw_p42 : lw_okq (⟨"DirectoryServersModel", "isBelow", "(II)Z"⟩, 19) := ⟨⟨by decide +kernel, by decide +kernel⟩, List.mem_of_getElem? (i := 596) (by decide +kernel), List.mem_of_getElem? (i := 772) (by decide +kernel), List.mem_of_getElem? (i := 773) (by decide +kernel)⟩
theorem lw_p43 : lw_okq (⟨"DirectoryServersModel", "fails", "(I)I"⟩, 19) := ⟨⟨by decide +kernel, by decide +kernel⟩, List.mem_of_getElem? (i := 596) (by decide +kernel), List.mem_of_getElem? (i := 788) (by decide +kernel), List.mem_of_getElem? (i := 789) (by decide +kernel)⟩
theorem lw_p44 : lw_okq (⟨"DirectoryServersModel", "barsHash", "(II)I"⟩, 19) := ⟨⟨by decide +kernel, by decide +kernel⟩, List.mem_of_getElem? (i := 596) (by decide +kernel), List.mem_of_getElem? (i := 800) (by decide +kernel), List.mem_of_getElem? (i := 801) (by decide +kernel)⟩
theorem lw_p45 : lw_okq (⟨"DirectoryServersModel", "count", "(I)I"⟩, 19) := ⟨⟨by decide +kernel, by decide +kernel⟩, List.mem_of_getElem? (i := 596) (by decide +kernel), List.mem_of_getElem? (i := 807) (by decide +kernel), List.mem_of_getElem? (i := 808) (by decide +kernel)⟩
theorem lw_p46 : lw_okq (⟨"DirectoryServersModel", "barsPlain", "(II)I"⟩, 19) := ⟨⟨by decide +kernel, by decide +kernel⟩, List.mem_of_getElem? (i := 596) (by decide +kernel), List.mem_of_getElem? (i := 823) (by decide +kernel), List.mem_of_getElem? (i := 824) (by decide +kernel)⟩
theorem lw_p47 : lw_okq (⟨"DirectoryServersModel", "server", "(I)I"⟩, 19) := ⟨⟨by decide +kernel, by decide +kernel⟩, List.mem_of_getElem? (i := 596) (by decide +kernel), List.mem_of_getElem? (i := 827) (by decide +kernel), List.mem_of_getElem? (i := 828) (by decide +kernel)⟩
def lw_privs_3 : List (MethodName × Nat) := [(⟨"DirectoryServersModel", "isFrozenName", "(II)Z"⟩, 19), (⟨"DirectoryServersModel", "frozen", "(I)Z"⟩, 19), (⟨"DirectoryServersModel", "inherited", "(I)I"⟩, 19), (⟨"DirectoryServersModel", "changes", "(III)V"⟩, 19), (⟨"DirectoryServersModel", "ends", "(II)V"⟩, 19), (⟨"DirectoryServersModel", "links", "(II)V"⟩, 19), (⟨"DirectoryServersModel", "isFile", "(I)Z"⟩, 19), (⟨"DirectoryServersModel", "countLinks", "(I)I"⟩, 19), (⟨"DirectoryServersModel", "isHeld", "(I)Z"⟩, 19), (⟨"DirectoryServersModel", "used", "(I)I"⟩, 19), (⟨"DirectoryServersModel", "isBelow", "(II)Z"⟩, 19), (⟨"DirectoryServersModel", "fails", "(I)I"⟩, 19), (⟨"DirectoryServersModel", "barsHash", "(II)I"⟩, 19), (⟨"DirectoryServersModel", "count", "(I)I"⟩, 19), (⟨"DirectoryServersModel", "barsPlain", "(II)I"⟩, 19), (⟨"DirectoryServersModel", "server", "(I)I"⟩, 19)]
theorem lw_r3 : ∀ q ∈ lw_privs_3, lw_okq q := List.forall_mem_cons.mpr ⟨lw_p32, List.forall_mem_cons.mpr ⟨lw_p33, List.forall_mem_cons.mpr ⟨lw_p34, List.forall_mem_cons.mpr ⟨lw_p35, List.forall_mem_cons.mpr ⟨lw_p36, List.forall_mem_cons.mpr ⟨lw_p37, List.forall_mem_cons.mpr ⟨lw_p38, List.forall_mem_cons.mpr ⟨lw_p39, List.forall_mem_cons.mpr ⟨lw_p40, List.forall_mem_cons.mpr ⟨lw_p41, List.forall_mem_cons.mpr ⟨lw_p42, List.forall_mem_cons.mpr ⟨lw_p43, List.forall_mem_cons.mpr ⟨lw_p44, List.forall_mem_cons.mpr ⟨lw_p45, List.forall_mem_cons.mpr ⟨lw_p46, List.forall_mem_cons.mpr ⟨lw_p47, fun _ h => absurd h List.not_mem_nil⟩⟩⟩⟩⟩⟩⟩⟩⟩⟩⟩⟩⟩⟩⟩⟩
theorem lw_p48 : lw_okq (⟨"DirectoryServersModel", "loadOf", "(I)I"⟩, 19) := ⟨⟨by decide +kernel, by decide +kernel⟩, List.mem_of_getElem? (i := 596) (by decide +kernel), List.mem_of_getElem? (i := 839) (by decide +kernel), List.mem_of_getElem? (i := 840) (by decide +kernel)⟩
theorem lw_p49 : lw_okq (⟨"DirectoryServersModel", "moves", "(II)V"⟩, 19) := ⟨⟨by decide +kernel, by decide +kernel⟩, List.mem_of_getElem? (i := 596) (by decide +kernel), List.mem_of_getElem? (i := 847) (by decide +kernel), List.mem_of_getElem? (i := 848) (by decide +kernel)⟩
def lw_privs_4 : List (MethodName × Nat) := [(⟨"DirectoryServersModel", "loadOf", "(I)I"⟩, 19), (⟨"DirectoryServersModel", "moves", "(II)V"⟩, 19)]
theorem lw_r4 : ∀ q ∈ lw_privs_4, lw_okq q := List.forall_mem_cons.mpr ⟨lw_p48, List.forall_mem_cons.mpr ⟨lw_p49, fun _ h => absurd h List.not_mem_nil⟩⟩
def lw_privs : List (MethodName × Nat) := lw_privs_1 ++ (lw_privs_2 ++ (lw_privs_3 ++ (lw_privs_4)))
def lw_tbl : List Cond := k2_sels lw_privs ++ tables_1
theorem lw_privs_ok : ∀ q ∈ lw_privs, lw_okq q := by
  show ∀ q ∈ lw_privs_1 ++ (lw_privs_2 ++ (lw_privs_3 ++ (lw_privs_4))), lw_okq q
  exact List.forall_mem_append.mpr ⟨lw_r1, List.forall_mem_append.mpr ⟨lw_r2, List.forall_mem_append.mpr ⟨lw_r3, lw_r4⟩⟩⟩

/-! ===== BEGIN words of one list among another's, by their places ===== -/
theorem goodIn_r {big : List Cond} (ws : List Cond) (ps : List Nat) (hp : ws = ps.filterMap (fun i => big[i]?)) (h : ws.all goodWord = true) : GoodIn big ws := by
  intro w hw
  have h1 := List.all_eq_true.mp h w hw
  rw [hp] at hw
  obtain ⟨i, -, hi⟩ := List.mem_filterMap.mp hw
  have hm : w ∈ big := by first | exact List.mem_of_getElem? hi | exact List.getElem?_mem hi
  exact ⟨hm, good_of_word h1⟩
theorem goodIn_app {big a b : List Cond} (ha : GoodIn big a) (hb : GoodIn big b) : GoodIn big (a ++ b) := fun w h => (List.mem_append.mp h).elim (ha w) (hb w)
theorem goodIn_ca {big a b : List Cond} {c : Cond} (ha : GoodIn big (c :: a)) (hb : GoodIn big b) : GoodIn big (c :: (a ++ b)) := fun w h => (List.mem_cons.mp h).elim (fun e => ha w (List.mem_cons.mpr (Or.inl e))) (fun h => (List.mem_append.mp h).elim (fun h => ha w (List.mem_cons.mpr (Or.inr h))) (hb w))
theorem goodIn_sub {big ws : List Cond} (hm : ∀ w ∈ ws, w ∈ big) (h : ws.all goodWord = true) : GoodIn big ws := fun w hw => ⟨hm w hw, good_of_word (List.all_eq_true.mp h w hw)⟩
/-! ===== END ===== -/

/-! ===== BEGIN new T[n][m]: the outer array a place, the inner ones among the pooled ===== -/
/-- f, but v at every address of l -/
def vr_up {α : Type} (f : Nat → α) (l : List Nat) (v : α) : Nat → α := fun a => if a ∈ l then v else f a
theorem vr_up_in {α : Type} {f : Nat → α} {l : List Nat} {v : α} {a : Nat} (h : a ∈ l) : vr_up f l v a = v := if_pos h
theorem vr_up_ne {α : Type} {f : Nat → α} {l : List Nat} {v : α} {a : Nat} (h : a ∉ l) : vr_up f l v a = f a := if_neg h
theorem vr_rows {L l : List Nat} {f : Nat → va_E} {e : va_E} (h : ∀ a, a ∈ l → a ∉ L) : va_pl L f ++ l.map (fun a => (a, e)) = va_pl (L ++ l) (vr_up f l e) := by
  unfold va_pl
  rw [List.map_append]
  congr 1
  · apply List.map_congr_left
    intro a ha
    rw [vr_up_ne (fun q => h a q ha)]
  · apply List.map_congr_left
    intro a ha
    rw [vr_up_in ha]
theorem vr_lay {X rows : va_W} {x : Nat × va_E} {pl : va_W} {D : va_G} {cl : List vw_C} {H : Heap} (hP : va_P D cl (((X ++ pl) ++ [x]) ++ rows) H) : va_P D cl ((X ++ [x]) ++ (pl ++ rows)) H := by
  rw [List.append_assoc (X ++ pl)] at hP
  have h := va_P.swap hP
  rw [← List.append_assoc X] at h
  have h2 := va_P.swap h
  rw [List.append_assoc (X ++ [x])] at h2
  exact h2
theorem vr_layD {X rows : va_W} {x : Nat × va_E} {pl : va_W} {A : Nat → Prop} (hD : va_D A (((X ++ pl) ++ [x]) ++ rows)) : va_D A ((X ++ [x]) ++ (pl ++ rows)) := by
  rw [List.append_assoc (X ++ pl)] at hD
  have h := va_D.swap hD
  rw [← List.append_assoc X] at h
  have h2 := va_D.swap h
  rw [List.append_assoc (X ++ [x])] at h2
  exact h2
theorem vr_outer (c : ClassId) (N h0 : Nat) : ∀ i : Nat, Jvm.Free.Multi.outerC c N h0 i = arrV c N (fun j => va_rf (if j < i then some (h0 + 1 + j) else none))
  | 0 => by
    show ({ cls := c, slots := Array.replicate N .null, vm := .none } : Cell) = _
    rw [arrV_new]
    refine congrArg (arrV c N) (funext fun j => ?_)
    simp [va_rf]
  | i + 1 => by
    show (Jvm.Free.Multi.outerC c N h0 i).setSlot i (.ref (h0 + 1 + i)) = _
    rw [vr_outer c N h0 i, arrV_store]
    refine congrArg (arrV c N) (funext fun j => ?_)
    by_cases e : j = i
    · subst e
      simp [updV, va_rf]
    · by_cases h : j < i
      · simp [updV, e, h, Nat.lt_succ_of_lt h]
      · simp [updV, e, h, show ¬ j < i + 1 by omega]
section VGM
variable {p : Program} {l : Launch} {e : Env} {R : Room} {s : State} {m : MethodId} {args : Array Value} {below : List Frame} {meth : Method} {c : Code} {H : Heap} {locs : List Loc} {cells slots : Nat} {Q : State → Prop}
variable {cc : ByteArray} {pc : Nat} {ls : Array Slot} {rest : List Value} {D : va_G} {cl : List vw_C} {A : Nat → Prop} {a : Nat} {tys : List (ClassId × FieldType)} {ws : va_W} {H0 : Heap}
end VGM
/-! ===== END ===== -/

/-! ===== BEGIN exceptions that leave a method, and their catching by the caller (launches without stack traces) ===== -/
section VXA
/-! The laws vx_back, vx_callV, vx_callS, vx_callSW, vx_throw0, vx_throwS follow proofs of the library, with one case more: JvmDerived/Free/Laws.lean (Back.of_free), Shelf42/LK1.lean (callV, callS), Shelf/KitTraced.lean (throwNew0V, throwNewS). -/
/-- where a method has thrown q: the class by its name, the cell, what was written, the world -/
def vx_T (XC : String → State → State → Prop) (st : State) (q : Addr) (t : State) (mc ms : Nat) (free : Addr → Prop) : Prop :=
  ∃ (E : String) (ce : Cell) (L : List Loc), XC E st t ∧ t.heap[q]? = some ce ∧ ce.vm = .none ∧ st.vm.findClass E = some ce.cls ∧ st.WarmedH t.vm ∧ st.sameButNew ({ t with vm := st.vm } : State) L mc ms ∧ ∀ z ∈ L, free z.base
def vx_Q (Qc : Array Value → State → Outcome → State → Prop) (XC : String → State → State → Prop) (mc ms : Nat) (free : Addr → Prop) : Array Value → State → Outcome → State → Prop := fun a st o t =>
  (Qc a st o t ∧ ∃ L, FrameEnd st o t L mc ms ∧ ∀ q ∈ L, free q.base) ∨ ∃ q, o = .threw q ∧ vx_T XC st q t mc ms free
/-- a callee that returns or throws -/
def vx_Met (l : Launch) (y : MethodName) (ws : List Cond) (rm : Room) (Pc : Array Value → State → Prop) (Qc : Array Value → State → Outcome → State → Prop) (XC : String → State → State → Prop) (mc ms : Nat) (free : Addr → Prop) : Prop :=
  MetFree l y (headSpec ws rm) Pc (fun _ _ _ _ _ => True) (vx_Q Qc XC mc ms free)
def vx_Post (XC : String → State → State → Prop) (mc ms : Nat) (free : Addr → Prop) : Pt → Array Value → Addr → Pt → Prop := fun A a q B =>
  ∃ (g : JFrame) (mk : MethodId) (t : State) (L : List Loc) (E : String) (ce : Cell), B.U.heap = t.heap ∧ B.U.vm = t.vm ∧ XC E (A.U.calling g mk a) t ∧ t.heap[q]? = some ce ∧ ce.vm = .none ∧ A.U.vm.findClass E = some ce.cls ∧ B.locs = A.locs ++ L ∧ (∀ z ∈ L, free z.base) ∧ B.cells = A.cells + mc ∧ B.slots = A.slots + ms
def vx_Back (l : Launch) (R : Room) (p : Program) (e : Env) (below : List Frame) (s : State) (sargs : Array Value) (y : MethodName) (len W9 : Nat)
    (Pre : Pt → Array Value → Prop) (Post : Pt → Array Value → Option Value → Pt → Prop) (PostX : Pt → Array Value → Addr → Pt → Prop) : Prop :=
  ∀ (m : MethodId) (meth : Method) (c : Code) (A : Pt) (g : JFrame) (ig : Instr) (mk : MethodId) (a : Array Value),
    Stand p l e R s m sargs below meth c A.U A.locs A.cells A.slots → g.method = m → g.locals.size = c.maxLocals → decode c.code g.pc = .ok (ig, len) →
    2 * g.monitorRoom + (g.stack.map fun v => v.category).sum ≤ W9 → A.U.methodNamed? y = some mk → Pre A a →
    (∃ (v : Option Value) (B : Pt), Stand p l e R s m sargs below meth c B.U B.locs B.cells B.slots ∧ Post A a v B ∧
      Steps p.tables e below (doInvoke e (A.U.setTop g) [] mk a).1 (B.U.setTop { g with pc := g.pc + len, stack := v.toList ++ g.stack })) ∨
    (∃ (q : Addr) (B : Pt), Stand p l e R s m sargs below meth c B.U B.locs B.cells B.slots ∧ PostX A a q B ∧
      Steps p.tables e below (doInvoke e (A.U.setTop g) [] mk a).1 ((B.U.setTop g).pushFrame (.throwing q)))
section Payer
variable {l : Launch} {R : Room} {p : Program} {e : Env} {below : List Frame} {s : State} {sargs : Array Value} {y : MethodName} {len W9 : Nat}
theorem vx_back {ws : List Cond} {rm : Room} {Pc : Array Value → State → Prop} {Qc : Array Value → State → Outcome → State → Prop} {XC : String → State → State → Prop} {mc ms : Nat} {free : Addr → Prop} {bytes : ByteArray} {maxL : Nat} {ret : Option FieldType}
    (hM : vx_Met l y ws rm Pc Qc XC mc ms free) (hblind : FrameBlind Pc) (hrc : rm.cells = mc) (hrs : rm.slots = ms)
    (hframes : rm.frames + 1 ≤ R.frames) (hlocals : W9 + (maxL + 11) + rm.locals ≤ R.locals)
    (hws : ∀ w ∈ ws, ∀ a' U, s.WarmedH U.vm → w.before a' U = true) (hcode : Cond.code y bytes maxL ret ∈ ws) (hinit : ∀ a' U, s.WarmedH U.vm → (Cond.initialized y.cls).before a' U = true) :
    vx_Back l R p e below s sargs y len W9 (PreOf R mc ms Pc) (PostOf Qc mc ms free) (vx_Post XC mc ms free) := by
  intro m meth c A g ig mk a X hg hsize hdg hW hn hp
  have h1 : (headSpec ws rm).pre.before a A.U = true := atoms_intro fun w hw => hws w hw _ _ X.warmed
  have h2 : (Cond.code y bytes maxL ret).before a A.U = true := hws _ hcode _ _ X.warmed
  have h3 : (Cond.initialized y.cls).before a A.U = true := hinit _ _ X.warmed
  have h4 : A.cells + (headSpec ws rm).room.cells ≤ R.cells := by rw [show (headSpec ws rm).room.cells = mc from hrc]; exact hp.1
  have h5 : A.slots + (headSpec ws rm).room.slots ≤ R.slots := by rw [show (headSpec ws rm).room.slots = ms from hrs]; exact hp.2.1
  have hPc : Pc a (A.U.calling g mk a) := hblind _ _ _ _ hp.2.2
  obtain ⟨U, Ls, c0, s0⟩ := A
  dsimp only [Pt.U, Pt.locs, Pt.cells, Pt.slots] at h1 h2 h3 h4 h5 X hn hPc ⊢
  obtain ⟨methY, cY, hmY, hcY, -, hlY, -, -, -, -⟩ := Cond.code_spec hn h2
  obtain ⟨kY, hkY, -⟩ := className_of_methodNamed hn
  have hinitY : kY.init = .initialized := Cond.initialized_spec (findClass_of_methodNamed hn) hkY h3
  have h : At U g.method c below := by rw [hg]; exact X.here
  have hlocals9 : W9 + (maxL + 11) + (headSpec ws rm).room.locals ≤ R.locals := hlocals
  have happ : (headSpec ws rm).appliesLoose y e.platform (U.calling g mk a) = true :=
    Spec.appliesLoose_calling (g := g) h hdg hn hkY hinitY
      (X.room_calling (g := g) (R' := (headSpec ws rm).room) hsize hmY hcY hframes (by rw [hlY]; omega) h4 h5) h1
  obtain ⟨mid, hmid⟩ := h.above
  have hfr : (U.setTop g).frames = (.java g :: mid) ++ below := by rw [State.frames_setTop' g h.top, hmid]; rfl
  obtain ⟨o, s₂, hsteps, -, hend, hq⟩ := Steps.callFree hM p X.admits X.cas X.clock (acts := []) hfr happ hPc trivial
  have hq' : vx_Q Qc XC mc ms free a (U.calling g mk a) o s₂ := hq
  rw [State.frames_setTop' g h.top] at hend
  obtain ⟨g₀, hg0⟩ := Option.isSome_iff_exists.mp h.top
  obtain ⟨r, hr⟩ := State.topJava?_eq_some.mp hg0
  have hr' : (({ U with heap := s₂.heap, slotsUsed := s₂.slotsUsed } : State).setVm s₂.vm).frames = .java g₀ :: r := hr
  rcases hq' with ⟨hqc, L, hfe, hL⟩ | ⟨q, rfl, E, ce, L, hx, hce, hcv, hcl, hW₂, hsm, hL⟩
  · obtain ⟨⟨v, rfl⟩, hW₂, e2, q2, q3, q4, q5, q6⟩ := id hfe
    have e3 : s₂ = ({ (U.calling g mk a).setFrames s₂.frames with heap := s₂.heap, slotsUsed := s₂.slotsUsed } : State).setVm s₂.vm := by
      have : s₂ = ({ s₂ with vm := (U.calling g mk a).vm } : State).setVm s₂.vm := rfl
      rw [e2] at this
      exact this
    obtain ⟨c₂, i₂, len₂, hc₂, hd₂, hf₂⟩ := hend
    have hW' : U.WarmedH s₂.vm := hW₂
    have hcc : c₂ = c := by
      have h1 : s₂.code? g.method = U.code? g.method := by
        rw [State.code?_eq, State.code?_eq, hW'.alike.method?]
      exact Option.some.inj (hc₂.symm.trans (h1.trans h.code))
    subst hcc
    have hlen : len₂ = len := by rw [hdg] at hd₂; cases hd₂; rfl
    subst hlen
    have hs₂ : s₂ = (({ U with heap := s₂.heap, slotsUsed := s₂.slotsUsed } : State).setVm s₂.vm).setTop { g with pc := g.pc + len₂, stack := v.toList ++ g.stack } := by
      refine e3.trans ?_
      rw [hf₂, State.calling_eq h.top, State.setFrames_setFrames, State.setTop_of_frames _ hr', hr]
      rfl
    have hsame : U.sameButNew ({ U with heap := s₂.heap, slotsUsed := s₂.slotsUsed } : State) L mc ms := by
      refine ⟨?_, q2, q3, q4, q5, q6⟩
      obtain ⟨t, ht, -⟩ := State.frames_cons hr
      show ({ U with heap := s₂.heap, slotsUsed := s₂.slotsUsed } : State) = { U.setFrames U.frames with heap := s₂.heap, slotsUsed := s₂.slotsUsed }
      rw [State.setFrames_self ht]
    subst hg
    refine Or.inl ⟨v, ⟨(({ U with heap := s₂.heap, slotsUsed := s₂.slotsUsed } : State).setVm s₂.vm), Ls ++ L, c0 + mc, s0 + ms⟩,
      ⟨X.admits, X.cas, X.clock, X.frames, X.room, X.hears, X.method, X.code, (X.here.setHeapUsed s₂.heap s₂.slotsUsed).setVm hW'.alike, X.tail, State.WarmedH.trans X.warmed hW', X.limits, X.bytes, X.same.trans (hsame.setVm s.vm)⟩,
      ⟨g, mk, s₂, L, rfl, rfl, hqc, rfl, hL, rfl, rfl⟩, ?_⟩
    show Steps p.tables e below _ ((({ U with heap := s₂.heap, slotsUsed := s₂.slotsUsed } : State).setVm s₂.vm).setTop { g with pc := g.pc + len₂, stack := v.toList ++ g.stack })
    rw [← hs₂]
    exact hsteps
  · obtain ⟨e2, q2, q3, q4, q5, q6⟩ := id hsm
    have e3 : s₂ = ({ (U.calling g mk a).setFrames s₂.frames with heap := s₂.heap, slotsUsed := s₂.slotsUsed } : State).setVm s₂.vm := by
      have : s₂ = ({ s₂ with vm := (U.calling g mk a).vm } : State).setVm s₂.vm := rfl
      rw [e2] at this
      exact this
    have hf₂ : s₂.frames = .throwing q :: .java g :: U.frames.tail := hend
    have hW' : U.WarmedH s₂.vm := hW₂
    have hs₂ : s₂ = ((({ U with heap := s₂.heap, slotsUsed := s₂.slotsUsed } : State).setVm s₂.vm).setTop g).pushFrame (.throwing q) := by
      refine e3.trans ?_
      rw [hf₂, State.calling_eq h.top, State.setFrames_setFrames, State.pushFrame, State.frames_setTop _ hr', State.setTop_of_frames _ hr', State.setFrames_setFrames, hr]
      rfl
    have hsame : U.sameButNew ({ U with heap := s₂.heap, slotsUsed := s₂.slotsUsed } : State) L mc ms := by
      refine ⟨?_, q2, q3, q4, q5, q6⟩
      obtain ⟨t, ht, -⟩ := State.frames_cons hr
      show ({ U with heap := s₂.heap, slotsUsed := s₂.slotsUsed } : State) = { U.setFrames U.frames with heap := s₂.heap, slotsUsed := s₂.slotsUsed }
      rw [State.setFrames_self ht]
    subst hg
    refine Or.inr ⟨q, ⟨(({ U with heap := s₂.heap, slotsUsed := s₂.slotsUsed } : State).setVm s₂.vm), Ls ++ L, c0 + mc, s0 + ms⟩,
      ⟨X.admits, X.cas, X.clock, X.frames, X.room, X.hears, X.method, X.code, (X.here.setHeapUsed s₂.heap s₂.slotsUsed).setVm hW'.alike, X.tail, State.WarmedH.trans X.warmed hW', X.limits, X.bytes, X.same.trans (hsame.setVm s.vm)⟩,
      ⟨g, mk, s₂, L, E, ce, rfl, rfl, hx, hce, hcv, hcl, rfl, hL, rfl, rfl⟩, ?_⟩
    show Steps p.tables e below _ (((({ U with heap := s₂.heap, slotsUsed := s₂.slotsUsed } : State).setVm s₂.vm).setTop g).pushFrame (.throwing q))
    rw [← hs₂]
    exact hsteps
end Payer
section Calls
variable {p : Program} {l : Launch} {e : Env} {R : Room} {s : State} {m : MethodId} {args : Array Value} {below : List Frame} {meth : Method} {c : Code} {T : State} {locs : List Loc} {cells slots : Nat}
theorem vx_callV (X : Stand p l e R s m args below meth c T locs cells slots) (hexec : p.tables.exec = Jvm.exec) {own C : String} {index : Nat} {y : MethodName} {bytes : ByteArray} {maxL : Nat} {ret : Option FieldType}
    (hown : s.vm.findClass own = some m.cls) (hlink : (Cond.methodLink own index y).before args s = true) (hinst : (Cond.instanceMethod y).before args s = true) (hsel : (Cond.selects C y y).before args s = true)
    (hcode : (Cond.code y bytes maxL ret).before args s = true) (hy : y.cls ≠ "java/lang/invoke/MethodHandle" ∧ y.cls ≠ "java/lang/invoke/VarHandle")
    {W9 : Nat} {Pre : Pt → Array Value → Prop} {Post : Pt → Array Value → Option Value → Pt → Prop} {PostX : Pt → Array Value → Addr → Pt → Prop} (hK : vx_Back l R p e below s args y 3 W9 Pre Post PostX)
    {b : Addr} {cellB : Cell} (hcell : T.heap[b]? = some cellB) (hobj : cellB.vm.isStatics = false) (hcls : s.vm.findClass C = some cellB.cls)
    {g : JFrame} (hg : g.method = m) (hsize : g.locals.size = c.maxLocals) {argsL rest : List Value} (hlen : ∀ sig, parseMethodDescriptor y.desc = some sig → argsL.length = sig.parameters.length)
    (hstack : g.stack = argsL.reverse ++ .ref b :: rest) (hW : 2 * g.monitorRoom + (rest.map fun v => v.category).sum ≤ W9) (hdg : decode c.code g.pc = .ok (.invokevirtual index, 3))
    (hpre : ∀ vm₁, s.WarmedH vm₁ → Pre ⟨T.setVm vm₁, locs, cells, slots⟩ (Value.ref b :: argsL).toArray) :
    (∃ (v : Option Value) (vm₁ : Vm) (B : Pt), s.WarmedH vm₁ ∧ Stand p l e R s m args below meth c B.U B.locs B.cells B.slots ∧ Post ⟨T.setVm vm₁, locs, cells, slots⟩ (Value.ref b :: argsL).toArray v B ∧
      ∀ target, Steps p.tables e below (B.U.setTop { g with pc := g.pc + 3, stack := v.toList ++ rest }) target → Steps p.tables e below (T.setTop g) target) ∨
    (∃ (q : Addr) (vm₁ : Vm) (B : Pt), s.WarmedH vm₁ ∧ Stand p l e R s m args below meth c B.U B.locs B.cells B.slots ∧ PostX ⟨T.setVm vm₁, locs, cells, slots⟩ (Value.ref b :: argsL).toArray q B ∧
      Steps p.tables e below (T.setTop g) ((B.U.setTop { g with stack := rest }).pushFrame (.throwing q))) := by
  obtain ⟨mk, methM, hnamed, hmethM, hstM, habM⟩ := Cond.instanceMethod_spec hinst
  obtain ⟨methM', cM, hmethM', -, -, -, -, -, -, hsigM⟩ := Cond.code_spec hnamed hcode
  cases hmethM.symm.trans hmethM'
  obtain ⟨c2, r2, m2, q1, q2, q3, q4, kP, hkP, hkPi⟩ := Cond.selects_spec hsel
  cases hcls.symm.trans q1
  cases (State.methodFound?_of_named hnamed hy).symm.trans q2
  cases hnamed.symm.trans q3
  have hselP : selectMethod e.platform s.vm cellB.cls mk = .method mk := by rw [Launch.admits_selectMethod X.admits]; exact q4
  obtain ⟨vm₁, X₁, hstep₁⟩ := X.invokevirtual hexec hown hlink hnamed hmethM hstM hkP hkPi hy (a := b) (cell := cellB) hcell
    (fun z h => by rw [h] at hobj; cases hobj) hselP hmethM habM hkP hkPi (g := g) hg (argsL := argsL) (rest := rest) (hlen _ hsigM) hstack hdg
  rcases hK m meth c ⟨T.setVm vm₁, locs, cells, slots⟩ { g with stack := rest } (.invokevirtual index) mk (Value.ref b :: argsL).toArray X₁ hg hsize hdg hW (X₁.named hnamed) (hpre vm₁ X₁.warmed) with ⟨v, B, X', hpost, hsteps⟩ | ⟨q, B, X', hpost, hsteps⟩
  · exact Or.inl ⟨v, vm₁, B, X₁.warmed, X', hpost, fun target h => hstep₁ _ fun acts => by rw [doInvoke_state]; exact hsteps.trans h⟩
  · exact Or.inr ⟨q, vm₁, B, X₁.warmed, X', hpost, hstep₁ _ fun acts => by rw [doInvoke_state]; exact hsteps⟩
theorem vx_callS (X : Stand p l e R s m args below meth c T locs cells slots) (hexec : p.tables.exec = Jvm.exec) {own : String} {index : Nat} {y : MethodName} {bytes : ByteArray} {maxL : Nat} {ret : Option FieldType}
    (hown : s.vm.findClass own = some m.cls) (hlink : (Cond.methodLink own index y).before args s = true) (hstat : (Cond.static y).before args s = true) (hinit : (Cond.initialized y.cls).before args s = true)
    (hcode : (Cond.code y bytes maxL ret).before args s = true) (hy : y.cls ≠ "java/lang/invoke/MethodHandle" ∧ y.cls ≠ "java/lang/invoke/VarHandle")
    {W9 : Nat} {Pre : Pt → Array Value → Prop} {Post : Pt → Array Value → Option Value → Pt → Prop} {PostX : Pt → Array Value → Addr → Pt → Prop} (hK : vx_Back l R p e below s args y 3 W9 Pre Post PostX)
    {g : JFrame} (hg : g.method = m) (hsize : g.locals.size = c.maxLocals) {argsL rest : List Value} (hlen : ∀ sig, parseMethodDescriptor y.desc = some sig → argsL.length = sig.parameters.length)
    (hstack : g.stack = argsL.reverse ++ rest) (hW : 2 * g.monitorRoom + (rest.map fun v => v.category).sum ≤ W9) (hdg : decode c.code g.pc = .ok (.invokestatic index, 3))
    (hpre : ∀ vm₁, s.WarmedH vm₁ → Pre ⟨T.setVm vm₁, locs, cells, slots⟩ argsL.toArray) :
    (∃ (v : Option Value) (vm₁ : Vm) (B : Pt), s.WarmedH vm₁ ∧ Stand p l e R s m args below meth c B.U B.locs B.cells B.slots ∧ Post ⟨T.setVm vm₁, locs, cells, slots⟩ argsL.toArray v B ∧
      ∀ target, Steps p.tables e below (B.U.setTop { g with pc := g.pc + 3, stack := v.toList ++ rest }) target → Steps p.tables e below (T.setTop g) target) ∨
    (∃ (q : Addr) (vm₁ : Vm) (B : Pt), s.WarmedH vm₁ ∧ Stand p l e R s m args below meth c B.U B.locs B.cells B.slots ∧ PostX ⟨T.setVm vm₁, locs, cells, slots⟩ argsL.toArray q B ∧
      Steps p.tables e below (T.setTop g) ((B.U.setTop { g with stack := rest }).pushFrame (.throwing q))) := by
  obtain ⟨mk, hnamed⟩ := Cond.code_named hcode
  obtain ⟨methM, cM, hmethM, -, -, -, -, -, -, hsigM⟩ := Cond.code_spec hnamed hcode
  have hstatic : methM.isStatic = true := Cond.static_spec hnamed hmethM hstat
  obtain ⟨kP, hkP, -⟩ := className_of_methodNamed hnamed
  have hinitP : kP.init = .initialized := Cond.initialized_spec (findClass_of_methodNamed hnamed) hkP hinit
  obtain ⟨vm₁, X₁, hstep₁⟩ := X.invokestatic hexec hown hlink hnamed hmethM hstatic hkP hinitP hy (g := g) hg (argsL := argsL) (rest := rest) (hlen _ hsigM) hstack hdg
  rcases hK m meth c ⟨T.setVm vm₁, locs, cells, slots⟩ { g with stack := rest } (.invokestatic index) mk argsL.toArray X₁ hg hsize hdg hW (X₁.named hnamed) (hpre vm₁ X₁.warmed) with ⟨v, B, X', hpost, hsteps⟩ | ⟨q, B, X', hpost, hsteps⟩
  · exact Or.inl ⟨v, vm₁, B, X₁.warmed, X', hpost, fun target h => hstep₁ _ fun acts => by rw [doInvoke_state]; exact hsteps.trans h⟩
  · exact Or.inr ⟨q, vm₁, B, X₁.warmed, X', hpost, hstep₁ _ fun acts => by rw [doInvoke_state]; exact hsteps⟩
end Calls
theorem vx_cls {s : State} {T : State} {vm₁ : Vm} {E : String} {k : ClassId} (hW : s.WarmedH vm₁) (h : (T.setVm vm₁).vm.findClass E = some k) : s.vm.findClass E = some k := by
  have h1 : vm₁.findClass E = some k := h
  rw [hW.alike.findClass] at h1
  exact h1
/-- the method's frame g, with q thrown over it -/
def vx_W (p : Program) (l : Launch) (e : Env) (R : Room) (s : State) (m : MethodId) (args : Array Value) (below : List Frame) (meth : Method) (c : Code) (H : Heap) (locs : List Loc) (cells slots : Nat) (Q : State → Prop) (g : JFrame) (q : Addr) : Prop :=
  ∀ T : State, T.heap = H → Stand p l e R s m args below meth c T locs cells slots → ∃ t, Steps p.tables e below ((T.setTop g).pushFrame (.throwing q)) t ∧ Q t
def vx_Run (p : Program) (l : Launch) (e : Env) (R : Room) (s : State) (m : MethodId) (args : Array Value) (below : List Frame) (meth : Method) (c : Code) (H : Heap) (locs : List Loc) (cells slots mc ms : Nat) (g : JFrame) (rest : List Value) (Qa : State → Outcome → State → Prop) (XC : String → State → State → Prop) (free : Addr → Prop) : Prop :=
  ∀ T : State, T.heap = H → Stand p l e R s m args below meth c T locs cells slots →
    (∃ (v : Option Value) (st₀ t T' : State) (L : List Loc), st₀.heap = H ∧ Stand p l e R s m args below meth c T' (locs ++ L) (cells + mc) (slots + ms) ∧ (∀ q ∈ L, free q.base) ∧ T'.heap = t.heap ∧ T'.vm = t.vm ∧ Qa st₀ (.returned v) t ∧
      Goes p e below T g T' { g with pc := g.pc + 3, stack := v.toList ++ rest }) ∨
    (∃ (q : Addr) (st₀ t T' : State) (L : List Loc) (E : String) (ce : Cell), st₀.heap = H ∧ Stand p l e R s m args below meth c T' (locs ++ L) (cells + mc) (slots + ms) ∧ (∀ z ∈ L, free z.base) ∧ T'.heap = t.heap ∧ T'.vm = t.vm ∧ XC E st₀ t ∧ t.heap[q]? = some ce ∧ ce.vm = .none ∧ s.vm.findClass E = some ce.cls ∧
      Steps p.tables e below (T.setTop g) ((T'.setTop { g with stack := rest }).pushFrame (.throwing q)))
def vx_X {S : Type} (px : S → Prop) (B : String → S → State → Prop) (A : Nat → Prop) : String → State → State → Prop := fun E st t => ∃ u : S, px u ∧ B E u t ∧ va_F A st t
section Runs
variable {p : Program} {l : Launch} {e : Env} {R : Room} {s : State} {m : MethodId} {args : Array Value} {below : List Frame} {meth : Method} {c : Code} {H : Heap} {locs : List Loc} {cells slots : Nat}
variable {y : MethodName} {bytes cc : ByteArray} {maxL nL mc ms n index : Nat} {ret : Option FieldType} {ws : List Cond} {rm : Room} {Pc : Array Value → State → Prop} {Qc : Array Value → State → Outcome → State → Prop} {XC : String → State → State → Prop} {free : Addr → Prop} {Ts : List Cond} {own C : String} {b : Addr} {As rest : List Value} {g : JFrame}
theorem vx_callBack (cb : CallB R s args own index y bytes maxL ret ws rm mc ms n) (hM : vx_Met l y ws rm Pc Qc XC mc ms free) (hbl : FrameBlind Pc) : vx_Back l R p e below s args y 3 8 (PreOf R mc ms Pc) (PostOf Qc mc ms free) (vx_Post XC mc ms free) := by
  obtain ⟨hrc, hrs, hfr, hlo, hws, hcw, -, hini, -⟩ := cb
  exact vx_back (bytes := bytes) (maxL := maxL) (ret := ret) hM hbl hrc hrs hfr hlo hws hcw (fun a' U hW => word_at hW (Or.inl (by first | rfl | simp [Cond.onTables, Cond.keeps, Cond.steady])) hini)
theorem vx_runV (S : CallFix p m c cc nL s args Ts own) (hM : vx_Met l y ws rm Pc Qc XC mc ms free) (cw : CallW R s args own C index y bytes maxL ret ws rm mc ms n) (hp : PreV s H C b Pc As)
    (hg : g.method = m) (hn : As.length = n) (hsize : g.locals.size = nL) (hstack : g.stack = As.reverse ++ .ref b :: rest) (hW : 2 * g.monitorRoom + (rest.map fun v => v.category).sum ≤ 8) (hdg : decode cc g.pc = .ok (.invokevirtual index, 3)) (hf : cells + mc ≤ R.cells ∧ slots + ms ≤ R.slots) :
    vx_Run p l e R s m args below meth c H locs cells slots mc ms g rest (Qc (Value.ref b :: As).toArray) XC free := by
  have hK : vx_Back l R p e below s args y 3 8 (PreOf R mc ms Pc) (PostOf Qc mc ms free) (vx_Post XC mc ms free) := vx_callBack cw.1 hM hp.1
  obtain ⟨⟨-, -, -, -, -, -, hcode, -, hy, hlen, hl⟩, hin, hse⟩ := cw
  obtain ⟨hx, hb, hml, ho, -⟩ := S
  obtain ⟨-, ⟨cellB, hcB, hoB, hclB⟩, hPc⟩ := hp
  intro T hT X
  rcases vx_callV X hx (C := C) (bytes := bytes) (maxL := maxL) (ret := ret) ho hl hin hse hcode hy hK (by rw [hT]; exact hcB) hoB hclB hg (hsize.trans hml.symm) (argsL := As) (rest := rest) (fun sig h => hn.trans (hlen sig h)) hstack hW (by rw [hb]; exact hdg)
    (fun vm₁ hW₁ => ⟨hf.1, hf.2, hPc (T.setVm vm₁) hT hW₁⟩) with ⟨v, vm₁, ⟨U', l2, c2, s2⟩, hW₁, X', ⟨g', mk, t, L, e1, e2, hq, h1, hL, h2, h3⟩, st⟩ | ⟨q, vm₁, ⟨U', l2, c2, s2⟩, hW₁, X', ⟨g', mk, t, L, E, ce, e1, e2, hq, hce, hcv, hcl, h1, hL, h2, h3⟩, st⟩
  · dsimp only [Pt.U, Pt.locs, Pt.cells, Pt.slots] at X' e1 e2 h1 h2 h3 st
    subst h1; subst h2; subst h3
    exact Or.inl ⟨v, (T.setVm vm₁).calling g' mk (Value.ref b :: As).toArray, t, U', L, hT, X', hL, e1, e2, hq, st⟩
  · dsimp only [Pt.U, Pt.locs, Pt.cells, Pt.slots] at X' e1 e2 h1 h2 h3 st hcl
    subst h1; subst h2; subst h3
    exact Or.inr ⟨q, (T.setVm vm₁).calling g' mk (Value.ref b :: As).toArray, t, U', L, E, ce, hT, X', hL, e1, e2, hq, hce, hcv, vx_cls hW₁ hcl, st⟩
theorem vx_runS (S : CallFix p m c cc nL s args Ts own) (hM : vx_Met l y ws rm Pc Qc XC mc ms free) (cw : CallB R s args own index y bytes maxL ret ws rm mc ms n ∧ (Cond.static y).before args s = true) (hp : PreS s H Pc As)
    (hg : g.method = m) (hn : As.length = n) (hsize : g.locals.size = nL) (hstack : g.stack = As.reverse ++ rest) (hW : 2 * g.monitorRoom + (rest.map fun v => v.category).sum ≤ 8) (hdg : decode cc g.pc = .ok (.invokestatic index, 3)) (hf : cells + mc ≤ R.cells ∧ slots + ms ≤ R.slots) :
    vx_Run p l e R s m args below meth c H locs cells slots mc ms g rest (Qc As.toArray) XC free := by
  have hK : vx_Back l R p e below s args y 3 8 (PreOf R mc ms Pc) (PostOf Qc mc ms free) (vx_Post XC mc ms free) := vx_callBack cw.1 hM hp.1
  obtain ⟨⟨-, -, -, -, -, -, hcode, hini, hy, hlen, hl⟩, hstt⟩ := cw
  obtain ⟨hx, hb, hml, ho, -⟩ := S
  intro T hT X
  rcases vx_callS X hx (bytes := bytes) (maxL := maxL) (ret := ret) ho hl hstt hini hcode hy hK hg (hsize.trans hml.symm) (argsL := As) (rest := rest) (fun sig h => hn.trans (hlen sig h)) hstack hW (by rw [hb]; exact hdg)
    (fun vm₁ hW₁ => ⟨hf.1, hf.2, hp.2 (T.setVm vm₁) hT hW₁⟩) with ⟨v, vm₁, ⟨U', l2, c2, s2⟩, hW₁, X', ⟨g', mk, t, L, e1, e2, hq, h1, hL, h2, h3⟩, st⟩ | ⟨q, vm₁, ⟨U', l2, c2, s2⟩, hW₁, X', ⟨g', mk, t, L, E, ce, e1, e2, hq, hce, hcv, hcl, h1, hL, h2, h3⟩, st⟩
  · dsimp only [Pt.U, Pt.locs, Pt.cells, Pt.slots] at X' e1 e2 h1 h2 h3 st
    subst h1; subst h2; subst h3
    exact Or.inl ⟨v, (T.setVm vm₁).calling g' mk As.toArray, t, U', L, hT, X', hL, e1, e2, hq, st⟩
  · dsimp only [Pt.U, Pt.locs, Pt.cells, Pt.slots] at X' e1 e2 h1 h2 h3 st hcl
    subst h1; subst h2; subst h3
    exact Or.inr ⟨q, (T.setVm vm₁).calling g' mk As.toArray, t, U', L, E, ce, hT, X', hL, e1, e2, hq, hce, hcv, vx_cls hW₁ hcl, st⟩
end Runs
section Rows
variable {p : Program} {l : Launch} {e : Env} {R : Room} {s : State} {m : MethodId} {args : Array Value} {below : List Frame} {meth : Method} {c : Code} {H : Heap} {locs : List Loc} {cells slots : Nat} {Q : State → Prop}
variable {mc ms : Nat} {free : Addr → Prop} {A0 A1 : Nat → Prop} {H0 : Heap} {a : Array Value} {pc : Nat} {ls : Array Slot} {st0 rest : List Value}
theorem vx_keep {st₀ t T' : State} {L : List Loc} (h0 : st₀.heap = H) (e1 : T'.heap = t.heap) (hS : va_S A0 H0 H locs) (hA : ∀ q, q < H.size → A1 q → A0 q) (hf : ∀ q, free q → A0 q) (hL : ∀ q ∈ L, free q.base) (hF : va_F A1 st₀ t) :
    H.size ≤ T'.heap.size ∧ (∀ q : Nat, q < H.size → ¬ A1 q → T'.heap[q]? = H[q]?) ∧ va_S A0 H0 T'.heap (locs ++ L) := by
  obtain ⟨hz, hk⟩ := hF
  rw [h0] at hz hk
  exact ⟨by rw [e1]; exact hz, fun q h1 h2 => by rw [e1]; exact hk q h1 h2,
    ⟨Nat.le_trans hS.1 (by rw [e1]; exact hz), fun q h1 h2 => by rw [e1, hk q (Nat.lt_of_lt_of_le h1 hS.1) (fun z => h2 (hA q (Nat.lt_of_lt_of_le h1 hS.1) z))]; exact hS.2.1 q h1 h2, fun q hq => by
      rcases List.mem_append.mp hq with h | h
      · exact hS.2.2 q h
      · exact hf _ (hL q h)⟩⟩
theorem vx_calli {S SX : Type} {post : Int32 → S → Prop} {px : SX → Prop} {B : S → State → Prop} {BX : String → SX → State → Prop} {AX : Nat → Prop} (hr : vx_Run p l e R s m args below meth c H locs cells slots mc ms (F0 m pc ls st0) rest (va_Qi post B A1 a) (vx_X px BX AX) free) (hS : va_S A0 H0 H locs) (hA : ∀ q, q < H.size → A1 q → A0 q) (hf : ∀ q, free q → A0 q) (hAX : ∀ q, q < H.size → AX q → A0 q)
    (kx : ∀ (E : String) (ce : Cell) (q9 : Addr) (u : SX) (t : State) (H1 : Heap) (locs1 : List Loc), t.heap = H1 → s.vm.Alike t.vm → px u → BX E u t → H.size ≤ H1.size → (∀ q : Nat, q < H.size → ¬ AX q → H1[q]? = H[q]?) → va_S A0 H0 H1 locs1 → H1[q9]? = some ce → ce.vm = .none → s.vm.findClass E = some ce.cls → vx_W p l e R s m args below meth c H1 locs1 (cells + mc) (slots + ms) Q (F0 m pc ls rest) q9)
    (kk : ∀ (r : Int32) (u : S) (t : State) (H1 : Heap) (locs1 : List Loc), t.heap = H1 → s.vm.Alike t.vm → post r u → B u t → H.size ≤ H1.size → (∀ q : Nat, q < H.size → ¬ A1 q → H1[q]? = H[q]?) → va_S A0 H0 H1 locs1 → W p l e R s m args below meth c H1 locs1 (cells + mc) (slots + ms) Q (F0 m (pc + 3) ls (.int r :: rest))) : W p l e R s m args below meth c H locs cells slots Q (F0 m pc ls st0) := by
  intro T hT X
  rcases hr T hT X with ⟨v, st₀, t, T', L, h0, X', hL, e1, e2, ⟨⟨r, u, hv, hp, hb⟩, hF⟩, st⟩ | ⟨q, st₀, t, T', L, E, ce, h0, X', hL, e1, e2, ⟨u, hp, hb, hF⟩, hce, hcv, hcl, st⟩
  · cases hv
    obtain ⟨k1, k2, k3⟩ := vx_keep h0 e1 hS hA hf hL hF
    obtain ⟨t2, a1, b1⟩ := kk r u t T'.heap (locs ++ L) e1.symm (by rw [← e2]; exact X'.warmed.alike) hp hb k1 k2 k3 T' rfl X'
    exact ⟨t2, st t2 a1, b1⟩
  · obtain ⟨k1, k2, k3⟩ := vx_keep h0 e1 hS hAX hf hL hF
    obtain ⟨t2, a1, b1⟩ := kx E ce q u t T'.heap (locs ++ L) e1.symm (by rw [← e2]; exact X'.warmed.alike) hp hb k1 k2 k3 (by rw [e1]; exact hce) hcv hcl T' rfl X'
    exact ⟨t2, st.trans a1, b1⟩
theorem vx_calll {S SX : Type} {post : Int64 → S → Prop} {px : SX → Prop} {B : S → State → Prop} {BX : String → SX → State → Prop} {AX : Nat → Prop} (hr : vx_Run p l e R s m args below meth c H locs cells slots mc ms (F0 m pc ls st0) rest (va_Ql post B A1 a) (vx_X px BX AX) free) (hS : va_S A0 H0 H locs) (hA : ∀ q, q < H.size → A1 q → A0 q) (hf : ∀ q, free q → A0 q) (hAX : ∀ q, q < H.size → AX q → A0 q)
    (kx : ∀ (E : String) (ce : Cell) (q9 : Addr) (u : SX) (t : State) (H1 : Heap) (locs1 : List Loc), t.heap = H1 → s.vm.Alike t.vm → px u → BX E u t → H.size ≤ H1.size → (∀ q : Nat, q < H.size → ¬ AX q → H1[q]? = H[q]?) → va_S A0 H0 H1 locs1 → H1[q9]? = some ce → ce.vm = .none → s.vm.findClass E = some ce.cls → vx_W p l e R s m args below meth c H1 locs1 (cells + mc) (slots + ms) Q (F0 m pc ls rest) q9)
    (kk : ∀ (r : Int64) (u : S) (t : State) (H1 : Heap) (locs1 : List Loc), t.heap = H1 → s.vm.Alike t.vm → post r u → B u t → H.size ≤ H1.size → (∀ q : Nat, q < H.size → ¬ A1 q → H1[q]? = H[q]?) → va_S A0 H0 H1 locs1 → W p l e R s m args below meth c H1 locs1 (cells + mc) (slots + ms) Q (F0 m (pc + 3) ls (.long r :: rest))) : W p l e R s m args below meth c H locs cells slots Q (F0 m pc ls st0) := by
  intro T hT X
  rcases hr T hT X with ⟨v, st₀, t, T', L, h0, X', hL, e1, e2, ⟨⟨r, u, hv, hp, hb⟩, hF⟩, st⟩ | ⟨q, st₀, t, T', L, E, ce, h0, X', hL, e1, e2, ⟨u, hp, hb, hF⟩, hce, hcv, hcl, st⟩
  · cases hv
    obtain ⟨k1, k2, k3⟩ := vx_keep h0 e1 hS hA hf hL hF
    obtain ⟨t2, a1, b1⟩ := kk r u t T'.heap (locs ++ L) e1.symm (by rw [← e2]; exact X'.warmed.alike) hp hb k1 k2 k3 T' rfl X'
    exact ⟨t2, st t2 a1, b1⟩
  · obtain ⟨k1, k2, k3⟩ := vx_keep h0 e1 hS hAX hf hL hF
    obtain ⟨t2, a1, b1⟩ := kx E ce q u t T'.heap (locs ++ L) e1.symm (by rw [← e2]; exact X'.warmed.alike) hp hb k1 k2 k3 (by rw [e1]; exact hce) hcv hcl T' rfl X'
    exact ⟨t2, st.trans a1, b1⟩
theorem vx_callf {S SX : Type} {post : UInt32 → S → Prop} {px : SX → Prop} {B : S → State → Prop} {BX : String → SX → State → Prop} {AX : Nat → Prop} (hr : vx_Run p l e R s m args below meth c H locs cells slots mc ms (F0 m pc ls st0) rest (va_Qf post B A1 a) (vx_X px BX AX) free) (hS : va_S A0 H0 H locs) (hA : ∀ q, q < H.size → A1 q → A0 q) (hf : ∀ q, free q → A0 q) (hAX : ∀ q, q < H.size → AX q → A0 q)
    (kx : ∀ (E : String) (ce : Cell) (q9 : Addr) (u : SX) (t : State) (H1 : Heap) (locs1 : List Loc), t.heap = H1 → s.vm.Alike t.vm → px u → BX E u t → H.size ≤ H1.size → (∀ q : Nat, q < H.size → ¬ AX q → H1[q]? = H[q]?) → va_S A0 H0 H1 locs1 → H1[q9]? = some ce → ce.vm = .none → s.vm.findClass E = some ce.cls → vx_W p l e R s m args below meth c H1 locs1 (cells + mc) (slots + ms) Q (F0 m pc ls rest) q9)
    (kk : ∀ (r : UInt32) (u : S) (t : State) (H1 : Heap) (locs1 : List Loc), t.heap = H1 → s.vm.Alike t.vm → post r u → B u t → H.size ≤ H1.size → (∀ q : Nat, q < H.size → ¬ A1 q → H1[q]? = H[q]?) → va_S A0 H0 H1 locs1 → W p l e R s m args below meth c H1 locs1 (cells + mc) (slots + ms) Q (F0 m (pc + 3) ls (.float r :: rest))) : W p l e R s m args below meth c H locs cells slots Q (F0 m pc ls st0) := by
  intro T hT X
  rcases hr T hT X with ⟨v, st₀, t, T', L, h0, X', hL, e1, e2, ⟨⟨r, u, hv, hp, hb⟩, hF⟩, st⟩ | ⟨q, st₀, t, T', L, E, ce, h0, X', hL, e1, e2, ⟨u, hp, hb, hF⟩, hce, hcv, hcl, st⟩
  · cases hv
    obtain ⟨k1, k2, k3⟩ := vx_keep h0 e1 hS hA hf hL hF
    obtain ⟨t2, a1, b1⟩ := kk r u t T'.heap (locs ++ L) e1.symm (by rw [← e2]; exact X'.warmed.alike) hp hb k1 k2 k3 T' rfl X'
    exact ⟨t2, st t2 a1, b1⟩
  · obtain ⟨k1, k2, k3⟩ := vx_keep h0 e1 hS hAX hf hL hF
    obtain ⟨t2, a1, b1⟩ := kx E ce q u t T'.heap (locs ++ L) e1.symm (by rw [← e2]; exact X'.warmed.alike) hp hb k1 k2 k3 (by rw [e1]; exact hce) hcv hcl T' rfl X'
    exact ⟨t2, st.trans a1, b1⟩
theorem vx_calld {S SX : Type} {post : UInt64 → S → Prop} {px : SX → Prop} {B : S → State → Prop} {BX : String → SX → State → Prop} {AX : Nat → Prop} (hr : vx_Run p l e R s m args below meth c H locs cells slots mc ms (F0 m pc ls st0) rest (va_Qd post B A1 a) (vx_X px BX AX) free) (hS : va_S A0 H0 H locs) (hA : ∀ q, q < H.size → A1 q → A0 q) (hf : ∀ q, free q → A0 q) (hAX : ∀ q, q < H.size → AX q → A0 q)
    (kx : ∀ (E : String) (ce : Cell) (q9 : Addr) (u : SX) (t : State) (H1 : Heap) (locs1 : List Loc), t.heap = H1 → s.vm.Alike t.vm → px u → BX E u t → H.size ≤ H1.size → (∀ q : Nat, q < H.size → ¬ AX q → H1[q]? = H[q]?) → va_S A0 H0 H1 locs1 → H1[q9]? = some ce → ce.vm = .none → s.vm.findClass E = some ce.cls → vx_W p l e R s m args below meth c H1 locs1 (cells + mc) (slots + ms) Q (F0 m pc ls rest) q9)
    (kk : ∀ (r : UInt64) (u : S) (t : State) (H1 : Heap) (locs1 : List Loc), t.heap = H1 → s.vm.Alike t.vm → post r u → B u t → H.size ≤ H1.size → (∀ q : Nat, q < H.size → ¬ A1 q → H1[q]? = H[q]?) → va_S A0 H0 H1 locs1 → W p l e R s m args below meth c H1 locs1 (cells + mc) (slots + ms) Q (F0 m (pc + 3) ls (.double r :: rest))) : W p l e R s m args below meth c H locs cells slots Q (F0 m pc ls st0) := by
  intro T hT X
  rcases hr T hT X with ⟨v, st₀, t, T', L, h0, X', hL, e1, e2, ⟨⟨r, u, hv, hp, hb⟩, hF⟩, st⟩ | ⟨q, st₀, t, T', L, E, ce, h0, X', hL, e1, e2, ⟨u, hp, hb, hF⟩, hce, hcv, hcl, st⟩
  · cases hv
    obtain ⟨k1, k2, k3⟩ := vx_keep h0 e1 hS hA hf hL hF
    obtain ⟨t2, a1, b1⟩ := kk r u t T'.heap (locs ++ L) e1.symm (by rw [← e2]; exact X'.warmed.alike) hp hb k1 k2 k3 T' rfl X'
    exact ⟨t2, st t2 a1, b1⟩
  · obtain ⟨k1, k2, k3⟩ := vx_keep h0 e1 hS hAX hf hL hF
    obtain ⟨t2, a1, b1⟩ := kx E ce q u t T'.heap (locs ++ L) e1.symm (by rw [← e2]; exact X'.warmed.alike) hp hb k1 k2 k3 (by rw [e1]; exact hce) hcv hcl T' rfl X'
    exact ⟨t2, st.trans a1, b1⟩
theorem vx_callv {S SX : Type} {post : S → Prop} {px : SX → Prop} {B : S → State → Prop} {BX : String → SX → State → Prop} {AX : Nat → Prop} (hr : vx_Run p l e R s m args below meth c H locs cells slots mc ms (F0 m pc ls st0) rest (va_Qv post B A1 a) (vx_X px BX AX) free) (hS : va_S A0 H0 H locs) (hA : ∀ q, q < H.size → A1 q → A0 q) (hf : ∀ q, free q → A0 q) (hAX : ∀ q, q < H.size → AX q → A0 q)
    (kx : ∀ (E : String) (ce : Cell) (q9 : Addr) (u : SX) (t : State) (H1 : Heap) (locs1 : List Loc), t.heap = H1 → s.vm.Alike t.vm → px u → BX E u t → H.size ≤ H1.size → (∀ q : Nat, q < H.size → ¬ AX q → H1[q]? = H[q]?) → va_S A0 H0 H1 locs1 → H1[q9]? = some ce → ce.vm = .none → s.vm.findClass E = some ce.cls → vx_W p l e R s m args below meth c H1 locs1 (cells + mc) (slots + ms) Q (F0 m pc ls rest) q9)
    (kk : ∀ (u : S) (t : State) (H1 : Heap) (locs1 : List Loc), t.heap = H1 → s.vm.Alike t.vm → post u → B u t → H.size ≤ H1.size → (∀ q : Nat, q < H.size → ¬ A1 q → H1[q]? = H[q]?) → va_S A0 H0 H1 locs1 → W p l e R s m args below meth c H1 locs1 (cells + mc) (slots + ms) Q (F0 m (pc + 3) ls (rest))) : W p l e R s m args below meth c H locs cells slots Q (F0 m pc ls st0) := by
  intro T hT X
  rcases hr T hT X with ⟨v, st₀, t, T', L, h0, X', hL, e1, e2, ⟨⟨u, hv, hp, hb⟩, hF⟩, st⟩ | ⟨q, st₀, t, T', L, E, ce, h0, X', hL, e1, e2, ⟨u, hp, hb, hF⟩, hce, hcv, hcl, st⟩
  · cases hv
    obtain ⟨k1, k2, k3⟩ := vx_keep h0 e1 hS hA hf hL hF
    obtain ⟨t2, a1, b1⟩ := kk u t T'.heap (locs ++ L) e1.symm (by rw [← e2]; exact X'.warmed.alike) hp hb k1 k2 k3 T' rfl X'
    exact ⟨t2, st t2 a1, b1⟩
  · obtain ⟨k1, k2, k3⟩ := vx_keep h0 e1 hS hAX hf hL hF
    obtain ⟨t2, a1, b1⟩ := kx E ce q u t T'.heap (locs ++ L) e1.symm (by rw [← e2]; exact X'.warmed.alike) hp hb k1 k2 k3 (by rw [e1]; exact hce) hcv hcl T' rfl X'
    exact ⟨t2, st.trans a1, b1⟩
/-- caught by the row x of this method's table; the rows ahead don't take it -/
theorem vx_catch {own name : String} {E : String} {ce : Cell} {q : Addr} (hown : s.vm.findClass own = some m.cls) (pre : List ExceptionTableEntry) (x : ExceptionTableEntry) (suf : List ExceptionTableEntry) (hsplit : c.exceptionTable.toList = pre ++ x :: suf)
    (hpass : ∀ z ∈ pre, covers z pc = false ∨ (z.catchType ≠ 0 ∧ ∃ nm : String, (Cond.classLink own z.catchType nm).before args s = true ∧ va_Nc E nm s)) (hx : covers x pc = true) (h0 : x.catchType ≠ 0)
    (hlink : (Cond.classLink own x.catchType name).before args s = true) (hcast : (Cond.castable E name).before args s = true) (hcell : H[q]? = some ce) (hv : ce.vm = .none) (hcl : s.vm.findClass E = some ce.cls)
    (kk : W p l e R s m args below meth c H locs cells slots Q (F0 m x.handlerPc ls [.ref q])) : vx_W p l e R s m args below meth c H locs cells slots Q (F0 m pc ls rest) q := by
  intro T hT X
  have hpl : e.platform.magicAccessors = ({} : Platform).magicAccessors := by rw [X.admits.platform]
  obtain ⟨c3, c4, hc3, hc4, hasg⟩ := Cond.castable_spec hcast
  cases Option.some.inj (hc3.symm.trans hcl)
  obtain ⟨c5, hc5, hcl5⟩ := Cond.classLink_spec hown hlink e.platform hpl
  cases Option.some.inj (hc4.symm.trans hc5)
  obtain ⟨vm', X', st⟩ := X.thenCaughtThrough q (g := F0 m pc ls rest) rfl (Steps.refl _) (by rw [hT]; exact hcell) (by rw [hv]; rfl) (by obtain ⟨k9, h9, -⟩ := Vm.findClass_spec hcl; exact ⟨k9, h9⟩) pre x suf hsplit
    (fun z hz => by
      rcases hpass z hz with h | ⟨hz0, nm, hl1, hn1⟩
      · exact Or.inl h
      · obtain ⟨c6, hc6, hcl6⟩ := Cond.classLink_spec hown hl1 e.platform hpl
        obtain ⟨a8, b8, h1, h2, h3⟩ := hn1
        cases Option.some.inj (h1.symm.trans hcl)
        cases Option.some.inj (h2.symm.trans hc6)
        exact Or.inr ⟨hz0, _, hcl6, h3⟩) hx (Or.inr ⟨h0, c4, hcl5, hasg⟩)
  obtain ⟨t, a1, b1⟩ := kk (T.setVm vm') hT X'
  exact ⟨t, st.trans a1, b1⟩
end Rows
section Ends
variable {p : Program} {l : Launch} {e : Env} {R : Room} {s : State} {m : MethodId} {args : Array Value} {below : List Frame} {meth : Method} {c : Code} {H : Heap} {locs : List Loc} {cells slots : Nat} {Q : State → Prop}
variable {mc ms : Nat} {free : Addr → Prop} {A0 A1 : Nat → Prop} {H0 : Heap} {a : Array Value} {ls : Array Slot} {st0 rest : List Value}
variable {Qc : Array Value → State → Outcome → State → Prop} {XC : String → State → State → Prop}
/-- what a body that may throw owes at its end -/
def vx_MQ (below : List Frame) (Qc : Array Value → State → Outcome → State → Prop) (XC : String → State → State → Prop) (a : Array Value) (s : State) (mc ms : Nat) (free : Addr → Prop) : State → Prop := fun t =>
  ∃ o, t.status = .running ∧ Ended t below o ∧ vx_Q Qc XC mc ms free a s o t
theorem vx_ret {g : JFrame} {mc ms : Nat} (k : W p l e R s m args below meth c H locs cells slots (MQ below Qc args s mc ms free) g) : W p l e R s m args below meth c H locs cells slots (vx_MQ below Qc XC args s mc ms free) g := by
  intro T hT X
  obtain ⟨t, a1, o, b1, b2, b3, b4⟩ := k T hT X
  exact ⟨t, a1, o, b1, b2, Or.inl ⟨b3, b4⟩⟩
/-- not caught here: it goes on to the caller -/
theorem vx_widen {g : JFrame} {q : Addr} {k n : Nat} (h1 : cells ≤ k) (h2 : slots ≤ n) (kk : vx_W p l e R s m args below meth c H locs k n Q g q) : vx_W p l e R s m args below meth c H locs cells slots Q g q := fun T hT X => kk T hT (stand_widen X h1 h2)
theorem vx_out {pc : Nat} {E : String} {ce : Cell} {q : Addr} {mc ms : Nat} (hout : ∀ x ∈ c.exceptionTable.toList, covers x pc = false) (hlocks : meth.locks = false) (hcell : H[q]? = some ce) (hv : ce.vm = .none) (hcl : s.vm.findClass E = some ce.cls)
    (hx : ∀ t : State, t.heap = H → s.vm.Alike t.vm → XC E s t) (hf : ∀ z ∈ locs, free z.base) (hc : cells ≤ mc) (hs : slots ≤ ms) :
    vx_W p l e R s m args below meth c H locs cells slots (vx_MQ below Qc XC args s mc ms free) (F0 m pc ls rest) q := by
  intro T hT X
  obtain ⟨st1, hrun, hend, hW, hsm⟩ := X.leaveThrown q (g := F0 m pc ls rest) rfl rfl rfl hout hlocks
  have hcell9 : (T.setFrames (.throwing q :: below)).heap[q]? = some ce := by
    show T.heap[q]? = some ce
    rw [hT]; exact hcell
  exact ⟨_, st1, .threw q, hrun, hend, Or.inr ⟨q, rfl, E, ce, locs, hx _ hT hW.alike, hcell9, hv, hcl, hW, hsm.mono hc hs, hf⟩⟩
theorem vx_frame {U : State} {k n : Nat} (h : s.sameButNew ({ U with vm := s.vm } : State) locs k n) : s.heap.size ≤ U.heap.size ∧ ∀ q : Nat, q < s.heap.size → (∀ z ∈ locs, z.base ≠ q) → U.heap[q]? = s.heap[q]? := by
  obtain ⟨-, h2, -, -, -, h6⟩ := h
  refine ⟨h2, fun q hq hz => ?_⟩
  obtain ⟨c9, e1, e2, e3, e4⟩ := h6 q _ (Array.getElem?_eq_getElem hq)
  have hs : c9.slots = (s.heap[q]).slots := Array.ext_getElem? fun i => e4 i fun hm => hz _ hm rfl
  have h9 : c9 = s.heap[q] := by
    rw [hs] at e2
    exact e2
  have e5 : U.heap[q]? = some c9 := e1
  rw [e5, h9, Array.getElem?_eq_getElem hq]
/-- the words of a throw but the four that speak of the heap -/
def vx_no (w : Cond) : Bool := decide (w ≠ .isRef (.static Bundle.tN "UNASSIGNED_STACK" Bundle.steD)) && decide (w ≠ .isRef (.static Bundle.tN "SUPPRESSED_SENTINEL" Bundle.listD)) && decide (w ≠ .laysStatic Bundle.tN "UNASSIGNED_STACK" Bundle.steD) && decide (w ≠ .laysStatic Bundle.tN "SUPPRESSED_SENTINEL" Bundle.listD)
def vx_at0 (own : String) (ic : Nat) (X : String) (names : List String) : List Cond := (Bundle.ownAtoms0 own ic X names).filter vx_no
def vx_atS (own : String) (ic : Nat) (X : String) (names : List String) : List Cond := (Bundle.ownAtoms own ic X names).filter vx_no
/-- a word that the tables alone decide, or a good one -/
def vx_ot (w : Cond) : Bool := w.onTables || goodWord w
theorem vx_ot_at {args a' : Array Value} {s U : State} {w : Cond} (hW : s.WarmedH U.vm) (hvm : s.vm = U.vm) (hg : vx_ot w = true) (h : w.before args s = true) : w.before a' U = true := by
  simp only [vx_ot, Bool.or_eq_true] at hg
  rcases hg with hg | hg
  · exact va_tabs hg hvm h
  · exact word_at hW (good_of_word hg) h
/-- a list's words: the good ones out of the method's own list, the others by premises of their own -/
theorem vx_hat {args : Array Value} {s : State} {L B : List Cond} (h1 : ∀ w ∈ L.filter goodWord, w.before args s = true) (h2 : ∀ w ∈ L.filter (fun w => !goodWord w), w ∈ B) (h3 : ∀ w ∈ B, w.before args s = true) : ∀ w ∈ L, w.before args s = true := by
  intro w hw
  by_cases g : goodWord w = true
  · exact h1 w (List.mem_filter.mpr ⟨hw, g⟩)
  · refine h3 w (h2 w (List.mem_filter.mpr ⟨hw, ?_⟩))
    show (!goodWord w) = true
    cases hgw : goodWord w
    · rfl
    · exact absurd hgw g
theorem vx_c {args : Array Value} {s : State} {w : Cond} {B : List Cond} (h : w.before args s = true) (t : ∀ w ∈ B, w.before args s = true) : ∀ w' ∈ w :: B, w'.before args s = true := fun w' h' => (List.mem_cons.mp h').elim (fun e => by rw [e]; exact h) (t w')
theorem vx_n {args : Array Value} {s : State} : ∀ w ∈ ([] : List Cond), w.before args s = true := fun _ h => nomatch h
theorem vx_own {args : Array Value} {s : State} {L : List Cond} (h1 : ∀ w ∈ L.filter vx_no, w.before args s = true)
    (hU : (Cond.isRef (.static Bundle.tN "UNASSIGNED_STACK" Bundle.steD)).before args s = true) (hN : (Cond.isRef (.static Bundle.tN "SUPPRESSED_SENTINEL" Bundle.listD)).before args s = true)
    (lU : (Cond.laysStatic Bundle.tN "UNASSIGNED_STACK" Bundle.steD).before args s = true) (lN : (Cond.laysStatic Bundle.tN "SUPPRESSED_SENTINEL" Bundle.listD).before args s = true) : ∀ w ∈ L, w.before args s = true := by
  intro w hw
  by_cases e1 : w = .isRef (.static Bundle.tN "UNASSIGNED_STACK" Bundle.steD)
  · rw [e1]; exact hU
  · by_cases e2 : w = .isRef (.static Bundle.tN "SUPPRESSED_SENTINEL" Bundle.listD)
    · rw [e2]; exact hN
    · by_cases e3 : w = .laysStatic Bundle.tN "UNASSIGNED_STACK" Bundle.steD
      · rw [e3]; exact lU
      · by_cases e4 : w = .laysStatic Bundle.tN "SUPPRESSED_SENTINEL" Bundle.listD
        · rw [e4]; exact lN
        · exact h1 w (List.mem_filter.mpr ⟨hw, by unfold vx_no; rw [decide_eq_true e1, decide_eq_true e2, decide_eq_true e3, decide_eq_true e4]; rfl⟩)
/-- where a static field lies, its class's statics cell in H -/
def vx_L (C n d : String) (A : Nat → Prop) (U : State) (H : Heap) : Prop := ∃ (c : ClassId) (k : Class) (i : Nat) (f : Field) (a : Nat) (cell : Cell), U.vm.findClass C = some c ∧ U.fieldFound? C n d = some (c, k, i, f) ∧ f.isStatic = true ∧ k.statics = some a ∧ H[a]? = some cell ∧ cell.vm.isStatics = true ∧ cell.cls = c ∧ f.slot < cell.slots.size ∧ k.staticTypes[f.slot]? = some f.type ∧ ¬ A a
theorem vx_L.moved {C n d : String} {A : Nat → Prop} {u U : State} {H : Heap} (hvm : u.vm.Alike U.vm) (h : vx_L C n d A u H) : vx_L C n d A U H := by
  obtain ⟨c, k, i, f, a, cell, h1, h2, h3, h4, h5, h6, h7, h8, h9, h10⟩ := h
  obtain ⟨k', hi', he⟩ := State.fieldFound?_setVm hvm h2
  exact ⟨c, k', i, f, a, cell, by rw [hvm.findClass]; exact h1, hi', h3, by rw [he]; exact h4, h5, h6, h7, h8, by rw [he]; exact h9, h10⟩
theorem vx_L.kept {C n d : String} {A : Nat → Prop} {U : State} {H H1 : Heap} (h : vx_L C n d A U H) (hq : ∀ a : Nat, a < H.size → ¬ A a → H1[a]? = H[a]?) : vx_L C n d A U H1 := by
  obtain ⟨c, k, i, f, a, cell, h1, h2, h3, h4, h5, h6, h7, h8, h9, h10⟩ := h
  exact ⟨c, k, i, f, a, cell, h1, h2, h3, h4, by rw [hq a (Array.getElem?_eq_some_iff.mp h5).1 h10]; exact h5, h6, h7, h8, h9, h10⟩
theorem vx_L.narrow {C n d : String} {A B : Nat → Prop} {U : State} {H : Heap} (h : vx_L C n d A U H) (hAB : ∀ q, B q → A q) : vx_L C n d B U H := by
  obtain ⟨c, k, i, f, a, cell, h1, h2, h3, h4, h5, h6, h7, h8, h9, h10⟩ := h
  exact ⟨c, k, i, f, a, cell, h1, h2, h3, h4, h5, h6, h7, h8, h9, fun z => h10 (hAB _ z)⟩
theorem vx_L.word {C n d : String} {A : Nat → Prop} {s : State} {args : Array Value} (h : vx_L C n d A s s.heap) : (Cond.laysStatic C n d).before args s = true := by
  obtain ⟨c, k, i, f, a, cell, h1, h2, h3, h4, h5, h6, h7, h8, h9, -⟩ := h
  show (Cond.laysStatic C n d).holds args s none s [] = true
  exact Cond.laysStatic_of h1 h2 h3 h4 h5 h6 h7 h8 h9
/-- .. and what it holds: null or some reference -/
def vx_Zq (C n d : String) (A : Nat → Prop) (U : State) (H : Heap) : Prop := va_Zq C n d A U H ∧ vx_L C n d A U H
theorem vx_Zq.moved {C n d : String} {A : Nat → Prop} {u U : State} {H : Heap} (hvm : u.vm.Alike U.vm) (h : vx_Zq C n d A u H) : vx_Zq C n d A U H := ⟨va_Zq.moved hvm h.1, vx_L.moved hvm h.2⟩
theorem vx_Zq.kept {C n d : String} {A : Nat → Prop} {U : State} {H H1 : Heap} (h : vx_Zq C n d A U H) (hq : ∀ a : Nat, a < H.size → ¬ A a → H1[a]? = H[a]?) : vx_Zq C n d A U H1 := ⟨va_Zq.kept h.1 hq, vx_L.kept h.2 hq⟩
theorem vx_Zq.narrow {C n d : String} {A B : Nat → Prop} {U : State} {H : Heap} (h : vx_Zq C n d A U H) (hAB : ∀ q, B q → A q) : vx_Zq C n d B U H := ⟨va_Zq.narrow h.1 hAB, vx_L.narrow h.2 hAB⟩
theorem vx_Zqof {args : Array Value} {s : State} {C n d : String} {A : Nat → Prop} (hl : (Cond.laysStatic C n d).before args s = true) (hini : (Cond.initialized C).before args s = true) (h : (Cond.isRef (.static C n d)).before args s = true) (hA : ∀ a : Nat, a < s.heap.size → ¬ A a) : vx_Zq C n d A s s.heap := by
  refine ⟨va_Zqof hl hini h hA, ?_⟩
  obtain ⟨c, k, i, f, a, cell, h1, h2, h3, h4, h5, h6, h7, h8, h9⟩ := Cond.laysStatic_spec hl
  exact ⟨c, k, i, f, a, cell, h1, h2, h3, h4, h5, h6, h7, h8, h9, hA a (Array.getElem?_eq_some_iff.mp h5).1⟩
theorem vx_isRef {C n d : String} {v : Value} {A : Nat → Prop} {s : State} {args : Array Value} (h : va_Z C n d v A s s.heap) (hv : v.isRef = true) : (Cond.isRef (.static C n d)).before args s = true := by
  obtain ⟨cf, kf, fi, f, a, cell, h1, h2, h3, h4, h5, h6, h7, -⟩ := h
  have he : (Term.static C n d).eval args s none [] s = some v := by
    simp [Term.eval, State.fieldNamed?, h1, h2, h4, h5, h6, h7]
  simp only [Cond.before, Cond.holds, Cond.value, he]
  cases v <;> simp_all [Value.isRef]
theorem vx_isRefq {C n d : String} {A : Nat → Prop} {s : State} {args : Array Value} (h : va_Zq C n d A s s.heap) : (Cond.isRef (.static C n d)).before args s = true := by
  rcases h with h | ⟨t, h⟩
  · exact vx_isRef h rfl
  · exact vx_isRef h rfl
/-- the same frame, seen from here: as if the method were called anew in this heap -/
theorem vx_rebase {T : State} (X : Stand p l e R s m args below meth c T locs cells slots) {R' : Room} (hf : R'.frames ≤ R.frames) (hl : R'.locals ≤ R.locals) (hc : cells + R'.cells ≤ R.cells) (hs : slots + R'.slots ≤ R.slots) :
    Stand p l e R' ((T.setVm s.vm).setFrames (.invoking m args :: below)) m args below meth c T [] 0 0 := by
  have htop : (T.setVm s.vm).topJava?.isSome := X.here.top
  have hF : ((T.setVm s.vm).setFrames (.invoking m args :: below)).frames = .invoking m args :: below := State.frames_setFrames _ (State.cur_lt_of_top htop)
  obtain ⟨g₀, hg0⟩ := Option.isSome_iff_exists.mp htop
  obtain ⟨r, hr⟩ := State.topJava?_eq_some.mp hg0
  have hl9 : e.platform.stackLimits (T.setVm s.vm).me = e.platform.stackLimits s.me := X.limits
  have hb9 : (T.setVm s.vm).me.stackBytes = s.me.stackBytes := X.bytes
  refine ⟨X.admits, X.cas, X.clock, hF, ?_, X.hears, X.method, X.code, X.here, X.tail, X.warmed, ?_, ?_, ?_⟩
  · have h := X.room
    have hU : ((T.setVm s.vm).setFrames (.invoking m args :: below)).localsInUse = s.localsInUse := by
      rw [State.localsInUse_invoking hF (meth := meth) (c := c) X.method X.code, State.localsInUse_invoking X.frames X.method X.code]
    simp only [State.hasRoom, Bool.and_eq_true, decide_eq_true_eq] at h ⊢
    obtain ⟨⟨⟨⟨h1, h2, h3, h4, h5, h6⟩, h7⟩, h8⟩, h9⟩ := h
    rw [X.frames, List.length_cons] at h2 h3
    have q1 := X.heapSize
    have q2 := X.used
    simp only [hF, hU, List.length_cons, State.stackLimits_setFrames, State.stackBytes_setFrames, hl9, hb9]
    refine ⟨⟨⟨⟨by omega, by omega, by omega, by omega, by omega, h6⟩, ?_⟩, ?_⟩, X.book⟩
    · show T.heap.size + R'.cells ≤ e.platform.maxCells
      omega
    · show T.slotsUsed + R'.slots ≤ e.platform.maxSlots
      omega
  · rw [State.stackLimits_setFrames]; rfl
  · rw [State.stackBytes_setFrames]; rfl
  · refine ⟨?_, Nat.le_refl _, Nat.le_refl _, ?_, ?_, fun a c9 h9 => ⟨c9, h9, rfl, rfl, fun _ _ => rfl⟩⟩
    · obtain ⟨t, ht, -⟩ := State.frames_cons hr
      show T.setVm s.vm = { ((T.setVm s.vm).setFrames (.invoking m args :: below)).setFrames (T.setVm s.vm).frames with heap := T.heap, slotsUsed := T.slotsUsed }
      rw [State.setFrames_setFrames, State.setFrames_self ht]
      rfl
    · show T.slotsUsed = T.slotsUsed + ((T.heap.toList.drop T.heap.size).map (·.slots.size)).sum
      rw [List.drop_eq_nil_of_le (Nat.le_of_eq Array.length_toList)]
      rfl
    · show ((T.heap.toList.drop T.heap.size).map (·.slots.size)).sum ≤ 0
      rw [List.drop_eq_nil_of_le (Nat.le_of_eq Array.length_toList)]
      exact Nat.le_refl _
/-- 'throw new E()': new; dup; invokespecial; athrow -/
theorem vx_throw0 {cc : ByteArray} {pc : Nat} (hexec : p.tables.exec = Jvm.exec) (hb : c.code = cc) (hl : l.stackTraces = false) {own cls : String} {names : List String} {ik ic mc ms : Nat} {A : Nat → Prop}
    (hown : s.vm.findClass own = some m.cls) (hcls : Bundle.fit cls = true) (hnames : ∀ n ∈ names, Bundle.fit n = true)
    (hk : (Cond.classLink own ik cls).before args s = true) (hini : (Cond.initialized cls).before args s = true) (hat : ∀ w ∈ vx_at0 own ic cls names, w.before args s = true)
    (hgood : ∀ w ∈ Cond.classLink own ik cls :: Cond.initialized cls :: vx_at0 own ic cls names, vx_ot w = true)
    (hU : vx_Zq Bundle.tN "UNASSIGNED_STACK" Bundle.steD A s s.heap) (hN : vx_Zq Bundle.tN "SUPPRESSED_SENTINEL" Bundle.listD A s s.heap) (hS : va_S A s.heap H locs) (hsize : ls.size = c.maxLocals)
    (d0 : decode cc pc = .ok (.new ik, 3)) (d3 : decode cc (pc + 3) = .ok (.dup, 1)) (d4 : decode cc (pc + 4) = .ok (.invokespecial ic, 3)) (d7 : decode cc (pc + 7) = .ok (.athrow, 1))
    (hout : ∀ x ∈ c.exceptionTable.toList, covers x (pc + 7) = false)
    (hRframes : names.length + 3 < R.frames) (hRlocals : (rest.map fun v => v.category).sum + (13 * (names.length + 1) + 42) ≤ R.locals) (hRcells : cells + 1 ≤ R.cells) (hRslots : slots + 6 ≤ R.slots) (hlocks : meth.locks = false)
    (hx : ∀ t : State, s.vm.Alike t.vm → H.size ≤ t.heap.size → (∀ q : Nat, q < H.size → t.heap[q]? = H[q]?) → XC cls s t)
    (hf : ∀ z ∈ locs, free z.base) (hc : cells + 1 ≤ mc) (hs : slots + 6 ≤ ms) :
    W p l e R s m args below meth c H locs cells slots (vx_MQ below Qc XC args s mc ms free) (F0 m pc ls rest) := by
  intro T hT X
  have htr : e.platform.stackTraces = false := (show e.platform.stackTraces = l.stackTraces by rw [X.admits.platform]).trans hl
  have Y := vx_rebase X (R' := { frames := R.frames, locals := R.locals, cells := 1, slots := 6 }) (Nat.le_refl _) (Nat.le_refl _) hRcells hRslots
  obtain ⟨s', hA⟩ : ∃ z, z = (T.setVm s.vm).setFrames (.invoking m args :: below) := ⟨_, rfl⟩
  rw [← hA] at Y
  have hvm : s'.vm = s.vm := by rw [hA]; rfl
  have hhp : s'.heap = H := by rw [hA]; exact hT
  have hW0 : s.WarmedH s'.vm := by rw [hvm]; exact State.WarmedH.refl s
  have hat' : ∀ w ∈ vx_at0 own ic cls names, w.before args s' = true := fun w hw => vx_ot_at hW0 hvm.symm (hgood w (List.mem_cons_of_mem _ (List.mem_cons_of_mem _ hw))) (hat w hw)
  have hk' : (Cond.classLink own ik cls).before args s' = true := vx_ot_at hW0 hvm.symm (hgood _ List.mem_cons_self) hk
  have hini' : (Cond.initialized cls).before args s' = true := vx_ot_at hW0 hvm.symm (hgood _ (List.mem_cons_of_mem _ List.mem_cons_self)) hini
  have hU' : vx_Zq Bundle.tN "UNASSIGNED_STACK" Bundle.steD A s' s'.heap := by rw [hhp]; exact vx_Zq.moved hW0.alike (hU.kept hS.2.1)
  have hN' : vx_Zq Bundle.tN "SUPPRESSED_SENTINEL" Bundle.listD A s' s'.heap := by rw [hhp]; exact vx_Zq.moved hW0.alike (hN.kept hS.2.1)
  have h : ∀ w ∈ Bundle.ownAtoms0 own ic cls names, w.before args s' = true := vx_own hat' (vx_isRefq hU'.1) (vx_isRefq hN'.1) hU'.2.word hN'.2.word
  have hown' : s'.vm.findClass own = some m.cls := by rw [hvm]; exact hown
  have hins : (Cond.instantiable cls 6).before args s' = true := h _ (by simp [Bundle.ownAtoms0])
  obtain ⟨vm₁, cX, kX, hfX, hkX, -, -, X₁, st1⟩ := Y.newCold hexec (own := own) (C := cls) (index := ik) (n := 6) hown' hk' hins hini'
    (g := F0 m pc ls rest) rfl (by rw [hb]; exact d0) (Nat.le_refl _) (Nat.le_refl _)
  generalize hT1 : (T.setVm vm₁).pushCell { cls := cX, slots := kX.instanceTypes.map defaultValue, vm := .none } = T1 at X₁ st1
  have hcat : (Value.ref T.heap.size).category = 1 := rfl
  have hcellA : T1.heap[T.heap.size]? = some (freshCell cX kX) := by rw [← hT1]; exact State.heap_pushCell_size _ _
  have d3' : decode c.code (pc + 3) = .ok (.dup, 1) := by rw [hb]; exact d3
  obtain ⟨U, hsteps, hrun, hend, hW, hsame, ce, hce, hO⟩ := X₁.ctorThrow0 hexec htr (own := own) (cls := cls) (names := names) (ic := ic) hown' hcls hnames h (fun x hx => nomatch hx) hfX hkX hcellA (by rw [hhp, hT]; exact Nat.le_refl _)
    (g := { method := m, pc := pc + 4, locals := ls, stack := .ref T.heap.size :: .ref T.heap.size :: rest, locked := none }) rfl hsize rfl rfl (rest := rest) rfl
    (by rw [hb]; exact d4) (by rw [hb]; exact d7) hout hRframes (by simp only [List.map_cons, List.sum_cons, hcat]; omega) hlocks
  obtain ⟨f1, f2⟩ := vx_frame hsame
  rw [hhp] at f1 f2
  have hWs : s.WarmedH U.vm := State.WarmedH.trans hW0 hW
  have hcl : s.vm.findClass cls = some ce.cls := by
    have h9 := hO.cls
    rw [hvm] at h9
    exact h9
  have hall : s.sameButNew ({ U with vm := s.vm } : State) locs mc ms := by
    subst hA
    obtain ⟨e1, e2⟩ := hsame
    rw [State.setFrames_setFrames] at e1
    have h2 : (T.setVm s.vm).sameButNew ({ U with vm := s.vm } : State) [] (0 + 1) (0 + 6) := ⟨e1, e2⟩
    have h3 := X.same.trans h2
    rw [List.append_nil] at h3
    exact h3.mono hc hs
  refine ⟨U, ?_, .threw T.heap.size, hrun, hend, Or.inr ⟨T.heap.size, rfl, cls, ce, locs, hx U hWs.alike f1 (fun q hq => f2 q hq (fun z hz => nomatch hz)), hce, hO.vm, hcl, hWs, hall, hf⟩⟩
  refine st1 _ ?_
  show Steps p.tables e below (T1.setTop { method := m, pc := pc + 3, locals := ls, stack := .ref T.heap.size :: rest, locked := none }) _
  jvm_step X₁.here [X₁.here.top, hexec, d3', Value.category]
  exact hsteps
/-- 'throw new E("text")': new; dup; ldc; invokespecial; athrow -/
theorem vx_throwS {cc : ByteArray} {pc : Nat} (hexec : p.tables.exec = Jvm.exec) (hb : c.code = cc) (hl : l.stackTraces = false) {own cls text : String} {names : List String} {ik is ic mc ms sa : Nat} {A : Nat → Prop}
    (hown : s.vm.findClass own = some m.cls) (hcls : Bundle.fit cls = true) (hnames : ∀ n ∈ names, Bundle.fit n = true)
    (hk : (Cond.classLink own ik cls).before args s = true) (hini : (Cond.initialized cls).before args s = true) (hstr : vk_R own is text sa s) (hat : ∀ w ∈ vx_atS own ic cls names, w.before args s = true)
    (hgood : ∀ w ∈ Cond.classLink own ik cls :: Cond.initialized cls :: vx_atS own ic cls names, vx_ot w = true)
    (hU : vx_Zq Bundle.tN "UNASSIGNED_STACK" Bundle.steD A s s.heap) (hN : vx_Zq Bundle.tN "SUPPRESSED_SENTINEL" Bundle.listD A s s.heap) (hS : va_S A s.heap H locs) (hsize : ls.size = c.maxLocals)
    (d0 : decode cc pc = .ok (.new ik, 3)) (d3 : decode cc (pc + 3) = .ok (.dup, 1)) (d4 : decode cc (pc + 4) = .ok (.ldc is, 2)) (d6 : decode cc (pc + 6) = .ok (.invokespecial ic, 3)) (d9 : decode cc (pc + 9) = .ok (.athrow, 1))
    (hout : ∀ x ∈ c.exceptionTable.toList, covers x (pc + 9) = false)
    (hRframes : names.length + 3 < R.frames) (hRlocals : (rest.map fun v => v.category).sum + (13 * (names.length + 1) + 43) ≤ R.locals) (hRcells : cells + 1 ≤ R.cells) (hRslots : slots + 6 ≤ R.slots) (hlocks : meth.locks = false)
    (hx : ∀ t : State, s.vm.Alike t.vm → H.size ≤ t.heap.size → (∀ q : Nat, q < H.size → t.heap[q]? = H[q]?) → XC cls s t)
    (hf : ∀ z ∈ locs, free z.base) (hc : cells + 1 ≤ mc) (hs : slots + 6 ≤ ms) :
    W p l e R s m args below meth c H locs cells slots (vx_MQ below Qc XC args s mc ms free) (F0 m pc ls rest) := by
  intro T hT X
  have htr : e.platform.stackTraces = false := (show e.platform.stackTraces = l.stackTraces by rw [X.admits.platform]).trans hl
  have Y := vx_rebase X (R' := { frames := R.frames, locals := R.locals, cells := 1, slots := 6 }) (Nat.le_refl _) (Nat.le_refl _) hRcells hRslots
  obtain ⟨s', hA⟩ : ∃ z, z = (T.setVm s.vm).setFrames (.invoking m args :: below) := ⟨_, rfl⟩
  rw [← hA] at Y
  have hvm : s'.vm = s.vm := by rw [hA]; rfl
  have hhp : s'.heap = H := by rw [hA]; exact hT
  have hW0 : s.WarmedH s'.vm := by rw [hvm]; exact State.WarmedH.refl s
  have hat' : ∀ w ∈ vx_atS own ic cls names, w.before args s' = true := fun w hw => vx_ot_at hW0 hvm.symm (hgood w (List.mem_cons_of_mem _ (List.mem_cons_of_mem _ hw))) (hat w hw)
  have hk' : (Cond.classLink own ik cls).before args s' = true := vx_ot_at hW0 hvm.symm (hgood _ List.mem_cons_self) hk
  have hini' : (Cond.initialized cls).before args s' = true := vx_ot_at hW0 hvm.symm (hgood _ (List.mem_cons_of_mem _ List.mem_cons_self)) hini
  have hU' : vx_Zq Bundle.tN "UNASSIGNED_STACK" Bundle.steD A s' s'.heap := by rw [hhp]; exact vx_Zq.moved hW0.alike (hU.kept hS.2.1)
  have hN' : vx_Zq Bundle.tN "SUPPRESSED_SENTINEL" Bundle.listD A s' s'.heap := by rw [hhp]; exact vx_Zq.moved hW0.alike (hN.kept hS.2.1)
  have h : ∀ w ∈ Bundle.ownAtoms own ic cls names, w.before args s' = true := vx_own hat' (vx_isRefq hU'.1) (vx_isRefq hN'.1) hU'.2.word hN'.2.word
  have hown' : s'.vm.findClass own = some m.cls := by rw [hvm]; exact hown
  have hins : (Cond.instantiable cls 6).before args s' = true := h _ (by simp [Bundle.ownAtoms])
  obtain ⟨vm₁, cX, kX, hfX, hkX, -, -, X₁, st1⟩ := Y.newCold hexec (own := own) (C := cls) (index := ik) (n := 6) hown' hk' hins hini'
    (g := F0 m pc ls rest) rfl (by rw [hb]; exact d0) (Nat.le_refl _) (Nat.le_refl _)
  generalize hT1 : (T.setVm vm₁).pushCell { cls := cX, slots := kX.instanceTypes.map defaultValue, vm := .none } = T1 at X₁ st1
  have hcat : (Value.ref T.heap.size).category = 1 := rfl
  have hcellA : T1.heap[T.heap.size]? = some (freshCell cX kX) := by rw [← hT1]; exact State.heap_pushCell_size _ _
  have d3' : decode c.code (pc + 3) = .ok (.dup, 1) := by rw [hb]; exact d3
  have d4' : decode c.code (pc + 4) = .ok (.ldc is, 2) := by rw [hb]; exact d4
  have hstr' : vk_R own is text sa s' := vk_R.warm hW0 hstr
  obtain ⟨U, hsteps, hrun, hend, hW, hsame, ce, hce, hO⟩ := X₁.ctorThrowS hexec htr (own := own) (cls := cls) (names := names) (ic := ic) hown' hcls hnames h (fun x hx => nomatch hx) hfX hkX hcellA (by rw [hhp, hT]; exact Nat.le_refl _) (msg := .ref sa) rfl
    (g := { method := m, pc := pc + 6, locals := ls, stack := .ref sa :: .ref T.heap.size :: .ref T.heap.size :: rest, locked := none }) rfl hsize rfl rfl (rest := rest) rfl
    (by rw [hb]; exact d6) (by rw [hb]; exact d9) hout hRframes (by simp only [List.map_cons, List.sum_cons, hcat]; omega) hlocks
  obtain ⟨f1, f2⟩ := vx_frame hsame
  rw [hhp] at f1 f2
  have hWs : s.WarmedH U.vm := State.WarmedH.trans hW0 hW
  have hcl : s.vm.findClass cls = some ce.cls := by
    have h9 := hO.cls
    rw [hvm] at h9
    exact h9
  have hall : s.sameButNew ({ U with vm := s.vm } : State) locs mc ms := by
    subst hA
    obtain ⟨e1, e2⟩ := hsame
    rw [State.setFrames_setFrames] at e1
    have h2 : (T.setVm s.vm).sameButNew ({ U with vm := s.vm } : State) [] (0 + 1) (0 + 6) := ⟨e1, e2⟩
    have h3 := X.same.trans h2
    rw [List.append_nil] at h3
    exact h3.mono hc hs
  refine ⟨U, ?_, .threw T.heap.size, hrun, hend, Or.inr ⟨T.heap.size, rfl, cls, ce, locs, hx U hWs.alike f1 (fun q hq => f2 q hq (fun z hz => nomatch hz)), hce, hO.vm, hcl, hWs, hall, hf⟩⟩
  refine st1 _ ?_
  show Steps p.tables e below (T1.setTop { method := m, pc := pc + 3, locals := ls, stack := .ref T.heap.size :: rest, locked := none }) _
  jvm_step X₁.here [X₁.here.top, hexec, d3', Value.category]
  exact X₁.ldcString hexec (own := own) (text := text) (index := is) (a := sa) hown' hstr'.1 hstr'.2
    (g := { method := m, pc := pc + 4, locals := ls, stack := .ref T.heap.size :: .ref T.heap.size :: rest, locked := none }) rfl d4' _ hsteps
/-- 'throw new E("text")', the text by a wide index -/
theorem vx_throwSW {cc : ByteArray} {pc : Nat} (hexec : p.tables.exec = Jvm.exec) (hb : c.code = cc) (hl : l.stackTraces = false) {own cls text : String} {names : List String} {ik is ic mc ms sa : Nat} {A : Nat → Prop}
    (hown : s.vm.findClass own = some m.cls) (hcls : Bundle.fit cls = true) (hnames : ∀ n ∈ names, Bundle.fit n = true)
    (hk : (Cond.classLink own ik cls).before args s = true) (hini : (Cond.initialized cls).before args s = true) (hstr : vk_R own is text sa s) (hat : ∀ w ∈ vx_atS own ic cls names, w.before args s = true)
    (hgood : ∀ w ∈ Cond.classLink own ik cls :: Cond.initialized cls :: vx_atS own ic cls names, vx_ot w = true)
    (hU : vx_Zq Bundle.tN "UNASSIGNED_STACK" Bundle.steD A s s.heap) (hN : vx_Zq Bundle.tN "SUPPRESSED_SENTINEL" Bundle.listD A s s.heap) (hS : va_S A s.heap H locs) (hsize : ls.size = c.maxLocals)
    (d0 : decode cc pc = .ok (.new ik, 3)) (d3 : decode cc (pc + 3) = .ok (.dup, 1)) (d4 : decode cc (pc + 4) = .ok (.ldc_w is, 3)) (d7 : decode cc (pc + 7) = .ok (.invokespecial ic, 3)) (d10 : decode cc (pc + 10) = .ok (.athrow, 1))
    (hout : ∀ x ∈ c.exceptionTable.toList, covers x (pc + 10) = false)
    (hRframes : names.length + 3 < R.frames) (hRlocals : (rest.map fun v => v.category).sum + (13 * (names.length + 1) + 43) ≤ R.locals) (hRcells : cells + 1 ≤ R.cells) (hRslots : slots + 6 ≤ R.slots) (hlocks : meth.locks = false)
    (hx : ∀ t : State, s.vm.Alike t.vm → H.size ≤ t.heap.size → (∀ q : Nat, q < H.size → t.heap[q]? = H[q]?) → XC cls s t)
    (hf : ∀ z ∈ locs, free z.base) (hc : cells + 1 ≤ mc) (hs : slots + 6 ≤ ms) :
    W p l e R s m args below meth c H locs cells slots (vx_MQ below Qc XC args s mc ms free) (F0 m pc ls rest) := by
  intro T hT X
  have htr : e.platform.stackTraces = false := (show e.platform.stackTraces = l.stackTraces by rw [X.admits.platform]).trans hl
  have Y := vx_rebase X (R' := { frames := R.frames, locals := R.locals, cells := 1, slots := 6 }) (Nat.le_refl _) (Nat.le_refl _) hRcells hRslots
  obtain ⟨s', hA⟩ : ∃ z, z = (T.setVm s.vm).setFrames (.invoking m args :: below) := ⟨_, rfl⟩
  rw [← hA] at Y
  have hvm : s'.vm = s.vm := by rw [hA]; rfl
  have hhp : s'.heap = H := by rw [hA]; exact hT
  have hW0 : s.WarmedH s'.vm := by rw [hvm]; exact State.WarmedH.refl s
  have hat' : ∀ w ∈ vx_atS own ic cls names, w.before args s' = true := fun w hw => vx_ot_at hW0 hvm.symm (hgood w (List.mem_cons_of_mem _ (List.mem_cons_of_mem _ hw))) (hat w hw)
  have hk' : (Cond.classLink own ik cls).before args s' = true := vx_ot_at hW0 hvm.symm (hgood _ List.mem_cons_self) hk
  have hini' : (Cond.initialized cls).before args s' = true := vx_ot_at hW0 hvm.symm (hgood _ (List.mem_cons_of_mem _ List.mem_cons_self)) hini
  have hU' : vx_Zq Bundle.tN "UNASSIGNED_STACK" Bundle.steD A s' s'.heap := by rw [hhp]; exact vx_Zq.moved hW0.alike (hU.kept hS.2.1)
  have hN' : vx_Zq Bundle.tN "SUPPRESSED_SENTINEL" Bundle.listD A s' s'.heap := by rw [hhp]; exact vx_Zq.moved hW0.alike (hN.kept hS.2.1)
  have h : ∀ w ∈ Bundle.ownAtoms own ic cls names, w.before args s' = true := vx_own hat' (vx_isRefq hU'.1) (vx_isRefq hN'.1) hU'.2.word hN'.2.word
  have hown' : s'.vm.findClass own = some m.cls := by rw [hvm]; exact hown
  have hins : (Cond.instantiable cls 6).before args s' = true := h _ (by simp [Bundle.ownAtoms])
  obtain ⟨vm₁, cX, kX, hfX, hkX, -, -, X₁, st1⟩ := Y.newCold hexec (own := own) (C := cls) (index := ik) (n := 6) hown' hk' hins hini'
    (g := F0 m pc ls rest) rfl (by rw [hb]; exact d0) (Nat.le_refl _) (Nat.le_refl _)
  generalize hT1 : (T.setVm vm₁).pushCell { cls := cX, slots := kX.instanceTypes.map defaultValue, vm := .none } = T1 at X₁ st1
  have hcat : (Value.ref T.heap.size).category = 1 := rfl
  have hcellA : T1.heap[T.heap.size]? = some (freshCell cX kX) := by rw [← hT1]; exact State.heap_pushCell_size _ _
  have d3' : decode c.code (pc + 3) = .ok (.dup, 1) := by rw [hb]; exact d3
  have d4' : decode c.code (pc + 4) = .ok (.ldc_w is, 3) := by rw [hb]; exact d4
  have hstr' : vk_R own is text sa s' := vk_R.warm hW0 hstr
  obtain ⟨U, hsteps, hrun, hend, hW, hsame, ce, hce, hO⟩ := X₁.ctorThrowS hexec htr (own := own) (cls := cls) (names := names) (ic := ic) hown' hcls hnames h (fun x hx => nomatch hx) hfX hkX hcellA (by rw [hhp, hT]; exact Nat.le_refl _) (msg := .ref sa) rfl
    (g := { method := m, pc := pc + 7, locals := ls, stack := .ref sa :: .ref T.heap.size :: .ref T.heap.size :: rest, locked := none }) rfl hsize rfl rfl (rest := rest) rfl
    (by rw [hb]; exact d7) (by rw [hb]; exact d10) hout hRframes (by simp only [List.map_cons, List.sum_cons, hcat]; omega) hlocks
  obtain ⟨f1, f2⟩ := vx_frame hsame
  rw [hhp] at f1 f2
  have hWs : s.WarmedH U.vm := State.WarmedH.trans hW0 hW
  have hcl : s.vm.findClass cls = some ce.cls := by
    have h9 := hO.cls
    rw [hvm] at h9
    exact h9
  have hall : s.sameButNew ({ U with vm := s.vm } : State) locs mc ms := by
    subst hA
    obtain ⟨e1, e2⟩ := hsame
    rw [State.setFrames_setFrames] at e1
    have h2 : (T.setVm s.vm).sameButNew ({ U with vm := s.vm } : State) [] (0 + 1) (0 + 6) := ⟨e1, e2⟩
    have h3 := X.same.trans h2
    rw [List.append_nil] at h3
    exact h3.mono hc hs
  refine ⟨U, ?_, .threw T.heap.size, hrun, hend, Or.inr ⟨T.heap.size, rfl, cls, ce, locs, hx U hWs.alike f1 (fun q hq => f2 q hq (fun z hz => nomatch hz)), hce, hO.vm, hcl, hWs, hall, hf⟩⟩
  refine st1 _ ?_
  show Steps p.tables e below (T1.setTop { method := m, pc := pc + 3, locals := ls, stack := .ref T.heap.size :: rest, locked := none }) _
  jvm_step X₁.here [X₁.here.top, hexec, d3', Value.category]
  exact X₁.ldcStringW hexec (own := own) (text := text) (index := is) (a := sa) hown' hstr'.1 hstr'.2
    (g := { method := m, pc := pc + 4, locals := ls, stack := .ref T.heap.size :: .ref T.heap.size :: rest, locked := none }) rfl d4' _ hsteps
end Ends
section Bodies
variable {l : Launch}
theorem vx_ofW {y : MethodName} {ws ws' : List Cond} {rm : Room} {Pc : Array Value → State → Prop} {Qc : Array Value → State → Outcome → State → Prop} {XC : String → State → State → Prop} {mc ms : Nat} {free : Addr → Prop} {cc : ByteArray} {maxL : Nat} {ret : Option FieldType}
    (hy : plainName y.cls = true) (hw : ws = Cond.code y cc maxL ret :: ws')
    (body : ∀ p e s m args below meth c s₁, BodyLoose p l y (headSpec ws rm) cc maxL ret e s m args below meth c s₁ → c.maxLocals = maxL → (∀ x ∈ c.exceptionTable.toList, False) → Pc args s →
      W p l e (headSpec ws rm).room s m args below meth c s.heap [] 0 0 (vx_MQ below Qc XC args s mc ms free) (entryFrame m args maxL)) : vx_Met l y ws rm Pc Qc XC mc ms free := by
  refine MetFree.of_bodyS (code := cc) (maxLocals := maxL) (ret := ret) hy ?_ ?_
  · intro args s m h hn
    obtain ⟨meth, c, h1, h2, h3, h4, h5, h6, -, -⟩ := Cond.code_spec hn (atoms_spec (ws := ws) h _ (by rw [hw]; exact List.mem_cons_self))
    exact ⟨meth, c, h1, h2, h3, h4, h5, h6⟩
  · intro p e s m args below meth c s₁ B hml hP _
    have hh0 : s₁.heap = s.heap := by rw [B.state]; rfl
    have ht : ∀ x ∈ c.exceptionTable.toList, False := by
      obtain ⟨meth9, c9, h1, h2, -, -, -, -, h7, -⟩ := Cond.code_spec B.named (atoms_spec (ws := ws) B.pre _ (by rw [hw]; exact List.mem_cons_self))
      cases Option.some.inj (h1.symm.trans B.method)
      cases Option.some.inj (h2.symm.trans (Stand.of_body B).code)
      intro x hx
      rw [Array.isEmpty_iff.mp h7] at hx
      cases hx
    obtain ⟨t, a1, o, b1, b2, b3⟩ := body p e s m args below meth c s₁ B hml ht hP s₁ hh0 (Stand.of_body B)
    exact ⟨t, o, a1, b1, b2, b3⟩
/-- the table of a body with handlers -/
theorem vx_table {p : Program} {x y : MethodName} {S : Spec} {cc bytes : ByteArray} {maxL maxL' : Nat} {ret ret' : Option FieldType} {e : Env} {s s₁ : State} {m : MethodId} {args : Array Value} {below : List Frame} {meth : Method} {c : Code} {hh : List (Nat × Nat × Nat × Nat)}
    (B : BodyLoose p l y S cc maxL ret e s m args below meth c s₁) (h : (Cond.codeWith y bytes maxL' ret' hh).before args s = true) : c.exceptionTable.toList = tableOf hh := by
  obtain ⟨m9, meth9, c9, hn9, h1, h2, -, -, h6, -⟩ := Cond.codeWith_spec h
  cases Option.some.inj (hn9.symm.trans B.named)
  cases Option.some.inj (h1.symm.trans B.method)
  cases Option.some.inj (h2.symm.trans (Stand.of_body B).code)
  rw [← h6, table_eq]
end Bodies
end VXA
/-! ===== END ===== -/
/-! ===== BEGIN a static call of a method with an exception table ===== -/
section VXS
variable {p : Program} {l : Launch} {e : Env} {R : Room} {s : State} {m : MethodId} {args : Array Value} {below : List Frame} {meth : Method} {c : Code} {T : State} {H : Heap} {locs : List Loc} {cells slots : Nat}
abbrev vx_CSW (R : Room) (s : State) (args : Array Value) (own : String) (index : Nat) (y : MethodName) (bytes : ByteArray) (maxL : Nat) (ret : Option FieldType) (hh : List (Nat × Nat × Nat × Nat)) (ws : List Cond) (rm : Room) (mc ms n : Nat) : Prop :=
  (rm.cells = mc ∧ rm.slots = ms ∧ rm.frames + 1 ≤ R.frames ∧ 8 + (maxL + 11) + rm.locals ≤ R.locals ∧ (∀ w ∈ ws, ∀ (a' : Array Value) (U : State), s.WarmedH U.vm → w.before a' U = true) ∧ Cond.codeWith y bytes maxL ret hh ∈ ws) ∧
  (Cond.codeWith y bytes maxL ret hh).before args s = true ∧ (Cond.initialized y.cls).before args s = true ∧ (y.cls ≠ "java/lang/invoke/MethodHandle" ∧ y.cls ≠ "java/lang/invoke/VarHandle") ∧
  (∀ sig, parseMethodDescriptor y.desc = some sig → n = sig.parameters.length) ∧ (Cond.methodLink own index y).before args s = true ∧ (Cond.static y).before args s = true
theorem vx_cwSW {own : String} {index maxL mc ms : Nat} {y : MethodName} {bytes : ByteArray} {ret : Option FieldType} {hh : List (Nat × Nat × Nat × Nat)} {Ts ws ws' : List Cond} {rm : Room} (n : Nat) (ht : ∀ w ∈ Ts, w.before args s = true) (hT : GoodIn Ts (va_wsS own index y ws)) (hw : ws = Cond.codeWith y bytes maxL ret hh :: ws') (hrc : rm.cells = mc) (hrs : rm.slots = ms)
    (hd : y.cls ≠ "java/lang/invoke/MethodHandle" ∧ y.cls ≠ "java/lang/invoke/VarHandle" ∧ (parseMethodDescriptor y.desc).map (fun d => d.parameters.length) = some n) (hR : rm.frames + 1 ≤ R.frames ∧ 8 + (maxL + 11) + rm.locals ≤ R.locals) :
    vx_CSW R s args own index y bytes maxL ret hh ws rm mc ms n := by
  have ok : ∀ w ∈ va_wsS own index y ws, w.before args s = true := fun w h => ht w (hT w h).1
  have hG : GoodIn Ts ws := fun w h => hT w (by unfold va_wsS; exact List.mem_append_right _ h)
  have hc : Cond.codeWith y bytes maxL ret hh ∈ ws := by rw [hw]; exact List.mem_cons_self
  refine ⟨⟨hrc, hrs, hR.1, hR.2, pay_in ht hG, hc⟩, ht _ (hG _ hc).1, ok _ (by simp [va_wsS]), ⟨hd.1, hd.2.1⟩, fun sig h => ?_, ok _ (by simp [va_wsS]), ok _ (by simp [va_wsS])⟩
  have h2 := hd.2.2
  rw [h] at h2
  exact (Option.some.inj h2).symm
theorem vx_callSW (X : Stand p l e R s m args below meth c T locs cells slots) (hexec : p.tables.exec = Jvm.exec) {own : String} {index : Nat} {y : MethodName} {bytes : ByteArray} {maxL : Nat} {ret : Option FieldType} {hh : List (Nat × Nat × Nat × Nat)}
    (hown : s.vm.findClass own = some m.cls) (hlink : (Cond.methodLink own index y).before args s = true) (hstat : (Cond.static y).before args s = true) (hinit : (Cond.initialized y.cls).before args s = true)
    (hcode : (Cond.codeWith y bytes maxL ret hh).before args s = true) (hy : y.cls ≠ "java/lang/invoke/MethodHandle" ∧ y.cls ≠ "java/lang/invoke/VarHandle")
    {W9 : Nat} {Pre : Pt → Array Value → Prop} {Post : Pt → Array Value → Option Value → Pt → Prop} (hK : Back l R p e below s args y 3 W9 Pre Post)
    {g : JFrame} (hg : g.method = m) (hsize : g.locals.size = c.maxLocals) {argsL rest : List Value} (hlen : ∀ sig, parseMethodDescriptor y.desc = some sig → argsL.length = sig.parameters.length)
    (hstack : g.stack = argsL.reverse ++ rest) (hW : 2 * g.monitorRoom + (rest.map fun v => v.category).sum ≤ W9) (hdg : decode c.code g.pc = .ok (.invokestatic index, 3))
    (hpre : ∀ vm₁, s.WarmedH vm₁ → Pre ⟨T.setVm vm₁, locs, cells, slots⟩ argsL.toArray) :
    ∃ (v : Option Value) (vm₁ : Vm) (B : Pt), s.WarmedH vm₁ ∧ Stand p l e R s m args below meth c B.U B.locs B.cells B.slots ∧ Post ⟨T.setVm vm₁, locs, cells, slots⟩ argsL.toArray v B ∧
      ∀ target, Steps p.tables e below (B.U.setTop { g with pc := g.pc + 3, stack := v.toList ++ rest }) target → Steps p.tables e below (T.setTop g) target := by
  obtain ⟨mk, methM, cM, hnamed, hmethM, -, -, -, -, -, -, hsigM⟩ := Cond.codeWith_spec hcode
  have hstatic : methM.isStatic = true := Cond.static_spec hnamed hmethM hstat
  obtain ⟨kP, hkP, -⟩ := className_of_methodNamed hnamed
  have hinitP : kP.init = .initialized := Cond.initialized_spec (findClass_of_methodNamed hnamed) hkP hinit
  obtain ⟨vm₁, X₁, hstep₁⟩ := X.invokestatic hexec hown hlink hnamed hmethM hstatic hkP hinitP hy (g := g) hg (argsL := argsL) (rest := rest) (hlen _ hsigM) hstack hdg
  obtain ⟨v, B, X', hpost, hsteps⟩ := hK m meth c ⟨T.setVm vm₁, locs, cells, slots⟩ { g with stack := rest } (.invokestatic index) mk argsL.toArray X₁ hg hsize hdg hW (X₁.named hnamed) (hpre vm₁ X₁.warmed)
  exact ⟨v, vm₁, B, X₁.warmed, X', hpost, fun target h => hstep₁ _ fun acts => by rw [doInvoke_state]; exact hsteps.trans h⟩
theorem vx_runSW {y : MethodName} {bytes cc : ByteArray} {maxL nL mc ms n index : Nat} {ret : Option FieldType} {hh : List (Nat × Nat × Nat × Nat)} {ws : List Cond} {rm : Room} {Pc : Array Value → State → Prop} {Qc : Array Value → State → Outcome → State → Prop} {free : Addr → Prop} {Ts : List Cond} {own : String} {As rest : List Value} {g : JFrame}
    (S : CallFix p m c cc nL s args Ts own) (hM : Met l y ws rm Pc Qc mc ms free) (cw : vx_CSW R s args own index y bytes maxL ret hh ws rm mc ms n) (hp : PreS s H Pc As)
    (hg : g.method = m) (hn : As.length = n) (hsize : g.locals.size = nL) (hstack : g.stack = As.reverse ++ rest) (hW : 2 * g.monitorRoom + (rest.map fun v => v.category).sum ≤ 8) (hdg : decode cc g.pc = .ok (.invokestatic index, 3)) (hf : cells + mc ≤ R.cells ∧ slots + ms ≤ R.slots) :
    va_Run p l e R s m args below meth c H locs cells slots mc ms g rest (Qc As.toArray) (free) := by
  obtain ⟨⟨hrc, hrs, hfr, hlo, hws, hcw⟩, hcode, hini, hy, hlen, hl, hstt⟩ := cw
  have hK : Back l R p e below s args y 3 8 (PreOf R mc ms Pc) (PostOf Qc mc ms free) := va_backW (hh := hh) (bytes := bytes) (maxL := maxL) (ret := ret) hM hp.1 hrc hrs hfr hlo hws hcw (fun a' U hW => word_at hW (Or.inl (by first | rfl | simp [Cond.onTables, Cond.keeps, Cond.steady])) hini)
  obtain ⟨hx, hb, hml, ho, -⟩ := S
  intro T hT X
  obtain ⟨v, vm₁, ⟨U', l2, c2, s2⟩, hW₁, X', ⟨g', mk, t, L, e1, e2, hq, h1, hL, h2, h3⟩, st⟩ := vx_callSW X hx (hh := hh) (bytes := bytes) (maxL := maxL) (ret := ret) ho hl hstt hini hcode hy hK hg (hsize.trans hml.symm) (argsL := As) (rest := rest) (fun sig h => hn.trans (hlen sig h)) hstack hW (by rw [hb]; exact hdg)
    (fun vm₁ hW₁ => ⟨hf.1, hf.2, hp.2 (T.setVm vm₁) hT hW₁⟩)
  dsimp only [Pt.U, Pt.locs, Pt.cells, Pt.slots] at X' e1 e2 h1 h2 h3 st
  subst h1; subst h2; subst h3
  exact ⟨v, (T.setVm vm₁).calling g' mk As.toArray, t, U', L, hT, X', hL, e1, e2, hq, st⟩
/-- not caught here, past rows that name other classes: it goes on to the caller -/
theorem vx_outP {p : Program} {l : Launch} {e : Env} {R : Room} {s : State} {m : MethodId} {args : Array Value} {below : List Frame} {meth : Method} {c : Code} {H : Heap} {locs : List Loc} {cells slots : Nat} {free : Addr → Prop} {ls : Array Slot} {rest : List Value} {Qc : Array Value → State → Outcome → State → Prop} {XC : String → State → State → Prop}
    {pc : Nat} {own E : String} {ce : Cell} {q : Addr} {mc ms : Nat} (hown : s.vm.findClass own = some m.cls) (hlocks : meth.locks = false)
    (hpass : ∀ z ∈ c.exceptionTable.toList, covers z pc = false ∨ (z.catchType ≠ 0 ∧ ∃ nm : String, (Cond.classLink own z.catchType nm).before args s = true ∧ va_Nc E nm s)) (hcell : H[q]? = some ce) (hv : ce.vm = .none) (hcl : s.vm.findClass E = some ce.cls)
    (hx : ∀ t : State, t.heap = H → s.vm.Alike t.vm → XC E s t) (hf : ∀ z ∈ locs, free z.base) (hc : cells ≤ mc) (hs : slots ≤ ms) :
    vx_W p l e R s m args below meth c H locs cells slots (vx_MQ below Qc XC args s mc ms free) (F0 m pc ls rest) q := by
  intro T hT X
  have hpl : e.platform.magicAccessors = ({} : Platform).magicAccessors := by rw [X.admits.platform]
  obtain ⟨vm', hW', X', st⟩ := X.outThrough hlocks q (g := F0 m pc ls rest) rfl rfl rfl (cell := ce) (by rw [hT]; exact hcell) (by rw [hv]; rfl)
    (by obtain ⟨k9, h9, -⟩ := Vm.findClass_spec hcl; exact ⟨k9, h9⟩) (fun z hz => by
      rcases hpass z hz with h | ⟨hz0, nm, hl1, hn1⟩
      · exact Or.inl h
      · obtain ⟨c6, hc6, hcl6⟩ := Cond.classLink_spec hown hl1 e.platform hpl
        obtain ⟨a8, b8, h1, h2, h3⟩ := hn1
        cases Option.some.inj (h1.symm.trans hcl)
        cases Option.some.inj (h2.symm.trans hc6)
        exact Or.inr ⟨hz0, _, hcl6, h3⟩)
  obtain ⟨g₀, hfr⟩ := X'.frames_eq
  have hcell9 : ((T.setVm vm').setFrames (.throwing q :: below)).heap[q]? = some ce := by
    show T.heap[q]? = some ce
    rw [hT]; exact hcell
  have hend : Ended ((T.setVm vm').setFrames (.throwing q :: below)) below (.threw q) := State.frames_setFrames _ (State.cur_lt_of_frames hfr)
  refine ⟨(T.setVm vm').setFrames (.throwing q :: below), ?_, .threw q, X'.here.running, hend, Or.inr ⟨q, rfl, E, ce, locs, hx _ hT (X'.ends _).1.alike, hcell9, hv, hcl, (X'.ends _).1, (X'.ends _).2.mono hc hs, hf⟩⟩
  rw [X.pushThrowing_eq]
  exact st
/-- a thing of a world lies in the heap -/
theorem vx_lt {D : va_G} {cl : List vw_C} {ws : va_W} {H1 : Heap} (h : va_P D cl ws H1) {k : Nat} {q : Nat × va_E} (hk : ws[k]? = some q) : q.1 < H1.size := (h k q hk).lt
end VXS
/-! ===== END ===== -/
/-! ===== BEGIN methods with a table of their own: called by a name, returning or throwing ===== -/
section VXH
/-! vx_backW, vx_callVX, vx_callSX, vx_callVW, vx_runVW, vx_runVX, vx_runSX, vx_ofWH follow the same proofs as their sisters above (Free/Laws.lean, Shelf42/LK1.lean); vx_outP calls Shelf42/NT130.lean (outThrough). -/
section
variable {l : Launch} {R : Room} {p : Program} {e : Env} {below : List Frame} {s : State} {sargs : Array Value} {y : MethodName} {len W9 : Nat}
theorem vx_backW {ws : List Cond} {rm : Room} {Pc : Array Value → State → Prop} {Qc : Array Value → State → Outcome → State → Prop} {XC : String → State → State → Prop} {mc ms : Nat} {free : Addr → Prop} {bytes : ByteArray} {maxL : Nat} {ret : Option FieldType} {hh : List (Nat × Nat × Nat × Nat)}
    (hM : vx_Met l y ws rm Pc Qc XC mc ms free) (hblind : FrameBlind Pc) (hrc : rm.cells = mc) (hrs : rm.slots = ms)
    (hframes : rm.frames + 1 ≤ R.frames) (hlocals : W9 + (maxL + 11) + rm.locals ≤ R.locals)
    (hws : ∀ w ∈ ws, ∀ a' U, s.WarmedH U.vm → w.before a' U = true) (hcode : Cond.codeWith y bytes maxL ret hh ∈ ws) (hinit : ∀ a' U, s.WarmedH U.vm → (Cond.initialized y.cls).before a' U = true) :
    vx_Back l R p e below s sargs y len W9 (PreOf R mc ms Pc) (PostOf Qc mc ms free) (vx_Post XC mc ms free) := by
  intro m meth c A g ig mk a X hg hsize hdg hW hn hp
  have h1 : (headSpec ws rm).pre.before a A.U = true := atoms_intro fun w hw => hws w hw _ _ X.warmed
  have h2 : (Cond.codeWith y bytes maxL ret hh).before a A.U = true := hws _ hcode _ _ X.warmed
  have h3 : (Cond.initialized y.cls).before a A.U = true := hinit _ _ X.warmed
  have h4 : A.cells + (headSpec ws rm).room.cells ≤ R.cells := by rw [show (headSpec ws rm).room.cells = mc from hrc]; exact hp.1
  have h5 : A.slots + (headSpec ws rm).room.slots ≤ R.slots := by rw [show (headSpec ws rm).room.slots = ms from hrs]; exact hp.2.1
  have hPc : Pc a (A.U.calling g mk a) := hblind _ _ _ _ hp.2.2
  obtain ⟨U, Ls, c0, s0⟩ := A
  dsimp only [Pt.U, Pt.locs, Pt.cells, Pt.slots] at h1 h2 h3 h4 h5 X hn hPc ⊢
  obtain ⟨m9, methY, cY, hn9, hmY, hcY, -, hlY, -⟩ := Cond.codeWith_spec h2
  cases Option.some.inj (hn9.symm.trans hn)
  obtain ⟨kY, hkY, -⟩ := className_of_methodNamed hn
  have hinitY : kY.init = .initialized := Cond.initialized_spec (findClass_of_methodNamed hn) hkY h3
  have h : At U g.method c below := by rw [hg]; exact X.here
  have hlocals9 : W9 + (maxL + 11) + (headSpec ws rm).room.locals ≤ R.locals := hlocals
  have happ : (headSpec ws rm).appliesLoose y e.platform (U.calling g mk a) = true :=
    Spec.appliesLoose_calling (g := g) h hdg hn hkY hinitY
      (X.room_calling (g := g) (R' := (headSpec ws rm).room) hsize hmY hcY hframes (by rw [hlY]; omega) h4 h5) h1
  obtain ⟨mid, hmid⟩ := h.above
  have hfr : (U.setTop g).frames = (.java g :: mid) ++ below := by rw [State.frames_setTop' g h.top, hmid]; rfl
  obtain ⟨o, s₂, hsteps, -, hend, hq⟩ := Steps.callFree hM p X.admits X.cas X.clock (acts := []) hfr happ hPc trivial
  have hq' : vx_Q Qc XC mc ms free a (U.calling g mk a) o s₂ := hq
  rw [State.frames_setTop' g h.top] at hend
  obtain ⟨g₀, hg0⟩ := Option.isSome_iff_exists.mp h.top
  obtain ⟨r, hr⟩ := State.topJava?_eq_some.mp hg0
  have hr' : (({ U with heap := s₂.heap, slotsUsed := s₂.slotsUsed } : State).setVm s₂.vm).frames = .java g₀ :: r := hr
  rcases hq' with ⟨hqc, L, hfe, hL⟩ | ⟨q, rfl, E, ce, L, hx, hce, hcv, hcl, hW₂, hsm, hL⟩
  · obtain ⟨⟨v, rfl⟩, hW₂, e2, q2, q3, q4, q5, q6⟩ := id hfe
    have e3 : s₂ = ({ (U.calling g mk a).setFrames s₂.frames with heap := s₂.heap, slotsUsed := s₂.slotsUsed } : State).setVm s₂.vm := by
      have : s₂ = ({ s₂ with vm := (U.calling g mk a).vm } : State).setVm s₂.vm := rfl
      rw [e2] at this
      exact this
    obtain ⟨c₂, i₂, len₂, hc₂, hd₂, hf₂⟩ := hend
    have hW' : U.WarmedH s₂.vm := hW₂
    have hcc : c₂ = c := by
      have h1 : s₂.code? g.method = U.code? g.method := by
        rw [State.code?_eq, State.code?_eq, hW'.alike.method?]
      exact Option.some.inj (hc₂.symm.trans (h1.trans h.code))
    subst hcc
    have hlen : len₂ = len := by rw [hdg] at hd₂; cases hd₂; rfl
    subst hlen
    have hs₂ : s₂ = (({ U with heap := s₂.heap, slotsUsed := s₂.slotsUsed } : State).setVm s₂.vm).setTop { g with pc := g.pc + len₂, stack := v.toList ++ g.stack } := by
      refine e3.trans ?_
      rw [hf₂, State.calling_eq h.top, State.setFrames_setFrames, State.setTop_of_frames _ hr', hr]
      rfl
    have hsame : U.sameButNew ({ U with heap := s₂.heap, slotsUsed := s₂.slotsUsed } : State) L mc ms := by
      refine ⟨?_, q2, q3, q4, q5, q6⟩
      obtain ⟨t, ht, -⟩ := State.frames_cons hr
      show ({ U with heap := s₂.heap, slotsUsed := s₂.slotsUsed } : State) = { U.setFrames U.frames with heap := s₂.heap, slotsUsed := s₂.slotsUsed }
      rw [State.setFrames_self ht]
    subst hg
    refine Or.inl ⟨v, ⟨(({ U with heap := s₂.heap, slotsUsed := s₂.slotsUsed } : State).setVm s₂.vm), Ls ++ L, c0 + mc, s0 + ms⟩,
      ⟨X.admits, X.cas, X.clock, X.frames, X.room, X.hears, X.method, X.code, (X.here.setHeapUsed s₂.heap s₂.slotsUsed).setVm hW'.alike, X.tail, State.WarmedH.trans X.warmed hW', X.limits, X.bytes, X.same.trans (hsame.setVm s.vm)⟩,
      ⟨g, mk, s₂, L, rfl, rfl, hqc, rfl, hL, rfl, rfl⟩, ?_⟩
    show Steps p.tables e below _ ((({ U with heap := s₂.heap, slotsUsed := s₂.slotsUsed } : State).setVm s₂.vm).setTop { g with pc := g.pc + len₂, stack := v.toList ++ g.stack })
    rw [← hs₂]
    exact hsteps
  · obtain ⟨e2, q2, q3, q4, q5, q6⟩ := id hsm
    have e3 : s₂ = ({ (U.calling g mk a).setFrames s₂.frames with heap := s₂.heap, slotsUsed := s₂.slotsUsed } : State).setVm s₂.vm := by
      have : s₂ = ({ s₂ with vm := (U.calling g mk a).vm } : State).setVm s₂.vm := rfl
      rw [e2] at this
      exact this
    have hf₂ : s₂.frames = .throwing q :: .java g :: U.frames.tail := hend
    have hW' : U.WarmedH s₂.vm := hW₂
    have hs₂ : s₂ = ((({ U with heap := s₂.heap, slotsUsed := s₂.slotsUsed } : State).setVm s₂.vm).setTop g).pushFrame (.throwing q) := by
      refine e3.trans ?_
      rw [hf₂, State.calling_eq h.top, State.setFrames_setFrames, State.pushFrame, State.frames_setTop _ hr', State.setTop_of_frames _ hr', State.setFrames_setFrames, hr]
      rfl
    have hsame : U.sameButNew ({ U with heap := s₂.heap, slotsUsed := s₂.slotsUsed } : State) L mc ms := by
      refine ⟨?_, q2, q3, q4, q5, q6⟩
      obtain ⟨t, ht, -⟩ := State.frames_cons hr
      show ({ U with heap := s₂.heap, slotsUsed := s₂.slotsUsed } : State) = { U.setFrames U.frames with heap := s₂.heap, slotsUsed := s₂.slotsUsed }
      rw [State.setFrames_self ht]
    subst hg
    refine Or.inr ⟨q, ⟨(({ U with heap := s₂.heap, slotsUsed := s₂.slotsUsed } : State).setVm s₂.vm), Ls ++ L, c0 + mc, s0 + ms⟩,
      ⟨X.admits, X.cas, X.clock, X.frames, X.room, X.hears, X.method, X.code, (X.here.setHeapUsed s₂.heap s₂.slotsUsed).setVm hW'.alike, X.tail, State.WarmedH.trans X.warmed hW', X.limits, X.bytes, X.same.trans (hsame.setVm s.vm)⟩,
      ⟨g, mk, s₂, L, E, ce, rfl, rfl, hx, hce, hcv, hcl, rfl, hL, rfl, rfl⟩, ?_⟩
    show Steps p.tables e below _ (((({ U with heap := s₂.heap, slotsUsed := s₂.slotsUsed } : State).setVm s₂.vm).setTop g).pushFrame (.throwing q))
    rw [← hs₂]
    exact hsteps
end
variable {p : Program} {l : Launch} {e : Env} {R : Room} {s : State} {m : MethodId} {args : Array Value} {below : List Frame} {meth : Method} {c : Code} {T : State} {H : Heap} {locs : List Loc} {cells slots : Nat}
theorem vx_callVX (X : Stand p l e R s m args below meth c T locs cells slots) (hexec : p.tables.exec = Jvm.exec) {own C : String} {index : Nat} {y : MethodName} {bytes : ByteArray} {maxL : Nat} {ret : Option FieldType} {hh : List (Nat × Nat × Nat × Nat)}
    (hown : s.vm.findClass own = some m.cls) (hlink : (Cond.methodLink own index y).before args s = true) (hinst : (Cond.instanceMethod y).before args s = true) (hsel : (Cond.selects C y y).before args s = true)
    (hcode : (Cond.codeWith y bytes maxL ret hh).before args s = true) (hy : y.cls ≠ "java/lang/invoke/MethodHandle" ∧ y.cls ≠ "java/lang/invoke/VarHandle")
    {W9 : Nat} {Pre : Pt → Array Value → Prop} {Post : Pt → Array Value → Option Value → Pt → Prop} {PostX : Pt → Array Value → Addr → Pt → Prop} (hK : vx_Back l R p e below s args y 3 W9 Pre Post PostX)
    {b : Addr} {cellB : Cell} (hcell : T.heap[b]? = some cellB) (hobj : cellB.vm.isStatics = false) (hcls : s.vm.findClass C = some cellB.cls)
    {g : JFrame} (hg : g.method = m) (hsize : g.locals.size = c.maxLocals) {argsL rest : List Value} (hlen : ∀ sig, parseMethodDescriptor y.desc = some sig → argsL.length = sig.parameters.length)
    (hstack : g.stack = argsL.reverse ++ .ref b :: rest) (hW : 2 * g.monitorRoom + (rest.map fun v => v.category).sum ≤ W9) (hdg : decode c.code g.pc = .ok (.invokevirtual index, 3))
    (hpre : ∀ vm₁, s.WarmedH vm₁ → Pre ⟨T.setVm vm₁, locs, cells, slots⟩ (Value.ref b :: argsL).toArray) :
    (∃ (v : Option Value) (vm₁ : Vm) (B : Pt), s.WarmedH vm₁ ∧ Stand p l e R s m args below meth c B.U B.locs B.cells B.slots ∧ Post ⟨T.setVm vm₁, locs, cells, slots⟩ (Value.ref b :: argsL).toArray v B ∧
      ∀ target, Steps p.tables e below (B.U.setTop { g with pc := g.pc + 3, stack := v.toList ++ rest }) target → Steps p.tables e below (T.setTop g) target) ∨
    (∃ (q : Addr) (vm₁ : Vm) (B : Pt), s.WarmedH vm₁ ∧ Stand p l e R s m args below meth c B.U B.locs B.cells B.slots ∧ PostX ⟨T.setVm vm₁, locs, cells, slots⟩ (Value.ref b :: argsL).toArray q B ∧
      Steps p.tables e below (T.setTop g) ((B.U.setTop { g with stack := rest }).pushFrame (.throwing q))) := by
  obtain ⟨mk, methM, hnamed, hmethM, hstM, habM⟩ := Cond.instanceMethod_spec hinst
  obtain ⟨m8, methM', cM, hn8, hmethM', -, -, -, -, -, -, hsigM⟩ := Cond.codeWith_spec hcode
  cases Option.some.inj (hn8.symm.trans hnamed)
  cases hmethM.symm.trans hmethM'
  obtain ⟨c2, r2, m2, q1, q2, q3, q4, kP, hkP, hkPi⟩ := Cond.selects_spec hsel
  cases hcls.symm.trans q1
  cases (State.methodFound?_of_named hnamed hy).symm.trans q2
  cases hnamed.symm.trans q3
  have hselP : selectMethod e.platform s.vm cellB.cls mk = .method mk := by rw [Launch.admits_selectMethod X.admits]; exact q4
  obtain ⟨vm₁, X₁, hstep₁⟩ := X.invokevirtual hexec hown hlink hnamed hmethM hstM hkP hkPi hy (a := b) (cell := cellB) hcell
    (fun z h => by rw [h] at hobj; cases hobj) hselP hmethM habM hkP hkPi (g := g) hg (argsL := argsL) (rest := rest) (hlen _ hsigM) hstack hdg
  rcases hK m meth c ⟨T.setVm vm₁, locs, cells, slots⟩ { g with stack := rest } (.invokevirtual index) mk (Value.ref b :: argsL).toArray X₁ hg hsize hdg hW (X₁.named hnamed) (hpre vm₁ X₁.warmed) with ⟨v, B, X', hpost, hsteps⟩ | ⟨q, B, X', hpost, hsteps⟩
  · exact Or.inl ⟨v, vm₁, B, X₁.warmed, X', hpost, fun target h => hstep₁ _ fun acts => by rw [doInvoke_state]; exact hsteps.trans h⟩
  · exact Or.inr ⟨q, vm₁, B, X₁.warmed, X', hpost, hstep₁ _ fun acts => by rw [doInvoke_state]; exact hsteps⟩
theorem vx_callSX (X : Stand p l e R s m args below meth c T locs cells slots) (hexec : p.tables.exec = Jvm.exec) {own : String} {index : Nat} {y : MethodName} {bytes : ByteArray} {maxL : Nat} {ret : Option FieldType} {hh : List (Nat × Nat × Nat × Nat)}
    (hown : s.vm.findClass own = some m.cls) (hlink : (Cond.methodLink own index y).before args s = true) (hstat : (Cond.static y).before args s = true) (hinit : (Cond.initialized y.cls).before args s = true)
    (hcode : (Cond.codeWith y bytes maxL ret hh).before args s = true) (hy : y.cls ≠ "java/lang/invoke/MethodHandle" ∧ y.cls ≠ "java/lang/invoke/VarHandle")
    {W9 : Nat} {Pre : Pt → Array Value → Prop} {Post : Pt → Array Value → Option Value → Pt → Prop} {PostX : Pt → Array Value → Addr → Pt → Prop} (hK : vx_Back l R p e below s args y 3 W9 Pre Post PostX)
    {g : JFrame} (hg : g.method = m) (hsize : g.locals.size = c.maxLocals) {argsL rest : List Value} (hlen : ∀ sig, parseMethodDescriptor y.desc = some sig → argsL.length = sig.parameters.length)
    (hstack : g.stack = argsL.reverse ++ rest) (hW : 2 * g.monitorRoom + (rest.map fun v => v.category).sum ≤ W9) (hdg : decode c.code g.pc = .ok (.invokestatic index, 3))
    (hpre : ∀ vm₁, s.WarmedH vm₁ → Pre ⟨T.setVm vm₁, locs, cells, slots⟩ argsL.toArray) :
    (∃ (v : Option Value) (vm₁ : Vm) (B : Pt), s.WarmedH vm₁ ∧ Stand p l e R s m args below meth c B.U B.locs B.cells B.slots ∧ Post ⟨T.setVm vm₁, locs, cells, slots⟩ argsL.toArray v B ∧
      ∀ target, Steps p.tables e below (B.U.setTop { g with pc := g.pc + 3, stack := v.toList ++ rest }) target → Steps p.tables e below (T.setTop g) target) ∨
    (∃ (q : Addr) (vm₁ : Vm) (B : Pt), s.WarmedH vm₁ ∧ Stand p l e R s m args below meth c B.U B.locs B.cells B.slots ∧ PostX ⟨T.setVm vm₁, locs, cells, slots⟩ argsL.toArray q B ∧
      Steps p.tables e below (T.setTop g) ((B.U.setTop { g with stack := rest }).pushFrame (.throwing q))) := by
  obtain ⟨mk, methM, cM, hnamed, hmethM, -, -, -, -, -, -, hsigM⟩ := Cond.codeWith_spec hcode
  have hstatic : methM.isStatic = true := Cond.static_spec hnamed hmethM hstat
  obtain ⟨kP, hkP, -⟩ := className_of_methodNamed hnamed
  have hinitP : kP.init = .initialized := Cond.initialized_spec (findClass_of_methodNamed hnamed) hkP hinit
  obtain ⟨vm₁, X₁, hstep₁⟩ := X.invokestatic hexec hown hlink hnamed hmethM hstatic hkP hinitP hy (g := g) hg (argsL := argsL) (rest := rest) (hlen _ hsigM) hstack hdg
  rcases hK m meth c ⟨T.setVm vm₁, locs, cells, slots⟩ { g with stack := rest } (.invokestatic index) mk argsL.toArray X₁ hg hsize hdg hW (X₁.named hnamed) (hpre vm₁ X₁.warmed) with ⟨v, B, X', hpost, hsteps⟩ | ⟨q, B, X', hpost, hsteps⟩
  · exact Or.inl ⟨v, vm₁, B, X₁.warmed, X', hpost, fun target h => hstep₁ _ fun acts => by rw [doInvoke_state]; exact hsteps.trans h⟩
  · exact Or.inr ⟨q, vm₁, B, X₁.warmed, X', hpost, hstep₁ _ fun acts => by rw [doInvoke_state]; exact hsteps⟩
theorem vx_callVW (X : Stand p l e R s m args below meth c T locs cells slots) (hexec : p.tables.exec = Jvm.exec) {own C : String} {index : Nat} {y : MethodName} {bytes : ByteArray} {maxL : Nat} {ret : Option FieldType} {hh : List (Nat × Nat × Nat × Nat)}
    (hown : s.vm.findClass own = some m.cls) (hlink : (Cond.methodLink own index y).before args s = true) (hinst : (Cond.instanceMethod y).before args s = true) (hsel : (Cond.selects C y y).before args s = true)
    (hcode : (Cond.codeWith y bytes maxL ret hh).before args s = true) (hy : y.cls ≠ "java/lang/invoke/MethodHandle" ∧ y.cls ≠ "java/lang/invoke/VarHandle")
    {W9 : Nat} {Pre : Pt → Array Value → Prop} {Post : Pt → Array Value → Option Value → Pt → Prop} (hK : Back l R p e below s args y 3 W9 Pre Post)
    {b : Addr} {cellB : Cell} (hcell : T.heap[b]? = some cellB) (hobj : cellB.vm.isStatics = false) (hcls : s.vm.findClass C = some cellB.cls)
    {g : JFrame} (hg : g.method = m) (hsize : g.locals.size = c.maxLocals) {argsL rest : List Value} (hlen : ∀ sig, parseMethodDescriptor y.desc = some sig → argsL.length = sig.parameters.length)
    (hstack : g.stack = argsL.reverse ++ .ref b :: rest) (hW : 2 * g.monitorRoom + (rest.map fun v => v.category).sum ≤ W9) (hdg : decode c.code g.pc = .ok (.invokevirtual index, 3))
    (hpre : ∀ vm₁, s.WarmedH vm₁ → Pre ⟨T.setVm vm₁, locs, cells, slots⟩ (Value.ref b :: argsL).toArray) :
    ∃ (v : Option Value) (vm₁ : Vm) (B : Pt), s.WarmedH vm₁ ∧ Stand p l e R s m args below meth c B.U B.locs B.cells B.slots ∧ Post ⟨T.setVm vm₁, locs, cells, slots⟩ (Value.ref b :: argsL).toArray v B ∧
      ∀ target, Steps p.tables e below (B.U.setTop { g with pc := g.pc + 3, stack := v.toList ++ rest }) target → Steps p.tables e below (T.setTop g) target := by
  obtain ⟨mk, methM, hnamed, hmethM, hstM, habM⟩ := Cond.instanceMethod_spec hinst
  obtain ⟨m8, methM', cM, hn8, hmethM', -, -, -, -, -, -, hsigM⟩ := Cond.codeWith_spec hcode
  cases Option.some.inj (hn8.symm.trans hnamed)
  cases hmethM.symm.trans hmethM'
  obtain ⟨c2, r2, m2, q1, q2, q3, q4, kP, hkP, hkPi⟩ := Cond.selects_spec hsel
  cases hcls.symm.trans q1
  cases (State.methodFound?_of_named hnamed hy).symm.trans q2
  cases hnamed.symm.trans q3
  have hselP : selectMethod e.platform s.vm cellB.cls mk = .method mk := by rw [Launch.admits_selectMethod X.admits]; exact q4
  obtain ⟨vm₁, X₁, hstep₁⟩ := X.invokevirtual hexec hown hlink hnamed hmethM hstM hkP hkPi hy (a := b) (cell := cellB) hcell
    (fun z h => by rw [h] at hobj; cases hobj) hselP hmethM habM hkP hkPi (g := g) hg (argsL := argsL) (rest := rest) (hlen _ hsigM) hstack hdg
  obtain ⟨v, B, X', hpost, hsteps⟩ := hK m meth c ⟨T.setVm vm₁, locs, cells, slots⟩ { g with stack := rest } (.invokevirtual index) mk (Value.ref b :: argsL).toArray X₁ hg hsize hdg hW (X₁.named hnamed) (hpre vm₁ X₁.warmed)
  exact ⟨v, vm₁, B, X₁.warmed, X', hpost, fun target h => hstep₁ _ fun acts => by rw [doInvoke_state]; exact hsteps.trans h⟩
abbrev vx_CVW (R : Room) (s : State) (args : Array Value) (own C : String) (index : Nat) (y : MethodName) (bytes : ByteArray) (maxL : Nat) (ret : Option FieldType) (hh : List (Nat × Nat × Nat × Nat)) (ws : List Cond) (rm : Room) (mc ms n : Nat) : Prop :=
  (rm.cells = mc ∧ rm.slots = ms ∧ rm.frames + 1 ≤ R.frames ∧ 8 + (maxL + 11) + rm.locals ≤ R.locals ∧ (∀ w ∈ ws, ∀ (a' : Array Value) (U : State), s.WarmedH U.vm → w.before a' U = true) ∧ Cond.codeWith y bytes maxL ret hh ∈ ws) ∧
  (Cond.codeWith y bytes maxL ret hh).before args s = true ∧ (Cond.initialized y.cls).before args s = true ∧ (y.cls ≠ "java/lang/invoke/MethodHandle" ∧ y.cls ≠ "java/lang/invoke/VarHandle") ∧
  (∀ sig, parseMethodDescriptor y.desc = some sig → n = sig.parameters.length) ∧ (Cond.methodLink own index y).before args s = true ∧ (Cond.instanceMethod y).before args s = true ∧ (Cond.selects C y y).before args s = true
theorem vx_cwVW {own C : String} {index maxL mc ms : Nat} {y : MethodName} {bytes : ByteArray} {ret : Option FieldType} {hh : List (Nat × Nat × Nat × Nat)} {Ts ws ws' : List Cond} {rm : Room} (n : Nat) (ht : ∀ w ∈ Ts, w.before args s = true) (hT : GoodIn Ts (wsV own index C y ws)) (hw : ws = Cond.codeWith y bytes maxL ret hh :: ws') (hrc : rm.cells = mc) (hrs : rm.slots = ms)
    (hd : y.cls = C ∧ y.cls ≠ "java/lang/invoke/MethodHandle" ∧ y.cls ≠ "java/lang/invoke/VarHandle" ∧ (parseMethodDescriptor y.desc).map (fun d => d.parameters.length) = some n) (hR : rm.frames + 1 ≤ R.frames ∧ 8 + (maxL + 11) + rm.locals ≤ R.locals) :
    vx_CVW R s args own C index y bytes maxL ret hh ws rm mc ms n := by
  obtain ⟨hC, hd⟩ := hd
  subst hC
  have ok : ∀ w ∈ wsV own index y.cls y ws, w.before args s = true := fun w h => ht w (hT w h).1
  have hG : GoodIn Ts ws := fun w h => hT w (by unfold wsV; exact List.mem_append_right _ h)
  have hc : Cond.codeWith y bytes maxL ret hh ∈ ws := by rw [hw]; exact List.mem_cons_self
  refine ⟨⟨hrc, hrs, hR.1, hR.2, pay_in ht hG, hc⟩, ht _ (hG _ hc).1, ok _ (by simp [wsV]), ⟨hd.1, hd.2.1⟩, fun sig h => ?_, ok _ (by simp [wsV]), ok _ (by simp [wsV]), ok _ (by simp [wsV])⟩
  have h2 := hd.2.2
  rw [h] at h2
  exact (Option.some.inj h2).symm
theorem vx_runVW {y : MethodName} {bytes cc : ByteArray} {maxL nL mc ms n index : Nat} {ret : Option FieldType} {hh : List (Nat × Nat × Nat × Nat)} {ws : List Cond} {rm : Room} {Pc : Array Value → State → Prop} {Qc : Array Value → State → Outcome → State → Prop} {free : Addr → Prop} {Ts : List Cond} {own C : String} {b : Addr} {As rest : List Value} {g : JFrame}
    (S : CallFix p m c cc nL s args Ts own) (hM : Met l y ws rm Pc Qc mc ms free) (cw : vx_CVW R s args own C index y bytes maxL ret hh ws rm mc ms n) (hp : PreV s H C b Pc As)
    (hg : g.method = m) (hn : As.length = n) (hsize : g.locals.size = nL) (hstack : g.stack = As.reverse ++ .ref b :: rest) (hW : 2 * g.monitorRoom + (rest.map fun v => v.category).sum ≤ 8) (hdg : decode cc g.pc = .ok (.invokevirtual index, 3)) (hf : cells + mc ≤ R.cells ∧ slots + ms ≤ R.slots) :
    va_Run p l e R s m args below meth c H locs cells slots mc ms g rest (Qc (Value.ref b :: As).toArray) free := by
  obtain ⟨⟨hrc, hrs, hfr, hlo, hws, hcw⟩, hcode, hini, hy, hlen, hl, hin, hse⟩ := cw
  have hK : Back l R p e below s args y 3 8 (PreOf R mc ms Pc) (PostOf Qc mc ms free) := va_backW (hh := hh) (bytes := bytes) (maxL := maxL) (ret := ret) hM hp.1 hrc hrs hfr hlo hws hcw (fun a' U hW => word_at hW (Or.inl (by first | rfl | simp [Cond.onTables, Cond.keeps, Cond.steady])) hini)
  obtain ⟨hx, hb, hml, ho, -⟩ := S
  obtain ⟨-, ⟨cellB, hcB, hoB, hclB⟩, hPc⟩ := hp
  intro T hT X
  obtain ⟨v, vm₁, ⟨U', l2, c2, s2⟩, hW₁, X', ⟨g', mk, t, L, e1, e2, hq, h1, hL, h2, h3⟩, st⟩ := vx_callVW X hx (C := C) (hh := hh) (bytes := bytes) (maxL := maxL) (ret := ret) ho hl hin hse hcode hy hK (by rw [hT]; exact hcB) hoB hclB hg (hsize.trans hml.symm) (argsL := As) (rest := rest) (fun sig h => hn.trans (hlen sig h)) hstack hW (by rw [hb]; exact hdg)
    (fun vm₁ hW₁ => ⟨hf.1, hf.2, hPc (T.setVm vm₁) hT hW₁⟩)
  dsimp only [Pt.U, Pt.locs, Pt.cells, Pt.slots] at X' e1 e2 h1 h2 h3 st
  subst h1; subst h2; subst h3
  exact ⟨v, (T.setVm vm₁).calling g' mk (Value.ref b :: As).toArray, t, U', L, hT, X', hL, e1, e2, hq, st⟩
section
variable {y : MethodName} {bytes cc : ByteArray} {maxL nL mc ms n index : Nat} {ret : Option FieldType} {ws : List Cond} {rm : Room} {Pc : Array Value → State → Prop} {Qc : Array Value → State → Outcome → State → Prop} {XC : String → State → State → Prop} {free : Addr → Prop} {Ts : List Cond} {own C : String} {b : Addr} {As rest : List Value} {g : JFrame}
theorem vx_runVX {hh : List (Nat × Nat × Nat × Nat)} (S : CallFix p m c cc nL s args Ts own) (hM : vx_Met l y ws rm Pc Qc XC mc ms free) (cw : vx_CVW R s args own C index y bytes maxL ret hh ws rm mc ms n) (hp : PreV s H C b Pc As)
    (hg : g.method = m) (hn : As.length = n) (hsize : g.locals.size = nL) (hstack : g.stack = As.reverse ++ .ref b :: rest) (hW : 2 * g.monitorRoom + (rest.map fun v => v.category).sum ≤ 8) (hdg : decode cc g.pc = .ok (.invokevirtual index, 3)) (hf : cells + mc ≤ R.cells ∧ slots + ms ≤ R.slots) :
    vx_Run p l e R s m args below meth c H locs cells slots mc ms g rest (Qc (Value.ref b :: As).toArray) XC free := by
  obtain ⟨⟨hrc, hrs, hfr, hlo, hws, hcw⟩, hcode, hini, hy, hlen, hl, hin, hse⟩ := cw
  have hK : vx_Back l R p e below s args y 3 8 (PreOf R mc ms Pc) (PostOf Qc mc ms free) (vx_Post XC mc ms free) := vx_backW (hh := hh) (bytes := bytes) (maxL := maxL) (ret := ret) hM hp.1 hrc hrs hfr hlo hws hcw (fun a' U hW => word_at hW (Or.inl (by first | rfl | simp [Cond.onTables, Cond.keeps, Cond.steady])) hini)
  obtain ⟨hx, hb, hml, ho, -⟩ := S
  obtain ⟨-, ⟨cellB, hcB, hoB, hclB⟩, hPc⟩ := hp
  intro T hT X
  rcases vx_callVX X hx (C := C) (hh := hh) (bytes := bytes) (maxL := maxL) (ret := ret) ho hl hin hse hcode hy hK (by rw [hT]; exact hcB) hoB hclB hg (hsize.trans hml.symm) (argsL := As) (rest := rest) (fun sig h => hn.trans (hlen sig h)) hstack hW (by rw [hb]; exact hdg)
    (fun vm₁ hW₁ => ⟨hf.1, hf.2, hPc (T.setVm vm₁) hT hW₁⟩) with ⟨v, vm₁, ⟨U', l2, c2, s2⟩, hW₁, X', ⟨g', mk, t, L, e1, e2, hq, h1, hL, h2, h3⟩, st⟩ | ⟨q, vm₁, ⟨U', l2, c2, s2⟩, hW₁, X', ⟨g', mk, t, L, E, ce, e1, e2, hq, hce, hcv, hcl, h1, hL, h2, h3⟩, st⟩
  · dsimp only [Pt.U, Pt.locs, Pt.cells, Pt.slots] at X' e1 e2 h1 h2 h3 st
    subst h1; subst h2; subst h3
    exact Or.inl ⟨v, (T.setVm vm₁).calling g' mk (Value.ref b :: As).toArray, t, U', L, hT, X', hL, e1, e2, hq, st⟩
  · dsimp only [Pt.U, Pt.locs, Pt.cells, Pt.slots] at X' e1 e2 h1 h2 h3 st hcl
    subst h1; subst h2; subst h3
    exact Or.inr ⟨q, (T.setVm vm₁).calling g' mk (Value.ref b :: As).toArray, t, U', L, E, ce, hT, X', hL, e1, e2, hq, hce, hcv, vx_cls hW₁ hcl, st⟩
theorem vx_runSX {hh : List (Nat × Nat × Nat × Nat)} (S : CallFix p m c cc nL s args Ts own) (hM : vx_Met l y ws rm Pc Qc XC mc ms free) (cw : vx_CSW R s args own index y bytes maxL ret hh ws rm mc ms n) (hp : PreS s H Pc As)
    (hg : g.method = m) (hn : As.length = n) (hsize : g.locals.size = nL) (hstack : g.stack = As.reverse ++ rest) (hW : 2 * g.monitorRoom + (rest.map fun v => v.category).sum ≤ 8) (hdg : decode cc g.pc = .ok (.invokestatic index, 3)) (hf : cells + mc ≤ R.cells ∧ slots + ms ≤ R.slots) :
    vx_Run p l e R s m args below meth c H locs cells slots mc ms g rest (Qc As.toArray) XC free := by
  obtain ⟨⟨hrc, hrs, hfr, hlo, hws, hcw⟩, hcode, hini, hy, hlen, hl, hstt⟩ := cw
  have hK : vx_Back l R p e below s args y 3 8 (PreOf R mc ms Pc) (PostOf Qc mc ms free) (vx_Post XC mc ms free) := vx_backW (hh := hh) (bytes := bytes) (maxL := maxL) (ret := ret) hM hp.1 hrc hrs hfr hlo hws hcw (fun a' U hW => word_at hW (Or.inl (by first | rfl | simp [Cond.onTables, Cond.keeps, Cond.steady])) hini)
  obtain ⟨hx, hb, hml, ho, -⟩ := S
  intro T hT X
  rcases vx_callSX X hx (hh := hh) (bytes := bytes) (maxL := maxL) (ret := ret) ho hl hstt hini hcode hy hK hg (hsize.trans hml.symm) (argsL := As) (rest := rest) (fun sig h => hn.trans (hlen sig h)) hstack hW (by rw [hb]; exact hdg)
    (fun vm₁ hW₁ => ⟨hf.1, hf.2, hp.2 (T.setVm vm₁) hT hW₁⟩) with ⟨v, vm₁, ⟨U', l2, c2, s2⟩, hW₁, X', ⟨g', mk, t, L, e1, e2, hq, h1, hL, h2, h3⟩, st⟩ | ⟨q, vm₁, ⟨U', l2, c2, s2⟩, hW₁, X', ⟨g', mk, t, L, E, ce, e1, e2, hq, hce, hcv, hcl, h1, hL, h2, h3⟩, st⟩
  · dsimp only [Pt.U, Pt.locs, Pt.cells, Pt.slots] at X' e1 e2 h1 h2 h3 st
    subst h1; subst h2; subst h3
    exact Or.inl ⟨v, (T.setVm vm₁).calling g' mk As.toArray, t, U', L, hT, X', hL, e1, e2, hq, st⟩
  · dsimp only [Pt.U, Pt.locs, Pt.cells, Pt.slots] at X' e1 e2 h1 h2 h3 st hcl
    subst h1; subst h2; subst h3
    exact Or.inr ⟨q, (T.setVm vm₁).calling g' mk As.toArray, t, U', L, E, ce, hT, X', hL, e1, e2, hq, hce, hcv, vx_cls hW₁ hcl, st⟩
end
end VXH
theorem vx_ofWH {l : Launch} {y : MethodName} {ws ws' : List Cond} {rm : Room} {Pc : Array Value → State → Prop} {Qc : Array Value → State → Outcome → State → Prop} {XC : String → State → State → Prop} {mc ms : Nat} {free : Addr → Prop} {cc : ByteArray} {maxL : Nat} {ret : Option FieldType} {hh : List (Nat × Nat × Nat × Nat)}
    (hy : plainName y.cls = true) (hw : ws = Cond.codeWith y cc maxL ret hh :: ws')
    (body : ∀ p e s m args below meth c s₁, BodyLoose p l y (headSpec ws rm) cc maxL ret e s m args below meth c s₁ → c.maxLocals = maxL → Pc args s →
      W p l e (headSpec ws rm).room s m args below meth c s.heap [] 0 0 (vx_MQ below Qc XC args s mc ms free) (entryFrame m args maxL)) : vx_Met l y ws rm Pc Qc XC mc ms free := by
  refine MetFree.of_bodyS (code := cc) (maxLocals := maxL) (ret := ret) hy ?_ ?_
  · intro args s m h hn
    obtain ⟨m9, meth, c, hn9, h1, h2, h3, h4, -, h5, h6, -⟩ := Cond.codeWith_spec (atoms_spec (ws := ws) h _ (by rw [hw]; exact List.mem_cons_self))
    cases hn.symm.trans hn9
    exact ⟨meth, c, h1, h2, h3, h4, h5, h6⟩
  · intro p e s m args below meth c s₁ B hml hP _
    have hh0 : s₁.heap = s.heap := by rw [B.state]; rfl
    obtain ⟨t, a1, o, b1, b2, b3⟩ := body p e s m args below meth c s₁ B hml hP s₁ hh0 (Stand.of_body B)
    exact ⟨t, o, a1, b1, b2, b3⟩
/-! ===== END ===== -/

def RX0 : String := "DirectoryServers$Directory"
def TX0 : u_T := fun k => match k with
  | 0 => ("DirectoryServers$Directory", "number", "I", true)
  | 1 => ("DirectoryServers$Directory", "parent", "LDirectoryServers$Directory;", false)
  | 2 => ("DirectoryServers$Directory", "nameInParent", "I", false)
  | 3 => ("DirectoryServers$Directory", "meanings", "[I", true)
  | 4 => ("DirectoryServers$Directory", "ages", "[I", true)
  | 5 => ("DirectoryServers$Directory", "leaseEnds", "[[I", true)
  | _ => ("DirectoryServers$Directory", "byHash", "[LDirectoryServers$Fragment;", true)
def tyX0 : Nat → FieldType := fun k => match k with
  | 0 => .int
  | 1 => .object "DirectoryServers$Directory"
  | 2 => .int
  | 3 => .array .int
  | 4 => .array .int
  | 5 => .array (.array .int)
  | _ => .array (.object "DirectoryServers$Fragment")
theorem nmX0 : ∀ a, a < 7 → ∀ b, b < 7 → a ≠ b → (TX0 a).2.1 ≠ (TX0 b).2.1 := by decide +kernel
theorem tyX0_ok : ∀ k, k < 7 → parseFieldDescriptor (TX0 k).2.2.1 = some (tyX0 k) := by decide +kernel
abbrev cX0_init : ByteArray := prog_2_method_1_code
def yX0_init : MethodName := ⟨RX0, "<init>", "(ILDirectoryServers$Directory;II)V"⟩
abbrev cX0_isName : ByteArray := prog_2_method_2_code
def yX0_isName : MethodName := ⟨RX0, "isName", "(I)Z"⟩
abbrev cX0_meaningOf : ByteArray := prog_2_method_3_code
def yX0_meaningOf : MethodName := ⟨RX0, "meaningOf", "(I)I"⟩
abbrev cX0_ageOf : ByteArray := prog_2_method_4_code
def yX0_ageOf : MethodName := ⟨RX0, "ageOf", "(I)I"⟩
abbrev cX0_setMeaning : ByteArray := prog_2_method_5_code
def yX0_setMeaning : MethodName := ⟨RX0, "setMeaning", "(III)V"⟩
abbrev cX0_countTaken : ByteArray := prog_2_method_6_code
def yX0_countTaken : MethodName := ⟨RX0, "countTaken", "()I"⟩
abbrev cX0_countLinksTo : ByteArray := prog_2_method_7_code
def yX0_countLinksTo : MethodName := ⟨RX0, "countLinksTo", "(I)I"⟩
abbrev cX0_oldestLink : ByteArray := prog_2_method_8_code
def yX0_oldestLink : MethodName := ⟨RX0, "oldestLink", "(I)I"⟩
abbrev cX0_isWithin : ByteArray := prog_2_method_9_code
def yX0_isWithin : MethodName := ⟨RX0, "isWithin", "(LDirectoryServers$Directory;)Z"⟩
abbrev cX0_isClient : ByteArray := prog_2_method_10_code
def yX0_isClient : MethodName := ⟨RX0, "isClient", "(I)Z"⟩
abbrev cX0_leaseRuns : ByteArray := prog_2_method_11_code
def yX0_leaseRuns : MethodName := ⟨RX0, "leaseRuns", "(III)Z"⟩
abbrev cX0_setLeaseEnd : ByteArray := prog_2_method_12_code
def yX0_setLeaseEnd : MethodName := ⟨RX0, "setLeaseEnd", "(III)V"⟩
abbrev cX0_countLeases : ByteArray := prog_2_method_13_code
def yX0_countLeases : MethodName := ⟨RX0, "countLeases", "(II)I"⟩
abbrev cX0_fragmentAt : ByteArray := prog_2_method_14_code
def yX0_fragmentAt : MethodName := ⟨RX0, "fragmentAt", "(I)LDirectoryServers$Fragment;"⟩
abbrev cX0_fragmentOfName : ByteArray := prog_2_method_15_code
def yX0_fragmentOfName : MethodName := ⟨RX0, "fragmentOfName", "(I)LDirectoryServers$Fragment;"⟩
abbrev cX0_fragmentBeginningAt : ByteArray := prog_2_method_16_code
def yX0_fragmentBeginningAt : MethodName := ⟨RX0, "fragmentBeginningAt", "(I)LDirectoryServers$Fragment;"⟩
abbrev cX0_countFragments : ByteArray := prog_2_method_17_code
def yX0_countFragments : MethodName := ⟨RX0, "countFragments", "()I"⟩
abbrev cX0_halve : ByteArray := prog_2_method_18_code
def yX0_halve : MethodName := ⟨RX0, "halve", "(LDirectoryServers$Fragment;)V"⟩
abbrev cX0_join : ByteArray := prog_2_method_19_code
def yX0_join : MethodName := ⟨RX0, "join", "(LDirectoryServers$Fragment;LDirectoryServers$Fragment;)V"⟩
abbrev cX0_putByHash : ByteArray := prog_2_method_20_code
def yX0_putByHash : MethodName := ⟨RX0, "putByHash", "(LDirectoryServers$Fragment;)V"⟩
def RX1 : String := "DirectoryServers$Fragment"
def TX1 : u_T := fun k => match k with
  | 0 => ("DirectoryServers$Fragment", "directory", "I", true)
  | 1 => ("DirectoryServers$Fragment", "begin", "I", true)
  | 2 => ("DirectoryServers$Fragment", "size", "I", false)
  | 3 => ("DirectoryServers$Fragment", "owner", "I", false)
  | _ => ("DirectoryServers$Fragment", "load", "I", false)
def tyX1 : Nat → FieldType := fun k => match k with
  | 0 => .int
  | 1 => .int
  | 2 => .int
  | 3 => .int
  | _ => .int
theorem nmX1 : ∀ a, a < 5 → ∀ b, b < 5 → a ≠ b → (TX1 a).2.1 ≠ (TX1 b).2.1 := by decide +kernel
theorem tyX1_ok : ∀ k, k < 5 → parseFieldDescriptor (TX1 k).2.2.1 = some (tyX1 k) := by decide +kernel
abbrev cX1_init : ByteArray := prog_3_method_1_code
def yX1_init : MethodName := ⟨RX1, "<init>", "(IIIII)V"⟩
def RX2 : String := "DirectoryServers"
def TX2 : u_T := fun k => match k with
  | 0 => ("DirectoryServers", "directories", "[LDirectoryServers$Directory;", true)
  | 1 => ("DirectoryServers", "directoriesMade", "I", false)
  | 2 => ("DirectoryServers", "filesMade", "I", false)
  | 3 => ("DirectoryServers", "linksMade", "I", false)
  | 4 => ("DirectoryServers", "time", "I", false)
  | 5 => ("DirectoryServers", "recallCounts", "[I", true)
  | 6 => ("DirectoryServers", "knownCounts", "[I", true)
  | 7 => ("DirectoryServers", "moving", "LDirectoryServers$Fragment;", false)
  | 8 => ("DirectoryServers", "moveServer", "I", false)
  | _ => ("DirectoryServers", "moveSteps", "I", false)
def tyX2 : Nat → FieldType := fun k => match k with
  | 0 => .array (.object "DirectoryServers$Directory")
  | 1 => .int
  | 2 => .int
  | 3 => .int
  | 4 => .int
  | 5 => .array .int
  | 6 => .array .int
  | 7 => .object "DirectoryServers$Fragment"
  | 8 => .int
  | _ => .int
theorem nmX2 : ∀ a, a < 10 → ∀ b, b < 10 → a ≠ b → (TX2 a).2.1 ≠ (TX2 b).2.1 := by decide +kernel
theorem tyX2_ok : ∀ k, k < 10 → parseFieldDescriptor (TX2 k).2.2.1 = some (tyX2 k) := by decide +kernel
abbrev cX2_init : ByteArray := prog_1_method_1_code
def yX2_init : MethodName := ⟨RX2, "<init>", "()V"⟩
abbrev cX2_lookup : ByteArray := prog_1_method_2_code
def yX2_lookup : MethodName := ⟨RX2, "lookup", "(III)I"⟩
abbrev cX2_makeDirectory : ByteArray := prog_1_method_3_code
def yX2_makeDirectory : MethodName := ⟨RX2, "makeDirectory", "(III)I"⟩
abbrev cX2_makeFile : ByteArray := prog_1_method_4_code
def yX2_makeFile : MethodName := ⟨RX2, "makeFile", "(III)I"⟩
abbrev cX2_link : ByteArray := prog_1_method_5_code
def yX2_link : MethodName := ⟨RX2, "link", "(IIII)I"⟩
abbrev cX2_remove : ByteArray := prog_1_method_6_code
def yX2_remove : MethodName := ⟨RX2, "remove", "(III)I"⟩
abbrev cX2_rename : ByteArray := prog_1_method_7_code
def yX2_rename : MethodName := ⟨RX2, "rename", "(IIIII)V"⟩
abbrev cX2_pass : ByteArray := prog_1_method_8_code
def yX2_pass : MethodName := ⟨RX2, "pass", "(I)I"⟩
abbrev cX2_leases : ByteArray := prog_1_method_9_code
def yX2_leases : MethodName := ⟨RX2, "leases", "(I)I"⟩
abbrev cX2_recalls : ByteArray := prog_1_method_10_code
def yX2_recalls : MethodName := ⟨RX2, "recalls", "(I)I"⟩
abbrev cX2_known : ByteArray := prog_1_method_11_code
def yX2_known : MethodName := ⟨RX2, "known", "(I)I"⟩
abbrev cX2_split : ByteArray := prog_1_method_12_code
def yX2_split : MethodName := ⟨RX2, "split", "(II)I"⟩
abbrev cX2_merge : ByteArray := prog_1_method_13_code
def yX2_merge : MethodName := ⟨RX2, "merge", "(II)I"⟩
abbrev cX2_fragments : ByteArray := prog_1_method_14_code
def yX2_fragments : MethodName := ⟨RX2, "fragments", "(I)I"⟩
abbrev cX2_serverOf : ByteArray := prog_1_method_15_code
def yX2_serverOf : MethodName := ⟨RX2, "serverOf", "(II)I"⟩
abbrev cX2_ownerOf : ByteArray := prog_1_method_16_code
def yX2_ownerOf : MethodName := ⟨RX2, "ownerOf", "(II)I"⟩
abbrev cX2_load : ByteArray := prog_1_method_17_code
def yX2_load : MethodName := ⟨RX2, "load", "(I)I"⟩
abbrev cX2_beginMove : ByteArray := prog_1_method_18_code
def yX2_beginMove : MethodName := ⟨RX2, "beginMove", "(III)V"⟩
abbrev cX2_stepMove : ByteArray := prog_1_method_19_code
def yX2_stepMove : MethodName := ⟨RX2, "stepMove", "()I"⟩
abbrev cX2_giveUpMove : ByteArray := prog_1_method_20_code
def yX2_giveUpMove : MethodName := ⟨RX2, "giveUpMove", "()I"⟩
abbrev cX2_isFrozen : ByteArray := prog_1_method_21_code
def yX2_isFrozen : MethodName := ⟨RX2, "isFrozen", "(II)Z"⟩
abbrev cX2_balance : ByteArray := prog_1_method_22_code
def yX2_balance : MethodName := ⟨RX2, "balance", "()I"⟩
abbrev cX2_links : ByteArray := prog_1_method_23_code
def yX2_links : MethodName := ⟨RX2, "links", "(I)I"⟩
abbrev cX2_anchor : ByteArray := prog_1_method_24_code
def yX2_anchor : MethodName := ⟨RX2, "anchor", "(I)I"⟩
abbrev cX2_byTree : ByteArray := prog_1_method_25_code
def yX2_byTree : MethodName := ⟨RX2, "byTree", "(II)I"⟩
abbrev cX2_size : ByteArray := prog_1_method_26_code
def yX2_size : MethodName := ⟨RX2, "size", "(I)I"⟩
abbrev cX2_needClient : ByteArray := prog_1_method_27_code
def yX2_needClient : MethodName := ⟨RX2, "needClient", "(I)V"⟩
abbrev cX2_needServer : ByteArray := prog_1_method_28_code
def yX2_needServer : MethodName := ⟨RX2, "needServer", "(I)V"⟩
abbrev cX2_needName : ByteArray := prog_1_method_29_code
def yX2_needName : MethodName := ⟨RX2, "needName", "(I)V"⟩
abbrev cX2_needHash : ByteArray := prog_1_method_30_code
def yX2_needHash : MethodName := ⟨RX2, "needHash", "(I)V"⟩
abbrev cX2_needDirectory : ByteArray := prog_1_method_31_code
def yX2_needDirectory : MethodName := ⟨RX2, "needDirectory", "(I)LDirectoryServers$Directory;"⟩
abbrev cX2_needFile : ByteArray := prog_1_method_32_code
def yX2_needFile : MethodName := ⟨RX2, "needFile", "(I)V"⟩
abbrev cX2_needFree : ByteArray := prog_1_method_33_code
def yX2_needFree : MethodName := ⟨RX2, "needFree", "(LDirectoryServers$Directory;I)V"⟩
abbrev cX2_needTaken : ByteArray := prog_1_method_34_code
def yX2_needTaken : MethodName := ⟨RX2, "needTaken", "(LDirectoryServers$Directory;I)V"⟩
abbrev cX2_needRemovable : ByteArray := prog_1_method_35_code
def yX2_needRemovable : MethodName := ⟨RX2, "needRemovable", "(LDirectoryServers$Directory;)V"⟩
abbrev cX2_needNoMove : ByteArray := prog_1_method_36_code
def yX2_needNoMove : MethodName := ⟨RX2, "needNoMove", "()V"⟩
abbrev cX2_directoryNumbered : ByteArray := prog_1_method_37_code
def yX2_directoryNumbered : MethodName := ⟨RX2, "directoryNumbered", "(I)LDirectoryServers$Directory;"⟩
abbrev cX2_directoryMeant : ByteArray := prog_1_method_38_code
def yX2_directoryMeant : MethodName := ⟨RX2, "directoryMeant", "(I)LDirectoryServers$Directory;"⟩
abbrev cX2_dropDirectory : ByteArray := prog_1_method_39_code
def yX2_dropDirectory : MethodName := ⟨RX2, "dropDirectory", "(I)V"⟩
abbrev cX2_makeLink : ByteArray := prog_1_method_40_code
def yX2_makeLink : MethodName := ⟨RX2, "makeLink", "(ILDirectoryServers$Directory;II)V"⟩
abbrev cX2_changeName : ByteArray := prog_1_method_41_code
def yX2_changeName : MethodName := ⟨RX2, "changeName", "(ILDirectoryServers$Directory;III)V"⟩
abbrev cX2_endLeases : ByteArray := prog_1_method_42_code
def yX2_endLeases : MethodName := ⟨RX2, "endLeases", "(LDirectoryServers$Directory;II)V"⟩
abbrev cX2_recallFrozenNames : ByteArray := prog_1_method_43_code
def yX2_recallFrozenNames : MethodName := ⟨RX2, "recallFrozenNames", "()V"⟩
abbrev cX2_recallFrozenNamesOf : ByteArray := prog_1_method_44_code
def yX2_recallFrozenNamesOf : MethodName := ⟨RX2, "recallFrozenNamesOf", "(LDirectoryServers$Directory;)V"⟩
abbrev cX2_countLinks : ByteArray := prog_1_method_45_code
def yX2_countLinks : MethodName := ⟨RX2, "countLinks", "(I)I"⟩
abbrev cX2_serverOfFragment : ByteArray := prog_1_method_46_code
def yX2_serverOfFragment : MethodName := ⟨RX2, "serverOfFragment", "(LDirectoryServers$Fragment;)I"⟩
abbrev cX2_fragmentAbove : ByteArray := prog_1_method_47_code
def yX2_fragmentAbove : MethodName := ⟨RX2, "fragmentAbove", "(LDirectoryServers$Fragment;)LDirectoryServers$Fragment;"⟩
abbrev cX2_frozen : ByteArray := prog_1_method_48_code
def yX2_frozen : MethodName := ⟨RX2, "frozen", "(LDirectoryServers$Fragment;)Z"⟩
abbrev cX2_startMove : ByteArray := prog_1_method_49_code
def yX2_startMove : MethodName := ⟨RX2, "startMove", "(LDirectoryServers$Fragment;I)V"⟩
abbrev cX2_loadOfServer : ByteArray := prog_1_method_50_code
def yX2_loadOfServer : MethodName := ⟨RX2, "loadOfServer", "(I)I"⟩
abbrev cX2_heaviestFragment : ByteArray := prog_1_method_51_code
def yX2_heaviestFragment : MethodName := ⟨RX2, "heaviestFragment", "(II)LDirectoryServers$Fragment;"⟩
abbrev cX2_halveLoads : ByteArray := prog_1_method_52_code
def yX2_halveLoads : MethodName := ⟨RX2, "halveLoads", "()V"⟩
abbrev cX2_fragmentInSlot : ByteArray := prog_1_method_53_code
def yX2_fragmentInSlot : MethodName := ⟨RX2, "fragmentInSlot", "(I)LDirectoryServers$Fragment;"⟩
def RX3 : String := "DirectoryServersModel"
def TX3 : u_T := fun k => match k with
  | 0 => ("DirectoryServersModel", "thrown", "I", false)
  | 1 => ("DirectoryServersModel", "now", "I", false)
  | 2 => ("DirectoryServersModel", "dirMany", "I", false)
  | 3 => ("DirectoryServersModel", "isThere", "[Z", true)
  | 4 => ("DirectoryServersModel", "above", "[I", true)
  | 5 => ("DirectoryServersModel", "nameOf", "[I", true)
  | 6 => ("DirectoryServersModel", "stands", "[I", true)
  | 7 => ("DirectoryServersModel", "ages", "[I", true)
  | 8 => ("DirectoryServersModel", "links", "I", false)
  | 9 => ("DirectoryServersModel", "fileMany", "I", false)
  | 10 => ("DirectoryServersModel", "sizes", "[I", true)
  | 11 => ("DirectoryServersModel", "owners", "[I", true)
  | 12 => ("DirectoryServersModel", "loads", "[I", true)
  | 13 => ("DirectoryServersModel", "until", "[I", true)
  | 14 => ("DirectoryServersModel", "recalled", "[I", true)
  | 15 => ("DirectoryServersModel", "knew", "[I", true)
  | 16 => ("DirectoryServersModel", "moved", "I", false)
  | 17 => ("DirectoryServersModel", "toServer", "I", false)
  | _ => ("DirectoryServersModel", "steps", "I", false)
def tyX3 : Nat → FieldType := fun k => match k with
  | 0 => .int
  | 1 => .int
  | 2 => .int
  | 3 => .array .boolean
  | 4 => .array .int
  | 5 => .array .int
  | 6 => .array .int
  | 7 => .array .int
  | 8 => .int
  | 9 => .int
  | 10 => .array .int
  | 11 => .array .int
  | 12 => .array .int
  | 13 => .array .int
  | 14 => .array .int
  | 15 => .array .int
  | 16 => .int
  | 17 => .int
  | _ => .int
theorem nmX3 : ∀ a, a < 19 → ∀ b, b < 19 → a ≠ b → (TX3 a).2.1 ≠ (TX3 b).2.1 := by decide +kernel
theorem tyX3_ok : ∀ k, k < 19 → parseFieldDescriptor (TX3 k).2.2.1 = some (tyX3 k) := by decide +kernel
abbrev cX3_init : ByteArray := prog_5_method_1_code
def yX3_init : MethodName := ⟨RX3, "<init>", "()V"⟩
abbrev cX3_thrown : ByteArray := prog_5_method_2_code
def yX3_thrown : MethodName := ⟨RX3, "thrown", "()I"⟩
abbrev cX3_fails : ByteArray := prog_5_method_3_code
def yX3_fails : MethodName := ⟨RX3, "fails", "(I)I"⟩
abbrev cX3_in : ByteArray := prog_5_method_4_code
def yX3_in : MethodName := ⟨RX3, "in", "(III)Z"⟩
abbrev cX3_isName : ByteArray := prog_5_method_5_code
def yX3_isName : MethodName := ⟨RX3, "isName", "(I)Z"⟩
abbrev cX3_isHash : ByteArray := prog_5_method_6_code
def yX3_isHash : MethodName := ⟨RX3, "isHash", "(I)Z"⟩
abbrev cX3_isClient : ByteArray := prog_5_method_7_code
def yX3_isClient : MethodName := ⟨RX3, "isClient", "(I)Z"⟩
abbrev cX3_isDirectory : ByteArray := prog_5_method_8_code
def yX3_isDirectory : MethodName := ⟨RX3, "isDirectory", "(I)Z"⟩
abbrev cX3_at : ByteArray := prog_5_method_9_code
def yX3_at : MethodName := ⟨RX3, "at", "(II)I"⟩
abbrev cX3_hash : ByteArray := prog_5_method_10_code
def yX3_hash : MethodName := ⟨RX3, "hash", "(I)I"⟩
abbrev cX3_begins : ByteArray := prog_5_method_11_code
def yX3_begins : MethodName := ⟨RX3, "begins", "(II)V"⟩
abbrev cX3_fragment : ByteArray := prog_5_method_12_code
def yX3_fragment : MethodName := ⟨RX3, "fragment", "(II)I"⟩
abbrev cX3_fragmentOfName : ByteArray := prog_5_method_13_code
def yX3_fragmentOfName : MethodName := ⟨RX3, "fragmentOfName", "(II)I"⟩
abbrev cX3_inherited : ByteArray := prog_5_method_14_code
def yX3_inherited : MethodName := ⟨RX3, "inherited", "(I)I"⟩
abbrev cX3_server : ByteArray := prog_5_method_15_code
def yX3_server : MethodName := ⟨RX3, "server", "(I)I"⟩
abbrev cX3_frozen : ByteArray := prog_5_method_16_code
def yX3_frozen : MethodName := ⟨RX3, "frozen", "(I)Z"⟩
abbrev cX3_isFrozenName : ByteArray := prog_5_method_17_code
def yX3_isFrozenName : MethodName := ⟨RX3, "isFrozenName", "(II)Z"⟩
abbrev cX3_runs : ByteArray := prog_5_method_18_code
def yX3_runs : MethodName := ⟨RX3, "runs", "(II)Z"⟩
abbrev cX3_ends : ByteArray := prog_5_method_19_code
def yX3_ends : MethodName := ⟨RX3, "ends", "(II)V"⟩
abbrev cX3_changes : ByteArray := prog_5_method_20_code
def yX3_changes : MethodName := ⟨RX3, "changes", "(III)V"⟩
abbrev cX3_barsName : ByteArray := prog_5_method_21_code
def yX3_barsName : MethodName := ⟨RX3, "barsName", "(III)I"⟩
abbrev cX3_lookup : ByteArray := prog_5_method_22_code
def yX3_lookup : MethodName := ⟨RX3, "lookup", "(III)I"⟩
abbrev cX3_barsNew : ByteArray := prog_5_method_23_code
def yX3_barsNew : MethodName := ⟨RX3, "barsNew", "(III)I"⟩
abbrev cX3_makeDirectory : ByteArray := prog_5_method_24_code
def yX3_makeDirectory : MethodName := ⟨RX3, "makeDirectory", "(III)I"⟩
abbrev cX3_links : ByteArray := prog_5_method_25_code
def yX3_links : MethodName := ⟨RX3, "links", "(II)V"⟩
abbrev cX3_makeFile : ByteArray := prog_5_method_26_code
def yX3_makeFile : MethodName := ⟨RX3, "makeFile", "(III)I"⟩
abbrev cX3_countLinks : ByteArray := prog_5_method_27_code
def yX3_countLinks : MethodName := ⟨RX3, "countLinks", "(I)I"⟩
abbrev cX3_isFile : ByteArray := prog_5_method_28_code
def yX3_isFile : MethodName := ⟨RX3, "isFile", "(I)Z"⟩
abbrev cX3_link : ByteArray := prog_5_method_29_code
def yX3_link : MethodName := ⟨RX3, "link", "(IIII)I"⟩
abbrev cX3_used : ByteArray := prog_5_method_30_code
def yX3_used : MethodName := ⟨RX3, "used", "(I)I"⟩
abbrev cX3_isHeld : ByteArray := prog_5_method_31_code
def yX3_isHeld : MethodName := ⟨RX3, "isHeld", "(I)Z"⟩
abbrev cX3_remove : ByteArray := prog_5_method_32_code
def yX3_remove : MethodName := ⟨RX3, "remove", "(III)I"⟩
abbrev cX3_isBelow : ByteArray := prog_5_method_33_code
def yX3_isBelow : MethodName := ⟨RX3, "isBelow", "(II)Z"⟩
abbrev cX3_rename : ByteArray := prog_5_method_34_code
def yX3_rename : MethodName := ⟨RX3, "rename", "(IIIII)V"⟩
abbrev cX3_pass : ByteArray := prog_5_method_35_code
def yX3_pass : MethodName := ⟨RX3, "pass", "(I)I"⟩
abbrev cX3_leases : ByteArray := prog_5_method_36_code
def yX3_leases : MethodName := ⟨RX3, "leases", "(I)I"⟩
abbrev cX3_recalls : ByteArray := prog_5_method_37_code
def yX3_recalls : MethodName := ⟨RX3, "recalls", "(I)I"⟩
abbrev cX3_known : ByteArray := prog_5_method_38_code
def yX3_known : MethodName := ⟨RX3, "known", "(I)I"⟩
abbrev cX3_barsHash : ByteArray := prog_5_method_39_code
def yX3_barsHash : MethodName := ⟨RX3, "barsHash", "(II)I"⟩
abbrev cX3_count : ByteArray := prog_5_method_40_code
def yX3_count : MethodName := ⟨RX3, "count", "(I)I"⟩
abbrev cX3_split : ByteArray := prog_5_method_41_code
def yX3_split : MethodName := ⟨RX3, "split", "(II)I"⟩
abbrev cX3_merge : ByteArray := prog_5_method_42_code
def yX3_merge : MethodName := ⟨RX3, "merge", "(II)I"⟩
abbrev cX3_fragments : ByteArray := prog_5_method_43_code
def yX3_fragments : MethodName := ⟨RX3, "fragments", "(I)I"⟩
abbrev cX3_barsPlain : ByteArray := prog_5_method_44_code
def yX3_barsPlain : MethodName := ⟨RX3, "barsPlain", "(II)I"⟩
abbrev cX3_serverOf : ByteArray := prog_5_method_45_code
def yX3_serverOf : MethodName := ⟨RX3, "serverOf", "(II)I"⟩
abbrev cX3_ownerOf : ByteArray := prog_5_method_46_code
def yX3_ownerOf : MethodName := ⟨RX3, "ownerOf", "(II)I"⟩
abbrev cX3_loadOf : ByteArray := prog_5_method_47_code
def yX3_loadOf : MethodName := ⟨RX3, "loadOf", "(I)I"⟩
abbrev cX3_load : ByteArray := prog_5_method_48_code
def yX3_load : MethodName := ⟨RX3, "load", "(I)I"⟩
abbrev cX3_moves : ByteArray := prog_5_method_49_code
def yX3_moves : MethodName := ⟨RX3, "moves", "(II)V"⟩
abbrev cX3_beginMove : ByteArray := prog_5_method_50_code
def yX3_beginMove : MethodName := ⟨RX3, "beginMove", "(III)V"⟩
abbrev cX3_stepMove : ByteArray := prog_5_method_51_code
def yX3_stepMove : MethodName := ⟨RX3, "stepMove", "()I"⟩
abbrev cX3_giveUpMove : ByteArray := prog_5_method_52_code
def yX3_giveUpMove : MethodName := ⟨RX3, "giveUpMove", "()I"⟩
abbrev cX3_isFrozen : ByteArray := prog_5_method_53_code
def yX3_isFrozen : MethodName := ⟨RX3, "isFrozen", "(II)Z"⟩
abbrev cX3_balance : ByteArray := prog_5_method_54_code
def yX3_balance : MethodName := ⟨RX3, "balance", "()I"⟩
abbrev cX3_links_ : ByteArray := prog_5_method_55_code
def yX3_links_ : MethodName := ⟨RX3, "links", "(I)I"⟩
abbrev cX3_anchor : ByteArray := prog_5_method_56_code
def yX3_anchor : MethodName := ⟨RX3, "anchor", "(I)I"⟩
abbrev cX3_byTree : ByteArray := prog_5_method_57_code
def yX3_byTree : MethodName := ⟨RX3, "byTree", "(II)I"⟩
abbrev cX3_size : ByteArray := prog_5_method_58_code
def yX3_size : MethodName := ⟨RX3, "size", "(I)I"⟩
def RL : String := "DirectoryServersLaw"
abbrev cL_lookup : ByteArray := method_3_code
def yL_lookup : MethodName := ⟨RL, "lookup", "(LDirectoryServers;III[J)I"⟩
abbrev cL_makeDirectory : ByteArray := method_4_code
def yL_makeDirectory : MethodName := ⟨RL, "makeDirectory", "(LDirectoryServers;III[J)I"⟩
abbrev cL_makeFile : ByteArray := method_5_code
def yL_makeFile : MethodName := ⟨RL, "makeFile", "(LDirectoryServers;III[J)I"⟩
abbrev cL_link : ByteArray := method_6_code
def yL_link : MethodName := ⟨RL, "link", "(LDirectoryServers;IIII[J)I"⟩
abbrev cL_remove : ByteArray := method_7_code
def yL_remove : MethodName := ⟨RL, "remove", "(LDirectoryServers;III[J)I"⟩
abbrev cL_rename : ByteArray := method_8_code
def yL_rename : MethodName := ⟨RL, "rename", "(LDirectoryServers;IIIII)I"⟩
abbrev cL_pass : ByteArray := method_9_code
def yL_pass : MethodName := ⟨RL, "pass", "(LDirectoryServers;I[J)I"⟩
abbrev cL_leases : ByteArray := method_10_code
def yL_leases : MethodName := ⟨RL, "leases", "(LDirectoryServers;I[J)I"⟩
abbrev cL_recalls : ByteArray := method_11_code
def yL_recalls : MethodName := ⟨RL, "recalls", "(LDirectoryServers;I[J)I"⟩
abbrev cL_known : ByteArray := method_12_code
def yL_known : MethodName := ⟨RL, "known", "(LDirectoryServers;I[J)I"⟩
abbrev cL_split : ByteArray := method_13_code
def yL_split : MethodName := ⟨RL, "split", "(LDirectoryServers;II[J)I"⟩
abbrev cL_merge : ByteArray := method_14_code
def yL_merge : MethodName := ⟨RL, "merge", "(LDirectoryServers;II[J)I"⟩
abbrev cL_fragments : ByteArray := method_15_code
def yL_fragments : MethodName := ⟨RL, "fragments", "(LDirectoryServers;I[J)I"⟩
abbrev cL_serverOf : ByteArray := method_16_code
def yL_serverOf : MethodName := ⟨RL, "serverOf", "(LDirectoryServers;II[J)I"⟩
abbrev cL_ownerOf : ByteArray := method_17_code
def yL_ownerOf : MethodName := ⟨RL, "ownerOf", "(LDirectoryServers;II[J)I"⟩
abbrev cL_load : ByteArray := method_18_code
def yL_load : MethodName := ⟨RL, "load", "(LDirectoryServers;I[J)I"⟩
abbrev cL_beginMove : ByteArray := method_19_code
def yL_beginMove : MethodName := ⟨RL, "beginMove", "(LDirectoryServers;III)I"⟩
abbrev cL_stepMove : ByteArray := method_20_code
def yL_stepMove : MethodName := ⟨RL, "stepMove", "(LDirectoryServers;[J)I"⟩
abbrev cL_giveUpMove : ByteArray := method_21_code
def yL_giveUpMove : MethodName := ⟨RL, "giveUpMove", "(LDirectoryServers;[J)I"⟩
abbrev cL_isFrozen : ByteArray := method_22_code
def yL_isFrozen : MethodName := ⟨RL, "isFrozen", "(LDirectoryServers;II[J)I"⟩
abbrev cL_balance : ByteArray := method_23_code
def yL_balance : MethodName := ⟨RL, "balance", "(LDirectoryServers;[J)I"⟩
abbrev cL_links : ByteArray := method_24_code
def yL_links : MethodName := ⟨RL, "links", "(LDirectoryServers;I[J)I"⟩
abbrev cL_anchor : ByteArray := method_25_code
def yL_anchor : MethodName := ⟨RL, "anchor", "(LDirectoryServers;I[J)I"⟩
abbrev cL_byTree : ByteArray := method_26_code
def yL_byTree : MethodName := ⟨RL, "byTree", "(LDirectoryServers;II[J)I"⟩
abbrev cL_size : ByteArray := method_27_code
def yL_size : MethodName := ⟨RL, "size", "(LDirectoryServers;I[J)I"⟩
abbrev cL_law : ByteArray := code
def yL_law : MethodName := ⟨RL, "law", "([I)Z"⟩
abbrev vwCl : List vw_C := [(RX0, TX0, 7), (RX1, TX1, 5), (RX2, TX2, 10), (RX3, TX3, 19)]
end
section
theorem dX0_init_0 : decode cX0_init 0 = .ok (.aload_n 0, 1) := by decide +kernel
theorem dX0_init_1 : decode cX0_init 1 = .ok (.invokespecial 3, 3) := by decide +kernel
theorem dX0_init_4 : decode cX0_init 4 = .ok (.aload_n 0, 1) := by decide +kernel
theorem dX0_init_5 : decode cX0_init 5 = .ok (.bipush 50, 2) := by decide +kernel
theorem dX0_init_7 : decode cX0_init 7 = .ok (.newarray .int, 2) := by decide +kernel
theorem dX0_init_9 : decode cX0_init 9 = .ok (.putfield 9, 3) := by decide +kernel
theorem dX0_init_12 : decode cX0_init 12 = .ok (.aload_n 0, 1) := by decide +kernel
theorem dX0_init_13 : decode cX0_init 13 = .ok (.bipush 50, 2) := by decide +kernel
theorem dX0_init_15 : decode cX0_init 15 = .ok (.newarray .int, 2) := by decide +kernel
theorem dX0_init_17 : decode cX0_init 17 = .ok (.putfield 15, 3) := by decide +kernel
theorem dX0_init_20 : decode cX0_init 20 = .ok (.aload_n 0, 1) := by decide +kernel
theorem dX0_init_21 : decode cX0_init 21 = .ok (.iconst 4, 1) := by decide +kernel
theorem dX0_init_22 : decode cX0_init 22 = .ok (.bipush 50, 2) := by decide +kernel
theorem dX0_init_24 : decode cX0_init 24 = .ok (.multianewarray 18 2, 4) := by decide +kernel
theorem dX0_init_28 : decode cX0_init 28 = .ok (.putfield 20, 3) := by decide +kernel
theorem dX0_init_31 : decode cX0_init 31 = .ok (.aload_n 0, 1) := by decide +kernel
theorem dX0_init_32 : decode cX0_init 32 = .ok (.bipush 8, 2) := by decide +kernel
theorem dX0_init_34 : decode cX0_init 34 = .ok (.anewarray 23, 3) := by decide +kernel
theorem dX0_init_37 : decode cX0_init 37 = .ok (.putfield 25, 3) := by decide +kernel
theorem dX0_init_40 : decode cX0_init 40 = .ok (.aload_n 0, 1) := by decide +kernel
theorem dX0_init_41 : decode cX0_init 41 = .ok (.iload_n 1, 1) := by decide +kernel
theorem dX0_init_42 : decode cX0_init 42 = .ok (.putfield 29, 3) := by decide +kernel
theorem dX0_init_45 : decode cX0_init 45 = .ok (.aload_n 0, 1) := by decide +kernel
theorem dX0_init_46 : decode cX0_init 46 = .ok (.aload_n 2, 1) := by decide +kernel
theorem dX0_init_47 : decode cX0_init 47 = .ok (.putfield 33, 3) := by decide +kernel
theorem dX0_init_50 : decode cX0_init 50 = .ok (.aload_n 0, 1) := by decide +kernel
theorem dX0_init_51 : decode cX0_init 51 = .ok (.iload_n 3, 1) := by decide +kernel
theorem dX0_init_52 : decode cX0_init 52 = .ok (.putfield 37, 3) := by decide +kernel
theorem dX0_init_55 : decode cX0_init 55 = .ok (.iconst 0, 1) := by decide +kernel
theorem dX0_init_56 : decode cX0_init 56 = .ok (.istore 5, 2) := by decide +kernel
theorem dX0_init_58 : decode cX0_init 58 = .ok (.iload 5, 2) := by decide +kernel
theorem dX0_init_60 : decode cX0_init 60 = .ok (.bipush 50, 2) := by decide +kernel
theorem dX0_init_62 : decode cX0_init 62 = .ok (.if_icmp .ge 17, 3) := by decide +kernel
theorem dX0_init_65 : decode cX0_init 65 = .ok (.aload_n 0, 1) := by decide +kernel
theorem dX0_init_66 : decode cX0_init 66 = .ok (.getfield 9, 3) := by decide +kernel
theorem dX0_init_69 : decode cX0_init 69 = .ok (.iload 5, 2) := by decide +kernel
theorem dX0_init_71 : decode cX0_init 71 = .ok (.iconst (-1), 1) := by decide +kernel
theorem dX0_init_72 : decode cX0_init 72 = .ok (.iastore, 1) := by decide +kernel
theorem dX0_init_73 : decode cX0_init 73 = .ok (.iinc 5 1, 3) := by decide +kernel
theorem dX0_init_76 : decode cX0_init 76 = .ok (.goto (-18), 3) := by decide +kernel
theorem dX0_init_79 : decode cX0_init 79 = .ok (.new 23, 3) := by decide +kernel
theorem dX0_init_82 : decode cX0_init 82 = .ok (.dup, 1) := by decide +kernel
theorem dX0_init_83 : decode cX0_init 83 = .ok (.iload_n 1, 1) := by decide +kernel
theorem dX0_init_84 : decode cX0_init 84 = .ok (.iconst 0, 1) := by decide +kernel
theorem dX0_init_85 : decode cX0_init 85 = .ok (.bipush 8, 2) := by decide +kernel
theorem dX0_init_87 : decode cX0_init 87 = .ok (.iload 4, 2) := by decide +kernel
theorem dX0_init_89 : decode cX0_init 89 = .ok (.iconst 0, 1) := by decide +kernel
theorem dX0_init_90 : decode cX0_init 90 = .ok (.invokespecial 40, 3) := by decide +kernel
theorem dX0_init_93 : decode cX0_init 93 = .ok (.astore 5, 2) := by decide +kernel
theorem dX0_init_95 : decode cX0_init 95 = .ok (.iconst 0, 1) := by decide +kernel
theorem dX0_init_96 : decode cX0_init 96 = .ok (.istore 6, 2) := by decide +kernel
theorem dX0_init_98 : decode cX0_init 98 = .ok (.iload 6, 2) := by decide +kernel
theorem dX0_init_100 : decode cX0_init 100 = .ok (.bipush 8, 2) := by decide +kernel
theorem dX0_init_102 : decode cX0_init 102 = .ok (.if_icmp .ge 18, 3) := by decide +kernel
theorem dX0_init_105 : decode cX0_init 105 = .ok (.aload_n 0, 1) := by decide +kernel
theorem dX0_init_106 : decode cX0_init 106 = .ok (.getfield 25, 3) := by decide +kernel
theorem dX0_init_109 : decode cX0_init 109 = .ok (.iload 6, 2) := by decide +kernel
theorem dX0_init_111 : decode cX0_init 111 = .ok (.aload 5, 2) := by decide +kernel
theorem dX0_init_113 : decode cX0_init 113 = .ok (.aastore, 1) := by decide +kernel
theorem dX0_init_114 : decode cX0_init 114 = .ok (.iinc 6 1, 3) := by decide +kernel
theorem dX0_init_117 : decode cX0_init 117 = .ok (.goto (-19), 3) := by decide +kernel
theorem dX0_init_120 : decode cX0_init 120 = .ok (.return_, 1) := by decide +kernel
theorem dX0_isName_0 : decode cX0_isName 0 = .ok (.iload_n 0, 1) := by decide +kernel
theorem dX0_isName_1 : decode cX0_isName 1 = .ok (.ifCond .lt 13, 3) := by decide +kernel
theorem dX0_isName_4 : decode cX0_isName 4 = .ok (.iload_n 0, 1) := by decide +kernel
theorem dX0_isName_5 : decode cX0_isName 5 = .ok (.bipush 50, 2) := by decide +kernel
theorem dX0_isName_7 : decode cX0_isName 7 = .ok (.if_icmp .ge 7, 3) := by decide +kernel
theorem dX0_isName_10 : decode cX0_isName 10 = .ok (.iconst 1, 1) := by decide +kernel
theorem dX0_isName_11 : decode cX0_isName 11 = .ok (.goto 4, 3) := by decide +kernel
theorem dX0_isName_14 : decode cX0_isName 14 = .ok (.iconst 0, 1) := by decide +kernel
theorem dX0_isName_15 : decode cX0_isName 15 = .ok (.ireturn, 1) := by decide +kernel
theorem dX0_meaningOf_0 : decode cX0_meaningOf 0 = .ok (.iload_n 1, 1) := by decide +kernel
theorem dX0_meaningOf_1 : decode cX0_meaningOf 1 = .ok (.invokestatic 43, 3) := by decide +kernel
theorem dX0_meaningOf_4 : decode cX0_meaningOf 4 = .ok (.ifCond .eq 12, 3) := by decide +kernel
theorem dX0_meaningOf_7 : decode cX0_meaningOf 7 = .ok (.aload_n 0, 1) := by decide +kernel
theorem dX0_meaningOf_8 : decode cX0_meaningOf 8 = .ok (.getfield 9, 3) := by decide +kernel
theorem dX0_meaningOf_11 : decode cX0_meaningOf 11 = .ok (.iload_n 1, 1) := by decide +kernel
theorem dX0_meaningOf_12 : decode cX0_meaningOf 12 = .ok (.iaload, 1) := by decide +kernel
theorem dX0_meaningOf_13 : decode cX0_meaningOf 13 = .ok (.goto 4, 3) := by decide +kernel
theorem dX0_meaningOf_16 : decode cX0_meaningOf 16 = .ok (.iconst (-1), 1) := by decide +kernel
theorem dX0_meaningOf_17 : decode cX0_meaningOf 17 = .ok (.ireturn, 1) := by decide +kernel
theorem dX0_ageOf_0 : decode cX0_ageOf 0 = .ok (.iload_n 1, 1) := by decide +kernel
theorem dX0_ageOf_1 : decode cX0_ageOf 1 = .ok (.invokestatic 43, 3) := by decide +kernel
theorem dX0_ageOf_4 : decode cX0_ageOf 4 = .ok (.ifCond .eq 12, 3) := by decide +kernel
theorem dX0_ageOf_7 : decode cX0_ageOf 7 = .ok (.aload_n 0, 1) := by decide +kernel
theorem dX0_ageOf_8 : decode cX0_ageOf 8 = .ok (.getfield 15, 3) := by decide +kernel
theorem dX0_ageOf_11 : decode cX0_ageOf 11 = .ok (.iload_n 1, 1) := by decide +kernel
theorem dX0_ageOf_12 : decode cX0_ageOf 12 = .ok (.iaload, 1) := by decide +kernel
theorem dX0_ageOf_13 : decode cX0_ageOf 13 = .ok (.goto 4, 3) := by decide +kernel
theorem dX0_ageOf_16 : decode cX0_ageOf 16 = .ok (.iconst 0, 1) := by decide +kernel
theorem dX0_ageOf_17 : decode cX0_ageOf 17 = .ok (.ireturn, 1) := by decide +kernel
theorem dX0_setMeaning_0 : decode cX0_setMeaning 0 = .ok (.iload_n 1, 1) := by decide +kernel
theorem dX0_setMeaning_1 : decode cX0_setMeaning 1 = .ok (.invokestatic 43, 3) := by decide +kernel
theorem dX0_setMeaning_4 : decode cX0_setMeaning 4 = .ok (.ifCond .eq 17, 3) := by decide +kernel
theorem dX0_setMeaning_7 : decode cX0_setMeaning 7 = .ok (.aload_n 0, 1) := by decide +kernel
theorem dX0_setMeaning_8 : decode cX0_setMeaning 8 = .ok (.getfield 9, 3) := by decide +kernel
theorem dX0_setMeaning_11 : decode cX0_setMeaning 11 = .ok (.iload_n 1, 1) := by decide +kernel
theorem dX0_setMeaning_12 : decode cX0_setMeaning 12 = .ok (.iload_n 2, 1) := by decide +kernel
theorem dX0_setMeaning_13 : decode cX0_setMeaning 13 = .ok (.iastore, 1) := by decide +kernel
theorem dX0_setMeaning_14 : decode cX0_setMeaning 14 = .ok (.aload_n 0, 1) := by decide +kernel
theorem dX0_setMeaning_15 : decode cX0_setMeaning 15 = .ok (.getfield 15, 3) := by decide +kernel
theorem dX0_setMeaning_18 : decode cX0_setMeaning 18 = .ok (.iload_n 1, 1) := by decide +kernel
theorem dX0_setMeaning_19 : decode cX0_setMeaning 19 = .ok (.iload_n 3, 1) := by decide +kernel
theorem dX0_setMeaning_20 : decode cX0_setMeaning 20 = .ok (.iastore, 1) := by decide +kernel
theorem dX0_setMeaning_21 : decode cX0_setMeaning 21 = .ok (.return_, 1) := by decide +kernel
theorem dX0_countTaken_0 : decode cX0_countTaken 0 = .ok (.iconst 0, 1) := by decide +kernel
theorem dX0_countTaken_1 : decode cX0_countTaken 1 = .ok (.istore_n 1, 1) := by decide +kernel
theorem dX0_countTaken_2 : decode cX0_countTaken 2 = .ok (.iconst 0, 1) := by decide +kernel
theorem dX0_countTaken_3 : decode cX0_countTaken 3 = .ok (.istore_n 2, 1) := by decide +kernel
theorem dX0_countTaken_4 : decode cX0_countTaken 4 = .ok (.iload_n 2, 1) := by decide +kernel
theorem dX0_countTaken_5 : decode cX0_countTaken 5 = .ok (.bipush 50, 2) := by decide +kernel
theorem dX0_countTaken_7 : decode cX0_countTaken 7 = .ok (.if_icmp .ge 22, 3) := by decide +kernel
theorem dX0_countTaken_10 : decode cX0_countTaken 10 = .ok (.aload_n 0, 1) := by decide +kernel
theorem dX0_countTaken_11 : decode cX0_countTaken 11 = .ok (.getfield 9, 3) := by decide +kernel
theorem dX0_countTaken_14 : decode cX0_countTaken 14 = .ok (.iload_n 2, 1) := by decide +kernel
theorem dX0_countTaken_15 : decode cX0_countTaken 15 = .ok (.iaload, 1) := by decide +kernel
theorem dX0_countTaken_16 : decode cX0_countTaken 16 = .ok (.iconst (-1), 1) := by decide +kernel
theorem dX0_countTaken_17 : decode cX0_countTaken 17 = .ok (.if_icmp .eq 6, 3) := by decide +kernel
theorem dX0_countTaken_20 : decode cX0_countTaken 20 = .ok (.iinc 1 1, 3) := by decide +kernel
theorem dX0_countTaken_23 : decode cX0_countTaken 23 = .ok (.iinc 2 1, 3) := by decide +kernel
theorem dX0_countTaken_26 : decode cX0_countTaken 26 = .ok (.goto (-22), 3) := by decide +kernel
theorem dX0_countTaken_29 : decode cX0_countTaken 29 = .ok (.iload_n 1, 1) := by decide +kernel
theorem dX0_countTaken_30 : decode cX0_countTaken 30 = .ok (.ireturn, 1) := by decide +kernel
theorem dX0_countLinksTo_0 : decode cX0_countLinksTo 0 = .ok (.iconst 0, 1) := by decide +kernel
theorem dX0_countLinksTo_1 : decode cX0_countLinksTo 1 = .ok (.istore_n 2, 1) := by decide +kernel
theorem dX0_countLinksTo_2 : decode cX0_countLinksTo 2 = .ok (.iconst 0, 1) := by decide +kernel
theorem dX0_countLinksTo_3 : decode cX0_countLinksTo 3 = .ok (.istore_n 3, 1) := by decide +kernel
theorem dX0_countLinksTo_4 : decode cX0_countLinksTo 4 = .ok (.iload_n 3, 1) := by decide +kernel
theorem dX0_countLinksTo_5 : decode cX0_countLinksTo 5 = .ok (.bipush 50, 2) := by decide +kernel
theorem dX0_countLinksTo_7 : decode cX0_countLinksTo 7 = .ok (.if_icmp .ge 22, 3) := by decide +kernel
theorem dX0_countLinksTo_10 : decode cX0_countLinksTo 10 = .ok (.aload_n 0, 1) := by decide +kernel
theorem dX0_countLinksTo_11 : decode cX0_countLinksTo 11 = .ok (.getfield 9, 3) := by decide +kernel
theorem dX0_countLinksTo_14 : decode cX0_countLinksTo 14 = .ok (.iload_n 3, 1) := by decide +kernel
theorem dX0_countLinksTo_15 : decode cX0_countLinksTo 15 = .ok (.iaload, 1) := by decide +kernel
theorem dX0_countLinksTo_16 : decode cX0_countLinksTo 16 = .ok (.iload_n 1, 1) := by decide +kernel
theorem dX0_countLinksTo_17 : decode cX0_countLinksTo 17 = .ok (.if_icmp .ne 6, 3) := by decide +kernel
theorem dX0_countLinksTo_20 : decode cX0_countLinksTo 20 = .ok (.iinc 2 1, 3) := by decide +kernel
theorem dX0_countLinksTo_23 : decode cX0_countLinksTo 23 = .ok (.iinc 3 1, 3) := by decide +kernel
theorem dX0_countLinksTo_26 : decode cX0_countLinksTo 26 = .ok (.goto (-22), 3) := by decide +kernel
theorem dX0_countLinksTo_29 : decode cX0_countLinksTo 29 = .ok (.iload_n 2, 1) := by decide +kernel
theorem dX0_countLinksTo_30 : decode cX0_countLinksTo 30 = .ok (.ireturn, 1) := by decide +kernel
theorem dX0_oldestLink_0 : decode cX0_oldestLink 0 = .ok (.bipush 50, 2) := by decide +kernel
theorem dX0_oldestLink_2 : decode cX0_oldestLink 2 = .ok (.istore_n 2, 1) := by decide +kernel
theorem dX0_oldestLink_3 : decode cX0_oldestLink 3 = .ok (.iconst 0, 1) := by decide +kernel
theorem dX0_oldestLink_4 : decode cX0_oldestLink 4 = .ok (.istore_n 3, 1) := by decide +kernel
theorem dX0_oldestLink_5 : decode cX0_oldestLink 5 = .ok (.iload_n 3, 1) := by decide +kernel
theorem dX0_oldestLink_6 : decode cX0_oldestLink 6 = .ok (.bipush 50, 2) := by decide +kernel
theorem dX0_oldestLink_8 : decode cX0_oldestLink 8 = .ok (.if_icmp .ge 42, 3) := by decide +kernel
theorem dX0_oldestLink_11 : decode cX0_oldestLink 11 = .ok (.aload_n 0, 1) := by decide +kernel
theorem dX0_oldestLink_12 : decode cX0_oldestLink 12 = .ok (.getfield 9, 3) := by decide +kernel
theorem dX0_oldestLink_15 : decode cX0_oldestLink 15 = .ok (.iload_n 3, 1) := by decide +kernel
theorem dX0_oldestLink_16 : decode cX0_oldestLink 16 = .ok (.iaload, 1) := by decide +kernel
theorem dX0_oldestLink_17 : decode cX0_oldestLink 17 = .ok (.iload_n 1, 1) := by decide +kernel
theorem dX0_oldestLink_18 : decode cX0_oldestLink 18 = .ok (.if_icmp .ne 26, 3) := by decide +kernel
theorem dX0_oldestLink_21 : decode cX0_oldestLink 21 = .ok (.iload_n 2, 1) := by decide +kernel
theorem dX0_oldestLink_22 : decode cX0_oldestLink 22 = .ok (.bipush 50, 2) := by decide +kernel
theorem dX0_oldestLink_24 : decode cX0_oldestLink 24 = .ok (.if_icmp .eq 18, 3) := by decide +kernel
theorem dX0_oldestLink_27 : decode cX0_oldestLink 27 = .ok (.aload_n 0, 1) := by decide +kernel
theorem dX0_oldestLink_28 : decode cX0_oldestLink 28 = .ok (.getfield 15, 3) := by decide +kernel
theorem dX0_oldestLink_31 : decode cX0_oldestLink 31 = .ok (.iload_n 3, 1) := by decide +kernel
theorem dX0_oldestLink_32 : decode cX0_oldestLink 32 = .ok (.iaload, 1) := by decide +kernel
theorem dX0_oldestLink_33 : decode cX0_oldestLink 33 = .ok (.aload_n 0, 1) := by decide +kernel
theorem dX0_oldestLink_34 : decode cX0_oldestLink 34 = .ok (.getfield 15, 3) := by decide +kernel
theorem dX0_oldestLink_37 : decode cX0_oldestLink 37 = .ok (.iload_n 2, 1) := by decide +kernel
theorem dX0_oldestLink_38 : decode cX0_oldestLink 38 = .ok (.iaload, 1) := by decide +kernel
theorem dX0_oldestLink_39 : decode cX0_oldestLink 39 = .ok (.if_icmp .ge 5, 3) := by decide +kernel
theorem dX0_oldestLink_42 : decode cX0_oldestLink 42 = .ok (.iload_n 3, 1) := by decide +kernel
theorem dX0_oldestLink_43 : decode cX0_oldestLink 43 = .ok (.istore_n 2, 1) := by decide +kernel
theorem dX0_oldestLink_44 : decode cX0_oldestLink 44 = .ok (.iinc 3 1, 3) := by decide +kernel
theorem dX0_oldestLink_47 : decode cX0_oldestLink 47 = .ok (.goto (-42), 3) := by decide +kernel
theorem dX0_oldestLink_50 : decode cX0_oldestLink 50 = .ok (.iload_n 2, 1) := by decide +kernel
theorem dX0_oldestLink_51 : decode cX0_oldestLink 51 = .ok (.ireturn, 1) := by decide +kernel
theorem dX0_isWithin_0 : decode cX0_isWithin 0 = .ok (.aload_n 0, 1) := by decide +kernel
theorem dX0_isWithin_1 : decode cX0_isWithin 1 = .ok (.astore_n 2, 1) := by decide +kernel
theorem dX0_isWithin_2 : decode cX0_isWithin 2 = .ok (.iconst 0, 1) := by decide +kernel
theorem dX0_isWithin_3 : decode cX0_isWithin 3 = .ok (.istore_n 3, 1) := by decide +kernel
theorem dX0_isWithin_4 : decode cX0_isWithin 4 = .ok (.aload_n 2, 1) := by decide +kernel
theorem dX0_isWithin_5 : decode cX0_isWithin 5 = .ok (.ifnull 27, 3) := by decide +kernel
theorem dX0_isWithin_8 : decode cX0_isWithin 8 = .ok (.iload_n 3, 1) := by decide +kernel
theorem dX0_isWithin_9 : decode cX0_isWithin 9 = .ok (.bipush 12, 2) := by decide +kernel
theorem dX0_isWithin_11 : decode cX0_isWithin 11 = .ok (.if_icmp .ge 21, 3) := by decide +kernel
theorem dX0_isWithin_14 : decode cX0_isWithin 14 = .ok (.aload_n 2, 1) := by decide +kernel
theorem dX0_isWithin_15 : decode cX0_isWithin 15 = .ok (.aload_n 1, 1) := by decide +kernel
theorem dX0_isWithin_16 : decode cX0_isWithin 16 = .ok (.if_acmp .ne 5, 3) := by decide +kernel
theorem dX0_isWithin_19 : decode cX0_isWithin 19 = .ok (.iconst 1, 1) := by decide +kernel
theorem dX0_isWithin_20 : decode cX0_isWithin 20 = .ok (.ireturn, 1) := by decide +kernel
theorem dX0_isWithin_21 : decode cX0_isWithin 21 = .ok (.aload_n 2, 1) := by decide +kernel
theorem dX0_isWithin_22 : decode cX0_isWithin 22 = .ok (.getfield 33, 3) := by decide +kernel
theorem dX0_isWithin_25 : decode cX0_isWithin 25 = .ok (.astore_n 2, 1) := by decide +kernel
theorem dX0_isWithin_26 : decode cX0_isWithin 26 = .ok (.iinc 3 1, 3) := by decide +kernel
theorem dX0_isWithin_29 : decode cX0_isWithin 29 = .ok (.goto (-25), 3) := by decide +kernel
theorem dX0_isWithin_32 : decode cX0_isWithin 32 = .ok (.iconst 0, 1) := by decide +kernel
theorem dX0_isWithin_33 : decode cX0_isWithin 33 = .ok (.ireturn, 1) := by decide +kernel
theorem dX0_isClient_0 : decode cX0_isClient 0 = .ok (.iload_n 0, 1) := by decide +kernel
theorem dX0_isClient_1 : decode cX0_isClient 1 = .ok (.ifCond .lt 12, 3) := by decide +kernel
theorem dX0_isClient_4 : decode cX0_isClient 4 = .ok (.iload_n 0, 1) := by decide +kernel
theorem dX0_isClient_5 : decode cX0_isClient 5 = .ok (.iconst 4, 1) := by decide +kernel
theorem dX0_isClient_6 : decode cX0_isClient 6 = .ok (.if_icmp .ge 7, 3) := by decide +kernel
theorem dX0_isClient_9 : decode cX0_isClient 9 = .ok (.iconst 1, 1) := by decide +kernel
theorem dX0_isClient_10 : decode cX0_isClient 10 = .ok (.goto 4, 3) := by decide +kernel
theorem dX0_isClient_13 : decode cX0_isClient 13 = .ok (.iconst 0, 1) := by decide +kernel
theorem dX0_isClient_14 : decode cX0_isClient 14 = .ok (.ireturn, 1) := by decide +kernel
theorem dX0_leaseRuns_0 : decode cX0_leaseRuns 0 = .ok (.iload_n 1, 1) := by decide +kernel
theorem dX0_leaseRuns_1 : decode cX0_leaseRuns 1 = .ok (.invokestatic 47, 3) := by decide +kernel
theorem dX0_leaseRuns_4 : decode cX0_leaseRuns 4 = .ok (.ifCond .eq 26, 3) := by decide +kernel
theorem dX0_leaseRuns_7 : decode cX0_leaseRuns 7 = .ok (.iload_n 2, 1) := by decide +kernel
theorem dX0_leaseRuns_8 : decode cX0_leaseRuns 8 = .ok (.invokestatic 43, 3) := by decide +kernel
theorem dX0_leaseRuns_11 : decode cX0_leaseRuns 11 = .ok (.ifCond .eq 19, 3) := by decide +kernel
theorem dX0_leaseRuns_14 : decode cX0_leaseRuns 14 = .ok (.aload_n 0, 1) := by decide +kernel
theorem dX0_leaseRuns_15 : decode cX0_leaseRuns 15 = .ok (.getfield 20, 3) := by decide +kernel
theorem dX0_leaseRuns_18 : decode cX0_leaseRuns 18 = .ok (.iload_n 1, 1) := by decide +kernel
theorem dX0_leaseRuns_19 : decode cX0_leaseRuns 19 = .ok (.aaload, 1) := by decide +kernel
theorem dX0_leaseRuns_20 : decode cX0_leaseRuns 20 = .ok (.iload_n 2, 1) := by decide +kernel
theorem dX0_leaseRuns_21 : decode cX0_leaseRuns 21 = .ok (.iaload, 1) := by decide +kernel
theorem dX0_leaseRuns_22 : decode cX0_leaseRuns 22 = .ok (.iload_n 3, 1) := by decide +kernel
theorem dX0_leaseRuns_23 : decode cX0_leaseRuns 23 = .ok (.if_icmp .le 7, 3) := by decide +kernel
theorem dX0_leaseRuns_26 : decode cX0_leaseRuns 26 = .ok (.iconst 1, 1) := by decide +kernel
theorem dX0_leaseRuns_27 : decode cX0_leaseRuns 27 = .ok (.goto 4, 3) := by decide +kernel
theorem dX0_leaseRuns_30 : decode cX0_leaseRuns 30 = .ok (.iconst 0, 1) := by decide +kernel
theorem dX0_leaseRuns_31 : decode cX0_leaseRuns 31 = .ok (.ireturn, 1) := by decide +kernel
theorem dX0_setLeaseEnd_0 : decode cX0_setLeaseEnd 0 = .ok (.iload_n 1, 1) := by decide +kernel
theorem dX0_setLeaseEnd_1 : decode cX0_setLeaseEnd 1 = .ok (.invokestatic 47, 3) := by decide +kernel
theorem dX0_setLeaseEnd_4 : decode cX0_setLeaseEnd 4 = .ok (.ifCond .eq 19, 3) := by decide +kernel
theorem dX0_setLeaseEnd_7 : decode cX0_setLeaseEnd 7 = .ok (.iload_n 2, 1) := by decide +kernel
theorem dX0_setLeaseEnd_8 : decode cX0_setLeaseEnd 8 = .ok (.invokestatic 43, 3) := by decide +kernel
theorem dX0_setLeaseEnd_11 : decode cX0_setLeaseEnd 11 = .ok (.ifCond .eq 12, 3) := by decide +kernel
theorem dX0_setLeaseEnd_14 : decode cX0_setLeaseEnd 14 = .ok (.aload_n 0, 1) := by decide +kernel
theorem dX0_setLeaseEnd_15 : decode cX0_setLeaseEnd 15 = .ok (.getfield 20, 3) := by decide +kernel
theorem dX0_setLeaseEnd_18 : decode cX0_setLeaseEnd 18 = .ok (.iload_n 1, 1) := by decide +kernel
theorem dX0_setLeaseEnd_19 : decode cX0_setLeaseEnd 19 = .ok (.aaload, 1) := by decide +kernel
theorem dX0_setLeaseEnd_20 : decode cX0_setLeaseEnd 20 = .ok (.iload_n 2, 1) := by decide +kernel
theorem dX0_setLeaseEnd_21 : decode cX0_setLeaseEnd 21 = .ok (.iload_n 3, 1) := by decide +kernel
theorem dX0_setLeaseEnd_22 : decode cX0_setLeaseEnd 22 = .ok (.iastore, 1) := by decide +kernel
theorem dX0_setLeaseEnd_23 : decode cX0_setLeaseEnd 23 = .ok (.return_, 1) := by decide +kernel
theorem dX0_countLeases_0 : decode cX0_countLeases 0 = .ok (.iconst 0, 1) := by decide +kernel
theorem dX0_countLeases_1 : decode cX0_countLeases 1 = .ok (.istore_n 3, 1) := by decide +kernel
theorem dX0_countLeases_2 : decode cX0_countLeases 2 = .ok (.iconst 0, 1) := by decide +kernel
theorem dX0_countLeases_3 : decode cX0_countLeases 3 = .ok (.istore 4, 2) := by decide +kernel
theorem dX0_countLeases_5 : decode cX0_countLeases 5 = .ok (.iload 4, 2) := by decide +kernel
theorem dX0_countLeases_7 : decode cX0_countLeases 7 = .ok (.bipush 50, 2) := by decide +kernel
theorem dX0_countLeases_9 : decode cX0_countLeases 9 = .ok (.if_icmp .ge 23, 3) := by decide +kernel
theorem dX0_countLeases_12 : decode cX0_countLeases 12 = .ok (.aload_n 0, 1) := by decide +kernel
theorem dX0_countLeases_13 : decode cX0_countLeases 13 = .ok (.iload_n 1, 1) := by decide +kernel
theorem dX0_countLeases_14 : decode cX0_countLeases 14 = .ok (.iload 4, 2) := by decide +kernel
theorem dX0_countLeases_16 : decode cX0_countLeases 16 = .ok (.iload_n 2, 1) := by decide +kernel
theorem dX0_countLeases_17 : decode cX0_countLeases 17 = .ok (.invokevirtual 50, 3) := by decide +kernel
theorem dX0_countLeases_20 : decode cX0_countLeases 20 = .ok (.ifCond .eq 6, 3) := by decide +kernel
theorem dX0_countLeases_23 : decode cX0_countLeases 23 = .ok (.iinc 3 1, 3) := by decide +kernel
theorem dX0_countLeases_26 : decode cX0_countLeases 26 = .ok (.iinc 4 1, 3) := by decide +kernel
theorem dX0_countLeases_29 : decode cX0_countLeases 29 = .ok (.goto (-24), 3) := by decide +kernel
theorem dX0_countLeases_32 : decode cX0_countLeases 32 = .ok (.iload_n 3, 1) := by decide +kernel
theorem dX0_countLeases_33 : decode cX0_countLeases 33 = .ok (.ireturn, 1) := by decide +kernel
theorem dX0_fragmentAt_0 : decode cX0_fragmentAt 0 = .ok (.aload_n 0, 1) := by decide +kernel
theorem dX0_fragmentAt_1 : decode cX0_fragmentAt 1 = .ok (.getfield 25, 3) := by decide +kernel
theorem dX0_fragmentAt_4 : decode cX0_fragmentAt 4 = .ok (.iload_n 1, 1) := by decide +kernel
theorem dX0_fragmentAt_5 : decode cX0_fragmentAt 5 = .ok (.bipush 7, 2) := by decide +kernel
theorem dX0_fragmentAt_7 : decode cX0_fragmentAt 7 = .ok (.iand, 1) := by decide +kernel
theorem dX0_fragmentAt_8 : decode cX0_fragmentAt 8 = .ok (.aaload, 1) := by decide +kernel
theorem dX0_fragmentAt_9 : decode cX0_fragmentAt 9 = .ok (.areturn, 1) := by decide +kernel
theorem dX0_fragmentOfName_0 : decode cX0_fragmentOfName 0 = .ok (.aload_n 0, 1) := by decide +kernel
theorem dX0_fragmentOfName_1 : decode cX0_fragmentOfName 1 = .ok (.iconst 5, 1) := by decide +kernel
theorem dX0_fragmentOfName_2 : decode cX0_fragmentOfName 2 = .ok (.iload_n 1, 1) := by decide +kernel
theorem dX0_fragmentOfName_3 : decode cX0_fragmentOfName 3 = .ok (.imul, 1) := by decide +kernel
theorem dX0_fragmentOfName_4 : decode cX0_fragmentOfName 4 = .ok (.iconst 3, 1) := by decide +kernel
theorem dX0_fragmentOfName_5 : decode cX0_fragmentOfName 5 = .ok (.iadd, 1) := by decide +kernel
theorem dX0_fragmentOfName_6 : decode cX0_fragmentOfName 6 = .ok (.invokevirtual 54, 3) := by decide +kernel
theorem dX0_fragmentOfName_9 : decode cX0_fragmentOfName 9 = .ok (.areturn, 1) := by decide +kernel
theorem dX0_fragmentBeginningAt_0 : decode cX0_fragmentBeginningAt 0 = .ok (.aload_n 0, 1) := by decide +kernel
theorem dX0_fragmentBeginningAt_1 : decode cX0_fragmentBeginningAt 1 = .ok (.iload_n 1, 1) := by decide +kernel
theorem dX0_fragmentBeginningAt_2 : decode cX0_fragmentBeginningAt 2 = .ok (.invokevirtual 54, 3) := by decide +kernel
theorem dX0_fragmentBeginningAt_5 : decode cX0_fragmentBeginningAt 5 = .ok (.astore_n 2, 1) := by decide +kernel
theorem dX0_fragmentBeginningAt_6 : decode cX0_fragmentBeginningAt 6 = .ok (.aload_n 2, 1) := by decide +kernel
theorem dX0_fragmentBeginningAt_7 : decode cX0_fragmentBeginningAt 7 = .ok (.getfield 58, 3) := by decide +kernel
theorem dX0_fragmentBeginningAt_10 : decode cX0_fragmentBeginningAt 10 = .ok (.iload_n 1, 1) := by decide +kernel
theorem dX0_fragmentBeginningAt_11 : decode cX0_fragmentBeginningAt 11 = .ok (.if_icmp .ne 7, 3) := by decide +kernel
theorem dX0_fragmentBeginningAt_14 : decode cX0_fragmentBeginningAt 14 = .ok (.aload_n 2, 1) := by decide +kernel
theorem dX0_fragmentBeginningAt_15 : decode cX0_fragmentBeginningAt 15 = .ok (.goto 4, 3) := by decide +kernel
theorem dX0_fragmentBeginningAt_18 : decode cX0_fragmentBeginningAt 18 = .ok (.aconst_null, 1) := by decide +kernel
theorem dX0_fragmentBeginningAt_19 : decode cX0_fragmentBeginningAt 19 = .ok (.areturn, 1) := by decide +kernel
theorem dX0_countFragments_0 : decode cX0_countFragments 0 = .ok (.iconst 0, 1) := by decide +kernel
theorem dX0_countFragments_1 : decode cX0_countFragments 1 = .ok (.istore_n 1, 1) := by decide +kernel
theorem dX0_countFragments_2 : decode cX0_countFragments 2 = .ok (.iconst 0, 1) := by decide +kernel
theorem dX0_countFragments_3 : decode cX0_countFragments 3 = .ok (.istore_n 2, 1) := by decide +kernel
theorem dX0_countFragments_4 : decode cX0_countFragments 4 = .ok (.iload_n 2, 1) := by decide +kernel
theorem dX0_countFragments_5 : decode cX0_countFragments 5 = .ok (.bipush 8, 2) := by decide +kernel
theorem dX0_countFragments_7 : decode cX0_countFragments 7 = .ok (.if_icmp .ge 20, 3) := by decide +kernel
theorem dX0_countFragments_10 : decode cX0_countFragments 10 = .ok (.aload_n 0, 1) := by decide +kernel
theorem dX0_countFragments_11 : decode cX0_countFragments 11 = .ok (.iload_n 2, 1) := by decide +kernel
theorem dX0_countFragments_12 : decode cX0_countFragments 12 = .ok (.invokevirtual 61, 3) := by decide +kernel
theorem dX0_countFragments_15 : decode cX0_countFragments 15 = .ok (.ifnull 6, 3) := by decide +kernel
theorem dX0_countFragments_18 : decode cX0_countFragments 18 = .ok (.iinc 1 1, 3) := by decide +kernel
theorem dX0_countFragments_21 : decode cX0_countFragments 21 = .ok (.iinc 2 1, 3) := by decide +kernel
theorem dX0_countFragments_24 : decode cX0_countFragments 24 = .ok (.goto (-20), 3) := by decide +kernel
theorem dX0_countFragments_27 : decode cX0_countFragments 27 = .ok (.iload_n 1, 1) := by decide +kernel
theorem dX0_countFragments_28 : decode cX0_countFragments 28 = .ok (.ireturn, 1) := by decide +kernel
theorem dX0_halve_0 : decode cX0_halve 0 = .ok (.aload_n 1, 1) := by decide +kernel
theorem dX0_halve_1 : decode cX0_halve 1 = .ok (.getfield 64, 3) := by decide +kernel
theorem dX0_halve_4 : decode cX0_halve 4 = .ok (.iconst 2, 1) := by decide +kernel
theorem dX0_halve_5 : decode cX0_halve 5 = .ok (.idiv, 1) := by decide +kernel
theorem dX0_halve_6 : decode cX0_halve 6 = .ok (.istore_n 2, 1) := by decide +kernel
theorem dX0_halve_7 : decode cX0_halve 7 = .ok (.aload_n 1, 1) := by decide +kernel
theorem dX0_halve_8 : decode cX0_halve 8 = .ok (.getfield 67, 3) := by decide +kernel
theorem dX0_halve_11 : decode cX0_halve 11 = .ok (.iconst 2, 1) := by decide +kernel
theorem dX0_halve_12 : decode cX0_halve 12 = .ok (.idiv, 1) := by decide +kernel
theorem dX0_halve_13 : decode cX0_halve 13 = .ok (.istore_n 3, 1) := by decide +kernel
theorem dX0_halve_14 : decode cX0_halve 14 = .ok (.new 23, 3) := by decide +kernel
theorem dX0_halve_17 : decode cX0_halve 17 = .ok (.dup, 1) := by decide +kernel
theorem dX0_halve_18 : decode cX0_halve 18 = .ok (.aload_n 0, 1) := by decide +kernel
theorem dX0_halve_19 : decode cX0_halve 19 = .ok (.getfield 29, 3) := by decide +kernel
theorem dX0_halve_22 : decode cX0_halve 22 = .ok (.aload_n 1, 1) := by decide +kernel
theorem dX0_halve_23 : decode cX0_halve 23 = .ok (.getfield 58, 3) := by decide +kernel
theorem dX0_halve_26 : decode cX0_halve 26 = .ok (.iload_n 2, 1) := by decide +kernel
theorem dX0_halve_27 : decode cX0_halve 27 = .ok (.iadd, 1) := by decide +kernel
theorem dX0_halve_28 : decode cX0_halve 28 = .ok (.iload_n 2, 1) := by decide +kernel
theorem dX0_halve_29 : decode cX0_halve 29 = .ok (.aload_n 1, 1) := by decide +kernel
theorem dX0_halve_30 : decode cX0_halve 30 = .ok (.getfield 70, 3) := by decide +kernel
theorem dX0_halve_33 : decode cX0_halve 33 = .ok (.iload_n 3, 1) := by decide +kernel
theorem dX0_halve_34 : decode cX0_halve 34 = .ok (.invokespecial 40, 3) := by decide +kernel
theorem dX0_halve_37 : decode cX0_halve 37 = .ok (.astore 4, 2) := by decide +kernel
theorem dX0_halve_39 : decode cX0_halve 39 = .ok (.aload_n 1, 1) := by decide +kernel
theorem dX0_halve_40 : decode cX0_halve 40 = .ok (.iload_n 2, 1) := by decide +kernel
theorem dX0_halve_41 : decode cX0_halve 41 = .ok (.putfield 64, 3) := by decide +kernel
theorem dX0_halve_44 : decode cX0_halve 44 = .ok (.aload_n 1, 1) := by decide +kernel
theorem dX0_halve_45 : decode cX0_halve 45 = .ok (.dup, 1) := by decide +kernel
theorem dX0_halve_46 : decode cX0_halve 46 = .ok (.getfield 67, 3) := by decide +kernel
theorem dX0_halve_49 : decode cX0_halve 49 = .ok (.iload_n 3, 1) := by decide +kernel
theorem dX0_halve_50 : decode cX0_halve 50 = .ok (.isub, 1) := by decide +kernel
theorem dX0_halve_51 : decode cX0_halve 51 = .ok (.putfield 67, 3) := by decide +kernel
theorem dX0_halve_54 : decode cX0_halve 54 = .ok (.aload_n 0, 1) := by decide +kernel
theorem dX0_halve_55 : decode cX0_halve 55 = .ok (.aload 4, 2) := by decide +kernel
theorem dX0_halve_57 : decode cX0_halve 57 = .ok (.invokevirtual 73, 3) := by decide +kernel
theorem dX0_halve_60 : decode cX0_halve 60 = .ok (.return_, 1) := by decide +kernel
theorem dX0_join_0 : decode cX0_join 0 = .ok (.aload_n 1, 1) := by decide +kernel
theorem dX0_join_1 : decode cX0_join 1 = .ok (.dup, 1) := by decide +kernel
theorem dX0_join_2 : decode cX0_join 2 = .ok (.getfield 64, 3) := by decide +kernel
theorem dX0_join_5 : decode cX0_join 5 = .ok (.aload_n 2, 1) := by decide +kernel
theorem dX0_join_6 : decode cX0_join 6 = .ok (.getfield 64, 3) := by decide +kernel
theorem dX0_join_9 : decode cX0_join 9 = .ok (.iadd, 1) := by decide +kernel
theorem dX0_join_10 : decode cX0_join 10 = .ok (.putfield 64, 3) := by decide +kernel
theorem dX0_join_13 : decode cX0_join 13 = .ok (.aload_n 1, 1) := by decide +kernel
theorem dX0_join_14 : decode cX0_join 14 = .ok (.dup, 1) := by decide +kernel
theorem dX0_join_15 : decode cX0_join 15 = .ok (.getfield 67, 3) := by decide +kernel
theorem dX0_join_18 : decode cX0_join 18 = .ok (.aload_n 2, 1) := by decide +kernel
theorem dX0_join_19 : decode cX0_join 19 = .ok (.getfield 67, 3) := by decide +kernel
theorem dX0_join_22 : decode cX0_join 22 = .ok (.iadd, 1) := by decide +kernel
theorem dX0_join_23 : decode cX0_join 23 = .ok (.putfield 67, 3) := by decide +kernel
theorem dX0_join_26 : decode cX0_join 26 = .ok (.aload_n 0, 1) := by decide +kernel
theorem dX0_join_27 : decode cX0_join 27 = .ok (.aload_n 1, 1) := by decide +kernel
theorem dX0_join_28 : decode cX0_join 28 = .ok (.invokevirtual 73, 3) := by decide +kernel
theorem dX0_join_31 : decode cX0_join 31 = .ok (.return_, 1) := by decide +kernel
theorem dX0_putByHash_0 : decode cX0_putByHash 0 = .ok (.iconst 0, 1) := by decide +kernel
theorem dX0_putByHash_1 : decode cX0_putByHash 1 = .ok (.istore_n 2, 1) := by decide +kernel
theorem dX0_putByHash_2 : decode cX0_putByHash 2 = .ok (.iload_n 2, 1) := by decide +kernel
theorem dX0_putByHash_3 : decode cX0_putByHash 3 = .ok (.bipush 8, 2) := by decide +kernel
theorem dX0_putByHash_5 : decode cX0_putByHash 5 = .ok (.if_icmp .ge 37, 3) := by decide +kernel
theorem dX0_putByHash_8 : decode cX0_putByHash 8 = .ok (.iload_n 2, 1) := by decide +kernel
theorem dX0_putByHash_9 : decode cX0_putByHash 9 = .ok (.aload_n 1, 1) := by decide +kernel
theorem dX0_putByHash_10 : decode cX0_putByHash 10 = .ok (.getfield 58, 3) := by decide +kernel
theorem dX0_putByHash_13 : decode cX0_putByHash 13 = .ok (.if_icmp .lt 23, 3) := by decide +kernel
theorem dX0_putByHash_16 : decode cX0_putByHash 16 = .ok (.iload_n 2, 1) := by decide +kernel
theorem dX0_putByHash_17 : decode cX0_putByHash 17 = .ok (.aload_n 1, 1) := by decide +kernel
theorem dX0_putByHash_18 : decode cX0_putByHash 18 = .ok (.getfield 58, 3) := by decide +kernel
theorem dX0_putByHash_21 : decode cX0_putByHash 21 = .ok (.aload_n 1, 1) := by decide +kernel
theorem dX0_putByHash_22 : decode cX0_putByHash 22 = .ok (.getfield 64, 3) := by decide +kernel
theorem dX0_putByHash_25 : decode cX0_putByHash 25 = .ok (.iadd, 1) := by decide +kernel
theorem dX0_putByHash_26 : decode cX0_putByHash 26 = .ok (.if_icmp .ge 10, 3) := by decide +kernel
theorem dX0_putByHash_29 : decode cX0_putByHash 29 = .ok (.aload_n 0, 1) := by decide +kernel
theorem dX0_putByHash_30 : decode cX0_putByHash 30 = .ok (.getfield 25, 3) := by decide +kernel
theorem dX0_putByHash_33 : decode cX0_putByHash 33 = .ok (.iload_n 2, 1) := by decide +kernel
theorem dX0_putByHash_34 : decode cX0_putByHash 34 = .ok (.aload_n 1, 1) := by decide +kernel
theorem dX0_putByHash_35 : decode cX0_putByHash 35 = .ok (.aastore, 1) := by decide +kernel
theorem dX0_putByHash_36 : decode cX0_putByHash 36 = .ok (.iinc 2 1, 3) := by decide +kernel
theorem dX0_putByHash_39 : decode cX0_putByHash 39 = .ok (.goto (-37), 3) := by decide +kernel
theorem dX0_putByHash_42 : decode cX0_putByHash 42 = .ok (.return_, 1) := by decide +kernel
theorem dX1_init_0 : decode cX1_init 0 = .ok (.aload_n 0, 1) := by decide +kernel
theorem dX1_init_1 : decode cX1_init 1 = .ok (.invokespecial 1, 3) := by decide +kernel
theorem dX1_init_4 : decode cX1_init 4 = .ok (.aload_n 0, 1) := by decide +kernel
theorem dX1_init_5 : decode cX1_init 5 = .ok (.iload_n 1, 1) := by decide +kernel
theorem dX1_init_6 : decode cX1_init 6 = .ok (.putfield 7, 3) := by decide +kernel
theorem dX1_init_9 : decode cX1_init 9 = .ok (.aload_n 0, 1) := by decide +kernel
theorem dX1_init_10 : decode cX1_init 10 = .ok (.iload_n 2, 1) := by decide +kernel
theorem dX1_init_11 : decode cX1_init 11 = .ok (.putfield 13, 3) := by decide +kernel
theorem dX1_init_14 : decode cX1_init 14 = .ok (.aload_n 0, 1) := by decide +kernel
theorem dX1_init_15 : decode cX1_init 15 = .ok (.iload_n 3, 1) := by decide +kernel
theorem dX1_init_16 : decode cX1_init 16 = .ok (.putfield 16, 3) := by decide +kernel
theorem dX1_init_19 : decode cX1_init 19 = .ok (.aload_n 0, 1) := by decide +kernel
theorem dX1_init_20 : decode cX1_init 20 = .ok (.iload 4, 2) := by decide +kernel
theorem dX1_init_22 : decode cX1_init 22 = .ok (.putfield 19, 3) := by decide +kernel
theorem dX1_init_25 : decode cX1_init 25 = .ok (.aload_n 0, 1) := by decide +kernel
theorem dX1_init_26 : decode cX1_init 26 = .ok (.iload 5, 2) := by decide +kernel
theorem dX1_init_28 : decode cX1_init 28 = .ok (.putfield 22, 3) := by decide +kernel
theorem dX1_init_31 : decode cX1_init 31 = .ok (.return_, 1) := by decide +kernel
theorem dX2_init_0 : decode cX2_init 0 = .ok (.aload_n 0, 1) := by decide +kernel
theorem dX2_init_1 : decode cX2_init 1 = .ok (.invokespecial 1, 3) := by decide +kernel
theorem dX2_init_4 : decode cX2_init 4 = .ok (.aload_n 0, 1) := by decide +kernel
theorem dX2_init_5 : decode cX2_init 5 = .ok (.bipush 12, 2) := by decide +kernel
theorem dX2_init_7 : decode cX2_init 7 = .ok (.anewarray 9, 3) := by decide +kernel
theorem dX2_init_10 : decode cX2_init 10 = .ok (.putfield 11, 3) := by decide +kernel
theorem dX2_init_13 : decode cX2_init 13 = .ok (.aload_n 0, 1) := by decide +kernel
theorem dX2_init_14 : decode cX2_init 14 = .ok (.iconst 4, 1) := by decide +kernel
theorem dX2_init_15 : decode cX2_init 15 = .ok (.newarray .int, 2) := by decide +kernel
theorem dX2_init_17 : decode cX2_init 17 = .ok (.putfield 15, 3) := by decide +kernel
theorem dX2_init_20 : decode cX2_init 20 = .ok (.aload_n 0, 1) := by decide +kernel
theorem dX2_init_21 : decode cX2_init 21 = .ok (.iconst 4, 1) := by decide +kernel
theorem dX2_init_22 : decode cX2_init 22 = .ok (.newarray .int, 2) := by decide +kernel
theorem dX2_init_24 : decode cX2_init 24 = .ok (.putfield 19, 3) := by decide +kernel
theorem dX2_init_27 : decode cX2_init 27 = .ok (.aload_n 0, 1) := by decide +kernel
theorem dX2_init_28 : decode cX2_init 28 = .ok (.getfield 11, 3) := by decide +kernel
theorem dX2_init_31 : decode cX2_init 31 = .ok (.iconst 0, 1) := by decide +kernel
theorem dX2_init_32 : decode cX2_init 32 = .ok (.new 9, 3) := by decide +kernel
theorem dX2_init_35 : decode cX2_init 35 = .ok (.dup, 1) := by decide +kernel
theorem dX2_init_36 : decode cX2_init 36 = .ok (.iconst 0, 1) := by decide +kernel
theorem dX2_init_37 : decode cX2_init 37 = .ok (.aconst_null, 1) := by decide +kernel
theorem dX2_init_38 : decode cX2_init 38 = .ok (.iconst 0, 1) := by decide +kernel
theorem dX2_init_39 : decode cX2_init 39 = .ok (.iconst 0, 1) := by decide +kernel
theorem dX2_init_40 : decode cX2_init 40 = .ok (.invokespecial 22, 3) := by decide +kernel
theorem dX2_init_43 : decode cX2_init 43 = .ok (.aastore, 1) := by decide +kernel
theorem dX2_init_44 : decode cX2_init 44 = .ok (.aload_n 0, 1) := by decide +kernel
theorem dX2_init_45 : decode cX2_init 45 = .ok (.iconst 1, 1) := by decide +kernel
theorem dX2_init_46 : decode cX2_init 46 = .ok (.putfield 25, 3) := by decide +kernel
theorem dX2_init_49 : decode cX2_init 49 = .ok (.return_, 1) := by decide +kernel
theorem dX2_lookup_0 : decode cX2_lookup 0 = .ok (.iload_n 1, 1) := by decide +kernel
theorem dX2_lookup_1 : decode cX2_lookup 1 = .ok (.invokestatic 29, 3) := by decide +kernel
theorem dX2_lookup_4 : decode cX2_lookup 4 = .ok (.iload_n 3, 1) := by decide +kernel
theorem dX2_lookup_5 : decode cX2_lookup 5 = .ok (.invokestatic 33, 3) := by decide +kernel
theorem dX2_lookup_8 : decode cX2_lookup 8 = .ok (.aload_n 0, 1) := by decide +kernel
theorem dX2_lookup_9 : decode cX2_lookup 9 = .ok (.iload_n 2, 1) := by decide +kernel
theorem dX2_lookup_10 : decode cX2_lookup 10 = .ok (.invokevirtual 36, 3) := by decide +kernel
theorem dX2_lookup_13 : decode cX2_lookup 13 = .ok (.astore 4, 2) := by decide +kernel
theorem dX2_lookup_15 : decode cX2_lookup 15 = .ok (.aload 4, 2) := by decide +kernel
theorem dX2_lookup_17 : decode cX2_lookup 17 = .ok (.iload_n 1, 1) := by decide +kernel
theorem dX2_lookup_18 : decode cX2_lookup 18 = .ok (.iload_n 3, 1) := by decide +kernel
theorem dX2_lookup_19 : decode cX2_lookup 19 = .ok (.aload_n 0, 1) := by decide +kernel
theorem dX2_lookup_20 : decode cX2_lookup 20 = .ok (.getfield 40, 3) := by decide +kernel
theorem dX2_lookup_23 : decode cX2_lookup 23 = .ok (.invokevirtual 43, 3) := by decide +kernel
theorem dX2_lookup_26 : decode cX2_lookup 26 = .ok (.ifCond .eq 16, 3) := by decide +kernel
theorem dX2_lookup_29 : decode cX2_lookup 29 = .ok (.aload_n 0, 1) := by decide +kernel
theorem dX2_lookup_30 : decode cX2_lookup 30 = .ok (.getfield 19, 3) := by decide +kernel
theorem dX2_lookup_33 : decode cX2_lookup 33 = .ok (.iload_n 1, 1) := by decide +kernel
theorem dX2_lookup_34 : decode cX2_lookup 34 = .ok (.dup2, 1) := by decide +kernel
theorem dX2_lookup_35 : decode cX2_lookup 35 = .ok (.iaload, 1) := by decide +kernel
theorem dX2_lookup_36 : decode cX2_lookup 36 = .ok (.iconst 1, 1) := by decide +kernel
theorem dX2_lookup_37 : decode cX2_lookup 37 = .ok (.iadd, 1) := by decide +kernel
theorem dX2_lookup_38 : decode cX2_lookup 38 = .ok (.iastore, 1) := by decide +kernel
theorem dX2_lookup_39 : decode cX2_lookup 39 = .ok (.goto 32, 3) := by decide +kernel
theorem dX2_lookup_42 : decode cX2_lookup 42 = .ok (.aload 4, 2) := by decide +kernel
theorem dX2_lookup_44 : decode cX2_lookup 44 = .ok (.iload_n 3, 1) := by decide +kernel
theorem dX2_lookup_45 : decode cX2_lookup 45 = .ok (.invokevirtual 47, 3) := by decide +kernel
theorem dX2_lookup_48 : decode cX2_lookup 48 = .ok (.dup, 1) := by decide +kernel
theorem dX2_lookup_49 : decode cX2_lookup 49 = .ok (.getfield 51, 3) := by decide +kernel
theorem dX2_lookup_52 : decode cX2_lookup 52 = .ok (.iconst 1, 1) := by decide +kernel
theorem dX2_lookup_53 : decode cX2_lookup 53 = .ok (.iadd, 1) := by decide +kernel
theorem dX2_lookup_54 : decode cX2_lookup 54 = .ok (.putfield 51, 3) := by decide +kernel
theorem dX2_lookup_57 : decode cX2_lookup 57 = .ok (.aload 4, 2) := by decide +kernel
theorem dX2_lookup_59 : decode cX2_lookup 59 = .ok (.iload_n 1, 1) := by decide +kernel
theorem dX2_lookup_60 : decode cX2_lookup 60 = .ok (.iload_n 3, 1) := by decide +kernel
theorem dX2_lookup_61 : decode cX2_lookup 61 = .ok (.aload_n 0, 1) := by decide +kernel
theorem dX2_lookup_62 : decode cX2_lookup 62 = .ok (.getfield 40, 3) := by decide +kernel
theorem dX2_lookup_65 : decode cX2_lookup 65 = .ok (.bipush 10, 2) := by decide +kernel
theorem dX2_lookup_67 : decode cX2_lookup 67 = .ok (.iadd, 1) := by decide +kernel
theorem dX2_lookup_68 : decode cX2_lookup 68 = .ok (.invokevirtual 56, 3) := by decide +kernel
theorem dX2_lookup_71 : decode cX2_lookup 71 = .ok (.aload 4, 2) := by decide +kernel
theorem dX2_lookup_73 : decode cX2_lookup 73 = .ok (.iload_n 3, 1) := by decide +kernel
theorem dX2_lookup_74 : decode cX2_lookup 74 = .ok (.invokevirtual 60, 3) := by decide +kernel
theorem dX2_lookup_77 : decode cX2_lookup 77 = .ok (.ireturn, 1) := by decide +kernel
theorem dX2_makeDirectory_0 : decode cX2_makeDirectory 0 = .ok (.iload_n 1, 1) := by decide +kernel
theorem dX2_makeDirectory_1 : decode cX2_makeDirectory 1 = .ok (.invokestatic 29, 3) := by decide +kernel
theorem dX2_makeDirectory_4 : decode cX2_makeDirectory 4 = .ok (.iload_n 3, 1) := by decide +kernel
theorem dX2_makeDirectory_5 : decode cX2_makeDirectory 5 = .ok (.invokestatic 33, 3) := by decide +kernel
theorem dX2_makeDirectory_8 : decode cX2_makeDirectory 8 = .ok (.aload_n 0, 1) := by decide +kernel
theorem dX2_makeDirectory_9 : decode cX2_makeDirectory 9 = .ok (.iload_n 2, 1) := by decide +kernel
theorem dX2_makeDirectory_10 : decode cX2_makeDirectory 10 = .ok (.invokevirtual 36, 3) := by decide +kernel
theorem dX2_makeDirectory_13 : decode cX2_makeDirectory 13 = .ok (.astore 4, 2) := by decide +kernel
theorem dX2_makeDirectory_15 : decode cX2_makeDirectory 15 = .ok (.aload_n 0, 1) := by decide +kernel
theorem dX2_makeDirectory_16 : decode cX2_makeDirectory 16 = .ok (.aload 4, 2) := by decide +kernel
theorem dX2_makeDirectory_18 : decode cX2_makeDirectory 18 = .ok (.iload_n 3, 1) := by decide +kernel
theorem dX2_makeDirectory_19 : decode cX2_makeDirectory 19 = .ok (.invokevirtual 64, 3) := by decide +kernel
theorem dX2_makeDirectory_22 : decode cX2_makeDirectory 22 = .ok (.aload_n 0, 1) := by decide +kernel
theorem dX2_makeDirectory_23 : decode cX2_makeDirectory 23 = .ok (.getfield 25, 3) := by decide +kernel
theorem dX2_makeDirectory_26 : decode cX2_makeDirectory 26 = .ok (.istore 5, 2) := by decide +kernel
theorem dX2_makeDirectory_28 : decode cX2_makeDirectory 28 = .ok (.iload 5, 2) := by decide +kernel
theorem dX2_makeDirectory_30 : decode cX2_makeDirectory 30 = .ok (.bipush 12, 2) := by decide +kernel
theorem dX2_makeDirectory_32 : decode cX2_makeDirectory 32 = .ok (.if_icmp .lt 13, 3) := by decide +kernel
theorem dX2_makeDirectory_35 : decode cX2_makeDirectory 35 = .ok (.new 68, 3) := by decide +kernel
theorem dX2_makeDirectory_38 : decode cX2_makeDirectory 38 = .ok (.dup, 1) := by decide +kernel
theorem dX2_makeDirectory_39 : decode cX2_makeDirectory 39 = .ok (.ldc 70, 2) := by decide +kernel
theorem dX2_makeDirectory_41 : decode cX2_makeDirectory 41 = .ok (.invokespecial 72, 3) := by decide +kernel
theorem dX2_makeDirectory_44 : decode cX2_makeDirectory 44 = .ok (.athrow, 1) := by decide +kernel
theorem dX2_makeDirectory_45 : decode cX2_makeDirectory 45 = .ok (.aload_n 0, 1) := by decide +kernel
theorem dX2_makeDirectory_46 : decode cX2_makeDirectory 46 = .ok (.getfield 11, 3) := by decide +kernel
theorem dX2_makeDirectory_49 : decode cX2_makeDirectory 49 = .ok (.iload 5, 2) := by decide +kernel
theorem dX2_makeDirectory_51 : decode cX2_makeDirectory 51 = .ok (.new 9, 3) := by decide +kernel
theorem dX2_makeDirectory_54 : decode cX2_makeDirectory 54 = .ok (.dup, 1) := by decide +kernel
theorem dX2_makeDirectory_55 : decode cX2_makeDirectory 55 = .ok (.iload 5, 2) := by decide +kernel
theorem dX2_makeDirectory_57 : decode cX2_makeDirectory 57 = .ok (.aload 4, 2) := by decide +kernel
theorem dX2_makeDirectory_59 : decode cX2_makeDirectory 59 = .ok (.iload_n 3, 1) := by decide +kernel
theorem dX2_makeDirectory_60 : decode cX2_makeDirectory 60 = .ok (.iconst (-1), 1) := by decide +kernel
theorem dX2_makeDirectory_61 : decode cX2_makeDirectory 61 = .ok (.invokespecial 22, 3) := by decide +kernel
theorem dX2_makeDirectory_64 : decode cX2_makeDirectory 64 = .ok (.aastore, 1) := by decide +kernel
theorem dX2_makeDirectory_65 : decode cX2_makeDirectory 65 = .ok (.aload_n 0, 1) := by decide +kernel
theorem dX2_makeDirectory_66 : decode cX2_makeDirectory 66 = .ok (.dup, 1) := by decide +kernel
theorem dX2_makeDirectory_67 : decode cX2_makeDirectory 67 = .ok (.getfield 25, 3) := by decide +kernel
theorem dX2_makeDirectory_70 : decode cX2_makeDirectory 70 = .ok (.iconst 1, 1) := by decide +kernel
theorem dX2_makeDirectory_71 : decode cX2_makeDirectory 71 = .ok (.iadd, 1) := by decide +kernel
theorem dX2_makeDirectory_72 : decode cX2_makeDirectory 72 = .ok (.putfield 25, 3) := by decide +kernel
theorem dX2_makeDirectory_75 : decode cX2_makeDirectory 75 = .ok (.aload_n 0, 1) := by decide +kernel
theorem dX2_makeDirectory_76 : decode cX2_makeDirectory 76 = .ok (.iload_n 1, 1) := by decide +kernel
theorem dX2_makeDirectory_77 : decode cX2_makeDirectory 77 = .ok (.aload 4, 2) := by decide +kernel
theorem dX2_makeDirectory_79 : decode cX2_makeDirectory 79 = .ok (.iload_n 3, 1) := by decide +kernel
theorem dX2_makeDirectory_80 : decode cX2_makeDirectory 80 = .ok (.bipush (-2), 2) := by decide +kernel
theorem dX2_makeDirectory_82 : decode cX2_makeDirectory 82 = .ok (.iload 5, 2) := by decide +kernel
theorem dX2_makeDirectory_84 : decode cX2_makeDirectory 84 = .ok (.isub, 1) := by decide +kernel
theorem dX2_makeDirectory_85 : decode cX2_makeDirectory 85 = .ok (.iconst 0, 1) := by decide +kernel
theorem dX2_makeDirectory_86 : decode cX2_makeDirectory 86 = .ok (.invokevirtual 75, 3) := by decide +kernel
theorem dX2_makeDirectory_89 : decode cX2_makeDirectory 89 = .ok (.iload 5, 2) := by decide +kernel
theorem dX2_makeDirectory_91 : decode cX2_makeDirectory 91 = .ok (.ireturn, 1) := by decide +kernel
theorem dX2_makeFile_0 : decode cX2_makeFile 0 = .ok (.iload_n 1, 1) := by decide +kernel
theorem dX2_makeFile_1 : decode cX2_makeFile 1 = .ok (.invokestatic 29, 3) := by decide +kernel
theorem dX2_makeFile_4 : decode cX2_makeFile 4 = .ok (.iload_n 3, 1) := by decide +kernel
theorem dX2_makeFile_5 : decode cX2_makeFile 5 = .ok (.invokestatic 33, 3) := by decide +kernel
theorem dX2_makeFile_8 : decode cX2_makeFile 8 = .ok (.aload_n 0, 1) := by decide +kernel
theorem dX2_makeFile_9 : decode cX2_makeFile 9 = .ok (.iload_n 2, 1) := by decide +kernel
theorem dX2_makeFile_10 : decode cX2_makeFile 10 = .ok (.invokevirtual 36, 3) := by decide +kernel
theorem dX2_makeFile_13 : decode cX2_makeFile 13 = .ok (.astore 4, 2) := by decide +kernel
theorem dX2_makeFile_15 : decode cX2_makeFile 15 = .ok (.aload_n 0, 1) := by decide +kernel
theorem dX2_makeFile_16 : decode cX2_makeFile 16 = .ok (.aload 4, 2) := by decide +kernel
theorem dX2_makeFile_18 : decode cX2_makeFile 18 = .ok (.iload_n 3, 1) := by decide +kernel
theorem dX2_makeFile_19 : decode cX2_makeFile 19 = .ok (.invokevirtual 64, 3) := by decide +kernel
theorem dX2_makeFile_22 : decode cX2_makeFile 22 = .ok (.aload_n 0, 1) := by decide +kernel
theorem dX2_makeFile_23 : decode cX2_makeFile 23 = .ok (.getfield 79, 3) := by decide +kernel
theorem dX2_makeFile_26 : decode cX2_makeFile 26 = .ok (.bipush 30, 2) := by decide +kernel
theorem dX2_makeFile_28 : decode cX2_makeFile 28 = .ok (.if_icmp .lt 13, 3) := by decide +kernel
theorem dX2_makeFile_31 : decode cX2_makeFile 31 = .ok (.new 68, 3) := by decide +kernel
theorem dX2_makeFile_34 : decode cX2_makeFile 34 = .ok (.dup, 1) := by decide +kernel
theorem dX2_makeFile_35 : decode cX2_makeFile 35 = .ok (.ldc 82, 2) := by decide +kernel
theorem dX2_makeFile_37 : decode cX2_makeFile 37 = .ok (.invokespecial 72, 3) := by decide +kernel
theorem dX2_makeFile_40 : decode cX2_makeFile 40 = .ok (.athrow, 1) := by decide +kernel
theorem dX2_makeFile_41 : decode cX2_makeFile 41 = .ok (.aload_n 0, 1) := by decide +kernel
theorem dX2_makeFile_42 : decode cX2_makeFile 42 = .ok (.getfield 79, 3) := by decide +kernel
theorem dX2_makeFile_45 : decode cX2_makeFile 45 = .ok (.istore 5, 2) := by decide +kernel
theorem dX2_makeFile_47 : decode cX2_makeFile 47 = .ok (.aload_n 0, 1) := by decide +kernel
theorem dX2_makeFile_48 : decode cX2_makeFile 48 = .ok (.dup, 1) := by decide +kernel
theorem dX2_makeFile_49 : decode cX2_makeFile 49 = .ok (.getfield 79, 3) := by decide +kernel
theorem dX2_makeFile_52 : decode cX2_makeFile 52 = .ok (.iconst 1, 1) := by decide +kernel
theorem dX2_makeFile_53 : decode cX2_makeFile 53 = .ok (.iadd, 1) := by decide +kernel
theorem dX2_makeFile_54 : decode cX2_makeFile 54 = .ok (.putfield 79, 3) := by decide +kernel
theorem dX2_makeFile_57 : decode cX2_makeFile 57 = .ok (.aload_n 0, 1) := by decide +kernel
theorem dX2_makeFile_58 : decode cX2_makeFile 58 = .ok (.iload_n 1, 1) := by decide +kernel
theorem dX2_makeFile_59 : decode cX2_makeFile 59 = .ok (.aload 4, 2) := by decide +kernel
theorem dX2_makeFile_61 : decode cX2_makeFile 61 = .ok (.iload_n 3, 1) := by decide +kernel
theorem dX2_makeFile_62 : decode cX2_makeFile 62 = .ok (.iload 5, 2) := by decide +kernel
theorem dX2_makeFile_64 : decode cX2_makeFile 64 = .ok (.invokevirtual 84, 3) := by decide +kernel
theorem dX2_makeFile_67 : decode cX2_makeFile 67 = .ok (.iload 5, 2) := by decide +kernel
theorem dX2_makeFile_69 : decode cX2_makeFile 69 = .ok (.ireturn, 1) := by decide +kernel
theorem dX2_link_0 : decode cX2_link 0 = .ok (.iload_n 1, 1) := by decide +kernel
theorem dX2_link_1 : decode cX2_link 1 = .ok (.invokestatic 29, 3) := by decide +kernel
theorem dX2_link_4 : decode cX2_link 4 = .ok (.iload_n 3, 1) := by decide +kernel
theorem dX2_link_5 : decode cX2_link 5 = .ok (.invokestatic 33, 3) := by decide +kernel
theorem dX2_link_8 : decode cX2_link 8 = .ok (.aload_n 0, 1) := by decide +kernel
theorem dX2_link_9 : decode cX2_link 9 = .ok (.iload_n 2, 1) := by decide +kernel
theorem dX2_link_10 : decode cX2_link 10 = .ok (.invokevirtual 36, 3) := by decide +kernel
theorem dX2_link_13 : decode cX2_link 13 = .ok (.astore 5, 2) := by decide +kernel
theorem dX2_link_15 : decode cX2_link 15 = .ok (.aload_n 0, 1) := by decide +kernel
theorem dX2_link_16 : decode cX2_link 16 = .ok (.iload 4, 2) := by decide +kernel
theorem dX2_link_18 : decode cX2_link 18 = .ok (.invokevirtual 87, 3) := by decide +kernel
theorem dX2_link_21 : decode cX2_link 21 = .ok (.aload_n 0, 1) := by decide +kernel
theorem dX2_link_22 : decode cX2_link 22 = .ok (.iload 4, 2) := by decide +kernel
theorem dX2_link_24 : decode cX2_link 24 = .ok (.invokevirtual 90, 3) := by decide +kernel
theorem dX2_link_27 : decode cX2_link 27 = .ok (.istore 6, 2) := by decide +kernel
theorem dX2_link_29 : decode cX2_link 29 = .ok (.iload 6, 2) := by decide +kernel
theorem dX2_link_31 : decode cX2_link 31 = .ok (.ifCond .ne 13, 3) := by decide +kernel
theorem dX2_link_34 : decode cX2_link 34 = .ok (.new 93, 3) := by decide +kernel
theorem dX2_link_37 : decode cX2_link 37 = .ok (.dup, 1) := by decide +kernel
theorem dX2_link_38 : decode cX2_link 38 = .ok (.ldc 95, 2) := by decide +kernel
theorem dX2_link_40 : decode cX2_link 40 = .ok (.invokespecial 97, 3) := by decide +kernel
theorem dX2_link_43 : decode cX2_link 43 = .ok (.athrow, 1) := by decide +kernel
theorem dX2_link_44 : decode cX2_link 44 = .ok (.aload_n 0, 1) := by decide +kernel
theorem dX2_link_45 : decode cX2_link 45 = .ok (.aload 5, 2) := by decide +kernel
theorem dX2_link_47 : decode cX2_link 47 = .ok (.iload_n 3, 1) := by decide +kernel
theorem dX2_link_48 : decode cX2_link 48 = .ok (.invokevirtual 64, 3) := by decide +kernel
theorem dX2_link_51 : decode cX2_link 51 = .ok (.aload_n 0, 1) := by decide +kernel
theorem dX2_link_52 : decode cX2_link 52 = .ok (.iload_n 1, 1) := by decide +kernel
theorem dX2_link_53 : decode cX2_link 53 = .ok (.aload 5, 2) := by decide +kernel
theorem dX2_link_55 : decode cX2_link 55 = .ok (.iload_n 3, 1) := by decide +kernel
theorem dX2_link_56 : decode cX2_link 56 = .ok (.iload 4, 2) := by decide +kernel
theorem dX2_link_58 : decode cX2_link 58 = .ok (.invokevirtual 84, 3) := by decide +kernel
theorem dX2_link_61 : decode cX2_link 61 = .ok (.iload 6, 2) := by decide +kernel
theorem dX2_link_63 : decode cX2_link 63 = .ok (.iconst 1, 1) := by decide +kernel
theorem dX2_link_64 : decode cX2_link 64 = .ok (.iadd, 1) := by decide +kernel
theorem dX2_link_65 : decode cX2_link 65 = .ok (.ireturn, 1) := by decide +kernel
theorem dX2_remove_0 : decode cX2_remove 0 = .ok (.iload_n 1, 1) := by decide +kernel
theorem dX2_remove_1 : decode cX2_remove 1 = .ok (.invokestatic 29, 3) := by decide +kernel
theorem dX2_remove_4 : decode cX2_remove 4 = .ok (.iload_n 3, 1) := by decide +kernel
theorem dX2_remove_5 : decode cX2_remove 5 = .ok (.invokestatic 33, 3) := by decide +kernel
theorem dX2_remove_8 : decode cX2_remove 8 = .ok (.aload_n 0, 1) := by decide +kernel
theorem dX2_remove_9 : decode cX2_remove 9 = .ok (.iload_n 2, 1) := by decide +kernel
theorem dX2_remove_10 : decode cX2_remove 10 = .ok (.invokevirtual 36, 3) := by decide +kernel
theorem dX2_remove_13 : decode cX2_remove 13 = .ok (.astore 4, 2) := by decide +kernel
theorem dX2_remove_15 : decode cX2_remove 15 = .ok (.aload_n 0, 1) := by decide +kernel
theorem dX2_remove_16 : decode cX2_remove 16 = .ok (.aload 4, 2) := by decide +kernel
theorem dX2_remove_18 : decode cX2_remove 18 = .ok (.iload_n 3, 1) := by decide +kernel
theorem dX2_remove_19 : decode cX2_remove 19 = .ok (.invokevirtual 98, 3) := by decide +kernel
theorem dX2_remove_22 : decode cX2_remove 22 = .ok (.aload 4, 2) := by decide +kernel
theorem dX2_remove_24 : decode cX2_remove 24 = .ok (.iload_n 3, 1) := by decide +kernel
theorem dX2_remove_25 : decode cX2_remove 25 = .ok (.invokevirtual 60, 3) := by decide +kernel
theorem dX2_remove_28 : decode cX2_remove 28 = .ok (.istore 5, 2) := by decide +kernel
theorem dX2_remove_30 : decode cX2_remove 30 = .ok (.aload_n 0, 1) := by decide +kernel
theorem dX2_remove_31 : decode cX2_remove 31 = .ok (.iload 5, 2) := by decide +kernel
theorem dX2_remove_33 : decode cX2_remove 33 = .ok (.invokevirtual 101, 3) := by decide +kernel
theorem dX2_remove_36 : decode cX2_remove 36 = .ok (.astore 6, 2) := by decide +kernel
theorem dX2_remove_38 : decode cX2_remove 38 = .ok (.aload 6, 2) := by decide +kernel
theorem dX2_remove_40 : decode cX2_remove 40 = .ok (.ifnull 18, 3) := by decide +kernel
theorem dX2_remove_43 : decode cX2_remove 43 = .ok (.aload_n 0, 1) := by decide +kernel
theorem dX2_remove_44 : decode cX2_remove 44 = .ok (.aload 6, 2) := by decide +kernel
theorem dX2_remove_46 : decode cX2_remove 46 = .ok (.invokevirtual 104, 3) := by decide +kernel
theorem dX2_remove_49 : decode cX2_remove 49 = .ok (.aload_n 0, 1) := by decide +kernel
theorem dX2_remove_50 : decode cX2_remove 50 = .ok (.aload 6, 2) := by decide +kernel
theorem dX2_remove_52 : decode cX2_remove 52 = .ok (.getfield 108, 3) := by decide +kernel
theorem dX2_remove_55 : decode cX2_remove 55 = .ok (.invokevirtual 111, 3) := by decide +kernel
theorem dX2_remove_58 : decode cX2_remove 58 = .ok (.aload_n 0, 1) := by decide +kernel
theorem dX2_remove_59 : decode cX2_remove 59 = .ok (.iload_n 1, 1) := by decide +kernel
theorem dX2_remove_60 : decode cX2_remove 60 = .ok (.aload 4, 2) := by decide +kernel
theorem dX2_remove_62 : decode cX2_remove 62 = .ok (.iload_n 3, 1) := by decide +kernel
theorem dX2_remove_63 : decode cX2_remove 63 = .ok (.iconst (-1), 1) := by decide +kernel
theorem dX2_remove_64 : decode cX2_remove 64 = .ok (.iconst 0, 1) := by decide +kernel
theorem dX2_remove_65 : decode cX2_remove 65 = .ok (.invokevirtual 75, 3) := by decide +kernel
theorem dX2_remove_68 : decode cX2_remove 68 = .ok (.iload 5, 2) := by decide +kernel
theorem dX2_remove_70 : decode cX2_remove 70 = .ok (.ireturn, 1) := by decide +kernel
theorem dX2_rename_0 : decode cX2_rename 0 = .ok (.iload_n 1, 1) := by decide +kernel
theorem dX2_rename_1 : decode cX2_rename 1 = .ok (.invokestatic 29, 3) := by decide +kernel
theorem dX2_rename_4 : decode cX2_rename 4 = .ok (.iload_n 3, 1) := by decide +kernel
theorem dX2_rename_5 : decode cX2_rename 5 = .ok (.invokestatic 33, 3) := by decide +kernel
theorem dX2_rename_8 : decode cX2_rename 8 = .ok (.iload 5, 2) := by decide +kernel
theorem dX2_rename_10 : decode cX2_rename 10 = .ok (.invokestatic 33, 3) := by decide +kernel
theorem dX2_rename_13 : decode cX2_rename 13 = .ok (.aload_n 0, 1) := by decide +kernel
theorem dX2_rename_14 : decode cX2_rename 14 = .ok (.iload_n 2, 1) := by decide +kernel
theorem dX2_rename_15 : decode cX2_rename 15 = .ok (.invokevirtual 36, 3) := by decide +kernel
theorem dX2_rename_18 : decode cX2_rename 18 = .ok (.astore 6, 2) := by decide +kernel
theorem dX2_rename_20 : decode cX2_rename 20 = .ok (.aload_n 0, 1) := by decide +kernel
theorem dX2_rename_21 : decode cX2_rename 21 = .ok (.iload 4, 2) := by decide +kernel
theorem dX2_rename_23 : decode cX2_rename 23 = .ok (.invokevirtual 36, 3) := by decide +kernel
theorem dX2_rename_26 : decode cX2_rename 26 = .ok (.astore 7, 2) := by decide +kernel
theorem dX2_rename_28 : decode cX2_rename 28 = .ok (.aload_n 0, 1) := by decide +kernel
theorem dX2_rename_29 : decode cX2_rename 29 = .ok (.aload 6, 2) := by decide +kernel
theorem dX2_rename_31 : decode cX2_rename 31 = .ok (.iload_n 3, 1) := by decide +kernel
theorem dX2_rename_32 : decode cX2_rename 32 = .ok (.invokevirtual 98, 3) := by decide +kernel
theorem dX2_rename_35 : decode cX2_rename 35 = .ok (.aload_n 0, 1) := by decide +kernel
theorem dX2_rename_36 : decode cX2_rename 36 = .ok (.aload 7, 2) := by decide +kernel
theorem dX2_rename_38 : decode cX2_rename 38 = .ok (.iload 5, 2) := by decide +kernel
theorem dX2_rename_40 : decode cX2_rename 40 = .ok (.invokevirtual 64, 3) := by decide +kernel
theorem dX2_rename_43 : decode cX2_rename 43 = .ok (.aload 6, 2) := by decide +kernel
theorem dX2_rename_45 : decode cX2_rename 45 = .ok (.iload_n 3, 1) := by decide +kernel
theorem dX2_rename_46 : decode cX2_rename 46 = .ok (.invokevirtual 60, 3) := by decide +kernel
theorem dX2_rename_49 : decode cX2_rename 49 = .ok (.istore 8, 2) := by decide +kernel
theorem dX2_rename_51 : decode cX2_rename 51 = .ok (.aload_n 0, 1) := by decide +kernel
theorem dX2_rename_52 : decode cX2_rename 52 = .ok (.iload 8, 2) := by decide +kernel
theorem dX2_rename_54 : decode cX2_rename 54 = .ok (.invokevirtual 101, 3) := by decide +kernel
theorem dX2_rename_57 : decode cX2_rename 57 = .ok (.astore 9, 2) := by decide +kernel
theorem dX2_rename_59 : decode cX2_rename 59 = .ok (.aload 9, 2) := by decide +kernel
theorem dX2_rename_61 : decode cX2_rename 61 = .ok (.ifnull 23, 3) := by decide +kernel
theorem dX2_rename_64 : decode cX2_rename 64 = .ok (.aload 7, 2) := by decide +kernel
theorem dX2_rename_66 : decode cX2_rename 66 = .ok (.aload 9, 2) := by decide +kernel
theorem dX2_rename_68 : decode cX2_rename 68 = .ok (.invokevirtual 114, 3) := by decide +kernel
theorem dX2_rename_71 : decode cX2_rename 71 = .ok (.ifCond .eq 13, 3) := by decide +kernel
theorem dX2_rename_74 : decode cX2_rename 74 = .ok (.new 68, 3) := by decide +kernel
theorem dX2_rename_77 : decode cX2_rename 77 = .ok (.dup, 1) := by decide +kernel
theorem dX2_rename_78 : decode cX2_rename 78 = .ok (.ldc 118, 2) := by decide +kernel
theorem dX2_rename_80 : decode cX2_rename 80 = .ok (.invokespecial 72, 3) := by decide +kernel
theorem dX2_rename_83 : decode cX2_rename 83 = .ok (.athrow, 1) := by decide +kernel
theorem dX2_rename_84 : decode cX2_rename 84 = .ok (.aload 6, 2) := by decide +kernel
theorem dX2_rename_86 : decode cX2_rename 86 = .ok (.iload_n 3, 1) := by decide +kernel
theorem dX2_rename_87 : decode cX2_rename 87 = .ok (.invokevirtual 120, 3) := by decide +kernel
theorem dX2_rename_90 : decode cX2_rename 90 = .ok (.istore 10, 2) := by decide +kernel
theorem dX2_rename_92 : decode cX2_rename 92 = .ok (.aload_n 0, 1) := by decide +kernel
theorem dX2_rename_93 : decode cX2_rename 93 = .ok (.iload_n 1, 1) := by decide +kernel
theorem dX2_rename_94 : decode cX2_rename 94 = .ok (.aload 6, 2) := by decide +kernel
theorem dX2_rename_96 : decode cX2_rename 96 = .ok (.iload_n 3, 1) := by decide +kernel
theorem dX2_rename_97 : decode cX2_rename 97 = .ok (.iconst (-1), 1) := by decide +kernel
theorem dX2_rename_98 : decode cX2_rename 98 = .ok (.iconst 0, 1) := by decide +kernel
theorem dX2_rename_99 : decode cX2_rename 99 = .ok (.invokevirtual 75, 3) := by decide +kernel
theorem dX2_rename_102 : decode cX2_rename 102 = .ok (.aload_n 0, 1) := by decide +kernel
theorem dX2_rename_103 : decode cX2_rename 103 = .ok (.iload_n 1, 1) := by decide +kernel
theorem dX2_rename_104 : decode cX2_rename 104 = .ok (.aload 7, 2) := by decide +kernel
theorem dX2_rename_106 : decode cX2_rename 106 = .ok (.iload 5, 2) := by decide +kernel
theorem dX2_rename_108 : decode cX2_rename 108 = .ok (.iload 8, 2) := by decide +kernel
theorem dX2_rename_110 : decode cX2_rename 110 = .ok (.iload 10, 2) := by decide +kernel
theorem dX2_rename_112 : decode cX2_rename 112 = .ok (.invokevirtual 75, 3) := by decide +kernel
theorem dX2_rename_115 : decode cX2_rename 115 = .ok (.aload 9, 2) := by decide +kernel
theorem dX2_rename_117 : decode cX2_rename 117 = .ok (.ifnull 17, 3) := by decide +kernel
theorem dX2_rename_120 : decode cX2_rename 120 = .ok (.aload 9, 2) := by decide +kernel
theorem dX2_rename_122 : decode cX2_rename 122 = .ok (.aload 7, 2) := by decide +kernel
theorem dX2_rename_124 : decode cX2_rename 124 = .ok (.putfield 123, 3) := by decide +kernel
theorem dX2_rename_127 : decode cX2_rename 127 = .ok (.aload 9, 2) := by decide +kernel
theorem dX2_rename_129 : decode cX2_rename 129 = .ok (.iload 5, 2) := by decide +kernel
theorem dX2_rename_131 : decode cX2_rename 131 = .ok (.putfield 127, 3) := by decide +kernel
theorem dX2_rename_134 : decode cX2_rename 134 = .ok (.return_, 1) := by decide +kernel
theorem dX2_pass_0 : decode cX2_pass 0 = .ok (.iload_n 1, 1) := by decide +kernel
theorem dX2_pass_1 : decode cX2_pass 1 = .ok (.iconst 1, 1) := by decide +kernel
theorem dX2_pass_2 : decode cX2_pass 2 = .ok (.if_icmp .lt 9, 3) := by decide +kernel
theorem dX2_pass_5 : decode cX2_pass 5 = .ok (.iload_n 1, 1) := by decide +kernel
theorem dX2_pass_6 : decode cX2_pass 6 = .ok (.bipush 100, 2) := by decide +kernel
theorem dX2_pass_8 : decode cX2_pass 8 = .ok (.if_icmp .le 13, 3) := by decide +kernel
theorem dX2_pass_11 : decode cX2_pass 11 = .ok (.new 130, 3) := by decide +kernel
theorem dX2_pass_14 : decode cX2_pass 14 = .ok (.dup, 1) := by decide +kernel
theorem dX2_pass_15 : decode cX2_pass 15 = .ok (.ldc 132, 2) := by decide +kernel
theorem dX2_pass_17 : decode cX2_pass 17 = .ok (.invokespecial 134, 3) := by decide +kernel
theorem dX2_pass_20 : decode cX2_pass 20 = .ok (.athrow, 1) := by decide +kernel
theorem dX2_pass_21 : decode cX2_pass 21 = .ok (.aload_n 0, 1) := by decide +kernel
theorem dX2_pass_22 : decode cX2_pass 22 = .ok (.dup, 1) := by decide +kernel
theorem dX2_pass_23 : decode cX2_pass 23 = .ok (.getfield 40, 3) := by decide +kernel
theorem dX2_pass_26 : decode cX2_pass 26 = .ok (.iload_n 1, 1) := by decide +kernel
theorem dX2_pass_27 : decode cX2_pass 27 = .ok (.iadd, 1) := by decide +kernel
theorem dX2_pass_28 : decode cX2_pass 28 = .ok (.putfield 40, 3) := by decide +kernel
theorem dX2_pass_31 : decode cX2_pass 31 = .ok (.aload_n 0, 1) := by decide +kernel
theorem dX2_pass_32 : decode cX2_pass 32 = .ok (.getfield 40, 3) := by decide +kernel
theorem dX2_pass_35 : decode cX2_pass 35 = .ok (.ireturn, 1) := by decide +kernel
theorem dX2_leases_0 : decode cX2_leases 0 = .ok (.iload_n 1, 1) := by decide +kernel
theorem dX2_leases_1 : decode cX2_leases 1 = .ok (.invokestatic 29, 3) := by decide +kernel
theorem dX2_leases_4 : decode cX2_leases 4 = .ok (.iconst 0, 1) := by decide +kernel
theorem dX2_leases_5 : decode cX2_leases 5 = .ok (.istore_n 2, 1) := by decide +kernel
theorem dX2_leases_6 : decode cX2_leases 6 = .ok (.iconst 0, 1) := by decide +kernel
theorem dX2_leases_7 : decode cX2_leases 7 = .ok (.istore_n 3, 1) := by decide +kernel
theorem dX2_leases_8 : decode cX2_leases 8 = .ok (.iload_n 3, 1) := by decide +kernel
theorem dX2_leases_9 : decode cX2_leases 9 = .ok (.aload_n 0, 1) := by decide +kernel
theorem dX2_leases_10 : decode cX2_leases 10 = .ok (.getfield 11, 3) := by decide +kernel
theorem dX2_leases_13 : decode cX2_leases 13 = .ok (.arraylength, 1) := by decide +kernel
theorem dX2_leases_14 : decode cX2_leases 14 = .ok (.if_icmp .ge 35, 3) := by decide +kernel
theorem dX2_leases_17 : decode cX2_leases 17 = .ok (.aload_n 0, 1) := by decide +kernel
theorem dX2_leases_18 : decode cX2_leases 18 = .ok (.getfield 11, 3) := by decide +kernel
theorem dX2_leases_21 : decode cX2_leases 21 = .ok (.iload_n 3, 1) := by decide +kernel
theorem dX2_leases_22 : decode cX2_leases 22 = .ok (.aaload, 1) := by decide +kernel
theorem dX2_leases_23 : decode cX2_leases 23 = .ok (.astore 4, 2) := by decide +kernel
theorem dX2_leases_25 : decode cX2_leases 25 = .ok (.aload 4, 2) := by decide +kernel
theorem dX2_leases_27 : decode cX2_leases 27 = .ok (.ifnull 16, 3) := by decide +kernel
theorem dX2_leases_30 : decode cX2_leases 30 = .ok (.iload_n 2, 1) := by decide +kernel
theorem dX2_leases_31 : decode cX2_leases 31 = .ok (.aload 4, 2) := by decide +kernel
theorem dX2_leases_33 : decode cX2_leases 33 = .ok (.iload_n 1, 1) := by decide +kernel
theorem dX2_leases_34 : decode cX2_leases 34 = .ok (.aload_n 0, 1) := by decide +kernel
theorem dX2_leases_35 : decode cX2_leases 35 = .ok (.getfield 40, 3) := by decide +kernel
theorem dX2_leases_38 : decode cX2_leases 38 = .ok (.invokevirtual 135, 3) := by decide +kernel
theorem dX2_leases_41 : decode cX2_leases 41 = .ok (.iadd, 1) := by decide +kernel
theorem dX2_leases_42 : decode cX2_leases 42 = .ok (.istore_n 2, 1) := by decide +kernel
theorem dX2_leases_43 : decode cX2_leases 43 = .ok (.iinc 3 1, 3) := by decide +kernel
theorem dX2_leases_46 : decode cX2_leases 46 = .ok (.goto (-38), 3) := by decide +kernel
theorem dX2_leases_49 : decode cX2_leases 49 = .ok (.iload_n 2, 1) := by decide +kernel
theorem dX2_leases_50 : decode cX2_leases 50 = .ok (.ireturn, 1) := by decide +kernel
theorem dX2_recalls_0 : decode cX2_recalls 0 = .ok (.iload_n 1, 1) := by decide +kernel
theorem dX2_recalls_1 : decode cX2_recalls 1 = .ok (.invokestatic 29, 3) := by decide +kernel
theorem dX2_recalls_4 : decode cX2_recalls 4 = .ok (.aload_n 0, 1) := by decide +kernel
theorem dX2_recalls_5 : decode cX2_recalls 5 = .ok (.getfield 15, 3) := by decide +kernel
theorem dX2_recalls_8 : decode cX2_recalls 8 = .ok (.iload_n 1, 1) := by decide +kernel
theorem dX2_recalls_9 : decode cX2_recalls 9 = .ok (.iaload, 1) := by decide +kernel
theorem dX2_recalls_10 : decode cX2_recalls 10 = .ok (.ireturn, 1) := by decide +kernel
theorem dX2_known_0 : decode cX2_known 0 = .ok (.iload_n 1, 1) := by decide +kernel
theorem dX2_known_1 : decode cX2_known 1 = .ok (.invokestatic 29, 3) := by decide +kernel
theorem dX2_known_4 : decode cX2_known 4 = .ok (.aload_n 0, 1) := by decide +kernel
theorem dX2_known_5 : decode cX2_known 5 = .ok (.getfield 19, 3) := by decide +kernel
theorem dX2_known_8 : decode cX2_known 8 = .ok (.iload_n 1, 1) := by decide +kernel
theorem dX2_known_9 : decode cX2_known 9 = .ok (.iaload, 1) := by decide +kernel
theorem dX2_known_10 : decode cX2_known 10 = .ok (.ireturn, 1) := by decide +kernel
theorem dX2_split_0 : decode cX2_split 0 = .ok (.iload_n 2, 1) := by decide +kernel
theorem dX2_split_1 : decode cX2_split 1 = .ok (.invokestatic 139, 3) := by decide +kernel
theorem dX2_split_4 : decode cX2_split 4 = .ok (.aload_n 0, 1) := by decide +kernel
theorem dX2_split_5 : decode cX2_split 5 = .ok (.iload_n 1, 1) := by decide +kernel
theorem dX2_split_6 : decode cX2_split 6 = .ok (.invokevirtual 36, 3) := by decide +kernel
theorem dX2_split_9 : decode cX2_split 9 = .ok (.astore_n 3, 1) := by decide +kernel
theorem dX2_split_10 : decode cX2_split 10 = .ok (.aload_n 3, 1) := by decide +kernel
theorem dX2_split_11 : decode cX2_split 11 = .ok (.iload_n 2, 1) := by decide +kernel
theorem dX2_split_12 : decode cX2_split 12 = .ok (.invokevirtual 142, 3) := by decide +kernel
theorem dX2_split_15 : decode cX2_split 15 = .ok (.astore 4, 2) := by decide +kernel
theorem dX2_split_17 : decode cX2_split 17 = .ok (.aload 4, 2) := by decide +kernel
theorem dX2_split_19 : decode cX2_split 19 = .ok (.getfield 145, 3) := by decide +kernel
theorem dX2_split_22 : decode cX2_split 22 = .ok (.iconst 2, 1) := by decide +kernel
theorem dX2_split_23 : decode cX2_split 23 = .ok (.if_icmp .lt 12, 3) := by decide +kernel
theorem dX2_split_26 : decode cX2_split 26 = .ok (.aload_n 0, 1) := by decide +kernel
theorem dX2_split_27 : decode cX2_split 27 = .ok (.aload 4, 2) := by decide +kernel
theorem dX2_split_29 : decode cX2_split 29 = .ok (.invokevirtual 148, 3) := by decide +kernel
theorem dX2_split_32 : decode cX2_split 32 = .ok (.ifCond .eq 13, 3) := by decide +kernel
theorem dX2_split_35 : decode cX2_split 35 = .ok (.new 68, 3) := by decide +kernel
theorem dX2_split_38 : decode cX2_split 38 = .ok (.dup, 1) := by decide +kernel
theorem dX2_split_39 : decode cX2_split 39 = .ok (.ldc 152, 2) := by decide +kernel
theorem dX2_split_41 : decode cX2_split 41 = .ok (.invokespecial 72, 3) := by decide +kernel
theorem dX2_split_44 : decode cX2_split 44 = .ok (.athrow, 1) := by decide +kernel
theorem dX2_split_45 : decode cX2_split 45 = .ok (.aload_n 3, 1) := by decide +kernel
theorem dX2_split_46 : decode cX2_split 46 = .ok (.aload 4, 2) := by decide +kernel
theorem dX2_split_48 : decode cX2_split 48 = .ok (.invokevirtual 154, 3) := by decide +kernel
theorem dX2_split_51 : decode cX2_split 51 = .ok (.aload_n 3, 1) := by decide +kernel
theorem dX2_split_52 : decode cX2_split 52 = .ok (.invokevirtual 158, 3) := by decide +kernel
theorem dX2_split_55 : decode cX2_split 55 = .ok (.ireturn, 1) := by decide +kernel
theorem dX2_merge_0 : decode cX2_merge 0 = .ok (.iload_n 2, 1) := by decide +kernel
theorem dX2_merge_1 : decode cX2_merge 1 = .ok (.invokestatic 139, 3) := by decide +kernel
theorem dX2_merge_4 : decode cX2_merge 4 = .ok (.aload_n 0, 1) := by decide +kernel
theorem dX2_merge_5 : decode cX2_merge 5 = .ok (.iload_n 1, 1) := by decide +kernel
theorem dX2_merge_6 : decode cX2_merge 6 = .ok (.invokevirtual 36, 3) := by decide +kernel
theorem dX2_merge_9 : decode cX2_merge 9 = .ok (.astore_n 3, 1) := by decide +kernel
theorem dX2_merge_10 : decode cX2_merge 10 = .ok (.aload_n 3, 1) := by decide +kernel
theorem dX2_merge_11 : decode cX2_merge 11 = .ok (.iload_n 2, 1) := by decide +kernel
theorem dX2_merge_12 : decode cX2_merge 12 = .ok (.invokevirtual 142, 3) := by decide +kernel
theorem dX2_merge_15 : decode cX2_merge 15 = .ok (.astore 4, 2) := by decide +kernel
theorem dX2_merge_17 : decode cX2_merge 17 = .ok (.aload 4, 2) := by decide +kernel
theorem dX2_merge_19 : decode cX2_merge 19 = .ok (.getfield 145, 3) := by decide +kernel
theorem dX2_merge_22 : decode cX2_merge 22 = .ok (.bipush 8, 2) := by decide +kernel
theorem dX2_merge_24 : decode cX2_merge 24 = .ok (.if_icmp .lt 13, 3) := by decide +kernel
theorem dX2_merge_27 : decode cX2_merge 27 = .ok (.new 68, 3) := by decide +kernel
theorem dX2_merge_30 : decode cX2_merge 30 = .ok (.dup, 1) := by decide +kernel
theorem dX2_merge_31 : decode cX2_merge 31 = .ok (.ldc 162, 2) := by decide +kernel
theorem dX2_merge_33 : decode cX2_merge 33 = .ok (.invokespecial 72, 3) := by decide +kernel
theorem dX2_merge_36 : decode cX2_merge 36 = .ok (.athrow, 1) := by decide +kernel
theorem dX2_merge_37 : decode cX2_merge 37 = .ok (.aload_n 3, 1) := by decide +kernel
theorem dX2_merge_38 : decode cX2_merge 38 = .ok (.aload 4, 2) := by decide +kernel
theorem dX2_merge_40 : decode cX2_merge 40 = .ok (.getfield 164, 3) := by decide +kernel
theorem dX2_merge_43 : decode cX2_merge 43 = .ok (.aload 4, 2) := by decide +kernel
theorem dX2_merge_45 : decode cX2_merge 45 = .ok (.getfield 145, 3) := by decide +kernel
theorem dX2_merge_48 : decode cX2_merge 48 = .ok (.ixor, 1) := by decide +kernel
theorem dX2_merge_49 : decode cX2_merge 49 = .ok (.invokevirtual 142, 3) := by decide +kernel
theorem dX2_merge_52 : decode cX2_merge 52 = .ok (.astore 5, 2) := by decide +kernel
theorem dX2_merge_54 : decode cX2_merge 54 = .ok (.aload 5, 2) := by decide +kernel
theorem dX2_merge_56 : decode cX2_merge 56 = .ok (.getfield 145, 3) := by decide +kernel
theorem dX2_merge_59 : decode cX2_merge 59 = .ok (.aload 4, 2) := by decide +kernel
theorem dX2_merge_61 : decode cX2_merge 61 = .ok (.getfield 145, 3) := by decide +kernel
theorem dX2_merge_64 : decode cX2_merge 64 = .ok (.if_icmp .ne 16, 3) := by decide +kernel
theorem dX2_merge_67 : decode cX2_merge 67 = .ok (.aload 5, 2) := by decide +kernel
theorem dX2_merge_69 : decode cX2_merge 69 = .ok (.getfield 167, 3) := by decide +kernel
theorem dX2_merge_72 : decode cX2_merge 72 = .ok (.aload 4, 2) := by decide +kernel
theorem dX2_merge_74 : decode cX2_merge 74 = .ok (.getfield 167, 3) := by decide +kernel
theorem dX2_merge_77 : decode cX2_merge 77 = .ok (.if_icmp .eq 13, 3) := by decide +kernel
theorem dX2_merge_80 : decode cX2_merge 80 = .ok (.new 68, 3) := by decide +kernel
theorem dX2_merge_83 : decode cX2_merge 83 = .ok (.dup, 1) := by decide +kernel
theorem dX2_merge_84 : decode cX2_merge 84 = .ok (.ldc 170, 2) := by decide +kernel
theorem dX2_merge_86 : decode cX2_merge 86 = .ok (.invokespecial 72, 3) := by decide +kernel
theorem dX2_merge_89 : decode cX2_merge 89 = .ok (.athrow, 1) := by decide +kernel
theorem dX2_merge_90 : decode cX2_merge 90 = .ok (.aload_n 0, 1) := by decide +kernel
theorem dX2_merge_91 : decode cX2_merge 91 = .ok (.aload 4, 2) := by decide +kernel
theorem dX2_merge_93 : decode cX2_merge 93 = .ok (.invokevirtual 148, 3) := by decide +kernel
theorem dX2_merge_96 : decode cX2_merge 96 = .ok (.ifCond .ne 12, 3) := by decide +kernel
theorem dX2_merge_99 : decode cX2_merge 99 = .ok (.aload_n 0, 1) := by decide +kernel
theorem dX2_merge_100 : decode cX2_merge 100 = .ok (.aload 5, 2) := by decide +kernel
theorem dX2_merge_102 : decode cX2_merge 102 = .ok (.invokevirtual 148, 3) := by decide +kernel
theorem dX2_merge_105 : decode cX2_merge 105 = .ok (.ifCond .eq 13, 3) := by decide +kernel
theorem dX2_merge_108 : decode cX2_merge 108 = .ok (.new 68, 3) := by decide +kernel
theorem dX2_merge_111 : decode cX2_merge 111 = .ok (.dup, 1) := by decide +kernel
theorem dX2_merge_112 : decode cX2_merge 112 = .ok (.ldc 172, 2) := by decide +kernel
theorem dX2_merge_114 : decode cX2_merge 114 = .ok (.invokespecial 72, 3) := by decide +kernel
theorem dX2_merge_117 : decode cX2_merge 117 = .ok (.athrow, 1) := by decide +kernel
theorem dX2_merge_118 : decode cX2_merge 118 = .ok (.aload 4, 2) := by decide +kernel
theorem dX2_merge_120 : decode cX2_merge 120 = .ok (.getfield 164, 3) := by decide +kernel
theorem dX2_merge_123 : decode cX2_merge 123 = .ok (.aload 5, 2) := by decide +kernel
theorem dX2_merge_125 : decode cX2_merge 125 = .ok (.getfield 164, 3) := by decide +kernel
theorem dX2_merge_128 : decode cX2_merge 128 = .ok (.if_icmp .ge 14, 3) := by decide +kernel
theorem dX2_merge_131 : decode cX2_merge 131 = .ok (.aload_n 3, 1) := by decide +kernel
theorem dX2_merge_132 : decode cX2_merge 132 = .ok (.aload 4, 2) := by decide +kernel
theorem dX2_merge_134 : decode cX2_merge 134 = .ok (.aload 5, 2) := by decide +kernel
theorem dX2_merge_136 : decode cX2_merge 136 = .ok (.invokevirtual 174, 3) := by decide +kernel
theorem dX2_merge_139 : decode cX2_merge 139 = .ok (.goto 11, 3) := by decide +kernel
theorem dX2_merge_142 : decode cX2_merge 142 = .ok (.aload_n 3, 1) := by decide +kernel
theorem dX2_merge_143 : decode cX2_merge 143 = .ok (.aload 5, 2) := by decide +kernel
theorem dX2_merge_145 : decode cX2_merge 145 = .ok (.aload 4, 2) := by decide +kernel
theorem dX2_merge_147 : decode cX2_merge 147 = .ok (.invokevirtual 174, 3) := by decide +kernel
theorem dX2_merge_150 : decode cX2_merge 150 = .ok (.aload_n 3, 1) := by decide +kernel
theorem dX2_merge_151 : decode cX2_merge 151 = .ok (.invokevirtual 158, 3) := by decide +kernel
theorem dX2_merge_154 : decode cX2_merge 154 = .ok (.ireturn, 1) := by decide +kernel
theorem dX2_fragments_0 : decode cX2_fragments 0 = .ok (.aload_n 0, 1) := by decide +kernel
theorem dX2_fragments_1 : decode cX2_fragments 1 = .ok (.iload_n 1, 1) := by decide +kernel
theorem dX2_fragments_2 : decode cX2_fragments 2 = .ok (.invokevirtual 36, 3) := by decide +kernel
theorem dX2_fragments_5 : decode cX2_fragments 5 = .ok (.invokevirtual 158, 3) := by decide +kernel
theorem dX2_fragments_8 : decode cX2_fragments 8 = .ok (.ireturn, 1) := by decide +kernel
theorem dX2_serverOf_0 : decode cX2_serverOf 0 = .ok (.iload_n 2, 1) := by decide +kernel
theorem dX2_serverOf_1 : decode cX2_serverOf 1 = .ok (.invokestatic 33, 3) := by decide +kernel
theorem dX2_serverOf_4 : decode cX2_serverOf 4 = .ok (.aload_n 0, 1) := by decide +kernel
theorem dX2_serverOf_5 : decode cX2_serverOf 5 = .ok (.aload_n 0, 1) := by decide +kernel
theorem dX2_serverOf_6 : decode cX2_serverOf 6 = .ok (.iload_n 1, 1) := by decide +kernel
theorem dX2_serverOf_7 : decode cX2_serverOf 7 = .ok (.invokevirtual 36, 3) := by decide +kernel
theorem dX2_serverOf_10 : decode cX2_serverOf 10 = .ok (.iload_n 2, 1) := by decide +kernel
theorem dX2_serverOf_11 : decode cX2_serverOf 11 = .ok (.invokevirtual 47, 3) := by decide +kernel
theorem dX2_serverOf_14 : decode cX2_serverOf 14 = .ok (.invokevirtual 178, 3) := by decide +kernel
theorem dX2_serverOf_17 : decode cX2_serverOf 17 = .ok (.ireturn, 1) := by decide +kernel
theorem dX2_ownerOf_0 : decode cX2_ownerOf 0 = .ok (.iload_n 2, 1) := by decide +kernel
theorem dX2_ownerOf_1 : decode cX2_ownerOf 1 = .ok (.invokestatic 139, 3) := by decide +kernel
theorem dX2_ownerOf_4 : decode cX2_ownerOf 4 = .ok (.aload_n 0, 1) := by decide +kernel
theorem dX2_ownerOf_5 : decode cX2_ownerOf 5 = .ok (.iload_n 1, 1) := by decide +kernel
theorem dX2_ownerOf_6 : decode cX2_ownerOf 6 = .ok (.invokevirtual 36, 3) := by decide +kernel
theorem dX2_ownerOf_9 : decode cX2_ownerOf 9 = .ok (.iload_n 2, 1) := by decide +kernel
theorem dX2_ownerOf_10 : decode cX2_ownerOf 10 = .ok (.invokevirtual 142, 3) := by decide +kernel
theorem dX2_ownerOf_13 : decode cX2_ownerOf 13 = .ok (.getfield 167, 3) := by decide +kernel
theorem dX2_ownerOf_16 : decode cX2_ownerOf 16 = .ok (.ireturn, 1) := by decide +kernel
theorem dX2_load_0 : decode cX2_load 0 = .ok (.iload_n 1, 1) := by decide +kernel
theorem dX2_load_1 : decode cX2_load 1 = .ok (.invokestatic 182, 3) := by decide +kernel
theorem dX2_load_4 : decode cX2_load 4 = .ok (.aload_n 0, 1) := by decide +kernel
theorem dX2_load_5 : decode cX2_load 5 = .ok (.iload_n 1, 1) := by decide +kernel
theorem dX2_load_6 : decode cX2_load 6 = .ok (.invokevirtual 185, 3) := by decide +kernel
theorem dX2_load_9 : decode cX2_load 9 = .ok (.ireturn, 1) := by decide +kernel
theorem dX2_beginMove_0 : decode cX2_beginMove 0 = .ok (.iload_n 2, 1) := by decide +kernel
theorem dX2_beginMove_1 : decode cX2_beginMove 1 = .ok (.invokestatic 139, 3) := by decide +kernel
theorem dX2_beginMove_4 : decode cX2_beginMove 4 = .ok (.iload_n 3, 1) := by decide +kernel
theorem dX2_beginMove_5 : decode cX2_beginMove 5 = .ok (.invokestatic 182, 3) := by decide +kernel
theorem dX2_beginMove_8 : decode cX2_beginMove 8 = .ok (.aload_n 0, 1) := by decide +kernel
theorem dX2_beginMove_9 : decode cX2_beginMove 9 = .ok (.iload_n 1, 1) := by decide +kernel
theorem dX2_beginMove_10 : decode cX2_beginMove 10 = .ok (.invokevirtual 36, 3) := by decide +kernel
theorem dX2_beginMove_13 : decode cX2_beginMove 13 = .ok (.iload_n 2, 1) := by decide +kernel
theorem dX2_beginMove_14 : decode cX2_beginMove 14 = .ok (.invokevirtual 142, 3) := by decide +kernel
theorem dX2_beginMove_17 : decode cX2_beginMove 17 = .ok (.astore 4, 2) := by decide +kernel
theorem dX2_beginMove_19 : decode cX2_beginMove 19 = .ok (.aload_n 0, 1) := by decide +kernel
theorem dX2_beginMove_20 : decode cX2_beginMove 20 = .ok (.invokevirtual 188, 3) := by decide +kernel
theorem dX2_beginMove_23 : decode cX2_beginMove 23 = .ok (.aload_n 0, 1) := by decide +kernel
theorem dX2_beginMove_24 : decode cX2_beginMove 24 = .ok (.aload 4, 2) := by decide +kernel
theorem dX2_beginMove_26 : decode cX2_beginMove 26 = .ok (.invokevirtual 178, 3) := by decide +kernel
theorem dX2_beginMove_29 : decode cX2_beginMove 29 = .ok (.iload_n 3, 1) := by decide +kernel
theorem dX2_beginMove_30 : decode cX2_beginMove 30 = .ok (.if_icmp .ne 13, 3) := by decide +kernel
theorem dX2_beginMove_33 : decode cX2_beginMove 33 = .ok (.new 68, 3) := by decide +kernel
theorem dX2_beginMove_36 : decode cX2_beginMove 36 = .ok (.dup, 1) := by decide +kernel
theorem dX2_beginMove_37 : decode cX2_beginMove 37 = .ok (.ldc 191, 2) := by decide +kernel
theorem dX2_beginMove_39 : decode cX2_beginMove 39 = .ok (.invokespecial 72, 3) := by decide +kernel
theorem dX2_beginMove_42 : decode cX2_beginMove 42 = .ok (.athrow, 1) := by decide +kernel
theorem dX2_beginMove_43 : decode cX2_beginMove 43 = .ok (.aload_n 0, 1) := by decide +kernel
theorem dX2_beginMove_44 : decode cX2_beginMove 44 = .ok (.aload 4, 2) := by decide +kernel
theorem dX2_beginMove_46 : decode cX2_beginMove 46 = .ok (.iload_n 3, 1) := by decide +kernel
theorem dX2_beginMove_47 : decode cX2_beginMove 47 = .ok (.invokevirtual 193, 3) := by decide +kernel
theorem dX2_beginMove_50 : decode cX2_beginMove 50 = .ok (.return_, 1) := by decide +kernel
theorem dX2_stepMove_0 : decode cX2_stepMove 0 = .ok (.aload_n 0, 1) := by decide +kernel
theorem dX2_stepMove_1 : decode cX2_stepMove 1 = .ok (.getfield 197, 3) := by decide +kernel
theorem dX2_stepMove_4 : decode cX2_stepMove 4 = .ok (.ifnonnull 13, 3) := by decide +kernel
theorem dX2_stepMove_7 : decode cX2_stepMove 7 = .ok (.new 68, 3) := by decide +kernel
theorem dX2_stepMove_10 : decode cX2_stepMove 10 = .ok (.dup, 1) := by decide +kernel
theorem dX2_stepMove_11 : decode cX2_stepMove 11 = .ok (.ldc 201, 2) := by decide +kernel
theorem dX2_stepMove_13 : decode cX2_stepMove 13 = .ok (.invokespecial 72, 3) := by decide +kernel
theorem dX2_stepMove_16 : decode cX2_stepMove 16 = .ok (.athrow, 1) := by decide +kernel
theorem dX2_stepMove_17 : decode cX2_stepMove 17 = .ok (.aload_n 0, 1) := by decide +kernel
theorem dX2_stepMove_18 : decode cX2_stepMove 18 = .ok (.dup, 1) := by decide +kernel
theorem dX2_stepMove_19 : decode cX2_stepMove 19 = .ok (.getfield 203, 3) := by decide +kernel
theorem dX2_stepMove_22 : decode cX2_stepMove 22 = .ok (.iconst 1, 1) := by decide +kernel
theorem dX2_stepMove_23 : decode cX2_stepMove 23 = .ok (.iadd, 1) := by decide +kernel
theorem dX2_stepMove_24 : decode cX2_stepMove 24 = .ok (.putfield 203, 3) := by decide +kernel
theorem dX2_stepMove_27 : decode cX2_stepMove 27 = .ok (.aload_n 0, 1) := by decide +kernel
theorem dX2_stepMove_28 : decode cX2_stepMove 28 = .ok (.getfield 203, 3) := by decide +kernel
theorem dX2_stepMove_31 : decode cX2_stepMove 31 = .ok (.iconst 1, 1) := by decide +kernel
theorem dX2_stepMove_32 : decode cX2_stepMove 32 = .ok (.if_icmp .ne 10, 3) := by decide +kernel
theorem dX2_stepMove_35 : decode cX2_stepMove 35 = .ok (.aload_n 0, 1) := by decide +kernel
theorem dX2_stepMove_36 : decode cX2_stepMove 36 = .ok (.invokevirtual 206, 3) := by decide +kernel
theorem dX2_stepMove_39 : decode cX2_stepMove 39 = .ok (.goto 19, 3) := by decide +kernel
theorem dX2_stepMove_42 : decode cX2_stepMove 42 = .ok (.aload_n 0, 1) := by decide +kernel
theorem dX2_stepMove_43 : decode cX2_stepMove 43 = .ok (.getfield 197, 3) := by decide +kernel
theorem dX2_stepMove_46 : decode cX2_stepMove 46 = .ok (.aload_n 0, 1) := by decide +kernel
theorem dX2_stepMove_47 : decode cX2_stepMove 47 = .ok (.getfield 209, 3) := by decide +kernel
theorem dX2_stepMove_50 : decode cX2_stepMove 50 = .ok (.putfield 167, 3) := by decide +kernel
theorem dX2_stepMove_53 : decode cX2_stepMove 53 = .ok (.aload_n 0, 1) := by decide +kernel
theorem dX2_stepMove_54 : decode cX2_stepMove 54 = .ok (.aconst_null, 1) := by decide +kernel
theorem dX2_stepMove_55 : decode cX2_stepMove 55 = .ok (.putfield 197, 3) := by decide +kernel
theorem dX2_stepMove_58 : decode cX2_stepMove 58 = .ok (.aload_n 0, 1) := by decide +kernel
theorem dX2_stepMove_59 : decode cX2_stepMove 59 = .ok (.getfield 203, 3) := by decide +kernel
theorem dX2_stepMove_62 : decode cX2_stepMove 62 = .ok (.ireturn, 1) := by decide +kernel
theorem dX2_giveUpMove_0 : decode cX2_giveUpMove 0 = .ok (.aload_n 0, 1) := by decide +kernel
theorem dX2_giveUpMove_1 : decode cX2_giveUpMove 1 = .ok (.getfield 197, 3) := by decide +kernel
theorem dX2_giveUpMove_4 : decode cX2_giveUpMove 4 = .ok (.ifnonnull 13, 3) := by decide +kernel
theorem dX2_giveUpMove_7 : decode cX2_giveUpMove 7 = .ok (.new 68, 3) := by decide +kernel
theorem dX2_giveUpMove_10 : decode cX2_giveUpMove 10 = .ok (.dup, 1) := by decide +kernel
theorem dX2_giveUpMove_11 : decode cX2_giveUpMove 11 = .ok (.ldc 201, 2) := by decide +kernel
theorem dX2_giveUpMove_13 : decode cX2_giveUpMove 13 = .ok (.invokespecial 72, 3) := by decide +kernel
theorem dX2_giveUpMove_16 : decode cX2_giveUpMove 16 = .ok (.athrow, 1) := by decide +kernel
theorem dX2_giveUpMove_17 : decode cX2_giveUpMove 17 = .ok (.aload_n 0, 1) := by decide +kernel
theorem dX2_giveUpMove_18 : decode cX2_giveUpMove 18 = .ok (.aconst_null, 1) := by decide +kernel
theorem dX2_giveUpMove_19 : decode cX2_giveUpMove 19 = .ok (.putfield 197, 3) := by decide +kernel
theorem dX2_giveUpMove_22 : decode cX2_giveUpMove 22 = .ok (.aload_n 0, 1) := by decide +kernel
theorem dX2_giveUpMove_23 : decode cX2_giveUpMove 23 = .ok (.getfield 203, 3) := by decide +kernel
theorem dX2_giveUpMove_26 : decode cX2_giveUpMove 26 = .ok (.ireturn, 1) := by decide +kernel
theorem dX2_isFrozen_0 : decode cX2_isFrozen 0 = .ok (.iload_n 2, 1) := by decide +kernel
theorem dX2_isFrozen_1 : decode cX2_isFrozen 1 = .ok (.invokestatic 33, 3) := by decide +kernel
theorem dX2_isFrozen_4 : decode cX2_isFrozen 4 = .ok (.aload_n 0, 1) := by decide +kernel
theorem dX2_isFrozen_5 : decode cX2_isFrozen 5 = .ok (.aload_n 0, 1) := by decide +kernel
theorem dX2_isFrozen_6 : decode cX2_isFrozen 6 = .ok (.iload_n 1, 1) := by decide +kernel
theorem dX2_isFrozen_7 : decode cX2_isFrozen 7 = .ok (.invokevirtual 36, 3) := by decide +kernel
theorem dX2_isFrozen_10 : decode cX2_isFrozen 10 = .ok (.iload_n 2, 1) := by decide +kernel
theorem dX2_isFrozen_11 : decode cX2_isFrozen 11 = .ok (.invokevirtual 47, 3) := by decide +kernel
theorem dX2_isFrozen_14 : decode cX2_isFrozen 14 = .ok (.invokevirtual 148, 3) := by decide +kernel
theorem dX2_isFrozen_17 : decode cX2_isFrozen 17 = .ok (.ireturn, 1) := by decide +kernel
theorem dX2_balance_0 : decode cX2_balance 0 = .ok (.aload_n 0, 1) := by decide +kernel
theorem dX2_balance_1 : decode cX2_balance 1 = .ok (.invokevirtual 188, 3) := by decide +kernel
theorem dX2_balance_4 : decode cX2_balance 4 = .ok (.iconst 0, 1) := by decide +kernel
theorem dX2_balance_5 : decode cX2_balance 5 = .ok (.istore_n 1, 1) := by decide +kernel
theorem dX2_balance_6 : decode cX2_balance 6 = .ok (.iconst 0, 1) := by decide +kernel
theorem dX2_balance_7 : decode cX2_balance 7 = .ok (.istore_n 2, 1) := by decide +kernel
theorem dX2_balance_8 : decode cX2_balance 8 = .ok (.aload_n 0, 1) := by decide +kernel
theorem dX2_balance_9 : decode cX2_balance 9 = .ok (.iconst 0, 1) := by decide +kernel
theorem dX2_balance_10 : decode cX2_balance 10 = .ok (.invokevirtual 185, 3) := by decide +kernel
theorem dX2_balance_13 : decode cX2_balance 13 = .ok (.istore_n 3, 1) := by decide +kernel
theorem dX2_balance_14 : decode cX2_balance 14 = .ok (.iload_n 3, 1) := by decide +kernel
theorem dX2_balance_15 : decode cX2_balance 15 = .ok (.istore 4, 2) := by decide +kernel
theorem dX2_balance_17 : decode cX2_balance 17 = .ok (.iconst 1, 1) := by decide +kernel
theorem dX2_balance_18 : decode cX2_balance 18 = .ok (.istore 5, 2) := by decide +kernel
theorem dX2_balance_20 : decode cX2_balance 20 = .ok (.iload 5, 2) := by decide +kernel
theorem dX2_balance_22 : decode cX2_balance 22 = .ok (.iconst 4, 1) := by decide +kernel
theorem dX2_balance_23 : decode cX2_balance 23 = .ok (.if_icmp .ge 43, 3) := by decide +kernel
theorem dX2_balance_26 : decode cX2_balance 26 = .ok (.aload_n 0, 1) := by decide +kernel
theorem dX2_balance_27 : decode cX2_balance 27 = .ok (.iload 5, 2) := by decide +kernel
theorem dX2_balance_29 : decode cX2_balance 29 = .ok (.invokevirtual 185, 3) := by decide +kernel
theorem dX2_balance_32 : decode cX2_balance 32 = .ok (.istore 6, 2) := by decide +kernel
theorem dX2_balance_34 : decode cX2_balance 34 = .ok (.iload 6, 2) := by decide +kernel
theorem dX2_balance_36 : decode cX2_balance 36 = .ok (.iload_n 3, 1) := by decide +kernel
theorem dX2_balance_37 : decode cX2_balance 37 = .ok (.if_icmp .le 9, 3) := by decide +kernel
theorem dX2_balance_40 : decode cX2_balance 40 = .ok (.iload 5, 2) := by decide +kernel
theorem dX2_balance_42 : decode cX2_balance 42 = .ok (.istore_n 1, 1) := by decide +kernel
theorem dX2_balance_43 : decode cX2_balance 43 = .ok (.iload 6, 2) := by decide +kernel
theorem dX2_balance_45 : decode cX2_balance 45 = .ok (.istore_n 3, 1) := by decide +kernel
theorem dX2_balance_46 : decode cX2_balance 46 = .ok (.iload 6, 2) := by decide +kernel
theorem dX2_balance_48 : decode cX2_balance 48 = .ok (.iload 4, 2) := by decide +kernel
theorem dX2_balance_50 : decode cX2_balance 50 = .ok (.if_icmp .ge 10, 3) := by decide +kernel
theorem dX2_balance_53 : decode cX2_balance 53 = .ok (.iload 5, 2) := by decide +kernel
theorem dX2_balance_55 : decode cX2_balance 55 = .ok (.istore_n 2, 1) := by decide +kernel
theorem dX2_balance_56 : decode cX2_balance 56 = .ok (.iload 6, 2) := by decide +kernel
theorem dX2_balance_58 : decode cX2_balance 58 = .ok (.istore 4, 2) := by decide +kernel
theorem dX2_balance_60 : decode cX2_balance 60 = .ok (.iinc 5 1, 3) := by decide +kernel
theorem dX2_balance_63 : decode cX2_balance 63 = .ok (.goto (-43), 3) := by decide +kernel
theorem dX2_balance_66 : decode cX2_balance 66 = .ok (.iload_n 3, 1) := by decide +kernel
theorem dX2_balance_67 : decode cX2_balance 67 = .ok (.iload 4, 2) := by decide +kernel
theorem dX2_balance_69 : decode cX2_balance 69 = .ok (.isub, 1) := by decide +kernel
theorem dX2_balance_70 : decode cX2_balance 70 = .ok (.istore 5, 2) := by decide +kernel
theorem dX2_balance_72 : decode cX2_balance 72 = .ok (.aconst_null, 1) := by decide +kernel
theorem dX2_balance_73 : decode cX2_balance 73 = .ok (.astore 6, 2) := by decide +kernel
theorem dX2_balance_75 : decode cX2_balance 75 = .ok (.iload 5, 2) := by decide +kernel
theorem dX2_balance_77 : decode cX2_balance 77 = .ok (.iconst 4, 1) := by decide +kernel
theorem dX2_balance_78 : decode cX2_balance 78 = .ok (.if_icmp .lt 14, 3) := by decide +kernel
theorem dX2_balance_81 : decode cX2_balance 81 = .ok (.aload_n 0, 1) := by decide +kernel
theorem dX2_balance_82 : decode cX2_balance 82 = .ok (.iload_n 1, 1) := by decide +kernel
theorem dX2_balance_83 : decode cX2_balance 83 = .ok (.iload 5, 2) := by decide +kernel
theorem dX2_balance_85 : decode cX2_balance 85 = .ok (.iconst 2, 1) := by decide +kernel
theorem dX2_balance_86 : decode cX2_balance 86 = .ok (.idiv, 1) := by decide +kernel
theorem dX2_balance_87 : decode cX2_balance 87 = .ok (.invokevirtual 212, 3) := by decide +kernel
theorem dX2_balance_90 : decode cX2_balance 90 = .ok (.astore 6, 2) := by decide +kernel
theorem dX2_balance_92 : decode cX2_balance 92 = .ok (.aload 6, 2) := by decide +kernel
theorem dX2_balance_94 : decode cX2_balance 94 = .ok (.ifnull 10, 3) := by decide +kernel
theorem dX2_balance_97 : decode cX2_balance 97 = .ok (.aload_n 0, 1) := by decide +kernel
theorem dX2_balance_98 : decode cX2_balance 98 = .ok (.aload 6, 2) := by decide +kernel
theorem dX2_balance_100 : decode cX2_balance 100 = .ok (.iload_n 2, 1) := by decide +kernel
theorem dX2_balance_101 : decode cX2_balance 101 = .ok (.invokevirtual 193, 3) := by decide +kernel
theorem dX2_balance_104 : decode cX2_balance 104 = .ok (.aload_n 0, 1) := by decide +kernel
theorem dX2_balance_105 : decode cX2_balance 105 = .ok (.invokevirtual 216, 3) := by decide +kernel
theorem dX2_balance_108 : decode cX2_balance 108 = .ok (.aload 6, 2) := by decide +kernel
theorem dX2_balance_110 : decode cX2_balance 110 = .ok (.ifnonnull 7, 3) := by decide +kernel
theorem dX2_balance_113 : decode cX2_balance 113 = .ok (.iconst (-1), 1) := by decide +kernel
theorem dX2_balance_114 : decode cX2_balance 114 = .ok (.goto 8, 3) := by decide +kernel
theorem dX2_balance_117 : decode cX2_balance 117 = .ok (.aload 6, 2) := by decide +kernel
theorem dX2_balance_119 : decode cX2_balance 119 = .ok (.getfield 219, 3) := by decide +kernel
theorem dX2_balance_122 : decode cX2_balance 122 = .ok (.ireturn, 1) := by decide +kernel
theorem dX2_links_0 : decode cX2_links 0 = .ok (.aload_n 0, 1) := by decide +kernel
theorem dX2_links_1 : decode cX2_links 1 = .ok (.iload_n 1, 1) := by decide +kernel
theorem dX2_links_2 : decode cX2_links 2 = .ok (.invokevirtual 87, 3) := by decide +kernel
theorem dX2_links_5 : decode cX2_links 5 = .ok (.aload_n 0, 1) := by decide +kernel
theorem dX2_links_6 : decode cX2_links 6 = .ok (.iload_n 1, 1) := by decide +kernel
theorem dX2_links_7 : decode cX2_links 7 = .ok (.invokevirtual 90, 3) := by decide +kernel
theorem dX2_links_10 : decode cX2_links 10 = .ok (.ireturn, 1) := by decide +kernel
theorem dX2_anchor_0 : decode cX2_anchor 0 = .ok (.aload_n 0, 1) := by decide +kernel
theorem dX2_anchor_1 : decode cX2_anchor 1 = .ok (.iload_n 1, 1) := by decide +kernel
theorem dX2_anchor_2 : decode cX2_anchor 2 = .ok (.invokevirtual 87, 3) := by decide +kernel
theorem dX2_anchor_5 : decode cX2_anchor 5 = .ok (.iconst (-1), 1) := by decide +kernel
theorem dX2_anchor_6 : decode cX2_anchor 6 = .ok (.istore_n 2, 1) := by decide +kernel
theorem dX2_anchor_7 : decode cX2_anchor 7 = .ok (.iconst 0, 1) := by decide +kernel
theorem dX2_anchor_8 : decode cX2_anchor 8 = .ok (.istore_n 3, 1) := by decide +kernel
theorem dX2_anchor_9 : decode cX2_anchor 9 = .ok (.iconst 0, 1) := by decide +kernel
theorem dX2_anchor_10 : decode cX2_anchor 10 = .ok (.istore 4, 2) := by decide +kernel
theorem dX2_anchor_12 : decode cX2_anchor 12 = .ok (.iload 4, 2) := by decide +kernel
theorem dX2_anchor_14 : decode cX2_anchor 14 = .ok (.aload_n 0, 1) := by decide +kernel
theorem dX2_anchor_15 : decode cX2_anchor 15 = .ok (.getfield 11, 3) := by decide +kernel
theorem dX2_anchor_18 : decode cX2_anchor 18 = .ok (.arraylength, 1) := by decide +kernel
theorem dX2_anchor_19 : decode cX2_anchor 19 = .ok (.if_icmp .ge 71, 3) := by decide +kernel
theorem dX2_anchor_22 : decode cX2_anchor 22 = .ok (.aload_n 0, 1) := by decide +kernel
theorem dX2_anchor_23 : decode cX2_anchor 23 = .ok (.getfield 11, 3) := by decide +kernel
theorem dX2_anchor_26 : decode cX2_anchor 26 = .ok (.iload 4, 2) := by decide +kernel
theorem dX2_anchor_28 : decode cX2_anchor 28 = .ok (.aaload, 1) := by decide +kernel
theorem dX2_anchor_29 : decode cX2_anchor 29 = .ok (.astore 5, 2) := by decide +kernel
theorem dX2_anchor_31 : decode cX2_anchor 31 = .ok (.aload 5, 2) := by decide +kernel
theorem dX2_anchor_33 : decode cX2_anchor 33 = .ok (.ifnull 51, 3) := by decide +kernel
theorem dX2_anchor_36 : decode cX2_anchor 36 = .ok (.aload 5, 2) := by decide +kernel
theorem dX2_anchor_38 : decode cX2_anchor 38 = .ok (.iload_n 1, 1) := by decide +kernel
theorem dX2_anchor_39 : decode cX2_anchor 39 = .ok (.invokevirtual 222, 3) := by decide +kernel
theorem dX2_anchor_42 : decode cX2_anchor 42 = .ok (.istore 6, 2) := by decide +kernel
theorem dX2_anchor_44 : decode cX2_anchor 44 = .ok (.iload 6, 2) := by decide +kernel
theorem dX2_anchor_46 : decode cX2_anchor 46 = .ok (.bipush 50, 2) := by decide +kernel
theorem dX2_anchor_48 : decode cX2_anchor 48 = .ok (.if_icmp .ge 36, 3) := by decide +kernel
theorem dX2_anchor_51 : decode cX2_anchor 51 = .ok (.iload_n 2, 1) := by decide +kernel
theorem dX2_anchor_52 : decode cX2_anchor 52 = .ok (.iconst (-1), 1) := by decide +kernel
theorem dX2_anchor_53 : decode cX2_anchor 53 = .ok (.if_icmp .eq 14, 3) := by decide +kernel
theorem dX2_anchor_56 : decode cX2_anchor 56 = .ok (.aload 5, 2) := by decide +kernel
theorem dX2_anchor_58 : decode cX2_anchor 58 = .ok (.iload 6, 2) := by decide +kernel
theorem dX2_anchor_60 : decode cX2_anchor 60 = .ok (.invokevirtual 120, 3) := by decide +kernel
theorem dX2_anchor_63 : decode cX2_anchor 63 = .ok (.iload_n 3, 1) := by decide +kernel
theorem dX2_anchor_64 : decode cX2_anchor 64 = .ok (.if_icmp .ge 20, 3) := by decide +kernel
theorem dX2_anchor_67 : decode cX2_anchor 67 = .ok (.bipush 100, 2) := by decide +kernel
theorem dX2_anchor_69 : decode cX2_anchor 69 = .ok (.iload 4, 2) := by decide +kernel
theorem dX2_anchor_71 : decode cX2_anchor 71 = .ok (.imul, 1) := by decide +kernel
theorem dX2_anchor_72 : decode cX2_anchor 72 = .ok (.iload 6, 2) := by decide +kernel
theorem dX2_anchor_74 : decode cX2_anchor 74 = .ok (.iadd, 1) := by decide +kernel
theorem dX2_anchor_75 : decode cX2_anchor 75 = .ok (.istore_n 2, 1) := by decide +kernel
theorem dX2_anchor_76 : decode cX2_anchor 76 = .ok (.aload 5, 2) := by decide +kernel
theorem dX2_anchor_78 : decode cX2_anchor 78 = .ok (.iload 6, 2) := by decide +kernel
theorem dX2_anchor_80 : decode cX2_anchor 80 = .ok (.invokevirtual 120, 3) := by decide +kernel
theorem dX2_anchor_83 : decode cX2_anchor 83 = .ok (.istore_n 3, 1) := by decide +kernel
theorem dX2_anchor_84 : decode cX2_anchor 84 = .ok (.iinc 4 1, 3) := by decide +kernel
theorem dX2_anchor_87 : decode cX2_anchor 87 = .ok (.goto (-75), 3) := by decide +kernel
theorem dX2_anchor_90 : decode cX2_anchor 90 = .ok (.iload_n 2, 1) := by decide +kernel
theorem dX2_anchor_91 : decode cX2_anchor 91 = .ok (.ireturn, 1) := by decide +kernel
theorem dX2_byTree_0 : decode cX2_byTree 0 = .ok (.iload_n 2, 1) := by decide +kernel
theorem dX2_byTree_1 : decode cX2_byTree 1 = .ok (.invokestatic 33, 3) := by decide +kernel
theorem dX2_byTree_4 : decode cX2_byTree 4 = .ok (.aload_n 0, 1) := by decide +kernel
theorem dX2_byTree_5 : decode cX2_byTree 5 = .ok (.iload_n 1, 1) := by decide +kernel
theorem dX2_byTree_6 : decode cX2_byTree 6 = .ok (.invokevirtual 36, 3) := by decide +kernel
theorem dX2_byTree_9 : decode cX2_byTree 9 = .ok (.iload_n 2, 1) := by decide +kernel
theorem dX2_byTree_10 : decode cX2_byTree 10 = .ok (.invokevirtual 60, 3) := by decide +kernel
theorem dX2_byTree_13 : decode cX2_byTree 13 = .ok (.ireturn, 1) := by decide +kernel
theorem dX2_size_0 : decode cX2_size 0 = .ok (.aload_n 0, 1) := by decide +kernel
theorem dX2_size_1 : decode cX2_size 1 = .ok (.iload_n 1, 1) := by decide +kernel
theorem dX2_size_2 : decode cX2_size 2 = .ok (.invokevirtual 36, 3) := by decide +kernel
theorem dX2_size_5 : decode cX2_size 5 = .ok (.invokevirtual 225, 3) := by decide +kernel
theorem dX2_size_8 : decode cX2_size 8 = .ok (.ireturn, 1) := by decide +kernel
theorem dX2_needClient_0 : decode cX2_needClient 0 = .ok (.iload_n 0, 1) := by decide +kernel
theorem dX2_needClient_1 : decode cX2_needClient 1 = .ok (.ifCond .lt 8, 3) := by decide +kernel
theorem dX2_needClient_4 : decode cX2_needClient 4 = .ok (.iload_n 0, 1) := by decide +kernel
theorem dX2_needClient_5 : decode cX2_needClient 5 = .ok (.iconst 4, 1) := by decide +kernel
theorem dX2_needClient_6 : decode cX2_needClient 6 = .ok (.if_icmp .lt 13, 3) := by decide +kernel
theorem dX2_needClient_9 : decode cX2_needClient 9 = .ok (.new 130, 3) := by decide +kernel
theorem dX2_needClient_12 : decode cX2_needClient 12 = .ok (.dup, 1) := by decide +kernel
theorem dX2_needClient_13 : decode cX2_needClient 13 = .ok (.ldc 228, 2) := by decide +kernel
theorem dX2_needClient_15 : decode cX2_needClient 15 = .ok (.invokespecial 134, 3) := by decide +kernel
theorem dX2_needClient_18 : decode cX2_needClient 18 = .ok (.athrow, 1) := by decide +kernel
theorem dX2_needClient_19 : decode cX2_needClient 19 = .ok (.return_, 1) := by decide +kernel
theorem dX2_needServer_0 : decode cX2_needServer 0 = .ok (.iload_n 0, 1) := by decide +kernel
theorem dX2_needServer_1 : decode cX2_needServer 1 = .ok (.ifCond .lt 8, 3) := by decide +kernel
theorem dX2_needServer_4 : decode cX2_needServer 4 = .ok (.iload_n 0, 1) := by decide +kernel
theorem dX2_needServer_5 : decode cX2_needServer 5 = .ok (.iconst 4, 1) := by decide +kernel
theorem dX2_needServer_6 : decode cX2_needServer 6 = .ok (.if_icmp .lt 13, 3) := by decide +kernel
theorem dX2_needServer_9 : decode cX2_needServer 9 = .ok (.new 130, 3) := by decide +kernel
theorem dX2_needServer_12 : decode cX2_needServer 12 = .ok (.dup, 1) := by decide +kernel
theorem dX2_needServer_13 : decode cX2_needServer 13 = .ok (.ldc 230, 2) := by decide +kernel
theorem dX2_needServer_15 : decode cX2_needServer 15 = .ok (.invokespecial 134, 3) := by decide +kernel
theorem dX2_needServer_18 : decode cX2_needServer 18 = .ok (.athrow, 1) := by decide +kernel
theorem dX2_needServer_19 : decode cX2_needServer 19 = .ok (.return_, 1) := by decide +kernel
theorem dX2_needName_0 : decode cX2_needName 0 = .ok (.iload_n 0, 1) := by decide +kernel
theorem dX2_needName_1 : decode cX2_needName 1 = .ok (.ifCond .lt 9, 3) := by decide +kernel
theorem dX2_needName_4 : decode cX2_needName 4 = .ok (.iload_n 0, 1) := by decide +kernel
theorem dX2_needName_5 : decode cX2_needName 5 = .ok (.bipush 50, 2) := by decide +kernel
theorem dX2_needName_7 : decode cX2_needName 7 = .ok (.if_icmp .lt 13, 3) := by decide +kernel
theorem dX2_needName_10 : decode cX2_needName 10 = .ok (.new 130, 3) := by decide +kernel
theorem dX2_needName_13 : decode cX2_needName 13 = .ok (.dup, 1) := by decide +kernel
theorem dX2_needName_14 : decode cX2_needName 14 = .ok (.ldc 232, 2) := by decide +kernel
theorem dX2_needName_16 : decode cX2_needName 16 = .ok (.invokespecial 134, 3) := by decide +kernel
theorem dX2_needName_19 : decode cX2_needName 19 = .ok (.athrow, 1) := by decide +kernel
theorem dX2_needName_20 : decode cX2_needName 20 = .ok (.return_, 1) := by decide +kernel
theorem dX2_needHash_0 : decode cX2_needHash 0 = .ok (.iload_n 0, 1) := by decide +kernel
theorem dX2_needHash_1 : decode cX2_needHash 1 = .ok (.ifCond .lt 9, 3) := by decide +kernel
theorem dX2_needHash_4 : decode cX2_needHash 4 = .ok (.iload_n 0, 1) := by decide +kernel
theorem dX2_needHash_5 : decode cX2_needHash 5 = .ok (.bipush 8, 2) := by decide +kernel
theorem dX2_needHash_7 : decode cX2_needHash 7 = .ok (.if_icmp .lt 13, 3) := by decide +kernel
theorem dX2_needHash_10 : decode cX2_needHash 10 = .ok (.new 130, 3) := by decide +kernel
theorem dX2_needHash_13 : decode cX2_needHash 13 = .ok (.dup, 1) := by decide +kernel
theorem dX2_needHash_14 : decode cX2_needHash 14 = .ok (.ldc 234, 2) := by decide +kernel
theorem dX2_needHash_16 : decode cX2_needHash 16 = .ok (.invokespecial 134, 3) := by decide +kernel
theorem dX2_needHash_19 : decode cX2_needHash 19 = .ok (.athrow, 1) := by decide +kernel
theorem dX2_needHash_20 : decode cX2_needHash 20 = .ok (.return_, 1) := by decide +kernel
theorem dX2_needDirectory_0 : decode cX2_needDirectory 0 = .ok (.aload_n 0, 1) := by decide +kernel
theorem dX2_needDirectory_1 : decode cX2_needDirectory 1 = .ok (.iload_n 1, 1) := by decide +kernel
theorem dX2_needDirectory_2 : decode cX2_needDirectory 2 = .ok (.invokevirtual 236, 3) := by decide +kernel
theorem dX2_needDirectory_5 : decode cX2_needDirectory 5 = .ok (.astore_n 2, 1) := by decide +kernel
theorem dX2_needDirectory_6 : decode cX2_needDirectory 6 = .ok (.aload_n 2, 1) := by decide +kernel
theorem dX2_needDirectory_7 : decode cX2_needDirectory 7 = .ok (.ifnonnull 13, 3) := by decide +kernel
theorem dX2_needDirectory_10 : decode cX2_needDirectory 10 = .ok (.new 93, 3) := by decide +kernel
theorem dX2_needDirectory_13 : decode cX2_needDirectory 13 = .ok (.dup, 1) := by decide +kernel
theorem dX2_needDirectory_14 : decode cX2_needDirectory 14 = .ok (.ldc 239, 2) := by decide +kernel
theorem dX2_needDirectory_16 : decode cX2_needDirectory 16 = .ok (.invokespecial 97, 3) := by decide +kernel
theorem dX2_needDirectory_19 : decode cX2_needDirectory 19 = .ok (.athrow, 1) := by decide +kernel
theorem dX2_needDirectory_20 : decode cX2_needDirectory 20 = .ok (.aload_n 2, 1) := by decide +kernel
theorem dX2_needDirectory_21 : decode cX2_needDirectory 21 = .ok (.areturn, 1) := by decide +kernel
theorem dX2_needFile_0 : decode cX2_needFile 0 = .ok (.iload_n 1, 1) := by decide +kernel
theorem dX2_needFile_1 : decode cX2_needFile 1 = .ok (.ifCond .lt 11, 3) := by decide +kernel
theorem dX2_needFile_4 : decode cX2_needFile 4 = .ok (.iload_n 1, 1) := by decide +kernel
theorem dX2_needFile_5 : decode cX2_needFile 5 = .ok (.aload_n 0, 1) := by decide +kernel
theorem dX2_needFile_6 : decode cX2_needFile 6 = .ok (.getfield 79, 3) := by decide +kernel
theorem dX2_needFile_9 : decode cX2_needFile 9 = .ok (.if_icmp .lt 13, 3) := by decide +kernel
theorem dX2_needFile_12 : decode cX2_needFile 12 = .ok (.new 93, 3) := by decide +kernel
theorem dX2_needFile_15 : decode cX2_needFile 15 = .ok (.dup, 1) := by decide +kernel
theorem dX2_needFile_16 : decode cX2_needFile 16 = .ok (.ldc 241, 2) := by decide +kernel
theorem dX2_needFile_18 : decode cX2_needFile 18 = .ok (.invokespecial 97, 3) := by decide +kernel
theorem dX2_needFile_21 : decode cX2_needFile 21 = .ok (.athrow, 1) := by decide +kernel
theorem dX2_needFile_22 : decode cX2_needFile 22 = .ok (.return_, 1) := by decide +kernel
theorem dX2_needFree_0 : decode cX2_needFree 0 = .ok (.aload_n 1, 1) := by decide +kernel
theorem dX2_needFree_1 : decode cX2_needFree 1 = .ok (.iload_n 2, 1) := by decide +kernel
theorem dX2_needFree_2 : decode cX2_needFree 2 = .ok (.invokevirtual 60, 3) := by decide +kernel
theorem dX2_needFree_5 : decode cX2_needFree 5 = .ok (.iconst (-1), 1) := by decide +kernel
theorem dX2_needFree_6 : decode cX2_needFree 6 = .ok (.if_icmp .ne 15, 3) := by decide +kernel
theorem dX2_needFree_9 : decode cX2_needFree 9 = .ok (.aload_n 0, 1) := by decide +kernel
theorem dX2_needFree_10 : decode cX2_needFree 10 = .ok (.aload_n 1, 1) := by decide +kernel
theorem dX2_needFree_11 : decode cX2_needFree 11 = .ok (.iload_n 2, 1) := by decide +kernel
theorem dX2_needFree_12 : decode cX2_needFree 12 = .ok (.invokevirtual 47, 3) := by decide +kernel
theorem dX2_needFree_15 : decode cX2_needFree 15 = .ok (.invokevirtual 148, 3) := by decide +kernel
theorem dX2_needFree_18 : decode cX2_needFree 18 = .ok (.ifCond .eq 13, 3) := by decide +kernel
theorem dX2_needFree_21 : decode cX2_needFree 21 = .ok (.new 68, 3) := by decide +kernel
theorem dX2_needFree_24 : decode cX2_needFree 24 = .ok (.dup, 1) := by decide +kernel
theorem dX2_needFree_25 : decode cX2_needFree 25 = .ok (.ldc 243, 2) := by decide +kernel
theorem dX2_needFree_27 : decode cX2_needFree 27 = .ok (.invokespecial 72, 3) := by decide +kernel
theorem dX2_needFree_30 : decode cX2_needFree 30 = .ok (.athrow, 1) := by decide +kernel
theorem dX2_needFree_31 : decode cX2_needFree 31 = .ok (.return_, 1) := by decide +kernel
theorem dX2_needTaken_0 : decode cX2_needTaken 0 = .ok (.aload_n 1, 1) := by decide +kernel
theorem dX2_needTaken_1 : decode cX2_needTaken 1 = .ok (.iload_n 2, 1) := by decide +kernel
theorem dX2_needTaken_2 : decode cX2_needTaken 2 = .ok (.invokevirtual 60, 3) := by decide +kernel
theorem dX2_needTaken_5 : decode cX2_needTaken 5 = .ok (.iconst (-1), 1) := by decide +kernel
theorem dX2_needTaken_6 : decode cX2_needTaken 6 = .ok (.if_icmp .eq 15, 3) := by decide +kernel
theorem dX2_needTaken_9 : decode cX2_needTaken 9 = .ok (.aload_n 0, 1) := by decide +kernel
theorem dX2_needTaken_10 : decode cX2_needTaken 10 = .ok (.aload_n 1, 1) := by decide +kernel
theorem dX2_needTaken_11 : decode cX2_needTaken 11 = .ok (.iload_n 2, 1) := by decide +kernel
theorem dX2_needTaken_12 : decode cX2_needTaken 12 = .ok (.invokevirtual 47, 3) := by decide +kernel
theorem dX2_needTaken_15 : decode cX2_needTaken 15 = .ok (.invokevirtual 148, 3) := by decide +kernel
theorem dX2_needTaken_18 : decode cX2_needTaken 18 = .ok (.ifCond .eq 13, 3) := by decide +kernel
theorem dX2_needTaken_21 : decode cX2_needTaken 21 = .ok (.new 68, 3) := by decide +kernel
theorem dX2_needTaken_24 : decode cX2_needTaken 24 = .ok (.dup, 1) := by decide +kernel
theorem dX2_needTaken_25 : decode cX2_needTaken 25 = .ok (.ldc 245, 2) := by decide +kernel
theorem dX2_needTaken_27 : decode cX2_needTaken 27 = .ok (.invokespecial 72, 3) := by decide +kernel
theorem dX2_needTaken_30 : decode cX2_needTaken 30 = .ok (.athrow, 1) := by decide +kernel
theorem dX2_needTaken_31 : decode cX2_needTaken 31 = .ok (.return_, 1) := by decide +kernel
theorem dX2_needRemovable_0 : decode cX2_needRemovable 0 = .ok (.aload_n 1, 1) := by decide +kernel
theorem dX2_needRemovable_1 : decode cX2_needRemovable 1 = .ok (.invokevirtual 225, 3) := by decide +kernel
theorem dX2_needRemovable_4 : decode cX2_needRemovable 4 = .ok (.ifCond .le 13, 3) := by decide +kernel
theorem dX2_needRemovable_7 : decode cX2_needRemovable 7 = .ok (.new 68, 3) := by decide +kernel
theorem dX2_needRemovable_10 : decode cX2_needRemovable 10 = .ok (.dup, 1) := by decide +kernel
theorem dX2_needRemovable_11 : decode cX2_needRemovable 11 = .ok (.ldc 247, 2) := by decide +kernel
theorem dX2_needRemovable_13 : decode cX2_needRemovable 13 = .ok (.invokespecial 72, 3) := by decide +kernel
theorem dX2_needRemovable_16 : decode cX2_needRemovable 16 = .ok (.athrow, 1) := by decide +kernel
theorem dX2_needRemovable_17 : decode cX2_needRemovable 17 = .ok (.aload_n 0, 1) := by decide +kernel
theorem dX2_needRemovable_18 : decode cX2_needRemovable 18 = .ok (.getfield 197, 3) := by decide +kernel
theorem dX2_needRemovable_21 : decode cX2_needRemovable 21 = .ok (.ifnull 27, 3) := by decide +kernel
theorem dX2_needRemovable_24 : decode cX2_needRemovable 24 = .ok (.aload_n 0, 1) := by decide +kernel
theorem dX2_needRemovable_25 : decode cX2_needRemovable 25 = .ok (.getfield 197, 3) := by decide +kernel
theorem dX2_needRemovable_28 : decode cX2_needRemovable 28 = .ok (.getfield 219, 3) := by decide +kernel
theorem dX2_needRemovable_31 : decode cX2_needRemovable 31 = .ok (.aload_n 1, 1) := by decide +kernel
theorem dX2_needRemovable_32 : decode cX2_needRemovable 32 = .ok (.getfield 108, 3) := by decide +kernel
theorem dX2_needRemovable_35 : decode cX2_needRemovable 35 = .ok (.if_icmp .ne 13, 3) := by decide +kernel
theorem dX2_needRemovable_38 : decode cX2_needRemovable 38 = .ok (.new 68, 3) := by decide +kernel
theorem dX2_needRemovable_41 : decode cX2_needRemovable 41 = .ok (.dup, 1) := by decide +kernel
theorem dX2_needRemovable_42 : decode cX2_needRemovable 42 = .ok (.ldc 249, 2) := by decide +kernel
theorem dX2_needRemovable_44 : decode cX2_needRemovable 44 = .ok (.invokespecial 72, 3) := by decide +kernel
theorem dX2_needRemovable_47 : decode cX2_needRemovable 47 = .ok (.athrow, 1) := by decide +kernel
theorem dX2_needRemovable_48 : decode cX2_needRemovable 48 = .ok (.return_, 1) := by decide +kernel
theorem dX2_needNoMove_0 : decode cX2_needNoMove 0 = .ok (.aload_n 0, 1) := by decide +kernel
theorem dX2_needNoMove_1 : decode cX2_needNoMove 1 = .ok (.getfield 197, 3) := by decide +kernel
theorem dX2_needNoMove_4 : decode cX2_needNoMove 4 = .ok (.ifnull 13, 3) := by decide +kernel
theorem dX2_needNoMove_7 : decode cX2_needNoMove 7 = .ok (.new 68, 3) := by decide +kernel
theorem dX2_needNoMove_10 : decode cX2_needNoMove 10 = .ok (.dup, 1) := by decide +kernel
theorem dX2_needNoMove_11 : decode cX2_needNoMove 11 = .ok (.ldc 251, 2) := by decide +kernel
theorem dX2_needNoMove_13 : decode cX2_needNoMove 13 = .ok (.invokespecial 72, 3) := by decide +kernel
theorem dX2_needNoMove_16 : decode cX2_needNoMove 16 = .ok (.athrow, 1) := by decide +kernel
theorem dX2_needNoMove_17 : decode cX2_needNoMove 17 = .ok (.return_, 1) := by decide +kernel
theorem dX2_directoryNumbered_0 : decode cX2_directoryNumbered 0 = .ok (.iload_n 1, 1) := by decide +kernel
theorem dX2_directoryNumbered_1 : decode cX2_directoryNumbered 1 = .ok (.ifCond .lt 12, 3) := by decide +kernel
theorem dX2_directoryNumbered_4 : decode cX2_directoryNumbered 4 = .ok (.iload_n 1, 1) := by decide +kernel
theorem dX2_directoryNumbered_5 : decode cX2_directoryNumbered 5 = .ok (.aload_n 0, 1) := by decide +kernel
theorem dX2_directoryNumbered_6 : decode cX2_directoryNumbered 6 = .ok (.getfield 11, 3) := by decide +kernel
theorem dX2_directoryNumbered_9 : decode cX2_directoryNumbered 9 = .ok (.arraylength, 1) := by decide +kernel
theorem dX2_directoryNumbered_10 : decode cX2_directoryNumbered 10 = .ok (.if_icmp .lt 5, 3) := by decide +kernel
theorem dX2_directoryNumbered_13 : decode cX2_directoryNumbered 13 = .ok (.aconst_null, 1) := by decide +kernel
theorem dX2_directoryNumbered_14 : decode cX2_directoryNumbered 14 = .ok (.areturn, 1) := by decide +kernel
theorem dX2_directoryNumbered_15 : decode cX2_directoryNumbered 15 = .ok (.aload_n 0, 1) := by decide +kernel
theorem dX2_directoryNumbered_16 : decode cX2_directoryNumbered 16 = .ok (.getfield 11, 3) := by decide +kernel
theorem dX2_directoryNumbered_19 : decode cX2_directoryNumbered 19 = .ok (.iload_n 1, 1) := by decide +kernel
theorem dX2_directoryNumbered_20 : decode cX2_directoryNumbered 20 = .ok (.aaload, 1) := by decide +kernel
theorem dX2_directoryNumbered_21 : decode cX2_directoryNumbered 21 = .ok (.areturn, 1) := by decide +kernel
theorem dX2_directoryMeant_0 : decode cX2_directoryMeant 0 = .ok (.iload_n 1, 1) := by decide +kernel
theorem dX2_directoryMeant_1 : decode cX2_directoryMeant 1 = .ok (.bipush (-2), 2) := by decide +kernel
theorem dX2_directoryMeant_3 : decode cX2_directoryMeant 3 = .ok (.if_icmp .gt 14, 3) := by decide +kernel
theorem dX2_directoryMeant_6 : decode cX2_directoryMeant 6 = .ok (.aload_n 0, 1) := by decide +kernel
theorem dX2_directoryMeant_7 : decode cX2_directoryMeant 7 = .ok (.bipush (-2), 2) := by decide +kernel
theorem dX2_directoryMeant_9 : decode cX2_directoryMeant 9 = .ok (.iload_n 1, 1) := by decide +kernel
theorem dX2_directoryMeant_10 : decode cX2_directoryMeant 10 = .ok (.isub, 1) := by decide +kernel
theorem dX2_directoryMeant_11 : decode cX2_directoryMeant 11 = .ok (.invokevirtual 236, 3) := by decide +kernel
theorem dX2_directoryMeant_14 : decode cX2_directoryMeant 14 = .ok (.goto 4, 3) := by decide +kernel
theorem dX2_directoryMeant_17 : decode cX2_directoryMeant 17 = .ok (.aconst_null, 1) := by decide +kernel
theorem dX2_directoryMeant_18 : decode cX2_directoryMeant 18 = .ok (.areturn, 1) := by decide +kernel
theorem dX2_dropDirectory_0 : decode cX2_dropDirectory 0 = .ok (.iload_n 1, 1) := by decide +kernel
theorem dX2_dropDirectory_1 : decode cX2_dropDirectory 1 = .ok (.ifCond .lt 19, 3) := by decide +kernel
theorem dX2_dropDirectory_4 : decode cX2_dropDirectory 4 = .ok (.iload_n 1, 1) := by decide +kernel
theorem dX2_dropDirectory_5 : decode cX2_dropDirectory 5 = .ok (.aload_n 0, 1) := by decide +kernel
theorem dX2_dropDirectory_6 : decode cX2_dropDirectory 6 = .ok (.getfield 11, 3) := by decide +kernel
theorem dX2_dropDirectory_9 : decode cX2_dropDirectory 9 = .ok (.arraylength, 1) := by decide +kernel
theorem dX2_dropDirectory_10 : decode cX2_dropDirectory 10 = .ok (.if_icmp .ge 10, 3) := by decide +kernel
theorem dX2_dropDirectory_13 : decode cX2_dropDirectory 13 = .ok (.aload_n 0, 1) := by decide +kernel
theorem dX2_dropDirectory_14 : decode cX2_dropDirectory 14 = .ok (.getfield 11, 3) := by decide +kernel
theorem dX2_dropDirectory_17 : decode cX2_dropDirectory 17 = .ok (.iload_n 1, 1) := by decide +kernel
theorem dX2_dropDirectory_18 : decode cX2_dropDirectory 18 = .ok (.aconst_null, 1) := by decide +kernel
theorem dX2_dropDirectory_19 : decode cX2_dropDirectory 19 = .ok (.aastore, 1) := by decide +kernel
theorem dX2_dropDirectory_20 : decode cX2_dropDirectory 20 = .ok (.return_, 1) := by decide +kernel
theorem dX2_makeLink_0 : decode cX2_makeLink 0 = .ok (.aload_n 0, 1) := by decide +kernel
theorem dX2_makeLink_1 : decode cX2_makeLink 1 = .ok (.dup, 1) := by decide +kernel
theorem dX2_makeLink_2 : decode cX2_makeLink 2 = .ok (.getfield 253, 3) := by decide +kernel
theorem dX2_makeLink_5 : decode cX2_makeLink 5 = .ok (.iconst 1, 1) := by decide +kernel
theorem dX2_makeLink_6 : decode cX2_makeLink 6 = .ok (.iadd, 1) := by decide +kernel
theorem dX2_makeLink_7 : decode cX2_makeLink 7 = .ok (.putfield 253, 3) := by decide +kernel
theorem dX2_makeLink_10 : decode cX2_makeLink 10 = .ok (.aload_n 0, 1) := by decide +kernel
theorem dX2_makeLink_11 : decode cX2_makeLink 11 = .ok (.iload_n 1, 1) := by decide +kernel
theorem dX2_makeLink_12 : decode cX2_makeLink 12 = .ok (.aload_n 2, 1) := by decide +kernel
theorem dX2_makeLink_13 : decode cX2_makeLink 13 = .ok (.iload_n 3, 1) := by decide +kernel
theorem dX2_makeLink_14 : decode cX2_makeLink 14 = .ok (.iload 4, 2) := by decide +kernel
theorem dX2_makeLink_16 : decode cX2_makeLink 16 = .ok (.aload_n 0, 1) := by decide +kernel
theorem dX2_makeLink_17 : decode cX2_makeLink 17 = .ok (.getfield 253, 3) := by decide +kernel
theorem dX2_makeLink_20 : decode cX2_makeLink 20 = .ok (.invokevirtual 75, 3) := by decide +kernel
theorem dX2_makeLink_23 : decode cX2_makeLink 23 = .ok (.return_, 1) := by decide +kernel
theorem dX2_changeName_0 : decode cX2_changeName 0 = .ok (.aload_n 2, 1) := by decide +kernel
theorem dX2_changeName_1 : decode cX2_changeName 1 = .ok (.iload_n 3, 1) := by decide +kernel
theorem dX2_changeName_2 : decode cX2_changeName 2 = .ok (.iload 4, 2) := by decide +kernel
theorem dX2_changeName_4 : decode cX2_changeName 4 = .ok (.iload 5, 2) := by decide +kernel
theorem dX2_changeName_6 : decode cX2_changeName 6 = .ok (.invokevirtual 256, 3) := by decide +kernel
theorem dX2_changeName_9 : decode cX2_changeName 9 = .ok (.aload_n 2, 1) := by decide +kernel
theorem dX2_changeName_10 : decode cX2_changeName 10 = .ok (.iload_n 3, 1) := by decide +kernel
theorem dX2_changeName_11 : decode cX2_changeName 11 = .ok (.invokevirtual 47, 3) := by decide +kernel
theorem dX2_changeName_14 : decode cX2_changeName 14 = .ok (.dup, 1) := by decide +kernel
theorem dX2_changeName_15 : decode cX2_changeName 15 = .ok (.getfield 51, 3) := by decide +kernel
theorem dX2_changeName_18 : decode cX2_changeName 18 = .ok (.iconst 1, 1) := by decide +kernel
theorem dX2_changeName_19 : decode cX2_changeName 19 = .ok (.iadd, 1) := by decide +kernel
theorem dX2_changeName_20 : decode cX2_changeName 20 = .ok (.putfield 51, 3) := by decide +kernel
theorem dX2_changeName_23 : decode cX2_changeName 23 = .ok (.aload_n 0, 1) := by decide +kernel
theorem dX2_changeName_24 : decode cX2_changeName 24 = .ok (.aload_n 2, 1) := by decide +kernel
theorem dX2_changeName_25 : decode cX2_changeName 25 = .ok (.iload_n 3, 1) := by decide +kernel
theorem dX2_changeName_26 : decode cX2_changeName 26 = .ok (.iload_n 1, 1) := by decide +kernel
theorem dX2_changeName_27 : decode cX2_changeName 27 = .ok (.invokevirtual 259, 3) := by decide +kernel
theorem dX2_changeName_30 : decode cX2_changeName 30 = .ok (.return_, 1) := by decide +kernel
theorem dX2_endLeases_0 : decode cX2_endLeases 0 = .ok (.iconst 0, 1) := by decide +kernel
theorem dX2_endLeases_1 : decode cX2_endLeases 1 = .ok (.istore 4, 2) := by decide +kernel
theorem dX2_endLeases_3 : decode cX2_endLeases 3 = .ok (.iload 4, 2) := by decide +kernel
theorem dX2_endLeases_5 : decode cX2_endLeases 5 = .ok (.iconst 4, 1) := by decide +kernel
theorem dX2_endLeases_6 : decode cX2_endLeases 6 = .ok (.if_icmp .ge 51, 3) := by decide +kernel
theorem dX2_endLeases_9 : decode cX2_endLeases 9 = .ok (.aload_n 1, 1) := by decide +kernel
theorem dX2_endLeases_10 : decode cX2_endLeases 10 = .ok (.iload 4, 2) := by decide +kernel
theorem dX2_endLeases_12 : decode cX2_endLeases 12 = .ok (.iload_n 2, 1) := by decide +kernel
theorem dX2_endLeases_13 : decode cX2_endLeases 13 = .ok (.aload_n 0, 1) := by decide +kernel
theorem dX2_endLeases_14 : decode cX2_endLeases 14 = .ok (.getfield 40, 3) := by decide +kernel
theorem dX2_endLeases_17 : decode cX2_endLeases 17 = .ok (.invokevirtual 43, 3) := by decide +kernel
theorem dX2_endLeases_20 : decode cX2_endLeases 20 = .ok (.ifCond .eq 31, 3) := by decide +kernel
theorem dX2_endLeases_23 : decode cX2_endLeases 23 = .ok (.aload_n 1, 1) := by decide +kernel
theorem dX2_endLeases_24 : decode cX2_endLeases 24 = .ok (.iload 4, 2) := by decide +kernel
theorem dX2_endLeases_26 : decode cX2_endLeases 26 = .ok (.iload_n 2, 1) := by decide +kernel
theorem dX2_endLeases_27 : decode cX2_endLeases 27 = .ok (.aload_n 0, 1) := by decide +kernel
theorem dX2_endLeases_28 : decode cX2_endLeases 28 = .ok (.getfield 40, 3) := by decide +kernel
theorem dX2_endLeases_31 : decode cX2_endLeases 31 = .ok (.invokevirtual 56, 3) := by decide +kernel
theorem dX2_endLeases_34 : decode cX2_endLeases 34 = .ok (.iload 4, 2) := by decide +kernel
theorem dX2_endLeases_36 : decode cX2_endLeases 36 = .ok (.iload_n 3, 1) := by decide +kernel
theorem dX2_endLeases_37 : decode cX2_endLeases 37 = .ok (.if_icmp .eq 14, 3) := by decide +kernel
theorem dX2_endLeases_40 : decode cX2_endLeases 40 = .ok (.aload_n 0, 1) := by decide +kernel
theorem dX2_endLeases_41 : decode cX2_endLeases 41 = .ok (.getfield 15, 3) := by decide +kernel
theorem dX2_endLeases_44 : decode cX2_endLeases 44 = .ok (.iload 4, 2) := by decide +kernel
theorem dX2_endLeases_46 : decode cX2_endLeases 46 = .ok (.dup2, 1) := by decide +kernel
theorem dX2_endLeases_47 : decode cX2_endLeases 47 = .ok (.iaload, 1) := by decide +kernel
theorem dX2_endLeases_48 : decode cX2_endLeases 48 = .ok (.iconst 1, 1) := by decide +kernel
theorem dX2_endLeases_49 : decode cX2_endLeases 49 = .ok (.iadd, 1) := by decide +kernel
theorem dX2_endLeases_50 : decode cX2_endLeases 50 = .ok (.iastore, 1) := by decide +kernel
theorem dX2_endLeases_51 : decode cX2_endLeases 51 = .ok (.iinc 4 1, 3) := by decide +kernel
theorem dX2_endLeases_54 : decode cX2_endLeases 54 = .ok (.goto (-51), 3) := by decide +kernel
theorem dX2_endLeases_57 : decode cX2_endLeases 57 = .ok (.return_, 1) := by decide +kernel
theorem dX2_recallFrozenNames_0 : decode cX2_recallFrozenNames 0 = .ok (.iconst 0, 1) := by decide +kernel
theorem dX2_recallFrozenNames_1 : decode cX2_recallFrozenNames 1 = .ok (.istore_n 1, 1) := by decide +kernel
theorem dX2_recallFrozenNames_2 : decode cX2_recallFrozenNames 2 = .ok (.iload_n 1, 1) := by decide +kernel
theorem dX2_recallFrozenNames_3 : decode cX2_recallFrozenNames 3 = .ok (.aload_n 0, 1) := by decide +kernel
theorem dX2_recallFrozenNames_4 : decode cX2_recallFrozenNames 4 = .ok (.getfield 11, 3) := by decide +kernel
theorem dX2_recallFrozenNames_7 : decode cX2_recallFrozenNames 7 = .ok (.arraylength, 1) := by decide +kernel
theorem dX2_recallFrozenNames_8 : decode cX2_recallFrozenNames 8 = .ok (.if_icmp .ge 25, 3) := by decide +kernel
theorem dX2_recallFrozenNames_11 : decode cX2_recallFrozenNames 11 = .ok (.aload_n 0, 1) := by decide +kernel
theorem dX2_recallFrozenNames_12 : decode cX2_recallFrozenNames 12 = .ok (.getfield 11, 3) := by decide +kernel
theorem dX2_recallFrozenNames_15 : decode cX2_recallFrozenNames 15 = .ok (.iload_n 1, 1) := by decide +kernel
theorem dX2_recallFrozenNames_16 : decode cX2_recallFrozenNames 16 = .ok (.aaload, 1) := by decide +kernel
theorem dX2_recallFrozenNames_17 : decode cX2_recallFrozenNames 17 = .ok (.astore_n 2, 1) := by decide +kernel
theorem dX2_recallFrozenNames_18 : decode cX2_recallFrozenNames 18 = .ok (.aload_n 2, 1) := by decide +kernel
theorem dX2_recallFrozenNames_19 : decode cX2_recallFrozenNames 19 = .ok (.ifnull 8, 3) := by decide +kernel
theorem dX2_recallFrozenNames_22 : decode cX2_recallFrozenNames 22 = .ok (.aload_n 0, 1) := by decide +kernel
theorem dX2_recallFrozenNames_23 : decode cX2_recallFrozenNames 23 = .ok (.aload_n 2, 1) := by decide +kernel
theorem dX2_recallFrozenNames_24 : decode cX2_recallFrozenNames 24 = .ok (.invokevirtual 263, 3) := by decide +kernel
theorem dX2_recallFrozenNames_27 : decode cX2_recallFrozenNames 27 = .ok (.iinc 1 1, 3) := by decide +kernel
theorem dX2_recallFrozenNames_30 : decode cX2_recallFrozenNames 30 = .ok (.goto (-28), 3) := by decide +kernel
theorem dX2_recallFrozenNames_33 : decode cX2_recallFrozenNames 33 = .ok (.return_, 1) := by decide +kernel
theorem dX2_recallFrozenNamesOf_0 : decode cX2_recallFrozenNamesOf 0 = .ok (.iconst 0, 1) := by decide +kernel
theorem dX2_recallFrozenNamesOf_1 : decode cX2_recallFrozenNamesOf 1 = .ok (.istore_n 2, 1) := by decide +kernel
theorem dX2_recallFrozenNamesOf_2 : decode cX2_recallFrozenNamesOf 2 = .ok (.iload_n 2, 1) := by decide +kernel
theorem dX2_recallFrozenNamesOf_3 : decode cX2_recallFrozenNamesOf 3 = .ok (.bipush 50, 2) := by decide +kernel
theorem dX2_recallFrozenNamesOf_5 : decode cX2_recallFrozenNamesOf 5 = .ok (.if_icmp .ge 28, 3) := by decide +kernel
theorem dX2_recallFrozenNamesOf_8 : decode cX2_recallFrozenNamesOf 8 = .ok (.aload_n 0, 1) := by decide +kernel
theorem dX2_recallFrozenNamesOf_9 : decode cX2_recallFrozenNamesOf 9 = .ok (.aload_n 1, 1) := by decide +kernel
theorem dX2_recallFrozenNamesOf_10 : decode cX2_recallFrozenNamesOf 10 = .ok (.iload_n 2, 1) := by decide +kernel
theorem dX2_recallFrozenNamesOf_11 : decode cX2_recallFrozenNamesOf 11 = .ok (.invokevirtual 47, 3) := by decide +kernel
theorem dX2_recallFrozenNamesOf_14 : decode cX2_recallFrozenNamesOf 14 = .ok (.invokevirtual 148, 3) := by decide +kernel
theorem dX2_recallFrozenNamesOf_17 : decode cX2_recallFrozenNamesOf 17 = .ok (.ifCond .eq 10, 3) := by decide +kernel
theorem dX2_recallFrozenNamesOf_20 : decode cX2_recallFrozenNamesOf 20 = .ok (.aload_n 0, 1) := by decide +kernel
theorem dX2_recallFrozenNamesOf_21 : decode cX2_recallFrozenNamesOf 21 = .ok (.aload_n 1, 1) := by decide +kernel
theorem dX2_recallFrozenNamesOf_22 : decode cX2_recallFrozenNamesOf 22 = .ok (.iload_n 2, 1) := by decide +kernel
theorem dX2_recallFrozenNamesOf_23 : decode cX2_recallFrozenNamesOf 23 = .ok (.iconst (-1), 1) := by decide +kernel
theorem dX2_recallFrozenNamesOf_24 : decode cX2_recallFrozenNamesOf 24 = .ok (.invokevirtual 259, 3) := by decide +kernel
theorem dX2_recallFrozenNamesOf_27 : decode cX2_recallFrozenNamesOf 27 = .ok (.iinc 2 1, 3) := by decide +kernel
theorem dX2_recallFrozenNamesOf_30 : decode cX2_recallFrozenNamesOf 30 = .ok (.goto (-28), 3) := by decide +kernel
theorem dX2_recallFrozenNamesOf_33 : decode cX2_recallFrozenNamesOf 33 = .ok (.return_, 1) := by decide +kernel
theorem dX2_countLinks_0 : decode cX2_countLinks 0 = .ok (.iconst 0, 1) := by decide +kernel
theorem dX2_countLinks_1 : decode cX2_countLinks 1 = .ok (.istore_n 2, 1) := by decide +kernel
theorem dX2_countLinks_2 : decode cX2_countLinks 2 = .ok (.iconst 0, 1) := by decide +kernel
theorem dX2_countLinks_3 : decode cX2_countLinks 3 = .ok (.istore_n 3, 1) := by decide +kernel
theorem dX2_countLinks_4 : decode cX2_countLinks 4 = .ok (.iload_n 3, 1) := by decide +kernel
theorem dX2_countLinks_5 : decode cX2_countLinks 5 = .ok (.aload_n 0, 1) := by decide +kernel
theorem dX2_countLinks_6 : decode cX2_countLinks 6 = .ok (.getfield 11, 3) := by decide +kernel
theorem dX2_countLinks_9 : decode cX2_countLinks 9 = .ok (.arraylength, 1) := by decide +kernel
theorem dX2_countLinks_10 : decode cX2_countLinks 10 = .ok (.if_icmp .ge 31, 3) := by decide +kernel
theorem dX2_countLinks_13 : decode cX2_countLinks 13 = .ok (.aload_n 0, 1) := by decide +kernel
theorem dX2_countLinks_14 : decode cX2_countLinks 14 = .ok (.getfield 11, 3) := by decide +kernel
theorem dX2_countLinks_17 : decode cX2_countLinks 17 = .ok (.iload_n 3, 1) := by decide +kernel
theorem dX2_countLinks_18 : decode cX2_countLinks 18 = .ok (.aaload, 1) := by decide +kernel
theorem dX2_countLinks_19 : decode cX2_countLinks 19 = .ok (.astore 4, 2) := by decide +kernel
theorem dX2_countLinks_21 : decode cX2_countLinks 21 = .ok (.aload 4, 2) := by decide +kernel
theorem dX2_countLinks_23 : decode cX2_countLinks 23 = .ok (.ifnull 12, 3) := by decide +kernel
theorem dX2_countLinks_26 : decode cX2_countLinks 26 = .ok (.iload_n 2, 1) := by decide +kernel
theorem dX2_countLinks_27 : decode cX2_countLinks 27 = .ok (.aload 4, 2) := by decide +kernel
theorem dX2_countLinks_29 : decode cX2_countLinks 29 = .ok (.iload_n 1, 1) := by decide +kernel
theorem dX2_countLinks_30 : decode cX2_countLinks 30 = .ok (.invokevirtual 266, 3) := by decide +kernel
theorem dX2_countLinks_33 : decode cX2_countLinks 33 = .ok (.iadd, 1) := by decide +kernel
theorem dX2_countLinks_34 : decode cX2_countLinks 34 = .ok (.istore_n 2, 1) := by decide +kernel
theorem dX2_countLinks_35 : decode cX2_countLinks 35 = .ok (.iinc 3 1, 3) := by decide +kernel
theorem dX2_countLinks_38 : decode cX2_countLinks 38 = .ok (.goto (-34), 3) := by decide +kernel
theorem dX2_countLinks_41 : decode cX2_countLinks 41 = .ok (.iload_n 2, 1) := by decide +kernel
theorem dX2_countLinks_42 : decode cX2_countLinks 42 = .ok (.ireturn, 1) := by decide +kernel
theorem dX2_serverOfFragment_0 : decode cX2_serverOfFragment 0 = .ok (.aload_n 1, 1) := by decide +kernel
theorem dX2_serverOfFragment_1 : decode cX2_serverOfFragment 1 = .ok (.astore_n 2, 1) := by decide +kernel
theorem dX2_serverOfFragment_2 : decode cX2_serverOfFragment 2 = .ok (.iconst 0, 1) := by decide +kernel
theorem dX2_serverOfFragment_3 : decode cX2_serverOfFragment 3 = .ok (.istore_n 3, 1) := by decide +kernel
theorem dX2_serverOfFragment_4 : decode cX2_serverOfFragment 4 = .ok (.aload_n 2, 1) := by decide +kernel
theorem dX2_serverOfFragment_5 : decode cX2_serverOfFragment 5 = .ok (.ifnull 34, 3) := by decide +kernel
theorem dX2_serverOfFragment_8 : decode cX2_serverOfFragment 8 = .ok (.iload_n 3, 1) := by decide +kernel
theorem dX2_serverOfFragment_9 : decode cX2_serverOfFragment 9 = .ok (.bipush 12, 2) := by decide +kernel
theorem dX2_serverOfFragment_11 : decode cX2_serverOfFragment 11 = .ok (.if_icmp .ge 28, 3) := by decide +kernel
theorem dX2_serverOfFragment_14 : decode cX2_serverOfFragment 14 = .ok (.aload_n 2, 1) := by decide +kernel
theorem dX2_serverOfFragment_15 : decode cX2_serverOfFragment 15 = .ok (.getfield 167, 3) := by decide +kernel
theorem dX2_serverOfFragment_18 : decode cX2_serverOfFragment 18 = .ok (.iconst (-1), 1) := by decide +kernel
theorem dX2_serverOfFragment_19 : decode cX2_serverOfFragment 19 = .ok (.if_icmp .eq 8, 3) := by decide +kernel
theorem dX2_serverOfFragment_22 : decode cX2_serverOfFragment 22 = .ok (.aload_n 2, 1) := by decide +kernel
theorem dX2_serverOfFragment_23 : decode cX2_serverOfFragment 23 = .ok (.getfield 167, 3) := by decide +kernel
theorem dX2_serverOfFragment_26 : decode cX2_serverOfFragment 26 = .ok (.ireturn, 1) := by decide +kernel
theorem dX2_serverOfFragment_27 : decode cX2_serverOfFragment 27 = .ok (.aload_n 0, 1) := by decide +kernel
theorem dX2_serverOfFragment_28 : decode cX2_serverOfFragment 28 = .ok (.aload_n 2, 1) := by decide +kernel
theorem dX2_serverOfFragment_29 : decode cX2_serverOfFragment 29 = .ok (.invokevirtual 269, 3) := by decide +kernel
theorem dX2_serverOfFragment_32 : decode cX2_serverOfFragment 32 = .ok (.astore_n 2, 1) := by decide +kernel
theorem dX2_serverOfFragment_33 : decode cX2_serverOfFragment 33 = .ok (.iinc 3 1, 3) := by decide +kernel
theorem dX2_serverOfFragment_36 : decode cX2_serverOfFragment 36 = .ok (.goto (-32), 3) := by decide +kernel
theorem dX2_serverOfFragment_39 : decode cX2_serverOfFragment 39 = .ok (.iconst 0, 1) := by decide +kernel
theorem dX2_serverOfFragment_40 : decode cX2_serverOfFragment 40 = .ok (.ireturn, 1) := by decide +kernel
theorem dX2_fragmentAbove_0 : decode cX2_fragmentAbove 0 = .ok (.aload_n 0, 1) := by decide +kernel
theorem dX2_fragmentAbove_1 : decode cX2_fragmentAbove 1 = .ok (.aload_n 1, 1) := by decide +kernel
theorem dX2_fragmentAbove_2 : decode cX2_fragmentAbove 2 = .ok (.getfield 219, 3) := by decide +kernel
theorem dX2_fragmentAbove_5 : decode cX2_fragmentAbove 5 = .ok (.invokevirtual 236, 3) := by decide +kernel
theorem dX2_fragmentAbove_8 : decode cX2_fragmentAbove 8 = .ok (.astore_n 2, 1) := by decide +kernel
theorem dX2_fragmentAbove_9 : decode cX2_fragmentAbove 9 = .ok (.aload_n 2, 1) := by decide +kernel
theorem dX2_fragmentAbove_10 : decode cX2_fragmentAbove 10 = .ok (.ifnull 10, 3) := by decide +kernel
theorem dX2_fragmentAbove_13 : decode cX2_fragmentAbove 13 = .ok (.aload_n 2, 1) := by decide +kernel
theorem dX2_fragmentAbove_14 : decode cX2_fragmentAbove 14 = .ok (.getfield 123, 3) := by decide +kernel
theorem dX2_fragmentAbove_17 : decode cX2_fragmentAbove 17 = .ok (.ifnonnull 5, 3) := by decide +kernel
theorem dX2_fragmentAbove_20 : decode cX2_fragmentAbove 20 = .ok (.aconst_null, 1) := by decide +kernel
theorem dX2_fragmentAbove_21 : decode cX2_fragmentAbove 21 = .ok (.areturn, 1) := by decide +kernel
theorem dX2_fragmentAbove_22 : decode cX2_fragmentAbove 22 = .ok (.aload_n 2, 1) := by decide +kernel
theorem dX2_fragmentAbove_23 : decode cX2_fragmentAbove 23 = .ok (.getfield 123, 3) := by decide +kernel
theorem dX2_fragmentAbove_26 : decode cX2_fragmentAbove 26 = .ok (.aload_n 2, 1) := by decide +kernel
theorem dX2_fragmentAbove_27 : decode cX2_fragmentAbove 27 = .ok (.getfield 127, 3) := by decide +kernel
theorem dX2_fragmentAbove_30 : decode cX2_fragmentAbove 30 = .ok (.invokevirtual 47, 3) := by decide +kernel
theorem dX2_fragmentAbove_33 : decode cX2_fragmentAbove 33 = .ok (.areturn, 1) := by decide +kernel
theorem dX2_frozen_0 : decode cX2_frozen 0 = .ok (.aload_n 1, 1) := by decide +kernel
theorem dX2_frozen_1 : decode cX2_frozen 1 = .ok (.astore_n 2, 1) := by decide +kernel
theorem dX2_frozen_2 : decode cX2_frozen 2 = .ok (.iconst 0, 1) := by decide +kernel
theorem dX2_frozen_3 : decode cX2_frozen 3 = .ok (.istore_n 3, 1) := by decide +kernel
theorem dX2_frozen_4 : decode cX2_frozen 4 = .ok (.aload_n 2, 1) := by decide +kernel
theorem dX2_frozen_5 : decode cX2_frozen 5 = .ok (.ifnull 41, 3) := by decide +kernel
theorem dX2_frozen_8 : decode cX2_frozen 8 = .ok (.iload_n 3, 1) := by decide +kernel
theorem dX2_frozen_9 : decode cX2_frozen 9 = .ok (.bipush 12, 2) := by decide +kernel
theorem dX2_frozen_11 : decode cX2_frozen 11 = .ok (.if_icmp .ge 35, 3) := by decide +kernel
theorem dX2_frozen_14 : decode cX2_frozen 14 = .ok (.aload_n 2, 1) := by decide +kernel
theorem dX2_frozen_15 : decode cX2_frozen 15 = .ok (.aload_n 0, 1) := by decide +kernel
theorem dX2_frozen_16 : decode cX2_frozen 16 = .ok (.getfield 197, 3) := by decide +kernel
theorem dX2_frozen_19 : decode cX2_frozen 19 = .ok (.if_acmp .ne 5, 3) := by decide +kernel
theorem dX2_frozen_22 : decode cX2_frozen 22 = .ok (.iconst 1, 1) := by decide +kernel
theorem dX2_frozen_23 : decode cX2_frozen 23 = .ok (.ireturn, 1) := by decide +kernel
theorem dX2_frozen_24 : decode cX2_frozen 24 = .ok (.aload_n 2, 1) := by decide +kernel
theorem dX2_frozen_25 : decode cX2_frozen 25 = .ok (.getfield 167, 3) := by decide +kernel
theorem dX2_frozen_28 : decode cX2_frozen 28 = .ok (.iconst (-1), 1) := by decide +kernel
theorem dX2_frozen_29 : decode cX2_frozen 29 = .ok (.if_icmp .eq 5, 3) := by decide +kernel
theorem dX2_frozen_32 : decode cX2_frozen 32 = .ok (.iconst 0, 1) := by decide +kernel
theorem dX2_frozen_33 : decode cX2_frozen 33 = .ok (.ireturn, 1) := by decide +kernel
theorem dX2_frozen_34 : decode cX2_frozen 34 = .ok (.aload_n 0, 1) := by decide +kernel
theorem dX2_frozen_35 : decode cX2_frozen 35 = .ok (.aload_n 2, 1) := by decide +kernel
theorem dX2_frozen_36 : decode cX2_frozen 36 = .ok (.invokevirtual 269, 3) := by decide +kernel
theorem dX2_frozen_39 : decode cX2_frozen 39 = .ok (.astore_n 2, 1) := by decide +kernel
theorem dX2_frozen_40 : decode cX2_frozen 40 = .ok (.iinc 3 1, 3) := by decide +kernel
theorem dX2_frozen_43 : decode cX2_frozen 43 = .ok (.goto (-39), 3) := by decide +kernel
theorem dX2_frozen_46 : decode cX2_frozen 46 = .ok (.iconst 0, 1) := by decide +kernel
theorem dX2_frozen_47 : decode cX2_frozen 47 = .ok (.ireturn, 1) := by decide +kernel
theorem dX2_startMove_0 : decode cX2_startMove 0 = .ok (.aload_n 0, 1) := by decide +kernel
theorem dX2_startMove_1 : decode cX2_startMove 1 = .ok (.aload_n 1, 1) := by decide +kernel
theorem dX2_startMove_2 : decode cX2_startMove 2 = .ok (.putfield 197, 3) := by decide +kernel
theorem dX2_startMove_5 : decode cX2_startMove 5 = .ok (.aload_n 0, 1) := by decide +kernel
theorem dX2_startMove_6 : decode cX2_startMove 6 = .ok (.iload_n 2, 1) := by decide +kernel
theorem dX2_startMove_7 : decode cX2_startMove 7 = .ok (.putfield 209, 3) := by decide +kernel
theorem dX2_startMove_10 : decode cX2_startMove 10 = .ok (.aload_n 0, 1) := by decide +kernel
theorem dX2_startMove_11 : decode cX2_startMove 11 = .ok (.iconst 0, 1) := by decide +kernel
theorem dX2_startMove_12 : decode cX2_startMove 12 = .ok (.putfield 203, 3) := by decide +kernel
theorem dX2_startMove_15 : decode cX2_startMove 15 = .ok (.return_, 1) := by decide +kernel
theorem dX2_loadOfServer_0 : decode cX2_loadOfServer 0 = .ok (.iconst 0, 1) := by decide +kernel
theorem dX2_loadOfServer_1 : decode cX2_loadOfServer 1 = .ok (.istore_n 2, 1) := by decide +kernel
theorem dX2_loadOfServer_2 : decode cX2_loadOfServer 2 = .ok (.iconst 0, 1) := by decide +kernel
theorem dX2_loadOfServer_3 : decode cX2_loadOfServer 3 = .ok (.istore_n 3, 1) := by decide +kernel
theorem dX2_loadOfServer_4 : decode cX2_loadOfServer 4 = .ok (.iload_n 3, 1) := by decide +kernel
theorem dX2_loadOfServer_5 : decode cX2_loadOfServer 5 = .ok (.bipush 96, 2) := by decide +kernel
theorem dX2_loadOfServer_7 : decode cX2_loadOfServer 7 = .ok (.if_icmp .ge 39, 3) := by decide +kernel
theorem dX2_loadOfServer_10 : decode cX2_loadOfServer 10 = .ok (.aload_n 0, 1) := by decide +kernel
theorem dX2_loadOfServer_11 : decode cX2_loadOfServer 11 = .ok (.iload_n 3, 1) := by decide +kernel
theorem dX2_loadOfServer_12 : decode cX2_loadOfServer 12 = .ok (.invokevirtual 273, 3) := by decide +kernel
theorem dX2_loadOfServer_15 : decode cX2_loadOfServer 15 = .ok (.astore 4, 2) := by decide +kernel
theorem dX2_loadOfServer_17 : decode cX2_loadOfServer 17 = .ok (.aload 4, 2) := by decide +kernel
theorem dX2_loadOfServer_19 : decode cX2_loadOfServer 19 = .ok (.ifnull 21, 3) := by decide +kernel
theorem dX2_loadOfServer_22 : decode cX2_loadOfServer 22 = .ok (.aload_n 0, 1) := by decide +kernel
theorem dX2_loadOfServer_23 : decode cX2_loadOfServer 23 = .ok (.aload 4, 2) := by decide +kernel
theorem dX2_loadOfServer_25 : decode cX2_loadOfServer 25 = .ok (.invokevirtual 178, 3) := by decide +kernel
theorem dX2_loadOfServer_28 : decode cX2_loadOfServer 28 = .ok (.iload_n 1, 1) := by decide +kernel
theorem dX2_loadOfServer_29 : decode cX2_loadOfServer 29 = .ok (.if_icmp .ne 11, 3) := by decide +kernel
theorem dX2_loadOfServer_32 : decode cX2_loadOfServer 32 = .ok (.iload_n 2, 1) := by decide +kernel
theorem dX2_loadOfServer_33 : decode cX2_loadOfServer 33 = .ok (.aload 4, 2) := by decide +kernel
theorem dX2_loadOfServer_35 : decode cX2_loadOfServer 35 = .ok (.getfield 51, 3) := by decide +kernel
theorem dX2_loadOfServer_38 : decode cX2_loadOfServer 38 = .ok (.iadd, 1) := by decide +kernel
theorem dX2_loadOfServer_39 : decode cX2_loadOfServer 39 = .ok (.istore_n 2, 1) := by decide +kernel
theorem dX2_loadOfServer_40 : decode cX2_loadOfServer 40 = .ok (.iinc 3 1, 3) := by decide +kernel
theorem dX2_loadOfServer_43 : decode cX2_loadOfServer 43 = .ok (.goto (-39), 3) := by decide +kernel
theorem dX2_loadOfServer_46 : decode cX2_loadOfServer 46 = .ok (.iload_n 2, 1) := by decide +kernel
theorem dX2_loadOfServer_47 : decode cX2_loadOfServer 47 = .ok (.ireturn, 1) := by decide +kernel
theorem dX2_heaviestFragment_0 : decode cX2_heaviestFragment 0 = .ok (.aconst_null, 1) := by decide +kernel
theorem dX2_heaviestFragment_1 : decode cX2_heaviestFragment 1 = .ok (.astore_n 3, 1) := by decide +kernel
theorem dX2_heaviestFragment_2 : decode cX2_heaviestFragment 2 = .ok (.iconst 0, 1) := by decide +kernel
theorem dX2_heaviestFragment_3 : decode cX2_heaviestFragment 3 = .ok (.istore 4, 2) := by decide +kernel
theorem dX2_heaviestFragment_5 : decode cX2_heaviestFragment 5 = .ok (.iconst 0, 1) := by decide +kernel
theorem dX2_heaviestFragment_6 : decode cX2_heaviestFragment 6 = .ok (.istore 5, 2) := by decide +kernel
theorem dX2_heaviestFragment_8 : decode cX2_heaviestFragment 8 = .ok (.iload 5, 2) := by decide +kernel
theorem dX2_heaviestFragment_10 : decode cX2_heaviestFragment 10 = .ok (.bipush 96, 2) := by decide +kernel
theorem dX2_heaviestFragment_12 : decode cX2_heaviestFragment 12 = .ok (.if_icmp .ge 61, 3) := by decide +kernel
theorem dX2_heaviestFragment_15 : decode cX2_heaviestFragment 15 = .ok (.aload_n 0, 1) := by decide +kernel
theorem dX2_heaviestFragment_16 : decode cX2_heaviestFragment 16 = .ok (.iload 5, 2) := by decide +kernel
theorem dX2_heaviestFragment_18 : decode cX2_heaviestFragment 18 = .ok (.invokevirtual 273, 3) := by decide +kernel
theorem dX2_heaviestFragment_21 : decode cX2_heaviestFragment 21 = .ok (.astore 6, 2) := by decide +kernel
theorem dX2_heaviestFragment_23 : decode cX2_heaviestFragment 23 = .ok (.aload 6, 2) := by decide +kernel
theorem dX2_heaviestFragment_25 : decode cX2_heaviestFragment 25 = .ok (.ifnull 42, 3) := by decide +kernel
theorem dX2_heaviestFragment_28 : decode cX2_heaviestFragment 28 = .ok (.aload 6, 2) := by decide +kernel
theorem dX2_heaviestFragment_30 : decode cX2_heaviestFragment 30 = .ok (.getfield 51, 3) := by decide +kernel
theorem dX2_heaviestFragment_33 : decode cX2_heaviestFragment 33 = .ok (.iload 4, 2) := by decide +kernel
theorem dX2_heaviestFragment_35 : decode cX2_heaviestFragment 35 = .ok (.if_icmp .le 32, 3) := by decide +kernel
theorem dX2_heaviestFragment_38 : decode cX2_heaviestFragment 38 = .ok (.aload 6, 2) := by decide +kernel
theorem dX2_heaviestFragment_40 : decode cX2_heaviestFragment 40 = .ok (.getfield 51, 3) := by decide +kernel
theorem dX2_heaviestFragment_43 : decode cX2_heaviestFragment 43 = .ok (.iload_n 2, 1) := by decide +kernel
theorem dX2_heaviestFragment_44 : decode cX2_heaviestFragment 44 = .ok (.if_icmp .gt 23, 3) := by decide +kernel
theorem dX2_heaviestFragment_47 : decode cX2_heaviestFragment 47 = .ok (.aload_n 0, 1) := by decide +kernel
theorem dX2_heaviestFragment_48 : decode cX2_heaviestFragment 48 = .ok (.aload 6, 2) := by decide +kernel
theorem dX2_heaviestFragment_50 : decode cX2_heaviestFragment 50 = .ok (.invokevirtual 178, 3) := by decide +kernel
theorem dX2_heaviestFragment_53 : decode cX2_heaviestFragment 53 = .ok (.iload_n 1, 1) := by decide +kernel
theorem dX2_heaviestFragment_54 : decode cX2_heaviestFragment 54 = .ok (.if_icmp .ne 13, 3) := by decide +kernel
theorem dX2_heaviestFragment_57 : decode cX2_heaviestFragment 57 = .ok (.aload 6, 2) := by decide +kernel
theorem dX2_heaviestFragment_59 : decode cX2_heaviestFragment 59 = .ok (.astore_n 3, 1) := by decide +kernel
theorem dX2_heaviestFragment_60 : decode cX2_heaviestFragment 60 = .ok (.aload 6, 2) := by decide +kernel
theorem dX2_heaviestFragment_62 : decode cX2_heaviestFragment 62 = .ok (.getfield 51, 3) := by decide +kernel
theorem dX2_heaviestFragment_65 : decode cX2_heaviestFragment 65 = .ok (.istore 4, 2) := by decide +kernel
theorem dX2_heaviestFragment_67 : decode cX2_heaviestFragment 67 = .ok (.iinc 5 1, 3) := by decide +kernel
theorem dX2_heaviestFragment_70 : decode cX2_heaviestFragment 70 = .ok (.goto (-62), 3) := by decide +kernel
theorem dX2_heaviestFragment_73 : decode cX2_heaviestFragment 73 = .ok (.aload_n 3, 1) := by decide +kernel
theorem dX2_heaviestFragment_74 : decode cX2_heaviestFragment 74 = .ok (.areturn, 1) := by decide +kernel
theorem dX2_halveLoads_0 : decode cX2_halveLoads 0 = .ok (.iconst 0, 1) := by decide +kernel
theorem dX2_halveLoads_1 : decode cX2_halveLoads 1 = .ok (.istore_n 1, 1) := by decide +kernel
theorem dX2_halveLoads_2 : decode cX2_halveLoads 2 = .ok (.iload_n 1, 1) := by decide +kernel
theorem dX2_halveLoads_3 : decode cX2_halveLoads 3 = .ok (.bipush 96, 2) := by decide +kernel
theorem dX2_halveLoads_5 : decode cX2_halveLoads 5 = .ok (.if_icmp .ge 29, 3) := by decide +kernel
theorem dX2_halveLoads_8 : decode cX2_halveLoads 8 = .ok (.aload_n 0, 1) := by decide +kernel
theorem dX2_halveLoads_9 : decode cX2_halveLoads 9 = .ok (.iload_n 1, 1) := by decide +kernel
theorem dX2_halveLoads_10 : decode cX2_halveLoads 10 = .ok (.invokevirtual 273, 3) := by decide +kernel
theorem dX2_halveLoads_13 : decode cX2_halveLoads 13 = .ok (.astore_n 2, 1) := by decide +kernel
theorem dX2_halveLoads_14 : decode cX2_halveLoads 14 = .ok (.aload_n 2, 1) := by decide +kernel
theorem dX2_halveLoads_15 : decode cX2_halveLoads 15 = .ok (.ifnull 13, 3) := by decide +kernel
theorem dX2_halveLoads_18 : decode cX2_halveLoads 18 = .ok (.aload_n 2, 1) := by decide +kernel
theorem dX2_halveLoads_19 : decode cX2_halveLoads 19 = .ok (.dup, 1) := by decide +kernel
theorem dX2_halveLoads_20 : decode cX2_halveLoads 20 = .ok (.getfield 51, 3) := by decide +kernel
theorem dX2_halveLoads_23 : decode cX2_halveLoads 23 = .ok (.iconst 2, 1) := by decide +kernel
theorem dX2_halveLoads_24 : decode cX2_halveLoads 24 = .ok (.idiv, 1) := by decide +kernel
theorem dX2_halveLoads_25 : decode cX2_halveLoads 25 = .ok (.putfield 51, 3) := by decide +kernel
theorem dX2_halveLoads_28 : decode cX2_halveLoads 28 = .ok (.iinc 1 1, 3) := by decide +kernel
theorem dX2_halveLoads_31 : decode cX2_halveLoads 31 = .ok (.goto (-29), 3) := by decide +kernel
theorem dX2_halveLoads_34 : decode cX2_halveLoads 34 = .ok (.return_, 1) := by decide +kernel
theorem dX2_fragmentInSlot_0 : decode cX2_fragmentInSlot 0 = .ok (.aload_n 0, 1) := by decide +kernel
theorem dX2_fragmentInSlot_1 : decode cX2_fragmentInSlot 1 = .ok (.iload_n 1, 1) := by decide +kernel
theorem dX2_fragmentInSlot_2 : decode cX2_fragmentInSlot 2 = .ok (.bipush 8, 2) := by decide +kernel
theorem dX2_fragmentInSlot_4 : decode cX2_fragmentInSlot 4 = .ok (.idiv, 1) := by decide +kernel
theorem dX2_fragmentInSlot_5 : decode cX2_fragmentInSlot 5 = .ok (.invokevirtual 236, 3) := by decide +kernel
theorem dX2_fragmentInSlot_8 : decode cX2_fragmentInSlot 8 = .ok (.astore_n 2, 1) := by decide +kernel
theorem dX2_fragmentInSlot_9 : decode cX2_fragmentInSlot 9 = .ok (.aload_n 2, 1) := by decide +kernel
theorem dX2_fragmentInSlot_10 : decode cX2_fragmentInSlot 10 = .ok (.ifnonnull 7, 3) := by decide +kernel
theorem dX2_fragmentInSlot_13 : decode cX2_fragmentInSlot 13 = .ok (.aconst_null, 1) := by decide +kernel
theorem dX2_fragmentInSlot_14 : decode cX2_fragmentInSlot 14 = .ok (.goto 11, 3) := by decide +kernel
theorem dX2_fragmentInSlot_17 : decode cX2_fragmentInSlot 17 = .ok (.aload_n 2, 1) := by decide +kernel
theorem dX2_fragmentInSlot_18 : decode cX2_fragmentInSlot 18 = .ok (.iload_n 1, 1) := by decide +kernel
theorem dX2_fragmentInSlot_19 : decode cX2_fragmentInSlot 19 = .ok (.bipush 8, 2) := by decide +kernel
theorem dX2_fragmentInSlot_21 : decode cX2_fragmentInSlot 21 = .ok (.irem, 1) := by decide +kernel
theorem dX2_fragmentInSlot_22 : decode cX2_fragmentInSlot 22 = .ok (.invokevirtual 276, 3) := by decide +kernel
theorem dX2_fragmentInSlot_25 : decode cX2_fragmentInSlot 25 = .ok (.areturn, 1) := by decide +kernel
theorem dX3_init_0 : decode cX3_init 0 = .ok (.aload_n 0, 1) := by decide +kernel
theorem dX3_init_1 : decode cX3_init 1 = .ok (.invokespecial 1, 3) := by decide +kernel
theorem dX3_init_4 : decode cX3_init 4 = .ok (.aload_n 0, 1) := by decide +kernel
theorem dX3_init_5 : decode cX3_init 5 = .ok (.iconst 1, 1) := by decide +kernel
theorem dX3_init_6 : decode cX3_init 6 = .ok (.putfield 7, 3) := by decide +kernel
theorem dX3_init_9 : decode cX3_init 9 = .ok (.aload_n 0, 1) := by decide +kernel
theorem dX3_init_10 : decode cX3_init 10 = .ok (.bipush 12, 2) := by decide +kernel
theorem dX3_init_12 : decode cX3_init 12 = .ok (.newarray .boolean, 2) := by decide +kernel
theorem dX3_init_14 : decode cX3_init 14 = .ok (.putfield 13, 3) := by decide +kernel
theorem dX3_init_17 : decode cX3_init 17 = .ok (.aload_n 0, 1) := by decide +kernel
theorem dX3_init_18 : decode cX3_init 18 = .ok (.bipush 12, 2) := by decide +kernel
theorem dX3_init_20 : decode cX3_init 20 = .ok (.newarray .int, 2) := by decide +kernel
theorem dX3_init_22 : decode cX3_init 22 = .ok (.putfield 17, 3) := by decide +kernel
theorem dX3_init_25 : decode cX3_init 25 = .ok (.aload_n 0, 1) := by decide +kernel
theorem dX3_init_26 : decode cX3_init 26 = .ok (.bipush 12, 2) := by decide +kernel
theorem dX3_init_28 : decode cX3_init 28 = .ok (.newarray .int, 2) := by decide +kernel
theorem dX3_init_30 : decode cX3_init 30 = .ok (.putfield 21, 3) := by decide +kernel
theorem dX3_init_33 : decode cX3_init 33 = .ok (.aload_n 0, 1) := by decide +kernel
theorem dX3_init_34 : decode cX3_init 34 = .ok (.sipush 600, 3) := by decide +kernel
theorem dX3_init_37 : decode cX3_init 37 = .ok (.newarray .int, 2) := by decide +kernel
theorem dX3_init_39 : decode cX3_init 39 = .ok (.putfield 24, 3) := by decide +kernel
theorem dX3_init_42 : decode cX3_init 42 = .ok (.aload_n 0, 1) := by decide +kernel
theorem dX3_init_43 : decode cX3_init 43 = .ok (.sipush 600, 3) := by decide +kernel
theorem dX3_init_46 : decode cX3_init 46 = .ok (.newarray .int, 2) := by decide +kernel
theorem dX3_init_48 : decode cX3_init 48 = .ok (.putfield 27, 3) := by decide +kernel
theorem dX3_init_51 : decode cX3_init 51 = .ok (.aload_n 0, 1) := by decide +kernel
theorem dX3_init_52 : decode cX3_init 52 = .ok (.bipush 96, 2) := by decide +kernel
theorem dX3_init_54 : decode cX3_init 54 = .ok (.newarray .int, 2) := by decide +kernel
theorem dX3_init_56 : decode cX3_init 56 = .ok (.putfield 30, 3) := by decide +kernel
theorem dX3_init_59 : decode cX3_init 59 = .ok (.aload_n 0, 1) := by decide +kernel
theorem dX3_init_60 : decode cX3_init 60 = .ok (.bipush 96, 2) := by decide +kernel
theorem dX3_init_62 : decode cX3_init 62 = .ok (.newarray .int, 2) := by decide +kernel
theorem dX3_init_64 : decode cX3_init 64 = .ok (.putfield 33, 3) := by decide +kernel
theorem dX3_init_67 : decode cX3_init 67 = .ok (.aload_n 0, 1) := by decide +kernel
theorem dX3_init_68 : decode cX3_init 68 = .ok (.bipush 96, 2) := by decide +kernel
theorem dX3_init_70 : decode cX3_init 70 = .ok (.newarray .int, 2) := by decide +kernel
theorem dX3_init_72 : decode cX3_init 72 = .ok (.putfield 36, 3) := by decide +kernel
theorem dX3_init_75 : decode cX3_init 75 = .ok (.aload_n 0, 1) := by decide +kernel
theorem dX3_init_76 : decode cX3_init 76 = .ok (.sipush 2400, 3) := by decide +kernel
theorem dX3_init_79 : decode cX3_init 79 = .ok (.newarray .int, 2) := by decide +kernel
theorem dX3_init_81 : decode cX3_init 81 = .ok (.putfield 39, 3) := by decide +kernel
theorem dX3_init_84 : decode cX3_init 84 = .ok (.aload_n 0, 1) := by decide +kernel
theorem dX3_init_85 : decode cX3_init 85 = .ok (.iconst 4, 1) := by decide +kernel
theorem dX3_init_86 : decode cX3_init 86 = .ok (.newarray .int, 2) := by decide +kernel
theorem dX3_init_88 : decode cX3_init 88 = .ok (.putfield 42, 3) := by decide +kernel
theorem dX3_init_91 : decode cX3_init 91 = .ok (.aload_n 0, 1) := by decide +kernel
theorem dX3_init_92 : decode cX3_init 92 = .ok (.iconst 4, 1) := by decide +kernel
theorem dX3_init_93 : decode cX3_init 93 = .ok (.newarray .int, 2) := by decide +kernel
theorem dX3_init_95 : decode cX3_init 95 = .ok (.putfield 45, 3) := by decide +kernel
theorem dX3_init_98 : decode cX3_init 98 = .ok (.aload_n 0, 1) := by decide +kernel
theorem dX3_init_99 : decode cX3_init 99 = .ok (.iconst (-1), 1) := by decide +kernel
theorem dX3_init_100 : decode cX3_init 100 = .ok (.putfield 48, 3) := by decide +kernel
theorem dX3_init_103 : decode cX3_init 103 = .ok (.iconst 0, 1) := by decide +kernel
theorem dX3_init_104 : decode cX3_init 104 = .ok (.istore_n 1, 1) := by decide +kernel
theorem dX3_init_105 : decode cX3_init 105 = .ok (.iload_n 1, 1) := by decide +kernel
theorem dX3_init_106 : decode cX3_init 106 = .ok (.sipush 600, 3) := by decide +kernel
theorem dX3_init_109 : decode cX3_init 109 = .ok (.if_icmp .ge 16, 3) := by decide +kernel
theorem dX3_init_112 : decode cX3_init 112 = .ok (.aload_n 0, 1) := by decide +kernel
theorem dX3_init_113 : decode cX3_init 113 = .ok (.getfield 24, 3) := by decide +kernel
theorem dX3_init_116 : decode cX3_init 116 = .ok (.iload_n 1, 1) := by decide +kernel
theorem dX3_init_117 : decode cX3_init 117 = .ok (.iconst (-1), 1) := by decide +kernel
theorem dX3_init_118 : decode cX3_init 118 = .ok (.iastore, 1) := by decide +kernel
theorem dX3_init_119 : decode cX3_init 119 = .ok (.iinc 1 1, 3) := by decide +kernel
theorem dX3_init_122 : decode cX3_init 122 = .ok (.goto (-17), 3) := by decide +kernel
theorem dX3_init_125 : decode cX3_init 125 = .ok (.aload_n 0, 1) := by decide +kernel
theorem dX3_init_126 : decode cX3_init 126 = .ok (.iconst 0, 1) := by decide +kernel
theorem dX3_init_127 : decode cX3_init 127 = .ok (.iconst 0, 1) := by decide +kernel
theorem dX3_init_128 : decode cX3_init 128 = .ok (.invokevirtual 51, 3) := by decide +kernel
theorem dX3_init_131 : decode cX3_init 131 = .ok (.return_, 1) := by decide +kernel
theorem dX3_thrown_0 : decode cX3_thrown 0 = .ok (.aload_n 0, 1) := by decide +kernel
theorem dX3_thrown_1 : decode cX3_thrown 1 = .ok (.getfield 55, 3) := by decide +kernel
theorem dX3_thrown_4 : decode cX3_thrown 4 = .ok (.ireturn, 1) := by decide +kernel
theorem dX3_fails_0 : decode cX3_fails 0 = .ok (.aload_n 0, 1) := by decide +kernel
theorem dX3_fails_1 : decode cX3_fails 1 = .ok (.iload_n 1, 1) := by decide +kernel
theorem dX3_fails_2 : decode cX3_fails 2 = .ok (.putfield 55, 3) := by decide +kernel
theorem dX3_fails_5 : decode cX3_fails 5 = .ok (.iconst 0, 1) := by decide +kernel
theorem dX3_fails_6 : decode cX3_fails 6 = .ok (.ireturn, 1) := by decide +kernel
theorem dX3_in_0 : decode cX3_in 0 = .ok (.iload_n 0, 1) := by decide +kernel
theorem dX3_in_1 : decode cX3_in 1 = .ok (.iload_n 1, 1) := by decide +kernel
theorem dX3_in_2 : decode cX3_in 2 = .ok (.if_icmp .lt 12, 3) := by decide +kernel
theorem dX3_in_5 : decode cX3_in 5 = .ok (.iload_n 0, 1) := by decide +kernel
theorem dX3_in_6 : decode cX3_in 6 = .ok (.iload_n 2, 1) := by decide +kernel
theorem dX3_in_7 : decode cX3_in 7 = .ok (.if_icmp .gt 7, 3) := by decide +kernel
theorem dX3_in_10 : decode cX3_in 10 = .ok (.iconst 1, 1) := by decide +kernel
theorem dX3_in_11 : decode cX3_in 11 = .ok (.goto 4, 3) := by decide +kernel
theorem dX3_in_14 : decode cX3_in 14 = .ok (.iconst 0, 1) := by decide +kernel
theorem dX3_in_15 : decode cX3_in 15 = .ok (.ireturn, 1) := by decide +kernel
theorem dX3_isName_0 : decode cX3_isName 0 = .ok (.iload_n 0, 1) := by decide +kernel
theorem dX3_isName_1 : decode cX3_isName 1 = .ok (.iconst 0, 1) := by decide +kernel
theorem dX3_isName_2 : decode cX3_isName 2 = .ok (.bipush 49, 2) := by decide +kernel
theorem dX3_isName_4 : decode cX3_isName 4 = .ok (.invokestatic 58, 3) := by decide +kernel
theorem dX3_isName_7 : decode cX3_isName 7 = .ok (.ireturn, 1) := by decide +kernel
theorem dX3_isHash_0 : decode cX3_isHash 0 = .ok (.iload_n 0, 1) := by decide +kernel
theorem dX3_isHash_1 : decode cX3_isHash 1 = .ok (.iconst 0, 1) := by decide +kernel
theorem dX3_isHash_2 : decode cX3_isHash 2 = .ok (.bipush 7, 2) := by decide +kernel
theorem dX3_isHash_4 : decode cX3_isHash 4 = .ok (.invokestatic 58, 3) := by decide +kernel
theorem dX3_isHash_7 : decode cX3_isHash 7 = .ok (.ireturn, 1) := by decide +kernel
theorem dX3_isClient_0 : decode cX3_isClient 0 = .ok (.iload_n 0, 1) := by decide +kernel
theorem dX3_isClient_1 : decode cX3_isClient 1 = .ok (.iconst 0, 1) := by decide +kernel
theorem dX3_isClient_2 : decode cX3_isClient 2 = .ok (.iconst 3, 1) := by decide +kernel
theorem dX3_isClient_3 : decode cX3_isClient 3 = .ok (.invokestatic 58, 3) := by decide +kernel
theorem dX3_isClient_6 : decode cX3_isClient 6 = .ok (.ireturn, 1) := by decide +kernel
theorem dX3_isDirectory_0 : decode cX3_isDirectory 0 = .ok (.iload_n 1, 1) := by decide +kernel
theorem dX3_isDirectory_1 : decode cX3_isDirectory 1 = .ok (.iconst 0, 1) := by decide +kernel
theorem dX3_isDirectory_2 : decode cX3_isDirectory 2 = .ok (.aload_n 0, 1) := by decide +kernel
theorem dX3_isDirectory_3 : decode cX3_isDirectory 3 = .ok (.getfield 7, 3) := by decide +kernel
theorem dX3_isDirectory_6 : decode cX3_isDirectory 6 = .ok (.iconst 1, 1) := by decide +kernel
theorem dX3_isDirectory_7 : decode cX3_isDirectory 7 = .ok (.isub, 1) := by decide +kernel
theorem dX3_isDirectory_8 : decode cX3_isDirectory 8 = .ok (.invokestatic 58, 3) := by decide +kernel
theorem dX3_isDirectory_11 : decode cX3_isDirectory 11 = .ok (.ifCond .eq 16, 3) := by decide +kernel
theorem dX3_isDirectory_14 : decode cX3_isDirectory 14 = .ok (.aload_n 0, 1) := by decide +kernel
theorem dX3_isDirectory_15 : decode cX3_isDirectory 15 = .ok (.getfield 13, 3) := by decide +kernel
theorem dX3_isDirectory_18 : decode cX3_isDirectory 18 = .ok (.iload_n 1, 1) := by decide +kernel
theorem dX3_isDirectory_19 : decode cX3_isDirectory 19 = .ok (.baload, 1) := by decide +kernel
theorem dX3_isDirectory_20 : decode cX3_isDirectory 20 = .ok (.ifCond .eq 7, 3) := by decide +kernel
theorem dX3_isDirectory_23 : decode cX3_isDirectory 23 = .ok (.iconst 1, 1) := by decide +kernel
theorem dX3_isDirectory_24 : decode cX3_isDirectory 24 = .ok (.goto 4, 3) := by decide +kernel
theorem dX3_isDirectory_27 : decode cX3_isDirectory 27 = .ok (.iconst 0, 1) := by decide +kernel
theorem dX3_isDirectory_28 : decode cX3_isDirectory 28 = .ok (.ireturn, 1) := by decide +kernel
theorem dX3_at_0 : decode cX3_at 0 = .ok (.bipush 50, 2) := by decide +kernel
theorem dX3_at_2 : decode cX3_at 2 = .ok (.iload_n 0, 1) := by decide +kernel
theorem dX3_at_3 : decode cX3_at 3 = .ok (.imul, 1) := by decide +kernel
theorem dX3_at_4 : decode cX3_at 4 = .ok (.iload_n 1, 1) := by decide +kernel
theorem dX3_at_5 : decode cX3_at 5 = .ok (.iadd, 1) := by decide +kernel
theorem dX3_at_6 : decode cX3_at 6 = .ok (.ireturn, 1) := by decide +kernel
theorem dX3_hash_0 : decode cX3_hash 0 = .ok (.iconst 5, 1) := by decide +kernel
theorem dX3_hash_1 : decode cX3_hash 1 = .ok (.iload_n 0, 1) := by decide +kernel
theorem dX3_hash_2 : decode cX3_hash 2 = .ok (.imul, 1) := by decide +kernel
theorem dX3_hash_3 : decode cX3_hash 3 = .ok (.iconst 3, 1) := by decide +kernel
theorem dX3_hash_4 : decode cX3_hash 4 = .ok (.iadd, 1) := by decide +kernel
theorem dX3_hash_5 : decode cX3_hash 5 = .ok (.bipush 8, 2) := by decide +kernel
theorem dX3_hash_7 : decode cX3_hash 7 = .ok (.irem, 1) := by decide +kernel
theorem dX3_hash_8 : decode cX3_hash 8 = .ok (.ireturn, 1) := by decide +kernel
theorem dX3_begins_0 : decode cX3_begins 0 = .ok (.aload_n 0, 1) := by decide +kernel
theorem dX3_begins_1 : decode cX3_begins 1 = .ok (.getfield 13, 3) := by decide +kernel
theorem dX3_begins_4 : decode cX3_begins 4 = .ok (.iload_n 1, 1) := by decide +kernel
theorem dX3_begins_5 : decode cX3_begins 5 = .ok (.iconst 1, 1) := by decide +kernel
theorem dX3_begins_6 : decode cX3_begins 6 = .ok (.bastore, 1) := by decide +kernel
theorem dX3_begins_7 : decode cX3_begins 7 = .ok (.iconst 0, 1) := by decide +kernel
theorem dX3_begins_8 : decode cX3_begins 8 = .ok (.istore_n 3, 1) := by decide +kernel
theorem dX3_begins_9 : decode cX3_begins 9 = .ok (.iload_n 3, 1) := by decide +kernel
theorem dX3_begins_10 : decode cX3_begins 10 = .ok (.bipush 8, 2) := by decide +kernel
theorem dX3_begins_12 : decode cX3_begins 12 = .ok (.if_icmp .ge 62, 3) := by decide +kernel
theorem dX3_begins_15 : decode cX3_begins 15 = .ok (.aload_n 0, 1) := by decide +kernel
theorem dX3_begins_16 : decode cX3_begins 16 = .ok (.getfield 30, 3) := by decide +kernel
theorem dX3_begins_19 : decode cX3_begins 19 = .ok (.bipush 8, 2) := by decide +kernel
theorem dX3_begins_21 : decode cX3_begins 21 = .ok (.iload_n 1, 1) := by decide +kernel
theorem dX3_begins_22 : decode cX3_begins 22 = .ok (.imul, 1) := by decide +kernel
theorem dX3_begins_23 : decode cX3_begins 23 = .ok (.iload_n 3, 1) := by decide +kernel
theorem dX3_begins_24 : decode cX3_begins 24 = .ok (.iadd, 1) := by decide +kernel
theorem dX3_begins_25 : decode cX3_begins 25 = .ok (.iload_n 3, 1) := by decide +kernel
theorem dX3_begins_26 : decode cX3_begins 26 = .ok (.ifCond .ne 8, 3) := by decide +kernel
theorem dX3_begins_29 : decode cX3_begins 29 = .ok (.bipush 8, 2) := by decide +kernel
theorem dX3_begins_31 : decode cX3_begins 31 = .ok (.goto 4, 3) := by decide +kernel
theorem dX3_begins_34 : decode cX3_begins 34 = .ok (.iconst 0, 1) := by decide +kernel
theorem dX3_begins_35 : decode cX3_begins 35 = .ok (.iastore, 1) := by decide +kernel
theorem dX3_begins_36 : decode cX3_begins 36 = .ok (.aload_n 0, 1) := by decide +kernel
theorem dX3_begins_37 : decode cX3_begins 37 = .ok (.getfield 33, 3) := by decide +kernel
theorem dX3_begins_40 : decode cX3_begins 40 = .ok (.bipush 8, 2) := by decide +kernel
theorem dX3_begins_42 : decode cX3_begins 42 = .ok (.iload_n 1, 1) := by decide +kernel
theorem dX3_begins_43 : decode cX3_begins 43 = .ok (.imul, 1) := by decide +kernel
theorem dX3_begins_44 : decode cX3_begins 44 = .ok (.iload_n 3, 1) := by decide +kernel
theorem dX3_begins_45 : decode cX3_begins 45 = .ok (.iadd, 1) := by decide +kernel
theorem dX3_begins_46 : decode cX3_begins 46 = .ok (.iload_n 3, 1) := by decide +kernel
theorem dX3_begins_47 : decode cX3_begins 47 = .ok (.ifCond .ne 7, 3) := by decide +kernel
theorem dX3_begins_50 : decode cX3_begins 50 = .ok (.iload_n 2, 1) := by decide +kernel
theorem dX3_begins_51 : decode cX3_begins 51 = .ok (.goto 4, 3) := by decide +kernel
theorem dX3_begins_54 : decode cX3_begins 54 = .ok (.iconst (-1), 1) := by decide +kernel
theorem dX3_begins_55 : decode cX3_begins 55 = .ok (.iastore, 1) := by decide +kernel
theorem dX3_begins_56 : decode cX3_begins 56 = .ok (.aload_n 0, 1) := by decide +kernel
theorem dX3_begins_57 : decode cX3_begins 57 = .ok (.getfield 36, 3) := by decide +kernel
theorem dX3_begins_60 : decode cX3_begins 60 = .ok (.bipush 8, 2) := by decide +kernel
theorem dX3_begins_62 : decode cX3_begins 62 = .ok (.iload_n 1, 1) := by decide +kernel
theorem dX3_begins_63 : decode cX3_begins 63 = .ok (.imul, 1) := by decide +kernel
theorem dX3_begins_64 : decode cX3_begins 64 = .ok (.iload_n 3, 1) := by decide +kernel
theorem dX3_begins_65 : decode cX3_begins 65 = .ok (.iadd, 1) := by decide +kernel
theorem dX3_begins_66 : decode cX3_begins 66 = .ok (.iconst 0, 1) := by decide +kernel
theorem dX3_begins_67 : decode cX3_begins 67 = .ok (.iastore, 1) := by decide +kernel
theorem dX3_begins_68 : decode cX3_begins 68 = .ok (.iinc 3 1, 3) := by decide +kernel
theorem dX3_begins_71 : decode cX3_begins 71 = .ok (.goto (-62), 3) := by decide +kernel
theorem dX3_begins_74 : decode cX3_begins 74 = .ok (.return_, 1) := by decide +kernel
theorem dX3_fragment_0 : decode cX3_fragment 0 = .ok (.bipush 8, 2) := by decide +kernel
theorem dX3_fragment_2 : decode cX3_fragment 2 = .ok (.iload_n 1, 1) := by decide +kernel
theorem dX3_fragment_3 : decode cX3_fragment 3 = .ok (.imul, 1) := by decide +kernel
theorem dX3_fragment_4 : decode cX3_fragment 4 = .ok (.iload_n 2, 1) := by decide +kernel
theorem dX3_fragment_5 : decode cX3_fragment 5 = .ok (.iadd, 1) := by decide +kernel
theorem dX3_fragment_6 : decode cX3_fragment 6 = .ok (.istore_n 3, 1) := by decide +kernel
theorem dX3_fragment_7 : decode cX3_fragment 7 = .ok (.aload_n 0, 1) := by decide +kernel
theorem dX3_fragment_8 : decode cX3_fragment 8 = .ok (.getfield 30, 3) := by decide +kernel
theorem dX3_fragment_11 : decode cX3_fragment 11 = .ok (.iload_n 3, 1) := by decide +kernel
theorem dX3_fragment_12 : decode cX3_fragment 12 = .ok (.iaload, 1) := by decide +kernel
theorem dX3_fragment_13 : decode cX3_fragment 13 = .ok (.ifCond .ne 9, 3) := by decide +kernel
theorem dX3_fragment_16 : decode cX3_fragment 16 = .ok (.iinc 3 (-1), 3) := by decide +kernel
theorem dX3_fragment_19 : decode cX3_fragment 19 = .ok (.goto (-12), 3) := by decide +kernel
theorem dX3_fragment_22 : decode cX3_fragment 22 = .ok (.iload_n 3, 1) := by decide +kernel
theorem dX3_fragment_23 : decode cX3_fragment 23 = .ok (.ireturn, 1) := by decide +kernel
theorem dX3_fragmentOfName_0 : decode cX3_fragmentOfName 0 = .ok (.aload_n 0, 1) := by decide +kernel
theorem dX3_fragmentOfName_1 : decode cX3_fragmentOfName 1 = .ok (.iload_n 1, 1) := by decide +kernel
theorem dX3_fragmentOfName_2 : decode cX3_fragmentOfName 2 = .ok (.iload_n 2, 1) := by decide +kernel
theorem dX3_fragmentOfName_3 : decode cX3_fragmentOfName 3 = .ok (.invokestatic 62, 3) := by decide +kernel
theorem dX3_fragmentOfName_6 : decode cX3_fragmentOfName 6 = .ok (.invokevirtual 66, 3) := by decide +kernel
theorem dX3_fragmentOfName_9 : decode cX3_fragmentOfName 9 = .ok (.ireturn, 1) := by decide +kernel
theorem dX3_inherited_0 : decode cX3_inherited 0 = .ok (.iload_n 1, 1) := by decide +kernel
theorem dX3_inherited_1 : decode cX3_inherited 1 = .ok (.bipush 8, 2) := by decide +kernel
theorem dX3_inherited_3 : decode cX3_inherited 3 = .ok (.idiv, 1) := by decide +kernel
theorem dX3_inherited_4 : decode cX3_inherited 4 = .ok (.istore_n 2, 1) := by decide +kernel
theorem dX3_inherited_5 : decode cX3_inherited 5 = .ok (.aload_n 0, 1) := by decide +kernel
theorem dX3_inherited_6 : decode cX3_inherited 6 = .ok (.aload_n 0, 1) := by decide +kernel
theorem dX3_inherited_7 : decode cX3_inherited 7 = .ok (.getfield 17, 3) := by decide +kernel
theorem dX3_inherited_10 : decode cX3_inherited 10 = .ok (.iload_n 2, 1) := by decide +kernel
theorem dX3_inherited_11 : decode cX3_inherited 11 = .ok (.iaload, 1) := by decide +kernel
theorem dX3_inherited_12 : decode cX3_inherited 12 = .ok (.aload_n 0, 1) := by decide +kernel
theorem dX3_inherited_13 : decode cX3_inherited 13 = .ok (.getfield 21, 3) := by decide +kernel
theorem dX3_inherited_16 : decode cX3_inherited 16 = .ok (.iload_n 2, 1) := by decide +kernel
theorem dX3_inherited_17 : decode cX3_inherited 17 = .ok (.iaload, 1) := by decide +kernel
theorem dX3_inherited_18 : decode cX3_inherited 18 = .ok (.invokevirtual 70, 3) := by decide +kernel
theorem dX3_inherited_21 : decode cX3_inherited 21 = .ok (.ireturn, 1) := by decide +kernel
theorem dX3_server_0 : decode cX3_server 0 = .ok (.iload_n 1, 1) := by decide +kernel
theorem dX3_server_1 : decode cX3_server 1 = .ok (.istore_n 2, 1) := by decide +kernel
theorem dX3_server_2 : decode cX3_server 2 = .ok (.aload_n 0, 1) := by decide +kernel
theorem dX3_server_3 : decode cX3_server 3 = .ok (.getfield 33, 3) := by decide +kernel
theorem dX3_server_6 : decode cX3_server 6 = .ok (.iload_n 2, 1) := by decide +kernel
theorem dX3_server_7 : decode cX3_server 7 = .ok (.iaload, 1) := by decide +kernel
theorem dX3_server_8 : decode cX3_server 8 = .ok (.iconst (-1), 1) := by decide +kernel
theorem dX3_server_9 : decode cX3_server 9 = .ok (.if_icmp .ne 12, 3) := by decide +kernel
theorem dX3_server_12 : decode cX3_server 12 = .ok (.aload_n 0, 1) := by decide +kernel
theorem dX3_server_13 : decode cX3_server 13 = .ok (.iload_n 2, 1) := by decide +kernel
theorem dX3_server_14 : decode cX3_server 14 = .ok (.invokevirtual 73, 3) := by decide +kernel
theorem dX3_server_17 : decode cX3_server 17 = .ok (.istore_n 2, 1) := by decide +kernel
theorem dX3_server_18 : decode cX3_server 18 = .ok (.goto (-16), 3) := by decide +kernel
theorem dX3_server_21 : decode cX3_server 21 = .ok (.aload_n 0, 1) := by decide +kernel
theorem dX3_server_22 : decode cX3_server 22 = .ok (.getfield 33, 3) := by decide +kernel
theorem dX3_server_25 : decode cX3_server 25 = .ok (.iload_n 2, 1) := by decide +kernel
theorem dX3_server_26 : decode cX3_server 26 = .ok (.iaload, 1) := by decide +kernel
theorem dX3_server_27 : decode cX3_server 27 = .ok (.ireturn, 1) := by decide +kernel
theorem dX3_frozen_0 : decode cX3_frozen 0 = .ok (.iload_n 1, 1) := by decide +kernel
theorem dX3_frozen_1 : decode cX3_frozen 1 = .ok (.istore_n 2, 1) := by decide +kernel
theorem dX3_frozen_2 : decode cX3_frozen 2 = .ok (.aload_n 0, 1) := by decide +kernel
theorem dX3_frozen_3 : decode cX3_frozen 3 = .ok (.getfield 48, 3) := by decide +kernel
theorem dX3_frozen_6 : decode cX3_frozen 6 = .ok (.iconst (-1), 1) := by decide +kernel
theorem dX3_frozen_7 : decode cX3_frozen 7 = .ok (.if_icmp .eq 30, 3) := by decide +kernel
theorem dX3_frozen_10 : decode cX3_frozen 10 = .ok (.iload_n 2, 1) := by decide +kernel
theorem dX3_frozen_11 : decode cX3_frozen 11 = .ok (.aload_n 0, 1) := by decide +kernel
theorem dX3_frozen_12 : decode cX3_frozen 12 = .ok (.getfield 48, 3) := by decide +kernel
theorem dX3_frozen_15 : decode cX3_frozen 15 = .ok (.if_icmp .eq 22, 3) := by decide +kernel
theorem dX3_frozen_18 : decode cX3_frozen 18 = .ok (.aload_n 0, 1) := by decide +kernel
theorem dX3_frozen_19 : decode cX3_frozen 19 = .ok (.getfield 33, 3) := by decide +kernel
theorem dX3_frozen_22 : decode cX3_frozen 22 = .ok (.iload_n 2, 1) := by decide +kernel
theorem dX3_frozen_23 : decode cX3_frozen 23 = .ok (.iaload, 1) := by decide +kernel
theorem dX3_frozen_24 : decode cX3_frozen 24 = .ok (.iconst (-1), 1) := by decide +kernel
theorem dX3_frozen_25 : decode cX3_frozen 25 = .ok (.if_icmp .ne 12, 3) := by decide +kernel
theorem dX3_frozen_28 : decode cX3_frozen 28 = .ok (.aload_n 0, 1) := by decide +kernel
theorem dX3_frozen_29 : decode cX3_frozen 29 = .ok (.iload_n 2, 1) := by decide +kernel
theorem dX3_frozen_30 : decode cX3_frozen 30 = .ok (.invokevirtual 73, 3) := by decide +kernel
theorem dX3_frozen_33 : decode cX3_frozen 33 = .ok (.istore_n 2, 1) := by decide +kernel
theorem dX3_frozen_34 : decode cX3_frozen 34 = .ok (.goto (-32), 3) := by decide +kernel
theorem dX3_frozen_37 : decode cX3_frozen 37 = .ok (.aload_n 0, 1) := by decide +kernel
theorem dX3_frozen_38 : decode cX3_frozen 38 = .ok (.getfield 48, 3) := by decide +kernel
theorem dX3_frozen_41 : decode cX3_frozen 41 = .ok (.iconst (-1), 1) := by decide +kernel
theorem dX3_frozen_42 : decode cX3_frozen 42 = .ok (.if_icmp .eq 15, 3) := by decide +kernel
theorem dX3_frozen_45 : decode cX3_frozen 45 = .ok (.iload_n 2, 1) := by decide +kernel
theorem dX3_frozen_46 : decode cX3_frozen 46 = .ok (.aload_n 0, 1) := by decide +kernel
theorem dX3_frozen_47 : decode cX3_frozen 47 = .ok (.getfield 48, 3) := by decide +kernel
theorem dX3_frozen_50 : decode cX3_frozen 50 = .ok (.if_icmp .ne 7, 3) := by decide +kernel
theorem dX3_frozen_53 : decode cX3_frozen 53 = .ok (.iconst 1, 1) := by decide +kernel
theorem dX3_frozen_54 : decode cX3_frozen 54 = .ok (.goto 4, 3) := by decide +kernel
theorem dX3_frozen_57 : decode cX3_frozen 57 = .ok (.iconst 0, 1) := by decide +kernel
theorem dX3_frozen_58 : decode cX3_frozen 58 = .ok (.ireturn, 1) := by decide +kernel
theorem dX3_isFrozenName_0 : decode cX3_isFrozenName 0 = .ok (.aload_n 0, 1) := by decide +kernel
theorem dX3_isFrozenName_1 : decode cX3_isFrozenName 1 = .ok (.aload_n 0, 1) := by decide +kernel
theorem dX3_isFrozenName_2 : decode cX3_isFrozenName 2 = .ok (.iload_n 1, 1) := by decide +kernel
theorem dX3_isFrozenName_3 : decode cX3_isFrozenName 3 = .ok (.iload_n 2, 1) := by decide +kernel
theorem dX3_isFrozenName_4 : decode cX3_isFrozenName 4 = .ok (.invokevirtual 70, 3) := by decide +kernel
theorem dX3_isFrozenName_7 : decode cX3_isFrozenName 7 = .ok (.invokevirtual 76, 3) := by decide +kernel
theorem dX3_isFrozenName_10 : decode cX3_isFrozenName 10 = .ok (.ireturn, 1) := by decide +kernel
theorem dX3_runs_0 : decode cX3_runs 0 = .ok (.aload_n 0, 1) := by decide +kernel
theorem dX3_runs_1 : decode cX3_runs 1 = .ok (.getfield 39, 3) := by decide +kernel
theorem dX3_runs_4 : decode cX3_runs 4 = .ok (.sipush 600, 3) := by decide +kernel
theorem dX3_runs_7 : decode cX3_runs 7 = .ok (.iload_n 1, 1) := by decide +kernel
theorem dX3_runs_8 : decode cX3_runs 8 = .ok (.imul, 1) := by decide +kernel
theorem dX3_runs_9 : decode cX3_runs 9 = .ok (.iload_n 2, 1) := by decide +kernel
theorem dX3_runs_10 : decode cX3_runs 10 = .ok (.iadd, 1) := by decide +kernel
theorem dX3_runs_11 : decode cX3_runs 11 = .ok (.iaload, 1) := by decide +kernel
theorem dX3_runs_12 : decode cX3_runs 12 = .ok (.aload_n 0, 1) := by decide +kernel
theorem dX3_runs_13 : decode cX3_runs 13 = .ok (.getfield 80, 3) := by decide +kernel
theorem dX3_runs_16 : decode cX3_runs 16 = .ok (.if_icmp .le 7, 3) := by decide +kernel
theorem dX3_runs_19 : decode cX3_runs 19 = .ok (.iconst 1, 1) := by decide +kernel
theorem dX3_runs_20 : decode cX3_runs 20 = .ok (.goto 4, 3) := by decide +kernel
theorem dX3_runs_23 : decode cX3_runs 23 = .ok (.iconst 0, 1) := by decide +kernel
theorem dX3_runs_24 : decode cX3_runs 24 = .ok (.ireturn, 1) := by decide +kernel
theorem dX3_ends_0 : decode cX3_ends 0 = .ok (.iconst 0, 1) := by decide +kernel
theorem dX3_ends_1 : decode cX3_ends 1 = .ok (.istore_n 3, 1) := by decide +kernel
theorem dX3_ends_2 : decode cX3_ends 2 = .ok (.iload_n 3, 1) := by decide +kernel
theorem dX3_ends_3 : decode cX3_ends 3 = .ok (.iconst 4, 1) := by decide +kernel
theorem dX3_ends_4 : decode cX3_ends 4 = .ok (.if_icmp .ge 50, 3) := by decide +kernel
theorem dX3_ends_7 : decode cX3_ends 7 = .ok (.aload_n 0, 1) := by decide +kernel
theorem dX3_ends_8 : decode cX3_ends 8 = .ok (.getfield 42, 3) := by decide +kernel
theorem dX3_ends_11 : decode cX3_ends 11 = .ok (.iload_n 3, 1) := by decide +kernel
theorem dX3_ends_12 : decode cX3_ends 12 = .ok (.dup2, 1) := by decide +kernel
theorem dX3_ends_13 : decode cX3_ends 13 = .ok (.iaload, 1) := by decide +kernel
theorem dX3_ends_14 : decode cX3_ends 14 = .ok (.iload_n 3, 1) := by decide +kernel
theorem dX3_ends_15 : decode cX3_ends 15 = .ok (.iload_n 2, 1) := by decide +kernel
theorem dX3_ends_16 : decode cX3_ends 16 = .ok (.if_icmp .eq 16, 3) := by decide +kernel
theorem dX3_ends_19 : decode cX3_ends 19 = .ok (.aload_n 0, 1) := by decide +kernel
theorem dX3_ends_20 : decode cX3_ends 20 = .ok (.iload_n 3, 1) := by decide +kernel
theorem dX3_ends_21 : decode cX3_ends 21 = .ok (.iload_n 1, 1) := by decide +kernel
theorem dX3_ends_22 : decode cX3_ends 22 = .ok (.invokevirtual 83, 3) := by decide +kernel
theorem dX3_ends_25 : decode cX3_ends 25 = .ok (.ifCond .eq 7, 3) := by decide +kernel
theorem dX3_ends_28 : decode cX3_ends 28 = .ok (.iconst 1, 1) := by decide +kernel
theorem dX3_ends_29 : decode cX3_ends 29 = .ok (.goto 4, 3) := by decide +kernel
theorem dX3_ends_32 : decode cX3_ends 32 = .ok (.iconst 0, 1) := by decide +kernel
theorem dX3_ends_33 : decode cX3_ends 33 = .ok (.iadd, 1) := by decide +kernel
theorem dX3_ends_34 : decode cX3_ends 34 = .ok (.iastore, 1) := by decide +kernel
theorem dX3_ends_35 : decode cX3_ends 35 = .ok (.aload_n 0, 1) := by decide +kernel
theorem dX3_ends_36 : decode cX3_ends 36 = .ok (.getfield 39, 3) := by decide +kernel
theorem dX3_ends_39 : decode cX3_ends 39 = .ok (.sipush 600, 3) := by decide +kernel
theorem dX3_ends_42 : decode cX3_ends 42 = .ok (.iload_n 3, 1) := by decide +kernel
theorem dX3_ends_43 : decode cX3_ends 43 = .ok (.imul, 1) := by decide +kernel
theorem dX3_ends_44 : decode cX3_ends 44 = .ok (.iload_n 1, 1) := by decide +kernel
theorem dX3_ends_45 : decode cX3_ends 45 = .ok (.iadd, 1) := by decide +kernel
theorem dX3_ends_46 : decode cX3_ends 46 = .ok (.iconst 0, 1) := by decide +kernel
theorem dX3_ends_47 : decode cX3_ends 47 = .ok (.iastore, 1) := by decide +kernel
theorem dX3_ends_48 : decode cX3_ends 48 = .ok (.iinc 3 1, 3) := by decide +kernel
theorem dX3_ends_51 : decode cX3_ends 51 = .ok (.goto (-49), 3) := by decide +kernel
theorem dX3_ends_54 : decode cX3_ends 54 = .ok (.return_, 1) := by decide +kernel
theorem dX3_changes_0 : decode cX3_changes 0 = .ok (.aload_n 0, 1) := by decide +kernel
theorem dX3_changes_1 : decode cX3_changes 1 = .ok (.getfield 36, 3) := by decide +kernel
theorem dX3_changes_4 : decode cX3_changes 4 = .ok (.aload_n 0, 1) := by decide +kernel
theorem dX3_changes_5 : decode cX3_changes 5 = .ok (.iload_n 2, 1) := by decide +kernel
theorem dX3_changes_6 : decode cX3_changes 6 = .ok (.iload_n 3, 1) := by decide +kernel
theorem dX3_changes_7 : decode cX3_changes 7 = .ok (.invokevirtual 70, 3) := by decide +kernel
theorem dX3_changes_10 : decode cX3_changes 10 = .ok (.dup2, 1) := by decide +kernel
theorem dX3_changes_11 : decode cX3_changes 11 = .ok (.iaload, 1) := by decide +kernel
theorem dX3_changes_12 : decode cX3_changes 12 = .ok (.iconst 1, 1) := by decide +kernel
theorem dX3_changes_13 : decode cX3_changes 13 = .ok (.iadd, 1) := by decide +kernel
theorem dX3_changes_14 : decode cX3_changes 14 = .ok (.iastore, 1) := by decide +kernel
theorem dX3_changes_15 : decode cX3_changes 15 = .ok (.aload_n 0, 1) := by decide +kernel
theorem dX3_changes_16 : decode cX3_changes 16 = .ok (.iload_n 2, 1) := by decide +kernel
theorem dX3_changes_17 : decode cX3_changes 17 = .ok (.iload_n 3, 1) := by decide +kernel
theorem dX3_changes_18 : decode cX3_changes 18 = .ok (.invokestatic 87, 3) := by decide +kernel
theorem dX3_changes_21 : decode cX3_changes 21 = .ok (.iload_n 1, 1) := by decide +kernel
theorem dX3_changes_22 : decode cX3_changes 22 = .ok (.invokevirtual 90, 3) := by decide +kernel
theorem dX3_changes_25 : decode cX3_changes 25 = .ok (.return_, 1) := by decide +kernel
theorem dX3_barsName_0 : decode cX3_barsName 0 = .ok (.iload_n 1, 1) := by decide +kernel
theorem dX3_barsName_1 : decode cX3_barsName 1 = .ok (.invokestatic 93, 3) := by decide +kernel
theorem dX3_barsName_4 : decode cX3_barsName 4 = .ok (.ifCond .eq 10, 3) := by decide +kernel
theorem dX3_barsName_7 : decode cX3_barsName 7 = .ok (.iload_n 3, 1) := by decide +kernel
theorem dX3_barsName_8 : decode cX3_barsName 8 = .ok (.invokestatic 96, 3) := by decide +kernel
theorem dX3_barsName_11 : decode cX3_barsName 11 = .ok (.ifCond .ne 7, 3) := by decide +kernel
theorem dX3_barsName_14 : decode cX3_barsName 14 = .ok (.iconst 1, 1) := by decide +kernel
theorem dX3_barsName_15 : decode cX3_barsName 15 = .ok (.goto 16, 3) := by decide +kernel
theorem dX3_barsName_18 : decode cX3_barsName 18 = .ok (.aload_n 0, 1) := by decide +kernel
theorem dX3_barsName_19 : decode cX3_barsName 19 = .ok (.iload_n 2, 1) := by decide +kernel
theorem dX3_barsName_20 : decode cX3_barsName 20 = .ok (.invokevirtual 99, 3) := by decide +kernel
theorem dX3_barsName_23 : decode cX3_barsName 23 = .ok (.ifCond .eq 7, 3) := by decide +kernel
theorem dX3_barsName_26 : decode cX3_barsName 26 = .ok (.iconst 0, 1) := by decide +kernel
theorem dX3_barsName_27 : decode cX3_barsName 27 = .ok (.goto 4, 3) := by decide +kernel
theorem dX3_barsName_30 : decode cX3_barsName 30 = .ok (.iconst 2, 1) := by decide +kernel
theorem dX3_barsName_31 : decode cX3_barsName 31 = .ok (.ireturn, 1) := by decide +kernel
theorem dX3_lookup_0 : decode cX3_lookup 0 = .ok (.aload_n 0, 1) := by decide +kernel
theorem dX3_lookup_1 : decode cX3_lookup 1 = .ok (.aload_n 0, 1) := by decide +kernel
theorem dX3_lookup_2 : decode cX3_lookup 2 = .ok (.iload_n 1, 1) := by decide +kernel
theorem dX3_lookup_3 : decode cX3_lookup 3 = .ok (.iload_n 2, 1) := by decide +kernel
theorem dX3_lookup_4 : decode cX3_lookup 4 = .ok (.iload_n 3, 1) := by decide +kernel
theorem dX3_lookup_5 : decode cX3_lookup 5 = .ok (.invokevirtual 102, 3) := by decide +kernel
theorem dX3_lookup_8 : decode cX3_lookup 8 = .ok (.putfield 55, 3) := by decide +kernel
theorem dX3_lookup_11 : decode cX3_lookup 11 = .ok (.aload_n 0, 1) := by decide +kernel
theorem dX3_lookup_12 : decode cX3_lookup 12 = .ok (.getfield 55, 3) := by decide +kernel
theorem dX3_lookup_15 : decode cX3_lookup 15 = .ok (.ifCond .le 5, 3) := by decide +kernel
theorem dX3_lookup_18 : decode cX3_lookup 18 = .ok (.iconst 0, 1) := by decide +kernel
theorem dX3_lookup_19 : decode cX3_lookup 19 = .ok (.ireturn, 1) := by decide +kernel
theorem dX3_lookup_20 : decode cX3_lookup 20 = .ok (.iload_n 2, 1) := by decide +kernel
theorem dX3_lookup_21 : decode cX3_lookup 21 = .ok (.iload_n 3, 1) := by decide +kernel
theorem dX3_lookup_22 : decode cX3_lookup 22 = .ok (.invokestatic 87, 3) := by decide +kernel
theorem dX3_lookup_25 : decode cX3_lookup 25 = .ok (.istore 4, 2) := by decide +kernel
theorem dX3_lookup_27 : decode cX3_lookup 27 = .ok (.aload_n 0, 1) := by decide +kernel
theorem dX3_lookup_28 : decode cX3_lookup 28 = .ok (.iload_n 1, 1) := by decide +kernel
theorem dX3_lookup_29 : decode cX3_lookup 29 = .ok (.iload 4, 2) := by decide +kernel
theorem dX3_lookup_31 : decode cX3_lookup 31 = .ok (.invokevirtual 83, 3) := by decide +kernel
theorem dX3_lookup_34 : decode cX3_lookup 34 = .ok (.ifCond .eq 16, 3) := by decide +kernel
theorem dX3_lookup_37 : decode cX3_lookup 37 = .ok (.aload_n 0, 1) := by decide +kernel
theorem dX3_lookup_38 : decode cX3_lookup 38 = .ok (.getfield 45, 3) := by decide +kernel
theorem dX3_lookup_41 : decode cX3_lookup 41 = .ok (.iload_n 1, 1) := by decide +kernel
theorem dX3_lookup_42 : decode cX3_lookup 42 = .ok (.dup2, 1) := by decide +kernel
theorem dX3_lookup_43 : decode cX3_lookup 43 = .ok (.iaload, 1) := by decide +kernel
theorem dX3_lookup_44 : decode cX3_lookup 44 = .ok (.iconst 1, 1) := by decide +kernel
theorem dX3_lookup_45 : decode cX3_lookup 45 = .ok (.iadd, 1) := by decide +kernel
theorem dX3_lookup_46 : decode cX3_lookup 46 = .ok (.iastore, 1) := by decide +kernel
theorem dX3_lookup_47 : decode cX3_lookup 47 = .ok (.goto 38, 3) := by decide +kernel
theorem dX3_lookup_50 : decode cX3_lookup 50 = .ok (.aload_n 0, 1) := by decide +kernel
theorem dX3_lookup_51 : decode cX3_lookup 51 = .ok (.getfield 36, 3) := by decide +kernel
theorem dX3_lookup_54 : decode cX3_lookup 54 = .ok (.aload_n 0, 1) := by decide +kernel
theorem dX3_lookup_55 : decode cX3_lookup 55 = .ok (.iload_n 2, 1) := by decide +kernel
theorem dX3_lookup_56 : decode cX3_lookup 56 = .ok (.iload_n 3, 1) := by decide +kernel
theorem dX3_lookup_57 : decode cX3_lookup 57 = .ok (.invokevirtual 70, 3) := by decide +kernel
theorem dX3_lookup_60 : decode cX3_lookup 60 = .ok (.dup2, 1) := by decide +kernel
theorem dX3_lookup_61 : decode cX3_lookup 61 = .ok (.iaload, 1) := by decide +kernel
theorem dX3_lookup_62 : decode cX3_lookup 62 = .ok (.iconst 1, 1) := by decide +kernel
theorem dX3_lookup_63 : decode cX3_lookup 63 = .ok (.iadd, 1) := by decide +kernel
theorem dX3_lookup_64 : decode cX3_lookup 64 = .ok (.iastore, 1) := by decide +kernel
theorem dX3_lookup_65 : decode cX3_lookup 65 = .ok (.aload_n 0, 1) := by decide +kernel
theorem dX3_lookup_66 : decode cX3_lookup 66 = .ok (.getfield 39, 3) := by decide +kernel
theorem dX3_lookup_69 : decode cX3_lookup 69 = .ok (.sipush 600, 3) := by decide +kernel
theorem dX3_lookup_72 : decode cX3_lookup 72 = .ok (.iload_n 1, 1) := by decide +kernel
theorem dX3_lookup_73 : decode cX3_lookup 73 = .ok (.imul, 1) := by decide +kernel
theorem dX3_lookup_74 : decode cX3_lookup 74 = .ok (.iload 4, 2) := by decide +kernel
theorem dX3_lookup_76 : decode cX3_lookup 76 = .ok (.iadd, 1) := by decide +kernel
theorem dX3_lookup_77 : decode cX3_lookup 77 = .ok (.aload_n 0, 1) := by decide +kernel
theorem dX3_lookup_78 : decode cX3_lookup 78 = .ok (.getfield 80, 3) := by decide +kernel
theorem dX3_lookup_81 : decode cX3_lookup 81 = .ok (.bipush 10, 2) := by decide +kernel
theorem dX3_lookup_83 : decode cX3_lookup 83 = .ok (.iadd, 1) := by decide +kernel
theorem dX3_lookup_84 : decode cX3_lookup 84 = .ok (.iastore, 1) := by decide +kernel
theorem dX3_lookup_85 : decode cX3_lookup 85 = .ok (.aload_n 0, 1) := by decide +kernel
theorem dX3_lookup_86 : decode cX3_lookup 86 = .ok (.getfield 24, 3) := by decide +kernel
theorem dX3_lookup_89 : decode cX3_lookup 89 = .ok (.iload 4, 2) := by decide +kernel
theorem dX3_lookup_91 : decode cX3_lookup 91 = .ok (.iaload, 1) := by decide +kernel
theorem dX3_lookup_92 : decode cX3_lookup 92 = .ok (.ireturn, 1) := by decide +kernel
theorem dX3_barsNew_0 : decode cX3_barsNew 0 = .ok (.aload_n 0, 1) := by decide +kernel
theorem dX3_barsNew_1 : decode cX3_barsNew 1 = .ok (.iload_n 1, 1) := by decide +kernel
theorem dX3_barsNew_2 : decode cX3_barsNew 2 = .ok (.iload_n 2, 1) := by decide +kernel
theorem dX3_barsNew_3 : decode cX3_barsNew 3 = .ok (.iload_n 3, 1) := by decide +kernel
theorem dX3_barsNew_4 : decode cX3_barsNew 4 = .ok (.invokevirtual 102, 3) := by decide +kernel
theorem dX3_barsNew_7 : decode cX3_barsNew 7 = .ok (.istore 4, 2) := by decide +kernel
theorem dX3_barsNew_9 : decode cX3_barsNew 9 = .ok (.iload 4, 2) := by decide +kernel
theorem dX3_barsNew_11 : decode cX3_barsNew 11 = .ok (.ifCond .le 8, 3) := by decide +kernel
theorem dX3_barsNew_14 : decode cX3_barsNew 14 = .ok (.iload 4, 2) := by decide +kernel
theorem dX3_barsNew_16 : decode cX3_barsNew 16 = .ok (.goto 31, 3) := by decide +kernel
theorem dX3_barsNew_19 : decode cX3_barsNew 19 = .ok (.aload_n 0, 1) := by decide +kernel
theorem dX3_barsNew_20 : decode cX3_barsNew 20 = .ok (.getfield 24, 3) := by decide +kernel
theorem dX3_barsNew_23 : decode cX3_barsNew 23 = .ok (.iload_n 2, 1) := by decide +kernel
theorem dX3_barsNew_24 : decode cX3_barsNew 24 = .ok (.iload_n 3, 1) := by decide +kernel
theorem dX3_barsNew_25 : decode cX3_barsNew 25 = .ok (.invokestatic 87, 3) := by decide +kernel
theorem dX3_barsNew_28 : decode cX3_barsNew 28 = .ok (.iaload, 1) := by decide +kernel
theorem dX3_barsNew_29 : decode cX3_barsNew 29 = .ok (.iconst (-1), 1) := by decide +kernel
theorem dX3_barsNew_30 : decode cX3_barsNew 30 = .ok (.if_icmp .ne 12, 3) := by decide +kernel
theorem dX3_barsNew_33 : decode cX3_barsNew 33 = .ok (.aload_n 0, 1) := by decide +kernel
theorem dX3_barsNew_34 : decode cX3_barsNew 34 = .ok (.iload_n 2, 1) := by decide +kernel
theorem dX3_barsNew_35 : decode cX3_barsNew 35 = .ok (.iload_n 3, 1) := by decide +kernel
theorem dX3_barsNew_36 : decode cX3_barsNew 36 = .ok (.invokevirtual 106, 3) := by decide +kernel
theorem dX3_barsNew_39 : decode cX3_barsNew 39 = .ok (.ifCond .eq 7, 3) := by decide +kernel
theorem dX3_barsNew_42 : decode cX3_barsNew 42 = .ok (.iconst 3, 1) := by decide +kernel
theorem dX3_barsNew_43 : decode cX3_barsNew 43 = .ok (.goto 4, 3) := by decide +kernel
theorem dX3_barsNew_46 : decode cX3_barsNew 46 = .ok (.iconst 0, 1) := by decide +kernel
theorem dX3_barsNew_47 : decode cX3_barsNew 47 = .ok (.ireturn, 1) := by decide +kernel
theorem dX3_makeDirectory_0 : decode cX3_makeDirectory 0 = .ok (.aload_n 0, 1) := by decide +kernel
theorem dX3_makeDirectory_1 : decode cX3_makeDirectory 1 = .ok (.aload_n 0, 1) := by decide +kernel
theorem dX3_makeDirectory_2 : decode cX3_makeDirectory 2 = .ok (.iload_n 1, 1) := by decide +kernel
theorem dX3_makeDirectory_3 : decode cX3_makeDirectory 3 = .ok (.iload_n 2, 1) := by decide +kernel
theorem dX3_makeDirectory_4 : decode cX3_makeDirectory 4 = .ok (.iload_n 3, 1) := by decide +kernel
theorem dX3_makeDirectory_5 : decode cX3_makeDirectory 5 = .ok (.invokevirtual 109, 3) := by decide +kernel
theorem dX3_makeDirectory_8 : decode cX3_makeDirectory 8 = .ok (.putfield 55, 3) := by decide +kernel
theorem dX3_makeDirectory_11 : decode cX3_makeDirectory 11 = .ok (.aload_n 0, 1) := by decide +kernel
theorem dX3_makeDirectory_12 : decode cX3_makeDirectory 12 = .ok (.aload_n 0, 1) := by decide +kernel
theorem dX3_makeDirectory_13 : decode cX3_makeDirectory 13 = .ok (.getfield 55, 3) := by decide +kernel
theorem dX3_makeDirectory_16 : decode cX3_makeDirectory 16 = .ok (.ifCond .ne 16, 3) := by decide +kernel
theorem dX3_makeDirectory_19 : decode cX3_makeDirectory 19 = .ok (.aload_n 0, 1) := by decide +kernel
theorem dX3_makeDirectory_20 : decode cX3_makeDirectory 20 = .ok (.getfield 7, 3) := by decide +kernel
theorem dX3_makeDirectory_23 : decode cX3_makeDirectory 23 = .ok (.bipush 12, 2) := by decide +kernel
theorem dX3_makeDirectory_25 : decode cX3_makeDirectory 25 = .ok (.if_icmp .ne 7, 3) := by decide +kernel
theorem dX3_makeDirectory_28 : decode cX3_makeDirectory 28 = .ok (.iconst 3, 1) := by decide +kernel
theorem dX3_makeDirectory_29 : decode cX3_makeDirectory 29 = .ok (.goto 7, 3) := by decide +kernel
theorem dX3_makeDirectory_32 : decode cX3_makeDirectory 32 = .ok (.aload_n 0, 1) := by decide +kernel
theorem dX3_makeDirectory_33 : decode cX3_makeDirectory 33 = .ok (.getfield 55, 3) := by decide +kernel
theorem dX3_makeDirectory_36 : decode cX3_makeDirectory 36 = .ok (.putfield 55, 3) := by decide +kernel
theorem dX3_makeDirectory_39 : decode cX3_makeDirectory 39 = .ok (.aload_n 0, 1) := by decide +kernel
theorem dX3_makeDirectory_40 : decode cX3_makeDirectory 40 = .ok (.getfield 55, 3) := by decide +kernel
theorem dX3_makeDirectory_43 : decode cX3_makeDirectory 43 = .ok (.ifCond .le 5, 3) := by decide +kernel
theorem dX3_makeDirectory_46 : decode cX3_makeDirectory 46 = .ok (.iconst 0, 1) := by decide +kernel
theorem dX3_makeDirectory_47 : decode cX3_makeDirectory 47 = .ok (.ireturn, 1) := by decide +kernel
theorem dX3_makeDirectory_48 : decode cX3_makeDirectory 48 = .ok (.aload_n 0, 1) := by decide +kernel
theorem dX3_makeDirectory_49 : decode cX3_makeDirectory 49 = .ok (.getfield 7, 3) := by decide +kernel
theorem dX3_makeDirectory_52 : decode cX3_makeDirectory 52 = .ok (.istore 4, 2) := by decide +kernel
theorem dX3_makeDirectory_54 : decode cX3_makeDirectory 54 = .ok (.aload_n 0, 1) := by decide +kernel
theorem dX3_makeDirectory_55 : decode cX3_makeDirectory 55 = .ok (.dup, 1) := by decide +kernel
theorem dX3_makeDirectory_56 : decode cX3_makeDirectory 56 = .ok (.getfield 7, 3) := by decide +kernel
theorem dX3_makeDirectory_59 : decode cX3_makeDirectory 59 = .ok (.iconst 1, 1) := by decide +kernel
theorem dX3_makeDirectory_60 : decode cX3_makeDirectory 60 = .ok (.iadd, 1) := by decide +kernel
theorem dX3_makeDirectory_61 : decode cX3_makeDirectory 61 = .ok (.putfield 7, 3) := by decide +kernel
theorem dX3_makeDirectory_64 : decode cX3_makeDirectory 64 = .ok (.aload_n 0, 1) := by decide +kernel
theorem dX3_makeDirectory_65 : decode cX3_makeDirectory 65 = .ok (.iload_n 1, 1) := by decide +kernel
theorem dX3_makeDirectory_66 : decode cX3_makeDirectory 66 = .ok (.iload_n 2, 1) := by decide +kernel
theorem dX3_makeDirectory_67 : decode cX3_makeDirectory 67 = .ok (.iload_n 3, 1) := by decide +kernel
theorem dX3_makeDirectory_68 : decode cX3_makeDirectory 68 = .ok (.invokevirtual 112, 3) := by decide +kernel
theorem dX3_makeDirectory_71 : decode cX3_makeDirectory 71 = .ok (.aload_n 0, 1) := by decide +kernel
theorem dX3_makeDirectory_72 : decode cX3_makeDirectory 72 = .ok (.getfield 24, 3) := by decide +kernel
theorem dX3_makeDirectory_75 : decode cX3_makeDirectory 75 = .ok (.iload_n 2, 1) := by decide +kernel
theorem dX3_makeDirectory_76 : decode cX3_makeDirectory 76 = .ok (.iload_n 3, 1) := by decide +kernel
theorem dX3_makeDirectory_77 : decode cX3_makeDirectory 77 = .ok (.invokestatic 87, 3) := by decide +kernel
theorem dX3_makeDirectory_80 : decode cX3_makeDirectory 80 = .ok (.bipush (-2), 2) := by decide +kernel
theorem dX3_makeDirectory_82 : decode cX3_makeDirectory 82 = .ok (.iload 4, 2) := by decide +kernel
theorem dX3_makeDirectory_84 : decode cX3_makeDirectory 84 = .ok (.isub, 1) := by decide +kernel
theorem dX3_makeDirectory_85 : decode cX3_makeDirectory 85 = .ok (.iastore, 1) := by decide +kernel
theorem dX3_makeDirectory_86 : decode cX3_makeDirectory 86 = .ok (.aload_n 0, 1) := by decide +kernel
theorem dX3_makeDirectory_87 : decode cX3_makeDirectory 87 = .ok (.getfield 17, 3) := by decide +kernel
theorem dX3_makeDirectory_90 : decode cX3_makeDirectory 90 = .ok (.iload 4, 2) := by decide +kernel
theorem dX3_makeDirectory_92 : decode cX3_makeDirectory 92 = .ok (.iload_n 2, 1) := by decide +kernel
theorem dX3_makeDirectory_93 : decode cX3_makeDirectory 93 = .ok (.iastore, 1) := by decide +kernel
theorem dX3_makeDirectory_94 : decode cX3_makeDirectory 94 = .ok (.aload_n 0, 1) := by decide +kernel
theorem dX3_makeDirectory_95 : decode cX3_makeDirectory 95 = .ok (.getfield 21, 3) := by decide +kernel
theorem dX3_makeDirectory_98 : decode cX3_makeDirectory 98 = .ok (.iload 4, 2) := by decide +kernel
theorem dX3_makeDirectory_100 : decode cX3_makeDirectory 100 = .ok (.iload_n 3, 1) := by decide +kernel
theorem dX3_makeDirectory_101 : decode cX3_makeDirectory 101 = .ok (.iastore, 1) := by decide +kernel
theorem dX3_makeDirectory_102 : decode cX3_makeDirectory 102 = .ok (.aload_n 0, 1) := by decide +kernel
theorem dX3_makeDirectory_103 : decode cX3_makeDirectory 103 = .ok (.iload 4, 2) := by decide +kernel
theorem dX3_makeDirectory_105 : decode cX3_makeDirectory 105 = .ok (.iconst (-1), 1) := by decide +kernel
theorem dX3_makeDirectory_106 : decode cX3_makeDirectory 106 = .ok (.invokevirtual 51, 3) := by decide +kernel
theorem dX3_makeDirectory_109 : decode cX3_makeDirectory 109 = .ok (.iload 4, 2) := by decide +kernel
theorem dX3_makeDirectory_111 : decode cX3_makeDirectory 111 = .ok (.ireturn, 1) := by decide +kernel
theorem dX3_links_0 : decode cX3_links 0 = .ok (.aload_n 0, 1) := by decide +kernel
theorem dX3_links_1 : decode cX3_links 1 = .ok (.getfield 24, 3) := by decide +kernel
theorem dX3_links_4 : decode cX3_links 4 = .ok (.iload_n 1, 1) := by decide +kernel
theorem dX3_links_5 : decode cX3_links 5 = .ok (.iload_n 2, 1) := by decide +kernel
theorem dX3_links_6 : decode cX3_links 6 = .ok (.iastore, 1) := by decide +kernel
theorem dX3_links_7 : decode cX3_links 7 = .ok (.aload_n 0, 1) := by decide +kernel
theorem dX3_links_8 : decode cX3_links 8 = .ok (.getfield 27, 3) := by decide +kernel
theorem dX3_links_11 : decode cX3_links 11 = .ok (.iload_n 1, 1) := by decide +kernel
theorem dX3_links_12 : decode cX3_links 12 = .ok (.aload_n 0, 1) := by decide +kernel
theorem dX3_links_13 : decode cX3_links 13 = .ok (.getfield 116, 3) := by decide +kernel
theorem dX3_links_16 : decode cX3_links 16 = .ok (.iastore, 1) := by decide +kernel
theorem dX3_links_17 : decode cX3_links 17 = .ok (.aload_n 0, 1) := by decide +kernel
theorem dX3_links_18 : decode cX3_links 18 = .ok (.dup, 1) := by decide +kernel
theorem dX3_links_19 : decode cX3_links 19 = .ok (.getfield 116, 3) := by decide +kernel
theorem dX3_links_22 : decode cX3_links 22 = .ok (.iconst 1, 1) := by decide +kernel
theorem dX3_links_23 : decode cX3_links 23 = .ok (.iadd, 1) := by decide +kernel
theorem dX3_links_24 : decode cX3_links 24 = .ok (.putfield 116, 3) := by decide +kernel
theorem dX3_links_27 : decode cX3_links 27 = .ok (.return_, 1) := by decide +kernel
theorem dX3_makeFile_0 : decode cX3_makeFile 0 = .ok (.aload_n 0, 1) := by decide +kernel
theorem dX3_makeFile_1 : decode cX3_makeFile 1 = .ok (.aload_n 0, 1) := by decide +kernel
theorem dX3_makeFile_2 : decode cX3_makeFile 2 = .ok (.iload_n 1, 1) := by decide +kernel
theorem dX3_makeFile_3 : decode cX3_makeFile 3 = .ok (.iload_n 2, 1) := by decide +kernel
theorem dX3_makeFile_4 : decode cX3_makeFile 4 = .ok (.iload_n 3, 1) := by decide +kernel
theorem dX3_makeFile_5 : decode cX3_makeFile 5 = .ok (.invokevirtual 109, 3) := by decide +kernel
theorem dX3_makeFile_8 : decode cX3_makeFile 8 = .ok (.putfield 55, 3) := by decide +kernel
theorem dX3_makeFile_11 : decode cX3_makeFile 11 = .ok (.aload_n 0, 1) := by decide +kernel
theorem dX3_makeFile_12 : decode cX3_makeFile 12 = .ok (.aload_n 0, 1) := by decide +kernel
theorem dX3_makeFile_13 : decode cX3_makeFile 13 = .ok (.getfield 55, 3) := by decide +kernel
theorem dX3_makeFile_16 : decode cX3_makeFile 16 = .ok (.ifCond .ne 16, 3) := by decide +kernel
theorem dX3_makeFile_19 : decode cX3_makeFile 19 = .ok (.aload_n 0, 1) := by decide +kernel
theorem dX3_makeFile_20 : decode cX3_makeFile 20 = .ok (.getfield 119, 3) := by decide +kernel
theorem dX3_makeFile_23 : decode cX3_makeFile 23 = .ok (.bipush 30, 2) := by decide +kernel
theorem dX3_makeFile_25 : decode cX3_makeFile 25 = .ok (.if_icmp .ne 7, 3) := by decide +kernel
theorem dX3_makeFile_28 : decode cX3_makeFile 28 = .ok (.iconst 3, 1) := by decide +kernel
theorem dX3_makeFile_29 : decode cX3_makeFile 29 = .ok (.goto 7, 3) := by decide +kernel
theorem dX3_makeFile_32 : decode cX3_makeFile 32 = .ok (.aload_n 0, 1) := by decide +kernel
theorem dX3_makeFile_33 : decode cX3_makeFile 33 = .ok (.getfield 55, 3) := by decide +kernel
theorem dX3_makeFile_36 : decode cX3_makeFile 36 = .ok (.putfield 55, 3) := by decide +kernel
theorem dX3_makeFile_39 : decode cX3_makeFile 39 = .ok (.aload_n 0, 1) := by decide +kernel
theorem dX3_makeFile_40 : decode cX3_makeFile 40 = .ok (.getfield 55, 3) := by decide +kernel
theorem dX3_makeFile_43 : decode cX3_makeFile 43 = .ok (.ifCond .le 5, 3) := by decide +kernel
theorem dX3_makeFile_46 : decode cX3_makeFile 46 = .ok (.iconst 0, 1) := by decide +kernel
theorem dX3_makeFile_47 : decode cX3_makeFile 47 = .ok (.ireturn, 1) := by decide +kernel
theorem dX3_makeFile_48 : decode cX3_makeFile 48 = .ok (.aload_n 0, 1) := by decide +kernel
theorem dX3_makeFile_49 : decode cX3_makeFile 49 = .ok (.iload_n 1, 1) := by decide +kernel
theorem dX3_makeFile_50 : decode cX3_makeFile 50 = .ok (.iload_n 2, 1) := by decide +kernel
theorem dX3_makeFile_51 : decode cX3_makeFile 51 = .ok (.iload_n 3, 1) := by decide +kernel
theorem dX3_makeFile_52 : decode cX3_makeFile 52 = .ok (.invokevirtual 112, 3) := by decide +kernel
theorem dX3_makeFile_55 : decode cX3_makeFile 55 = .ok (.aload_n 0, 1) := by decide +kernel
theorem dX3_makeFile_56 : decode cX3_makeFile 56 = .ok (.iload_n 2, 1) := by decide +kernel
theorem dX3_makeFile_57 : decode cX3_makeFile 57 = .ok (.iload_n 3, 1) := by decide +kernel
theorem dX3_makeFile_58 : decode cX3_makeFile 58 = .ok (.invokestatic 87, 3) := by decide +kernel
theorem dX3_makeFile_61 : decode cX3_makeFile 61 = .ok (.aload_n 0, 1) := by decide +kernel
theorem dX3_makeFile_62 : decode cX3_makeFile 62 = .ok (.getfield 119, 3) := by decide +kernel
theorem dX3_makeFile_65 : decode cX3_makeFile 65 = .ok (.invokevirtual 122, 3) := by decide +kernel
theorem dX3_makeFile_68 : decode cX3_makeFile 68 = .ok (.aload_n 0, 1) := by decide +kernel
theorem dX3_makeFile_69 : decode cX3_makeFile 69 = .ok (.dup, 1) := by decide +kernel
theorem dX3_makeFile_70 : decode cX3_makeFile 70 = .ok (.getfield 119, 3) := by decide +kernel
theorem dX3_makeFile_73 : decode cX3_makeFile 73 = .ok (.iconst 1, 1) := by decide +kernel
theorem dX3_makeFile_74 : decode cX3_makeFile 74 = .ok (.iadd, 1) := by decide +kernel
theorem dX3_makeFile_75 : decode cX3_makeFile 75 = .ok (.putfield 119, 3) := by decide +kernel
theorem dX3_makeFile_78 : decode cX3_makeFile 78 = .ok (.aload_n 0, 1) := by decide +kernel
theorem dX3_makeFile_79 : decode cX3_makeFile 79 = .ok (.getfield 119, 3) := by decide +kernel
theorem dX3_makeFile_82 : decode cX3_makeFile 82 = .ok (.iconst 1, 1) := by decide +kernel
theorem dX3_makeFile_83 : decode cX3_makeFile 83 = .ok (.isub, 1) := by decide +kernel
theorem dX3_makeFile_84 : decode cX3_makeFile 84 = .ok (.ireturn, 1) := by decide +kernel
theorem dX3_countLinks_0 : decode cX3_countLinks 0 = .ok (.iconst 0, 1) := by decide +kernel
theorem dX3_countLinks_1 : decode cX3_countLinks 1 = .ok (.istore_n 2, 1) := by decide +kernel
theorem dX3_countLinks_2 : decode cX3_countLinks 2 = .ok (.iconst 0, 1) := by decide +kernel
theorem dX3_countLinks_3 : decode cX3_countLinks 3 = .ok (.istore_n 3, 1) := by decide +kernel
theorem dX3_countLinks_4 : decode cX3_countLinks 4 = .ok (.iload_n 3, 1) := by decide +kernel
theorem dX3_countLinks_5 : decode cX3_countLinks 5 = .ok (.sipush 600, 3) := by decide +kernel
theorem dX3_countLinks_8 : decode cX3_countLinks 8 = .ok (.if_icmp .ge 27, 3) := by decide +kernel
theorem dX3_countLinks_11 : decode cX3_countLinks 11 = .ok (.iload_n 2, 1) := by decide +kernel
theorem dX3_countLinks_12 : decode cX3_countLinks 12 = .ok (.aload_n 0, 1) := by decide +kernel
theorem dX3_countLinks_13 : decode cX3_countLinks 13 = .ok (.getfield 24, 3) := by decide +kernel
theorem dX3_countLinks_16 : decode cX3_countLinks 16 = .ok (.iload_n 3, 1) := by decide +kernel
theorem dX3_countLinks_17 : decode cX3_countLinks 17 = .ok (.iaload, 1) := by decide +kernel
theorem dX3_countLinks_18 : decode cX3_countLinks 18 = .ok (.iload_n 1, 1) := by decide +kernel
theorem dX3_countLinks_19 : decode cX3_countLinks 19 = .ok (.if_icmp .ne 7, 3) := by decide +kernel
theorem dX3_countLinks_22 : decode cX3_countLinks 22 = .ok (.iconst 1, 1) := by decide +kernel
theorem dX3_countLinks_23 : decode cX3_countLinks 23 = .ok (.goto 4, 3) := by decide +kernel
theorem dX3_countLinks_26 : decode cX3_countLinks 26 = .ok (.iconst 0, 1) := by decide +kernel
theorem dX3_countLinks_27 : decode cX3_countLinks 27 = .ok (.iadd, 1) := by decide +kernel
theorem dX3_countLinks_28 : decode cX3_countLinks 28 = .ok (.istore_n 2, 1) := by decide +kernel
theorem dX3_countLinks_29 : decode cX3_countLinks 29 = .ok (.iinc 3 1, 3) := by decide +kernel
theorem dX3_countLinks_32 : decode cX3_countLinks 32 = .ok (.goto (-28), 3) := by decide +kernel
theorem dX3_countLinks_35 : decode cX3_countLinks 35 = .ok (.iload_n 2, 1) := by decide +kernel
theorem dX3_countLinks_36 : decode cX3_countLinks 36 = .ok (.ireturn, 1) := by decide +kernel
theorem dX3_isFile_0 : decode cX3_isFile 0 = .ok (.iload_n 1, 1) := by decide +kernel
theorem dX3_isFile_1 : decode cX3_isFile 1 = .ok (.iconst 0, 1) := by decide +kernel
theorem dX3_isFile_2 : decode cX3_isFile 2 = .ok (.aload_n 0, 1) := by decide +kernel
theorem dX3_isFile_3 : decode cX3_isFile 3 = .ok (.getfield 119, 3) := by decide +kernel
theorem dX3_isFile_6 : decode cX3_isFile 6 = .ok (.iconst 1, 1) := by decide +kernel
theorem dX3_isFile_7 : decode cX3_isFile 7 = .ok (.isub, 1) := by decide +kernel
theorem dX3_isFile_8 : decode cX3_isFile 8 = .ok (.invokestatic 58, 3) := by decide +kernel
theorem dX3_isFile_11 : decode cX3_isFile 11 = .ok (.ifCond .eq 15, 3) := by decide +kernel
theorem dX3_isFile_14 : decode cX3_isFile 14 = .ok (.aload_n 0, 1) := by decide +kernel
theorem dX3_isFile_15 : decode cX3_isFile 15 = .ok (.iload_n 1, 1) := by decide +kernel
theorem dX3_isFile_16 : decode cX3_isFile 16 = .ok (.invokevirtual 124, 3) := by decide +kernel
theorem dX3_isFile_19 : decode cX3_isFile 19 = .ok (.ifCond .le 7, 3) := by decide +kernel
theorem dX3_isFile_22 : decode cX3_isFile 22 = .ok (.iconst 1, 1) := by decide +kernel
theorem dX3_isFile_23 : decode cX3_isFile 23 = .ok (.goto 4, 3) := by decide +kernel
theorem dX3_isFile_26 : decode cX3_isFile 26 = .ok (.iconst 0, 1) := by decide +kernel
theorem dX3_isFile_27 : decode cX3_isFile 27 = .ok (.ireturn, 1) := by decide +kernel
theorem dX3_link_0 : decode cX3_link 0 = .ok (.aload_n 0, 1) := by decide +kernel
theorem dX3_link_1 : decode cX3_link 1 = .ok (.iload_n 1, 1) := by decide +kernel
theorem dX3_link_2 : decode cX3_link 2 = .ok (.iload_n 2, 1) := by decide +kernel
theorem dX3_link_3 : decode cX3_link 3 = .ok (.iload_n 3, 1) := by decide +kernel
theorem dX3_link_4 : decode cX3_link 4 = .ok (.invokevirtual 109, 3) := by decide +kernel
theorem dX3_link_7 : decode cX3_link 7 = .ok (.istore 5, 2) := by decide +kernel
theorem dX3_link_9 : decode cX3_link 9 = .ok (.aload_n 0, 1) := by decide +kernel
theorem dX3_link_10 : decode cX3_link 10 = .ok (.iload 5, 2) := by decide +kernel
theorem dX3_link_12 : decode cX3_link 12 = .ok (.iconst 1, 1) := by decide +kernel
theorem dX3_link_13 : decode cX3_link 13 = .ok (.if_icmp .ne 7, 3) := by decide +kernel
theorem dX3_link_16 : decode cX3_link 16 = .ok (.iconst 1, 1) := by decide +kernel
theorem dX3_link_17 : decode cX3_link 17 = .ok (.goto 24, 3) := by decide +kernel
theorem dX3_link_20 : decode cX3_link 20 = .ok (.iload 5, 2) := by decide +kernel
theorem dX3_link_22 : decode cX3_link 22 = .ok (.iconst 2, 1) := by decide +kernel
theorem dX3_link_23 : decode cX3_link 23 = .ok (.if_icmp .eq 12, 3) := by decide +kernel
theorem dX3_link_26 : decode cX3_link 26 = .ok (.aload_n 0, 1) := by decide +kernel
theorem dX3_link_27 : decode cX3_link 27 = .ok (.iload 4, 2) := by decide +kernel
theorem dX3_link_29 : decode cX3_link 29 = .ok (.invokevirtual 127, 3) := by decide +kernel
theorem dX3_link_32 : decode cX3_link 32 = .ok (.ifCond .ne 7, 3) := by decide +kernel
theorem dX3_link_35 : decode cX3_link 35 = .ok (.iconst 2, 1) := by decide +kernel
theorem dX3_link_36 : decode cX3_link 36 = .ok (.goto 5, 3) := by decide +kernel
theorem dX3_link_39 : decode cX3_link 39 = .ok (.iload 5, 2) := by decide +kernel
theorem dX3_link_41 : decode cX3_link 41 = .ok (.putfield 55, 3) := by decide +kernel
theorem dX3_link_44 : decode cX3_link 44 = .ok (.aload_n 0, 1) := by decide +kernel
theorem dX3_link_45 : decode cX3_link 45 = .ok (.getfield 55, 3) := by decide +kernel
theorem dX3_link_48 : decode cX3_link 48 = .ok (.ifCond .le 5, 3) := by decide +kernel
theorem dX3_link_51 : decode cX3_link 51 = .ok (.iconst 0, 1) := by decide +kernel
theorem dX3_link_52 : decode cX3_link 52 = .ok (.ireturn, 1) := by decide +kernel
theorem dX3_link_53 : decode cX3_link 53 = .ok (.aload_n 0, 1) := by decide +kernel
theorem dX3_link_54 : decode cX3_link 54 = .ok (.iload_n 1, 1) := by decide +kernel
theorem dX3_link_55 : decode cX3_link 55 = .ok (.iload_n 2, 1) := by decide +kernel
theorem dX3_link_56 : decode cX3_link 56 = .ok (.iload_n 3, 1) := by decide +kernel
theorem dX3_link_57 : decode cX3_link 57 = .ok (.invokevirtual 112, 3) := by decide +kernel
theorem dX3_link_60 : decode cX3_link 60 = .ok (.aload_n 0, 1) := by decide +kernel
theorem dX3_link_61 : decode cX3_link 61 = .ok (.iload_n 2, 1) := by decide +kernel
theorem dX3_link_62 : decode cX3_link 62 = .ok (.iload_n 3, 1) := by decide +kernel
theorem dX3_link_63 : decode cX3_link 63 = .ok (.invokestatic 87, 3) := by decide +kernel
theorem dX3_link_66 : decode cX3_link 66 = .ok (.iload 4, 2) := by decide +kernel
theorem dX3_link_68 : decode cX3_link 68 = .ok (.invokevirtual 122, 3) := by decide +kernel
theorem dX3_link_71 : decode cX3_link 71 = .ok (.aload_n 0, 1) := by decide +kernel
theorem dX3_link_72 : decode cX3_link 72 = .ok (.iload 4, 2) := by decide +kernel
theorem dX3_link_74 : decode cX3_link 74 = .ok (.invokevirtual 124, 3) := by decide +kernel
theorem dX3_link_77 : decode cX3_link 77 = .ok (.ireturn, 1) := by decide +kernel
theorem dX3_used_0 : decode cX3_used 0 = .ok (.iconst 0, 1) := by decide +kernel
theorem dX3_used_1 : decode cX3_used 1 = .ok (.istore_n 2, 1) := by decide +kernel
theorem dX3_used_2 : decode cX3_used 2 = .ok (.iconst 0, 1) := by decide +kernel
theorem dX3_used_3 : decode cX3_used 3 = .ok (.istore_n 3, 1) := by decide +kernel
theorem dX3_used_4 : decode cX3_used 4 = .ok (.iload_n 3, 1) := by decide +kernel
theorem dX3_used_5 : decode cX3_used 5 = .ok (.bipush 50, 2) := by decide +kernel
theorem dX3_used_7 : decode cX3_used 7 = .ok (.if_icmp .ge 31, 3) := by decide +kernel
theorem dX3_used_10 : decode cX3_used 10 = .ok (.iload_n 2, 1) := by decide +kernel
theorem dX3_used_11 : decode cX3_used 11 = .ok (.aload_n 0, 1) := by decide +kernel
theorem dX3_used_12 : decode cX3_used 12 = .ok (.getfield 24, 3) := by decide +kernel
theorem dX3_used_15 : decode cX3_used 15 = .ok (.iload_n 1, 1) := by decide +kernel
theorem dX3_used_16 : decode cX3_used 16 = .ok (.iload_n 3, 1) := by decide +kernel
theorem dX3_used_17 : decode cX3_used 17 = .ok (.invokestatic 87, 3) := by decide +kernel
theorem dX3_used_20 : decode cX3_used 20 = .ok (.iaload, 1) := by decide +kernel
theorem dX3_used_21 : decode cX3_used 21 = .ok (.iconst (-1), 1) := by decide +kernel
theorem dX3_used_22 : decode cX3_used 22 = .ok (.if_icmp .ne 7, 3) := by decide +kernel
theorem dX3_used_25 : decode cX3_used 25 = .ok (.iconst 0, 1) := by decide +kernel
theorem dX3_used_26 : decode cX3_used 26 = .ok (.goto 4, 3) := by decide +kernel
theorem dX3_used_29 : decode cX3_used 29 = .ok (.iconst 1, 1) := by decide +kernel
theorem dX3_used_30 : decode cX3_used 30 = .ok (.iadd, 1) := by decide +kernel
theorem dX3_used_31 : decode cX3_used 31 = .ok (.istore_n 2, 1) := by decide +kernel
theorem dX3_used_32 : decode cX3_used 32 = .ok (.iinc 3 1, 3) := by decide +kernel
theorem dX3_used_35 : decode cX3_used 35 = .ok (.goto (-31), 3) := by decide +kernel
theorem dX3_used_38 : decode cX3_used 38 = .ok (.iload_n 2, 1) := by decide +kernel
theorem dX3_used_39 : decode cX3_used 39 = .ok (.ireturn, 1) := by decide +kernel
theorem dX3_isHeld_0 : decode cX3_isHeld 0 = .ok (.aload_n 0, 1) := by decide +kernel
theorem dX3_isHeld_1 : decode cX3_isHeld 1 = .ok (.iload_n 1, 1) := by decide +kernel
theorem dX3_isHeld_2 : decode cX3_isHeld 2 = .ok (.invokevirtual 130, 3) := by decide +kernel
theorem dX3_isHeld_5 : decode cX3_isHeld 5 = .ok (.ifCond .gt 22, 3) := by decide +kernel
theorem dX3_isHeld_8 : decode cX3_isHeld 8 = .ok (.aload_n 0, 1) := by decide +kernel
theorem dX3_isHeld_9 : decode cX3_isHeld 9 = .ok (.getfield 48, 3) := by decide +kernel
theorem dX3_isHeld_12 : decode cX3_isHeld 12 = .ok (.iconst (-1), 1) := by decide +kernel
theorem dX3_isHeld_13 : decode cX3_isHeld 13 = .ok (.if_icmp .eq 18, 3) := by decide +kernel
theorem dX3_isHeld_16 : decode cX3_isHeld 16 = .ok (.aload_n 0, 1) := by decide +kernel
theorem dX3_isHeld_17 : decode cX3_isHeld 17 = .ok (.getfield 48, 3) := by decide +kernel
theorem dX3_isHeld_20 : decode cX3_isHeld 20 = .ok (.bipush 8, 2) := by decide +kernel
theorem dX3_isHeld_22 : decode cX3_isHeld 22 = .ok (.idiv, 1) := by decide +kernel
theorem dX3_isHeld_23 : decode cX3_isHeld 23 = .ok (.iload_n 1, 1) := by decide +kernel
theorem dX3_isHeld_24 : decode cX3_isHeld 24 = .ok (.if_icmp .ne 7, 3) := by decide +kernel
theorem dX3_isHeld_27 : decode cX3_isHeld 27 = .ok (.iconst 1, 1) := by decide +kernel
theorem dX3_isHeld_28 : decode cX3_isHeld 28 = .ok (.goto 4, 3) := by decide +kernel
theorem dX3_isHeld_31 : decode cX3_isHeld 31 = .ok (.iconst 0, 1) := by decide +kernel
theorem dX3_isHeld_32 : decode cX3_isHeld 32 = .ok (.ireturn, 1) := by decide +kernel
theorem dX3_remove_0 : decode cX3_remove 0 = .ok (.aload_n 0, 1) := by decide +kernel
theorem dX3_remove_1 : decode cX3_remove 1 = .ok (.aload_n 0, 1) := by decide +kernel
theorem dX3_remove_2 : decode cX3_remove 2 = .ok (.iload_n 1, 1) := by decide +kernel
theorem dX3_remove_3 : decode cX3_remove 3 = .ok (.iload_n 2, 1) := by decide +kernel
theorem dX3_remove_4 : decode cX3_remove 4 = .ok (.iload_n 3, 1) := by decide +kernel
theorem dX3_remove_5 : decode cX3_remove 5 = .ok (.invokevirtual 102, 3) := by decide +kernel
theorem dX3_remove_8 : decode cX3_remove 8 = .ok (.putfield 55, 3) := by decide +kernel
theorem dX3_remove_11 : decode cX3_remove 11 = .ok (.aload_n 0, 1) := by decide +kernel
theorem dX3_remove_12 : decode cX3_remove 12 = .ok (.getfield 55, 3) := by decide +kernel
theorem dX3_remove_15 : decode cX3_remove 15 = .ok (.ifCond .le 5, 3) := by decide +kernel
theorem dX3_remove_18 : decode cX3_remove 18 = .ok (.iconst 0, 1) := by decide +kernel
theorem dX3_remove_19 : decode cX3_remove 19 = .ok (.ireturn, 1) := by decide +kernel
theorem dX3_remove_20 : decode cX3_remove 20 = .ok (.aload_n 0, 1) := by decide +kernel
theorem dX3_remove_21 : decode cX3_remove 21 = .ok (.getfield 24, 3) := by decide +kernel
theorem dX3_remove_24 : decode cX3_remove 24 = .ok (.iload_n 2, 1) := by decide +kernel
theorem dX3_remove_25 : decode cX3_remove 25 = .ok (.iload_n 3, 1) := by decide +kernel
theorem dX3_remove_26 : decode cX3_remove 26 = .ok (.invokestatic 87, 3) := by decide +kernel
theorem dX3_remove_29 : decode cX3_remove 29 = .ok (.iaload, 1) := by decide +kernel
theorem dX3_remove_30 : decode cX3_remove 30 = .ok (.istore 4, 2) := by decide +kernel
theorem dX3_remove_32 : decode cX3_remove 32 = .ok (.aload_n 0, 1) := by decide +kernel
theorem dX3_remove_33 : decode cX3_remove 33 = .ok (.iload 4, 2) := by decide +kernel
theorem dX3_remove_35 : decode cX3_remove 35 = .ok (.iconst (-1), 1) := by decide +kernel
theorem dX3_remove_36 : decode cX3_remove 36 = .ok (.if_icmp .eq 30, 3) := by decide +kernel
theorem dX3_remove_39 : decode cX3_remove 39 = .ok (.iload 4, 2) := by decide +kernel
theorem dX3_remove_41 : decode cX3_remove 41 = .ok (.iconst (-1), 1) := by decide +kernel
theorem dX3_remove_42 : decode cX3_remove 42 = .ok (.if_icmp .ge 15, 3) := by decide +kernel
theorem dX3_remove_45 : decode cX3_remove 45 = .ok (.aload_n 0, 1) := by decide +kernel
theorem dX3_remove_46 : decode cX3_remove 46 = .ok (.bipush (-2), 2) := by decide +kernel
theorem dX3_remove_48 : decode cX3_remove 48 = .ok (.iload 4, 2) := by decide +kernel
theorem dX3_remove_50 : decode cX3_remove 50 = .ok (.isub, 1) := by decide +kernel
theorem dX3_remove_51 : decode cX3_remove 51 = .ok (.invokevirtual 133, 3) := by decide +kernel
theorem dX3_remove_54 : decode cX3_remove 54 = .ok (.ifCond .ne 12, 3) := by decide +kernel
theorem dX3_remove_57 : decode cX3_remove 57 = .ok (.aload_n 0, 1) := by decide +kernel
theorem dX3_remove_58 : decode cX3_remove 58 = .ok (.iload_n 2, 1) := by decide +kernel
theorem dX3_remove_59 : decode cX3_remove 59 = .ok (.iload_n 3, 1) := by decide +kernel
theorem dX3_remove_60 : decode cX3_remove 60 = .ok (.invokevirtual 106, 3) := by decide +kernel
theorem dX3_remove_63 : decode cX3_remove 63 = .ok (.ifCond .eq 7, 3) := by decide +kernel
theorem dX3_remove_66 : decode cX3_remove 66 = .ok (.iconst 3, 1) := by decide +kernel
theorem dX3_remove_67 : decode cX3_remove 67 = .ok (.goto 4, 3) := by decide +kernel
theorem dX3_remove_70 : decode cX3_remove 70 = .ok (.iconst 0, 1) := by decide +kernel
theorem dX3_remove_71 : decode cX3_remove 71 = .ok (.putfield 55, 3) := by decide +kernel
theorem dX3_remove_74 : decode cX3_remove 74 = .ok (.aload_n 0, 1) := by decide +kernel
theorem dX3_remove_75 : decode cX3_remove 75 = .ok (.getfield 55, 3) := by decide +kernel
theorem dX3_remove_78 : decode cX3_remove 78 = .ok (.ifCond .le 5, 3) := by decide +kernel
theorem dX3_remove_81 : decode cX3_remove 81 = .ok (.iconst 0, 1) := by decide +kernel
theorem dX3_remove_82 : decode cX3_remove 82 = .ok (.ireturn, 1) := by decide +kernel
theorem dX3_remove_83 : decode cX3_remove 83 = .ok (.aload_n 0, 1) := by decide +kernel
theorem dX3_remove_84 : decode cX3_remove 84 = .ok (.iload_n 1, 1) := by decide +kernel
theorem dX3_remove_85 : decode cX3_remove 85 = .ok (.iload_n 2, 1) := by decide +kernel
theorem dX3_remove_86 : decode cX3_remove 86 = .ok (.iload_n 3, 1) := by decide +kernel
theorem dX3_remove_87 : decode cX3_remove 87 = .ok (.invokevirtual 112, 3) := by decide +kernel
theorem dX3_remove_90 : decode cX3_remove 90 = .ok (.aload_n 0, 1) := by decide +kernel
theorem dX3_remove_91 : decode cX3_remove 91 = .ok (.getfield 24, 3) := by decide +kernel
theorem dX3_remove_94 : decode cX3_remove 94 = .ok (.iload_n 2, 1) := by decide +kernel
theorem dX3_remove_95 : decode cX3_remove 95 = .ok (.iload_n 3, 1) := by decide +kernel
theorem dX3_remove_96 : decode cX3_remove 96 = .ok (.invokestatic 87, 3) := by decide +kernel
theorem dX3_remove_99 : decode cX3_remove 99 = .ok (.iconst (-1), 1) := by decide +kernel
theorem dX3_remove_100 : decode cX3_remove 100 = .ok (.iastore, 1) := by decide +kernel
theorem dX3_remove_101 : decode cX3_remove 101 = .ok (.iload 4, 2) := by decide +kernel
theorem dX3_remove_103 : decode cX3_remove 103 = .ok (.iconst (-1), 1) := by decide +kernel
theorem dX3_remove_104 : decode cX3_remove 104 = .ok (.if_icmp .ge 99, 3) := by decide +kernel
theorem dX3_remove_107 : decode cX3_remove 107 = .ok (.bipush (-2), 2) := by decide +kernel
theorem dX3_remove_109 : decode cX3_remove 109 = .ok (.iload 4, 2) := by decide +kernel
theorem dX3_remove_111 : decode cX3_remove 111 = .ok (.isub, 1) := by decide +kernel
theorem dX3_remove_112 : decode cX3_remove 112 = .ok (.istore 5, 2) := by decide +kernel
theorem dX3_remove_114 : decode cX3_remove 114 = .ok (.aload_n 0, 1) := by decide +kernel
theorem dX3_remove_115 : decode cX3_remove 115 = .ok (.getfield 13, 3) := by decide +kernel
theorem dX3_remove_118 : decode cX3_remove 118 = .ok (.iload 5, 2) := by decide +kernel
theorem dX3_remove_120 : decode cX3_remove 120 = .ok (.iconst 0, 1) := by decide +kernel
theorem dX3_remove_121 : decode cX3_remove 121 = .ok (.bastore, 1) := by decide +kernel
theorem dX3_remove_122 : decode cX3_remove 122 = .ok (.iconst 0, 1) := by decide +kernel
theorem dX3_remove_123 : decode cX3_remove 123 = .ok (.istore 6, 2) := by decide +kernel
theorem dX3_remove_125 : decode cX3_remove 125 = .ok (.iload 6, 2) := by decide +kernel
theorem dX3_remove_127 : decode cX3_remove 127 = .ok (.bipush 8, 2) := by decide +kernel
theorem dX3_remove_129 : decode cX3_remove 129 = .ok (.if_icmp .ge 23, 3) := by decide +kernel
theorem dX3_remove_132 : decode cX3_remove 132 = .ok (.aload_n 0, 1) := by decide +kernel
theorem dX3_remove_133 : decode cX3_remove 133 = .ok (.getfield 30, 3) := by decide +kernel
theorem dX3_remove_136 : decode cX3_remove 136 = .ok (.bipush 8, 2) := by decide +kernel
theorem dX3_remove_138 : decode cX3_remove 138 = .ok (.iload 5, 2) := by decide +kernel
theorem dX3_remove_140 : decode cX3_remove 140 = .ok (.imul, 1) := by decide +kernel
theorem dX3_remove_141 : decode cX3_remove 141 = .ok (.iload 6, 2) := by decide +kernel
theorem dX3_remove_143 : decode cX3_remove 143 = .ok (.iadd, 1) := by decide +kernel
theorem dX3_remove_144 : decode cX3_remove 144 = .ok (.iconst 0, 1) := by decide +kernel
theorem dX3_remove_145 : decode cX3_remove 145 = .ok (.iastore, 1) := by decide +kernel
theorem dX3_remove_146 : decode cX3_remove 146 = .ok (.iinc 6 1, 3) := by decide +kernel
theorem dX3_remove_149 : decode cX3_remove 149 = .ok (.goto (-24), 3) := by decide +kernel
theorem dX3_remove_152 : decode cX3_remove 152 = .ok (.iconst 0, 1) := by decide +kernel
theorem dX3_remove_153 : decode cX3_remove 153 = .ok (.istore 6, 2) := by decide +kernel
theorem dX3_remove_155 : decode cX3_remove 155 = .ok (.iload 6, 2) := by decide +kernel
theorem dX3_remove_157 : decode cX3_remove 157 = .ok (.iconst 4, 1) := by decide +kernel
theorem dX3_remove_158 : decode cX3_remove 158 = .ok (.if_icmp .ge 45, 3) := by decide +kernel
theorem dX3_remove_161 : decode cX3_remove 161 = .ok (.iconst 0, 1) := by decide +kernel
theorem dX3_remove_162 : decode cX3_remove 162 = .ok (.istore 7, 2) := by decide +kernel
theorem dX3_remove_164 : decode cX3_remove 164 = .ok (.iload 7, 2) := by decide +kernel
theorem dX3_remove_166 : decode cX3_remove 166 = .ok (.bipush 50, 2) := by decide +kernel
theorem dX3_remove_168 : decode cX3_remove 168 = .ok (.if_icmp .ge 29, 3) := by decide +kernel
theorem dX3_remove_171 : decode cX3_remove 171 = .ok (.aload_n 0, 1) := by decide +kernel
theorem dX3_remove_172 : decode cX3_remove 172 = .ok (.getfield 39, 3) := by decide +kernel
theorem dX3_remove_175 : decode cX3_remove 175 = .ok (.sipush 600, 3) := by decide +kernel
theorem dX3_remove_178 : decode cX3_remove 178 = .ok (.iload 6, 2) := by decide +kernel
theorem dX3_remove_180 : decode cX3_remove 180 = .ok (.imul, 1) := by decide +kernel
theorem dX3_remove_181 : decode cX3_remove 181 = .ok (.iload 5, 2) := by decide +kernel
theorem dX3_remove_183 : decode cX3_remove 183 = .ok (.iload 7, 2) := by decide +kernel
theorem dX3_remove_185 : decode cX3_remove 185 = .ok (.invokestatic 87, 3) := by decide +kernel
theorem dX3_remove_188 : decode cX3_remove 188 = .ok (.iadd, 1) := by decide +kernel
theorem dX3_remove_189 : decode cX3_remove 189 = .ok (.iconst 0, 1) := by decide +kernel
theorem dX3_remove_190 : decode cX3_remove 190 = .ok (.iastore, 1) := by decide +kernel
theorem dX3_remove_191 : decode cX3_remove 191 = .ok (.iinc 7 1, 3) := by decide +kernel
theorem dX3_remove_194 : decode cX3_remove 194 = .ok (.goto (-30), 3) := by decide +kernel
theorem dX3_remove_197 : decode cX3_remove 197 = .ok (.iinc 6 1, 3) := by decide +kernel
theorem dX3_remove_200 : decode cX3_remove 200 = .ok (.goto (-45), 3) := by decide +kernel
theorem dX3_remove_203 : decode cX3_remove 203 = .ok (.iload 4, 2) := by decide +kernel
theorem dX3_remove_205 : decode cX3_remove 205 = .ok (.ireturn, 1) := by decide +kernel
theorem dX3_isBelow_0 : decode cX3_isBelow 0 = .ok (.iload_n 1, 1) := by decide +kernel
theorem dX3_isBelow_1 : decode cX3_isBelow 1 = .ok (.istore_n 3, 1) := by decide +kernel
theorem dX3_isBelow_2 : decode cX3_isBelow 2 = .ok (.iload_n 3, 1) := by decide +kernel
theorem dX3_isBelow_3 : decode cX3_isBelow 3 = .ok (.ifCond .eq 18, 3) := by decide +kernel
theorem dX3_isBelow_6 : decode cX3_isBelow 6 = .ok (.iload_n 3, 1) := by decide +kernel
theorem dX3_isBelow_7 : decode cX3_isBelow 7 = .ok (.iload_n 2, 1) := by decide +kernel
theorem dX3_isBelow_8 : decode cX3_isBelow 8 = .ok (.if_icmp .eq 13, 3) := by decide +kernel
theorem dX3_isBelow_11 : decode cX3_isBelow 11 = .ok (.aload_n 0, 1) := by decide +kernel
theorem dX3_isBelow_12 : decode cX3_isBelow 12 = .ok (.getfield 17, 3) := by decide +kernel
theorem dX3_isBelow_15 : decode cX3_isBelow 15 = .ok (.iload_n 3, 1) := by decide +kernel
theorem dX3_isBelow_16 : decode cX3_isBelow 16 = .ok (.iaload, 1) := by decide +kernel
theorem dX3_isBelow_17 : decode cX3_isBelow 17 = .ok (.istore_n 3, 1) := by decide +kernel
theorem dX3_isBelow_18 : decode cX3_isBelow 18 = .ok (.goto (-16), 3) := by decide +kernel
theorem dX3_isBelow_21 : decode cX3_isBelow 21 = .ok (.iload_n 3, 1) := by decide +kernel
theorem dX3_isBelow_22 : decode cX3_isBelow 22 = .ok (.iload_n 2, 1) := by decide +kernel
theorem dX3_isBelow_23 : decode cX3_isBelow 23 = .ok (.if_icmp .ne 7, 3) := by decide +kernel
theorem dX3_isBelow_26 : decode cX3_isBelow 26 = .ok (.iconst 1, 1) := by decide +kernel
theorem dX3_isBelow_27 : decode cX3_isBelow 27 = .ok (.goto 4, 3) := by decide +kernel
theorem dX3_isBelow_30 : decode cX3_isBelow 30 = .ok (.iconst 0, 1) := by decide +kernel
theorem dX3_isBelow_31 : decode cX3_isBelow 31 = .ok (.ireturn, 1) := by decide +kernel
theorem dX3_rename_0 : decode cX3_rename 0 = .ok (.iload_n 1, 1) := by decide +kernel
theorem dX3_rename_1 : decode cX3_rename 1 = .ok (.invokestatic 93, 3) := by decide +kernel
theorem dX3_rename_4 : decode cX3_rename 4 = .ok (.ifCond .eq 22, 3) := by decide +kernel
theorem dX3_rename_7 : decode cX3_rename 7 = .ok (.iload_n 3, 1) := by decide +kernel
theorem dX3_rename_8 : decode cX3_rename 8 = .ok (.invokestatic 96, 3) := by decide +kernel
theorem dX3_rename_11 : decode cX3_rename 11 = .ok (.ifCond .eq 15, 3) := by decide +kernel
theorem dX3_rename_14 : decode cX3_rename 14 = .ok (.iload 5, 2) := by decide +kernel
theorem dX3_rename_16 : decode cX3_rename 16 = .ok (.invokestatic 96, 3) := by decide +kernel
theorem dX3_rename_19 : decode cX3_rename 19 = .ok (.ifCond .eq 7, 3) := by decide +kernel
theorem dX3_rename_22 : decode cX3_rename 22 = .ok (.iconst 1, 1) := by decide +kernel
theorem dX3_rename_23 : decode cX3_rename 23 = .ok (.goto 4, 3) := by decide +kernel
theorem dX3_rename_26 : decode cX3_rename 26 = .ok (.iconst 0, 1) := by decide +kernel
theorem dX3_rename_27 : decode cX3_rename 27 = .ok (.istore 6, 2) := by decide +kernel
theorem dX3_rename_29 : decode cX3_rename 29 = .ok (.aload_n 0, 1) := by decide +kernel
theorem dX3_rename_30 : decode cX3_rename 30 = .ok (.iload 6, 2) := by decide +kernel
theorem dX3_rename_32 : decode cX3_rename 32 = .ok (.ifCond .ne 7, 3) := by decide +kernel
theorem dX3_rename_35 : decode cX3_rename 35 = .ok (.iconst 1, 1) := by decide +kernel
theorem dX3_rename_36 : decode cX3_rename 36 = .ok (.goto 25, 3) := by decide +kernel
theorem dX3_rename_39 : decode cX3_rename 39 = .ok (.aload_n 0, 1) := by decide +kernel
theorem dX3_rename_40 : decode cX3_rename 40 = .ok (.iload_n 2, 1) := by decide +kernel
theorem dX3_rename_41 : decode cX3_rename 41 = .ok (.invokevirtual 99, 3) := by decide +kernel
theorem dX3_rename_44 : decode cX3_rename 44 = .ok (.ifCond .eq 12, 3) := by decide +kernel
theorem dX3_rename_47 : decode cX3_rename 47 = .ok (.aload_n 0, 1) := by decide +kernel
theorem dX3_rename_48 : decode cX3_rename 48 = .ok (.iload 4, 2) := by decide +kernel
theorem dX3_rename_50 : decode cX3_rename 50 = .ok (.invokevirtual 99, 3) := by decide +kernel
theorem dX3_rename_53 : decode cX3_rename 53 = .ok (.ifCond .ne 7, 3) := by decide +kernel
theorem dX3_rename_56 : decode cX3_rename 56 = .ok (.iconst 2, 1) := by decide +kernel
theorem dX3_rename_57 : decode cX3_rename 57 = .ok (.goto 4, 3) := by decide +kernel
theorem dX3_rename_60 : decode cX3_rename 60 = .ok (.iconst 0, 1) := by decide +kernel
theorem dX3_rename_61 : decode cX3_rename 61 = .ok (.putfield 55, 3) := by decide +kernel
theorem dX3_rename_64 : decode cX3_rename 64 = .ok (.aload_n 0, 1) := by decide +kernel
theorem dX3_rename_65 : decode cX3_rename 65 = .ok (.getfield 55, 3) := by decide +kernel
theorem dX3_rename_68 : decode cX3_rename 68 = .ok (.ifCond .le 4, 3) := by decide +kernel
theorem dX3_rename_71 : decode cX3_rename 71 = .ok (.return_, 1) := by decide +kernel
theorem dX3_rename_72 : decode cX3_rename 72 = .ok (.aload_n 0, 1) := by decide +kernel
theorem dX3_rename_73 : decode cX3_rename 73 = .ok (.getfield 24, 3) := by decide +kernel
theorem dX3_rename_76 : decode cX3_rename 76 = .ok (.iload_n 2, 1) := by decide +kernel
theorem dX3_rename_77 : decode cX3_rename 77 = .ok (.iload_n 3, 1) := by decide +kernel
theorem dX3_rename_78 : decode cX3_rename 78 = .ok (.invokestatic 87, 3) := by decide +kernel
theorem dX3_rename_81 : decode cX3_rename 81 = .ok (.iaload, 1) := by decide +kernel
theorem dX3_rename_82 : decode cX3_rename 82 = .ok (.istore 7, 2) := by decide +kernel
theorem dX3_rename_84 : decode cX3_rename 84 = .ok (.iload 7, 2) := by decide +kernel
theorem dX3_rename_86 : decode cX3_rename 86 = .ok (.iconst (-1), 1) := by decide +kernel
theorem dX3_rename_87 : decode cX3_rename 87 = .ok (.if_icmp .eq 39, 3) := by decide +kernel
theorem dX3_rename_90 : decode cX3_rename 90 = .ok (.aload_n 0, 1) := by decide +kernel
theorem dX3_rename_91 : decode cX3_rename 91 = .ok (.getfield 24, 3) := by decide +kernel
theorem dX3_rename_94 : decode cX3_rename 94 = .ok (.iload 4, 2) := by decide +kernel
theorem dX3_rename_96 : decode cX3_rename 96 = .ok (.iload 5, 2) := by decide +kernel
theorem dX3_rename_98 : decode cX3_rename 98 = .ok (.invokestatic 87, 3) := by decide +kernel
theorem dX3_rename_101 : decode cX3_rename 101 = .ok (.iaload, 1) := by decide +kernel
theorem dX3_rename_102 : decode cX3_rename 102 = .ok (.iconst (-1), 1) := by decide +kernel
theorem dX3_rename_103 : decode cX3_rename 103 = .ok (.if_icmp .ne 23, 3) := by decide +kernel
theorem dX3_rename_106 : decode cX3_rename 106 = .ok (.iload 7, 2) := by decide +kernel
theorem dX3_rename_108 : decode cX3_rename 108 = .ok (.iconst (-1), 1) := by decide +kernel
theorem dX3_rename_109 : decode cX3_rename 109 = .ok (.if_icmp .ge 21, 3) := by decide +kernel
theorem dX3_rename_112 : decode cX3_rename 112 = .ok (.aload_n 0, 1) := by decide +kernel
theorem dX3_rename_113 : decode cX3_rename 113 = .ok (.iload 4, 2) := by decide +kernel
theorem dX3_rename_115 : decode cX3_rename 115 = .ok (.bipush (-2), 2) := by decide +kernel
theorem dX3_rename_117 : decode cX3_rename 117 = .ok (.iload 7, 2) := by decide +kernel
theorem dX3_rename_119 : decode cX3_rename 119 = .ok (.isub, 1) := by decide +kernel
theorem dX3_rename_120 : decode cX3_rename 120 = .ok (.invokevirtual 136, 3) := by decide +kernel
theorem dX3_rename_123 : decode cX3_rename 123 = .ok (.ifCond .eq 7, 3) := by decide +kernel
theorem dX3_rename_126 : decode cX3_rename 126 = .ok (.iconst 1, 1) := by decide +kernel
theorem dX3_rename_127 : decode cX3_rename 127 = .ok (.goto 4, 3) := by decide +kernel
theorem dX3_rename_130 : decode cX3_rename 130 = .ok (.iconst 0, 1) := by decide +kernel
theorem dX3_rename_131 : decode cX3_rename 131 = .ok (.istore 8, 2) := by decide +kernel
theorem dX3_rename_133 : decode cX3_rename 133 = .ok (.aload_n 0, 1) := by decide +kernel
theorem dX3_rename_134 : decode cX3_rename 134 = .ok (.iload 8, 2) := by decide +kernel
theorem dX3_rename_136 : decode cX3_rename 136 = .ok (.ifCond .ne 23, 3) := by decide +kernel
theorem dX3_rename_139 : decode cX3_rename 139 = .ok (.aload_n 0, 1) := by decide +kernel
theorem dX3_rename_140 : decode cX3_rename 140 = .ok (.iload_n 2, 1) := by decide +kernel
theorem dX3_rename_141 : decode cX3_rename 141 = .ok (.iload_n 3, 1) := by decide +kernel
theorem dX3_rename_142 : decode cX3_rename 142 = .ok (.invokevirtual 106, 3) := by decide +kernel
theorem dX3_rename_145 : decode cX3_rename 145 = .ok (.ifCond .ne 14, 3) := by decide +kernel
theorem dX3_rename_148 : decode cX3_rename 148 = .ok (.aload_n 0, 1) := by decide +kernel
theorem dX3_rename_149 : decode cX3_rename 149 = .ok (.iload 4, 2) := by decide +kernel
theorem dX3_rename_151 : decode cX3_rename 151 = .ok (.iload 5, 2) := by decide +kernel
theorem dX3_rename_153 : decode cX3_rename 153 = .ok (.invokevirtual 106, 3) := by decide +kernel
theorem dX3_rename_156 : decode cX3_rename 156 = .ok (.ifCond .eq 7, 3) := by decide +kernel
theorem dX3_rename_159 : decode cX3_rename 159 = .ok (.iconst 3, 1) := by decide +kernel
theorem dX3_rename_160 : decode cX3_rename 160 = .ok (.goto 4, 3) := by decide +kernel
theorem dX3_rename_163 : decode cX3_rename 163 = .ok (.iconst 0, 1) := by decide +kernel
theorem dX3_rename_164 : decode cX3_rename 164 = .ok (.putfield 55, 3) := by decide +kernel
theorem dX3_rename_167 : decode cX3_rename 167 = .ok (.aload_n 0, 1) := by decide +kernel
theorem dX3_rename_168 : decode cX3_rename 168 = .ok (.getfield 55, 3) := by decide +kernel
theorem dX3_rename_171 : decode cX3_rename 171 = .ok (.ifCond .le 4, 3) := by decide +kernel
theorem dX3_rename_174 : decode cX3_rename 174 = .ok (.return_, 1) := by decide +kernel
theorem dX3_rename_175 : decode cX3_rename 175 = .ok (.aload_n 0, 1) := by decide +kernel
theorem dX3_rename_176 : decode cX3_rename 176 = .ok (.iload_n 1, 1) := by decide +kernel
theorem dX3_rename_177 : decode cX3_rename 177 = .ok (.iload_n 2, 1) := by decide +kernel
theorem dX3_rename_178 : decode cX3_rename 178 = .ok (.iload_n 3, 1) := by decide +kernel
theorem dX3_rename_179 : decode cX3_rename 179 = .ok (.invokevirtual 112, 3) := by decide +kernel
theorem dX3_rename_182 : decode cX3_rename 182 = .ok (.aload_n 0, 1) := by decide +kernel
theorem dX3_rename_183 : decode cX3_rename 183 = .ok (.iload_n 1, 1) := by decide +kernel
theorem dX3_rename_184 : decode cX3_rename 184 = .ok (.iload 4, 2) := by decide +kernel
theorem dX3_rename_186 : decode cX3_rename 186 = .ok (.iload 5, 2) := by decide +kernel
theorem dX3_rename_188 : decode cX3_rename 188 = .ok (.invokevirtual 112, 3) := by decide +kernel
theorem dX3_rename_191 : decode cX3_rename 191 = .ok (.aload_n 0, 1) := by decide +kernel
theorem dX3_rename_192 : decode cX3_rename 192 = .ok (.getfield 24, 3) := by decide +kernel
theorem dX3_rename_195 : decode cX3_rename 195 = .ok (.iload_n 2, 1) := by decide +kernel
theorem dX3_rename_196 : decode cX3_rename 196 = .ok (.iload_n 3, 1) := by decide +kernel
theorem dX3_rename_197 : decode cX3_rename 197 = .ok (.invokestatic 87, 3) := by decide +kernel
theorem dX3_rename_200 : decode cX3_rename 200 = .ok (.iconst (-1), 1) := by decide +kernel
theorem dX3_rename_201 : decode cX3_rename 201 = .ok (.iastore, 1) := by decide +kernel
theorem dX3_rename_202 : decode cX3_rename 202 = .ok (.aload_n 0, 1) := by decide +kernel
theorem dX3_rename_203 : decode cX3_rename 203 = .ok (.getfield 24, 3) := by decide +kernel
theorem dX3_rename_206 : decode cX3_rename 206 = .ok (.iload 4, 2) := by decide +kernel
theorem dX3_rename_208 : decode cX3_rename 208 = .ok (.iload 5, 2) := by decide +kernel
theorem dX3_rename_210 : decode cX3_rename 210 = .ok (.invokestatic 87, 3) := by decide +kernel
theorem dX3_rename_213 : decode cX3_rename 213 = .ok (.iload 7, 2) := by decide +kernel
theorem dX3_rename_215 : decode cX3_rename 215 = .ok (.iastore, 1) := by decide +kernel
theorem dX3_rename_216 : decode cX3_rename 216 = .ok (.aload_n 0, 1) := by decide +kernel
theorem dX3_rename_217 : decode cX3_rename 217 = .ok (.getfield 27, 3) := by decide +kernel
theorem dX3_rename_220 : decode cX3_rename 220 = .ok (.iload 4, 2) := by decide +kernel
theorem dX3_rename_222 : decode cX3_rename 222 = .ok (.iload 5, 2) := by decide +kernel
theorem dX3_rename_224 : decode cX3_rename 224 = .ok (.invokestatic 87, 3) := by decide +kernel
theorem dX3_rename_227 : decode cX3_rename 227 = .ok (.aload_n 0, 1) := by decide +kernel
theorem dX3_rename_228 : decode cX3_rename 228 = .ok (.getfield 27, 3) := by decide +kernel
theorem dX3_rename_231 : decode cX3_rename 231 = .ok (.iload_n 2, 1) := by decide +kernel
theorem dX3_rename_232 : decode cX3_rename 232 = .ok (.iload_n 3, 1) := by decide +kernel
theorem dX3_rename_233 : decode cX3_rename 233 = .ok (.invokestatic 87, 3) := by decide +kernel
theorem dX3_rename_236 : decode cX3_rename 236 = .ok (.iaload, 1) := by decide +kernel
theorem dX3_rename_237 : decode cX3_rename 237 = .ok (.iastore, 1) := by decide +kernel
theorem dX3_rename_238 : decode cX3_rename 238 = .ok (.iload 7, 2) := by decide +kernel
theorem dX3_rename_240 : decode cX3_rename 240 = .ok (.iconst (-1), 1) := by decide +kernel
theorem dX3_rename_241 : decode cX3_rename 241 = .ok (.if_icmp .ge 27, 3) := by decide +kernel
theorem dX3_rename_244 : decode cX3_rename 244 = .ok (.aload_n 0, 1) := by decide +kernel
theorem dX3_rename_245 : decode cX3_rename 245 = .ok (.getfield 17, 3) := by decide +kernel
theorem dX3_rename_248 : decode cX3_rename 248 = .ok (.bipush (-2), 2) := by decide +kernel
theorem dX3_rename_250 : decode cX3_rename 250 = .ok (.iload 7, 2) := by decide +kernel
theorem dX3_rename_252 : decode cX3_rename 252 = .ok (.isub, 1) := by decide +kernel
theorem dX3_rename_253 : decode cX3_rename 253 = .ok (.iload 4, 2) := by decide +kernel
theorem dX3_rename_255 : decode cX3_rename 255 = .ok (.iastore, 1) := by decide +kernel
theorem dX3_rename_256 : decode cX3_rename 256 = .ok (.aload_n 0, 1) := by decide +kernel
theorem dX3_rename_257 : decode cX3_rename 257 = .ok (.getfield 21, 3) := by decide +kernel
theorem dX3_rename_260 : decode cX3_rename 260 = .ok (.bipush (-2), 2) := by decide +kernel
theorem dX3_rename_262 : decode cX3_rename 262 = .ok (.iload 7, 2) := by decide +kernel
theorem dX3_rename_264 : decode cX3_rename 264 = .ok (.isub, 1) := by decide +kernel
theorem dX3_rename_265 : decode cX3_rename 265 = .ok (.iload 5, 2) := by decide +kernel
theorem dX3_rename_267 : decode cX3_rename 267 = .ok (.iastore, 1) := by decide +kernel
theorem dX3_rename_268 : decode cX3_rename 268 = .ok (.return_, 1) := by decide +kernel
theorem dX3_pass_0 : decode cX3_pass 0 = .ok (.aload_n 0, 1) := by decide +kernel
theorem dX3_pass_1 : decode cX3_pass 1 = .ok (.iload_n 1, 1) := by decide +kernel
theorem dX3_pass_2 : decode cX3_pass 2 = .ok (.iconst 1, 1) := by decide +kernel
theorem dX3_pass_3 : decode cX3_pass 3 = .ok (.bipush 100, 2) := by decide +kernel
theorem dX3_pass_5 : decode cX3_pass 5 = .ok (.invokestatic 58, 3) := by decide +kernel
theorem dX3_pass_8 : decode cX3_pass 8 = .ok (.ifCond .eq 7, 3) := by decide +kernel
theorem dX3_pass_11 : decode cX3_pass 11 = .ok (.iconst 0, 1) := by decide +kernel
theorem dX3_pass_12 : decode cX3_pass 12 = .ok (.goto 4, 3) := by decide +kernel
theorem dX3_pass_15 : decode cX3_pass 15 = .ok (.iconst 1, 1) := by decide +kernel
theorem dX3_pass_16 : decode cX3_pass 16 = .ok (.putfield 55, 3) := by decide +kernel
theorem dX3_pass_19 : decode cX3_pass 19 = .ok (.aload_n 0, 1) := by decide +kernel
theorem dX3_pass_20 : decode cX3_pass 20 = .ok (.dup, 1) := by decide +kernel
theorem dX3_pass_21 : decode cX3_pass 21 = .ok (.getfield 80, 3) := by decide +kernel
theorem dX3_pass_24 : decode cX3_pass 24 = .ok (.aload_n 0, 1) := by decide +kernel
theorem dX3_pass_25 : decode cX3_pass 25 = .ok (.getfield 55, 3) := by decide +kernel
theorem dX3_pass_28 : decode cX3_pass 28 = .ok (.ifCond .ne 7, 3) := by decide +kernel
theorem dX3_pass_31 : decode cX3_pass 31 = .ok (.iload_n 1, 1) := by decide +kernel
theorem dX3_pass_32 : decode cX3_pass 32 = .ok (.goto 4, 3) := by decide +kernel
theorem dX3_pass_35 : decode cX3_pass 35 = .ok (.iconst 0, 1) := by decide +kernel
theorem dX3_pass_36 : decode cX3_pass 36 = .ok (.iadd, 1) := by decide +kernel
theorem dX3_pass_37 : decode cX3_pass 37 = .ok (.putfield 80, 3) := by decide +kernel
theorem dX3_pass_40 : decode cX3_pass 40 = .ok (.aload_n 0, 1) := by decide +kernel
theorem dX3_pass_41 : decode cX3_pass 41 = .ok (.getfield 55, 3) := by decide +kernel
theorem dX3_pass_44 : decode cX3_pass 44 = .ok (.ifCond .le 7, 3) := by decide +kernel
theorem dX3_pass_47 : decode cX3_pass 47 = .ok (.iconst 0, 1) := by decide +kernel
theorem dX3_pass_48 : decode cX3_pass 48 = .ok (.goto 7, 3) := by decide +kernel
theorem dX3_pass_51 : decode cX3_pass 51 = .ok (.aload_n 0, 1) := by decide +kernel
theorem dX3_pass_52 : decode cX3_pass 52 = .ok (.getfield 80, 3) := by decide +kernel
theorem dX3_pass_55 : decode cX3_pass 55 = .ok (.ireturn, 1) := by decide +kernel
theorem dX3_leases_0 : decode cX3_leases 0 = .ok (.aload_n 0, 1) := by decide +kernel
theorem dX3_leases_1 : decode cX3_leases 1 = .ok (.iload_n 1, 1) := by decide +kernel
theorem dX3_leases_2 : decode cX3_leases 2 = .ok (.invokestatic 93, 3) := by decide +kernel
theorem dX3_leases_5 : decode cX3_leases 5 = .ok (.ifCond .eq 7, 3) := by decide +kernel
theorem dX3_leases_8 : decode cX3_leases 8 = .ok (.iconst 0, 1) := by decide +kernel
theorem dX3_leases_9 : decode cX3_leases 9 = .ok (.goto 4, 3) := by decide +kernel
theorem dX3_leases_12 : decode cX3_leases 12 = .ok (.iconst 1, 1) := by decide +kernel
theorem dX3_leases_13 : decode cX3_leases 13 = .ok (.putfield 55, 3) := by decide +kernel
theorem dX3_leases_16 : decode cX3_leases 16 = .ok (.iconst 0, 1) := by decide +kernel
theorem dX3_leases_17 : decode cX3_leases 17 = .ok (.istore_n 2, 1) := by decide +kernel
theorem dX3_leases_18 : decode cX3_leases 18 = .ok (.iconst 0, 1) := by decide +kernel
theorem dX3_leases_19 : decode cX3_leases 19 = .ok (.istore_n 3, 1) := by decide +kernel
theorem dX3_leases_20 : decode cX3_leases 20 = .ok (.iload_n 3, 1) := by decide +kernel
theorem dX3_leases_21 : decode cX3_leases 21 = .ok (.sipush 600, 3) := by decide +kernel
theorem dX3_leases_24 : decode cX3_leases 24 = .ok (.if_icmp .ge 33, 3) := by decide +kernel
theorem dX3_leases_27 : decode cX3_leases 27 = .ok (.aload_n 0, 1) := by decide +kernel
theorem dX3_leases_28 : decode cX3_leases 28 = .ok (.getfield 55, 3) := by decide +kernel
theorem dX3_leases_31 : decode cX3_leases 31 = .ok (.ifCond .ne 26, 3) := by decide +kernel
theorem dX3_leases_34 : decode cX3_leases 34 = .ok (.iload_n 2, 1) := by decide +kernel
theorem dX3_leases_35 : decode cX3_leases 35 = .ok (.aload_n 0, 1) := by decide +kernel
theorem dX3_leases_36 : decode cX3_leases 36 = .ok (.iload_n 1, 1) := by decide +kernel
theorem dX3_leases_37 : decode cX3_leases 37 = .ok (.iload_n 3, 1) := by decide +kernel
theorem dX3_leases_38 : decode cX3_leases 38 = .ok (.invokevirtual 83, 3) := by decide +kernel
theorem dX3_leases_41 : decode cX3_leases 41 = .ok (.ifCond .eq 7, 3) := by decide +kernel
theorem dX3_leases_44 : decode cX3_leases 44 = .ok (.iconst 1, 1) := by decide +kernel
theorem dX3_leases_45 : decode cX3_leases 45 = .ok (.goto 4, 3) := by decide +kernel
theorem dX3_leases_48 : decode cX3_leases 48 = .ok (.iconst 0, 1) := by decide +kernel
theorem dX3_leases_49 : decode cX3_leases 49 = .ok (.iadd, 1) := by decide +kernel
theorem dX3_leases_50 : decode cX3_leases 50 = .ok (.istore_n 2, 1) := by decide +kernel
theorem dX3_leases_51 : decode cX3_leases 51 = .ok (.iinc 3 1, 3) := by decide +kernel
theorem dX3_leases_54 : decode cX3_leases 54 = .ok (.goto (-34), 3) := by decide +kernel
theorem dX3_leases_57 : decode cX3_leases 57 = .ok (.iload_n 2, 1) := by decide +kernel
theorem dX3_leases_58 : decode cX3_leases 58 = .ok (.ireturn, 1) := by decide +kernel
theorem dX3_recalls_0 : decode cX3_recalls 0 = .ok (.aload_n 0, 1) := by decide +kernel
theorem dX3_recalls_1 : decode cX3_recalls 1 = .ok (.iconst 0, 1) := by decide +kernel
theorem dX3_recalls_2 : decode cX3_recalls 2 = .ok (.putfield 55, 3) := by decide +kernel
theorem dX3_recalls_5 : decode cX3_recalls 5 = .ok (.iload_n 1, 1) := by decide +kernel
theorem dX3_recalls_6 : decode cX3_recalls 6 = .ok (.invokestatic 93, 3) := by decide +kernel
theorem dX3_recalls_9 : decode cX3_recalls 9 = .ok (.ifCond .eq 12, 3) := by decide +kernel
theorem dX3_recalls_12 : decode cX3_recalls 12 = .ok (.aload_n 0, 1) := by decide +kernel
theorem dX3_recalls_13 : decode cX3_recalls 13 = .ok (.getfield 42, 3) := by decide +kernel
theorem dX3_recalls_16 : decode cX3_recalls 16 = .ok (.iload_n 1, 1) := by decide +kernel
theorem dX3_recalls_17 : decode cX3_recalls 17 = .ok (.iaload, 1) := by decide +kernel
theorem dX3_recalls_18 : decode cX3_recalls 18 = .ok (.goto 8, 3) := by decide +kernel
theorem dX3_recalls_21 : decode cX3_recalls 21 = .ok (.aload_n 0, 1) := by decide +kernel
theorem dX3_recalls_22 : decode cX3_recalls 22 = .ok (.iconst 1, 1) := by decide +kernel
theorem dX3_recalls_23 : decode cX3_recalls 23 = .ok (.invokevirtual 139, 3) := by decide +kernel
theorem dX3_recalls_26 : decode cX3_recalls 26 = .ok (.ireturn, 1) := by decide +kernel
theorem dX3_known_0 : decode cX3_known 0 = .ok (.aload_n 0, 1) := by decide +kernel
theorem dX3_known_1 : decode cX3_known 1 = .ok (.iconst 0, 1) := by decide +kernel
theorem dX3_known_2 : decode cX3_known 2 = .ok (.putfield 55, 3) := by decide +kernel
theorem dX3_known_5 : decode cX3_known 5 = .ok (.iload_n 1, 1) := by decide +kernel
theorem dX3_known_6 : decode cX3_known 6 = .ok (.invokestatic 93, 3) := by decide +kernel
theorem dX3_known_9 : decode cX3_known 9 = .ok (.ifCond .eq 12, 3) := by decide +kernel
theorem dX3_known_12 : decode cX3_known 12 = .ok (.aload_n 0, 1) := by decide +kernel
theorem dX3_known_13 : decode cX3_known 13 = .ok (.getfield 45, 3) := by decide +kernel
theorem dX3_known_16 : decode cX3_known 16 = .ok (.iload_n 1, 1) := by decide +kernel
theorem dX3_known_17 : decode cX3_known 17 = .ok (.iaload, 1) := by decide +kernel
theorem dX3_known_18 : decode cX3_known 18 = .ok (.goto 8, 3) := by decide +kernel
theorem dX3_known_21 : decode cX3_known 21 = .ok (.aload_n 0, 1) := by decide +kernel
theorem dX3_known_22 : decode cX3_known 22 = .ok (.iconst 1, 1) := by decide +kernel
theorem dX3_known_23 : decode cX3_known 23 = .ok (.invokevirtual 139, 3) := by decide +kernel
theorem dX3_known_26 : decode cX3_known 26 = .ok (.ireturn, 1) := by decide +kernel
theorem dX3_barsHash_0 : decode cX3_barsHash 0 = .ok (.iload_n 2, 1) := by decide +kernel
theorem dX3_barsHash_1 : decode cX3_barsHash 1 = .ok (.invokestatic 142, 3) := by decide +kernel
theorem dX3_barsHash_4 : decode cX3_barsHash 4 = .ok (.ifCond .ne 7, 3) := by decide +kernel
theorem dX3_barsHash_7 : decode cX3_barsHash 7 = .ok (.iconst 1, 1) := by decide +kernel
theorem dX3_barsHash_8 : decode cX3_barsHash 8 = .ok (.goto 16, 3) := by decide +kernel
theorem dX3_barsHash_11 : decode cX3_barsHash 11 = .ok (.aload_n 0, 1) := by decide +kernel
theorem dX3_barsHash_12 : decode cX3_barsHash 12 = .ok (.iload_n 1, 1) := by decide +kernel
theorem dX3_barsHash_13 : decode cX3_barsHash 13 = .ok (.invokevirtual 99, 3) := by decide +kernel
theorem dX3_barsHash_16 : decode cX3_barsHash 16 = .ok (.ifCond .eq 7, 3) := by decide +kernel
theorem dX3_barsHash_19 : decode cX3_barsHash 19 = .ok (.iconst 0, 1) := by decide +kernel
theorem dX3_barsHash_20 : decode cX3_barsHash 20 = .ok (.goto 4, 3) := by decide +kernel
theorem dX3_barsHash_23 : decode cX3_barsHash 23 = .ok (.iconst 2, 1) := by decide +kernel
theorem dX3_barsHash_24 : decode cX3_barsHash 24 = .ok (.ireturn, 1) := by decide +kernel
theorem dX3_count_0 : decode cX3_count 0 = .ok (.iconst 0, 1) := by decide +kernel
theorem dX3_count_1 : decode cX3_count 1 = .ok (.istore_n 2, 1) := by decide +kernel
theorem dX3_count_2 : decode cX3_count 2 = .ok (.iconst 0, 1) := by decide +kernel
theorem dX3_count_3 : decode cX3_count 3 = .ok (.istore_n 3, 1) := by decide +kernel
theorem dX3_count_4 : decode cX3_count 4 = .ok (.iload_n 3, 1) := by decide +kernel
theorem dX3_count_5 : decode cX3_count 5 = .ok (.bipush 8, 2) := by decide +kernel
theorem dX3_count_7 : decode cX3_count 7 = .ok (.if_icmp .ge 31, 3) := by decide +kernel
theorem dX3_count_10 : decode cX3_count 10 = .ok (.iload_n 2, 1) := by decide +kernel
theorem dX3_count_11 : decode cX3_count 11 = .ok (.aload_n 0, 1) := by decide +kernel
theorem dX3_count_12 : decode cX3_count 12 = .ok (.getfield 30, 3) := by decide +kernel
theorem dX3_count_15 : decode cX3_count 15 = .ok (.bipush 8, 2) := by decide +kernel
theorem dX3_count_17 : decode cX3_count 17 = .ok (.iload_n 1, 1) := by decide +kernel
theorem dX3_count_18 : decode cX3_count 18 = .ok (.imul, 1) := by decide +kernel
theorem dX3_count_19 : decode cX3_count 19 = .ok (.iload_n 3, 1) := by decide +kernel
theorem dX3_count_20 : decode cX3_count 20 = .ok (.iadd, 1) := by decide +kernel
theorem dX3_count_21 : decode cX3_count 21 = .ok (.iaload, 1) := by decide +kernel
theorem dX3_count_22 : decode cX3_count 22 = .ok (.ifCond .le 7, 3) := by decide +kernel
theorem dX3_count_25 : decode cX3_count 25 = .ok (.iconst 1, 1) := by decide +kernel
theorem dX3_count_26 : decode cX3_count 26 = .ok (.goto 4, 3) := by decide +kernel
theorem dX3_count_29 : decode cX3_count 29 = .ok (.iconst 0, 1) := by decide +kernel
theorem dX3_count_30 : decode cX3_count 30 = .ok (.iadd, 1) := by decide +kernel
theorem dX3_count_31 : decode cX3_count 31 = .ok (.istore_n 2, 1) := by decide +kernel
theorem dX3_count_32 : decode cX3_count 32 = .ok (.iinc 3 1, 3) := by decide +kernel
theorem dX3_count_35 : decode cX3_count 35 = .ok (.goto (-31), 3) := by decide +kernel
theorem dX3_count_38 : decode cX3_count 38 = .ok (.iload_n 2, 1) := by decide +kernel
theorem dX3_count_39 : decode cX3_count 39 = .ok (.ireturn, 1) := by decide +kernel
theorem dX3_split_0 : decode cX3_split 0 = .ok (.aload_n 0, 1) := by decide +kernel
theorem dX3_split_1 : decode cX3_split 1 = .ok (.aload_n 0, 1) := by decide +kernel
theorem dX3_split_2 : decode cX3_split 2 = .ok (.iload_n 1, 1) := by decide +kernel
theorem dX3_split_3 : decode cX3_split 3 = .ok (.iload_n 2, 1) := by decide +kernel
theorem dX3_split_4 : decode cX3_split 4 = .ok (.invokevirtual 145, 3) := by decide +kernel
theorem dX3_split_7 : decode cX3_split 7 = .ok (.putfield 55, 3) := by decide +kernel
theorem dX3_split_10 : decode cX3_split 10 = .ok (.aload_n 0, 1) := by decide +kernel
theorem dX3_split_11 : decode cX3_split 11 = .ok (.getfield 55, 3) := by decide +kernel
theorem dX3_split_14 : decode cX3_split 14 = .ok (.ifCond .le 7, 3) := by decide +kernel
theorem dX3_split_17 : decode cX3_split 17 = .ok (.iconst 0, 1) := by decide +kernel
theorem dX3_split_18 : decode cX3_split 18 = .ok (.goto 9, 3) := by decide +kernel
theorem dX3_split_21 : decode cX3_split 21 = .ok (.aload_n 0, 1) := by decide +kernel
theorem dX3_split_22 : decode cX3_split 22 = .ok (.iload_n 1, 1) := by decide +kernel
theorem dX3_split_23 : decode cX3_split 23 = .ok (.iload_n 2, 1) := by decide +kernel
theorem dX3_split_24 : decode cX3_split 24 = .ok (.invokevirtual 66, 3) := by decide +kernel
theorem dX3_split_27 : decode cX3_split 27 = .ok (.istore_n 3, 1) := by decide +kernel
theorem dX3_split_28 : decode cX3_split 28 = .ok (.aload_n 0, 1) := by decide +kernel
theorem dX3_split_29 : decode cX3_split 29 = .ok (.aload_n 0, 1) := by decide +kernel
theorem dX3_split_30 : decode cX3_split 30 = .ok (.getfield 55, 3) := by decide +kernel
theorem dX3_split_33 : decode cX3_split 33 = .ok (.ifCond .ne 25, 3) := by decide +kernel
theorem dX3_split_36 : decode cX3_split 36 = .ok (.aload_n 0, 1) := by decide +kernel
theorem dX3_split_37 : decode cX3_split 37 = .ok (.getfield 30, 3) := by decide +kernel
theorem dX3_split_40 : decode cX3_split 40 = .ok (.iload_n 3, 1) := by decide +kernel
theorem dX3_split_41 : decode cX3_split 41 = .ok (.iaload, 1) := by decide +kernel
theorem dX3_split_42 : decode cX3_split 42 = .ok (.iconst 1, 1) := by decide +kernel
theorem dX3_split_43 : decode cX3_split 43 = .ok (.if_icmp .eq 11, 3) := by decide +kernel
theorem dX3_split_46 : decode cX3_split 46 = .ok (.aload_n 0, 1) := by decide +kernel
theorem dX3_split_47 : decode cX3_split 47 = .ok (.iload_n 3, 1) := by decide +kernel
theorem dX3_split_48 : decode cX3_split 48 = .ok (.invokevirtual 76, 3) := by decide +kernel
theorem dX3_split_51 : decode cX3_split 51 = .ok (.ifCond .eq 7, 3) := by decide +kernel
theorem dX3_split_54 : decode cX3_split 54 = .ok (.iconst 3, 1) := by decide +kernel
theorem dX3_split_55 : decode cX3_split 55 = .ok (.goto 7, 3) := by decide +kernel
theorem dX3_split_58 : decode cX3_split 58 = .ok (.aload_n 0, 1) := by decide +kernel
theorem dX3_split_59 : decode cX3_split 59 = .ok (.getfield 55, 3) := by decide +kernel
theorem dX3_split_62 : decode cX3_split 62 = .ok (.putfield 55, 3) := by decide +kernel
theorem dX3_split_65 : decode cX3_split 65 = .ok (.aload_n 0, 1) := by decide +kernel
theorem dX3_split_66 : decode cX3_split 66 = .ok (.getfield 55, 3) := by decide +kernel
theorem dX3_split_69 : decode cX3_split 69 = .ok (.ifCond .le 5, 3) := by decide +kernel
theorem dX3_split_72 : decode cX3_split 72 = .ok (.iconst 0, 1) := by decide +kernel
theorem dX3_split_73 : decode cX3_split 73 = .ok (.ireturn, 1) := by decide +kernel
theorem dX3_split_74 : decode cX3_split 74 = .ok (.aload_n 0, 1) := by decide +kernel
theorem dX3_split_75 : decode cX3_split 75 = .ok (.getfield 30, 3) := by decide +kernel
theorem dX3_split_78 : decode cX3_split 78 = .ok (.iload_n 3, 1) := by decide +kernel
theorem dX3_split_79 : decode cX3_split 79 = .ok (.iaload, 1) := by decide +kernel
theorem dX3_split_80 : decode cX3_split 80 = .ok (.iconst 2, 1) := by decide +kernel
theorem dX3_split_81 : decode cX3_split 81 = .ok (.idiv, 1) := by decide +kernel
theorem dX3_split_82 : decode cX3_split 82 = .ok (.istore 4, 2) := by decide +kernel
theorem dX3_split_84 : decode cX3_split 84 = .ok (.aload_n 0, 1) := by decide +kernel
theorem dX3_split_85 : decode cX3_split 85 = .ok (.getfield 30, 3) := by decide +kernel
theorem dX3_split_88 : decode cX3_split 88 = .ok (.iload_n 3, 1) := by decide +kernel
theorem dX3_split_89 : decode cX3_split 89 = .ok (.iload 4, 2) := by decide +kernel
theorem dX3_split_91 : decode cX3_split 91 = .ok (.iastore, 1) := by decide +kernel
theorem dX3_split_92 : decode cX3_split 92 = .ok (.aload_n 0, 1) := by decide +kernel
theorem dX3_split_93 : decode cX3_split 93 = .ok (.getfield 30, 3) := by decide +kernel
theorem dX3_split_96 : decode cX3_split 96 = .ok (.iload_n 3, 1) := by decide +kernel
theorem dX3_split_97 : decode cX3_split 97 = .ok (.iload 4, 2) := by decide +kernel
theorem dX3_split_99 : decode cX3_split 99 = .ok (.iadd, 1) := by decide +kernel
theorem dX3_split_100 : decode cX3_split 100 = .ok (.iload 4, 2) := by decide +kernel
theorem dX3_split_102 : decode cX3_split 102 = .ok (.iastore, 1) := by decide +kernel
theorem dX3_split_103 : decode cX3_split 103 = .ok (.aload_n 0, 1) := by decide +kernel
theorem dX3_split_104 : decode cX3_split 104 = .ok (.getfield 33, 3) := by decide +kernel
theorem dX3_split_107 : decode cX3_split 107 = .ok (.iload_n 3, 1) := by decide +kernel
theorem dX3_split_108 : decode cX3_split 108 = .ok (.iload 4, 2) := by decide +kernel
theorem dX3_split_110 : decode cX3_split 110 = .ok (.iadd, 1) := by decide +kernel
theorem dX3_split_111 : decode cX3_split 111 = .ok (.aload_n 0, 1) := by decide +kernel
theorem dX3_split_112 : decode cX3_split 112 = .ok (.getfield 33, 3) := by decide +kernel
theorem dX3_split_115 : decode cX3_split 115 = .ok (.iload_n 3, 1) := by decide +kernel
theorem dX3_split_116 : decode cX3_split 116 = .ok (.iaload, 1) := by decide +kernel
theorem dX3_split_117 : decode cX3_split 117 = .ok (.iastore, 1) := by decide +kernel
theorem dX3_split_118 : decode cX3_split 118 = .ok (.aload_n 0, 1) := by decide +kernel
theorem dX3_split_119 : decode cX3_split 119 = .ok (.getfield 36, 3) := by decide +kernel
theorem dX3_split_122 : decode cX3_split 122 = .ok (.iload_n 3, 1) := by decide +kernel
theorem dX3_split_123 : decode cX3_split 123 = .ok (.iload 4, 2) := by decide +kernel
theorem dX3_split_125 : decode cX3_split 125 = .ok (.iadd, 1) := by decide +kernel
theorem dX3_split_126 : decode cX3_split 126 = .ok (.aload_n 0, 1) := by decide +kernel
theorem dX3_split_127 : decode cX3_split 127 = .ok (.getfield 36, 3) := by decide +kernel
theorem dX3_split_130 : decode cX3_split 130 = .ok (.iload_n 3, 1) := by decide +kernel
theorem dX3_split_131 : decode cX3_split 131 = .ok (.iaload, 1) := by decide +kernel
theorem dX3_split_132 : decode cX3_split 132 = .ok (.iconst 2, 1) := by decide +kernel
theorem dX3_split_133 : decode cX3_split 133 = .ok (.idiv, 1) := by decide +kernel
theorem dX3_split_134 : decode cX3_split 134 = .ok (.iastore, 1) := by decide +kernel
theorem dX3_split_135 : decode cX3_split 135 = .ok (.aload_n 0, 1) := by decide +kernel
theorem dX3_split_136 : decode cX3_split 136 = .ok (.getfield 36, 3) := by decide +kernel
theorem dX3_split_139 : decode cX3_split 139 = .ok (.iload_n 3, 1) := by decide +kernel
theorem dX3_split_140 : decode cX3_split 140 = .ok (.dup2, 1) := by decide +kernel
theorem dX3_split_141 : decode cX3_split 141 = .ok (.iaload, 1) := by decide +kernel
theorem dX3_split_142 : decode cX3_split 142 = .ok (.aload_n 0, 1) := by decide +kernel
theorem dX3_split_143 : decode cX3_split 143 = .ok (.getfield 36, 3) := by decide +kernel
theorem dX3_split_146 : decode cX3_split 146 = .ok (.iload_n 3, 1) := by decide +kernel
theorem dX3_split_147 : decode cX3_split 147 = .ok (.iload 4, 2) := by decide +kernel
theorem dX3_split_149 : decode cX3_split 149 = .ok (.iadd, 1) := by decide +kernel
theorem dX3_split_150 : decode cX3_split 150 = .ok (.iaload, 1) := by decide +kernel
theorem dX3_split_151 : decode cX3_split 151 = .ok (.isub, 1) := by decide +kernel
theorem dX3_split_152 : decode cX3_split 152 = .ok (.iastore, 1) := by decide +kernel
theorem dX3_split_153 : decode cX3_split 153 = .ok (.aload_n 0, 1) := by decide +kernel
theorem dX3_split_154 : decode cX3_split 154 = .ok (.iload_n 1, 1) := by decide +kernel
theorem dX3_split_155 : decode cX3_split 155 = .ok (.invokevirtual 148, 3) := by decide +kernel
theorem dX3_split_158 : decode cX3_split 158 = .ok (.ireturn, 1) := by decide +kernel
theorem dX3_merge_0 : decode cX3_merge 0 = .ok (.aload_n 0, 1) := by decide +kernel
theorem dX3_merge_1 : decode cX3_merge 1 = .ok (.aload_n 0, 1) := by decide +kernel
theorem dX3_merge_2 : decode cX3_merge 2 = .ok (.iload_n 1, 1) := by decide +kernel
theorem dX3_merge_3 : decode cX3_merge 3 = .ok (.iload_n 2, 1) := by decide +kernel
theorem dX3_merge_4 : decode cX3_merge 4 = .ok (.invokevirtual 145, 3) := by decide +kernel
theorem dX3_merge_7 : decode cX3_merge 7 = .ok (.putfield 55, 3) := by decide +kernel
theorem dX3_merge_10 : decode cX3_merge 10 = .ok (.aload_n 0, 1) := by decide +kernel
theorem dX3_merge_11 : decode cX3_merge 11 = .ok (.getfield 55, 3) := by decide +kernel
theorem dX3_merge_14 : decode cX3_merge 14 = .ok (.ifCond .le 5, 3) := by decide +kernel
theorem dX3_merge_17 : decode cX3_merge 17 = .ok (.iconst 0, 1) := by decide +kernel
theorem dX3_merge_18 : decode cX3_merge 18 = .ok (.ireturn, 1) := by decide +kernel
theorem dX3_merge_19 : decode cX3_merge 19 = .ok (.aload_n 0, 1) := by decide +kernel
theorem dX3_merge_20 : decode cX3_merge 20 = .ok (.iload_n 1, 1) := by decide +kernel
theorem dX3_merge_21 : decode cX3_merge 21 = .ok (.iload_n 2, 1) := by decide +kernel
theorem dX3_merge_22 : decode cX3_merge 22 = .ok (.invokevirtual 66, 3) := by decide +kernel
theorem dX3_merge_25 : decode cX3_merge 25 = .ok (.istore_n 3, 1) := by decide +kernel
theorem dX3_merge_26 : decode cX3_merge 26 = .ok (.aload_n 0, 1) := by decide +kernel
theorem dX3_merge_27 : decode cX3_merge 27 = .ok (.getfield 30, 3) := by decide +kernel
theorem dX3_merge_30 : decode cX3_merge 30 = .ok (.iload_n 3, 1) := by decide +kernel
theorem dX3_merge_31 : decode cX3_merge 31 = .ok (.iaload, 1) := by decide +kernel
theorem dX3_merge_32 : decode cX3_merge 32 = .ok (.istore 4, 2) := by decide +kernel
theorem dX3_merge_34 : decode cX3_merge 34 = .ok (.iload_n 3, 1) := by decide +kernel
theorem dX3_merge_35 : decode cX3_merge 35 = .ok (.bipush 8, 2) := by decide +kernel
theorem dX3_merge_37 : decode cX3_merge 37 = .ok (.irem, 1) := by decide +kernel
theorem dX3_merge_38 : decode cX3_merge 38 = .ok (.istore 5, 2) := by decide +kernel
theorem dX3_merge_40 : decode cX3_merge 40 = .ok (.iload 5, 2) := by decide +kernel
theorem dX3_merge_42 : decode cX3_merge 42 = .ok (.iconst 2, 1) := by decide +kernel
theorem dX3_merge_43 : decode cX3_merge 43 = .ok (.iload 4, 2) := by decide +kernel
theorem dX3_merge_45 : decode cX3_merge 45 = .ok (.imul, 1) := by decide +kernel
theorem dX3_merge_46 : decode cX3_merge 46 = .ok (.irem, 1) := by decide +kernel
theorem dX3_merge_47 : decode cX3_merge 47 = .ok (.ifCond .ne 7, 3) := by decide +kernel
theorem dX3_merge_50 : decode cX3_merge 50 = .ok (.iload_n 3, 1) := by decide +kernel
theorem dX3_merge_51 : decode cX3_merge 51 = .ok (.goto 7, 3) := by decide +kernel
theorem dX3_merge_54 : decode cX3_merge 54 = .ok (.iload_n 3, 1) := by decide +kernel
theorem dX3_merge_55 : decode cX3_merge 55 = .ok (.iload 4, 2) := by decide +kernel
theorem dX3_merge_57 : decode cX3_merge 57 = .ok (.isub, 1) := by decide +kernel
theorem dX3_merge_58 : decode cX3_merge 58 = .ok (.istore 6, 2) := by decide +kernel
theorem dX3_merge_60 : decode cX3_merge 60 = .ok (.iload 6, 2) := by decide +kernel
theorem dX3_merge_62 : decode cX3_merge 62 = .ok (.iload 4, 2) := by decide +kernel
theorem dX3_merge_64 : decode cX3_merge 64 = .ok (.iadd, 1) := by decide +kernel
theorem dX3_merge_65 : decode cX3_merge 65 = .ok (.istore 7, 2) := by decide +kernel
theorem dX3_merge_67 : decode cX3_merge 67 = .ok (.aload_n 0, 1) := by decide +kernel
theorem dX3_merge_68 : decode cX3_merge 68 = .ok (.iload 4, 2) := by decide +kernel
theorem dX3_merge_70 : decode cX3_merge 70 = .ok (.bipush 8, 2) := by decide +kernel
theorem dX3_merge_72 : decode cX3_merge 72 = .ok (.if_icmp .ne 7, 3) := by decide +kernel
theorem dX3_merge_75 : decode cX3_merge 75 = .ok (.iconst 3, 1) := by decide +kernel
theorem dX3_merge_76 : decode cX3_merge 76 = .ok (.goto 4, 3) := by decide +kernel
theorem dX3_merge_79 : decode cX3_merge 79 = .ok (.iconst 0, 1) := by decide +kernel
theorem dX3_merge_80 : decode cX3_merge 80 = .ok (.putfield 55, 3) := by decide +kernel
theorem dX3_merge_83 : decode cX3_merge 83 = .ok (.aload_n 0, 1) := by decide +kernel
theorem dX3_merge_84 : decode cX3_merge 84 = .ok (.aload_n 0, 1) := by decide +kernel
theorem dX3_merge_85 : decode cX3_merge 85 = .ok (.getfield 55, 3) := by decide +kernel
theorem dX3_merge_88 : decode cX3_merge 88 = .ok (.ifCond .ne 31, 3) := by decide +kernel
theorem dX3_merge_91 : decode cX3_merge 91 = .ok (.aload_n 0, 1) := by decide +kernel
theorem dX3_merge_92 : decode cX3_merge 92 = .ok (.getfield 30, 3) := by decide +kernel
theorem dX3_merge_95 : decode cX3_merge 95 = .ok (.iload 6, 2) := by decide +kernel
theorem dX3_merge_97 : decode cX3_merge 97 = .ok (.iaload, 1) := by decide +kernel
theorem dX3_merge_98 : decode cX3_merge 98 = .ok (.iload 4, 2) := by decide +kernel
theorem dX3_merge_100 : decode cX3_merge 100 = .ok (.if_icmp .ne 15, 3) := by decide +kernel
theorem dX3_merge_103 : decode cX3_merge 103 = .ok (.aload_n 0, 1) := by decide +kernel
theorem dX3_merge_104 : decode cX3_merge 104 = .ok (.getfield 30, 3) := by decide +kernel
theorem dX3_merge_107 : decode cX3_merge 107 = .ok (.iload 7, 2) := by decide +kernel
theorem dX3_merge_109 : decode cX3_merge 109 = .ok (.iaload, 1) := by decide +kernel
theorem dX3_merge_110 : decode cX3_merge 110 = .ok (.iload 4, 2) := by decide +kernel
theorem dX3_merge_112 : decode cX3_merge 112 = .ok (.if_icmp .eq 7, 3) := by decide +kernel
theorem dX3_merge_115 : decode cX3_merge 115 = .ok (.iconst 3, 1) := by decide +kernel
theorem dX3_merge_116 : decode cX3_merge 116 = .ok (.goto 7, 3) := by decide +kernel
theorem dX3_merge_119 : decode cX3_merge 119 = .ok (.aload_n 0, 1) := by decide +kernel
theorem dX3_merge_120 : decode cX3_merge 120 = .ok (.getfield 55, 3) := by decide +kernel
theorem dX3_merge_123 : decode cX3_merge 123 = .ok (.putfield 55, 3) := by decide +kernel
theorem dX3_merge_126 : decode cX3_merge 126 = .ok (.aload_n 0, 1) := by decide +kernel
theorem dX3_merge_127 : decode cX3_merge 127 = .ok (.aload_n 0, 1) := by decide +kernel
theorem dX3_merge_128 : decode cX3_merge 128 = .ok (.getfield 55, 3) := by decide +kernel
theorem dX3_merge_131 : decode cX3_merge 131 = .ok (.ifCond .ne 42, 3) := by decide +kernel
theorem dX3_merge_134 : decode cX3_merge 134 = .ok (.aload_n 0, 1) := by decide +kernel
theorem dX3_merge_135 : decode cX3_merge 135 = .ok (.getfield 33, 3) := by decide +kernel
theorem dX3_merge_138 : decode cX3_merge 138 = .ok (.iload 6, 2) := by decide +kernel
theorem dX3_merge_140 : decode cX3_merge 140 = .ok (.iaload, 1) := by decide +kernel
theorem dX3_merge_141 : decode cX3_merge 141 = .ok (.aload_n 0, 1) := by decide +kernel
theorem dX3_merge_142 : decode cX3_merge 142 = .ok (.getfield 33, 3) := by decide +kernel
theorem dX3_merge_145 : decode cX3_merge 145 = .ok (.iload 7, 2) := by decide +kernel
theorem dX3_merge_147 : decode cX3_merge 147 = .ok (.iaload, 1) := by decide +kernel
theorem dX3_merge_148 : decode cX3_merge 148 = .ok (.if_icmp .ne 21, 3) := by decide +kernel
theorem dX3_merge_151 : decode cX3_merge 151 = .ok (.aload_n 0, 1) := by decide +kernel
theorem dX3_merge_152 : decode cX3_merge 152 = .ok (.iload 6, 2) := by decide +kernel
theorem dX3_merge_154 : decode cX3_merge 154 = .ok (.invokevirtual 76, 3) := by decide +kernel
theorem dX3_merge_157 : decode cX3_merge 157 = .ok (.ifCond .ne 12, 3) := by decide +kernel
theorem dX3_merge_160 : decode cX3_merge 160 = .ok (.aload_n 0, 1) := by decide +kernel
theorem dX3_merge_161 : decode cX3_merge 161 = .ok (.iload 7, 2) := by decide +kernel
theorem dX3_merge_163 : decode cX3_merge 163 = .ok (.invokevirtual 76, 3) := by decide +kernel
theorem dX3_merge_166 : decode cX3_merge 166 = .ok (.ifCond .eq 7, 3) := by decide +kernel
theorem dX3_merge_169 : decode cX3_merge 169 = .ok (.iconst 3, 1) := by decide +kernel
theorem dX3_merge_170 : decode cX3_merge 170 = .ok (.goto 7, 3) := by decide +kernel
theorem dX3_merge_173 : decode cX3_merge 173 = .ok (.aload_n 0, 1) := by decide +kernel
theorem dX3_merge_174 : decode cX3_merge 174 = .ok (.getfield 55, 3) := by decide +kernel
theorem dX3_merge_177 : decode cX3_merge 177 = .ok (.putfield 55, 3) := by decide +kernel
theorem dX3_merge_180 : decode cX3_merge 180 = .ok (.aload_n 0, 1) := by decide +kernel
theorem dX3_merge_181 : decode cX3_merge 181 = .ok (.getfield 55, 3) := by decide +kernel
theorem dX3_merge_184 : decode cX3_merge 184 = .ok (.ifCond .le 5, 3) := by decide +kernel
theorem dX3_merge_187 : decode cX3_merge 187 = .ok (.iconst 0, 1) := by decide +kernel
theorem dX3_merge_188 : decode cX3_merge 188 = .ok (.ireturn, 1) := by decide +kernel
theorem dX3_merge_189 : decode cX3_merge 189 = .ok (.aload_n 0, 1) := by decide +kernel
theorem dX3_merge_190 : decode cX3_merge 190 = .ok (.getfield 30, 3) := by decide +kernel
theorem dX3_merge_193 : decode cX3_merge 193 = .ok (.iload 6, 2) := by decide +kernel
theorem dX3_merge_195 : decode cX3_merge 195 = .ok (.iconst 2, 1) := by decide +kernel
theorem dX3_merge_196 : decode cX3_merge 196 = .ok (.iload 4, 2) := by decide +kernel
theorem dX3_merge_198 : decode cX3_merge 198 = .ok (.imul, 1) := by decide +kernel
theorem dX3_merge_199 : decode cX3_merge 199 = .ok (.iastore, 1) := by decide +kernel
theorem dX3_merge_200 : decode cX3_merge 200 = .ok (.aload_n 0, 1) := by decide +kernel
theorem dX3_merge_201 : decode cX3_merge 201 = .ok (.getfield 30, 3) := by decide +kernel
theorem dX3_merge_204 : decode cX3_merge 204 = .ok (.iload 7, 2) := by decide +kernel
theorem dX3_merge_206 : decode cX3_merge 206 = .ok (.iconst 0, 1) := by decide +kernel
theorem dX3_merge_207 : decode cX3_merge 207 = .ok (.iastore, 1) := by decide +kernel
theorem dX3_merge_208 : decode cX3_merge 208 = .ok (.aload_n 0, 1) := by decide +kernel
theorem dX3_merge_209 : decode cX3_merge 209 = .ok (.getfield 36, 3) := by decide +kernel
theorem dX3_merge_212 : decode cX3_merge 212 = .ok (.iload 6, 2) := by decide +kernel
theorem dX3_merge_214 : decode cX3_merge 214 = .ok (.dup2, 1) := by decide +kernel
theorem dX3_merge_215 : decode cX3_merge 215 = .ok (.iaload, 1) := by decide +kernel
theorem dX3_merge_216 : decode cX3_merge 216 = .ok (.aload_n 0, 1) := by decide +kernel
theorem dX3_merge_217 : decode cX3_merge 217 = .ok (.getfield 36, 3) := by decide +kernel
theorem dX3_merge_220 : decode cX3_merge 220 = .ok (.iload 7, 2) := by decide +kernel
theorem dX3_merge_222 : decode cX3_merge 222 = .ok (.iaload, 1) := by decide +kernel
theorem dX3_merge_223 : decode cX3_merge 223 = .ok (.iadd, 1) := by decide +kernel
theorem dX3_merge_224 : decode cX3_merge 224 = .ok (.iastore, 1) := by decide +kernel
theorem dX3_merge_225 : decode cX3_merge 225 = .ok (.aload_n 0, 1) := by decide +kernel
theorem dX3_merge_226 : decode cX3_merge 226 = .ok (.iload_n 1, 1) := by decide +kernel
theorem dX3_merge_227 : decode cX3_merge 227 = .ok (.invokevirtual 148, 3) := by decide +kernel
theorem dX3_merge_230 : decode cX3_merge 230 = .ok (.ireturn, 1) := by decide +kernel
theorem dX3_fragments_0 : decode cX3_fragments 0 = .ok (.aload_n 0, 1) := by decide +kernel
theorem dX3_fragments_1 : decode cX3_fragments 1 = .ok (.iconst 0, 1) := by decide +kernel
theorem dX3_fragments_2 : decode cX3_fragments 2 = .ok (.putfield 55, 3) := by decide +kernel
theorem dX3_fragments_5 : decode cX3_fragments 5 = .ok (.aload_n 0, 1) := by decide +kernel
theorem dX3_fragments_6 : decode cX3_fragments 6 = .ok (.iload_n 1, 1) := by decide +kernel
theorem dX3_fragments_7 : decode cX3_fragments 7 = .ok (.invokevirtual 99, 3) := by decide +kernel
theorem dX3_fragments_10 : decode cX3_fragments 10 = .ok (.ifCond .eq 11, 3) := by decide +kernel
theorem dX3_fragments_13 : decode cX3_fragments 13 = .ok (.aload_n 0, 1) := by decide +kernel
theorem dX3_fragments_14 : decode cX3_fragments 14 = .ok (.iload_n 1, 1) := by decide +kernel
theorem dX3_fragments_15 : decode cX3_fragments 15 = .ok (.invokevirtual 148, 3) := by decide +kernel
theorem dX3_fragments_18 : decode cX3_fragments 18 = .ok (.goto 8, 3) := by decide +kernel
theorem dX3_fragments_21 : decode cX3_fragments 21 = .ok (.aload_n 0, 1) := by decide +kernel
theorem dX3_fragments_22 : decode cX3_fragments 22 = .ok (.iconst 1, 1) := by decide +kernel
theorem dX3_fragments_23 : decode cX3_fragments 23 = .ok (.invokevirtual 139, 3) := by decide +kernel
theorem dX3_fragments_26 : decode cX3_fragments 26 = .ok (.ireturn, 1) := by decide +kernel
theorem dX3_barsPlain_0 : decode cX3_barsPlain 0 = .ok (.iload_n 2, 1) := by decide +kernel
theorem dX3_barsPlain_1 : decode cX3_barsPlain 1 = .ok (.invokestatic 96, 3) := by decide +kernel
theorem dX3_barsPlain_4 : decode cX3_barsPlain 4 = .ok (.ifCond .ne 7, 3) := by decide +kernel
theorem dX3_barsPlain_7 : decode cX3_barsPlain 7 = .ok (.iconst 1, 1) := by decide +kernel
theorem dX3_barsPlain_8 : decode cX3_barsPlain 8 = .ok (.goto 16, 3) := by decide +kernel
theorem dX3_barsPlain_11 : decode cX3_barsPlain 11 = .ok (.aload_n 0, 1) := by decide +kernel
theorem dX3_barsPlain_12 : decode cX3_barsPlain 12 = .ok (.iload_n 1, 1) := by decide +kernel
theorem dX3_barsPlain_13 : decode cX3_barsPlain 13 = .ok (.invokevirtual 99, 3) := by decide +kernel
theorem dX3_barsPlain_16 : decode cX3_barsPlain 16 = .ok (.ifCond .eq 7, 3) := by decide +kernel
theorem dX3_barsPlain_19 : decode cX3_barsPlain 19 = .ok (.iconst 0, 1) := by decide +kernel
theorem dX3_barsPlain_20 : decode cX3_barsPlain 20 = .ok (.goto 4, 3) := by decide +kernel
theorem dX3_barsPlain_23 : decode cX3_barsPlain 23 = .ok (.iconst 2, 1) := by decide +kernel
theorem dX3_barsPlain_24 : decode cX3_barsPlain 24 = .ok (.ireturn, 1) := by decide +kernel
theorem dX3_serverOf_0 : decode cX3_serverOf 0 = .ok (.aload_n 0, 1) := by decide +kernel
theorem dX3_serverOf_1 : decode cX3_serverOf 1 = .ok (.aload_n 0, 1) := by decide +kernel
theorem dX3_serverOf_2 : decode cX3_serverOf 2 = .ok (.iload_n 1, 1) := by decide +kernel
theorem dX3_serverOf_3 : decode cX3_serverOf 3 = .ok (.iload_n 2, 1) := by decide +kernel
theorem dX3_serverOf_4 : decode cX3_serverOf 4 = .ok (.invokevirtual 151, 3) := by decide +kernel
theorem dX3_serverOf_7 : decode cX3_serverOf 7 = .ok (.putfield 55, 3) := by decide +kernel
theorem dX3_serverOf_10 : decode cX3_serverOf 10 = .ok (.aload_n 0, 1) := by decide +kernel
theorem dX3_serverOf_11 : decode cX3_serverOf 11 = .ok (.getfield 55, 3) := by decide +kernel
theorem dX3_serverOf_14 : decode cX3_serverOf 14 = .ok (.ifCond .le 7, 3) := by decide +kernel
theorem dX3_serverOf_17 : decode cX3_serverOf 17 = .ok (.iconst 0, 1) := by decide +kernel
theorem dX3_serverOf_18 : decode cX3_serverOf 18 = .ok (.goto 13, 3) := by decide +kernel
theorem dX3_serverOf_21 : decode cX3_serverOf 21 = .ok (.aload_n 0, 1) := by decide +kernel
theorem dX3_serverOf_22 : decode cX3_serverOf 22 = .ok (.aload_n 0, 1) := by decide +kernel
theorem dX3_serverOf_23 : decode cX3_serverOf 23 = .ok (.iload_n 1, 1) := by decide +kernel
theorem dX3_serverOf_24 : decode cX3_serverOf 24 = .ok (.iload_n 2, 1) := by decide +kernel
theorem dX3_serverOf_25 : decode cX3_serverOf 25 = .ok (.invokevirtual 70, 3) := by decide +kernel
theorem dX3_serverOf_28 : decode cX3_serverOf 28 = .ok (.invokevirtual 154, 3) := by decide +kernel
theorem dX3_serverOf_31 : decode cX3_serverOf 31 = .ok (.ireturn, 1) := by decide +kernel
theorem dX3_ownerOf_0 : decode cX3_ownerOf 0 = .ok (.aload_n 0, 1) := by decide +kernel
theorem dX3_ownerOf_1 : decode cX3_ownerOf 1 = .ok (.aload_n 0, 1) := by decide +kernel
theorem dX3_ownerOf_2 : decode cX3_ownerOf 2 = .ok (.iload_n 1, 1) := by decide +kernel
theorem dX3_ownerOf_3 : decode cX3_ownerOf 3 = .ok (.iload_n 2, 1) := by decide +kernel
theorem dX3_ownerOf_4 : decode cX3_ownerOf 4 = .ok (.invokevirtual 145, 3) := by decide +kernel
theorem dX3_ownerOf_7 : decode cX3_ownerOf 7 = .ok (.putfield 55, 3) := by decide +kernel
theorem dX3_ownerOf_10 : decode cX3_ownerOf 10 = .ok (.aload_n 0, 1) := by decide +kernel
theorem dX3_ownerOf_11 : decode cX3_ownerOf 11 = .ok (.getfield 55, 3) := by decide +kernel
theorem dX3_ownerOf_14 : decode cX3_ownerOf 14 = .ok (.ifCond .le 7, 3) := by decide +kernel
theorem dX3_ownerOf_17 : decode cX3_ownerOf 17 = .ok (.iconst 0, 1) := by decide +kernel
theorem dX3_ownerOf_18 : decode cX3_ownerOf 18 = .ok (.goto 14, 3) := by decide +kernel
theorem dX3_ownerOf_21 : decode cX3_ownerOf 21 = .ok (.aload_n 0, 1) := by decide +kernel
theorem dX3_ownerOf_22 : decode cX3_ownerOf 22 = .ok (.getfield 33, 3) := by decide +kernel
theorem dX3_ownerOf_25 : decode cX3_ownerOf 25 = .ok (.aload_n 0, 1) := by decide +kernel
theorem dX3_ownerOf_26 : decode cX3_ownerOf 26 = .ok (.iload_n 1, 1) := by decide +kernel
theorem dX3_ownerOf_27 : decode cX3_ownerOf 27 = .ok (.iload_n 2, 1) := by decide +kernel
theorem dX3_ownerOf_28 : decode cX3_ownerOf 28 = .ok (.invokevirtual 66, 3) := by decide +kernel
theorem dX3_ownerOf_31 : decode cX3_ownerOf 31 = .ok (.iaload, 1) := by decide +kernel
theorem dX3_ownerOf_32 : decode cX3_ownerOf 32 = .ok (.ireturn, 1) := by decide +kernel
theorem dX3_loadOf_0 : decode cX3_loadOf 0 = .ok (.iconst 0, 1) := by decide +kernel
theorem dX3_loadOf_1 : decode cX3_loadOf 1 = .ok (.istore_n 2, 1) := by decide +kernel
theorem dX3_loadOf_2 : decode cX3_loadOf 2 = .ok (.iconst 0, 1) := by decide +kernel
theorem dX3_loadOf_3 : decode cX3_loadOf 3 = .ok (.istore_n 3, 1) := by decide +kernel
theorem dX3_loadOf_4 : decode cX3_loadOf 4 = .ok (.iload_n 3, 1) := by decide +kernel
theorem dX3_loadOf_5 : decode cX3_loadOf 5 = .ok (.bipush 8, 2) := by decide +kernel
theorem dX3_loadOf_7 : decode cX3_loadOf 7 = .ok (.aload_n 0, 1) := by decide +kernel
theorem dX3_loadOf_8 : decode cX3_loadOf 8 = .ok (.getfield 7, 3) := by decide +kernel
theorem dX3_loadOf_11 : decode cX3_loadOf 11 = .ok (.imul, 1) := by decide +kernel
theorem dX3_loadOf_12 : decode cX3_loadOf 12 = .ok (.if_icmp .ge 40, 3) := by decide +kernel
theorem dX3_loadOf_15 : decode cX3_loadOf 15 = .ok (.iload_n 2, 1) := by decide +kernel
theorem dX3_loadOf_16 : decode cX3_loadOf 16 = .ok (.aload_n 0, 1) := by decide +kernel
theorem dX3_loadOf_17 : decode cX3_loadOf 17 = .ok (.getfield 30, 3) := by decide +kernel
theorem dX3_loadOf_20 : decode cX3_loadOf 20 = .ok (.iload_n 3, 1) := by decide +kernel
theorem dX3_loadOf_21 : decode cX3_loadOf 21 = .ok (.iaload, 1) := by decide +kernel
theorem dX3_loadOf_22 : decode cX3_loadOf 22 = .ok (.ifCond .le 21, 3) := by decide +kernel
theorem dX3_loadOf_25 : decode cX3_loadOf 25 = .ok (.aload_n 0, 1) := by decide +kernel
theorem dX3_loadOf_26 : decode cX3_loadOf 26 = .ok (.iload_n 3, 1) := by decide +kernel
theorem dX3_loadOf_27 : decode cX3_loadOf 27 = .ok (.invokevirtual 154, 3) := by decide +kernel
theorem dX3_loadOf_30 : decode cX3_loadOf 30 = .ok (.iload_n 1, 1) := by decide +kernel
theorem dX3_loadOf_31 : decode cX3_loadOf 31 = .ok (.if_icmp .ne 12, 3) := by decide +kernel
theorem dX3_loadOf_34 : decode cX3_loadOf 34 = .ok (.aload_n 0, 1) := by decide +kernel
theorem dX3_loadOf_35 : decode cX3_loadOf 35 = .ok (.getfield 36, 3) := by decide +kernel
theorem dX3_loadOf_38 : decode cX3_loadOf 38 = .ok (.iload_n 3, 1) := by decide +kernel
theorem dX3_loadOf_39 : decode cX3_loadOf 39 = .ok (.iaload, 1) := by decide +kernel
theorem dX3_loadOf_40 : decode cX3_loadOf 40 = .ok (.goto 4, 3) := by decide +kernel
theorem dX3_loadOf_43 : decode cX3_loadOf 43 = .ok (.iconst 0, 1) := by decide +kernel
theorem dX3_loadOf_44 : decode cX3_loadOf 44 = .ok (.iadd, 1) := by decide +kernel
theorem dX3_loadOf_45 : decode cX3_loadOf 45 = .ok (.istore_n 2, 1) := by decide +kernel
theorem dX3_loadOf_46 : decode cX3_loadOf 46 = .ok (.iinc 3 1, 3) := by decide +kernel
theorem dX3_loadOf_49 : decode cX3_loadOf 49 = .ok (.goto (-45), 3) := by decide +kernel
theorem dX3_loadOf_52 : decode cX3_loadOf 52 = .ok (.iload_n 2, 1) := by decide +kernel
theorem dX3_loadOf_53 : decode cX3_loadOf 53 = .ok (.ireturn, 1) := by decide +kernel
theorem dX3_load_0 : decode cX3_load 0 = .ok (.aload_n 0, 1) := by decide +kernel
theorem dX3_load_1 : decode cX3_load 1 = .ok (.iload_n 1, 1) := by decide +kernel
theorem dX3_load_2 : decode cX3_load 2 = .ok (.iconst 0, 1) := by decide +kernel
theorem dX3_load_3 : decode cX3_load 3 = .ok (.iconst 3, 1) := by decide +kernel
theorem dX3_load_4 : decode cX3_load 4 = .ok (.invokestatic 58, 3) := by decide +kernel
theorem dX3_load_7 : decode cX3_load 7 = .ok (.ifCond .eq 7, 3) := by decide +kernel
theorem dX3_load_10 : decode cX3_load 10 = .ok (.iconst 0, 1) := by decide +kernel
theorem dX3_load_11 : decode cX3_load 11 = .ok (.goto 4, 3) := by decide +kernel
theorem dX3_load_14 : decode cX3_load 14 = .ok (.iconst 1, 1) := by decide +kernel
theorem dX3_load_15 : decode cX3_load 15 = .ok (.putfield 55, 3) := by decide +kernel
theorem dX3_load_18 : decode cX3_load 18 = .ok (.aload_n 0, 1) := by decide +kernel
theorem dX3_load_19 : decode cX3_load 19 = .ok (.getfield 55, 3) := by decide +kernel
theorem dX3_load_22 : decode cX3_load 22 = .ok (.ifCond .le 7, 3) := by decide +kernel
theorem dX3_load_25 : decode cX3_load 25 = .ok (.iconst 0, 1) := by decide +kernel
theorem dX3_load_26 : decode cX3_load 26 = .ok (.goto 8, 3) := by decide +kernel
theorem dX3_load_29 : decode cX3_load 29 = .ok (.aload_n 0, 1) := by decide +kernel
theorem dX3_load_30 : decode cX3_load 30 = .ok (.iload_n 1, 1) := by decide +kernel
theorem dX3_load_31 : decode cX3_load 31 = .ok (.invokevirtual 157, 3) := by decide +kernel
theorem dX3_load_34 : decode cX3_load 34 = .ok (.ireturn, 1) := by decide +kernel
theorem dX3_moves_0 : decode cX3_moves 0 = .ok (.aload_n 0, 1) := by decide +kernel
theorem dX3_moves_1 : decode cX3_moves 1 = .ok (.iload_n 1, 1) := by decide +kernel
theorem dX3_moves_2 : decode cX3_moves 2 = .ok (.putfield 48, 3) := by decide +kernel
theorem dX3_moves_5 : decode cX3_moves 5 = .ok (.aload_n 0, 1) := by decide +kernel
theorem dX3_moves_6 : decode cX3_moves 6 = .ok (.iload_n 2, 1) := by decide +kernel
theorem dX3_moves_7 : decode cX3_moves 7 = .ok (.putfield 160, 3) := by decide +kernel
theorem dX3_moves_10 : decode cX3_moves 10 = .ok (.aload_n 0, 1) := by decide +kernel
theorem dX3_moves_11 : decode cX3_moves 11 = .ok (.iconst 0, 1) := by decide +kernel
theorem dX3_moves_12 : decode cX3_moves 12 = .ok (.putfield 163, 3) := by decide +kernel
theorem dX3_moves_15 : decode cX3_moves 15 = .ok (.return_, 1) := by decide +kernel
theorem dX3_beginMove_0 : decode cX3_beginMove 0 = .ok (.aload_n 0, 1) := by decide +kernel
theorem dX3_beginMove_1 : decode cX3_beginMove 1 = .ok (.iload_n 2, 1) := by decide +kernel
theorem dX3_beginMove_2 : decode cX3_beginMove 2 = .ok (.invokestatic 142, 3) := by decide +kernel
theorem dX3_beginMove_5 : decode cX3_beginMove 5 = .ok (.ifCond .eq 12, 3) := by decide +kernel
theorem dX3_beginMove_8 : decode cX3_beginMove 8 = .ok (.iload_n 3, 1) := by decide +kernel
theorem dX3_beginMove_9 : decode cX3_beginMove 9 = .ok (.iconst 0, 1) := by decide +kernel
theorem dX3_beginMove_10 : decode cX3_beginMove 10 = .ok (.iconst 3, 1) := by decide +kernel
theorem dX3_beginMove_11 : decode cX3_beginMove 11 = .ok (.invokestatic 58, 3) := by decide +kernel
theorem dX3_beginMove_14 : decode cX3_beginMove 14 = .ok (.ifCond .ne 7, 3) := by decide +kernel
theorem dX3_beginMove_17 : decode cX3_beginMove 17 = .ok (.iconst 1, 1) := by decide +kernel
theorem dX3_beginMove_18 : decode cX3_beginMove 18 = .ok (.goto 16, 3) := by decide +kernel
theorem dX3_beginMove_21 : decode cX3_beginMove 21 = .ok (.aload_n 0, 1) := by decide +kernel
theorem dX3_beginMove_22 : decode cX3_beginMove 22 = .ok (.iload_n 1, 1) := by decide +kernel
theorem dX3_beginMove_23 : decode cX3_beginMove 23 = .ok (.invokevirtual 99, 3) := by decide +kernel
theorem dX3_beginMove_26 : decode cX3_beginMove 26 = .ok (.ifCond .ne 7, 3) := by decide +kernel
theorem dX3_beginMove_29 : decode cX3_beginMove 29 = .ok (.iconst 2, 1) := by decide +kernel
theorem dX3_beginMove_30 : decode cX3_beginMove 30 = .ok (.goto 4, 3) := by decide +kernel
theorem dX3_beginMove_33 : decode cX3_beginMove 33 = .ok (.iconst 0, 1) := by decide +kernel
theorem dX3_beginMove_34 : decode cX3_beginMove 34 = .ok (.putfield 55, 3) := by decide +kernel
theorem dX3_beginMove_37 : decode cX3_beginMove 37 = .ok (.aload_n 0, 1) := by decide +kernel
theorem dX3_beginMove_38 : decode cX3_beginMove 38 = .ok (.getfield 55, 3) := by decide +kernel
theorem dX3_beginMove_41 : decode cX3_beginMove 41 = .ok (.ifCond .le 4, 3) := by decide +kernel
theorem dX3_beginMove_44 : decode cX3_beginMove 44 = .ok (.return_, 1) := by decide +kernel
theorem dX3_beginMove_45 : decode cX3_beginMove 45 = .ok (.aload_n 0, 1) := by decide +kernel
theorem dX3_beginMove_46 : decode cX3_beginMove 46 = .ok (.iload_n 1, 1) := by decide +kernel
theorem dX3_beginMove_47 : decode cX3_beginMove 47 = .ok (.iload_n 2, 1) := by decide +kernel
theorem dX3_beginMove_48 : decode cX3_beginMove 48 = .ok (.invokevirtual 66, 3) := by decide +kernel
theorem dX3_beginMove_51 : decode cX3_beginMove 51 = .ok (.istore 4, 2) := by decide +kernel
theorem dX3_beginMove_53 : decode cX3_beginMove 53 = .ok (.aload_n 0, 1) := by decide +kernel
theorem dX3_beginMove_54 : decode cX3_beginMove 54 = .ok (.aload_n 0, 1) := by decide +kernel
theorem dX3_beginMove_55 : decode cX3_beginMove 55 = .ok (.getfield 48, 3) := by decide +kernel
theorem dX3_beginMove_58 : decode cX3_beginMove 58 = .ok (.iconst (-1), 1) := by decide +kernel
theorem dX3_beginMove_59 : decode cX3_beginMove 59 = .ok (.if_icmp .ne 13, 3) := by decide +kernel
theorem dX3_beginMove_62 : decode cX3_beginMove 62 = .ok (.aload_n 0, 1) := by decide +kernel
theorem dX3_beginMove_63 : decode cX3_beginMove 63 = .ok (.iload 4, 2) := by decide +kernel
theorem dX3_beginMove_65 : decode cX3_beginMove 65 = .ok (.invokevirtual 154, 3) := by decide +kernel
theorem dX3_beginMove_68 : decode cX3_beginMove 68 = .ok (.iload_n 3, 1) := by decide +kernel
theorem dX3_beginMove_69 : decode cX3_beginMove 69 = .ok (.if_icmp .ne 7, 3) := by decide +kernel
theorem dX3_beginMove_72 : decode cX3_beginMove 72 = .ok (.iconst 3, 1) := by decide +kernel
theorem dX3_beginMove_73 : decode cX3_beginMove 73 = .ok (.goto 4, 3) := by decide +kernel
theorem dX3_beginMove_76 : decode cX3_beginMove 76 = .ok (.iconst 0, 1) := by decide +kernel
theorem dX3_beginMove_77 : decode cX3_beginMove 77 = .ok (.putfield 55, 3) := by decide +kernel
theorem dX3_beginMove_80 : decode cX3_beginMove 80 = .ok (.aload_n 0, 1) := by decide +kernel
theorem dX3_beginMove_81 : decode cX3_beginMove 81 = .ok (.getfield 55, 3) := by decide +kernel
theorem dX3_beginMove_84 : decode cX3_beginMove 84 = .ok (.ifCond .ne 10, 3) := by decide +kernel
theorem dX3_beginMove_87 : decode cX3_beginMove 87 = .ok (.aload_n 0, 1) := by decide +kernel
theorem dX3_beginMove_88 : decode cX3_beginMove 88 = .ok (.iload 4, 2) := by decide +kernel
theorem dX3_beginMove_90 : decode cX3_beginMove 90 = .ok (.iload_n 3, 1) := by decide +kernel
theorem dX3_beginMove_91 : decode cX3_beginMove 91 = .ok (.invokevirtual 166, 3) := by decide +kernel
theorem dX3_beginMove_94 : decode cX3_beginMove 94 = .ok (.return_, 1) := by decide +kernel
theorem dX3_stepMove_0 : decode cX3_stepMove 0 = .ok (.aload_n 0, 1) := by decide +kernel
theorem dX3_stepMove_1 : decode cX3_stepMove 1 = .ok (.aload_n 0, 1) := by decide +kernel
theorem dX3_stepMove_2 : decode cX3_stepMove 2 = .ok (.getfield 48, 3) := by decide +kernel
theorem dX3_stepMove_5 : decode cX3_stepMove 5 = .ok (.iconst (-1), 1) := by decide +kernel
theorem dX3_stepMove_6 : decode cX3_stepMove 6 = .ok (.if_icmp .ne 7, 3) := by decide +kernel
theorem dX3_stepMove_9 : decode cX3_stepMove 9 = .ok (.iconst 1, 1) := by decide +kernel
theorem dX3_stepMove_10 : decode cX3_stepMove 10 = .ok (.goto 4, 3) := by decide +kernel
theorem dX3_stepMove_13 : decode cX3_stepMove 13 = .ok (.iconst 0, 1) := by decide +kernel
theorem dX3_stepMove_14 : decode cX3_stepMove 14 = .ok (.putfield 55, 3) := by decide +kernel
theorem dX3_stepMove_17 : decode cX3_stepMove 17 = .ok (.aload_n 0, 1) := by decide +kernel
theorem dX3_stepMove_18 : decode cX3_stepMove 18 = .ok (.getfield 55, 3) := by decide +kernel
theorem dX3_stepMove_21 : decode cX3_stepMove 21 = .ok (.ifCond .le 5, 3) := by decide +kernel
theorem dX3_stepMove_24 : decode cX3_stepMove 24 = .ok (.iconst 0, 1) := by decide +kernel
theorem dX3_stepMove_25 : decode cX3_stepMove 25 = .ok (.ireturn, 1) := by decide +kernel
theorem dX3_stepMove_26 : decode cX3_stepMove 26 = .ok (.aload_n 0, 1) := by decide +kernel
theorem dX3_stepMove_27 : decode cX3_stepMove 27 = .ok (.dup, 1) := by decide +kernel
theorem dX3_stepMove_28 : decode cX3_stepMove 28 = .ok (.getfield 163, 3) := by decide +kernel
theorem dX3_stepMove_31 : decode cX3_stepMove 31 = .ok (.iconst 1, 1) := by decide +kernel
theorem dX3_stepMove_32 : decode cX3_stepMove 32 = .ok (.iadd, 1) := by decide +kernel
theorem dX3_stepMove_33 : decode cX3_stepMove 33 = .ok (.putfield 163, 3) := by decide +kernel
theorem dX3_stepMove_36 : decode cX3_stepMove 36 = .ok (.aload_n 0, 1) := by decide +kernel
theorem dX3_stepMove_37 : decode cX3_stepMove 37 = .ok (.getfield 163, 3) := by decide +kernel
theorem dX3_stepMove_40 : decode cX3_stepMove 40 = .ok (.iconst 1, 1) := by decide +kernel
theorem dX3_stepMove_41 : decode cX3_stepMove 41 = .ok (.if_icmp .ne 58, 3) := by decide +kernel
theorem dX3_stepMove_44 : decode cX3_stepMove 44 = .ok (.iconst 0, 1) := by decide +kernel
theorem dX3_stepMove_45 : decode cX3_stepMove 45 = .ok (.istore_n 1, 1) := by decide +kernel
theorem dX3_stepMove_46 : decode cX3_stepMove 46 = .ok (.iload_n 1, 1) := by decide +kernel
theorem dX3_stepMove_47 : decode cX3_stepMove 47 = .ok (.bipush 50, 2) := by decide +kernel
theorem dX3_stepMove_49 : decode cX3_stepMove 49 = .ok (.aload_n 0, 1) := by decide +kernel
theorem dX3_stepMove_50 : decode cX3_stepMove 50 = .ok (.getfield 7, 3) := by decide +kernel
theorem dX3_stepMove_53 : decode cX3_stepMove 53 = .ok (.imul, 1) := by decide +kernel
theorem dX3_stepMove_54 : decode cX3_stepMove 54 = .ok (.if_icmp .ge 42, 3) := by decide +kernel
theorem dX3_stepMove_57 : decode cX3_stepMove 57 = .ok (.aload_n 0, 1) := by decide +kernel
theorem dX3_stepMove_58 : decode cX3_stepMove 58 = .ok (.getfield 13, 3) := by decide +kernel
theorem dX3_stepMove_61 : decode cX3_stepMove 61 = .ok (.iload_n 1, 1) := by decide +kernel
theorem dX3_stepMove_62 : decode cX3_stepMove 62 = .ok (.bipush 50, 2) := by decide +kernel
theorem dX3_stepMove_64 : decode cX3_stepMove 64 = .ok (.idiv, 1) := by decide +kernel
theorem dX3_stepMove_65 : decode cX3_stepMove 65 = .ok (.baload, 1) := by decide +kernel
theorem dX3_stepMove_66 : decode cX3_stepMove 66 = .ok (.ifCond .eq 24, 3) := by decide +kernel
theorem dX3_stepMove_69 : decode cX3_stepMove 69 = .ok (.aload_n 0, 1) := by decide +kernel
theorem dX3_stepMove_70 : decode cX3_stepMove 70 = .ok (.iload_n 1, 1) := by decide +kernel
theorem dX3_stepMove_71 : decode cX3_stepMove 71 = .ok (.bipush 50, 2) := by decide +kernel
theorem dX3_stepMove_73 : decode cX3_stepMove 73 = .ok (.idiv, 1) := by decide +kernel
theorem dX3_stepMove_74 : decode cX3_stepMove 74 = .ok (.iload_n 1, 1) := by decide +kernel
theorem dX3_stepMove_75 : decode cX3_stepMove 75 = .ok (.bipush 50, 2) := by decide +kernel
theorem dX3_stepMove_77 : decode cX3_stepMove 77 = .ok (.irem, 1) := by decide +kernel
theorem dX3_stepMove_78 : decode cX3_stepMove 78 = .ok (.invokevirtual 106, 3) := by decide +kernel
theorem dX3_stepMove_81 : decode cX3_stepMove 81 = .ok (.ifCond .eq 9, 3) := by decide +kernel
theorem dX3_stepMove_84 : decode cX3_stepMove 84 = .ok (.aload_n 0, 1) := by decide +kernel
theorem dX3_stepMove_85 : decode cX3_stepMove 85 = .ok (.iload_n 1, 1) := by decide +kernel
theorem dX3_stepMove_86 : decode cX3_stepMove 86 = .ok (.iconst (-1), 1) := by decide +kernel
theorem dX3_stepMove_87 : decode cX3_stepMove 87 = .ok (.invokevirtual 90, 3) := by decide +kernel
theorem dX3_stepMove_90 : decode cX3_stepMove 90 = .ok (.iinc 1 1, 3) := by decide +kernel
theorem dX3_stepMove_93 : decode cX3_stepMove 93 = .ok (.goto (-47), 3) := by decide +kernel
theorem dX3_stepMove_96 : decode cX3_stepMove 96 = .ok (.goto 21, 3) := by decide +kernel
theorem dX3_stepMove_99 : decode cX3_stepMove 99 = .ok (.aload_n 0, 1) := by decide +kernel
theorem dX3_stepMove_100 : decode cX3_stepMove 100 = .ok (.getfield 33, 3) := by decide +kernel
theorem dX3_stepMove_103 : decode cX3_stepMove 103 = .ok (.aload_n 0, 1) := by decide +kernel
theorem dX3_stepMove_104 : decode cX3_stepMove 104 = .ok (.getfield 48, 3) := by decide +kernel
theorem dX3_stepMove_107 : decode cX3_stepMove 107 = .ok (.aload_n 0, 1) := by decide +kernel
theorem dX3_stepMove_108 : decode cX3_stepMove 108 = .ok (.getfield 160, 3) := by decide +kernel
theorem dX3_stepMove_111 : decode cX3_stepMove 111 = .ok (.iastore, 1) := by decide +kernel
theorem dX3_stepMove_112 : decode cX3_stepMove 112 = .ok (.aload_n 0, 1) := by decide +kernel
theorem dX3_stepMove_113 : decode cX3_stepMove 113 = .ok (.iconst (-1), 1) := by decide +kernel
theorem dX3_stepMove_114 : decode cX3_stepMove 114 = .ok (.putfield 48, 3) := by decide +kernel
theorem dX3_stepMove_117 : decode cX3_stepMove 117 = .ok (.aload_n 0, 1) := by decide +kernel
theorem dX3_stepMove_118 : decode cX3_stepMove 118 = .ok (.getfield 163, 3) := by decide +kernel
theorem dX3_stepMove_121 : decode cX3_stepMove 121 = .ok (.ireturn, 1) := by decide +kernel
theorem dX3_giveUpMove_0 : decode cX3_giveUpMove 0 = .ok (.aload_n 0, 1) := by decide +kernel
theorem dX3_giveUpMove_1 : decode cX3_giveUpMove 1 = .ok (.aload_n 0, 1) := by decide +kernel
theorem dX3_giveUpMove_2 : decode cX3_giveUpMove 2 = .ok (.getfield 48, 3) := by decide +kernel
theorem dX3_giveUpMove_5 : decode cX3_giveUpMove 5 = .ok (.iconst (-1), 1) := by decide +kernel
theorem dX3_giveUpMove_6 : decode cX3_giveUpMove 6 = .ok (.if_icmp .ne 7, 3) := by decide +kernel
theorem dX3_giveUpMove_9 : decode cX3_giveUpMove 9 = .ok (.iconst 1, 1) := by decide +kernel
theorem dX3_giveUpMove_10 : decode cX3_giveUpMove 10 = .ok (.goto 4, 3) := by decide +kernel
theorem dX3_giveUpMove_13 : decode cX3_giveUpMove 13 = .ok (.iconst 0, 1) := by decide +kernel
theorem dX3_giveUpMove_14 : decode cX3_giveUpMove 14 = .ok (.putfield 55, 3) := by decide +kernel
theorem dX3_giveUpMove_17 : decode cX3_giveUpMove 17 = .ok (.aload_n 0, 1) := by decide +kernel
theorem dX3_giveUpMove_18 : decode cX3_giveUpMove 18 = .ok (.iconst (-1), 1) := by decide +kernel
theorem dX3_giveUpMove_19 : decode cX3_giveUpMove 19 = .ok (.putfield 48, 3) := by decide +kernel
theorem dX3_giveUpMove_22 : decode cX3_giveUpMove 22 = .ok (.aload_n 0, 1) := by decide +kernel
theorem dX3_giveUpMove_23 : decode cX3_giveUpMove 23 = .ok (.getfield 55, 3) := by decide +kernel
theorem dX3_giveUpMove_26 : decode cX3_giveUpMove 26 = .ok (.ifCond .le 7, 3) := by decide +kernel
theorem dX3_giveUpMove_29 : decode cX3_giveUpMove 29 = .ok (.iconst 0, 1) := by decide +kernel
theorem dX3_giveUpMove_30 : decode cX3_giveUpMove 30 = .ok (.goto 7, 3) := by decide +kernel
theorem dX3_giveUpMove_33 : decode cX3_giveUpMove 33 = .ok (.aload_n 0, 1) := by decide +kernel
theorem dX3_giveUpMove_34 : decode cX3_giveUpMove 34 = .ok (.getfield 163, 3) := by decide +kernel
theorem dX3_giveUpMove_37 : decode cX3_giveUpMove 37 = .ok (.ireturn, 1) := by decide +kernel
theorem dX3_isFrozen_0 : decode cX3_isFrozen 0 = .ok (.aload_n 0, 1) := by decide +kernel
theorem dX3_isFrozen_1 : decode cX3_isFrozen 1 = .ok (.aload_n 0, 1) := by decide +kernel
theorem dX3_isFrozen_2 : decode cX3_isFrozen 2 = .ok (.iload_n 1, 1) := by decide +kernel
theorem dX3_isFrozen_3 : decode cX3_isFrozen 3 = .ok (.iload_n 2, 1) := by decide +kernel
theorem dX3_isFrozen_4 : decode cX3_isFrozen 4 = .ok (.invokevirtual 151, 3) := by decide +kernel
theorem dX3_isFrozen_7 : decode cX3_isFrozen 7 = .ok (.putfield 55, 3) := by decide +kernel
theorem dX3_isFrozen_10 : decode cX3_isFrozen 10 = .ok (.aload_n 0, 1) := by decide +kernel
theorem dX3_isFrozen_11 : decode cX3_isFrozen 11 = .ok (.getfield 55, 3) := by decide +kernel
theorem dX3_isFrozen_14 : decode cX3_isFrozen 14 = .ok (.ifCond .ne 16, 3) := by decide +kernel
theorem dX3_isFrozen_17 : decode cX3_isFrozen 17 = .ok (.aload_n 0, 1) := by decide +kernel
theorem dX3_isFrozen_18 : decode cX3_isFrozen 18 = .ok (.iload_n 1, 1) := by decide +kernel
theorem dX3_isFrozen_19 : decode cX3_isFrozen 19 = .ok (.iload_n 2, 1) := by decide +kernel
theorem dX3_isFrozen_20 : decode cX3_isFrozen 20 = .ok (.invokevirtual 106, 3) := by decide +kernel
theorem dX3_isFrozen_23 : decode cX3_isFrozen 23 = .ok (.ifCond .eq 7, 3) := by decide +kernel
theorem dX3_isFrozen_26 : decode cX3_isFrozen 26 = .ok (.iconst 1, 1) := by decide +kernel
theorem dX3_isFrozen_27 : decode cX3_isFrozen 27 = .ok (.goto 4, 3) := by decide +kernel
theorem dX3_isFrozen_30 : decode cX3_isFrozen 30 = .ok (.iconst 0, 1) := by decide +kernel
theorem dX3_isFrozen_31 : decode cX3_isFrozen 31 = .ok (.ireturn, 1) := by decide +kernel
theorem dX3_balance_0 : decode cX3_balance 0 = .ok (.aload_n 0, 1) := by decide +kernel
theorem dX3_balance_1 : decode cX3_balance 1 = .ok (.aload_n 0, 1) := by decide +kernel
theorem dX3_balance_2 : decode cX3_balance 2 = .ok (.getfield 48, 3) := by decide +kernel
theorem dX3_balance_5 : decode cX3_balance 5 = .ok (.iconst (-1), 1) := by decide +kernel
theorem dX3_balance_6 : decode cX3_balance 6 = .ok (.if_icmp .ne 7, 3) := by decide +kernel
theorem dX3_balance_9 : decode cX3_balance 9 = .ok (.iconst 0, 1) := by decide +kernel
theorem dX3_balance_10 : decode cX3_balance 10 = .ok (.goto 4, 3) := by decide +kernel
theorem dX3_balance_13 : decode cX3_balance 13 = .ok (.iconst 1, 1) := by decide +kernel
theorem dX3_balance_14 : decode cX3_balance 14 = .ok (.putfield 55, 3) := by decide +kernel
theorem dX3_balance_17 : decode cX3_balance 17 = .ok (.aload_n 0, 1) := by decide +kernel
theorem dX3_balance_18 : decode cX3_balance 18 = .ok (.getfield 55, 3) := by decide +kernel
theorem dX3_balance_21 : decode cX3_balance 21 = .ok (.ifCond .le 5, 3) := by decide +kernel
theorem dX3_balance_24 : decode cX3_balance 24 = .ok (.iconst 0, 1) := by decide +kernel
theorem dX3_balance_25 : decode cX3_balance 25 = .ok (.ireturn, 1) := by decide +kernel
theorem dX3_balance_26 : decode cX3_balance 26 = .ok (.iconst 0, 1) := by decide +kernel
theorem dX3_balance_27 : decode cX3_balance 27 = .ok (.istore_n 1, 1) := by decide +kernel
theorem dX3_balance_28 : decode cX3_balance 28 = .ok (.iconst 0, 1) := by decide +kernel
theorem dX3_balance_29 : decode cX3_balance 29 = .ok (.istore_n 2, 1) := by decide +kernel
theorem dX3_balance_30 : decode cX3_balance 30 = .ok (.iconst 1, 1) := by decide +kernel
theorem dX3_balance_31 : decode cX3_balance 31 = .ok (.istore_n 3, 1) := by decide +kernel
theorem dX3_balance_32 : decode cX3_balance 32 = .ok (.iload_n 3, 1) := by decide +kernel
theorem dX3_balance_33 : decode cX3_balance 33 = .ok (.iconst 4, 1) := by decide +kernel
theorem dX3_balance_34 : decode cX3_balance 34 = .ok (.if_icmp .ge 47, 3) := by decide +kernel
theorem dX3_balance_37 : decode cX3_balance 37 = .ok (.aload_n 0, 1) := by decide +kernel
theorem dX3_balance_38 : decode cX3_balance 38 = .ok (.iload_n 3, 1) := by decide +kernel
theorem dX3_balance_39 : decode cX3_balance 39 = .ok (.invokevirtual 157, 3) := by decide +kernel
theorem dX3_balance_42 : decode cX3_balance 42 = .ok (.aload_n 0, 1) := by decide +kernel
theorem dX3_balance_43 : decode cX3_balance 43 = .ok (.iload_n 1, 1) := by decide +kernel
theorem dX3_balance_44 : decode cX3_balance 44 = .ok (.invokevirtual 157, 3) := by decide +kernel
theorem dX3_balance_47 : decode cX3_balance 47 = .ok (.if_icmp .le 7, 3) := by decide +kernel
theorem dX3_balance_50 : decode cX3_balance 50 = .ok (.iload_n 3, 1) := by decide +kernel
theorem dX3_balance_51 : decode cX3_balance 51 = .ok (.goto 4, 3) := by decide +kernel
theorem dX3_balance_54 : decode cX3_balance 54 = .ok (.iload_n 1, 1) := by decide +kernel
theorem dX3_balance_55 : decode cX3_balance 55 = .ok (.istore_n 1, 1) := by decide +kernel
theorem dX3_balance_56 : decode cX3_balance 56 = .ok (.aload_n 0, 1) := by decide +kernel
theorem dX3_balance_57 : decode cX3_balance 57 = .ok (.iload_n 3, 1) := by decide +kernel
theorem dX3_balance_58 : decode cX3_balance 58 = .ok (.invokevirtual 157, 3) := by decide +kernel
theorem dX3_balance_61 : decode cX3_balance 61 = .ok (.aload_n 0, 1) := by decide +kernel
theorem dX3_balance_62 : decode cX3_balance 62 = .ok (.iload_n 2, 1) := by decide +kernel
theorem dX3_balance_63 : decode cX3_balance 63 = .ok (.invokevirtual 157, 3) := by decide +kernel
theorem dX3_balance_66 : decode cX3_balance 66 = .ok (.if_icmp .ge 7, 3) := by decide +kernel
theorem dX3_balance_69 : decode cX3_balance 69 = .ok (.iload_n 3, 1) := by decide +kernel
theorem dX3_balance_70 : decode cX3_balance 70 = .ok (.goto 4, 3) := by decide +kernel
theorem dX3_balance_73 : decode cX3_balance 73 = .ok (.iload_n 2, 1) := by decide +kernel
theorem dX3_balance_74 : decode cX3_balance 74 = .ok (.istore_n 2, 1) := by decide +kernel
theorem dX3_balance_75 : decode cX3_balance 75 = .ok (.iinc 3 1, 3) := by decide +kernel
theorem dX3_balance_78 : decode cX3_balance 78 = .ok (.goto (-46), 3) := by decide +kernel
theorem dX3_balance_81 : decode cX3_balance 81 = .ok (.aload_n 0, 1) := by decide +kernel
theorem dX3_balance_82 : decode cX3_balance 82 = .ok (.iload_n 1, 1) := by decide +kernel
theorem dX3_balance_83 : decode cX3_balance 83 = .ok (.invokevirtual 157, 3) := by decide +kernel
theorem dX3_balance_86 : decode cX3_balance 86 = .ok (.aload_n 0, 1) := by decide +kernel
theorem dX3_balance_87 : decode cX3_balance 87 = .ok (.iload_n 2, 1) := by decide +kernel
theorem dX3_balance_88 : decode cX3_balance 88 = .ok (.invokevirtual 157, 3) := by decide +kernel
theorem dX3_balance_91 : decode cX3_balance 91 = .ok (.isub, 1) := by decide +kernel
theorem dX3_balance_92 : decode cX3_balance 92 = .ok (.istore_n 3, 1) := by decide +kernel
theorem dX3_balance_93 : decode cX3_balance 93 = .ok (.iconst (-1), 1) := by decide +kernel
theorem dX3_balance_94 : decode cX3_balance 94 = .ok (.istore 4, 2) := by decide +kernel
theorem dX3_balance_96 : decode cX3_balance 96 = .ok (.iconst 0, 1) := by decide +kernel
theorem dX3_balance_97 : decode cX3_balance 97 = .ok (.istore 5, 2) := by decide +kernel
theorem dX3_balance_99 : decode cX3_balance 99 = .ok (.iload 5, 2) := by decide +kernel
theorem dX3_balance_101 : decode cX3_balance 101 = .ok (.bipush 8, 2) := by decide +kernel
theorem dX3_balance_103 : decode cX3_balance 103 = .ok (.aload_n 0, 1) := by decide +kernel
theorem dX3_balance_104 : decode cX3_balance 104 = .ok (.getfield 7, 3) := by decide +kernel
theorem dX3_balance_107 : decode cX3_balance 107 = .ok (.imul, 1) := by decide +kernel
theorem dX3_balance_108 : decode cX3_balance 108 = .ok (.if_icmp .ge 102, 3) := by decide +kernel
theorem dX3_balance_111 : decode cX3_balance 111 = .ok (.iload_n 3, 1) := by decide +kernel
theorem dX3_balance_112 : decode cX3_balance 112 = .ok (.iconst 4, 1) := by decide +kernel
theorem dX3_balance_113 : decode cX3_balance 113 = .ok (.if_icmp .lt 97, 3) := by decide +kernel
theorem dX3_balance_116 : decode cX3_balance 116 = .ok (.aload_n 0, 1) := by decide +kernel
theorem dX3_balance_117 : decode cX3_balance 117 = .ok (.getfield 30, 3) := by decide +kernel
theorem dX3_balance_120 : decode cX3_balance 120 = .ok (.iload 5, 2) := by decide +kernel
theorem dX3_balance_122 : decode cX3_balance 122 = .ok (.iaload, 1) := by decide +kernel
theorem dX3_balance_123 : decode cX3_balance 123 = .ok (.ifCond .le 41, 3) := by decide +kernel
theorem dX3_balance_126 : decode cX3_balance 126 = .ok (.aload_n 0, 1) := by decide +kernel
theorem dX3_balance_127 : decode cX3_balance 127 = .ok (.iload 5, 2) := by decide +kernel
theorem dX3_balance_129 : decode cX3_balance 129 = .ok (.invokevirtual 154, 3) := by decide +kernel
theorem dX3_balance_132 : decode cX3_balance 132 = .ok (.iload_n 1, 1) := by decide +kernel
theorem dX3_balance_133 : decode cX3_balance 133 = .ok (.if_icmp .ne 31, 3) := by decide +kernel
theorem dX3_balance_136 : decode cX3_balance 136 = .ok (.aload_n 0, 1) := by decide +kernel
theorem dX3_balance_137 : decode cX3_balance 137 = .ok (.getfield 36, 3) := by decide +kernel
theorem dX3_balance_140 : decode cX3_balance 140 = .ok (.iload 5, 2) := by decide +kernel
theorem dX3_balance_142 : decode cX3_balance 142 = .ok (.iaload, 1) := by decide +kernel
theorem dX3_balance_143 : decode cX3_balance 143 = .ok (.iconst 1, 1) := by decide +kernel
theorem dX3_balance_144 : decode cX3_balance 144 = .ok (.if_icmp .lt 20, 3) := by decide +kernel
theorem dX3_balance_147 : decode cX3_balance 147 = .ok (.aload_n 0, 1) := by decide +kernel
theorem dX3_balance_148 : decode cX3_balance 148 = .ok (.getfield 36, 3) := by decide +kernel
theorem dX3_balance_151 : decode cX3_balance 151 = .ok (.iload 5, 2) := by decide +kernel
theorem dX3_balance_153 : decode cX3_balance 153 = .ok (.iaload, 1) := by decide +kernel
theorem dX3_balance_154 : decode cX3_balance 154 = .ok (.iload_n 3, 1) := by decide +kernel
theorem dX3_balance_155 : decode cX3_balance 155 = .ok (.iconst 2, 1) := by decide +kernel
theorem dX3_balance_156 : decode cX3_balance 156 = .ok (.idiv, 1) := by decide +kernel
theorem dX3_balance_157 : decode cX3_balance 157 = .ok (.if_icmp .gt 7, 3) := by decide +kernel
theorem dX3_balance_160 : decode cX3_balance 160 = .ok (.iconst 1, 1) := by decide +kernel
theorem dX3_balance_161 : decode cX3_balance 161 = .ok (.goto 4, 3) := by decide +kernel
theorem dX3_balance_164 : decode cX3_balance 164 = .ok (.iconst 0, 1) := by decide +kernel
theorem dX3_balance_165 : decode cX3_balance 165 = .ok (.istore 6, 2) := by decide +kernel
theorem dX3_balance_167 : decode cX3_balance 167 = .ok (.iload 6, 2) := by decide +kernel
theorem dX3_balance_169 : decode cX3_balance 169 = .ok (.ifCond .eq 31, 3) := by decide +kernel
theorem dX3_balance_172 : decode cX3_balance 172 = .ok (.iload 4, 2) := by decide +kernel
theorem dX3_balance_174 : decode cX3_balance 174 = .ok (.iconst (-1), 1) := by decide +kernel
theorem dX3_balance_175 : decode cX3_balance 175 = .ok (.if_icmp .eq 20, 3) := by decide +kernel
theorem dX3_balance_178 : decode cX3_balance 178 = .ok (.aload_n 0, 1) := by decide +kernel
theorem dX3_balance_179 : decode cX3_balance 179 = .ok (.getfield 36, 3) := by decide +kernel
theorem dX3_balance_182 : decode cX3_balance 182 = .ok (.iload 5, 2) := by decide +kernel
theorem dX3_balance_184 : decode cX3_balance 184 = .ok (.iaload, 1) := by decide +kernel
theorem dX3_balance_185 : decode cX3_balance 185 = .ok (.aload_n 0, 1) := by decide +kernel
theorem dX3_balance_186 : decode cX3_balance 186 = .ok (.getfield 36, 3) := by decide +kernel
theorem dX3_balance_189 : decode cX3_balance 189 = .ok (.iload 4, 2) := by decide +kernel
theorem dX3_balance_191 : decode cX3_balance 191 = .ok (.iaload, 1) := by decide +kernel
theorem dX3_balance_192 : decode cX3_balance 192 = .ok (.if_icmp .le 8, 3) := by decide +kernel
theorem dX3_balance_195 : decode cX3_balance 195 = .ok (.iload 5, 2) := by decide +kernel
theorem dX3_balance_197 : decode cX3_balance 197 = .ok (.goto 5, 3) := by decide +kernel
theorem dX3_balance_200 : decode cX3_balance 200 = .ok (.iload 4, 2) := by decide +kernel
theorem dX3_balance_202 : decode cX3_balance 202 = .ok (.istore 4, 2) := by decide +kernel
theorem dX3_balance_204 : decode cX3_balance 204 = .ok (.iinc 5 1, 3) := by decide +kernel
theorem dX3_balance_207 : decode cX3_balance 207 = .ok (.goto (-108), 3) := by decide +kernel
theorem dX3_balance_210 : decode cX3_balance 210 = .ok (.iload 4, 2) := by decide +kernel
theorem dX3_balance_212 : decode cX3_balance 212 = .ok (.iconst (-1), 1) := by decide +kernel
theorem dX3_balance_213 : decode cX3_balance 213 = .ok (.if_icmp .eq 10, 3) := by decide +kernel
theorem dX3_balance_216 : decode cX3_balance 216 = .ok (.aload_n 0, 1) := by decide +kernel
theorem dX3_balance_217 : decode cX3_balance 217 = .ok (.iload 4, 2) := by decide +kernel
theorem dX3_balance_219 : decode cX3_balance 219 = .ok (.iload_n 2, 1) := by decide +kernel
theorem dX3_balance_220 : decode cX3_balance 220 = .ok (.invokevirtual 166, 3) := by decide +kernel
theorem dX3_balance_223 : decode cX3_balance 223 = .ok (.iconst 0, 1) := by decide +kernel
theorem dX3_balance_224 : decode cX3_balance 224 = .ok (.istore 5, 2) := by decide +kernel
theorem dX3_balance_226 : decode cX3_balance 226 = .ok (.iload 5, 2) := by decide +kernel
theorem dX3_balance_228 : decode cX3_balance 228 = .ok (.bipush 8, 2) := by decide +kernel
theorem dX3_balance_230 : decode cX3_balance 230 = .ok (.aload_n 0, 1) := by decide +kernel
theorem dX3_balance_231 : decode cX3_balance 231 = .ok (.getfield 7, 3) := by decide +kernel
theorem dX3_balance_234 : decode cX3_balance 234 = .ok (.imul, 1) := by decide +kernel
theorem dX3_balance_235 : decode cX3_balance 235 = .ok (.if_icmp .ge 20, 3) := by decide +kernel
theorem dX3_balance_238 : decode cX3_balance 238 = .ok (.aload_n 0, 1) := by decide +kernel
theorem dX3_balance_239 : decode cX3_balance 239 = .ok (.getfield 36, 3) := by decide +kernel
theorem dX3_balance_242 : decode cX3_balance 242 = .ok (.iload 5, 2) := by decide +kernel
theorem dX3_balance_244 : decode cX3_balance 244 = .ok (.dup2, 1) := by decide +kernel
theorem dX3_balance_245 : decode cX3_balance 245 = .ok (.iaload, 1) := by decide +kernel
theorem dX3_balance_246 : decode cX3_balance 246 = .ok (.iconst 2, 1) := by decide +kernel
theorem dX3_balance_247 : decode cX3_balance 247 = .ok (.idiv, 1) := by decide +kernel
theorem dX3_balance_248 : decode cX3_balance 248 = .ok (.iastore, 1) := by decide +kernel
theorem dX3_balance_249 : decode cX3_balance 249 = .ok (.iinc 5 1, 3) := by decide +kernel
theorem dX3_balance_252 : decode cX3_balance 252 = .ok (.goto (-26), 3) := by decide +kernel
theorem dX3_balance_255 : decode cX3_balance 255 = .ok (.iload 4, 2) := by decide +kernel
theorem dX3_balance_257 : decode cX3_balance 257 = .ok (.iconst (-1), 1) := by decide +kernel
theorem dX3_balance_258 : decode cX3_balance 258 = .ok (.if_icmp .ne 7, 3) := by decide +kernel
theorem dX3_balance_261 : decode cX3_balance 261 = .ok (.iconst (-1), 1) := by decide +kernel
theorem dX3_balance_262 : decode cX3_balance 262 = .ok (.goto 8, 3) := by decide +kernel
theorem dX3_balance_265 : decode cX3_balance 265 = .ok (.iload 4, 2) := by decide +kernel
theorem dX3_balance_267 : decode cX3_balance 267 = .ok (.bipush 8, 2) := by decide +kernel
theorem dX3_balance_269 : decode cX3_balance 269 = .ok (.idiv, 1) := by decide +kernel
theorem dX3_balance_270 : decode cX3_balance 270 = .ok (.ireturn, 1) := by decide +kernel
theorem dX3_links__0 : decode cX3_links_ 0 = .ok (.aload_n 0, 1) := by decide +kernel
theorem dX3_links__1 : decode cX3_links_ 1 = .ok (.iconst 0, 1) := by decide +kernel
theorem dX3_links__2 : decode cX3_links_ 2 = .ok (.putfield 55, 3) := by decide +kernel
theorem dX3_links__5 : decode cX3_links_ 5 = .ok (.iload_n 1, 1) := by decide +kernel
theorem dX3_links__6 : decode cX3_links_ 6 = .ok (.iconst 0, 1) := by decide +kernel
theorem dX3_links__7 : decode cX3_links_ 7 = .ok (.aload_n 0, 1) := by decide +kernel
theorem dX3_links__8 : decode cX3_links_ 8 = .ok (.getfield 119, 3) := by decide +kernel
theorem dX3_links__11 : decode cX3_links_ 11 = .ok (.iconst 1, 1) := by decide +kernel
theorem dX3_links__12 : decode cX3_links_ 12 = .ok (.isub, 1) := by decide +kernel
theorem dX3_links__13 : decode cX3_links_ 13 = .ok (.invokestatic 58, 3) := by decide +kernel
theorem dX3_links__16 : decode cX3_links_ 16 = .ok (.ifCond .eq 11, 3) := by decide +kernel
theorem dX3_links__19 : decode cX3_links_ 19 = .ok (.aload_n 0, 1) := by decide +kernel
theorem dX3_links__20 : decode cX3_links_ 20 = .ok (.iload_n 1, 1) := by decide +kernel
theorem dX3_links__21 : decode cX3_links_ 21 = .ok (.invokevirtual 124, 3) := by decide +kernel
theorem dX3_links__24 : decode cX3_links_ 24 = .ok (.goto 8, 3) := by decide +kernel
theorem dX3_links__27 : decode cX3_links_ 27 = .ok (.aload_n 0, 1) := by decide +kernel
theorem dX3_links__28 : decode cX3_links_ 28 = .ok (.iconst 1, 1) := by decide +kernel
theorem dX3_links__29 : decode cX3_links_ 29 = .ok (.invokevirtual 139, 3) := by decide +kernel
theorem dX3_links__32 : decode cX3_links_ 32 = .ok (.ireturn, 1) := by decide +kernel
theorem dX3_anchor_0 : decode cX3_anchor 0 = .ok (.aload_n 0, 1) := by decide +kernel
theorem dX3_anchor_1 : decode cX3_anchor 1 = .ok (.iload_n 1, 1) := by decide +kernel
theorem dX3_anchor_2 : decode cX3_anchor 2 = .ok (.iconst 0, 1) := by decide +kernel
theorem dX3_anchor_3 : decode cX3_anchor 3 = .ok (.aload_n 0, 1) := by decide +kernel
theorem dX3_anchor_4 : decode cX3_anchor 4 = .ok (.getfield 119, 3) := by decide +kernel
theorem dX3_anchor_7 : decode cX3_anchor 7 = .ok (.iconst 1, 1) := by decide +kernel
theorem dX3_anchor_8 : decode cX3_anchor 8 = .ok (.isub, 1) := by decide +kernel
theorem dX3_anchor_9 : decode cX3_anchor 9 = .ok (.invokestatic 58, 3) := by decide +kernel
theorem dX3_anchor_12 : decode cX3_anchor 12 = .ok (.ifCond .eq 7, 3) := by decide +kernel
theorem dX3_anchor_15 : decode cX3_anchor 15 = .ok (.iconst 0, 1) := by decide +kernel
theorem dX3_anchor_16 : decode cX3_anchor 16 = .ok (.goto 4, 3) := by decide +kernel
theorem dX3_anchor_19 : decode cX3_anchor 19 = .ok (.iconst 1, 1) := by decide +kernel
theorem dX3_anchor_20 : decode cX3_anchor 20 = .ok (.putfield 55, 3) := by decide +kernel
theorem dX3_anchor_23 : decode cX3_anchor 23 = .ok (.iconst (-1), 1) := by decide +kernel
theorem dX3_anchor_24 : decode cX3_anchor 24 = .ok (.istore_n 2, 1) := by decide +kernel
theorem dX3_anchor_25 : decode cX3_anchor 25 = .ok (.iconst 0, 1) := by decide +kernel
theorem dX3_anchor_26 : decode cX3_anchor 26 = .ok (.istore_n 3, 1) := by decide +kernel
theorem dX3_anchor_27 : decode cX3_anchor 27 = .ok (.iload_n 3, 1) := by decide +kernel
theorem dX3_anchor_28 : decode cX3_anchor 28 = .ok (.sipush 600, 3) := by decide +kernel
theorem dX3_anchor_31 : decode cX3_anchor 31 = .ok (.if_icmp .ge 52, 3) := by decide +kernel
theorem dX3_anchor_34 : decode cX3_anchor 34 = .ok (.aload_n 0, 1) := by decide +kernel
theorem dX3_anchor_35 : decode cX3_anchor 35 = .ok (.getfield 55, 3) := by decide +kernel
theorem dX3_anchor_38 : decode cX3_anchor 38 = .ok (.ifCond .ne 45, 3) := by decide +kernel
theorem dX3_anchor_41 : decode cX3_anchor 41 = .ok (.aload_n 0, 1) := by decide +kernel
theorem dX3_anchor_42 : decode cX3_anchor 42 = .ok (.getfield 24, 3) := by decide +kernel
theorem dX3_anchor_45 : decode cX3_anchor 45 = .ok (.iload_n 3, 1) := by decide +kernel
theorem dX3_anchor_46 : decode cX3_anchor 46 = .ok (.iaload, 1) := by decide +kernel
theorem dX3_anchor_47 : decode cX3_anchor 47 = .ok (.iload_n 1, 1) := by decide +kernel
theorem dX3_anchor_48 : decode cX3_anchor 48 = .ok (.if_icmp .ne 27, 3) := by decide +kernel
theorem dX3_anchor_51 : decode cX3_anchor 51 = .ok (.iload_n 2, 1) := by decide +kernel
theorem dX3_anchor_52 : decode cX3_anchor 52 = .ok (.iconst (-1), 1) := by decide +kernel
theorem dX3_anchor_53 : decode cX3_anchor 53 = .ok (.if_icmp .eq 18, 3) := by decide +kernel
theorem dX3_anchor_56 : decode cX3_anchor 56 = .ok (.aload_n 0, 1) := by decide +kernel
theorem dX3_anchor_57 : decode cX3_anchor 57 = .ok (.getfield 27, 3) := by decide +kernel
theorem dX3_anchor_60 : decode cX3_anchor 60 = .ok (.iload_n 3, 1) := by decide +kernel
theorem dX3_anchor_61 : decode cX3_anchor 61 = .ok (.iaload, 1) := by decide +kernel
theorem dX3_anchor_62 : decode cX3_anchor 62 = .ok (.aload_n 0, 1) := by decide +kernel
theorem dX3_anchor_63 : decode cX3_anchor 63 = .ok (.getfield 27, 3) := by decide +kernel
theorem dX3_anchor_66 : decode cX3_anchor 66 = .ok (.iload_n 2, 1) := by decide +kernel
theorem dX3_anchor_67 : decode cX3_anchor 67 = .ok (.iaload, 1) := by decide +kernel
theorem dX3_anchor_68 : decode cX3_anchor 68 = .ok (.if_icmp .ge 7, 3) := by decide +kernel
theorem dX3_anchor_71 : decode cX3_anchor 71 = .ok (.iload_n 3, 1) := by decide +kernel
theorem dX3_anchor_72 : decode cX3_anchor 72 = .ok (.goto 4, 3) := by decide +kernel
theorem dX3_anchor_75 : decode cX3_anchor 75 = .ok (.iload_n 2, 1) := by decide +kernel
theorem dX3_anchor_76 : decode cX3_anchor 76 = .ok (.istore_n 2, 1) := by decide +kernel
theorem dX3_anchor_77 : decode cX3_anchor 77 = .ok (.iinc 3 1, 3) := by decide +kernel
theorem dX3_anchor_80 : decode cX3_anchor 80 = .ok (.goto (-53), 3) := by decide +kernel
theorem dX3_anchor_83 : decode cX3_anchor 83 = .ok (.aload_n 0, 1) := by decide +kernel
theorem dX3_anchor_84 : decode cX3_anchor 84 = .ok (.getfield 55, 3) := by decide +kernel
theorem dX3_anchor_87 : decode cX3_anchor 87 = .ok (.ifCond .le 7, 3) := by decide +kernel
theorem dX3_anchor_90 : decode cX3_anchor 90 = .ok (.iconst 0, 1) := by decide +kernel
theorem dX3_anchor_91 : decode cX3_anchor 91 = .ok (.goto 24, 3) := by decide +kernel
theorem dX3_anchor_94 : decode cX3_anchor 94 = .ok (.iload_n 2, 1) := by decide +kernel
theorem dX3_anchor_95 : decode cX3_anchor 95 = .ok (.iconst (-1), 1) := by decide +kernel
theorem dX3_anchor_96 : decode cX3_anchor 96 = .ok (.if_icmp .ne 7, 3) := by decide +kernel
theorem dX3_anchor_99 : decode cX3_anchor 99 = .ok (.iconst (-1), 1) := by decide +kernel
theorem dX3_anchor_100 : decode cX3_anchor 100 = .ok (.goto 15, 3) := by decide +kernel
theorem dX3_anchor_103 : decode cX3_anchor 103 = .ok (.bipush 100, 2) := by decide +kernel
theorem dX3_anchor_105 : decode cX3_anchor 105 = .ok (.iload_n 2, 1) := by decide +kernel
theorem dX3_anchor_106 : decode cX3_anchor 106 = .ok (.bipush 50, 2) := by decide +kernel
theorem dX3_anchor_108 : decode cX3_anchor 108 = .ok (.idiv, 1) := by decide +kernel
theorem dX3_anchor_109 : decode cX3_anchor 109 = .ok (.imul, 1) := by decide +kernel
theorem dX3_anchor_110 : decode cX3_anchor 110 = .ok (.iload_n 2, 1) := by decide +kernel
theorem dX3_anchor_111 : decode cX3_anchor 111 = .ok (.bipush 50, 2) := by decide +kernel
theorem dX3_anchor_113 : decode cX3_anchor 113 = .ok (.irem, 1) := by decide +kernel
theorem dX3_anchor_114 : decode cX3_anchor 114 = .ok (.iadd, 1) := by decide +kernel
theorem dX3_anchor_115 : decode cX3_anchor 115 = .ok (.ireturn, 1) := by decide +kernel
theorem dX3_byTree_0 : decode cX3_byTree 0 = .ok (.aload_n 0, 1) := by decide +kernel
theorem dX3_byTree_1 : decode cX3_byTree 1 = .ok (.aload_n 0, 1) := by decide +kernel
theorem dX3_byTree_2 : decode cX3_byTree 2 = .ok (.iload_n 1, 1) := by decide +kernel
theorem dX3_byTree_3 : decode cX3_byTree 3 = .ok (.iload_n 2, 1) := by decide +kernel
theorem dX3_byTree_4 : decode cX3_byTree 4 = .ok (.invokevirtual 151, 3) := by decide +kernel
theorem dX3_byTree_7 : decode cX3_byTree 7 = .ok (.putfield 55, 3) := by decide +kernel
theorem dX3_byTree_10 : decode cX3_byTree 10 = .ok (.aload_n 0, 1) := by decide +kernel
theorem dX3_byTree_11 : decode cX3_byTree 11 = .ok (.getfield 55, 3) := by decide +kernel
theorem dX3_byTree_14 : decode cX3_byTree 14 = .ok (.ifCond .le 7, 3) := by decide +kernel
theorem dX3_byTree_17 : decode cX3_byTree 17 = .ok (.iconst 0, 1) := by decide +kernel
theorem dX3_byTree_18 : decode cX3_byTree 18 = .ok (.goto 13, 3) := by decide +kernel
theorem dX3_byTree_21 : decode cX3_byTree 21 = .ok (.aload_n 0, 1) := by decide +kernel
theorem dX3_byTree_22 : decode cX3_byTree 22 = .ok (.getfield 24, 3) := by decide +kernel
theorem dX3_byTree_25 : decode cX3_byTree 25 = .ok (.iload_n 1, 1) := by decide +kernel
theorem dX3_byTree_26 : decode cX3_byTree 26 = .ok (.iload_n 2, 1) := by decide +kernel
theorem dX3_byTree_27 : decode cX3_byTree 27 = .ok (.invokestatic 87, 3) := by decide +kernel
theorem dX3_byTree_30 : decode cX3_byTree 30 = .ok (.iaload, 1) := by decide +kernel
theorem dX3_byTree_31 : decode cX3_byTree 31 = .ok (.ireturn, 1) := by decide +kernel
theorem dX3_size_0 : decode cX3_size 0 = .ok (.aload_n 0, 1) := by decide +kernel
theorem dX3_size_1 : decode cX3_size 1 = .ok (.iconst 0, 1) := by decide +kernel
theorem dX3_size_2 : decode cX3_size 2 = .ok (.putfield 55, 3) := by decide +kernel
theorem dX3_size_5 : decode cX3_size 5 = .ok (.aload_n 0, 1) := by decide +kernel
theorem dX3_size_6 : decode cX3_size 6 = .ok (.iload_n 1, 1) := by decide +kernel
theorem dX3_size_7 : decode cX3_size 7 = .ok (.invokevirtual 99, 3) := by decide +kernel
theorem dX3_size_10 : decode cX3_size 10 = .ok (.ifCond .eq 11, 3) := by decide +kernel
theorem dX3_size_13 : decode cX3_size 13 = .ok (.aload_n 0, 1) := by decide +kernel
theorem dX3_size_14 : decode cX3_size 14 = .ok (.iload_n 1, 1) := by decide +kernel
theorem dX3_size_15 : decode cX3_size 15 = .ok (.invokevirtual 130, 3) := by decide +kernel
theorem dX3_size_18 : decode cX3_size 18 = .ok (.goto 8, 3) := by decide +kernel
theorem dX3_size_21 : decode cX3_size 21 = .ok (.aload_n 0, 1) := by decide +kernel
theorem dX3_size_22 : decode cX3_size 22 = .ok (.iconst 1, 1) := by decide +kernel
theorem dX3_size_23 : decode cX3_size 23 = .ok (.invokevirtual 139, 3) := by decide +kernel
theorem dX3_size_26 : decode cX3_size 26 = .ok (.ireturn, 1) := by decide +kernel
theorem dL_lookup_0 : decode cL_lookup 0 = .ok (.aload 4, 2) := by decide +kernel
theorem dL_lookup_2 : decode cL_lookup 2 = .ok (.iconst 0, 1) := by decide +kernel
theorem dL_lookup_3 : decode cL_lookup 3 = .ok (.aload_n 0, 1) := by decide +kernel
theorem dL_lookup_4 : decode cL_lookup 4 = .ok (.iload_n 1, 1) := by decide +kernel
theorem dL_lookup_5 : decode cL_lookup 5 = .ok (.iload_n 2, 1) := by decide +kernel
theorem dL_lookup_6 : decode cL_lookup 6 = .ok (.iload_n 3, 1) := by decide +kernel
theorem dL_lookup_7 : decode cL_lookup 7 = .ok (.invokevirtual 7, 3) := by decide +kernel
theorem dL_lookup_10 : decode cL_lookup 10 = .ok (.i2l, 1) := by decide +kernel
theorem dL_lookup_11 : decode cL_lookup 11 = .ok (.lastore, 1) := by decide +kernel
theorem dL_lookup_12 : decode cL_lookup 12 = .ok (.goto 11, 3) := by decide +kernel
theorem dL_lookup_15 : decode cL_lookup 15 = .ok (.astore 5, 2) := by decide +kernel
theorem dL_lookup_17 : decode cL_lookup 17 = .ok (.iconst 1, 1) := by decide +kernel
theorem dL_lookup_18 : decode cL_lookup 18 = .ok (.ireturn, 1) := by decide +kernel
theorem dL_lookup_19 : decode cL_lookup 19 = .ok (.astore 5, 2) := by decide +kernel
theorem dL_lookup_21 : decode cL_lookup 21 = .ok (.iconst 2, 1) := by decide +kernel
theorem dL_lookup_22 : decode cL_lookup 22 = .ok (.ireturn, 1) := by decide +kernel
theorem dL_lookup_23 : decode cL_lookup 23 = .ok (.iconst 0, 1) := by decide +kernel
theorem dL_lookup_24 : decode cL_lookup 24 = .ok (.ireturn, 1) := by decide +kernel
theorem dL_makeDirectory_0 : decode cL_makeDirectory 0 = .ok (.aload 4, 2) := by decide +kernel
theorem dL_makeDirectory_2 : decode cL_makeDirectory 2 = .ok (.iconst 0, 1) := by decide +kernel
theorem dL_makeDirectory_3 : decode cL_makeDirectory 3 = .ok (.aload_n 0, 1) := by decide +kernel
theorem dL_makeDirectory_4 : decode cL_makeDirectory 4 = .ok (.iload_n 1, 1) := by decide +kernel
theorem dL_makeDirectory_5 : decode cL_makeDirectory 5 = .ok (.iload_n 2, 1) := by decide +kernel
theorem dL_makeDirectory_6 : decode cL_makeDirectory 6 = .ok (.iload_n 3, 1) := by decide +kernel
theorem dL_makeDirectory_7 : decode cL_makeDirectory 7 = .ok (.invokevirtual 17, 3) := by decide +kernel
theorem dL_makeDirectory_10 : decode cL_makeDirectory 10 = .ok (.i2l, 1) := by decide +kernel
theorem dL_makeDirectory_11 : decode cL_makeDirectory 11 = .ok (.lastore, 1) := by decide +kernel
theorem dL_makeDirectory_12 : decode cL_makeDirectory 12 = .ok (.goto 15, 3) := by decide +kernel
theorem dL_makeDirectory_15 : decode cL_makeDirectory 15 = .ok (.astore 5, 2) := by decide +kernel
theorem dL_makeDirectory_17 : decode cL_makeDirectory 17 = .ok (.iconst 1, 1) := by decide +kernel
theorem dL_makeDirectory_18 : decode cL_makeDirectory 18 = .ok (.ireturn, 1) := by decide +kernel
theorem dL_makeDirectory_19 : decode cL_makeDirectory 19 = .ok (.astore 5, 2) := by decide +kernel
theorem dL_makeDirectory_21 : decode cL_makeDirectory 21 = .ok (.iconst 2, 1) := by decide +kernel
theorem dL_makeDirectory_22 : decode cL_makeDirectory 22 = .ok (.ireturn, 1) := by decide +kernel
theorem dL_makeDirectory_23 : decode cL_makeDirectory 23 = .ok (.astore 5, 2) := by decide +kernel
theorem dL_makeDirectory_25 : decode cL_makeDirectory 25 = .ok (.iconst 3, 1) := by decide +kernel
theorem dL_makeDirectory_26 : decode cL_makeDirectory 26 = .ok (.ireturn, 1) := by decide +kernel
theorem dL_makeDirectory_27 : decode cL_makeDirectory 27 = .ok (.iconst 0, 1) := by decide +kernel
theorem dL_makeDirectory_28 : decode cL_makeDirectory 28 = .ok (.ireturn, 1) := by decide +kernel
theorem dL_makeFile_0 : decode cL_makeFile 0 = .ok (.aload 4, 2) := by decide +kernel
theorem dL_makeFile_2 : decode cL_makeFile 2 = .ok (.iconst 0, 1) := by decide +kernel
theorem dL_makeFile_3 : decode cL_makeFile 3 = .ok (.aload_n 0, 1) := by decide +kernel
theorem dL_makeFile_4 : decode cL_makeFile 4 = .ok (.iload_n 1, 1) := by decide +kernel
theorem dL_makeFile_5 : decode cL_makeFile 5 = .ok (.iload_n 2, 1) := by decide +kernel
theorem dL_makeFile_6 : decode cL_makeFile 6 = .ok (.iload_n 3, 1) := by decide +kernel
theorem dL_makeFile_7 : decode cL_makeFile 7 = .ok (.invokevirtual 22, 3) := by decide +kernel
theorem dL_makeFile_10 : decode cL_makeFile 10 = .ok (.i2l, 1) := by decide +kernel
theorem dL_makeFile_11 : decode cL_makeFile 11 = .ok (.lastore, 1) := by decide +kernel
theorem dL_makeFile_12 : decode cL_makeFile 12 = .ok (.goto 15, 3) := by decide +kernel
theorem dL_makeFile_15 : decode cL_makeFile 15 = .ok (.astore 5, 2) := by decide +kernel
theorem dL_makeFile_17 : decode cL_makeFile 17 = .ok (.iconst 1, 1) := by decide +kernel
theorem dL_makeFile_18 : decode cL_makeFile 18 = .ok (.ireturn, 1) := by decide +kernel
theorem dL_makeFile_19 : decode cL_makeFile 19 = .ok (.astore 5, 2) := by decide +kernel
theorem dL_makeFile_21 : decode cL_makeFile 21 = .ok (.iconst 2, 1) := by decide +kernel
theorem dL_makeFile_22 : decode cL_makeFile 22 = .ok (.ireturn, 1) := by decide +kernel
theorem dL_makeFile_23 : decode cL_makeFile 23 = .ok (.astore 5, 2) := by decide +kernel
theorem dL_makeFile_25 : decode cL_makeFile 25 = .ok (.iconst 3, 1) := by decide +kernel
theorem dL_makeFile_26 : decode cL_makeFile 26 = .ok (.ireturn, 1) := by decide +kernel
theorem dL_makeFile_27 : decode cL_makeFile 27 = .ok (.iconst 0, 1) := by decide +kernel
theorem dL_makeFile_28 : decode cL_makeFile 28 = .ok (.ireturn, 1) := by decide +kernel
theorem dL_link_0 : decode cL_link 0 = .ok (.aload 5, 2) := by decide +kernel
theorem dL_link_2 : decode cL_link 2 = .ok (.iconst 0, 1) := by decide +kernel
theorem dL_link_3 : decode cL_link 3 = .ok (.aload_n 0, 1) := by decide +kernel
theorem dL_link_4 : decode cL_link 4 = .ok (.iload_n 1, 1) := by decide +kernel
theorem dL_link_5 : decode cL_link 5 = .ok (.iload_n 2, 1) := by decide +kernel
theorem dL_link_6 : decode cL_link 6 = .ok (.iload_n 3, 1) := by decide +kernel
theorem dL_link_7 : decode cL_link 7 = .ok (.iload 4, 2) := by decide +kernel
theorem dL_link_9 : decode cL_link 9 = .ok (.invokevirtual 25, 3) := by decide +kernel
theorem dL_link_12 : decode cL_link 12 = .ok (.i2l, 1) := by decide +kernel
theorem dL_link_13 : decode cL_link 13 = .ok (.lastore, 1) := by decide +kernel
theorem dL_link_14 : decode cL_link 14 = .ok (.goto 15, 3) := by decide +kernel
theorem dL_link_17 : decode cL_link 17 = .ok (.astore 6, 2) := by decide +kernel
theorem dL_link_19 : decode cL_link 19 = .ok (.iconst 1, 1) := by decide +kernel
theorem dL_link_20 : decode cL_link 20 = .ok (.ireturn, 1) := by decide +kernel
theorem dL_link_21 : decode cL_link 21 = .ok (.astore 6, 2) := by decide +kernel
theorem dL_link_23 : decode cL_link 23 = .ok (.iconst 2, 1) := by decide +kernel
theorem dL_link_24 : decode cL_link 24 = .ok (.ireturn, 1) := by decide +kernel
theorem dL_link_25 : decode cL_link 25 = .ok (.astore 6, 2) := by decide +kernel
theorem dL_link_27 : decode cL_link 27 = .ok (.iconst 3, 1) := by decide +kernel
theorem dL_link_28 : decode cL_link 28 = .ok (.ireturn, 1) := by decide +kernel
theorem dL_link_29 : decode cL_link 29 = .ok (.iconst 0, 1) := by decide +kernel
theorem dL_link_30 : decode cL_link 30 = .ok (.ireturn, 1) := by decide +kernel
theorem dL_remove_0 : decode cL_remove 0 = .ok (.aload 4, 2) := by decide +kernel
theorem dL_remove_2 : decode cL_remove 2 = .ok (.iconst 0, 1) := by decide +kernel
theorem dL_remove_3 : decode cL_remove 3 = .ok (.aload_n 0, 1) := by decide +kernel
theorem dL_remove_4 : decode cL_remove 4 = .ok (.iload_n 1, 1) := by decide +kernel
theorem dL_remove_5 : decode cL_remove 5 = .ok (.iload_n 2, 1) := by decide +kernel
theorem dL_remove_6 : decode cL_remove 6 = .ok (.iload_n 3, 1) := by decide +kernel
theorem dL_remove_7 : decode cL_remove 7 = .ok (.invokevirtual 29, 3) := by decide +kernel
theorem dL_remove_10 : decode cL_remove 10 = .ok (.i2l, 1) := by decide +kernel
theorem dL_remove_11 : decode cL_remove 11 = .ok (.lastore, 1) := by decide +kernel
theorem dL_remove_12 : decode cL_remove 12 = .ok (.goto 15, 3) := by decide +kernel
theorem dL_remove_15 : decode cL_remove 15 = .ok (.astore 5, 2) := by decide +kernel
theorem dL_remove_17 : decode cL_remove 17 = .ok (.iconst 1, 1) := by decide +kernel
theorem dL_remove_18 : decode cL_remove 18 = .ok (.ireturn, 1) := by decide +kernel
theorem dL_remove_19 : decode cL_remove 19 = .ok (.astore 5, 2) := by decide +kernel
theorem dL_remove_21 : decode cL_remove 21 = .ok (.iconst 2, 1) := by decide +kernel
theorem dL_remove_22 : decode cL_remove 22 = .ok (.ireturn, 1) := by decide +kernel
theorem dL_remove_23 : decode cL_remove 23 = .ok (.astore 5, 2) := by decide +kernel
theorem dL_remove_25 : decode cL_remove 25 = .ok (.iconst 3, 1) := by decide +kernel
theorem dL_remove_26 : decode cL_remove 26 = .ok (.ireturn, 1) := by decide +kernel
theorem dL_remove_27 : decode cL_remove 27 = .ok (.iconst 0, 1) := by decide +kernel
theorem dL_remove_28 : decode cL_remove 28 = .ok (.ireturn, 1) := by decide +kernel
theorem dL_rename_0 : decode cL_rename 0 = .ok (.aload_n 0, 1) := by decide +kernel
theorem dL_rename_1 : decode cL_rename 1 = .ok (.iload_n 1, 1) := by decide +kernel
theorem dL_rename_2 : decode cL_rename 2 = .ok (.iload_n 2, 1) := by decide +kernel
theorem dL_rename_3 : decode cL_rename 3 = .ok (.iload_n 3, 1) := by decide +kernel
theorem dL_rename_4 : decode cL_rename 4 = .ok (.iload 4, 2) := by decide +kernel
theorem dL_rename_6 : decode cL_rename 6 = .ok (.iload 5, 2) := by decide +kernel
theorem dL_rename_8 : decode cL_rename 8 = .ok (.invokevirtual 32, 3) := by decide +kernel
theorem dL_rename_11 : decode cL_rename 11 = .ok (.goto 15, 3) := by decide +kernel
theorem dL_rename_14 : decode cL_rename 14 = .ok (.astore 6, 2) := by decide +kernel
theorem dL_rename_16 : decode cL_rename 16 = .ok (.iconst 1, 1) := by decide +kernel
theorem dL_rename_17 : decode cL_rename 17 = .ok (.ireturn, 1) := by decide +kernel
theorem dL_rename_18 : decode cL_rename 18 = .ok (.astore 6, 2) := by decide +kernel
theorem dL_rename_20 : decode cL_rename 20 = .ok (.iconst 2, 1) := by decide +kernel
theorem dL_rename_21 : decode cL_rename 21 = .ok (.ireturn, 1) := by decide +kernel
theorem dL_rename_22 : decode cL_rename 22 = .ok (.astore 6, 2) := by decide +kernel
theorem dL_rename_24 : decode cL_rename 24 = .ok (.iconst 3, 1) := by decide +kernel
theorem dL_rename_25 : decode cL_rename 25 = .ok (.ireturn, 1) := by decide +kernel
theorem dL_rename_26 : decode cL_rename 26 = .ok (.iconst 0, 1) := by decide +kernel
theorem dL_rename_27 : decode cL_rename 27 = .ok (.ireturn, 1) := by decide +kernel
theorem dL_pass_0 : decode cL_pass 0 = .ok (.aload_n 2, 1) := by decide +kernel
theorem dL_pass_1 : decode cL_pass 1 = .ok (.iconst 0, 1) := by decide +kernel
theorem dL_pass_2 : decode cL_pass 2 = .ok (.aload_n 0, 1) := by decide +kernel
theorem dL_pass_3 : decode cL_pass 3 = .ok (.iload_n 1, 1) := by decide +kernel
theorem dL_pass_4 : decode cL_pass 4 = .ok (.invokevirtual 36, 3) := by decide +kernel
theorem dL_pass_7 : decode cL_pass 7 = .ok (.i2l, 1) := by decide +kernel
theorem dL_pass_8 : decode cL_pass 8 = .ok (.lastore, 1) := by decide +kernel
theorem dL_pass_9 : decode cL_pass 9 = .ok (.goto 6, 3) := by decide +kernel
theorem dL_pass_12 : decode cL_pass 12 = .ok (.astore_n 3, 1) := by decide +kernel
theorem dL_pass_13 : decode cL_pass 13 = .ok (.iconst 1, 1) := by decide +kernel
theorem dL_pass_14 : decode cL_pass 14 = .ok (.ireturn, 1) := by decide +kernel
theorem dL_pass_15 : decode cL_pass 15 = .ok (.iconst 0, 1) := by decide +kernel
theorem dL_pass_16 : decode cL_pass 16 = .ok (.ireturn, 1) := by decide +kernel
theorem dL_leases_0 : decode cL_leases 0 = .ok (.aload_n 2, 1) := by decide +kernel
theorem dL_leases_1 : decode cL_leases 1 = .ok (.iconst 0, 1) := by decide +kernel
theorem dL_leases_2 : decode cL_leases 2 = .ok (.aload_n 0, 1) := by decide +kernel
theorem dL_leases_3 : decode cL_leases 3 = .ok (.iload_n 1, 1) := by decide +kernel
theorem dL_leases_4 : decode cL_leases 4 = .ok (.invokevirtual 40, 3) := by decide +kernel
theorem dL_leases_7 : decode cL_leases 7 = .ok (.i2l, 1) := by decide +kernel
theorem dL_leases_8 : decode cL_leases 8 = .ok (.lastore, 1) := by decide +kernel
theorem dL_leases_9 : decode cL_leases 9 = .ok (.goto 6, 3) := by decide +kernel
theorem dL_leases_12 : decode cL_leases 12 = .ok (.astore_n 3, 1) := by decide +kernel
theorem dL_leases_13 : decode cL_leases 13 = .ok (.iconst 1, 1) := by decide +kernel
theorem dL_leases_14 : decode cL_leases 14 = .ok (.ireturn, 1) := by decide +kernel
theorem dL_leases_15 : decode cL_leases 15 = .ok (.iconst 0, 1) := by decide +kernel
theorem dL_leases_16 : decode cL_leases 16 = .ok (.ireturn, 1) := by decide +kernel
theorem dL_recalls_0 : decode cL_recalls 0 = .ok (.aload_n 2, 1) := by decide +kernel
theorem dL_recalls_1 : decode cL_recalls 1 = .ok (.iconst 0, 1) := by decide +kernel
theorem dL_recalls_2 : decode cL_recalls 2 = .ok (.aload_n 0, 1) := by decide +kernel
theorem dL_recalls_3 : decode cL_recalls 3 = .ok (.iload_n 1, 1) := by decide +kernel
theorem dL_recalls_4 : decode cL_recalls 4 = .ok (.invokevirtual 43, 3) := by decide +kernel
theorem dL_recalls_7 : decode cL_recalls 7 = .ok (.i2l, 1) := by decide +kernel
theorem dL_recalls_8 : decode cL_recalls 8 = .ok (.lastore, 1) := by decide +kernel
theorem dL_recalls_9 : decode cL_recalls 9 = .ok (.goto 6, 3) := by decide +kernel
theorem dL_recalls_12 : decode cL_recalls 12 = .ok (.astore_n 3, 1) := by decide +kernel
theorem dL_recalls_13 : decode cL_recalls 13 = .ok (.iconst 1, 1) := by decide +kernel
theorem dL_recalls_14 : decode cL_recalls 14 = .ok (.ireturn, 1) := by decide +kernel
theorem dL_recalls_15 : decode cL_recalls 15 = .ok (.iconst 0, 1) := by decide +kernel
theorem dL_recalls_16 : decode cL_recalls 16 = .ok (.ireturn, 1) := by decide +kernel
theorem dL_known_0 : decode cL_known 0 = .ok (.aload_n 2, 1) := by decide +kernel
theorem dL_known_1 : decode cL_known 1 = .ok (.iconst 0, 1) := by decide +kernel
theorem dL_known_2 : decode cL_known 2 = .ok (.aload_n 0, 1) := by decide +kernel
theorem dL_known_3 : decode cL_known 3 = .ok (.iload_n 1, 1) := by decide +kernel
theorem dL_known_4 : decode cL_known 4 = .ok (.invokevirtual 46, 3) := by decide +kernel
theorem dL_known_7 : decode cL_known 7 = .ok (.i2l, 1) := by decide +kernel
theorem dL_known_8 : decode cL_known 8 = .ok (.lastore, 1) := by decide +kernel
theorem dL_known_9 : decode cL_known 9 = .ok (.goto 6, 3) := by decide +kernel
theorem dL_known_12 : decode cL_known 12 = .ok (.astore_n 3, 1) := by decide +kernel
theorem dL_known_13 : decode cL_known 13 = .ok (.iconst 1, 1) := by decide +kernel
theorem dL_known_14 : decode cL_known 14 = .ok (.ireturn, 1) := by decide +kernel
theorem dL_known_15 : decode cL_known 15 = .ok (.iconst 0, 1) := by decide +kernel
theorem dL_known_16 : decode cL_known 16 = .ok (.ireturn, 1) := by decide +kernel
theorem dL_split_0 : decode cL_split 0 = .ok (.aload_n 3, 1) := by decide +kernel
theorem dL_split_1 : decode cL_split 1 = .ok (.iconst 0, 1) := by decide +kernel
theorem dL_split_2 : decode cL_split 2 = .ok (.aload_n 0, 1) := by decide +kernel
theorem dL_split_3 : decode cL_split 3 = .ok (.iload_n 1, 1) := by decide +kernel
theorem dL_split_4 : decode cL_split 4 = .ok (.iload_n 2, 1) := by decide +kernel
theorem dL_split_5 : decode cL_split 5 = .ok (.invokevirtual 49, 3) := by decide +kernel
theorem dL_split_8 : decode cL_split 8 = .ok (.i2l, 1) := by decide +kernel
theorem dL_split_9 : decode cL_split 9 = .ok (.lastore, 1) := by decide +kernel
theorem dL_split_10 : decode cL_split 10 = .ok (.goto 15, 3) := by decide +kernel
theorem dL_split_13 : decode cL_split 13 = .ok (.astore 4, 2) := by decide +kernel
theorem dL_split_15 : decode cL_split 15 = .ok (.iconst 1, 1) := by decide +kernel
theorem dL_split_16 : decode cL_split 16 = .ok (.ireturn, 1) := by decide +kernel
theorem dL_split_17 : decode cL_split 17 = .ok (.astore 4, 2) := by decide +kernel
theorem dL_split_19 : decode cL_split 19 = .ok (.iconst 2, 1) := by decide +kernel
theorem dL_split_20 : decode cL_split 20 = .ok (.ireturn, 1) := by decide +kernel
theorem dL_split_21 : decode cL_split 21 = .ok (.astore 4, 2) := by decide +kernel
theorem dL_split_23 : decode cL_split 23 = .ok (.iconst 3, 1) := by decide +kernel
theorem dL_split_24 : decode cL_split 24 = .ok (.ireturn, 1) := by decide +kernel
theorem dL_split_25 : decode cL_split 25 = .ok (.iconst 0, 1) := by decide +kernel
theorem dL_split_26 : decode cL_split 26 = .ok (.ireturn, 1) := by decide +kernel
theorem dL_merge_0 : decode cL_merge 0 = .ok (.aload_n 3, 1) := by decide +kernel
theorem dL_merge_1 : decode cL_merge 1 = .ok (.iconst 0, 1) := by decide +kernel
theorem dL_merge_2 : decode cL_merge 2 = .ok (.aload_n 0, 1) := by decide +kernel
theorem dL_merge_3 : decode cL_merge 3 = .ok (.iload_n 1, 1) := by decide +kernel
theorem dL_merge_4 : decode cL_merge 4 = .ok (.iload_n 2, 1) := by decide +kernel
theorem dL_merge_5 : decode cL_merge 5 = .ok (.invokevirtual 53, 3) := by decide +kernel
theorem dL_merge_8 : decode cL_merge 8 = .ok (.i2l, 1) := by decide +kernel
theorem dL_merge_9 : decode cL_merge 9 = .ok (.lastore, 1) := by decide +kernel
theorem dL_merge_10 : decode cL_merge 10 = .ok (.goto 15, 3) := by decide +kernel
theorem dL_merge_13 : decode cL_merge 13 = .ok (.astore 4, 2) := by decide +kernel
theorem dL_merge_15 : decode cL_merge 15 = .ok (.iconst 1, 1) := by decide +kernel
theorem dL_merge_16 : decode cL_merge 16 = .ok (.ireturn, 1) := by decide +kernel
theorem dL_merge_17 : decode cL_merge 17 = .ok (.astore 4, 2) := by decide +kernel
theorem dL_merge_19 : decode cL_merge 19 = .ok (.iconst 2, 1) := by decide +kernel
theorem dL_merge_20 : decode cL_merge 20 = .ok (.ireturn, 1) := by decide +kernel
theorem dL_merge_21 : decode cL_merge 21 = .ok (.astore 4, 2) := by decide +kernel
theorem dL_merge_23 : decode cL_merge 23 = .ok (.iconst 3, 1) := by decide +kernel
theorem dL_merge_24 : decode cL_merge 24 = .ok (.ireturn, 1) := by decide +kernel
theorem dL_merge_25 : decode cL_merge 25 = .ok (.iconst 0, 1) := by decide +kernel
theorem dL_merge_26 : decode cL_merge 26 = .ok (.ireturn, 1) := by decide +kernel
theorem dL_fragments_0 : decode cL_fragments 0 = .ok (.aload_n 2, 1) := by decide +kernel
theorem dL_fragments_1 : decode cL_fragments 1 = .ok (.iconst 0, 1) := by decide +kernel
theorem dL_fragments_2 : decode cL_fragments 2 = .ok (.aload_n 0, 1) := by decide +kernel
theorem dL_fragments_3 : decode cL_fragments 3 = .ok (.iload_n 1, 1) := by decide +kernel
theorem dL_fragments_4 : decode cL_fragments 4 = .ok (.invokevirtual 56, 3) := by decide +kernel
theorem dL_fragments_7 : decode cL_fragments 7 = .ok (.i2l, 1) := by decide +kernel
theorem dL_fragments_8 : decode cL_fragments 8 = .ok (.lastore, 1) := by decide +kernel
theorem dL_fragments_9 : decode cL_fragments 9 = .ok (.goto 6, 3) := by decide +kernel
theorem dL_fragments_12 : decode cL_fragments 12 = .ok (.astore_n 3, 1) := by decide +kernel
theorem dL_fragments_13 : decode cL_fragments 13 = .ok (.iconst 1, 1) := by decide +kernel
theorem dL_fragments_14 : decode cL_fragments 14 = .ok (.ireturn, 1) := by decide +kernel
theorem dL_fragments_15 : decode cL_fragments 15 = .ok (.iconst 0, 1) := by decide +kernel
theorem dL_fragments_16 : decode cL_fragments 16 = .ok (.ireturn, 1) := by decide +kernel
theorem dL_serverOf_0 : decode cL_serverOf 0 = .ok (.aload_n 3, 1) := by decide +kernel
theorem dL_serverOf_1 : decode cL_serverOf 1 = .ok (.iconst 0, 1) := by decide +kernel
theorem dL_serverOf_2 : decode cL_serverOf 2 = .ok (.aload_n 0, 1) := by decide +kernel
theorem dL_serverOf_3 : decode cL_serverOf 3 = .ok (.iload_n 1, 1) := by decide +kernel
theorem dL_serverOf_4 : decode cL_serverOf 4 = .ok (.iload_n 2, 1) := by decide +kernel
theorem dL_serverOf_5 : decode cL_serverOf 5 = .ok (.invokevirtual 59, 3) := by decide +kernel
theorem dL_serverOf_8 : decode cL_serverOf 8 = .ok (.i2l, 1) := by decide +kernel
theorem dL_serverOf_9 : decode cL_serverOf 9 = .ok (.lastore, 1) := by decide +kernel
theorem dL_serverOf_10 : decode cL_serverOf 10 = .ok (.goto 11, 3) := by decide +kernel
theorem dL_serverOf_13 : decode cL_serverOf 13 = .ok (.astore 4, 2) := by decide +kernel
theorem dL_serverOf_15 : decode cL_serverOf 15 = .ok (.iconst 1, 1) := by decide +kernel
theorem dL_serverOf_16 : decode cL_serverOf 16 = .ok (.ireturn, 1) := by decide +kernel
theorem dL_serverOf_17 : decode cL_serverOf 17 = .ok (.astore 4, 2) := by decide +kernel
theorem dL_serverOf_19 : decode cL_serverOf 19 = .ok (.iconst 2, 1) := by decide +kernel
theorem dL_serverOf_20 : decode cL_serverOf 20 = .ok (.ireturn, 1) := by decide +kernel
theorem dL_serverOf_21 : decode cL_serverOf 21 = .ok (.iconst 0, 1) := by decide +kernel
theorem dL_serverOf_22 : decode cL_serverOf 22 = .ok (.ireturn, 1) := by decide +kernel
theorem dL_ownerOf_0 : decode cL_ownerOf 0 = .ok (.aload_n 3, 1) := by decide +kernel
theorem dL_ownerOf_1 : decode cL_ownerOf 1 = .ok (.iconst 0, 1) := by decide +kernel
theorem dL_ownerOf_2 : decode cL_ownerOf 2 = .ok (.aload_n 0, 1) := by decide +kernel
theorem dL_ownerOf_3 : decode cL_ownerOf 3 = .ok (.iload_n 1, 1) := by decide +kernel
theorem dL_ownerOf_4 : decode cL_ownerOf 4 = .ok (.iload_n 2, 1) := by decide +kernel
theorem dL_ownerOf_5 : decode cL_ownerOf 5 = .ok (.invokevirtual 62, 3) := by decide +kernel
theorem dL_ownerOf_8 : decode cL_ownerOf 8 = .ok (.i2l, 1) := by decide +kernel
theorem dL_ownerOf_9 : decode cL_ownerOf 9 = .ok (.lastore, 1) := by decide +kernel
theorem dL_ownerOf_10 : decode cL_ownerOf 10 = .ok (.goto 11, 3) := by decide +kernel
theorem dL_ownerOf_13 : decode cL_ownerOf 13 = .ok (.astore 4, 2) := by decide +kernel
theorem dL_ownerOf_15 : decode cL_ownerOf 15 = .ok (.iconst 1, 1) := by decide +kernel
theorem dL_ownerOf_16 : decode cL_ownerOf 16 = .ok (.ireturn, 1) := by decide +kernel
theorem dL_ownerOf_17 : decode cL_ownerOf 17 = .ok (.astore 4, 2) := by decide +kernel
theorem dL_ownerOf_19 : decode cL_ownerOf 19 = .ok (.iconst 2, 1) := by decide +kernel
theorem dL_ownerOf_20 : decode cL_ownerOf 20 = .ok (.ireturn, 1) := by decide +kernel
theorem dL_ownerOf_21 : decode cL_ownerOf 21 = .ok (.iconst 0, 1) := by decide +kernel
theorem dL_ownerOf_22 : decode cL_ownerOf 22 = .ok (.ireturn, 1) := by decide +kernel
theorem dL_load_0 : decode cL_load 0 = .ok (.aload_n 2, 1) := by decide +kernel
theorem dL_load_1 : decode cL_load 1 = .ok (.iconst 0, 1) := by decide +kernel
theorem dL_load_2 : decode cL_load 2 = .ok (.aload_n 0, 1) := by decide +kernel
theorem dL_load_3 : decode cL_load 3 = .ok (.iload_n 1, 1) := by decide +kernel
theorem dL_load_4 : decode cL_load 4 = .ok (.invokevirtual 65, 3) := by decide +kernel
theorem dL_load_7 : decode cL_load 7 = .ok (.i2l, 1) := by decide +kernel
theorem dL_load_8 : decode cL_load 8 = .ok (.lastore, 1) := by decide +kernel
theorem dL_load_9 : decode cL_load 9 = .ok (.goto 6, 3) := by decide +kernel
theorem dL_load_12 : decode cL_load 12 = .ok (.astore_n 3, 1) := by decide +kernel
theorem dL_load_13 : decode cL_load 13 = .ok (.iconst 1, 1) := by decide +kernel
theorem dL_load_14 : decode cL_load 14 = .ok (.ireturn, 1) := by decide +kernel
theorem dL_load_15 : decode cL_load 15 = .ok (.iconst 0, 1) := by decide +kernel
theorem dL_load_16 : decode cL_load 16 = .ok (.ireturn, 1) := by decide +kernel
theorem dL_beginMove_0 : decode cL_beginMove 0 = .ok (.aload_n 0, 1) := by decide +kernel
theorem dL_beginMove_1 : decode cL_beginMove 1 = .ok (.iload_n 1, 1) := by decide +kernel
theorem dL_beginMove_2 : decode cL_beginMove 2 = .ok (.iload_n 2, 1) := by decide +kernel
theorem dL_beginMove_3 : decode cL_beginMove 3 = .ok (.iload_n 3, 1) := by decide +kernel
theorem dL_beginMove_4 : decode cL_beginMove 4 = .ok (.invokevirtual 68, 3) := by decide +kernel
theorem dL_beginMove_7 : decode cL_beginMove 7 = .ok (.goto 15, 3) := by decide +kernel
theorem dL_beginMove_10 : decode cL_beginMove 10 = .ok (.astore 4, 2) := by decide +kernel
theorem dL_beginMove_12 : decode cL_beginMove 12 = .ok (.iconst 1, 1) := by decide +kernel
theorem dL_beginMove_13 : decode cL_beginMove 13 = .ok (.ireturn, 1) := by decide +kernel
theorem dL_beginMove_14 : decode cL_beginMove 14 = .ok (.astore 4, 2) := by decide +kernel
theorem dL_beginMove_16 : decode cL_beginMove 16 = .ok (.iconst 2, 1) := by decide +kernel
theorem dL_beginMove_17 : decode cL_beginMove 17 = .ok (.ireturn, 1) := by decide +kernel
theorem dL_beginMove_18 : decode cL_beginMove 18 = .ok (.astore 4, 2) := by decide +kernel
theorem dL_beginMove_20 : decode cL_beginMove 20 = .ok (.iconst 3, 1) := by decide +kernel
theorem dL_beginMove_21 : decode cL_beginMove 21 = .ok (.ireturn, 1) := by decide +kernel
theorem dL_beginMove_22 : decode cL_beginMove 22 = .ok (.iconst 0, 1) := by decide +kernel
theorem dL_beginMove_23 : decode cL_beginMove 23 = .ok (.ireturn, 1) := by decide +kernel
theorem dL_stepMove_0 : decode cL_stepMove 0 = .ok (.aload_n 1, 1) := by decide +kernel
theorem dL_stepMove_1 : decode cL_stepMove 1 = .ok (.iconst 0, 1) := by decide +kernel
theorem dL_stepMove_2 : decode cL_stepMove 2 = .ok (.aload_n 0, 1) := by decide +kernel
theorem dL_stepMove_3 : decode cL_stepMove 3 = .ok (.invokevirtual 72, 3) := by decide +kernel
theorem dL_stepMove_6 : decode cL_stepMove 6 = .ok (.i2l, 1) := by decide +kernel
theorem dL_stepMove_7 : decode cL_stepMove 7 = .ok (.lastore, 1) := by decide +kernel
theorem dL_stepMove_8 : decode cL_stepMove 8 = .ok (.goto 6, 3) := by decide +kernel
theorem dL_stepMove_11 : decode cL_stepMove 11 = .ok (.astore_n 2, 1) := by decide +kernel
theorem dL_stepMove_12 : decode cL_stepMove 12 = .ok (.iconst 1, 1) := by decide +kernel
theorem dL_stepMove_13 : decode cL_stepMove 13 = .ok (.ireturn, 1) := by decide +kernel
theorem dL_stepMove_14 : decode cL_stepMove 14 = .ok (.iconst 0, 1) := by decide +kernel
theorem dL_stepMove_15 : decode cL_stepMove 15 = .ok (.ireturn, 1) := by decide +kernel
theorem dL_giveUpMove_0 : decode cL_giveUpMove 0 = .ok (.aload_n 1, 1) := by decide +kernel
theorem dL_giveUpMove_1 : decode cL_giveUpMove 1 = .ok (.iconst 0, 1) := by decide +kernel
theorem dL_giveUpMove_2 : decode cL_giveUpMove 2 = .ok (.aload_n 0, 1) := by decide +kernel
theorem dL_giveUpMove_3 : decode cL_giveUpMove 3 = .ok (.invokevirtual 76, 3) := by decide +kernel
theorem dL_giveUpMove_6 : decode cL_giveUpMove 6 = .ok (.i2l, 1) := by decide +kernel
theorem dL_giveUpMove_7 : decode cL_giveUpMove 7 = .ok (.lastore, 1) := by decide +kernel
theorem dL_giveUpMove_8 : decode cL_giveUpMove 8 = .ok (.goto 6, 3) := by decide +kernel
theorem dL_giveUpMove_11 : decode cL_giveUpMove 11 = .ok (.astore_n 2, 1) := by decide +kernel
theorem dL_giveUpMove_12 : decode cL_giveUpMove 12 = .ok (.iconst 1, 1) := by decide +kernel
theorem dL_giveUpMove_13 : decode cL_giveUpMove 13 = .ok (.ireturn, 1) := by decide +kernel
theorem dL_giveUpMove_14 : decode cL_giveUpMove 14 = .ok (.iconst 0, 1) := by decide +kernel
theorem dL_giveUpMove_15 : decode cL_giveUpMove 15 = .ok (.ireturn, 1) := by decide +kernel
theorem dL_isFrozen_0 : decode cL_isFrozen 0 = .ok (.aload_n 3, 1) := by decide +kernel
theorem dL_isFrozen_1 : decode cL_isFrozen 1 = .ok (.iconst 0, 1) := by decide +kernel
theorem dL_isFrozen_2 : decode cL_isFrozen 2 = .ok (.aload_n 0, 1) := by decide +kernel
theorem dL_isFrozen_3 : decode cL_isFrozen 3 = .ok (.iload_n 1, 1) := by decide +kernel
theorem dL_isFrozen_4 : decode cL_isFrozen 4 = .ok (.iload_n 2, 1) := by decide +kernel
theorem dL_isFrozen_5 : decode cL_isFrozen 5 = .ok (.invokevirtual 79, 3) := by decide +kernel
theorem dL_isFrozen_8 : decode cL_isFrozen 8 = .ok (.ifCond .eq 7, 3) := by decide +kernel
theorem dL_isFrozen_11 : decode cL_isFrozen 11 = .ok (.lconst 1, 1) := by decide +kernel
theorem dL_isFrozen_12 : decode cL_isFrozen 12 = .ok (.goto 4, 3) := by decide +kernel
theorem dL_isFrozen_15 : decode cL_isFrozen 15 = .ok (.lconst 0, 1) := by decide +kernel
theorem dL_isFrozen_16 : decode cL_isFrozen 16 = .ok (.lastore, 1) := by decide +kernel
theorem dL_isFrozen_17 : decode cL_isFrozen 17 = .ok (.goto 11, 3) := by decide +kernel
theorem dL_isFrozen_20 : decode cL_isFrozen 20 = .ok (.astore 4, 2) := by decide +kernel
theorem dL_isFrozen_22 : decode cL_isFrozen 22 = .ok (.iconst 1, 1) := by decide +kernel
theorem dL_isFrozen_23 : decode cL_isFrozen 23 = .ok (.ireturn, 1) := by decide +kernel
theorem dL_isFrozen_24 : decode cL_isFrozen 24 = .ok (.astore 4, 2) := by decide +kernel
theorem dL_isFrozen_26 : decode cL_isFrozen 26 = .ok (.iconst 2, 1) := by decide +kernel
theorem dL_isFrozen_27 : decode cL_isFrozen 27 = .ok (.ireturn, 1) := by decide +kernel
theorem dL_isFrozen_28 : decode cL_isFrozen 28 = .ok (.iconst 0, 1) := by decide +kernel
theorem dL_isFrozen_29 : decode cL_isFrozen 29 = .ok (.ireturn, 1) := by decide +kernel
theorem dL_balance_0 : decode cL_balance 0 = .ok (.aload_n 1, 1) := by decide +kernel
theorem dL_balance_1 : decode cL_balance 1 = .ok (.iconst 0, 1) := by decide +kernel
theorem dL_balance_2 : decode cL_balance 2 = .ok (.aload_n 0, 1) := by decide +kernel
theorem dL_balance_3 : decode cL_balance 3 = .ok (.invokevirtual 83, 3) := by decide +kernel
theorem dL_balance_6 : decode cL_balance 6 = .ok (.i2l, 1) := by decide +kernel
theorem dL_balance_7 : decode cL_balance 7 = .ok (.lastore, 1) := by decide +kernel
theorem dL_balance_8 : decode cL_balance 8 = .ok (.goto 6, 3) := by decide +kernel
theorem dL_balance_11 : decode cL_balance 11 = .ok (.astore_n 2, 1) := by decide +kernel
theorem dL_balance_12 : decode cL_balance 12 = .ok (.iconst 1, 1) := by decide +kernel
theorem dL_balance_13 : decode cL_balance 13 = .ok (.ireturn, 1) := by decide +kernel
theorem dL_balance_14 : decode cL_balance 14 = .ok (.iconst 0, 1) := by decide +kernel
theorem dL_balance_15 : decode cL_balance 15 = .ok (.ireturn, 1) := by decide +kernel
theorem dL_links_0 : decode cL_links 0 = .ok (.aload_n 2, 1) := by decide +kernel
theorem dL_links_1 : decode cL_links 1 = .ok (.iconst 0, 1) := by decide +kernel
theorem dL_links_2 : decode cL_links 2 = .ok (.aload_n 0, 1) := by decide +kernel
theorem dL_links_3 : decode cL_links 3 = .ok (.iload_n 1, 1) := by decide +kernel
theorem dL_links_4 : decode cL_links 4 = .ok (.invokevirtual 86, 3) := by decide +kernel
theorem dL_links_7 : decode cL_links 7 = .ok (.i2l, 1) := by decide +kernel
theorem dL_links_8 : decode cL_links 8 = .ok (.lastore, 1) := by decide +kernel
theorem dL_links_9 : decode cL_links 9 = .ok (.goto 6, 3) := by decide +kernel
theorem dL_links_12 : decode cL_links 12 = .ok (.astore_n 3, 1) := by decide +kernel
theorem dL_links_13 : decode cL_links 13 = .ok (.iconst 1, 1) := by decide +kernel
theorem dL_links_14 : decode cL_links 14 = .ok (.ireturn, 1) := by decide +kernel
theorem dL_links_15 : decode cL_links 15 = .ok (.iconst 0, 1) := by decide +kernel
theorem dL_links_16 : decode cL_links 16 = .ok (.ireturn, 1) := by decide +kernel
theorem dL_anchor_0 : decode cL_anchor 0 = .ok (.aload_n 2, 1) := by decide +kernel
theorem dL_anchor_1 : decode cL_anchor 1 = .ok (.iconst 0, 1) := by decide +kernel
theorem dL_anchor_2 : decode cL_anchor 2 = .ok (.aload_n 0, 1) := by decide +kernel
theorem dL_anchor_3 : decode cL_anchor 3 = .ok (.iload_n 1, 1) := by decide +kernel
theorem dL_anchor_4 : decode cL_anchor 4 = .ok (.invokevirtual 89, 3) := by decide +kernel
theorem dL_anchor_7 : decode cL_anchor 7 = .ok (.i2l, 1) := by decide +kernel
theorem dL_anchor_8 : decode cL_anchor 8 = .ok (.lastore, 1) := by decide +kernel
theorem dL_anchor_9 : decode cL_anchor 9 = .ok (.goto 6, 3) := by decide +kernel
theorem dL_anchor_12 : decode cL_anchor 12 = .ok (.astore_n 3, 1) := by decide +kernel
theorem dL_anchor_13 : decode cL_anchor 13 = .ok (.iconst 1, 1) := by decide +kernel
theorem dL_anchor_14 : decode cL_anchor 14 = .ok (.ireturn, 1) := by decide +kernel
theorem dL_anchor_15 : decode cL_anchor 15 = .ok (.iconst 0, 1) := by decide +kernel
theorem dL_anchor_16 : decode cL_anchor 16 = .ok (.ireturn, 1) := by decide +kernel
theorem dL_byTree_0 : decode cL_byTree 0 = .ok (.aload_n 3, 1) := by decide +kernel
theorem dL_byTree_1 : decode cL_byTree 1 = .ok (.iconst 0, 1) := by decide +kernel
theorem dL_byTree_2 : decode cL_byTree 2 = .ok (.aload_n 0, 1) := by decide +kernel
theorem dL_byTree_3 : decode cL_byTree 3 = .ok (.iload_n 1, 1) := by decide +kernel
theorem dL_byTree_4 : decode cL_byTree 4 = .ok (.iload_n 2, 1) := by decide +kernel
theorem dL_byTree_5 : decode cL_byTree 5 = .ok (.invokevirtual 92, 3) := by decide +kernel
theorem dL_byTree_8 : decode cL_byTree 8 = .ok (.i2l, 1) := by decide +kernel
theorem dL_byTree_9 : decode cL_byTree 9 = .ok (.lastore, 1) := by decide +kernel
theorem dL_byTree_10 : decode cL_byTree 10 = .ok (.goto 11, 3) := by decide +kernel
theorem dL_byTree_13 : decode cL_byTree 13 = .ok (.astore 4, 2) := by decide +kernel
theorem dL_byTree_15 : decode cL_byTree 15 = .ok (.iconst 1, 1) := by decide +kernel
theorem dL_byTree_16 : decode cL_byTree 16 = .ok (.ireturn, 1) := by decide +kernel
theorem dL_byTree_17 : decode cL_byTree 17 = .ok (.astore 4, 2) := by decide +kernel
theorem dL_byTree_19 : decode cL_byTree 19 = .ok (.iconst 2, 1) := by decide +kernel
theorem dL_byTree_20 : decode cL_byTree 20 = .ok (.ireturn, 1) := by decide +kernel
theorem dL_byTree_21 : decode cL_byTree 21 = .ok (.iconst 0, 1) := by decide +kernel
theorem dL_byTree_22 : decode cL_byTree 22 = .ok (.ireturn, 1) := by decide +kernel
theorem dL_size_0 : decode cL_size 0 = .ok (.aload_n 2, 1) := by decide +kernel
theorem dL_size_1 : decode cL_size 1 = .ok (.iconst 0, 1) := by decide +kernel
theorem dL_size_2 : decode cL_size 2 = .ok (.aload_n 0, 1) := by decide +kernel
theorem dL_size_3 : decode cL_size 3 = .ok (.iload_n 1, 1) := by decide +kernel
theorem dL_size_4 : decode cL_size 4 = .ok (.invokevirtual 95, 3) := by decide +kernel
theorem dL_size_7 : decode cL_size 7 = .ok (.i2l, 1) := by decide +kernel
theorem dL_size_8 : decode cL_size 8 = .ok (.lastore, 1) := by decide +kernel
theorem dL_size_9 : decode cL_size 9 = .ok (.goto 6, 3) := by decide +kernel
theorem dL_size_12 : decode cL_size 12 = .ok (.astore_n 3, 1) := by decide +kernel
theorem dL_size_13 : decode cL_size 13 = .ok (.iconst 1, 1) := by decide +kernel
theorem dL_size_14 : decode cL_size 14 = .ok (.ireturn, 1) := by decide +kernel
theorem dL_size_15 : decode cL_size 15 = .ok (.iconst 0, 1) := by decide +kernel
theorem dL_size_16 : decode cL_size 16 = .ok (.ireturn, 1) := by decide +kernel
theorem dL_law_0 : decode cL_law 0 = .ok (.new 8, 3) := by decide +kernel
theorem dL_law_3 : decode cL_law 3 = .ok (.dup, 1) := by decide +kernel
theorem dL_law_4 : decode cL_law 4 = .ok (.invokespecial 98, 3) := by decide +kernel
theorem dL_law_7 : decode cL_law 7 = .ok (.astore_n 1, 1) := by decide +kernel
theorem dL_law_8 : decode cL_law 8 = .ok (.new 99, 3) := by decide +kernel
theorem dL_law_11 : decode cL_law 11 = .ok (.dup, 1) := by decide +kernel
theorem dL_law_12 : decode cL_law 12 = .ok (.invokespecial 101, 3) := by decide +kernel
theorem dL_law_15 : decode cL_law 15 = .ok (.astore_n 2, 1) := by decide +kernel
theorem dL_law_16 : decode cL_law 16 = .ok (.iconst 1, 1) := by decide +kernel
theorem dL_law_17 : decode cL_law 17 = .ok (.newarray .long, 2) := by decide +kernel
theorem dL_law_19 : decode cL_law 19 = .ok (.astore_n 3, 1) := by decide +kernel
theorem dL_law_20 : decode cL_law 20 = .ok (.iconst 0, 1) := by decide +kernel
theorem dL_law_21 : decode cL_law 21 = .ok (.istore 4, 2) := by decide +kernel
theorem dL_law_23 : decode cL_law 23 = .ok (.iload 4, 2) := by decide +kernel
theorem dL_law_25 : decode cL_law 25 = .ok (.aload_n 0, 1) := by decide +kernel
theorem dL_law_26 : decode cL_law 26 = .ok (.arraylength, 1) := by decide +kernel
theorem dL_law_27 : decode cL_law 27 = .ok (.bipush 6, 2) := by decide +kernel
theorem dL_law_29 : decode cL_law 29 = .ok (.isub, 1) := by decide +kernel
theorem dL_law_30 : decode cL_law 30 = .ok (.if_icmp .gt 1739, 3) := by decide +kernel
theorem dL_law_33 : decode cL_law 33 = .ok (.aload_n 0, 1) := by decide +kernel
theorem dL_law_34 : decode cL_law 34 = .ok (.iload 4, 2) := by decide +kernel
theorem dL_law_36 : decode cL_law 36 = .ok (.iaload, 1) := by decide +kernel
theorem dL_law_37 : decode cL_law 37 = .ok (.bipush 31, 2) := by decide +kernel
theorem dL_law_39 : decode cL_law 39 = .ok (.iand, 1) := by decide +kernel
theorem dL_law_40 : decode cL_law 40 = .ok (.tableswitch 1723 0 24 #[116, 196, 276, 356, 448, 528, 612, 668, 724, 780, 836, 904, 972, 1028, 1096, 1164, 1220, 1280, 1324, 1368, 1443, 1487, 1543, 1599, 1667], 116) := by decide +kernel
theorem dL_law_156 : decode cL_law 156 = .ok (.aload_n 1, 1) := by decide +kernel
theorem dL_law_157 : decode cL_law 157 = .ok (.aload_n 0, 1) := by decide +kernel
theorem dL_law_158 : decode cL_law 158 = .ok (.iload 4, 2) := by decide +kernel
theorem dL_law_160 : decode cL_law 160 = .ok (.iconst 1, 1) := by decide +kernel
theorem dL_law_161 : decode cL_law 161 = .ok (.iadd, 1) := by decide +kernel
theorem dL_law_162 : decode cL_law 162 = .ok (.iaload, 1) := by decide +kernel
theorem dL_law_163 : decode cL_law 163 = .ok (.aload_n 0, 1) := by decide +kernel
theorem dL_law_164 : decode cL_law 164 = .ok (.iload 4, 2) := by decide +kernel
theorem dL_law_166 : decode cL_law 166 = .ok (.iconst 2, 1) := by decide +kernel
theorem dL_law_167 : decode cL_law 167 = .ok (.iadd, 1) := by decide +kernel
theorem dL_law_168 : decode cL_law 168 = .ok (.iaload, 1) := by decide +kernel
theorem dL_law_169 : decode cL_law 169 = .ok (.aload_n 0, 1) := by decide +kernel
theorem dL_law_170 : decode cL_law 170 = .ok (.iload 4, 2) := by decide +kernel
theorem dL_law_172 : decode cL_law 172 = .ok (.iconst 3, 1) := by decide +kernel
theorem dL_law_173 : decode cL_law 173 = .ok (.iadd, 1) := by decide +kernel
theorem dL_law_174 : decode cL_law 174 = .ok (.iaload, 1) := by decide +kernel
theorem dL_law_175 : decode cL_law 175 = .ok (.aload_n 3, 1) := by decide +kernel
theorem dL_law_176 : decode cL_law 176 = .ok (.invokestatic 102, 3) := by decide +kernel
theorem dL_law_179 : decode cL_law 179 = .ok (.istore 5, 2) := by decide +kernel
theorem dL_law_181 : decode cL_law 181 = .ok (.aload_n 2, 1) := by decide +kernel
theorem dL_law_182 : decode cL_law 182 = .ok (.aload_n 0, 1) := by decide +kernel
theorem dL_law_183 : decode cL_law 183 = .ok (.iload 4, 2) := by decide +kernel
theorem dL_law_185 : decode cL_law 185 = .ok (.iconst 1, 1) := by decide +kernel
theorem dL_law_186 : decode cL_law 186 = .ok (.iadd, 1) := by decide +kernel
theorem dL_law_187 : decode cL_law 187 = .ok (.iaload, 1) := by decide +kernel
theorem dL_law_188 : decode cL_law 188 = .ok (.aload_n 0, 1) := by decide +kernel
theorem dL_law_189 : decode cL_law 189 = .ok (.iload 4, 2) := by decide +kernel
theorem dL_law_191 : decode cL_law 191 = .ok (.iconst 2, 1) := by decide +kernel
theorem dL_law_192 : decode cL_law 192 = .ok (.iadd, 1) := by decide +kernel
theorem dL_law_193 : decode cL_law 193 = .ok (.iaload, 1) := by decide +kernel
theorem dL_law_194 : decode cL_law 194 = .ok (.aload_n 0, 1) := by decide +kernel
theorem dL_law_195 : decode cL_law 195 = .ok (.iload 4, 2) := by decide +kernel
theorem dL_law_197 : decode cL_law 197 = .ok (.iconst 3, 1) := by decide +kernel
theorem dL_law_198 : decode cL_law 198 = .ok (.iadd, 1) := by decide +kernel
theorem dL_law_199 : decode cL_law 199 = .ok (.iaload, 1) := by decide +kernel
theorem dL_law_200 : decode cL_law 200 = .ok (.invokevirtual 107, 3) := by decide +kernel
theorem dL_law_203 : decode cL_law 203 = .ok (.istore 6, 2) := by decide +kernel
theorem dL_law_205 : decode cL_law 205 = .ok (.aload_n 2, 1) := by decide +kernel
theorem dL_law_206 : decode cL_law 206 = .ok (.invokevirtual 108, 3) := by decide +kernel
theorem dL_law_209 : decode cL_law 209 = .ok (.iload 5, 2) := by decide +kernel
theorem dL_law_211 : decode cL_law 211 = .ok (.if_icmp .eq 5, 3) := by decide +kernel
theorem dL_law_214 : decode cL_law 214 = .ok (.iconst 0, 1) := by decide +kernel
theorem dL_law_215 : decode cL_law 215 = .ok (.ireturn, 1) := by decide +kernel
theorem dL_law_216 : decode cL_law 216 = .ok (.iload 5, 2) := by decide +kernel
theorem dL_law_218 : decode cL_law 218 = .ok (.ifCond .ne 15, 3) := by decide +kernel
theorem dL_law_221 : decode cL_law 221 = .ok (.aload_n 3, 1) := by decide +kernel
theorem dL_law_222 : decode cL_law 222 = .ok (.iconst 0, 1) := by decide +kernel
theorem dL_law_223 : decode cL_law 223 = .ok (.laload, 1) := by decide +kernel
theorem dL_law_224 : decode cL_law 224 = .ok (.iload 6, 2) := by decide +kernel
theorem dL_law_226 : decode cL_law 226 = .ok (.i2l, 1) := by decide +kernel
theorem dL_law_227 : decode cL_law 227 = .ok (.lcmp, 1) := by decide +kernel
theorem dL_law_228 : decode cL_law 228 = .ok (.ifCond .eq 5, 3) := by decide +kernel
theorem dL_law_231 : decode cL_law 231 = .ok (.iconst 0, 1) := by decide +kernel
theorem dL_law_232 : decode cL_law 232 = .ok (.ireturn, 1) := by decide +kernel
theorem dL_law_233 : decode cL_law 233 = .ok (.goto 1530, 3) := by decide +kernel
theorem dL_law_236 : decode cL_law 236 = .ok (.aload_n 1, 1) := by decide +kernel
theorem dL_law_237 : decode cL_law 237 = .ok (.aload_n 0, 1) := by decide +kernel
theorem dL_law_238 : decode cL_law 238 = .ok (.iload 4, 2) := by decide +kernel
theorem dL_law_240 : decode cL_law 240 = .ok (.iconst 1, 1) := by decide +kernel
theorem dL_law_241 : decode cL_law 241 = .ok (.iadd, 1) := by decide +kernel
theorem dL_law_242 : decode cL_law 242 = .ok (.iaload, 1) := by decide +kernel
theorem dL_law_243 : decode cL_law 243 = .ok (.aload_n 0, 1) := by decide +kernel
theorem dL_law_244 : decode cL_law 244 = .ok (.iload 4, 2) := by decide +kernel
theorem dL_law_246 : decode cL_law 246 = .ok (.iconst 2, 1) := by decide +kernel
theorem dL_law_247 : decode cL_law 247 = .ok (.iadd, 1) := by decide +kernel
theorem dL_law_248 : decode cL_law 248 = .ok (.iaload, 1) := by decide +kernel
theorem dL_law_249 : decode cL_law 249 = .ok (.aload_n 0, 1) := by decide +kernel
theorem dL_law_250 : decode cL_law 250 = .ok (.iload 4, 2) := by decide +kernel
theorem dL_law_252 : decode cL_law 252 = .ok (.iconst 3, 1) := by decide +kernel
theorem dL_law_253 : decode cL_law 253 = .ok (.iadd, 1) := by decide +kernel
theorem dL_law_254 : decode cL_law 254 = .ok (.iaload, 1) := by decide +kernel
theorem dL_law_255 : decode cL_law 255 = .ok (.aload_n 3, 1) := by decide +kernel
theorem dL_law_256 : decode cL_law 256 = .ok (.invokestatic 111, 3) := by decide +kernel
theorem dL_law_259 : decode cL_law 259 = .ok (.istore 5, 2) := by decide +kernel
theorem dL_law_261 : decode cL_law 261 = .ok (.aload_n 2, 1) := by decide +kernel
theorem dL_law_262 : decode cL_law 262 = .ok (.aload_n 0, 1) := by decide +kernel
theorem dL_law_263 : decode cL_law 263 = .ok (.iload 4, 2) := by decide +kernel
theorem dL_law_265 : decode cL_law 265 = .ok (.iconst 1, 1) := by decide +kernel
theorem dL_law_266 : decode cL_law 266 = .ok (.iadd, 1) := by decide +kernel
theorem dL_law_267 : decode cL_law 267 = .ok (.iaload, 1) := by decide +kernel
theorem dL_law_268 : decode cL_law 268 = .ok (.aload_n 0, 1) := by decide +kernel
theorem dL_law_269 : decode cL_law 269 = .ok (.iload 4, 2) := by decide +kernel
theorem dL_law_271 : decode cL_law 271 = .ok (.iconst 2, 1) := by decide +kernel
theorem dL_law_272 : decode cL_law 272 = .ok (.iadd, 1) := by decide +kernel
theorem dL_law_273 : decode cL_law 273 = .ok (.iaload, 1) := by decide +kernel
theorem dL_law_274 : decode cL_law 274 = .ok (.aload_n 0, 1) := by decide +kernel
theorem dL_law_275 : decode cL_law 275 = .ok (.iload 4, 2) := by decide +kernel
theorem dL_law_277 : decode cL_law 277 = .ok (.iconst 3, 1) := by decide +kernel
theorem dL_law_278 : decode cL_law 278 = .ok (.iadd, 1) := by decide +kernel
theorem dL_law_279 : decode cL_law 279 = .ok (.iaload, 1) := by decide +kernel
theorem dL_law_280 : decode cL_law 280 = .ok (.invokevirtual 113, 3) := by decide +kernel
theorem dL_law_283 : decode cL_law 283 = .ok (.istore 6, 2) := by decide +kernel
theorem dL_law_285 : decode cL_law 285 = .ok (.aload_n 2, 1) := by decide +kernel
theorem dL_law_286 : decode cL_law 286 = .ok (.invokevirtual 108, 3) := by decide +kernel
theorem dL_law_289 : decode cL_law 289 = .ok (.iload 5, 2) := by decide +kernel
theorem dL_law_291 : decode cL_law 291 = .ok (.if_icmp .eq 5, 3) := by decide +kernel
theorem dL_law_294 : decode cL_law 294 = .ok (.iconst 0, 1) := by decide +kernel
theorem dL_law_295 : decode cL_law 295 = .ok (.ireturn, 1) := by decide +kernel
theorem dL_law_296 : decode cL_law 296 = .ok (.iload 5, 2) := by decide +kernel
theorem dL_law_298 : decode cL_law 298 = .ok (.ifCond .ne 15, 3) := by decide +kernel
theorem dL_law_301 : decode cL_law 301 = .ok (.aload_n 3, 1) := by decide +kernel
theorem dL_law_302 : decode cL_law 302 = .ok (.iconst 0, 1) := by decide +kernel
theorem dL_law_303 : decode cL_law 303 = .ok (.laload, 1) := by decide +kernel
theorem dL_law_304 : decode cL_law 304 = .ok (.iload 6, 2) := by decide +kernel
theorem dL_law_306 : decode cL_law 306 = .ok (.i2l, 1) := by decide +kernel
theorem dL_law_307 : decode cL_law 307 = .ok (.lcmp, 1) := by decide +kernel
theorem dL_law_308 : decode cL_law 308 = .ok (.ifCond .eq 5, 3) := by decide +kernel
theorem dL_law_311 : decode cL_law 311 = .ok (.iconst 0, 1) := by decide +kernel
theorem dL_law_312 : decode cL_law 312 = .ok (.ireturn, 1) := by decide +kernel
theorem dL_law_313 : decode cL_law 313 = .ok (.goto 1450, 3) := by decide +kernel
theorem dL_law_316 : decode cL_law 316 = .ok (.aload_n 1, 1) := by decide +kernel
theorem dL_law_317 : decode cL_law 317 = .ok (.aload_n 0, 1) := by decide +kernel
theorem dL_law_318 : decode cL_law 318 = .ok (.iload 4, 2) := by decide +kernel
theorem dL_law_320 : decode cL_law 320 = .ok (.iconst 1, 1) := by decide +kernel
theorem dL_law_321 : decode cL_law 321 = .ok (.iadd, 1) := by decide +kernel
theorem dL_law_322 : decode cL_law 322 = .ok (.iaload, 1) := by decide +kernel
theorem dL_law_323 : decode cL_law 323 = .ok (.aload_n 0, 1) := by decide +kernel
theorem dL_law_324 : decode cL_law 324 = .ok (.iload 4, 2) := by decide +kernel
theorem dL_law_326 : decode cL_law 326 = .ok (.iconst 2, 1) := by decide +kernel
theorem dL_law_327 : decode cL_law 327 = .ok (.iadd, 1) := by decide +kernel
theorem dL_law_328 : decode cL_law 328 = .ok (.iaload, 1) := by decide +kernel
theorem dL_law_329 : decode cL_law 329 = .ok (.aload_n 0, 1) := by decide +kernel
theorem dL_law_330 : decode cL_law 330 = .ok (.iload 4, 2) := by decide +kernel
theorem dL_law_332 : decode cL_law 332 = .ok (.iconst 3, 1) := by decide +kernel
theorem dL_law_333 : decode cL_law 333 = .ok (.iadd, 1) := by decide +kernel
theorem dL_law_334 : decode cL_law 334 = .ok (.iaload, 1) := by decide +kernel
theorem dL_law_335 : decode cL_law 335 = .ok (.aload_n 3, 1) := by decide +kernel
theorem dL_law_336 : decode cL_law 336 = .ok (.invokestatic 114, 3) := by decide +kernel
theorem dL_law_339 : decode cL_law 339 = .ok (.istore 5, 2) := by decide +kernel
theorem dL_law_341 : decode cL_law 341 = .ok (.aload_n 2, 1) := by decide +kernel
theorem dL_law_342 : decode cL_law 342 = .ok (.aload_n 0, 1) := by decide +kernel
theorem dL_law_343 : decode cL_law 343 = .ok (.iload 4, 2) := by decide +kernel
theorem dL_law_345 : decode cL_law 345 = .ok (.iconst 1, 1) := by decide +kernel
theorem dL_law_346 : decode cL_law 346 = .ok (.iadd, 1) := by decide +kernel
theorem dL_law_347 : decode cL_law 347 = .ok (.iaload, 1) := by decide +kernel
theorem dL_law_348 : decode cL_law 348 = .ok (.aload_n 0, 1) := by decide +kernel
theorem dL_law_349 : decode cL_law 349 = .ok (.iload 4, 2) := by decide +kernel
theorem dL_law_351 : decode cL_law 351 = .ok (.iconst 2, 1) := by decide +kernel
theorem dL_law_352 : decode cL_law 352 = .ok (.iadd, 1) := by decide +kernel
theorem dL_law_353 : decode cL_law 353 = .ok (.iaload, 1) := by decide +kernel
theorem dL_law_354 : decode cL_law 354 = .ok (.aload_n 0, 1) := by decide +kernel
theorem dL_law_355 : decode cL_law 355 = .ok (.iload 4, 2) := by decide +kernel
theorem dL_law_357 : decode cL_law 357 = .ok (.iconst 3, 1) := by decide +kernel
theorem dL_law_358 : decode cL_law 358 = .ok (.iadd, 1) := by decide +kernel
theorem dL_law_359 : decode cL_law 359 = .ok (.iaload, 1) := by decide +kernel
theorem dL_law_360 : decode cL_law 360 = .ok (.invokevirtual 116, 3) := by decide +kernel
theorem dL_law_363 : decode cL_law 363 = .ok (.istore 6, 2) := by decide +kernel
theorem dL_law_365 : decode cL_law 365 = .ok (.aload_n 2, 1) := by decide +kernel
theorem dL_law_366 : decode cL_law 366 = .ok (.invokevirtual 108, 3) := by decide +kernel
theorem dL_law_369 : decode cL_law 369 = .ok (.iload 5, 2) := by decide +kernel
theorem dL_law_371 : decode cL_law 371 = .ok (.if_icmp .eq 5, 3) := by decide +kernel
theorem dL_law_374 : decode cL_law 374 = .ok (.iconst 0, 1) := by decide +kernel
theorem dL_law_375 : decode cL_law 375 = .ok (.ireturn, 1) := by decide +kernel
theorem dL_law_376 : decode cL_law 376 = .ok (.iload 5, 2) := by decide +kernel
theorem dL_law_378 : decode cL_law 378 = .ok (.ifCond .ne 15, 3) := by decide +kernel
theorem dL_law_381 : decode cL_law 381 = .ok (.aload_n 3, 1) := by decide +kernel
theorem dL_law_382 : decode cL_law 382 = .ok (.iconst 0, 1) := by decide +kernel
theorem dL_law_383 : decode cL_law 383 = .ok (.laload, 1) := by decide +kernel
theorem dL_law_384 : decode cL_law 384 = .ok (.iload 6, 2) := by decide +kernel
theorem dL_law_386 : decode cL_law 386 = .ok (.i2l, 1) := by decide +kernel
theorem dL_law_387 : decode cL_law 387 = .ok (.lcmp, 1) := by decide +kernel
theorem dL_law_388 : decode cL_law 388 = .ok (.ifCond .eq 5, 3) := by decide +kernel
theorem dL_law_391 : decode cL_law 391 = .ok (.iconst 0, 1) := by decide +kernel
theorem dL_law_392 : decode cL_law 392 = .ok (.ireturn, 1) := by decide +kernel
theorem dL_law_393 : decode cL_law 393 = .ok (.goto 1370, 3) := by decide +kernel
theorem dL_law_396 : decode cL_law 396 = .ok (.aload_n 1, 1) := by decide +kernel
theorem dL_law_397 : decode cL_law 397 = .ok (.aload_n 0, 1) := by decide +kernel
theorem dL_law_398 : decode cL_law 398 = .ok (.iload 4, 2) := by decide +kernel
theorem dL_law_400 : decode cL_law 400 = .ok (.iconst 1, 1) := by decide +kernel
theorem dL_law_401 : decode cL_law 401 = .ok (.iadd, 1) := by decide +kernel
theorem dL_law_402 : decode cL_law 402 = .ok (.iaload, 1) := by decide +kernel
theorem dL_law_403 : decode cL_law 403 = .ok (.aload_n 0, 1) := by decide +kernel
theorem dL_law_404 : decode cL_law 404 = .ok (.iload 4, 2) := by decide +kernel
theorem dL_law_406 : decode cL_law 406 = .ok (.iconst 2, 1) := by decide +kernel
theorem dL_law_407 : decode cL_law 407 = .ok (.iadd, 1) := by decide +kernel
theorem dL_law_408 : decode cL_law 408 = .ok (.iaload, 1) := by decide +kernel
theorem dL_law_409 : decode cL_law 409 = .ok (.aload_n 0, 1) := by decide +kernel
theorem dL_law_410 : decode cL_law 410 = .ok (.iload 4, 2) := by decide +kernel
theorem dL_law_412 : decode cL_law 412 = .ok (.iconst 3, 1) := by decide +kernel
theorem dL_law_413 : decode cL_law 413 = .ok (.iadd, 1) := by decide +kernel
theorem dL_law_414 : decode cL_law 414 = .ok (.iaload, 1) := by decide +kernel
theorem dL_law_415 : decode cL_law 415 = .ok (.aload_n 0, 1) := by decide +kernel
theorem dL_law_416 : decode cL_law 416 = .ok (.iload 4, 2) := by decide +kernel
theorem dL_law_418 : decode cL_law 418 = .ok (.iconst 4, 1) := by decide +kernel
theorem dL_law_419 : decode cL_law 419 = .ok (.iadd, 1) := by decide +kernel
theorem dL_law_420 : decode cL_law 420 = .ok (.iaload, 1) := by decide +kernel
theorem dL_law_421 : decode cL_law 421 = .ok (.aload_n 3, 1) := by decide +kernel
theorem dL_law_422 : decode cL_law 422 = .ok (.invokestatic 117, 3) := by decide +kernel
theorem dL_law_425 : decode cL_law 425 = .ok (.istore 5, 2) := by decide +kernel
theorem dL_law_427 : decode cL_law 427 = .ok (.aload_n 2, 1) := by decide +kernel
theorem dL_law_428 : decode cL_law 428 = .ok (.aload_n 0, 1) := by decide +kernel
theorem dL_law_429 : decode cL_law 429 = .ok (.iload 4, 2) := by decide +kernel
theorem dL_law_431 : decode cL_law 431 = .ok (.iconst 1, 1) := by decide +kernel
theorem dL_law_432 : decode cL_law 432 = .ok (.iadd, 1) := by decide +kernel
theorem dL_law_433 : decode cL_law 433 = .ok (.iaload, 1) := by decide +kernel
theorem dL_law_434 : decode cL_law 434 = .ok (.aload_n 0, 1) := by decide +kernel
theorem dL_law_435 : decode cL_law 435 = .ok (.iload 4, 2) := by decide +kernel
theorem dL_law_437 : decode cL_law 437 = .ok (.iconst 2, 1) := by decide +kernel
theorem dL_law_438 : decode cL_law 438 = .ok (.iadd, 1) := by decide +kernel
theorem dL_law_439 : decode cL_law 439 = .ok (.iaload, 1) := by decide +kernel
theorem dL_law_440 : decode cL_law 440 = .ok (.aload_n 0, 1) := by decide +kernel
theorem dL_law_441 : decode cL_law 441 = .ok (.iload 4, 2) := by decide +kernel
theorem dL_law_443 : decode cL_law 443 = .ok (.iconst 3, 1) := by decide +kernel
theorem dL_law_444 : decode cL_law 444 = .ok (.iadd, 1) := by decide +kernel
theorem dL_law_445 : decode cL_law 445 = .ok (.iaload, 1) := by decide +kernel
theorem dL_law_446 : decode cL_law 446 = .ok (.aload_n 0, 1) := by decide +kernel
theorem dL_law_447 : decode cL_law 447 = .ok (.iload 4, 2) := by decide +kernel
theorem dL_law_449 : decode cL_law 449 = .ok (.iconst 4, 1) := by decide +kernel
theorem dL_law_450 : decode cL_law 450 = .ok (.iadd, 1) := by decide +kernel
theorem dL_law_451 : decode cL_law 451 = .ok (.iaload, 1) := by decide +kernel
theorem dL_law_452 : decode cL_law 452 = .ok (.invokevirtual 120, 3) := by decide +kernel
theorem dL_law_455 : decode cL_law 455 = .ok (.istore 6, 2) := by decide +kernel
theorem dL_law_457 : decode cL_law 457 = .ok (.aload_n 2, 1) := by decide +kernel
theorem dL_law_458 : decode cL_law 458 = .ok (.invokevirtual 108, 3) := by decide +kernel
theorem dL_law_461 : decode cL_law 461 = .ok (.iload 5, 2) := by decide +kernel
theorem dL_law_463 : decode cL_law 463 = .ok (.if_icmp .eq 5, 3) := by decide +kernel
theorem dL_law_466 : decode cL_law 466 = .ok (.iconst 0, 1) := by decide +kernel
theorem dL_law_467 : decode cL_law 467 = .ok (.ireturn, 1) := by decide +kernel
theorem dL_law_468 : decode cL_law 468 = .ok (.iload 5, 2) := by decide +kernel
theorem dL_law_470 : decode cL_law 470 = .ok (.ifCond .ne 15, 3) := by decide +kernel
theorem dL_law_473 : decode cL_law 473 = .ok (.aload_n 3, 1) := by decide +kernel
theorem dL_law_474 : decode cL_law 474 = .ok (.iconst 0, 1) := by decide +kernel
theorem dL_law_475 : decode cL_law 475 = .ok (.laload, 1) := by decide +kernel
theorem dL_law_476 : decode cL_law 476 = .ok (.iload 6, 2) := by decide +kernel
theorem dL_law_478 : decode cL_law 478 = .ok (.i2l, 1) := by decide +kernel
theorem dL_law_479 : decode cL_law 479 = .ok (.lcmp, 1) := by decide +kernel
theorem dL_law_480 : decode cL_law 480 = .ok (.ifCond .eq 5, 3) := by decide +kernel
theorem dL_law_483 : decode cL_law 483 = .ok (.iconst 0, 1) := by decide +kernel
theorem dL_law_484 : decode cL_law 484 = .ok (.ireturn, 1) := by decide +kernel
theorem dL_law_485 : decode cL_law 485 = .ok (.goto 1278, 3) := by decide +kernel
theorem dL_law_488 : decode cL_law 488 = .ok (.aload_n 1, 1) := by decide +kernel
theorem dL_law_489 : decode cL_law 489 = .ok (.aload_n 0, 1) := by decide +kernel
theorem dL_law_490 : decode cL_law 490 = .ok (.iload 4, 2) := by decide +kernel
theorem dL_law_492 : decode cL_law 492 = .ok (.iconst 1, 1) := by decide +kernel
theorem dL_law_493 : decode cL_law 493 = .ok (.iadd, 1) := by decide +kernel
theorem dL_law_494 : decode cL_law 494 = .ok (.iaload, 1) := by decide +kernel
theorem dL_law_495 : decode cL_law 495 = .ok (.aload_n 0, 1) := by decide +kernel
theorem dL_law_496 : decode cL_law 496 = .ok (.iload 4, 2) := by decide +kernel
theorem dL_law_498 : decode cL_law 498 = .ok (.iconst 2, 1) := by decide +kernel
theorem dL_law_499 : decode cL_law 499 = .ok (.iadd, 1) := by decide +kernel
theorem dL_law_500 : decode cL_law 500 = .ok (.iaload, 1) := by decide +kernel
theorem dL_law_501 : decode cL_law 501 = .ok (.aload_n 0, 1) := by decide +kernel
theorem dL_law_502 : decode cL_law 502 = .ok (.iload 4, 2) := by decide +kernel
theorem dL_law_504 : decode cL_law 504 = .ok (.iconst 3, 1) := by decide +kernel
theorem dL_law_505 : decode cL_law 505 = .ok (.iadd, 1) := by decide +kernel
theorem dL_law_506 : decode cL_law 506 = .ok (.iaload, 1) := by decide +kernel
theorem dL_law_507 : decode cL_law 507 = .ok (.aload_n 3, 1) := by decide +kernel
theorem dL_law_508 : decode cL_law 508 = .ok (.invokestatic 121, 3) := by decide +kernel
theorem dL_law_511 : decode cL_law 511 = .ok (.istore 5, 2) := by decide +kernel
theorem dL_law_513 : decode cL_law 513 = .ok (.aload_n 2, 1) := by decide +kernel
theorem dL_law_514 : decode cL_law 514 = .ok (.aload_n 0, 1) := by decide +kernel
theorem dL_law_515 : decode cL_law 515 = .ok (.iload 4, 2) := by decide +kernel
theorem dL_law_517 : decode cL_law 517 = .ok (.iconst 1, 1) := by decide +kernel
theorem dL_law_518 : decode cL_law 518 = .ok (.iadd, 1) := by decide +kernel
theorem dL_law_519 : decode cL_law 519 = .ok (.iaload, 1) := by decide +kernel
theorem dL_law_520 : decode cL_law 520 = .ok (.aload_n 0, 1) := by decide +kernel
theorem dL_law_521 : decode cL_law 521 = .ok (.iload 4, 2) := by decide +kernel
theorem dL_law_523 : decode cL_law 523 = .ok (.iconst 2, 1) := by decide +kernel
theorem dL_law_524 : decode cL_law 524 = .ok (.iadd, 1) := by decide +kernel
theorem dL_law_525 : decode cL_law 525 = .ok (.iaload, 1) := by decide +kernel
theorem dL_law_526 : decode cL_law 526 = .ok (.aload_n 0, 1) := by decide +kernel
theorem dL_law_527 : decode cL_law 527 = .ok (.iload 4, 2) := by decide +kernel
theorem dL_law_529 : decode cL_law 529 = .ok (.iconst 3, 1) := by decide +kernel
theorem dL_law_530 : decode cL_law 530 = .ok (.iadd, 1) := by decide +kernel
theorem dL_law_531 : decode cL_law 531 = .ok (.iaload, 1) := by decide +kernel
theorem dL_law_532 : decode cL_law 532 = .ok (.invokevirtual 123, 3) := by decide +kernel
theorem dL_law_535 : decode cL_law 535 = .ok (.istore 6, 2) := by decide +kernel
theorem dL_law_537 : decode cL_law 537 = .ok (.aload_n 2, 1) := by decide +kernel
theorem dL_law_538 : decode cL_law 538 = .ok (.invokevirtual 108, 3) := by decide +kernel
theorem dL_law_541 : decode cL_law 541 = .ok (.iload 5, 2) := by decide +kernel
theorem dL_law_543 : decode cL_law 543 = .ok (.if_icmp .eq 5, 3) := by decide +kernel
theorem dL_law_546 : decode cL_law 546 = .ok (.iconst 0, 1) := by decide +kernel
theorem dL_law_547 : decode cL_law 547 = .ok (.ireturn, 1) := by decide +kernel
theorem dL_law_548 : decode cL_law 548 = .ok (.iload 5, 2) := by decide +kernel
theorem dL_law_550 : decode cL_law 550 = .ok (.ifCond .ne 15, 3) := by decide +kernel
theorem dL_law_553 : decode cL_law 553 = .ok (.aload_n 3, 1) := by decide +kernel
theorem dL_law_554 : decode cL_law 554 = .ok (.iconst 0, 1) := by decide +kernel
theorem dL_law_555 : decode cL_law 555 = .ok (.laload, 1) := by decide +kernel
theorem dL_law_556 : decode cL_law 556 = .ok (.iload 6, 2) := by decide +kernel
theorem dL_law_558 : decode cL_law 558 = .ok (.i2l, 1) := by decide +kernel
theorem dL_law_559 : decode cL_law 559 = .ok (.lcmp, 1) := by decide +kernel
theorem dL_law_560 : decode cL_law 560 = .ok (.ifCond .eq 5, 3) := by decide +kernel
theorem dL_law_563 : decode cL_law 563 = .ok (.iconst 0, 1) := by decide +kernel
theorem dL_law_564 : decode cL_law 564 = .ok (.ireturn, 1) := by decide +kernel
theorem dL_law_565 : decode cL_law 565 = .ok (.goto 1198, 3) := by decide +kernel
theorem dL_law_568 : decode cL_law 568 = .ok (.aload_n 1, 1) := by decide +kernel
theorem dL_law_569 : decode cL_law 569 = .ok (.aload_n 0, 1) := by decide +kernel
theorem dL_law_570 : decode cL_law 570 = .ok (.iload 4, 2) := by decide +kernel
theorem dL_law_572 : decode cL_law 572 = .ok (.iconst 1, 1) := by decide +kernel
theorem dL_law_573 : decode cL_law 573 = .ok (.iadd, 1) := by decide +kernel
theorem dL_law_574 : decode cL_law 574 = .ok (.iaload, 1) := by decide +kernel
theorem dL_law_575 : decode cL_law 575 = .ok (.aload_n 0, 1) := by decide +kernel
theorem dL_law_576 : decode cL_law 576 = .ok (.iload 4, 2) := by decide +kernel
theorem dL_law_578 : decode cL_law 578 = .ok (.iconst 2, 1) := by decide +kernel
theorem dL_law_579 : decode cL_law 579 = .ok (.iadd, 1) := by decide +kernel
theorem dL_law_580 : decode cL_law 580 = .ok (.iaload, 1) := by decide +kernel
theorem dL_law_581 : decode cL_law 581 = .ok (.aload_n 0, 1) := by decide +kernel
theorem dL_law_582 : decode cL_law 582 = .ok (.iload 4, 2) := by decide +kernel
theorem dL_law_584 : decode cL_law 584 = .ok (.iconst 3, 1) := by decide +kernel
theorem dL_law_585 : decode cL_law 585 = .ok (.iadd, 1) := by decide +kernel
theorem dL_law_586 : decode cL_law 586 = .ok (.iaload, 1) := by decide +kernel
theorem dL_law_587 : decode cL_law 587 = .ok (.aload_n 0, 1) := by decide +kernel
theorem dL_law_588 : decode cL_law 588 = .ok (.iload 4, 2) := by decide +kernel
theorem dL_law_590 : decode cL_law 590 = .ok (.iconst 4, 1) := by decide +kernel
theorem dL_law_591 : decode cL_law 591 = .ok (.iadd, 1) := by decide +kernel
theorem dL_law_592 : decode cL_law 592 = .ok (.iaload, 1) := by decide +kernel
theorem dL_law_593 : decode cL_law 593 = .ok (.aload_n 0, 1) := by decide +kernel
theorem dL_law_594 : decode cL_law 594 = .ok (.iload 4, 2) := by decide +kernel
theorem dL_law_596 : decode cL_law 596 = .ok (.iconst 5, 1) := by decide +kernel
theorem dL_law_597 : decode cL_law 597 = .ok (.iadd, 1) := by decide +kernel
theorem dL_law_598 : decode cL_law 598 = .ok (.iaload, 1) := by decide +kernel
theorem dL_law_599 : decode cL_law 599 = .ok (.invokestatic 124, 3) := by decide +kernel
theorem dL_law_602 : decode cL_law 602 = .ok (.istore 5, 2) := by decide +kernel
theorem dL_law_604 : decode cL_law 604 = .ok (.aload_n 2, 1) := by decide +kernel
theorem dL_law_605 : decode cL_law 605 = .ok (.aload_n 0, 1) := by decide +kernel
theorem dL_law_606 : decode cL_law 606 = .ok (.iload 4, 2) := by decide +kernel
theorem dL_law_608 : decode cL_law 608 = .ok (.iconst 1, 1) := by decide +kernel
theorem dL_law_609 : decode cL_law 609 = .ok (.iadd, 1) := by decide +kernel
theorem dL_law_610 : decode cL_law 610 = .ok (.iaload, 1) := by decide +kernel
theorem dL_law_611 : decode cL_law 611 = .ok (.aload_n 0, 1) := by decide +kernel
theorem dL_law_612 : decode cL_law 612 = .ok (.iload 4, 2) := by decide +kernel
theorem dL_law_614 : decode cL_law 614 = .ok (.iconst 2, 1) := by decide +kernel
theorem dL_law_615 : decode cL_law 615 = .ok (.iadd, 1) := by decide +kernel
theorem dL_law_616 : decode cL_law 616 = .ok (.iaload, 1) := by decide +kernel
theorem dL_law_617 : decode cL_law 617 = .ok (.aload_n 0, 1) := by decide +kernel
theorem dL_law_618 : decode cL_law 618 = .ok (.iload 4, 2) := by decide +kernel
theorem dL_law_620 : decode cL_law 620 = .ok (.iconst 3, 1) := by decide +kernel
theorem dL_law_621 : decode cL_law 621 = .ok (.iadd, 1) := by decide +kernel
theorem dL_law_622 : decode cL_law 622 = .ok (.iaload, 1) := by decide +kernel
theorem dL_law_623 : decode cL_law 623 = .ok (.aload_n 0, 1) := by decide +kernel
theorem dL_law_624 : decode cL_law 624 = .ok (.iload 4, 2) := by decide +kernel
theorem dL_law_626 : decode cL_law 626 = .ok (.iconst 4, 1) := by decide +kernel
theorem dL_law_627 : decode cL_law 627 = .ok (.iadd, 1) := by decide +kernel
theorem dL_law_628 : decode cL_law 628 = .ok (.iaload, 1) := by decide +kernel
theorem dL_law_629 : decode cL_law 629 = .ok (.aload_n 0, 1) := by decide +kernel
theorem dL_law_630 : decode cL_law 630 = .ok (.iload 4, 2) := by decide +kernel
theorem dL_law_632 : decode cL_law 632 = .ok (.iconst 5, 1) := by decide +kernel
theorem dL_law_633 : decode cL_law 633 = .ok (.iadd, 1) := by decide +kernel
theorem dL_law_634 : decode cL_law 634 = .ok (.iaload, 1) := by decide +kernel
theorem dL_law_635 : decode cL_law 635 = .ok (.invokevirtual 127, 3) := by decide +kernel
theorem dL_law_638 : decode cL_law 638 = .ok (.aload_n 2, 1) := by decide +kernel
theorem dL_law_639 : decode cL_law 639 = .ok (.invokevirtual 108, 3) := by decide +kernel
theorem dL_law_642 : decode cL_law 642 = .ok (.iload 5, 2) := by decide +kernel
theorem dL_law_644 : decode cL_law 644 = .ok (.if_icmp .eq 5, 3) := by decide +kernel
theorem dL_law_647 : decode cL_law 647 = .ok (.iconst 0, 1) := by decide +kernel
theorem dL_law_648 : decode cL_law 648 = .ok (.ireturn, 1) := by decide +kernel
theorem dL_law_649 : decode cL_law 649 = .ok (.goto 1114, 3) := by decide +kernel
theorem dL_law_652 : decode cL_law 652 = .ok (.aload_n 1, 1) := by decide +kernel
theorem dL_law_653 : decode cL_law 653 = .ok (.aload_n 0, 1) := by decide +kernel
theorem dL_law_654 : decode cL_law 654 = .ok (.iload 4, 2) := by decide +kernel
theorem dL_law_656 : decode cL_law 656 = .ok (.iconst 1, 1) := by decide +kernel
theorem dL_law_657 : decode cL_law 657 = .ok (.iadd, 1) := by decide +kernel
theorem dL_law_658 : decode cL_law 658 = .ok (.iaload, 1) := by decide +kernel
theorem dL_law_659 : decode cL_law 659 = .ok (.aload_n 3, 1) := by decide +kernel
theorem dL_law_660 : decode cL_law 660 = .ok (.invokestatic 128, 3) := by decide +kernel
theorem dL_law_663 : decode cL_law 663 = .ok (.istore 5, 2) := by decide +kernel
theorem dL_law_665 : decode cL_law 665 = .ok (.aload_n 2, 1) := by decide +kernel
theorem dL_law_666 : decode cL_law 666 = .ok (.aload_n 0, 1) := by decide +kernel
theorem dL_law_667 : decode cL_law 667 = .ok (.iload 4, 2) := by decide +kernel
theorem dL_law_669 : decode cL_law 669 = .ok (.iconst 1, 1) := by decide +kernel
theorem dL_law_670 : decode cL_law 670 = .ok (.iadd, 1) := by decide +kernel
theorem dL_law_671 : decode cL_law 671 = .ok (.iaload, 1) := by decide +kernel
theorem dL_law_672 : decode cL_law 672 = .ok (.invokevirtual 131, 3) := by decide +kernel
theorem dL_law_675 : decode cL_law 675 = .ok (.istore 6, 2) := by decide +kernel
theorem dL_law_677 : decode cL_law 677 = .ok (.aload_n 2, 1) := by decide +kernel
theorem dL_law_678 : decode cL_law 678 = .ok (.invokevirtual 108, 3) := by decide +kernel
theorem dL_law_681 : decode cL_law 681 = .ok (.iload 5, 2) := by decide +kernel
theorem dL_law_683 : decode cL_law 683 = .ok (.if_icmp .eq 5, 3) := by decide +kernel
theorem dL_law_686 : decode cL_law 686 = .ok (.iconst 0, 1) := by decide +kernel
theorem dL_law_687 : decode cL_law 687 = .ok (.ireturn, 1) := by decide +kernel
theorem dL_law_688 : decode cL_law 688 = .ok (.iload 5, 2) := by decide +kernel
theorem dL_law_690 : decode cL_law 690 = .ok (.ifCond .ne 15, 3) := by decide +kernel
theorem dL_law_693 : decode cL_law 693 = .ok (.aload_n 3, 1) := by decide +kernel
theorem dL_law_694 : decode cL_law 694 = .ok (.iconst 0, 1) := by decide +kernel
theorem dL_law_695 : decode cL_law 695 = .ok (.laload, 1) := by decide +kernel
theorem dL_law_696 : decode cL_law 696 = .ok (.iload 6, 2) := by decide +kernel
theorem dL_law_698 : decode cL_law 698 = .ok (.i2l, 1) := by decide +kernel
theorem dL_law_699 : decode cL_law 699 = .ok (.lcmp, 1) := by decide +kernel
theorem dL_law_700 : decode cL_law 700 = .ok (.ifCond .eq 5, 3) := by decide +kernel
theorem dL_law_703 : decode cL_law 703 = .ok (.iconst 0, 1) := by decide +kernel
theorem dL_law_704 : decode cL_law 704 = .ok (.ireturn, 1) := by decide +kernel
theorem dL_law_705 : decode cL_law 705 = .ok (.goto 1058, 3) := by decide +kernel
theorem dL_law_708 : decode cL_law 708 = .ok (.aload_n 1, 1) := by decide +kernel
theorem dL_law_709 : decode cL_law 709 = .ok (.aload_n 0, 1) := by decide +kernel
theorem dL_law_710 : decode cL_law 710 = .ok (.iload 4, 2) := by decide +kernel
theorem dL_law_712 : decode cL_law 712 = .ok (.iconst 1, 1) := by decide +kernel
theorem dL_law_713 : decode cL_law 713 = .ok (.iadd, 1) := by decide +kernel
theorem dL_law_714 : decode cL_law 714 = .ok (.iaload, 1) := by decide +kernel
theorem dL_law_715 : decode cL_law 715 = .ok (.aload_n 3, 1) := by decide +kernel
theorem dL_law_716 : decode cL_law 716 = .ok (.invokestatic 132, 3) := by decide +kernel
theorem dL_law_719 : decode cL_law 719 = .ok (.istore 5, 2) := by decide +kernel
theorem dL_law_721 : decode cL_law 721 = .ok (.aload_n 2, 1) := by decide +kernel
theorem dL_law_722 : decode cL_law 722 = .ok (.aload_n 0, 1) := by decide +kernel
theorem dL_law_723 : decode cL_law 723 = .ok (.iload 4, 2) := by decide +kernel
theorem dL_law_725 : decode cL_law 725 = .ok (.iconst 1, 1) := by decide +kernel
theorem dL_law_726 : decode cL_law 726 = .ok (.iadd, 1) := by decide +kernel
theorem dL_law_727 : decode cL_law 727 = .ok (.iaload, 1) := by decide +kernel
theorem dL_law_728 : decode cL_law 728 = .ok (.invokevirtual 134, 3) := by decide +kernel
theorem dL_law_731 : decode cL_law 731 = .ok (.istore 6, 2) := by decide +kernel
theorem dL_law_733 : decode cL_law 733 = .ok (.aload_n 2, 1) := by decide +kernel
theorem dL_law_734 : decode cL_law 734 = .ok (.invokevirtual 108, 3) := by decide +kernel
theorem dL_law_737 : decode cL_law 737 = .ok (.iload 5, 2) := by decide +kernel
theorem dL_law_739 : decode cL_law 739 = .ok (.if_icmp .eq 5, 3) := by decide +kernel
theorem dL_law_742 : decode cL_law 742 = .ok (.iconst 0, 1) := by decide +kernel
theorem dL_law_743 : decode cL_law 743 = .ok (.ireturn, 1) := by decide +kernel
theorem dL_law_744 : decode cL_law 744 = .ok (.iload 5, 2) := by decide +kernel
theorem dL_law_746 : decode cL_law 746 = .ok (.ifCond .ne 15, 3) := by decide +kernel
theorem dL_law_749 : decode cL_law 749 = .ok (.aload_n 3, 1) := by decide +kernel
theorem dL_law_750 : decode cL_law 750 = .ok (.iconst 0, 1) := by decide +kernel
theorem dL_law_751 : decode cL_law 751 = .ok (.laload, 1) := by decide +kernel
theorem dL_law_752 : decode cL_law 752 = .ok (.iload 6, 2) := by decide +kernel
theorem dL_law_754 : decode cL_law 754 = .ok (.i2l, 1) := by decide +kernel
theorem dL_law_755 : decode cL_law 755 = .ok (.lcmp, 1) := by decide +kernel
theorem dL_law_756 : decode cL_law 756 = .ok (.ifCond .eq 5, 3) := by decide +kernel
theorem dL_law_759 : decode cL_law 759 = .ok (.iconst 0, 1) := by decide +kernel
theorem dL_law_760 : decode cL_law 760 = .ok (.ireturn, 1) := by decide +kernel
theorem dL_law_761 : decode cL_law 761 = .ok (.goto 1002, 3) := by decide +kernel
theorem dL_law_764 : decode cL_law 764 = .ok (.aload_n 1, 1) := by decide +kernel
theorem dL_law_765 : decode cL_law 765 = .ok (.aload_n 0, 1) := by decide +kernel
theorem dL_law_766 : decode cL_law 766 = .ok (.iload 4, 2) := by decide +kernel
theorem dL_law_768 : decode cL_law 768 = .ok (.iconst 1, 1) := by decide +kernel
theorem dL_law_769 : decode cL_law 769 = .ok (.iadd, 1) := by decide +kernel
theorem dL_law_770 : decode cL_law 770 = .ok (.iaload, 1) := by decide +kernel
theorem dL_law_771 : decode cL_law 771 = .ok (.aload_n 3, 1) := by decide +kernel
theorem dL_law_772 : decode cL_law 772 = .ok (.invokestatic 135, 3) := by decide +kernel
theorem dL_law_775 : decode cL_law 775 = .ok (.istore 5, 2) := by decide +kernel
theorem dL_law_777 : decode cL_law 777 = .ok (.aload_n 2, 1) := by decide +kernel
theorem dL_law_778 : decode cL_law 778 = .ok (.aload_n 0, 1) := by decide +kernel
theorem dL_law_779 : decode cL_law 779 = .ok (.iload 4, 2) := by decide +kernel
theorem dL_law_781 : decode cL_law 781 = .ok (.iconst 1, 1) := by decide +kernel
theorem dL_law_782 : decode cL_law 782 = .ok (.iadd, 1) := by decide +kernel
theorem dL_law_783 : decode cL_law 783 = .ok (.iaload, 1) := by decide +kernel
theorem dL_law_784 : decode cL_law 784 = .ok (.invokevirtual 137, 3) := by decide +kernel
theorem dL_law_787 : decode cL_law 787 = .ok (.istore 6, 2) := by decide +kernel
theorem dL_law_789 : decode cL_law 789 = .ok (.aload_n 2, 1) := by decide +kernel
theorem dL_law_790 : decode cL_law 790 = .ok (.invokevirtual 108, 3) := by decide +kernel
theorem dL_law_793 : decode cL_law 793 = .ok (.iload 5, 2) := by decide +kernel
theorem dL_law_795 : decode cL_law 795 = .ok (.if_icmp .eq 5, 3) := by decide +kernel
theorem dL_law_798 : decode cL_law 798 = .ok (.iconst 0, 1) := by decide +kernel
theorem dL_law_799 : decode cL_law 799 = .ok (.ireturn, 1) := by decide +kernel
theorem dL_law_800 : decode cL_law 800 = .ok (.iload 5, 2) := by decide +kernel
theorem dL_law_802 : decode cL_law 802 = .ok (.ifCond .ne 15, 3) := by decide +kernel
theorem dL_law_805 : decode cL_law 805 = .ok (.aload_n 3, 1) := by decide +kernel
theorem dL_law_806 : decode cL_law 806 = .ok (.iconst 0, 1) := by decide +kernel
theorem dL_law_807 : decode cL_law 807 = .ok (.laload, 1) := by decide +kernel
theorem dL_law_808 : decode cL_law 808 = .ok (.iload 6, 2) := by decide +kernel
theorem dL_law_810 : decode cL_law 810 = .ok (.i2l, 1) := by decide +kernel
theorem dL_law_811 : decode cL_law 811 = .ok (.lcmp, 1) := by decide +kernel
theorem dL_law_812 : decode cL_law 812 = .ok (.ifCond .eq 5, 3) := by decide +kernel
theorem dL_law_815 : decode cL_law 815 = .ok (.iconst 0, 1) := by decide +kernel
theorem dL_law_816 : decode cL_law 816 = .ok (.ireturn, 1) := by decide +kernel
theorem dL_law_817 : decode cL_law 817 = .ok (.goto 946, 3) := by decide +kernel
theorem dL_law_820 : decode cL_law 820 = .ok (.aload_n 1, 1) := by decide +kernel
theorem dL_law_821 : decode cL_law 821 = .ok (.aload_n 0, 1) := by decide +kernel
theorem dL_law_822 : decode cL_law 822 = .ok (.iload 4, 2) := by decide +kernel
theorem dL_law_824 : decode cL_law 824 = .ok (.iconst 1, 1) := by decide +kernel
theorem dL_law_825 : decode cL_law 825 = .ok (.iadd, 1) := by decide +kernel
theorem dL_law_826 : decode cL_law 826 = .ok (.iaload, 1) := by decide +kernel
theorem dL_law_827 : decode cL_law 827 = .ok (.aload_n 3, 1) := by decide +kernel
theorem dL_law_828 : decode cL_law 828 = .ok (.invokestatic 138, 3) := by decide +kernel
theorem dL_law_831 : decode cL_law 831 = .ok (.istore 5, 2) := by decide +kernel
theorem dL_law_833 : decode cL_law 833 = .ok (.aload_n 2, 1) := by decide +kernel
theorem dL_law_834 : decode cL_law 834 = .ok (.aload_n 0, 1) := by decide +kernel
theorem dL_law_835 : decode cL_law 835 = .ok (.iload 4, 2) := by decide +kernel
theorem dL_law_837 : decode cL_law 837 = .ok (.iconst 1, 1) := by decide +kernel
theorem dL_law_838 : decode cL_law 838 = .ok (.iadd, 1) := by decide +kernel
theorem dL_law_839 : decode cL_law 839 = .ok (.iaload, 1) := by decide +kernel
theorem dL_law_840 : decode cL_law 840 = .ok (.invokevirtual 140, 3) := by decide +kernel
theorem dL_law_843 : decode cL_law 843 = .ok (.istore 6, 2) := by decide +kernel
theorem dL_law_845 : decode cL_law 845 = .ok (.aload_n 2, 1) := by decide +kernel
theorem dL_law_846 : decode cL_law 846 = .ok (.invokevirtual 108, 3) := by decide +kernel
theorem dL_law_849 : decode cL_law 849 = .ok (.iload 5, 2) := by decide +kernel
theorem dL_law_851 : decode cL_law 851 = .ok (.if_icmp .eq 5, 3) := by decide +kernel
theorem dL_law_854 : decode cL_law 854 = .ok (.iconst 0, 1) := by decide +kernel
theorem dL_law_855 : decode cL_law 855 = .ok (.ireturn, 1) := by decide +kernel
theorem dL_law_856 : decode cL_law 856 = .ok (.iload 5, 2) := by decide +kernel
theorem dL_law_858 : decode cL_law 858 = .ok (.ifCond .ne 15, 3) := by decide +kernel
theorem dL_law_861 : decode cL_law 861 = .ok (.aload_n 3, 1) := by decide +kernel
theorem dL_law_862 : decode cL_law 862 = .ok (.iconst 0, 1) := by decide +kernel
theorem dL_law_863 : decode cL_law 863 = .ok (.laload, 1) := by decide +kernel
theorem dL_law_864 : decode cL_law 864 = .ok (.iload 6, 2) := by decide +kernel
theorem dL_law_866 : decode cL_law 866 = .ok (.i2l, 1) := by decide +kernel
theorem dL_law_867 : decode cL_law 867 = .ok (.lcmp, 1) := by decide +kernel
theorem dL_law_868 : decode cL_law 868 = .ok (.ifCond .eq 5, 3) := by decide +kernel
theorem dL_law_871 : decode cL_law 871 = .ok (.iconst 0, 1) := by decide +kernel
theorem dL_law_872 : decode cL_law 872 = .ok (.ireturn, 1) := by decide +kernel
theorem dL_law_873 : decode cL_law 873 = .ok (.goto 890, 3) := by decide +kernel
theorem dL_law_876 : decode cL_law 876 = .ok (.aload_n 1, 1) := by decide +kernel
theorem dL_law_877 : decode cL_law 877 = .ok (.aload_n 0, 1) := by decide +kernel
theorem dL_law_878 : decode cL_law 878 = .ok (.iload 4, 2) := by decide +kernel
theorem dL_law_880 : decode cL_law 880 = .ok (.iconst 1, 1) := by decide +kernel
theorem dL_law_881 : decode cL_law 881 = .ok (.iadd, 1) := by decide +kernel
theorem dL_law_882 : decode cL_law 882 = .ok (.iaload, 1) := by decide +kernel
theorem dL_law_883 : decode cL_law 883 = .ok (.aload_n 0, 1) := by decide +kernel
theorem dL_law_884 : decode cL_law 884 = .ok (.iload 4, 2) := by decide +kernel
theorem dL_law_886 : decode cL_law 886 = .ok (.iconst 2, 1) := by decide +kernel
theorem dL_law_887 : decode cL_law 887 = .ok (.iadd, 1) := by decide +kernel
theorem dL_law_888 : decode cL_law 888 = .ok (.iaload, 1) := by decide +kernel
theorem dL_law_889 : decode cL_law 889 = .ok (.aload_n 3, 1) := by decide +kernel
theorem dL_law_890 : decode cL_law 890 = .ok (.invokestatic 141, 3) := by decide +kernel
theorem dL_law_893 : decode cL_law 893 = .ok (.istore 5, 2) := by decide +kernel
theorem dL_law_895 : decode cL_law 895 = .ok (.aload_n 2, 1) := by decide +kernel
theorem dL_law_896 : decode cL_law 896 = .ok (.aload_n 0, 1) := by decide +kernel
theorem dL_law_897 : decode cL_law 897 = .ok (.iload 4, 2) := by decide +kernel
theorem dL_law_899 : decode cL_law 899 = .ok (.iconst 1, 1) := by decide +kernel
theorem dL_law_900 : decode cL_law 900 = .ok (.iadd, 1) := by decide +kernel
theorem dL_law_901 : decode cL_law 901 = .ok (.iaload, 1) := by decide +kernel
theorem dL_law_902 : decode cL_law 902 = .ok (.aload_n 0, 1) := by decide +kernel
theorem dL_law_903 : decode cL_law 903 = .ok (.iload 4, 2) := by decide +kernel
theorem dL_law_905 : decode cL_law 905 = .ok (.iconst 2, 1) := by decide +kernel
theorem dL_law_906 : decode cL_law 906 = .ok (.iadd, 1) := by decide +kernel
theorem dL_law_907 : decode cL_law 907 = .ok (.iaload, 1) := by decide +kernel
theorem dL_law_908 : decode cL_law 908 = .ok (.invokevirtual 144, 3) := by decide +kernel
theorem dL_law_911 : decode cL_law 911 = .ok (.istore 6, 2) := by decide +kernel
theorem dL_law_913 : decode cL_law 913 = .ok (.aload_n 2, 1) := by decide +kernel
theorem dL_law_914 : decode cL_law 914 = .ok (.invokevirtual 108, 3) := by decide +kernel
theorem dL_law_917 : decode cL_law 917 = .ok (.iload 5, 2) := by decide +kernel
theorem dL_law_919 : decode cL_law 919 = .ok (.if_icmp .eq 5, 3) := by decide +kernel
theorem dL_law_922 : decode cL_law 922 = .ok (.iconst 0, 1) := by decide +kernel
theorem dL_law_923 : decode cL_law 923 = .ok (.ireturn, 1) := by decide +kernel
theorem dL_law_924 : decode cL_law 924 = .ok (.iload 5, 2) := by decide +kernel
theorem dL_law_926 : decode cL_law 926 = .ok (.ifCond .ne 15, 3) := by decide +kernel
theorem dL_law_929 : decode cL_law 929 = .ok (.aload_n 3, 1) := by decide +kernel
theorem dL_law_930 : decode cL_law 930 = .ok (.iconst 0, 1) := by decide +kernel
theorem dL_law_931 : decode cL_law 931 = .ok (.laload, 1) := by decide +kernel
theorem dL_law_932 : decode cL_law 932 = .ok (.iload 6, 2) := by decide +kernel
theorem dL_law_934 : decode cL_law 934 = .ok (.i2l, 1) := by decide +kernel
theorem dL_law_935 : decode cL_law 935 = .ok (.lcmp, 1) := by decide +kernel
theorem dL_law_936 : decode cL_law 936 = .ok (.ifCond .eq 5, 3) := by decide +kernel
theorem dL_law_939 : decode cL_law 939 = .ok (.iconst 0, 1) := by decide +kernel
theorem dL_law_940 : decode cL_law 940 = .ok (.ireturn, 1) := by decide +kernel
theorem dL_law_941 : decode cL_law 941 = .ok (.goto 822, 3) := by decide +kernel
theorem dL_law_944 : decode cL_law 944 = .ok (.aload_n 1, 1) := by decide +kernel
theorem dL_law_945 : decode cL_law 945 = .ok (.aload_n 0, 1) := by decide +kernel
theorem dL_law_946 : decode cL_law 946 = .ok (.iload 4, 2) := by decide +kernel
theorem dL_law_948 : decode cL_law 948 = .ok (.iconst 1, 1) := by decide +kernel
theorem dL_law_949 : decode cL_law 949 = .ok (.iadd, 1) := by decide +kernel
theorem dL_law_950 : decode cL_law 950 = .ok (.iaload, 1) := by decide +kernel
theorem dL_law_951 : decode cL_law 951 = .ok (.aload_n 0, 1) := by decide +kernel
theorem dL_law_952 : decode cL_law 952 = .ok (.iload 4, 2) := by decide +kernel
theorem dL_law_954 : decode cL_law 954 = .ok (.iconst 2, 1) := by decide +kernel
theorem dL_law_955 : decode cL_law 955 = .ok (.iadd, 1) := by decide +kernel
theorem dL_law_956 : decode cL_law 956 = .ok (.iaload, 1) := by decide +kernel
theorem dL_law_957 : decode cL_law 957 = .ok (.aload_n 3, 1) := by decide +kernel
theorem dL_law_958 : decode cL_law 958 = .ok (.invokestatic 145, 3) := by decide +kernel
theorem dL_law_961 : decode cL_law 961 = .ok (.istore 5, 2) := by decide +kernel
theorem dL_law_963 : decode cL_law 963 = .ok (.aload_n 2, 1) := by decide +kernel
theorem dL_law_964 : decode cL_law 964 = .ok (.aload_n 0, 1) := by decide +kernel
theorem dL_law_965 : decode cL_law 965 = .ok (.iload 4, 2) := by decide +kernel
theorem dL_law_967 : decode cL_law 967 = .ok (.iconst 1, 1) := by decide +kernel
theorem dL_law_968 : decode cL_law 968 = .ok (.iadd, 1) := by decide +kernel
theorem dL_law_969 : decode cL_law 969 = .ok (.iaload, 1) := by decide +kernel
theorem dL_law_970 : decode cL_law 970 = .ok (.aload_n 0, 1) := by decide +kernel
theorem dL_law_971 : decode cL_law 971 = .ok (.iload 4, 2) := by decide +kernel
theorem dL_law_973 : decode cL_law 973 = .ok (.iconst 2, 1) := by decide +kernel
theorem dL_law_974 : decode cL_law 974 = .ok (.iadd, 1) := by decide +kernel
theorem dL_law_975 : decode cL_law 975 = .ok (.iaload, 1) := by decide +kernel
theorem dL_law_976 : decode cL_law 976 = .ok (.invokevirtual 147, 3) := by decide +kernel
theorem dL_law_979 : decode cL_law 979 = .ok (.istore 6, 2) := by decide +kernel
theorem dL_law_981 : decode cL_law 981 = .ok (.aload_n 2, 1) := by decide +kernel
theorem dL_law_982 : decode cL_law 982 = .ok (.invokevirtual 108, 3) := by decide +kernel
theorem dL_law_985 : decode cL_law 985 = .ok (.iload 5, 2) := by decide +kernel
theorem dL_law_987 : decode cL_law 987 = .ok (.if_icmp .eq 5, 3) := by decide +kernel
theorem dL_law_990 : decode cL_law 990 = .ok (.iconst 0, 1) := by decide +kernel
theorem dL_law_991 : decode cL_law 991 = .ok (.ireturn, 1) := by decide +kernel
theorem dL_law_992 : decode cL_law 992 = .ok (.iload 5, 2) := by decide +kernel
theorem dL_law_994 : decode cL_law 994 = .ok (.ifCond .ne 15, 3) := by decide +kernel
theorem dL_law_997 : decode cL_law 997 = .ok (.aload_n 3, 1) := by decide +kernel
theorem dL_law_998 : decode cL_law 998 = .ok (.iconst 0, 1) := by decide +kernel
theorem dL_law_999 : decode cL_law 999 = .ok (.laload, 1) := by decide +kernel
theorem dL_law_1000 : decode cL_law 1000 = .ok (.iload 6, 2) := by decide +kernel
theorem dL_law_1002 : decode cL_law 1002 = .ok (.i2l, 1) := by decide +kernel
theorem dL_law_1003 : decode cL_law 1003 = .ok (.lcmp, 1) := by decide +kernel
theorem dL_law_1004 : decode cL_law 1004 = .ok (.ifCond .eq 5, 3) := by decide +kernel
theorem dL_law_1007 : decode cL_law 1007 = .ok (.iconst 0, 1) := by decide +kernel
theorem dL_law_1008 : decode cL_law 1008 = .ok (.ireturn, 1) := by decide +kernel
theorem dL_law_1009 : decode cL_law 1009 = .ok (.goto 754, 3) := by decide +kernel
theorem dL_law_1012 : decode cL_law 1012 = .ok (.aload_n 1, 1) := by decide +kernel
theorem dL_law_1013 : decode cL_law 1013 = .ok (.aload_n 0, 1) := by decide +kernel
theorem dL_law_1014 : decode cL_law 1014 = .ok (.iload 4, 2) := by decide +kernel
theorem dL_law_1016 : decode cL_law 1016 = .ok (.iconst 1, 1) := by decide +kernel
theorem dL_law_1017 : decode cL_law 1017 = .ok (.iadd, 1) := by decide +kernel
theorem dL_law_1018 : decode cL_law 1018 = .ok (.iaload, 1) := by decide +kernel
theorem dL_law_1019 : decode cL_law 1019 = .ok (.aload_n 3, 1) := by decide +kernel
theorem dL_law_1020 : decode cL_law 1020 = .ok (.invokestatic 148, 3) := by decide +kernel
theorem dL_law_1023 : decode cL_law 1023 = .ok (.istore 5, 2) := by decide +kernel
theorem dL_law_1025 : decode cL_law 1025 = .ok (.aload_n 2, 1) := by decide +kernel
theorem dL_law_1026 : decode cL_law 1026 = .ok (.aload_n 0, 1) := by decide +kernel
theorem dL_law_1027 : decode cL_law 1027 = .ok (.iload 4, 2) := by decide +kernel
theorem dL_law_1029 : decode cL_law 1029 = .ok (.iconst 1, 1) := by decide +kernel
theorem dL_law_1030 : decode cL_law 1030 = .ok (.iadd, 1) := by decide +kernel
theorem dL_law_1031 : decode cL_law 1031 = .ok (.iaload, 1) := by decide +kernel
theorem dL_law_1032 : decode cL_law 1032 = .ok (.invokevirtual 150, 3) := by decide +kernel
theorem dL_law_1035 : decode cL_law 1035 = .ok (.istore 6, 2) := by decide +kernel
theorem dL_law_1037 : decode cL_law 1037 = .ok (.aload_n 2, 1) := by decide +kernel
theorem dL_law_1038 : decode cL_law 1038 = .ok (.invokevirtual 108, 3) := by decide +kernel
theorem dL_law_1041 : decode cL_law 1041 = .ok (.iload 5, 2) := by decide +kernel
theorem dL_law_1043 : decode cL_law 1043 = .ok (.if_icmp .eq 5, 3) := by decide +kernel
theorem dL_law_1046 : decode cL_law 1046 = .ok (.iconst 0, 1) := by decide +kernel
theorem dL_law_1047 : decode cL_law 1047 = .ok (.ireturn, 1) := by decide +kernel
theorem dL_law_1048 : decode cL_law 1048 = .ok (.iload 5, 2) := by decide +kernel
theorem dL_law_1050 : decode cL_law 1050 = .ok (.ifCond .ne 15, 3) := by decide +kernel
theorem dL_law_1053 : decode cL_law 1053 = .ok (.aload_n 3, 1) := by decide +kernel
theorem dL_law_1054 : decode cL_law 1054 = .ok (.iconst 0, 1) := by decide +kernel
theorem dL_law_1055 : decode cL_law 1055 = .ok (.laload, 1) := by decide +kernel
theorem dL_law_1056 : decode cL_law 1056 = .ok (.iload 6, 2) := by decide +kernel
theorem dL_law_1058 : decode cL_law 1058 = .ok (.i2l, 1) := by decide +kernel
theorem dL_law_1059 : decode cL_law 1059 = .ok (.lcmp, 1) := by decide +kernel
theorem dL_law_1060 : decode cL_law 1060 = .ok (.ifCond .eq 5, 3) := by decide +kernel
theorem dL_law_1063 : decode cL_law 1063 = .ok (.iconst 0, 1) := by decide +kernel
theorem dL_law_1064 : decode cL_law 1064 = .ok (.ireturn, 1) := by decide +kernel
theorem dL_law_1065 : decode cL_law 1065 = .ok (.goto 698, 3) := by decide +kernel
theorem dL_law_1068 : decode cL_law 1068 = .ok (.aload_n 1, 1) := by decide +kernel
theorem dL_law_1069 : decode cL_law 1069 = .ok (.aload_n 0, 1) := by decide +kernel
theorem dL_law_1070 : decode cL_law 1070 = .ok (.iload 4, 2) := by decide +kernel
theorem dL_law_1072 : decode cL_law 1072 = .ok (.iconst 1, 1) := by decide +kernel
theorem dL_law_1073 : decode cL_law 1073 = .ok (.iadd, 1) := by decide +kernel
theorem dL_law_1074 : decode cL_law 1074 = .ok (.iaload, 1) := by decide +kernel
theorem dL_law_1075 : decode cL_law 1075 = .ok (.aload_n 0, 1) := by decide +kernel
theorem dL_law_1076 : decode cL_law 1076 = .ok (.iload 4, 2) := by decide +kernel
theorem dL_law_1078 : decode cL_law 1078 = .ok (.iconst 2, 1) := by decide +kernel
theorem dL_law_1079 : decode cL_law 1079 = .ok (.iadd, 1) := by decide +kernel
theorem dL_law_1080 : decode cL_law 1080 = .ok (.iaload, 1) := by decide +kernel
theorem dL_law_1081 : decode cL_law 1081 = .ok (.aload_n 3, 1) := by decide +kernel
theorem dL_law_1082 : decode cL_law 1082 = .ok (.invokestatic 151, 3) := by decide +kernel
theorem dL_law_1085 : decode cL_law 1085 = .ok (.istore 5, 2) := by decide +kernel
theorem dL_law_1087 : decode cL_law 1087 = .ok (.aload_n 2, 1) := by decide +kernel
theorem dL_law_1088 : decode cL_law 1088 = .ok (.aload_n 0, 1) := by decide +kernel
theorem dL_law_1089 : decode cL_law 1089 = .ok (.iload 4, 2) := by decide +kernel
theorem dL_law_1091 : decode cL_law 1091 = .ok (.iconst 1, 1) := by decide +kernel
theorem dL_law_1092 : decode cL_law 1092 = .ok (.iadd, 1) := by decide +kernel
theorem dL_law_1093 : decode cL_law 1093 = .ok (.iaload, 1) := by decide +kernel
theorem dL_law_1094 : decode cL_law 1094 = .ok (.aload_n 0, 1) := by decide +kernel
theorem dL_law_1095 : decode cL_law 1095 = .ok (.iload 4, 2) := by decide +kernel
theorem dL_law_1097 : decode cL_law 1097 = .ok (.iconst 2, 1) := by decide +kernel
theorem dL_law_1098 : decode cL_law 1098 = .ok (.iadd, 1) := by decide +kernel
theorem dL_law_1099 : decode cL_law 1099 = .ok (.iaload, 1) := by decide +kernel
theorem dL_law_1100 : decode cL_law 1100 = .ok (.invokevirtual 153, 3) := by decide +kernel
theorem dL_law_1103 : decode cL_law 1103 = .ok (.istore 6, 2) := by decide +kernel
theorem dL_law_1105 : decode cL_law 1105 = .ok (.aload_n 2, 1) := by decide +kernel
theorem dL_law_1106 : decode cL_law 1106 = .ok (.invokevirtual 108, 3) := by decide +kernel
theorem dL_law_1109 : decode cL_law 1109 = .ok (.iload 5, 2) := by decide +kernel
theorem dL_law_1111 : decode cL_law 1111 = .ok (.if_icmp .eq 5, 3) := by decide +kernel
theorem dL_law_1114 : decode cL_law 1114 = .ok (.iconst 0, 1) := by decide +kernel
theorem dL_law_1115 : decode cL_law 1115 = .ok (.ireturn, 1) := by decide +kernel
theorem dL_law_1116 : decode cL_law 1116 = .ok (.iload 5, 2) := by decide +kernel
theorem dL_law_1118 : decode cL_law 1118 = .ok (.ifCond .ne 15, 3) := by decide +kernel
theorem dL_law_1121 : decode cL_law 1121 = .ok (.aload_n 3, 1) := by decide +kernel
theorem dL_law_1122 : decode cL_law 1122 = .ok (.iconst 0, 1) := by decide +kernel
theorem dL_law_1123 : decode cL_law 1123 = .ok (.laload, 1) := by decide +kernel
theorem dL_law_1124 : decode cL_law 1124 = .ok (.iload 6, 2) := by decide +kernel
theorem dL_law_1126 : decode cL_law 1126 = .ok (.i2l, 1) := by decide +kernel
theorem dL_law_1127 : decode cL_law 1127 = .ok (.lcmp, 1) := by decide +kernel
theorem dL_law_1128 : decode cL_law 1128 = .ok (.ifCond .eq 5, 3) := by decide +kernel
theorem dL_law_1131 : decode cL_law 1131 = .ok (.iconst 0, 1) := by decide +kernel
theorem dL_law_1132 : decode cL_law 1132 = .ok (.ireturn, 1) := by decide +kernel
theorem dL_law_1133 : decode cL_law 1133 = .ok (.goto 630, 3) := by decide +kernel
theorem dL_law_1136 : decode cL_law 1136 = .ok (.aload_n 1, 1) := by decide +kernel
theorem dL_law_1137 : decode cL_law 1137 = .ok (.aload_n 0, 1) := by decide +kernel
theorem dL_law_1138 : decode cL_law 1138 = .ok (.iload 4, 2) := by decide +kernel
theorem dL_law_1140 : decode cL_law 1140 = .ok (.iconst 1, 1) := by decide +kernel
theorem dL_law_1141 : decode cL_law 1141 = .ok (.iadd, 1) := by decide +kernel
theorem dL_law_1142 : decode cL_law 1142 = .ok (.iaload, 1) := by decide +kernel
theorem dL_law_1143 : decode cL_law 1143 = .ok (.aload_n 0, 1) := by decide +kernel
theorem dL_law_1144 : decode cL_law 1144 = .ok (.iload 4, 2) := by decide +kernel
theorem dL_law_1146 : decode cL_law 1146 = .ok (.iconst 2, 1) := by decide +kernel
theorem dL_law_1147 : decode cL_law 1147 = .ok (.iadd, 1) := by decide +kernel
theorem dL_law_1148 : decode cL_law 1148 = .ok (.iaload, 1) := by decide +kernel
theorem dL_law_1149 : decode cL_law 1149 = .ok (.aload_n 3, 1) := by decide +kernel
theorem dL_law_1150 : decode cL_law 1150 = .ok (.invokestatic 154, 3) := by decide +kernel
theorem dL_law_1153 : decode cL_law 1153 = .ok (.istore 5, 2) := by decide +kernel
theorem dL_law_1155 : decode cL_law 1155 = .ok (.aload_n 2, 1) := by decide +kernel
theorem dL_law_1156 : decode cL_law 1156 = .ok (.aload_n 0, 1) := by decide +kernel
theorem dL_law_1157 : decode cL_law 1157 = .ok (.iload 4, 2) := by decide +kernel
theorem dL_law_1159 : decode cL_law 1159 = .ok (.iconst 1, 1) := by decide +kernel
theorem dL_law_1160 : decode cL_law 1160 = .ok (.iadd, 1) := by decide +kernel
theorem dL_law_1161 : decode cL_law 1161 = .ok (.iaload, 1) := by decide +kernel
theorem dL_law_1162 : decode cL_law 1162 = .ok (.aload_n 0, 1) := by decide +kernel
theorem dL_law_1163 : decode cL_law 1163 = .ok (.iload 4, 2) := by decide +kernel
theorem dL_law_1165 : decode cL_law 1165 = .ok (.iconst 2, 1) := by decide +kernel
theorem dL_law_1166 : decode cL_law 1166 = .ok (.iadd, 1) := by decide +kernel
theorem dL_law_1167 : decode cL_law 1167 = .ok (.iaload, 1) := by decide +kernel
theorem dL_law_1168 : decode cL_law 1168 = .ok (.invokevirtual 156, 3) := by decide +kernel
theorem dL_law_1171 : decode cL_law 1171 = .ok (.istore 6, 2) := by decide +kernel
theorem dL_law_1173 : decode cL_law 1173 = .ok (.aload_n 2, 1) := by decide +kernel
theorem dL_law_1174 : decode cL_law 1174 = .ok (.invokevirtual 108, 3) := by decide +kernel
theorem dL_law_1177 : decode cL_law 1177 = .ok (.iload 5, 2) := by decide +kernel
theorem dL_law_1179 : decode cL_law 1179 = .ok (.if_icmp .eq 5, 3) := by decide +kernel
theorem dL_law_1182 : decode cL_law 1182 = .ok (.iconst 0, 1) := by decide +kernel
theorem dL_law_1183 : decode cL_law 1183 = .ok (.ireturn, 1) := by decide +kernel
theorem dL_law_1184 : decode cL_law 1184 = .ok (.iload 5, 2) := by decide +kernel
theorem dL_law_1186 : decode cL_law 1186 = .ok (.ifCond .ne 15, 3) := by decide +kernel
theorem dL_law_1189 : decode cL_law 1189 = .ok (.aload_n 3, 1) := by decide +kernel
theorem dL_law_1190 : decode cL_law 1190 = .ok (.iconst 0, 1) := by decide +kernel
theorem dL_law_1191 : decode cL_law 1191 = .ok (.laload, 1) := by decide +kernel
theorem dL_law_1192 : decode cL_law 1192 = .ok (.iload 6, 2) := by decide +kernel
theorem dL_law_1194 : decode cL_law 1194 = .ok (.i2l, 1) := by decide +kernel
theorem dL_law_1195 : decode cL_law 1195 = .ok (.lcmp, 1) := by decide +kernel
theorem dL_law_1196 : decode cL_law 1196 = .ok (.ifCond .eq 5, 3) := by decide +kernel
theorem dL_law_1199 : decode cL_law 1199 = .ok (.iconst 0, 1) := by decide +kernel
theorem dL_law_1200 : decode cL_law 1200 = .ok (.ireturn, 1) := by decide +kernel
theorem dL_law_1201 : decode cL_law 1201 = .ok (.goto 562, 3) := by decide +kernel
theorem dL_law_1204 : decode cL_law 1204 = .ok (.aload_n 1, 1) := by decide +kernel
theorem dL_law_1205 : decode cL_law 1205 = .ok (.aload_n 0, 1) := by decide +kernel
theorem dL_law_1206 : decode cL_law 1206 = .ok (.iload 4, 2) := by decide +kernel
theorem dL_law_1208 : decode cL_law 1208 = .ok (.iconst 1, 1) := by decide +kernel
theorem dL_law_1209 : decode cL_law 1209 = .ok (.iadd, 1) := by decide +kernel
theorem dL_law_1210 : decode cL_law 1210 = .ok (.iaload, 1) := by decide +kernel
theorem dL_law_1211 : decode cL_law 1211 = .ok (.aload_n 3, 1) := by decide +kernel
theorem dL_law_1212 : decode cL_law 1212 = .ok (.invokestatic 157, 3) := by decide +kernel
theorem dL_law_1215 : decode cL_law 1215 = .ok (.istore 5, 2) := by decide +kernel
theorem dL_law_1217 : decode cL_law 1217 = .ok (.aload_n 2, 1) := by decide +kernel
theorem dL_law_1218 : decode cL_law 1218 = .ok (.aload_n 0, 1) := by decide +kernel
theorem dL_law_1219 : decode cL_law 1219 = .ok (.iload 4, 2) := by decide +kernel
theorem dL_law_1221 : decode cL_law 1221 = .ok (.iconst 1, 1) := by decide +kernel
theorem dL_law_1222 : decode cL_law 1222 = .ok (.iadd, 1) := by decide +kernel
theorem dL_law_1223 : decode cL_law 1223 = .ok (.iaload, 1) := by decide +kernel
theorem dL_law_1224 : decode cL_law 1224 = .ok (.invokevirtual 159, 3) := by decide +kernel
theorem dL_law_1227 : decode cL_law 1227 = .ok (.istore 6, 2) := by decide +kernel
theorem dL_law_1229 : decode cL_law 1229 = .ok (.aload_n 2, 1) := by decide +kernel
theorem dL_law_1230 : decode cL_law 1230 = .ok (.invokevirtual 108, 3) := by decide +kernel
theorem dL_law_1233 : decode cL_law 1233 = .ok (.iload 5, 2) := by decide +kernel
theorem dL_law_1235 : decode cL_law 1235 = .ok (.if_icmp .eq 5, 3) := by decide +kernel
theorem dL_law_1238 : decode cL_law 1238 = .ok (.iconst 0, 1) := by decide +kernel
theorem dL_law_1239 : decode cL_law 1239 = .ok (.ireturn, 1) := by decide +kernel
theorem dL_law_1240 : decode cL_law 1240 = .ok (.iload 5, 2) := by decide +kernel
theorem dL_law_1242 : decode cL_law 1242 = .ok (.ifCond .ne 15, 3) := by decide +kernel
theorem dL_law_1245 : decode cL_law 1245 = .ok (.aload_n 3, 1) := by decide +kernel
theorem dL_law_1246 : decode cL_law 1246 = .ok (.iconst 0, 1) := by decide +kernel
theorem dL_law_1247 : decode cL_law 1247 = .ok (.laload, 1) := by decide +kernel
theorem dL_law_1248 : decode cL_law 1248 = .ok (.iload 6, 2) := by decide +kernel
theorem dL_law_1250 : decode cL_law 1250 = .ok (.i2l, 1) := by decide +kernel
theorem dL_law_1251 : decode cL_law 1251 = .ok (.lcmp, 1) := by decide +kernel
theorem dL_law_1252 : decode cL_law 1252 = .ok (.ifCond .eq 5, 3) := by decide +kernel
theorem dL_law_1255 : decode cL_law 1255 = .ok (.iconst 0, 1) := by decide +kernel
theorem dL_law_1256 : decode cL_law 1256 = .ok (.ireturn, 1) := by decide +kernel
theorem dL_law_1257 : decode cL_law 1257 = .ok (.goto 506, 3) := by decide +kernel
theorem dL_law_1260 : decode cL_law 1260 = .ok (.aload_n 1, 1) := by decide +kernel
theorem dL_law_1261 : decode cL_law 1261 = .ok (.aload_n 0, 1) := by decide +kernel
theorem dL_law_1262 : decode cL_law 1262 = .ok (.iload 4, 2) := by decide +kernel
theorem dL_law_1264 : decode cL_law 1264 = .ok (.iconst 1, 1) := by decide +kernel
theorem dL_law_1265 : decode cL_law 1265 = .ok (.iadd, 1) := by decide +kernel
theorem dL_law_1266 : decode cL_law 1266 = .ok (.iaload, 1) := by decide +kernel
theorem dL_law_1267 : decode cL_law 1267 = .ok (.aload_n 0, 1) := by decide +kernel
theorem dL_law_1268 : decode cL_law 1268 = .ok (.iload 4, 2) := by decide +kernel
theorem dL_law_1270 : decode cL_law 1270 = .ok (.iconst 2, 1) := by decide +kernel
theorem dL_law_1271 : decode cL_law 1271 = .ok (.iadd, 1) := by decide +kernel
theorem dL_law_1272 : decode cL_law 1272 = .ok (.iaload, 1) := by decide +kernel
theorem dL_law_1273 : decode cL_law 1273 = .ok (.aload_n 0, 1) := by decide +kernel
theorem dL_law_1274 : decode cL_law 1274 = .ok (.iload 4, 2) := by decide +kernel
theorem dL_law_1276 : decode cL_law 1276 = .ok (.iconst 3, 1) := by decide +kernel
theorem dL_law_1277 : decode cL_law 1277 = .ok (.iadd, 1) := by decide +kernel
theorem dL_law_1278 : decode cL_law 1278 = .ok (.iaload, 1) := by decide +kernel
theorem dL_law_1279 : decode cL_law 1279 = .ok (.invokestatic 160, 3) := by decide +kernel
theorem dL_law_1282 : decode cL_law 1282 = .ok (.istore 5, 2) := by decide +kernel
theorem dL_law_1284 : decode cL_law 1284 = .ok (.aload_n 2, 1) := by decide +kernel
theorem dL_law_1285 : decode cL_law 1285 = .ok (.aload_n 0, 1) := by decide +kernel
theorem dL_law_1286 : decode cL_law 1286 = .ok (.iload 4, 2) := by decide +kernel
theorem dL_law_1288 : decode cL_law 1288 = .ok (.iconst 1, 1) := by decide +kernel
theorem dL_law_1289 : decode cL_law 1289 = .ok (.iadd, 1) := by decide +kernel
theorem dL_law_1290 : decode cL_law 1290 = .ok (.iaload, 1) := by decide +kernel
theorem dL_law_1291 : decode cL_law 1291 = .ok (.aload_n 0, 1) := by decide +kernel
theorem dL_law_1292 : decode cL_law 1292 = .ok (.iload 4, 2) := by decide +kernel
theorem dL_law_1294 : decode cL_law 1294 = .ok (.iconst 2, 1) := by decide +kernel
theorem dL_law_1295 : decode cL_law 1295 = .ok (.iadd, 1) := by decide +kernel
theorem dL_law_1296 : decode cL_law 1296 = .ok (.iaload, 1) := by decide +kernel
theorem dL_law_1297 : decode cL_law 1297 = .ok (.aload_n 0, 1) := by decide +kernel
theorem dL_law_1298 : decode cL_law 1298 = .ok (.iload 4, 2) := by decide +kernel
theorem dL_law_1300 : decode cL_law 1300 = .ok (.iconst 3, 1) := by decide +kernel
theorem dL_law_1301 : decode cL_law 1301 = .ok (.iadd, 1) := by decide +kernel
theorem dL_law_1302 : decode cL_law 1302 = .ok (.iaload, 1) := by decide +kernel
theorem dL_law_1303 : decode cL_law 1303 = .ok (.invokevirtual 163, 3) := by decide +kernel
theorem dL_law_1306 : decode cL_law 1306 = .ok (.aload_n 2, 1) := by decide +kernel
theorem dL_law_1307 : decode cL_law 1307 = .ok (.invokevirtual 108, 3) := by decide +kernel
theorem dL_law_1310 : decode cL_law 1310 = .ok (.iload 5, 2) := by decide +kernel
theorem dL_law_1312 : decode cL_law 1312 = .ok (.if_icmp .eq 5, 3) := by decide +kernel
theorem dL_law_1315 : decode cL_law 1315 = .ok (.iconst 0, 1) := by decide +kernel
theorem dL_law_1316 : decode cL_law 1316 = .ok (.ireturn, 1) := by decide +kernel
theorem dL_law_1317 : decode cL_law 1317 = .ok (.goto 446, 3) := by decide +kernel
theorem dL_law_1320 : decode cL_law 1320 = .ok (.aload_n 1, 1) := by decide +kernel
theorem dL_law_1321 : decode cL_law 1321 = .ok (.aload_n 3, 1) := by decide +kernel
theorem dL_law_1322 : decode cL_law 1322 = .ok (.invokestatic 164, 3) := by decide +kernel
theorem dL_law_1325 : decode cL_law 1325 = .ok (.istore 5, 2) := by decide +kernel
theorem dL_law_1327 : decode cL_law 1327 = .ok (.aload_n 2, 1) := by decide +kernel
theorem dL_law_1328 : decode cL_law 1328 = .ok (.invokevirtual 167, 3) := by decide +kernel
theorem dL_law_1331 : decode cL_law 1331 = .ok (.istore 6, 2) := by decide +kernel
theorem dL_law_1333 : decode cL_law 1333 = .ok (.aload_n 2, 1) := by decide +kernel
theorem dL_law_1334 : decode cL_law 1334 = .ok (.invokevirtual 108, 3) := by decide +kernel
theorem dL_law_1337 : decode cL_law 1337 = .ok (.iload 5, 2) := by decide +kernel
theorem dL_law_1339 : decode cL_law 1339 = .ok (.if_icmp .eq 5, 3) := by decide +kernel
theorem dL_law_1342 : decode cL_law 1342 = .ok (.iconst 0, 1) := by decide +kernel
theorem dL_law_1343 : decode cL_law 1343 = .ok (.ireturn, 1) := by decide +kernel
theorem dL_law_1344 : decode cL_law 1344 = .ok (.iload 5, 2) := by decide +kernel
theorem dL_law_1346 : decode cL_law 1346 = .ok (.ifCond .ne 15, 3) := by decide +kernel
theorem dL_law_1349 : decode cL_law 1349 = .ok (.aload_n 3, 1) := by decide +kernel
theorem dL_law_1350 : decode cL_law 1350 = .ok (.iconst 0, 1) := by decide +kernel
theorem dL_law_1351 : decode cL_law 1351 = .ok (.laload, 1) := by decide +kernel
theorem dL_law_1352 : decode cL_law 1352 = .ok (.iload 6, 2) := by decide +kernel
theorem dL_law_1354 : decode cL_law 1354 = .ok (.i2l, 1) := by decide +kernel
theorem dL_law_1355 : decode cL_law 1355 = .ok (.lcmp, 1) := by decide +kernel
theorem dL_law_1356 : decode cL_law 1356 = .ok (.ifCond .eq 5, 3) := by decide +kernel
theorem dL_law_1359 : decode cL_law 1359 = .ok (.iconst 0, 1) := by decide +kernel
theorem dL_law_1360 : decode cL_law 1360 = .ok (.ireturn, 1) := by decide +kernel
theorem dL_law_1361 : decode cL_law 1361 = .ok (.goto 402, 3) := by decide +kernel
theorem dL_law_1364 : decode cL_law 1364 = .ok (.aload_n 1, 1) := by decide +kernel
theorem dL_law_1365 : decode cL_law 1365 = .ok (.aload_n 3, 1) := by decide +kernel
theorem dL_law_1366 : decode cL_law 1366 = .ok (.invokestatic 168, 3) := by decide +kernel
theorem dL_law_1369 : decode cL_law 1369 = .ok (.istore 5, 2) := by decide +kernel
theorem dL_law_1371 : decode cL_law 1371 = .ok (.aload_n 2, 1) := by decide +kernel
theorem dL_law_1372 : decode cL_law 1372 = .ok (.invokevirtual 170, 3) := by decide +kernel
theorem dL_law_1375 : decode cL_law 1375 = .ok (.istore 6, 2) := by decide +kernel
theorem dL_law_1377 : decode cL_law 1377 = .ok (.aload_n 2, 1) := by decide +kernel
theorem dL_law_1378 : decode cL_law 1378 = .ok (.invokevirtual 108, 3) := by decide +kernel
theorem dL_law_1381 : decode cL_law 1381 = .ok (.iload 5, 2) := by decide +kernel
theorem dL_law_1383 : decode cL_law 1383 = .ok (.if_icmp .eq 5, 3) := by decide +kernel
theorem dL_law_1386 : decode cL_law 1386 = .ok (.iconst 0, 1) := by decide +kernel
theorem dL_law_1387 : decode cL_law 1387 = .ok (.ireturn, 1) := by decide +kernel
theorem dL_law_1388 : decode cL_law 1388 = .ok (.iload 5, 2) := by decide +kernel
theorem dL_law_1390 : decode cL_law 1390 = .ok (.ifCond .ne 15, 3) := by decide +kernel
theorem dL_law_1393 : decode cL_law 1393 = .ok (.aload_n 3, 1) := by decide +kernel
theorem dL_law_1394 : decode cL_law 1394 = .ok (.iconst 0, 1) := by decide +kernel
theorem dL_law_1395 : decode cL_law 1395 = .ok (.laload, 1) := by decide +kernel
theorem dL_law_1396 : decode cL_law 1396 = .ok (.iload 6, 2) := by decide +kernel
theorem dL_law_1398 : decode cL_law 1398 = .ok (.i2l, 1) := by decide +kernel
theorem dL_law_1399 : decode cL_law 1399 = .ok (.lcmp, 1) := by decide +kernel
theorem dL_law_1400 : decode cL_law 1400 = .ok (.ifCond .eq 5, 3) := by decide +kernel
theorem dL_law_1403 : decode cL_law 1403 = .ok (.iconst 0, 1) := by decide +kernel
theorem dL_law_1404 : decode cL_law 1404 = .ok (.ireturn, 1) := by decide +kernel
theorem dL_law_1405 : decode cL_law 1405 = .ok (.goto 358, 3) := by decide +kernel
theorem dL_law_1408 : decode cL_law 1408 = .ok (.aload_n 1, 1) := by decide +kernel
theorem dL_law_1409 : decode cL_law 1409 = .ok (.aload_n 0, 1) := by decide +kernel
theorem dL_law_1410 : decode cL_law 1410 = .ok (.iload 4, 2) := by decide +kernel
theorem dL_law_1412 : decode cL_law 1412 = .ok (.iconst 1, 1) := by decide +kernel
theorem dL_law_1413 : decode cL_law 1413 = .ok (.iadd, 1) := by decide +kernel
theorem dL_law_1414 : decode cL_law 1414 = .ok (.iaload, 1) := by decide +kernel
theorem dL_law_1415 : decode cL_law 1415 = .ok (.aload_n 0, 1) := by decide +kernel
theorem dL_law_1416 : decode cL_law 1416 = .ok (.iload 4, 2) := by decide +kernel
theorem dL_law_1418 : decode cL_law 1418 = .ok (.iconst 2, 1) := by decide +kernel
theorem dL_law_1419 : decode cL_law 1419 = .ok (.iadd, 1) := by decide +kernel
theorem dL_law_1420 : decode cL_law 1420 = .ok (.iaload, 1) := by decide +kernel
theorem dL_law_1421 : decode cL_law 1421 = .ok (.aload_n 3, 1) := by decide +kernel
theorem dL_law_1422 : decode cL_law 1422 = .ok (.invokestatic 171, 3) := by decide +kernel
theorem dL_law_1425 : decode cL_law 1425 = .ok (.istore 5, 2) := by decide +kernel
theorem dL_law_1427 : decode cL_law 1427 = .ok (.aload_n 2, 1) := by decide +kernel
theorem dL_law_1428 : decode cL_law 1428 = .ok (.aload_n 0, 1) := by decide +kernel
theorem dL_law_1429 : decode cL_law 1429 = .ok (.iload 4, 2) := by decide +kernel
theorem dL_law_1431 : decode cL_law 1431 = .ok (.iconst 1, 1) := by decide +kernel
theorem dL_law_1432 : decode cL_law 1432 = .ok (.iadd, 1) := by decide +kernel
theorem dL_law_1433 : decode cL_law 1433 = .ok (.iaload, 1) := by decide +kernel
theorem dL_law_1434 : decode cL_law 1434 = .ok (.aload_n 0, 1) := by decide +kernel
theorem dL_law_1435 : decode cL_law 1435 = .ok (.iload 4, 2) := by decide +kernel
theorem dL_law_1437 : decode cL_law 1437 = .ok (.iconst 2, 1) := by decide +kernel
theorem dL_law_1438 : decode cL_law 1438 = .ok (.iadd, 1) := by decide +kernel
theorem dL_law_1439 : decode cL_law 1439 = .ok (.iaload, 1) := by decide +kernel
theorem dL_law_1440 : decode cL_law 1440 = .ok (.invokevirtual 173, 3) := by decide +kernel
theorem dL_law_1443 : decode cL_law 1443 = .ok (.istore 6, 2) := by decide +kernel
theorem dL_law_1445 : decode cL_law 1445 = .ok (.aload_n 2, 1) := by decide +kernel
theorem dL_law_1446 : decode cL_law 1446 = .ok (.invokevirtual 108, 3) := by decide +kernel
theorem dL_law_1449 : decode cL_law 1449 = .ok (.iload 5, 2) := by decide +kernel
theorem dL_law_1451 : decode cL_law 1451 = .ok (.if_icmp .eq 5, 3) := by decide +kernel
theorem dL_law_1454 : decode cL_law 1454 = .ok (.iconst 0, 1) := by decide +kernel
theorem dL_law_1455 : decode cL_law 1455 = .ok (.ireturn, 1) := by decide +kernel
theorem dL_law_1456 : decode cL_law 1456 = .ok (.iload 5, 2) := by decide +kernel
theorem dL_law_1458 : decode cL_law 1458 = .ok (.ifCond .ne 22, 3) := by decide +kernel
theorem dL_law_1461 : decode cL_law 1461 = .ok (.aload_n 3, 1) := by decide +kernel
theorem dL_law_1462 : decode cL_law 1462 = .ok (.iconst 0, 1) := by decide +kernel
theorem dL_law_1463 : decode cL_law 1463 = .ok (.laload, 1) := by decide +kernel
theorem dL_law_1464 : decode cL_law 1464 = .ok (.iload 6, 2) := by decide +kernel
theorem dL_law_1466 : decode cL_law 1466 = .ok (.ifCond .eq 7, 3) := by decide +kernel
theorem dL_law_1469 : decode cL_law 1469 = .ok (.lconst 1, 1) := by decide +kernel
theorem dL_law_1470 : decode cL_law 1470 = .ok (.goto 4, 3) := by decide +kernel
theorem dL_law_1473 : decode cL_law 1473 = .ok (.lconst 0, 1) := by decide +kernel
theorem dL_law_1474 : decode cL_law 1474 = .ok (.lcmp, 1) := by decide +kernel
theorem dL_law_1475 : decode cL_law 1475 = .ok (.ifCond .eq 5, 3) := by decide +kernel
theorem dL_law_1478 : decode cL_law 1478 = .ok (.iconst 0, 1) := by decide +kernel
theorem dL_law_1479 : decode cL_law 1479 = .ok (.ireturn, 1) := by decide +kernel
theorem dL_law_1480 : decode cL_law 1480 = .ok (.goto 283, 3) := by decide +kernel
theorem dL_law_1483 : decode cL_law 1483 = .ok (.aload_n 1, 1) := by decide +kernel
theorem dL_law_1484 : decode cL_law 1484 = .ok (.aload_n 3, 1) := by decide +kernel
theorem dL_law_1485 : decode cL_law 1485 = .ok (.invokestatic 174, 3) := by decide +kernel
theorem dL_law_1488 : decode cL_law 1488 = .ok (.istore 5, 2) := by decide +kernel
theorem dL_law_1490 : decode cL_law 1490 = .ok (.aload_n 2, 1) := by decide +kernel
theorem dL_law_1491 : decode cL_law 1491 = .ok (.invokevirtual 176, 3) := by decide +kernel
theorem dL_law_1494 : decode cL_law 1494 = .ok (.istore 6, 2) := by decide +kernel
theorem dL_law_1496 : decode cL_law 1496 = .ok (.aload_n 2, 1) := by decide +kernel
theorem dL_law_1497 : decode cL_law 1497 = .ok (.invokevirtual 108, 3) := by decide +kernel
theorem dL_law_1500 : decode cL_law 1500 = .ok (.iload 5, 2) := by decide +kernel
theorem dL_law_1502 : decode cL_law 1502 = .ok (.if_icmp .eq 5, 3) := by decide +kernel
theorem dL_law_1505 : decode cL_law 1505 = .ok (.iconst 0, 1) := by decide +kernel
theorem dL_law_1506 : decode cL_law 1506 = .ok (.ireturn, 1) := by decide +kernel
theorem dL_law_1507 : decode cL_law 1507 = .ok (.iload 5, 2) := by decide +kernel
theorem dL_law_1509 : decode cL_law 1509 = .ok (.ifCond .ne 15, 3) := by decide +kernel
theorem dL_law_1512 : decode cL_law 1512 = .ok (.aload_n 3, 1) := by decide +kernel
theorem dL_law_1513 : decode cL_law 1513 = .ok (.iconst 0, 1) := by decide +kernel
theorem dL_law_1514 : decode cL_law 1514 = .ok (.laload, 1) := by decide +kernel
theorem dL_law_1515 : decode cL_law 1515 = .ok (.iload 6, 2) := by decide +kernel
theorem dL_law_1517 : decode cL_law 1517 = .ok (.i2l, 1) := by decide +kernel
theorem dL_law_1518 : decode cL_law 1518 = .ok (.lcmp, 1) := by decide +kernel
theorem dL_law_1519 : decode cL_law 1519 = .ok (.ifCond .eq 5, 3) := by decide +kernel
theorem dL_law_1522 : decode cL_law 1522 = .ok (.iconst 0, 1) := by decide +kernel
theorem dL_law_1523 : decode cL_law 1523 = .ok (.ireturn, 1) := by decide +kernel
theorem dL_law_1524 : decode cL_law 1524 = .ok (.goto 239, 3) := by decide +kernel
theorem dL_law_1527 : decode cL_law 1527 = .ok (.aload_n 1, 1) := by decide +kernel
theorem dL_law_1528 : decode cL_law 1528 = .ok (.aload_n 0, 1) := by decide +kernel
theorem dL_law_1529 : decode cL_law 1529 = .ok (.iload 4, 2) := by decide +kernel
theorem dL_law_1531 : decode cL_law 1531 = .ok (.iconst 1, 1) := by decide +kernel
theorem dL_law_1532 : decode cL_law 1532 = .ok (.iadd, 1) := by decide +kernel
theorem dL_law_1533 : decode cL_law 1533 = .ok (.iaload, 1) := by decide +kernel
theorem dL_law_1534 : decode cL_law 1534 = .ok (.aload_n 3, 1) := by decide +kernel
theorem dL_law_1535 : decode cL_law 1535 = .ok (.invokestatic 177, 3) := by decide +kernel
theorem dL_law_1538 : decode cL_law 1538 = .ok (.istore 5, 2) := by decide +kernel
theorem dL_law_1540 : decode cL_law 1540 = .ok (.aload_n 2, 1) := by decide +kernel
theorem dL_law_1541 : decode cL_law 1541 = .ok (.aload_n 0, 1) := by decide +kernel
theorem dL_law_1542 : decode cL_law 1542 = .ok (.iload 4, 2) := by decide +kernel
theorem dL_law_1544 : decode cL_law 1544 = .ok (.iconst 1, 1) := by decide +kernel
theorem dL_law_1545 : decode cL_law 1545 = .ok (.iadd, 1) := by decide +kernel
theorem dL_law_1546 : decode cL_law 1546 = .ok (.iaload, 1) := by decide +kernel
theorem dL_law_1547 : decode cL_law 1547 = .ok (.invokevirtual 179, 3) := by decide +kernel
theorem dL_law_1550 : decode cL_law 1550 = .ok (.istore 6, 2) := by decide +kernel
theorem dL_law_1552 : decode cL_law 1552 = .ok (.aload_n 2, 1) := by decide +kernel
theorem dL_law_1553 : decode cL_law 1553 = .ok (.invokevirtual 108, 3) := by decide +kernel
theorem dL_law_1556 : decode cL_law 1556 = .ok (.iload 5, 2) := by decide +kernel
theorem dL_law_1558 : decode cL_law 1558 = .ok (.if_icmp .eq 5, 3) := by decide +kernel
theorem dL_law_1561 : decode cL_law 1561 = .ok (.iconst 0, 1) := by decide +kernel
theorem dL_law_1562 : decode cL_law 1562 = .ok (.ireturn, 1) := by decide +kernel
theorem dL_law_1563 : decode cL_law 1563 = .ok (.iload 5, 2) := by decide +kernel
theorem dL_law_1565 : decode cL_law 1565 = .ok (.ifCond .ne 15, 3) := by decide +kernel
theorem dL_law_1568 : decode cL_law 1568 = .ok (.aload_n 3, 1) := by decide +kernel
theorem dL_law_1569 : decode cL_law 1569 = .ok (.iconst 0, 1) := by decide +kernel
theorem dL_law_1570 : decode cL_law 1570 = .ok (.laload, 1) := by decide +kernel
theorem dL_law_1571 : decode cL_law 1571 = .ok (.iload 6, 2) := by decide +kernel
theorem dL_law_1573 : decode cL_law 1573 = .ok (.i2l, 1) := by decide +kernel
theorem dL_law_1574 : decode cL_law 1574 = .ok (.lcmp, 1) := by decide +kernel
theorem dL_law_1575 : decode cL_law 1575 = .ok (.ifCond .eq 5, 3) := by decide +kernel
theorem dL_law_1578 : decode cL_law 1578 = .ok (.iconst 0, 1) := by decide +kernel
theorem dL_law_1579 : decode cL_law 1579 = .ok (.ireturn, 1) := by decide +kernel
theorem dL_law_1580 : decode cL_law 1580 = .ok (.goto 183, 3) := by decide +kernel
theorem dL_law_1583 : decode cL_law 1583 = .ok (.aload_n 1, 1) := by decide +kernel
theorem dL_law_1584 : decode cL_law 1584 = .ok (.aload_n 0, 1) := by decide +kernel
theorem dL_law_1585 : decode cL_law 1585 = .ok (.iload 4, 2) := by decide +kernel
theorem dL_law_1587 : decode cL_law 1587 = .ok (.iconst 1, 1) := by decide +kernel
theorem dL_law_1588 : decode cL_law 1588 = .ok (.iadd, 1) := by decide +kernel
theorem dL_law_1589 : decode cL_law 1589 = .ok (.iaload, 1) := by decide +kernel
theorem dL_law_1590 : decode cL_law 1590 = .ok (.aload_n 3, 1) := by decide +kernel
theorem dL_law_1591 : decode cL_law 1591 = .ok (.invokestatic 180, 3) := by decide +kernel
theorem dL_law_1594 : decode cL_law 1594 = .ok (.istore 5, 2) := by decide +kernel
theorem dL_law_1596 : decode cL_law 1596 = .ok (.aload_n 2, 1) := by decide +kernel
theorem dL_law_1597 : decode cL_law 1597 = .ok (.aload_n 0, 1) := by decide +kernel
theorem dL_law_1598 : decode cL_law 1598 = .ok (.iload 4, 2) := by decide +kernel
theorem dL_law_1600 : decode cL_law 1600 = .ok (.iconst 1, 1) := by decide +kernel
theorem dL_law_1601 : decode cL_law 1601 = .ok (.iadd, 1) := by decide +kernel
theorem dL_law_1602 : decode cL_law 1602 = .ok (.iaload, 1) := by decide +kernel
theorem dL_law_1603 : decode cL_law 1603 = .ok (.invokevirtual 182, 3) := by decide +kernel
theorem dL_law_1606 : decode cL_law 1606 = .ok (.istore 6, 2) := by decide +kernel
theorem dL_law_1608 : decode cL_law 1608 = .ok (.aload_n 2, 1) := by decide +kernel
theorem dL_law_1609 : decode cL_law 1609 = .ok (.invokevirtual 108, 3) := by decide +kernel
theorem dL_law_1612 : decode cL_law 1612 = .ok (.iload 5, 2) := by decide +kernel
theorem dL_law_1614 : decode cL_law 1614 = .ok (.if_icmp .eq 5, 3) := by decide +kernel
theorem dL_law_1617 : decode cL_law 1617 = .ok (.iconst 0, 1) := by decide +kernel
theorem dL_law_1618 : decode cL_law 1618 = .ok (.ireturn, 1) := by decide +kernel
theorem dL_law_1619 : decode cL_law 1619 = .ok (.iload 5, 2) := by decide +kernel
theorem dL_law_1621 : decode cL_law 1621 = .ok (.ifCond .ne 15, 3) := by decide +kernel
theorem dL_law_1624 : decode cL_law 1624 = .ok (.aload_n 3, 1) := by decide +kernel
theorem dL_law_1625 : decode cL_law 1625 = .ok (.iconst 0, 1) := by decide +kernel
theorem dL_law_1626 : decode cL_law 1626 = .ok (.laload, 1) := by decide +kernel
theorem dL_law_1627 : decode cL_law 1627 = .ok (.iload 6, 2) := by decide +kernel
theorem dL_law_1629 : decode cL_law 1629 = .ok (.i2l, 1) := by decide +kernel
theorem dL_law_1630 : decode cL_law 1630 = .ok (.lcmp, 1) := by decide +kernel
theorem dL_law_1631 : decode cL_law 1631 = .ok (.ifCond .eq 5, 3) := by decide +kernel
theorem dL_law_1634 : decode cL_law 1634 = .ok (.iconst 0, 1) := by decide +kernel
theorem dL_law_1635 : decode cL_law 1635 = .ok (.ireturn, 1) := by decide +kernel
theorem dL_law_1636 : decode cL_law 1636 = .ok (.goto 127, 3) := by decide +kernel
theorem dL_law_1639 : decode cL_law 1639 = .ok (.aload_n 1, 1) := by decide +kernel
theorem dL_law_1640 : decode cL_law 1640 = .ok (.aload_n 0, 1) := by decide +kernel
theorem dL_law_1641 : decode cL_law 1641 = .ok (.iload 4, 2) := by decide +kernel
theorem dL_law_1643 : decode cL_law 1643 = .ok (.iconst 1, 1) := by decide +kernel
theorem dL_law_1644 : decode cL_law 1644 = .ok (.iadd, 1) := by decide +kernel
theorem dL_law_1645 : decode cL_law 1645 = .ok (.iaload, 1) := by decide +kernel
theorem dL_law_1646 : decode cL_law 1646 = .ok (.aload_n 0, 1) := by decide +kernel
theorem dL_law_1647 : decode cL_law 1647 = .ok (.iload 4, 2) := by decide +kernel
theorem dL_law_1649 : decode cL_law 1649 = .ok (.iconst 2, 1) := by decide +kernel
theorem dL_law_1650 : decode cL_law 1650 = .ok (.iadd, 1) := by decide +kernel
theorem dL_law_1651 : decode cL_law 1651 = .ok (.iaload, 1) := by decide +kernel
theorem dL_law_1652 : decode cL_law 1652 = .ok (.aload_n 3, 1) := by decide +kernel
theorem dL_law_1653 : decode cL_law 1653 = .ok (.invokestatic 183, 3) := by decide +kernel
theorem dL_law_1656 : decode cL_law 1656 = .ok (.istore 5, 2) := by decide +kernel
theorem dL_law_1658 : decode cL_law 1658 = .ok (.aload_n 2, 1) := by decide +kernel
theorem dL_law_1659 : decode cL_law 1659 = .ok (.aload_n 0, 1) := by decide +kernel
theorem dL_law_1660 : decode cL_law 1660 = .ok (.iload 4, 2) := by decide +kernel
theorem dL_law_1662 : decode cL_law 1662 = .ok (.iconst 1, 1) := by decide +kernel
theorem dL_law_1663 : decode cL_law 1663 = .ok (.iadd, 1) := by decide +kernel
theorem dL_law_1664 : decode cL_law 1664 = .ok (.iaload, 1) := by decide +kernel
theorem dL_law_1665 : decode cL_law 1665 = .ok (.aload_n 0, 1) := by decide +kernel
theorem dL_law_1666 : decode cL_law 1666 = .ok (.iload 4, 2) := by decide +kernel
theorem dL_law_1668 : decode cL_law 1668 = .ok (.iconst 2, 1) := by decide +kernel
theorem dL_law_1669 : decode cL_law 1669 = .ok (.iadd, 1) := by decide +kernel
theorem dL_law_1670 : decode cL_law 1670 = .ok (.iaload, 1) := by decide +kernel
theorem dL_law_1671 : decode cL_law 1671 = .ok (.invokevirtual 185, 3) := by decide +kernel
theorem dL_law_1674 : decode cL_law 1674 = .ok (.istore 6, 2) := by decide +kernel
theorem dL_law_1676 : decode cL_law 1676 = .ok (.aload_n 2, 1) := by decide +kernel
theorem dL_law_1677 : decode cL_law 1677 = .ok (.invokevirtual 108, 3) := by decide +kernel
theorem dL_law_1680 : decode cL_law 1680 = .ok (.iload 5, 2) := by decide +kernel
theorem dL_law_1682 : decode cL_law 1682 = .ok (.if_icmp .eq 5, 3) := by decide +kernel
theorem dL_law_1685 : decode cL_law 1685 = .ok (.iconst 0, 1) := by decide +kernel
theorem dL_law_1686 : decode cL_law 1686 = .ok (.ireturn, 1) := by decide +kernel
theorem dL_law_1687 : decode cL_law 1687 = .ok (.iload 5, 2) := by decide +kernel
theorem dL_law_1689 : decode cL_law 1689 = .ok (.ifCond .ne 15, 3) := by decide +kernel
theorem dL_law_1692 : decode cL_law 1692 = .ok (.aload_n 3, 1) := by decide +kernel
theorem dL_law_1693 : decode cL_law 1693 = .ok (.iconst 0, 1) := by decide +kernel
theorem dL_law_1694 : decode cL_law 1694 = .ok (.laload, 1) := by decide +kernel
theorem dL_law_1695 : decode cL_law 1695 = .ok (.iload 6, 2) := by decide +kernel
theorem dL_law_1697 : decode cL_law 1697 = .ok (.i2l, 1) := by decide +kernel
theorem dL_law_1698 : decode cL_law 1698 = .ok (.lcmp, 1) := by decide +kernel
theorem dL_law_1699 : decode cL_law 1699 = .ok (.ifCond .eq 5, 3) := by decide +kernel
theorem dL_law_1702 : decode cL_law 1702 = .ok (.iconst 0, 1) := by decide +kernel
theorem dL_law_1703 : decode cL_law 1703 = .ok (.ireturn, 1) := by decide +kernel
theorem dL_law_1704 : decode cL_law 1704 = .ok (.goto 59, 3) := by decide +kernel
theorem dL_law_1707 : decode cL_law 1707 = .ok (.aload_n 1, 1) := by decide +kernel
theorem dL_law_1708 : decode cL_law 1708 = .ok (.aload_n 0, 1) := by decide +kernel
theorem dL_law_1709 : decode cL_law 1709 = .ok (.iload 4, 2) := by decide +kernel
theorem dL_law_1711 : decode cL_law 1711 = .ok (.iconst 1, 1) := by decide +kernel
theorem dL_law_1712 : decode cL_law 1712 = .ok (.iadd, 1) := by decide +kernel
theorem dL_law_1713 : decode cL_law 1713 = .ok (.iaload, 1) := by decide +kernel
theorem dL_law_1714 : decode cL_law 1714 = .ok (.aload_n 3, 1) := by decide +kernel
theorem dL_law_1715 : decode cL_law 1715 = .ok (.invokestatic 186, 3) := by decide +kernel
theorem dL_law_1718 : decode cL_law 1718 = .ok (.istore 5, 2) := by decide +kernel
theorem dL_law_1720 : decode cL_law 1720 = .ok (.aload_n 2, 1) := by decide +kernel
theorem dL_law_1721 : decode cL_law 1721 = .ok (.aload_n 0, 1) := by decide +kernel
theorem dL_law_1722 : decode cL_law 1722 = .ok (.iload 4, 2) := by decide +kernel
theorem dL_law_1724 : decode cL_law 1724 = .ok (.iconst 1, 1) := by decide +kernel
theorem dL_law_1725 : decode cL_law 1725 = .ok (.iadd, 1) := by decide +kernel
theorem dL_law_1726 : decode cL_law 1726 = .ok (.iaload, 1) := by decide +kernel
theorem dL_law_1727 : decode cL_law 1727 = .ok (.invokevirtual 188, 3) := by decide +kernel
theorem dL_law_1730 : decode cL_law 1730 = .ok (.istore 6, 2) := by decide +kernel
theorem dL_law_1732 : decode cL_law 1732 = .ok (.aload_n 2, 1) := by decide +kernel
theorem dL_law_1733 : decode cL_law 1733 = .ok (.invokevirtual 108, 3) := by decide +kernel
theorem dL_law_1736 : decode cL_law 1736 = .ok (.iload 5, 2) := by decide +kernel
theorem dL_law_1738 : decode cL_law 1738 = .ok (.if_icmp .eq 5, 3) := by decide +kernel
theorem dL_law_1741 : decode cL_law 1741 = .ok (.iconst 0, 1) := by decide +kernel
theorem dL_law_1742 : decode cL_law 1742 = .ok (.ireturn, 1) := by decide +kernel
theorem dL_law_1743 : decode cL_law 1743 = .ok (.iload 5, 2) := by decide +kernel
theorem dL_law_1745 : decode cL_law 1745 = .ok (.ifCond .ne 15, 3) := by decide +kernel
theorem dL_law_1748 : decode cL_law 1748 = .ok (.aload_n 3, 1) := by decide +kernel
theorem dL_law_1749 : decode cL_law 1749 = .ok (.iconst 0, 1) := by decide +kernel
theorem dL_law_1750 : decode cL_law 1750 = .ok (.laload, 1) := by decide +kernel
theorem dL_law_1751 : decode cL_law 1751 = .ok (.iload 6, 2) := by decide +kernel
theorem dL_law_1753 : decode cL_law 1753 = .ok (.i2l, 1) := by decide +kernel
theorem dL_law_1754 : decode cL_law 1754 = .ok (.lcmp, 1) := by decide +kernel
theorem dL_law_1755 : decode cL_law 1755 = .ok (.ifCond .eq 5, 3) := by decide +kernel
theorem dL_law_1758 : decode cL_law 1758 = .ok (.iconst 0, 1) := by decide +kernel
theorem dL_law_1759 : decode cL_law 1759 = .ok (.ireturn, 1) := by decide +kernel
theorem dL_law_1760 : decode cL_law 1760 = .ok (.goto 3, 3) := by decide +kernel
theorem dL_law_1763 : decode cL_law 1763 = .ok (.iinc 4 6, 3) := by decide +kernel
theorem dL_law_1766 : decode cL_law 1766 = .ok (.goto (-1743), 3) := by decide +kernel
theorem dL_law_1769 : decode cL_law 1769 = .ok (.iconst 1, 1) := by decide +kernel
theorem dL_law_1770 : decode cL_law 1770 = .ok (.ireturn, 1) := by decide +kernel
end
section
def zTx : List (String × Nat × String) := [(RX2, 228, "client is out of range"), (RX2, 232, "name is out of range"), (RX2, 239, "there is no such directory"), (RX2, 243, "the name is not free or its fragment is frozen"), (RX2, 70, "there were 12 directories"), (RX2, 82, "there were 30 files"), (RX2, 241, "there never was such a file"), (RX2, 95, "the file is gone"), (RX2, 245, "the name is free or its fragment is frozen"), (RX2, 247, "the directory is not empty"), (RX2, 249, "a fragment of the directory moves"), (RX2, 118, "the target is the directory or below it"), (RX2, 132, "minutes is out of range"), (RX2, 234, "hash is out of range"), (RX2, 152, "the fragment has size 1 or is frozen"), (RX2, 162, "the fragment has size 8"), (RX2, 170, "the halves are unlike"), (RX2, 172, "one of the halves is frozen"), (RX2, 230, "server is out of range"), (RX2, 251, "a move goes on"), (RX2, 191, "it is the server of the fragment"), (RX2, 201, "no move goes on")]
end
section
/-! THE ENGINE: a memory of functions (zk: kinds, zn: lengths, zi: numbers, zr: references, zj: longs), what it says of the heap, and a row an instruction over it.
Kinds: 0 nothing, 1 to 4 the four classes in the order of vwCl, 5 int[], 6 boolean[], 7 long[], 8 Directory[], 9 Fragment[], 10 int[][]. -/
abbrev ZM : Type := (Nat → Nat) × (Nat → Nat) × (Nat → Nat → Int32) × (Nat → Nat → Option Nat) × (Nat → Nat → Int64)
def zk (M : ZM) (a : Nat) : Nat := M.1 a
def zn (M : ZM) (a : Nat) : Nat := M.2.1 a
def zi (M : ZM) (a k : Nat) : Int32 := M.2.2.1 a k
def zr (M : ZM) (a k : Nat) : Option Nat := M.2.2.2.1 a k
def zj (M : ZM) (a k : Nat) : Int64 := M.2.2.2.2 a k
def zu {α : Type} (f : Nat → Nat → α) (a k : Nat) (v : α) : Nat → Nat → α := fun b j => if b = a ∧ j = k then v else f b j
def zo {α : Type} (f : Nat → α) (a : Nat) (v : α) : Nat → α := fun b => if b = a then v else f b
def zsi (M : ZM) (a k : Nat) (v : Int32) : ZM := (M.1, M.2.1, zu M.2.2.1 a k v, M.2.2.2.1, M.2.2.2.2)
def zsr (M : ZM) (a k : Nat) (v : Option Nat) : ZM := (M.1, M.2.1, M.2.2.1, zu M.2.2.2.1 a k v, M.2.2.2.2)
def zsj (M : ZM) (a k : Nat) (v : Int64) : ZM := (M.1, M.2.1, M.2.2.1, M.2.2.2.1, zu M.2.2.2.2 a k v)
def zw (M : ZM) (a kd n : Nat) : ZM := (zo M.1 a kd, zo M.2.1 a n, zo M.2.2.1 a (fun _ => 0), zo M.2.2.2.1 a (fun _ => none), zo M.2.2.2.2 a (fun _ => 0))
theorem zk_i (M : ZM) (a k : Nat) (v : Int32) (b : Nat) : zk (zsi M a k v) b = zk M b := rfl
theorem zk_r (M : ZM) (a k : Nat) (v : Option Nat) (b : Nat) : zk (zsr M a k v) b = zk M b := rfl
theorem zk_j (M : ZM) (a k : Nat) (v : Int64) (b : Nat) : zk (zsj M a k v) b = zk M b := rfl
theorem zk_w (M : ZM) (a kd n : Nat) (b : Nat) : zk (zw M a kd n) b = if b = a then kd else zk M b := rfl
theorem zn_i (M : ZM) (a k : Nat) (v : Int32) (b : Nat) : zn (zsi M a k v) b = zn M b := rfl
theorem zn_r (M : ZM) (a k : Nat) (v : Option Nat) (b : Nat) : zn (zsr M a k v) b = zn M b := rfl
theorem zn_j (M : ZM) (a k : Nat) (v : Int64) (b : Nat) : zn (zsj M a k v) b = zn M b := rfl
theorem zn_w (M : ZM) (a kd n : Nat) (b : Nat) : zn (zw M a kd n) b = if b = a then n else zn M b := rfl
theorem zi_i (M : ZM) (a k : Nat) (v : Int32) (b j : Nat) : zi (zsi M a k v) b j = if b = a ∧ j = k then v else zi M b j := rfl
theorem zi_r (M : ZM) (a k : Nat) (v : Option Nat) (b j : Nat) : zi (zsr M a k v) b j = zi M b j := rfl
theorem zi_j (M : ZM) (a k : Nat) (v : Int64) (b j : Nat) : zi (zsj M a k v) b j = zi M b j := rfl
theorem zi_w (M : ZM) (a kd n : Nat) (b j : Nat) : zi (zw M a kd n) b j = if b = a then 0 else zi M b j := by
  show (if b = a then fun _ => 0 else M.2.2.1 b) j = _
  split <;> rfl
theorem zr_i (M : ZM) (a k : Nat) (v : Int32) (b j : Nat) : zr (zsi M a k v) b j = zr M b j := rfl
theorem zr_r (M : ZM) (a k : Nat) (v : Option Nat) (b j : Nat) : zr (zsr M a k v) b j = if b = a ∧ j = k then v else zr M b j := rfl
theorem zr_j (M : ZM) (a k : Nat) (v : Int64) (b j : Nat) : zr (zsj M a k v) b j = zr M b j := rfl
theorem zr_w (M : ZM) (a kd n : Nat) (b j : Nat) : zr (zw M a kd n) b j = if b = a then none else zr M b j := by
  show (if b = a then fun _ => none else M.2.2.2.1 b) j = _
  split <;> rfl
theorem zj_i (M : ZM) (a k : Nat) (v : Int32) (b j : Nat) : zj (zsi M a k v) b j = zj M b j := rfl
theorem zj_r (M : ZM) (a k : Nat) (v : Option Nat) (b j : Nat) : zj (zsr M a k v) b j = zj M b j := rfl
theorem zj_j (M : ZM) (a k : Nat) (v : Int64) (b j : Nat) : zj (zsj M a k v) b j = if b = a ∧ j = k then v else zj M b j := rfl
theorem zj_w (M : ZM) (a kd n : Nat) (b j : Nat) : zj (zw M a kd n) b j = if b = a then 0 else zj M b j := by
  show (if b = a then fun _ => 0 else M.2.2.2.2 b) j = _
  split <;> rfl
/-- which fields are numbers: class by class -/
def zfi : Nat → Nat → Bool
  | 0, k => k == 0 || k == 2
  | 1, _ => true
  | 2, k => !(k == 0 || k == 5 || k == 6 || k == 7)
  | _, k => k == 0 || k == 1 || k == 2 || k == 8 || k == 9 || k == 16 || k == 17 || k == 18
def zfv (M : ZM) (a ci k : Nat) : Value := if zfi ci k = true then .int (zi M a k) else va_rf (zr M a k)
def zfs (M : ZM) (a ci N : Nat) : List Value := (List.range N).map (zfv M a ci)
abbrev ZG : Type := Launch × va_G × (Nat → ClassId) × Heap
def zTy (c : Nat → ClassId) : List (ClassId × FieldType) := [(c 0, .int), (c 1, .boolean), (c 2, .long), (c 3, .object RX0), (c 4, .object RX1), (c 5, .array .int)]
/-- the contents of an array, by its kind -/
def zct (M : ZM) (a k : Nat) : vp_A := (zn M a, if k = 5 ∨ k = 6 then .inl (zi M a) else if k = 7 then .inr (.inl (zj M a)) else .inr (.inr (.inr (.inr (zr M a)))))
def zsz : Nat → Nat
  | 0 => 7
  | 1 => 5
  | 2 => 10
  | _ => 19
def zE (c : Nat → ClassId) (M : ZM) (a : Nat) : va_E := if zk M a ≤ 4 then .inr (zk M a - 1, zfs M a (zk M a - 1) (zsz (zk M a - 1))) else .inl (c (zk M a - 5), zct M a (zk M a))
theorem zE_o {c : Nat → ClassId} {M : ZM} {a ci : Nat} (h : zk M a = ci + 1) (hc : ci < 4) : zE c M a = .inr (ci, zfs M a ci (zsz ci)) := by
  unfold zE
  rw [h, if_pos (by omega), Nat.add_sub_cancel]
theorem zE_a {c : Nat → ClassId} {M : ZM} {a k : Nat} (h : zk M a = k) (hc : 5 ≤ k) : zE c M a = .inl (c (k - 5), zct M a k) := by
  unfold zE
  rw [h, if_neg (by omega)]
def zRel (G : ZG) (M : ZM) (H : Heap) : Prop := G.2.2.2.size ≤ H.size ∧ (∀ q, q < G.2.2.2.size → H[q]? = G.2.2.2[q]?) ∧ ∀ a, zk M a ≠ 0 → G.2.2.2.size ≤ a ∧ va_at G.2.1 vwCl (a, zE G.2.2.1 M a) H
theorem zRel.lt {G : ZG} {M : ZM} {H : Heap} (h : zRel G M H) {a : Nat} (ha : zk M a ≠ 0) : a < H.size := (h.2.2 a ha).2.lt
theorem zRel.fresh {G : ZG} {M : ZM} {H : Heap} (h : zRel G M H) {a : Nat} (ha : H.size ≤ a) : zk M a = 0 := by
  by_cases e : zk M a = 0
  · exact e
  · exact absurd (h.lt e) (by omega)
/-- one cell changes -/
theorem zRel.put {G : ZG} {M M' : ZM} {H H' : Heap} (h : zRel G M H) {a : Nat} (ha : zk M a ≠ 0) (hz : H'.size = H.size) (ho : ∀ q, q ≠ a → H'[q]? = H[q]?) (hkd : ∀ b, zk M' b = zk M b) (hE : ∀ b, b ≠ a → zE G.2.2.1 M' b = zE G.2.2.1 M b) (hn : va_at G.2.1 vwCl (a, zE G.2.2.1 M' a) H') : zRel G M' H' := by
  have hA := (h.2.2 a ha).1
  refine ⟨by rw [hz]; exact h.1, fun q hq => ?_, fun b hb => ?_⟩
  · rw [ho q (by omega)]
    exact h.2.1 q hq
  · rw [hkd] at hb
    refine ⟨(h.2.2 b hb).1, ?_⟩
    by_cases e : b = a
    · subst e
      exact hn
    · rw [hE b e]
      exact (h.2.2 b hb).2.kept (ho b e)
/-- the heap has grown -/
theorem zRel.grow {G : ZG} {M : ZM} {H H' : Heap} (h : zRel G M H) (hz : H.size ≤ H'.size) (ho : ∀ q, q < H.size → H'[q]? = H[q]?) : zRel G M H' :=
  ⟨Nat.le_trans h.1 hz, fun q hq => by rw [ho q (Nat.lt_of_lt_of_le hq h.1)]; exact h.2.1 q hq, fun b hb => ⟨(h.2.2 b hb).1, (h.2.2 b hb).2.kept (ho b (h.lt hb))⟩⟩
theorem zE_w {c : Nat → ClassId} {M : ZM} {a kd n b : Nat} (e : b ≠ a) : zE c (zw M a kd n) b = zE c M b := by
  have h1 : zk (zw M a kd n) b = zk M b := by rw [zk_w, if_neg e]
  have h2 : zn (zw M a kd n) b = zn M b := by rw [zn_w, if_neg e]
  have h3 : zi (zw M a kd n) b = zi M b := funext fun j => by rw [zi_w, if_neg e]
  have h4 : zr (zw M a kd n) b = zr M b := funext fun j => by rw [zr_w, if_neg e]
  have h5 : zj (zw M a kd n) b = zj M b := funext fun j => by rw [zj_w, if_neg e]
  unfold zE zct zfs zfv
  rw [h1, h2, h3, h4, h5]
theorem zRel.new {G : ZG} {M : ZM} {H H' : Heap} (h : zRel G M H) {a kd n : Nat} (hz : H'.size = a + 1) (haz : a = H.size) (ho : ∀ q, q < H.size → H'[q]? = H[q]?) (hn : va_at G.2.1 vwCl (a, zE G.2.2.1 (zw M a kd n) a) H') : zRel G (zw M a kd n) H' := by
  have g := h.grow (H' := H') (by omega) ho
  refine ⟨g.1, g.2.1, fun b hb => ?_⟩
  by_cases e : b = a
  · subst e
    exact ⟨by rw [haz]; exact h.1, hn⟩
  · have h1 : zk (zw M a kd n) b = zk M b := by rw [zk_w, if_neg e]
    rw [h1] at hb
    rw [zE_w e]
    exact g.2.2 b hb
theorem zfs_get {M : ZM} {a ci N k : Nat} (hk : k < N) : (zfs M a ci N)[k]? = some (zfv M a ci k) := by
  unfold zfs
  rw [List.getElem?_map, List.getElem?_range hk]
  rfl
theorem zfs_len {M : ZM} {a ci N : Nat} : (zfs M a ci N).length = N := by simp [zfs]
theorem zfs_set {M M' : ZM} {a ci N k : Nat} {v : Value} (hk : zfv M' a ci k = v) (ho : ∀ j, j ≠ k → zfv M' a ci j = zfv M a ci j) : (zfs M a ci N).set k v = zfs M' a ci N := by
  apply List.ext_getElem?
  intro j
  rw [List.getElem?_set]
  by_cases e : k = j
  · subst e
    rw [if_pos rfl, zfs_len]
    by_cases h : k < N
    · rw [if_pos h, zfs_get h, hk]
    · rw [if_neg h, List.getElem?_eq_none (by rw [zfs_len]; omega)]
  · rw [if_neg e]
    by_cases h : j < N
    · rw [zfs_get h, zfs_get h, ho j (fun q => e q.symm)]
    · rw [List.getElem?_eq_none (by rw [zfs_len]; omega), List.getElem?_eq_none (by rw [zfs_len]; omega)]
/-! the locals -/
def zL (ls : Array Slot) (n : Nat) (L : List (Option Value)) : Prop := ls.size = n ∧ lv_wf ls ∧ ∀ (i : Nat) (v : Value), L[i]? = some (some v) → v.category = 1 ∧ ls[i]? = some (Slot.val v)
def zA (L : List (Option Value)) : List (Nat × Value) := (List.range L.length).filterMap (fun i => (L[i]?.join).map (fun v => (i, v)))
theorem zA_mem {L : List (Option Value)} {q : Nat × Value} : q ∈ zA L ↔ L[q.1]? = some (some q.2) := by
  unfold zA
  rw [List.mem_filterMap]
  constructor
  · rintro ⟨i, -, h⟩
    obtain ⟨v, h1, h2⟩ := Option.map_eq_some_iff.mp h
    subst h2
    cases h3 : L[i]? with
    | none => rw [h3] at h1; cases h1
    | some x => rw [h3] at h1; have : x = some v := h1; rw [this]
  · intro h
    refine ⟨q.1, List.mem_range.mpr (List.getElem?_eq_some_iff.mp h).1, ?_⟩
    rw [h]
    rfl
theorem zL.has {ls : Array Slot} {n : Nat} {L : List (Option Value)} (h : zL ls n L) : lv_has ls n (zA L) := ⟨h.1, h.2.1, fun q hq => (h.2.2 q.1 q.2 (zA_mem.mp hq)).2⟩
theorem zL.of {ls ls' : Array Slot} {n i : Nat} {L : List (Option Value)} {x : Value} {lv : List (Nat × Value)} (h : zL ls n L) (hx : x.category = 1) (hl : (i, x) :: (zA L).filter (fun q => !(q.1 == i) && !(q.1 + 1 == i && q.2.category == 2)) = lv) (h' : lv_has ls' n lv) : zL ls' n (L.set i (some x)) := by
  subst hl
  refine ⟨h'.1, h'.2.1, fun j v hj => ?_⟩
  rw [List.getElem?_set] at hj
  by_cases e : i = j
  · subst e
    rw [if_pos rfl] at hj
    by_cases hl : i < L.length
    · rw [if_pos hl] at hj
      cases hj
      exact ⟨hx, h'.2.2 (i, x) List.mem_cons_self⟩
    · rw [if_neg hl] at hj
      cases hj
  · rw [if_neg e] at hj
    have hc := (h.2.2 j v hj).1
    refine ⟨hc, h'.2.2 (j, v) (List.mem_cons_of_mem _ (List.mem_filter.mpr ⟨zA_mem.mpr hj, ?_⟩))⟩
    have e' : ¬ j = i := fun q => e q.symm
    simp [hc, e']
theorem zL_entry {vs : List Value} {n : Nat} (hc : ∀ v ∈ vs, v.category = 1) (hn : vs.length ≤ n) : zL ((lg_sl vs ++ List.replicate (n - (lg_sl vs).length) Slot.unset).toArray) n (vs.map some ++ List.replicate (n - vs.length) none) := by
  have hl : ∀ l : List Value, (∀ v ∈ l, v.category = 1) → lg_sl l = l.map Slot.val := by
    intro l
    induction l with
    | nil => intro _; rfl
    | cons a l ih =>
      intro h
      have h1 := h a List.mem_cons_self
      have h2 := ih (fun v hv => h v (List.mem_cons_of_mem _ hv))
      show (if a.category = 2 then [Slot.val a, Slot.second] else [Slot.val a]) ++ lg_sl l = _
      rw [h2, if_neg (by omega)]
      rfl
  have e := hl vs hc
  have hlen : (lg_sl vs).length = vs.length := by rw [e, List.length_map]
  have h0 := lv_entry vs (n := n) (by rw [hlen]; exact hn)
  refine ⟨h0.1, h0.2.1, fun i v hi => ?_⟩
  by_cases hlt : i < vs.length
  · rw [List.getElem?_append_left (by rw [List.length_map]; exact hlt), List.getElem?_map] at hi
    obtain ⟨w, hw, hv⟩ := Option.map_eq_some_iff.mp hi
    have e2 : w = v := Option.some.inj hv
    subst e2
    refine ⟨hc w (List.mem_of_getElem? hw), ?_⟩
    rw [e, List.getElem?_toArray, List.getElem?_append_left (by rw [List.length_map]; exact hlt), List.getElem?_map, hw]
    rfl
  · rw [List.getElem?_append_right (by rw [List.length_map]; omega)] at hi
    exact absurd (List.eq_of_mem_replicate (List.mem_of_getElem? hi)) (by simp)
end
section
/-! contracts, the context of a method's body, and the rows -/
abbrev ZO : Type := Option Value ⊕ String
/-- a method: name, code, locals, what it returns, its frames, its units of room (a unit: one cell, 64 slots) -/
abbrev ZY : Type := MethodName × ByteArray × Nat × Option FieldType × Nat × Nat
abbrev zyn (t : ZY) : MethodName := t.1
abbrev zyc (t : ZY) : ByteArray := t.2.1
abbrev zyl (t : ZY) : Nat := t.2.2.1
abbrev zyr (t : ZY) : Option FieldType := t.2.2.2.1
abbrev zyh (t : ZY) : Nat := t.2.2.2.2.1
abbrev zyu (t : ZY) : Nat := t.2.2.2.2.2
def zTs : List Cond := lw_tbl.filter goodWord
theorem zt (i : Nat) {w : Cond} (h : lw_tbl[i]? = some w) (g : goodWord w = true) : w ∈ zTs := List.mem_filter.mpr ⟨List.mem_of_getElem? h, g⟩
theorem zgood {ws : List Cond} (h : ∀ w ∈ ws, w ∈ zTs) : GoodIn zTs ws := fun w hw => ⟨h w hw, good_of_word (List.mem_filter.mp (h w hw)).2⟩
abbrev zcd (t : ZY) : Cond := Cond.code (zyn t) (zyc t) (zyl t) (zyr t)
abbrev zcdW (t : ZY) (hh : List (Nat × Nat × Nat × Nat)) : Cond := Cond.codeWith (zyn t) (zyc t) (zyl t) (zyr t) hh
def zrm (h u : Nat) : Room := { frames := h, cells := u, slots := 64 * u, locals := 36 * h }
abbrev zfr (G : ZG) : Nat → Prop := fun q => G.2.2.2.size ≤ q
/-- arrays of int[] can be made -/
def zAOA (U : State) : Prop := (Cond.arrayOver (.array .int)).before #[] U = true
theorem zAOA.moved {u U : State} (hvm : u.vm.Alike U.vm) (h : zAOA u) : zAOA U := by
  obtain ⟨comp, c, k, h1, h2, h3, h4, h5⟩ := arrayOverA_spec h
  obtain ⟨k', hk', he⟩ := hvm.2.2 _ _ h3
  have hi : (U.vm.classes.findIdx? fun (x : Class) => match x.kind with | .array component _ => component == comp | _ => false) = some c := by
    rw [hvm.findIdx?_eq _ (fun _ => rfl)]
    exact h2
  have hkind : k'.kind = .array comp (.array .int) := by rw [he]; exact h4
  have f1 : U.vm.findClass (FieldType.array .int).toString = some comp := by rw [hvm.findClass]; exact h1
  have f2 : U.vm.findClass ("[" ++ (FieldType.array .int).toString) = some c := by rw [hvm.findClass]; exact h5
  unfold zAOA Cond.before Cond.holds
  simp only [Cond.value]
  rw [f1, Option.bind_some]
  refine (congrArg (fun o : Option Nat => (o.bind (fun c => (U.vm.classes[c]?).map fun (k : Class) => match k.kind with | .array _ ty => decide (ty = FieldType.array .int) && decide (U.vm.findClass ("[" ++ (FieldType.array .int).toString) = some c) | _ => false) == some true)) hi).trans ?_
  simp [hk', hkind, f2]
def zExc : List String := ["java/lang/IllegalArgumentException", "java/lang/IndexOutOfBoundsException", "java/lang/IllegalStateException"]
def zDecl : List String := ["java/lang/RuntimeException", "java/lang/Exception", "java/lang/Throwable"]
def zSt (G : ZG) (U : State) : Prop := va_K G.2.1 vwCl (zTy G.2.2.1) U ∧ vx_Zq Bundle.tN "UNASSIGNED_STACK" Bundle.steD (zfr G) U G.2.2.2 ∧ vx_Zq Bundle.tN "SUPPRESSED_SENTINEL" Bundle.listD (zfr G) U G.2.2.2 ∧ (∀ q ∈ zTx, ∃ sa, vk_R q.1 q.2.1 q.2.2 sa U) ∧ (∀ E ∈ zExc, va_Nw (.castable E E) U) ∧ (∀ E ∈ zExc, ∀ F ∈ zExc, E ≠ F → va_Nc E F U) ∧ va_AO RX0 U ∧ va_AO RX1 U ∧ zAOA U ∧ G.1.stackTraces = false ∧ ∀ F ∈ zDecl, va_Nw (.declares ⟨F, "<init>", "(Ljava/lang/String;)V"⟩) U
theorem zSt.warm {G : ZG} {s U : State} (hW : s.WarmedH U.vm) (h : zSt G s) : zSt G U := by
  obtain ⟨h1, h2, h3, h4, h5, h6, h7, h8, h9, h10, h11⟩ := h
  exact ⟨h1.moved hW.alike, h2.moved hW.alike, h3.moved hW.alike, fun q hq => by obtain ⟨sa, z⟩ := h4 q hq; exact ⟨sa, vk_R.warm hW z⟩, fun E hE => (h5 E hE).warmC hW, fun E hE F hF e => (h6 E hE F hF e).moved hW.alike, h7.moved hW.alike, h8.moved hW.alike, h9.moved hW.alike, h10, fun F hF => (h11 F hF).warmD hW⟩
def zPc (G : ZG) (As : List Value) (M : ZM) : Array Value → State → Prop := fun v U => v = As.toArray ∧ zRel G M U.heap ∧ zSt G U
theorem zPc.blind {G : ZG} {As : List Value} {M : ZM} : FrameBlind (zPc G As M) := fun a U g mk h => ⟨h.1, h.2.1, zSt.warm (s := U) (U := U.calling g mk a) (State.WarmedH.refl U) h.2.2⟩
def zQc (G : ZG) (P : ZO → ZM → Prop) : Array Value → State → Outcome → State → Prop := fun _ st o t => ∃ (v : Option Value) (M' : ZM), o = .returned v ∧ P (.inl v) M' ∧ zRel G M' t.heap ∧ st.heap.size ≤ t.heap.size
def zXC (G : ZG) (P : ZO → ZM → Prop) : String → State → State → Prop := fun E st t => ∃ M' : ZM, P (.inr E) M' ∧ zRel G M' t.heap ∧ st.heap.size ≤ t.heap.size
def zMetC (G : ZG) (cd : Cond) (t : ZY) (As : List Value) (M : ZM) (P : ZO → ZM → Prop) : Prop :=
  vx_Met G.1 (zyn t) (cd :: zTs) (zrm (zyh t) (zyu t)) (zPc G As M) (zQc G P) (zXC G P) (zyu t) (64 * zyu t) (zfr G)
abbrev zMet (G : ZG) (t : ZY) (As : List Value) (M : ZM) (P : ZO → ZM → Prop) : Prop := zMetC G (zcd t) t As M P
/-- the call returns v, the memory is M' -/
def zone (v : Option Value) (M' : ZM) : ZO → ZM → Prop := fun o M => o = .inl v ∧ M = M'
/-- the call throws E, the memory is M' -/
def zthr (E : String) (M' : ZM) : ZO → ZM → Prop := fun o M => o = .inr E ∧ M = M'
abbrev ZE : Type := Program × Env × Room × State × MethodId × Array Value × List Frame × Method × Code
def zOK (t : ZY) (tb : List ExceptionTableEntry) (G : ZG) (E : ZE) : Prop :=
  match E with
  | (p, e, R, s, m, args, below, meth, c) => p.tables.exec = Jvm.exec ∧ c.code = zyc t ∧ meth.sig.returnType = zyr t ∧ c.maxLocals = zyl t ∧ s.vm.findClass (zyn t).cls = some m.cls ∧ meth.locks = false ∧ (∀ w ∈ zTs, w.before args s = true) ∧ zSt G s ∧ (G.2.2.2.size ≤ s.heap.size ∧ ∀ q, q < G.2.2.2.size → s.heap[q]? = G.2.2.2[q]?) ∧ c.exceptionTable.toList = tb ∧ meth.name = (zyn t).name ∧ zyh t ≤ R.frames ∧ 36 * zyh t ≤ R.locals ∧ zyu t ≤ R.cells ∧ 64 * zyu t ≤ R.slots
/-- what a method's frame owes: from here, with b units left, it comes to Q -/
def WW (E : ZE) (G : ZG) (u : Nat) (Q : State → Prop) (M : ZM) (b pc : Nat) (L : List (Option Value)) (S : List Value) : Prop :=
  match E with
  | (p, e, R, s, m, args, below, meth, c) => ∀ (H : Heap) (locs : List Loc) (ls : Array Slot) (cells slots : Nat), zRel G M H → s.heap.size ≤ H.size → (∀ q ∈ locs, zfr G q.base) → zL ls c.maxLocals L → cells + b ≤ u → slots + 64 * b ≤ 64 * u → W p G.1 e R s m args below meth c H locs cells slots Q (F0 m pc ls S)
/-- .. with En thrown at pc -/
def XX (E : ZE) (G : ZG) (u : Nat) (Q : State → Prop) (M : ZM) (b pc : Nat) (L : List (Option Value)) (En : String) : Prop :=
  match E with
  | (p, e, R, s, m, args, below, meth, c) => ∀ (H : Heap) (locs : List Loc) (ls : Array Slot) (cells slots : Nat) (rest : List Value) (q : Addr) (ce : Cell), zRel G M H → s.heap.size ≤ H.size → (∀ q ∈ locs, zfr G q.base) → zL ls c.maxLocals L → cells + b ≤ u → slots + 64 * b ≤ 64 * u → H[q]? = some ce → ce.vm = .none → s.vm.findClass En = some ce.cls → vx_W p G.1 e R s m args below meth c H locs cells slots Q (F0 m pc ls rest) q
/-- the end that a method's contract names -/
def zQ (E : ZE) (G : ZG) (t : ZY) (P : ZO → ZM → Prop) : State → Prop :=
  match E with
  | (_, _, _, s, _, args, below, _, _) => vx_MQ below (zQc G P) (zXC G P) args s (zyu t) (64 * zyu t) (zfr G)
/-- what a callee's name needs, n its arguments -/
def zY (t : ZY) (n : Nat) : Prop := zcd t ∈ zTs ∧ Cond.initialized (zyn t).cls ∈ zTs ∧ ((zyn t).cls ≠ "java/lang/invoke/MethodHandle" ∧ (zyn t).cls ≠ "java/lang/invoke/VarHandle") ∧ (parseMethodDescriptor (zyn t).desc).map (fun d => d.parameters.length) = some n ∧ plainName (zyn t).cls = true ∧ zyl t + 19 ≤ 36
theorem zbody {G : ZG} {t : ZY} {n : Nat} {As : List Value} {M : ZM} {P : ZO → ZM → Prop} (hy : zY t n) (L : List (Option Value)) (hL : As.map some ++ List.replicate (zyl t - As.length) none = L) (hlen : As.length ≤ zyl t) (hc : ∀ v ∈ As, v.category = 1)
    (body : ∀ E : ZE, zOK t [] G E → WW E G (zyu t) (zQ E G t P) M (zyu t) 0 L []) : zMet G t As M P := by
  refine vx_ofW (cc := zyc t) (maxL := zyl t) (ret := zyr t) hy.2.2.2.2.1 rfl ?_
  intro p e s m args below meth c s₁ B hml htab hv
  obtain ⟨rfl, hrel, hst⟩ := hv
  have hts := atoms_spec (ws := zcd t :: zTs) B.pre
  have hown : s.vm.findClass (zyn t).cls = some m.cls := findClass_of_methodNamed B.named
  have htb : c.exceptionTable.toList = [] := List.eq_nil_iff_forall_not_mem.mpr fun x hx => htab x hx
  have K := body (p, e, zrm (zyh t) (zyu t), s, m, As.toArray, below, meth, c) ⟨B.exec, B.bytes, B.returns, hml, hown, B.notSynchronized, fun w hw => hts w (List.mem_cons_of_mem _ hw), hst, ⟨hrel.1, hrel.2.1⟩, htb, (name_of_methodNamed B.named B.method).1, Nat.le_refl _, Nat.le_refl _, Nat.le_refl _, Nat.le_refl _⟩
  rw [lg_entry_eq]
  exact K s.heap [] _ 0 0 hrel (Nat.le_refl _) (fun q hq => nomatch hq) (by rw [← hL, hml]; exact zL_entry hc hlen) (by omega) (by omega)
section ZROW
variable {t : ZY} {tb : List ExceptionTableEntry} {E : ZE} {G : ZG} {u : Nat} {Q : State → Prop} {M : ZM} {b pc : Nat} {L : List (Option Value)} {S : List Value}
theorem zq_iconst (K : zOK t tb G E) {n : Int} {v : Int32} (hd : decode (zyc t) pc = .ok (.iconst n, 1)) (hv : Int32.ofInt n = v) (k : WW E G u Q M b (pc + 1) L (.int v :: S)) : WW E G u Q M b pc L S := by
  obtain ⟨p, e, R, s, m, args, below, meth, c⟩ := E
  exact fun H locs ls cells slots h1 h2 h3 h4 h5 h6 => lv_iconst K.1 K.2.1 hd hv (k H locs ls cells slots h1 h2 h3 h4 h5 h6)
theorem zq_bipush (K : zOK t tb G E) {n : Int} {v : Int32} (hd : decode (zyc t) pc = .ok (.bipush n, 2)) (hv : (Int8.ofInt n).toInt32 = v) (k : WW E G u Q M b (pc + 2) L (.int v :: S)) : WW E G u Q M b pc L S := by
  obtain ⟨p, e, R, s, m, args, below, meth, c⟩ := E
  exact fun H locs ls cells slots h1 h2 h3 h4 h5 h6 => lv_bipush K.1 K.2.1 hd hv (k H locs ls cells slots h1 h2 h3 h4 h5 h6)
theorem zq_sipush (K : zOK t tb G E) {n : Int} {v : Int32} (hd : decode (zyc t) pc = .ok (.sipush n, 3)) (hv : (Int16.ofInt n).toInt32 = v) (k : WW E G u Q M b (pc + 3) L (.int v :: S)) : WW E G u Q M b pc L S := by
  obtain ⟨p, e, R, s, m, args, below, meth, c⟩ := E
  exact fun H locs ls cells slots h1 h2 h3 h4 h5 h6 => lv_sipush K.1 K.2.1 hd hv (k H locs ls cells slots h1 h2 h3 h4 h5 h6)
theorem zq_lconst (K : zOK t tb G E) {n : Fin 2} {v : Int64} (hd : decode (zyc t) pc = .ok (.lconst n, 1)) (hv : Int64.ofNat (n : Nat) = v) (k : WW E G u Q M b (pc + 1) L (.long v :: S)) : WW E G u Q M b pc L S := by
  obtain ⟨p, e, R, s, m, args, below, meth, c⟩ := E
  exact fun H locs ls cells slots h1 h2 h3 h4 h5 h6 => lv_lconst K.1 K.2.1 hd hv (k H locs ls cells slots h1 h2 h3 h4 h5 h6)
theorem zq_null (K : zOK t tb G E) (hd : decode (zyc t) pc = .ok (.aconst_null, 1)) (k : WW E G u Q M b (pc + 1) L (.null :: S)) : WW E G u Q M b pc L S := by
  obtain ⟨p, e, R, s, m, args, below, meth, c⟩ := E
  exact fun H locs ls cells slots h1 h2 h3 h4 h5 h6 => lv_null K.1 K.2.1 hd (k H locs ls cells slots h1 h2 h3 h4 h5 h6)
theorem zq_iload_n (K : zOK t tb G E) {k : Fin 4} {i : Nat} {x : Int32} (hd : decode (zyc t) pc = .ok (.iload_n k, 1)) (hi : (k : Nat) = i) (hl : L[i]? = some (some (.int x))) (kk : WW E G u Q M b (pc + 1) L (.int x :: S)) : WW E G u Q M b pc L S := by
  obtain ⟨p, e, R, s, m, args, below, meth, c⟩ := E
  exact fun H locs ls cells slots h1 h2 h3 h4 h5 h6 => lv_iload_n K.1 K.2.1 hd hi (h4.2.2 i _ hl).2 (kk H locs ls cells slots h1 h2 h3 h4 h5 h6)
theorem zq_iload (K : zOK t tb G E) {i : Nat} {x : Int32} (hd : decode (zyc t) pc = .ok (.iload i, 2)) (hl : L[i]? = some (some (.int x))) (kk : WW E G u Q M b (pc + 2) L (.int x :: S)) : WW E G u Q M b pc L S := by
  obtain ⟨p, e, R, s, m, args, below, meth, c⟩ := E
  exact fun H locs ls cells slots h1 h2 h3 h4 h5 h6 => lv_iload K.1 K.2.1 hd (h4.2.2 i _ hl).2 (kk H locs ls cells slots h1 h2 h3 h4 h5 h6)
theorem zq_aload_n (K : zOK t tb G E) {k : Fin 4} {i : Nat} {x : Nat} (hd : decode (zyc t) pc = .ok (.aload_n k, 1)) (hi : (k : Nat) = i) (hl : L[i]? = some (some (.ref x))) (kk : WW E G u Q M b (pc + 1) L (.ref x :: S)) : WW E G u Q M b pc L S := by
  obtain ⟨p, e, R, s, m, args, below, meth, c⟩ := E
  exact fun H locs ls cells slots h1 h2 h3 h4 h5 h6 => lv_aload_n K.1 K.2.1 hd hi (h4.2.2 i _ hl).2 (kk H locs ls cells slots h1 h2 h3 h4 h5 h6)
theorem zq_aload (K : zOK t tb G E) {i : Nat} {x : Nat} (hd : decode (zyc t) pc = .ok (.aload i, 2)) (hl : L[i]? = some (some (.ref x))) (kk : WW E G u Q M b (pc + 2) L (.ref x :: S)) : WW E G u Q M b pc L S := by
  obtain ⟨p, e, R, s, m, args, below, meth, c⟩ := E
  exact fun H locs ls cells slots h1 h2 h3 h4 h5 h6 => lv_aload K.1 K.2.1 hd (h4.2.2 i _ hl).2 (kk H locs ls cells slots h1 h2 h3 h4 h5 h6)
theorem zq_aload_nN (K : zOK t tb G E) {k : Fin 4} {i : Nat} (hd : decode (zyc t) pc = .ok (.aload_n k, 1)) (hi : (k : Nat) = i) (hl : L[i]? = some (some .null)) (kk : WW E G u Q M b (pc + 1) L (.null :: S)) : WW E G u Q M b pc L S := by
  obtain ⟨p, e, R, s, m, args, below, meth, c⟩ := E
  exact fun H locs ls cells slots h1 h2 h3 h4 h5 h6 => lv_aload_nN K.1 K.2.1 hd hi (h4.2.2 i _ hl).2 (kk H locs ls cells slots h1 h2 h3 h4 h5 h6)
theorem zq_aloadN (K : zOK t tb G E) {i : Nat} (hd : decode (zyc t) pc = .ok (.aload i, 2)) (hl : L[i]? = some (some .null)) (kk : WW E G u Q M b (pc + 2) L (.null :: S)) : WW E G u Q M b pc L S := by
  obtain ⟨p, e, R, s, m, args, below, meth, c⟩ := E
  exact fun H locs ls cells slots h1 h2 h3 h4 h5 h6 => lv_aloadN K.1 K.2.1 hd (h4.2.2 i _ hl).2 (kk H locs ls cells slots h1 h2 h3 h4 h5 h6)
theorem zq_istore_n (K : zOK t tb G E) {k : Fin 4} {i : Nat} {x : Int32} (hd : decode (zyc t) pc = .ok (.istore_n k, 1)) (hi : (k : Nat) = i) (hn : i < zyl t) (kk : WW E G u Q M b (pc + 1) (L.set i (some (.int x))) S) : WW E G u Q M b pc L (.int x :: S) := by
  obtain ⟨p, e, R, s, m, args, below, meth, c⟩ := E
  exact fun H locs ls cells slots h1 h2 h3 h4 h5 h6 => lv_istore_n K.1 K.2.1 hd hi h4.has (by rw [K.2.2.2.1]; exact hn) rfl (fun ls' h' => kk H locs ls' cells slots h1 h2 h3 (h4.of rfl rfl h') h5 h6)
theorem zq_istore (K : zOK t tb G E) {i : Nat} {x : Int32} (hd : decode (zyc t) pc = .ok (.istore i, 2)) (hn : i < zyl t) (kk : WW E G u Q M b (pc + 2) (L.set i (some (.int x))) S) : WW E G u Q M b pc L (.int x :: S) := by
  obtain ⟨p, e, R, s, m, args, below, meth, c⟩ := E
  exact fun H locs ls cells slots h1 h2 h3 h4 h5 h6 => lv_istore K.1 K.2.1 hd h4.has (by rw [K.2.2.2.1]; exact hn) rfl (fun ls' h' => kk H locs ls' cells slots h1 h2 h3 (h4.of rfl rfl h') h5 h6)
theorem zq_astore_n (K : zOK t tb G E) {k : Fin 4} {i : Nat} {x : Nat} (hd : decode (zyc t) pc = .ok (.astore_n k, 1)) (hi : (k : Nat) = i) (hn : i < zyl t) (kk : WW E G u Q M b (pc + 1) (L.set i (some (.ref x))) S) : WW E G u Q M b pc L (.ref x :: S) := by
  obtain ⟨p, e, R, s, m, args, below, meth, c⟩ := E
  exact fun H locs ls cells slots h1 h2 h3 h4 h5 h6 => lv_astore_n K.1 K.2.1 hd hi h4.has (by rw [K.2.2.2.1]; exact hn) rfl (fun ls' h' => kk H locs ls' cells slots h1 h2 h3 (h4.of rfl rfl h') h5 h6)
theorem zq_astore (K : zOK t tb G E) {i : Nat} {x : Nat} (hd : decode (zyc t) pc = .ok (.astore i, 2)) (hn : i < zyl t) (kk : WW E G u Q M b (pc + 2) (L.set i (some (.ref x))) S) : WW E G u Q M b pc L (.ref x :: S) := by
  obtain ⟨p, e, R, s, m, args, below, meth, c⟩ := E
  exact fun H locs ls cells slots h1 h2 h3 h4 h5 h6 => lv_astore K.1 K.2.1 hd h4.has (by rw [K.2.2.2.1]; exact hn) rfl (fun ls' h' => kk H locs ls' cells slots h1 h2 h3 (h4.of rfl rfl h') h5 h6)
theorem zq_astore_nN (K : zOK t tb G E) {k : Fin 4} {i : Nat} (hd : decode (zyc t) pc = .ok (.astore_n k, 1)) (hi : (k : Nat) = i) (hn : i < zyl t) (kk : WW E G u Q M b (pc + 1) (L.set i (some .null)) S) : WW E G u Q M b pc L (.null :: S) := by
  obtain ⟨p, e, R, s, m, args, below, meth, c⟩ := E
  exact fun H locs ls cells slots h1 h2 h3 h4 h5 h6 => lv_astore_nN K.1 K.2.1 hd hi h4.has (by rw [K.2.2.2.1]; exact hn) rfl (fun ls' h' => kk H locs ls' cells slots h1 h2 h3 (h4.of rfl rfl h') h5 h6)
theorem zq_astoreN (K : zOK t tb G E) {i : Nat} (hd : decode (zyc t) pc = .ok (.astore i, 2)) (hn : i < zyl t) (kk : WW E G u Q M b (pc + 2) (L.set i (some .null)) S) : WW E G u Q M b pc L (.null :: S) := by
  obtain ⟨p, e, R, s, m, args, below, meth, c⟩ := E
  exact fun H locs ls cells slots h1 h2 h3 h4 h5 h6 => lv_astoreN K.1 K.2.1 hd h4.has (by rw [K.2.2.2.1]; exact hn) rfl (fun ls' h' => kk H locs ls' cells slots h1 h2 h3 (h4.of rfl rfl h') h5 h6)
theorem zq_iinc (K : zOK t tb G E) {i : Nat} {n : Int} {x v : Int32} (hd : decode (zyc t) pc = .ok (.iinc i n, 3)) (hl : L[i]? = some (some (.int x))) (hv : x + Int32.ofInt n = v) (hn : i < zyl t) (kk : WW E G u Q M b (pc + 3) (L.set i (some (.int v))) S) : WW E G u Q M b pc L S := by
  obtain ⟨p, e, R, s, m, args, below, meth, c⟩ := E
  intro H locs ls cells slots h1 h2 h3 h4 h5 h6
  obtain ⟨k, hk⟩ := List.getElem?_of_mem (zA_mem.mpr (show L[(i, Value.int x).1]? = some (some (i, Value.int x).2) from hl))
  exact lv_iinc K.1 K.2.1 hd h4.has hk hv (by rw [K.2.2.2.1]; exact hn) rfl (fun ls' h' => kk H locs ls' cells slots h1 h2 h3 (h4.of rfl rfl h') h5 h6)
theorem zq_iadd (K : zOK t tb G E) {x y : Int32} (hd : decode (zyc t) pc = .ok (.iadd, 1)) (k : WW E G u Q M b (pc + 1) L (.int (x + y) :: S)) : WW E G u Q M b pc L (.int y :: .int x :: S) := by
  obtain ⟨p, e, R, s, m, args, below, meth, c⟩ := E
  exact fun H locs ls cells slots h1 h2 h3 h4 h5 h6 => lv_iadd K.1 K.2.1 hd (k H locs ls cells slots h1 h2 h3 h4 h5 h6)
theorem zq_isub (K : zOK t tb G E) {x y : Int32} (hd : decode (zyc t) pc = .ok (.isub, 1)) (k : WW E G u Q M b (pc + 1) L (.int (x - y) :: S)) : WW E G u Q M b pc L (.int y :: .int x :: S) := by
  obtain ⟨p, e, R, s, m, args, below, meth, c⟩ := E
  exact fun H locs ls cells slots h1 h2 h3 h4 h5 h6 => lv_isub K.1 K.2.1 hd (k H locs ls cells slots h1 h2 h3 h4 h5 h6)
theorem zq_imul (K : zOK t tb G E) {x y : Int32} (hd : decode (zyc t) pc = .ok (.imul, 1)) (k : WW E G u Q M b (pc + 1) L (.int (x * y) :: S)) : WW E G u Q M b pc L (.int y :: .int x :: S) := by
  obtain ⟨p, e, R, s, m, args, below, meth, c⟩ := E
  exact fun H locs ls cells slots h1 h2 h3 h4 h5 h6 => lv_imul K.1 K.2.1 hd (k H locs ls cells slots h1 h2 h3 h4 h5 h6)
theorem zq_iand (K : zOK t tb G E) {x y : Int32} (hd : decode (zyc t) pc = .ok (.iand, 1)) (k : WW E G u Q M b (pc + 1) L (.int (x &&& y) :: S)) : WW E G u Q M b pc L (.int y :: .int x :: S) := by
  obtain ⟨p, e, R, s, m, args, below, meth, c⟩ := E
  exact fun H locs ls cells slots h1 h2 h3 h4 h5 h6 => lv_iand K.1 K.2.1 hd (k H locs ls cells slots h1 h2 h3 h4 h5 h6)
theorem zq_ixor (K : zOK t tb G E) {x y : Int32} (hd : decode (zyc t) pc = .ok (.ixor, 1)) (k : WW E G u Q M b (pc + 1) L (.int (x ^^^ y) :: S)) : WW E G u Q M b pc L (.int y :: .int x :: S) := by
  obtain ⟨p, e, R, s, m, args, below, meth, c⟩ := E
  exact fun H locs ls cells slots h1 h2 h3 h4 h5 h6 => lv_ixor K.1 K.2.1 hd (k H locs ls cells slots h1 h2 h3 h4 h5 h6)
theorem zq_idiv (K : zOK t tb G E) {x y : Int32} (hd : decode (zyc t) pc = .ok (.idiv, 1)) (hne : ¬ y = 0) (k : WW E G u Q M b (pc + 1) L (.int (x / y) :: S)) : WW E G u Q M b pc L (.int y :: .int x :: S) := by
  obtain ⟨p, e, R, s, m, args, below, meth, c⟩ := E
  exact fun H locs ls cells slots h1 h2 h3 h4 h5 h6 => lv_idiv K.1 K.2.1 hd hne (k H locs ls cells slots h1 h2 h3 h4 h5 h6)
theorem zq_irem (K : zOK t tb G E) {x y : Int32} (hd : decode (zyc t) pc = .ok (.irem, 1)) (hne : ¬ y = 0) (k : WW E G u Q M b (pc + 1) L (.int (x - x / y * y) :: S)) : WW E G u Q M b pc L (.int y :: .int x :: S) := by
  obtain ⟨p, e, R, s, m, args, below, meth, c⟩ := E
  exact fun H locs ls cells slots h1 h2 h3 h4 h5 h6 => lv_irem K.1 K.2.1 hd hne (k H locs ls cells slots h1 h2 h3 h4 h5 h6)
theorem zq_i2l (K : zOK t tb G E) {x : Int32} (hd : decode (zyc t) pc = .ok (.i2l, 1)) (k : WW E G u Q M b (pc + 1) L (.long x.toInt64 :: S)) : WW E G u Q M b pc L (.int x :: S) := by
  obtain ⟨p, e, R, s, m, args, below, meth, c⟩ := E
  exact fun H locs ls cells slots h1 h2 h3 h4 h5 h6 => lv_i2l K.1 K.2.1 hd rfl (k H locs ls cells slots h1 h2 h3 h4 h5 h6)
theorem zq_lcmp (K : zOK t tb G E) {x y : Int64} (hd : decode (zyc t) pc = .ok (.lcmp, 1)) (k : WW E G u Q M b (pc + 1) L (.int (lg_cmp x y) :: S)) : WW E G u Q M b pc L (.long y :: .long x :: S) := by
  obtain ⟨p, e, R, s, m, args, below, meth, c⟩ := E
  exact fun H locs ls cells slots h1 h2 h3 h4 h5 h6 => W.lcmp K.1 K.2.1 hd (k H locs ls cells slots h1 h2 h3 h4 h5 h6)
theorem zq_dup (K : zOK t tb G E) {v : Value} (hd : decode (zyc t) pc = .ok (.dup, 1)) (hv : v.category = 1) (k : WW E G u Q M b (pc + 1) L (v :: v :: S)) : WW E G u Q M b pc L (v :: S) := by
  obtain ⟨p, e, R, s, m, args, below, meth, c⟩ := E
  exact fun H locs ls cells slots h1 h2 h3 h4 h5 h6 => lv_dup K.1 K.2.1 hd hv (k H locs ls cells slots h1 h2 h3 h4 h5 h6)
theorem zq_pop (K : zOK t tb G E) {v : Value} (hd : decode (zyc t) pc = .ok (.pop, 1)) (hv : v.category = 1) (k : WW E G u Q M b (pc + 1) L (S)) : WW E G u Q M b pc L (v :: S) := by
  obtain ⟨p, e, R, s, m, args, below, meth, c⟩ := E
  exact fun H locs ls cells slots h1 h2 h3 h4 h5 h6 => lv_pop K.1 K.2.1 hd hv (k H locs ls cells slots h1 h2 h3 h4 h5 h6)
theorem zq_dup2 (K : zOK t tb G E) {v w : Value} (hd : decode (zyc t) pc = .ok (.dup2, 1)) (hv : v.category = 1) (hw : w.category = 1) (k : WW E G u Q M b (pc + 1) L (v :: w :: v :: w :: S)) : WW E G u Q M b pc L (v :: w :: S) := by
  obtain ⟨p, e, R, s, m, args, below, meth, c⟩ := E
  exact fun H locs ls cells slots h1 h2 h3 h4 h5 h6 => lv_dup2_11 K.1 K.2.1 hd hv hw (k H locs ls cells slots h1 h2 h3 h4 h5 h6)
theorem zq_goto (K : zOK t tb G E) {off : Int} (tgt : Nat) (hd : decode (zyc t) pc = .ok (.goto off, 3)) (ht : (pc : Int) + off = (tgt : Int)) (k : WW E G u Q M b tgt L S) : WW E G u Q M b pc L S := by
  obtain ⟨p, e, R, s, m, args, below, meth, c⟩ := E
  exact fun H locs ls cells slots h1 h2 h3 h4 h5 h6 => lv_goto K.1 K.2.1 hd ht (k H locs ls cells slots h1 h2 h3 h4 h5 h6)
theorem zq_if_eq (K : zOK t tb G E) {x : Int32} {off : Int} (tgt : Nat) (hd : decode (zyc t) pc = .ok (.ifCond .eq off, 3)) (ht : (pc : Int) + off = (tgt : Int)) (kt : x = 0 → WW E G u Q M b tgt L S) (kf : ¬ x = 0 → WW E G u Q M b (pc + 3) L S) : WW E G u Q M b pc L (.int x :: S) := by
  obtain ⟨p, e, R, s, m, args, below, meth, c⟩ := E
  exact fun H locs ls cells slots h1 h2 h3 h4 h5 h6 => lv_if_eq K.1 K.2.1 hd ht (fun q => kt q H locs ls cells slots h1 h2 h3 h4 h5 h6) (fun q => kf q H locs ls cells slots h1 h2 h3 h4 h5 h6)
theorem zq_icmp_eq (K : zOK t tb G E) {x y : Int32} {off : Int} (tgt : Nat) (hd : decode (zyc t) pc = .ok (.if_icmp .eq off, 3)) (ht : (pc : Int) + off = (tgt : Int)) (kt : x = y → WW E G u Q M b tgt L S) (kf : ¬ x = y → WW E G u Q M b (pc + 3) L S) : WW E G u Q M b pc L (.int y :: .int x :: S) := by
  obtain ⟨p, e, R, s, m, args, below, meth, c⟩ := E
  exact fun H locs ls cells slots h1 h2 h3 h4 h5 h6 => lv_icmp_eq K.1 K.2.1 hd ht (fun q => kt q H locs ls cells slots h1 h2 h3 h4 h5 h6) (fun q => kf q H locs ls cells slots h1 h2 h3 h4 h5 h6)
theorem zq_if_ne (K : zOK t tb G E) {x : Int32} {off : Int} (tgt : Nat) (hd : decode (zyc t) pc = .ok (.ifCond .ne off, 3)) (ht : (pc : Int) + off = (tgt : Int)) (kt : ¬ x = 0 → WW E G u Q M b tgt L S) (kf : x = 0 → WW E G u Q M b (pc + 3) L S) : WW E G u Q M b pc L (.int x :: S) := by
  obtain ⟨p, e, R, s, m, args, below, meth, c⟩ := E
  exact fun H locs ls cells slots h1 h2 h3 h4 h5 h6 => lv_if_ne K.1 K.2.1 hd ht (fun q => kt q H locs ls cells slots h1 h2 h3 h4 h5 h6) (fun q => kf q H locs ls cells slots h1 h2 h3 h4 h5 h6)
theorem zq_icmp_ne (K : zOK t tb G E) {x y : Int32} {off : Int} (tgt : Nat) (hd : decode (zyc t) pc = .ok (.if_icmp .ne off, 3)) (ht : (pc : Int) + off = (tgt : Int)) (kt : ¬ x = y → WW E G u Q M b tgt L S) (kf : x = y → WW E G u Q M b (pc + 3) L S) : WW E G u Q M b pc L (.int y :: .int x :: S) := by
  obtain ⟨p, e, R, s, m, args, below, meth, c⟩ := E
  exact fun H locs ls cells slots h1 h2 h3 h4 h5 h6 => lv_icmp_ne K.1 K.2.1 hd ht (fun q => kt q H locs ls cells slots h1 h2 h3 h4 h5 h6) (fun q => kf q H locs ls cells slots h1 h2 h3 h4 h5 h6)
theorem zq_if_lt (K : zOK t tb G E) {x : Int32} {off : Int} (tgt : Nat) (hd : decode (zyc t) pc = .ok (.ifCond .lt off, 3)) (ht : (pc : Int) + off = (tgt : Int)) (kt : x < 0 → WW E G u Q M b tgt L S) (kf : ¬ x < 0 → WW E G u Q M b (pc + 3) L S) : WW E G u Q M b pc L (.int x :: S) := by
  obtain ⟨p, e, R, s, m, args, below, meth, c⟩ := E
  exact fun H locs ls cells slots h1 h2 h3 h4 h5 h6 => lv_if_lt K.1 K.2.1 hd ht (fun q => kt q H locs ls cells slots h1 h2 h3 h4 h5 h6) (fun q => kf q H locs ls cells slots h1 h2 h3 h4 h5 h6)
theorem zq_icmp_lt (K : zOK t tb G E) {x y : Int32} {off : Int} (tgt : Nat) (hd : decode (zyc t) pc = .ok (.if_icmp .lt off, 3)) (ht : (pc : Int) + off = (tgt : Int)) (kt : x < y → WW E G u Q M b tgt L S) (kf : ¬ x < y → WW E G u Q M b (pc + 3) L S) : WW E G u Q M b pc L (.int y :: .int x :: S) := by
  obtain ⟨p, e, R, s, m, args, below, meth, c⟩ := E
  exact fun H locs ls cells slots h1 h2 h3 h4 h5 h6 => lv_icmp_lt K.1 K.2.1 hd ht (fun q => kt q H locs ls cells slots h1 h2 h3 h4 h5 h6) (fun q => kf q H locs ls cells slots h1 h2 h3 h4 h5 h6)
theorem zq_if_ge (K : zOK t tb G E) {x : Int32} {off : Int} (tgt : Nat) (hd : decode (zyc t) pc = .ok (.ifCond .ge off, 3)) (ht : (pc : Int) + off = (tgt : Int)) (kt : 0 ≤ x → WW E G u Q M b tgt L S) (kf : ¬ 0 ≤ x → WW E G u Q M b (pc + 3) L S) : WW E G u Q M b pc L (.int x :: S) := by
  obtain ⟨p, e, R, s, m, args, below, meth, c⟩ := E
  exact fun H locs ls cells slots h1 h2 h3 h4 h5 h6 => lv_if_ge K.1 K.2.1 hd ht (fun q => kt q H locs ls cells slots h1 h2 h3 h4 h5 h6) (fun q => kf q H locs ls cells slots h1 h2 h3 h4 h5 h6)
theorem zq_icmp_ge (K : zOK t tb G E) {x y : Int32} {off : Int} (tgt : Nat) (hd : decode (zyc t) pc = .ok (.if_icmp .ge off, 3)) (ht : (pc : Int) + off = (tgt : Int)) (kt : y ≤ x → WW E G u Q M b tgt L S) (kf : ¬ y ≤ x → WW E G u Q M b (pc + 3) L S) : WW E G u Q M b pc L (.int y :: .int x :: S) := by
  obtain ⟨p, e, R, s, m, args, below, meth, c⟩ := E
  exact fun H locs ls cells slots h1 h2 h3 h4 h5 h6 => lv_icmp_ge K.1 K.2.1 hd ht (fun q => kt q H locs ls cells slots h1 h2 h3 h4 h5 h6) (fun q => kf q H locs ls cells slots h1 h2 h3 h4 h5 h6)
theorem zq_if_gt (K : zOK t tb G E) {x : Int32} {off : Int} (tgt : Nat) (hd : decode (zyc t) pc = .ok (.ifCond .gt off, 3)) (ht : (pc : Int) + off = (tgt : Int)) (kt : 0 < x → WW E G u Q M b tgt L S) (kf : ¬ 0 < x → WW E G u Q M b (pc + 3) L S) : WW E G u Q M b pc L (.int x :: S) := by
  obtain ⟨p, e, R, s, m, args, below, meth, c⟩ := E
  exact fun H locs ls cells slots h1 h2 h3 h4 h5 h6 => lv_if_gt K.1 K.2.1 hd ht (fun q => kt q H locs ls cells slots h1 h2 h3 h4 h5 h6) (fun q => kf q H locs ls cells slots h1 h2 h3 h4 h5 h6)
theorem zq_icmp_gt (K : zOK t tb G E) {x y : Int32} {off : Int} (tgt : Nat) (hd : decode (zyc t) pc = .ok (.if_icmp .gt off, 3)) (ht : (pc : Int) + off = (tgt : Int)) (kt : y < x → WW E G u Q M b tgt L S) (kf : ¬ y < x → WW E G u Q M b (pc + 3) L S) : WW E G u Q M b pc L (.int y :: .int x :: S) := by
  obtain ⟨p, e, R, s, m, args, below, meth, c⟩ := E
  exact fun H locs ls cells slots h1 h2 h3 h4 h5 h6 => lv_icmp_gt K.1 K.2.1 hd ht (fun q => kt q H locs ls cells slots h1 h2 h3 h4 h5 h6) (fun q => kf q H locs ls cells slots h1 h2 h3 h4 h5 h6)
theorem zq_if_le (K : zOK t tb G E) {x : Int32} {off : Int} (tgt : Nat) (hd : decode (zyc t) pc = .ok (.ifCond .le off, 3)) (ht : (pc : Int) + off = (tgt : Int)) (kt : x ≤ 0 → WW E G u Q M b tgt L S) (kf : ¬ x ≤ 0 → WW E G u Q M b (pc + 3) L S) : WW E G u Q M b pc L (.int x :: S) := by
  obtain ⟨p, e, R, s, m, args, below, meth, c⟩ := E
  exact fun H locs ls cells slots h1 h2 h3 h4 h5 h6 => lv_if_le K.1 K.2.1 hd ht (fun q => kt q H locs ls cells slots h1 h2 h3 h4 h5 h6) (fun q => kf q H locs ls cells slots h1 h2 h3 h4 h5 h6)
theorem zq_icmp_le (K : zOK t tb G E) {x y : Int32} {off : Int} (tgt : Nat) (hd : decode (zyc t) pc = .ok (.if_icmp .le off, 3)) (ht : (pc : Int) + off = (tgt : Int)) (kt : x ≤ y → WW E G u Q M b tgt L S) (kf : ¬ x ≤ y → WW E G u Q M b (pc + 3) L S) : WW E G u Q M b pc L (.int y :: .int x :: S) := by
  obtain ⟨p, e, R, s, m, args, below, meth, c⟩ := E
  exact fun H locs ls cells slots h1 h2 h3 h4 h5 h6 => lv_icmp_le K.1 K.2.1 hd ht (fun q => kt q H locs ls cells slots h1 h2 h3 h4 h5 h6) (fun q => kf q H locs ls cells slots h1 h2 h3 h4 h5 h6)
theorem zq_acmp_ne (K : zOK t tb G E) {rx ry : Option Nat} {off : Int} (tgt : Nat) (hd : decode (zyc t) pc = .ok (.if_acmp .ne off, 3)) (ht : (pc : Int) + off = (tgt : Int)) (kt : ¬ rx = ry → WW E G u Q M b tgt L S) (kf : rx = ry → WW E G u Q M b (pc + 3) L S) : WW E G u Q M b pc L (va_rf ry :: va_rf rx :: S) := by
  obtain ⟨p, e, R, s, m, args, below, meth, c⟩ := E
  exact fun H locs ls cells slots h1 h2 h3 h4 h5 h6 => lv_acmp_ne K.1 K.2.1 hd ht (fun q => kt q H locs ls cells slots h1 h2 h3 h4 h5 h6) (fun q => kf q H locs ls cells slots h1 h2 h3 h4 h5 h6)
theorem zq_ifnull_r (K : zOK t tb G E) {x : Nat} {off : Int} (hd : decode (zyc t) pc = .ok (.ifnull off, 3)) (k : WW E G u Q M b (pc + 3) L S) : WW E G u Q M b pc L (.ref x :: S) := by
  obtain ⟨p, e, R, s, m, args, below, meth, c⟩ := E
  exact fun H locs ls cells slots h1 h2 h3 h4 h5 h6 => lv_ifnull K.1 K.2.1 hd (k H locs ls cells slots h1 h2 h3 h4 h5 h6)
theorem zq_ifnonnull_r (K : zOK t tb G E) {x : Nat} {off : Int} (tgt : Nat) (hd : decode (zyc t) pc = .ok (.ifnonnull off, 3)) (ht : (pc : Int) + off = (tgt : Int)) (k : WW E G u Q M b tgt L S) : WW E G u Q M b pc L (.ref x :: S) := by
  obtain ⟨p, e, R, s, m, args, below, meth, c⟩ := E
  exact fun H locs ls cells slots h1 h2 h3 h4 h5 h6 => lv_ifnonnull K.1 K.2.1 hd ht (k H locs ls cells slots h1 h2 h3 h4 h5 h6)
theorem zq_ifnull_n (K : zOK t tb G E) {off : Int} (tgt : Nat) (hd : decode (zyc t) pc = .ok (.ifnull off, 3)) (ht : (pc : Int) + off = (tgt : Int)) (k : WW E G u Q M b tgt L S) : WW E G u Q M b pc L (.null :: S) := by
  obtain ⟨p, e, R, s, m, args, below, meth, c⟩ := E
  exact fun H locs ls cells slots h1 h2 h3 h4 h5 h6 => lv_ifnullN K.1 K.2.1 hd ht (k H locs ls cells slots h1 h2 h3 h4 h5 h6)
theorem zq_ifnonnull_n (K : zOK t tb G E) {off : Int} (hd : decode (zyc t) pc = .ok (.ifnonnull off, 3)) (k : WW E G u Q M b (pc + 3) L S) : WW E G u Q M b pc L (.null :: S) := by
  obtain ⟨p, e, R, s, m, args, below, meth, c⟩ := E
  exact fun H locs ls cells slots h1 h2 h3 h4 h5 h6 => lv_ifnonnullN K.1 K.2.1 hd (k H locs ls cells slots h1 h2 h3 h4 h5 h6)
/-! fields -/
def zcl (ci : Nat) (C : String) (T : u_T) (N : Nat) (ty : Nat → FieldType) : Prop := vwCl[ci]? = some (C, T, N) ∧ ci < 4 ∧ zsz ci = N ∧ (∀ w ∈ u_ws C T N, w ∈ zTs) ∧ (∀ k, k < N → parseFieldDescriptor (T k).2.2.1 = some (ty k)) ∧ (∀ a, a < N → ∀ b, b < N → a ≠ b → (T a).2.1 ≠ (T b).2.1) ∧ Cond.instantiable C N ∈ zTs ∧ Cond.initialized C ∈ zTs
theorem zat {M : ZM} {H : Heap} (h : zRel G M H) {a ci : Nat} {C : String} {T : u_T} {N : Nat} {ty : Nat → FieldType} (hC : zcl ci C T N ty) (ha : zk M a = ci + 1) : va_P G.2.1 vwCl [(a, .inr (ci, zfs M a ci N))] H := by
  intro k q hq
  match k, hq with
  | 0, hq =>
    cases hq
    have h1 := (h.2.2 a (by omega)).2
    rw [zE_o ha hC.2.1, hC.2.2.1] at h1
    exact h1
theorem zq_getI (K : zOK t tb G E) {index ci N k : Nat} {C : String} {T : u_T} {ty : Nat → FieldType} (hd : decode (zyc t) pc = .ok (.getfield index, 3)) (hC : zcl ci C T N ty) (hk : k < N) (hw : Cond.fieldLink (zyn t).cls index (T k).1 (T k).2.1 (T k).2.2.1 ∈ zTs) (hi : zfi ci k = true) {a : Nat} (ha : zk M a = ci + 1) (kk : WW E G u Q M b (pc + 3) L (.int (zi M a k) :: S)) : WW E G u Q M b pc L (.ref a :: S) := by
  obtain ⟨p, e, R, s, m, args, below, meth, c⟩ := E
  intro H locs ls cells slots h1 h2 h3 h4 h5 h6
  exact va_get K.1 K.2.1 K.2.2.2.2.2.2.1 hC.2.2.2.1 K.2.2.2.2.1 K.2.2.2.2.2.2.2.1.1 (zat h1 hC ha) 0 rfl hC.1 k hk (K.2.2.2.2.2.2.1 _ hw) (fun _ z => z) (by rw [zfs_get hk, zfv, if_pos hi]) hd (kk H locs ls cells slots h1 h2 h3 h4 h5 h6)
theorem zq_getR (K : zOK t tb G E) {index ci N k : Nat} {C : String} {T : u_T} {ty : Nat → FieldType} (hd : decode (zyc t) pc = .ok (.getfield index, 3)) (hC : zcl ci C T N ty) (hk : k < N) (hw : Cond.fieldLink (zyn t).cls index (T k).1 (T k).2.1 (T k).2.2.1 ∈ zTs) (hi : zfi ci k = false) {a : Nat} (ha : zk M a = ci + 1) {v : Option Nat} (hv : zr M a k = v) (kk : WW E G u Q M b (pc + 3) L (va_rf v :: S)) : WW E G u Q M b pc L (.ref a :: S) := by
  subst hv
  obtain ⟨p, e, R, s, m, args, below, meth, c⟩ := E
  intro H locs ls cells slots h1 h2 h3 h4 h5 h6
  exact va_get K.1 K.2.1 K.2.2.2.2.2.2.1 hC.2.2.2.1 K.2.2.2.2.1 K.2.2.2.2.2.2.2.1.1 (zat h1 hC ha) 0 rfl hC.1 k hk (K.2.2.2.2.2.2.1 _ hw) (fun _ z => z) (by rw [zfs_get hk, zfv, if_neg (by rw [hi]; decide)]) hd (kk H locs ls cells slots h1 h2 h3 h4 h5 h6)
/-- the machine's part of a putfield: one cell is written -/
theorem zputK (K : zOK t tb G E) {index ci N k : Nat} {C : String} {T : u_T} {ty : Nat → FieldType} (hd : decode (zyc t) pc = .ok (.putfield index, 3)) (hC : zcl ci C T N ty) (hk : k < N) (hw : Cond.fieldLink (zyn t).cls index (T k).1 (T k).2.1 (T k).2.2.1 ∈ zTs) (hfin : (T k).2.2.2 = false ∨ ((T k).1 = (zyn t).cls ∧ (zyn t).name = "<init>")) {a : Nat} (ha : zk M a = ci + 1) {v : Value} (hn : narrow (ty k) v = v) (hfit : fits (ty k) v = true) {M' : ZM} (hM : ∀ c0, (∀ b, zk M' b = zk M b) ∧ (∀ b, b ≠ a → zE c0 M' b = zE c0 M b)) (hset : (zfs M a ci N).set k v = zfs M' a ci N) (kk : WW E G u Q M' b (pc + 3) L S) : WW E G u Q M b pc L (v :: .ref a :: S) := by
  obtain ⟨p, e, R, s, m, args, below, meth, c⟩ := E
  intro H locs ls cells slots h1 h2 h3 h4 h5 h6
  have hK := K.2.2.2.2.2.2.2.1.1
  have hts := K.2.2.2.2.2.2.1
  have hown := K.2.2.2.2.1
  have hap := va_apart (own := (zyn t).cls) hts hC.2.2.2.1 ty hC.2.2.2.2.1 hC.2.2.2.2.2.1 hK hC.1
  obtain ⟨r, hr0, cell, q1, q2, q3, q4⟩ := (zat h1 hC ha) 0 _ rfl
  have hr : r = (C, T, N) := Option.some.inj (hr0.symm.trans hC.1)
  subst hr
  obtain ⟨hS, hfc, kC, hkC, hkind⟩ := hK.1 ci _ hC.1
  obtain ⟨cf, kf, fi, f, hi, hsl⟩ := hS k hk
  have hlay := hts _ (hC.2.2.2.1 _ (u_in_lay hk))
  have hst := (u_facts hfc hkC (u_lays hts hC.2.2.2.1 hk) hi).1
  have hl : k < (zfs M a ci N).length := by rw [zfs_len]; exact hk
  have ha0 : zk M a ≠ 0 := by omega
  have fin : ∀ H' : Heap, H'[a]? = some (cell.setSlot f.slot v) → H'.size = H.size → (∀ q, q ≠ a → H'[q]? = H[q]?) → W p G.1 e R s m args below meth c H' (locs ++ [⟨a, f.slot⟩]) cells slots Q (F0 m (pc + 3) ls S) := by
    intro H' e1 e2 e3
    rw [hsl] at e1
    refine kk H' _ ls cells slots (h1.put ha0 e2 e3 (hM G.2.2.1).1 (hM G.2.2.1).2 ?_) (by omega) (fun q hq => ?_) h4 h5 h6
    · rw [zE_o (by rw [(hM G.2.2.1).1]; exact ha) hC.2.1, hC.2.2.1, ← hset]
      exact ⟨_, hC.1, t_OB.to (V := updV (vp_V (zfs M a ci N)) k v) ⟨_, e1, q2, q3, t_set q4 hap hk v⟩ (fun j _ => vp_updV_set hl v j)⟩
    · rcases List.mem_append.mp hq with h | h
      · exact h3 q h
      · rw [List.mem_singleton.mp h]
        exact (h1.2.2 a ha0).1
  by_cases hf : (T k).2.2.2 = false
  · unfold u_lay at hlay
    rw [if_neg (by rw [hf]; decide)] at hlay
    have h6' := u_store hfc hkC hkind hlay hi (hC.2.2.2.2.1 k hk) hn hfit
    exact W.putK K.1 K.2.1 (f := f) ⟨hown, hts _ hw, ⟨_, _, _, hi⟩, hst⟩ (by rw [q2]; exact h6') q1 q3 (by rw [hsl]; exact k2_hasslot (q4 k hk)) rfl rfl hd fin
  · have hf1 : (T k).2.2.2 = true := by cases h9 : (T k).2.2.2 with
      | true => rfl
      | false => exact absurd h9 hf
    obtain ⟨hdecl, hnm⟩ := hfin.resolve_left hf
    unfold u_lay at hlay
    rw [if_pos hf1] at hlay
    have hcf : m.cls = cf := by
      obtain ⟨_, _, c', _, _, _, -, -, hf', -, -, -, hown2, -⟩ := Cond.laysFinal_spec hlay
      have e1 : c' = cf := by have := hi.symm.trans hf'; simp at this; exact this.1.symm
      rw [hdecl] at hown2
      rw [← e1]; exact Option.some.inj (hown.symm.trans hown2)
    have h6' := u_fits hfc hkC hkind (Or.inr hlay) hi (hC.2.2.2.2.1 k hk) hn hfit
    exact W.putFinK K.1 K.2.1 hown (hts _ hw) hi hst hcf (K.2.2.2.2.2.2.2.2.2.2.1.trans hnm) (by rw [q2]; exact h6') q1 q3 (by rw [hsl]; exact k2_hasslot (q4 k hk)) rfl rfl hd fin
theorem zE_i {c : Nat → ClassId} {a k b : Nat} {v : Int32} (e : b ≠ a) : zE c (zsi M a k v) b = zE c M b := by
  have h3 : zi (zsi M a k v) b = zi M b := funext fun j => by rw [zi_i, if_neg (fun q => e q.1)]
  unfold zE zct zfs zfv
  rw [h3]
  rfl
theorem zE_r {c : Nat → ClassId} {a k b : Nat} {v : Option Nat} (e : b ≠ a) : zE c (zsr M a k v) b = zE c M b := by
  have h3 : zr (zsr M a k v) b = zr M b := funext fun j => by rw [zr_r, if_neg (fun q => e q.1)]
  unfold zE zct zfs zfv
  rw [h3]
  rfl
theorem zE_j {c : Nat → ClassId} {a k b : Nat} {v : Int64} (e : b ≠ a) : zE c (zsj M a k v) b = zE c M b := by
  have h3 : zj (zsj M a k v) b = zj M b := funext fun j => by rw [zj_j, if_neg (fun q => e q.1)]
  unfold zE zct zfs zfv
  rw [h3]
  rfl
theorem zq_putI (K : zOK t tb G E) {index ci N k : Nat} {C : String} {T : u_T} {ty : Nat → FieldType} (hd : decode (zyc t) pc = .ok (.putfield index, 3)) (hC : zcl ci C T N ty) (hk : k < N) (hw : Cond.fieldLink (zyn t).cls index (T k).1 (T k).2.1 (T k).2.2.1 ∈ zTs) (hfin : (T k).2.2.2 = false ∨ ((T k).1 = (zyn t).cls ∧ (zyn t).name = "<init>")) (hty : ty k = .int) (hi : zfi ci k = true) {a : Nat} {x : Int32} (ha : zk M a = ci + 1) (kk : WW E G u Q (zsi M a k x) b (pc + 3) L S) : WW E G u Q M b pc L (.int x :: .ref a :: S) :=
  zputK (M' := zsi M a k x) K hd hC hk hw hfin ha (by rw [hty]; rfl) (by rw [hty]; rfl) (fun _ => ⟨fun _ => rfl, fun _ e => zE_i e⟩) (zfs_set (by rw [zfv, if_pos hi, zi_i, if_pos ⟨rfl, rfl⟩]) (fun j hj => by unfold zfv; rw [show zi (zsi M a k x) a j = zi M a j from by rw [zi_i, if_neg (fun q => hj q.2)]]; rfl)) kk
theorem zq_putR (K : zOK t tb G E) {index ci N k : Nat} {C : String} {T : u_T} {ty : Nat → FieldType} (hd : decode (zyc t) pc = .ok (.putfield index, 3)) (hC : zcl ci C T N ty) (hk : k < N) (hw : Cond.fieldLink (zyn t).cls index (T k).1 (T k).2.1 (T k).2.2.1 ∈ zTs) (hfin : (T k).2.2.2 = false ∨ ((T k).1 = (zyn t).cls ∧ (zyn t).name = "<init>")) (hty : ∀ r : Option Nat, narrow (ty k) (va_rf r) = va_rf r ∧ fits (ty k) (va_rf r) = true) (hi : zfi ci k = false) {a : Nat} {r : Option Nat} (ha : zk M a = ci + 1) (kk : WW E G u Q (zsr M a k r) b (pc + 3) L S) : WW E G u Q M b pc L (va_rf r :: .ref a :: S) :=
  zputK (M' := zsr M a k r) K hd hC hk hw hfin ha (hty r).1 (hty r).2 (fun _ => ⟨fun _ => rfl, fun _ e => zE_r e⟩) (zfs_set (by rw [zfv, if_neg (by rw [hi]; decide), zr_r, if_pos ⟨rfl, rfl⟩]) (fun j hj => by unfold zfv; rw [show zr (zsr M a k r) a j = zr M a j from by rw [zr_r, if_neg (fun q => hj q.2)]]; rfl)) kk
/-! arrays -/
theorem zarr {M : ZM} {H : Heap} (h : zRel G M H) {a k : Nat} (ha : zk M a = k) (hk : 5 ≤ k) : H[a]? = some (vp_cell (G.2.2.1 (k - 5)) (zct M a k)) := by
  have h1 := (h.2.2 a (by omega)).2
  rw [zE_a ha hk] at h1
  exact h1
theorem zct_i {a k : Nat} (hk : k = 5 ∨ k = 6) (c : ClassId) : vp_cell c (zct M a k) = arrV c (zn M a) (fun j => .int (zi M a j)) := by
  unfold zct
  rw [if_pos hk]
  rfl
theorem zct_j {a : Nat} (c : ClassId) : vp_cell c (zct M a 7) = arrV c (zn M a) (fun j => .long (zj M a j)) := by
  unfold zct
  rw [if_neg (by omega), if_pos rfl]
  rfl
theorem zct_r {a k : Nat} (hk : 8 ≤ k) (c : ClassId) : vp_cell c (zct M a k) = arrV c (zn M a) (fun j => va_rf (zr M a j)) := by
  unfold zct
  rw [if_neg (by omega), if_neg (by omega)]
  rfl
theorem zq_alen (K : zOK t tb G E) {a k : Nat} (hd : decode (zyc t) pc = .ok (.arraylength, 1)) (ha : zk M a = k) (hk : 5 ≤ k ∧ k ≤ 10) (kk : WW E G u Q M b (pc + 1) L (.int (nI (zn M a)) :: S)) : WW E G u Q M b pc L (.ref a :: S) := by
  obtain ⟨p, e, R, s, m, args, below, meth, c⟩ := E
  intro H locs ls cells slots h1 h2 h3 h4 h5 h6
  have hT := K.2.2.2.2.2.2.2.1.1.2
  have hc := zarr h1 ha hk.1
  have z : ∃ f : Nat → Value, vp_cell (G.2.2.1 (k - 5)) (zct M a k) = arrV (G.2.2.1 (k - 5)) (zn M a) f := by
    by_cases q : k = 5 ∨ k = 6
    · exact ⟨_, zct_i q _⟩
    · by_cases q7 : k = 7
      · subst q7; exact ⟨_, zct_j _⟩
      · exact ⟨_, zct_r (by omega) _⟩
  obtain ⟨f, hf⟩ := z
  rw [hf] at hc
  have hty : ∃ ty, (zTy G.2.2.1)[k - 5]? = some (G.2.2.1 (k - 5), ty) := by
    obtain ⟨q1, q2⟩ := hk
    match k, q1, q2 with
    | 5, _, _ => exact ⟨_, rfl⟩
    | 6, _, _ => exact ⟨_, rfl⟩
    | 7, _, _ => exact ⟨_, rfl⟩
    | 8, _, _ => exact ⟨_, rfl⟩
    | 9, _, _ => exact ⟨_, rfl⟩
    | 10, _, _ => exact ⟨_, rfl⟩
  obtain ⟨ty, hty⟩ := hty
  exact W.alen (n := nI (zn M a)) K.1 K.2.1 hc ((hT _ _ hty).1 _ _) (by rw [arrV_size]; rfl) rfl rfl hd (kk H locs ls cells slots h1 h2 h3 h4 h5 h6)
theorem zq_iald (K : zOK t tb G E) {a : Nat} {i : Int32} (j : Nat) (hd : decode (zyc t) pc = .ok (.iaload, 1)) (ha : zk M a = 5) (hi : i = nI j) (hj : j < zn M a) (hn : zn M a < 2 ^ 31) (kk : WW E G u Q M b (pc + 1) L (.int (zi M a j) :: S)) : WW E G u Q M b pc L (.int i :: .ref a :: S) := by
  subst hi
  obtain ⟨p, e, R, s, m, args, below, meth, c⟩ := E
  intro H locs ls cells slots h1 h2 h3 h4 h5 h6
  have hT := K.2.2.2.2.2.2.2.1.1.2
  have hc := zarr h1 ha (by omega)
  rw [zct_i (Or.inl rfl)] at hc
  have e1 : (nI j).toNatClampNeg = j := nI_clamp (by omega)
  exact W.iald (v := .int (zi M a j)) K.1 K.2.1 hc ((hT 0 _ rfl).1 _ _) (fun q => by cases q) (by rw [arrV_size]; exact vp_in_nI hj hn) (by rw [e1, arrV_read _ _ hj]) rfl rfl hd (kk H locs ls cells slots h1 h2 h3 h4 h5 h6)
theorem zq_zald (K : zOK t tb G E) {a : Nat} {i : Int32} (j : Nat) (hd : decode (zyc t) pc = .ok (.baload, 1)) (ha : zk M a = 6) (hi : i = nI j) (hj : j < zn M a) (hn : zn M a < 2 ^ 31) (kk : WW E G u Q M b (pc + 1) L (.int (zi M a j) :: S)) : WW E G u Q M b pc L (.int i :: .ref a :: S) := by
  subst hi
  obtain ⟨p, e, R, s, m, args, below, meth, c⟩ := E
  intro H locs ls cells slots h1 h2 h3 h4 h5 h6
  have hT := K.2.2.2.2.2.2.2.1.1.2
  have hc := zarr h1 ha (by omega)
  rw [zct_i (Or.inr rfl)] at hc
  have e1 : (nI j).toNatClampNeg = j := nI_clamp (by omega)
  exact W.zald (v := .int (zi M a j)) K.1 K.2.1 hc ((hT 1 _ rfl).1 _ _) (fun q => by cases q) (by rw [arrV_size]; exact vp_in_nI hj hn) (by rw [e1, arrV_read _ _ hj]) rfl rfl hd (kk H locs ls cells slots h1 h2 h3 h4 h5 h6)
theorem zq_lald (K : zOK t tb G E) {a : Nat} {i : Int32} (j : Nat) (hd : decode (zyc t) pc = .ok (.laload, 1)) (ha : zk M a = 7) (hi : i = nI j) (hj : j < zn M a) (hn : zn M a < 2 ^ 31) (kk : WW E G u Q M b (pc + 1) L (.long (zj M a j) :: S)) : WW E G u Q M b pc L (.int i :: .ref a :: S) := by
  subst hi
  obtain ⟨p, e, R, s, m, args, below, meth, c⟩ := E
  intro H locs ls cells slots h1 h2 h3 h4 h5 h6
  have hT := K.2.2.2.2.2.2.2.1.1.2
  have hc := zarr h1 ha (by omega)
  rw [zct_j] at hc
  have e1 : (nI j).toNatClampNeg = j := nI_clamp (by omega)
  exact W.lald (v := .long (zj M a j)) K.1 K.2.1 hc ((hT 2 _ rfl).1 _ _) (fun q => by cases q) (by rw [arrV_size]; exact vp_in_nI hj hn) (by rw [e1, arrV_read _ _ hj]) rfl rfl hd (kk H locs ls cells slots h1 h2 h3 h4 h5 h6)
theorem zq_aald (K : zOK t tb G E) {a k : Nat} {i : Int32} (j : Nat) {v : Option Nat} (hd : decode (zyc t) pc = .ok (.aaload, 1)) (ha : zk M a = k) (hk : 8 ≤ k ∧ k ≤ 10) (hi : i = nI j) (hj : j < zn M a) (hn : zn M a < 2 ^ 31) (hv : zr M a j = v) (kk : WW E G u Q M b (pc + 1) L (va_rf v :: S)) : WW E G u Q M b pc L (.int i :: .ref a :: S) := by
  subst hi; subst hv
  obtain ⟨p, e, R, s, m, args, below, meth, c⟩ := E
  intro H locs ls cells slots h1 h2 h3 h4 h5 h6
  have hT := K.2.2.2.2.2.2.2.1.1.2
  have hc := zarr h1 ha (by omega)
  rw [zct_r hk.1] at hc
  have e1 : (nI j).toNatClampNeg = j := nI_clamp (by omega)
  have hty : ∃ ty : FieldType, ty.isReference = true ∧ (zTy G.2.2.1)[k - 5]? = some (G.2.2.1 (k - 5), ty) := by
    obtain ⟨q1, q2⟩ := hk
    match k, q1, q2 with
    | 8, _, _ => exact ⟨_, by rfl, rfl⟩
    | 9, _, _ => exact ⟨_, by rfl, rfl⟩
    | 10, _, _ => exact ⟨_, by rfl, rfl⟩
  obtain ⟨ty, hr, hty⟩ := hty
  exact W.aald (v := va_rf (zr M a j)) (ty := ty) K.1 K.2.1 hc ((hT _ _ hty).1 _ _) hr (fun q => by cases q) (by rw [arrV_size]; exact vp_in_nI hj hn) (by rw [e1, arrV_read _ _ hj]) rfl rfl hd (kk H locs ls cells slots h1 h2 h3 h4 h5 h6)
theorem zq_iast (K : zOK t tb G E) {a : Nat} {i x : Int32} (j : Nat) (hd : decode (zyc t) pc = .ok (.iastore, 1)) (ha : zk M a = 5) (hi : i = nI j) (hj : j < zn M a) (hn : zn M a < 2 ^ 31) (kk : WW E G u Q (zsi M a j x) b (pc + 1) L S) : WW E G u Q M b pc L (.int x :: .int i :: .ref a :: S) := by
  subst hi
  obtain ⟨p, e, R, s, m, args, below, meth, c⟩ := E
  intro H locs ls cells slots h1 h2 h3 h4 h5 h6
  have hT := K.2.2.2.2.2.2.2.1.1.2
  have hc := zarr h1 ha (by omega)
  rw [zct_i (Or.inl rfl)] at hc
  have e1 : (nI j).toNatClampNeg = j := nI_clamp (by omega)
  refine W.iast K.1 K.2.1 hc ((hT 0 _ rfl).1 _ _) (fun q => by cases q) (by rw [arrV_size]; exact vp_in_nI hj hn) rfl rfl hd fun H1 g1 g2 g3 => ?_
  refine kk H1 _ ls cells slots (h1.put (by omega) g2 g3 (fun _ => rfl) (fun _ e => zE_i e) ?_) (by omega) (fun q hq => ?_) h4 h5 h6
  · rw [zE_a (M := zsi M a j x) (k := 5) ha (by omega)]
    show H1[a]? = some (vp_cell _ _)
    rw [g1, zct_i (Or.inl rfl), arrV_store, e1]
    congr 2
    funext q
    by_cases hq : q = j
    · subst hq
      simp [updV, zi_i]
    · simp [updV, zi_i, hq]
  · rcases List.mem_append.mp hq with h | h
    · exact h3 q h
    · rw [List.mem_singleton.mp h]
      exact (h1.2.2 a (by omega)).1
theorem zq_zast (K : zOK t tb G E) {a : Nat} {i x : Int32} (j : Nat) (hd : decode (zyc t) pc = .ok (.bastore, 1)) (ha : zk M a = 6) (hi : i = nI j) (hj : j < zn M a) (hn : zn M a < 2 ^ 31) (hx : narrow .boolean (.int x) = .int x) (kk : WW E G u Q (zsi M a j x) b (pc + 1) L S) : WW E G u Q M b pc L (.int x :: .int i :: .ref a :: S) := by
  subst hi
  obtain ⟨p, e, R, s, m, args, below, meth, c⟩ := E
  intro H locs ls cells slots h1 h2 h3 h4 h5 h6
  have hT := K.2.2.2.2.2.2.2.1.1.2
  have hc := zarr h1 ha (by omega)
  rw [zct_i (Or.inr rfl)] at hc
  have e1 : (nI j).toNatClampNeg = j := nI_clamp (by omega)
  refine W.zast K.1 K.2.1 hc ((hT 1 _ rfl).1 _ _) (fun q => by cases q) (by rw [arrV_size]; exact vp_in_nI hj hn) rfl rfl hd fun H1 g1 g2 g3 => ?_
  refine kk H1 _ ls cells slots (h1.put (by omega) g2 g3 (fun _ => rfl) (fun _ e => zE_i e) ?_) (by omega) (fun q hq => ?_) h4 h5 h6
  · rw [zE_a (M := zsi M a j x) (k := 6) ha (by omega)]
    show H1[a]? = some (vp_cell _ _)
    rw [g1, zct_i (Or.inr rfl), arrV_store, e1, hx]
    congr 2
    funext q
    by_cases hq : q = j
    · subst hq
      simp [updV, zi_i]
    · simp [updV, zi_i, hq]
  · rcases List.mem_append.mp hq with h | h
    · exact h3 q h
    · rw [List.mem_singleton.mp h]
      exact (h1.2.2 a (by omega)).1
theorem zq_last (K : zOK t tb G E) {a : Nat} {i : Int32} {x : Int64} (j : Nat) (hd : decode (zyc t) pc = .ok (.lastore, 1)) (ha : zk M a = 7) (hi : i = nI j) (hj : j < zn M a) (hn : zn M a < 2 ^ 31) (kk : WW E G u Q (zsj M a j x) b (pc + 1) L S) : WW E G u Q M b pc L (.long x :: .int i :: .ref a :: S) := by
  subst hi
  obtain ⟨p, e, R, s, m, args, below, meth, c⟩ := E
  intro H locs ls cells slots h1 h2 h3 h4 h5 h6
  have hT := K.2.2.2.2.2.2.2.1.1.2
  have hc := zarr h1 ha (by omega)
  rw [zct_j] at hc
  have e1 : (nI j).toNatClampNeg = j := nI_clamp (by omega)
  refine W.last K.1 K.2.1 hc ((hT 2 _ rfl).1 _ _) (fun q => by cases q) (by rw [arrV_size]; exact vp_in_nI hj hn) rfl rfl hd fun H1 g1 g2 g3 => ?_
  refine kk H1 _ ls cells slots (h1.put (by omega) g2 g3 (fun _ => rfl) (fun _ e => zE_j e) ?_) (by omega) (fun q hq => ?_) h4 h5 h6
  · rw [zE_a (M := zsj M a j x) (k := 7) ha (by omega)]
    show H1[a]? = some (vp_cell _ _)
    rw [g1, zct_j, arrV_store, e1]
    congr 2
    funext q
    by_cases hq : q = j
    · subst hq
      simp [updV, zj_j]
    · simp [updV, zj_j, hq]
  · rcases List.mem_append.mp hq with h | h
    · exact h3 q h
    · rw [List.mem_singleton.mp h]
      exact (h1.2.2 a (by omega)).1
/-- the reference y of class ci goes into an array of kind k -/
theorem zq_aast (K : zOK t tb G E) {a k y ci N : Nat} {C : String} {T : u_T} {ty : Nat → FieldType} {i : Int32} (j : Nat) (hd : decode (zyc t) pc = .ok (.aastore, 1)) (hC : zcl ci C T N ty) (ha : zk M a = k) (hk : (zTy G.2.2.1)[k - 5]? = some (G.2.2.1 (k - 5), .object C) ∧ 8 ≤ k) (hy : zk M y = ci + 1) (hi : i = nI j) (hj : j < zn M a) (hn : zn M a < 2 ^ 31) (kk : WW E G u Q (zsr M a j (some y)) b (pc + 1) L S) : WW E G u Q M b pc L (.ref y :: .int i :: .ref a :: S) := by
  subst hi
  obtain ⟨p, e, R, s, m, args, below, meth, c⟩ := E
  intro H locs ls cells slots h1 h2 h3 h4 h5 h6
  have hK := K.2.2.2.2.2.2.2.1.1
  have hc := zarr h1 ha (by omega)
  rw [zct_r hk.2] at hc
  have e1 : (nI j).toNatClampNeg = j := nI_clamp (by omega)
  obtain ⟨r', hr', cellV, v1, v2, v3, -⟩ := (zat h1 hC hy) 0 _ rfl
  have hcls := (hK.1 ci _ hC.1).2
  obtain ⟨kA, comp, k1, k2, k3, -⟩ := (hK.2 _ _ hk.1).2
  have hcomp : comp = G.2.1.1 ci := Option.some.inj (k3.symm.trans hcls.1)
  subst hcomp
  obtain ⟨kC, hkC, -⟩ := hcls.2
  refine W.aast K.1 K.2.1 hc (fun q h => by cases h) (fun h => by cases h) k1 k2 rfl hkC ⟨nI_pos (by omega), by rw [arrV_size, e1]; exact hj⟩ v1 (fun q h => by rw [v3] at h; cases h) (by rw [v2]; exact hkC) (by rw [v2]; exact va_assign hcls) rfl rfl hd fun H1 g1 g2 g3 => ?_
  refine kk H1 _ ls cells slots (h1.put (by omega) g2 g3 (fun _ => rfl) (fun _ e => zE_r e) ?_) (by omega) (fun q hq => ?_) h4 h5 h6
  · rw [zE_a (M := zsr M a j (some y)) (k := k) ha (by omega)]
    show H1[a]? = some (vp_cell _ _)
    rw [g1, zct_r hk.2, arrV_store, e1]
    congr 2
    funext q
    by_cases hq : q = j
    · subst hq
      simp [updV, zr_r, va_rf]
    · simp [updV, zr_r, hq]
  · rcases List.mem_append.mp hq with h | h
    · exact h3 q h
    · rw [List.mem_singleton.mp h]
      exact (h1.2.2 a (by omega)).1
/-- null goes into an array of directories -/
theorem zq_aastN (K : zOK t tb G E) {a k : Nat} {C : String} {i : Int32} (j : Nat) (hd : decode (zyc t) pc = .ok (.aastore, 1)) (ha : zk M a = k) (hk : (zTy G.2.2.1)[k - 5]? = some (G.2.2.1 (k - 5), .object C) ∧ 8 ≤ k) (hi : i = nI j) (hj : j < zn M a) (hn : zn M a < 2 ^ 31) (kk : WW E G u Q (zsr M a j none) b (pc + 1) L S) : WW E G u Q M b pc L (.null :: .int i :: .ref a :: S) := by
  subst hi
  obtain ⟨p, e, R, s, m, args, below, meth, c⟩ := E
  intro H locs ls cells slots h1 h2 h3 h4 h5 h6
  have hK := K.2.2.2.2.2.2.2.1.1
  have hc := zarr h1 ha (by omega)
  rw [zct_r hk.2] at hc
  have e1 : (nI j).toNatClampNeg = j := nI_clamp (by omega)
  refine va_WaastN (C := C) K.1 K.2.1 hc ((hK.2 _ _ hk.1).1 _ _) (fun h => by cases h) (by rw [arrV_size]; exact vp_in_nI hj hn) rfl rfl hd fun H1 g1 g2 g3 => ?_
  refine kk H1 _ ls cells slots (h1.put (by omega) g2 g3 (fun _ => rfl) (fun _ e => zE_r e) ?_) (by omega) (fun q hq => ?_) h4 h5 h6
  · rw [zE_a (M := zsr M a j none) (k := k) ha (by omega)]
    show H1[a]? = some (vp_cell _ _)
    rw [g1, zct_r hk.2, arrV_store, e1]
    congr 2
    funext q
    by_cases hq : q = j
    · subst hq
      simp [updV, zr_r, va_rf]
    · simp [updV, zr_r, hq]
  · rcases List.mem_append.mp hq with h | h
    · exact h3 q h
    · rw [List.mem_singleton.mp h]
      exact (h1.2.2 a (by omega)).1
end ZROW
end
section
/-! ===== BEGIN a constructor that throws (launches without stack traces) ===== -/
section VXIA
variable {p : Program} {l : Launch} {e : Env} {R : Room} {s : State} {m : MethodId} {args : Array Value} {below : List Frame} {meth : Method} {c : Code} {T : State} {locs : List Loc} {cells slots : Nat}
theorem vx_callI (X : Stand p l e R s m args below meth c T locs cells slots) (hexec : p.tables.exec = Jvm.exec) {own : String} {index : Nat} {y : MethodName} {bytes : ByteArray} {maxL : Nat}
    (hown : s.vm.findClass own = some m.cls) (hy1 : y.name = "<init>") (hlink : (Cond.methodLink own index y).before args s = true) (hinst : (Cond.instanceMethod y).before args s = true)
    (hcode : (Cond.code y bytes maxL none).before args s = true) (hy : y.cls ≠ "java/lang/invoke/MethodHandle" ∧ y.cls ≠ "java/lang/invoke/VarHandle")
    {W9 : Nat} {Pre : Pt → Array Value → Prop} {Post : Pt → Array Value → Option Value → Pt → Prop} {PostX : Pt → Array Value → Addr → Pt → Prop} (hK : vx_Back l R p e below s args y 3 W9 Pre Post PostX)
    {g : JFrame} (hg : g.method = m) (hsize : g.locals.size = c.maxLocals) {a : Addr} {argsL rest : List Value} (hlen : ∀ sig, parseMethodDescriptor y.desc = some sig → argsL.length = sig.parameters.length)
    (hstack : g.stack = argsL.reverse ++ .ref a :: rest) (hW : 2 * g.monitorRoom + (rest.map fun v => v.category).sum ≤ W9) (hdg : decode c.code g.pc = .ok (.invokespecial index, 3))
    (hpre : ∀ vm₁, s.WarmedH vm₁ → Pre ⟨T.setVm vm₁, locs, cells, slots⟩ (Value.ref a :: argsL).toArray) :
    (∃ (v : Option Value) (vm₁ : Vm) (B : Pt), s.WarmedH vm₁ ∧ Stand p l e R s m args below meth c B.U B.locs B.cells B.slots ∧ Post ⟨T.setVm vm₁, locs, cells, slots⟩ (Value.ref a :: argsL).toArray v B ∧
      ∀ target, Steps p.tables e below (B.U.setTop { g with pc := g.pc + 3, stack := v.toList ++ rest }) target → Steps p.tables e below (T.setTop g) target) ∨
    (∃ (q : Addr) (vm₁ : Vm) (B : Pt), s.WarmedH vm₁ ∧ Stand p l e R s m args below meth c B.U B.locs B.cells B.slots ∧ PostX ⟨T.setVm vm₁, locs, cells, slots⟩ (Value.ref a :: argsL).toArray q B ∧
      Steps p.tables e below (T.setTop g) ((B.U.setTop { g with stack := rest }).pushFrame (.throwing q))) := by
  subst hg
  have hpl : e.platform.magicAccessors = ({} : Platform).magicAccessors := by rw [X.admits.platform]
  obtain ⟨mk, methM, cM, kP, vm₁, hnamed, hmethM, hcodeM, -, hlocalsM, -, hkP, -, hW₁, hstep₁⟩ := Steps.initColdArgs (e := e) X.here hexec X.warmed hpl hown hy1 hy hlink hinst hcode (f := g) rfl hlen hstack hdg
  have X₁ := X.noted hW₁
  rcases hK g.method meth c ⟨T.setVm vm₁, locs, cells, slots⟩ { g with stack := rest } (.invokespecial index) mk (Value.ref a :: argsL).toArray X₁ rfl hsize hdg hW (X₁.named hnamed) (hpre vm₁ X₁.warmed) with ⟨v, B, X', hpost, hsteps⟩ | ⟨q, B, X', hpost, hsteps⟩
  · exact Or.inl ⟨v, vm₁, B, X₁.warmed, X', hpost, fun target h => hstep₁ _ fun acts => by rw [doInvoke_state]; exact hsteps.trans h⟩
  · exact Or.inr ⟨q, vm₁, B, X₁.warmed, X', hpost, hstep₁ _ fun acts => by rw [doInvoke_state]; exact hsteps⟩
end VXIA
section VXIB
variable {p : Program} {l : Launch} {e : Env} {R : Room} {s : State} {m : MethodId} {args : Array Value} {below : List Frame} {meth : Method} {c : Code} {H : Heap} {locs : List Loc} {cells slots : Nat}
variable {y : MethodName} {bytes cc : ByteArray} {maxL nL mc ms n index : Nat} {ret : Option FieldType} {ws : List Cond} {rm : Room} {Pc : Array Value → State → Prop} {Qc : Array Value → State → Outcome → State → Prop} {XC : String → State → State → Prop} {free : Addr → Prop} {Ts : List Cond} {own C : String} {b : Addr} {As rest : List Value} {g : JFrame}
theorem vx_runI (S : CallFix p m c cc nL s args Ts own) (hM : vx_Met l y ws rm Pc Qc XC mc ms free) (cw : CallB R s args own index y bytes maxL none ws rm mc ms n ∧ y.name = "<init>" ∧ (Cond.instanceMethod y).before args s = true) (hp : PreS s H Pc (.ref b :: As))
    (hg : g.method = m) (hn : As.length = n) (hsize : g.locals.size = nL) (hstack : g.stack = As.reverse ++ .ref b :: rest) (hW : 2 * g.monitorRoom + (rest.map fun v => v.category).sum ≤ 8) (hdg : decode cc g.pc = .ok (.invokespecial index, 3)) (hf : cells + mc ≤ R.cells ∧ slots + ms ≤ R.slots) :
    vx_Run p l e R s m args below meth c H locs cells slots mc ms g rest (Qc (Value.ref b :: As).toArray) XC free := by
  have hK : vx_Back l R p e below s args y 3 8 (PreOf R mc ms Pc) (PostOf Qc mc ms free) (vx_Post XC mc ms free) := vx_callBack cw.1 hM hp.1
  obtain ⟨⟨-, -, -, -, -, -, hcode, -, hy, hlen, hl⟩, hy1, hin⟩ := cw
  obtain ⟨hx, hb, hml, ho, -⟩ := S
  have hPc := hp.2
  intro T hT X
  rcases vx_callI X hx (bytes := bytes) (maxL := maxL) ho hy1 hl hin hcode hy hK hg (hsize.trans hml.symm) (a := b) (argsL := As) (rest := rest) (fun sig h => hn.trans (hlen sig h)) hstack hW (by rw [hb]; exact hdg)
    (fun vm₁ hW₁ => ⟨hf.1, hf.2, hPc (T.setVm vm₁) hT hW₁⟩) with ⟨v, vm₁, ⟨U', l2, c2, s2⟩, hW₁, X', ⟨g', mk, t, L, e1, e2, hq, h1, hL, h2, h3⟩, st⟩ | ⟨q, vm₁, ⟨U', l2, c2, s2⟩, hW₁, X', ⟨g', mk, t, L, E, ce, e1, e2, hq, hce, hcv, hcl, h1, hL, h2, h3⟩, st⟩
  · dsimp only [Pt.U, Pt.locs, Pt.cells, Pt.slots] at X' e1 e2 h1 h2 h3 st
    subst h1; subst h2; subst h3
    exact Or.inl ⟨v, (T.setVm vm₁).calling g' mk (Value.ref b :: As).toArray, t, U', L, hT, X', hL, e1, e2, hq, st⟩
  · dsimp only [Pt.U, Pt.locs, Pt.cells, Pt.slots] at X' e1 e2 h1 h2 h3 st hcl
    subst h1; subst h2; subst h3
    exact Or.inr ⟨q, (T.setVm vm₁).calling g' mk (Value.ref b :: As).toArray, t, U', L, E, ce, hT, X', hL, e1, e2, hq, hce, hcv, vx_cls hW₁ hcl, st⟩
end VXIB
/-! ===== END ===== -/
section ZROW2
variable {t : ZY} {tb : List ExceptionTableEntry} {E : ZE} {G : ZG} {u : Nat} {Q : State → Prop} {M : ZM} {b pc : Nat} {L : List (Option Value)} {S : List Value} {P P' : ZO → ZM → Prop}
/-! ends -/
theorem zq_iret (K : zOK t tb G E) {v : Int32} (hd : decode (zyc t) pc = .ok (.ireturn, 1)) (hr : zyr t = some .int) (h : P (.inl (some (.int v))) M) : WW E G (zyu t) (zQ E G t P) M b pc L [.int v] := by
  obtain ⟨p, e, R, s, m, args, below, meth, c⟩ := E
  intro H locs ls cells slots h1 h2 h3 h4 h5 h6
  refine W.widen (k := zyu t) (n := 64 * zyu t) (by omega) (by omega) ?_
  exact vx_ret (W.iret K.1 K.2.1 (K.2.2.1.trans hr) (fun z hz _ => ⟨_, M, rfl, h, by rw [hz]; exact h1, by rw [hz]; exact h2⟩) h3 hd K.2.2.2.2.2.1)
theorem zq_zret (K : zOK t tb G E) {v : Int32} (hd : decode (zyc t) pc = .ok (.ireturn, 1)) (hr : zyr t = some .boolean) (hv : narrow .boolean (.int v) = .int v) (h : P (.inl (some (.int v))) M) : WW E G (zyu t) (zQ E G t P) M b pc L [.int v] := by
  obtain ⟨p, e, R, s, m, args, below, meth, c⟩ := E
  intro H locs ls cells slots h1 h2 h3 h4 h5 h6
  refine W.widen (k := zyu t) (n := 64 * zyu t) (by omega) (by omega) ?_
  exact vx_ret (W.zret K.1 K.2.1 (K.2.2.1.trans hr) hv (fun z hz _ => ⟨_, M, rfl, h, by rw [hz]; exact h1, by rw [hz]; exact h2⟩) h3 hd K.2.2.2.2.2.1)
theorem zq_aret (K : zOK t tb G E) {v : Value} {C : String} (hd : decode (zyc t) pc = .ok (.areturn, 1)) (hr : zyr t = some (.object C)) (hv : v = .null ∨ ∃ a, v = .ref a) (h : P (.inl (some v)) M) : WW E G (zyu t) (zQ E G t P) M b pc L [v] := by
  obtain ⟨p, e, R, s, m, args, below, meth, c⟩ := E
  intro H locs ls cells slots h1 h2 h3 h4 h5 h6
  refine W.widen (k := zyu t) (n := 64 * zyu t) (by omega) (by omega) ?_
  exact vx_ret (W.aret K.1 K.2.1 (K.2.2.1.trans hr) (Or.inl ⟨C, rfl⟩) hv (fun z hz _ => ⟨_, M, rfl, h, by rw [hz]; exact h1, by rw [hz]; exact h2⟩) h3 hd K.2.2.2.2.2.1)
theorem zq_ret (K : zOK t tb G E) (hd : decode (zyc t) pc = .ok (.return_, 1)) (hr : zyr t = none) (h : P (.inl none) M) : WW E G (zyu t) (zQ E G t P) M b pc L [] := by
  obtain ⟨p, e, R, s, m, args, below, meth, c⟩ := E
  intro H locs ls cells slots h1 h2 h3 h4 h5 h6
  refine W.widen (k := zyu t) (n := 64 * zyu t) (by omega) (by omega) ?_
  exact vx_ret (W.vret K.1 K.2.1 (K.2.2.1.trans hr) (fun z hz _ => ⟨_, M, rfl, h, by rw [hz]; exact h1, by rw [hz]; exact h2⟩) h3 hd K.2.2.2.2.2.1)
theorem zq_objInit (K : zOK t tb G E) {idx a : Nat} (hd : decode (zyc t) pc = .ok (.invokespecial idx, 3)) (hl : Cond.methodLink (zyn t).cls idx Lib.objectInit ∈ zTs) (hi : Cond.instanceMethod Lib.objectInit ∈ zTs) (hc : Cond.code Lib.objectInit ⟨#[0xb1]⟩ 1 none ∈ zTs) (hS : (S.map fun v => v.category).sum ≤ 20) (hh : 1 ≤ zyh t) (k : WW E G u Q M b (pc + 3) L S) : WW E G u Q M b pc L (.ref a :: S) := by
  obtain ⟨p, e, R, s, m, args, below, meth, c⟩ := E
  obtain ⟨k1, k2, k3, k4, k5, k6, k7, k8, k9, k10, k11, k12, k13, -⟩ := K
  exact fun H locs ls cells slots h1 h2 h3 h4 h5 h6 => W.objInit k1 k2 k5 (k7 _ hl) (k7 _ hi) (k7 _ hc) rfl h4.1 rfl hd (by omega) (by show 2 * 0 + _ + 12 ≤ _; omega) (k H locs ls cells slots h1 h2 h3 h4 h5 h6)
/-! a call, seen from behind -/
theorem zrun {p : Program} {e : Env} {R : Room} {s : State} {m : MethodId} {args : Array Value} {below : List Frame} {meth : Method} {c : Code} {H : Heap} {locs : List Loc} {ls : Array Slot} {cells slots n : Nat} {a : Array Value} {st0 : List Value}
    (hr : vx_Run p G.1 e R s m args below meth c H locs cells slots n (64 * n) (F0 m pc ls st0) S (zQc G P' a) (zXC G P') (zfr G)) (h2 : s.heap.size ≤ H.size) (h3 : ∀ q ∈ locs, zfr G q.base) (h4 : zL ls c.maxLocals L) (h5 : cells + b ≤ u) (h6 : slots + 64 * b ≤ 64 * u) (hn : n ≤ b)
    (kr : ∀ (v : Option Value) (M' : ZM), P' (.inl v) M' → WW (p, e, R, s, m, args, below, meth, c) G u Q M' (b - n) (pc + 3) L (v.toList ++ S))
    (kx : ∀ (En : String) (M' : ZM), P' (.inr En) M' → XX (p, e, R, s, m, args, below, meth, c) G u Q M' (b - n) pc L En) :
    W p G.1 e R s m args below meth c H locs cells slots Q (F0 m pc ls st0) := by
  intro T hT X
  have hl : ∀ L9 : List Loc, (∀ q ∈ L9, zfr G q.base) → ∀ q ∈ locs ++ L9, zfr G q.base := fun L9 h9 q hq => by
    rcases List.mem_append.mp hq with h | h
    · exact h3 q h
    · exact h9 q h
  rcases hr T hT X with ⟨v, st₀, t9, T', L9, h0, X', hL, e1, e2, ⟨v', M', hv, hP, hR, hz⟩, st⟩ | ⟨q, st₀, t9, T', L9, En, ce, h0, X', hL, e1, e2, ⟨M', hP, hR, hz⟩, hce, hcv, hcl, st⟩
  · cases hv
    rw [h0] at hz
    obtain ⟨t2, a1, b1⟩ := kr v M' hP T'.heap (locs ++ L9) ls (cells + n) (slots + 64 * n) (by rw [e1]; exact hR) (by rw [e1]; omega) (hl L9 hL) h4 (by omega) (by omega) T' rfl X'
    exact ⟨t2, st t2 a1, b1⟩
  · rw [h0] at hz
    obtain ⟨t2, a1, b1⟩ := kx En M' hP T'.heap (locs ++ L9) ls (cells + n) (slots + 64 * n) S q ce (by rw [e1]; exact hR) (by rw [e1]; omega) (hl L9 hL) h4 (by omega) (by omega) (by rw [e1]; exact hce) hcv hcl T' rfl X'
    exact ⟨t2, st.trans a1, b1⟩
theorem zRel.warmU {M : ZM} {H : Heap} {U : State} (h : zRel G M H) (hU : U.heap = H) : zRel G M U.heap := by rw [hU]; exact h
/-- room and words for a callee -/
theorem zroom {y : ZY} {R : Room} (hh : zyh y + 1 ≤ zyh t) (hl : zyl y + 19 ≤ 36) (h1 : zyh t ≤ R.frames) (h2 : 36 * zyh t ≤ R.locals) : (zrm (zyh y) (zyu y)).frames + 1 ≤ R.frames ∧ 8 + (zyl y + 11) + (zrm (zyh y) (zyu y)).locals ≤ R.locals := by
  unfold zrm
  dsimp only
  omega
theorem zq_callV (K : zOK t tb G E) {y : ZY} {idx ci N n a : Nat} {C : String} {T : u_T} {ty : Nat → FieldType} {As : List Value} {S0 : List Value} (hd : decode (zyc t) pc = .ok (.invokevirtual idx, 3)) (hy : zY y n) (hl : Cond.methodLink (zyn t).cls idx (zyn y) ∈ zTs) (hi : Cond.instanceMethod (zyn y) ∈ zTs) (hs : Cond.selects (zyn y).cls (zyn y) (zyn y) ∈ zTs) (hC : zcl ci C T N ty) (hcy : (zyn y).cls = C) (hh : zyh y + 1 ≤ zyh t) (hn : As.length = n) (hS0 : S0 = As.reverse ++ .ref a :: S) (hSc : (S.map fun v => v.category).sum ≤ 8) (hb : zyu y ≤ b) (ha : zk M a = ci + 1) (hM : zMet G y (.ref a :: As) M P')
    (kr : ∀ (v : Option Value) (M' : ZM), P' (.inl v) M' → WW E G u Q M' (b - zyu y) (pc + 3) L (v.toList ++ S)) (kx : ∀ (En : String) (M' : ZM), P' (.inr En) M' → XX E G u Q M' (b - zyu y) pc L En) (hub : u ≤ zyu t) : WW E G u Q M b pc L S0 := by
  subst hS0
  obtain ⟨p, e, R, s, m, args, below, meth, c⟩ := E
  obtain ⟨k1, k2, k3, k4, k5, k6, k7, k8, k9, k10, k11, k12, k13, k14, k15⟩ := K
  intro H locs ls cells slots h1 h2 h3 h4 h5 h6
  have hG : GoodIn zTs (wsV (zyn t).cls idx C (zyn y) (zcd y :: zTs)) := zgood (fun w hw => by
    rcases List.mem_append.mp hw with h | h
    · simp only [List.mem_cons, List.not_mem_nil, or_false] at h
      rcases h with rfl | rfl | rfl | rfl
      · exact hl
      · exact hi
      · rw [← hcy]; exact hs
      · rw [← hcy]; exact hy.2.1
    · rcases List.mem_cons.mp h with rfl | h
      · exact hy.1
      · exact h)
  exact zrun (vx_runV (b := a) (As := As) (rest := S) ⟨k1, k2, k4, k5, k7⟩ hM (cwV n k7 hG rfl rfl rfl ⟨hcy, hy.2.2.1.1, hy.2.2.1.2, hy.2.2.2.1⟩ (zroom hh hy.2.2.2.2.2 k12 k13))
    ⟨zPc.blind, va_recv k8.1 (zat h1 hC ha) hC.1 (q0 := 0) rfl, fun U hU hW => ⟨rfl, h1.warmU hU, zSt.warm hW k8⟩⟩ rfl hn (h4.1.trans k4) rfl (lv_room hSc) hd ⟨by omega, by omega⟩) h2 h3 h4 h5 h6 hb kr kx
theorem zq_callS (K : zOK t tb G E) {y : ZY} {idx n : Nat} {As : List Value} {S0 : List Value} (hd : decode (zyc t) pc = .ok (.invokestatic idx, 3)) (hy : zY y n) (hl : Cond.methodLink (zyn t).cls idx (zyn y) ∈ zTs) (hs : Cond.static (zyn y) ∈ zTs) (hcy : (zyn y).cls = (zyn t).cls) (hh : zyh y + 1 ≤ zyh t) (hn : As.length = n) (hS0 : S0 = As.reverse ++ S) (hSc : (S.map fun v => v.category).sum ≤ 8) (hb : zyu y ≤ b) (hM : zMet G y As M P')
    (kr : ∀ (v : Option Value) (M' : ZM), P' (.inl v) M' → WW E G u Q M' (b - zyu y) (pc + 3) L (v.toList ++ S)) (kx : ∀ (En : String) (M' : ZM), P' (.inr En) M' → XX E G u Q M' (b - zyu y) pc L En) (hub : u ≤ zyu t) : WW E G u Q M b pc L S0 := by
  subst hS0
  obtain ⟨p, e, R, s, m, args, below, meth, c⟩ := E
  obtain ⟨k1, k2, k3, k4, k5, k6, k7, k8, k9, k10, k11, k12, k13, k14, k15⟩ := K
  intro H locs ls cells slots h1 h2 h3 h4 h5 h6
  have hG : GoodIn zTs (wsS (zyn t).cls idx (zyn y) (zcd y :: zTs)) := zgood (fun w hw => by
    rcases List.mem_append.mp hw with h | h
    · simp only [List.mem_cons, List.not_mem_nil, or_false] at h
      rcases h with rfl | rfl | rfl
      · exact hl
      · exact hs
      · rw [← hcy]; exact hy.2.1
    · rcases List.mem_cons.mp h with rfl | h
      · exact hy.1
      · exact h)
  exact zrun (vx_runS (As := As) (rest := S) ⟨k1, k2, k4, k5, k7⟩ hM (cwS n k7 hG rfl rfl rfl ⟨hcy, hy.2.2.1.1, hy.2.2.1.2, hy.2.2.2.1⟩ (zroom hh hy.2.2.2.2.2 k12 k13))
    ⟨zPc.blind, fun U hU hW => ⟨rfl, h1.warmU hU, zSt.warm hW k8⟩⟩ rfl hn (h4.1.trans k4) rfl (lv_room hSc) hd ⟨by omega, by omega⟩) h2 h3 h4 h5 h6 hb kr kx
theorem zq_callI (K : zOK t tb G E) {y : ZY} {idx n a : Nat} {As : List Value} {S0 : List Value} (hd : decode (zyc t) pc = .ok (.invokespecial idx, 3)) (hy : zY y n) (hr : zyr y = none) (hnm : (zyn y).name = "<init>") (hl : Cond.methodLink (zyn t).cls idx (zyn y) ∈ zTs) (hi : Cond.instanceMethod (zyn y) ∈ zTs) (hh : zyh y + 1 ≤ zyh t) (hn : As.length = n) (hS0 : S0 = As.reverse ++ .ref a :: S) (hSc : (S.map fun v => v.category).sum ≤ 8) (hb : zyu y ≤ b) (hM : zMet G y (.ref a :: As) M P')
    (kr : ∀ (v : Option Value) (M' : ZM), P' (.inl v) M' → WW E G u Q M' (b - zyu y) (pc + 3) L (v.toList ++ S)) (kx : ∀ (En : String) (M' : ZM), P' (.inr En) M' → XX E G u Q M' (b - zyu y) pc L En) (hub : u ≤ zyu t) : WW E G u Q M b pc L S0 := by
  subst hS0
  obtain ⟨p, e, R, s, m, args, below, meth, c⟩ := E
  obtain ⟨k1, k2, k3, k4, k5, k6, k7, k8, k9, k10, k11, k12, k13, k14, k15⟩ := K
  intro H locs ls cells slots h1 h2 h3 h4 h5 h6
  have hG : GoodIn zTs (zcd y :: zTs) := zgood (fun w hw => by
    rcases List.mem_cons.mp hw with rfl | h
    · exact hy.1
    · exact h)
  have hcd : zcd y = Cond.code (zyn y) (zyc y) (zyl y) none := by rw [← hr]
  exact zrun (vx_runI (b := a) (As := As) (rest := S) ⟨k1, k2, k4, k5, k7⟩ hM (cwI n k7 hG (by rw [hcd]) rfl rfl (k7 _ hy.2.1) (k7 _ hl) (k7 _ hi) hnm ⟨hy.2.2.1.1, hy.2.2.1.2, hy.2.2.2.1⟩ (zroom hh hy.2.2.2.2.2 k12 k13))
    ⟨zPc.blind, fun U hU hW => ⟨rfl, h1.warmU hU, zSt.warm hW k8⟩⟩ rfl hn (h4.1.trans k4) rfl (lv_room hSc) hd ⟨by omega, by omega⟩) h2 h3 h4 h5 h6 hb kr kx
/-- not caught here -/
theorem zx_out (K : zOK t [] G E) {En : String} (h : P (.inr En) M) : XX E G (zyu t) (zQ E G t P) M b pc L En := by
  obtain ⟨p, e, R, s, m, args, below, meth, c⟩ := E
  obtain ⟨k1, k2, k3, k4, k5, k6, k7, k8, k9, k10, k11, k12, k13, k14, k15⟩ := K
  intro H locs ls cells slots rest q ce h1 h2 h3 h4 h5 h6 h7 h8 h9
  exact vx_out (fun x hx => by rw [k10] at hx; cases hx) k6 h7 h8 h9 (fun z hz _ => ⟨M, h, by rw [hz]; exact h1, by rw [hz]; exact h2⟩) h3 (by omega) (by omega)
/-! calls with a definite end -/
theorem zone_r {v : Option Value} {M1 : ZM} {n : Nat} (k : WW E G u Q M1 n (pc + 3) L (v.toList ++ S)) : ∀ (v' : Option Value) (M' : ZM), zone v M1 (.inl v') M' → WW E G u Q M' n (pc + 3) L (v'.toList ++ S) := by
  rintro v' M' ⟨h1, rfl⟩
  cases h1
  exact k
theorem zone_x {v : Option Value} {M1 : ZM} {n : Nat} : ∀ (En : String) (M' : ZM), zone v M1 (.inr En) M' → XX E G u Q M' n pc L En := by
  rintro En M' ⟨h1, -⟩
  cases h1
theorem zthr_r {X : String} {M1 : ZM} {n : Nat} : ∀ (v' : Option Value) (M' : ZM), zthr X M1 (.inl v') M' → WW E G u Q M' n (pc + 3) L (v'.toList ++ S) := by
  rintro v' M' ⟨h1, -⟩
  cases h1
theorem zthr_x {X : String} {M1 : ZM} {n : Nat} (k : XX E G u Q M1 n pc L X) : ∀ (En : String) (M' : ZM), zthr X M1 (.inr En) M' → XX E G u Q M' n pc L En := by
  rintro En M' ⟨h1, rfl⟩
  cases h1
  exact k
/-- it may use less room than it has -/
theorem WW.less {b' : Nat} (h : b' ≤ b) (k : WW E G u Q M b' pc L S) : WW E G u Q M b pc L S := by
  obtain ⟨p, e, R, s, m, args, below, meth, c⟩ := E
  exact fun H locs ls cells slots h1 h2 h3 h4 h5 h6 => k H locs ls cells slots h1 h2 h3 h4 (by omega) (by omega)
end ZROW2
end
section
section ZROW3
variable {t : ZY} {tb : List ExceptionTableEntry} {E : ZE} {G : ZG} {u : Nat} {Q : State → Prop} {M : ZM} {b pc : Nat} {L : List (Option Value)} {S : List Value} {P P' : ZO → ZM → Prop}
/-! throw new X("text") -/
def zNm : List String := ["java/lang/RuntimeException", "java/lang/Exception"]
/-- the words of a throw of X by the constructor's number ic: in the tables, or the one that says X of X -/
def zTh (own : String) (ik ic : Nat) (X : String) : Prop := X ∈ zExc ∧ Cond.classLink own ik X ∈ zTs ∧ Cond.initialized X ∈ zTs ∧ (∀ w ∈ vx_atS own ic X zNm, w ∈ zTs ∨ w = .castable X X ∨ ∃ F ∈ zDecl, w = .declares ⟨F, "<init>", "(Ljava/lang/String;)V"⟩) ∧ Bundle.fit X = true ∧ (∀ w ∈ Cond.classLink own ik X :: Cond.initialized X :: vx_atS own ic X zNm, vx_ot w = true)
theorem zq_throw (K : zOK t [] G E) {ik is ic : Nat} {X text : String} (hT : zTh (zyn t).cls ik ic X) (hx : ((zyn t).cls, is, text) ∈ zTx) (d0 : decode (zyc t) pc = .ok (.new ik, 3)) (d3 : decode (zyc t) (pc + 3) = .ok (.dup, 1)) (d4 : decode (zyc t) (pc + 4) = .ok (.ldc is, 2)) (d6 : decode (zyc t) (pc + 6) = .ok (.invokespecial ic, 3)) (d9 : decode (zyc t) (pc + 9) = .ok (.athrow, 1)) (hh : 6 ≤ zyh t) (hS : (S.map fun v => v.category).sum ≤ 8) (hb : 1 ≤ b) (h : P (.inr X) M) : WW E G (zyu t) (zQ E G t P) M b pc L S := by
  obtain ⟨p, e, R, s, m, args, below, meth, c⟩ := E
  obtain ⟨k1, k2, k3, k4, k5, k6, k7, k8, k9, k10, k11, k12, k13, k14, k15⟩ := K
  obtain ⟨t1, t2, t3, t4, t5, t6⟩ := hT
  intro H locs ls cells slots h1 h2 h3 h4 h5 h6
  obtain ⟨sa, hsa⟩ := k8.2.2.2.1 _ hx
  have hB : ∀ q : Nat, q < s.heap.size → ¬ zfr G q → H[q]? = s.heap[q]? := fun q _ hq => by
    have hq' : q < G.2.2.2.size := Nat.not_le.mp hq
    rw [h1.2.1 q hq', k9.2 q hq']
  have hk : ∀ q : Nat, q < G.2.2.2.size → ¬ zfr G q → s.heap[q]? = G.2.2.2[q]? := fun q h _ => k9.2 q h
  refine vx_throwS (A := zfr G) (names := zNm) (sa := sa) k1 k2 k8.2.2.2.2.2.2.2.2.2.1 k5 t5 (by decide +kernel) (k7 _ t2) (k7 _ t3) hsa (fun w hw => ?_) t6 (k8.2.1.kept hk) (k8.2.2.1.kept hk) ⟨h2, hB, h3⟩ h4.1 d0 d3 d4 d6 d9 (fun x hx => by rw [k10] at hx; cases hx) (by show 5 < _; omega) (by show _ + (13 * 3 + 43) ≤ _; omega) (by omega) (by omega) k6 (fun z _ hz ho => ⟨M, h, h1.grow hz ho, by omega⟩) h3 (by omega) (by omega)
  rcases t4 w hw with h | h | ⟨F, hF, h⟩
  · exact k7 _ h
  · rw [h]
    exact (k8.2.2.2.2.1 X t1).use rfl
  · rw [h]
    exact (k8.2.2.2.2.2.2.2.2.2.2 F hF).use rfl
/-! caught here -/
theorem zx_catch (K : zOK t tb G E) {En : String} (pre : List ExceptionTableEntry) (x : ExceptionTableEntry) (suf : List ExceptionTableEntry) (hsplit : tb = pre ++ x :: suf) (hE : En ∈ zExc) (hpass : ∀ z ∈ pre, z.catchType ≠ 0 ∧ ∃ nm : String, nm ∈ zExc ∧ En ≠ nm ∧ Cond.classLink (zyn t).cls z.catchType nm ∈ zTs) (hx : covers x pc = true) (h0 : x.catchType ≠ 0) (hl : Cond.classLink (zyn t).cls x.catchType En ∈ zTs) (kk : ∀ q, WW E G u Q M b x.handlerPc L [.ref q]) : XX E G u Q M b pc L En := by
  obtain ⟨p, e, R, s, m, args, below, meth, c⟩ := E
  obtain ⟨k1, k2, k3, k4, k5, k6, k7, k8, k9, k10, k11, k12, k13, k14, k15⟩ := K
  intro H locs ls cells slots rest q ce h1 h2 h3 h4 h5 h6 h7 h8 h9
  exact vx_catch k5 pre x suf (k10.trans hsplit) (fun z hz => by
    obtain ⟨z1, nm, z2, z3, z4⟩ := hpass z hz
    exact Or.inr ⟨z1, nm, k7 _ z4, k8.2.2.2.2.2.1 En hE nm z2 z3⟩) hx h0 (k7 _ hl) ((k8.2.2.2.2.1 En hE).use rfl) h7 h8 h9 (kk q H locs ls cells slots h1 h2 h3 h4 h5 h6)
/-! a new object -/
theorem zq_new (K : zOK t tb G E) {idx ci N : Nat} {C : String} {T : u_T} {ty : Nat → FieldType} (hd : decode (zyc t) pc = .ok (.new idx, 3)) (hC : zcl ci C T N ty) (hl : Cond.classLink (zyn t).cls idx C ∈ zTs) (hty : ∀ k, k < N → defaultValue (ty k) = if zfi ci k = true then .int 0 else .null) (hN : N ≤ 64) (hb : 1 ≤ b) (hu : u ≤ zyu t) (kk : ∀ a, zk M a = 0 → WW E G u Q (zw M a (ci + 1) 0) (b - 1) (pc + 3) L (.ref a :: S)) : WW E G u Q M b pc L S := by
  obtain ⟨p, e, R, s, m, args, below, meth, c⟩ := E
  obtain ⟨k1, k2, k3, k4, k5, k6, k7, k8, k9, k10, k11, k12, k13, k14, k15⟩ := K
  intro H locs ls cells slots h1 h2 h3 h4 h5 h6
  have hKn := k8.1.1 ci _ hC.1
  refine W.newcK k1 k2 k5 (k7 _ hl) (k7 _ hC.2.2.2.2.2.2.1) (k7 _ hC.2.2.2.2.2.2.2) rfl hd (by omega) (by omega) hKn.2.1 rfl fun H1 kC hkC e1 z1 o1 => ?_
  refine W.widen (k := cells + 1) (n := slots + 64) (by omega) (by omega) ?_
  refine kk H.size (h1.fresh (Nat.le_refl _)) H1 locs ls (cells + 1) (slots + 64) (h1.new z1 rfl o1 ?_) (by omega) h3 h4 (by omega) (by omega)
  rw [zE_o (ci := ci) (by rw [zk_w, if_pos rfl]) hC.2.1, hC.2.2.1]
  refine ⟨_, hC.1, (u_born ty k7 hC.2.2.2.1 hKn hkC e1 hC.2.2.2.2.1).to (fun j hj => ?_)⟩
  show defaultValue (ty j) = vp_V _ j
  unfold vp_V
  rw [List.getD_eq_getElem?_getD, zfs_get hj, hty j hj, Option.getD_some]
  unfold zfv
  rw [zi_w, if_pos rfl, zr_w, if_pos rfl]
  rfl
/-! new rows of numbers -/
theorem zty_name {c0 : Nat → ClassId} {s : State} {D : va_G} {j : Nat} {ty : FieldType} (h : va_K D vwCl (zTy c0) s) (hj : (zTy c0)[j]? = some (c0 j, ty)) (ho : ∀ C, ty ≠ .object C) : s.vm.findClass ("[" ++ ty.toString) = some (c0 j) := by
  have h1 := (h.2 j _ hj).2
  cases ty <;> first | exact h1 | exact absurd rfl (ho _)
theorem zq_newarr (K : zOK t tb G E) {atype : ArrayType} {ty : FieldType} {x : Int32} (j n : Nat) (hd : decode (zyc t) pc = .ok (.newarray atype, 2)) (hty : newarray.typeOf atype = ty) (hj : (zTy G.2.2.1)[j]? = some (G.2.2.1 j, ty)) (h3j : j < 3) (ho : ∀ C, ty ≠ .object C) (hw : Cond.arrayClass ty ∈ zTs) (hx : x = nI n) (hn : n ≤ 65536) (hdv : ∀ (c0 : ClassId) (M : ZM) (a : Nat), vp_cell c0 (zct (zw M a (j + 5) n) a (j + 5)) = arrV c0 n (fun _ => defaultValue ty)) (k : Nat) (hb : 1 ≤ k ∧ n ≤ 64 * k ∧ k ≤ b) (hu : u ≤ zyu t) (hcb : componentBytes ty ≤ 8) (kk : ∀ a, zk M a = 0 → WW E G u Q (zw M a (j + 5) n) (b - k) (pc + 2) L (.ref a :: S)) : WW E G u Q M b pc L (.int x :: S) := by
  subst hx; subst hty
  obtain ⟨p, e, R, s, m, args, below, meth, c⟩ := E
  obtain ⟨k1, k2, k3, k4, k5, k6, k7, k8, k9, k10, k11, k12, k13, k14, k15⟩ := K
  intro H locs ls cells slots h1 h2 h3 h4 h5 h6
  have e0 : (nI n).toNatClampNeg = n := nI_clamp (by omega)
  refine va_newaK k1 k2 (k7 _ hw) rfl hd rfl (nI_pos (by omega)) e0 (by have := Nat.mul_le_mul hn hcb; omega) (by omega) (by omega) rfl fun H1 cA e1 z1 o1 hAr hNm => ?_
  have hcA : cA = G.2.2.1 j := Option.some.inj (hNm.symm.trans (zty_name k8.1 hj ho))
  subst hcA
  refine W.widen (k := cells + k) (n := slots + 64 * k) (by omega) (by omega) ?_
  refine kk H.size (h1.fresh (Nat.le_refl _)) H1 locs ls (cells + k) (slots + 64 * k) (h1.new z1 rfl o1 ?_) (by omega) h3 h4 (by omega) (by omega)
  rw [zE_a (k := j + 5) (by rw [zk_w, if_pos rfl]) (by omega)]
  show H1[H.size]? = some (vp_cell _ _)
  rw [hdv, Nat.add_sub_cancel]
  exact e1
/-! a new row of objects -/
theorem zq_anew (K : zOK t tb G E) {idx : Nat} {C : String} {x : Int32} (j n : Nat) (hd : decode (zyc t) pc = .ok (.anewarray idx, 3)) (hj : (zTy G.2.2.1)[j]? = some (G.2.2.1 j, .object C)) (h3j : 3 ≤ j) (hao : ∀ s, zSt G s → va_AO C s) (hl : Cond.classLink (zyn t).cls idx C ∈ zTs) (hx : x = nI n) (hn : n ≤ 64) (hb : 1 ≤ b) (hu : u ≤ zyu t) (kk : ∀ a, zk M a = 0 → WW E G u Q (zw M a (j + 5) n) (b - 1) (pc + 3) L (.ref a :: S)) : WW E G u Q M b pc L (.int x :: S) := by
  subst hx
  obtain ⟨p, e, R, s, m, args, below, meth, c⟩ := E
  obtain ⟨k1, k2, k3, k4, k5, k6, k7, k8, k9, k10, k11, k12, k13, k14, k15⟩ := K
  intro H locs ls cells slots h1 h2 h3 h4 h5 h6
  have e0 : (nI n).toNatClampNeg = n := nI_clamp (by omega)
  refine W.anew k1 k2 k5 (k7 _ hl) (va_AO.use (hao s k8)) rfl hd rfl (nI_pos (by omega)) (by omega) (by omega) (by omega) fun cA kA comp f1 f2 f3 f4 => ?_
  obtain ⟨kA2, comp2, g1, g2, g3, g4⟩ := (k8.1.2 j _ hj).2
  have hcA : cA = G.2.2.1 j := Option.some.inj (f1.symm.trans g4)
  subst hcA
  rw [e0]
  generalize hH1 : H.push ({ cls := G.2.2.1 j, slots := Array.replicate n .null, vm := .none } : Cell) = H1
  have z1 : H1.size = H.size + 1 := by rw [← hH1, Array.size_push]
  have e1 : H1[H.size]? = some (arrV (G.2.2.1 j) n (fun _ => .null)) := by rw [← hH1, Array.getElem?_push_size, ← arrV_new]
  have o1 : ∀ q : Nat, q < H.size → H1[q]? = H[q]? := fun q hq => by rw [← hH1, Array.getElem?_push, if_neg (Nat.ne_of_lt hq)]
  refine W.widen (k := cells + 1) (n := slots + 64) (by omega) (by omega) ?_
  refine kk H.size (h1.fresh (Nat.le_refl _)) H1 locs ls (cells + 1) (slots + 64) (h1.new z1 rfl o1 ?_) (by omega) h3 h4 (by omega) (by omega)
  rw [zE_a (k := j + 5) (by rw [zk_w, if_pos rfl]) (by omega)]
  show H1[H.size]? = some (vp_cell _ _)
  rw [zct_r (by omega), Nat.add_sub_cancel, zn_w, if_pos rfl, e1]
  congr 2
  funext q
  rw [zr_w, if_pos rfl]
  rfl
/-- the memory with new int[4][k] at q, its rows at r -/
def zmn (M : ZM) (q : Nat) (r : Nat → Nat) (k : Nat) : ZM := zsr (zsr (zsr (zsr (zw (zw (zw (zw (zw M q 10 4) (r 0) 5 k) (r 1) 5 k) (r 2) 5 k) (r 3) 5 k) q 0 (some (r 0))) q 1 (some (r 1))) q 2 (some (r 2))) q 3 (some (r 3))
end ZROW3
end
section
section ZROW4
variable {t : ZY} {tb : List ExceptionTableEntry} {E : ZE} {G : ZG} {u : Nat} {Q : State → Prop} {M : ZM} {b pc : Nat} {L : List (Option Value)} {S : List Value} {P P' : ZO → ZM → Prop}
theorem zRel.more {M' : ZM} {H H' : Heap} (h : zRel G M H) (hz : H.size ≤ H'.size) (ho : ∀ q, q < H.size → H'[q]? = H[q]?) (hc : ∀ a, zk M' a ≠ 0 → (zk M a ≠ 0 ∧ zE G.2.2.1 M' a = zE G.2.2.1 M a) ∨ (H.size ≤ a ∧ va_at G.2.1 vwCl (a, zE G.2.2.1 M' a) H')) : zRel G M' H' := by
  have g := h.grow hz ho
  refine ⟨g.1, g.2.1, fun a ha => ?_⟩
  rcases hc a ha with ⟨h1, h2⟩ | ⟨h1, h2⟩
  · rw [h2]
    exact g.2.2 a h1
  · exact ⟨Nat.le_trans h.1 h1, h2⟩
theorem zmn_k {q : Nat} {r : Nat → Nat} {k : Nat} (b : Nat) : zk (zmn M q r k) b = if b = r 3 then 5 else if b = r 2 then 5 else if b = r 1 then 5 else if b = r 0 then 5 else if b = q then 10 else zk M b := by
  unfold zmn
  simp only [zk_r, zk_w]
theorem zmn_n {q : Nat} {r : Nat → Nat} {k : Nat} (b : Nat) : zn (zmn M q r k) b = if b = r 3 then k else if b = r 2 then k else if b = r 1 then k else if b = r 0 then k else if b = q then 4 else zn M b := by
  unfold zmn
  simp only [zn_r, zn_w]
theorem zmn_i {q : Nat} {r : Nat → Nat} {k : Nat} (b j : Nat) : zi (zmn M q r k) b j = if b = r 3 then 0 else if b = r 2 then 0 else if b = r 1 then 0 else if b = r 0 then 0 else if b = q then 0 else zi M b j := by
  unfold zmn
  simp only [zi_r, zi_w]
theorem zmn_j {q : Nat} {r : Nat → Nat} {k : Nat} (b j : Nat) : zj (zmn M q r k) b j = if b = r 3 then 0 else if b = r 2 then 0 else if b = r 1 then 0 else if b = r 0 then 0 else if b = q then 0 else zj M b j := by
  unfold zmn
  simp only [zj_r, zj_w]
theorem zmn_r {q : Nat} {r : Nat → Nat} {k : Nat} (b j : Nat) : zr (zmn M q r k) b j = if b = q ∧ j = 3 then some (r 3) else if b = q ∧ j = 2 then some (r 2) else if b = q ∧ j = 1 then some (r 1) else if b = q ∧ j = 0 then some (r 0) else if b = r 3 then none else if b = r 2 then none else if b = r 1 then none else if b = r 0 then none else if b = q then none else zr M b j := by
  unfold zmn
  simp only [zr_r, zr_w]
theorem zmn_o {c0 : Nat → ClassId} {q : Nat} {r : Nat → Nat} {k b : Nat} (hq : b ≠ q) (hr : ∀ i, i < 4 → b ≠ r i) : zE c0 (zmn M q r k) b = zE c0 M b := by
  have r0 := hr 0 (by omega)
  have r1 := hr 1 (by omega)
  have r2 := hr 2 (by omega)
  have r3 := hr 3 (by omega)
  have h1 : zk (zmn M q r k) b = zk M b := by rw [zmn_k]; simp only [r0, r1, r2, r3, hq, if_false]
  have h2 : zn (zmn M q r k) b = zn M b := by rw [zmn_n]; simp only [r0, r1, r2, r3, hq, if_false]
  have h3 : zi (zmn M q r k) b = zi M b := funext fun j => by rw [zmn_i]; simp only [r0, r1, r2, r3, hq, if_false]
  have h4 : zr (zmn M q r k) b = zr M b := funext fun j => by rw [zmn_r]; simp only [r0, r1, r2, r3, hq, false_and, if_false]
  have h5 : zj (zmn M q r k) b = zj M b := funext fun j => by rw [zmn_j]; simp only [r0, r1, r2, r3, hq, if_false]
  unfold zE zct zfs zfv
  rw [h1, h2, h3, h4, h5]
theorem zq_mna (K : zOK t tb G E) {idx : Nat} {x y : Int32} (n : Nat) (hd : decode (zyc t) pc = .ok (.multianewarray idx 2, 4)) (hl : Cond.classLink (zyn t).cls idx ("[" ++ (FieldType.array .int).toString) ∈ zTs) (hw : Cond.arrayClass .int ∈ zTs) (hx : x = nI n) (hy : y = nI 4) (hn : n ≤ 64) (hb : 5 ≤ b) (hu : u ≤ zyu t)
    (kk : ∀ (q : Nat) (r : Nat → Nat), zk M q = 0 → (∀ i, i < 4 → zk M (r i) = 0 ∧ r i ≠ q) → (∀ i j, i < 4 → j < 4 → r i = r j → i = j) → WW E G u Q (zmn M q r n) (b - 5) (pc + 4) L (.ref q :: S)) : WW E G u Q M b pc L (.int x :: .int y :: S) := by
  subst hx; subst hy
  obtain ⟨p, e, R, s, m, args, below, meth, c⟩ := E
  obtain ⟨k1, k2, k3, k4, k5, k6, k7, k8, k9, k10, k11, k12, k13, k14, k15⟩ := K
  intro H locs ls cells slots h1 h2 h3 h4 h5 h6
  have e0 : (nI n).toNatClampNeg = n := nI_clamp (by omega)
  have e4 : (nI 4).toNatClampNeg = 4 := nI_clamp (by omega)
  intro T hT Xs
  obtain ⟨vm₁, cA, comp, -, fA, fC, hO, -, X', step⟩ := Xs.multianewarray2F k1 k5 (k7 _ hl) (show (Cond.arrayOver (.array .int)).before args s = true from k8.2.2.2.2.2.2.2.2.1) (k7 _ hw) (g := F0 m pc ls (.int (nI n) :: .int (nI 4) :: S)) rfl (by rw [k2]; exact hd) rfl (nI_pos (by omega)) (nI_pos (by omega)) (by rw [e4]; decide) (by rw [e0]; show n * 4 ≤ _; omega) (by rw [e0]; omega) rfl rfl (by rw [e4]; omega) (by rw [e0, e4]; omega)
  have hcA : cA = G.2.2.1 5 := Option.some.inj (fA.symm.trans (zty_name k8.1 (j := 5) rfl (fun C h => by cases h)))
  have hcI : comp = G.2.2.1 0 := Option.some.inj (fC.symm.trans (zty_name k8.1 (j := 0) rfl (fun C h => by cases h)))
  subst hcA; subst hcI
  rw [e0, e4] at X' step
  generalize hF : Jvm.Free.Multi.fill (T.setVm vm₁) (G.2.2.1 5) (G.2.2.1 0) 4 n (defaultValue .int) 4 = F at X' step
  have hTh : (T.setVm vm₁).heap = H := hT
  obtain ⟨f1, f2, -, -⟩ := Jvm.Free.Multi.fill_facts (T.setVm vm₁) (G.2.2.1 5) (G.2.2.1 0) 4 n (defaultValue .int) 4
  rw [hF, hTh] at f1 f2
  have hold : ∀ x : Nat, x < H.size → F.heap[x]? = H[x]? := fun x hx => by
    have := Jvm.Free.Multi.fill_old (T.setVm vm₁) (G.2.2.1 5) (G.2.2.1 0) 4 n (defaultValue .int) (a := x) (by rw [hTh]; exact hx) 4
    rw [hF, hTh] at this
    exact this
  have hrow : ∀ j : Nat, j < 4 → F.heap[H.size + 1 + j]? = some (Jvm.Free.Multi.innerC (G.2.2.1 0) n (defaultValue .int)) := fun j hj => by
    have := Jvm.Free.Multi.fill_inner (T.setVm vm₁) (G.2.2.1 5) (G.2.2.1 0) 4 n (defaultValue .int) 4 j hj
    rw [hF, hTh] at this
    exact this
  rw [vr_outer] at f2
  have hfr : ∀ a, H.size ≤ a → zk M a = 0 := fun a ha => h1.fresh ha
  have hkq : zk (zmn M H.size (fun i => H.size + 1 + i) n) H.size = 10 := by
    rw [zmn_k]
    simp only [if_pos]
    rw [if_neg (by omega), if_neg (by omega), if_neg (by omega), if_neg (by omega)]
  have hkr : ∀ i, i < 4 → zk (zmn M H.size (fun i => H.size + 1 + i) n) (H.size + 1 + i) = 5 := fun i hi => by
    rw [zmn_k]
    have : i = 0 ∨ i = 1 ∨ i = 2 ∨ i = 3 := by omega
    rcases this with rfl | rfl | rfl | rfl <;> simp
  have hR : zRel G (zmn M H.size (fun i => H.size + 1 + i) n) F.heap := by
    refine h1.more (by rw [f1]; omega) hold (fun a ha => ?_)
    by_cases hq : a = H.size
    · subst hq
      refine Or.inr ⟨Nat.le_refl _, ?_⟩
      rw [zE_a (k := 10) hkq (by omega)]
      show F.heap[H.size]? = some (vp_cell _ _)
      rw [zct_r (by omega), f2]
      congr 1
      have hn4 : zn (zmn M H.size (fun i => H.size + 1 + i) n) H.size = 4 := by
        rw [zmn_n]
        rw [if_neg (by omega), if_neg (by omega), if_neg (by omega), if_neg (by omega), if_pos rfl]
      rw [hn4]
      refine congrArg (arrV _ 4) (funext fun j => ?_)
      rw [zmn_r]
      by_cases j3 : j = 3
      · subst j3; simp
      · by_cases j2 : j = 2
        · subst j2; simp
        · by_cases j1 : j = 1
          · subst j1; simp
          · by_cases j0 : j = 0
            · subst j0; simp
            · rw [if_neg (by omega), if_neg (fun z => j3 z.2), if_neg (fun z => j2 z.2), if_neg (fun z => j1 z.2), if_neg (fun z => j0 z.2)]
              simp
    · by_cases hr : H.size + 1 ≤ a ∧ a < H.size + 5
      · refine Or.inr ⟨by omega, ?_⟩
        obtain ⟨i, hi, rfl⟩ : ∃ i, i < 4 ∧ a = H.size + 1 + i := ⟨a - (H.size + 1), by omega, by omega⟩
        rw [zE_a (k := 5) (hkr i hi) (by omega)]
        show F.heap[H.size + 1 + i]? = some (vp_cell _ _)
        rw [zct_i (Or.inl rfl), hrow i hi]
        have hnn : zn (zmn M H.size (fun i => H.size + 1 + i) n) (H.size + 1 + i) = n := by
          rw [zmn_n]
          have : i = 0 ∨ i = 1 ∨ i = 2 ∨ i = 3 := by omega
          rcases this with rfl | rfl | rfl | rfl <;> simp
        have hii : ∀ j, zi (zmn M H.size (fun i => H.size + 1 + i) n) (H.size + 1 + i) j = 0 := fun j => by
          rw [zmn_i]
          have : i = 0 ∨ i = 1 ∨ i = 2 ∨ i = 3 := by omega
          rcases this with rfl | rfl | rfl | rfl <;> simp
        rw [hnn]
        simp only [hii]
        unfold Jvm.Free.Multi.innerC
        rw [arrV_new]
        rfl
      · have hne : ∀ i, i < 4 → a ≠ (fun i => H.size + 1 + i) i := fun i hi h => by
          have h9 : a = H.size + 1 + i := h
          omega
        have hE := zmn_o (M := M) (c0 := G.2.2.1) (k := n) hq hne
        refine Or.inl ⟨?_, hE⟩
        rw [zmn_k, if_neg (hne 3 (by omega)), if_neg (hne 2 (by omega)), if_neg (hne 1 (by omega)), if_neg (hne 0 (by omega)), if_neg hq] at ha
        exact ha
  have X2 := stand_widen (k := cells + 5) (n := slots + 320) X' (by omega) (by omega)
  obtain ⟨t2, a1, b1⟩ := kk H.size (fun i => H.size + 1 + i) (hfr _ (Nat.le_refl _)) (fun i _ => ⟨hfr _ (by omega), by omega⟩) (fun i j _ _ h => by have h9 : H.size + 1 + i = H.size + 1 + j := h; omega) F.heap locs ls (cells + 5) (slots + 320) hR (by rw [f1]; omega) h3 h4 (by omega) (by omega) F rfl X2
  refine ⟨t2, step t2 ?_, b1⟩
  have e : T.heap.size = H.size := by rw [hT]
  rw [e]
  exact a1
/-! methods with a table of handlers: bodies, calls -/
abbrev zMetW (G : ZG) (hh : List (Nat × Nat × Nat × Nat)) (t : ZY) (As : List Value) (M : ZM) (P : ZO → ZM → Prop) : Prop := zMetC G (zcdW t hh) t As M P
def zYW (t : ZY) (hh : List (Nat × Nat × Nat × Nat)) (n : Nat) : Prop := zcdW t hh ∈ zTs ∧ Cond.initialized (zyn t).cls ∈ zTs ∧ ((zyn t).cls ≠ "java/lang/invoke/MethodHandle" ∧ (zyn t).cls ≠ "java/lang/invoke/VarHandle") ∧ (parseMethodDescriptor (zyn t).desc).map (fun d => d.parameters.length) = some n ∧ plainName (zyn t).cls = true ∧ zyl t + 19 ≤ 36
theorem zbodyW {hh : List (Nat × Nat × Nat × Nat)} {n : Nat} {As : List Value} (hy : zYW t hh n) (L : List (Option Value)) (hL : As.map some ++ List.replicate (zyl t - As.length) none = L) (hlen : As.length ≤ zyl t) (hc : ∀ v ∈ As, v.category = 1)
    (body : ∀ E : ZE, zOK t (tableOf hh) G E → WW E G (zyu t) (zQ E G t P) M (zyu t) 0 L []) : zMetW G hh t As M P := by
  refine vx_ofWH (cc := zyc t) (maxL := zyl t) (ret := zyr t) (hh := hh) hy.2.2.2.2.1 rfl ?_
  intro p e s m args below meth c s₁ B hml hv
  obtain ⟨rfl, hrel, hst⟩ := hv
  have hts := atoms_spec (ws := zcdW t hh :: zTs) B.pre
  have hown : s.vm.findClass (zyn t).cls = some m.cls := findClass_of_methodNamed B.named
  have htb : c.exceptionTable.toList = tableOf hh := vx_table (x := zyn t) B (hts _ List.mem_cons_self)
  have K := body (p, e, zrm (zyh t) (zyu t), s, m, As.toArray, below, meth, c) ⟨B.exec, B.bytes, B.returns, hml, hown, B.notSynchronized, fun w hw => hts w (List.mem_cons_of_mem _ hw), hst, ⟨hrel.1, hrel.2.1⟩, htb, (name_of_methodNamed B.named B.method).1, Nat.le_refl _, Nat.le_refl _, Nat.le_refl _, Nat.le_refl _⟩
  rw [lg_entry_eq]
  exact K s.heap [] _ 0 0 hrel (Nat.le_refl _) (fun q hq => nomatch hq) (by rw [← hL, hml]; exact zL_entry hc hlen) (by omega) (by omega)
theorem zq_callW (K : zOK t tb G E) {hh : List (Nat × Nat × Nat × Nat)} {y : ZY} {idx n : Nat} {As : List Value} {S0 : List Value} (hd : decode (zyc t) pc = .ok (.invokestatic idx, 3)) (hy : zYW y hh n) (hl : Cond.methodLink (zyn t).cls idx (zyn y) ∈ zTs) (hs : Cond.static (zyn y) ∈ zTs) (hcy : (zyn y).cls = (zyn t).cls) (hh' : zyh y + 1 ≤ zyh t) (hn : As.length = n) (hS0 : S0 = As.reverse ++ S) (hSc : (S.map fun v => v.category).sum ≤ 8) (hb : zyu y ≤ b) (hM : zMetW G hh y As M P')
    (kr : ∀ (v : Option Value) (M' : ZM), P' (.inl v) M' → WW E G u Q M' (b - zyu y) (pc + 3) L (v.toList ++ S)) (kx : ∀ (En : String) (M' : ZM), P' (.inr En) M' → XX E G u Q M' (b - zyu y) pc L En) (hub : u ≤ zyu t) : WW E G u Q M b pc L S0 := by
  subst hS0
  obtain ⟨p, e, R, s, m, args, below, meth, c⟩ := E
  obtain ⟨k1, k2, k3, k4, k5, k6, k7, k8, k9, k10, k11, k12, k13, k14, k15⟩ := K
  intro H locs ls cells slots h1 h2 h3 h4 h5 h6
  have hG : GoodIn zTs (va_wsS (zyn t).cls idx (zyn y) (zcdW y hh :: zTs)) := zgood (fun w hw => by
    unfold va_wsS at hw
    simp only [List.mem_cons, List.cons_append, List.nil_append] at hw
    rcases hw with rfl | rfl | rfl | rfl | h
    · exact hl
    · exact hs
    · exact hy.2.1
    · exact hy.1
    · exact h)
  exact zrun (vx_runSX (As := As) (rest := S) ⟨k1, k2, k4, k5, k7⟩ hM (vx_cwSW n k7 hG rfl rfl rfl ⟨hy.2.2.1.1, hy.2.2.1.2, hy.2.2.2.1⟩ (zroom hh' hy.2.2.2.2.2 k12 k13))
    ⟨zPc.blind, fun U hU hW => ⟨rfl, h1.warmU hU, zSt.warm hW k8⟩⟩ rfl hn (h4.1.trans k4) rfl (lv_room hSc) hd ⟨by omega, by omega⟩) h2 h3 h4 h5 h6 hb kr kx
end ZROW4
end
section
theorem zclX0 : zcl 0 RX0 TX0 7 tyX0 := ⟨rfl, by decide, rfl, by
  have h : ∀ k, k < 7 → u_lay RX0 TX0 k ∈ zTs := by
    intro k hk
    match k, hk with
    | 0, _ => exact zt 121 (by decide +kernel) rfl
    | 1, _ => exact zt 123 (by decide +kernel) rfl
    | 2, _ => exact zt 125 (by decide +kernel) rfl
    | 3, _ => exact zt 127 (by decide +kernel) rfl
    | 4, _ => exact zt 129 (by decide +kernel) rfl
    | 5, _ => exact zt 131 (by decide +kernel) rfl
    | 6, _ => exact zt 133 (by decide +kernel) rfl
    | k + 7, hk => exact absurd hk (by omega)
  intro w hw
  obtain ⟨k, hk, rfl⟩ := List.mem_map.mp hw
  exact h k (List.mem_range.mp hk), tyX0_ok, nmX0, zt 71 (by decide +kernel) rfl, zt 52 (by decide +kernel) rfl⟩
theorem zclX1 : zcl 1 RX1 TX1 5 tyX1 := ⟨rfl, by decide, rfl, by
  have h : ∀ k, k < 5 → u_lay RX1 TX1 k ∈ zTs := by
    intro k hk
    match k, hk with
    | 0, _ => exact zt 99 (by decide +kernel) rfl
    | 1, _ => exact zt 101 (by decide +kernel) rfl
    | 2, _ => exact zt 103 (by decide +kernel) rfl
    | 3, _ => exact zt 105 (by decide +kernel) rfl
    | 4, _ => exact zt 107 (by decide +kernel) rfl
    | k + 5, hk => exact absurd hk (by omega)
  intro w hw
  obtain ⟨k, hk, rfl⟩ := List.mem_map.mp hw
  exact h k (List.mem_range.mp hk), tyX1_ok, nmX1, zt 80 (by decide +kernel) rfl, zt 53 (by decide +kernel) rfl⟩
theorem zclX2 : zcl 2 RX2 TX2 10 tyX2 := ⟨rfl, by decide, rfl, by
  have h : ∀ k, k < 10 → u_lay RX2 TX2 k ∈ zTs := by
    intro k hk
    match k, hk with
    | 0, _ => exact zt 146 (by decide +kernel) rfl
    | 1, _ => exact zt 148 (by decide +kernel) rfl
    | 2, _ => exact zt 150 (by decide +kernel) rfl
    | 3, _ => exact zt 152 (by decide +kernel) rfl
    | 4, _ => exact zt 154 (by decide +kernel) rfl
    | 5, _ => exact zt 156 (by decide +kernel) rfl
    | 6, _ => exact zt 158 (by decide +kernel) rfl
    | 7, _ => exact zt 160 (by decide +kernel) rfl
    | 8, _ => exact zt 162 (by decide +kernel) rfl
    | 9, _ => exact zt 164 (by decide +kernel) rfl
    | k + 10, hk => exact absurd hk (by omega)
  intro w hw
  obtain ⟨k, hk, rfl⟩ := List.mem_map.mp hw
  exact h k (List.mem_range.mp hk), tyX2_ok, nmX2, zt 62 (by decide +kernel) rfl, zt 51 (by decide +kernel) rfl⟩
theorem zclX3 : zcl 3 RX3 TX3 19 tyX3 := ⟨rfl, by decide, rfl, by
  have h : ∀ k, k < 19 → u_lay RX3 TX3 k ∈ zTs := by
    intro k hk
    match k, hk with
    | 0, _ => exact zt 674 (by decide +kernel) rfl
    | 1, _ => exact zt 676 (by decide +kernel) rfl
    | 2, _ => exact zt 678 (by decide +kernel) rfl
    | 3, _ => exact zt 680 (by decide +kernel) rfl
    | 4, _ => exact zt 682 (by decide +kernel) rfl
    | 5, _ => exact zt 684 (by decide +kernel) rfl
    | 6, _ => exact zt 686 (by decide +kernel) rfl
    | 7, _ => exact zt 688 (by decide +kernel) rfl
    | 8, _ => exact zt 690 (by decide +kernel) rfl
    | 9, _ => exact zt 692 (by decide +kernel) rfl
    | 10, _ => exact zt 694 (by decide +kernel) rfl
    | 11, _ => exact zt 696 (by decide +kernel) rfl
    | 12, _ => exact zt 698 (by decide +kernel) rfl
    | 13, _ => exact zt 700 (by decide +kernel) rfl
    | 14, _ => exact zt 702 (by decide +kernel) rfl
    | 15, _ => exact zt 704 (by decide +kernel) rfl
    | 16, _ => exact zt 706 (by decide +kernel) rfl
    | 17, _ => exact zt 708 (by decide +kernel) rfl
    | 18, _ => exact zt 710 (by decide +kernel) rfl
    | k + 19, hk => exact absurd hk (by omega)
  intro w hw
  obtain ⟨k, hk, rfl⟩ := List.mem_map.mp hw
  exact h k (List.mem_range.mp hk), tyX3_ok, nmX3, zt 646 (by decide +kernel) rfl, zt 54 (by decide +kernel) rfl⟩
abbrev mX0_init : ZY := (yX0_init, cX0_init, 7, none, 3, 9)
theorem zyX0_init : zY mX0_init 4 := ⟨zt 74 (by decide +kernel) rfl, zt 52 (by decide +kernel) rfl, by decide +kernel, by decide +kernel, by decide +kernel, by decide⟩
theorem ziX0_init : Cond.instanceMethod yX0_init ∈ zTs := zt 73 (by decide +kernel) rfl
abbrev mX0_isName : ZY := (yX0_isName, cX0_isName, 1, (some .boolean), 1, 0)
theorem zyX0_isName : zY mX0_isName 1 := ⟨zt 284 (by decide +kernel) rfl, zt 52 (by decide +kernel) rfl, by decide +kernel, by decide +kernel, by decide +kernel, by decide⟩
theorem zsX0_isName : Cond.static yX0_isName ∈ zTs := zt 283 (by decide +kernel) rfl
abbrev mX0_meaningOf : ZY := (yX0_meaningOf, cX0_meaningOf, 2, (some .int), 2, 0)
theorem zyX0_meaningOf : zY mX0_meaningOf 1 := ⟨zt 300 (by decide +kernel) rfl, zt 52 (by decide +kernel) rfl, by decide +kernel, by decide +kernel, by decide +kernel, by decide⟩
theorem ziX0_meaningOf : Cond.instanceMethod yX0_meaningOf ∈ zTs := zt 298 (by decide +kernel) rfl
theorem zvX0_meaningOf : Cond.selects (zyn mX0_meaningOf).cls (zyn mX0_meaningOf) (zyn mX0_meaningOf) ∈ zTs := zt 299 (by decide +kernel) rfl
abbrev mX0_ageOf : ZY := (yX0_ageOf, cX0_ageOf, 2, (some .int), 2, 0)
theorem zyX0_ageOf : zY mX0_ageOf 1 := ⟨zt 428 (by decide +kernel) rfl, zt 52 (by decide +kernel) rfl, by decide +kernel, by decide +kernel, by decide +kernel, by decide⟩
theorem ziX0_ageOf : Cond.instanceMethod yX0_ageOf ∈ zTs := zt 426 (by decide +kernel) rfl
theorem zvX0_ageOf : Cond.selects (zyn mX0_ageOf).cls (zyn mX0_ageOf) (zyn mX0_ageOf) ∈ zTs := zt 427 (by decide +kernel) rfl
abbrev mX0_setMeaning : ZY := (yX0_setMeaning, cX0_setMeaning, 4, none, 2, 0)
theorem zyX0_setMeaning : zY mX0_setMeaning 3 := ⟨zt 345 (by decide +kernel) rfl, zt 52 (by decide +kernel) rfl, by decide +kernel, by decide +kernel, by decide +kernel, by decide⟩
theorem ziX0_setMeaning : Cond.instanceMethod yX0_setMeaning ∈ zTs := zt 343 (by decide +kernel) rfl
theorem zvX0_setMeaning : Cond.selects (zyn mX0_setMeaning).cls (zyn mX0_setMeaning) (zyn mX0_setMeaning) ∈ zTs := zt 344 (by decide +kernel) rfl
abbrev mX0_countTaken : ZY := (yX0_countTaken, cX0_countTaken, 3, (some .int), 1, 0)
theorem zyX0_countTaken : zY mX0_countTaken 0 := ⟨zt 406 (by decide +kernel) rfl, zt 52 (by decide +kernel) rfl, by decide +kernel, by decide +kernel, by decide +kernel, by decide⟩
theorem ziX0_countTaken : Cond.instanceMethod yX0_countTaken ∈ zTs := zt 404 (by decide +kernel) rfl
theorem zvX0_countTaken : Cond.selects (zyn mX0_countTaken).cls (zyn mX0_countTaken) (zyn mX0_countTaken) ∈ zTs := zt 405 (by decide +kernel) rfl
abbrev mX0_countLinksTo : ZY := (yX0_countLinksTo, cX0_countLinksTo, 4, (some .int), 1, 0)
theorem zyX0_countLinksTo : zY mX0_countLinksTo 1 := ⟨zt 381 (by decide +kernel) rfl, zt 52 (by decide +kernel) rfl, by decide +kernel, by decide +kernel, by decide +kernel, by decide⟩
theorem ziX0_countLinksTo : Cond.instanceMethod yX0_countLinksTo ∈ zTs := zt 379 (by decide +kernel) rfl
theorem zvX0_countLinksTo : Cond.selects (zyn mX0_countLinksTo).cls (zyn mX0_countLinksTo) (zyn mX0_countLinksTo) ∈ zTs := zt 380 (by decide +kernel) rfl
abbrev mX0_oldestLink : ZY := (yX0_oldestLink, cX0_oldestLink, 4, (some .int), 1, 0)
theorem zyX0_oldestLink : zY mX0_oldestLink 1 := ⟨zt 630 (by decide +kernel) rfl, zt 52 (by decide +kernel) rfl, by decide +kernel, by decide +kernel, by decide +kernel, by decide⟩
theorem ziX0_oldestLink : Cond.instanceMethod yX0_oldestLink ∈ zTs := zt 628 (by decide +kernel) rfl
theorem zvX0_oldestLink : Cond.selects (zyn mX0_oldestLink).cls (zyn mX0_oldestLink) (zyn mX0_oldestLink) ∈ zTs := zt 629 (by decide +kernel) rfl
abbrev mX0_isWithin : ZY := (yX0_isWithin, cX0_isWithin, 4, (some .boolean), 1, 0)
theorem zyX0_isWithin : zY mX0_isWithin 1 := ⟨zt 423 (by decide +kernel) rfl, zt 52 (by decide +kernel) rfl, by decide +kernel, by decide +kernel, by decide +kernel, by decide⟩
theorem ziX0_isWithin : Cond.instanceMethod yX0_isWithin ∈ zTs := zt 421 (by decide +kernel) rfl
theorem zvX0_isWithin : Cond.selects (zyn mX0_isWithin).cls (zyn mX0_isWithin) (zyn mX0_isWithin) ∈ zTs := zt 422 (by decide +kernel) rfl
abbrev mX0_isClient : ZY := (yX0_isClient, cX0_isClient, 1, (some .boolean), 1, 0)
theorem zyX0_isClient : zY mX0_isClient 1 := ⟨zt 281 (by decide +kernel) rfl, zt 52 (by decide +kernel) rfl, by decide +kernel, by decide +kernel, by decide +kernel, by decide⟩
theorem zsX0_isClient : Cond.static yX0_isClient ∈ zTs := zt 280 (by decide +kernel) rfl
abbrev mX0_leaseRuns : ZY := (yX0_leaseRuns, cX0_leaseRuns, 4, (some .boolean), 2, 0)
theorem zyX0_leaseRuns : zY mX0_leaseRuns 3 := ⟨zt 278 (by decide +kernel) rfl, zt 52 (by decide +kernel) rfl, by decide +kernel, by decide +kernel, by decide +kernel, by decide⟩
theorem ziX0_leaseRuns : Cond.instanceMethod yX0_leaseRuns ∈ zTs := zt 276 (by decide +kernel) rfl
theorem zvX0_leaseRuns : Cond.selects (zyn mX0_leaseRuns).cls (zyn mX0_leaseRuns) (zyn mX0_leaseRuns) ∈ zTs := zt 277 (by decide +kernel) rfl
abbrev mX0_setLeaseEnd : ZY := (yX0_setLeaseEnd, cX0_setLeaseEnd, 4, none, 2, 0)
theorem zyX0_setLeaseEnd : zY mX0_setLeaseEnd 3 := ⟨zt 296 (by decide +kernel) rfl, zt 52 (by decide +kernel) rfl, by decide +kernel, by decide +kernel, by decide +kernel, by decide⟩
theorem ziX0_setLeaseEnd : Cond.instanceMethod yX0_setLeaseEnd ∈ zTs := zt 294 (by decide +kernel) rfl
theorem zvX0_setLeaseEnd : Cond.selects (zyn mX0_setLeaseEnd).cls (zyn mX0_setLeaseEnd) (zyn mX0_setLeaseEnd) ∈ zTs := zt 295 (by decide +kernel) rfl
abbrev mX0_countLeases : ZY := (yX0_countLeases, cX0_countLeases, 5, (some .int), 3, 0)
theorem zyX0_countLeases : zY mX0_countLeases 2 := ⟨zt 447 (by decide +kernel) rfl, zt 52 (by decide +kernel) rfl, by decide +kernel, by decide +kernel, by decide +kernel, by decide⟩
theorem ziX0_countLeases : Cond.instanceMethod yX0_countLeases ∈ zTs := zt 445 (by decide +kernel) rfl
theorem zvX0_countLeases : Cond.selects (zyn mX0_countLeases).cls (zyn mX0_countLeases) (zyn mX0_countLeases) ∈ zTs := zt 446 (by decide +kernel) rfl
abbrev mX0_fragmentAt : ZY := (yX0_fragmentAt, cX0_fragmentAt, 2, (some (.object "DirectoryServers$Fragment")), 1, 0)
theorem zyX0_fragmentAt : zY mX0_fragmentAt 1 := ⟨zt 292 (by decide +kernel) rfl, zt 52 (by decide +kernel) rfl, by decide +kernel, by decide +kernel, by decide +kernel, by decide⟩
theorem ziX0_fragmentAt : Cond.instanceMethod yX0_fragmentAt ∈ zTs := zt 290 (by decide +kernel) rfl
theorem zvX0_fragmentAt : Cond.selects (zyn mX0_fragmentAt).cls (zyn mX0_fragmentAt) (zyn mX0_fragmentAt) ∈ zTs := zt 291 (by decide +kernel) rfl
abbrev mX0_fragmentOfName : ZY := (yX0_fragmentOfName, cX0_fragmentOfName, 2, (some (.object "DirectoryServers$Fragment")), 2, 0)
theorem zyX0_fragmentOfName : zY mX0_fragmentOfName 1 := ⟨zt 288 (by decide +kernel) rfl, zt 52 (by decide +kernel) rfl, by decide +kernel, by decide +kernel, by decide +kernel, by decide⟩
theorem ziX0_fragmentOfName : Cond.instanceMethod yX0_fragmentOfName ∈ zTs := zt 286 (by decide +kernel) rfl
theorem zvX0_fragmentOfName : Cond.selects (zyn mX0_fragmentOfName).cls (zyn mX0_fragmentOfName) (zyn mX0_fragmentOfName) ∈ zTs := zt 287 (by decide +kernel) rfl
abbrev mX0_fragmentBeginningAt : ZY := (yX0_fragmentBeginningAt, cX0_fragmentBeginningAt, 3, (some (.object "DirectoryServers$Fragment")), 2, 0)
theorem zyX0_fragmentBeginningAt : zY mX0_fragmentBeginningAt 1 := ⟨zt 491 (by decide +kernel) rfl, zt 52 (by decide +kernel) rfl, by decide +kernel, by decide +kernel, by decide +kernel, by decide⟩
theorem ziX0_fragmentBeginningAt : Cond.instanceMethod yX0_fragmentBeginningAt ∈ zTs := zt 489 (by decide +kernel) rfl
theorem zvX0_fragmentBeginningAt : Cond.selects (zyn mX0_fragmentBeginningAt).cls (zyn mX0_fragmentBeginningAt) (zyn mX0_fragmentBeginningAt) ∈ zTs := zt 490 (by decide +kernel) rfl
abbrev mX0_countFragments : ZY := (yX0_countFragments, cX0_countFragments, 3, (some .int), 3, 0)
theorem zyX0_countFragments : zY mX0_countFragments 0 := ⟨zt 487 (by decide +kernel) rfl, zt 52 (by decide +kernel) rfl, by decide +kernel, by decide +kernel, by decide +kernel, by decide⟩
theorem ziX0_countFragments : Cond.instanceMethod yX0_countFragments ∈ zTs := zt 485 (by decide +kernel) rfl
theorem zvX0_countFragments : Cond.selects (zyn mX0_countFragments).cls (zyn mX0_countFragments) (zyn mX0_countFragments) ∈ zTs := zt 486 (by decide +kernel) rfl
abbrev mX0_halve : ZY := (yX0_halve, cX0_halve, 5, none, 3, 1)
theorem zyX0_halve : zY mX0_halve 1 := ⟨zt 479 (by decide +kernel) rfl, zt 52 (by decide +kernel) rfl, by decide +kernel, by decide +kernel, by decide +kernel, by decide⟩
theorem ziX0_halve : Cond.instanceMethod yX0_halve ∈ zTs := zt 477 (by decide +kernel) rfl
theorem zvX0_halve : Cond.selects (zyn mX0_halve).cls (zyn mX0_halve) (zyn mX0_halve) ∈ zTs := zt 478 (by decide +kernel) rfl
abbrev mX0_join : ZY := (yX0_join, cX0_join, 3, none, 2, 0)
theorem zyX0_join : zY mX0_join 2 := ⟨zt 505 (by decide +kernel) rfl, zt 52 (by decide +kernel) rfl, by decide +kernel, by decide +kernel, by decide +kernel, by decide⟩
theorem ziX0_join : Cond.instanceMethod yX0_join ∈ zTs := zt 503 (by decide +kernel) rfl
theorem zvX0_join : Cond.selects (zyn mX0_join).cls (zyn mX0_join) (zyn mX0_join) ∈ zTs := zt 504 (by decide +kernel) rfl
abbrev mX0_putByHash : ZY := (yX0_putByHash, cX0_putByHash, 3, none, 1, 0)
theorem zyX0_putByHash : zY mX0_putByHash 1 := ⟨zt 483 (by decide +kernel) rfl, zt 52 (by decide +kernel) rfl, by decide +kernel, by decide +kernel, by decide +kernel, by decide⟩
theorem ziX0_putByHash : Cond.instanceMethod yX0_putByHash ∈ zTs := zt 482 (by decide +kernel) rfl
theorem zvX0_putByHash : Cond.selects (zyn mX0_putByHash).cls (zyn mX0_putByHash) (zyn mX0_putByHash) ∈ zTs := zt 15 (by decide +kernel) rfl
abbrev mX1_init : ZY := (yX1_init, cX1_init, 6, none, 2, 0)
theorem zyX1_init : zY mX1_init 5 := ⟨zt 83 (by decide +kernel) rfl, zt 53 (by decide +kernel) rfl, by decide +kernel, by decide +kernel, by decide +kernel, by decide⟩
theorem ziX1_init : Cond.instanceMethod yX1_init ∈ zTs := zt 82 (by decide +kernel) rfl
abbrev mX2_init : ZY := (yX2_init, cX2_init, 1, none, 4, 13)
theorem zyX2_init : zY mX2_init 0 := ⟨zt 65 (by decide +kernel) rfl, zt 51 (by decide +kernel) rfl, by decide +kernel, by decide +kernel, by decide +kernel, by decide⟩
theorem ziX2_init : Cond.instanceMethod yX2_init ∈ zTs := zt 64 (by decide +kernel) rfl
abbrev mX2_lookup : ZY := (yX2_lookup, cX2_lookup, 5, (some .int), 7, 3)
theorem zyX2_lookup : zY mX2_lookup 3 := ⟨zt 175 (by decide +kernel) rfl, zt 51 (by decide +kernel) rfl, by decide +kernel, by decide +kernel, by decide +kernel, by decide⟩
theorem ziX2_lookup : Cond.instanceMethod yX2_lookup ∈ zTs := zt 173 (by decide +kernel) rfl
theorem zvX2_lookup : Cond.selects (zyn mX2_lookup).cls (zyn mX2_lookup) (zyn mX2_lookup) ∈ zTs := zt 174 (by decide +kernel) rfl
abbrev mX2_makeDirectory : ZY := (yX2_makeDirectory, cX2_makeDirectory, 6, (some .int), 7, 15)
theorem zyX2_makeDirectory : zY mX2_makeDirectory 3 := ⟨zt 308 (by decide +kernel) rfl, zt 51 (by decide +kernel) rfl, by decide +kernel, by decide +kernel, by decide +kernel, by decide⟩
theorem ziX2_makeDirectory : Cond.instanceMethod yX2_makeDirectory ∈ zTs := zt 306 (by decide +kernel) rfl
theorem zvX2_makeDirectory : Cond.selects (zyn mX2_makeDirectory).cls (zyn mX2_makeDirectory) (zyn mX2_makeDirectory) ∈ zTs := zt 307 (by decide +kernel) rfl
abbrev mX2_makeFile : ZY := (yX2_makeFile, cX2_makeFile, 6, (some .int), 7, 5)
theorem zyX2_makeFile : zY mX2_makeFile 3 := ⟨zt 356 (by decide +kernel) rfl, zt 51 (by decide +kernel) rfl, by decide +kernel, by decide +kernel, by decide +kernel, by decide⟩
theorem ziX2_makeFile : Cond.instanceMethod yX2_makeFile ∈ zTs := zt 354 (by decide +kernel) rfl
theorem zvX2_makeFile : Cond.selects (zyn mX2_makeFile).cls (zyn mX2_makeFile) (zyn mX2_makeFile) ∈ zTs := zt 355 (by decide +kernel) rfl
abbrev mX2_link : ZY := (yX2_link, cX2_link, 7, (some .int), 7, 6)
theorem zyX2_link : zY mX2_link 4 := ⟨zt 368 (by decide +kernel) rfl, zt 51 (by decide +kernel) rfl, by decide +kernel, by decide +kernel, by decide +kernel, by decide⟩
theorem ziX2_link : Cond.instanceMethod yX2_link ∈ zTs := zt 366 (by decide +kernel) rfl
theorem zvX2_link : Cond.selects (zyn mX2_link).cls (zyn mX2_link) (zyn mX2_link) ∈ zTs := zt 367 (by decide +kernel) rfl
abbrev mX2_remove : ZY := (yX2_remove, cX2_remove, 7, (some .int), 7, 6)
theorem zyX2_remove : zY mX2_remove 3 := ⟨zt 389 (by decide +kernel) rfl, zt 51 (by decide +kernel) rfl, by decide +kernel, by decide +kernel, by decide +kernel, by decide⟩
theorem ziX2_remove : Cond.instanceMethod yX2_remove ∈ zTs := zt 387 (by decide +kernel) rfl
theorem zvX2_remove : Cond.selects (zyn mX2_remove).cls (zyn mX2_remove) (zyn mX2_remove) ∈ zTs := zt 388 (by decide +kernel) rfl
abbrev mX2_rename : ZY := (yX2_rename, cX2_rename, 11, none, 7, 8)
theorem zyX2_rename : zY mX2_rename 5 := ⟨zt 419 (by decide +kernel) rfl, zt 51 (by decide +kernel) rfl, by decide +kernel, by decide +kernel, by decide +kernel, by decide⟩
theorem ziX2_rename : Cond.instanceMethod yX2_rename ∈ zTs := zt 417 (by decide +kernel) rfl
theorem zvX2_rename : Cond.selects (zyn mX2_rename).cls (zyn mX2_rename) (zyn mX2_rename) ∈ zTs := zt 418 (by decide +kernel) rfl
abbrev mX2_pass : ZY := (yX2_pass, cX2_pass, 2, (some .int), 6, 1)
theorem zyX2_pass : zY mX2_pass 1 := ⟨zt 435 (by decide +kernel) rfl, zt 51 (by decide +kernel) rfl, by decide +kernel, by decide +kernel, by decide +kernel, by decide⟩
theorem ziX2_pass : Cond.instanceMethod yX2_pass ∈ zTs := zt 433 (by decide +kernel) rfl
theorem zvX2_pass : Cond.selects (zyn mX2_pass).cls (zyn mX2_pass) (zyn mX2_pass) ∈ zTs := zt 434 (by decide +kernel) rfl
abbrev mX2_leases : ZY := (yX2_leases, cX2_leases, 5, (some .int), 7, 1)
theorem zyX2_leases : zY mX2_leases 1 := ⟨zt 443 (by decide +kernel) rfl, zt 51 (by decide +kernel) rfl, by decide +kernel, by decide +kernel, by decide +kernel, by decide⟩
theorem ziX2_leases : Cond.instanceMethod yX2_leases ∈ zTs := zt 441 (by decide +kernel) rfl
theorem zvX2_leases : Cond.selects (zyn mX2_leases).cls (zyn mX2_leases) (zyn mX2_leases) ∈ zTs := zt 442 (by decide +kernel) rfl
abbrev mX2_recalls : ZY := (yX2_recalls, cX2_recalls, 2, (some .int), 7, 1)
theorem zyX2_recalls : zY mX2_recalls 1 := ⟨zt 455 (by decide +kernel) rfl, zt 51 (by decide +kernel) rfl, by decide +kernel, by decide +kernel, by decide +kernel, by decide⟩
theorem ziX2_recalls : Cond.instanceMethod yX2_recalls ∈ zTs := zt 453 (by decide +kernel) rfl
theorem zvX2_recalls : Cond.selects (zyn mX2_recalls).cls (zyn mX2_recalls) (zyn mX2_recalls) ∈ zTs := zt 454 (by decide +kernel) rfl
abbrev mX2_known : ZY := (yX2_known, cX2_known, 2, (some .int), 7, 1)
theorem zyX2_known : zY mX2_known 1 := ⟨zt 462 (by decide +kernel) rfl, zt 51 (by decide +kernel) rfl, by decide +kernel, by decide +kernel, by decide +kernel, by decide⟩
theorem ziX2_known : Cond.instanceMethod yX2_known ∈ zTs := zt 460 (by decide +kernel) rfl
theorem zvX2_known : Cond.selects (zyn mX2_known).cls (zyn mX2_known) (zyn mX2_known) ∈ zTs := zt 461 (by decide +kernel) rfl
abbrev mX2_split : ZY := (yX2_split, cX2_split, 5, (some .int), 7, 4)
theorem zyX2_split : zY mX2_split 2 := ⟨zt 469 (by decide +kernel) rfl, zt 51 (by decide +kernel) rfl, by decide +kernel, by decide +kernel, by decide +kernel, by decide⟩
theorem ziX2_split : Cond.instanceMethod yX2_split ∈ zTs := zt 467 (by decide +kernel) rfl
theorem zvX2_split : Cond.selects (zyn mX2_split).cls (zyn mX2_split) (zyn mX2_split) ∈ zTs := zt 468 (by decide +kernel) rfl
abbrev mX2_merge : ZY := (yX2_merge, cX2_merge, 6, (some .int), 7, 5)
theorem zyX2_merge : zY mX2_merge 2 := ⟨zt 498 (by decide +kernel) rfl, zt 51 (by decide +kernel) rfl, by decide +kernel, by decide +kernel, by decide +kernel, by decide⟩
theorem ziX2_merge : Cond.instanceMethod yX2_merge ∈ zTs := zt 496 (by decide +kernel) rfl
theorem zvX2_merge : Cond.selects (zyn mX2_merge).cls (zyn mX2_merge) (zyn mX2_merge) ∈ zTs := zt 497 (by decide +kernel) rfl
abbrev mX2_fragments : ZY := (yX2_fragments, cX2_fragments, 2, (some .int), 7, 1)
theorem zyX2_fragments : zY mX2_fragments 1 := ⟨zt 512 (by decide +kernel) rfl, zt 51 (by decide +kernel) rfl, by decide +kernel, by decide +kernel, by decide +kernel, by decide⟩
theorem ziX2_fragments : Cond.instanceMethod yX2_fragments ∈ zTs := zt 510 (by decide +kernel) rfl
theorem zvX2_fragments : Cond.selects (zyn mX2_fragments).cls (zyn mX2_fragments) (zyn mX2_fragments) ∈ zTs := zt 511 (by decide +kernel) rfl
abbrev mX2_serverOf : ZY := (yX2_serverOf, cX2_serverOf, 3, (some .int), 7, 2)
theorem zyX2_serverOf : zY mX2_serverOf 2 := ⟨zt 519 (by decide +kernel) rfl, zt 51 (by decide +kernel) rfl, by decide +kernel, by decide +kernel, by decide +kernel, by decide⟩
theorem ziX2_serverOf : Cond.instanceMethod yX2_serverOf ∈ zTs := zt 517 (by decide +kernel) rfl
theorem zvX2_serverOf : Cond.selects (zyn mX2_serverOf).cls (zyn mX2_serverOf) (zyn mX2_serverOf) ∈ zTs := zt 518 (by decide +kernel) rfl
abbrev mX2_ownerOf : ZY := (yX2_ownerOf, cX2_ownerOf, 3, (some .int), 7, 2)
theorem zyX2_ownerOf : zY mX2_ownerOf 2 := ⟨zt 530 (by decide +kernel) rfl, zt 51 (by decide +kernel) rfl, by decide +kernel, by decide +kernel, by decide +kernel, by decide⟩
theorem ziX2_ownerOf : Cond.instanceMethod yX2_ownerOf ∈ zTs := zt 528 (by decide +kernel) rfl
theorem zvX2_ownerOf : Cond.selects (zyn mX2_ownerOf).cls (zyn mX2_ownerOf) (zyn mX2_ownerOf) ∈ zTs := zt 529 (by decide +kernel) rfl
abbrev mX2_load : ZY := (yX2_load, cX2_load, 2, (some .int), 7, 1)
theorem zyX2_load : zY mX2_load 1 := ⟨zt 537 (by decide +kernel) rfl, zt 51 (by decide +kernel) rfl, by decide +kernel, by decide +kernel, by decide +kernel, by decide⟩
theorem ziX2_load : Cond.instanceMethod yX2_load ∈ zTs := zt 535 (by decide +kernel) rfl
theorem zvX2_load : Cond.selects (zyn mX2_load).cls (zyn mX2_load) (zyn mX2_load) ∈ zTs := zt 536 (by decide +kernel) rfl
abbrev mX2_beginMove : ZY := (yX2_beginMove, cX2_beginMove, 5, none, 7, 5)
theorem zyX2_beginMove : zY mX2_beginMove 3 := ⟨zt 557 (by decide +kernel) rfl, zt 51 (by decide +kernel) rfl, by decide +kernel, by decide +kernel, by decide +kernel, by decide⟩
theorem ziX2_beginMove : Cond.instanceMethod yX2_beginMove ∈ zTs := zt 555 (by decide +kernel) rfl
theorem zvX2_beginMove : Cond.selects (zyn mX2_beginMove).cls (zyn mX2_beginMove) (zyn mX2_beginMove) ∈ zTs := zt 556 (by decide +kernel) rfl
abbrev mX2_stepMove : ZY := (yX2_stepMove, cX2_stepMove, 1, (some .int), 7, 1)
theorem zyX2_stepMove : zY mX2_stepMove 0 := ⟨zt 574 (by decide +kernel) rfl, zt 51 (by decide +kernel) rfl, by decide +kernel, by decide +kernel, by decide +kernel, by decide⟩
theorem ziX2_stepMove : Cond.instanceMethod yX2_stepMove ∈ zTs := zt 572 (by decide +kernel) rfl
theorem zvX2_stepMove : Cond.selects (zyn mX2_stepMove).cls (zyn mX2_stepMove) (zyn mX2_stepMove) ∈ zTs := zt 573 (by decide +kernel) rfl
abbrev mX2_giveUpMove : ZY := (yX2_giveUpMove, cX2_giveUpMove, 1, (some .int), 6, 1)
theorem zyX2_giveUpMove : zY mX2_giveUpMove 0 := ⟨zt 590 (by decide +kernel) rfl, zt 51 (by decide +kernel) rfl, by decide +kernel, by decide +kernel, by decide +kernel, by decide⟩
theorem ziX2_giveUpMove : Cond.instanceMethod yX2_giveUpMove ∈ zTs := zt 588 (by decide +kernel) rfl
theorem zvX2_giveUpMove : Cond.selects (zyn mX2_giveUpMove).cls (zyn mX2_giveUpMove) (zyn mX2_giveUpMove) ∈ zTs := zt 589 (by decide +kernel) rfl
abbrev mX2_isFrozen : ZY := (yX2_isFrozen, cX2_isFrozen, 3, (some .boolean), 7, 2)
theorem zyX2_isFrozen : zY mX2_isFrozen 2 := ⟨zt 597 (by decide +kernel) rfl, zt 51 (by decide +kernel) rfl, by decide +kernel, by decide +kernel, by decide +kernel, by decide⟩
theorem ziX2_isFrozen : Cond.instanceMethod yX2_isFrozen ∈ zTs := zt 595 (by decide +kernel) rfl
theorem zvX2_isFrozen : Cond.selects (zyn mX2_isFrozen).cls (zyn mX2_isFrozen) (zyn mX2_isFrozen) ∈ zTs := zt 596 (by decide +kernel) rfl
abbrev mX2_balance : ZY := (yX2_balance, cX2_balance, 7, (some .int), 7, 1)
theorem zyX2_balance : zY mX2_balance 0 := ⟨zt 604 (by decide +kernel) rfl, zt 51 (by decide +kernel) rfl, by decide +kernel, by decide +kernel, by decide +kernel, by decide⟩
theorem ziX2_balance : Cond.instanceMethod yX2_balance ∈ zTs := zt 602 (by decide +kernel) rfl
theorem zvX2_balance : Cond.selects (zyn mX2_balance).cls (zyn mX2_balance) (zyn mX2_balance) ∈ zTs := zt 603 (by decide +kernel) rfl
abbrev mX2_links : ZY := (yX2_links, cX2_links, 2, (some .int), 7, 1)
theorem zyX2_links : zY mX2_links 1 := ⟨zt 619 (by decide +kernel) rfl, zt 51 (by decide +kernel) rfl, by decide +kernel, by decide +kernel, by decide +kernel, by decide⟩
theorem ziX2_links : Cond.instanceMethod yX2_links ∈ zTs := zt 617 (by decide +kernel) rfl
theorem zvX2_links : Cond.selects (zyn mX2_links).cls (zyn mX2_links) (zyn mX2_links) ∈ zTs := zt 618 (by decide +kernel) rfl
abbrev mX2_anchor : ZY := (yX2_anchor, cX2_anchor, 7, (some .int), 7, 1)
theorem zyX2_anchor : zY mX2_anchor 1 := ⟨zt 626 (by decide +kernel) rfl, zt 51 (by decide +kernel) rfl, by decide +kernel, by decide +kernel, by decide +kernel, by decide⟩
theorem ziX2_anchor : Cond.instanceMethod yX2_anchor ∈ zTs := zt 624 (by decide +kernel) rfl
theorem zvX2_anchor : Cond.selects (zyn mX2_anchor).cls (zyn mX2_anchor) (zyn mX2_anchor) ∈ zTs := zt 625 (by decide +kernel) rfl
abbrev mX2_byTree : ZY := (yX2_byTree, cX2_byTree, 3, (some .int), 7, 2)
theorem zyX2_byTree : zY mX2_byTree 2 := ⟨zt 637 (by decide +kernel) rfl, zt 51 (by decide +kernel) rfl, by decide +kernel, by decide +kernel, by decide +kernel, by decide⟩
theorem ziX2_byTree : Cond.instanceMethod yX2_byTree ∈ zTs := zt 635 (by decide +kernel) rfl
theorem zvX2_byTree : Cond.selects (zyn mX2_byTree).cls (zyn mX2_byTree) (zyn mX2_byTree) ∈ zTs := zt 636 (by decide +kernel) rfl
abbrev mX2_size : ZY := (yX2_size, cX2_size, 2, (some .int), 7, 1)
theorem zyX2_size : zY mX2_size 1 := ⟨zt 644 (by decide +kernel) rfl, zt 51 (by decide +kernel) rfl, by decide +kernel, by decide +kernel, by decide +kernel, by decide⟩
theorem ziX2_size : Cond.instanceMethod yX2_size ∈ zTs := zt 642 (by decide +kernel) rfl
theorem zvX2_size : Cond.selects (zyn mX2_size).cls (zyn mX2_size) (zyn mX2_size) ∈ zTs := zt 643 (by decide +kernel) rfl
abbrev mX2_needClient : ZY := (yX2_needClient, cX2_needClient, 1, none, 6, 1)
theorem zyX2_needClient : zY mX2_needClient 1 := ⟨zt 178 (by decide +kernel) rfl, zt 51 (by decide +kernel) rfl, by decide +kernel, by decide +kernel, by decide +kernel, by decide⟩
theorem zsX2_needClient : Cond.static yX2_needClient ∈ zTs := zt 177 (by decide +kernel) rfl
abbrev mX2_needServer : ZY := (yX2_needServer, cX2_needServer, 1, none, 6, 1)
theorem zyX2_needServer : zY mX2_needServer 1 := ⟨zt 540 (by decide +kernel) rfl, zt 51 (by decide +kernel) rfl, by decide +kernel, by decide +kernel, by decide +kernel, by decide⟩
theorem zsX2_needServer : Cond.static yX2_needServer ∈ zTs := zt 539 (by decide +kernel) rfl
abbrev mX2_needName : ZY := (yX2_needName, cX2_needName, 1, none, 6, 1)
theorem zyX2_needName : zY mX2_needName 1 := ⟨zt 249 (by decide +kernel) rfl, zt 51 (by decide +kernel) rfl, by decide +kernel, by decide +kernel, by decide +kernel, by decide⟩
theorem zsX2_needName : Cond.static yX2_needName ∈ zTs := zt 248 (by decide +kernel) rfl
abbrev mX2_needHash : ZY := (yX2_needHash, cX2_needHash, 1, none, 6, 1)
theorem zyX2_needHash : zY mX2_needHash 1 := ⟨zt 472 (by decide +kernel) rfl, zt 51 (by decide +kernel) rfl, by decide +kernel, by decide +kernel, by decide +kernel, by decide⟩
theorem zsX2_needHash : Cond.static yX2_needHash ∈ zTs := zt 471 (by decide +kernel) rfl
abbrev mX2_needDirectory : ZY := (yX2_needDirectory, cX2_needDirectory, 3, (some (.object "DirectoryServers$Directory")), 6, 1)
theorem zyX2_needDirectory : zY mX2_needDirectory 1 := ⟨zt 254 (by decide +kernel) rfl, zt 51 (by decide +kernel) rfl, by decide +kernel, by decide +kernel, by decide +kernel, by decide⟩
theorem ziX2_needDirectory : Cond.instanceMethod yX2_needDirectory ∈ zTs := zt 253 (by decide +kernel) rfl
theorem zvX2_needDirectory : Cond.selects (zyn mX2_needDirectory).cls (zyn mX2_needDirectory) (zyn mX2_needDirectory) ∈ zTs := zt 1 (by decide +kernel) rfl
abbrev mX2_needFile : ZY := (yX2_needFile, cX2_needFile, 2, none, 6, 1)
theorem zyX2_needFile : zY mX2_needFile 1 := ⟨zt 372 (by decide +kernel) rfl, zt 51 (by decide +kernel) rfl, by decide +kernel, by decide +kernel, by decide +kernel, by decide⟩
theorem ziX2_needFile : Cond.instanceMethod yX2_needFile ∈ zTs := zt 371 (by decide +kernel) rfl
theorem zvX2_needFile : Cond.selects (zyn mX2_needFile).cls (zyn mX2_needFile) (zyn mX2_needFile) ∈ zTs := zt 9 (by decide +kernel) rfl
abbrev mX2_needFree : ZY := (yX2_needFree, cX2_needFree, 3, none, 6, 1)
theorem zyX2_needFree : zY mX2_needFree 2 := ⟨zt 312 (by decide +kernel) rfl, zt 51 (by decide +kernel) rfl, by decide +kernel, by decide +kernel, by decide +kernel, by decide⟩
theorem ziX2_needFree : Cond.instanceMethod yX2_needFree ∈ zTs := zt 311 (by decide +kernel) rfl
theorem zvX2_needFree : Cond.selects (zyn mX2_needFree).cls (zyn mX2_needFree) (zyn mX2_needFree) ∈ zTs := zt 3 (by decide +kernel) rfl
abbrev mX2_needTaken : ZY := (yX2_needTaken, cX2_needTaken, 3, none, 6, 1)
theorem zyX2_needTaken : zY mX2_needTaken 2 := ⟨zt 393 (by decide +kernel) rfl, zt 51 (by decide +kernel) rfl, by decide +kernel, by decide +kernel, by decide +kernel, by decide⟩
theorem ziX2_needTaken : Cond.instanceMethod yX2_needTaken ∈ zTs := zt 392 (by decide +kernel) rfl
theorem zvX2_needTaken : Cond.selects (zyn mX2_needTaken).cls (zyn mX2_needTaken) (zyn mX2_needTaken) ∈ zTs := zt 11 (by decide +kernel) rfl
abbrev mX2_needRemovable : ZY := (yX2_needRemovable, cX2_needRemovable, 2, none, 6, 2)
theorem zyX2_needRemovable : zY mX2_needRemovable 1 := ⟨zt 402 (by decide +kernel) rfl, zt 51 (by decide +kernel) rfl, by decide +kernel, by decide +kernel, by decide +kernel, by decide⟩
theorem ziX2_needRemovable : Cond.instanceMethod yX2_needRemovable ∈ zTs := zt 401 (by decide +kernel) rfl
theorem zvX2_needRemovable : Cond.selects (zyn mX2_needRemovable).cls (zyn mX2_needRemovable) (zyn mX2_needRemovable) ∈ zTs := zt 13 (by decide +kernel) rfl
abbrev mX2_needNoMove : ZY := (yX2_needNoMove, cX2_needNoMove, 1, none, 6, 1)
theorem zyX2_needNoMove : zY mX2_needNoMove 0 := ⟨zt 561 (by decide +kernel) rfl, zt 51 (by decide +kernel) rfl, by decide +kernel, by decide +kernel, by decide +kernel, by decide⟩
theorem ziX2_needNoMove : Cond.instanceMethod yX2_needNoMove ∈ zTs := zt 560 (by decide +kernel) rfl
theorem zvX2_needNoMove : Cond.selects (zyn mX2_needNoMove).cls (zyn mX2_needNoMove) (zyn mX2_needNoMove) ∈ zTs := zt 19 (by decide +kernel) rfl
abbrev mX2_directoryNumbered : ZY := (yX2_directoryNumbered, cX2_directoryNumbered, 2, (some (.object "DirectoryServers$Directory")), 1, 0)
theorem zyX2_directoryNumbered : zY mX2_directoryNumbered 1 := ⟨zt 258 (by decide +kernel) rfl, zt 51 (by decide +kernel) rfl, by decide +kernel, by decide +kernel, by decide +kernel, by decide⟩
theorem ziX2_directoryNumbered : Cond.instanceMethod yX2_directoryNumbered ∈ zTs := zt 257 (by decide +kernel) rfl
theorem zvX2_directoryNumbered : Cond.selects (zyn mX2_directoryNumbered).cls (zyn mX2_directoryNumbered) (zyn mX2_directoryNumbered) ∈ zTs := zt 2 (by decide +kernel) rfl
abbrev mX2_directoryMeant : ZY := (yX2_directoryMeant, cX2_directoryMeant, 2, (some (.object "DirectoryServers$Directory")), 2, 0)
theorem zyX2_directoryMeant : zY mX2_directoryMeant 1 := ⟨zt 398 (by decide +kernel) rfl, zt 51 (by decide +kernel) rfl, by decide +kernel, by decide +kernel, by decide +kernel, by decide⟩
theorem ziX2_directoryMeant : Cond.instanceMethod yX2_directoryMeant ∈ zTs := zt 397 (by decide +kernel) rfl
theorem zvX2_directoryMeant : Cond.selects (zyn mX2_directoryMeant).cls (zyn mX2_directoryMeant) (zyn mX2_directoryMeant) ∈ zTs := zt 12 (by decide +kernel) rfl
abbrev mX2_dropDirectory : ZY := (yX2_dropDirectory, cX2_dropDirectory, 2, none, 1, 0)
theorem zyX2_dropDirectory : zY mX2_dropDirectory 1 := ⟨zt 412 (by decide +kernel) rfl, zt 51 (by decide +kernel) rfl, by decide +kernel, by decide +kernel, by decide +kernel, by decide⟩
theorem ziX2_dropDirectory : Cond.instanceMethod yX2_dropDirectory ∈ zTs := zt 411 (by decide +kernel) rfl
theorem zvX2_dropDirectory : Cond.selects (zyn mX2_dropDirectory).cls (zyn mX2_dropDirectory) (zyn mX2_dropDirectory) ∈ zTs := zt 14 (by decide +kernel) rfl
abbrev mX2_makeLink : ZY := (yX2_makeLink, cX2_makeLink, 5, none, 5, 0)
theorem zyX2_makeLink : zY mX2_makeLink 4 := ⟨zt 361 (by decide +kernel) rfl, zt 51 (by decide +kernel) rfl, by decide +kernel, by decide +kernel, by decide +kernel, by decide⟩
theorem ziX2_makeLink : Cond.instanceMethod yX2_makeLink ∈ zTs := zt 360 (by decide +kernel) rfl
theorem zvX2_makeLink : Cond.selects (zyn mX2_makeLink).cls (zyn mX2_makeLink) (zyn mX2_makeLink) ∈ zTs := zt 8 (by decide +kernel) rfl
abbrev mX2_changeName : ZY := (yX2_changeName, cX2_changeName, 6, none, 4, 0)
theorem zyX2_changeName : zY mX2_changeName 5 := ⟨zt 341 (by decide +kernel) rfl, zt 51 (by decide +kernel) rfl, by decide +kernel, by decide +kernel, by decide +kernel, by decide⟩
theorem ziX2_changeName : Cond.instanceMethod yX2_changeName ∈ zTs := zt 340 (by decide +kernel) rfl
theorem zvX2_changeName : Cond.selects (zyn mX2_changeName).cls (zyn mX2_changeName) (zyn mX2_changeName) ∈ zTs := zt 6 (by decide +kernel) rfl
abbrev mX2_endLeases : ZY := (yX2_endLeases, cX2_endLeases, 5, none, 3, 0)
theorem zyX2_endLeases : zY mX2_endLeases 3 := ⟨zt 349 (by decide +kernel) rfl, zt 51 (by decide +kernel) rfl, by decide +kernel, by decide +kernel, by decide +kernel, by decide⟩
theorem ziX2_endLeases : Cond.instanceMethod yX2_endLeases ∈ zTs := zt 348 (by decide +kernel) rfl
theorem zvX2_endLeases : Cond.selects (zyn mX2_endLeases).cls (zyn mX2_endLeases) (zyn mX2_endLeases) ∈ zTs := zt 7 (by decide +kernel) rfl
abbrev mX2_recallFrozenNames : ZY := (yX2_recallFrozenNames, cX2_recallFrozenNames, 3, none, 6, 0)
theorem zyX2_recallFrozenNames : zY mX2_recallFrozenNames 0 := ⟨zt 579 (by decide +kernel) rfl, zt 51 (by decide +kernel) rfl, by decide +kernel, by decide +kernel, by decide +kernel, by decide⟩
theorem ziX2_recallFrozenNames : Cond.instanceMethod yX2_recallFrozenNames ∈ zTs := zt 578 (by decide +kernel) rfl
theorem zvX2_recallFrozenNames : Cond.selects (zyn mX2_recallFrozenNames).cls (zyn mX2_recallFrozenNames) (zyn mX2_recallFrozenNames) ∈ zTs := zt 21 (by decide +kernel) rfl
abbrev mX2_recallFrozenNamesOf : ZY := (yX2_recallFrozenNamesOf, cX2_recallFrozenNamesOf, 3, none, 5, 0)
theorem zyX2_recallFrozenNamesOf : zY mX2_recallFrozenNamesOf 1 := ⟨zt 583 (by decide +kernel) rfl, zt 51 (by decide +kernel) rfl, by decide +kernel, by decide +kernel, by decide +kernel, by decide⟩
theorem ziX2_recallFrozenNamesOf : Cond.instanceMethod yX2_recallFrozenNamesOf ∈ zTs := zt 582 (by decide +kernel) rfl
theorem zvX2_recallFrozenNamesOf : Cond.selects (zyn mX2_recallFrozenNamesOf).cls (zyn mX2_recallFrozenNamesOf) (zyn mX2_recallFrozenNamesOf) ∈ zTs := zt 22 (by decide +kernel) rfl
abbrev mX2_countLinks : ZY := (yX2_countLinks, cX2_countLinks, 5, (some .int), 2, 0)
theorem zyX2_countLinks : zY mX2_countLinks 1 := ⟨zt 377 (by decide +kernel) rfl, zt 51 (by decide +kernel) rfl, by decide +kernel, by decide +kernel, by decide +kernel, by decide⟩
theorem ziX2_countLinks : Cond.instanceMethod yX2_countLinks ∈ zTs := zt 376 (by decide +kernel) rfl
theorem zvX2_countLinks : Cond.selects (zyn mX2_countLinks).cls (zyn mX2_countLinks) (zyn mX2_countLinks) ∈ zTs := zt 10 (by decide +kernel) rfl
abbrev mX2_serverOfFragment : ZY := (yX2_serverOfFragment, cX2_serverOfFragment, 4, (some .int), 4, 0)
theorem zyX2_serverOfFragment : zY mX2_serverOfFragment 1 := ⟨zt 523 (by decide +kernel) rfl, zt 51 (by decide +kernel) rfl, by decide +kernel, by decide +kernel, by decide +kernel, by decide⟩
theorem ziX2_serverOfFragment : Cond.instanceMethod yX2_serverOfFragment ∈ zTs := zt 522 (by decide +kernel) rfl
theorem zvX2_serverOfFragment : Cond.selects (zyn mX2_serverOfFragment).cls (zyn mX2_serverOfFragment) (zyn mX2_serverOfFragment) ∈ zTs := zt 16 (by decide +kernel) rfl
abbrev mX2_fragmentAbove : ZY := (yX2_fragmentAbove, cX2_fragmentAbove, 3, (some (.object "DirectoryServers$Fragment")), 3, 0)
theorem zyX2_fragmentAbove : zY mX2_fragmentAbove 1 := ⟨zt 320 (by decide +kernel) rfl, zt 51 (by decide +kernel) rfl, by decide +kernel, by decide +kernel, by decide +kernel, by decide⟩
theorem ziX2_fragmentAbove : Cond.instanceMethod yX2_fragmentAbove ∈ zTs := zt 319 (by decide +kernel) rfl
theorem zvX2_fragmentAbove : Cond.selects (zyn mX2_fragmentAbove).cls (zyn mX2_fragmentAbove) (zyn mX2_fragmentAbove) ∈ zTs := zt 5 (by decide +kernel) rfl
abbrev mX2_frozen : ZY := (yX2_frozen, cX2_frozen, 4, (some .boolean), 4, 0)
theorem zyX2_frozen : zY mX2_frozen 1 := ⟨zt 316 (by decide +kernel) rfl, zt 51 (by decide +kernel) rfl, by decide +kernel, by decide +kernel, by decide +kernel, by decide⟩
theorem ziX2_frozen : Cond.instanceMethod yX2_frozen ∈ zTs := zt 315 (by decide +kernel) rfl
theorem zvX2_frozen : Cond.selects (zyn mX2_frozen).cls (zyn mX2_frozen) (zyn mX2_frozen) ∈ zTs := zt 4 (by decide +kernel) rfl
abbrev mX2_startMove : ZY := (yX2_startMove, cX2_startMove, 3, none, 1, 0)
theorem zyX2_startMove : zY mX2_startMove 2 := ⟨zt 567 (by decide +kernel) rfl, zt 51 (by decide +kernel) rfl, by decide +kernel, by decide +kernel, by decide +kernel, by decide⟩
theorem ziX2_startMove : Cond.instanceMethod yX2_startMove ∈ zTs := zt 566 (by decide +kernel) rfl
theorem zvX2_startMove : Cond.selects (zyn mX2_startMove).cls (zyn mX2_startMove) (zyn mX2_startMove) ∈ zTs := zt 20 (by decide +kernel) rfl
abbrev mX2_loadOfServer : ZY := (yX2_loadOfServer, cX2_loadOfServer, 5, (some .int), 5, 0)
theorem zyX2_loadOfServer : zY mX2_loadOfServer 1 := ⟨zt 545 (by decide +kernel) rfl, zt 51 (by decide +kernel) rfl, by decide +kernel, by decide +kernel, by decide +kernel, by decide⟩
theorem ziX2_loadOfServer : Cond.instanceMethod yX2_loadOfServer ∈ zTs := zt 544 (by decide +kernel) rfl
theorem zvX2_loadOfServer : Cond.selects (zyn mX2_loadOfServer).cls (zyn mX2_loadOfServer) (zyn mX2_loadOfServer) ∈ zTs := zt 17 (by decide +kernel) rfl
abbrev mX2_heaviestFragment : ZY := (yX2_heaviestFragment, cX2_heaviestFragment, 7, (some (.object "DirectoryServers$Fragment")), 5, 0)
theorem zyX2_heaviestFragment : zY mX2_heaviestFragment 2 := ⟨zt 608 (by decide +kernel) rfl, zt 51 (by decide +kernel) rfl, by decide +kernel, by decide +kernel, by decide +kernel, by decide⟩
theorem ziX2_heaviestFragment : Cond.instanceMethod yX2_heaviestFragment ∈ zTs := zt 607 (by decide +kernel) rfl
theorem zvX2_heaviestFragment : Cond.selects (zyn mX2_heaviestFragment).cls (zyn mX2_heaviestFragment) (zyn mX2_heaviestFragment) ∈ zTs := zt 23 (by decide +kernel) rfl
abbrev mX2_halveLoads : ZY := (yX2_halveLoads, cX2_halveLoads, 3, none, 4, 0)
theorem zyX2_halveLoads : zY mX2_halveLoads 0 := ⟨zt 612 (by decide +kernel) rfl, zt 51 (by decide +kernel) rfl, by decide +kernel, by decide +kernel, by decide +kernel, by decide⟩
theorem ziX2_halveLoads : Cond.instanceMethod yX2_halveLoads ∈ zTs := zt 611 (by decide +kernel) rfl
theorem zvX2_halveLoads : Cond.selects (zyn mX2_halveLoads).cls (zyn mX2_halveLoads) (zyn mX2_halveLoads) ∈ zTs := zt 24 (by decide +kernel) rfl
abbrev mX2_fragmentInSlot : ZY := (yX2_fragmentInSlot, cX2_fragmentInSlot, 3, (some (.object "DirectoryServers$Fragment")), 3, 0)
theorem zyX2_fragmentInSlot : zY mX2_fragmentInSlot 1 := ⟨zt 549 (by decide +kernel) rfl, zt 51 (by decide +kernel) rfl, by decide +kernel, by decide +kernel, by decide +kernel, by decide⟩
theorem ziX2_fragmentInSlot : Cond.instanceMethod yX2_fragmentInSlot ∈ zTs := zt 548 (by decide +kernel) rfl
theorem zvX2_fragmentInSlot : Cond.selects (zyn mX2_fragmentInSlot).cls (zyn mX2_fragmentInSlot) (zyn mX2_fragmentInSlot) ∈ zTs := zt 18 (by decide +kernel) rfl
abbrev mX3_init : ZY := (yX3_init, cX3_init, 2, none, 2, 69)
theorem zyX3_init : zY mX3_init 0 := ⟨zt 649 (by decide +kernel) rfl, zt 54 (by decide +kernel) rfl, by decide +kernel, by decide +kernel, by decide +kernel, by decide⟩
theorem ziX3_init : Cond.instanceMethod yX3_init ∈ zTs := zt 648 (by decide +kernel) rfl
abbrev mX3_thrown : ZY := (yX3_thrown, cX3_thrown, 1, (some .int), 1, 0)
theorem zyX3_thrown : zY mX3_thrown 0 := ⟨zt 717 (by decide +kernel) rfl, zt 54 (by decide +kernel) rfl, by decide +kernel, by decide +kernel, by decide +kernel, by decide⟩
theorem ziX3_thrown : Cond.instanceMethod yX3_thrown ∈ zTs := zt 715 (by decide +kernel) rfl
theorem zvX3_thrown : Cond.selects (zyn mX3_thrown).cls (zyn mX3_thrown) (zyn mX3_thrown) ∈ zTs := zt 716 (by decide +kernel) rfl
abbrev mX3_fails : ZY := (yX3_fails, cX3_fails, 2, (some .int), 1, 0)
theorem zyX3_fails : zY mX3_fails 1 := ⟨zt 840 (by decide +kernel) rfl, zt 54 (by decide +kernel) rfl, by decide +kernel, by decide +kernel, by decide +kernel, by decide⟩
theorem ziX3_fails : Cond.instanceMethod yX3_fails ∈ zTs := zt 839 (by decide +kernel) rfl
theorem zvX3_fails : Cond.selects (zyn mX3_fails).cls (zyn mX3_fails) (zyn mX3_fails) ∈ zTs := zt 43 (by decide +kernel) rfl
abbrev mX3_in : ZY := (yX3_in, cX3_in, 3, (some .boolean), 1, 0)
theorem zyX3_in : zY mX3_in 3 := ⟨zt 731 (by decide +kernel) rfl, zt 54 (by decide +kernel) rfl, by decide +kernel, by decide +kernel, by decide +kernel, by decide⟩
theorem zsX3_in : Cond.static yX3_in ∈ zTs := zt 730 (by decide +kernel) rfl
abbrev mX3_isName : ZY := (yX3_isName, cX3_isName, 1, (some .boolean), 2, 0)
theorem zyX3_isName : zY mX3_isName 1 := ⟨zt 734 (by decide +kernel) rfl, zt 54 (by decide +kernel) rfl, by decide +kernel, by decide +kernel, by decide +kernel, by decide⟩
theorem zsX3_isName : Cond.static yX3_isName ∈ zTs := zt 733 (by decide +kernel) rfl
abbrev mX3_isHash : ZY := (yX3_isHash, cX3_isHash, 1, (some .boolean), 2, 0)
theorem zyX3_isHash : zY mX3_isHash 1 := ⟨zt 855 (by decide +kernel) rfl, zt 54 (by decide +kernel) rfl, by decide +kernel, by decide +kernel, by decide +kernel, by decide⟩
theorem zsX3_isHash : Cond.static yX3_isHash ∈ zTs := zt 854 (by decide +kernel) rfl
abbrev mX3_isClient : ZY := (yX3_isClient, cX3_isClient, 1, (some .boolean), 2, 0)
theorem zyX3_isClient : zY mX3_isClient 1 := ⟨zt 728 (by decide +kernel) rfl, zt 54 (by decide +kernel) rfl, by decide +kernel, by decide +kernel, by decide +kernel, by decide⟩
theorem zsX3_isClient : Cond.static yX3_isClient ∈ zTs := zt 727 (by decide +kernel) rfl
abbrev mX3_isDirectory : ZY := (yX3_isDirectory, cX3_isDirectory, 2, (some .boolean), 2, 0)
theorem zyX3_isDirectory : zY mX3_isDirectory 1 := ⟨zt 738 (by decide +kernel) rfl, zt 54 (by decide +kernel) rfl, by decide +kernel, by decide +kernel, by decide +kernel, by decide⟩
theorem ziX3_isDirectory : Cond.instanceMethod yX3_isDirectory ∈ zTs := zt 737 (by decide +kernel) rfl
theorem zvX3_isDirectory : Cond.selects (zyn mX3_isDirectory).cls (zyn mX3_isDirectory) (zyn mX3_isDirectory) ∈ zTs := zt 27 (by decide +kernel) rfl
abbrev mX3_at : ZY := (yX3_at, cX3_at, 2, (some .int), 1, 0)
theorem zyX3_at : zY mX3_at 2 := ⟨zt 741 (by decide +kernel) rfl, zt 54 (by decide +kernel) rfl, by decide +kernel, by decide +kernel, by decide +kernel, by decide⟩
theorem zsX3_at : Cond.static yX3_at ∈ zTs := zt 740 (by decide +kernel) rfl
abbrev mX3_hash : ZY := (yX3_hash, cX3_hash, 1, (some .int), 1, 0)
theorem zyX3_hash : zY mX3_hash 1 := ⟨zt 752 (by decide +kernel) rfl, zt 54 (by decide +kernel) rfl, by decide +kernel, by decide +kernel, by decide +kernel, by decide⟩
theorem zsX3_hash : Cond.static yX3_hash ∈ zTs := zt 751 (by decide +kernel) rfl
abbrev mX3_begins : ZY := (yX3_begins, cX3_begins, 4, none, 1, 0)
theorem zyX3_begins : zY mX3_begins 2 := ⟨zt 654 (by decide +kernel) rfl, zt 54 (by decide +kernel) rfl, by decide +kernel, by decide +kernel, by decide +kernel, by decide⟩
theorem ziX3_begins : Cond.instanceMethod yX3_begins ∈ zTs := zt 653 (by decide +kernel) rfl
theorem zvX3_begins : Cond.selects (zyn mX3_begins).cls (zyn mX3_begins) (zyn mX3_begins) ∈ zTs := zt 25 (by decide +kernel) rfl
abbrev mX3_fragment : ZY := (yX3_fragment, cX3_fragment, 4, (some .int), 1, 0)
theorem zyX3_fragment : zY mX3_fragment 2 := ⟨zt 756 (by decide +kernel) rfl, zt 54 (by decide +kernel) rfl, by decide +kernel, by decide +kernel, by decide +kernel, by decide⟩
theorem ziX3_fragment : Cond.instanceMethod yX3_fragment ∈ zTs := zt 755 (by decide +kernel) rfl
theorem zvX3_fragment : Cond.selects (zyn mX3_fragment).cls (zyn mX3_fragment) (zyn mX3_fragment) ∈ zTs := zt 30 (by decide +kernel) rfl
abbrev mX3_fragmentOfName : ZY := (yX3_fragmentOfName, cX3_fragmentOfName, 3, (some .int), 2, 0)
theorem zyX3_fragmentOfName : zY mX3_fragmentOfName 2 := ⟨zt 749 (by decide +kernel) rfl, zt 54 (by decide +kernel) rfl, by decide +kernel, by decide +kernel, by decide +kernel, by decide⟩
theorem ziX3_fragmentOfName : Cond.instanceMethod yX3_fragmentOfName ∈ zTs := zt 748 (by decide +kernel) rfl
theorem zvX3_fragmentOfName : Cond.selects (zyn mX3_fragmentOfName).cls (zyn mX3_fragmentOfName) (zyn mX3_fragmentOfName) ∈ zTs := zt 29 (by decide +kernel) rfl
abbrev mX3_inherited : ZY := (yX3_inherited, cX3_inherited, 3, (some .int), 3, 0)
theorem zyX3_inherited : zY mX3_inherited 1 := ⟨zt 776 (by decide +kernel) rfl, zt 54 (by decide +kernel) rfl, by decide +kernel, by decide +kernel, by decide +kernel, by decide⟩
theorem ziX3_inherited : Cond.instanceMethod yX3_inherited ∈ zTs := zt 775 (by decide +kernel) rfl
theorem zvX3_inherited : Cond.selects (zyn mX3_inherited).cls (zyn mX3_inherited) (zyn mX3_inherited) ∈ zTs := zt 34 (by decide +kernel) rfl
abbrev mX3_server : ZY := (yX3_server, cX3_server, 3, (some .int), 4, 0)
theorem zyX3_server : zY mX3_server 1 := ⟨zt 879 (by decide +kernel) rfl, zt 54 (by decide +kernel) rfl, by decide +kernel, by decide +kernel, by decide +kernel, by decide⟩
theorem ziX3_server : Cond.instanceMethod yX3_server ∈ zTs := zt 878 (by decide +kernel) rfl
theorem zvX3_server : Cond.selects (zyn mX3_server).cls (zyn mX3_server) (zyn mX3_server) ∈ zTs := zt 47 (by decide +kernel) rfl
abbrev mX3_frozen : ZY := (yX3_frozen, cX3_frozen, 3, (some .boolean), 4, 0)
theorem zyX3_frozen : zY mX3_frozen 1 := ⟨zt 772 (by decide +kernel) rfl, zt 54 (by decide +kernel) rfl, by decide +kernel, by decide +kernel, by decide +kernel, by decide⟩
theorem ziX3_frozen : Cond.instanceMethod yX3_frozen ∈ zTs := zt 771 (by decide +kernel) rfl
theorem zvX3_frozen : Cond.selects (zyn mX3_frozen).cls (zyn mX3_frozen) (zyn mX3_frozen) ∈ zTs := zt 33 (by decide +kernel) rfl
abbrev mX3_isFrozenName : ZY := (yX3_isFrozenName, cX3_isFrozenName, 3, (some .boolean), 5, 0)
theorem zyX3_isFrozenName : zY mX3_isFrozenName 2 := ⟨zt 768 (by decide +kernel) rfl, zt 54 (by decide +kernel) rfl, by decide +kernel, by decide +kernel, by decide +kernel, by decide⟩
theorem ziX3_isFrozenName : Cond.instanceMethod yX3_isFrozenName ∈ zTs := zt 767 (by decide +kernel) rfl
theorem zvX3_isFrozenName : Cond.selects (zyn mX3_isFrozenName).cls (zyn mX3_isFrozenName) (zyn mX3_isFrozenName) ∈ zTs := zt 32 (by decide +kernel) rfl
abbrev mX3_runs : ZY := (yX3_runs, cX3_runs, 3, (some .boolean), 1, 0)
theorem zyX3_runs : zY mX3_runs 2 := ⟨zt 745 (by decide +kernel) rfl, zt 54 (by decide +kernel) rfl, by decide +kernel, by decide +kernel, by decide +kernel, by decide⟩
theorem ziX3_runs : Cond.instanceMethod yX3_runs ∈ zTs := zt 744 (by decide +kernel) rfl
theorem zvX3_runs : Cond.selects (zyn mX3_runs).cls (zyn mX3_runs) (zyn mX3_runs) ∈ zTs := zt 28 (by decide +kernel) rfl
abbrev mX3_ends : ZY := (yX3_ends, cX3_ends, 4, none, 2, 0)
theorem zyX3_ends : zY mX3_ends 2 := ⟨zt 784 (by decide +kernel) rfl, zt 54 (by decide +kernel) rfl, by decide +kernel, by decide +kernel, by decide +kernel, by decide⟩
theorem ziX3_ends : Cond.instanceMethod yX3_ends ∈ zTs := zt 783 (by decide +kernel) rfl
theorem zvX3_ends : Cond.selects (zyn mX3_ends).cls (zyn mX3_ends) (zyn mX3_ends) ∈ zTs := zt 36 (by decide +kernel) rfl
abbrev mX3_changes : ZY := (yX3_changes, cX3_changes, 4, none, 3, 0)
theorem zyX3_changes : zY mX3_changes 3 := ⟨zt 780 (by decide +kernel) rfl, zt 54 (by decide +kernel) rfl, by decide +kernel, by decide +kernel, by decide +kernel, by decide⟩
theorem ziX3_changes : Cond.instanceMethod yX3_changes ∈ zTs := zt 779 (by decide +kernel) rfl
theorem zvX3_changes : Cond.selects (zyn mX3_changes).cls (zyn mX3_changes) (zyn mX3_changes) ∈ zTs := zt 35 (by decide +kernel) rfl
abbrev mX3_barsName : ZY := (yX3_barsName, cX3_barsName, 4, (some .int), 3, 0)
theorem zyX3_barsName : zY mX3_barsName 3 := ⟨zt 725 (by decide +kernel) rfl, zt 54 (by decide +kernel) rfl, by decide +kernel, by decide +kernel, by decide +kernel, by decide⟩
theorem ziX3_barsName : Cond.instanceMethod yX3_barsName ∈ zTs := zt 724 (by decide +kernel) rfl
theorem zvX3_barsName : Cond.selects (zyn mX3_barsName).cls (zyn mX3_barsName) (zyn mX3_barsName) ∈ zTs := zt 26 (by decide +kernel) rfl
abbrev mX3_lookup : ZY := (yX3_lookup, cX3_lookup, 5, (some .int), 4, 0)
theorem zyX3_lookup : zY mX3_lookup 3 := ⟨zt 721 (by decide +kernel) rfl, zt 54 (by decide +kernel) rfl, by decide +kernel, by decide +kernel, by decide +kernel, by decide⟩
theorem ziX3_lookup : Cond.instanceMethod yX3_lookup ∈ zTs := zt 719 (by decide +kernel) rfl
theorem zvX3_lookup : Cond.selects (zyn mX3_lookup).cls (zyn mX3_lookup) (zyn mX3_lookup) ∈ zTs := zt 720 (by decide +kernel) rfl
abbrev mX3_barsNew : ZY := (yX3_barsNew, cX3_barsNew, 5, (some .int), 6, 0)
theorem zyX3_barsNew : zY mX3_barsNew 3 := ⟨zt 764 (by decide +kernel) rfl, zt 54 (by decide +kernel) rfl, by decide +kernel, by decide +kernel, by decide +kernel, by decide⟩
theorem ziX3_barsNew : Cond.instanceMethod yX3_barsNew ∈ zTs := zt 763 (by decide +kernel) rfl
theorem zvX3_barsNew : Cond.selects (zyn mX3_barsNew).cls (zyn mX3_barsNew) (zyn mX3_barsNew) ∈ zTs := zt 31 (by decide +kernel) rfl
abbrev mX3_makeDirectory : ZY := (yX3_makeDirectory, cX3_makeDirectory, 5, (some .int), 7, 0)
theorem zyX3_makeDirectory : zY mX3_makeDirectory 3 := ⟨zt 760 (by decide +kernel) rfl, zt 54 (by decide +kernel) rfl, by decide +kernel, by decide +kernel, by decide +kernel, by decide⟩
theorem ziX3_makeDirectory : Cond.instanceMethod yX3_makeDirectory ∈ zTs := zt 758 (by decide +kernel) rfl
theorem zvX3_makeDirectory : Cond.selects (zyn mX3_makeDirectory).cls (zyn mX3_makeDirectory) (zyn mX3_makeDirectory) ∈ zTs := zt 759 (by decide +kernel) rfl
abbrev mX3_links : ZY := (yX3_links, cX3_links, 3, none, 1, 0)
theorem zyX3_links : zY mX3_links 2 := ⟨zt 792 (by decide +kernel) rfl, zt 54 (by decide +kernel) rfl, by decide +kernel, by decide +kernel, by decide +kernel, by decide⟩
theorem ziX3_links : Cond.instanceMethod yX3_links ∈ zTs := zt 791 (by decide +kernel) rfl
theorem zvX3_links : Cond.selects (zyn mX3_links).cls (zyn mX3_links) (zyn mX3_links) ∈ zTs := zt 37 (by decide +kernel) rfl
abbrev mX3_makeFile : ZY := (yX3_makeFile, cX3_makeFile, 4, (some .int), 7, 0)
theorem zyX3_makeFile : zY mX3_makeFile 3 := ⟨zt 788 (by decide +kernel) rfl, zt 54 (by decide +kernel) rfl, by decide +kernel, by decide +kernel, by decide +kernel, by decide⟩
theorem ziX3_makeFile : Cond.instanceMethod yX3_makeFile ∈ zTs := zt 786 (by decide +kernel) rfl
theorem zvX3_makeFile : Cond.selects (zyn mX3_makeFile).cls (zyn mX3_makeFile) (zyn mX3_makeFile) ∈ zTs := zt 787 (by decide +kernel) rfl
abbrev mX3_countLinks : ZY := (yX3_countLinks, cX3_countLinks, 4, (some .int), 1, 0)
theorem zyX3_countLinks : zY mX3_countLinks 1 := ⟨zt 804 (by decide +kernel) rfl, zt 54 (by decide +kernel) rfl, by decide +kernel, by decide +kernel, by decide +kernel, by decide⟩
theorem ziX3_countLinks : Cond.instanceMethod yX3_countLinks ∈ zTs := zt 803 (by decide +kernel) rfl
theorem zvX3_countLinks : Cond.selects (zyn mX3_countLinks).cls (zyn mX3_countLinks) (zyn mX3_countLinks) ∈ zTs := zt 39 (by decide +kernel) rfl
abbrev mX3_isFile : ZY := (yX3_isFile, cX3_isFile, 2, (some .boolean), 2, 0)
theorem zyX3_isFile : zY mX3_isFile 1 := ⟨zt 800 (by decide +kernel) rfl, zt 54 (by decide +kernel) rfl, by decide +kernel, by decide +kernel, by decide +kernel, by decide⟩
theorem ziX3_isFile : Cond.instanceMethod yX3_isFile ∈ zTs := zt 799 (by decide +kernel) rfl
theorem zvX3_isFile : Cond.selects (zyn mX3_isFile).cls (zyn mX3_isFile) (zyn mX3_isFile) ∈ zTs := zt 38 (by decide +kernel) rfl
abbrev mX3_link : ZY := (yX3_link, cX3_link, 6, (some .int), 7, 0)
theorem zyX3_link : zY mX3_link 4 := ⟨zt 796 (by decide +kernel) rfl, zt 54 (by decide +kernel) rfl, by decide +kernel, by decide +kernel, by decide +kernel, by decide⟩
theorem ziX3_link : Cond.instanceMethod yX3_link ∈ zTs := zt 794 (by decide +kernel) rfl
theorem zvX3_link : Cond.selects (zyn mX3_link).cls (zyn mX3_link) (zyn mX3_link) ∈ zTs := zt 795 (by decide +kernel) rfl
abbrev mX3_used : ZY := (yX3_used, cX3_used, 4, (some .int), 2, 0)
theorem zyX3_used : zY mX3_used 1 := ⟨zt 816 (by decide +kernel) rfl, zt 54 (by decide +kernel) rfl, by decide +kernel, by decide +kernel, by decide +kernel, by decide⟩
theorem ziX3_used : Cond.instanceMethod yX3_used ∈ zTs := zt 815 (by decide +kernel) rfl
theorem zvX3_used : Cond.selects (zyn mX3_used).cls (zyn mX3_used) (zyn mX3_used) ∈ zTs := zt 41 (by decide +kernel) rfl
abbrev mX3_isHeld : ZY := (yX3_isHeld, cX3_isHeld, 2, (some .boolean), 3, 0)
theorem zyX3_isHeld : zY mX3_isHeld 1 := ⟨zt 812 (by decide +kernel) rfl, zt 54 (by decide +kernel) rfl, by decide +kernel, by decide +kernel, by decide +kernel, by decide⟩
theorem ziX3_isHeld : Cond.instanceMethod yX3_isHeld ∈ zTs := zt 811 (by decide +kernel) rfl
theorem zvX3_isHeld : Cond.selects (zyn mX3_isHeld).cls (zyn mX3_isHeld) (zyn mX3_isHeld) ∈ zTs := zt 40 (by decide +kernel) rfl
abbrev mX3_remove : ZY := (yX3_remove, cX3_remove, 8, (some .int), 6, 0)
theorem zyX3_remove : zY mX3_remove 3 := ⟨zt 808 (by decide +kernel) rfl, zt 54 (by decide +kernel) rfl, by decide +kernel, by decide +kernel, by decide +kernel, by decide⟩
theorem ziX3_remove : Cond.instanceMethod yX3_remove ∈ zTs := zt 806 (by decide +kernel) rfl
theorem zvX3_remove : Cond.selects (zyn mX3_remove).cls (zyn mX3_remove) (zyn mX3_remove) ∈ zTs := zt 807 (by decide +kernel) rfl
abbrev mX3_isBelow : ZY := (yX3_isBelow, cX3_isBelow, 4, (some .boolean), 1, 0)
theorem zyX3_isBelow : zY mX3_isBelow 2 := ⟨zt 824 (by decide +kernel) rfl, zt 54 (by decide +kernel) rfl, by decide +kernel, by decide +kernel, by decide +kernel, by decide⟩
theorem ziX3_isBelow : Cond.instanceMethod yX3_isBelow ∈ zTs := zt 823 (by decide +kernel) rfl
theorem zvX3_isBelow : Cond.selects (zyn mX3_isBelow).cls (zyn mX3_isBelow) (zyn mX3_isBelow) ∈ zTs := zt 42 (by decide +kernel) rfl
abbrev mX3_rename : ZY := (yX3_rename, cX3_rename, 9, none, 6, 0)
theorem zyX3_rename : zY mX3_rename 5 := ⟨zt 820 (by decide +kernel) rfl, zt 54 (by decide +kernel) rfl, by decide +kernel, by decide +kernel, by decide +kernel, by decide⟩
theorem ziX3_rename : Cond.instanceMethod yX3_rename ∈ zTs := zt 818 (by decide +kernel) rfl
theorem zvX3_rename : Cond.selects (zyn mX3_rename).cls (zyn mX3_rename) (zyn mX3_rename) ∈ zTs := zt 819 (by decide +kernel) rfl
abbrev mX3_pass : ZY := (yX3_pass, cX3_pass, 2, (some .int), 2, 0)
theorem zyX3_pass : zY mX3_pass 1 := ⟨zt 828 (by decide +kernel) rfl, zt 54 (by decide +kernel) rfl, by decide +kernel, by decide +kernel, by decide +kernel, by decide⟩
theorem ziX3_pass : Cond.instanceMethod yX3_pass ∈ zTs := zt 826 (by decide +kernel) rfl
theorem zvX3_pass : Cond.selects (zyn mX3_pass).cls (zyn mX3_pass) (zyn mX3_pass) ∈ zTs := zt 827 (by decide +kernel) rfl
abbrev mX3_leases : ZY := (yX3_leases, cX3_leases, 4, (some .int), 3, 0)
theorem zyX3_leases : zY mX3_leases 1 := ⟨zt 832 (by decide +kernel) rfl, zt 54 (by decide +kernel) rfl, by decide +kernel, by decide +kernel, by decide +kernel, by decide⟩
theorem ziX3_leases : Cond.instanceMethod yX3_leases ∈ zTs := zt 830 (by decide +kernel) rfl
theorem zvX3_leases : Cond.selects (zyn mX3_leases).cls (zyn mX3_leases) (zyn mX3_leases) ∈ zTs := zt 831 (by decide +kernel) rfl
abbrev mX3_recalls : ZY := (yX3_recalls, cX3_recalls, 2, (some .int), 3, 0)
theorem zyX3_recalls : zY mX3_recalls 1 := ⟨zt 836 (by decide +kernel) rfl, zt 54 (by decide +kernel) rfl, by decide +kernel, by decide +kernel, by decide +kernel, by decide⟩
theorem ziX3_recalls : Cond.instanceMethod yX3_recalls ∈ zTs := zt 834 (by decide +kernel) rfl
theorem zvX3_recalls : Cond.selects (zyn mX3_recalls).cls (zyn mX3_recalls) (zyn mX3_recalls) ∈ zTs := zt 835 (by decide +kernel) rfl
abbrev mX3_known : ZY := (yX3_known, cX3_known, 2, (some .int), 3, 0)
theorem zyX3_known : zY mX3_known 1 := ⟨zt 844 (by decide +kernel) rfl, zt 54 (by decide +kernel) rfl, by decide +kernel, by decide +kernel, by decide +kernel, by decide⟩
theorem ziX3_known : Cond.instanceMethod yX3_known ∈ zTs := zt 842 (by decide +kernel) rfl
theorem zvX3_known : Cond.selects (zyn mX3_known).cls (zyn mX3_known) (zyn mX3_known) ∈ zTs := zt 843 (by decide +kernel) rfl
abbrev mX3_barsHash : ZY := (yX3_barsHash, cX3_barsHash, 3, (some .int), 3, 0)
theorem zyX3_barsHash : zY mX3_barsHash 2 := ⟨zt 852 (by decide +kernel) rfl, zt 54 (by decide +kernel) rfl, by decide +kernel, by decide +kernel, by decide +kernel, by decide⟩
theorem ziX3_barsHash : Cond.instanceMethod yX3_barsHash ∈ zTs := zt 851 (by decide +kernel) rfl
theorem zvX3_barsHash : Cond.selects (zyn mX3_barsHash).cls (zyn mX3_barsHash) (zyn mX3_barsHash) ∈ zTs := zt 44 (by decide +kernel) rfl
abbrev mX3_count : ZY := (yX3_count, cX3_count, 4, (some .int), 1, 0)
theorem zyX3_count : zY mX3_count 1 := ⟨zt 859 (by decide +kernel) rfl, zt 54 (by decide +kernel) rfl, by decide +kernel, by decide +kernel, by decide +kernel, by decide⟩
theorem ziX3_count : Cond.instanceMethod yX3_count ∈ zTs := zt 858 (by decide +kernel) rfl
theorem zvX3_count : Cond.selects (zyn mX3_count).cls (zyn mX3_count) (zyn mX3_count) ∈ zTs := zt 45 (by decide +kernel) rfl
abbrev mX3_split : ZY := (yX3_split, cX3_split, 5, (some .int), 5, 0)
theorem zyX3_split : zY mX3_split 2 := ⟨zt 848 (by decide +kernel) rfl, zt 54 (by decide +kernel) rfl, by decide +kernel, by decide +kernel, by decide +kernel, by decide⟩
theorem ziX3_split : Cond.instanceMethod yX3_split ∈ zTs := zt 846 (by decide +kernel) rfl
theorem zvX3_split : Cond.selects (zyn mX3_split).cls (zyn mX3_split) (zyn mX3_split) ∈ zTs := zt 847 (by decide +kernel) rfl
abbrev mX3_merge : ZY := (yX3_merge, cX3_merge, 8, (some .int), 5, 0)
theorem zyX3_merge : zY mX3_merge 2 := ⟨zt 863 (by decide +kernel) rfl, zt 54 (by decide +kernel) rfl, by decide +kernel, by decide +kernel, by decide +kernel, by decide⟩
theorem ziX3_merge : Cond.instanceMethod yX3_merge ∈ zTs := zt 861 (by decide +kernel) rfl
theorem zvX3_merge : Cond.selects (zyn mX3_merge).cls (zyn mX3_merge) (zyn mX3_merge) ∈ zTs := zt 862 (by decide +kernel) rfl
abbrev mX3_fragments : ZY := (yX3_fragments, cX3_fragments, 2, (some .int), 3, 0)
theorem zyX3_fragments : zY mX3_fragments 1 := ⟨zt 867 (by decide +kernel) rfl, zt 54 (by decide +kernel) rfl, by decide +kernel, by decide +kernel, by decide +kernel, by decide⟩
theorem ziX3_fragments : Cond.instanceMethod yX3_fragments ∈ zTs := zt 865 (by decide +kernel) rfl
theorem zvX3_fragments : Cond.selects (zyn mX3_fragments).cls (zyn mX3_fragments) (zyn mX3_fragments) ∈ zTs := zt 866 (by decide +kernel) rfl
abbrev mX3_barsPlain : ZY := (yX3_barsPlain, cX3_barsPlain, 3, (some .int), 3, 0)
theorem zyX3_barsPlain : zY mX3_barsPlain 2 := ⟨zt 875 (by decide +kernel) rfl, zt 54 (by decide +kernel) rfl, by decide +kernel, by decide +kernel, by decide +kernel, by decide⟩
theorem ziX3_barsPlain : Cond.instanceMethod yX3_barsPlain ∈ zTs := zt 874 (by decide +kernel) rfl
theorem zvX3_barsPlain : Cond.selects (zyn mX3_barsPlain).cls (zyn mX3_barsPlain) (zyn mX3_barsPlain) ∈ zTs := zt 46 (by decide +kernel) rfl
abbrev mX3_serverOf : ZY := (yX3_serverOf, cX3_serverOf, 3, (some .int), 5, 0)
theorem zyX3_serverOf : zY mX3_serverOf 2 := ⟨zt 871 (by decide +kernel) rfl, zt 54 (by decide +kernel) rfl, by decide +kernel, by decide +kernel, by decide +kernel, by decide⟩
theorem ziX3_serverOf : Cond.instanceMethod yX3_serverOf ∈ zTs := zt 869 (by decide +kernel) rfl
theorem zvX3_serverOf : Cond.selects (zyn mX3_serverOf).cls (zyn mX3_serverOf) (zyn mX3_serverOf) ∈ zTs := zt 870 (by decide +kernel) rfl
abbrev mX3_ownerOf : ZY := (yX3_ownerOf, cX3_ownerOf, 3, (some .int), 4, 0)
theorem zyX3_ownerOf : zY mX3_ownerOf 2 := ⟨zt 883 (by decide +kernel) rfl, zt 54 (by decide +kernel) rfl, by decide +kernel, by decide +kernel, by decide +kernel, by decide⟩
theorem ziX3_ownerOf : Cond.instanceMethod yX3_ownerOf ∈ zTs := zt 881 (by decide +kernel) rfl
theorem zvX3_ownerOf : Cond.selects (zyn mX3_ownerOf).cls (zyn mX3_ownerOf) (zyn mX3_ownerOf) ∈ zTs := zt 882 (by decide +kernel) rfl
abbrev mX3_loadOf : ZY := (yX3_loadOf, cX3_loadOf, 4, (some .int), 5, 0)
theorem zyX3_loadOf : zY mX3_loadOf 1 := ⟨zt 891 (by decide +kernel) rfl, zt 54 (by decide +kernel) rfl, by decide +kernel, by decide +kernel, by decide +kernel, by decide⟩
theorem ziX3_loadOf : Cond.instanceMethod yX3_loadOf ∈ zTs := zt 890 (by decide +kernel) rfl
theorem zvX3_loadOf : Cond.selects (zyn mX3_loadOf).cls (zyn mX3_loadOf) (zyn mX3_loadOf) ∈ zTs := zt 48 (by decide +kernel) rfl
abbrev mX3_load : ZY := (yX3_load, cX3_load, 2, (some .int), 6, 0)
theorem zyX3_load : zY mX3_load 1 := ⟨zt 887 (by decide +kernel) rfl, zt 54 (by decide +kernel) rfl, by decide +kernel, by decide +kernel, by decide +kernel, by decide⟩
theorem ziX3_load : Cond.instanceMethod yX3_load ∈ zTs := zt 885 (by decide +kernel) rfl
theorem zvX3_load : Cond.selects (zyn mX3_load).cls (zyn mX3_load) (zyn mX3_load) ∈ zTs := zt 886 (by decide +kernel) rfl
abbrev mX3_moves : ZY := (yX3_moves, cX3_moves, 3, none, 1, 0)
theorem zyX3_moves : zY mX3_moves 2 := ⟨zt 899 (by decide +kernel) rfl, zt 54 (by decide +kernel) rfl, by decide +kernel, by decide +kernel, by decide +kernel, by decide⟩
theorem ziX3_moves : Cond.instanceMethod yX3_moves ∈ zTs := zt 898 (by decide +kernel) rfl
theorem zvX3_moves : Cond.selects (zyn mX3_moves).cls (zyn mX3_moves) (zyn mX3_moves) ∈ zTs := zt 49 (by decide +kernel) rfl
abbrev mX3_beginMove : ZY := (yX3_beginMove, cX3_beginMove, 5, none, 5, 0)
theorem zyX3_beginMove : zY mX3_beginMove 3 := ⟨zt 895 (by decide +kernel) rfl, zt 54 (by decide +kernel) rfl, by decide +kernel, by decide +kernel, by decide +kernel, by decide⟩
theorem ziX3_beginMove : Cond.instanceMethod yX3_beginMove ∈ zTs := zt 893 (by decide +kernel) rfl
theorem zvX3_beginMove : Cond.selects (zyn mX3_beginMove).cls (zyn mX3_beginMove) (zyn mX3_beginMove) ∈ zTs := zt 894 (by decide +kernel) rfl
abbrev mX3_stepMove : ZY := (yX3_stepMove, cX3_stepMove, 2, (some .int), 6, 0)
theorem zyX3_stepMove : zY mX3_stepMove 0 := ⟨zt 903 (by decide +kernel) rfl, zt 54 (by decide +kernel) rfl, by decide +kernel, by decide +kernel, by decide +kernel, by decide⟩
theorem ziX3_stepMove : Cond.instanceMethod yX3_stepMove ∈ zTs := zt 901 (by decide +kernel) rfl
theorem zvX3_stepMove : Cond.selects (zyn mX3_stepMove).cls (zyn mX3_stepMove) (zyn mX3_stepMove) ∈ zTs := zt 902 (by decide +kernel) rfl
abbrev mX3_giveUpMove : ZY := (yX3_giveUpMove, cX3_giveUpMove, 1, (some .int), 1, 0)
theorem zyX3_giveUpMove : zY mX3_giveUpMove 0 := ⟨zt 907 (by decide +kernel) rfl, zt 54 (by decide +kernel) rfl, by decide +kernel, by decide +kernel, by decide +kernel, by decide⟩
theorem ziX3_giveUpMove : Cond.instanceMethod yX3_giveUpMove ∈ zTs := zt 905 (by decide +kernel) rfl
theorem zvX3_giveUpMove : Cond.selects (zyn mX3_giveUpMove).cls (zyn mX3_giveUpMove) (zyn mX3_giveUpMove) ∈ zTs := zt 906 (by decide +kernel) rfl
abbrev mX3_isFrozen : ZY := (yX3_isFrozen, cX3_isFrozen, 3, (some .boolean), 6, 0)
theorem zyX3_isFrozen : zY mX3_isFrozen 2 := ⟨zt 911 (by decide +kernel) rfl, zt 54 (by decide +kernel) rfl, by decide +kernel, by decide +kernel, by decide +kernel, by decide⟩
theorem ziX3_isFrozen : Cond.instanceMethod yX3_isFrozen ∈ zTs := zt 909 (by decide +kernel) rfl
theorem zvX3_isFrozen : Cond.selects (zyn mX3_isFrozen).cls (zyn mX3_isFrozen) (zyn mX3_isFrozen) ∈ zTs := zt 910 (by decide +kernel) rfl
abbrev mX3_balance : ZY := (yX3_balance, cX3_balance, 7, (some .int), 6, 0)
theorem zyX3_balance : zY mX3_balance 0 := ⟨zt 915 (by decide +kernel) rfl, zt 54 (by decide +kernel) rfl, by decide +kernel, by decide +kernel, by decide +kernel, by decide⟩
theorem ziX3_balance : Cond.instanceMethod yX3_balance ∈ zTs := zt 913 (by decide +kernel) rfl
theorem zvX3_balance : Cond.selects (zyn mX3_balance).cls (zyn mX3_balance) (zyn mX3_balance) ∈ zTs := zt 914 (by decide +kernel) rfl
abbrev mX3_links_ : ZY := (yX3_links_, cX3_links_, 2, (some .int), 2, 0)
theorem zyX3_links_ : zY mX3_links_ 1 := ⟨zt 919 (by decide +kernel) rfl, zt 54 (by decide +kernel) rfl, by decide +kernel, by decide +kernel, by decide +kernel, by decide⟩
theorem ziX3_links_ : Cond.instanceMethod yX3_links_ ∈ zTs := zt 917 (by decide +kernel) rfl
theorem zvX3_links_ : Cond.selects (zyn mX3_links_).cls (zyn mX3_links_) (zyn mX3_links_) ∈ zTs := zt 918 (by decide +kernel) rfl
abbrev mX3_anchor : ZY := (yX3_anchor, cX3_anchor, 4, (some .int), 2, 0)
theorem zyX3_anchor : zY mX3_anchor 1 := ⟨zt 923 (by decide +kernel) rfl, zt 54 (by decide +kernel) rfl, by decide +kernel, by decide +kernel, by decide +kernel, by decide⟩
theorem ziX3_anchor : Cond.instanceMethod yX3_anchor ∈ zTs := zt 921 (by decide +kernel) rfl
theorem zvX3_anchor : Cond.selects (zyn mX3_anchor).cls (zyn mX3_anchor) (zyn mX3_anchor) ∈ zTs := zt 922 (by decide +kernel) rfl
abbrev mX3_byTree : ZY := (yX3_byTree, cX3_byTree, 3, (some .int), 4, 0)
theorem zyX3_byTree : zY mX3_byTree 2 := ⟨zt 927 (by decide +kernel) rfl, zt 54 (by decide +kernel) rfl, by decide +kernel, by decide +kernel, by decide +kernel, by decide⟩
theorem ziX3_byTree : Cond.instanceMethod yX3_byTree ∈ zTs := zt 925 (by decide +kernel) rfl
theorem zvX3_byTree : Cond.selects (zyn mX3_byTree).cls (zyn mX3_byTree) (zyn mX3_byTree) ∈ zTs := zt 926 (by decide +kernel) rfl
abbrev mX3_size : ZY := (yX3_size, cX3_size, 2, (some .int), 3, 0)
theorem zyX3_size : zY mX3_size 1 := ⟨zt 931 (by decide +kernel) rfl, zt 54 (by decide +kernel) rfl, by decide +kernel, by decide +kernel, by decide +kernel, by decide⟩
theorem ziX3_size : Cond.instanceMethod yX3_size ∈ zTs := zt 929 (by decide +kernel) rfl
theorem zvX3_size : Cond.selects (zyn mX3_size).cls (zyn mX3_size) (zyn mX3_size) ∈ zTs := zt 930 (by decide +kernel) rfl
abbrev mL_lookup : ZY := (yL_lookup, cL_lookup, 6, (some .int), 8, 3)
abbrev hL_lookup : List (Nat × Nat × Nat × Nat) := [(0, 12, 15, 13), (0, 12, 19, 15)]
theorem zyL_lookup : zYW mL_lookup hL_lookup 5 := ⟨zt 169 (by decide +kernel) rfl, zt 50 (by decide +kernel) rfl, by decide +kernel, by decide +kernel, by decide +kernel, by decide⟩
theorem zsL_lookup : Cond.static yL_lookup ∈ zTs := zt 168 (by decide +kernel) rfl
abbrev mL_makeDirectory : ZY := (yL_makeDirectory, cL_makeDirectory, 6, (some .int), 8, 15)
abbrev hL_makeDirectory : List (Nat × Nat × Nat × Nat) := [(0, 12, 15, 13), (0, 12, 19, 15), (0, 12, 23, 20)]
theorem zyL_makeDirectory : zYW mL_makeDirectory hL_makeDirectory 5 := ⟨zt 303 (by decide +kernel) rfl, zt 50 (by decide +kernel) rfl, by decide +kernel, by decide +kernel, by decide +kernel, by decide⟩
theorem zsL_makeDirectory : Cond.static yL_makeDirectory ∈ zTs := zt 302 (by decide +kernel) rfl
abbrev mL_makeFile : ZY := (yL_makeFile, cL_makeFile, 6, (some .int), 8, 5)
abbrev hL_makeFile : List (Nat × Nat × Nat × Nat) := [(0, 12, 15, 13), (0, 12, 19, 15), (0, 12, 23, 20)]
theorem zyL_makeFile : zYW mL_makeFile hL_makeFile 5 := ⟨zt 352 (by decide +kernel) rfl, zt 50 (by decide +kernel) rfl, by decide +kernel, by decide +kernel, by decide +kernel, by decide⟩
theorem zsL_makeFile : Cond.static yL_makeFile ∈ zTs := zt 351 (by decide +kernel) rfl
abbrev mL_link : ZY := (yL_link, cL_link, 7, (some .int), 8, 6)
abbrev hL_link : List (Nat × Nat × Nat × Nat) := [(0, 14, 17, 13), (0, 14, 21, 15), (0, 14, 25, 20)]
theorem zyL_link : zYW mL_link hL_link 6 := ⟨zt 364 (by decide +kernel) rfl, zt 50 (by decide +kernel) rfl, by decide +kernel, by decide +kernel, by decide +kernel, by decide⟩
theorem zsL_link : Cond.static yL_link ∈ zTs := zt 363 (by decide +kernel) rfl
abbrev mL_remove : ZY := (yL_remove, cL_remove, 6, (some .int), 8, 6)
abbrev hL_remove : List (Nat × Nat × Nat × Nat) := [(0, 12, 15, 13), (0, 12, 19, 15), (0, 12, 23, 20)]
theorem zyL_remove : zYW mL_remove hL_remove 5 := ⟨zt 385 (by decide +kernel) rfl, zt 50 (by decide +kernel) rfl, by decide +kernel, by decide +kernel, by decide +kernel, by decide⟩
theorem zsL_remove : Cond.static yL_remove ∈ zTs := zt 384 (by decide +kernel) rfl
abbrev mL_rename : ZY := (yL_rename, cL_rename, 7, (some .int), 8, 8)
abbrev hL_rename : List (Nat × Nat × Nat × Nat) := [(0, 11, 14, 13), (0, 11, 18, 15), (0, 11, 22, 20)]
theorem zyL_rename : zYW mL_rename hL_rename 6 := ⟨zt 415 (by decide +kernel) rfl, zt 50 (by decide +kernel) rfl, by decide +kernel, by decide +kernel, by decide +kernel, by decide⟩
theorem zsL_rename : Cond.static yL_rename ∈ zTs := zt 414 (by decide +kernel) rfl
abbrev mL_pass : ZY := (yL_pass, cL_pass, 4, (some .int), 7, 1)
abbrev hL_pass : List (Nat × Nat × Nat × Nat) := [(0, 9, 12, 13)]
theorem zyL_pass : zYW mL_pass hL_pass 3 := ⟨zt 431 (by decide +kernel) rfl, zt 50 (by decide +kernel) rfl, by decide +kernel, by decide +kernel, by decide +kernel, by decide⟩
theorem zsL_pass : Cond.static yL_pass ∈ zTs := zt 430 (by decide +kernel) rfl
abbrev mL_leases : ZY := (yL_leases, cL_leases, 4, (some .int), 8, 1)
abbrev hL_leases : List (Nat × Nat × Nat × Nat) := [(0, 9, 12, 13)]
theorem zyL_leases : zYW mL_leases hL_leases 3 := ⟨zt 439 (by decide +kernel) rfl, zt 50 (by decide +kernel) rfl, by decide +kernel, by decide +kernel, by decide +kernel, by decide⟩
theorem zsL_leases : Cond.static yL_leases ∈ zTs := zt 438 (by decide +kernel) rfl
abbrev mL_recalls : ZY := (yL_recalls, cL_recalls, 4, (some .int), 8, 1)
abbrev hL_recalls : List (Nat × Nat × Nat × Nat) := [(0, 9, 12, 13)]
theorem zyL_recalls : zYW mL_recalls hL_recalls 3 := ⟨zt 451 (by decide +kernel) rfl, zt 50 (by decide +kernel) rfl, by decide +kernel, by decide +kernel, by decide +kernel, by decide⟩
theorem zsL_recalls : Cond.static yL_recalls ∈ zTs := zt 450 (by decide +kernel) rfl
abbrev mL_known : ZY := (yL_known, cL_known, 4, (some .int), 8, 1)
abbrev hL_known : List (Nat × Nat × Nat × Nat) := [(0, 9, 12, 13)]
theorem zyL_known : zYW mL_known hL_known 3 := ⟨zt 458 (by decide +kernel) rfl, zt 50 (by decide +kernel) rfl, by decide +kernel, by decide +kernel, by decide +kernel, by decide⟩
theorem zsL_known : Cond.static yL_known ∈ zTs := zt 457 (by decide +kernel) rfl
abbrev mL_split : ZY := (yL_split, cL_split, 5, (some .int), 8, 4)
abbrev hL_split : List (Nat × Nat × Nat × Nat) := [(0, 10, 13, 13), (0, 10, 17, 15), (0, 10, 21, 20)]
theorem zyL_split : zYW mL_split hL_split 4 := ⟨zt 465 (by decide +kernel) rfl, zt 50 (by decide +kernel) rfl, by decide +kernel, by decide +kernel, by decide +kernel, by decide⟩
theorem zsL_split : Cond.static yL_split ∈ zTs := zt 464 (by decide +kernel) rfl
abbrev mL_merge : ZY := (yL_merge, cL_merge, 5, (some .int), 8, 5)
abbrev hL_merge : List (Nat × Nat × Nat × Nat) := [(0, 10, 13, 13), (0, 10, 17, 15), (0, 10, 21, 20)]
theorem zyL_merge : zYW mL_merge hL_merge 4 := ⟨zt 494 (by decide +kernel) rfl, zt 50 (by decide +kernel) rfl, by decide +kernel, by decide +kernel, by decide +kernel, by decide⟩
theorem zsL_merge : Cond.static yL_merge ∈ zTs := zt 493 (by decide +kernel) rfl
abbrev mL_fragments : ZY := (yL_fragments, cL_fragments, 4, (some .int), 8, 1)
abbrev hL_fragments : List (Nat × Nat × Nat × Nat) := [(0, 9, 12, 15)]
theorem zyL_fragments : zYW mL_fragments hL_fragments 3 := ⟨zt 508 (by decide +kernel) rfl, zt 50 (by decide +kernel) rfl, by decide +kernel, by decide +kernel, by decide +kernel, by decide⟩
theorem zsL_fragments : Cond.static yL_fragments ∈ zTs := zt 507 (by decide +kernel) rfl
abbrev mL_serverOf : ZY := (yL_serverOf, cL_serverOf, 5, (some .int), 8, 2)
abbrev hL_serverOf : List (Nat × Nat × Nat × Nat) := [(0, 10, 13, 13), (0, 10, 17, 15)]
theorem zyL_serverOf : zYW mL_serverOf hL_serverOf 4 := ⟨zt 515 (by decide +kernel) rfl, zt 50 (by decide +kernel) rfl, by decide +kernel, by decide +kernel, by decide +kernel, by decide⟩
theorem zsL_serverOf : Cond.static yL_serverOf ∈ zTs := zt 514 (by decide +kernel) rfl
abbrev mL_ownerOf : ZY := (yL_ownerOf, cL_ownerOf, 5, (some .int), 8, 2)
abbrev hL_ownerOf : List (Nat × Nat × Nat × Nat) := [(0, 10, 13, 13), (0, 10, 17, 15)]
theorem zyL_ownerOf : zYW mL_ownerOf hL_ownerOf 4 := ⟨zt 526 (by decide +kernel) rfl, zt 50 (by decide +kernel) rfl, by decide +kernel, by decide +kernel, by decide +kernel, by decide⟩
theorem zsL_ownerOf : Cond.static yL_ownerOf ∈ zTs := zt 525 (by decide +kernel) rfl
abbrev mL_load : ZY := (yL_load, cL_load, 4, (some .int), 8, 1)
abbrev hL_load : List (Nat × Nat × Nat × Nat) := [(0, 9, 12, 13)]
theorem zyL_load : zYW mL_load hL_load 3 := ⟨zt 533 (by decide +kernel) rfl, zt 50 (by decide +kernel) rfl, by decide +kernel, by decide +kernel, by decide +kernel, by decide⟩
theorem zsL_load : Cond.static yL_load ∈ zTs := zt 532 (by decide +kernel) rfl
abbrev mL_beginMove : ZY := (yL_beginMove, cL_beginMove, 5, (some .int), 8, 5)
abbrev hL_beginMove : List (Nat × Nat × Nat × Nat) := [(0, 7, 10, 13), (0, 7, 14, 15), (0, 7, 18, 20)]
theorem zyL_beginMove : zYW mL_beginMove hL_beginMove 4 := ⟨zt 553 (by decide +kernel) rfl, zt 50 (by decide +kernel) rfl, by decide +kernel, by decide +kernel, by decide +kernel, by decide⟩
theorem zsL_beginMove : Cond.static yL_beginMove ∈ zTs := zt 552 (by decide +kernel) rfl
abbrev mL_stepMove : ZY := (yL_stepMove, cL_stepMove, 3, (some .int), 8, 1)
abbrev hL_stepMove : List (Nat × Nat × Nat × Nat) := [(0, 8, 11, 20)]
theorem zyL_stepMove : zYW mL_stepMove hL_stepMove 2 := ⟨zt 570 (by decide +kernel) rfl, zt 50 (by decide +kernel) rfl, by decide +kernel, by decide +kernel, by decide +kernel, by decide⟩
theorem zsL_stepMove : Cond.static yL_stepMove ∈ zTs := zt 569 (by decide +kernel) rfl
abbrev mL_giveUpMove : ZY := (yL_giveUpMove, cL_giveUpMove, 3, (some .int), 7, 1)
abbrev hL_giveUpMove : List (Nat × Nat × Nat × Nat) := [(0, 8, 11, 20)]
theorem zyL_giveUpMove : zYW mL_giveUpMove hL_giveUpMove 2 := ⟨zt 586 (by decide +kernel) rfl, zt 50 (by decide +kernel) rfl, by decide +kernel, by decide +kernel, by decide +kernel, by decide⟩
theorem zsL_giveUpMove : Cond.static yL_giveUpMove ∈ zTs := zt 585 (by decide +kernel) rfl
abbrev mL_isFrozen : ZY := (yL_isFrozen, cL_isFrozen, 5, (some .int), 8, 2)
abbrev hL_isFrozen : List (Nat × Nat × Nat × Nat) := [(0, 17, 20, 13), (0, 17, 24, 15)]
theorem zyL_isFrozen : zYW mL_isFrozen hL_isFrozen 4 := ⟨zt 593 (by decide +kernel) rfl, zt 50 (by decide +kernel) rfl, by decide +kernel, by decide +kernel, by decide +kernel, by decide⟩
theorem zsL_isFrozen : Cond.static yL_isFrozen ∈ zTs := zt 592 (by decide +kernel) rfl
abbrev mL_balance : ZY := (yL_balance, cL_balance, 3, (some .int), 8, 1)
abbrev hL_balance : List (Nat × Nat × Nat × Nat) := [(0, 8, 11, 20)]
theorem zyL_balance : zYW mL_balance hL_balance 2 := ⟨zt 600 (by decide +kernel) rfl, zt 50 (by decide +kernel) rfl, by decide +kernel, by decide +kernel, by decide +kernel, by decide⟩
theorem zsL_balance : Cond.static yL_balance ∈ zTs := zt 599 (by decide +kernel) rfl
abbrev mL_links : ZY := (yL_links, cL_links, 4, (some .int), 8, 1)
abbrev hL_links : List (Nat × Nat × Nat × Nat) := [(0, 9, 12, 15)]
theorem zyL_links : zYW mL_links hL_links 3 := ⟨zt 615 (by decide +kernel) rfl, zt 50 (by decide +kernel) rfl, by decide +kernel, by decide +kernel, by decide +kernel, by decide⟩
theorem zsL_links : Cond.static yL_links ∈ zTs := zt 614 (by decide +kernel) rfl
abbrev mL_anchor : ZY := (yL_anchor, cL_anchor, 4, (some .int), 8, 1)
abbrev hL_anchor : List (Nat × Nat × Nat × Nat) := [(0, 9, 12, 15)]
theorem zyL_anchor : zYW mL_anchor hL_anchor 3 := ⟨zt 622 (by decide +kernel) rfl, zt 50 (by decide +kernel) rfl, by decide +kernel, by decide +kernel, by decide +kernel, by decide⟩
theorem zsL_anchor : Cond.static yL_anchor ∈ zTs := zt 621 (by decide +kernel) rfl
abbrev mL_byTree : ZY := (yL_byTree, cL_byTree, 5, (some .int), 8, 2)
abbrev hL_byTree : List (Nat × Nat × Nat × Nat) := [(0, 10, 13, 13), (0, 10, 17, 15)]
theorem zyL_byTree : zYW mL_byTree hL_byTree 4 := ⟨zt 633 (by decide +kernel) rfl, zt 50 (by decide +kernel) rfl, by decide +kernel, by decide +kernel, by decide +kernel, by decide⟩
theorem zsL_byTree : Cond.static yL_byTree ∈ zTs := zt 632 (by decide +kernel) rfl
abbrev mL_size : ZY := (yL_size, cL_size, 4, (some .int), 8, 1)
abbrev hL_size : List (Nat × Nat × Nat × Nat) := [(0, 9, 12, 15)]
theorem zyL_size : zYW mL_size hL_size 3 := ⟨zt 640 (by decide +kernel) rfl, zt 50 (by decide +kernel) rfl, by decide +kernel, by decide +kernel, by decide +kernel, by decide⟩
theorem zsL_size : Cond.static yL_size ∈ zTs := zt 639 (by decide +kernel) rfl
theorem zf_X1_7 : Cond.fieldLink RX1 7 (TX1 0).1 (TX1 0).2.1 (TX1 0).2.2.1 ∈ zTs := zt 85 (by decide +kernel) rfl
theorem zf_X2_219 : Cond.fieldLink RX2 219 (TX1 0).1 (TX1 0).2.1 (TX1 0).2.2.1 ∈ zTs := zt 86 (by decide +kernel) rfl
theorem zf_X1_13 : Cond.fieldLink RX1 13 (TX1 1).1 (TX1 1).2.1 (TX1 1).2.2.1 ∈ zTs := zt 87 (by decide +kernel) rfl
theorem zf_X2_164 : Cond.fieldLink RX2 164 (TX1 1).1 (TX1 1).2.1 (TX1 1).2.2.1 ∈ zTs := zt 88 (by decide +kernel) rfl
theorem zf_X0_58 : Cond.fieldLink RX0 58 (TX1 1).1 (TX1 1).2.1 (TX1 1).2.2.1 ∈ zTs := zt 89 (by decide +kernel) rfl
theorem zf_X1_16 : Cond.fieldLink RX1 16 (TX1 2).1 (TX1 2).2.1 (TX1 2).2.2.1 ∈ zTs := zt 90 (by decide +kernel) rfl
theorem zf_X2_145 : Cond.fieldLink RX2 145 (TX1 2).1 (TX1 2).2.1 (TX1 2).2.2.1 ∈ zTs := zt 91 (by decide +kernel) rfl
theorem zf_X0_64 : Cond.fieldLink RX0 64 (TX1 2).1 (TX1 2).2.1 (TX1 2).2.2.1 ∈ zTs := zt 92 (by decide +kernel) rfl
theorem zf_X1_19 : Cond.fieldLink RX1 19 (TX1 3).1 (TX1 3).2.1 (TX1 3).2.2.1 ∈ zTs := zt 93 (by decide +kernel) rfl
theorem zf_X2_167 : Cond.fieldLink RX2 167 (TX1 3).1 (TX1 3).2.1 (TX1 3).2.2.1 ∈ zTs := zt 94 (by decide +kernel) rfl
theorem zf_X0_70 : Cond.fieldLink RX0 70 (TX1 3).1 (TX1 3).2.1 (TX1 3).2.2.1 ∈ zTs := zt 95 (by decide +kernel) rfl
theorem zf_X1_22 : Cond.fieldLink RX1 22 (TX1 4).1 (TX1 4).2.1 (TX1 4).2.2.1 ∈ zTs := zt 96 (by decide +kernel) rfl
theorem zf_X2_51 : Cond.fieldLink RX2 51 (TX1 4).1 (TX1 4).2.1 (TX1 4).2.2.1 ∈ zTs := zt 97 (by decide +kernel) rfl
theorem zf_X0_67 : Cond.fieldLink RX0 67 (TX1 4).1 (TX1 4).2.1 (TX1 4).2.2.1 ∈ zTs := zt 98 (by decide +kernel) rfl
theorem zf_X0_29 : Cond.fieldLink RX0 29 (TX0 0).1 (TX0 0).2.1 (TX0 0).2.2.1 ∈ zTs := zt 111 (by decide +kernel) rfl
theorem zf_X2_108 : Cond.fieldLink RX2 108 (TX0 0).1 (TX0 0).2.1 (TX0 0).2.2.1 ∈ zTs := zt 112 (by decide +kernel) rfl
theorem zf_X0_33 : Cond.fieldLink RX0 33 (TX0 1).1 (TX0 1).2.1 (TX0 1).2.2.1 ∈ zTs := zt 113 (by decide +kernel) rfl
theorem zf_X2_123 : Cond.fieldLink RX2 123 (TX0 1).1 (TX0 1).2.1 (TX0 1).2.2.1 ∈ zTs := zt 114 (by decide +kernel) rfl
theorem zf_X0_37 : Cond.fieldLink RX0 37 (TX0 2).1 (TX0 2).2.1 (TX0 2).2.2.1 ∈ zTs := zt 115 (by decide +kernel) rfl
theorem zf_X2_127 : Cond.fieldLink RX2 127 (TX0 2).1 (TX0 2).2.1 (TX0 2).2.2.1 ∈ zTs := zt 116 (by decide +kernel) rfl
theorem zf_X0_9 : Cond.fieldLink RX0 9 (TX0 3).1 (TX0 3).2.1 (TX0 3).2.2.1 ∈ zTs := zt 117 (by decide +kernel) rfl
theorem zf_X0_15 : Cond.fieldLink RX0 15 (TX0 4).1 (TX0 4).2.1 (TX0 4).2.2.1 ∈ zTs := zt 118 (by decide +kernel) rfl
theorem zf_X0_20 : Cond.fieldLink RX0 20 (TX0 5).1 (TX0 5).2.1 (TX0 5).2.2.1 ∈ zTs := zt 119 (by decide +kernel) rfl
theorem zf_X0_25 : Cond.fieldLink RX0 25 (TX0 6).1 (TX0 6).2.1 (TX0 6).2.2.1 ∈ zTs := zt 120 (by decide +kernel) rfl
theorem zf_X2_11 : Cond.fieldLink RX2 11 (TX2 0).1 (TX2 0).2.1 (TX2 0).2.2.1 ∈ zTs := zt 136 (by decide +kernel) rfl
theorem zf_X2_25 : Cond.fieldLink RX2 25 (TX2 1).1 (TX2 1).2.1 (TX2 1).2.2.1 ∈ zTs := zt 137 (by decide +kernel) rfl
theorem zf_X2_79 : Cond.fieldLink RX2 79 (TX2 2).1 (TX2 2).2.1 (TX2 2).2.2.1 ∈ zTs := zt 138 (by decide +kernel) rfl
theorem zf_X2_253 : Cond.fieldLink RX2 253 (TX2 3).1 (TX2 3).2.1 (TX2 3).2.2.1 ∈ zTs := zt 139 (by decide +kernel) rfl
theorem zf_X2_40 : Cond.fieldLink RX2 40 (TX2 4).1 (TX2 4).2.1 (TX2 4).2.2.1 ∈ zTs := zt 140 (by decide +kernel) rfl
theorem zf_X2_15 : Cond.fieldLink RX2 15 (TX2 5).1 (TX2 5).2.1 (TX2 5).2.2.1 ∈ zTs := zt 141 (by decide +kernel) rfl
theorem zf_X2_19 : Cond.fieldLink RX2 19 (TX2 6).1 (TX2 6).2.1 (TX2 6).2.2.1 ∈ zTs := zt 142 (by decide +kernel) rfl
theorem zf_X2_197 : Cond.fieldLink RX2 197 (TX2 7).1 (TX2 7).2.1 (TX2 7).2.2.1 ∈ zTs := zt 143 (by decide +kernel) rfl
theorem zf_X2_209 : Cond.fieldLink RX2 209 (TX2 8).1 (TX2 8).2.1 (TX2 8).2.2.1 ∈ zTs := zt 144 (by decide +kernel) rfl
theorem zf_X2_203 : Cond.fieldLink RX2 203 (TX2 9).1 (TX2 9).2.1 (TX2 9).2.2.1 ∈ zTs := zt 145 (by decide +kernel) rfl
theorem zf_X3_55 : Cond.fieldLink RX3 55 (TX3 0).1 (TX3 0).2.1 (TX3 0).2.2.1 ∈ zTs := zt 655 (by decide +kernel) rfl
theorem zf_X3_80 : Cond.fieldLink RX3 80 (TX3 1).1 (TX3 1).2.1 (TX3 1).2.2.1 ∈ zTs := zt 656 (by decide +kernel) rfl
theorem zf_X3_7 : Cond.fieldLink RX3 7 (TX3 2).1 (TX3 2).2.1 (TX3 2).2.2.1 ∈ zTs := zt 657 (by decide +kernel) rfl
theorem zf_X3_13 : Cond.fieldLink RX3 13 (TX3 3).1 (TX3 3).2.1 (TX3 3).2.2.1 ∈ zTs := zt 658 (by decide +kernel) rfl
theorem zf_X3_17 : Cond.fieldLink RX3 17 (TX3 4).1 (TX3 4).2.1 (TX3 4).2.2.1 ∈ zTs := zt 659 (by decide +kernel) rfl
theorem zf_X3_21 : Cond.fieldLink RX3 21 (TX3 5).1 (TX3 5).2.1 (TX3 5).2.2.1 ∈ zTs := zt 660 (by decide +kernel) rfl
theorem zf_X3_24 : Cond.fieldLink RX3 24 (TX3 6).1 (TX3 6).2.1 (TX3 6).2.2.1 ∈ zTs := zt 661 (by decide +kernel) rfl
theorem zf_X3_27 : Cond.fieldLink RX3 27 (TX3 7).1 (TX3 7).2.1 (TX3 7).2.2.1 ∈ zTs := zt 662 (by decide +kernel) rfl
theorem zf_X3_116 : Cond.fieldLink RX3 116 (TX3 8).1 (TX3 8).2.1 (TX3 8).2.2.1 ∈ zTs := zt 663 (by decide +kernel) rfl
theorem zf_X3_119 : Cond.fieldLink RX3 119 (TX3 9).1 (TX3 9).2.1 (TX3 9).2.2.1 ∈ zTs := zt 664 (by decide +kernel) rfl
theorem zf_X3_30 : Cond.fieldLink RX3 30 (TX3 10).1 (TX3 10).2.1 (TX3 10).2.2.1 ∈ zTs := zt 665 (by decide +kernel) rfl
theorem zf_X3_33 : Cond.fieldLink RX3 33 (TX3 11).1 (TX3 11).2.1 (TX3 11).2.2.1 ∈ zTs := zt 666 (by decide +kernel) rfl
theorem zf_X3_36 : Cond.fieldLink RX3 36 (TX3 12).1 (TX3 12).2.1 (TX3 12).2.2.1 ∈ zTs := zt 667 (by decide +kernel) rfl
theorem zf_X3_39 : Cond.fieldLink RX3 39 (TX3 13).1 (TX3 13).2.1 (TX3 13).2.2.1 ∈ zTs := zt 668 (by decide +kernel) rfl
theorem zf_X3_42 : Cond.fieldLink RX3 42 (TX3 14).1 (TX3 14).2.1 (TX3 14).2.2.1 ∈ zTs := zt 669 (by decide +kernel) rfl
theorem zf_X3_45 : Cond.fieldLink RX3 45 (TX3 15).1 (TX3 15).2.1 (TX3 15).2.2.1 ∈ zTs := zt 670 (by decide +kernel) rfl
theorem zf_X3_48 : Cond.fieldLink RX3 48 (TX3 16).1 (TX3 16).2.1 (TX3 16).2.2.1 ∈ zTs := zt 671 (by decide +kernel) rfl
theorem zf_X3_160 : Cond.fieldLink RX3 160 (TX3 17).1 (TX3 17).2.1 (TX3 17).2.2.1 ∈ zTs := zt 672 (by decide +kernel) rfl
theorem zf_X3_163 : Cond.fieldLink RX3 163 (TX3 18).1 (TX3 18).2.1 (TX3 18).2.2.1 ∈ zTs := zt 673 (by decide +kernel) rfl
theorem zm_L_98 : Cond.methodLink RL 98 yX2_init ∈ zTs := zt 63 (by decide +kernel) rfl
theorem zm_X2_1 : Cond.methodLink RX2 1 Lib.objectInit ∈ zTs := zt 66 (by decide +kernel) rfl
theorem zm_X2_22 : Cond.methodLink RX2 22 yX0_init ∈ zTs := zt 72 (by decide +kernel) rfl
theorem zm_X0_3 : Cond.methodLink RX0 3 Lib.objectInit ∈ zTs := zt 75 (by decide +kernel) rfl
theorem zm_X0_40 : Cond.methodLink RX0 40 yX1_init ∈ zTs := zt 81 (by decide +kernel) rfl
theorem zm_X1_1 : Cond.methodLink RX1 1 Lib.objectInit ∈ zTs := zt 84 (by decide +kernel) rfl
theorem zm_L_102 : Cond.methodLink RL 102 yL_lookup ∈ zTs := zt 167 (by decide +kernel) rfl
theorem zm_L_7 : Cond.methodLink RL 7 yX2_lookup ∈ zTs := zt 172 (by decide +kernel) rfl
theorem zm_X2_29 : Cond.methodLink RX2 29 yX2_needClient ∈ zTs := zt 176 (by decide +kernel) rfl
theorem zm_X2_33 : Cond.methodLink RX2 33 yX2_needName ∈ zTs := zt 247 (by decide +kernel) rfl
theorem zm_X2_36 : Cond.methodLink RX2 36 yX2_needDirectory ∈ zTs := zt 251 (by decide +kernel) rfl
theorem zm_X2_236 : Cond.methodLink RX2 236 yX2_directoryNumbered ∈ zTs := zt 255 (by decide +kernel) rfl
theorem zm_X2_43 : Cond.methodLink RX2 43 yX0_leaseRuns ∈ zTs := zt 275 (by decide +kernel) rfl
theorem zm_X0_47 : Cond.methodLink RX0 47 yX0_isClient ∈ zTs := zt 279 (by decide +kernel) rfl
theorem zm_X0_43 : Cond.methodLink RX0 43 yX0_isName ∈ zTs := zt 282 (by decide +kernel) rfl
theorem zm_X2_47 : Cond.methodLink RX2 47 yX0_fragmentOfName ∈ zTs := zt 285 (by decide +kernel) rfl
theorem zm_X0_54 : Cond.methodLink RX0 54 yX0_fragmentAt ∈ zTs := zt 289 (by decide +kernel) rfl
theorem zm_X2_56 : Cond.methodLink RX2 56 yX0_setLeaseEnd ∈ zTs := zt 293 (by decide +kernel) rfl
theorem zm_X2_60 : Cond.methodLink RX2 60 yX0_meaningOf ∈ zTs := zt 297 (by decide +kernel) rfl
theorem zm_L_111 : Cond.methodLink RL 111 yL_makeDirectory ∈ zTs := zt 301 (by decide +kernel) rfl
theorem zm_L_17 : Cond.methodLink RL 17 yX2_makeDirectory ∈ zTs := zt 305 (by decide +kernel) rfl
theorem zm_X2_64 : Cond.methodLink RX2 64 yX2_needFree ∈ zTs := zt 309 (by decide +kernel) rfl
theorem zm_X2_148 : Cond.methodLink RX2 148 yX2_frozen ∈ zTs := zt 313 (by decide +kernel) rfl
theorem zm_X2_269 : Cond.methodLink RX2 269 yX2_fragmentAbove ∈ zTs := zt 317 (by decide +kernel) rfl
theorem zm_X2_75 : Cond.methodLink RX2 75 yX2_changeName ∈ zTs := zt 338 (by decide +kernel) rfl
theorem zm_X2_256 : Cond.methodLink RX2 256 yX0_setMeaning ∈ zTs := zt 342 (by decide +kernel) rfl
theorem zm_X2_259 : Cond.methodLink RX2 259 yX2_endLeases ∈ zTs := zt 346 (by decide +kernel) rfl
theorem zm_L_114 : Cond.methodLink RL 114 yL_makeFile ∈ zTs := zt 350 (by decide +kernel) rfl
theorem zm_L_22 : Cond.methodLink RL 22 yX2_makeFile ∈ zTs := zt 353 (by decide +kernel) rfl
theorem zm_X2_84 : Cond.methodLink RX2 84 yX2_makeLink ∈ zTs := zt 358 (by decide +kernel) rfl
theorem zm_L_117 : Cond.methodLink RL 117 yL_link ∈ zTs := zt 362 (by decide +kernel) rfl
theorem zm_L_25 : Cond.methodLink RL 25 yX2_link ∈ zTs := zt 365 (by decide +kernel) rfl
theorem zm_X2_87 : Cond.methodLink RX2 87 yX2_needFile ∈ zTs := zt 369 (by decide +kernel) rfl
theorem zm_X2_90 : Cond.methodLink RX2 90 yX2_countLinks ∈ zTs := zt 374 (by decide +kernel) rfl
theorem zm_X2_266 : Cond.methodLink RX2 266 yX0_countLinksTo ∈ zTs := zt 378 (by decide +kernel) rfl
theorem zm_L_121 : Cond.methodLink RL 121 yL_remove ∈ zTs := zt 383 (by decide +kernel) rfl
theorem zm_L_29 : Cond.methodLink RL 29 yX2_remove ∈ zTs := zt 386 (by decide +kernel) rfl
theorem zm_X2_98 : Cond.methodLink RX2 98 yX2_needTaken ∈ zTs := zt 390 (by decide +kernel) rfl
theorem zm_X2_101 : Cond.methodLink RX2 101 yX2_directoryMeant ∈ zTs := zt 395 (by decide +kernel) rfl
theorem zm_X2_104 : Cond.methodLink RX2 104 yX2_needRemovable ∈ zTs := zt 399 (by decide +kernel) rfl
theorem zm_X2_225 : Cond.methodLink RX2 225 yX0_countTaken ∈ zTs := zt 403 (by decide +kernel) rfl
theorem zm_X2_111 : Cond.methodLink RX2 111 yX2_dropDirectory ∈ zTs := zt 409 (by decide +kernel) rfl
theorem zm_L_124 : Cond.methodLink RL 124 yL_rename ∈ zTs := zt 413 (by decide +kernel) rfl
theorem zm_L_32 : Cond.methodLink RL 32 yX2_rename ∈ zTs := zt 416 (by decide +kernel) rfl
theorem zm_X2_114 : Cond.methodLink RX2 114 yX0_isWithin ∈ zTs := zt 420 (by decide +kernel) rfl
theorem zm_X2_120 : Cond.methodLink RX2 120 yX0_ageOf ∈ zTs := zt 425 (by decide +kernel) rfl
theorem zm_L_128 : Cond.methodLink RL 128 yL_pass ∈ zTs := zt 429 (by decide +kernel) rfl
theorem zm_L_36 : Cond.methodLink RL 36 yX2_pass ∈ zTs := zt 432 (by decide +kernel) rfl
theorem zm_L_132 : Cond.methodLink RL 132 yL_leases ∈ zTs := zt 437 (by decide +kernel) rfl
theorem zm_L_40 : Cond.methodLink RL 40 yX2_leases ∈ zTs := zt 440 (by decide +kernel) rfl
theorem zm_X2_135 : Cond.methodLink RX2 135 yX0_countLeases ∈ zTs := zt 444 (by decide +kernel) rfl
theorem zm_X0_50 : Cond.methodLink RX0 50 yX0_leaseRuns ∈ zTs := zt 448 (by decide +kernel) rfl
theorem zm_L_135 : Cond.methodLink RL 135 yL_recalls ∈ zTs := zt 449 (by decide +kernel) rfl
theorem zm_L_43 : Cond.methodLink RL 43 yX2_recalls ∈ zTs := zt 452 (by decide +kernel) rfl
theorem zm_L_138 : Cond.methodLink RL 138 yL_known ∈ zTs := zt 456 (by decide +kernel) rfl
theorem zm_L_46 : Cond.methodLink RL 46 yX2_known ∈ zTs := zt 459 (by decide +kernel) rfl
theorem zm_L_141 : Cond.methodLink RL 141 yL_split ∈ zTs := zt 463 (by decide +kernel) rfl
theorem zm_L_49 : Cond.methodLink RL 49 yX2_split ∈ zTs := zt 466 (by decide +kernel) rfl
theorem zm_X2_139 : Cond.methodLink RX2 139 yX2_needHash ∈ zTs := zt 470 (by decide +kernel) rfl
theorem zm_X2_142 : Cond.methodLink RX2 142 yX0_fragmentAt ∈ zTs := zt 474 (by decide +kernel) rfl
theorem zm_X2_154 : Cond.methodLink RX2 154 yX0_halve ∈ zTs := zt 476 (by decide +kernel) rfl
theorem zm_X0_73 : Cond.methodLink RX0 73 yX0_putByHash ∈ zTs := zt 480 (by decide +kernel) rfl
theorem zm_X2_158 : Cond.methodLink RX2 158 yX0_countFragments ∈ zTs := zt 484 (by decide +kernel) rfl
theorem zm_X0_61 : Cond.methodLink RX0 61 yX0_fragmentBeginningAt ∈ zTs := zt 488 (by decide +kernel) rfl
theorem zm_L_145 : Cond.methodLink RL 145 yL_merge ∈ zTs := zt 492 (by decide +kernel) rfl
theorem zm_L_53 : Cond.methodLink RL 53 yX2_merge ∈ zTs := zt 495 (by decide +kernel) rfl
theorem zm_X2_174 : Cond.methodLink RX2 174 yX0_join ∈ zTs := zt 502 (by decide +kernel) rfl
theorem zm_L_148 : Cond.methodLink RL 148 yL_fragments ∈ zTs := zt 506 (by decide +kernel) rfl
theorem zm_L_56 : Cond.methodLink RL 56 yX2_fragments ∈ zTs := zt 509 (by decide +kernel) rfl
theorem zm_L_151 : Cond.methodLink RL 151 yL_serverOf ∈ zTs := zt 513 (by decide +kernel) rfl
theorem zm_L_59 : Cond.methodLink RL 59 yX2_serverOf ∈ zTs := zt 516 (by decide +kernel) rfl
theorem zm_X2_178 : Cond.methodLink RX2 178 yX2_serverOfFragment ∈ zTs := zt 520 (by decide +kernel) rfl
theorem zm_L_154 : Cond.methodLink RL 154 yL_ownerOf ∈ zTs := zt 524 (by decide +kernel) rfl
theorem zm_L_62 : Cond.methodLink RL 62 yX2_ownerOf ∈ zTs := zt 527 (by decide +kernel) rfl
theorem zm_L_157 : Cond.methodLink RL 157 yL_load ∈ zTs := zt 531 (by decide +kernel) rfl
theorem zm_L_65 : Cond.methodLink RL 65 yX2_load ∈ zTs := zt 534 (by decide +kernel) rfl
theorem zm_X2_182 : Cond.methodLink RX2 182 yX2_needServer ∈ zTs := zt 538 (by decide +kernel) rfl
theorem zm_X2_185 : Cond.methodLink RX2 185 yX2_loadOfServer ∈ zTs := zt 542 (by decide +kernel) rfl
theorem zm_X2_273 : Cond.methodLink RX2 273 yX2_fragmentInSlot ∈ zTs := zt 546 (by decide +kernel) rfl
theorem zm_X2_276 : Cond.methodLink RX2 276 yX0_fragmentBeginningAt ∈ zTs := zt 550 (by decide +kernel) rfl
theorem zm_L_160 : Cond.methodLink RL 160 yL_beginMove ∈ zTs := zt 551 (by decide +kernel) rfl
theorem zm_L_68 : Cond.methodLink RL 68 yX2_beginMove ∈ zTs := zt 554 (by decide +kernel) rfl
theorem zm_X2_188 : Cond.methodLink RX2 188 yX2_needNoMove ∈ zTs := zt 558 (by decide +kernel) rfl
theorem zm_X2_193 : Cond.methodLink RX2 193 yX2_startMove ∈ zTs := zt 564 (by decide +kernel) rfl
theorem zm_L_164 : Cond.methodLink RL 164 yL_stepMove ∈ zTs := zt 568 (by decide +kernel) rfl
theorem zm_L_72 : Cond.methodLink RL 72 yX2_stepMove ∈ zTs := zt 571 (by decide +kernel) rfl
theorem zm_X2_206 : Cond.methodLink RX2 206 yX2_recallFrozenNames ∈ zTs := zt 576 (by decide +kernel) rfl
theorem zm_X2_263 : Cond.methodLink RX2 263 yX2_recallFrozenNamesOf ∈ zTs := zt 580 (by decide +kernel) rfl
theorem zm_L_168 : Cond.methodLink RL 168 yL_giveUpMove ∈ zTs := zt 584 (by decide +kernel) rfl
theorem zm_L_76 : Cond.methodLink RL 76 yX2_giveUpMove ∈ zTs := zt 587 (by decide +kernel) rfl
theorem zm_L_171 : Cond.methodLink RL 171 yL_isFrozen ∈ zTs := zt 591 (by decide +kernel) rfl
theorem zm_L_79 : Cond.methodLink RL 79 yX2_isFrozen ∈ zTs := zt 594 (by decide +kernel) rfl
theorem zm_L_174 : Cond.methodLink RL 174 yL_balance ∈ zTs := zt 598 (by decide +kernel) rfl
theorem zm_L_83 : Cond.methodLink RL 83 yX2_balance ∈ zTs := zt 601 (by decide +kernel) rfl
theorem zm_X2_212 : Cond.methodLink RX2 212 yX2_heaviestFragment ∈ zTs := zt 605 (by decide +kernel) rfl
theorem zm_X2_216 : Cond.methodLink RX2 216 yX2_halveLoads ∈ zTs := zt 609 (by decide +kernel) rfl
theorem zm_L_177 : Cond.methodLink RL 177 yL_links ∈ zTs := zt 613 (by decide +kernel) rfl
theorem zm_L_86 : Cond.methodLink RL 86 yX2_links ∈ zTs := zt 616 (by decide +kernel) rfl
theorem zm_L_180 : Cond.methodLink RL 180 yL_anchor ∈ zTs := zt 620 (by decide +kernel) rfl
theorem zm_L_89 : Cond.methodLink RL 89 yX2_anchor ∈ zTs := zt 623 (by decide +kernel) rfl
theorem zm_X2_222 : Cond.methodLink RX2 222 yX0_oldestLink ∈ zTs := zt 627 (by decide +kernel) rfl
theorem zm_L_183 : Cond.methodLink RL 183 yL_byTree ∈ zTs := zt 631 (by decide +kernel) rfl
theorem zm_L_92 : Cond.methodLink RL 92 yX2_byTree ∈ zTs := zt 634 (by decide +kernel) rfl
theorem zm_L_186 : Cond.methodLink RL 186 yL_size ∈ zTs := zt 638 (by decide +kernel) rfl
theorem zm_L_95 : Cond.methodLink RL 95 yX2_size ∈ zTs := zt 641 (by decide +kernel) rfl
theorem zm_L_101 : Cond.methodLink RL 101 yX3_init ∈ zTs := zt 647 (by decide +kernel) rfl
theorem zm_X3_1 : Cond.methodLink RX3 1 Lib.objectInit ∈ zTs := zt 650 (by decide +kernel) rfl
theorem zm_X3_51 : Cond.methodLink RX3 51 yX3_begins ∈ zTs := zt 651 (by decide +kernel) rfl
theorem zm_L_108 : Cond.methodLink RL 108 yX3_thrown ∈ zTs := zt 714 (by decide +kernel) rfl
theorem zm_L_107 : Cond.methodLink RL 107 yX3_lookup ∈ zTs := zt 718 (by decide +kernel) rfl
theorem zm_X3_102 : Cond.methodLink RX3 102 yX3_barsName ∈ zTs := zt 722 (by decide +kernel) rfl
theorem zm_X3_93 : Cond.methodLink RX3 93 yX3_isClient ∈ zTs := zt 726 (by decide +kernel) rfl
theorem zm_X3_58 : Cond.methodLink RX3 58 yX3_in ∈ zTs := zt 729 (by decide +kernel) rfl
theorem zm_X3_96 : Cond.methodLink RX3 96 yX3_isName ∈ zTs := zt 732 (by decide +kernel) rfl
theorem zm_X3_99 : Cond.methodLink RX3 99 yX3_isDirectory ∈ zTs := zt 735 (by decide +kernel) rfl
theorem zm_X3_87 : Cond.methodLink RX3 87 yX3_at ∈ zTs := zt 739 (by decide +kernel) rfl
theorem zm_X3_83 : Cond.methodLink RX3 83 yX3_runs ∈ zTs := zt 742 (by decide +kernel) rfl
theorem zm_X3_70 : Cond.methodLink RX3 70 yX3_fragmentOfName ∈ zTs := zt 746 (by decide +kernel) rfl
theorem zm_X3_62 : Cond.methodLink RX3 62 yX3_hash ∈ zTs := zt 750 (by decide +kernel) rfl
theorem zm_X3_66 : Cond.methodLink RX3 66 yX3_fragment ∈ zTs := zt 753 (by decide +kernel) rfl
theorem zm_L_113 : Cond.methodLink RL 113 yX3_makeDirectory ∈ zTs := zt 757 (by decide +kernel) rfl
theorem zm_X3_109 : Cond.methodLink RX3 109 yX3_barsNew ∈ zTs := zt 761 (by decide +kernel) rfl
theorem zm_X3_106 : Cond.methodLink RX3 106 yX3_isFrozenName ∈ zTs := zt 765 (by decide +kernel) rfl
theorem zm_X3_76 : Cond.methodLink RX3 76 yX3_frozen ∈ zTs := zt 769 (by decide +kernel) rfl
theorem zm_X3_73 : Cond.methodLink RX3 73 yX3_inherited ∈ zTs := zt 773 (by decide +kernel) rfl
theorem zm_X3_112 : Cond.methodLink RX3 112 yX3_changes ∈ zTs := zt 777 (by decide +kernel) rfl
theorem zm_X3_90 : Cond.methodLink RX3 90 yX3_ends ∈ zTs := zt 781 (by decide +kernel) rfl
theorem zm_L_116 : Cond.methodLink RL 116 yX3_makeFile ∈ zTs := zt 785 (by decide +kernel) rfl
theorem zm_X3_122 : Cond.methodLink RX3 122 yX3_links ∈ zTs := zt 789 (by decide +kernel) rfl
theorem zm_L_120 : Cond.methodLink RL 120 yX3_link ∈ zTs := zt 793 (by decide +kernel) rfl
theorem zm_X3_127 : Cond.methodLink RX3 127 yX3_isFile ∈ zTs := zt 797 (by decide +kernel) rfl
theorem zm_X3_124 : Cond.methodLink RX3 124 yX3_countLinks ∈ zTs := zt 801 (by decide +kernel) rfl
theorem zm_L_123 : Cond.methodLink RL 123 yX3_remove ∈ zTs := zt 805 (by decide +kernel) rfl
theorem zm_X3_133 : Cond.methodLink RX3 133 yX3_isHeld ∈ zTs := zt 809 (by decide +kernel) rfl
theorem zm_X3_130 : Cond.methodLink RX3 130 yX3_used ∈ zTs := zt 813 (by decide +kernel) rfl
theorem zm_L_127 : Cond.methodLink RL 127 yX3_rename ∈ zTs := zt 817 (by decide +kernel) rfl
theorem zm_X3_136 : Cond.methodLink RX3 136 yX3_isBelow ∈ zTs := zt 821 (by decide +kernel) rfl
theorem zm_L_131 : Cond.methodLink RL 131 yX3_pass ∈ zTs := zt 825 (by decide +kernel) rfl
theorem zm_L_134 : Cond.methodLink RL 134 yX3_leases ∈ zTs := zt 829 (by decide +kernel) rfl
theorem zm_L_137 : Cond.methodLink RL 137 yX3_recalls ∈ zTs := zt 833 (by decide +kernel) rfl
theorem zm_X3_139 : Cond.methodLink RX3 139 yX3_fails ∈ zTs := zt 837 (by decide +kernel) rfl
theorem zm_L_140 : Cond.methodLink RL 140 yX3_known ∈ zTs := zt 841 (by decide +kernel) rfl
theorem zm_L_144 : Cond.methodLink RL 144 yX3_split ∈ zTs := zt 845 (by decide +kernel) rfl
theorem zm_X3_145 : Cond.methodLink RX3 145 yX3_barsHash ∈ zTs := zt 849 (by decide +kernel) rfl
theorem zm_X3_142 : Cond.methodLink RX3 142 yX3_isHash ∈ zTs := zt 853 (by decide +kernel) rfl
theorem zm_X3_148 : Cond.methodLink RX3 148 yX3_count ∈ zTs := zt 856 (by decide +kernel) rfl
theorem zm_L_147 : Cond.methodLink RL 147 yX3_merge ∈ zTs := zt 860 (by decide +kernel) rfl
theorem zm_L_150 : Cond.methodLink RL 150 yX3_fragments ∈ zTs := zt 864 (by decide +kernel) rfl
theorem zm_L_153 : Cond.methodLink RL 153 yX3_serverOf ∈ zTs := zt 868 (by decide +kernel) rfl
theorem zm_X3_151 : Cond.methodLink RX3 151 yX3_barsPlain ∈ zTs := zt 872 (by decide +kernel) rfl
theorem zm_X3_154 : Cond.methodLink RX3 154 yX3_server ∈ zTs := zt 876 (by decide +kernel) rfl
theorem zm_L_156 : Cond.methodLink RL 156 yX3_ownerOf ∈ zTs := zt 880 (by decide +kernel) rfl
theorem zm_L_159 : Cond.methodLink RL 159 yX3_load ∈ zTs := zt 884 (by decide +kernel) rfl
theorem zm_X3_157 : Cond.methodLink RX3 157 yX3_loadOf ∈ zTs := zt 888 (by decide +kernel) rfl
theorem zm_L_163 : Cond.methodLink RL 163 yX3_beginMove ∈ zTs := zt 892 (by decide +kernel) rfl
theorem zm_X3_166 : Cond.methodLink RX3 166 yX3_moves ∈ zTs := zt 896 (by decide +kernel) rfl
theorem zm_L_167 : Cond.methodLink RL 167 yX3_stepMove ∈ zTs := zt 900 (by decide +kernel) rfl
theorem zm_L_170 : Cond.methodLink RL 170 yX3_giveUpMove ∈ zTs := zt 904 (by decide +kernel) rfl
theorem zm_L_173 : Cond.methodLink RL 173 yX3_isFrozen ∈ zTs := zt 908 (by decide +kernel) rfl
theorem zm_L_176 : Cond.methodLink RL 176 yX3_balance ∈ zTs := zt 912 (by decide +kernel) rfl
theorem zm_L_179 : Cond.methodLink RL 179 yX3_links_ ∈ zTs := zt 916 (by decide +kernel) rfl
theorem zm_L_182 : Cond.methodLink RL 182 yX3_anchor ∈ zTs := zt 920 (by decide +kernel) rfl
theorem zm_L_185 : Cond.methodLink RL 185 yX3_byTree ∈ zTs := zt 924 (by decide +kernel) rfl
theorem zm_L_188 : Cond.methodLink RL 188 yX3_size ∈ zTs := zt 928 (by decide +kernel) rfl
theorem zc_L_8 : Cond.classLink RL 8 "DirectoryServers" ∈ zTs := zt 61 (by decide +kernel) rfl
theorem zc_X2_9 : Cond.classLink RX2 9 "DirectoryServers$Directory" ∈ zTs := zt 69 (by decide +kernel) rfl
theorem zc_X0_18 : Cond.classLink RX0 18 "[[I" ∈ zTs := zt 76 (by decide +kernel) rfl
theorem zc_X0_23 : Cond.classLink RX0 23 "DirectoryServers$Fragment" ∈ zTs := zt 78 (by decide +kernel) rfl
theorem zc_L_13 : Cond.classLink RL 13 "java/lang/IllegalArgumentException" ∈ zTs := zt 170 (by decide +kernel) rfl
theorem zc_L_15 : Cond.classLink RL 15 "java/lang/IndexOutOfBoundsException" ∈ zTs := zt 171 (by decide +kernel) rfl
theorem zc_X2_130 : Cond.classLink RX2 130 "java/lang/IllegalArgumentException" ∈ zTs := zt 179 (by decide +kernel) rfl
theorem zc_X2_93 : Cond.classLink RX2 93 "java/lang/IndexOutOfBoundsException" ∈ zTs := zt 259 (by decide +kernel) rfl
theorem zc_L_20 : Cond.classLink RL 20 "java/lang/IllegalStateException" ∈ zTs := zt 304 (by decide +kernel) rfl
theorem zc_X2_68 : Cond.classLink RX2 68 "java/lang/IllegalStateException" ∈ zTs := zt 321 (by decide +kernel) rfl
theorem zc_L_99 : Cond.classLink RL 99 "DirectoryServersModel" ∈ zTs := zt 645 (by decide +kernel) rfl
end
section
theorem zthw {own : String} {ic : Nat} {X : String} (h : (vx_atS own ic X zNm).all (fun w => (decide (w ∈ lw_tbl) && goodWord w) || (decide (w = .castable X X) || zDecl.any (fun F => decide (w = .declares ⟨F, "<init>", "(Ljava/lang/String;)V"⟩)))) = true) : ∀ w ∈ vx_atS own ic X zNm, w ∈ zTs ∨ w = .castable X X ∨ ∃ F ∈ zDecl, w = .declares ⟨F, "<init>", "(Ljava/lang/String;)V"⟩ := by
  intro w hw
  have h1 := List.all_eq_true.mp h w hw
  simp only [Bool.or_eq_true, Bool.and_eq_true, decide_eq_true_eq, List.any_eq_true] at h1
  rcases h1 with h1 | h1 | h1
  · exact Or.inl (List.mem_filter.mpr h1)
  · exact Or.inr (Or.inl h1)
  · exact Or.inr (Or.inr h1)
theorem zthIAE : zTh RX2 130 134 "java/lang/IllegalArgumentException" := ⟨by decide +kernel, zt 179 (by decide +kernel) rfl, zt 58 (by decide +kernel) rfl, zthw (by decide +kernel), by decide +kernel, by decide +kernel⟩
theorem zthIOB : zTh RX2 93 97 "java/lang/IndexOutOfBoundsException" := ⟨by decide +kernel, zt 259 (by decide +kernel) rfl, zt 59 (by decide +kernel) rfl, zthw (by decide +kernel), by decide +kernel, by decide +kernel⟩
theorem zthISE : zTh RX2 68 72 "java/lang/IllegalStateException" := ⟨by decide +kernel, zt 321 (by decide +kernel) rfl, zt 60 (by decide +kernel) rfl, zthw (by decide +kernel), by decide +kernel, by decide +kernel⟩
end
section
section ZMOD
variable {t : ZY} {tb : List ExceptionTableEntry} {E : ZE} {G : ZG} {u : Nat} {Q : State → Prop} {M M0 : ZM} {b pc : Nat} {L : List (Option Value)} {S : List Value} {P P' : ZO → ZM → Prop}
theorem zq_getRs (K : zOK t tb G E) {index ci N k : Nat} {C : String} {T : u_T} {ty : Nat → FieldType} (hd : decode (zyc t) pc = .ok (.getfield index, 3)) (hC : zcl ci C T N ty) (hk : k < N) (hw : Cond.fieldLink (zyn t).cls index (T k).1 (T k).2.1 (T k).2.2.1 ∈ zTs) (hi : zfi ci k = false) {a y : Nat} (ha : zk M a = ci + 1) (hv : zr M a k = some y) (kk : WW E G u Q M b (pc + 3) L (.ref y :: S)) : WW E G u Q M b pc L (.ref a :: S) := zq_getR K hd hC hk hw hi ha hv kk
theorem zq_getRn (K : zOK t tb G E) {index ci N k : Nat} {C : String} {T : u_T} {ty : Nat → FieldType} (hd : decode (zyc t) pc = .ok (.getfield index, 3)) (hC : zcl ci C T N ty) (hk : k < N) (hw : Cond.fieldLink (zyn t).cls index (T k).1 (T k).2.1 (T k).2.2.1 ∈ zTs) (hi : zfi ci k = false) {a : Nat} (ha : zk M a = ci + 1) (hv : zr M a k = none) (kk : WW E G u Q M b (pc + 3) L (.null :: S)) : WW E G u Q M b pc L (.ref a :: S) := zq_getR K hd hC hk hw hi ha hv kk
theorem zq_putRs (K : zOK t tb G E) {index ci N k : Nat} {C : String} {T : u_T} {ty : Nat → FieldType} (hd : decode (zyc t) pc = .ok (.putfield index, 3)) (hC : zcl ci C T N ty) (hk : k < N) (hw : Cond.fieldLink (zyn t).cls index (T k).1 (T k).2.1 (T k).2.2.1 ∈ zTs) (hfin : (T k).2.2.2 = false ∨ ((T k).1 = (zyn t).cls ∧ (zyn t).name = "<init>")) (hty : ∀ r : Option Nat, narrow (ty k) (va_rf r) = va_rf r ∧ fits (ty k) (va_rf r) = true) (hi : zfi ci k = false) {a y : Nat} (ha : zk M a = ci + 1) (kk : WW E G u Q (zsr M a k (some y)) b (pc + 3) L S) : WW E G u Q M b pc L (.ref y :: .ref a :: S) := zq_putR (r := some y) K hd hC hk hw hfin hty hi ha kk
theorem zq_putRn (K : zOK t tb G E) {index ci N k : Nat} {C : String} {T : u_T} {ty : Nat → FieldType} (hd : decode (zyc t) pc = .ok (.putfield index, 3)) (hC : zcl ci C T N ty) (hk : k < N) (hw : Cond.fieldLink (zyn t).cls index (T k).1 (T k).2.1 (T k).2.2.1 ∈ zTs) (hfin : (T k).2.2.2 = false ∨ ((T k).1 = (zyn t).cls ∧ (zyn t).name = "<init>")) (hty : ∀ r : Option Nat, narrow (ty k) (va_rf r) = va_rf r ∧ fits (ty k) (va_rf r) = true) (hi : zfi ci k = false) {a : Nat} (ha : zk M a = ci + 1) (kk : WW E G u Q (zsr M a k none) b (pc + 3) L S) : WW E G u Q M b pc L (.null :: .ref a :: S) := zq_putR (r := none) K hd hC hk hw hfin hty hi ha kk
theorem zq_aalds (K : zOK t tb G E) {a k y : Nat} {i : Int32} (j : Nat) (hd : decode (zyc t) pc = .ok (.aaload, 1)) (ha : zk M a = k) (hk : 8 ≤ k ∧ k ≤ 10) (hi : i = nI j) (hj : j < zn M a) (hn : zn M a < 2 ^ 31) (hv : zr M a j = some y) (kk : WW E G u Q M b (pc + 1) L (.ref y :: S)) : WW E G u Q M b pc L (.int i :: .ref a :: S) := zq_aald K j hd ha hk hi hj hn hv kk
theorem zq_aaldn (K : zOK t tb G E) {a k : Nat} {i : Int32} (j : Nat) (hd : decode (zyc t) pc = .ok (.aaload, 1)) (ha : zk M a = k) (hk : 8 ≤ k ∧ k ≤ 10) (hi : i = nI j) (hj : j < zn M a) (hn : zn M a < 2 ^ 31) (hv : zr M a j = none) (kk : WW E G u Q M b (pc + 1) L (.null :: S)) : WW E G u Q M b pc L (.int i :: .ref a :: S) := zq_aald K j hd ha hk hi hj hn hv kk
/-- a method that answers yes or no and changes nothing -/
def zdec (p : Prop) (M : ZM) : ZO → ZM → Prop := fun o M' => M' = M ∧ ((p ∧ o = .inl (some (.int 1))) ∨ (¬ p ∧ o = .inl (some (.int 0))))
theorem zdec_r {p : Prop} {n : Nat} (k1 : p → WW E G u Q M n (pc + 3) L (.int 1 :: S)) (k0 : ¬ p → WW E G u Q M n (pc + 3) L (.int 0 :: S)) : ∀ (v' : Option Value) (M' : ZM), zdec p M (.inl v') M' → WW E G u Q M' n (pc + 3) L (v'.toList ++ S) := by
  rintro v' M' ⟨rfl, ⟨hp, h⟩ | ⟨hp, h⟩⟩
  · cases h
    exact k1 hp
  · cases h
    exact k0 hp
theorem zdec_x {p : Prop} {n : Nat} : ∀ (En : String) (M' : ZM), zdec p M (.inr En) M' → XX E G u Q M' n pc L En := by
  rintro En M' ⟨-, ⟨-, h⟩ | ⟨-, h⟩⟩ <;> cases h
theorem zdec_1 {p : Prop} (h : p) : zdec p M (.inl (some (.int 1))) M := ⟨rfl, Or.inl ⟨h, rfl⟩⟩
theorem zdec_0 {p : Prop} (h : ¬ p) : zdec p M (.inl (some (.int 0))) M := ⟨rfl, Or.inr ⟨h, rfl⟩⟩
theorem zdec_i {p q : Prop} (h : p ↔ q) {o : ZO} {M' : ZM} (k : zdec p M o M') : zdec q M o M' := by
  rwa [show p = q from propext h] at k
/-- a choice by any proposition -/
noncomputable def zit {α : Type} (p : Prop) (a b : α) : α := @ite α p (Classical.propDecidable p) a b
theorem zit_t {α : Type} {p : Prop} {a b : α} (h : p) : zit p a b = a := if_pos h
theorem zit_f {α : Type} {p : Prop} {a b : α} (h : ¬ p) : zit p a b = b := if_neg h
/-! the reference's object: at x, its rows at q, its state A -/
abbrev ZA : Type := (Nat → Int32) × (Nat → Nat → Int32)
def zar (k : Nat) : Bool := (3 ≤ k && k ≤ 7) || (10 ≤ k && k ≤ 15)
def zln (k : Nat) : Nat := if k ≤ 5 then 12 else if k ≤ 7 then 600 else if k ≤ 12 then 96 else if k = 13 then 2400 else 4
theorem zln_lt (k : Nat) : zln k < 2 ^ 31 := by
  unfold zln
  repeat' split
  all_goals omega
/-- .. w: what it calls thrown, which A leaves out -/
def zR (M : ZM) (x : Nat) (q : Nat → Nat) (w : Int32) (A : ZA) : Prop := zk M x = 4 ∧ (∀ k, zar k = true → zr M x k = some (q k) ∧ zk M (q k) = (if k = 3 then 6 else 5) ∧ zn M (q k) = zln k ∧ ∀ j, zi M (q k) j = A.2 k j) ∧ (zi M x 0 = w ∧ ∀ k, zar k = false → k ≠ 0 → zi M x k = A.1 k) ∧ (∀ j k, zar j = true → zar k = true → q j = q k → j = k)
def zsame (M M' : ZM) (a : Nat) : Prop := zk M' a = zk M a ∧ zn M' a = zn M a ∧ (∀ j, zi M' a j = zi M a j) ∧ (∀ j, zr M' a j = zr M a j) ∧ ∀ j, zj M' a j = zj M a j
theorem zsame.rf {a : Nat} : zsame M M a := ⟨rfl, rfl, fun _ => rfl, fun _ => rfl, fun _ => rfl⟩
theorem zsame.tr {M1 M2 M3 : ZM} {a : Nat} (h : zsame M1 M2 a) (g : zsame M2 M3 a) : zsame M1 M3 a := ⟨g.1.trans h.1, g.2.1.trans h.2.1, fun j => (g.2.2.1 j).trans (h.2.2.1 j), fun j => (g.2.2.2.1 j).trans (h.2.2.2.1 j), fun j => (g.2.2.2.2 j).trans (h.2.2.2.2 j)⟩
theorem zsame.i {a b k : Nat} {v : Int32} (h : b ≠ a) : zsame M (zsi M a k v) b := ⟨rfl, rfl, fun j => by rw [zi_i, if_neg (fun q => h q.1)], fun _ => rfl, fun _ => rfl⟩
theorem zsame.r {a b k : Nat} {v : Option Nat} (h : b ≠ a) : zsame M (zsr M a k v) b := ⟨rfl, rfl, fun _ => rfl, fun j => by rw [zr_r, if_neg (fun q => h q.1)], fun _ => rfl⟩
theorem zsame.j {a b k : Nat} {v : Int64} (h : b ≠ a) : zsame M (zsj M a k v) b := ⟨rfl, rfl, fun _ => rfl, fun _ => rfl, fun j => by rw [zj_j, if_neg (fun q => h q.1)]⟩
theorem zsame.w {a b kd n : Nat} (h : b ≠ a) : zsame M (zw M a kd n) b := ⟨by rw [zk_w, if_neg h], by rw [zn_w, if_neg h], fun j => by rw [zi_w, if_neg h], fun j => by rw [zr_w, if_neg h], fun j => by rw [zj_w, if_neg h]⟩
/-- nothing changes but the reference's cells -/
def zSm (x : Nat) (q : Nat → Nat) (M M' : ZM) : Prop := ∀ a, a ≠ x → (∀ k, zar k = true → a ≠ q k) → zsame M M' a
theorem zSm.rf {x : Nat} {q : Nat → Nat} : zSm x q M M := fun _ _ _ => zsame.rf
theorem zSm.tr {x : Nat} {q : Nat → Nat} {M1 M2 M3 : ZM} (h : zSm x q M1 M2) (g : zSm x q M2 M3) : zSm x q M1 M3 := fun a h1 h2 => (h a h1 h2).tr (g a h1 h2)
def zsc (A : ZA) (k : Nat) (v : Int32) : ZA := (zo A.1 k v, A.2)
def zsa (A : ZA) (k j : Nat) (v : Int32) : ZA := (A.1, zu A.2 k j v)
theorem zsc_1 (A : ZA) (k : Nat) (v : Int32) (j : Nat) : (zsc A k v).1 j = if j = k then v else A.1 j := rfl
theorem zsc_2 (A : ZA) (k : Nat) (v : Int32) : (zsc A k v).2 = A.2 := rfl
theorem zsa_1 (A : ZA) (k j : Nat) (v : Int32) : (zsa A k j v).1 = A.1 := rfl
theorem zsa_2 (A : ZA) (k j : Nat) (v : Int32) (k' i : Nat) : (zsa A k j v).2 k' i = if k' = k ∧ i = j then v else A.2 k' i := rfl
theorem zsa_n (A : ZA) (k j : Nat) (v : Int32) (k' : Nat) (h : k' ≠ k) : (zsa A k j v).2 k' = A.2 k' := funext fun i => by rw [zsa_2, if_neg (fun q => h q.1)]
section ZRS
variable {x : Nat} {q : Nat → Nat} {w : Int32} {A : ZA}
theorem zR.ne (h : zR M x q w A) {k : Nat} (hk : zar k = true) : q k ≠ x := fun e => by
  have h1 := (h.2.1 k hk).2.1
  rw [e, h.1] at h1
  split at h1 <;> omega
theorem zR.sc (h : zR M x q w A) {k : Nat} (hk : zar k = false) (h0 : k ≠ 0) {v : Int32} : zR (zsi M x k v) x q w (zsc A k v) := by
  refine ⟨h.1, fun j hj => ?_, ⟨?_, fun j hj hj0 => ?_⟩, h.2.2.2⟩
  · obtain ⟨h1, h2, h3, h4⟩ := h.2.1 j hj
    exact ⟨h1, h2, h3, fun i => by rw [zi_i, if_neg (fun z => h.ne hj z.1)]; exact h4 i⟩
  · rw [zi_i, if_neg (fun z => h0 z.2.symm)]
    exact h.2.2.1.1
  · rw [zi_i, zsc_1]
    by_cases e : j = k
    · rw [if_pos ⟨rfl, e⟩, if_pos e]
    · rw [if_neg (fun z => e z.2), if_neg e]
      exact h.2.2.1.2 j hj hj0
theorem zR.th (h : zR M x q w A) {v : Int32} : zR (zsi M x 0 v) x q v A := by
  refine ⟨h.1, fun j hj => ?_, ⟨?_, fun j hj hj0 => ?_⟩, h.2.2.2⟩
  · obtain ⟨h1, h2, h3, h4⟩ := h.2.1 j hj
    exact ⟨h1, h2, h3, fun i => by rw [zi_i, if_neg (fun z => h.ne hj z.1)]; exact h4 i⟩
  · rw [zi_i, if_pos ⟨rfl, rfl⟩]
  · rw [zi_i, if_neg (fun z => hj0 z.2)]
    exact h.2.2.1.2 j hj hj0
theorem zR.ar (h : zR M x q w A) {k j : Nat} (hk : zar k = true) {v : Int32} : zR (zsi M (q k) j v) x q w (zsa A k j v) := by
  refine ⟨h.1, fun k' hk' => ?_, ⟨?_, fun k' hk' hk0 => ?_⟩, h.2.2.2⟩
  · obtain ⟨h1, h2, h3, h4⟩ := h.2.1 k' hk'
    refine ⟨h1, h2, h3, fun i => ?_⟩
    rw [zi_i, zsa_2]
    by_cases e : k' = k
    · subst e
      by_cases ei : i = j
      · rw [if_pos ⟨rfl, ei⟩, if_pos ⟨rfl, ei⟩]
      · rw [if_neg (fun z => ei z.2), if_neg (fun z => ei z.2)]
        exact h4 i
    · rw [if_neg (fun z => e (h.2.2.2 k' k hk' hk z.1)), if_neg (fun z => e z.1)]
      exact h4 i
  · rw [zi_i, if_neg (fun z => h.ne hk z.1.symm)]
    exact h.2.2.1.1
  · rw [zi_i, if_neg (fun z => h.ne hk z.1.symm), zsa_1]
    exact h.2.2.1.2 k' hk' hk0
/-! rows for its fields -/
theorem zm_sc (K : zOK t tb G E) {index k : Nat} (hd : decode (zyc t) pc = .ok (.getfield index, 3)) (hw : Cond.fieldLink (zyn t).cls index (TX3 k).1 (TX3 k).2.1 (TX3 k).2.2.1 ∈ zTs) (hk : k < 19 ∧ zar k = false ∧ zfi 3 k = true ∧ k ≠ 0) (hR : zR M x q w A) (kk : WW E G u Q M b (pc + 3) L (.int (A.1 k) :: S)) : WW E G u Q M b pc L (.ref x :: S) :=
  zq_getI K hd zclX3 hk.1 hw hk.2.2.1 hR.1 (by rw [hR.2.2.1.2 k hk.2.1 hk.2.2.2]; exact kk)
theorem zm_th (K : zOK t tb G E) {index : Nat} (hd : decode (zyc t) pc = .ok (.getfield index, 3)) (hw : Cond.fieldLink (zyn t).cls index (TX3 0).1 (TX3 0).2.1 (TX3 0).2.2.1 ∈ zTs) (hR : zR M x q w A) (kk : WW E G u Q M b (pc + 3) L (.int w :: S)) : WW E G u Q M b pc L (.ref x :: S) :=
  zq_getI K hd zclX3 (by decide) hw rfl hR.1 (by rw [hR.2.2.1.1]; exact kk)
theorem zm_pth (K : zOK t tb G E) {index : Nat} {v : Int32} (hd : decode (zyc t) pc = .ok (.putfield index, 3)) (hw : Cond.fieldLink (zyn t).cls index (TX3 0).1 (TX3 0).2.1 (TX3 0).2.2.1 ∈ zTs) (hR : zR M x q w A) (hS : zSm x q M0 M) (kk : ∀ M', zR M' x q v A → zSm x q M0 M' → WW E G u Q M' b (pc + 3) L S) : WW E G u Q M b pc L (.int v :: .ref x :: S) :=
  zq_putI K hd zclX3 (by decide) hw (Or.inl rfl) rfl rfl hR.1 (kk _ hR.th (hS.tr (fun a h1 _ => zsame.i h1)))
theorem zm_ar (K : zOK t tb G E) {index k : Nat} (hd : decode (zyc t) pc = .ok (.getfield index, 3)) (hw : Cond.fieldLink (zyn t).cls index (TX3 k).1 (TX3 k).2.1 (TX3 k).2.2.1 ∈ zTs) (hk : k < 19 ∧ zar k = true ∧ zfi 3 k = false) (hR : zR M x q w A) (kk : WW E G u Q M b (pc + 3) L (.ref (q k) :: S)) : WW E G u Q M b pc L (.ref x :: S) :=
  zq_getRs K hd zclX3 hk.1 hw hk.2.2 hR.1 (hR.2.1 k hk.2.1).1 kk
theorem zm_psc (K : zOK t tb G E) {index k : Nat} {v : Int32} (hd : decode (zyc t) pc = .ok (.putfield index, 3)) (hw : Cond.fieldLink (zyn t).cls index (TX3 k).1 (TX3 k).2.1 (TX3 k).2.2.1 ∈ zTs) (hk : k < 19 ∧ zar k = false ∧ zfi 3 k = true ∧ (TX3 k).2.2.2 = false ∧ tyX3 k = .int ∧ k ≠ 0) (hR : zR M x q w A) (hS : zSm x q M0 M) (kk : ∀ M', zR M' x q w (zsc A k v) → zSm x q M0 M' → WW E G u Q M' b (pc + 3) L S) : WW E G u Q M b pc L (.int v :: .ref x :: S) :=
  zq_putI K hd zclX3 hk.1 hw (Or.inl hk.2.2.2.1) hk.2.2.2.2.1 hk.2.2.1 hR.1 (kk _ (hR.sc hk.2.1 hk.2.2.2.2.2) (hS.tr (fun a h1 _ => zsame.i h1)))
theorem zm_ld (K : zOK t tb G E) {k : Nat} {i : Int32} (j : Nat) (hd : decode (zyc t) pc = .ok (.iaload, 1)) (hk : zar k = true ∧ k ≠ 3) (hR : zR M x q w A) (hi : i = nI j) (hj : j < zln k) (kk : WW E G u Q M b (pc + 1) L (.int (A.2 k j) :: S)) : WW E G u Q M b pc L (.int i :: .ref (q k) :: S) := by
  obtain ⟨h1, h2, h3, h4⟩ := hR.2.1 k hk.1
  rw [if_neg hk.2] at h2
  refine zq_iald K j hd h2 hi (by rw [h3]; exact hj) (by rw [h3]; exact zln_lt k) ?_
  rw [h4]
  exact kk
theorem zm_lz (K : zOK t tb G E) {i : Int32} (j : Nat) (hd : decode (zyc t) pc = .ok (.baload, 1)) (hR : zR M x q w A) (hi : i = nI j) (hj : j < 12) (kk : WW E G u Q M b (pc + 1) L (.int (A.2 3 j) :: S)) : WW E G u Q M b pc L (.int i :: .ref (q 3) :: S) := by
  obtain ⟨h1, h2, h3, h4⟩ := hR.2.1 3 rfl
  rw [if_pos rfl] at h2
  refine zq_zald K j hd h2 hi (by rw [h3]; exact hj) (by rw [h3]; exact zln_lt 3) ?_
  rw [h4]
  exact kk
theorem zm_st (K : zOK t tb G E) {k : Nat} {i v : Int32} (j : Nat) (hd : decode (zyc t) pc = .ok (.iastore, 1)) (hk : zar k = true ∧ k ≠ 3) (hR : zR M x q w A) (hS : zSm x q M0 M) (hi : i = nI j) (hj : j < zln k) (kk : ∀ M', zR M' x q w (zsa A k j v) → zSm x q M0 M' → WW E G u Q M' b (pc + 1) L S) : WW E G u Q M b pc L (.int v :: .int i :: .ref (q k) :: S) := by
  obtain ⟨h1, h2, h3, h4⟩ := hR.2.1 k hk.1
  rw [if_neg hk.2] at h2
  refine zq_iast K j hd h2 hi (by rw [h3]; exact hj) (by rw [h3]; exact zln_lt k) ?_
  exact kk _ (hR.ar hk.1) (hS.tr (fun a _ h2 => zsame.i (h2 k hk.1)))
theorem zm_sz (K : zOK t tb G E) {i v : Int32} (j : Nat) (hd : decode (zyc t) pc = .ok (.bastore, 1)) (hR : zR M x q w A) (hS : zSm x q M0 M) (hi : i = nI j) (hj : j < 12) (hv : narrow .boolean (.int v) = .int v) (kk : ∀ M', zR M' x q w (zsa A 3 j v) → zSm x q M0 M' → WW E G u Q M' b (pc + 1) L S) : WW E G u Q M b pc L (.int v :: .int i :: .ref (q 3) :: S) := by
  obtain ⟨h1, h2, h3, h4⟩ := hR.2.1 3 rfl
  rw [if_pos rfl] at h2
  refine zq_zast K j hd h2 hi (by rw [h3]; exact hj) (by rw [h3]; exact zln_lt 3) hv ?_
  exact kk _ (hR.ar (k := 3) rfl) (hS.tr (fun a _ h2 => zsame.i (h2 3 rfl)))
/-- what a call of the reference's may have done -/
def zRP (x : Nat) (q : Nat → Nat) (M : ZM) (v : Option Value) (w : Int32) (A' : ZA) : ZO → ZM → Prop := fun o M' => o = .inl v ∧ zR M' x q w A' ∧ zSm x q M M'
theorem zRP_r {v : Option Value} {n : Nat} {A' : ZA} (hS : zSm x q M0 M) (k : ∀ M', zR M' x q w A' → zSm x q M0 M' → WW E G u Q M' n (pc + 3) L (v.toList ++ S)) : ∀ (v' : Option Value) (M' : ZM), zRP x q M v w A' (.inl v') M' → WW E G u Q M' n (pc + 3) L (v'.toList ++ S) := by
  rintro v' M' ⟨h1, h2, h3⟩
  cases h1
  exact k M' h2 (hS.tr h3)
theorem zRP_x {v : Option Value} {n : Nat} {A' : ZA} : ∀ (En : String) (M' : ZM), zRP x q M v w A' (.inr En) M' → XX E G u Q M' n pc L En := by
  rintro En M' ⟨h1, -⟩
  cases h1
end ZRS
end ZMOD
end
section
section ZNUM
variable {t : ZY} {tb : List ExceptionTableEntry} {E : ZE} {G : ZG} {u : Nat} {Q : State → Prop} {M M0 : ZM} {b pc : Nat} {L : List (Option Value)} {S : List Value} {P P' : ZO → ZM → Prop}
theorem zq_top {y v : Int32} (hv : y = v) (k : WW E G u Q M b pc L (.int v :: S)) : WW E G u Q M b pc L (.int y :: S) := by rw [hv]; exact k
/-! arithmetic on numbers of Nat -/
theorem zq_iaddN (K : zOK t tb G E) {x y : Nat} (hd : decode (zyc t) pc = .ok (.iadd, 1)) (k : WW E G u Q M b (pc + 1) L (.int (nI (x + y)) :: S)) : WW E G u Q M b pc L (.int (nI y) :: .int (nI x) :: S) := zq_iadd K hd (by rw [nI_add]; exact k)
theorem zq_imulN (K : zOK t tb G E) {x y : Nat} (hd : decode (zyc t) pc = .ok (.imul, 1)) (k : WW E G u Q M b (pc + 1) L (.int (nI (x * y)) :: S)) : WW E G u Q M b pc L (.int (nI y) :: .int (nI x) :: S) := zq_imul K hd (by rw [pk_mul]; exact k)
theorem zq_isubN (K : zOK t tb G E) {x y : Nat} (hd : decode (zyc t) pc = .ok (.isub, 1)) (h : y ≤ x) (k : WW E G u Q M b (pc + 1) L (.int (nI (x - y)) :: S)) : WW E G u Q M b pc L (.int (nI y) :: .int (nI x) :: S) := zq_isub K hd (by rw [pk_sub h]; exact k)
theorem zq_idivN (K : zOK t tb G E) {x y : Nat} (hd : decode (zyc t) pc = .ok (.idiv, 1)) (h : x < 2 ^ 31 ∧ 0 < y ∧ y < 2 ^ 31) (k : WW E G u Q M b (pc + 1) L (.int (nI (x / y)) :: S)) : WW E G u Q M b pc L (.int (nI y) :: .int (nI x) :: S) := zq_idiv K hd (nI_ne0 h.2.1 h.2.2) (by rw [pk_div h.1 h.2.1 h.2.2]; exact k)
theorem zq_iremN (K : zOK t tb G E) {x y : Nat} (hd : decode (zyc t) pc = .ok (.irem, 1)) (h : x < 2 ^ 31 ∧ 0 < y ∧ y < 2 ^ 31) (k : WW E G u Q M b (pc + 1) L (.int (nI (x % y)) :: S)) : WW E G u Q M b pc L (.int (nI y) :: .int (nI x) :: S) := zq_irem K hd (nI_ne0 h.2.1 h.2.2) (by rw [pk_rem h.1 h.2.1 h.2.2]; exact k)
theorem zq_iincN (K : zOK t tb G E) {i x : Nat} (hd : decode (zyc t) pc = .ok (.iinc i 1, 3)) (hl : L[i]? = some (some (.int (nI x)))) (hn : i < zyl t) (kk : WW E G u Q M b (pc + 3) (L.set i (some (.int (nI (x + 1))))) S) : WW E G u Q M b pc L S := zq_iinc K hd hl (by rw [← nI_1]; rfl) hn kk
/-! comparisons of numbers of Nat -/
theorem zq_icmp_eqN (K : zOK t tb G E) {x y : Nat} {off : Int} (tgt : Nat) (hd : decode (zyc t) pc = .ok (.if_icmp .eq off, 3)) (ht : (pc : Int) + off = (tgt : Int)) (hh : x < 2 ^ 31 ∧ y < 2 ^ 31) (kt : x = y → WW E G u Q M b tgt L S) (kf : x ≠ y → WW E G u Q M b (pc + 3) L S) : WW E G u Q M b pc L (.int (nI y) :: .int (nI x) :: S) := zq_icmp_eq K tgt hd ht (fun h => kt ((nI_eq hh.1 hh.2).mp h)) (fun h => kf (fun e => h ((nI_eq hh.1 hh.2).mpr e)))
theorem zq_if_eqN (K : zOK t tb G E) {x : Nat} {off : Int} (tgt : Nat) (hd : decode (zyc t) pc = .ok (.ifCond .eq off, 3)) (ht : (pc : Int) + off = (tgt : Int)) (hh : x < 2 ^ 31) (kt : x = 0 → WW E G u Q M b tgt L S) (kf : x ≠ 0 → WW E G u Q M b (pc + 3) L S) : WW E G u Q M b pc L (.int (nI x) :: S) := zq_if_eq K tgt hd ht (fun h => kt ((nI_eq hh (show (0 : Nat) < 2 ^ 31 by decide)).mp h)) (fun h => kf (fun e => h ((nI_eq hh (show (0 : Nat) < 2 ^ 31 by decide)).mpr e)))
theorem zq_icmp_neN (K : zOK t tb G E) {x y : Nat} {off : Int} (tgt : Nat) (hd : decode (zyc t) pc = .ok (.if_icmp .ne off, 3)) (ht : (pc : Int) + off = (tgt : Int)) (hh : x < 2 ^ 31 ∧ y < 2 ^ 31) (kt : x ≠ y → WW E G u Q M b tgt L S) (kf : x = y → WW E G u Q M b (pc + 3) L S) : WW E G u Q M b pc L (.int (nI y) :: .int (nI x) :: S) := zq_icmp_ne K tgt hd ht (fun h => kt (fun e => h ((nI_eq hh.1 hh.2).mpr e))) (fun h => kf ((nI_eq hh.1 hh.2).mp h))
theorem zq_if_neN (K : zOK t tb G E) {x : Nat} {off : Int} (tgt : Nat) (hd : decode (zyc t) pc = .ok (.ifCond .ne off, 3)) (ht : (pc : Int) + off = (tgt : Int)) (hh : x < 2 ^ 31) (kt : x ≠ 0 → WW E G u Q M b tgt L S) (kf : x = 0 → WW E G u Q M b (pc + 3) L S) : WW E G u Q M b pc L (.int (nI x) :: S) := zq_if_ne K tgt hd ht (fun h => kt (fun e => h ((nI_eq hh (show (0 : Nat) < 2 ^ 31 by decide)).mpr e))) (fun h => kf ((nI_eq hh (show (0 : Nat) < 2 ^ 31 by decide)).mp h))
theorem zq_icmp_ltN (K : zOK t tb G E) {x y : Nat} {off : Int} (tgt : Nat) (hd : decode (zyc t) pc = .ok (.if_icmp .lt off, 3)) (ht : (pc : Int) + off = (tgt : Int)) (hh : x < 2 ^ 31 ∧ y < 2 ^ 31) (kt : x < y → WW E G u Q M b tgt L S) (kf : y ≤ x → WW E G u Q M b (pc + 3) L S) : WW E G u Q M b pc L (.int (nI y) :: .int (nI x) :: S) := zq_icmp_lt K tgt hd ht (fun h => kt ((nI_ltI hh.1 hh.2).mp h)) (fun h => kf (Nat.not_lt.mp (fun e => h ((nI_ltI hh.1 hh.2).mpr e))))
theorem zq_if_ltN (K : zOK t tb G E) {x : Nat} {off : Int} (tgt : Nat) (hd : decode (zyc t) pc = .ok (.ifCond .lt off, 3)) (ht : (pc : Int) + off = (tgt : Int)) (hh : x < 2 ^ 31) (kt : x < 0 → WW E G u Q M b tgt L S) (kf : 0 ≤ x → WW E G u Q M b (pc + 3) L S) : WW E G u Q M b pc L (.int (nI x) :: S) := zq_if_lt K tgt hd ht (fun h => kt ((nI_ltI hh (show (0 : Nat) < 2 ^ 31 by decide)).mp h)) (fun h => kf (Nat.not_lt.mp (fun e => h ((nI_ltI hh (show (0 : Nat) < 2 ^ 31 by decide)).mpr e))))
theorem zq_icmp_geN (K : zOK t tb G E) {x y : Nat} {off : Int} (tgt : Nat) (hd : decode (zyc t) pc = .ok (.if_icmp .ge off, 3)) (ht : (pc : Int) + off = (tgt : Int)) (hh : x < 2 ^ 31 ∧ y < 2 ^ 31) (kt : y ≤ x → WW E G u Q M b tgt L S) (kf : x < y → WW E G u Q M b (pc + 3) L S) : WW E G u Q M b pc L (.int (nI y) :: .int (nI x) :: S) := zq_icmp_ge K tgt hd ht (fun h => kt ((nI_leI hh.2 hh.1).mp h)) (fun h => kf (Nat.not_le.mp (fun e => h ((nI_leI hh.2 hh.1).mpr e))))
theorem zq_if_geN (K : zOK t tb G E) {x : Nat} {off : Int} (tgt : Nat) (hd : decode (zyc t) pc = .ok (.ifCond .ge off, 3)) (ht : (pc : Int) + off = (tgt : Int)) (hh : x < 2 ^ 31) (kt : 0 ≤ x → WW E G u Q M b tgt L S) (kf : x < 0 → WW E G u Q M b (pc + 3) L S) : WW E G u Q M b pc L (.int (nI x) :: S) := zq_if_ge K tgt hd ht (fun h => kt ((nI_leI (show (0 : Nat) < 2 ^ 31 by decide) hh).mp h)) (fun h => kf (Nat.not_le.mp (fun e => h ((nI_leI (show (0 : Nat) < 2 ^ 31 by decide) hh).mpr e))))
theorem zq_icmp_gtN (K : zOK t tb G E) {x y : Nat} {off : Int} (tgt : Nat) (hd : decode (zyc t) pc = .ok (.if_icmp .gt off, 3)) (ht : (pc : Int) + off = (tgt : Int)) (hh : x < 2 ^ 31 ∧ y < 2 ^ 31) (kt : y < x → WW E G u Q M b tgt L S) (kf : x ≤ y → WW E G u Q M b (pc + 3) L S) : WW E G u Q M b pc L (.int (nI y) :: .int (nI x) :: S) := zq_icmp_gt K tgt hd ht (fun h => kt ((nI_ltI hh.2 hh.1).mp h)) (fun h => kf (Nat.not_lt.mp (fun e => h ((nI_ltI hh.2 hh.1).mpr e))))
theorem zq_if_gtN (K : zOK t tb G E) {x : Nat} {off : Int} (tgt : Nat) (hd : decode (zyc t) pc = .ok (.ifCond .gt off, 3)) (ht : (pc : Int) + off = (tgt : Int)) (hh : x < 2 ^ 31) (kt : 0 < x → WW E G u Q M b tgt L S) (kf : x ≤ 0 → WW E G u Q M b (pc + 3) L S) : WW E G u Q M b pc L (.int (nI x) :: S) := zq_if_gt K tgt hd ht (fun h => kt ((nI_ltI (show (0 : Nat) < 2 ^ 31 by decide) hh).mp h)) (fun h => kf (Nat.not_lt.mp (fun e => h ((nI_ltI (show (0 : Nat) < 2 ^ 31 by decide) hh).mpr e))))
theorem zq_icmp_leN (K : zOK t tb G E) {x y : Nat} {off : Int} (tgt : Nat) (hd : decode (zyc t) pc = .ok (.if_icmp .le off, 3)) (ht : (pc : Int) + off = (tgt : Int)) (hh : x < 2 ^ 31 ∧ y < 2 ^ 31) (kt : x ≤ y → WW E G u Q M b tgt L S) (kf : y < x → WW E G u Q M b (pc + 3) L S) : WW E G u Q M b pc L (.int (nI y) :: .int (nI x) :: S) := zq_icmp_le K tgt hd ht (fun h => kt ((nI_leI hh.1 hh.2).mp h)) (fun h => kf (Nat.not_le.mp (fun e => h ((nI_leI hh.1 hh.2).mpr e))))
theorem zq_if_leN (K : zOK t tb G E) {x : Nat} {off : Int} (tgt : Nat) (hd : decode (zyc t) pc = .ok (.ifCond .le off, 3)) (ht : (pc : Int) + off = (tgt : Int)) (hh : x < 2 ^ 31) (kt : x ≤ 0 → WW E G u Q M b tgt L S) (kf : 0 < x → WW E G u Q M b (pc + 3) L S) : WW E G u Q M b pc L (.int (nI x) :: S) := zq_if_le K tgt hd ht (fun h => kt ((nI_leI hh (show (0 : Nat) < 2 ^ 31 by decide)).mp h)) (fun h => kf (Nat.not_le.mp (fun e => h ((nI_leI hh (show (0 : Nat) < 2 ^ 31 by decide)).mpr e))))
end ZNUM
end
section
/-! the reference: small questions -/
/-- n is one of 0 to k -/
def zOn (n : Int32) (k : Nat) : Prop := ∃ j : Nat, j ≤ k ∧ n = nI j
theorem zOn_iff {n : Int32} {k : Nat} (hk : k < 2 ^ 31) : (nI 0 ≤ n ∧ n ≤ nI k) ↔ zOn n k := by
  constructor
  · rintro ⟨h1, h2⟩
    obtain ⟨j, hj, rfl⟩ := nI_of (x := n) (Int32.not_lt.mpr (by rw [← nI_0]; exact h1))
    exact ⟨j, (nI_leI hj hk).mp h2, rfl⟩
  · rintro ⟨j, hj, rfl⟩
    exact ⟨(nI_leI (by decide) (by omega)).mpr (Nat.zero_le _), (nI_leI (by omega) hk).mpr hj⟩
/-- how many directories there were, which are there -/
def zBas (A : ZA) (D : Nat) : Prop := A.1 2 = nI D ∧ 1 ≤ D ∧ D ≤ 12 ∧ ∀ j, j < 12 → (A.2 3 j = 1 ∧ j < D) ∨ A.2 3 j = 0
/-- d is a directory -/
def zIsD (A : ZA) (d : Int32) : Prop := ∃ j : Nat, j < 12 ∧ d = nI j ∧ A.2 3 j = 1
theorem one_ne0 : ¬ (1 : Int32) = 0 := by decide

theorem ct_X3_in {G : ZG} (v lo hi : Int32) (M : ZM) : zMet G mX3_in [.int (v), .int (lo), .int (hi)] M (zdec (lo ≤ v ∧ v ≤ hi) M) := by
  refine zbody zyX3_in [some (.int (v)), some (.int (lo)), some (.int (hi))] rfl (Nat.le_of_ble_eq_true rfl) (by intro v hv; simp only [List.mem_cons, List.not_mem_nil, or_false] at hv; rcases hv with rfl | rfl | rfl <;> rfl) (fun E K => ?_)
  refine zq_iload_n K dX3_in_0 rfl rfl ?_
  refine zq_iload_n K dX3_in_1 rfl rfl ?_
  refine zq_icmp_lt K 14 dX3_in_2 (by decide) (fun h2 => ?_) (fun h2 => ?_)
  · refine zq_iconst K dX3_in_14 (v := nI 0) (by decide) ?_
    exact zq_zret K dX3_in_15 rfl (by decide) (zdec_0 (fun z => Int32.not_le.mpr h2 z.1))
  · refine zq_iload_n K dX3_in_5 rfl rfl ?_
    refine zq_iload_n K dX3_in_6 rfl rfl ?_
    refine zq_icmp_gt K 14 dX3_in_7 (by decide) (fun h7 => ?_) (fun h7 => ?_)
    · refine zq_iconst K dX3_in_14 (v := nI 0) (by decide) ?_
      exact zq_zret K dX3_in_15 rfl (by decide) (zdec_0 (fun z => Int32.not_le.mpr h7 z.2))
    · refine zq_iconst K dX3_in_10 (v := nI 1) (by decide) ?_
      refine zq_goto K 15 dX3_in_11 (by decide) ?_
      exact zq_zret K dX3_in_15 rfl (by decide) (zdec_1 ⟨Int32.not_lt.mp h2, Int32.not_lt.mp h7⟩)
theorem ct_X3_isName {G : ZG} (v : Int32) (M : ZM) : zMet G mX3_isName [.int (v)] M (zdec (zOn v 49) M) := by
  refine zbody zyX3_isName [some (.int (v))] rfl (Nat.le_of_ble_eq_true rfl) (by intro v hv; simp only [List.mem_cons, List.not_mem_nil, or_false] at hv; rcases hv with rfl <;> rfl) (fun E K => ?_)
  refine zq_iload_n K dX3_isName_0 rfl rfl ?_
  refine zq_iconst K dX3_isName_1 (v := nI 0) (by decide) ?_
  refine zq_bipush K dX3_isName_2 (v := nI 49) (by decide) ?_
  refine zq_callS (As := [.int (v), .int (nI (0)), .int (nI (49))]) K dX3_isName_4 zyX3_in zm_X3_58 zsX3_in rfl (by decide) rfl rfl (Nat.le_of_ble_eq_true rfl) (Nat.le_of_ble_eq_true rfl) (ct_X3_in v (nI 0) (nI 49) M) (zdec_r (fun h => ?_) (fun h => ?_)) zdec_x (Nat.le_refl _)
  · exact zq_zret K dX3_isName_7 rfl (by decide) (zdec_1 ((zOn_iff (by decide)).mp h))
  · exact zq_zret K dX3_isName_7 rfl (by decide) (zdec_0 (fun z => h ((zOn_iff (by decide)).mpr z)))
theorem ct_X3_isHash {G : ZG} (v : Int32) (M : ZM) : zMet G mX3_isHash [.int (v)] M (zdec (zOn v 7) M) := by
  refine zbody zyX3_isHash [some (.int (v))] rfl (Nat.le_of_ble_eq_true rfl) (by intro v hv; simp only [List.mem_cons, List.not_mem_nil, or_false] at hv; rcases hv with rfl <;> rfl) (fun E K => ?_)
  refine zq_iload_n K dX3_isHash_0 rfl rfl ?_
  refine zq_iconst K dX3_isHash_1 (v := nI 0) (by decide) ?_
  refine zq_bipush K dX3_isHash_2 (v := nI 7) (by decide) ?_
  refine zq_callS (As := [.int (v), .int (nI (0)), .int (nI (7))]) K dX3_isHash_4 zyX3_in zm_X3_58 zsX3_in rfl (by decide) rfl rfl (Nat.le_of_ble_eq_true rfl) (Nat.le_of_ble_eq_true rfl) (ct_X3_in v (nI 0) (nI 7) M) (zdec_r (fun h => ?_) (fun h => ?_)) zdec_x (Nat.le_refl _)
  · exact zq_zret K dX3_isHash_7 rfl (by decide) (zdec_1 ((zOn_iff (by decide)).mp h))
  · exact zq_zret K dX3_isHash_7 rfl (by decide) (zdec_0 (fun z => h ((zOn_iff (by decide)).mpr z)))
theorem ct_X3_isClient {G : ZG} (v : Int32) (M : ZM) : zMet G mX3_isClient [.int (v)] M (zdec (zOn v 3) M) := by
  refine zbody zyX3_isClient [some (.int (v))] rfl (Nat.le_of_ble_eq_true rfl) (by intro v hv; simp only [List.mem_cons, List.not_mem_nil, or_false] at hv; rcases hv with rfl <;> rfl) (fun E K => ?_)
  refine zq_iload_n K dX3_isClient_0 rfl rfl ?_
  refine zq_iconst K dX3_isClient_1 (v := nI 0) (by decide) ?_
  refine zq_iconst K dX3_isClient_2 (v := nI 3) (by decide) ?_
  refine zq_callS (As := [.int (v), .int (nI (0)), .int (nI (3))]) K dX3_isClient_3 zyX3_in zm_X3_58 zsX3_in rfl (by decide) rfl rfl (Nat.le_of_ble_eq_true rfl) (Nat.le_of_ble_eq_true rfl) (ct_X3_in v (nI 0) (nI 3) M) (zdec_r (fun h => ?_) (fun h => ?_)) zdec_x (Nat.le_refl _)
  · exact zq_zret K dX3_isClient_6 rfl (by decide) (zdec_1 ((zOn_iff (by decide)).mp h))
  · exact zq_zret K dX3_isClient_6 rfl (by decide) (zdec_0 (fun z => h ((zOn_iff (by decide)).mpr z)))
theorem ct_X3_isDirectory {G : ZG} {M : ZM} {x : Nat} {q : Nat → Nat} {w : Int32} {A : ZA} (hR : zR M x q w A) {D : Nat} (hB : zBas A D) (d : Int32) : zMet G mX3_isDirectory [.ref (x), .int (d)] M (zdec (zIsD A d) M) := by
  refine zbody zyX3_isDirectory [some (.ref (x)), some (.int (d))] rfl (Nat.le_of_ble_eq_true rfl) (by intro v hv; simp only [List.mem_cons, List.not_mem_nil, or_false] at hv; rcases hv with rfl | rfl <;> rfl) (fun E K => ?_)
  obtain ⟨hB1, hB2, hB3, hB4⟩ := hB
  refine zq_iload_n K dX3_isDirectory_0 rfl rfl ?_
  refine zq_iconst K dX3_isDirectory_1 (v := nI 0) (by decide) ?_
  refine zq_aload_n K dX3_isDirectory_2 rfl rfl ?_
  refine zm_sc K dX3_isDirectory_3 zf_X3_7 (k := 2) (by decide) hR ?_
  refine zq_top (v := nI (D)) hB1 ?_
  refine zq_iconst K dX3_isDirectory_6 (v := nI 1) (by decide) ?_
  refine zq_isubN K (x := D) (y := 1) dX3_isDirectory_7 (by omega) ?_
  refine zq_callS (As := [.int (d), .int (nI (0)), .int (nI ((D) - (1)))]) K dX3_isDirectory_8 zyX3_in zm_X3_58 zsX3_in rfl (by decide) rfl rfl (Nat.le_of_ble_eq_true rfl) (Nat.le_of_ble_eq_true rfl) (ct_X3_in d (nI 0) (nI (D - 1)) M) (zdec_r (fun h => ?_) (fun h => ?_)) zdec_x (Nat.le_refl _)
  · refine zq_if_eqN K (x := 1) 27 dX3_isDirectory_11 (by decide) (by omega) (fun h11 => by omega) (fun h11 => ?_)
    obtain ⟨j, hj, rfl⟩ := (zOn_iff (by omega)).mp h
    refine zq_aload_n K dX3_isDirectory_14 rfl rfl ?_
    refine zm_ar K dX3_isDirectory_15 zf_X3_13 (k := 3) (by decide) hR ?_
    refine zq_iload_n K dX3_isDirectory_18 rfl rfl ?_
    refine zm_lz K (j) dX3_isDirectory_19 hR rfl (show j < 12 by omega) ?_
    refine zq_if_eq K 27 dX3_isDirectory_20 (by decide) (fun h20 => ?_) (fun h20 => ?_)
    · refine zq_iconst K dX3_isDirectory_27 (v := nI 0) (by decide) ?_
      exact zq_zret K dX3_isDirectory_28 rfl (by decide) (zdec_0 (fun z => by obtain ⟨i, hi, e, h1⟩ := z; have e2 : j = i := (nI_eq (by omega) (by omega)).mp e; subst e2; rw [h20] at h1; exact absurd h1 (by decide)))
    · refine zq_iconst K dX3_isDirectory_23 (v := nI 1) (by decide) ?_
      refine zq_goto K 28 dX3_isDirectory_24 (by decide) ?_
      exact zq_zret K dX3_isDirectory_28 rfl (by decide) (zdec_1 ⟨j, by omega, rfl, ((hB4 j (by omega)).resolve_right h20).1⟩)
  · refine zq_if_eqN K (x := 0) 27 dX3_isDirectory_11 (by decide) (by omega) (fun h11 => ?_) (fun h11 => by omega)
    refine zq_iconst K dX3_isDirectory_27 (v := nI 0) (by decide) ?_
    exact zq_zret K dX3_isDirectory_28 rfl (by decide) (zdec_0 (fun z => h ((zOn_iff (by omega)).mpr (by obtain ⟨i, hi, e, h1⟩ := z; refine ⟨i, ?_, e⟩; exact (hB4 i hi).elim (fun z => by omega) (fun h3 => absurd (h1.symm.trans h3) one_ne0)))))
theorem ct_X3_at {G : ZG} (d n : Nat) (M : ZM) : zMet G mX3_at [.int (nI (d)), .int (nI (n))] M (zone (some (.int (nI (50 * d + n)))) M) := by
  refine zbody zyX3_at [some (.int (nI (d))), some (.int (nI (n)))] rfl (Nat.le_of_ble_eq_true rfl) (by intro v hv; simp only [List.mem_cons, List.not_mem_nil, or_false] at hv; rcases hv with rfl | rfl <;> rfl) (fun E K => ?_)
  refine zq_bipush K dX3_at_0 (v := nI 50) (by decide) ?_
  refine zq_iload_n K dX3_at_2 rfl rfl ?_
  refine zq_imulN K (x := 50) (y := d) dX3_at_3 ?_
  refine zq_iload_n K dX3_at_4 rfl rfl ?_
  refine zq_iaddN K (x := (50) * (d)) (y := n) dX3_at_5 ?_
  exact zq_iret K dX3_at_6 rfl ⟨rfl, rfl⟩
theorem ct_X3_hash {G : ZG} (n : Nat) (hn : n < 50) (M : ZM) : zMet G mX3_hash [.int (nI (n))] M (zone (some (.int (nI ((5 * n + 3) % 8)))) M) := by
  refine zbody zyX3_hash [some (.int (nI (n)))] rfl (Nat.le_of_ble_eq_true rfl) (by intro v hv; simp only [List.mem_cons, List.not_mem_nil, or_false] at hv; rcases hv with rfl <;> rfl) (fun E K => ?_)
  refine zq_iconst K dX3_hash_0 (v := nI 5) (by decide) ?_
  refine zq_iload_n K dX3_hash_1 rfl rfl ?_
  refine zq_imulN K (x := 5) (y := n) dX3_hash_2 ?_
  refine zq_iconst K dX3_hash_3 (v := nI 3) (by decide) ?_
  refine zq_iaddN K (x := (5) * (n)) (y := 3) dX3_hash_4 ?_
  refine zq_bipush K dX3_hash_5 (v := nI 8) (by decide) ?_
  refine zq_iremN K (x := ((5) * (n)) + (3)) (y := 8) dX3_hash_7 (by omega) ?_
  exact zq_iret K dX3_hash_8 rfl ⟨rfl, rfl⟩
theorem ct_X3_thrown {G : ZG} {M : ZM} {x : Nat} {q : Nat → Nat} {w : Int32} {A : ZA} (hR : zR M x q w A) : zMet G mX3_thrown [.ref (x)] M (zone (some (.int w)) M) := by
  refine zbody zyX3_thrown [some (.ref (x))] rfl (Nat.le_of_ble_eq_true rfl) (by intro v hv; simp only [List.mem_cons, List.not_mem_nil, or_false] at hv; rcases hv with rfl <;> rfl) (fun E K => ?_)
  refine zq_aload_n K dX3_thrown_0 rfl rfl ?_
  refine zm_th K dX3_thrown_1 zf_X3_55 hR ?_
  exact zq_iret K dX3_thrown_4 rfl ⟨rfl, rfl⟩
theorem ct_X3_fails {G : ZG} {M : ZM} {x : Nat} {q : Nat → Nat} {w : Int32} {A : ZA} (hR : zR M x q w A) (c : Int32) : zMet G mX3_fails [.ref (x), .int (c)] M (zRP x q M (some (.int (nI 0))) c A) := by
  refine zbody zyX3_fails [some (.ref (x)), some (.int (c))] rfl (Nat.le_of_ble_eq_true rfl) (by intro v hv; simp only [List.mem_cons, List.not_mem_nil, or_false] at hv; rcases hv with rfl | rfl <;> rfl) (fun E K => ?_)
  have hS : zSm x q M M := zSm.rf
  refine zq_aload_n K dX3_fails_0 rfl rfl ?_
  refine zq_iload_n K dX3_fails_1 rfl rfl ?_
  refine zm_pth K dX3_fails_2 zf_X3_55 hR hS (fun M hR hS => ?_)
  refine zq_iconst K dX3_fails_5 (v := nI 0) (by decide) ?_
  exact zq_iret K dX3_fails_6 rfl ⟨rfl, hR, hS⟩
/-- where the fragment begins that has the hash h: the last place up to h with a size -/
def zfg (s : Nat → Int32) (d : Nat) : Nat → Nat
  | 0 => 0
  | h + 1 => if s (8 * d + (h + 1)) = 0 then zfg s d h else h + 1
theorem zfg_le (s : Nat → Int32) (d : Nat) : ∀ h, zfg s d h ≤ h
  | 0 => Nat.le_refl _
  | h + 1 => by
    unfold zfg
    split
    · exact Nat.le_succ_of_le (zfg_le s d h)
    · exact Nat.le_refl _
theorem lp_X3_fragment {G : ZG} {E : ZE} (K : zOK mX3_fragment [] G E) {M : ZM} {x : Nat} {q : Nat → Nat} {w : Int32} {A : ZA} (hR : zR M x q w A) {d : Nat} (hd : d < 12) (h0 : ¬ A.2 10 (8 * d) = 0) {u b : Nat} {Q : State → Prop} {y z : Int32} : ∀ h, h < 8 → WW E G u Q M b 22 [some (.ref x), some (.int y), some (.int z), some (.int (nI (8 * d + zfg (A.2 10) d h)))] [] → WW E G u Q M b 7 [some (.ref x), some (.int y), some (.int z), some (.int (nI (8 * d + h)))] [] := by
  intro h
  induction h with
  | zero =>
    intro hh kk
    refine zq_aload_n K dX3_fragment_7 rfl rfl ?_
    refine zm_ar K dX3_fragment_8 zf_X3_30 (k := 10) (by decide) hR ?_
    refine zq_iload_n K dX3_fragment_11 rfl rfl ?_
    refine zm_ld K (8 * d + 0) dX3_fragment_12 (k := 10) (by decide) hR rfl (show 8 * d + 0 < 96 by omega) ?_
    refine zq_if_ne K 22 dX3_fragment_13 (by decide) (fun h13 => ?_) (fun h13 => absurd h13 h0)
    exact kk
  | succ h ih =>
    intro hh kk
    refine zq_aload_n K dX3_fragment_7 rfl rfl ?_
    refine zm_ar K dX3_fragment_8 zf_X3_30 (k := 10) (by decide) hR ?_
    refine zq_iload_n K dX3_fragment_11 rfl rfl ?_
    refine zm_ld K (8 * d + (h + 1)) dX3_fragment_12 (k := 10) (by decide) hR rfl (show 8 * d + (h + 1) < 96 by omega) ?_
    refine zq_if_ne K 22 dX3_fragment_13 (by decide) (fun h13 => ?_) (fun h13 => ?_)
    · rw [show zfg (A.2 10) d (h + 1) = h + 1 from if_neg h13] at kk
      exact kk
    · refine zq_iinc K dX3_fragment_16 rfl (v := nI (8 * d + h)) (pk_m1 (8 * d + h)) (by decide) ?_
      refine zq_goto K 7 dX3_fragment_19 (by decide) ?_
      rw [show zfg (A.2 10) d (h + 1) = zfg (A.2 10) d h from if_pos h13] at kk
      exact ih (by omega) kk
theorem ct_X3_fragment {G : ZG} {M : ZM} {x : Nat} {q : Nat → Nat} {w : Int32} {A : ZA} (hR : zR M x q w A) {d h : Nat} (hd : d < 12) (hh : h < 8) (h0 : ¬ A.2 10 (8 * d) = 0) : zMet G mX3_fragment [.ref (x), .int (nI (d)), .int (nI (h))] M (zone (some (.int (nI (8 * d + zfg (A.2 10) d h)))) M) := by
  refine zbody zyX3_fragment [some (.ref (x)), some (.int (nI (d))), some (.int (nI (h))), none] rfl (Nat.le_of_ble_eq_true rfl) (by intro v hv; simp only [List.mem_cons, List.not_mem_nil, or_false] at hv; rcases hv with rfl | rfl | rfl <;> rfl) (fun E K => ?_)
  refine zq_bipush K dX3_fragment_0 (v := nI 8) (by decide) ?_
  refine zq_iload_n K dX3_fragment_2 rfl rfl ?_
  refine zq_imulN K (x := 8) (y := d) dX3_fragment_3 ?_
  refine zq_iload_n K dX3_fragment_4 rfl rfl ?_
  refine zq_iaddN K (x := (8) * (d)) (y := h) dX3_fragment_5 ?_
  refine zq_istore_n K dX3_fragment_6 rfl (by decide) ?_
  refine lp_X3_fragment K hR hd h0 h hh ?_
  exact zq_iload_n K dX3_fragment_22 rfl rfl (zq_iret K dX3_fragment_23 rfl ⟨rfl, rfl⟩)
/-- the hash of a name -/
def zhs (n : Nat) : Nat := (5 * n + 3) % 8
theorem zhs_lt (n : Nat) : zhs n < 8 := Nat.mod_lt _ (by decide)
/-- the fragment of a name: 8 times the directory, and the beginning -/
def zfn (A : ZA) (d n : Nat) : Nat := 8 * d + zfg (A.2 10) d (zhs n)
theorem zfn_lt (A : ZA) {d n : Nat} (hd : d < 12) : zfn A d n < 96 := by
  have h1 := zfg_le (A.2 10) d (zhs n)
  have h2 := zhs_lt n
  unfold zfn
  omega
theorem zfn_div (A : ZA) (d n : Nat) : zfn A d n / 8 = d := by
  have h1 := zfg_le (A.2 10) d (zhs n)
  have h2 := zhs_lt n
  unfold zfn
  omega
theorem ct_X3_fragmentOfName {G : ZG} {M : ZM} {x : Nat} {q : Nat → Nat} {w : Int32} {A : ZA} (hR : zR M x q w A) {d n : Nat} (hd : d < 12) (hn : n < 50) (h0 : ¬ A.2 10 (8 * d) = 0) : zMet G mX3_fragmentOfName [.ref (x), .int (nI (d)), .int (nI (n))] M (zone (some (.int (nI (zfn A d n)))) M) := by
  refine zbody zyX3_fragmentOfName [some (.ref (x)), some (.int (nI (d))), some (.int (nI (n)))] rfl (Nat.le_of_ble_eq_true rfl) (by intro v hv; simp only [List.mem_cons, List.not_mem_nil, or_false] at hv; rcases hv with rfl | rfl | rfl <;> rfl) (fun E K => ?_)
  refine zq_aload_n K dX3_fragmentOfName_0 rfl rfl ?_
  refine zq_iload_n K dX3_fragmentOfName_1 rfl rfl ?_
  refine zq_iload_n K dX3_fragmentOfName_2 rfl rfl ?_
  refine zq_callS (As := [.int (nI (n))]) K dX3_fragmentOfName_3 zyX3_hash zm_X3_62 zsX3_hash rfl (by decide) rfl rfl (Nat.le_of_ble_eq_true rfl) (Nat.le_of_ble_eq_true rfl) (ct_X3_hash n hn M) (zone_r ?_) zone_x (Nat.le_refl _)
  refine zq_callV (As := [.int (nI (d)), .int (nI (zhs n))]) K dX3_fragmentOfName_6 zyX3_fragment zm_X3_66 ziX3_fragment zvX3_fragment zclX3 rfl (by decide) rfl rfl (Nat.le_of_ble_eq_true rfl) (Nat.le_of_ble_eq_true rfl) hR.1 (ct_X3_fragment hR hd (zhs_lt n) h0) (zone_r ?_) zone_x (Nat.le_refl _)
  exact zq_iret K dX3_fragmentOfName_9 rfl ⟨rfl, rfl⟩
theorem ct_X3_runs {G : ZG} {M : ZM} {x : Nat} {q : Nat → Nat} {w : Int32} {A : ZA} (hR : zR M x q w A) {c a : Nat} (hc : c < 4) (ha : a < 600) : zMet G mX3_runs [.ref (x), .int (nI (c)), .int (nI (a))] M (zdec (A.1 1 < A.2 13 (600 * c + a)) M) := by
  refine zbody zyX3_runs [some (.ref (x)), some (.int (nI (c))), some (.int (nI (a)))] rfl (Nat.le_of_ble_eq_true rfl) (by intro v hv; simp only [List.mem_cons, List.not_mem_nil, or_false] at hv; rcases hv with rfl | rfl | rfl <;> rfl) (fun E K => ?_)
  refine zq_aload_n K dX3_runs_0 rfl rfl ?_
  refine zm_ar K dX3_runs_1 zf_X3_39 (k := 13) (by decide) hR ?_
  refine zq_sipush K dX3_runs_4 (v := nI 600) (by decide) ?_
  refine zq_iload_n K dX3_runs_7 rfl rfl ?_
  refine zq_imulN K (x := 600) (y := c) dX3_runs_8 ?_
  refine zq_iload_n K dX3_runs_9 rfl rfl ?_
  refine zq_iaddN K (x := (600) * (c)) (y := a) dX3_runs_10 ?_
  refine zm_ld K (((600) * (c)) + (a)) dX3_runs_11 (k := 13) (by decide) hR rfl (show ((600) * (c)) + (a) < 2400 by omega) ?_
  refine zq_aload_n K dX3_runs_12 rfl rfl ?_
  refine zm_sc K dX3_runs_13 zf_X3_80 (k := 1) (by decide) hR ?_
  refine zq_icmp_le K 23 dX3_runs_16 (by decide) (fun h16 => ?_) (fun h16 => ?_)
  · refine zq_iconst K dX3_runs_23 (v := nI 0) (by decide) ?_
    exact zq_zret K dX3_runs_24 rfl (by decide) (zdec_0 (fun z => Int32.not_lt.mpr h16 z))
  · refine zq_iconst K dX3_runs_19 (v := nI 1) (by decide) ?_
    refine zq_goto K 24 dX3_runs_20 (by decide) ?_
    exact zq_zret K dX3_runs_24 rfl (by decide) (zdec_1 (Int32.not_le.mp h16))
end
section
/-! the reference: ends, changes, who serves, what is frozen -/
/-- the parent's number, and the name there -/
def zpar (A : ZA) (d : Nat) : Nat := (A.2 4 d).toNatClampNeg
def znam (A : ZA) (d : Nat) : Nat := (A.2 5 d).toNatClampNeg
def zinh (A : ZA) (f : Nat) : Nat := zfn A (zpar A (f / 8)) (znam A (f / 8))
/-- the directory d hangs at a name of a directory that is there -/
def zUp (A : ZA) (d : Nat) : Prop := A.2 4 d = nI (zpar A d) ∧ zpar A d < 12 ∧ A.2 3 (zpar A d) = 1 ∧ A.2 5 d = nI (znam A d) ∧ znam A d < 50
/-- from d it goes up to the root in at most k steps -/
def zDp (A : ZA) : Nat → Nat → Prop
  | 0, d => d = 0
  | k + 1, d => d = 0 ∨ (zUp A d ∧ zDp A k (zpar A d))
/-- directories that are there have their first fragment; fragments of the root have owners -/
def zFr (A : ZA) : Prop := (∀ d, d < 12 → A.2 3 d = 1 → ¬ A.2 10 (8 * d) = 0) ∧ ∀ h, h < 8 → ¬ A.2 10 h = 0 → ¬ A.2 11 h = -1
def zsvN (A : ZA) : Nat → Nat → Int32
  | 0, _ => nI 0
  | k + 1, f => if A.2 11 f = -1 then zsvN A k (zinh A f) else A.2 11 f
def zfzN (A : ZA) : Nat → Nat → Bool
  | 0, _ => false
  | k + 1, f => if ¬ A.1 16 = -1 ∧ nI f = A.1 16 then true else if A.2 11 f = -1 then zfzN A k (zinh A f) else false
def zsv (A : ZA) (f : Nat) : Int32 := zsvN A 12 f
def zfz (A : ZA) (f : Nat) : Bool := zfzN A 12 f
theorem zfg_ne {s : Nat → Int32} {d : Nat} (h0 : ¬ s (8 * d) = 0) : ∀ h, ¬ s (8 * d + zfg s d h) = 0
  | 0 => h0
  | h + 1 => by
    unfold zfg
    split
    · exact zfg_ne h0 h
    · assumption
theorem zinh_ok {A : ZA} (hF : zFr A) {f : Nat} (hu : zUp A (f / 8)) : zinh A f < 96 ∧ zinh A f / 8 = zpar A (f / 8) ∧ ¬ A.2 10 (zinh A f) = 0 ∧ A.2 3 (zinh A f / 8) = 1 := by
  have h1 := zfn_div A (zpar A (f / 8)) (znam A (f / 8))
  refine ⟨zfn_lt A hu.2.1, h1, zfg_ne (hF.1 _ hu.2.1 hu.2.2.1) _, ?_⟩
  rw [show zinh A f / 8 = zpar A (f / 8) from h1]
  exact hu.2.2.1
theorem ct_X3_inherited {G : ZG} {M : ZM} {x : Nat} {q : Nat → Nat} {w : Int32} {A : ZA} (hR : zR M x q w A) {f : Nat} (hf : f < 96) (hF : zFr A) (hu : zUp A (f / 8)) : zMet G mX3_inherited [.ref (x), .int (nI (f))] M (zone (some (.int (nI (zinh A f)))) M) := by
  refine zbody zyX3_inherited [some (.ref (x)), some (.int (nI (f))), none] rfl (Nat.le_of_ble_eq_true rfl) (by intro v hv; simp only [List.mem_cons, List.not_mem_nil, or_false] at hv; rcases hv with rfl | rfl <;> rfl) (fun E K => ?_)
  refine zq_iload_n K dX3_inherited_0 rfl rfl ?_
  refine zq_bipush K dX3_inherited_1 (v := nI 8) (by decide) ?_
  refine zq_idivN K (x := f) (y := 8) dX3_inherited_3 (by omega) ?_
  refine zq_istore_n K dX3_inherited_4 rfl (by decide) ?_
  refine zq_aload_n K dX3_inherited_5 rfl rfl ?_
  refine zq_aload_n K dX3_inherited_6 rfl rfl ?_
  refine zm_ar K dX3_inherited_7 zf_X3_17 (k := 4) (by decide) hR ?_
  refine zq_iload_n K dX3_inherited_10 rfl rfl ?_
  refine zm_ld K ((f) / (8)) dX3_inherited_11 (k := 4) (by decide) hR rfl (show (f) / (8) < 12 by omega) ?_
  refine zq_top (v := nI (zpar A (f / 8))) hu.1 ?_
  refine zq_aload_n K dX3_inherited_12 rfl rfl ?_
  refine zm_ar K dX3_inherited_13 zf_X3_21 (k := 5) (by decide) hR ?_
  refine zq_iload_n K dX3_inherited_16 rfl rfl ?_
  refine zm_ld K ((f) / (8)) dX3_inherited_17 (k := 5) (by decide) hR rfl (show (f) / (8) < 12 by omega) ?_
  refine zq_top (v := nI (znam A (f / 8))) hu.2.2.2.1 ?_
  refine zq_callV (As := [.int (nI (zpar A (f / 8))), .int (nI (znam A (f / 8)))]) K dX3_inherited_18 zyX3_fragmentOfName zm_X3_70 ziX3_fragmentOfName zvX3_fragmentOfName zclX3 rfl (by decide) rfl rfl (Nat.le_of_ble_eq_true rfl) (Nat.le_of_ble_eq_true rfl) hR.1 (ct_X3_fragmentOfName hR hu.2.1 hu.2.2.2.2 (hF.1 _ hu.2.1 hu.2.2.1)) (zone_r ?_) zone_x (Nat.le_refl _)
  exact zq_iret K dX3_inherited_21 rfl ⟨rfl, rfl⟩
theorem zDp_up {A : ZA} {k f : Nat} (hF : zFr A) (hx : zDp A (k + 1) (f / 8)) (h3 : f < 96) (h4 : ¬ A.2 10 f = 0) (h9 : A.2 11 f = -1) : zUp A (f / 8) ∧ zDp A k (zpar A (f / 8)) :=
  hx.resolve_left (fun e => hF.2 f (by omega) h4 h9)
theorem zDp_0 {A : ZA} {f : Nat} (hF : zFr A) (hx : zDp A 0 (f / 8)) (h3 : f < 96) (h4 : ¬ A.2 10 f = 0) : ¬ A.2 11 f = -1 :=
  hF.2 f (by have h : f / 8 = 0 := hx; omega) h4
theorem lp_X3_server {G : ZG} {E : ZE} (K : zOK mX3_server [] G E) {M : ZM} {x : Nat} {q : Nat → Nat} {w : Int32} {A : ZA} (hR : zR M x q w A) (hF : zFr A) {Q : State → Prop} {y : Int32} : ∀ (k f : Nat), zDp A k (f / 8) → f < 96 → ¬ A.2 10 f = 0 → (∀ L, WW E G (zyu mX3_server) Q M 0 27 L [.int (zsvN A (k + 1) f)]) → WW E G (zyu mX3_server) Q M 0 2 [some (.ref x), some (.int y), some (.int (nI f))] [] := by
  intro k
  induction k with
  | zero =>
    intro f hx h3 h4 kk
    have h0 := zDp_0 hF hx h3 h4
    rw [show zsvN A (0 + 1) f = A.2 11 f from if_neg h0] at kk
    refine zq_aload_n K dX3_server_2 rfl rfl ?_
    refine zm_ar K dX3_server_3 zf_X3_33 (k := 11) (by decide) hR ?_
    refine zq_iload_n K dX3_server_6 rfl rfl ?_
    refine zm_ld K (f) dX3_server_7 (k := 11) (by decide) hR rfl (show f < 96 by omega) ?_
    refine zq_iconst K dX3_server_8 (v := -1) (by decide) ?_
    refine zq_icmp_ne K 21 dX3_server_9 (by decide) (fun h9 => ?_) (fun h9 => ?_)
    · refine zq_aload_n K dX3_server_21 rfl rfl ?_
      refine zm_ar K dX3_server_22 zf_X3_33 (k := 11) (by decide) hR ?_
      refine zq_iload_n K dX3_server_25 rfl rfl ?_
      refine zm_ld K (f) dX3_server_26 (k := 11) (by decide) hR rfl (show f < 96 by omega) ?_
      exact kk _
    · exact absurd h9 h0
  | succ k ih =>
    intro f hx h3 h4 kk
    refine zq_aload_n K dX3_server_2 rfl rfl ?_
    refine zm_ar K dX3_server_3 zf_X3_33 (k := 11) (by decide) hR ?_
    refine zq_iload_n K dX3_server_6 rfl rfl ?_
    refine zm_ld K (f) dX3_server_7 (k := 11) (by decide) hR rfl (show f < 96 by omega) ?_
    refine zq_iconst K dX3_server_8 (v := -1) (by decide) ?_
    refine zq_icmp_ne K 21 dX3_server_9 (by decide) (fun h9 => ?_) (fun h9 => ?_)
    · rw [show zsvN A (k + 1 + 1) f = A.2 11 f from if_neg h9] at kk
      refine zq_aload_n K dX3_server_21 rfl rfl ?_
      refine zm_ar K dX3_server_22 zf_X3_33 (k := 11) (by decide) hR ?_
      refine zq_iload_n K dX3_server_25 rfl rfl ?_
      refine zm_ld K (f) dX3_server_26 (k := 11) (by decide) hR rfl (show f < 96 by omega) ?_
      exact kk _
    · obtain ⟨hu, hx1⟩ := zDp_up hF hx h3 h4 h9
      obtain ⟨z1, z2, z3, z4⟩ := zinh_ok hF hu
      rw [show zsvN A (k + 1 + 1) f = zsvN A (k + 1) (zinh A f) from if_pos h9] at kk
      refine zq_aload_n K dX3_server_12 rfl rfl ?_
      refine zq_iload_n K dX3_server_13 rfl rfl ?_
      refine zq_callV (As := [.int (nI (f))]) K dX3_server_14 zyX3_inherited zm_X3_73 ziX3_inherited zvX3_inherited zclX3 rfl (by decide) rfl rfl (Nat.le_of_ble_eq_true rfl) (Nat.le_of_ble_eq_true rfl) hR.1 (ct_X3_inherited hR h3 hF hu) (zone_r ?_) zone_x (Nat.le_refl _)
      refine zq_istore_n K dX3_server_17 rfl (by decide) ?_
      refine zq_goto K 2 dX3_server_18 (by decide) ?_
      exact ih (zinh A f) (by rw [z2]; exact hx1) z1 z3 kk
theorem ct_X3_server {G : ZG} {M : ZM} {x : Nat} {q : Nat → Nat} {w : Int32} {A : ZA} (hR : zR M x q w A) {f : Nat} (hF : zFr A) (hx : zDp A 11 (f / 8)) (h3 : f < 96) (h4 : ¬ A.2 10 f = 0) : zMet G mX3_server [.ref (x), .int (nI (f))] M (zone (some (.int (zsv A f))) M) := by
  refine zbody zyX3_server [some (.ref (x)), some (.int (nI (f))), none] rfl (Nat.le_of_ble_eq_true rfl) (by intro v hv; simp only [List.mem_cons, List.not_mem_nil, or_false] at hv; rcases hv with rfl | rfl <;> rfl) (fun E K => ?_)
  refine zq_iload_n K dX3_server_0 rfl rfl ?_
  refine zq_istore_n K dX3_server_1 rfl (by decide) ?_
  exact lp_X3_server K hR hF 11 f hx h3 h4 (fun L => zq_iret K dX3_server_27 rfl ⟨rfl, rfl⟩)
theorem zfzN_no {A : ZA} (h : A.1 16 = -1) : ∀ k f, zfzN A k f = false
  | 0, _ => rfl
  | k + 1, f => by
    unfold zfzN
    rw [if_neg (fun z => z.1 h)]
    split
    · exact zfzN_no h k _
    · rfl
theorem zfzN_at {A : ZA} {f : Nat} (h : ¬ A.1 16 = -1) (e : nI f = A.1 16) (k : Nat) : zfzN A (k + 1) f = true := by
  unfold zfzN
  rw [if_pos ⟨h, e⟩]
theorem zfzN_own {A : ZA} {f : Nat} (e : ¬ nI f = A.1 16) (h : ¬ A.2 11 f = -1) (k : Nat) : zfzN A (k + 1) f = false := by
  unfold zfzN
  rw [if_neg (fun z => e z.2), if_neg h]
theorem zfzN_up {A : ZA} {f : Nat} (e : ¬ nI f = A.1 16) (h : A.2 11 f = -1) (k : Nat) : zfzN A (k + 1) f = zfzN A k (zinh A f) := by
  rw [zfzN, if_neg (fun z => e z.2), if_pos h]
theorem lp_X3_frozen {G : ZG} {E : ZE} (K : zOK mX3_frozen [] G E) {M : ZM} {x : Nat} {q : Nat → Nat} {w : Int32} {A : ZA} (hR : zR M x q w A) (hF : zFr A) {y : Int32} {P : ZO → ZM → Prop} : ∀ (k f : Nat), zDp A k (f / 8) → f < 96 → ¬ A.2 10 f = 0 → (zfzN A (k + 1) f = true → P (.inl (some (.int (nI 1)))) M) → (zfzN A (k + 1) f = false → P (.inl (some (.int (nI 0)))) M) → WW E G (zyu mX3_frozen) (zQ E G mX3_frozen P) M 0 2 [some (.ref x), some (.int y), some (.int (nI f))] [] := by
  intro k
  induction k with
  | zero =>
    intro f hx h3 h4 k1 k0
    have h0 := zDp_0 hF hx h3 h4
    refine zq_aload_n K dX3_frozen_2 rfl rfl ?_
    refine zm_sc K dX3_frozen_3 zf_X3_48 (k := 16) (by decide) hR ?_
    refine zq_iconst K dX3_frozen_6 (v := -1) (by decide) ?_
    refine zq_icmp_eq K 37 dX3_frozen_7 (by decide) (fun h7 => ?_) (fun h7 => ?_)
    · refine zq_aload_n K dX3_frozen_37 rfl rfl ?_
      refine zm_sc K dX3_frozen_38 zf_X3_48 (k := 16) (by decide) hR ?_
      refine zq_iconst K dX3_frozen_41 (v := -1) (by decide) ?_
      refine zq_icmp_eq K 57 dX3_frozen_42 (by decide) (fun h42 => ?_) (fun h42 => absurd h7 h42)
      refine zq_iconst K dX3_frozen_57 (v := nI 0) (by decide) ?_
      exact zq_zret K dX3_frozen_58 rfl (by decide) (k0 (zfzN_no h7 _ _))
    · refine zq_iload_n K dX3_frozen_10 rfl rfl ?_
      refine zq_aload_n K dX3_frozen_11 rfl rfl ?_
      refine zm_sc K dX3_frozen_12 zf_X3_48 (k := 16) (by decide) hR ?_
      refine zq_icmp_eq K 37 dX3_frozen_15 (by decide) (fun h15 => ?_) (fun h15 => ?_)
      · refine zq_aload_n K dX3_frozen_37 rfl rfl ?_
        refine zm_sc K dX3_frozen_38 zf_X3_48 (k := 16) (by decide) hR ?_
        refine zq_iconst K dX3_frozen_41 (v := -1) (by decide) ?_
        refine zq_icmp_eq K 57 dX3_frozen_42 (by decide) (fun h42 => absurd h42 h7) (fun h42 => ?_)
        refine zq_iload_n K dX3_frozen_45 rfl rfl ?_
        refine zq_aload_n K dX3_frozen_46 rfl rfl ?_
        refine zm_sc K dX3_frozen_47 zf_X3_48 (k := 16) (by decide) hR ?_
        refine zq_icmp_ne K 57 dX3_frozen_50 (by decide) (fun z => absurd h15 z) (fun z => ?_)
        refine zq_iconst K dX3_frozen_53 (v := nI 1) (by decide) ?_
        refine zq_goto K 58 dX3_frozen_54 (by decide) ?_
        exact zq_zret K dX3_frozen_58 rfl (by decide) (k1 (zfzN_at h7 h15 _))
      · refine zq_aload_n K dX3_frozen_18 rfl rfl ?_
        refine zm_ar K dX3_frozen_19 zf_X3_33 (k := 11) (by decide) hR ?_
        refine zq_iload_n K dX3_frozen_22 rfl rfl ?_
        refine zm_ld K (f) dX3_frozen_23 (k := 11) (by decide) hR rfl (show f < 96 by omega) ?_
        refine zq_iconst K dX3_frozen_24 (v := -1) (by decide) ?_
        refine zq_icmp_ne K 37 dX3_frozen_25 (by decide) (fun h25 => ?_) (fun h25 => ?_)
        · refine zq_aload_n K dX3_frozen_37 rfl rfl ?_
          refine zm_sc K dX3_frozen_38 zf_X3_48 (k := 16) (by decide) hR ?_
          refine zq_iconst K dX3_frozen_41 (v := -1) (by decide) ?_
          refine zq_icmp_eq K 57 dX3_frozen_42 (by decide) (fun h42 => absurd h42 h7) (fun h42 => ?_)
          refine zq_iload_n K dX3_frozen_45 rfl rfl ?_
          refine zq_aload_n K dX3_frozen_46 rfl rfl ?_
          refine zm_sc K dX3_frozen_47 zf_X3_48 (k := 16) (by decide) hR ?_
          refine zq_icmp_ne K 57 dX3_frozen_50 (by decide) (fun z => ?_) (fun z => absurd z h15)
          refine zq_iconst K dX3_frozen_57 (v := nI 0) (by decide) ?_
          exact zq_zret K dX3_frozen_58 rfl (by decide) (k0 (zfzN_own h15 h25 _))
        · exact absurd h25 h0
  | succ k ih =>
    intro f hx h3 h4 k1 k0
    refine zq_aload_n K dX3_frozen_2 rfl rfl ?_
    refine zm_sc K dX3_frozen_3 zf_X3_48 (k := 16) (by decide) hR ?_
    refine zq_iconst K dX3_frozen_6 (v := -1) (by decide) ?_
    refine zq_icmp_eq K 37 dX3_frozen_7 (by decide) (fun h7 => ?_) (fun h7 => ?_)
    · refine zq_aload_n K dX3_frozen_37 rfl rfl ?_
      refine zm_sc K dX3_frozen_38 zf_X3_48 (k := 16) (by decide) hR ?_
      refine zq_iconst K dX3_frozen_41 (v := -1) (by decide) ?_
      refine zq_icmp_eq K 57 dX3_frozen_42 (by decide) (fun h42 => ?_) (fun h42 => absurd h7 h42)
      refine zq_iconst K dX3_frozen_57 (v := nI 0) (by decide) ?_
      exact zq_zret K dX3_frozen_58 rfl (by decide) (k0 (zfzN_no h7 _ _))
    · refine zq_iload_n K dX3_frozen_10 rfl rfl ?_
      refine zq_aload_n K dX3_frozen_11 rfl rfl ?_
      refine zm_sc K dX3_frozen_12 zf_X3_48 (k := 16) (by decide) hR ?_
      refine zq_icmp_eq K 37 dX3_frozen_15 (by decide) (fun h15 => ?_) (fun h15 => ?_)
      · refine zq_aload_n K dX3_frozen_37 rfl rfl ?_
        refine zm_sc K dX3_frozen_38 zf_X3_48 (k := 16) (by decide) hR ?_
        refine zq_iconst K dX3_frozen_41 (v := -1) (by decide) ?_
        refine zq_icmp_eq K 57 dX3_frozen_42 (by decide) (fun h42 => absurd h42 h7) (fun h42 => ?_)
        refine zq_iload_n K dX3_frozen_45 rfl rfl ?_
        refine zq_aload_n K dX3_frozen_46 rfl rfl ?_
        refine zm_sc K dX3_frozen_47 zf_X3_48 (k := 16) (by decide) hR ?_
        refine zq_icmp_ne K 57 dX3_frozen_50 (by decide) (fun z => absurd h15 z) (fun z => ?_)
        refine zq_iconst K dX3_frozen_53 (v := nI 1) (by decide) ?_
        refine zq_goto K 58 dX3_frozen_54 (by decide) ?_
        exact zq_zret K dX3_frozen_58 rfl (by decide) (k1 (zfzN_at h7 h15 _))
      · refine zq_aload_n K dX3_frozen_18 rfl rfl ?_
        refine zm_ar K dX3_frozen_19 zf_X3_33 (k := 11) (by decide) hR ?_
        refine zq_iload_n K dX3_frozen_22 rfl rfl ?_
        refine zm_ld K (f) dX3_frozen_23 (k := 11) (by decide) hR rfl (show f < 96 by omega) ?_
        refine zq_iconst K dX3_frozen_24 (v := -1) (by decide) ?_
        refine zq_icmp_ne K 37 dX3_frozen_25 (by decide) (fun h25 => ?_) (fun h25 => ?_)
        · refine zq_aload_n K dX3_frozen_37 rfl rfl ?_
          refine zm_sc K dX3_frozen_38 zf_X3_48 (k := 16) (by decide) hR ?_
          refine zq_iconst K dX3_frozen_41 (v := -1) (by decide) ?_
          refine zq_icmp_eq K 57 dX3_frozen_42 (by decide) (fun h42 => absurd h42 h7) (fun h42 => ?_)
          refine zq_iload_n K dX3_frozen_45 rfl rfl ?_
          refine zq_aload_n K dX3_frozen_46 rfl rfl ?_
          refine zm_sc K dX3_frozen_47 zf_X3_48 (k := 16) (by decide) hR ?_
          refine zq_icmp_ne K 57 dX3_frozen_50 (by decide) (fun z => ?_) (fun z => absurd z h15)
          refine zq_iconst K dX3_frozen_57 (v := nI 0) (by decide) ?_
          exact zq_zret K dX3_frozen_58 rfl (by decide) (k0 (zfzN_own h15 h25 _))
        · obtain ⟨hu, hx1⟩ := zDp_up hF hx h3 h4 h25
          obtain ⟨z1, z2, z3, z4⟩ := zinh_ok hF hu
          refine zq_aload_n K dX3_frozen_28 rfl rfl ?_
          refine zq_iload_n K dX3_frozen_29 rfl rfl ?_
          refine zq_callV (As := [.int (nI (f))]) K dX3_frozen_30 zyX3_inherited zm_X3_73 ziX3_inherited zvX3_inherited zclX3 rfl (by decide) rfl rfl (Nat.le_of_ble_eq_true rfl) (Nat.le_of_ble_eq_true rfl) hR.1 (ct_X3_inherited hR h3 hF hu) (zone_r ?_) zone_x (Nat.le_refl _)
          refine zq_istore_n K dX3_frozen_33 rfl (by decide) ?_
          refine zq_goto K 2 dX3_frozen_34 (by decide) ?_
          exact ih (zinh A f) (by rw [z2]; exact hx1) z1 z3 (fun z => k1 ((zfzN_up h15 h25 _).trans z)) (fun z => k0 ((zfzN_up h15 h25 _).trans z))
theorem ct_X3_frozen {G : ZG} {M : ZM} {x : Nat} {q : Nat → Nat} {w : Int32} {A : ZA} (hR : zR M x q w A) {f : Nat} (hF : zFr A) (hx : zDp A 11 (f / 8)) (h3 : f < 96) (h4 : ¬ A.2 10 f = 0) : zMet G mX3_frozen [.ref (x), .int (nI (f))] M (zdec (zfz A f = true) M) := by
  refine zbody zyX3_frozen [some (.ref (x)), some (.int (nI (f))), none] rfl (Nat.le_of_ble_eq_true rfl) (by intro v hv; simp only [List.mem_cons, List.not_mem_nil, or_false] at hv; rcases hv with rfl | rfl <;> rfl) (fun E K => ?_)
  refine zq_iload_n K dX3_frozen_0 rfl rfl ?_
  refine zq_istore_n K dX3_frozen_1 rfl (by decide) ?_
  exact lp_X3_frozen K hR hF 11 f hx h3 h4 (fun h => zdec_1 h) (fun h => zdec_0 (fun z => Bool.false_ne_true (h.symm.trans z)))
theorem ct_X3_isFrozenName {G : ZG} {M : ZM} {x : Nat} {q : Nat → Nat} {w : Int32} {A : ZA} (hR : zR M x q w A) {d n : Nat} (hF : zFr A) (hx : zDp A 11 d) (hd : d < 12) (hl : A.2 3 d = 1) (hn : n < 50) : zMet G mX3_isFrozenName [.ref (x), .int (nI (d)), .int (nI (n))] M (zdec (zfz A (zfn A d n) = true) M) := by
  refine zbody zyX3_isFrozenName [some (.ref (x)), some (.int (nI (d))), some (.int (nI (n)))] rfl (Nat.le_of_ble_eq_true rfl) (by intro v hv; simp only [List.mem_cons, List.not_mem_nil, or_false] at hv; rcases hv with rfl | rfl | rfl <;> rfl) (fun E K => ?_)
  refine zq_aload_n K dX3_isFrozenName_0 rfl rfl ?_
  refine zq_aload_n K dX3_isFrozenName_1 rfl rfl ?_
  refine zq_iload_n K dX3_isFrozenName_2 rfl rfl ?_
  refine zq_iload_n K dX3_isFrozenName_3 rfl rfl ?_
  refine zq_callV (As := [.int (nI (d)), .int (nI (n))]) K dX3_isFrozenName_4 zyX3_fragmentOfName zm_X3_70 ziX3_fragmentOfName zvX3_fragmentOfName zclX3 rfl (by decide) rfl rfl (Nat.le_of_ble_eq_true rfl) (Nat.le_of_ble_eq_true rfl) hR.1 (ct_X3_fragmentOfName hR hd hn (hF.1 d hd hl)) (zone_r ?_) zone_x (Nat.le_refl _)
  refine zq_callV (As := [.int (nI (zfn A d n))]) K dX3_isFrozenName_7 zyX3_frozen zm_X3_76 ziX3_frozen zvX3_frozen zclX3 rfl (by decide) rfl rfl (Nat.le_of_ble_eq_true rfl) (Nat.le_of_ble_eq_true rfl) hR.1 (ct_X3_frozen hR hF (by rw [zfn_div]; exact hx) (zfn_lt A hd) (zfg_ne (hF.1 d hd hl) _)) (zdec_r (fun h => ?_) (fun h => ?_)) zdec_x (Nat.le_refl _)
  · exact zq_zret K dX3_isFrozenName_10 rfl (by decide) (zdec_1 h)
  · exact zq_zret K dX3_isFrozenName_10 rfl (by decide) (zdec_0 h)
/-- all leases on a name end; those of others than ex are recalled: for the first k clients -/
def zEn (A : ZA) (a : Nat) (ex : Int32) : Nat → ZA
  | 0 => A
  | k + 1 => zsa (zsa (zEn A a ex k) 14 k ((zEn A a ex k).2 14 k + (if ¬ nI k = ex ∧ (zEn A a ex k).1 1 < (zEn A a ex k).2 13 (600 * k + a) then nI 1 else nI 0))) 13 (600 * k + a) (nI 0)
theorem lp_X3_ends {G : ZG} {E : ZE} (K : zOK mX3_ends [] G E) {M0 : ZM} {x : Nat} {q : Nat → Nat} {w : Int32} {A : ZA} {a : Nat} (ha : a < 600) (ex : Int32) {P : ZO → ZM → Prop} (hP : ∀ M, zR M x q w (zEn A a ex 4) → zSm x q M0 M → P (.inl none) M) : ∀ (n k : Nat), k + n = 4 → ∀ (M : ZM), zR M x q w (zEn A a ex k) → zSm x q M0 M → WW E G (zyu mX3_ends) (zQ E G mX3_ends P) M 0 2 [some (.ref x), some (.int (nI a)), some (.int ex), some (.int (nI k))] [] := by
  intro n
  induction n with
  | zero =>
    intro k hk M hR hS
    have hk4 : k = 4 := by omega
    subst hk4
    refine zq_iload_n K dX3_ends_2 rfl rfl ?_
    refine zq_iconst K dX3_ends_3 (v := nI 4) (by decide) ?_
    refine zq_icmp_geN K (x := 4) (y := 4) 54 dX3_ends_4 (by decide) ⟨by omega, by omega⟩ (fun h4 => ?_) (fun h4 => by omega)
    exact zq_ret K dX3_ends_54 rfl (hP M hR hS)
  | succ n ih =>
    intro k hk M hR hS
    refine zq_iload_n K dX3_ends_2 rfl rfl ?_
    refine zq_iconst K dX3_ends_3 (v := nI 4) (by decide) ?_
    refine zq_icmp_geN K (x := k) (y := 4) 54 dX3_ends_4 (by decide) ⟨by omega, by omega⟩ (fun h4 => by omega) (fun h4 => ?_)
    refine zq_aload_n K dX3_ends_7 rfl rfl ?_
    refine zm_ar K dX3_ends_8 zf_X3_42 (k := 14) (by decide) hR ?_
    refine zq_iload_n K dX3_ends_11 rfl rfl ?_
    refine zq_dup2 K dX3_ends_12 rfl rfl ?_
    refine zm_ld K (k) dX3_ends_13 (k := 14) (by decide) hR rfl (show k < 4 by omega) ?_
    refine zq_iload_n K dX3_ends_14 rfl rfl ?_
    refine zq_iload_n K dX3_ends_15 rfl rfl ?_
    refine zq_icmp_eq K 32 dX3_ends_16 (by decide) (fun h16 => ?_) (fun h16 => ?_)
    · refine zq_iconst K dX3_ends_32 (v := nI 0) (by decide) ?_
      refine zq_top (v := (if ¬ nI k = ex ∧ (zEn A a ex k).1 1 < (zEn A a ex k).2 13 (600 * k + a) then nI 1 else nI 0)) (if_neg (fun z => z.1 h16)).symm ?_
      refine zq_iadd K dX3_ends_33 ?_
      refine zm_st K (k) dX3_ends_34 (k := 14) (by decide) hR hS rfl (show k < 4 by omega) (fun M hR hS => ?_)
      refine zq_aload_n K dX3_ends_35 rfl rfl ?_
      refine zm_ar K dX3_ends_36 zf_X3_39 (k := 13) (by decide) hR ?_
      refine zq_sipush K dX3_ends_39 (v := nI 600) (by decide) ?_
      refine zq_iload_n K dX3_ends_42 rfl rfl ?_
      refine zq_imulN K (x := 600) (y := k) dX3_ends_43 ?_
      refine zq_iload_n K dX3_ends_44 rfl rfl ?_
      refine zq_iaddN K (x := (600) * (k)) (y := a) dX3_ends_45 ?_
      refine zq_iconst K dX3_ends_46 (v := nI 0) (by decide) ?_
      refine zm_st K (((600) * (k)) + (a)) dX3_ends_47 (k := 13) (by decide) hR hS rfl (show ((600) * (k)) + (a) < 2400 by omega) (fun M hR hS => ?_)
      refine zq_iincN K dX3_ends_48 rfl (by decide) ?_
      refine zq_goto K 2 dX3_ends_51 (by decide) ?_
      exact ih (k + 1) (by omega) M hR hS
    · refine zq_aload_n K dX3_ends_19 rfl rfl ?_
      refine zq_iload_n K dX3_ends_20 rfl rfl ?_
      refine zq_iload_n K dX3_ends_21 rfl rfl ?_
      refine zq_callV (As := [.int (nI (k)), .int (nI (a))]) K dX3_ends_22 zyX3_runs zm_X3_83 ziX3_runs zvX3_runs zclX3 rfl (by decide) rfl rfl (Nat.le_of_ble_eq_true rfl) (Nat.le_of_ble_eq_true rfl) hR.1 (ct_X3_runs hR (c := k) (a := a) (by omega) ha) (zdec_r (fun h22 => ?_) (fun h22 => ?_)) zdec_x (Nat.le_refl _)
      · refine zq_if_eqN K (x := 1) 32 dX3_ends_25 (by decide) (by omega) (fun h25 => by omega) (fun h25 => ?_)
        refine zq_iconst K dX3_ends_28 (v := nI 1) (by decide) ?_
        refine zq_goto K 33 dX3_ends_29 (by decide) ?_
        refine zq_top (v := (if ¬ nI k = ex ∧ (zEn A a ex k).1 1 < (zEn A a ex k).2 13 (600 * k + a) then nI 1 else nI 0)) (if_pos ⟨h16, h22⟩).symm ?_
        refine zq_iadd K dX3_ends_33 ?_
        refine zm_st K (k) dX3_ends_34 (k := 14) (by decide) hR hS rfl (show k < 4 by omega) (fun M hR hS => ?_)
        refine zq_aload_n K dX3_ends_35 rfl rfl ?_
        refine zm_ar K dX3_ends_36 zf_X3_39 (k := 13) (by decide) hR ?_
        refine zq_sipush K dX3_ends_39 (v := nI 600) (by decide) ?_
        refine zq_iload_n K dX3_ends_42 rfl rfl ?_
        refine zq_imulN K (x := 600) (y := k) dX3_ends_43 ?_
        refine zq_iload_n K dX3_ends_44 rfl rfl ?_
        refine zq_iaddN K (x := (600) * (k)) (y := a) dX3_ends_45 ?_
        refine zq_iconst K dX3_ends_46 (v := nI 0) (by decide) ?_
        refine zm_st K (((600) * (k)) + (a)) dX3_ends_47 (k := 13) (by decide) hR hS rfl (show ((600) * (k)) + (a) < 2400 by omega) (fun M hR hS => ?_)
        refine zq_iincN K dX3_ends_48 rfl (by decide) ?_
        refine zq_goto K 2 dX3_ends_51 (by decide) ?_
        exact ih (k + 1) (by omega) M hR hS
      · refine zq_if_eqN K (x := 0) 32 dX3_ends_25 (by decide) (by omega) (fun h25 => ?_) (fun h25 => by omega)
        refine zq_iconst K dX3_ends_32 (v := nI 0) (by decide) ?_
        refine zq_top (v := (if ¬ nI k = ex ∧ (zEn A a ex k).1 1 < (zEn A a ex k).2 13 (600 * k + a) then nI 1 else nI 0)) (if_neg (fun z => h22 z.2)).symm ?_
        refine zq_iadd K dX3_ends_33 ?_
        refine zm_st K (k) dX3_ends_34 (k := 14) (by decide) hR hS rfl (show k < 4 by omega) (fun M hR hS => ?_)
        refine zq_aload_n K dX3_ends_35 rfl rfl ?_
        refine zm_ar K dX3_ends_36 zf_X3_39 (k := 13) (by decide) hR ?_
        refine zq_sipush K dX3_ends_39 (v := nI 600) (by decide) ?_
        refine zq_iload_n K dX3_ends_42 rfl rfl ?_
        refine zq_imulN K (x := 600) (y := k) dX3_ends_43 ?_
        refine zq_iload_n K dX3_ends_44 rfl rfl ?_
        refine zq_iaddN K (x := (600) * (k)) (y := a) dX3_ends_45 ?_
        refine zq_iconst K dX3_ends_46 (v := nI 0) (by decide) ?_
        refine zm_st K (((600) * (k)) + (a)) dX3_ends_47 (k := 13) (by decide) hR hS rfl (show ((600) * (k)) + (a) < 2400 by omega) (fun M hR hS => ?_)
        refine zq_iincN K dX3_ends_48 rfl (by decide) ?_
        refine zq_goto K 2 dX3_ends_51 (by decide) ?_
        exact ih (k + 1) (by omega) M hR hS
theorem ct_X3_ends {G : ZG} {M : ZM} {x : Nat} {q : Nat → Nat} {w : Int32} {A : ZA} (hR : zR M x q w A) {a : Nat} (ha : a < 600) (ex : Int32) : zMet G mX3_ends [.ref (x), .int (nI (a)), .int (ex)] M (zRP x q M none w (zEn A a ex 4)) := by
  refine zbody zyX3_ends [some (.ref (x)), some (.int (nI (a))), some (.int (ex)), none] rfl (Nat.le_of_ble_eq_true rfl) (by intro v hv; simp only [List.mem_cons, List.not_mem_nil, or_false] at hv; rcases hv with rfl | rfl | rfl <;> rfl) (fun E K => ?_)
  have hS : zSm x q M M := zSm.rf
  refine zq_iconst K dX3_ends_0 (v := nI 0) (by decide) ?_
  refine zq_istore_n K dX3_ends_1 rfl (by decide) ?_
  exact lp_X3_ends K ha ex (fun M hR hS => ⟨rfl, hR, hS⟩) 4 0 rfl M hR hS
/-- a client changes a name -/
def zCh (A : ZA) (c : Int32) (d n : Nat) : ZA := zEn (zsa A 12 (zfn A d n) (A.2 12 (zfn A d n) + nI 1)) (50 * d + n) c 4
theorem ct_X3_changes {G : ZG} {M : ZM} {x : Nat} {q : Nat → Nat} {w : Int32} {A : ZA} (hR : zR M x q w A) {d n : Nat} (c : Int32) (hd : d < 12) (hn : n < 50) (h0 : ¬ A.2 10 (8 * d) = 0) : zMet G mX3_changes [.ref (x), .int (c), .int (nI (d)), .int (nI (n))] M (zRP x q M none w (zCh A c d n)) := by
  refine zbody zyX3_changes [some (.ref (x)), some (.int (c)), some (.int (nI (d))), some (.int (nI (n)))] rfl (Nat.le_of_ble_eq_true rfl) (by intro v hv; simp only [List.mem_cons, List.not_mem_nil, or_false] at hv; rcases hv with rfl | rfl | rfl | rfl <;> rfl) (fun E K => ?_)
  have hS : zSm x q M M := zSm.rf
  refine zq_aload_n K dX3_changes_0 rfl rfl ?_
  refine zm_ar K dX3_changes_1 zf_X3_36 (k := 12) (by decide) hR ?_
  refine zq_aload_n K dX3_changes_4 rfl rfl ?_
  refine zq_iload_n K dX3_changes_5 rfl rfl ?_
  refine zq_iload_n K dX3_changes_6 rfl rfl ?_
  have h96 := zfn_lt A (d := d) (n := n) hd
  refine zq_callV (As := [.int (nI (d)), .int (nI (n))]) K dX3_changes_7 zyX3_fragmentOfName zm_X3_70 ziX3_fragmentOfName zvX3_fragmentOfName zclX3 rfl (by decide) rfl rfl (Nat.le_of_ble_eq_true rfl) (Nat.le_of_ble_eq_true rfl) hR.1 (ct_X3_fragmentOfName hR hd hn h0) (zone_r ?_) zone_x (Nat.le_refl _)
  refine zq_dup2 K dX3_changes_10 rfl rfl ?_
  refine zm_ld K (zfn A d n) dX3_changes_11 (k := 12) (by decide) hR rfl (show zfn A d n < 96 by omega) ?_
  refine zq_iconst K dX3_changes_12 (v := nI 1) (by decide) ?_
  refine zq_iadd K dX3_changes_13 ?_
  refine zm_st K (zfn A d n) dX3_changes_14 (k := 12) (by decide) hR hS rfl (show zfn A d n < 96 by omega) (fun M hR hS => ?_)
  refine zq_aload_n K dX3_changes_15 rfl rfl ?_
  refine zq_iload_n K dX3_changes_16 rfl rfl ?_
  refine zq_iload_n K dX3_changes_17 rfl rfl ?_
  refine zq_callS (As := [.int (nI (d)), .int (nI (n))]) K dX3_changes_18 zyX3_at zm_X3_87 zsX3_at rfl (by decide) rfl rfl (Nat.le_of_ble_eq_true rfl) (Nat.le_of_ble_eq_true rfl) (ct_X3_at d n _) (zone_r ?_) zone_x (Nat.le_refl _)
  refine zq_iload_n K dX3_changes_21 rfl rfl ?_
  refine zq_callV (As := [.int (nI (50 * d + n)), .int (c)]) K dX3_changes_22 zyX3_ends zm_X3_90 ziX3_ends zvX3_ends zclX3 rfl (by decide) rfl rfl (Nat.le_of_ble_eq_true rfl) (Nat.le_of_ble_eq_true rfl) hR.1 (ct_X3_ends hR (show 50 * d + n < 600 by omega) c) (zRP_r hS (fun M hR hS => ?_)) zRP_x (Nat.le_refl _)
  exact zq_ret K dX3_changes_25 rfl ⟨rfl, hR, hS⟩
end
section
/-! the reference: names are looked up, made -/
theorem zOn_N {n : Int32} {k : Nat} (h : zOn n k) : ∃ j, j < k + 1 ∧ n = nI j := h.elim fun j hj => ⟨j, by omega, hj.2⟩
/-- client, directory and name are good: c', d', n' -/
def zGd (A : ZA) (c d n : Int32) (c' d' n' : Nat) : Prop := c = nI c' ∧ c' < 4 ∧ d = nI d' ∧ d' < 12 ∧ A.2 3 d' = 1 ∧ n = nI n' ∧ n' < 50
/-- they are not: 1 or 2 -/
def zBad (A : ZA) (c d n : Int32) (k : Nat) : Prop := (k = 1 ∧ ¬ (zOn c 3 ∧ zOn n 49)) ∨ (k = 2 ∧ zOn c 3 ∧ zOn n 49 ∧ ¬ zIsD A d)
theorem zGd_or (A : ZA) (c d n : Int32) : (∃ k, zBad A c d n k) ∨ ∃ c' d' n', zGd A c d n c' d' n' := by
  by_cases h1 : zOn c 3 ∧ zOn n 49
  · by_cases h2 : zIsD A d
    · obtain ⟨⟨c', hc, ec⟩, ⟨n', hn, en⟩⟩ := h1
      obtain ⟨d', hd, ed, hl⟩ := h2
      exact Or.inr ⟨c', d', n', ec, by omega, ed, hd, hl, en, by omega⟩
    · exact Or.inl ⟨2, Or.inr ⟨rfl, h1.1, h1.2, h2⟩⟩
  · exact Or.inl ⟨1, Or.inl ⟨rfl, h1⟩⟩
theorem zBad_k {A : ZA} {c d n : Int32} {k : Nat} (h : zBad A c d n k) : 0 < k ∧ k < 3 := by
  rcases h with ⟨rfl, -⟩ | ⟨rfl, -⟩ <;> omega
theorem zGd_i {A : ZA} {c d n : Int32} {c' d' n' : Nat} (h : zGd A c d n c' d' n') : zOn c 3 ∧ zOn n 49 ∧ zIsD A d :=
  ⟨⟨c', by have := h.2.1; omega, h.1⟩, ⟨n', by have := h.2.2.2.2.2.2; omega, h.2.2.2.2.2.1⟩, ⟨d', h.2.2.2.1, h.2.2.1, h.2.2.2.2.1⟩⟩
theorem ct_X3_barsName_bad {G : ZG} {M : ZM} {x : Nat} {q : Nat → Nat} {w : Int32} {A : ZA} (hR : zR M x q w A) {D : Nat} (hB : zBas A D) {c d n : Int32} {k : Nat} (h : zBad A c d n k) : zMet G mX3_barsName [.ref (x), .int (c), .int (d), .int (n)] M (zone (some (.int (nI k))) M) := by
  refine zbody zyX3_barsName [some (.ref (x)), some (.int (c)), some (.int (d)), some (.int (n))] rfl (Nat.le_of_ble_eq_true rfl) (by intro v hv; simp only [List.mem_cons, List.not_mem_nil, or_false] at hv; rcases hv with rfl | rfl | rfl | rfl <;> rfl) (fun E K => ?_)
  refine zq_iload_n K dX3_barsName_0 rfl rfl ?_
  refine zq_callS (As := [.int (c)]) K dX3_barsName_1 zyX3_isClient zm_X3_93 zsX3_isClient rfl (by decide) rfl rfl (Nat.le_of_ble_eq_true rfl) (Nat.le_of_ble_eq_true rfl) (ct_X3_isClient c M) (zdec_r (fun hc => ?_) (fun hc => ?_)) zdec_x (Nat.le_refl _)
  · refine zq_if_eqN K (x := 1) 14 dX3_barsName_4 (by decide) (by omega) (fun h4 => by omega) (fun h4 => ?_)
    refine zq_iload_n K dX3_barsName_7 rfl rfl ?_
    refine zq_callS (As := [.int (n)]) K dX3_barsName_8 zyX3_isName zm_X3_96 zsX3_isName rfl (by decide) rfl rfl (Nat.le_of_ble_eq_true rfl) (Nat.le_of_ble_eq_true rfl) (ct_X3_isName n M) (zdec_r (fun hn => ?_) (fun hn => ?_)) zdec_x (Nat.le_refl _)
    · refine zq_if_neN K (x := 1) 18 dX3_barsName_11 (by decide) (by omega) (fun h11 => ?_) (fun h11 => by omega)
      refine zq_aload_n K dX3_barsName_18 rfl rfl ?_
      refine zq_iload_n K dX3_barsName_19 rfl rfl ?_
      refine zq_callV (As := [.int (d)]) K dX3_barsName_20 zyX3_isDirectory zm_X3_99 ziX3_isDirectory zvX3_isDirectory zclX3 rfl (by decide) rfl rfl (Nat.le_of_ble_eq_true rfl) (Nat.le_of_ble_eq_true rfl) hR.1 (ct_X3_isDirectory hR hB d) (zdec_r (fun hd => ?_) (fun hd => ?_)) zdec_x (Nat.le_refl _)
      · refine zq_if_eqN K (x := 1) 30 dX3_barsName_23 (by decide) (by omega) (fun h23 => by omega) (fun h23 => ?_)
        rcases h with ⟨-, h⟩ | ⟨-, -, -, h⟩
        · exact absurd ⟨hc, hn⟩ h
        · exact absurd hd h
      · refine zq_if_eqN K (x := 0) 30 dX3_barsName_23 (by decide) (by omega) (fun h23 => ?_) (fun h23 => by omega)
        obtain ⟨rfl, h2⟩ | ⟨rfl, -⟩ := h; exact absurd ⟨hc, hn⟩ h2
        refine zq_iconst K dX3_barsName_30 (v := nI 2) (by decide) ?_
        exact zq_iret K dX3_barsName_31 rfl ⟨rfl, rfl⟩
    · refine zq_if_neN K (x := 0) 18 dX3_barsName_11 (by decide) (by omega) (fun h11 => by omega) (fun h11 => ?_)
      obtain ⟨rfl, -⟩ | ⟨rfl, -, h2, -⟩ := h; rotate_left; exact absurd h2 hn
      refine zq_iconst K dX3_barsName_14 (v := nI 1) (by decide) ?_
      refine zq_goto K 31 dX3_barsName_15 (by decide) ?_
      exact zq_iret K dX3_barsName_31 rfl ⟨rfl, rfl⟩
  · refine zq_if_eqN K (x := 0) 14 dX3_barsName_4 (by decide) (by omega) (fun h4 => ?_) (fun h4 => by omega)
    obtain ⟨rfl, -⟩ | ⟨rfl, h2, -⟩ := h; rotate_left; exact absurd h2 hc
    refine zq_iconst K dX3_barsName_14 (v := nI 1) (by decide) ?_
    refine zq_goto K 31 dX3_barsName_15 (by decide) ?_
    exact zq_iret K dX3_barsName_31 rfl ⟨rfl, rfl⟩
theorem ct_X3_barsName_ok {G : ZG} {M : ZM} {x : Nat} {q : Nat → Nat} {w : Int32} {A : ZA} (hR : zR M x q w A) {D : Nat} (hB : zBas A D) {c d n : Int32} {c' d' n' : Nat} (h : zGd A c d n c' d' n') : zMet G mX3_barsName [.ref (x), .int (c), .int (d), .int (n)] M (zone (some (.int (nI 0))) M) := by
  refine zbody zyX3_barsName [some (.ref (x)), some (.int (c)), some (.int (d)), some (.int (n))] rfl (Nat.le_of_ble_eq_true rfl) (by intro v hv; simp only [List.mem_cons, List.not_mem_nil, or_false] at hv; rcases hv with rfl | rfl | rfl | rfl <;> rfl) (fun E K => ?_)
  refine zq_iload_n K dX3_barsName_0 rfl rfl ?_
  refine zq_callS (As := [.int (c)]) K dX3_barsName_1 zyX3_isClient zm_X3_93 zsX3_isClient rfl (by decide) rfl rfl (Nat.le_of_ble_eq_true rfl) (Nat.le_of_ble_eq_true rfl) (ct_X3_isClient c M) (zdec_r (fun hc => ?_) (fun hc => ?_)) zdec_x (Nat.le_refl _)
  · refine zq_if_eqN K (x := 1) 14 dX3_barsName_4 (by decide) (by omega) (fun h4 => by omega) (fun h4 => ?_)
    refine zq_iload_n K dX3_barsName_7 rfl rfl ?_
    refine zq_callS (As := [.int (n)]) K dX3_barsName_8 zyX3_isName zm_X3_96 zsX3_isName rfl (by decide) rfl rfl (Nat.le_of_ble_eq_true rfl) (Nat.le_of_ble_eq_true rfl) (ct_X3_isName n M) (zdec_r (fun hn => ?_) (fun hn => ?_)) zdec_x (Nat.le_refl _)
    · refine zq_if_neN K (x := 1) 18 dX3_barsName_11 (by decide) (by omega) (fun h11 => ?_) (fun h11 => by omega)
      refine zq_aload_n K dX3_barsName_18 rfl rfl ?_
      refine zq_iload_n K dX3_barsName_19 rfl rfl ?_
      refine zq_callV (As := [.int (d)]) K dX3_barsName_20 zyX3_isDirectory zm_X3_99 ziX3_isDirectory zvX3_isDirectory zclX3 rfl (by decide) rfl rfl (Nat.le_of_ble_eq_true rfl) (Nat.le_of_ble_eq_true rfl) hR.1 (ct_X3_isDirectory hR hB d) (zdec_r (fun hd => ?_) (fun hd => ?_)) zdec_x (Nat.le_refl _)
      · refine zq_if_eqN K (x := 1) 30 dX3_barsName_23 (by decide) (by omega) (fun h23 => by omega) (fun h23 => ?_)
        refine zq_iconst K dX3_barsName_26 (v := nI 0) (by decide) ?_
        refine zq_goto K 31 dX3_barsName_27 (by decide) ?_
        exact zq_iret K dX3_barsName_31 rfl ⟨rfl, rfl⟩
      · refine zq_if_eqN K (x := 0) 30 dX3_barsName_23 (by decide) (by omega) (fun h23 => ?_) (fun h23 => by omega)
        exact absurd (zGd_i h).2.2 hd
    · refine zq_if_neN K (x := 0) 18 dX3_barsName_11 (by decide) (by omega) (fun h11 => by omega) (fun h11 => ?_)
      exact absurd (zGd_i h).2.1 hn
  · refine zq_if_eqN K (x := 0) 14 dX3_barsName_4 (by decide) (by omega) (fun h4 => ?_) (fun h4 => by omega)
    exact absurd (zGd_i h).1 hc
/-- what the reference rests on -/
def zWf (A : ZA) : Prop := (∃ D, zBas A D) ∧ zFr A ∧ ∀ d, d < 12 → A.2 3 d = 1 → zDp A 11 d
/-- the name is taken, or its fragment frozen -/
def zBz (A : ZA) (d n : Nat) : Prop := ¬ A.2 6 (50 * d + n) = -1 ∨ zfz A (zfn A d n) = true
/-- .. whether a name can be made: 0, or why not -/
def zNw (A : ZA) (c d n : Int32) (k : Nat) : Prop := zBad A c d n k ∨ ∃ c' d' n', zGd A c d n c' d' n' ∧ ((k = 3 ∧ zBz A d' n') ∨ (k = 0 ∧ ¬ zBz A d' n'))
theorem ct_X3_barsNew_bad {G : ZG} {M : ZM} {x : Nat} {q : Nat → Nat} {w : Int32} {A : ZA} (hR : zR M x q w A) (hW : zWf A) {c d n : Int32} {k : Nat} (h : zBad A c d n k) : zMet G mX3_barsNew [.ref (x), .int (c), .int (d), .int (n)] M (zone (some (.int (nI k))) M) := by
  refine zbody zyX3_barsNew [some (.ref (x)), some (.int (c)), some (.int (d)), some (.int (n)), none] rfl (Nat.le_of_ble_eq_true rfl) (by intro v hv; simp only [List.mem_cons, List.not_mem_nil, or_false] at hv; rcases hv with rfl | rfl | rfl | rfl <;> rfl) (fun E K => ?_)
  obtain ⟨⟨D, hB⟩, hF, hU⟩ := hW
  have hk := zBad_k h
  refine zq_aload_n K dX3_barsNew_0 rfl rfl ?_
  refine zq_iload_n K dX3_barsNew_1 rfl rfl ?_
  refine zq_iload_n K dX3_barsNew_2 rfl rfl ?_
  refine zq_iload_n K dX3_barsNew_3 rfl rfl ?_
  refine zq_callV (As := [.int (c), .int (d), .int (n)]) K dX3_barsNew_4 zyX3_barsName zm_X3_102 ziX3_barsName zvX3_barsName zclX3 rfl (by decide) rfl rfl (Nat.le_of_ble_eq_true rfl) (Nat.le_of_ble_eq_true rfl) hR.1 (ct_X3_barsName_bad hR hB h) (zone_r ?_) zone_x (Nat.le_refl _)
  refine zq_istore K dX3_barsNew_7 (by decide) ?_
  refine zq_iload K dX3_barsNew_9 rfl ?_
  refine zq_if_leN K (x := k) 19 dX3_barsNew_11 (by decide) (by omega) (fun h11 => by omega) (fun h11 => ?_)
  refine zq_iload K dX3_barsNew_14 rfl ?_
  refine zq_goto K 47 dX3_barsNew_16 (by decide) ?_
  exact zq_iret K dX3_barsNew_47 rfl ⟨rfl, rfl⟩
theorem ct_X3_barsNew_no {G : ZG} {M : ZM} {x : Nat} {q : Nat → Nat} {w : Int32} {A : ZA} (hR : zR M x q w A) (hW : zWf A) {c' d' n' : Nat} (hc : c' < 4) (hd : d' < 12) (hl : A.2 3 d' = 1) (hn : n' < 50) (h : zBz A d' n') : zMet G mX3_barsNew [.ref (x), .int (nI (c')), .int (nI (d')), .int (nI (n'))] M (zone (some (.int (nI 3))) M) := by
  refine zbody zyX3_barsNew [some (.ref (x)), some (.int (nI (c'))), some (.int (nI (d'))), some (.int (nI (n'))), none] rfl (Nat.le_of_ble_eq_true rfl) (by intro v hv; simp only [List.mem_cons, List.not_mem_nil, or_false] at hv; rcases hv with rfl | rfl | rfl | rfl <;> rfl) (fun E K => ?_)
  obtain ⟨⟨D, hB⟩, hF, hU⟩ := id hW
  have hg : zGd A (nI c') (nI d') (nI n') c' d' n' := ⟨rfl, hc, rfl, hd, hl, rfl, hn⟩
  have hS : zSm x q M M := zSm.rf
  refine zq_aload_n K dX3_barsNew_0 rfl rfl ?_
  refine zq_iload_n K dX3_barsNew_1 rfl rfl ?_
  refine zq_iload_n K dX3_barsNew_2 rfl rfl ?_
  refine zq_iload_n K dX3_barsNew_3 rfl rfl ?_
  refine zq_callV (As := [.int (nI (c')), .int (nI (d')), .int (nI (n'))]) K dX3_barsNew_4 zyX3_barsName zm_X3_102 ziX3_barsName zvX3_barsName zclX3 rfl (by decide) rfl rfl (Nat.le_of_ble_eq_true rfl) (Nat.le_of_ble_eq_true rfl) hR.1 (ct_X3_barsName_ok hR hB hg) (zone_r ?_) zone_x (Nat.le_refl _)
  refine zq_istore K dX3_barsNew_7 (by decide) ?_
  refine zq_iload K dX3_barsNew_9 rfl ?_
  refine zq_if_leN K (x := 0) 19 dX3_barsNew_11 (by decide) (by omega) (fun h11 => ?_) (fun h11 => by omega)
  refine zq_aload_n K dX3_barsNew_19 rfl rfl ?_
  refine zm_ar K dX3_barsNew_20 zf_X3_24 (k := 6) (by decide) hR ?_
  refine zq_iload_n K dX3_barsNew_23 rfl rfl ?_
  refine zq_iload_n K dX3_barsNew_24 rfl rfl ?_
  refine zq_callS (As := [.int (nI (d')), .int (nI (n'))]) K dX3_barsNew_25 zyX3_at zm_X3_87 zsX3_at rfl (by decide) rfl rfl (Nat.le_of_ble_eq_true rfl) (Nat.le_of_ble_eq_true rfl) (ct_X3_at d' n' _) (zone_r ?_) zone_x (Nat.le_refl _)
  refine zm_ld K (50 * d' + n') dX3_barsNew_28 (k := 6) (by decide) hR rfl (show 50 * d' + n' < 600 by omega) ?_
  refine zq_iconst K dX3_barsNew_29 (v := -1) (by decide) ?_
  refine zq_icmp_ne K 42 dX3_barsNew_30 (by decide) (fun h30 => ?_) (fun h30 => ?_)
  · refine zq_iconst K dX3_barsNew_42 (v := nI 3) (by decide) ?_
    refine zq_goto K 47 dX3_barsNew_43 (by decide) ?_
    exact zq_iret K dX3_barsNew_47 rfl ⟨rfl, rfl⟩
  · refine zq_aload_n K dX3_barsNew_33 rfl rfl ?_
    refine zq_iload_n K dX3_barsNew_34 rfl rfl ?_
    refine zq_iload_n K dX3_barsNew_35 rfl rfl ?_
    refine zq_callV (As := [.int (nI (d')), .int (nI (n'))]) K dX3_barsNew_36 zyX3_isFrozenName zm_X3_106 ziX3_isFrozenName zvX3_isFrozenName zclX3 rfl (by decide) rfl rfl (Nat.le_of_ble_eq_true rfl) (Nat.le_of_ble_eq_true rfl) hR.1 (ct_X3_isFrozenName hR hF (hU d' hd hl) hd hl hn) (zdec_r (fun hz => ?_) (fun hz => ?_)) zdec_x (Nat.le_refl _)
    · refine zq_if_eqN K (x := 1) 46 dX3_barsNew_39 (by decide) (by omega) (fun h39 => by omega) (fun h39 => ?_)
      refine zq_iconst K dX3_barsNew_42 (v := nI 3) (by decide) ?_
      refine zq_goto K 47 dX3_barsNew_43 (by decide) ?_
      exact zq_iret K dX3_barsNew_47 rfl ⟨rfl, rfl⟩
    · exact absurd h (fun z => z.elim (fun y => y h30) hz)
theorem ct_X3_barsNew_ok {G : ZG} {M : ZM} {x : Nat} {q : Nat → Nat} {w : Int32} {A : ZA} (hR : zR M x q w A) (hW : zWf A) {c' d' n' : Nat} (hc : c' < 4) (hd : d' < 12) (hl : A.2 3 d' = 1) (hn : n' < 50) (h : ¬ zBz A d' n') : zMet G mX3_barsNew [.ref (x), .int (nI (c')), .int (nI (d')), .int (nI (n'))] M (zone (some (.int (nI 0))) M) := by
  refine zbody zyX3_barsNew [some (.ref (x)), some (.int (nI (c'))), some (.int (nI (d'))), some (.int (nI (n'))), none] rfl (Nat.le_of_ble_eq_true rfl) (by intro v hv; simp only [List.mem_cons, List.not_mem_nil, or_false] at hv; rcases hv with rfl | rfl | rfl | rfl <;> rfl) (fun E K => ?_)
  obtain ⟨⟨D, hB⟩, hF, hU⟩ := id hW
  have hg : zGd A (nI c') (nI d') (nI n') c' d' n' := ⟨rfl, hc, rfl, hd, hl, rfl, hn⟩
  have hS : zSm x q M M := zSm.rf
  refine zq_aload_n K dX3_barsNew_0 rfl rfl ?_
  refine zq_iload_n K dX3_barsNew_1 rfl rfl ?_
  refine zq_iload_n K dX3_barsNew_2 rfl rfl ?_
  refine zq_iload_n K dX3_barsNew_3 rfl rfl ?_
  refine zq_callV (As := [.int (nI (c')), .int (nI (d')), .int (nI (n'))]) K dX3_barsNew_4 zyX3_barsName zm_X3_102 ziX3_barsName zvX3_barsName zclX3 rfl (by decide) rfl rfl (Nat.le_of_ble_eq_true rfl) (Nat.le_of_ble_eq_true rfl) hR.1 (ct_X3_barsName_ok hR hB hg) (zone_r ?_) zone_x (Nat.le_refl _)
  refine zq_istore K dX3_barsNew_7 (by decide) ?_
  refine zq_iload K dX3_barsNew_9 rfl ?_
  refine zq_if_leN K (x := 0) 19 dX3_barsNew_11 (by decide) (by omega) (fun h11 => ?_) (fun h11 => by omega)
  refine zq_aload_n K dX3_barsNew_19 rfl rfl ?_
  refine zm_ar K dX3_barsNew_20 zf_X3_24 (k := 6) (by decide) hR ?_
  refine zq_iload_n K dX3_barsNew_23 rfl rfl ?_
  refine zq_iload_n K dX3_barsNew_24 rfl rfl ?_
  refine zq_callS (As := [.int (nI (d')), .int (nI (n'))]) K dX3_barsNew_25 zyX3_at zm_X3_87 zsX3_at rfl (by decide) rfl rfl (Nat.le_of_ble_eq_true rfl) (Nat.le_of_ble_eq_true rfl) (ct_X3_at d' n' _) (zone_r ?_) zone_x (Nat.le_refl _)
  refine zm_ld K (50 * d' + n') dX3_barsNew_28 (k := 6) (by decide) hR rfl (show 50 * d' + n' < 600 by omega) ?_
  refine zq_iconst K dX3_barsNew_29 (v := -1) (by decide) ?_
  refine zq_icmp_ne K 42 dX3_barsNew_30 (by decide) (fun h30 => ?_) (fun h30 => ?_)
  · exact absurd (Or.inl h30) h
  · refine zq_aload_n K dX3_barsNew_33 rfl rfl ?_
    refine zq_iload_n K dX3_barsNew_34 rfl rfl ?_
    refine zq_iload_n K dX3_barsNew_35 rfl rfl ?_
    refine zq_callV (As := [.int (nI (d')), .int (nI (n'))]) K dX3_barsNew_36 zyX3_isFrozenName zm_X3_106 ziX3_isFrozenName zvX3_isFrozenName zclX3 rfl (by decide) rfl rfl (Nat.le_of_ble_eq_true rfl) (Nat.le_of_ble_eq_true rfl) hR.1 (ct_X3_isFrozenName hR hF (hU d' hd hl) hd hl hn) (zdec_r (fun hz => ?_) (fun hz => ?_)) zdec_x (Nat.le_refl _)
    · exact absurd (Or.inr hz) h
    · refine zq_if_eqN K (x := 0) 46 dX3_barsNew_39 (by decide) (by omega) (fun h39 => ?_) (fun h39 => by omega)
      refine zq_iconst K dX3_barsNew_46 (v := nI 0) (by decide) ?_
      exact zq_iret K dX3_barsNew_47 rfl ⟨rfl, rfl⟩
theorem ct_X3_lookup_bad {G : ZG} {M : ZM} {x : Nat} {q : Nat → Nat} {w : Int32} {A : ZA} (hR : zR M x q w A) (hW : zWf A) {c d n : Int32} {k : Nat} (h : zBad A c d n k) : zMet G mX3_lookup [.ref (x), .int (c), .int (d), .int (n)] M (zRP x q M (some (.int (nI 0))) (nI k) A) := by
  refine zbody zyX3_lookup [some (.ref (x)), some (.int (c)), some (.int (d)), some (.int (n)), none] rfl (Nat.le_of_ble_eq_true rfl) (by intro v hv; simp only [List.mem_cons, List.not_mem_nil, or_false] at hv; rcases hv with rfl | rfl | rfl | rfl <;> rfl) (fun E K => ?_)
  obtain ⟨⟨D, hB⟩, hF, hU⟩ := hW
  have hk := zBad_k h
  have hS : zSm x q M M := zSm.rf
  refine zq_aload_n K dX3_lookup_0 rfl rfl ?_
  refine zq_aload_n K dX3_lookup_1 rfl rfl ?_
  refine zq_iload_n K dX3_lookup_2 rfl rfl ?_
  refine zq_iload_n K dX3_lookup_3 rfl rfl ?_
  refine zq_iload_n K dX3_lookup_4 rfl rfl ?_
  refine zq_callV (As := [.int (c), .int (d), .int (n)]) K dX3_lookup_5 zyX3_barsName zm_X3_102 ziX3_barsName zvX3_barsName zclX3 rfl (by decide) rfl rfl (Nat.le_of_ble_eq_true rfl) (Nat.le_of_ble_eq_true rfl) hR.1 (ct_X3_barsName_bad hR hB h) (zone_r ?_) zone_x (Nat.le_refl _)
  refine zm_pth K dX3_lookup_8 zf_X3_55 hR hS (fun M hR hS => ?_)
  refine zq_aload_n K dX3_lookup_11 rfl rfl ?_
  refine zm_th K dX3_lookup_12 zf_X3_55 hR ?_
  refine zq_if_leN K (x := k) 20 dX3_lookup_15 (by decide) (by omega) (fun h15 => by omega) (fun h15 => ?_)
  refine zq_iconst K dX3_lookup_18 (v := nI 0) (by decide) ?_
  exact zq_iret K dX3_lookup_19 rfl ⟨rfl, hR, hS⟩
def zLk (A : ZA) (c d n : Nat) : ZA := if A.1 1 < A.2 13 (600 * c + (50 * d + n)) then zsa A 15 c (A.2 15 c + nI 1) else zsa (zsa A 12 (zfn A d n) (A.2 12 (zfn A d n) + nI 1)) 13 (600 * c + (50 * d + n)) (A.1 1 + nI 10)
theorem ct_X3_lookup_ok {G : ZG} {M : ZM} {x : Nat} {q : Nat → Nat} {w : Int32} {A : ZA} (hR : zR M x q w A) (hW : zWf A) {c' d' n' : Nat} (hc : c' < 4) (hd : d' < 12) (hl : A.2 3 d' = 1) (hn : n' < 50) : zMet G mX3_lookup [.ref (x), .int (nI (c')), .int (nI (d')), .int (nI (n'))] M (zRP x q M (some (.int (A.2 6 (50 * d' + n')))) (nI 0) (zLk A c' d' n')) := by
  refine zbody zyX3_lookup [some (.ref (x)), some (.int (nI (c'))), some (.int (nI (d'))), some (.int (nI (n'))), none] rfl (Nat.le_of_ble_eq_true rfl) (by intro v hv; simp only [List.mem_cons, List.not_mem_nil, or_false] at hv; rcases hv with rfl | rfl | rfl | rfl <;> rfl) (fun E K => ?_)
  obtain ⟨⟨D, hB⟩, hF, hU⟩ := id hW
  have hg : zGd A (nI c') (nI d') (nI n') c' d' n' := ⟨rfl, hc, rfl, hd, hl, rfl, hn⟩
  have hS : zSm x q M M := zSm.rf
  refine zq_aload_n K dX3_lookup_0 rfl rfl ?_
  refine zq_aload_n K dX3_lookup_1 rfl rfl ?_
  refine zq_iload_n K dX3_lookup_2 rfl rfl ?_
  refine zq_iload_n K dX3_lookup_3 rfl rfl ?_
  refine zq_iload_n K dX3_lookup_4 rfl rfl ?_
  refine zq_callV (As := [.int (nI (c')), .int (nI (d')), .int (nI (n'))]) K dX3_lookup_5 zyX3_barsName zm_X3_102 ziX3_barsName zvX3_barsName zclX3 rfl (by decide) rfl rfl (Nat.le_of_ble_eq_true rfl) (Nat.le_of_ble_eq_true rfl) hR.1 (ct_X3_barsName_ok hR hB hg) (zone_r ?_) zone_x (Nat.le_refl _)
  refine zm_pth K dX3_lookup_8 zf_X3_55 hR hS (fun M hR hS => ?_)
  refine zq_aload_n K dX3_lookup_11 rfl rfl ?_
  refine zm_th K dX3_lookup_12 zf_X3_55 hR ?_
  refine zq_if_leN K (x := 0) 20 dX3_lookup_15 (by decide) (by omega) (fun h15 => ?_) (fun h15 => by omega)
  refine zq_iload_n K dX3_lookup_20 rfl rfl ?_
  refine zq_iload_n K dX3_lookup_21 rfl rfl ?_
  refine zq_callS (As := [.int (nI (d')), .int (nI (n'))]) K dX3_lookup_22 zyX3_at zm_X3_87 zsX3_at rfl (by decide) rfl rfl (Nat.le_of_ble_eq_true rfl) (Nat.le_of_ble_eq_true rfl) (ct_X3_at d' n' _) (zone_r ?_) zone_x (Nat.le_refl _)
  refine zq_istore K dX3_lookup_25 (by decide) ?_
  refine zq_aload_n K dX3_lookup_27 rfl rfl ?_
  refine zq_iload_n K dX3_lookup_28 rfl rfl ?_
  refine zq_iload K dX3_lookup_29 rfl ?_
  refine zq_callV (As := [.int (nI (c')), .int (nI (50 * d' + n'))]) K dX3_lookup_31 zyX3_runs zm_X3_83 ziX3_runs zvX3_runs zclX3 rfl (by decide) rfl rfl (Nat.le_of_ble_eq_true rfl) (Nat.le_of_ble_eq_true rfl) hR.1 (ct_X3_runs hR (a := 50 * d' + n') hc (by omega)) (zdec_r (fun hr => ?_) (fun hr => ?_)) zdec_x (Nat.le_refl _)
  · refine zq_if_eqN K (x := 1) 50 dX3_lookup_34 (by decide) (by omega) (fun h34 => by omega) (fun h34 => ?_)
    refine zq_aload_n K dX3_lookup_37 rfl rfl ?_
    refine zm_ar K dX3_lookup_38 zf_X3_45 (k := 15) (by decide) hR ?_
    refine zq_iload_n K dX3_lookup_41 rfl rfl ?_
    refine zq_dup2 K dX3_lookup_42 rfl rfl ?_
    refine zm_ld K (c') dX3_lookup_43 (k := 15) (by decide) hR rfl (show c' < 4 by omega) ?_
    refine zq_iconst K dX3_lookup_44 (v := nI 1) (by decide) ?_
    refine zq_iadd K dX3_lookup_45 ?_
    refine zm_st K (c') dX3_lookup_46 (k := 15) (by decide) hR hS rfl (show c' < 4 by omega) (fun M hR hS => ?_)
    refine zq_goto K 85 dX3_lookup_47 (by decide) ?_
    refine zq_aload_n K dX3_lookup_85 rfl rfl ?_
    refine zm_ar K dX3_lookup_86 zf_X3_24 (k := 6) (by decide) hR ?_
    refine zq_iload K dX3_lookup_89 rfl ?_
    refine zm_ld K (50 * d' + n') dX3_lookup_91 (k := 6) (by decide) hR rfl (show 50 * d' + n' < 600 by omega) ?_
    refine zq_top (v := A.2 6 (50 * d' + n')) rfl ?_
    exact zq_iret K dX3_lookup_92 rfl ⟨rfl, by unfold zLk; rw [if_pos hr]; exact hR, hS⟩
  · refine zq_if_eqN K (x := 0) 50 dX3_lookup_34 (by decide) (by omega) (fun h34 => ?_) (fun h34 => by omega)
    refine zq_aload_n K dX3_lookup_50 rfl rfl ?_
    refine zm_ar K dX3_lookup_51 zf_X3_36 (k := 12) (by decide) hR ?_
    refine zq_aload_n K dX3_lookup_54 rfl rfl ?_
    refine zq_iload_n K dX3_lookup_55 rfl rfl ?_
    refine zq_iload_n K dX3_lookup_56 rfl rfl ?_
    have h96 := zfn_lt A (d := d') (n := n') hd
    refine zq_callV (As := [.int (nI (d')), .int (nI (n'))]) K dX3_lookup_57 zyX3_fragmentOfName zm_X3_70 ziX3_fragmentOfName zvX3_fragmentOfName zclX3 rfl (by decide) rfl rfl (Nat.le_of_ble_eq_true rfl) (Nat.le_of_ble_eq_true rfl) hR.1 (ct_X3_fragmentOfName hR hd hn (hF.1 d' hd hl)) (zone_r ?_) zone_x (Nat.le_refl _)
    refine zq_dup2 K dX3_lookup_60 rfl rfl ?_
    refine zm_ld K (zfn A d' n') dX3_lookup_61 (k := 12) (by decide) hR rfl (show zfn A d' n' < 96 by omega) ?_
    refine zq_iconst K dX3_lookup_62 (v := nI 1) (by decide) ?_
    refine zq_iadd K dX3_lookup_63 ?_
    refine zm_st K (zfn A d' n') dX3_lookup_64 (k := 12) (by decide) hR hS rfl (show zfn A d' n' < 96 by omega) (fun M hR hS => ?_)
    refine zq_aload_n K dX3_lookup_65 rfl rfl ?_
    refine zm_ar K dX3_lookup_66 zf_X3_39 (k := 13) (by decide) hR ?_
    refine zq_sipush K dX3_lookup_69 (v := nI 600) (by decide) ?_
    refine zq_iload_n K dX3_lookup_72 rfl rfl ?_
    refine zq_imulN K (x := 600) (y := c') dX3_lookup_73 ?_
    refine zq_iload K dX3_lookup_74 rfl ?_
    refine zq_iaddN K (x := (600) * (c')) (y := 50 * d' + n') dX3_lookup_76 ?_
    refine zq_aload_n K dX3_lookup_77 rfl rfl ?_
    refine zm_sc K dX3_lookup_78 zf_X3_80 (k := 1) (by decide) hR ?_
    refine zq_bipush K dX3_lookup_81 (v := nI 10) (by decide) ?_
    refine zq_iadd K dX3_lookup_83 ?_
    refine zm_st K (((600) * (c')) + (50 * d' + n')) dX3_lookup_84 (k := 13) (by decide) hR hS rfl (show ((600) * (c')) + (50 * d' + n') < 2400 by omega) (fun M hR hS => ?_)
    refine zq_aload_n K dX3_lookup_85 rfl rfl ?_
    refine zm_ar K dX3_lookup_86 zf_X3_24 (k := 6) (by decide) hR ?_
    refine zq_iload K dX3_lookup_89 rfl ?_
    refine zm_ld K (50 * d' + n') dX3_lookup_91 (k := 6) (by decide) hR rfl (show 50 * d' + n' < 600 by omega) ?_
    refine zq_top (v := A.2 6 (50 * d' + n')) rfl ?_
    exact zq_iret K dX3_lookup_92 rfl ⟨rfl, by unfold zLk; rw [if_neg hr]; exact hR, hS⟩
/-- the directory d begins, its fragment with the owner o: the first k hashes -/
def zBg (A : ZA) (d : Nat) (o : Int32) : Nat → ZA
  | 0 => zsa A 3 d (nI 1)
  | k + 1 => zsa (zsa (zsa (zBg A d o k) 10 (8 * d + k) (if k = 0 then nI 8 else nI 0)) 11 (8 * d + k) (if k = 0 then o else -1)) 12 (8 * d + k) (nI 0)
theorem lp_X3_begins {G : ZG} {E : ZE} (K : zOK mX3_begins [] G E) {M0 : ZM} {x : Nat} {q : Nat → Nat} {w : Int32} {A : ZA} {d : Nat} (hd : d < 12) (o : Int32) {P : ZO → ZM → Prop} (hP : ∀ M, zR M x q w (zBg A d o 8) → zSm x q M0 M → P (.inl none) M) : ∀ (n k : Nat), k + n = 8 → ∀ (M : ZM), zR M x q w (zBg A d o k) → zSm x q M0 M → WW E G (zyu mX3_begins) (zQ E G mX3_begins P) M 0 9 [some (.ref x), some (.int (nI d)), some (.int o), some (.int (nI k))] [] := by
  intro n
  induction n with
  | zero =>
    intro k hk M hR hS
    have hk8 : k = 8 := by omega
    subst hk8
    refine zq_iload_n K dX3_begins_9 rfl rfl ?_
    refine zq_bipush K dX3_begins_10 (v := nI 8) (by decide) ?_
    refine zq_icmp_geN K (x := 8) (y := 8) 74 dX3_begins_12 (by decide) ⟨by omega, by omega⟩ (fun h12 => ?_) (fun h12 => by omega)
    exact zq_ret K dX3_begins_74 rfl (hP M hR hS)
  | succ n ih =>
    intro k hk M hR hS
    refine zq_iload_n K dX3_begins_9 rfl rfl ?_
    refine zq_bipush K dX3_begins_10 (v := nI 8) (by decide) ?_
    refine zq_icmp_geN K (x := k) (y := 8) 74 dX3_begins_12 (by decide) ⟨by omega, by omega⟩ (fun h12 => by omega) (fun h12 => ?_)
    refine zq_aload_n K dX3_begins_15 rfl rfl ?_
    refine zm_ar K dX3_begins_16 zf_X3_30 (k := 10) (by decide) hR ?_
    refine zq_bipush K dX3_begins_19 (v := nI 8) (by decide) ?_
    refine zq_iload_n K dX3_begins_21 rfl rfl ?_
    refine zq_imulN K (x := 8) (y := d) dX3_begins_22 ?_
    refine zq_iload_n K dX3_begins_23 rfl rfl ?_
    refine zq_iaddN K (x := (8) * (d)) (y := k) dX3_begins_24 ?_
    refine zq_iload_n K dX3_begins_25 rfl rfl ?_
    refine zq_if_neN K (x := k) 34 dX3_begins_26 (by decide) (by omega) (fun h26 => ?_) (fun h26 => ?_)
    · refine zq_iconst K dX3_begins_34 (v := nI 0) (by decide) ?_
      refine zq_top (v := (if k = 0 then nI 8 else nI 0)) (if_neg h26).symm ?_
      refine zm_st K (((8) * (d)) + (k)) dX3_begins_35 (k := 10) (by decide) hR hS rfl (show ((8) * (d)) + (k) < 96 by omega) (fun M hR hS => ?_)
      refine zq_aload_n K dX3_begins_36 rfl rfl ?_
      refine zm_ar K dX3_begins_37 zf_X3_33 (k := 11) (by decide) hR ?_
      refine zq_bipush K dX3_begins_40 (v := nI 8) (by decide) ?_
      refine zq_iload_n K dX3_begins_42 rfl rfl ?_
      refine zq_imulN K (x := 8) (y := d) dX3_begins_43 ?_
      refine zq_iload_n K dX3_begins_44 rfl rfl ?_
      refine zq_iaddN K (x := (8) * (d)) (y := k) dX3_begins_45 ?_
      refine zq_iload_n K dX3_begins_46 rfl rfl ?_
      refine zq_if_neN K (x := k) 54 dX3_begins_47 (by decide) (by omega) (fun h47 => ?_) (fun h47 => ?_)
      · refine zq_iconst K dX3_begins_54 (v := -1) (by decide) ?_
        refine zq_top (v := (if k = 0 then o else -1)) (if_neg h47).symm ?_
        refine zm_st K (((8) * (d)) + (k)) dX3_begins_55 (k := 11) (by decide) hR hS rfl (show ((8) * (d)) + (k) < 96 by omega) (fun M hR hS => ?_)
        refine zq_aload_n K dX3_begins_56 rfl rfl ?_
        refine zm_ar K dX3_begins_57 zf_X3_36 (k := 12) (by decide) hR ?_
        refine zq_bipush K dX3_begins_60 (v := nI 8) (by decide) ?_
        refine zq_iload_n K dX3_begins_62 rfl rfl ?_
        refine zq_imulN K (x := 8) (y := d) dX3_begins_63 ?_
        refine zq_iload_n K dX3_begins_64 rfl rfl ?_
        refine zq_iaddN K (x := (8) * (d)) (y := k) dX3_begins_65 ?_
        refine zq_iconst K dX3_begins_66 (v := nI 0) (by decide) ?_
        refine zm_st K (((8) * (d)) + (k)) dX3_begins_67 (k := 12) (by decide) hR hS rfl (show ((8) * (d)) + (k) < 96 by omega) (fun M hR hS => ?_)
        refine zq_iincN K dX3_begins_68 rfl (by decide) ?_
        refine zq_goto K 9 dX3_begins_71 (by decide) ?_
        exact ih (k + 1) (by omega) M hR hS
      · refine zq_iload_n K dX3_begins_50 rfl rfl ?_
        refine zq_goto K 55 dX3_begins_51 (by decide) ?_
        refine zq_top (v := (if k = 0 then o else -1)) (if_pos h47).symm ?_
        refine zm_st K (((8) * (d)) + (k)) dX3_begins_55 (k := 11) (by decide) hR hS rfl (show ((8) * (d)) + (k) < 96 by omega) (fun M hR hS => ?_)
        refine zq_aload_n K dX3_begins_56 rfl rfl ?_
        refine zm_ar K dX3_begins_57 zf_X3_36 (k := 12) (by decide) hR ?_
        refine zq_bipush K dX3_begins_60 (v := nI 8) (by decide) ?_
        refine zq_iload_n K dX3_begins_62 rfl rfl ?_
        refine zq_imulN K (x := 8) (y := d) dX3_begins_63 ?_
        refine zq_iload_n K dX3_begins_64 rfl rfl ?_
        refine zq_iaddN K (x := (8) * (d)) (y := k) dX3_begins_65 ?_
        refine zq_iconst K dX3_begins_66 (v := nI 0) (by decide) ?_
        refine zm_st K (((8) * (d)) + (k)) dX3_begins_67 (k := 12) (by decide) hR hS rfl (show ((8) * (d)) + (k) < 96 by omega) (fun M hR hS => ?_)
        refine zq_iincN K dX3_begins_68 rfl (by decide) ?_
        refine zq_goto K 9 dX3_begins_71 (by decide) ?_
        exact ih (k + 1) (by omega) M hR hS
    · refine zq_bipush K dX3_begins_29 (v := nI 8) (by decide) ?_
      refine zq_goto K 35 dX3_begins_31 (by decide) ?_
      refine zq_top (v := (if k = 0 then nI 8 else nI 0)) (if_pos h26).symm ?_
      refine zm_st K (((8) * (d)) + (k)) dX3_begins_35 (k := 10) (by decide) hR hS rfl (show ((8) * (d)) + (k) < 96 by omega) (fun M hR hS => ?_)
      refine zq_aload_n K dX3_begins_36 rfl rfl ?_
      refine zm_ar K dX3_begins_37 zf_X3_33 (k := 11) (by decide) hR ?_
      refine zq_bipush K dX3_begins_40 (v := nI 8) (by decide) ?_
      refine zq_iload_n K dX3_begins_42 rfl rfl ?_
      refine zq_imulN K (x := 8) (y := d) dX3_begins_43 ?_
      refine zq_iload_n K dX3_begins_44 rfl rfl ?_
      refine zq_iaddN K (x := (8) * (d)) (y := k) dX3_begins_45 ?_
      refine zq_iload_n K dX3_begins_46 rfl rfl ?_
      refine zq_if_neN K (x := k) 54 dX3_begins_47 (by decide) (by omega) (fun h47 => ?_) (fun h47 => ?_)
      · refine zq_iconst K dX3_begins_54 (v := -1) (by decide) ?_
        refine zq_top (v := (if k = 0 then o else -1)) (if_neg h47).symm ?_
        refine zm_st K (((8) * (d)) + (k)) dX3_begins_55 (k := 11) (by decide) hR hS rfl (show ((8) * (d)) + (k) < 96 by omega) (fun M hR hS => ?_)
        refine zq_aload_n K dX3_begins_56 rfl rfl ?_
        refine zm_ar K dX3_begins_57 zf_X3_36 (k := 12) (by decide) hR ?_
        refine zq_bipush K dX3_begins_60 (v := nI 8) (by decide) ?_
        refine zq_iload_n K dX3_begins_62 rfl rfl ?_
        refine zq_imulN K (x := 8) (y := d) dX3_begins_63 ?_
        refine zq_iload_n K dX3_begins_64 rfl rfl ?_
        refine zq_iaddN K (x := (8) * (d)) (y := k) dX3_begins_65 ?_
        refine zq_iconst K dX3_begins_66 (v := nI 0) (by decide) ?_
        refine zm_st K (((8) * (d)) + (k)) dX3_begins_67 (k := 12) (by decide) hR hS rfl (show ((8) * (d)) + (k) < 96 by omega) (fun M hR hS => ?_)
        refine zq_iincN K dX3_begins_68 rfl (by decide) ?_
        refine zq_goto K 9 dX3_begins_71 (by decide) ?_
        exact ih (k + 1) (by omega) M hR hS
      · refine zq_iload_n K dX3_begins_50 rfl rfl ?_
        refine zq_goto K 55 dX3_begins_51 (by decide) ?_
        refine zq_top (v := (if k = 0 then o else -1)) (if_pos h47).symm ?_
        refine zm_st K (((8) * (d)) + (k)) dX3_begins_55 (k := 11) (by decide) hR hS rfl (show ((8) * (d)) + (k) < 96 by omega) (fun M hR hS => ?_)
        refine zq_aload_n K dX3_begins_56 rfl rfl ?_
        refine zm_ar K dX3_begins_57 zf_X3_36 (k := 12) (by decide) hR ?_
        refine zq_bipush K dX3_begins_60 (v := nI 8) (by decide) ?_
        refine zq_iload_n K dX3_begins_62 rfl rfl ?_
        refine zq_imulN K (x := 8) (y := d) dX3_begins_63 ?_
        refine zq_iload_n K dX3_begins_64 rfl rfl ?_
        refine zq_iaddN K (x := (8) * (d)) (y := k) dX3_begins_65 ?_
        refine zq_iconst K dX3_begins_66 (v := nI 0) (by decide) ?_
        refine zm_st K (((8) * (d)) + (k)) dX3_begins_67 (k := 12) (by decide) hR hS rfl (show ((8) * (d)) + (k) < 96 by omega) (fun M hR hS => ?_)
        refine zq_iincN K dX3_begins_68 rfl (by decide) ?_
        refine zq_goto K 9 dX3_begins_71 (by decide) ?_
        exact ih (k + 1) (by omega) M hR hS
theorem ct_X3_begins {G : ZG} {M : ZM} {x : Nat} {q : Nat → Nat} {w : Int32} {A : ZA} (hR : zR M x q w A) {d : Nat} (hd : d < 12) (o : Int32) : zMet G mX3_begins [.ref (x), .int (nI (d)), .int (o)] M (zRP x q M none w (zBg A d o 8)) := by
  refine zbody zyX3_begins [some (.ref (x)), some (.int (nI (d))), some (.int (o)), none] rfl (Nat.le_of_ble_eq_true rfl) (by intro v hv; simp only [List.mem_cons, List.not_mem_nil, or_false] at hv; rcases hv with rfl | rfl | rfl <;> rfl) (fun E K => ?_)
  have hS : zSm x q M M := zSm.rf
  refine zq_aload_n K dX3_begins_0 rfl rfl ?_
  refine zm_ar K dX3_begins_1 zf_X3_13 (k := 3) (by decide) hR ?_
  refine zq_iload_n K dX3_begins_4 rfl rfl ?_
  refine zq_iconst K dX3_begins_5 (v := nI 1) (by decide) ?_
  refine zm_sz K (d) dX3_begins_6 hR hS rfl (show d < 12 by omega) (by decide) (fun M hR hS => ?_)
  refine zq_iconst K dX3_begins_7 (v := nI 0) (by decide) ?_
  refine zq_istore_n K dX3_begins_8 rfl (by decide) ?_
  exact lp_X3_begins K hd o (fun M hR hS => ⟨rfl, hR, hS⟩) 8 0 rfl M hR hS
/-- a directory D is made -/
def zMk (A : ZA) (c d n D : Nat) : ZA := zBg (zsa (zsa (zsa (zCh (zsc A 2 (nI (D + 1))) (nI c) d n) 6 (50 * d + n) (-2 - nI D)) 4 D (nI d)) 5 D (nI n)) D (-1) 8
theorem zFr_sc {A : ZA} {k : Nat} {v : Int32} (h : zFr A) : zFr (zsc A k v) := h
theorem ct_X3_makeDirectory_bad {G : ZG} {M : ZM} {x : Nat} {q : Nat → Nat} {w : Int32} {A : ZA} (hR : zR M x q w A) (hW : zWf A) {c d n : Int32} {k : Nat} (h : zBad A c d n k) : zMet G mX3_makeDirectory [.ref (x), .int (c), .int (d), .int (n)] M (zRP x q M (some (.int (nI 0))) (nI k) A) := by
  refine zbody zyX3_makeDirectory [some (.ref (x)), some (.int (c)), some (.int (d)), some (.int (n)), none] rfl (Nat.le_of_ble_eq_true rfl) (by intro v hv; simp only [List.mem_cons, List.not_mem_nil, or_false] at hv; rcases hv with rfl | rfl | rfl | rfl <;> rfl) (fun E K => ?_)
  have hk := zBad_k h
  have hS : zSm x q M M := zSm.rf
  refine zq_aload_n K dX3_makeDirectory_0 rfl rfl ?_
  refine zq_aload_n K dX3_makeDirectory_1 rfl rfl ?_
  refine zq_iload_n K dX3_makeDirectory_2 rfl rfl ?_
  refine zq_iload_n K dX3_makeDirectory_3 rfl rfl ?_
  refine zq_iload_n K dX3_makeDirectory_4 rfl rfl ?_
  refine zq_callV (As := [.int (c), .int (d), .int (n)]) K dX3_makeDirectory_5 zyX3_barsNew zm_X3_109 ziX3_barsNew zvX3_barsNew zclX3 rfl (by decide) rfl rfl (Nat.le_of_ble_eq_true rfl) (Nat.le_of_ble_eq_true rfl) hR.1 (ct_X3_barsNew_bad hR hW h) (zone_r ?_) zone_x (Nat.le_refl _)
  refine zm_pth K dX3_makeDirectory_8 zf_X3_55 hR hS (fun M hR hS => ?_)
  refine zq_aload_n K dX3_makeDirectory_11 rfl rfl ?_
  refine zq_aload_n K dX3_makeDirectory_12 rfl rfl ?_
  refine zm_th K dX3_makeDirectory_13 zf_X3_55 hR ?_
  refine zq_if_neN K (x := k) 32 dX3_makeDirectory_16 (by decide) (by omega) (fun h16 => ?_) (fun h16 => by omega)
  refine zq_aload_n K dX3_makeDirectory_32 rfl rfl ?_
  refine zm_th K dX3_makeDirectory_33 zf_X3_55 hR ?_
  refine zm_pth K dX3_makeDirectory_36 zf_X3_55 hR hS (fun M hR hS => ?_)
  refine zq_aload_n K dX3_makeDirectory_39 rfl rfl ?_
  refine zm_th K dX3_makeDirectory_40 zf_X3_55 hR ?_
  refine zq_if_leN K (x := k) 48 dX3_makeDirectory_43 (by decide) (by omega) (fun h43 => by omega) (fun h43 => ?_)
  refine zq_iconst K dX3_makeDirectory_46 (v := nI 0) (by decide) ?_
  exact zq_iret K dX3_makeDirectory_47 rfl ⟨rfl, hR, hS⟩
theorem ct_X3_makeDirectory_no {G : ZG} {M : ZM} {x : Nat} {q : Nat → Nat} {w : Int32} {A : ZA} (hR : zR M x q w A) (hW : zWf A) {c' d' n' : Nat} (hc : c' < 4) (hd : d' < 12) (hl : A.2 3 d' = 1) (hn : n' < 50) (h : zBz A d' n') : zMet G mX3_makeDirectory [.ref (x), .int (nI (c')), .int (nI (d')), .int (nI (n'))] M (zRP x q M (some (.int (nI 0))) (nI 3) A) := by
  refine zbody zyX3_makeDirectory [some (.ref (x)), some (.int (nI (c'))), some (.int (nI (d'))), some (.int (nI (n'))), none] rfl (Nat.le_of_ble_eq_true rfl) (by intro v hv; simp only [List.mem_cons, List.not_mem_nil, or_false] at hv; rcases hv with rfl | rfl | rfl | rfl <;> rfl) (fun E K => ?_)
  obtain ⟨⟨D, hB⟩, hF, hU⟩ := id hW
  have hg : zGd A (nI c') (nI d') (nI n') c' d' n' := ⟨rfl, hc, rfl, hd, hl, rfl, hn⟩
  have hS : zSm x q M M := zSm.rf
  refine zq_aload_n K dX3_makeDirectory_0 rfl rfl ?_
  refine zq_aload_n K dX3_makeDirectory_1 rfl rfl ?_
  refine zq_iload_n K dX3_makeDirectory_2 rfl rfl ?_
  refine zq_iload_n K dX3_makeDirectory_3 rfl rfl ?_
  refine zq_iload_n K dX3_makeDirectory_4 rfl rfl ?_
  refine zq_callV (As := [.int (nI (c')), .int (nI (d')), .int (nI (n'))]) K dX3_makeDirectory_5 zyX3_barsNew zm_X3_109 ziX3_barsNew zvX3_barsNew zclX3 rfl (by decide) rfl rfl (Nat.le_of_ble_eq_true rfl) (Nat.le_of_ble_eq_true rfl) hR.1 (ct_X3_barsNew_no hR hW hc hd hl hn h) (zone_r ?_) zone_x (Nat.le_refl _)
  refine zm_pth K dX3_makeDirectory_8 zf_X3_55 hR hS (fun M hR hS => ?_)
  refine zq_aload_n K dX3_makeDirectory_11 rfl rfl ?_
  refine zq_aload_n K dX3_makeDirectory_12 rfl rfl ?_
  refine zm_th K dX3_makeDirectory_13 zf_X3_55 hR ?_
  refine zq_if_neN K (x := 3) 32 dX3_makeDirectory_16 (by decide) (by omega) (fun h16 => ?_) (fun h16 => by omega)
  refine zq_aload_n K dX3_makeDirectory_32 rfl rfl ?_
  refine zm_th K dX3_makeDirectory_33 zf_X3_55 hR ?_
  refine zm_pth K dX3_makeDirectory_36 zf_X3_55 hR hS (fun M hR hS => ?_)
  refine zq_aload_n K dX3_makeDirectory_39 rfl rfl ?_
  refine zm_th K dX3_makeDirectory_40 zf_X3_55 hR ?_
  refine zq_if_leN K (x := 3) 48 dX3_makeDirectory_43 (by decide) (by omega) (fun h43 => by omega) (fun h43 => ?_)
  refine zq_iconst K dX3_makeDirectory_46 (v := nI 0) (by decide) ?_
  exact zq_iret K dX3_makeDirectory_47 rfl ⟨rfl, hR, hS⟩
theorem ct_X3_makeDirectory_full {G : ZG} {M : ZM} {x : Nat} {q : Nat → Nat} {w : Int32} {A : ZA} (hR : zR M x q w A) (hW : zWf A) {c' d' n' : Nat} (hc : c' < 4) (hd : d' < 12) (hl : A.2 3 d' = 1) (hn : n' < 50) (h : ¬ zBz A d' n') (h12 : A.1 2 = nI 12) : zMet G mX3_makeDirectory [.ref (x), .int (nI (c')), .int (nI (d')), .int (nI (n'))] M (zRP x q M (some (.int (nI 0))) (nI 3) A) := by
  refine zbody zyX3_makeDirectory [some (.ref (x)), some (.int (nI (c'))), some (.int (nI (d'))), some (.int (nI (n'))), none] rfl (Nat.le_of_ble_eq_true rfl) (by intro v hv; simp only [List.mem_cons, List.not_mem_nil, or_false] at hv; rcases hv with rfl | rfl | rfl | rfl <;> rfl) (fun E K => ?_)
  obtain ⟨⟨D, hB⟩, hF, hU⟩ := id hW
  have hg : zGd A (nI c') (nI d') (nI n') c' d' n' := ⟨rfl, hc, rfl, hd, hl, rfl, hn⟩
  have hS : zSm x q M M := zSm.rf
  refine zq_aload_n K dX3_makeDirectory_0 rfl rfl ?_
  refine zq_aload_n K dX3_makeDirectory_1 rfl rfl ?_
  refine zq_iload_n K dX3_makeDirectory_2 rfl rfl ?_
  refine zq_iload_n K dX3_makeDirectory_3 rfl rfl ?_
  refine zq_iload_n K dX3_makeDirectory_4 rfl rfl ?_
  refine zq_callV (As := [.int (nI (c')), .int (nI (d')), .int (nI (n'))]) K dX3_makeDirectory_5 zyX3_barsNew zm_X3_109 ziX3_barsNew zvX3_barsNew zclX3 rfl (by decide) rfl rfl (Nat.le_of_ble_eq_true rfl) (Nat.le_of_ble_eq_true rfl) hR.1 (ct_X3_barsNew_ok hR hW hc hd hl hn h) (zone_r ?_) zone_x (Nat.le_refl _)
  refine zm_pth K dX3_makeDirectory_8 zf_X3_55 hR hS (fun M hR hS => ?_)
  refine zq_aload_n K dX3_makeDirectory_11 rfl rfl ?_
  refine zq_aload_n K dX3_makeDirectory_12 rfl rfl ?_
  refine zm_th K dX3_makeDirectory_13 zf_X3_55 hR ?_
  refine zq_if_neN K (x := 0) 32 dX3_makeDirectory_16 (by decide) (by omega) (fun h16 => by omega) (fun h16 => ?_)
  refine zq_aload_n K dX3_makeDirectory_19 rfl rfl ?_
  refine zm_sc K dX3_makeDirectory_20 zf_X3_7 (k := 2) (by decide) hR ?_
  refine zq_top (v := nI (12)) h12 ?_
  refine zq_bipush K dX3_makeDirectory_23 (v := nI 12) (by decide) ?_
  refine zq_icmp_neN K (x := 12) (y := 12) 32 dX3_makeDirectory_25 (by decide) ⟨by omega, by omega⟩ (fun h25 => by omega) (fun h25 => ?_)
  refine zq_iconst K dX3_makeDirectory_28 (v := nI 3) (by decide) ?_
  refine zq_goto K 36 dX3_makeDirectory_29 (by decide) ?_
  refine zm_pth K dX3_makeDirectory_36 zf_X3_55 hR hS (fun M hR hS => ?_)
  refine zq_aload_n K dX3_makeDirectory_39 rfl rfl ?_
  refine zm_th K dX3_makeDirectory_40 zf_X3_55 hR ?_
  refine zq_if_leN K (x := 3) 48 dX3_makeDirectory_43 (by decide) (by omega) (fun h43 => by omega) (fun h43 => ?_)
  refine zq_iconst K dX3_makeDirectory_46 (v := nI 0) (by decide) ?_
  exact zq_iret K dX3_makeDirectory_47 rfl ⟨rfl, hR, hS⟩
theorem ct_X3_makeDirectory_ok {G : ZG} {M : ZM} {x : Nat} {q : Nat → Nat} {w : Int32} {A : ZA} (hR : zR M x q w A) (hW : zWf A) {c' d' n' D : Nat} (hc : c' < 4) (hd : d' < 12) (hl : A.2 3 d' = 1) (hn : n' < 50) (h : ¬ zBz A d' n') (hD : A.1 2 = nI D) (hD12 : D < 12) : zMet G mX3_makeDirectory [.ref (x), .int (nI (c')), .int (nI (d')), .int (nI (n'))] M (zRP x q M (some (.int (nI D))) (nI 0) (zMk A c' d' n' D)) := by
  refine zbody zyX3_makeDirectory [some (.ref (x)), some (.int (nI (c'))), some (.int (nI (d'))), some (.int (nI (n'))), none] rfl (Nat.le_of_ble_eq_true rfl) (by intro v hv; simp only [List.mem_cons, List.not_mem_nil, or_false] at hv; rcases hv with rfl | rfl | rfl | rfl <;> rfl) (fun E K => ?_)
  obtain ⟨hB, hF, hU⟩ := id hW
  have hS : zSm x q M M := zSm.rf
  refine zq_aload_n K dX3_makeDirectory_0 rfl rfl ?_
  refine zq_aload_n K dX3_makeDirectory_1 rfl rfl ?_
  refine zq_iload_n K dX3_makeDirectory_2 rfl rfl ?_
  refine zq_iload_n K dX3_makeDirectory_3 rfl rfl ?_
  refine zq_iload_n K dX3_makeDirectory_4 rfl rfl ?_
  refine zq_callV (As := [.int (nI (c')), .int (nI (d')), .int (nI (n'))]) K dX3_makeDirectory_5 zyX3_barsNew zm_X3_109 ziX3_barsNew zvX3_barsNew zclX3 rfl (by decide) rfl rfl (Nat.le_of_ble_eq_true rfl) (Nat.le_of_ble_eq_true rfl) hR.1 (ct_X3_barsNew_ok hR hW hc hd hl hn h) (zone_r ?_) zone_x (Nat.le_refl _)
  refine zm_pth K dX3_makeDirectory_8 zf_X3_55 hR hS (fun M hR hS => ?_)
  refine zq_aload_n K dX3_makeDirectory_11 rfl rfl ?_
  refine zq_aload_n K dX3_makeDirectory_12 rfl rfl ?_
  refine zm_th K dX3_makeDirectory_13 zf_X3_55 hR ?_
  refine zq_if_neN K (x := 0) 32 dX3_makeDirectory_16 (by decide) (by omega) (fun h16 => by omega) (fun h16 => ?_)
  refine zq_aload_n K dX3_makeDirectory_19 rfl rfl ?_
  refine zm_sc K dX3_makeDirectory_20 zf_X3_7 (k := 2) (by decide) hR ?_
  refine zq_top (v := nI (D)) hD ?_
  refine zq_bipush K dX3_makeDirectory_23 (v := nI 12) (by decide) ?_
  refine zq_icmp_neN K (x := D) (y := 12) 32 dX3_makeDirectory_25 (by decide) ⟨by omega, by omega⟩ (fun h25 => ?_) (fun h25 => by omega)
  refine zq_aload_n K dX3_makeDirectory_32 rfl rfl ?_
  refine zm_th K dX3_makeDirectory_33 zf_X3_55 hR ?_
  refine zm_pth K dX3_makeDirectory_36 zf_X3_55 hR hS (fun M hR hS => ?_)
  refine zq_aload_n K dX3_makeDirectory_39 rfl rfl ?_
  refine zm_th K dX3_makeDirectory_40 zf_X3_55 hR ?_
  refine zq_if_leN K (x := 0) 48 dX3_makeDirectory_43 (by decide) (by omega) (fun h43 => ?_) (fun h43 => by omega)
  refine zq_aload_n K dX3_makeDirectory_48 rfl rfl ?_
  refine zm_sc K dX3_makeDirectory_49 zf_X3_7 (k := 2) (by decide) hR ?_
  refine zq_top (v := nI (D)) hD ?_
  refine zq_istore K dX3_makeDirectory_52 (by decide) ?_
  refine zq_aload_n K dX3_makeDirectory_54 rfl rfl ?_
  refine zq_dup K dX3_makeDirectory_55 rfl ?_
  refine zm_sc K dX3_makeDirectory_56 zf_X3_7 (k := 2) (by decide) hR ?_
  refine zq_top (v := nI (D)) hD ?_
  refine zq_iconst K dX3_makeDirectory_59 (v := nI 1) (by decide) ?_
  refine zq_iaddN K (x := D) (y := 1) dX3_makeDirectory_60 ?_
  refine zm_psc K dX3_makeDirectory_61 zf_X3_7 (k := 2) (by decide) hR hS (fun M hR hS => ?_)
  refine zq_aload_n K dX3_makeDirectory_64 rfl rfl ?_
  refine zq_iload_n K dX3_makeDirectory_65 rfl rfl ?_
  refine zq_iload_n K dX3_makeDirectory_66 rfl rfl ?_
  refine zq_iload_n K dX3_makeDirectory_67 rfl rfl ?_
  refine zq_callV (As := [.int (nI (c')), .int (nI (d')), .int (nI (n'))]) K dX3_makeDirectory_68 zyX3_changes zm_X3_112 ziX3_changes zvX3_changes zclX3 rfl (by decide) rfl rfl (Nat.le_of_ble_eq_true rfl) (Nat.le_of_ble_eq_true rfl) hR.1 (ct_X3_changes hR (nI c') hd hn (hF.1 d' hd hl)) (zRP_r hS (fun M hR hS => ?_)) zRP_x (Nat.le_refl _)
  refine zq_aload_n K dX3_makeDirectory_71 rfl rfl ?_
  refine zm_ar K dX3_makeDirectory_72 zf_X3_24 (k := 6) (by decide) hR ?_
  refine zq_iload_n K dX3_makeDirectory_75 rfl rfl ?_
  refine zq_iload_n K dX3_makeDirectory_76 rfl rfl ?_
  refine zq_callS (As := [.int (nI (d')), .int (nI (n'))]) K dX3_makeDirectory_77 zyX3_at zm_X3_87 zsX3_at rfl (by decide) rfl rfl (Nat.le_of_ble_eq_true rfl) (Nat.le_of_ble_eq_true rfl) (ct_X3_at d' n' _) (zone_r ?_) zone_x (Nat.le_refl _)
  refine zq_bipush K dX3_makeDirectory_80 (v := -2) (by decide) ?_
  refine zq_iload K dX3_makeDirectory_82 rfl ?_
  refine zq_isub K dX3_makeDirectory_84 ?_
  refine zm_st K (50 * d' + n') dX3_makeDirectory_85 (k := 6) (by decide) hR hS rfl (show 50 * d' + n' < 600 by omega) (fun M hR hS => ?_)
  refine zq_aload_n K dX3_makeDirectory_86 rfl rfl ?_
  refine zm_ar K dX3_makeDirectory_87 zf_X3_17 (k := 4) (by decide) hR ?_
  refine zq_iload K dX3_makeDirectory_90 rfl ?_
  refine zq_iload_n K dX3_makeDirectory_92 rfl rfl ?_
  refine zm_st K (D) dX3_makeDirectory_93 (k := 4) (by decide) hR hS rfl (show D < 12 by omega) (fun M hR hS => ?_)
  refine zq_aload_n K dX3_makeDirectory_94 rfl rfl ?_
  refine zm_ar K dX3_makeDirectory_95 zf_X3_21 (k := 5) (by decide) hR ?_
  refine zq_iload K dX3_makeDirectory_98 rfl ?_
  refine zq_iload_n K dX3_makeDirectory_100 rfl rfl ?_
  refine zm_st K (D) dX3_makeDirectory_101 (k := 5) (by decide) hR hS rfl (show D < 12 by omega) (fun M hR hS => ?_)
  refine zq_aload_n K dX3_makeDirectory_102 rfl rfl ?_
  refine zq_iload K dX3_makeDirectory_103 rfl ?_
  refine zq_iconst K dX3_makeDirectory_105 (v := -1) (by decide) ?_
  refine zq_callV (As := [.int (nI (D)), .int (-1)]) K dX3_makeDirectory_106 zyX3_begins zm_X3_51 ziX3_begins zvX3_begins zclX3 rfl (by decide) rfl rfl (Nat.le_of_ble_eq_true rfl) (Nat.le_of_ble_eq_true rfl) hR.1 (ct_X3_begins hR hD12 (-1)) (zRP_r hS (fun M hR hS => ?_)) zRP_x (Nat.le_refl _)
  refine zq_iload K dX3_makeDirectory_109 rfl ?_
  exact zq_iret K dX3_makeDirectory_111 rfl ⟨rfl, hR, hS⟩
def zLn (A : ZA) (a : Nat) (f : Int32) : ZA := zsc (zsa (zsa A 6 a f) 7 a (A.1 8)) 8 (A.1 8 + nI 1)
theorem ct_X3_links {G : ZG} {M : ZM} {x : Nat} {q : Nat → Nat} {w : Int32} {A : ZA} (hR : zR M x q w A) {a : Nat} (ha : a < 600) (f : Int32) : zMet G mX3_links [.ref (x), .int (nI (a)), .int (f)] M (zRP x q M none w (zLn A a f)) := by
  refine zbody zyX3_links [some (.ref (x)), some (.int (nI (a))), some (.int (f))] rfl (Nat.le_of_ble_eq_true rfl) (by intro v hv; simp only [List.mem_cons, List.not_mem_nil, or_false] at hv; rcases hv with rfl | rfl | rfl <;> rfl) (fun E K => ?_)
  have hS : zSm x q M M := zSm.rf
  refine zq_aload_n K dX3_links_0 rfl rfl ?_
  refine zm_ar K dX3_links_1 zf_X3_24 (k := 6) (by decide) hR ?_
  refine zq_iload_n K dX3_links_4 rfl rfl ?_
  refine zq_iload_n K dX3_links_5 rfl rfl ?_
  refine zm_st K (a) dX3_links_6 (k := 6) (by decide) hR hS rfl (show a < 600 by omega) (fun M hR hS => ?_)
  refine zq_aload_n K dX3_links_7 rfl rfl ?_
  refine zm_ar K dX3_links_8 zf_X3_27 (k := 7) (by decide) hR ?_
  refine zq_iload_n K dX3_links_11 rfl rfl ?_
  refine zq_aload_n K dX3_links_12 rfl rfl ?_
  refine zm_sc K dX3_links_13 zf_X3_116 (k := 8) (by decide) hR ?_
  refine zq_top (v := A.1 8) rfl ?_
  refine zm_st K (a) dX3_links_16 (k := 7) (by decide) hR hS rfl (show a < 600 by omega) (fun M hR hS => ?_)
  refine zq_aload_n K dX3_links_17 rfl rfl ?_
  refine zq_dup K dX3_links_18 rfl ?_
  refine zm_sc K dX3_links_19 zf_X3_116 (k := 8) (by decide) hR ?_
  refine zq_top (v := A.1 8) rfl ?_
  refine zq_iconst K dX3_links_22 (v := nI 1) (by decide) ?_
  refine zq_iadd K dX3_links_23 ?_
  refine zm_psc K dX3_links_24 zf_X3_116 (k := 8) (by decide) hR hS (fun M hR hS => ?_)
  exact zq_ret K dX3_links_27 rfl ⟨rfl, hR, hS⟩
def zMf (A : ZA) (c d n F : Nat) : ZA := zsc (zLn (zCh A (nI c) d n) (50 * d + n) (nI F)) 9 (nI (F + 1))
theorem ct_X3_makeFile_bad {G : ZG} {M : ZM} {x : Nat} {q : Nat → Nat} {w : Int32} {A : ZA} (hR : zR M x q w A) (hW : zWf A) {c d n : Int32} {k : Nat} (h : zBad A c d n k) : zMet G mX3_makeFile [.ref (x), .int (c), .int (d), .int (n)] M (zRP x q M (some (.int (nI 0))) (nI k) A) := by
  refine zbody zyX3_makeFile [some (.ref (x)), some (.int (c)), some (.int (d)), some (.int (n))] rfl (Nat.le_of_ble_eq_true rfl) (by intro v hv; simp only [List.mem_cons, List.not_mem_nil, or_false] at hv; rcases hv with rfl | rfl | rfl | rfl <;> rfl) (fun E K => ?_)
  have hk := zBad_k h
  have hS : zSm x q M M := zSm.rf
  refine zq_aload_n K dX3_makeFile_0 rfl rfl ?_
  refine zq_aload_n K dX3_makeFile_1 rfl rfl ?_
  refine zq_iload_n K dX3_makeFile_2 rfl rfl ?_
  refine zq_iload_n K dX3_makeFile_3 rfl rfl ?_
  refine zq_iload_n K dX3_makeFile_4 rfl rfl ?_
  refine zq_callV (As := [.int (c), .int (d), .int (n)]) K dX3_makeFile_5 zyX3_barsNew zm_X3_109 ziX3_barsNew zvX3_barsNew zclX3 rfl (by decide) rfl rfl (Nat.le_of_ble_eq_true rfl) (Nat.le_of_ble_eq_true rfl) hR.1 (ct_X3_barsNew_bad hR hW h) (zone_r ?_) zone_x (Nat.le_refl _)
  refine zm_pth K dX3_makeFile_8 zf_X3_55 hR hS (fun M hR hS => ?_)
  refine zq_aload_n K dX3_makeFile_11 rfl rfl ?_
  refine zq_aload_n K dX3_makeFile_12 rfl rfl ?_
  refine zm_th K dX3_makeFile_13 zf_X3_55 hR ?_
  refine zq_if_neN K (x := k) 32 dX3_makeFile_16 (by decide) (by omega) (fun h16 => ?_) (fun h16 => by omega)
  refine zq_aload_n K dX3_makeFile_32 rfl rfl ?_
  refine zm_th K dX3_makeFile_33 zf_X3_55 hR ?_
  refine zm_pth K dX3_makeFile_36 zf_X3_55 hR hS (fun M hR hS => ?_)
  refine zq_aload_n K dX3_makeFile_39 rfl rfl ?_
  refine zm_th K dX3_makeFile_40 zf_X3_55 hR ?_
  refine zq_if_leN K (x := k) 48 dX3_makeFile_43 (by decide) (by omega) (fun h43 => by omega) (fun h43 => ?_)
  refine zq_iconst K dX3_makeFile_46 (v := nI 0) (by decide) ?_
  exact zq_iret K dX3_makeFile_47 rfl ⟨rfl, hR, hS⟩
theorem ct_X3_makeFile_no {G : ZG} {M : ZM} {x : Nat} {q : Nat → Nat} {w : Int32} {A : ZA} (hR : zR M x q w A) (hW : zWf A) {c' d' n' : Nat} (hc : c' < 4) (hd : d' < 12) (hl : A.2 3 d' = 1) (hn : n' < 50) (h : zBz A d' n') : zMet G mX3_makeFile [.ref (x), .int (nI (c')), .int (nI (d')), .int (nI (n'))] M (zRP x q M (some (.int (nI 0))) (nI 3) A) := by
  refine zbody zyX3_makeFile [some (.ref (x)), some (.int (nI (c'))), some (.int (nI (d'))), some (.int (nI (n')))] rfl (Nat.le_of_ble_eq_true rfl) (by intro v hv; simp only [List.mem_cons, List.not_mem_nil, or_false] at hv; rcases hv with rfl | rfl | rfl | rfl <;> rfl) (fun E K => ?_)
  obtain ⟨⟨D, hB⟩, hF, hU⟩ := id hW
  have hg : zGd A (nI c') (nI d') (nI n') c' d' n' := ⟨rfl, hc, rfl, hd, hl, rfl, hn⟩
  have hS : zSm x q M M := zSm.rf
  refine zq_aload_n K dX3_makeFile_0 rfl rfl ?_
  refine zq_aload_n K dX3_makeFile_1 rfl rfl ?_
  refine zq_iload_n K dX3_makeFile_2 rfl rfl ?_
  refine zq_iload_n K dX3_makeFile_3 rfl rfl ?_
  refine zq_iload_n K dX3_makeFile_4 rfl rfl ?_
  refine zq_callV (As := [.int (nI (c')), .int (nI (d')), .int (nI (n'))]) K dX3_makeFile_5 zyX3_barsNew zm_X3_109 ziX3_barsNew zvX3_barsNew zclX3 rfl (by decide) rfl rfl (Nat.le_of_ble_eq_true rfl) (Nat.le_of_ble_eq_true rfl) hR.1 (ct_X3_barsNew_no hR hW hc hd hl hn h) (zone_r ?_) zone_x (Nat.le_refl _)
  refine zm_pth K dX3_makeFile_8 zf_X3_55 hR hS (fun M hR hS => ?_)
  refine zq_aload_n K dX3_makeFile_11 rfl rfl ?_
  refine zq_aload_n K dX3_makeFile_12 rfl rfl ?_
  refine zm_th K dX3_makeFile_13 zf_X3_55 hR ?_
  refine zq_if_neN K (x := 3) 32 dX3_makeFile_16 (by decide) (by omega) (fun h16 => ?_) (fun h16 => by omega)
  refine zq_aload_n K dX3_makeFile_32 rfl rfl ?_
  refine zm_th K dX3_makeFile_33 zf_X3_55 hR ?_
  refine zm_pth K dX3_makeFile_36 zf_X3_55 hR hS (fun M hR hS => ?_)
  refine zq_aload_n K dX3_makeFile_39 rfl rfl ?_
  refine zm_th K dX3_makeFile_40 zf_X3_55 hR ?_
  refine zq_if_leN K (x := 3) 48 dX3_makeFile_43 (by decide) (by omega) (fun h43 => by omega) (fun h43 => ?_)
  refine zq_iconst K dX3_makeFile_46 (v := nI 0) (by decide) ?_
  exact zq_iret K dX3_makeFile_47 rfl ⟨rfl, hR, hS⟩
theorem ct_X3_makeFile_full {G : ZG} {M : ZM} {x : Nat} {q : Nat → Nat} {w : Int32} {A : ZA} (hR : zR M x q w A) (hW : zWf A) {c' d' n' : Nat} (hc : c' < 4) (hd : d' < 12) (hl : A.2 3 d' = 1) (hn : n' < 50) (h : ¬ zBz A d' n') (h30 : A.1 9 = nI 30) : zMet G mX3_makeFile [.ref (x), .int (nI (c')), .int (nI (d')), .int (nI (n'))] M (zRP x q M (some (.int (nI 0))) (nI 3) A) := by
  refine zbody zyX3_makeFile [some (.ref (x)), some (.int (nI (c'))), some (.int (nI (d'))), some (.int (nI (n')))] rfl (Nat.le_of_ble_eq_true rfl) (by intro v hv; simp only [List.mem_cons, List.not_mem_nil, or_false] at hv; rcases hv with rfl | rfl | rfl | rfl <;> rfl) (fun E K => ?_)
  obtain ⟨⟨D, hB⟩, hF, hU⟩ := id hW
  have hg : zGd A (nI c') (nI d') (nI n') c' d' n' := ⟨rfl, hc, rfl, hd, hl, rfl, hn⟩
  have hS : zSm x q M M := zSm.rf
  refine zq_aload_n K dX3_makeFile_0 rfl rfl ?_
  refine zq_aload_n K dX3_makeFile_1 rfl rfl ?_
  refine zq_iload_n K dX3_makeFile_2 rfl rfl ?_
  refine zq_iload_n K dX3_makeFile_3 rfl rfl ?_
  refine zq_iload_n K dX3_makeFile_4 rfl rfl ?_
  refine zq_callV (As := [.int (nI (c')), .int (nI (d')), .int (nI (n'))]) K dX3_makeFile_5 zyX3_barsNew zm_X3_109 ziX3_barsNew zvX3_barsNew zclX3 rfl (by decide) rfl rfl (Nat.le_of_ble_eq_true rfl) (Nat.le_of_ble_eq_true rfl) hR.1 (ct_X3_barsNew_ok hR hW hc hd hl hn h) (zone_r ?_) zone_x (Nat.le_refl _)
  refine zm_pth K dX3_makeFile_8 zf_X3_55 hR hS (fun M hR hS => ?_)
  refine zq_aload_n K dX3_makeFile_11 rfl rfl ?_
  refine zq_aload_n K dX3_makeFile_12 rfl rfl ?_
  refine zm_th K dX3_makeFile_13 zf_X3_55 hR ?_
  refine zq_if_neN K (x := 0) 32 dX3_makeFile_16 (by decide) (by omega) (fun h16 => by omega) (fun h16 => ?_)
  refine zq_aload_n K dX3_makeFile_19 rfl rfl ?_
  refine zm_sc K dX3_makeFile_20 zf_X3_119 (k := 9) (by decide) hR ?_
  refine zq_top (v := nI (30)) h30 ?_
  refine zq_bipush K dX3_makeFile_23 (v := nI 30) (by decide) ?_
  refine zq_icmp_neN K (x := 30) (y := 30) 32 dX3_makeFile_25 (by decide) ⟨by omega, by omega⟩ (fun h25 => by omega) (fun h25 => ?_)
  refine zq_iconst K dX3_makeFile_28 (v := nI 3) (by decide) ?_
  refine zq_goto K 36 dX3_makeFile_29 (by decide) ?_
  refine zm_pth K dX3_makeFile_36 zf_X3_55 hR hS (fun M hR hS => ?_)
  refine zq_aload_n K dX3_makeFile_39 rfl rfl ?_
  refine zm_th K dX3_makeFile_40 zf_X3_55 hR ?_
  refine zq_if_leN K (x := 3) 48 dX3_makeFile_43 (by decide) (by omega) (fun h43 => by omega) (fun h43 => ?_)
  refine zq_iconst K dX3_makeFile_46 (v := nI 0) (by decide) ?_
  exact zq_iret K dX3_makeFile_47 rfl ⟨rfl, hR, hS⟩
theorem zEn_1 (A : ZA) (a : Nat) (ex : Int32) : ∀ k, (zEn A a ex k).1 = A.1
  | 0 => rfl
  | k + 1 => zEn_1 A a ex k
theorem zCh_1 (A : ZA) (c : Int32) (d n : Nat) : (zCh A c d n).1 = A.1 := zEn_1 _ _ _ _
theorem ct_X3_makeFile_ok {G : ZG} {M : ZM} {x : Nat} {q : Nat → Nat} {w : Int32} {A : ZA} (hR : zR M x q w A) (hW : zWf A) {c' d' n' : Nat} (hc : c' < 4) (hd : d' < 12) (hl : A.2 3 d' = 1) (hn : n' < 50) {F : Nat} (h : ¬ zBz A d' n') (hf : A.1 9 = nI F) (hF30 : F < 30) : zMet G mX3_makeFile [.ref (x), .int (nI (c')), .int (nI (d')), .int (nI (n'))] M (zRP x q M (some (.int (nI F))) (nI 0) (zMf A c' d' n' F)) := by
  refine zbody zyX3_makeFile [some (.ref (x)), some (.int (nI (c'))), some (.int (nI (d'))), some (.int (nI (n')))] rfl (Nat.le_of_ble_eq_true rfl) (by intro v hv; simp only [List.mem_cons, List.not_mem_nil, or_false] at hv; rcases hv with rfl | rfl | rfl | rfl <;> rfl) (fun E K => ?_)
  obtain ⟨⟨D, hB⟩, hF, hU⟩ := id hW
  have hg : zGd A (nI c') (nI d') (nI n') c' d' n' := ⟨rfl, hc, rfl, hd, hl, rfl, hn⟩
  have hS : zSm x q M M := zSm.rf
  refine zq_aload_n K dX3_makeFile_0 rfl rfl ?_
  refine zq_aload_n K dX3_makeFile_1 rfl rfl ?_
  refine zq_iload_n K dX3_makeFile_2 rfl rfl ?_
  refine zq_iload_n K dX3_makeFile_3 rfl rfl ?_
  refine zq_iload_n K dX3_makeFile_4 rfl rfl ?_
  refine zq_callV (As := [.int (nI (c')), .int (nI (d')), .int (nI (n'))]) K dX3_makeFile_5 zyX3_barsNew zm_X3_109 ziX3_barsNew zvX3_barsNew zclX3 rfl (by decide) rfl rfl (Nat.le_of_ble_eq_true rfl) (Nat.le_of_ble_eq_true rfl) hR.1 (ct_X3_barsNew_ok hR hW hc hd hl hn h) (zone_r ?_) zone_x (Nat.le_refl _)
  refine zm_pth K dX3_makeFile_8 zf_X3_55 hR hS (fun M hR hS => ?_)
  refine zq_aload_n K dX3_makeFile_11 rfl rfl ?_
  refine zq_aload_n K dX3_makeFile_12 rfl rfl ?_
  refine zm_th K dX3_makeFile_13 zf_X3_55 hR ?_
  refine zq_if_neN K (x := 0) 32 dX3_makeFile_16 (by decide) (by omega) (fun h16 => by omega) (fun h16 => ?_)
  refine zq_aload_n K dX3_makeFile_19 rfl rfl ?_
  refine zm_sc K dX3_makeFile_20 zf_X3_119 (k := 9) (by decide) hR ?_
  refine zq_top (v := nI (F)) hf ?_
  refine zq_bipush K dX3_makeFile_23 (v := nI 30) (by decide) ?_
  refine zq_icmp_neN K (x := F) (y := 30) 32 dX3_makeFile_25 (by decide) ⟨by omega, by omega⟩ (fun h25 => ?_) (fun h25 => by omega)
  refine zq_aload_n K dX3_makeFile_32 rfl rfl ?_
  refine zm_th K dX3_makeFile_33 zf_X3_55 hR ?_
  refine zm_pth K dX3_makeFile_36 zf_X3_55 hR hS (fun M hR hS => ?_)
  refine zq_aload_n K dX3_makeFile_39 rfl rfl ?_
  refine zm_th K dX3_makeFile_40 zf_X3_55 hR ?_
  refine zq_if_leN K (x := 0) 48 dX3_makeFile_43 (by decide) (by omega) (fun h43 => ?_) (fun h43 => by omega)
  refine zq_aload_n K dX3_makeFile_48 rfl rfl ?_
  refine zq_iload_n K dX3_makeFile_49 rfl rfl ?_
  refine zq_iload_n K dX3_makeFile_50 rfl rfl ?_
  refine zq_iload_n K dX3_makeFile_51 rfl rfl ?_
  refine zq_callV (As := [.int (nI (c')), .int (nI (d')), .int (nI (n'))]) K dX3_makeFile_52 zyX3_changes zm_X3_112 ziX3_changes zvX3_changes zclX3 rfl (by decide) rfl rfl (Nat.le_of_ble_eq_true rfl) (Nat.le_of_ble_eq_true rfl) hR.1 (ct_X3_changes hR (nI c') hd hn (hF.1 d' hd hl)) (zRP_r hS (fun M hR hS => ?_)) zRP_x (Nat.le_refl _)
  refine zq_aload_n K dX3_makeFile_55 rfl rfl ?_
  refine zq_iload_n K dX3_makeFile_56 rfl rfl ?_
  refine zq_iload_n K dX3_makeFile_57 rfl rfl ?_
  refine zq_callS (As := [.int (nI (d')), .int (nI (n'))]) K dX3_makeFile_58 zyX3_at zm_X3_87 zsX3_at rfl (by decide) rfl rfl (Nat.le_of_ble_eq_true rfl) (Nat.le_of_ble_eq_true rfl) (ct_X3_at d' n' _) (zone_r ?_) zone_x (Nat.le_refl _)
  refine zq_aload_n K dX3_makeFile_61 rfl rfl ?_
  refine zm_sc K dX3_makeFile_62 zf_X3_119 (k := 9) (by decide) hR ?_
  refine zq_top (v := nI (F)) (by rw [zCh_1]; exact hf) ?_
  refine zq_callV (As := [.int (nI (50 * d' + n')), .int (nI (F))]) K dX3_makeFile_65 zyX3_links zm_X3_122 ziX3_links zvX3_links zclX3 rfl (by decide) rfl rfl (Nat.le_of_ble_eq_true rfl) (Nat.le_of_ble_eq_true rfl) hR.1 (ct_X3_links hR (a := 50 * d' + n') (by omega) (nI F)) (zRP_r hS (fun M hR hS => ?_)) zRP_x (Nat.le_refl _)
  refine zq_aload_n K dX3_makeFile_68 rfl rfl ?_
  refine zq_dup K dX3_makeFile_69 rfl ?_
  refine zm_sc K dX3_makeFile_70 zf_X3_119 (k := 9) (by decide) hR ?_
  refine zq_top (v := nI (F)) (show (zCh A (nI c') d' n').1 9 = nI F by rw [zCh_1]; exact hf) ?_
  refine zq_iconst K dX3_makeFile_73 (v := nI 1) (by decide) ?_
  refine zq_iaddN K (x := F) (y := 1) dX3_makeFile_74 ?_
  refine zm_psc K dX3_makeFile_75 zf_X3_119 (k := 9) (by decide) hR hS (fun M hR hS => ?_)
  refine zq_aload_n K dX3_makeFile_78 rfl rfl ?_
  refine zm_sc K dX3_makeFile_79 zf_X3_119 (k := 9) (by decide) hR ?_
  refine zq_top (v := nI (F + 1)) rfl ?_
  refine zq_iconst K dX3_makeFile_82 (v := nI 1) (by decide) ?_
  refine zq_isubN K (x := F + 1) (y := 1) dX3_makeFile_83 (by omega) ?_
  exact zq_iret K dX3_makeFile_84 rfl ⟨rfl, hR, hS⟩
end
