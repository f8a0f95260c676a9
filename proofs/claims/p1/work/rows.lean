section
-- ===== PART A: goes FIRST, ahead of the names: the tables' words, and 'selects' of the private methods out of them =====
/-- a private method of a class that the tables say can be made, by its rows of tables_1 -/
def lw_okq (q : MethodName × Nat) : Prop := (q.1.cls ≠ "java/lang/invoke/MethodHandle" ∧ q.1.cls ≠ "java/lang/invoke/VarHandle") ∧ Cond.instantiable q.1.cls q.2 ∈ tables_1 ∧ Cond.privateMethod q.1 ∈ tables_1 ∧ Cond.instanceMethod q.1 ∈ tables_1
theorem lw_p0 : lw_okq (⟨"WindowDesk", "bringBack", "(I)I"⟩, 9) := ⟨⟨by decide +kernel, by decide +kernel⟩, List.mem_of_getElem? (i := 12) (by decide +kernel), List.mem_of_getElem? (i := 231) (by decide +kernel), List.mem_of_getElem? (i := 232) (by decide +kernel)⟩
theorem lw_p1 : lw_okq (⟨"WindowDesk", "gatherDialogs", "()V"⟩, 9) := ⟨⟨by decide +kernel, by decide +kernel⟩, List.mem_of_getElem? (i := 12) (by decide +kernel), List.mem_of_getElem? (i := 251) (by decide +kernel), List.mem_of_getElem? (i := 252) (by decide +kernel)⟩
theorem lw_p2 : lw_okq (⟨"WindowDesk", "isWindow", "(I)Z"⟩, 9) := ⟨⟨by decide +kernel, by decide +kernel⟩, List.mem_of_getElem? (i := 12) (by decide +kernel), List.mem_of_getElem? (i := 255) (by decide +kernel), List.mem_of_getElem? (i := 256) (by decide +kernel)⟩
theorem lw_p3 : lw_okq (⟨"WindowDesk", "groupCanBeWhole", "(I)Z"⟩, 9) := ⟨⟨by decide +kernel, by decide +kernel⟩, List.mem_of_getElem? (i := 12) (by decide +kernel), List.mem_of_getElem? (i := 259) (by decide +kernel), List.mem_of_getElem? (i := 260) (by decide +kernel)⟩
theorem lw_p4 : lw_okq (⟨"WindowDesk", "takeBack", "(ILWindowDesk$Kept;)V"⟩, 9) := ⟨⟨by decide +kernel, by decide +kernel⟩, List.mem_of_getElem? (i := 12) (by decide +kernel), List.mem_of_getElem? (i := 271) (by decide +kernel), List.mem_of_getElem? (i := 272) (by decide +kernel)⟩
theorem lw_p5 : lw_okq (⟨"WindowDesk", "treeOf", "(I)LWindowDesk$Tree;"⟩, 9) := ⟨⟨by decide +kernel, by decide +kernel⟩, List.mem_of_getElem? (i := 12) (by decide +kernel), List.mem_of_getElem? (i := 279) (by decide +kernel), List.mem_of_getElem? (i := 280) (by decide +kernel)⟩
theorem lw_p6 : lw_okq (⟨"WindowDesk$Tree", "nextShown", "(II)I"⟩, 16) := ⟨⟨by decide +kernel, by decide +kernel⟩, List.mem_of_getElem? (i := 38) (by decide +kernel), List.mem_of_getElem? (i := 288) (by decide +kernel), List.mem_of_getElem? (i := 289) (by decide +kernel)⟩
theorem lw_p7 : lw_okq (⟨"WindowDesk$Tree", "dropLeaf", "(I)V"⟩, 16) := ⟨⟨by decide +kernel, by decide +kernel⟩, List.mem_of_getElem? (i := 38) (by decide +kernel), List.mem_of_getElem? (i := 308) (by decide +kernel), List.mem_of_getElem? (i := 309) (by decide +kernel)⟩
theorem lw_p8 : lw_okq (⟨"WindowDesk$Tree", "putInPlaceOf", "(II)V"⟩, 16) := ⟨⟨by decide +kernel, by decide +kernel⟩, List.mem_of_getElem? (i := 38) (by decide +kernel), List.mem_of_getElem? (i := 312) (by decide +kernel), List.mem_of_getElem? (i := 313) (by decide +kernel)⟩
theorem lw_p9 : lw_okq (⟨"WindowDesk$Tree", "settle", "()V"⟩, 16) := ⟨⟨by decide +kernel, by decide +kernel⟩, List.mem_of_getElem? (i := 38) (by decide +kernel), List.mem_of_getElem? (i := 316) (by decide +kernel), List.mem_of_getElem? (i := 317) (by decide +kernel)⟩
theorem lw_p10 : lw_okq (⟨"WindowDesk$Tree", "listNodes", "()V"⟩, 16) := ⟨⟨by decide +kernel, by decide +kernel⟩, List.mem_of_getElem? (i := 38) (by decide +kernel), List.mem_of_getElem? (i := 320) (by decide +kernel), List.mem_of_getElem? (i := 321) (by decide +kernel)⟩
theorem lw_p11 : lw_okq (⟨"WindowDesk$Tree", "measureLeaves", "(I)V"⟩, 16) := ⟨⟨by decide +kernel, by decide +kernel⟩, List.mem_of_getElem? (i := 38) (by decide +kernel), List.mem_of_getElem? (i := 324) (by decide +kernel), List.mem_of_getElem? (i := 325) (by decide +kernel)⟩
theorem lw_p12 : lw_okq (⟨"WindowDesk$Tree", "measureCuts", "(I)V"⟩, 16) := ⟨⟨by decide +kernel, by decide +kernel⟩, List.mem_of_getElem? (i := 38) (by decide +kernel), List.mem_of_getElem? (i := 331) (by decide +kernel), List.mem_of_getElem? (i := 332) (by decide +kernel)⟩
theorem lw_p13 : lw_okq (⟨"WindowDesk", "sendGroup", "(I)V"⟩, 9) := ⟨⟨by decide +kernel, by decide +kernel⟩, List.mem_of_getElem? (i := 12) (by decide +kernel), List.mem_of_getElem? (i := 335) (by decide +kernel), List.mem_of_getElem? (i := 336) (by decide +kernel)⟩
theorem lw_p14 : lw_okq (⟨"WindowDesk$Window", "nearest", "(II[I)I"⟩, 6) := ⟨⟨by decide +kernel, by decide +kernel⟩, List.mem_of_getElem? (i := 107) (by decide +kernel), List.mem_of_getElem? (i := 348) (by decide +kernel), List.mem_of_getElem? (i := 349) (by decide +kernel)⟩
theorem lw_p15 : lw_okq (⟨"WindowDesk", "forgetKeptWithGroup", "()V"⟩, 9) := ⟨⟨by decide +kernel, by decide +kernel⟩, List.mem_of_getElem? (i := 12) (by decide +kernel), List.mem_of_getElem? (i := 371) (by decide +kernel), List.mem_of_getElem? (i := 372) (by decide +kernel)⟩
def lw_privs_1 : List (MethodName × Nat) := [(⟨"WindowDesk", "bringBack", "(I)I"⟩, 9), (⟨"WindowDesk", "gatherDialogs", "()V"⟩, 9), (⟨"WindowDesk", "isWindow", "(I)Z"⟩, 9), (⟨"WindowDesk", "groupCanBeWhole", "(I)Z"⟩, 9), (⟨"WindowDesk", "takeBack", "(ILWindowDesk$Kept;)V"⟩, 9), (⟨"WindowDesk", "treeOf", "(I)LWindowDesk$Tree;"⟩, 9), (⟨"WindowDesk$Tree", "nextShown", "(II)I"⟩, 16), (⟨"WindowDesk$Tree", "dropLeaf", "(I)V"⟩, 16), (⟨"WindowDesk$Tree", "putInPlaceOf", "(II)V"⟩, 16), (⟨"WindowDesk$Tree", "settle", "()V"⟩, 16), (⟨"WindowDesk$Tree", "listNodes", "()V"⟩, 16), (⟨"WindowDesk$Tree", "measureLeaves", "(I)V"⟩, 16), (⟨"WindowDesk$Tree", "measureCuts", "(I)V"⟩, 16), (⟨"WindowDesk", "sendGroup", "(I)V"⟩, 9), (⟨"WindowDesk$Window", "nearest", "(II[I)I"⟩, 6), (⟨"WindowDesk", "forgetKeptWithGroup", "()V"⟩, 9)]
theorem lw_r1 : ∀ q ∈ lw_privs_1, lw_okq q := List.forall_mem_cons.mpr ⟨lw_p0, List.forall_mem_cons.mpr ⟨lw_p1, List.forall_mem_cons.mpr ⟨lw_p2, List.forall_mem_cons.mpr ⟨lw_p3, List.forall_mem_cons.mpr ⟨lw_p4, List.forall_mem_cons.mpr ⟨lw_p5, List.forall_mem_cons.mpr ⟨lw_p6, List.forall_mem_cons.mpr ⟨lw_p7, List.forall_mem_cons.mpr ⟨lw_p8, List.forall_mem_cons.mpr ⟨lw_p9, List.forall_mem_cons.mpr ⟨lw_p10, List.forall_mem_cons.mpr ⟨lw_p11, List.forall_mem_cons.mpr ⟨lw_p12, List.forall_mem_cons.mpr ⟨lw_p13, List.forall_mem_cons.mpr ⟨lw_p14, List.forall_mem_cons.mpr ⟨lw_p15, fun _ h => absurd h List.not_mem_nil⟩⟩⟩⟩⟩⟩⟩⟩⟩⟩⟩⟩⟩⟩⟩⟩
theorem lw_p16 : lw_okq (⟨"WindowDesk", "forgetKeptWith", "(I)V"⟩, 9) := ⟨⟨by decide +kernel, by decide +kernel⟩, List.mem_of_getElem? (i := 12) (by decide +kernel), List.mem_of_getElem? (i := 375) (by decide +kernel), List.mem_of_getElem? (i := 376) (by decide +kernel)⟩
theorem lw_p17 : lw_okq (⟨"WindowDesk", "looseOnesFit", "(I[I)Z"⟩, 9) := ⟨⟨by decide +kernel, by decide +kernel⟩, List.mem_of_getElem? (i := 12) (by decide +kernel), List.mem_of_getElem? (i := 383) (by decide +kernel), List.mem_of_getElem? (i := 384) (by decide +kernel)⟩
theorem lw_p18 : lw_okq (⟨"WindowDesk", "sendAll", "(II)V"⟩, 9) := ⟨⟨by decide +kernel, by decide +kernel⟩, List.mem_of_getElem? (i := 12) (by decide +kernel), List.mem_of_getElem? (i := 396) (by decide +kernel), List.mem_of_getElem? (i := 397) (by decide +kernel)⟩
theorem lw_p19 : lw_okq (⟨"WindowDesk", "leastScreenBut", "(I)I"⟩, 9) := ⟨⟨by decide +kernel, by decide +kernel⟩, List.mem_of_getElem? (i := 12) (by decide +kernel), List.mem_of_getElem? (i := 405) (by decide +kernel), List.mem_of_getElem? (i := 406) (by decide +kernel)⟩
theorem lw_p20 : lw_okq (⟨"WindowDesk$Tree", "newNode", "(I)I"⟩, 16) := ⟨⟨by decide +kernel, by decide +kernel⟩, List.mem_of_getElem? (i := 38) (by decide +kernel), List.mem_of_getElem? (i := 434) (by decide +kernel), List.mem_of_getElem? (i := 435) (by decide +kernel)⟩
theorem lw_p21 : lw_okq (⟨"WindowDesk$Tree", "enter", "(IIII)V"⟩, 16) := ⟨⟨by decide +kernel, by decide +kernel⟩, List.mem_of_getElem? (i := 38) (by decide +kernel), List.mem_of_getElem? (i := 438) (by decide +kernel), List.mem_of_getElem? (i := 439) (by decide +kernel)⟩
theorem lw_p22 : lw_okq (⟨"WindowDesk", "windowsOn", "(I)I"⟩, 9) := ⟨⟨by decide +kernel, by decide +kernel⟩, List.mem_of_getElem? (i := 12) (by decide +kernel), List.mem_of_getElem? (i := 446) (by decide +kernel), List.mem_of_getElem? (i := 447) (by decide +kernel)⟩
theorem lw_p23 : lw_okq (⟨"WindowDesk", "keepAll", "(I)V"⟩, 9) := ⟨⟨by decide +kernel, by decide +kernel⟩, List.mem_of_getElem? (i := 12) (by decide +kernel), List.mem_of_getElem? (i := 450) (by decide +kernel), List.mem_of_getElem? (i := 451) (by decide +kernel)⟩
theorem lw_p24 : lw_okq (⟨"WindowDesk", "leastFreeNumber", "()I"⟩, 9) := ⟨⟨by decide +kernel, by decide +kernel⟩, List.mem_of_getElem? (i := 12) (by decide +kernel), List.mem_of_getElem? (i := 466) (by decide +kernel), List.mem_of_getElem? (i := 467) (by decide +kernel)⟩
theorem lw_p25 : lw_okq (⟨"WindowDesk", "screenAtHand", "()I"⟩, 9) := ⟨⟨by decide +kernel, by decide +kernel⟩, List.mem_of_getElem? (i := 12) (by decide +kernel), List.mem_of_getElem? (i := 475) (by decide +kernel), List.mem_of_getElem? (i := 476) (by decide +kernel)⟩
theorem lw_p26 : lw_okq (⟨"WindowDesk", "layTrees", "()V"⟩, 9) := ⟨⟨by decide +kernel, by decide +kernel⟩, List.mem_of_getElem? (i := 12) (by decide +kernel), List.mem_of_getElem? (i := 481) (by decide +kernel), List.mem_of_getElem? (i := 482) (by decide +kernel)⟩
theorem lw_p27 : lw_okq (⟨"WindowDesk$Tree", "divide", "(I)V"⟩, 16) := ⟨⟨by decide +kernel, by decide +kernel⟩, List.mem_of_getElem? (i := 38) (by decide +kernel), List.mem_of_getElem? (i := 489) (by decide +kernel), List.mem_of_getElem? (i := 490) (by decide +kernel)⟩
theorem lw_p28 : lw_okq (⟨"WindowDesk$Tree", "firstPart", "(II)I"⟩, 16) := ⟨⟨by decide +kernel, by decide +kernel⟩, List.mem_of_getElem? (i := 38) (by decide +kernel), List.mem_of_getElem? (i := 493) (by decide +kernel), List.mem_of_getElem? (i := 494) (by decide +kernel)⟩
theorem lw_p29 : lw_okq (⟨"WindowDesk", "findRoom", "(II)Z"⟩, 9) := ⟨⟨by decide +kernel, by decide +kernel⟩, List.mem_of_getElem? (i := 12) (by decide +kernel), List.mem_of_getElem? (i := 502) (by decide +kernel), List.mem_of_getElem? (i := 503) (by decide +kernel)⟩
theorem lw_p30 : lw_okq (⟨"WindowDesk", "tile", "(ILWindowDesk$Screen;)Z"⟩, 9) := ⟨⟨by decide +kernel, by decide +kernel⟩, List.mem_of_getElem? (i := 12) (by decide +kernel), List.mem_of_getElem? (i := 506) (by decide +kernel), List.mem_of_getElem? (i := 507) (by decide +kernel)⟩
theorem lw_p31 : lw_okq (⟨"WindowDesk", "leafAtHand", "(LWindowDesk$Tree;)I"⟩, 9) := ⟨⟨by decide +kernel, by decide +kernel⟩, List.mem_of_getElem? (i := 12) (by decide +kernel), List.mem_of_getElem? (i := 510) (by decide +kernel), List.mem_of_getElem? (i := 511) (by decide +kernel)⟩
def lw_privs_2 : List (MethodName × Nat) := [(⟨"WindowDesk", "forgetKeptWith", "(I)V"⟩, 9), (⟨"WindowDesk", "looseOnesFit", "(I[I)Z"⟩, 9), (⟨"WindowDesk", "sendAll", "(II)V"⟩, 9), (⟨"WindowDesk", "leastScreenBut", "(I)I"⟩, 9), (⟨"WindowDesk$Tree", "newNode", "(I)I"⟩, 16), (⟨"WindowDesk$Tree", "enter", "(IIII)V"⟩, 16), (⟨"WindowDesk", "windowsOn", "(I)I"⟩, 9), (⟨"WindowDesk", "keepAll", "(I)V"⟩, 9), (⟨"WindowDesk", "leastFreeNumber", "()I"⟩, 9), (⟨"WindowDesk", "screenAtHand", "()I"⟩, 9), (⟨"WindowDesk", "layTrees", "()V"⟩, 9), (⟨"WindowDesk$Tree", "divide", "(I)V"⟩, 16), (⟨"WindowDesk$Tree", "firstPart", "(II)I"⟩, 16), (⟨"WindowDesk", "findRoom", "(II)Z"⟩, 9), (⟨"WindowDesk", "tile", "(ILWindowDesk$Screen;)Z"⟩, 9), (⟨"WindowDesk", "leafAtHand", "(LWindowDesk$Tree;)I"⟩, 9)]
theorem lw_r2 : ∀ q ∈ lw_privs_2, lw_okq q := List.forall_mem_cons.mpr ⟨lw_p16, List.forall_mem_cons.mpr ⟨lw_p17, List.forall_mem_cons.mpr ⟨lw_p18, List.forall_mem_cons.mpr ⟨lw_p19, List.forall_mem_cons.mpr ⟨lw_p20, List.forall_mem_cons.mpr ⟨lw_p21, List.forall_mem_cons.mpr ⟨lw_p22, List.forall_mem_cons.mpr ⟨lw_p23, List.forall_mem_cons.mpr ⟨lw_p24, List.forall_mem_cons.mpr ⟨lw_p25, List.forall_mem_cons.mpr ⟨lw_p26, List.forall_mem_cons.mpr ⟨lw_p27, List.forall_mem_cons.mpr ⟨lw_p28, List.forall_mem_cons.mpr ⟨lw_p29, List.forall_mem_cons.mpr ⟨lw_p30, List.forall_mem_cons.mpr ⟨lw_p31, fun _ h => absurd h List.not_mem_nil⟩⟩⟩⟩⟩⟩⟩⟩⟩⟩⟩⟩⟩⟩⟩⟩
theorem lw_p32 : lw_okq (⟨"WindowDesk", "tryCut", "(ILWindowDesk$Screen;II)Z"⟩, 9) := ⟨⟨by decide +kernel, by decide +kernel⟩, List.mem_of_getElem? (i := 12) (by decide +kernel), List.mem_of_getElem? (i := 520) (by decide +kernel), List.mem_of_getElem? (i := 521) (by decide +kernel)⟩
theorem lw_p33 : lw_okq (⟨"WindowDesk", "tryTab", "(ILWindowDesk$Screen;I)Z"⟩, 9) := ⟨⟨by decide +kernel, by decide +kernel⟩, List.mem_of_getElem? (i := 12) (by decide +kernel), List.mem_of_getElem? (i := 528) (by decide +kernel), List.mem_of_getElem? (i := 529) (by decide +kernel)⟩
theorem lw_p34 : lw_okq (⟨"WindowDesk", "middleOf", "(LWindowDesk$Window;I)I"⟩, 9) := ⟨⟨by decide +kernel, by decide +kernel⟩, List.mem_of_getElem? (i := 12) (by decide +kernel), List.mem_of_getElem? (i := 533) (by decide +kernel), List.mem_of_getElem? (i := 534) (by decide +kernel)⟩
theorem lw_p35 : lw_okq (⟨"WindowDesk", "lengthOf", "(II)I"⟩, 9) := ⟨⟨by decide +kernel, by decide +kernel⟩, List.mem_of_getElem? (i := 12) (by decide +kernel), List.mem_of_getElem? (i := 537) (by decide +kernel), List.mem_of_getElem? (i := 538) (by decide +kernel)⟩
theorem lw_p36 : lw_okq (⟨"WindowDesk", "startOf", "(II)I"⟩, 9) := ⟨⟨by decide +kernel, by decide +kernel⟩, List.mem_of_getElem? (i := 12) (by decide +kernel), List.mem_of_getElem? (i := 545) (by decide +kernel), List.mem_of_getElem? (i := 546) (by decide +kernel)⟩
theorem lw_p37 : lw_okq (⟨"WindowDesk", "giveFocus", "(I)V"⟩, 9) := ⟨⟨by decide +kernel, by decide +kernel⟩, List.mem_of_getElem? (i := 12) (by decide +kernel), List.mem_of_getElem? (i := 557) (by decide +kernel), List.mem_of_getElem? (i := 558) (by decide +kernel)⟩
theorem lw_p38 : lw_okq (⟨"WindowDesk", "raise", "(II)V"⟩, 9) := ⟨⟨by decide +kernel, by decide +kernel⟩, List.mem_of_getElem? (i := 12) (by decide +kernel), List.mem_of_getElem? (i := 575) (by decide +kernel), List.mem_of_getElem? (i := 576) (by decide +kernel)⟩
theorem lw_p39 : lw_okq (⟨"WindowDesk", "dialogsOf", "(I)I"⟩, 9) := ⟨⟨by decide +kernel, by decide +kernel⟩, List.mem_of_getElem? (i := 12) (by decide +kernel), List.mem_of_getElem? (i := 580) (by decide +kernel), List.mem_of_getElem? (i := 581) (by decide +kernel)⟩
theorem lw_p40 : lw_okq (⟨"WindowDesk", "lowestDialogOf", "(I)I"⟩, 9) := ⟨⟨by decide +kernel, by decide +kernel⟩, List.mem_of_getElem? (i := 12) (by decide +kernel), List.mem_of_getElem? (i := 584) (by decide +kernel), List.mem_of_getElem? (i := 585) (by decide +kernel)⟩
theorem lw_p41 : lw_okq (⟨"WindowDesk", "gatherWithDialogs", "(I)V"⟩, 9) := ⟨⟨by decide +kernel, by decide +kernel⟩, List.mem_of_getElem? (i := 12) (by decide +kernel), List.mem_of_getElem? (i := 592) (by decide +kernel), List.mem_of_getElem? (i := 593) (by decide +kernel)⟩
theorem lw_p42 : lw_okq (⟨"WindowDesk", "end", "(I)V"⟩, 9) := ⟨⟨by decide +kernel, by decide +kernel⟩, List.mem_of_getElem? (i := 12) (by decide +kernel), List.mem_of_getElem? (i := 596) (by decide +kernel), List.mem_of_getElem? (i := 597) (by decide +kernel)⟩
theorem lw_p43 : lw_okq (⟨"WindowDesk", "isShownTile", "(I)Z"⟩, 9) := ⟨⟨by decide +kernel, by decide +kernel⟩, List.mem_of_getElem? (i := 12) (by decide +kernel), List.mem_of_getElem? (i := 616) (by decide +kernel), List.mem_of_getElem? (i := 617) (by decide +kernel)⟩
theorem lw_p44 : lw_okq (⟨"WindowDesk$Tree", "meets", "(III)Z"⟩, 16) := ⟨⟨by decide +kernel, by decide +kernel⟩, List.mem_of_getElem? (i := 38) (by decide +kernel), List.mem_of_getElem? (i := 629) (by decide +kernel), List.mem_of_getElem? (i := 630) (by decide +kernel)⟩
theorem lw_p45 : lw_okq (⟨"WindowDesk$Tree", "endOf", "(II)I"⟩, 16) := ⟨⟨by decide +kernel, by decide +kernel⟩, List.mem_of_getElem? (i := 38) (by decide +kernel), List.mem_of_getElem? (i := 640) (by decide +kernel), List.mem_of_getElem? (i := 641) (by decide +kernel)⟩
theorem lw_p46 : lw_okq (⟨"WindowDesk$Tree", "commonBorder", "(III)I"⟩, 16) := ⟨⟨by decide +kernel, by decide +kernel⟩, List.mem_of_getElem? (i := 38) (by decide +kernel), List.mem_of_getElem? (i := 645) (by decide +kernel), List.mem_of_getElem? (i := 646) (by decide +kernel)⟩
theorem lw_p47 : lw_okq (⟨"WindowDesk", "reachFrom", "(I)V"⟩, 9) := ⟨⟨by decide +kernel, by decide +kernel⟩, List.mem_of_getElem? (i := 12) (by decide +kernel), List.mem_of_getElem? (i := 657) (by decide +kernel), List.mem_of_getElem? (i := 658) (by decide +kernel)⟩
def lw_privs_3 : List (MethodName × Nat) := [(⟨"WindowDesk", "tryCut", "(ILWindowDesk$Screen;II)Z"⟩, 9), (⟨"WindowDesk", "tryTab", "(ILWindowDesk$Screen;I)Z"⟩, 9), (⟨"WindowDesk", "middleOf", "(LWindowDesk$Window;I)I"⟩, 9), (⟨"WindowDesk", "lengthOf", "(II)I"⟩, 9), (⟨"WindowDesk", "startOf", "(II)I"⟩, 9), (⟨"WindowDesk", "giveFocus", "(I)V"⟩, 9), (⟨"WindowDesk", "raise", "(II)V"⟩, 9), (⟨"WindowDesk", "dialogsOf", "(I)I"⟩, 9), (⟨"WindowDesk", "lowestDialogOf", "(I)I"⟩, 9), (⟨"WindowDesk", "gatherWithDialogs", "(I)V"⟩, 9), (⟨"WindowDesk", "end", "(I)V"⟩, 9), (⟨"WindowDesk", "isShownTile", "(I)Z"⟩, 9), (⟨"WindowDesk$Tree", "meets", "(III)Z"⟩, 16), (⟨"WindowDesk$Tree", "endOf", "(II)I"⟩, 16), (⟨"WindowDesk$Tree", "commonBorder", "(III)I"⟩, 16), (⟨"WindowDesk", "reachFrom", "(I)V"⟩, 9)]
theorem lw_r3 : ∀ q ∈ lw_privs_3, lw_okq q := List.forall_mem_cons.mpr ⟨lw_p32, List.forall_mem_cons.mpr ⟨lw_p33, List.forall_mem_cons.mpr ⟨lw_p34, List.forall_mem_cons.mpr ⟨lw_p35, List.forall_mem_cons.mpr ⟨lw_p36, List.forall_mem_cons.mpr ⟨lw_p37, List.forall_mem_cons.mpr ⟨lw_p38, List.forall_mem_cons.mpr ⟨lw_p39, List.forall_mem_cons.mpr ⟨lw_p40, List.forall_mem_cons.mpr ⟨lw_p41, List.forall_mem_cons.mpr ⟨lw_p42, List.forall_mem_cons.mpr ⟨lw_p43, List.forall_mem_cons.mpr ⟨lw_p44, List.forall_mem_cons.mpr ⟨lw_p45, List.forall_mem_cons.mpr ⟨lw_p46, List.forall_mem_cons.mpr ⟨lw_p47, fun _ h => absurd h List.not_mem_nil⟩⟩⟩⟩⟩⟩⟩⟩⟩⟩⟩⟩⟩⟩⟩⟩
theorem lw_p48 : lw_okq (⟨"WindowDesk", "tryDrag", "(III)V"⟩, 9) := ⟨⟨by decide +kernel, by decide +kernel⟩, List.mem_of_getElem? (i := 12) (by decide +kernel), List.mem_of_getElem? (i := 666) (by decide +kernel), List.mem_of_getElem? (i := 667) (by decide +kernel)⟩
theorem lw_p49 : lw_okq (⟨"WindowDesk$Window", "spans", "(II[I)Z"⟩, 6) := ⟨⟨by decide +kernel, by decide +kernel⟩, List.mem_of_getElem? (i := 107) (by decide +kernel), List.mem_of_getElem? (i := 723) (by decide +kernel), List.mem_of_getElem? (i := 724) (by decide +kernel)⟩
theorem lw_p50 : lw_okq (⟨"WindowDesk$Tree", "spans", "(III)Z"⟩, 16) := ⟨⟨by decide +kernel, by decide +kernel⟩, List.mem_of_getElem? (i := 38) (by decide +kernel), List.mem_of_getElem? (i := 731) (by decide +kernel), List.mem_of_getElem? (i := 732) (by decide +kernel)⟩
theorem lw_p51 : lw_okq (⟨"WindowDesk", "looseOnes", "(I)I"⟩, 9) := ⟨⟨by decide +kernel, by decide +kernel⟩, List.mem_of_getElem? (i := 12) (by decide +kernel), List.mem_of_getElem? (i := 749) (by decide +kernel), List.mem_of_getElem? (i := 750) (by decide +kernel)⟩
theorem lw_p52 : lw_okq (⟨"WindowDesk", "screensThere", "()I"⟩, 9) := ⟨⟨by decide +kernel, by decide +kernel⟩, List.mem_of_getElem? (i := 12) (by decide +kernel), List.mem_of_getElem? (i := 767) (by decide +kernel), List.mem_of_getElem? (i := 768) (by decide +kernel)⟩
theorem lw_p53 : lw_okq (⟨"WindowDesk", "windowsUnder", "(I)I"⟩, 9) := ⟨⟨by decide +kernel, by decide +kernel⟩, List.mem_of_getElem? (i := 12) (by decide +kernel), List.mem_of_getElem? (i := 771) (by decide +kernel), List.mem_of_getElem? (i := 772) (by decide +kernel)⟩
theorem lw_p54 : lw_okq (⟨"WindowDesk", "screensWithKept", "()I"⟩, 9) := ⟨⟨by decide +kernel, by decide +kernel⟩, List.mem_of_getElem? (i := 12) (by decide +kernel), List.mem_of_getElem? (i := 775) (by decide +kernel), List.mem_of_getElem? (i := 776) (by decide +kernel)⟩
theorem lw_p55 : lw_okq (⟨"WindowDeskModel", "clearTree", "(I)V"⟩, 33) := ⟨⟨by decide +kernel, by decide +kernel⟩, List.mem_of_getElem? (i := 779) (by decide +kernel), List.mem_of_getElem? (i := 893) (by decide +kernel), List.mem_of_getElem? (i := 894) (by decide +kernel)⟩
theorem lw_p56 : lw_okq (⟨"WindowDeskModel", "comesBack", "(I)Z"⟩, 33) := ⟨⟨by decide +kernel, by decide +kernel⟩, List.mem_of_getElem? (i := 779) (by decide +kernel), List.mem_of_getElem? (i := 900) (by decide +kernel), List.mem_of_getElem? (i := 901) (by decide +kernel)⟩
theorem lw_p57 : lw_okq (⟨"WindowDeskModel", "spread", "()V"⟩, 33) := ⟨⟨by decide +kernel, by decide +kernel⟩, List.mem_of_getElem? (i := 779) (by decide +kernel), List.mem_of_getElem? (i := 904) (by decide +kernel), List.mem_of_getElem? (i := 905) (by decide +kernel)⟩
theorem lw_p58 : lw_okq (⟨"WindowDeskModel", "fits", "(III)Z"⟩, 33) := ⟨⟨by decide +kernel, by decide +kernel⟩, List.mem_of_getElem? (i := 779) (by decide +kernel), List.mem_of_getElem? (i := 908) (by decide +kernel), List.mem_of_getElem? (i := 909) (by decide +kernel)⟩
theorem lw_p59 : lw_okq (⟨"WindowDeskModel", "least", "(IIZ)I"⟩, 33) := ⟨⟨by decide +kernel, by decide +kernel⟩, List.mem_of_getElem? (i := 779) (by decide +kernel), List.mem_of_getElem? (i := 912) (by decide +kernel), List.mem_of_getElem? (i := 913) (by decide +kernel)⟩
theorem lw_p60 : lw_okq (⟨"WindowDeskModel", "canBeWhole", "(III)Z"⟩, 33) := ⟨⟨by decide +kernel, by decide +kernel⟩, List.mem_of_getElem? (i := 779) (by decide +kernel), List.mem_of_getElem? (i := 916) (by decide +kernel), List.mem_of_getElem? (i := 917) (by decide +kernel)⟩
theorem lw_p61 : lw_okq (⟨"WindowDeskModel", "bring", "(I)I"⟩, 33) := ⟨⟨by decide +kernel, by decide +kernel⟩, List.mem_of_getElem? (i := 779) (by decide +kernel), List.mem_of_getElem? (i := 920) (by decide +kernel), List.mem_of_getElem? (i := 921) (by decide +kernel)⟩
theorem lw_p62 : lw_okq (⟨"WindowDeskModel", "clearLeaves", "(I)V"⟩, 33) := ⟨⟨by decide +kernel, by decide +kernel⟩, List.mem_of_getElem? (i := 779) (by decide +kernel), List.mem_of_getElem? (i := 924) (by decide +kernel), List.mem_of_getElem? (i := 925) (by decide +kernel)⟩
theorem lw_p63 : lw_okq (⟨"WindowDeskModel", "findLeaves", "(II)V"⟩, 33) := ⟨⟨by decide +kernel, by decide +kernel⟩, List.mem_of_getElem? (i := 779) (by decide +kernel), List.mem_of_getElem? (i := 928) (by decide +kernel), List.mem_of_getElem? (i := 929) (by decide +kernel)⟩
def lw_privs_4 : List (MethodName × Nat) := [(⟨"WindowDesk", "tryDrag", "(III)V"⟩, 9), (⟨"WindowDesk$Window", "spans", "(II[I)Z"⟩, 6), (⟨"WindowDesk$Tree", "spans", "(III)Z"⟩, 16), (⟨"WindowDesk", "looseOnes", "(I)I"⟩, 9), (⟨"WindowDesk", "screensThere", "()I"⟩, 9), (⟨"WindowDesk", "windowsUnder", "(I)I"⟩, 9), (⟨"WindowDesk", "screensWithKept", "()I"⟩, 9), (⟨"WindowDeskModel", "clearTree", "(I)V"⟩, 33), (⟨"WindowDeskModel", "comesBack", "(I)Z"⟩, 33), (⟨"WindowDeskModel", "spread", "()V"⟩, 33), (⟨"WindowDeskModel", "fits", "(III)Z"⟩, 33), (⟨"WindowDeskModel", "least", "(IIZ)I"⟩, 33), (⟨"WindowDeskModel", "canBeWhole", "(III)Z"⟩, 33), (⟨"WindowDeskModel", "bring", "(I)I"⟩, 33), (⟨"WindowDeskModel", "clearLeaves", "(I)V"⟩, 33), (⟨"WindowDeskModel", "findLeaves", "(II)V"⟩, 33)]
theorem lw_r4 : ∀ q ∈ lw_privs_4, lw_okq q := List.forall_mem_cons.mpr ⟨lw_p48, List.forall_mem_cons.mpr ⟨lw_p49, List.forall_mem_cons.mpr ⟨lw_p50, List.forall_mem_cons.mpr ⟨lw_p51, List.forall_mem_cons.mpr ⟨lw_p52, List.forall_mem_cons.mpr ⟨lw_p53, List.forall_mem_cons.mpr ⟨lw_p54, List.forall_mem_cons.mpr ⟨lw_p55, List.forall_mem_cons.mpr ⟨lw_p56, List.forall_mem_cons.mpr ⟨lw_p57, List.forall_mem_cons.mpr ⟨lw_p58, List.forall_mem_cons.mpr ⟨lw_p59, List.forall_mem_cons.mpr ⟨lw_p60, List.forall_mem_cons.mpr ⟨lw_p61, List.forall_mem_cons.mpr ⟨lw_p62, List.forall_mem_cons.mpr ⟨lw_p63, fun _ h => absurd h List.not_mem_nil⟩⟩⟩⟩⟩⟩⟩⟩⟩⟩⟩⟩⟩⟩⟩⟩
theorem lw_p64 : lw_okq (⟨"WindowDeskModel", "leave", "(II)V"⟩, 33) := ⟨⟨by decide +kernel, by decide +kernel⟩, List.mem_of_getElem? (i := 779) (by decide +kernel), List.mem_of_getElem? (i := 932) (by decide +kernel), List.mem_of_getElem? (i := 933) (by decide +kernel)⟩
theorem lw_p65 : lw_okq (⟨"WindowDeskModel", "leafOf", "(II)I"⟩, 33) := ⟨⟨by decide +kernel, by decide +kernel⟩, List.mem_of_getElem? (i := 779) (by decide +kernel), List.mem_of_getElem? (i := 936) (by decide +kernel), List.mem_of_getElem? (i := 937) (by decide +kernel)⟩
theorem lw_p66 : lw_okq (⟨"WindowDeskModel", "placeOfTab", "(III)I"⟩, 33) := ⟨⟨by decide +kernel, by decide +kernel⟩, List.mem_of_getElem? (i := 779) (by decide +kernel), List.mem_of_getElem? (i := 940) (by decide +kernel), List.mem_of_getElem? (i := 941) (by decide +kernel)⟩
theorem lw_p67 : lw_okq (⟨"WindowDeskModel", "above", "(II)I"⟩, 33) := ⟨⟨by decide +kernel, by decide +kernel⟩, List.mem_of_getElem? (i := 779) (by decide +kernel), List.mem_of_getElem? (i := 944) (by decide +kernel), List.mem_of_getElem? (i := 945) (by decide +kernel)⟩
theorem lw_p68 : lw_okq (⟨"WindowDeskModel", "stand", "(IIII)V"⟩, 33) := ⟨⟨by decide +kernel, by decide +kernel⟩, List.mem_of_getElem? (i := 779) (by decide +kernel), List.mem_of_getElem? (i := 948) (by decide +kernel), List.mem_of_getElem? (i := 949) (by decide +kernel)⟩
theorem lw_p69 : lw_okq (⟨"WindowDeskModel", "copyTree", "(II)V"⟩, 33) := ⟨⟨by decide +kernel, by decide +kernel⟩, List.mem_of_getElem? (i := 779) (by decide +kernel), List.mem_of_getElem? (i := 952) (by decide +kernel), List.mem_of_getElem? (i := 953) (by decide +kernel)⟩
theorem lw_p70 : lw_okq (⟨"WindowDeskModel", "putAt", "(IIII)V"⟩, 33) := ⟨⟨by decide +kernel, by decide +kernel⟩, List.mem_of_getElem? (i := 779) (by decide +kernel), List.mem_of_getElem? (i := 956) (by decide +kernel), List.mem_of_getElem? (i := 957) (by decide +kernel)⟩
theorem lw_p71 : lw_okq (⟨"WindowDeskModel", "isOnScreen", "(II)Z"⟩, 33) := ⟨⟨by decide +kernel, by decide +kernel⟩, List.mem_of_getElem? (i := 779) (by decide +kernel), List.mem_of_getElem? (i := 963) (by decide +kernel), List.mem_of_getElem? (i := 964) (by decide +kernel)⟩
theorem lw_p72 : lw_okq (⟨"WindowDeskModel", "moveTabs", "(II)I"⟩, 33) := ⟨⟨by decide +kernel, by decide +kernel⟩, List.mem_of_getElem? (i := 779) (by decide +kernel), List.mem_of_getElem? (i := 972) (by decide +kernel), List.mem_of_getElem? (i := 973) (by decide +kernel)⟩
theorem lw_p73 : lw_okq (⟨"WindowDeskModel", "newLeaf", "(II)I"⟩, 33) := ⟨⟨by decide +kernel, by decide +kernel⟩, List.mem_of_getElem? (i := 779) (by decide +kernel), List.mem_of_getElem? (i := 976) (by decide +kernel), List.mem_of_getElem? (i := 977) (by decide +kernel)⟩
theorem lw_p74 : lw_okq (⟨"WindowDeskModel", "newNode", "(II)I"⟩, 33) := ⟨⟨by decide +kernel, by decide +kernel⟩, List.mem_of_getElem? (i := 779) (by decide +kernel), List.mem_of_getElem? (i := 980) (by decide +kernel), List.mem_of_getElem? (i := 981) (by decide +kernel)⟩
theorem lw_p75 : lw_okq (⟨"WindowDeskModel", "addTab", "(III)V"⟩, 33) := ⟨⟨by decide +kernel, by decide +kernel⟩, List.mem_of_getElem? (i := 779) (by decide +kernel), List.mem_of_getElem? (i := 984) (by decide +kernel), List.mem_of_getElem? (i := 985) (by decide +kernel)⟩
theorem lw_p76 : lw_okq (⟨"WindowDeskModel", "isWindow", "(I)Z"⟩, 33) := ⟨⟨by decide +kernel, by decide +kernel⟩, List.mem_of_getElem? (i := 779) (by decide +kernel), List.mem_of_getElem? (i := 992) (by decide +kernel), List.mem_of_getElem? (i := 993) (by decide +kernel)⟩
theorem lw_p77 : lw_okq (⟨"WindowDeskModel", "freeNumber", "()I"⟩, 33) := ⟨⟨by decide +kernel, by decide +kernel⟩, List.mem_of_getElem? (i := 779) (by decide +kernel), List.mem_of_getElem? (i := 996) (by decide +kernel), List.mem_of_getElem? (i := 997) (by decide +kernel)⟩
theorem lw_p78 : lw_okq (⟨"WindowDeskModel", "screenAtHand", "()I"⟩, 33) := ⟨⟨by decide +kernel, by decide +kernel⟩, List.mem_of_getElem? (i := 779) (by decide +kernel), List.mem_of_getElem? (i := 1001) (by decide +kernel), List.mem_of_getElem? (i := 1002) (by decide +kernel)⟩
theorem lw_p79 : lw_okq (⟨"WindowDeskModel", "tile", "(II)Z"⟩, 33) := ⟨⟨by decide +kernel, by decide +kernel⟩, List.mem_of_getElem? (i := 779) (by decide +kernel), List.mem_of_getElem? (i := 1005) (by decide +kernel), List.mem_of_getElem? (i := 1006) (by decide +kernel)⟩
def lw_privs_5 : List (MethodName × Nat) := [(⟨"WindowDeskModel", "leave", "(II)V"⟩, 33), (⟨"WindowDeskModel", "leafOf", "(II)I"⟩, 33), (⟨"WindowDeskModel", "placeOfTab", "(III)I"⟩, 33), (⟨"WindowDeskModel", "above", "(II)I"⟩, 33), (⟨"WindowDeskModel", "stand", "(IIII)V"⟩, 33), (⟨"WindowDeskModel", "copyTree", "(II)V"⟩, 33), (⟨"WindowDeskModel", "putAt", "(IIII)V"⟩, 33), (⟨"WindowDeskModel", "isOnScreen", "(II)Z"⟩, 33), (⟨"WindowDeskModel", "moveTabs", "(II)I"⟩, 33), (⟨"WindowDeskModel", "newLeaf", "(II)I"⟩, 33), (⟨"WindowDeskModel", "newNode", "(II)I"⟩, 33), (⟨"WindowDeskModel", "addTab", "(III)V"⟩, 33), (⟨"WindowDeskModel", "isWindow", "(I)Z"⟩, 33), (⟨"WindowDeskModel", "freeNumber", "()I"⟩, 33), (⟨"WindowDeskModel", "screenAtHand", "()I"⟩, 33), (⟨"WindowDeskModel", "tile", "(II)Z"⟩, 33)]
theorem lw_r5 : ∀ q ∈ lw_privs_5, lw_okq q := List.forall_mem_cons.mpr ⟨lw_p64, List.forall_mem_cons.mpr ⟨lw_p65, List.forall_mem_cons.mpr ⟨lw_p66, List.forall_mem_cons.mpr ⟨lw_p67, List.forall_mem_cons.mpr ⟨lw_p68, List.forall_mem_cons.mpr ⟨lw_p69, List.forall_mem_cons.mpr ⟨lw_p70, List.forall_mem_cons.mpr ⟨lw_p71, List.forall_mem_cons.mpr ⟨lw_p72, List.forall_mem_cons.mpr ⟨lw_p73, List.forall_mem_cons.mpr ⟨lw_p74, List.forall_mem_cons.mpr ⟨lw_p75, List.forall_mem_cons.mpr ⟨lw_p76, List.forall_mem_cons.mpr ⟨lw_p77, List.forall_mem_cons.mpr ⟨lw_p78, List.forall_mem_cons.mpr ⟨lw_p79, fun _ h => absurd h List.not_mem_nil⟩⟩⟩⟩⟩⟩⟩⟩⟩⟩⟩⟩⟩⟩⟩⟩
theorem lw_p80 : lw_okq (⟨"WindowDeskModel", "takesTrial", "(I)Z"⟩, 33) := ⟨⟨by decide +kernel, by decide +kernel⟩, List.mem_of_getElem? (i := 779) (by decide +kernel), List.mem_of_getElem? (i := 1009) (by decide +kernel), List.mem_of_getElem? (i := 1010) (by decide +kernel)⟩
theorem lw_p81 : lw_okq (⟨"WindowDeskModel", "layAll", "(I)V"⟩, 33) := ⟨⟨by decide +kernel, by decide +kernel⟩, List.mem_of_getElem? (i := 779) (by decide +kernel), List.mem_of_getElem? (i := 1013) (by decide +kernel), List.mem_of_getElem? (i := 1014) (by decide +kernel)⟩
theorem lw_p82 : lw_okq (⟨"WindowDeskModel", "lay", "(IIIIII)V"⟩, 33) := ⟨⟨by decide +kernel, by decide +kernel⟩, List.mem_of_getElem? (i := 779) (by decide +kernel), List.mem_of_getElem? (i := 1017) (by decide +kernel), List.mem_of_getElem? (i := 1018) (by decide +kernel)⟩
theorem lw_p83 : lw_okq (⟨"WindowDeskModel", "cutLeaf", "(IIIIZ)V"⟩, 33) := ⟨⟨by decide +kernel, by decide +kernel⟩, List.mem_of_getElem? (i := 779) (by decide +kernel), List.mem_of_getElem? (i := 1021) (by decide +kernel), List.mem_of_getElem? (i := 1022) (by decide +kernel)⟩
theorem lw_p84 : lw_okq (⟨"WindowDeskModel", "areaOf", "(II)I"⟩, 33) := ⟨⟨by decide +kernel, by decide +kernel⟩, List.mem_of_getElem? (i := 779) (by decide +kernel), List.mem_of_getElem? (i := 1025) (by decide +kernel), List.mem_of_getElem? (i := 1026) (by decide +kernel)⟩
theorem lw_p85 : lw_okq (⟨"WindowDeskModel", "isFloating", "(I)Z"⟩, 33) := ⟨⟨by decide +kernel, by decide +kernel⟩, List.mem_of_getElem? (i := 779) (by decide +kernel), List.mem_of_getElem? (i := 1030) (by decide +kernel), List.mem_of_getElem? (i := 1031) (by decide +kernel)⟩
theorem lw_p86 : lw_okq (⟨"WindowDeskModel", "focused", "(I)V"⟩, 33) := ⟨⟨by decide +kernel, by decide +kernel⟩, List.mem_of_getElem? (i := 779) (by decide +kernel), List.mem_of_getElem? (i := 1037) (by decide +kernel), List.mem_of_getElem? (i := 1038) (by decide +kernel)⟩
theorem lw_p87 : lw_okq (⟨"WindowDeskModel", "front", "(I)V"⟩, 33) := ⟨⟨by decide +kernel, by decide +kernel⟩, List.mem_of_getElem? (i := 779) (by decide +kernel), List.mem_of_getElem? (i := 1041) (by decide +kernel), List.mem_of_getElem? (i := 1042) (by decide +kernel)⟩
theorem lw_p88 : lw_okq (⟨"WindowDeskModel", "raise", "(I)V"⟩, 33) := ⟨⟨by decide +kernel, by decide +kernel⟩, List.mem_of_getElem? (i := 779) (by decide +kernel), List.mem_of_getElem? (i := 1045) (by decide +kernel), List.mem_of_getElem? (i := 1046) (by decide +kernel)⟩
theorem lw_p89 : lw_okq (⟨"WindowDeskModel", "unstack", "(I)V"⟩, 33) := ⟨⟨by decide +kernel, by decide +kernel⟩, List.mem_of_getElem? (i := 779) (by decide +kernel), List.mem_of_getElem? (i := 1049) (by decide +kernel), List.mem_of_getElem? (i := 1050) (by decide +kernel)⟩
theorem lw_p90 : lw_okq (⟨"WindowDeskModel", "closed", "(I)I"⟩, 33) := ⟨⟨by decide +kernel, by decide +kernel⟩, List.mem_of_getElem? (i := 779) (by decide +kernel), List.mem_of_getElem? (i := 1058) (by decide +kernel), List.mem_of_getElem? (i := 1059) (by decide +kernel)⟩
theorem lw_p91 : lw_okq (⟨"WindowDeskModel", "forget", "(I)V"⟩, 33) := ⟨⟨by decide +kernel, by decide +kernel⟩, List.mem_of_getElem? (i := 779) (by decide +kernel), List.mem_of_getElem? (i := 1062) (by decide +kernel), List.mem_of_getElem? (i := 1063) (by decide +kernel)⟩
theorem lw_p92 : lw_okq (⟨"WindowDeskModel", "isShown", "(I)Z"⟩, 33) := ⟨⟨by decide +kernel, by decide +kernel⟩, List.mem_of_getElem? (i := 779) (by decide +kernel), List.mem_of_getElem? (i := 1078) (by decide +kernel), List.mem_of_getElem? (i := 1079) (by decide +kernel)⟩
theorem lw_p93 : lw_okq (⟨"WindowDeskModel", "neighbourOf", "(II)I"⟩, 33) := ⟨⟨by decide +kernel, by decide +kernel⟩, List.mem_of_getElem? (i := 779) (by decide +kernel), List.mem_of_getElem? (i := 1082) (by decide +kernel), List.mem_of_getElem? (i := 1083) (by decide +kernel)⟩
theorem lw_p94 : lw_okq (⟨"WindowDeskModel", "lies", "(IIII)Z"⟩, 33) := ⟨⟨by decide +kernel, by decide +kernel⟩, List.mem_of_getElem? (i := 779) (by decide +kernel), List.mem_of_getElem? (i := 1124) (by decide +kernel), List.mem_of_getElem? (i := 1125) (by decide +kernel)⟩
def lw_privs_6 : List (MethodName × Nat) := [(⟨"WindowDeskModel", "takesTrial", "(I)Z"⟩, 33), (⟨"WindowDeskModel", "layAll", "(I)V"⟩, 33), (⟨"WindowDeskModel", "lay", "(IIIIII)V"⟩, 33), (⟨"WindowDeskModel", "cutLeaf", "(IIIIZ)V"⟩, 33), (⟨"WindowDeskModel", "areaOf", "(II)I"⟩, 33), (⟨"WindowDeskModel", "isFloating", "(I)Z"⟩, 33), (⟨"WindowDeskModel", "focused", "(I)V"⟩, 33), (⟨"WindowDeskModel", "front", "(I)V"⟩, 33), (⟨"WindowDeskModel", "raise", "(I)V"⟩, 33), (⟨"WindowDeskModel", "unstack", "(I)V"⟩, 33), (⟨"WindowDeskModel", "closed", "(I)I"⟩, 33), (⟨"WindowDeskModel", "forget", "(I)V"⟩, 33), (⟨"WindowDeskModel", "isShown", "(I)Z"⟩, 33), (⟨"WindowDeskModel", "neighbourOf", "(II)I"⟩, 33), (⟨"WindowDeskModel", "lies", "(IIII)Z"⟩, 33)]
theorem lw_r6 : ∀ q ∈ lw_privs_6, lw_okq q := List.forall_mem_cons.mpr ⟨lw_p80, List.forall_mem_cons.mpr ⟨lw_p81, List.forall_mem_cons.mpr ⟨lw_p82, List.forall_mem_cons.mpr ⟨lw_p83, List.forall_mem_cons.mpr ⟨lw_p84, List.forall_mem_cons.mpr ⟨lw_p85, List.forall_mem_cons.mpr ⟨lw_p86, List.forall_mem_cons.mpr ⟨lw_p87, List.forall_mem_cons.mpr ⟨lw_p88, List.forall_mem_cons.mpr ⟨lw_p89, List.forall_mem_cons.mpr ⟨lw_p90, List.forall_mem_cons.mpr ⟨lw_p91, List.forall_mem_cons.mpr ⟨lw_p92, List.forall_mem_cons.mpr ⟨lw_p93, List.forall_mem_cons.mpr ⟨lw_p94, fun _ h => absurd h List.not_mem_nil⟩⟩⟩⟩⟩⟩⟩⟩⟩⟩⟩⟩⟩⟩⟩
def lw_privs : List (MethodName × Nat) := lw_privs_1 ++ (lw_privs_2 ++ (lw_privs_3 ++ (lw_privs_4 ++ (lw_privs_5 ++ (lw_privs_6)))))
def lw_tbl : List Cond := k2_sels lw_privs ++ tables_1
theorem lw_privs_ok : ∀ q ∈ lw_privs, lw_okq q := by
  show ∀ q ∈ lw_privs_1 ++ (lw_privs_2 ++ (lw_privs_3 ++ (lw_privs_4 ++ (lw_privs_5 ++ (lw_privs_6))))), lw_okq q
  exact List.forall_mem_append.mpr ⟨lw_r1, List.forall_mem_append.mpr ⟨lw_r2, List.forall_mem_append.mpr ⟨lw_r3, List.forall_mem_append.mpr ⟨lw_r4, List.forall_mem_append.mpr ⟨lw_r5, lw_r6⟩⟩⟩⟩⟩
def va_AOA (ty : FieldType) (U : State) : Prop := (Cond.arrayOver (.array ty)).before #[] U = true
theorem va_AOA.use {ty : FieldType} {A : Array Value} {U : State} (h : va_AOA ty U) : (Cond.arrayOver (.array ty)).before A U = true := h
/-! ===== BEGIN words of one list among another's, by their places ===== -/
theorem goodIn_r {big : List Cond} (ws : List Cond) (ps : List Nat) (hp : ws = ps.filterMap (fun i => big[i]?)) (h : ws.all goodWord = true) : GoodIn big ws := by
  intro w hw
  have h1 := List.all_eq_true.mp h w hw
  rw [hp] at hw
  obtain ⟨i, -, hi⟩ := List.mem_filterMap.mp hw
  have hm : w ∈ big := by first | exact List.mem_of_getElem? hi | exact List.getElem?_mem hi
  exact ⟨hm, good_of_word h1⟩
theorem goodIn_app {big a b : List Cond} (ha : GoodIn big a) (hb : GoodIn big b) : GoodIn big (a ++ b) := fun w h => (List.mem_append.mp h).elim (ha w) (hb w)
theorem goodIn_ca {big a b : List Cond} {c : Cond} (ha : GoodIn big (c :: a)) (hb : GoodIn big b) : GoodIn big (c :: (a ++ b)) := fun w h => (List.mem_cons.mp h).elim (fun e => ha w (List.mem_cons.mpr (Or.inl e))) (fun h => (List.mem_append.mp h).elim (fun h => ha w (List.mem_cons.mpr (Or.inr h))) (hb w))
theorem goodIn_sub {big ws : List Cond} (hm : ∀ w ∈ ws, w ∈ big) (h : ws.all goodWord = true) : GoodIn big ws := fun w hw => ⟨hm w hw, good_of_word (List.all_eq_true.mp h w hw)⟩
/-! ===== END ===== -/

/-! ===== BEGIN new T[n][m]: the outer array a place, the inner ones among the pooled ===== -/
/-- f, but v at every address of l -/
def vr_up {α : Type} (f : Nat → α) (l : List Nat) (v : α) : Nat → α := fun a => if a ∈ l then v else f a
theorem vr_up_in {α : Type} {f : Nat → α} {l : List Nat} {v : α} {a : Nat} (h : a ∈ l) : vr_up f l v a = v := if_pos h
theorem vr_up_ne {α : Type} {f : Nat → α} {l : List Nat} {v : α} {a : Nat} (h : a ∉ l) : vr_up f l v a = f a := if_neg h
theorem vr_rows {L l : List Nat} {f : Nat → va_E} {e : va_E} (h : ∀ a, a ∈ l → a ∉ L) : va_pl L f ++ l.map (fun a => (a, e)) = va_pl (L ++ l) (vr_up f l e) := by
  unfold va_pl
  rw [List.map_append]
  congr 1
  · apply List.map_congr_left
    intro a ha
    rw [vr_up_ne (fun q => h a q ha)]
  · apply List.map_congr_left
    intro a ha
    rw [vr_up_in ha]
theorem vr_lay {X rows : va_W} {x : Nat × va_E} {pl : va_W} {D : va_G} {cl : List vw_C} {H : Heap} (hP : va_P D cl (((X ++ pl) ++ [x]) ++ rows) H) : va_P D cl ((X ++ [x]) ++ (pl ++ rows)) H := by
  rw [List.append_assoc (X ++ pl)] at hP
  have h := va_P.swap hP
  rw [← List.append_assoc X] at h
  have h2 := va_P.swap h
  rw [List.append_assoc (X ++ [x])] at h2
  exact h2
theorem vr_layD {X rows : va_W} {x : Nat × va_E} {pl : va_W} {A : Nat → Prop} (hD : va_D A (((X ++ pl) ++ [x]) ++ rows)) : va_D A ((X ++ [x]) ++ (pl ++ rows)) := by
  rw [List.append_assoc (X ++ pl)] at hD
  have h := va_D.swap hD
  rw [← List.append_assoc X] at h
  have h2 := va_D.swap h
  rw [List.append_assoc (X ++ [x])] at h2
  exact h2
theorem vr_outer (c : ClassId) (N h0 : Nat) : ∀ i : Nat, Jvm.Free.Multi.outerC c N h0 i = arrV c N (fun j => va_rf (if j < i then some (h0 + 1 + j) else none))
  | 0 => by
    show ({ cls := c, slots := Array.replicate N .null, vm := .none } : Cell) = _
    rw [arrV_new]
    refine congrArg (arrV c N) (funext fun j => ?_)
    simp [va_rf]
  | i + 1 => by
    show (Jvm.Free.Multi.outerC c N h0 i).setSlot i (.ref (h0 + 1 + i)) = _
    rw [vr_outer c N h0 i, arrV_store]
    refine congrArg (arrV c N) (funext fun j => ?_)
    by_cases e : j = i
    · subst e
      simp [updV, va_rf]
    · by_cases h : j < i
      · simp [updV, e, h, Nat.lt_succ_of_lt h]
      · simp [updV, e, h, show ¬ j < i + 1 by omega]
section VGM
variable {p : Program} {l : Launch} {e : Env} {R : Room} {s : State} {m : MethodId} {args : Array Value} {below : List Frame} {meth : Method} {c : Code} {H : Heap} {locs : List Loc} {cells slots : Nat} {Q : State → Prop}
variable {cc : ByteArray} {pc : Nat} {ls : Array Slot} {rest : List Value} {D : va_G} {cl : List vw_C} {A : Nat → Prop} {a : Nat} {tys : List (ClassId × FieldType)} {ws : va_W} {H0 : Heap}
theorem va_mna {X : va_W} {L : List Nat} {f : Nat → va_E} {cc : ByteArray} (hexec : p.tables.exec = Jvm.exec) (hb : c.code = cc) {own : String} {index : Nat} {ty : FieldType} {cy : ClassId} (hown : s.vm.findClass own = some m.cls) (hclink : (Cond.classLink own index ("[" ++ (FieldType.array ty).toString)).before args s = true) (hover : va_AOA ty s) (harr : (Cond.arrayClass ty).before args s = true) (hcy : s.vm.findClass (FieldType.array ty).toString = some cy)
    (hK : va_K D cl tys s) (hP : va_P D cl (X ++ va_pl L f) H) (hD : va_D A (X ++ va_pl L f)) (hS : va_S A H0 H locs) (hA : ∀ q, H0.size ≤ q → A q) {n k : Int32} {N' K' : Nat} {z : vp_A} (hn : ¬ n < 0) (hk : ¬ k < 0) (hN : n.toNatClampNeg = N') (hM : k.toNatClampNeg = K')
    (hb1 : N' * 4 ≤ 536870912) (hb2 : K' * componentBytes ty ≤ 536870912) (hb3 : K' ≤ 536870912) (hdf : fits ty (defaultValue ty) = true) (hdd : (defaultValue ty).isDefault = true) (hcells : cells + (1 + N') ≤ R.cells) (hslots : slots + (N' + N' * K') ≤ R.slots) (hz : ∀ c : ClassId, Jvm.Free.Multi.innerC c K' (defaultValue ty) = vp_cell c z) (hdg : decode cc pc = .ok (.multianewarray index 2, 4))
    (kk : ∀ (q : Nat) (r : Nat → Nat) (cA : ClassId) (H1 : Heap), (∀ i j : Nat, i < N' → j < N' → r i = r j → i = j) → (∀ i : Nat, i < N' → r i ∉ L) → va_K D cl (tys ++ [(cA, .array ty)]) s →
      va_P D cl ((X ++ [(q, .inl (cA, N', .inr (.inr (.inr (.inr (fun i => if i < N' then some (r i) else none))))))]) ++ va_pl (L ++ (List.range N').map r) (vr_up f ((List.range N').map r) (.inl (cy, z)))) H1 → va_D A ((X ++ [(q, .inl (cA, N', .inr (.inr (.inr (.inr (fun i => if i < N' then some (r i) else none))))))]) ++ va_pl (L ++ (List.range N').map r) (vr_up f ((List.range N').map r) (.inl (cy, z)))) → va_S A H0 H1 locs →
      W p l e R s m args below meth c H1 locs (cells + 1 + N') (slots + N' + N' * K') Q (F0 m (pc + 4) ls (.ref q :: rest))) : W p l e R s m args below meth c H locs cells slots Q (F0 m pc ls (.int k :: .int n :: rest)) := by
  subst hN
  subst hM
  intro T hT Xs
  obtain ⟨vm₁, cA, comp, -, fA, fC, hO, -, X', step⟩ := Xs.multianewarray2F hexec hown hclink (va_AOA.use hover) harr (g := F0 m pc ls (.int k :: .int n :: rest)) rfl (by rw [hb]; exact hdg) rfl hn hk hb1 hb2 hb3 hdf hdd hcells hslots
  have ec : some cy = some comp := hcy.symm.trans fC
  cases ec
  generalize hF : Jvm.Free.Multi.fill (T.setVm vm₁) cA cy n.toNatClampNeg k.toNatClampNeg (defaultValue ty) n.toNatClampNeg = F at X' step
  have hTh : (T.setVm vm₁).heap = H := hT
  obtain ⟨f1, f2, -, -⟩ := Jvm.Free.Multi.fill_facts (T.setVm vm₁) cA cy n.toNatClampNeg k.toNatClampNeg (defaultValue ty) n.toNatClampNeg
  rw [hF, hTh] at f1 f2
  have hold : ∀ x : Nat, x < H.size → F.heap[x]? = H[x]? := fun x hx => by
    have := Jvm.Free.Multi.fill_old (T.setVm vm₁) cA cy n.toNatClampNeg k.toNatClampNeg (defaultValue ty) (a := x) (by rw [hTh]; exact hx) n.toNatClampNeg
    rw [hF, hTh] at this
    exact this
  have hrow : ∀ j : Nat, j < n.toNatClampNeg → F.heap[H.size + 1 + j]? = some (vp_cell cy z) := fun j hj => by
    have := Jvm.Free.Multi.fill_inner (T.setVm vm₁) cA cy n.toNatClampNeg k.toNatClampNeg (defaultValue ty) n.toNatClampNeg j hj
    rw [hF, hTh, hz] at this
    exact this
  have hout : Jvm.Free.Multi.outerC cA n.toNatClampNeg H.size n.toNatClampNeg = vp_cell cA (n.toNatClampNeg, .inr (.inr (.inr (.inr (fun i => if i < n.toNatClampNeg then some (H.size + 1 + i) else none))))) := by
    rw [vp_cell_q]
    exact vr_outer cA n.toNatClampNeg H.size n.toNatClampNeg
  rw [hout] at f2
  have hlt : ∀ a, a ∈ L → a < H.size := fun a ha => by
    obtain ⟨k9, hk9⟩ := va_pl_get (X := X) (f := f) ha
    exact (hP k9 _ hk9).lt
  have hnl : ∀ i : Nat, i < n.toNatClampNeg → H.size + 1 + i ∉ L := fun i _ h => by
    have := hlt _ h
    omega
  have hnm : ∀ a, a ∈ (List.range n.toNatClampNeg).map (fun i => H.size + 1 + i) → a ∉ L := fun a ha h => by
    obtain ⟨i, -, rfl⟩ := List.mem_map.mp ha
    have := hlt _ h
    omega
  have hP0 : va_P D cl (X ++ va_pl L f) F.heap := hP.kept (fun k9 x hx => hold x.1 ((hP k9 x hx).lt))
  have hP1 : va_P D cl ((X ++ va_pl L f) ++ [(H.size, .inl (cA, n.toNatClampNeg, .inr (.inr (.inr (.inr (fun i => if i < n.toNatClampNeg then some (H.size + 1 + i) else none))))))]) F.heap := hP0.app (fun k9 x hx => by
    have h0 : k9 < 1 := (List.getElem?_eq_some_iff.mp hx).1
    rw [show k9 = 0 by omega] at hx
    cases hx
    exact f2)
  have hP2 : va_P D cl (((X ++ va_pl L f) ++ [(H.size, .inl (cA, n.toNatClampNeg, .inr (.inr (.inr (.inr (fun i => if i < n.toNatClampNeg then some (H.size + 1 + i) else none))))))]) ++ ((List.range n.toNatClampNeg).map (fun i => H.size + 1 + i)).map (fun a => (a, .inl (cy, z)))) F.heap := hP1.app (fun k9 x hx => by
    obtain ⟨a, ha, rfl⟩ := List.mem_map.mp (List.mem_of_getElem? hx)
    obtain ⟨i, hi, rfl⟩ := List.mem_map.mp ha
    exact hrow i (List.mem_range.mp hi))
  have hD2 : va_D A (((X ++ va_pl L f) ++ [(H.size, .inl (cA, n.toNatClampNeg, .inr (.inr (.inr (.inr (fun i => if i < n.toNatClampNeg then some (H.size + 1 + i) else none))))))]) ++ ((List.range n.toNatClampNeg).map (fun i => H.size + 1 + i)).map (fun a => (a, .inl (cy, z)))) := by
    have hD1 := hD.push (e := .inl (cA, n.toNatClampNeg, .inr (.inr (.inr (.inr (fun i => if i < n.toNatClampNeg then some (H.size + 1 + i) else none)))))) hP rfl (hA _ hS.1)
    generalize hW1 : (X ++ va_pl L f) ++ [(H.size, .inl (cA, n.toNatClampNeg, .inr (.inr (.inr (.inr (fun i => if i < n.toNatClampNeg then some (H.size + 1 + i) else none))))))] = W1 at hD1 hP1 ⊢
    have hle : ∀ (k9 : Nat) (x : Nat × va_E), W1[k9]? = some x → x.1 ≤ H.size := fun k9 x hx => by
      rw [← hW1] at hx
      by_cases hl : k9 < (X ++ va_pl L f).length
      · rw [List.getElem?_append_left hl] at hx
        exact Nat.le_of_lt ((hP k9 x hx).lt)
      · rw [List.getElem?_append_right (by omega)] at hx
        have h0 : k9 - (X ++ va_pl L f).length < 1 := (List.getElem?_eq_some_iff.mp hx).1
        rw [show k9 - (X ++ va_pl L f).length = 0 by omega] at hx
        cases hx
        exact Nat.le_refl _
    have hr : ∀ (k9 : Nat) (x : Nat × va_E), (((List.range n.toNatClampNeg).map (fun i => H.size + 1 + i)).map (fun a => ((a, .inl (cy, z)) : Nat × va_E)))[k9]? = some x → x.1 = H.size + 1 + k9 := fun k9 x hx => by
      rw [List.getElem?_map, List.getElem?_map] at hx
      by_cases h9 : k9 < n.toNatClampNeg
      · rw [List.getElem?_range h9] at hx
        cases hx
        rfl
      · have hn0 : (List.range n.toNatClampNeg)[k9]? = none := List.getElem?_eq_none (by rw [List.length_range]; omega)
        rw [hn0] at hx
        cases hx
    refine ⟨fun i j x y hi hj hxy => ?_, fun k9 x hx => ?_⟩
    · by_cases h1 : i < W1.length <;> by_cases h2 : j < W1.length
      · rw [List.getElem?_append_left h1] at hi
        rw [List.getElem?_append_left h2] at hj
        exact hD1.1 i j x y hi hj hxy
      · rw [List.getElem?_append_left h1] at hi
        rw [List.getElem?_append_right (by omega)] at hj
        have := hle _ _ hi
        have := hr _ _ hj
        omega
      · rw [List.getElem?_append_right (by omega)] at hi
        rw [List.getElem?_append_left h2] at hj
        have := hle _ _ hj
        have := hr _ _ hi
        omega
      · rw [List.getElem?_append_right (by omega)] at hi hj
        have := hr _ _ hi
        have := hr _ _ hj
        omega
    · by_cases h1 : k9 < W1.length
      · rw [List.getElem?_append_left h1] at hx
        exact hD1.2 k9 x hx
      · rw [List.getElem?_append_right (by omega)] at hx
        have := hr _ _ hx
        exact hA _ (by have := hS.1; omega)
  have hAr : ArrOfT s cA (.array ty) := fun N9 z9 => by
    obtain ⟨-, k9, hk9, cm9, hkk9⟩ := (hO 0 0 0).1
    exact ⟨(fun q hq => by cases hq), k9, hk9, cm9, hkk9⟩
  have hK2 : va_K D cl (tys ++ [(cA, .array ty)]) s := ⟨hK.1, fun k9 x hx => by
    by_cases hl : k9 < tys.length
    · rw [List.getElem?_append_left hl] at hx
      exact hK.2 k9 x hx
    · rw [List.getElem?_append_right (by omega)] at hx
      have h0 : k9 - tys.length < 1 := (List.getElem?_eq_some_iff.mp hx).1
      rw [show k9 - tys.length = 0 by omega] at hx
      cases hx
      exact ⟨hAr, fA⟩⟩
  obtain ⟨t, a1, b1⟩ := kk H.size (fun i => H.size + 1 + i) cA F.heap (fun i j _ _ h => by have h9 : H.size + 1 + i = H.size + 1 + j := h; omega) hnl hK2 (by rw [← vr_rows hnm]; exact vr_lay hP2) (by rw [← vr_rows hnm]; exact vr_layD hD2) ⟨by rw [f1]; have := hS.1; omega, fun x h1 h2 => (hold x (Nat.lt_of_lt_of_le h1 hS.1)).trans (hS.2.1 x h1 h2), hS.2.2⟩ F rfl X'
  refine ⟨t, step t ?_, b1⟩
  have e : T.heap.size = H.size := by rw [hT]
  rw [e]
  exact a1
end VGM
/-! ===== END ===== -/

def RX0 : String := "WindowDesk$Kept"
def TX0 : u_T := fun k => match k with
  | 0 => ("WindowDesk$Kept", "tree", "LWindowDesk$Tree;", true)
  | 1 => ("WindowDesk$Kept", "places", "[[I", true)
  | 2 => ("WindowDesk$Kept", "placed", "[Z", true)
  | _ => ("WindowDesk$Kept", "there", "Z", false)
def tyX0 : Nat → FieldType := fun k => match k with
  | 0 => .object "WindowDesk$Tree"
  | 1 => .array (.array .int)
  | 2 => .array .boolean
  | _ => .boolean
abbrev wsX00 : List Cond := u_ws RX0 TX0 4
theorem nmX0 : ∀ a, a < 4 → ∀ b, b < 4 → a ≠ b → (TX0 a).2.1 ≠ (TX0 b).2.1 := by decide +kernel
theorem tyX0_ok : ∀ k, k < 4 → parseFieldDescriptor (TX0 k).2.2.1 = some (tyX0 k) := by decide +kernel
abbrev cX0_init : ByteArray := prog_2_method_1_code
def yX0_init : MethodName := ⟨RX0, "<init>", "()V"⟩
abbrev cX0_has : ByteArray := prog_2_method_2_code
def yX0_has : MethodName := ⟨RX0, "has", "(I)Z"⟩
abbrev cX0_keepPlace : ByteArray := prog_2_method_3_code
def yX0_keepPlace : MethodName := ⟨RX0, "keepPlace", "(IZ[I)V"⟩
abbrev cX0_forget : ByteArray := prog_2_method_4_code
def yX0_forget : MethodName := ⟨RX0, "forget", "()V"⟩
def RX1 : String := "WindowDesk$Row"
def TX1 : u_T := fun k => match k with
  | 0 => ("WindowDesk$Row", "items", "[I", true)
  | _ => ("WindowDesk$Row", "size", "I", false)
def tyX1 : Nat → FieldType := fun k => match k with
  | 0 => .array .int
  | _ => .int
abbrev wsX10 : List Cond := u_ws RX1 TX1 2
theorem nmX1 : ∀ a, a < 2 → ∀ b, b < 2 → a ≠ b → (TX1 a).2.1 ≠ (TX1 b).2.1 := by decide +kernel
theorem tyX1_ok : ∀ k, k < 2 → parseFieldDescriptor (TX1 k).2.2.1 = some (tyX1 k) := by decide +kernel
abbrev cX1_init : ByteArray := prog_3_method_1_code
def yX1_init : MethodName := ⟨RX1, "<init>", "()V"⟩
abbrev cX1_size : ByteArray := prog_3_method_2_code
def yX1_size : MethodName := ⟨RX1, "size", "()I"⟩
abbrev cX1_get : ByteArray := prog_3_method_3_code
def yX1_get : MethodName := ⟨RX1, "get", "(I)I"⟩
abbrev cX1_placeOf : ByteArray := prog_3_method_4_code
def yX1_placeOf : MethodName := ⟨RX1, "placeOf", "(I)I"⟩
abbrev cX1_clear : ByteArray := prog_3_method_5_code
def yX1_clear : MethodName := ⟨RX1, "clear", "()V"⟩
abbrev cX1_append : ByteArray := prog_3_method_6_code
def yX1_append : MethodName := ⟨RX1, "append", "(I)V"⟩
abbrev cX1_takeOut : ByteArray := prog_3_method_7_code
def yX1_takeOut : MethodName := ⟨RX1, "takeOut", "(I)V"⟩
abbrev cX1_putLast : ByteArray := prog_3_method_8_code
def yX1_putLast : MethodName := ⟨RX1, "putLast", "(I)V"⟩
abbrev cX1_putFirst : ByteArray := prog_3_method_9_code
def yX1_putFirst : MethodName := ⟨RX1, "putFirst", "(I)V"⟩
abbrev cX1_copyFrom : ByteArray := prog_3_method_10_code
def yX1_copyFrom : MethodName := ⟨RX1, "copyFrom", "(LWindowDesk$Row;)V"⟩
def RX2 : String := "WindowDesk$Screen"
def TX2 : u_T := fun k => match k with
  | 0 => ("WindowDesk$Screen", "size", "[I", true)
  | 1 => ("WindowDesk$Screen", "tree", "LWindowDesk$Tree;", true)
  | 2 => ("WindowDesk$Screen", "kept", "LWindowDesk$Kept;", true)
  | _ => ("WindowDesk$Screen", "there", "Z", false)
def tyX2 : Nat → FieldType := fun k => match k with
  | 0 => .array .int
  | 1 => .object "WindowDesk$Tree"
  | 2 => .object "WindowDesk$Kept"
  | _ => .boolean
abbrev wsX20 : List Cond := u_ws RX2 TX2 4
theorem nmX2 : ∀ a, a < 4 → ∀ b, b < 4 → a ≠ b → (TX2 a).2.1 ≠ (TX2 b).2.1 := by decide +kernel
theorem tyX2_ok : ∀ k, k < 4 → parseFieldDescriptor (TX2 k).2.2.1 = some (tyX2 k) := by decide +kernel
abbrev cX2_init : ByteArray := prog_4_method_1_code
def yX2_init : MethodName := ⟨RX2, "<init>", "()V"⟩
abbrev cX2_setSize : ByteArray := prog_4_method_2_code
def yX2_setSize : MethodName := ⟨RX2, "setSize", "([I)V"⟩
def RX3 : String := "WindowDesk$Tree"
def TX3 : u_T := fun k => match k with
  | 0 => ("WindowDesk$Tree", "tabs", "LWindowDesk$Row;", true)
  | 1 => ("WindowDesk$Tree", "homes", "[I", true)
  | 2 => ("WindowDesk$Tree", "tabLeast", "[[I", true)
  | 3 => ("WindowDesk$Tree", "forms", "[I", true)
  | 4 => ("WindowDesk$Tree", "shares", "[I", true)
  | 5 => ("WindowDesk$Tree", "firsts", "[I", true)
  | 6 => ("WindowDesk$Tree", "seconds", "[I", true)
  | 7 => ("WindowDesk$Tree", "aboves", "[I", true)
  | 8 => ("WindowDesk$Tree", "shown", "[I", true)
  | 9 => ("WindowDesk$Tree", "root", "I", false)
  | 10 => ("WindowDesk$Tree", "order", "[I", true)
  | 11 => ("WindowDesk$Tree", "waiting", "[I", true)
  | 12 => ("WindowDesk$Tree", "nodes", "I", false)
  | 13 => ("WindowDesk$Tree", "least", "[[I", true)
  | 14 => ("WindowDesk$Tree", "starts", "[[I", true)
  | _ => ("WindowDesk$Tree", "lengths", "[[I", true)
def tyX3 : Nat → FieldType := fun k => match k with
  | 0 => .object "WindowDesk$Row"
  | 1 => .array .int
  | 2 => .array (.array .int)
  | 3 => .array .int
  | 4 => .array .int
  | 5 => .array .int
  | 6 => .array .int
  | 7 => .array .int
  | 8 => .array .int
  | 9 => .int
  | 10 => .array .int
  | 11 => .array .int
  | 12 => .int
  | 13 => .array (.array .int)
  | 14 => .array (.array .int)
  | _ => .array (.array .int)
abbrev wsX30 : List Cond := u_ws RX3 TX3 16
theorem nmX3 : ∀ a, a < 16 → ∀ b, b < 16 → a ≠ b → (TX3 a).2.1 ≠ (TX3 b).2.1 := by decide +kernel
theorem tyX3_ok : ∀ k, k < 16 → parseFieldDescriptor (TX3 k).2.2.1 = some (tyX3 k) := by decide +kernel
abbrev cX3_init : ByteArray := prog_5_method_1_code
def yX3_init : MethodName := ⟨RX3, "<init>", "()V"⟩
abbrev cX3_clear : ByteArray := prog_5_method_2_code
def yX3_clear : MethodName := ⟨RX3, "clear", "()V"⟩
abbrev cX3_copyFrom : ByteArray := prog_5_method_3_code
def yX3_copyFrom : MethodName := ⟨RX3, "copyFrom", "(LWindowDesk$Tree;)V"⟩
abbrev cX3_leafOf : ByteArray := prog_5_method_4_code
def yX3_leafOf : MethodName := ⟨RX3, "leafOf", "(I)I"⟩
abbrev cX3_isShown : ByteArray := prog_5_method_5_code
def yX3_isShown : MethodName := ⟨RX3, "isShown", "(I)Z"⟩
abbrev cX3_leaves : ByteArray := prog_5_method_6_code
def yX3_leaves : MethodName := ⟨RX3, "leaves", "()I"⟩
abbrev cX3_cuts : ByteArray := prog_5_method_7_code
def yX3_cuts : MethodName := ⟨RX3, "cuts", "()I"⟩
abbrev cX3_leafNumber : ByteArray := prog_5_method_8_code
def yX3_leafNumber : MethodName := ⟨RX3, "leafNumber", "(I)I"⟩
abbrev cX3_shownIn : ByteArray := prog_5_method_9_code
def yX3_shownIn : MethodName := ⟨RX3, "shownIn", "(I)I"⟩
abbrev cX3_tabsIn : ByteArray := prog_5_method_10_code
def yX3_tabsIn : MethodName := ⟨RX3, "tabsIn", "(I)I"⟩
abbrev cX3_tabIn : ByteArray := prog_5_method_11_code
def yX3_tabIn : MethodName := ⟨RX3, "tabIn", "(II)I"⟩
abbrev cX3_leastOf : ByteArray := prog_5_method_12_code
def yX3_leastOf : MethodName := ⟨RX3, "leastOf", "(I)I"⟩
abbrev cX3_fits : ByteArray := prog_5_method_13_code
def yX3_fits : MethodName := ⟨RX3, "fits", "([I)Z"⟩
abbrev cX3_nearestCut : ByteArray := prog_5_method_14_code
def yX3_nearestCut : MethodName := ⟨RX3, "nearestCut", "(II)I"⟩
abbrev cX3_changeShare : ByteArray := prog_5_method_15_code
def yX3_changeShare : MethodName := ⟨RX3, "changeShare", "(II)I"⟩
abbrev cX3_show : ByteArray := prog_5_method_16_code
def yX3_show : MethodName := ⟨RX3, "show", "(I)V"⟩
abbrev cX3_addTab : ByteArray := prog_5_method_17_code
def yX3_addTab : MethodName := ⟨RX3, "addTab", "(IIII)V"⟩
abbrev cX3_addAllTabs : ByteArray := prog_5_method_18_code
def yX3_addAllTabs : MethodName := ⟨RX3, "addAllTabs", "(LWindowDesk$Tree;)V"⟩
abbrev cX3_cutLeaf : ByteArray := prog_5_method_19_code
def yX3_cutLeaf : MethodName := ⟨RX3, "cutLeaf", "(IIZIII)V"⟩
abbrev cX3_takeOut : ByteArray := prog_5_method_20_code
def yX3_takeOut : MethodName := ⟨RX3, "takeOut", "(I)V"⟩
abbrev cX3_nextShown : ByteArray := prog_5_method_21_code
def yX3_nextShown : MethodName := ⟨RX3, "nextShown", "(II)I"⟩
abbrev cX3_dropLeaf : ByteArray := prog_5_method_22_code
def yX3_dropLeaf : MethodName := ⟨RX3, "dropLeaf", "(I)V"⟩
abbrev cX3_putInPlaceOf : ByteArray := prog_5_method_23_code
def yX3_putInPlaceOf : MethodName := ⟨RX3, "putInPlaceOf", "(II)V"⟩
abbrev cX3_enter : ByteArray := prog_5_method_24_code
def yX3_enter : MethodName := ⟨RX3, "enter", "(IIII)V"⟩
abbrev cX3_newNode : ByteArray := prog_5_method_25_code
def yX3_newNode : MethodName := ⟨RX3, "newNode", "(I)I"⟩
abbrev cX3_settle : ByteArray := prog_5_method_26_code
def yX3_settle : MethodName := ⟨RX3, "settle", "()V"⟩
abbrev cX3_listNodes : ByteArray := prog_5_method_27_code
def yX3_listNodes : MethodName := ⟨RX3, "listNodes", "()V"⟩
abbrev cX3_measureLeaves : ByteArray := prog_5_method_28_code
def yX3_measureLeaves : MethodName := ⟨RX3, "measureLeaves", "(I)V"⟩
abbrev cX3_measureCuts : ByteArray := prog_5_method_29_code
def yX3_measureCuts : MethodName := ⟨RX3, "measureCuts", "(I)V"⟩
abbrev cX3_lay : ByteArray := prog_5_method_30_code
def yX3_lay : MethodName := ⟨RX3, "lay", "([I)V"⟩
abbrev cX3_divide : ByteArray := prog_5_method_31_code
def yX3_divide : MethodName := ⟨RX3, "divide", "(I)V"⟩
abbrev cX3_firstPart : ByteArray := prog_5_method_32_code
def yX3_firstPart : MethodName := ⟨RX3, "firstPart", "(II)I"⟩
abbrev cX3_isWide : ByteArray := prog_5_method_33_code
def yX3_isWide : MethodName := ⟨RX3, "isWide", "(I)Z"⟩
abbrev cX3_startOf : ByteArray := prog_5_method_34_code
def yX3_startOf : MethodName := ⟨RX3, "startOf", "(II)I"⟩
abbrev cX3_lengthOf : ByteArray := prog_5_method_35_code
def yX3_lengthOf : MethodName := ⟨RX3, "lengthOf", "(II)I"⟩
abbrev cX3_endOf : ByteArray := prog_5_method_36_code
def yX3_endOf : MethodName := ⟨RX3, "endOf", "(II)I"⟩
abbrev cX3_shownAt : ByteArray := prog_5_method_37_code
def yX3_shownAt : MethodName := ⟨RX3, "shownAt", "(II)I"⟩
abbrev cX3_spans : ByteArray := prog_5_method_38_code
def yX3_spans : MethodName := ⟨RX3, "spans", "(III)Z"⟩
abbrev cX3_neighbourTo : ByteArray := prog_5_method_39_code
def yX3_neighbourTo : MethodName := ⟨RX3, "neighbourTo", "(II)I"⟩
abbrev cX3_meets : ByteArray := prog_5_method_40_code
def yX3_meets : MethodName := ⟨RX3, "meets", "(III)Z"⟩
abbrev cX3_commonBorder : ByteArray := prog_5_method_41_code
def yX3_commonBorder : MethodName := ⟨RX3, "commonBorder", "(III)I"⟩
def RX4 : String := "WindowDesk$Window"
def TX4 : u_T := fun k => match k with
  | 0 => ("WindowDesk$Window", "least", "[I", true)
  | 1 => ("WindowDesk$Window", "place", "[I", true)
  | 2 => ("WindowDesk$Window", "there", "Z", false)
  | 3 => ("WindowDesk$Window", "kind", "I", false)
  | 4 => ("WindowDesk$Window", "owner", "I", false)
  | _ => ("WindowDesk$Window", "screen", "I", false)
def tyX4 : Nat → FieldType := fun k => match k with
  | 0 => .array .int
  | 1 => .array .int
  | 2 => .boolean
  | 3 => .int
  | 4 => .int
  | _ => .int
abbrev wsX40 : List Cond := u_ws RX4 TX4 6
theorem nmX4 : ∀ a, a < 6 → ∀ b, b < 6 → a ≠ b → (TX4 a).2.1 ≠ (TX4 b).2.1 := by decide +kernel
theorem tyX4_ok : ∀ k, k < 6 → parseFieldDescriptor (TX4 k).2.2.1 = some (tyX4 k) := by decide +kernel
abbrev cX4_init : ByteArray := prog_6_method_1_code
def yX4_init : MethodName := ⟨RX4, "<init>", "()V"⟩
abbrev cX4_prepare : ByteArray := prog_6_method_2_code
def yX4_prepare : MethodName := ⟨RX4, "prepare", "(IIII)V"⟩
abbrev cX4_isTiled : ByteArray := prog_6_method_3_code
def yX4_isTiled : MethodName := ⟨RX4, "isTiled", "()Z"⟩
abbrev cX4_isFloating : ByteArray := prog_6_method_4_code
def yX4_isFloating : MethodName := ⟨RX4, "isFloating", "()Z"⟩
abbrev cX4_isSticky : ByteArray := prog_6_method_5_code
def yX4_isSticky : MethodName := ⟨RX4, "isSticky", "()Z"⟩
abbrev cX4_isOn : ByteArray := prog_6_method_6_code
def yX4_isOn : MethodName := ⟨RX4, "isOn", "(I)Z"⟩
abbrev cX4_isLooseOn : ByteArray := prog_6_method_7_code
def yX4_isLooseOn : MethodName := ⟨RX4, "isLooseOn", "(I)Z"⟩
abbrev cX4_fallsUnder : ByteArray := prog_6_method_8_code
def yX4_fallsUnder : MethodName := ⟨RX4, "fallsUnder", "(I)Z"⟩
abbrev cX4_canBeWhole : ByteArray := prog_6_method_9_code
def yX4_canBeWhole : MethodName := ⟨RX4, "canBeWhole", "([I)Z"⟩
abbrev cX4_nearest : ByteArray := prog_6_method_10_code
def yX4_nearest : MethodName := ⟨RX4, "nearest", "(II[I)I"⟩
abbrev cX4_putAt : ByteArray := prog_6_method_11_code
def yX4_putAt : MethodName := ⟨RX4, "putAt", "(II[I)V"⟩
abbrev cX4_sendTo : ByteArray := prog_6_method_12_code
def yX4_sendTo : MethodName := ⟨RX4, "sendTo", "(I[I)V"⟩
abbrev cX4_coversPoint : ByteArray := prog_6_method_13_code
def yX4_coversPoint : MethodName := ⟨RX4, "coversPoint", "(III[I)Z"⟩
abbrev cX4_spans : ByteArray := prog_6_method_14_code
def yX4_spans : MethodName := ⟨RX4, "spans", "(II[I)Z"⟩
def RX5 : String := "WindowDesk"
def TX5 : u_T := fun k => match k with
  | 0 => ("WindowDesk", "windows", "[LWindowDesk$Window;", true)
  | 1 => ("WindowDesk", "screens", "[LWindowDesk$Screen;", true)
  | 2 => ("WindowDesk", "focusRow", "LWindowDesk$Row;", true)
  | 3 => ("WindowDesk", "stack", "LWindowDesk$Row;", true)
  | 4 => ("WindowDesk", "trial", "LWindowDesk$Tree;", true)
  | 5 => ("WindowDesk", "group", "[Z", true)
  | 6 => ("WindowDesk", "asked", "[I", true)
  | 7 => ("WindowDesk", "distances", "[I", true)
  | _ => ("WindowDesk", "reached", "LWindowDesk$Row;", true)
def tyX5 : Nat → FieldType := fun k => match k with
  | 0 => .array (.object "WindowDesk$Window")
  | 1 => .array (.object "WindowDesk$Screen")
  | 2 => .object "WindowDesk$Row"
  | 3 => .object "WindowDesk$Row"
  | 4 => .object "WindowDesk$Tree"
  | 5 => .array .boolean
  | 6 => .array .int
  | 7 => .array .int
  | _ => .object "WindowDesk$Row"
abbrev wsX50 : List Cond := u_ws RX5 TX5 9
theorem nmX5 : ∀ a, a < 9 → ∀ b, b < 9 → a ≠ b → (TX5 a).2.1 ≠ (TX5 b).2.1 := by decide +kernel
theorem tyX5_ok : ∀ k, k < 9 → parseFieldDescriptor (TX5 k).2.2.1 = some (tyX5 k) := by decide +kernel
abbrev cX5_init : ByteArray := prog_1_method_1_code
def yX5_init : MethodName := ⟨RX5, "<init>", "()V"⟩
abbrev cX5_screen : ByteArray := prog_1_method_2_code
def yX5_screen : MethodName := ⟨RX5, "screen", "(III)I"⟩
abbrev cX5_gone : ByteArray := prog_1_method_3_code
def yX5_gone : MethodName := ⟨RX5, "gone", "(I)I"⟩
abbrev cX5_open : ByteArray := prog_1_method_4_code
def yX5_open : MethodName := ⟨RX5, "open", "(IIII)I"⟩
abbrev cX5_close : ByteArray := prog_1_method_5_code
def yX5_close : MethodName := ⟨RX5, "close", "(I)I"⟩
abbrev cX5_focus : ByteArray := prog_1_method_6_code
def yX5_focus : MethodName := ⟨RX5, "focus", "(I)I"⟩
abbrev cX5_back : ByteArray := prog_1_method_7_code
def yX5_back : MethodName := ⟨RX5, "back", "()I"⟩
abbrev cX5_toward : ByteArray := prog_1_method_8_code
def yX5_toward : MethodName := ⟨RX5, "toward", "(I)I"⟩
abbrev cX5_steps : ByteArray := prog_1_method_9_code
def yX5_steps : MethodName := ⟨RX5, "steps", "(II)I"⟩
abbrev cX5_drag : ByteArray := prog_1_method_10_code
def yX5_drag : MethodName := ⟨RX5, "drag", "(III)I"⟩
abbrev cX5_move : ByteArray := prog_1_method_11_code
def yX5_move : MethodName := ⟨RX5, "move", "(III)I"⟩
abbrev cX5_share : ByteArray := prog_1_method_12_code
def yX5_share : MethodName := ⟨RX5, "share", "(III)I"⟩
abbrev cX5_area : ByteArray := prog_1_method_13_code
def yX5_area : MethodName := ⟨RX5, "area", "(II)I"⟩
abbrev cX5_about : ByteArray := prog_1_method_14_code
def yX5_about : MethodName := ⟨RX5, "about", "(II)I"⟩
abbrev cX5_isOf : ByteArray := prog_1_method_15_code
def yX5_isOf : MethodName := ⟨RX5, "isOf", "(II)I"⟩
abbrev cX5_at : ByteArray := prog_1_method_16_code
def yX5_at : MethodName := ⟨RX5, "at", "(III)I"⟩
abbrev cX5_neighbour : ByteArray := prog_1_method_17_code
def yX5_neighbour : MethodName := ⟨RX5, "neighbour", "(II)I"⟩
abbrev cX5_told : ByteArray := prog_1_method_18_code
def yX5_told : MethodName := ⟨RX5, "told", "(II)I"⟩
abbrev cX5_tab : ByteArray := prog_1_method_19_code
def yX5_tab : MethodName := ⟨RX5, "tab", "(III)I"⟩
abbrev cX5_count : ByteArray := prog_1_method_20_code
def yX5_count : MethodName := ⟨RX5, "count", "(I)I"⟩
abbrev cX5_isScreen : ByteArray := prog_1_method_21_code
def yX5_isScreen : MethodName := ⟨RX5, "isScreen", "(I)Z"⟩
abbrev cX5_isScreenSize : ByteArray := prog_1_method_22_code
def yX5_isScreenSize : MethodName := ⟨RX5, "isScreenSize", "(I)Z"⟩
abbrev cX5_isWindowSize : ByteArray := prog_1_method_23_code
def yX5_isWindowSize : MethodName := ⟨RX5, "isWindowSize", "(I)Z"⟩
abbrev cX5_isSide : ByteArray := prog_1_method_24_code
def yX5_isSide : MethodName := ⟨RX5, "isSide", "(I)Z"⟩
abbrev cX5_isAxis : ByteArray := prog_1_method_25_code
def yX5_isAxis : MethodName := ⟨RX5, "isAxis", "(I)Z"⟩
abbrev cX5_isPlace : ByteArray := prog_1_method_26_code
def yX5_isPlace : MethodName := ⟨RX5, "isPlace", "(I)Z"⟩
abbrev cX5_isWindow : ByteArray := prog_1_method_27_code
def yX5_isWindow : MethodName := ⟨RX5, "isWindow", "(I)Z"⟩
abbrev cX5_isShownTile : ByteArray := prog_1_method_28_code
def yX5_isShownTile : MethodName := ⟨RX5, "isShownTile", "(I)Z"⟩
abbrev cX5_between : ByteArray := prog_1_method_29_code
def yX5_between : MethodName := ⟨RX5, "between", "(III)I"⟩
abbrev cX5_leastScreenBut : ByteArray := prog_1_method_30_code
def yX5_leastScreenBut : MethodName := ⟨RX5, "leastScreenBut", "(I)I"⟩
abbrev cX5_screenAtHand : ByteArray := prog_1_method_31_code
def yX5_screenAtHand : MethodName := ⟨RX5, "screenAtHand", "()I"⟩
abbrev cX5_screensThere : ByteArray := prog_1_method_32_code
def yX5_screensThere : MethodName := ⟨RX5, "screensThere", "()I"⟩
abbrev cX5_screensWithKept : ByteArray := prog_1_method_33_code
def yX5_screensWithKept : MethodName := ⟨RX5, "screensWithKept", "()I"⟩
abbrev cX5_windowsUnder : ByteArray := prog_1_method_34_code
def yX5_windowsUnder : MethodName := ⟨RX5, "windowsUnder", "(I)I"⟩
abbrev cX5_looseOnes : ByteArray := prog_1_method_35_code
def yX5_looseOnes : MethodName := ⟨RX5, "looseOnes", "(I)I"⟩
abbrev cX5_windowsOn : ByteArray := prog_1_method_36_code
def yX5_windowsOn : MethodName := ⟨RX5, "windowsOn", "(I)I"⟩
abbrev cX5_looseOnesFit : ByteArray := prog_1_method_37_code
def yX5_looseOnesFit : MethodName := ⟨RX5, "looseOnesFit", "(I[I)Z"⟩
abbrev cX5_sendAll : ByteArray := prog_1_method_38_code
def yX5_sendAll : MethodName := ⟨RX5, "sendAll", "(II)V"⟩
abbrev cX5_treeOf : ByteArray := prog_1_method_39_code
def yX5_treeOf : MethodName := ⟨RX5, "treeOf", "(I)LWindowDesk$Tree;"⟩
abbrev cX5_layTrees : ByteArray := prog_1_method_40_code
def yX5_layTrees : MethodName := ⟨RX5, "layTrees", "()V"⟩
abbrev cX5_startOf : ByteArray := prog_1_method_41_code
def yX5_startOf : MethodName := ⟨RX5, "startOf", "(II)I"⟩
abbrev cX5_lengthOf : ByteArray := prog_1_method_42_code
def yX5_lengthOf : MethodName := ⟨RX5, "lengthOf", "(II)I"⟩
abbrev cX5_leastFreeNumber : ByteArray := prog_1_method_43_code
def yX5_leastFreeNumber : MethodName := ⟨RX5, "leastFreeNumber", "()I"⟩
abbrev cX5_findRoom : ByteArray := prog_1_method_44_code
def yX5_findRoom : MethodName := ⟨RX5, "findRoom", "(II)Z"⟩
abbrev cX5_middleOf : ByteArray := prog_1_method_45_code
def yX5_middleOf : MethodName := ⟨RX5, "middleOf", "(LWindowDesk$Window;I)I"⟩
abbrev cX5_tile : ByteArray := prog_1_method_46_code
def yX5_tile : MethodName := ⟨RX5, "tile", "(ILWindowDesk$Screen;)Z"⟩
abbrev cX5_leafAtHand : ByteArray := prog_1_method_47_code
def yX5_leafAtHand : MethodName := ⟨RX5, "leafAtHand", "(LWindowDesk$Tree;)I"⟩
abbrev cX5_tryCut : ByteArray := prog_1_method_48_code
def yX5_tryCut : MethodName := ⟨RX5, "tryCut", "(ILWindowDesk$Screen;II)Z"⟩
abbrev cX5_tryTab : ByteArray := prog_1_method_49_code
def yX5_tryTab : MethodName := ⟨RX5, "tryTab", "(ILWindowDesk$Screen;I)Z"⟩
abbrev cX5_end : ByteArray := prog_1_method_50_code
def yX5_end : MethodName := ⟨RX5, "end", "(I)V"⟩
abbrev cX5_giveFocus : ByteArray := prog_1_method_51_code
def yX5_giveFocus : MethodName := ⟨RX5, "giveFocus", "(I)V"⟩
abbrev cX5_raise : ByteArray := prog_1_method_52_code
def yX5_raise : MethodName := ⟨RX5, "raise", "(II)V"⟩
abbrev cX5_dialogsOf : ByteArray := prog_1_method_53_code
def yX5_dialogsOf : MethodName := ⟨RX5, "dialogsOf", "(I)I"⟩
abbrev cX5_lowestDialogOf : ByteArray := prog_1_method_54_code
def yX5_lowestDialogOf : MethodName := ⟨RX5, "lowestDialogOf", "(I)I"⟩
abbrev cX5_reachFrom : ByteArray := prog_1_method_55_code
def yX5_reachFrom : MethodName := ⟨RX5, "reachFrom", "(I)V"⟩
abbrev cX5_tryDrag : ByteArray := prog_1_method_56_code
def yX5_tryDrag : MethodName := ⟨RX5, "tryDrag", "(III)V"⟩
abbrev cX5_axisOf : ByteArray := prog_1_method_57_code
def yX5_axisOf : MethodName := ⟨RX5, "axisOf", "(I)I"⟩
abbrev cX5_isAfter : ByteArray := prog_1_method_58_code
def yX5_isAfter : MethodName := ⟨RX5, "isAfter", "(I)Z"⟩
abbrev cX5_gatherWithDialogs : ByteArray := prog_1_method_59_code
def yX5_gatherWithDialogs : MethodName := ⟨RX5, "gatherWithDialogs", "(I)V"⟩
abbrev cX5_gatherDialogs : ByteArray := prog_1_method_60_code
def yX5_gatherDialogs : MethodName := ⟨RX5, "gatherDialogs", "()V"⟩
abbrev cX5_groupCanBeWhole : ByteArray := prog_1_method_61_code
def yX5_groupCanBeWhole : MethodName := ⟨RX5, "groupCanBeWhole", "(I)Z"⟩
abbrev cX5_sendGroup : ByteArray := prog_1_method_62_code
def yX5_sendGroup : MethodName := ⟨RX5, "sendGroup", "(I)V"⟩
abbrev cX5_keepAll : ByteArray := prog_1_method_63_code
def yX5_keepAll : MethodName := ⟨RX5, "keepAll", "(I)V"⟩
abbrev cX5_forgetKeptWith : ByteArray := prog_1_method_64_code
def yX5_forgetKeptWith : MethodName := ⟨RX5, "forgetKeptWith", "(I)V"⟩
abbrev cX5_bringBack : ByteArray := prog_1_method_65_code
def yX5_bringBack : MethodName := ⟨RX5, "bringBack", "(I)I"⟩
abbrev cX5_takeBack : ByteArray := prog_1_method_66_code
def yX5_takeBack : MethodName := ⟨RX5, "takeBack", "(ILWindowDesk$Kept;)V"⟩
abbrev cX5_forgetKeptWithGroup : ByteArray := prog_1_method_67_code
def yX5_forgetKeptWithGroup : MethodName := ⟨RX5, "forgetKeptWithGroup", "()V"⟩
def RX6 : String := "WindowDeskModel"
def TX6 : u_T := fun k => match k with
  | 0 => ("WindowDeskModel", "wide", "[I", true)
  | 1 => ("WindowDeskModel", "high", "[I", true)
  | 2 => ("WindowDeskModel", "kind", "[I", true)
  | 3 => ("WindowDeskModel", "w", "[I", true)
  | 4 => ("WindowDeskModel", "h", "[I", true)
  | 5 => ("WindowDeskModel", "owner", "[I", true)
  | 6 => ("WindowDeskModel", "home", "[I", true)
  | 7 => ("WindowDeskModel", "x", "[I", true)
  | 8 => ("WindowDeskModel", "y", "[I", true)
  | 9 => ("WindowDeskModel", "stack", "[I", true)
  | 10 => ("WindowDeskModel", "stacked", "I", false)
  | 11 => ("WindowDeskModel", "row", "[I", true)
  | 12 => ("WindowDeskModel", "rowed", "I", false)
  | 13 => ("WindowDeskModel", "root", "[I", true)
  | 14 => ("WindowDeskModel", "type", "[I", true)
  | 15 => ("WindowDeskModel", "one", "[I", true)
  | 16 => ("WindowDeskModel", "two", "[I", true)
  | 17 => ("WindowDeskModel", "part", "[I", true)
  | 18 => ("WindowDeskModel", "tabs", "[I", true)
  | 19 => ("WindowDeskModel", "tabMany", "[I", true)
  | 20 => ("WindowDeskModel", "shown", "[I", true)
  | 21 => ("WindowDeskModel", "isKept", "[Z", true)
  | 22 => ("WindowDeskModel", "keptHas", "[Z", true)
  | 23 => ("WindowDeskModel", "keptX", "[I", true)
  | 24 => ("WindowDeskModel", "keptY", "[I", true)
  | 25 => ("WindowDeskModel", "ax", "[I", true)
  | 26 => ("WindowDeskModel", "ay", "[I", true)
  | 27 => ("WindowDeskModel", "aw", "[I", true)
  | 28 => ("WindowDeskModel", "ah", "[I", true)
  | 29 => ("WindowDeskModel", "leaves", "[I", true)
  | 30 => ("WindowDeskModel", "leafMany", "I", false)
  | 31 => ("WindowDeskModel", "comes", "[Z", true)
  | _ => ("WindowDeskModel", "far", "[I", true)
def tyX6 : Nat → FieldType := fun k => match k with
  | 0 => .array .int
  | 1 => .array .int
  | 2 => .array .int
  | 3 => .array .int
  | 4 => .array .int
  | 5 => .array .int
  | 6 => .array .int
  | 7 => .array .int
  | 8 => .array .int
  | 9 => .array .int
  | 10 => .int
  | 11 => .array .int
  | 12 => .int
  | 13 => .array .int
  | 14 => .array .int
  | 15 => .array .int
  | 16 => .array .int
  | 17 => .array .int
  | 18 => .array .int
  | 19 => .array .int
  | 20 => .array .int
  | 21 => .array .boolean
  | 22 => .array .boolean
  | 23 => .array .int
  | 24 => .array .int
  | 25 => .array .int
  | 26 => .array .int
  | 27 => .array .int
  | 28 => .array .int
  | 29 => .array .int
  | 30 => .int
  | 31 => .array .boolean
  | _ => .array .int
abbrev wsX60 : List Cond := u_ws RX6 TX6 33
theorem nmX6 : ∀ a, a < 33 → ∀ b, b < 33 → a ≠ b → (TX6 a).2.1 ≠ (TX6 b).2.1 := by decide +kernel
theorem tyX6_ok : ∀ k, k < 33 → parseFieldDescriptor (TX6 k).2.2.1 = some (tyX6 k) := by decide +kernel
abbrev cX6_init : ByteArray := prog_8_method_1_code
def yX6_init : MethodName := ⟨RX6, "<init>", "()V"⟩
abbrev cX6_isIn : ByteArray := prog_8_method_2_code
def yX6_isIn : MethodName := ⟨RX6, "isIn", "(III)Z"⟩
abbrev cX6_half : ByteArray := prog_8_method_3_code
def yX6_half : MethodName := ⟨RX6, "half", "(I)I"⟩
abbrev cX6_nearest : ByteArray := prog_8_method_4_code
def yX6_nearest : MethodName := ⟨RX6, "nearest", "(II)I"⟩
abbrev cX6_isWindow : ByteArray := prog_8_method_5_code
def yX6_isWindow : MethodName := ⟨RX6, "isWindow", "(I)Z"⟩
abbrev cX6_isFloating : ByteArray := prog_8_method_6_code
def yX6_isFloating : MethodName := ⟨RX6, "isFloating", "(I)Z"⟩
abbrev cX6_spot : ByteArray := prog_8_method_8_code
def yX6_spot : MethodName := ⟨RX6, "spot", "(II)I"⟩
abbrev cX6_clearTree : ByteArray := prog_8_method_9_code
def yX6_clearTree : MethodName := ⟨RX6, "clearTree", "(I)V"⟩
abbrev cX6_copyTree : ByteArray := prog_8_method_10_code
def yX6_copyTree : MethodName := ⟨RX6, "copyTree", "(II)V"⟩
abbrev cX6_newNode : ByteArray := prog_8_method_11_code
def yX6_newNode : MethodName := ⟨RX6, "newNode", "(II)I"⟩
abbrev cX6_newLeaf : ByteArray := prog_8_method_12_code
def yX6_newLeaf : MethodName := ⟨RX6, "newLeaf", "(II)I"⟩
abbrev cX6_addTab : ByteArray := prog_8_method_13_code
def yX6_addTab : MethodName := ⟨RX6, "addTab", "(III)V"⟩
abbrev cX6_placeOfTab : ByteArray := prog_8_method_14_code
def yX6_placeOfTab : MethodName := ⟨RX6, "placeOfTab", "(III)I"⟩
abbrev cX6_leafOf : ByteArray := prog_8_method_15_code
def yX6_leafOf : MethodName := ⟨RX6, "leafOf", "(II)I"⟩
abbrev cX6_above : ByteArray := prog_8_method_16_code
def yX6_above : MethodName := ⟨RX6, "above", "(II)I"⟩
abbrev cX6_stand : ByteArray := prog_8_method_17_code
def yX6_stand : MethodName := ⟨RX6, "stand", "(IIII)V"⟩
abbrev cX6_leave : ByteArray := prog_8_method_18_code
def yX6_leave : MethodName := ⟨RX6, "leave", "(II)V"⟩
abbrev cX6_cutLeaf : ByteArray := prog_8_method_19_code
def yX6_cutLeaf : MethodName := ⟨RX6, "cutLeaf", "(IIIIZ)V"⟩
abbrev cX6_least : ByteArray := prog_8_method_20_code
def yX6_least : MethodName := ⟨RX6, "least", "(IIZ)I"⟩
abbrev cX6_fits : ByteArray := prog_8_method_21_code
def yX6_fits : MethodName := ⟨RX6, "fits", "(III)Z"⟩
abbrev cX6_lay : ByteArray := prog_8_method_22_code
def yX6_lay : MethodName := ⟨RX6, "lay", "(IIIIII)V"⟩
abbrev cX6_layAll : ByteArray := prog_8_method_23_code
def yX6_layAll : MethodName := ⟨RX6, "layAll", "(I)V"⟩
abbrev cX6_canBeWhole : ByteArray := prog_8_method_24_code
def yX6_canBeWhole : MethodName := ⟨RX6, "canBeWhole", "(III)Z"⟩
abbrev cX6_putAt : ByteArray := prog_8_method_25_code
def yX6_putAt : MethodName := ⟨RX6, "putAt", "(IIII)V"⟩
abbrev cX6_isOnScreen : ByteArray := prog_8_method_26_code
def yX6_isOnScreen : MethodName := ⟨RX6, "isOnScreen", "(II)Z"⟩
abbrev cX6_unstack : ByteArray := prog_8_method_27_code
def yX6_unstack : MethodName := ⟨RX6, "unstack", "(I)V"⟩
abbrev cX6_raise : ByteArray := prog_8_method_28_code
def yX6_raise : MethodName := ⟨RX6, "raise", "(I)V"⟩
abbrev cX6_front : ByteArray := prog_8_method_29_code
def yX6_front : MethodName := ⟨RX6, "front", "(I)V"⟩
abbrev cX6_focused : ByteArray := prog_8_method_30_code
def yX6_focused : MethodName := ⟨RX6, "focused", "(I)V"⟩
abbrev cX6_forget : ByteArray := prog_8_method_31_code
def yX6_forget : MethodName := ⟨RX6, "forget", "(I)V"⟩
abbrev cX6_screen : ByteArray := prog_8_method_32_code
def yX6_screen : MethodName := ⟨RX6, "screen", "(III)I"⟩
abbrev cX6_spread : ByteArray := prog_8_method_33_code
def yX6_spread : MethodName := ⟨RX6, "spread", "()V"⟩
abbrev cX6_comesBack : ByteArray := prog_8_method_34_code
def yX6_comesBack : MethodName := ⟨RX6, "comesBack", "(I)Z"⟩
abbrev cX6_bring : ByteArray := prog_8_method_35_code
def yX6_bring : MethodName := ⟨RX6, "bring", "(I)I"⟩
abbrev cX6_clearLeaves : ByteArray := prog_8_method_36_code
def yX6_clearLeaves : MethodName := ⟨RX6, "clearLeaves", "(I)V"⟩
abbrev cX6_findLeaves : ByteArray := prog_8_method_37_code
def yX6_findLeaves : MethodName := ⟨RX6, "findLeaves", "(II)V"⟩
abbrev cX6_gone : ByteArray := prog_8_method_38_code
def yX6_gone : MethodName := ⟨RX6, "gone", "(I)I"⟩
abbrev cX6_moveTabs : ByteArray := prog_8_method_39_code
def yX6_moveTabs : MethodName := ⟨RX6, "moveTabs", "(II)I"⟩
abbrev cX6_screenAtHand : ByteArray := prog_8_method_40_code
def yX6_screenAtHand : MethodName := ⟨RX6, "screenAtHand", "()I"⟩
abbrev cX6_freeNumber : ByteArray := prog_8_method_41_code
def yX6_freeNumber : MethodName := ⟨RX6, "freeNumber", "()I"⟩
abbrev cX6_open : ByteArray := prog_8_method_42_code
def yX6_open : MethodName := ⟨RX6, "open", "(IIII)I"⟩
abbrev cX6_tile : ByteArray := prog_8_method_43_code
def yX6_tile : MethodName := ⟨RX6, "tile", "(II)Z"⟩
abbrev cX6_takesTrial : ByteArray := prog_8_method_44_code
def yX6_takesTrial : MethodName := ⟨RX6, "takesTrial", "(I)Z"⟩
abbrev cX6_closed : ByteArray := prog_8_method_45_code
def yX6_closed : MethodName := ⟨RX6, "closed", "(I)I"⟩
abbrev cX6_close : ByteArray := prog_8_method_46_code
def yX6_close : MethodName := ⟨RX6, "close", "(I)I"⟩
abbrev cX6_focus : ByteArray := prog_8_method_47_code
def yX6_focus : MethodName := ⟨RX6, "focus", "(I)I"⟩
abbrev cX6_back : ByteArray := prog_8_method_48_code
def yX6_back : MethodName := ⟨RX6, "back", "()I"⟩
abbrev cX6_isShown : ByteArray := prog_8_method_49_code
def yX6_isShown : MethodName := ⟨RX6, "isShown", "(I)Z"⟩
abbrev cX6_common : ByteArray := prog_8_method_50_code
def yX6_common : MethodName := ⟨RX6, "common", "(IIII)I"⟩
abbrev cX6_neighbourOf : ByteArray := prog_8_method_51_code
def yX6_neighbourOf : MethodName := ⟨RX6, "neighbourOf", "(II)I"⟩
abbrev cX6_toward : ByteArray := prog_8_method_52_code
def yX6_toward : MethodName := ⟨RX6, "toward", "(I)I"⟩
abbrev cX6_steps : ByteArray := prog_8_method_53_code
def yX6_steps : MethodName := ⟨RX6, "steps", "(II)I"⟩
abbrev cX6_drag : ByteArray := prog_8_method_54_code
def yX6_drag : MethodName := ⟨RX6, "drag", "(III)I"⟩
abbrev cX6_move : ByteArray := prog_8_method_55_code
def yX6_move : MethodName := ⟨RX6, "move", "(III)I"⟩
abbrev cX6_share : ByteArray := prog_8_method_56_code
def yX6_share : MethodName := ⟨RX6, "share", "(III)I"⟩
abbrev cX6_areaOf : ByteArray := prog_8_method_57_code
def yX6_areaOf : MethodName := ⟨RX6, "areaOf", "(II)I"⟩
abbrev cX6_area : ByteArray := prog_8_method_58_code
def yX6_area : MethodName := ⟨RX6, "area", "(II)I"⟩
abbrev cX6_placeIn : ByteArray := prog_8_method_59_code
def yX6_placeIn : MethodName := ⟨RX6, "placeIn", "([III)I"⟩
abbrev cX6_about : ByteArray := prog_8_method_60_code
def yX6_about : MethodName := ⟨RX6, "about", "(II)I"⟩
abbrev cX6_isOf : ByteArray := prog_8_method_61_code
def yX6_isOf : MethodName := ⟨RX6, "isOf", "(II)I"⟩
abbrev cX6_lies : ByteArray := prog_8_method_62_code
def yX6_lies : MethodName := ⟨RX6, "lies", "(IIII)Z"⟩
abbrev cX6_at : ByteArray := prog_8_method_63_code
def yX6_at : MethodName := ⟨RX6, "at", "(III)I"⟩
abbrev cX6_neighbour : ByteArray := prog_8_method_64_code
def yX6_neighbour : MethodName := ⟨RX6, "neighbour", "(II)I"⟩
abbrev cX6_told : ByteArray := prog_8_method_65_code
def yX6_told : MethodName := ⟨RX6, "told", "(II)I"⟩
abbrev cX6_tab : ByteArray := prog_8_method_66_code
def yX6_tab : MethodName := ⟨RX6, "tab", "(III)I"⟩
abbrev cX6_count : ByteArray := prog_8_method_67_code
def yX6_count : MethodName := ⟨RX6, "count", "(I)I"⟩
def RJ9 : String := "java/lang/Math"
abbrev cJ9_floorDiv_7cf53 : ByteArray := prog_9_method_47_code
def yJ9_floorDiv_7cf53 : MethodName := ⟨RJ9, "floorDiv", "(II)I"⟩
abbrev cJ9_max_7cf53 : ByteArray := prog_9_method_65_code
def yJ9_max_7cf53 : MethodName := ⟨RJ9, "max", "(II)I"⟩
abbrev cJ9_min_7cf53 : ByteArray := prog_9_method_69_code
def yJ9_min_7cf53 : MethodName := ⟨RJ9, "min", "(II)I"⟩
def RJ10 : String := "java/lang/System"
def RJ7 : String := "java/util/Arrays"
abbrev cJ7_fill_53178 : ByteArray := prog_11_method_103_code
def yJ7_fill_53178 : MethodName := ⟨RJ7, "fill", "([II)V"⟩
def RL : String := "WindowDeskLaw"
abbrev cL_law : ByteArray := code
def yL_law : MethodName := ⟨RL, "law", "([I)Z"⟩
abbrev vwCl : List vw_C := [(RX0, TX0, 4), (RX1, TX1, 2), (RX2, TX2, 4), (RX3, TX3, 16), (RX4, TX4, 6), (RX5, TX5, 9), (RX6, TX6, 33)]
end
section
/-! a big-step interpreter over abstract cells, with unknown ints (.float k: the unknown number k) -/
abbrev zi_Hp : Type := List (Nat × List Value)
abbrev zi_Lc : Type := List (Nat × Value)
abbrev zi_Iv : Type := List (Int × Int)
abbrev zi_Dm : Type := List zi_Iv
abbrev zi_Out : Type := zi_Dm × Option Value × zi_Hp
/-- pc, instruction, its length, resolved numbers a b, place t of its word in the tables, number v -/
abbrev zi_Row : Type := Nat × Instr × Nat × Nat × Nat × Nat × Int
/-- name, bytes, max locals, return type, rows, most cells, most slots -/
abbrev zi_Me : Type := MethodName × ByteArray × Nat × Option FieldType × List zi_Row × Nat × Nat
def zi_clip (lo hi : Int) (l : zi_Iv) : zi_Iv := l.filterMap (fun q => if max q.1 lo ≤ min q.2 hi then some (max q.1 lo, min q.2 hi) else none)
def zi_T (c : ClassFile.Cond) (v : Int) (l : zi_Iv) : zi_Iv := match c with
  | .eq => zi_clip v v l
  | .ne => zi_clip (-2147483648) (v - 1) l ++ zi_clip (v + 1) 2147483647 l
  | .lt => zi_clip (-2147483648) (v - 1) l
  | .ge => zi_clip v 2147483647 l
  | .gt => zi_clip (v + 1) 2147483647 l
  | .le => zi_clip (-2147483648) v l
def zi_neg (c : ClassFile.Cond) : ClassFile.Cond := match c with
  | .eq => .ne | .ne => .eq | .lt => .ge | .ge => .lt | .gt => .le | .le => .gt
def zi_swap (c : ClassFile.Cond) : ClassFile.Cond := match c with
  | .eq => .eq | .ne => .ne | .lt => .gt | .ge => .le | .gt => .lt | .le => .ge
def zi_cmp (c : ClassFile.Cond) (x y : Int32) : Bool := match c with
  | .eq => decide (x = y) | .ne => decide (¬ x = y) | .lt => decide (x < y) | .ge => decide (y ≤ x) | .gt => decide (y < x) | .le => decide (x ≤ y)
def zi_get (L : zi_Lc) (k : Nat) : Option Value := (L.find? (fun q => q.1 == k)).map (fun q => q.2)
def zi_set (L : zi_Lc) (k : Nat) (v : Value) : zi_Lc := (k, v) :: L.filter (fun q => !(q.1 == k) && !(q.1 + 1 == k && q.2.category == 2))
def zi_isI (v : Value) : Bool := match v with | .int _ => true | .float _ => true | _ => false
/-- an unknown of which one value is left -/
def zi_nm (d : zi_Dm) (v : Value) : Value := match v with
  | .float k => (match d[k.toNat]? with | some [q] => if q.1 = q.2 then .int (Int32.ofInt q.1) else .float k | _ => .float k)
  | v => v
def zi_in (j : Int32) (n : Nat) : Bool := decide (¬ (j < 0 ∨ n ≤ j.toNatClampNeg))
def zi_wfv (n : Nat) (v : Value) : Bool := match v with | .ref (i + 1) => decide (i < n) | _ => true
def zi_wfl (n : Nat) (l : List Value) : Bool := l.all (zi_wfv n)
def zi_wfc (n : Nat) (L : zi_Lc) : Bool := L.all (fun q => zi_wfv n q.2)
def zi_wfh (h : zi_Hp) : Bool := h.all (fun c => c.1 == 7 || c.1 == 8 || zi_wfl h.length c.2)
def zi_iop (i : Instr) (x y : Int32) : Option Int32 := match i with
  | .iadd => some (x + y) | .isub => some (x - y) | .imul => some (x * y) | .iand => some (x &&& y)
  | .idiv => if y = 0 then none else some (x / y)
  | .irem => if y = 0 then none else some (x - x / y * y)
  | _ => none
def zi_ty (ci k : Nat) : FieldType := match ci with
  | 0 => tyX0 k | 1 => tyX1 k | 2 => tyX2 k | 3 => tyX3 k | 4 => tyX4 k | 5 => tyX5 k | _ => tyX6 k
def zi_fld (ci : Nat) : Nat := match ci with
  | 0 => 4 | 1 => 2 | 2 => 4 | 3 => 16 | 4 => 6 | 5 => 9 | _ => 33
/-- may a field of this type take it? -/
def zi_fit (ty : FieldType) (v : Value) : Bool := match ty, v with
  | .boolean, .int x => decide (x = 0) || decide (x = 1)
  | .int, .int _ => true
  | .int, .float _ => true
  | .object _, .ref _ => true
  | .object _, .null => true
  | .array _, .ref _ => true
  | .array _, .null => true
  | _, _ => false
def zi_ld (ls : zi_Lc) (d : zi_Dm) (k : Nat) : Option Value := match zi_get ls k with
  | some (.int x) => some (.int x)
  | some (.float q) => some (zi_nm d (.float q))
  | _ => none
def zi_lda (ls : zi_Lc) (k : Nat) : Option Value := match zi_get ls k with
  | some (.ref r) => some (.ref r)
  | _ => none
def zi_iald (scr : Option (List Value)) (d : zi_Dm) (h : zi_Hp) (j : Int32) (r : Nat) : Option Value := match r with
  | 0 => (match scr with
    | some l => if zi_in j l.length then (match l[j.toNatClampNeg]? with | some (.int x) => some (.int x) | some (.float q) => some (zi_nm d (.float q)) | _ => none) else none
    | none => none)
  | r + 1 => (match h[r]? with
    | some (7, l) => if zi_in j l.length then (match l[j.toNatClampNeg]? with | some (.int x) => some (.int x) | some (.float q) => some (zi_nm d (.float q)) | _ => none) else none
    | _ => none)
def zi_bald (h : zi_Hp) (j : Int32) (r : Nat) : Option Value := match h[r]? with
  | some (8, l) => if zi_in j l.length then (match l[j.toNatClampNeg]? with | some (.int x) => some (.int x) | _ => none) else none
  | _ => none
def zi_aald (h : zi_Hp) (j : Int32) (r : Nat) : Option Value := match h[r]? with
  | some (t, l) => if decide (9 ≤ t ∧ t ≤ 11) && zi_in j l.length then (match l[j.toNatClampNeg]? with | some (.ref (x + 1)) => some (.ref (x + 1)) | some .null => some .null | _ => none) else none
  | _ => none
def zi_iast (h : zi_Hp) (j : Int32) (r : Nat) (v : Value) : Option zi_Hp := match h[r]? with
  | some (7, l) => if zi_in j l.length && zi_isI v then some (h.set r (7, l.set j.toNatClampNeg v)) else none
  | _ => none
def zi_bast (h : zi_Hp) (j : Int32) (r : Nat) (x : Int32) : Option zi_Hp := match h[r]? with
  | some (8, l) => if zi_in j l.length && (decide (x = 0) || decide (x = 1)) then some (h.set r (8, l.set j.toNatClampNeg (.int x))) else none
  | _ => none
def zi_el (t : Nat) : Nat := if t = 9 then 2 else 4
def zi_aast (h : zi_Hp) (j : Int32) (r q : Nat) : Option zi_Hp := match h[r]? with
  | some (t, l) => if decide (t = 9 ∨ t = 10) && zi_in j l.length then (match h[q]? with | some (ci, _) => if ci = zi_el t then some (h.set r (t, l.set j.toNatClampNeg (.ref (q + 1)))) else none | none => none) else none
  | _ => none
def zi_alen (scr : Option (List Value)) (h : zi_Hp) (r : Nat) : Option Value := match r with
  | 0 => (match scr with | some l => some (.int (Int32.ofNat l.length)) | none => none)
  | r + 1 => (match h[r]? with | some (t, l) => if 7 ≤ t ∧ t ≤ 11 then some (.int (Int32.ofNat l.length)) else none | _ => none)
def zi_gf (h : zi_Hp) (a b r : Nat) : Option Value := match h[r]? with
  | some (t, fs) => if t = a ∧ a < 7 then fs[b]? else none
  | none => none
def zi_pf (h : zi_Hp) (a b r : Nat) (v : Value) : Option zi_Hp := match h[r]? with
  | some (t, fs) => if t = a ∧ a < 7 ∧ b < fs.length ∧ zi_fit (zi_ty a b) v = true then some (h.set r (t, fs.set b v)) else none
  | none => none
/-- an instruction that goes on behind itself and makes nothing -/
def zi_step (scr : Option (List Value)) (nL : Nat) (d : zi_Dm) (r : zi_Row) (ls : zi_Lc) (st : List Value) (h : zi_Hp) : Option (zi_Lc × List Value × zi_Hp) :=
  match r with
  | (_, i, _, a, b, _, v) => match i with
    | .iconst n => some (ls, .int (Int32.ofInt n) :: st, h)
    | .bipush n => some (ls, .int (Int8.ofInt n).toInt32 :: st, h)
    | .sipush n => some (ls, .int (Int16.ofInt n).toInt32 :: st, h)
    | .ldc _ => some (ls, .int (Int32.ofInt v) :: st, h)
    | .ldc_w _ => some (ls, .int (Int32.ofInt v) :: st, h)
    | .iload_n k => (zi_ld ls d k.val).map (fun x => (ls, x :: st, h))
    | .iload k => (zi_ld ls d k).map (fun x => (ls, x :: st, h))
    | .aload_n k => (zi_lda ls k.val).map (fun x => (ls, x :: st, h))
    | .aload k => (zi_lda ls k).map (fun x => (ls, x :: st, h))
    | .istore_n k => (match st with | x :: rest => if zi_isI x = true ∧ k.val < nL then some (zi_set ls k.val x, rest, h) else none | _ => none)
    | .istore k => (match st with | x :: rest => if zi_isI x = true ∧ k < nL then some (zi_set ls k x, rest, h) else none | _ => none)
    | .astore_n k => (match st with | .ref x :: rest => if k.val < nL then some (zi_set ls k.val (.ref x), rest, h) else none | _ => none)
    | .astore k => (match st with | .ref x :: rest => if k < nL then some (zi_set ls k (.ref x), rest, h) else none | _ => none)
    | .iinc k n => (match zi_get ls k with | some (.int x) => if k < nL then some (zi_set ls k (.int (x + Int32.ofInt n)), st, h) else none | _ => none)
    | .iadd => (match st with | .int y :: .int x :: rest => some (ls, .int (x + y) :: rest, h) | _ => none)
    | .isub => (match st with | .int y :: .int x :: rest => some (ls, .int (x - y) :: rest, h) | _ => none)
    | .imul => (match st with | .int y :: .int x :: rest => some (ls, .int (x * y) :: rest, h) | _ => none)
    | .iand => (match st with
      | .int y :: .int x :: rest => some (ls, .int (x &&& y) :: rest, h)
      | .int y :: .float k :: rest => if y = 31 ∧ k.toNat = 0 then some (ls, .float 5 :: rest, h) else none
      | _ => none)
    | .idiv => (match st with | .int y :: .int x :: rest => if y = 0 then none else some (ls, .int (x / y) :: rest, h) | _ => none)
    | .irem => (match st with | .int y :: .int x :: rest => if y = 0 then none else some (ls, .int (x - x / y * y) :: rest, h) | _ => none)
    | .dup => (match st with | x :: rest => if x.category = 1 then some (ls, x :: x :: rest, h) else none | _ => none)
    | .dup2 => (match st with | x :: y :: rest => if x.category = 1 ∧ y.category = 1 then some (ls, x :: y :: x :: y :: rest, h) else none | _ => none)
    | .getfield _ => (match st with | .ref (r + 1) :: rest => (zi_gf h a b r).map (fun x => (ls, x :: rest, h)) | _ => none)
    | .putfield _ => (match st with | x :: .ref (r + 1) :: rest => (zi_pf h a b r x).map (fun h' => (ls, rest, h')) | _ => none)
    | .iaload => (match st with | .int j :: .ref r :: rest => (zi_iald scr d h j r).map (fun x => (ls, x :: rest, h)) | _ => none)
    | .baload => (match st with | .int j :: .ref (r + 1) :: rest => (zi_bald h j r).map (fun x => (ls, x :: rest, h)) | _ => none)
    | .aaload => (match st with | .int j :: .ref (r + 1) :: rest => (zi_aald h j r).map (fun x => (ls, x :: rest, h)) | _ => none)
    | .iastore => (match st with | x :: .int j :: .ref (r + 1) :: rest => (zi_iast h j r x).map (fun h' => (ls, rest, h')) | _ => none)
    | .bastore => (match st with | .int x :: .int j :: .ref (r + 1) :: rest => (zi_bast h j r x).map (fun h' => (ls, rest, h')) | _ => none)
    | .aastore => (match st with | .ref (q + 1) :: .int j :: .ref (r + 1) :: rest => (zi_aast h j r q).map (fun h' => (ls, rest, h')) | _ => none)
    | .arraylength => (match st with | .ref r :: rest => (zi_alen scr h r).map (fun x => (ls, x :: rest, h)) | _ => none)
    | _ => none
/-- an instruction that makes cells: the new heap, the reference on top, cells and slots -/
def zi_new (r : zi_Row) (st : List Value) (h : zi_Hp) : Option (List Value × zi_Hp × Nat × Nat) :=
  match r with
  | (_, i, _, a, _, _, _) => match i with
    | .new _ => if a < 7 then some (.ref (h.length + 1) :: st, h ++ [(a, (List.range (zi_fld a)).map (fun k => defaultValue (zi_ty a k)))], 1, zi_fld a) else none
    | .newarray .int => (match st with | .int n :: rest => if n < 0 ∨ 100000 < n.toNatClampNeg then none else some (.ref (h.length + 1) :: rest, h ++ [(7, List.replicate n.toNatClampNeg (.int 0))], 1, n.toNatClampNeg) | _ => none)
    | .newarray .boolean => (match st with | .int n :: rest => if n < 0 ∨ 100000 < n.toNatClampNeg then none else some (.ref (h.length + 1) :: rest, h ++ [(8, List.replicate n.toNatClampNeg (.int 0))], 1, n.toNatClampNeg) | _ => none)
    | .anewarray _ => (match st with | .int n :: rest => if n < 0 ∨ 100000 < n.toNatClampNeg ∨ ¬ (a = 9 ∨ a = 10) then none else some (.ref (h.length + 1) :: rest, h ++ [(a, List.replicate n.toNatClampNeg .null)], 1, n.toNatClampNeg) | _ => none)
    | .multianewarray _ 2 => (match st with | .int k :: .int n :: rest => if n < 0 ∨ k < 0 ∨ 100000 < n.toNatClampNeg ∨ 100000 < k.toNatClampNeg then none else some (.ref (h.length + 1) :: rest, h ++ (11, (List.range n.toNatClampNeg).map (fun i => .ref (h.length + 2 + i))) :: List.replicate n.toNatClampNeg (7, List.replicate k.toNatClampNeg (.int 0)), 1 + n.toNatClampNeg, n.toNatClampNeg + n.toNatClampNeg * k.toNatClampNeg) | _ => none)
    | _ => none
def zi_bind {α : Type} : List α → (α → Option (List zi_Out)) → Option (List zi_Out)
  | [], _ => some []
  | x :: xs, k => match k x with
    | none => none
    | some a => match zi_bind xs k with
      | none => none
      | some b => some (a ++ b)
def zi_vals (l : zi_Iv) : List Int := l.flatMap (fun q => (List.range (q.2 - q.1 + 1).toNat).map (fun (j : Nat) => q.1 + (j : Int)))
/-- an unknown index that an array is asked at: its number and the rest of the stack behind a known one -/
def zi_ask (i : Instr) (st : List Value) : Option (UInt32 × (Int32 → List Value)) := match i with
  | .iaload | .baload | .aaload => (match st with | .float k :: rest => some (k, fun c => .int c :: rest) | _ => none)
  | .iastore | .bastore | .aastore => (match st with | x :: .float k :: rest => some (k, fun c => x :: .int c :: rest) | _ => none)
  | _ => none
def zi_retOk (ret : Option FieldType) (v : Value) : Bool := match ret with
  | some .int => zi_isI v
  | some .boolean => (match v with | .int x => decide (x = 0) || decide (x = 1) | _ => false)
  | _ => false
def zi_retA (ret : Option FieldType) : Bool := match ret with
  | some (.object _) => true
  | _ => false
section ZG
variable (ms : List zi_Me) (scr : Option (List Value)) (nL : Nat) (ret : Option FieldType) (code : List zi_Row) (mc mS : Nat) (call : Nat → List Value → zi_Hp → zi_Dm → Option (List zi_Out))
def zi_go : Nat → Nat → zi_Lc → List Value → zi_Hp → zi_Dm → Nat → Nat → Option (List zi_Out)
  | 0, _, _, _, _, _, _, _ => none
  | n + 1, pc, ls, st, h, d, kc, ks =>
    match code.find? (fun r => r.1 == pc) with
    | none => none
    | some r =>
      match zi_ask r.2.1 st with
      | some (k, f) => (match d[k.toNat]? with
        | none => none
        | some l => if (zi_vals l).length ≤ 64 then zi_bind (zi_vals l) (fun v => zi_go n pc ls (f (Int32.ofInt v)) h (d.set k.toNat [(v, v)]) kc ks) else none)
      | none =>
        match r.2.1 with
        | .ireturn => (match st with | [v] => if zi_retOk ret v then some [(d, some v, h)] else none | _ => none)
        | .areturn => (match st with | [.ref x] => if zi_retA ret then some [(d, some (.ref x), h)] else none | _ => none)
        | .return_ => (match st with | [] => if ret = none then some [(d, none, h)] else none | _ => none)
        | .goto _ => zi_go n r.2.2.2.1 ls st h d kc ks
        | .ifCond c _ => (match st with
          | .int x :: rest => if zi_cmp c x 0 then zi_go n r.2.2.2.1 ls rest h d kc ks else zi_go n (pc + 3) ls rest h d kc ks
          | .float k :: rest => (match d[k.toNat]? with
            | none => none
            | some l => zi_bind [(zi_T c 0 l, r.2.2.2.1), (zi_T (zi_neg c) 0 l, pc + 3)] (fun q => if q.1.isEmpty then some [] else zi_go n q.2 ls rest h (d.set k.toNat q.1) kc ks))
          | _ => none)
        | .if_icmp c _ => (match st with
          | .int y :: .int x :: rest => if zi_cmp c x y then zi_go n r.2.2.2.1 ls rest h d kc ks else zi_go n (pc + 3) ls rest h d kc ks
          | .int y :: .float k :: rest => (match d[k.toNat]? with
            | none => none
            | some l => zi_bind [(zi_T c y.toInt l, r.2.2.2.1), (zi_T (zi_neg c) y.toInt l, pc + 3)] (fun q => if q.1.isEmpty then some [] else zi_go n q.2 ls rest h (d.set k.toNat q.1) kc ks))
          | .float k :: .int x :: rest => (match d[k.toNat]? with
            | none => none
            | some l => zi_bind [(zi_T (zi_swap c) x.toInt l, r.2.2.2.1), (zi_T (zi_neg (zi_swap c)) x.toInt l, pc + 3)] (fun q => if q.1.isEmpty then some [] else zi_go n q.2 ls rest h (d.set k.toNat q.1) kc ks))
          | _ => none)
        | .tableswitch dflt lo hi offs => (match st with
          | .int x :: rest => if x.toInt < lo ∨ hi < x.toInt then (if (pc : Int) + dflt = (((pc : Int) + dflt).toNat : Int) then zi_go n ((pc : Int) + dflt).toNat ls rest h d kc ks else none)
            else (match offs[(x.toInt - lo).toNat]? with
              | some off => if (pc : Int) + off = (((pc : Int) + off).toNat : Int) then zi_go n ((pc : Int) + off).toNat ls rest h d kc ks else none
              | none => none)
          | .float k :: rest => (match d[k.toNat]? with
            | none => none
            | some l => zi_bind ((zi_T .lt lo l, dflt) :: (zi_T .gt hi l, dflt) :: (List.range (hi - lo + 1).toNat).map (fun (j : Nat) => (zi_T .eq (lo + (j : Int)) l, offs[j]?.getD 0))) (fun q => if q.1.isEmpty then some [] else if (pc : Int) + q.2 = (((pc : Int) + q.2).toNat : Int) then zi_go n ((pc : Int) + q.2).toNat ls rest h (d.set k.toNat q.1) kc ks else none))
          | _ => none)
        | .invokespecial _ =>
          if r.2.2.2.1 = 999 then (match st with | .ref (x + 1) :: rest => if rest.length ≤ 4 then zi_go n (pc + 3) ls rest h d kc ks else none | _ => none)
          else (match ms[r.2.2.2.1]? with
            | none => none
            | some mt => if (st.drop r.2.2.2.2.1).length ≤ 4 ∧ kc + mt.2.2.2.2.2.1 ≤ mc ∧ ks + mt.2.2.2.2.2.2 ≤ mS ∧ r.2.2.2.2.1 ≤ st.length ∧ zi_wfc h.length ls = true ∧ zi_wfl h.length (st.drop r.2.2.2.2.1) = true then
                (match (st.take r.2.2.2.2.1).reverse with
                | .ref (x + 1) :: tl => (match call r.2.2.2.1 (.ref (x + 1) :: tl) h d with
                  | none => none
                  | some os => zi_bind os (fun o => zi_go n (pc + 3) ls (o.2.1.toList ++ st.drop r.2.2.2.2.1) o.2.2 o.1 (kc + mt.2.2.2.2.2.1) (ks + mt.2.2.2.2.2.2)))
                | _ => none)
              else none)
        | .invokestatic _ => (match ms[r.2.2.2.1]? with
            | none => none
            | some mt => if (st.drop r.2.2.2.2.1).length ≤ 4 ∧ kc + mt.2.2.2.2.2.1 ≤ mc ∧ ks + mt.2.2.2.2.2.2 ≤ mS ∧ r.2.2.2.2.1 ≤ st.length ∧ zi_wfc h.length ls = true ∧ zi_wfl h.length (st.drop r.2.2.2.2.1) = true then
                (match call r.2.2.2.1 (st.take r.2.2.2.2.1).reverse h d with
                | none => none
                | some os => zi_bind os (fun o => zi_go n (pc + 3) ls (o.2.1.toList ++ st.drop r.2.2.2.2.1) o.2.2 o.1 (kc + mt.2.2.2.2.2.1) (ks + mt.2.2.2.2.2.2)))
              else none)
        | .invokevirtual _ => (match ms[r.2.2.2.1]? with
            | none => none
            | some mt => if (st.drop r.2.2.2.2.1).length ≤ 4 ∧ kc + mt.2.2.2.2.2.1 ≤ mc ∧ ks + mt.2.2.2.2.2.2 ≤ mS ∧ r.2.2.2.2.1 ≤ st.length ∧ zi_wfc h.length ls = true ∧ zi_wfl h.length (st.drop r.2.2.2.2.1) = true then
                (match (st.take r.2.2.2.2.1).reverse with
                | .ref (x + 1) :: tl => (match h[x]? with
                  | some (t, _) => if (t : Int) = r.2.2.2.2.2.2 ∧ t < 7 then
                    (match call r.2.2.2.1 (.ref (x + 1) :: tl) h d with
                    | none => none
                    | some os => zi_bind os (fun o => zi_go n (pc + 3) ls (o.2.1.toList ++ st.drop r.2.2.2.2.1) o.2.2 o.1 (kc + mt.2.2.2.2.2.1) (ks + mt.2.2.2.2.2.2))) else none
                  | none => none)
                | _ => none)
              else none)
        | _ => match zi_new r st h with
          | some (st', h', k1, k2) => if kc + k1 ≤ mc ∧ ks + k2 ≤ mS ∧ zi_wfh h = true ∧ zi_wfc h.length ls = true ∧ zi_wfl h.length st = true then zi_go n (pc + r.2.2.1) ls st' h' d (kc + k1) (ks + k2) else none
          | none => match zi_step scr nL d r ls st h with
            | some (ls', st', h') => zi_go n (pc + r.2.2.1) ls' st' h' d kc ks
            | none => none
end ZG
/-- a method by its number, at most D calls deep, F instructions each -/
def zi_run (ms : List zi_Me) (F : Nat) : Nat → Nat → List Value → zi_Hp → zi_Dm → Option (List zi_Out)
  | 0, _, _, _, _ => none
  | D + 1, a, args, h, d => match ms[a]? with
    | none => none
    | some m => if (lg_sl args).length ≤ m.2.2.1 then zi_go ms none m.2.2.1 m.2.2.2.1 m.2.2.2.2.1 m.2.2.2.2.2.1 m.2.2.2.2.2.2 (zi_run ms F D) F 0 (lv_args 0 args) [] h d 0 0 else none
end
section
def zc_X5_init_0 : List zi_Row := [(0, .aload_n 0, 1, 0, 0, 0, 0), (1, .invokespecial 1, 3, 999, 0, 111, 0), (4, .aload_n 0, 1, 0, 0, 0, 0), (5, .bipush 10, 2, 0, 0, 0, 0), (7, .anewarray 9, 3, 10, 0, 114, 0), (10, .putfield 11, 3, 5, 0, 282, 0), (13, .aload_n 0, 1, 0, 0, 0, 0), (14, .iconst 3, 1, 0, 0, 0, 0), (15, .anewarray 15, 3, 9, 0, 116, 0), (18, .putfield 17, 3, 5, 1, 283, 0), (21, .aload_n 0, 1, 0, 0, 0, 0), (22, .new 21, 3, 1, 0, 118, 0), (25, .dup, 1, 0, 0, 0, 0), (26, .invokespecial 23, 3, 1, 1, 10000, 0), (29, .putfield 24, 3, 5, 2, 284, 0), (32, .aload_n 0, 1, 0, 0, 0, 0), (33, .new 21, 3, 1, 0, 118, 0), (36, .dup, 1, 0, 0, 0, 0), (37, .invokespecial 23, 3, 1, 1, 10000, 0), (40, .putfield 28, 3, 5, 3, 285, 0), (43, .aload_n 0, 1, 0, 0, 0, 0), (44, .new 31, 3, 3, 0, 132, 0), (47, .dup, 1, 0, 0, 0, 0), (48, .invokespecial 33, 3, 2, 1, 134, 0), (51, .putfield 34, 3, 5, 4, 286, 0), (54, .aload_n 0, 1, 0, 0, 0, 0), (55, .bipush 10, 2, 0, 0, 0, 0), (57, .newarray .boolean, 2, 0, 0, 0, 0), (59, .putfield 38, 3, 5, 5, 287, 0), (62, .aload_n 0, 1, 0, 0, 0, 0), (63, .iconst 2, 1, 0, 0, 0, 0), (64, .newarray .int, 2, 0, 0, 0, 0), (66, .putfield 42, 3, 5, 6, 288, 0), (69, .aload_n 0, 1, 0, 0, 0, 0), (70, .bipush 10, 2, 0, 0, 0, 0), (72, .newarray .int, 2, 0, 0, 0, 0), (74, .putfield 46, 3, 5, 7, 289, 0), (77, .aload_n 0, 1, 0, 0, 0, 0), (78, .new 21, 3, 1, 0, 118, 0), (81, .dup, 1, 0, 0, 0, 0)]
def zc_X5_init_1 : List zi_Row := [(82, .invokespecial 23, 3, 1, 1, 10000, 0), (85, .putfield 49, 3, 5, 8, 290, 0), (88, .iconst 0, 1, 0, 0, 0, 0), (89, .istore_n 1, 1, 0, 0, 0, 0), (90, .iload_n 1, 1, 0, 0, 0, 0), (91, .bipush 10, 2, 0, 0, 0, 0), (93, .if_icmp .ge 22, 3, 115, 0, 0, 0), (96, .aload_n 0, 1, 0, 0, 0, 0), (97, .getfield 11, 3, 5, 0, 282, 0), (100, .iload_n 1, 1, 0, 0, 0, 0), (101, .new 9, 3, 4, 0, 114, 0), (104, .dup, 1, 0, 0, 0, 0), (105, .invokespecial 52, 3, 3, 1, 10002, 0), (108, .aastore, 1, 0, 0, 0, 0), (109, .iinc 1 1, 3, 0, 0, 0, 0), (112, .goto (-22), 3, 90, 0, 0, 0), (115, .iconst 0, 1, 0, 0, 0, 0), (116, .istore_n 1, 1, 0, 0, 0, 0), (117, .iload_n 1, 1, 0, 0, 0, 0), (118, .iconst 3, 1, 0, 0, 0, 0), (119, .if_icmp .ge 22, 3, 141, 0, 0, 0), (122, .aload_n 0, 1, 0, 0, 0, 0), (123, .getfield 17, 3, 5, 1, 283, 0), (126, .iload_n 1, 1, 0, 0, 0, 0), (127, .new 15, 3, 2, 0, 116, 0), (130, .dup, 1, 0, 0, 0, 0), (131, .invokespecial 53, 3, 4, 1, 10003, 0), (134, .aastore, 1, 0, 0, 0, 0), (135, .iinc 1 1, 3, 0, 0, 0, 0), (138, .goto (-21), 3, 117, 0, 0, 0), (141, .return_, 1, 0, 0, 0, 0)]
def zc_X5_init : List zi_Row := zc_X5_init_0 ++ (zc_X5_init_1)
def zc_X1_init_0 : List zi_Row := [(0, .aload_n 0, 1, 0, 0, 0, 0), (1, .invokespecial 3, 3, 999, 0, 123, 0), (4, .aload_n 0, 1, 0, 0, 0, 0), (5, .bipush 10, 2, 0, 0, 0, 0), (7, .newarray .int, 2, 0, 0, 0, 0), (9, .putfield 9, 3, 1, 0, 124, 0), (12, .aload_n 0, 1, 0, 0, 0, 0), (13, .iconst 0, 1, 0, 0, 0, 0), (14, .putfield 15, 3, 1, 1, 125, 0), (17, .return_, 1, 0, 0, 0, 0)]
def zc_X1_init : List zi_Row := zc_X1_init_0
def zc_X3_init_0 : List zi_Row := [(0, .aload_n 0, 1, 0, 0, 0, 0), (1, .invokespecial 3, 3, 999, 0, 137, 0), (4, .aload_n 0, 1, 0, 0, 0, 0), (5, .new 9, 3, 1, 0, 138, 0), (8, .dup, 1, 0, 0, 0, 0), (9, .invokespecial 11, 3, 1, 1, 10001, 0), (12, .putfield 12, 3, 3, 0, 153, 0), (15, .aload_n 0, 1, 0, 0, 0, 0), (16, .bipush 10, 2, 0, 0, 0, 0), (18, .newarray .int, 2, 0, 0, 0, 0), (20, .putfield 18, 3, 3, 1, 154, 0), (23, .aload_n 0, 1, 0, 0, 0, 0), (24, .iconst 2, 1, 0, 0, 0, 0), (25, .bipush 10, 2, 0, 0, 0, 0), (27, .multianewarray 22 2, 4, 0, 0, 140, 0), (31, .putfield 24, 3, 3, 2, 155, 0), (34, .aload_n 0, 1, 0, 0, 0, 0), (35, .bipush 19, 2, 0, 0, 0, 0), (37, .newarray .int, 2, 0, 0, 0, 0), (39, .putfield 27, 3, 3, 3, 156, 0), (42, .aload_n 0, 1, 0, 0, 0, 0), (43, .bipush 19, 2, 0, 0, 0, 0), (45, .newarray .int, 2, 0, 0, 0, 0), (47, .putfield 30, 3, 3, 4, 157, 0), (50, .aload_n 0, 1, 0, 0, 0, 0), (51, .bipush 19, 2, 0, 0, 0, 0), (53, .newarray .int, 2, 0, 0, 0, 0), (55, .putfield 33, 3, 3, 5, 158, 0), (58, .aload_n 0, 1, 0, 0, 0, 0), (59, .bipush 19, 2, 0, 0, 0, 0), (61, .newarray .int, 2, 0, 0, 0, 0), (63, .putfield 36, 3, 3, 6, 159, 0), (66, .aload_n 0, 1, 0, 0, 0, 0), (67, .bipush 19, 2, 0, 0, 0, 0), (69, .newarray .int, 2, 0, 0, 0, 0), (71, .putfield 39, 3, 3, 7, 160, 0), (74, .aload_n 0, 1, 0, 0, 0, 0), (75, .bipush 19, 2, 0, 0, 0, 0), (77, .newarray .int, 2, 0, 0, 0, 0), (79, .putfield 42, 3, 3, 8, 161, 0)]
def zc_X3_init_1 : List zi_Row := [(82, .aload_n 0, 1, 0, 0, 0, 0), (83, .iconst (-1), 1, 0, 0, 0, 0), (84, .putfield 45, 3, 3, 9, 162, 0), (87, .aload_n 0, 1, 0, 0, 0, 0), (88, .bipush 19, 2, 0, 0, 0, 0), (90, .newarray .int, 2, 0, 0, 0, 0), (92, .putfield 49, 3, 3, 10, 163, 0), (95, .aload_n 0, 1, 0, 0, 0, 0), (96, .bipush 19, 2, 0, 0, 0, 0), (98, .newarray .int, 2, 0, 0, 0, 0), (100, .putfield 52, 3, 3, 11, 164, 0), (103, .aload_n 0, 1, 0, 0, 0, 0), (104, .iconst 0, 1, 0, 0, 0, 0), (105, .putfield 55, 3, 3, 12, 165, 0), (108, .aload_n 0, 1, 0, 0, 0, 0), (109, .iconst 2, 1, 0, 0, 0, 0), (110, .bipush 19, 2, 0, 0, 0, 0), (112, .multianewarray 22 2, 4, 0, 0, 140, 0), (116, .putfield 58, 3, 3, 13, 166, 0), (119, .aload_n 0, 1, 0, 0, 0, 0), (120, .iconst 2, 1, 0, 0, 0, 0), (121, .bipush 19, 2, 0, 0, 0, 0), (123, .multianewarray 22 2, 4, 0, 0, 140, 0), (127, .putfield 61, 3, 3, 14, 167, 0), (130, .aload_n 0, 1, 0, 0, 0, 0), (131, .iconst 2, 1, 0, 0, 0, 0), (132, .bipush 19, 2, 0, 0, 0, 0), (134, .multianewarray 22 2, 4, 0, 0, 140, 0), (138, .putfield 64, 3, 3, 15, 168, 0), (141, .aload_n 0, 1, 0, 0, 0, 0), (142, .invokevirtual 67, 3, 8, 1, 142, 3), (145, .return_, 1, 0, 0, 0, 0)]
def zc_X3_init : List zi_Row := zc_X3_init_0 ++ (zc_X3_init_1)
def zc_X4_init_0 : List zi_Row := [(0, .aload_n 0, 1, 0, 0, 0, 0), (1, .invokespecial 3, 3, 999, 0, 206, 0), (4, .aload_n 0, 1, 0, 0, 0, 0), (5, .iconst 2, 1, 0, 0, 0, 0), (6, .newarray .int, 2, 0, 0, 0, 0), (8, .putfield 9, 3, 4, 0, 207, 0), (11, .aload_n 0, 1, 0, 0, 0, 0), (12, .iconst 2, 1, 0, 0, 0, 0), (13, .newarray .int, 2, 0, 0, 0, 0), (15, .putfield 15, 3, 4, 1, 209, 0), (18, .aload_n 0, 1, 0, 0, 0, 0), (19, .iconst 0, 1, 0, 0, 0, 0), (20, .putfield 18, 3, 4, 2, 211, 0), (23, .aload_n 0, 1, 0, 0, 0, 0), (24, .iconst 0, 1, 0, 0, 0, 0), (25, .putfield 22, 3, 4, 3, 213, 0), (28, .aload_n 0, 1, 0, 0, 0, 0), (29, .iconst (-1), 1, 0, 0, 0, 0), (30, .putfield 26, 3, 4, 4, 215, 0), (33, .aload_n 0, 1, 0, 0, 0, 0), (34, .iconst (-1), 1, 0, 0, 0, 0), (35, .putfield 29, 3, 4, 5, 217, 0), (38, .return_, 1, 0, 0, 0, 0)]
def zc_X4_init : List zi_Row := zc_X4_init_0
def zc_X2_init_0 : List zi_Row := [(0, .aload_n 0, 1, 0, 0, 0, 0), (1, .invokespecial 3, 3, 999, 0, 237, 0), (4, .aload_n 0, 1, 0, 0, 0, 0), (5, .iconst 2, 1, 0, 0, 0, 0), (6, .newarray .int, 2, 0, 0, 0, 0), (8, .putfield 9, 3, 2, 0, 265, 0), (11, .aload_n 0, 1, 0, 0, 0, 0), (12, .new 15, 3, 3, 0, 238, 0), (15, .dup, 1, 0, 0, 0, 0), (16, .invokespecial 17, 3, 2, 1, 239, 0), (19, .putfield 18, 3, 2, 1, 267, 0), (22, .aload_n 0, 1, 0, 0, 0, 0), (23, .new 22, 3, 0, 0, 240, 0), (26, .dup, 1, 0, 0, 0, 0), (27, .invokespecial 24, 3, 5, 1, 10004, 0), (30, .putfield 25, 3, 2, 2, 269, 0), (33, .aload_n 0, 1, 0, 0, 0, 0), (34, .iconst 0, 1, 0, 0, 0, 0), (35, .putfield 29, 3, 2, 3, 271, 0), (38, .return_, 1, 0, 0, 0, 0)]
def zc_X2_init : List zi_Row := zc_X2_init_0
def zc_X0_init_0 : List zi_Row := [(0, .aload_n 0, 1, 0, 0, 0, 0), (1, .invokespecial 3, 3, 999, 0, 245, 0), (4, .aload_n 0, 1, 0, 0, 0, 0), (5, .new 9, 3, 3, 0, 246, 0), (8, .dup, 1, 0, 0, 0, 0), (9, .invokespecial 11, 3, 2, 1, 247, 0), (12, .putfield 12, 3, 0, 0, 249, 0), (15, .aload_n 0, 1, 0, 0, 0, 0), (16, .iconst 2, 1, 0, 0, 0, 0), (17, .bipush 10, 2, 0, 0, 0, 0), (19, .multianewarray 18 2, 4, 0, 0, 248, 0), (23, .putfield 20, 3, 0, 1, 251, 0), (26, .aload_n 0, 1, 0, 0, 0, 0), (27, .bipush 10, 2, 0, 0, 0, 0), (29, .newarray .boolean, 2, 0, 0, 0, 0), (31, .putfield 23, 3, 0, 2, 253, 0), (34, .aload_n 0, 1, 0, 0, 0, 0), (35, .iconst 0, 1, 0, 0, 0, 0), (36, .putfield 27, 3, 0, 3, 254, 0), (39, .return_, 1, 0, 0, 0, 0)]
def zc_X0_init : List zi_Row := zc_X0_init_0
def zc_X6_init_0 : List zi_Row := [(0, .aload_n 0, 1, 0, 0, 0, 0), (1, .invokespecial 1, 3, 999, 0, 878, 0), (4, .aload_n 0, 1, 0, 0, 0, 0), (5, .iconst 3, 1, 0, 0, 0, 0), (6, .newarray .int, 2, 0, 0, 0, 0), (8, .putfield 7, 3, 6, 0, 879, 0), (11, .aload_n 0, 1, 0, 0, 0, 0), (12, .iconst 3, 1, 0, 0, 0, 0), (13, .newarray .int, 2, 0, 0, 0, 0), (15, .putfield 13, 3, 6, 1, 880, 0), (18, .aload_n 0, 1, 0, 0, 0, 0), (19, .bipush 10, 2, 0, 0, 0, 0), (21, .newarray .int, 2, 0, 0, 0, 0), (23, .putfield 16, 3, 6, 2, 881, 0), (26, .aload_n 0, 1, 0, 0, 0, 0), (27, .bipush 10, 2, 0, 0, 0, 0), (29, .newarray .int, 2, 0, 0, 0, 0), (31, .putfield 19, 3, 6, 3, 882, 0), (34, .aload_n 0, 1, 0, 0, 0, 0), (35, .bipush 10, 2, 0, 0, 0, 0), (37, .newarray .int, 2, 0, 0, 0, 0), (39, .putfield 22, 3, 6, 4, 883, 0), (42, .aload_n 0, 1, 0, 0, 0, 0), (43, .bipush 10, 2, 0, 0, 0, 0), (45, .newarray .int, 2, 0, 0, 0, 0), (47, .putfield 25, 3, 6, 5, 884, 0), (50, .aload_n 0, 1, 0, 0, 0, 0), (51, .bipush 10, 2, 0, 0, 0, 0), (53, .newarray .int, 2, 0, 0, 0, 0), (55, .putfield 28, 3, 6, 6, 885, 0), (58, .aload_n 0, 1, 0, 0, 0, 0), (59, .bipush 10, 2, 0, 0, 0, 0), (61, .newarray .int, 2, 0, 0, 0, 0), (63, .putfield 31, 3, 6, 7, 886, 0), (66, .aload_n 0, 1, 0, 0, 0, 0), (67, .bipush 10, 2, 0, 0, 0, 0), (69, .newarray .int, 2, 0, 0, 0, 0), (71, .putfield 34, 3, 6, 8, 887, 0), (74, .aload_n 0, 1, 0, 0, 0, 0), (75, .bipush 10, 2, 0, 0, 0, 0)]
def zc_X6_init_1 : List zi_Row := [(77, .newarray .int, 2, 0, 0, 0, 0), (79, .putfield 37, 3, 6, 9, 888, 0), (82, .aload_n 0, 1, 0, 0, 0, 0), (83, .bipush 10, 2, 0, 0, 0, 0), (85, .newarray .int, 2, 0, 0, 0, 0), (87, .putfield 40, 3, 6, 11, 890, 0), (90, .aload_n 0, 1, 0, 0, 0, 0), (91, .bipush 7, 2, 0, 0, 0, 0), (93, .newarray .int, 2, 0, 0, 0, 0), (95, .putfield 43, 3, 6, 13, 892, 0), (98, .aload_n 0, 1, 0, 0, 0, 0), (99, .sipush 168, 3, 0, 0, 0, 0), (102, .newarray .int, 2, 0, 0, 0, 0), (104, .putfield 46, 3, 6, 14, 893, 0), (107, .aload_n 0, 1, 0, 0, 0, 0), (108, .sipush 168, 3, 0, 0, 0, 0), (111, .newarray .int, 2, 0, 0, 0, 0), (113, .putfield 49, 3, 6, 15, 894, 0), (116, .aload_n 0, 1, 0, 0, 0, 0), (117, .sipush 168, 3, 0, 0, 0, 0), (120, .newarray .int, 2, 0, 0, 0, 0), (122, .putfield 52, 3, 6, 16, 895, 0), (125, .aload_n 0, 1, 0, 0, 0, 0), (126, .sipush 168, 3, 0, 0, 0, 0), (129, .newarray .int, 2, 0, 0, 0, 0), (131, .putfield 55, 3, 6, 17, 896, 0), (134, .aload_n 0, 1, 0, 0, 0, 0), (135, .sipush 1680, 3, 0, 0, 0, 0), (138, .newarray .int, 2, 0, 0, 0, 0), (140, .putfield 58, 3, 6, 18, 897, 0), (143, .aload_n 0, 1, 0, 0, 0, 0), (144, .sipush 168, 3, 0, 0, 0, 0), (147, .newarray .int, 2, 0, 0, 0, 0), (149, .putfield 61, 3, 6, 19, 898, 0), (152, .aload_n 0, 1, 0, 0, 0, 0), (153, .sipush 168, 3, 0, 0, 0, 0), (156, .newarray .int, 2, 0, 0, 0, 0), (158, .putfield 64, 3, 6, 20, 899, 0), (161, .aload_n 0, 1, 0, 0, 0, 0), (162, .iconst 3, 1, 0, 0, 0, 0)]
def zc_X6_init_2 : List zi_Row := [(163, .newarray .boolean, 2, 0, 0, 0, 0), (165, .putfield 67, 3, 6, 21, 900, 0), (168, .aload_n 0, 1, 0, 0, 0, 0), (169, .bipush 30, 2, 0, 0, 0, 0), (171, .newarray .boolean, 2, 0, 0, 0, 0), (173, .putfield 71, 3, 6, 22, 901, 0), (176, .aload_n 0, 1, 0, 0, 0, 0), (177, .bipush 30, 2, 0, 0, 0, 0), (179, .newarray .int, 2, 0, 0, 0, 0), (181, .putfield 74, 3, 6, 23, 902, 0), (184, .aload_n 0, 1, 0, 0, 0, 0), (185, .bipush 30, 2, 0, 0, 0, 0), (187, .newarray .int, 2, 0, 0, 0, 0), (189, .putfield 77, 3, 6, 24, 903, 0), (192, .aload_n 0, 1, 0, 0, 0, 0), (193, .bipush 24, 2, 0, 0, 0, 0), (195, .newarray .int, 2, 0, 0, 0, 0), (197, .putfield 80, 3, 6, 25, 904, 0), (200, .aload_n 0, 1, 0, 0, 0, 0), (201, .bipush 24, 2, 0, 0, 0, 0), (203, .newarray .int, 2, 0, 0, 0, 0), (205, .putfield 83, 3, 6, 26, 905, 0), (208, .aload_n 0, 1, 0, 0, 0, 0), (209, .bipush 24, 2, 0, 0, 0, 0), (211, .newarray .int, 2, 0, 0, 0, 0), (213, .putfield 86, 3, 6, 27, 906, 0), (216, .aload_n 0, 1, 0, 0, 0, 0), (217, .bipush 24, 2, 0, 0, 0, 0), (219, .newarray .int, 2, 0, 0, 0, 0), (221, .putfield 89, 3, 6, 28, 907, 0), (224, .aload_n 0, 1, 0, 0, 0, 0), (225, .bipush 24, 2, 0, 0, 0, 0), (227, .newarray .int, 2, 0, 0, 0, 0), (229, .putfield 92, 3, 6, 29, 908, 0), (232, .aload_n 0, 1, 0, 0, 0, 0), (233, .bipush 10, 2, 0, 0, 0, 0), (235, .newarray .boolean, 2, 0, 0, 0, 0), (237, .putfield 95, 3, 6, 31, 910, 0), (240, .aload_n 0, 1, 0, 0, 0, 0), (241, .bipush 10, 2, 0, 0, 0, 0)]
def zc_X6_init_3 : List zi_Row := [(243, .newarray .int, 2, 0, 0, 0, 0), (245, .putfield 98, 3, 6, 32, 911, 0), (248, .iconst 0, 1, 0, 0, 0, 0), (249, .istore_n 1, 1, 0, 0, 0, 0), (250, .iload_n 1, 1, 0, 0, 0, 0), (251, .bipush 7, 2, 0, 0, 0, 0), (253, .if_icmp .ge 16, 3, 269, 0, 0, 0), (256, .aload_n 0, 1, 0, 0, 0, 0), (257, .getfield 43, 3, 6, 13, 892, 0), (260, .iload_n 1, 1, 0, 0, 0, 0), (261, .iconst (-1), 1, 0, 0, 0, 0), (262, .iastore, 1, 0, 0, 0, 0), (263, .iinc 1 1, 3, 0, 0, 0, 0), (266, .goto (-16), 3, 250, 0, 0, 0), (269, .return_, 1, 0, 0, 0, 0)]
def zc_X6_init : List zi_Row := zc_X6_init_0 ++ (zc_X6_init_1 ++ (zc_X6_init_2 ++ (zc_X6_init_3)))
def zc_X1_clear_0 : List zi_Row := [(0, .aload_n 0, 1, 0, 0, 0, 0), (1, .iconst 0, 1, 0, 0, 0, 0), (2, .putfield 15, 3, 1, 1, 125, 0), (5, .return_, 1, 0, 0, 0, 0)]
def zc_X1_clear : List zi_Row := zc_X1_clear_0
def zc_X3_clear_0 : List zi_Row := [(0, .aload_n 0, 1, 0, 0, 0, 0), (1, .getfield 12, 3, 3, 0, 153, 0), (4, .invokevirtual 70, 3, 7, 1, 146, 1), (7, .aload_n 0, 1, 0, 0, 0, 0), (8, .getfield 18, 3, 3, 1, 154, 0), (11, .iconst (-1), 1, 0, 0, 0, 0), (12, .invokestatic 71, 3, 9, 2, 150, 0), (15, .aload_n 0, 1, 0, 0, 0, 0), (16, .getfield 27, 3, 3, 3, 156, 0), (19, .iconst 3, 1, 0, 0, 0, 0), (20, .invokestatic 71, 3, 9, 2, 150, 0), (23, .aload_n 0, 1, 0, 0, 0, 0), (24, .iconst (-1), 1, 0, 0, 0, 0), (25, .putfield 45, 3, 3, 9, 162, 0), (28, .aload_n 0, 1, 0, 0, 0, 0), (29, .iconst 0, 1, 0, 0, 0, 0), (30, .putfield 55, 3, 3, 12, 165, 0), (33, .return_, 1, 0, 0, 0, 0)]
def zc_X3_clear : List zi_Row := zc_X3_clear_0
def zc_J7_fill_53178_0 : List zi_Row := [(0, .iconst 0, 1, 0, 0, 0, 0), (1, .istore_n 2, 1, 0, 0, 0, 0), (2, .aload_n 0, 1, 0, 0, 0, 0), (3, .arraylength, 1, 0, 0, 0, 0), (4, .istore_n 3, 1, 0, 0, 0, 0), (5, .iload_n 2, 1, 0, 0, 0, 0), (6, .iload_n 3, 1, 0, 0, 0, 0), (7, .if_icmp .ge 13, 3, 20, 0, 0, 0), (10, .aload_n 0, 1, 0, 0, 0, 0), (11, .iload_n 2, 1, 0, 0, 0, 0), (12, .iload_n 1, 1, 0, 0, 0, 0), (13, .iastore, 1, 0, 0, 0, 0), (14, .iinc 2 1, 3, 0, 0, 0, 0), (17, .goto (-12), 3, 5, 0, 0, 0), (20, .return_, 1, 0, 0, 0, 0)]
def zc_J7_fill_53178 : List zi_Row := zc_J7_fill_53178_0
def zc_X5_screen_0 : List zi_Row := [(0, .iload_n 1, 1, 0, 0, 0, 0), (1, .invokestatic 54, 3, 29, 1, 314, 0), (4, .ifCond .eq 17, 3, 21, 0, 0, 0), (7, .iload_n 2, 1, 0, 0, 0, 0), (8, .invokestatic 58, 3, 30, 1, 317, 0), (11, .ifCond .eq 10, 3, 21, 0, 0, 0), (14, .iload_n 3, 1, 0, 0, 0, 0), (15, .invokestatic 58, 3, 30, 1, 317, 0), (18, .ifCond .ne 6, 3, 24, 0, 0, 0), (21, .ldc 61, 2, 0, 0, 320, (-1000000001)), (23, .ireturn, 1, 0, 0, 0, 0), (24, .aload_n 0, 1, 0, 0, 0, 0), (25, .getfield 42, 3, 5, 6, 288, 0), (28, .iconst 0, 1, 0, 0, 0, 0), (29, .iload_n 2, 1, 0, 0, 0, 0), (30, .iastore, 1, 0, 0, 0, 0), (31, .aload_n 0, 1, 0, 0, 0, 0), (32, .getfield 42, 3, 5, 6, 288, 0), (35, .iconst 1, 1, 0, 0, 0, 0), (36, .iload_n 3, 1, 0, 0, 0, 0), (37, .iastore, 1, 0, 0, 0, 0), (38, .aload_n 0, 1, 0, 0, 0, 0), (39, .getfield 17, 3, 5, 1, 283, 0), (42, .iload_n 1, 1, 0, 0, 0, 0), (43, .aaload, 1, 0, 0, 0, 0), (44, .astore 4, 2, 0, 0, 0, 0), (46, .aload 4, 2, 0, 0, 0, 0), (48, .getfield 62, 3, 2, 3, 272, 0), (51, .ifCond .ne 36, 3, 87, 0, 0, 0), (54, .aload 4, 2, 0, 0, 0, 0), (56, .iconst 1, 1, 0, 0, 0, 0), (57, .putfield 62, 3, 2, 3, 272, 0), (60, .aload 4, 2, 0, 0, 0, 0), (62, .aload_n 0, 1, 0, 0, 0, 0), (63, .getfield 42, 3, 5, 6, 288, 0), (66, .invokevirtual 66, 3, 46, 2, 321, 2), (69, .aload_n 0, 1, 0, 0, 0, 0), (70, .iload_n 1, 1, 0, 0, 0, 0), (71, .invokevirtual 70, 3, 43, 2, 325, 5), (74, .istore 5, 2, 0, 0, 0, 0)]
def zc_X5_screen_1 : List zi_Row := [(76, .aload 4, 2, 0, 0, 0, 0), (78, .getfield 74, 3, 2, 2, 270, 0), (81, .invokevirtual 78, 3, 47, 1, 473, 0), (84, .iload 5, 2, 0, 0, 0, 0), (86, .ireturn, 1, 0, 0, 0, 0), (87, .aload 4, 2, 0, 0, 0, 0), (89, .getfield 83, 3, 2, 1, 268, 0), (92, .aload_n 0, 1, 0, 0, 0, 0), (93, .getfield 42, 3, 5, 6, 288, 0), (96, .invokevirtual 86, 3, 998, 2, 329, 3), (99, .ifCond .eq 15, 3, 114, 0, 0, 0), (102, .aload_n 0, 1, 0, 0, 0, 0), (103, .iload_n 1, 1, 0, 0, 0, 0), (104, .aload_n 0, 1, 0, 0, 0, 0), (105, .getfield 42, 3, 5, 6, 288, 0), (108, .invokevirtual 90, 3, 998, 3, 477, 5), (111, .ifCond .ne 6, 3, 117, 0, 0, 0), (114, .ldc 94, 2, 0, 0, 489, (-1000000002)), (116, .ireturn, 1, 0, 0, 0, 0), (117, .aload 4, 2, 0, 0, 0, 0), (119, .aload_n 0, 1, 0, 0, 0, 0), (120, .getfield 42, 3, 5, 6, 288, 0), (123, .invokevirtual 66, 3, 46, 2, 321, 2), (126, .aload_n 0, 1, 0, 0, 0, 0), (127, .iload_n 1, 1, 0, 0, 0, 0), (128, .iload_n 1, 1, 0, 0, 0, 0), (129, .invokevirtual 95, 3, 998, 3, 490, 5), (132, .iconst 0, 1, 0, 0, 0, 0), (133, .ireturn, 1, 0, 0, 0, 0)]
def zc_X5_screen : List zi_Row := zc_X5_screen_0 ++ (zc_X5_screen_1)
def zc_X5_gone_0 : List zi_Row := [(0, .iload_n 1, 1, 0, 0, 0, 0), (1, .invokestatic 54, 3, 29, 1, 314, 0), (4, .ifCond .ne 6, 3, 10, 0, 0, 0), (7, .ldc 61, 2, 0, 0, 320, (-1000000001)), (9, .ireturn, 1, 0, 0, 0, 0), (10, .aload_n 0, 1, 0, 0, 0, 0), (11, .iload_n 1, 1, 0, 0, 0, 0), (12, .invokevirtual 99, 3, 37, 2, 499, 5), (15, .istore_n 2, 1, 0, 0, 0, 0), (16, .aload_n 0, 1, 0, 0, 0, 0), (17, .getfield 17, 3, 5, 1, 283, 0), (20, .iload_n 1, 1, 0, 0, 0, 0), (21, .aaload, 1, 0, 0, 0, 0), (22, .getfield 62, 3, 2, 3, 272, 0), (25, .ifCond .eq 7, 3, 32, 0, 0, 0), (28, .iload_n 2, 1, 0, 0, 0, 0), (29, .ifCond .ge 6, 3, 35, 0, 0, 0), (32, .ldc 94, 2, 0, 0, 489, (-1000000002)), (34, .ireturn, 1, 0, 0, 0, 0), (35, .aload_n 0, 1, 0, 0, 0, 0), (36, .getfield 17, 3, 5, 1, 283, 0), (39, .iload_n 1, 1, 0, 0, 0, 0), (40, .aaload, 1, 0, 0, 0, 0), (41, .astore_n 3, 1, 0, 0, 0, 0), (42, .aload_n 0, 1, 0, 0, 0, 0), (43, .getfield 34, 3, 5, 4, 286, 0), (46, .aload_n 0, 1, 0, 0, 0, 0), (47, .getfield 17, 3, 5, 1, 283, 0), (50, .iload_n 2, 1, 0, 0, 0, 0), (51, .aaload, 1, 0, 0, 0, 0), (52, .getfield 83, 3, 2, 1, 268, 0), (55, .invokevirtual 102, 3, 998, 2, 453, 3), (58, .aload_n 0, 1, 0, 0, 0, 0), (59, .getfield 34, 3, 5, 4, 286, 0), (62, .aload_n 3, 1, 0, 0, 0, 0), (63, .getfield 83, 3, 2, 1, 268, 0), (66, .invokevirtual 106, 3, 998, 2, 503, 3), (69, .aload_n 0, 1, 0, 0, 0, 0), (70, .getfield 34, 3, 5, 4, 286, 0), (73, .aload_n 0, 1, 0, 0, 0, 0)]
def zc_X5_gone_1 : List zi_Row := [(74, .getfield 17, 3, 5, 1, 283, 0), (77, .iload_n 2, 1, 0, 0, 0, 0), (78, .aaload, 1, 0, 0, 0, 0), (79, .getfield 109, 3, 2, 0, 266, 0), (82, .invokevirtual 86, 3, 998, 2, 329, 3), (85, .ifCond .eq 20, 3, 105, 0, 0, 0), (88, .aload_n 0, 1, 0, 0, 0, 0), (89, .iload_n 1, 1, 0, 0, 0, 0), (90, .aload_n 0, 1, 0, 0, 0, 0), (91, .getfield 17, 3, 5, 1, 283, 0), (94, .iload_n 2, 1, 0, 0, 0, 0), (95, .aaload, 1, 0, 0, 0, 0), (96, .getfield 109, 3, 2, 0, 266, 0), (99, .invokevirtual 90, 3, 998, 3, 477, 5), (102, .ifCond .ne 6, 3, 108, 0, 0, 0), (105, .ldc 94, 2, 0, 0, 489, (-1000000002)), (107, .ireturn, 1, 0, 0, 0, 0), (108, .aload_n 0, 1, 0, 0, 0, 0), (109, .iload_n 1, 1, 0, 0, 0, 0), (110, .invokevirtual 112, 3, 998, 2, 540, 5), (113, .istore 4, 2, 0, 0, 0, 0), (115, .aload_n 0, 1, 0, 0, 0, 0), (116, .iload_n 1, 1, 0, 0, 0, 0), (117, .invokevirtual 115, 3, 998, 2, 544, 5), (120, .aload_n 0, 1, 0, 0, 0, 0), (121, .iload_n 1, 1, 0, 0, 0, 0), (122, .iload_n 2, 1, 0, 0, 0, 0), (123, .invokevirtual 95, 3, 998, 3, 490, 5), (126, .aload_n 0, 1, 0, 0, 0, 0), (127, .getfield 17, 3, 5, 1, 283, 0), (130, .iload_n 2, 1, 0, 0, 0, 0), (131, .aaload, 1, 0, 0, 0, 0), (132, .getfield 83, 3, 2, 1, 268, 0), (135, .aload_n 0, 1, 0, 0, 0, 0), (136, .getfield 34, 3, 5, 4, 286, 0), (139, .invokevirtual 102, 3, 998, 2, 453, 3), (142, .aload_n 3, 1, 0, 0, 0, 0), (143, .getfield 83, 3, 2, 1, 268, 0), (146, .invokevirtual 119, 3, 8, 1, 552, 3), (149, .aload_n 3, 1, 0, 0, 0, 0)]
def zc_X5_gone_2 : List zi_Row := [(150, .iconst 0, 1, 0, 0, 0, 0), (151, .putfield 62, 3, 2, 3, 272, 0), (154, .iload 4, 2, 0, 0, 0, 0), (156, .ireturn, 1, 0, 0, 0, 0)]
def zc_X5_gone : List zi_Row := zc_X5_gone_0 ++ (zc_X5_gone_1 ++ (zc_X5_gone_2))
def zc_X5_open_0 : List zi_Row := [(0, .iload_n 1, 1, 0, 0, 0, 0), (1, .iconst 3, 1, 0, 0, 0, 0), (2, .if_icmp .ne 12, 3, 14, 0, 0, 0), (5, .aload_n 0, 1, 0, 0, 0, 0), (6, .iload 4, 2, 0, 0, 0, 0), (8, .invokevirtual 122, 3, 35, 2, 349, 5), (11, .goto 14, 3, 25, 0, 0, 0), (14, .iload 4, 2, 0, 0, 0, 0), (16, .iconst (-1), 1, 0, 0, 0, 0), (17, .if_icmp .ne 7, 3, 24, 0, 0, 0), (20, .iconst 1, 1, 0, 0, 0, 0), (21, .goto 4, 3, 25, 0, 0, 0), (24, .iconst 0, 1, 0, 0, 0, 0), (25, .istore 5, 2, 0, 0, 0, 0), (27, .iload_n 1, 1, 0, 0, 0, 0), (28, .iconst 1, 1, 0, 0, 0, 0), (29, .if_icmp .lt 27, 3, 56, 0, 0, 0), (32, .iload_n 1, 1, 0, 0, 0, 0), (33, .iconst 4, 1, 0, 0, 0, 0), (34, .if_icmp .gt 22, 3, 56, 0, 0, 0), (37, .iload_n 2, 1, 0, 0, 0, 0), (38, .invokestatic 125, 3, 31, 1, 557, 0), (41, .ifCond .eq 15, 3, 56, 0, 0, 0), (44, .iload_n 3, 1, 0, 0, 0, 0), (45, .invokestatic 125, 3, 31, 1, 557, 0), (48, .ifCond .eq 8, 3, 56, 0, 0, 0), (51, .iload 5, 2, 0, 0, 0, 0), (53, .ifCond .ne 6, 3, 59, 0, 0, 0), (56, .ldc 61, 2, 0, 0, 320, (-1000000001)), (58, .ireturn, 1, 0, 0, 0, 0), (59, .aload_n 0, 1, 0, 0, 0, 0), (60, .invokevirtual 128, 3, 42, 1, 560, 5), (63, .istore 6, 2, 0, 0, 0, 0), (65, .iload 6, 2, 0, 0, 0, 0), (67, .ifCond .ge 6, 3, 73, 0, 0, 0), (70, .ldc 132, 2, 0, 0, 564, (-1000000003)), (72, .ireturn, 1, 0, 0, 0, 0), (73, .iload_n 1, 1, 0, 0, 0, 0), (74, .iconst 3, 1, 0, 0, 0, 0), (75, .if_icmp .ne 19, 3, 94, 0, 0, 0)]
def zc_X5_open_1 : List zi_Row := [(78, .aload_n 0, 1, 0, 0, 0, 0), (79, .getfield 11, 3, 5, 0, 282, 0), (82, .iload 4, 2, 0, 0, 0, 0), (84, .aaload, 1, 0, 0, 0, 0), (85, .invokevirtual 133, 3, 998, 1, 565, 4), (88, .ifCond .eq 6, 3, 94, 0, 0, 0), (91, .ldc 94, 2, 0, 0, 489, (-1000000002)), (93, .ireturn, 1, 0, 0, 0, 0), (94, .iload_n 1, 1, 0, 0, 0, 0), (95, .iconst 3, 1, 0, 0, 0, 0), (96, .if_icmp .ne 16, 3, 112, 0, 0, 0), (99, .aload_n 0, 1, 0, 0, 0, 0), (100, .getfield 11, 3, 5, 0, 282, 0), (103, .iload 4, 2, 0, 0, 0, 0), (105, .aaload, 1, 0, 0, 0, 0), (106, .getfield 137, 3, 4, 5, 218, 0), (109, .goto 7, 3, 116, 0, 0, 0), (112, .aload_n 0, 1, 0, 0, 0, 0), (113, .invokevirtual 141, 3, 38, 1, 569, 5), (116, .istore 7, 2, 0, 0, 0, 0), (118, .iload 7, 2, 0, 0, 0, 0), (120, .ifCond .ge 6, 3, 126, 0, 0, 0), (123, .ldc 94, 2, 0, 0, 489, (-1000000002)), (125, .ireturn, 1, 0, 0, 0, 0), (126, .aload_n 0, 1, 0, 0, 0, 0), (127, .invokevirtual 144, 3, 998, 1, 575, 5), (130, .aload_n 0, 1, 0, 0, 0, 0), (131, .getfield 11, 3, 5, 0, 282, 0), (134, .iload 6, 2, 0, 0, 0, 0), (136, .aaload, 1, 0, 0, 0, 0), (137, .iload_n 1, 1, 0, 0, 0, 0), (138, .iload_n 2, 1, 0, 0, 0, 0), (139, .iload_n 3, 1, 0, 0, 0, 0), (140, .iload 4, 2, 0, 0, 0, 0), (142, .invokevirtual 147, 3, 998, 5, 592, 4), (145, .aload_n 0, 1, 0, 0, 0, 0), (146, .iload 6, 2, 0, 0, 0, 0), (148, .iload 7, 2, 0, 0, 0, 0), (150, .invokevirtual 151, 3, 998, 3, 596, 5), (153, .ifCond .ne 6, 3, 159, 0, 0, 0)]
def zc_X5_open_2 : List zi_Row := [(156, .ldc 94, 2, 0, 0, 489, (-1000000002)), (158, .ireturn, 1, 0, 0, 0, 0), (159, .aload_n 0, 1, 0, 0, 0, 0), (160, .getfield 11, 3, 5, 0, 282, 0), (163, .iload 6, 2, 0, 0, 0, 0), (165, .aaload, 1, 0, 0, 0, 0), (166, .iconst 1, 1, 0, 0, 0, 0), (167, .putfield 155, 3, 4, 2, 212, 0), (170, .aload_n 0, 1, 0, 0, 0, 0), (171, .iload 6, 2, 0, 0, 0, 0), (173, .invokevirtual 156, 3, 998, 2, 651, 5), (176, .iload 6, 2, 0, 0, 0, 0), (178, .ireturn, 1, 0, 0, 0, 0)]
def zc_X5_open : List zi_Row := zc_X5_open_0 ++ (zc_X5_open_1 ++ (zc_X5_open_2))
def zc_X5_close_0 : List zi_Row := [(0, .aload_n 0, 1, 0, 0, 0, 0), (1, .iload_n 1, 1, 0, 0, 0, 0), (2, .invokevirtual 122, 3, 35, 2, 349, 5), (5, .ifCond .ne 6, 3, 11, 0, 0, 0), (8, .ldc 61, 2, 0, 0, 320, (-1000000001)), (10, .ireturn, 1, 0, 0, 0, 0), (11, .aload_n 0, 1, 0, 0, 0, 0), (12, .iload_n 1, 1, 0, 0, 0, 0), (13, .invokevirtual 159, 3, 998, 2, 686, 5), (16, .iconst 0, 1, 0, 0, 0, 0), (17, .istore_n 2, 1, 0, 0, 0, 0), (18, .iconst 0, 1, 0, 0, 0, 0), (19, .istore_n 3, 1, 0, 0, 0, 0), (20, .iload_n 3, 1, 0, 0, 0, 0), (21, .bipush 10, 2, 0, 0, 0, 0), (23, .if_icmp .ge 26, 3, 49, 0, 0, 0), (26, .aload_n 0, 1, 0, 0, 0, 0), (27, .getfield 38, 3, 5, 5, 287, 0), (30, .iload_n 3, 1, 0, 0, 0, 0), (31, .baload, 1, 0, 0, 0, 0), (32, .ifCond .eq 11, 3, 43, 0, 0, 0), (35, .aload_n 0, 1, 0, 0, 0, 0), (36, .iload_n 3, 1, 0, 0, 0, 0), (37, .invokevirtual 162, 3, 998, 2, 690, 5), (40, .iinc 2 1, 3, 0, 0, 0, 0), (43, .iinc 3 1, 3, 0, 0, 0, 0), (46, .goto (-26), 3, 20, 0, 0, 0), (49, .iload_n 2, 1, 0, 0, 0, 0), (50, .ireturn, 1, 0, 0, 0, 0)]
def zc_X5_close : List zi_Row := zc_X5_close_0
def zc_X5_focus_0 : List zi_Row := [(0, .aload_n 0, 1, 0, 0, 0, 0), (1, .iload_n 1, 1, 0, 0, 0, 0), (2, .invokevirtual 122, 3, 35, 2, 349, 5), (5, .ifCond .ne 6, 3, 11, 0, 0, 0), (8, .ldc 61, 2, 0, 0, 320, (-1000000001)), (10, .ireturn, 1, 0, 0, 0, 0), (11, .aload_n 0, 1, 0, 0, 0, 0), (12, .getfield 24, 3, 5, 2, 284, 0), (15, .iconst 0, 1, 0, 0, 0, 0), (16, .invokevirtual 165, 3, 45, 2, 574, 1), (19, .istore_n 2, 1, 0, 0, 0, 0), (20, .aload_n 0, 1, 0, 0, 0, 0), (21, .iload_n 1, 1, 0, 0, 0, 0), (22, .invokevirtual 156, 3, 998, 2, 651, 5), (25, .iload_n 2, 1, 0, 0, 0, 0), (26, .ireturn, 1, 0, 0, 0, 0)]
def zc_X5_focus : List zi_Row := zc_X5_focus_0
def zc_X5_back_0 : List zi_Row := [(0, .aload_n 0, 1, 0, 0, 0, 0), (1, .getfield 24, 3, 5, 2, 284, 0), (4, .invokevirtual 168, 3, 44, 1, 573, 1), (7, .iconst 2, 1, 0, 0, 0, 0), (8, .if_icmp .ge 6, 3, 14, 0, 0, 0), (11, .ldc 94, 2, 0, 0, 489, (-1000000002)), (13, .ireturn, 1, 0, 0, 0, 0), (14, .aload_n 0, 1, 0, 0, 0, 0), (15, .getfield 24, 3, 5, 2, 284, 0), (18, .iconst 1, 1, 0, 0, 0, 0), (19, .invokevirtual 165, 3, 45, 2, 574, 1), (22, .istore_n 1, 1, 0, 0, 0, 0), (23, .aload_n 0, 1, 0, 0, 0, 0), (24, .iload_n 1, 1, 0, 0, 0, 0), (25, .invokevirtual 156, 3, 998, 2, 651, 5), (28, .iload_n 1, 1, 0, 0, 0, 0), (29, .ireturn, 1, 0, 0, 0, 0)]
def zc_X5_back : List zi_Row := zc_X5_back_0
def zc_X5_toward_0 : List zi_Row := [(0, .iload_n 1, 1, 0, 0, 0, 0), (1, .invokestatic 170, 3, 32, 1, 707, 0), (4, .ifCond .ne 6, 3, 10, 0, 0, 0), (7, .ldc 61, 2, 0, 0, 320, (-1000000001)), (9, .ireturn, 1, 0, 0, 0, 0), (10, .aload_n 0, 1, 0, 0, 0, 0), (11, .getfield 24, 3, 5, 2, 284, 0), (14, .iconst 0, 1, 0, 0, 0, 0), (15, .invokevirtual 165, 3, 45, 2, 574, 1), (18, .istore_n 2, 1, 0, 0, 0, 0), (19, .aload_n 0, 1, 0, 0, 0, 0), (20, .iload_n 2, 1, 0, 0, 0, 0), (21, .invokevirtual 173, 3, 36, 2, 710, 5), (24, .ifCond .ne 6, 3, 30, 0, 0, 0), (27, .ldc 94, 2, 0, 0, 489, (-1000000002)), (29, .ireturn, 1, 0, 0, 0, 0), (30, .aload_n 0, 1, 0, 0, 0, 0), (31, .invokevirtual 144, 3, 998, 1, 575, 5), (34, .aload_n 0, 1, 0, 0, 0, 0), (35, .iload_n 2, 1, 0, 0, 0, 0), (36, .invokevirtual 176, 3, 998, 2, 373, 5), (39, .iload_n 2, 1, 0, 0, 0, 0), (40, .iload_n 1, 1, 0, 0, 0, 0), (41, .invokevirtual 180, 3, 998, 3, 718, 3), (44, .istore_n 3, 1, 0, 0, 0, 0), (45, .aload_n 0, 1, 0, 0, 0, 0), (46, .iload_n 3, 1, 0, 0, 0, 0), (47, .invokevirtual 122, 3, 35, 2, 349, 5), (50, .ifCond .eq 8, 3, 58, 0, 0, 0), (53, .aload_n 0, 1, 0, 0, 0, 0), (54, .iload_n 3, 1, 0, 0, 0, 0), (55, .invokevirtual 156, 3, 998, 2, 651, 5), (58, .iload_n 3, 1, 0, 0, 0, 0), (59, .ireturn, 1, 0, 0, 0, 0)]
def zc_X5_toward : List zi_Row := zc_X5_toward_0
def zc_X5_steps_0 : List zi_Row := [(0, .aload_n 0, 1, 0, 0, 0, 0), (1, .iload_n 1, 1, 0, 0, 0, 0), (2, .invokevirtual 122, 3, 35, 2, 349, 5), (5, .ifCond .eq 11, 3, 16, 0, 0, 0), (8, .aload_n 0, 1, 0, 0, 0, 0), (9, .iload_n 2, 1, 0, 0, 0, 0), (10, .invokevirtual 122, 3, 35, 2, 349, 5), (13, .ifCond .ne 6, 3, 19, 0, 0, 0), (16, .ldc 61, 2, 0, 0, 320, (-1000000001)), (18, .ireturn, 1, 0, 0, 0, 0), (19, .aload_n 0, 1, 0, 0, 0, 0), (20, .iload_n 1, 1, 0, 0, 0, 0), (21, .invokevirtual 173, 3, 36, 2, 710, 5), (24, .ifCond .eq 11, 3, 35, 0, 0, 0), (27, .aload_n 0, 1, 0, 0, 0, 0), (28, .iload_n 2, 1, 0, 0, 0, 0), (29, .invokevirtual 173, 3, 36, 2, 710, 5), (32, .ifCond .ne 6, 3, 38, 0, 0, 0), (35, .ldc 94, 2, 0, 0, 489, (-1000000002)), (37, .ireturn, 1, 0, 0, 0, 0), (38, .aload_n 0, 1, 0, 0, 0, 0), (39, .invokevirtual 144, 3, 998, 1, 575, 5), (42, .aload_n 0, 1, 0, 0, 0, 0), (43, .getfield 46, 3, 5, 7, 289, 0), (46, .iconst (-1), 1, 0, 0, 0, 0), (47, .invokestatic 184, 3, 9, 2, 748, 0), (50, .aload_n 0, 1, 0, 0, 0, 0), (51, .getfield 46, 3, 5, 7, 289, 0), (54, .iload_n 1, 1, 0, 0, 0, 0), (55, .iconst 0, 1, 0, 0, 0, 0), (56, .iastore, 1, 0, 0, 0, 0), (57, .aload_n 0, 1, 0, 0, 0, 0), (58, .getfield 49, 3, 5, 8, 290, 0), (61, .invokevirtual 190, 3, 7, 1, 749, 1), (64, .aload_n 0, 1, 0, 0, 0, 0), (65, .getfield 49, 3, 5, 8, 290, 0), (68, .iload_n 1, 1, 0, 0, 0, 0), (69, .invokevirtual 191, 3, 998, 2, 750, 1), (72, .iconst 0, 1, 0, 0, 0, 0), (73, .istore_n 3, 1, 0, 0, 0, 0)]
def zc_X5_steps_1 : List zi_Row := [(74, .iload_n 3, 1, 0, 0, 0, 0), (75, .bipush 10, 2, 0, 0, 0, 0), (77, .if_icmp .ge 32, 3, 109, 0, 0, 0), (80, .iload_n 3, 1, 0, 0, 0, 0), (81, .aload_n 0, 1, 0, 0, 0, 0), (82, .getfield 49, 3, 5, 8, 290, 0), (85, .invokevirtual 168, 3, 44, 1, 573, 1), (88, .if_icmp .ge 21, 3, 109, 0, 0, 0), (91, .aload_n 0, 1, 0, 0, 0, 0), (92, .aload_n 0, 1, 0, 0, 0, 0), (93, .getfield 49, 3, 5, 8, 290, 0), (96, .iload_n 3, 1, 0, 0, 0, 0), (97, .invokevirtual 165, 3, 45, 2, 574, 1), (100, .invokevirtual 194, 3, 998, 2, 751, 5), (103, .iinc 3 1, 3, 0, 0, 0, 0), (106, .goto (-32), 3, 74, 0, 0, 0), (109, .aload_n 0, 1, 0, 0, 0, 0), (110, .getfield 46, 3, 5, 7, 289, 0), (113, .iload_n 2, 1, 0, 0, 0, 0), (114, .iaload, 1, 0, 0, 0, 0), (115, .ifCond .ge 8, 3, 123, 0, 0, 0), (118, .ldc 197, 2, 0, 0, 755, (-1000000005)), (120, .goto 9, 3, 129, 0, 0, 0), (123, .aload_n 0, 1, 0, 0, 0, 0), (124, .getfield 46, 3, 5, 7, 289, 0), (127, .iload_n 2, 1, 0, 0, 0, 0), (128, .iaload, 1, 0, 0, 0, 0), (129, .ireturn, 1, 0, 0, 0, 0)]
def zc_X5_steps : List zi_Row := zc_X5_steps_0 ++ (zc_X5_steps_1)
def zc_X5_drag_0 : List zi_Row := [(0, .aload_n 0, 1, 0, 0, 0, 0), (1, .iload_n 1, 1, 0, 0, 0, 0), (2, .invokevirtual 122, 3, 35, 2, 349, 5), (5, .ifCond .eq 28, 3, 33, 0, 0, 0), (8, .aload_n 0, 1, 0, 0, 0, 0), (9, .iload_n 2, 1, 0, 0, 0, 0), (10, .invokevirtual 122, 3, 35, 2, 349, 5), (13, .ifCond .eq 20, 3, 33, 0, 0, 0), (16, .iload_n 1, 1, 0, 0, 0, 0), (17, .iload_n 2, 1, 0, 0, 0, 0), (18, .if_icmp .eq 15, 3, 33, 0, 0, 0), (21, .iload_n 3, 1, 0, 0, 0, 0), (22, .invokestatic 170, 3, 32, 1, 707, 0), (25, .ifCond .ne 11, 3, 36, 0, 0, 0), (28, .iload_n 3, 1, 0, 0, 0, 0), (29, .iconst 4, 1, 0, 0, 0, 0), (30, .if_icmp .eq 6, 3, 36, 0, 0, 0), (33, .ldc 61, 2, 0, 0, 320, (-1000000001)), (35, .ireturn, 1, 0, 0, 0, 0), (36, .aload_n 0, 1, 0, 0, 0, 0), (37, .getfield 11, 3, 5, 0, 282, 0), (40, .iload_n 1, 1, 0, 0, 0, 0), (41, .aaload, 1, 0, 0, 0, 0), (42, .invokevirtual 198, 3, 998, 1, 369, 4), (45, .ifCond .eq 15, 3, 60, 0, 0, 0), (48, .aload_n 0, 1, 0, 0, 0, 0), (49, .getfield 11, 3, 5, 0, 282, 0), (52, .iload_n 2, 1, 0, 0, 0, 0), (53, .aaload, 1, 0, 0, 0, 0), (54, .invokevirtual 198, 3, 998, 1, 369, 4), (57, .ifCond .ne 6, 3, 63, 0, 0, 0), (60, .ldc 94, 2, 0, 0, 489, (-1000000002)), (62, .ireturn, 1, 0, 0, 0, 0), (63, .aload_n 0, 1, 0, 0, 0, 0), (64, .getfield 11, 3, 5, 0, 282, 0), (67, .iload_n 1, 1, 0, 0, 0, 0), (68, .aaload, 1, 0, 0, 0, 0), (69, .getfield 137, 3, 4, 5, 218, 0), (72, .istore 4, 2, 0, 0, 0, 0), (74, .aload_n 0, 1, 0, 0, 0, 0)]
def zc_X5_drag_1 : List zi_Row := [(75, .getfield 11, 3, 5, 0, 282, 0), (78, .iload_n 2, 1, 0, 0, 0, 0), (79, .aaload, 1, 0, 0, 0, 0), (80, .getfield 137, 3, 4, 5, 218, 0), (83, .istore 5, 2, 0, 0, 0, 0), (85, .aload_n 0, 1, 0, 0, 0, 0), (86, .iload_n 1, 1, 0, 0, 0, 0), (87, .iload_n 2, 1, 0, 0, 0, 0), (88, .iload_n 3, 1, 0, 0, 0, 0), (89, .invokevirtual 201, 3, 998, 4, 760, 5), (92, .aload_n 0, 1, 0, 0, 0, 0), (93, .iload_n 1, 1, 0, 0, 0, 0), (94, .invokevirtual 159, 3, 998, 2, 686, 5), (97, .aload_n 0, 1, 0, 0, 0, 0), (98, .getfield 34, 3, 5, 4, 286, 0), (101, .aload_n 0, 1, 0, 0, 0, 0), (102, .getfield 17, 3, 5, 1, 283, 0), (105, .iload 5, 2, 0, 0, 0, 0), (107, .aaload, 1, 0, 0, 0, 0), (108, .getfield 109, 3, 2, 0, 266, 0), (111, .invokevirtual 86, 3, 998, 2, 329, 3), (114, .ifCond .eq 19, 3, 133, 0, 0, 0), (117, .iload 4, 2, 0, 0, 0, 0), (119, .iload 5, 2, 0, 0, 0, 0), (121, .if_icmp .eq 15, 3, 136, 0, 0, 0), (124, .aload_n 0, 1, 0, 0, 0, 0), (125, .iload 5, 2, 0, 0, 0, 0), (127, .invokevirtual 205, 3, 998, 2, 353, 5), (130, .ifCond .ne 6, 3, 136, 0, 0, 0), (133, .ldc 94, 2, 0, 0, 489, (-1000000002)), (135, .ireturn, 1, 0, 0, 0, 0), (136, .aload_n 0, 1, 0, 0, 0, 0), (137, .iload_n 1, 1, 0, 0, 0, 0), (138, .invokevirtual 208, 3, 998, 2, 469, 5), (141, .aload_n 0, 1, 0, 0, 0, 0), (142, .getfield 17, 3, 5, 1, 283, 0), (145, .iload 4, 2, 0, 0, 0, 0), (147, .aaload, 1, 0, 0, 0, 0), (148, .getfield 83, 3, 2, 1, 268, 0), (151, .iload_n 1, 1, 0, 0, 0, 0)]
def zc_X5_drag_2 : List zi_Row := [(152, .invokevirtual 211, 3, 998, 2, 377, 3), (155, .aload_n 0, 1, 0, 0, 0, 0), (156, .getfield 17, 3, 5, 1, 283, 0), (159, .iload 5, 2, 0, 0, 0, 0), (161, .aaload, 1, 0, 0, 0, 0), (162, .getfield 83, 3, 2, 1, 268, 0), (165, .aload_n 0, 1, 0, 0, 0, 0), (166, .getfield 34, 3, 5, 4, 286, 0), (169, .invokevirtual 102, 3, 998, 2, 453, 3), (172, .iload 4, 2, 0, 0, 0, 0), (174, .iload 5, 2, 0, 0, 0, 0), (176, .if_icmp .eq 9, 3, 185, 0, 0, 0), (179, .aload_n 0, 1, 0, 0, 0, 0), (180, .iload 5, 2, 0, 0, 0, 0), (182, .invokevirtual 214, 3, 998, 2, 429, 5), (185, .aload_n 0, 1, 0, 0, 0, 0), (186, .iload_n 1, 1, 0, 0, 0, 0), (187, .invokevirtual 156, 3, 998, 2, 651, 5), (190, .iconst 0, 1, 0, 0, 0, 0), (191, .ireturn, 1, 0, 0, 0, 0)]
def zc_X5_drag : List zi_Row := zc_X5_drag_0 ++ (zc_X5_drag_1 ++ (zc_X5_drag_2))
def zc_X5_move_0 : List zi_Row := [(0, .aload_n 0, 1, 0, 0, 0, 0), (1, .iload_n 1, 1, 0, 0, 0, 0), (2, .invokevirtual 122, 3, 35, 2, 349, 5), (5, .ifCond .eq 17, 3, 22, 0, 0, 0), (8, .iload_n 2, 1, 0, 0, 0, 0), (9, .invokestatic 217, 3, 34, 1, 770, 0), (12, .ifCond .eq 10, 3, 22, 0, 0, 0), (15, .iload_n 3, 1, 0, 0, 0, 0), (16, .invokestatic 217, 3, 34, 1, 770, 0), (19, .ifCond .ne 6, 3, 25, 0, 0, 0), (22, .ldc 61, 2, 0, 0, 320, (-1000000001)), (24, .ireturn, 1, 0, 0, 0, 0), (25, .aload_n 0, 1, 0, 0, 0, 0), (26, .getfield 11, 3, 5, 0, 282, 0), (29, .iload_n 1, 1, 0, 0, 0, 0), (30, .aaload, 1, 0, 0, 0, 0), (31, .astore 4, 2, 0, 0, 0, 0), (33, .aload 4, 2, 0, 0, 0, 0), (35, .invokevirtual 220, 3, 998, 1, 357, 4), (38, .ifCond .ne 6, 3, 44, 0, 0, 0), (41, .ldc 94, 2, 0, 0, 489, (-1000000002)), (43, .ireturn, 1, 0, 0, 0, 0), (44, .aload_n 0, 1, 0, 0, 0, 0), (45, .iload_n 1, 1, 0, 0, 0, 0), (46, .invokevirtual 208, 3, 998, 2, 469, 5), (49, .aload 4, 2, 0, 0, 0, 0), (51, .invokevirtual 133, 3, 998, 1, 565, 4), (54, .ifCond .eq 36, 3, 90, 0, 0, 0), (57, .aload 4, 2, 0, 0, 0, 0), (59, .getfield 223, 3, 4, 1, 210, 0), (62, .iconst 0, 1, 0, 0, 0, 0), (63, .iconst 0, 1, 0, 0, 0, 0), (64, .iload_n 2, 1, 0, 0, 0, 0), (65, .sipush 400, 3, 0, 0, 0, 0), (68, .invokestatic 226, 3, 998, 3, 773, 0), (71, .iastore, 1, 0, 0, 0, 0), (72, .aload 4, 2, 0, 0, 0, 0), (74, .getfield 223, 3, 4, 1, 210, 0), (77, .iconst 1, 1, 0, 0, 0, 0), (78, .iconst 0, 1, 0, 0, 0, 0)]
def zc_X5_move_1 : List zi_Row := [(79, .iload_n 3, 1, 0, 0, 0, 0), (80, .sipush 400, 3, 0, 0, 0, 0), (83, .invokestatic 226, 3, 998, 3, 773, 0), (86, .iastore, 1, 0, 0, 0, 0), (87, .goto 23, 3, 110, 0, 0, 0), (90, .aload 4, 2, 0, 0, 0, 0), (92, .iload_n 2, 1, 0, 0, 0, 0), (93, .iload_n 3, 1, 0, 0, 0, 0), (94, .aload_n 0, 1, 0, 0, 0, 0), (95, .getfield 17, 3, 5, 1, 283, 0), (98, .aload 4, 2, 0, 0, 0, 0), (100, .getfield 137, 3, 4, 5, 218, 0), (103, .aaload, 1, 0, 0, 0, 0), (104, .getfield 109, 3, 2, 0, 266, 0), (107, .invokevirtual 230, 3, 998, 4, 650, 4), (110, .iconst 0, 1, 0, 0, 0, 0), (111, .ireturn, 1, 0, 0, 0, 0)]
def zc_X5_move : List zi_Row := zc_X5_move_0 ++ (zc_X5_move_1)
def zc_X5_share_0 : List zi_Row := [(0, .aload_n 0, 1, 0, 0, 0, 0), (1, .iload_n 1, 1, 0, 0, 0, 0), (2, .invokevirtual 122, 3, 35, 2, 349, 5), (5, .ifCond .eq 22, 3, 27, 0, 0, 0), (8, .iload_n 2, 1, 0, 0, 0, 0), (9, .invokestatic 234, 3, 33, 1, 778, 0), (12, .ifCond .eq 15, 3, 27, 0, 0, 0), (15, .iload_n 3, 1, 0, 0, 0, 0), (16, .bipush 10, 2, 0, 0, 0, 0), (18, .if_icmp .lt 9, 3, 27, 0, 0, 0), (21, .iload_n 3, 1, 0, 0, 0, 0), (22, .bipush 90, 2, 0, 0, 0, 0), (24, .if_icmp .le 6, 3, 30, 0, 0, 0), (27, .ldc 61, 2, 0, 0, 320, (-1000000001)), (29, .ireturn, 1, 0, 0, 0, 0), (30, .aload_n 0, 1, 0, 0, 0, 0), (31, .getfield 11, 3, 5, 0, 282, 0), (34, .iload_n 1, 1, 0, 0, 0, 0), (35, .aaload, 1, 0, 0, 0, 0), (36, .invokevirtual 198, 3, 998, 1, 369, 4), (39, .ifCond .ne 6, 3, 45, 0, 0, 0), (42, .ldc 94, 2, 0, 0, 489, (-1000000002)), (44, .ireturn, 1, 0, 0, 0, 0), (45, .aload_n 0, 1, 0, 0, 0, 0), (46, .iload_n 1, 1, 0, 0, 0, 0), (47, .invokevirtual 176, 3, 998, 2, 373, 5), (50, .astore 4, 2, 0, 0, 0, 0), (52, .aload 4, 2, 0, 0, 0, 0), (54, .iload_n 1, 1, 0, 0, 0, 0), (55, .iload_n 2, 1, 0, 0, 0, 0), (56, .invokevirtual 237, 3, 998, 3, 781, 3), (59, .istore 5, 2, 0, 0, 0, 0), (61, .iload 5, 2, 0, 0, 0, 0), (63, .ifCond .ge 8, 3, 71, 0, 0, 0), (66, .ldc 94, 2, 0, 0, 489, (-1000000002)), (68, .goto 11, 3, 79, 0, 0, 0), (71, .aload 4, 2, 0, 0, 0, 0), (73, .iload 5, 2, 0, 0, 0, 0), (75, .iload_n 3, 1, 0, 0, 0, 0), (76, .invokevirtual 240, 3, 998, 3, 785, 3)]
def zc_X5_share_1 : List zi_Row := [(79, .ireturn, 1, 0, 0, 0, 0)]
def zc_X5_share : List zi_Row := zc_X5_share_0 ++ (zc_X5_share_1)
def zc_X5_area_0 : List zi_Row := [(0, .aload_n 0, 1, 0, 0, 0, 0), (1, .iload_n 1, 1, 0, 0, 0, 0), (2, .invokevirtual 122, 3, 35, 2, 349, 5), (5, .ifCond .ne 6, 3, 11, 0, 0, 0), (8, .ldc 61, 2, 0, 0, 320, (-1000000001)), (10, .ireturn, 1, 0, 0, 0, 0), (11, .aload_n 0, 1, 0, 0, 0, 0), (12, .invokevirtual 144, 3, 998, 1, 575, 5), (15, .iload_n 2, 1, 0, 0, 0, 0), (16, .tableswitch 81 0 4 #[36, 63, 63, 72, 72], 36, 0, 0, 0, 0), (52, .aload_n 0, 1, 0, 0, 0, 0), (53, .getfield 11, 3, 5, 0, 282, 0), (56, .iload_n 1, 1, 0, 0, 0, 0), (57, .aaload, 1, 0, 0, 0, 0), (58, .invokevirtual 133, 3, 998, 1, 565, 4), (61, .ifCond .eq 8, 3, 69, 0, 0, 0), (64, .ldc 197, 2, 0, 0, 755, (-1000000005)), (66, .goto 12, 3, 78, 0, 0, 0), (69, .aload_n 0, 1, 0, 0, 0, 0), (70, .getfield 11, 3, 5, 0, 282, 0), (73, .iload_n 1, 1, 0, 0, 0, 0), (74, .aaload, 1, 0, 0, 0, 0), (75, .getfield 137, 3, 4, 5, 218, 0), (78, .ireturn, 1, 0, 0, 0, 0), (79, .aload_n 0, 1, 0, 0, 0, 0), (80, .iload_n 1, 1, 0, 0, 0, 0), (81, .iload_n 2, 1, 0, 0, 0, 0), (82, .iconst 1, 1, 0, 0, 0, 0), (83, .isub, 1, 0, 0, 0, 0), (84, .invokevirtual 243, 3, 998, 3, 639, 5), (87, .ireturn, 1, 0, 0, 0, 0), (88, .aload_n 0, 1, 0, 0, 0, 0), (89, .iload_n 1, 1, 0, 0, 0, 0), (90, .iload_n 2, 1, 0, 0, 0, 0), (91, .iconst 3, 1, 0, 0, 0, 0), (92, .isub, 1, 0, 0, 0, 0), (93, .invokevirtual 246, 3, 998, 3, 631, 5), (96, .ireturn, 1, 0, 0, 0, 0), (97, .ldc 61, 2, 0, 0, 320, (-1000000001)), (99, .ireturn, 1, 0, 0, 0, 0)]
def zc_X5_area : List zi_Row := zc_X5_area_0
def zc_X5_about_0 : List zi_Row := [(0, .aload_n 0, 1, 0, 0, 0, 0), (1, .iload_n 1, 1, 0, 0, 0, 0), (2, .invokevirtual 122, 3, 35, 2, 349, 5), (5, .ifCond .ne 6, 3, 11, 0, 0, 0), (8, .ldc 61, 2, 0, 0, 320, (-1000000001)), (10, .ireturn, 1, 0, 0, 0, 0), (11, .aload_n 0, 1, 0, 0, 0, 0), (12, .getfield 11, 3, 5, 0, 282, 0), (15, .iload_n 1, 1, 0, 0, 0, 0), (16, .aaload, 1, 0, 0, 0, 0), (17, .astore_n 3, 1, 0, 0, 0, 0), (18, .iload_n 2, 1, 0, 0, 0, 0), (19, .tableswitch 123 0 6 #[41, 46, 46, 55, 72, 93, 102], 41, 0, 0, 0, 0), (60, .aload_n 3, 1, 0, 0, 0, 0), (61, .getfield 249, 3, 4, 3, 214, 0), (64, .ireturn, 1, 0, 0, 0, 0), (65, .aload_n 3, 1, 0, 0, 0, 0), (66, .getfield 252, 3, 4, 0, 208, 0), (69, .iload_n 2, 1, 0, 0, 0, 0), (70, .iconst 1, 1, 0, 0, 0, 0), (71, .isub, 1, 0, 0, 0, 0), (72, .iaload, 1, 0, 0, 0, 0), (73, .ireturn, 1, 0, 0, 0, 0), (74, .aload_n 3, 1, 0, 0, 0, 0), (75, .getfield 255, 3, 4, 4, 216, 0), (78, .ifCond .ge 8, 3, 86, 0, 0, 0), (81, .ldc 197, 2, 0, 0, 755, (-1000000005)), (83, .goto 7, 3, 90, 0, 0, 0), (86, .aload_n 3, 1, 0, 0, 0, 0), (87, .getfield 255, 3, 4, 4, 216, 0), (90, .ireturn, 1, 0, 0, 0, 0), (91, .aload_n 3, 1, 0, 0, 0, 0), (92, .invokevirtual 220, 3, 998, 1, 357, 4), (95, .ifCond .ne 11, 3, 106, 0, 0, 0), (98, .aload_n 0, 1, 0, 0, 0, 0), (99, .iload_n 1, 1, 0, 0, 0, 0), (100, .invokevirtual 173, 3, 36, 2, 710, 5), (103, .ifCond .eq 7, 3, 110, 0, 0, 0), (106, .iconst 1, 1, 0, 0, 0, 0), (107, .goto 4, 3, 111, 0, 0, 0)]
def zc_X5_about_1 : List zi_Row := [(110, .iconst 0, 1, 0, 0, 0, 0), (111, .ireturn, 1, 0, 0, 0, 0), (112, .aload_n 0, 1, 0, 0, 0, 0), (113, .getfield 24, 3, 5, 2, 284, 0), (116, .iload_n 1, 1, 0, 0, 0, 0), (117, .invokevirtual 258, 3, 998, 2, 797, 1), (120, .ireturn, 1, 0, 0, 0, 0), (121, .aload_n 3, 1, 0, 0, 0, 0), (122, .invokevirtual 220, 3, 998, 1, 357, 4), (125, .ifCond .eq 14, 3, 139, 0, 0, 0), (128, .aload_n 0, 1, 0, 0, 0, 0), (129, .getfield 28, 3, 5, 3, 285, 0), (132, .iload_n 1, 1, 0, 0, 0, 0), (133, .invokevirtual 258, 3, 998, 2, 797, 1), (136, .goto 5, 3, 141, 0, 0, 0), (139, .ldc 197, 2, 0, 0, 755, (-1000000005)), (141, .ireturn, 1, 0, 0, 0, 0), (142, .ldc 61, 2, 0, 0, 320, (-1000000001)), (144, .ireturn, 1, 0, 0, 0, 0)]
def zc_X5_about : List zi_Row := zc_X5_about_0 ++ (zc_X5_about_1)
def zc_X5_isOf_0 : List zi_Row := [(0, .aload_n 0, 1, 0, 0, 0, 0), (1, .iload_n 1, 1, 0, 0, 0, 0), (2, .invokevirtual 122, 3, 35, 2, 349, 5), (5, .ifCond .eq 12, 3, 17, 0, 0, 0), (8, .iload_n 2, 1, 0, 0, 0, 0), (9, .ifCond .lt 8, 3, 17, 0, 0, 0), (12, .iload_n 2, 1, 0, 0, 0, 0), (13, .iconst 4, 1, 0, 0, 0, 0), (14, .if_icmp .le 6, 3, 20, 0, 0, 0), (17, .ldc 61, 2, 0, 0, 320, (-1000000001)), (19, .ireturn, 1, 0, 0, 0, 0), (20, .aload_n 0, 1, 0, 0, 0, 0), (21, .getfield 11, 3, 5, 0, 282, 0), (24, .iload_n 1, 1, 0, 0, 0, 0), (25, .aaload, 1, 0, 0, 0, 0), (26, .iload_n 2, 1, 0, 0, 0, 0), (27, .invokevirtual 261, 3, 48, 2, 802, 4), (30, .ifCond .eq 7, 3, 37, 0, 0, 0), (33, .iconst 1, 1, 0, 0, 0, 0), (34, .goto 4, 3, 38, 0, 0, 0), (37, .iconst 0, 1, 0, 0, 0, 0), (38, .ireturn, 1, 0, 0, 0, 0)]
def zc_X5_isOf : List zi_Row := zc_X5_isOf_0
def zc_X5_at_0 : List zi_Row := [(0, .iload_n 1, 1, 0, 0, 0, 0), (1, .invokestatic 54, 3, 29, 1, 314, 0), (4, .ifCond .ne 6, 3, 10, 0, 0, 0), (7, .ldc 61, 2, 0, 0, 320, (-1000000001)), (9, .ireturn, 1, 0, 0, 0, 0), (10, .aload_n 0, 1, 0, 0, 0, 0), (11, .getfield 17, 3, 5, 1, 283, 0), (14, .iload_n 1, 1, 0, 0, 0, 0), (15, .aaload, 1, 0, 0, 0, 0), (16, .astore 4, 2, 0, 0, 0, 0), (18, .aload 4, 2, 0, 0, 0, 0), (20, .getfield 62, 3, 2, 3, 272, 0), (23, .ifCond .ne 6, 3, 29, 0, 0, 0), (26, .ldc 94, 2, 0, 0, 489, (-1000000002)), (28, .ireturn, 1, 0, 0, 0, 0), (29, .iload_n 2, 1, 0, 0, 0, 0), (30, .ifCond .lt 29, 3, 59, 0, 0, 0), (33, .iload_n 2, 1, 0, 0, 0, 0), (34, .aload 4, 2, 0, 0, 0, 0), (36, .getfield 109, 3, 2, 0, 266, 0), (39, .iconst 0, 1, 0, 0, 0, 0), (40, .iaload, 1, 0, 0, 0, 0), (41, .if_icmp .ge 18, 3, 59, 0, 0, 0), (44, .iload_n 3, 1, 0, 0, 0, 0), (45, .ifCond .lt 14, 3, 59, 0, 0, 0), (48, .iload_n 3, 1, 0, 0, 0, 0), (49, .aload 4, 2, 0, 0, 0, 0), (51, .getfield 109, 3, 2, 0, 266, 0), (54, .iconst 1, 1, 0, 0, 0, 0), (55, .iaload, 1, 0, 0, 0, 0), (56, .if_icmp .lt 6, 3, 62, 0, 0, 0), (59, .ldc 61, 2, 0, 0, 320, (-1000000001)), (61, .ireturn, 1, 0, 0, 0, 0), (62, .aload_n 0, 1, 0, 0, 0, 0), (63, .getfield 28, 3, 5, 3, 285, 0), (66, .invokevirtual 168, 3, 44, 1, 573, 1), (69, .iconst 1, 1, 0, 0, 0, 0), (70, .isub, 1, 0, 0, 0, 0), (71, .istore 5, 2, 0, 0, 0, 0), (73, .iload 5, 2, 0, 0, 0, 0)]
def zc_X5_at_1 : List zi_Row := [(75, .ifCond .lt 47, 3, 122, 0, 0, 0), (78, .aload_n 0, 1, 0, 0, 0, 0), (79, .getfield 11, 3, 5, 0, 282, 0), (82, .aload_n 0, 1, 0, 0, 0, 0), (83, .getfield 28, 3, 5, 3, 285, 0), (86, .iload 5, 2, 0, 0, 0, 0), (88, .invokevirtual 165, 3, 45, 2, 574, 1), (91, .aaload, 1, 0, 0, 0, 0), (92, .iload_n 2, 1, 0, 0, 0, 0), (93, .iload_n 3, 1, 0, 0, 0, 0), (94, .iload_n 1, 1, 0, 0, 0, 0), (95, .aload 4, 2, 0, 0, 0, 0), (97, .getfield 109, 3, 2, 0, 266, 0), (100, .invokevirtual 264, 3, 998, 5, 810, 4), (103, .ifCond .eq 13, 3, 116, 0, 0, 0), (106, .aload_n 0, 1, 0, 0, 0, 0), (107, .getfield 28, 3, 5, 3, 285, 0), (110, .iload 5, 2, 0, 0, 0, 0), (112, .invokevirtual 165, 3, 45, 2, 574, 1), (115, .ireturn, 1, 0, 0, 0, 0), (116, .iinc 5 (-1), 3, 0, 0, 0, 0), (119, .goto (-46), 3, 73, 0, 0, 0), (122, .aload_n 0, 1, 0, 0, 0, 0), (123, .invokevirtual 144, 3, 998, 1, 575, 5), (126, .aload 4, 2, 0, 0, 0, 0), (128, .getfield 83, 3, 2, 1, 268, 0), (131, .iload_n 2, 1, 0, 0, 0, 0), (132, .iload_n 3, 1, 0, 0, 0, 0), (133, .invokevirtual 268, 3, 998, 3, 821, 3), (136, .ireturn, 1, 0, 0, 0, 0)]
def zc_X5_at : List zi_Row := zc_X5_at_0 ++ (zc_X5_at_1)
def zc_X5_neighbour_0 : List zi_Row := [(0, .aload_n 0, 1, 0, 0, 0, 0), (1, .iload_n 1, 1, 0, 0, 0, 0), (2, .invokevirtual 122, 3, 35, 2, 349, 5), (5, .ifCond .eq 10, 3, 15, 0, 0, 0), (8, .iload_n 2, 1, 0, 0, 0, 0), (9, .invokestatic 170, 3, 32, 1, 707, 0), (12, .ifCond .ne 6, 3, 18, 0, 0, 0), (15, .ldc 61, 2, 0, 0, 320, (-1000000001)), (17, .ireturn, 1, 0, 0, 0, 0), (18, .aload_n 0, 1, 0, 0, 0, 0), (19, .iload_n 1, 1, 0, 0, 0, 0), (20, .invokevirtual 173, 3, 36, 2, 710, 5), (23, .ifCond .ne 6, 3, 29, 0, 0, 0), (26, .ldc 94, 2, 0, 0, 489, (-1000000002)), (28, .ireturn, 1, 0, 0, 0, 0), (29, .aload_n 0, 1, 0, 0, 0, 0), (30, .invokevirtual 144, 3, 998, 1, 575, 5), (33, .aload_n 0, 1, 0, 0, 0, 0), (34, .iload_n 1, 1, 0, 0, 0, 0), (35, .invokevirtual 176, 3, 998, 2, 373, 5), (38, .iload_n 1, 1, 0, 0, 0, 0), (39, .iload_n 2, 1, 0, 0, 0, 0), (40, .invokevirtual 180, 3, 998, 3, 718, 3), (43, .ireturn, 1, 0, 0, 0, 0)]
def zc_X5_neighbour : List zi_Row := zc_X5_neighbour_0
def zc_X5_told_0 : List zi_Row := [(0, .iload_n 1, 1, 0, 0, 0, 0), (1, .invokestatic 54, 3, 29, 1, 314, 0), (4, .ifCond .eq 13, 3, 17, 0, 0, 0), (7, .iload_n 2, 1, 0, 0, 0, 0), (8, .ifCond .lt 9, 3, 17, 0, 0, 0), (11, .iload_n 2, 1, 0, 0, 0, 0), (12, .bipush 6, 2, 0, 0, 0, 0), (14, .if_icmp .le 6, 3, 20, 0, 0, 0), (17, .ldc 61, 2, 0, 0, 320, (-1000000001)), (19, .ireturn, 1, 0, 0, 0, 0), (20, .aload_n 0, 1, 0, 0, 0, 0), (21, .getfield 17, 3, 5, 1, 283, 0), (24, .iload_n 1, 1, 0, 0, 0, 0), (25, .aaload, 1, 0, 0, 0, 0), (26, .astore_n 3, 1, 0, 0, 0, 0), (27, .aload_n 3, 1, 0, 0, 0, 0), (28, .getfield 62, 3, 2, 3, 272, 0), (31, .ifCond .ne 6, 3, 37, 0, 0, 0), (34, .ldc 94, 2, 0, 0, 489, (-1000000002)), (36, .ireturn, 1, 0, 0, 0, 0), (37, .iload_n 2, 1, 0, 0, 0, 0), (38, .tableswitch 72 0 5 #[38, 38, 45, 53, 61, 61], 38, 0, 0, 0, 0), (76, .aload_n 3, 1, 0, 0, 0, 0), (77, .getfield 109, 3, 2, 0, 266, 0), (80, .iload_n 2, 1, 0, 0, 0, 0), (81, .iaload, 1, 0, 0, 0, 0), (82, .ireturn, 1, 0, 0, 0, 0), (83, .aload_n 3, 1, 0, 0, 0, 0), (84, .getfield 83, 3, 2, 1, 268, 0), (87, .invokevirtual 271, 3, 998, 1, 837, 3), (90, .ireturn, 1, 0, 0, 0, 0), (91, .aload_n 3, 1, 0, 0, 0, 0), (92, .getfield 83, 3, 2, 1, 268, 0), (95, .invokevirtual 274, 3, 998, 1, 838, 3), (98, .ireturn, 1, 0, 0, 0, 0), (99, .aload_n 3, 1, 0, 0, 0, 0), (100, .getfield 83, 3, 2, 1, 268, 0), (103, .iload_n 2, 1, 0, 0, 0, 0), (104, .iconst 4, 1, 0, 0, 0, 0), (105, .isub, 1, 0, 0, 0, 0)]
def zc_X5_told_1 : List zi_Row := [(106, .invokevirtual 277, 3, 998, 2, 842, 3), (109, .ireturn, 1, 0, 0, 0, 0), (110, .aload_n 0, 1, 0, 0, 0, 0), (111, .iload_n 1, 1, 0, 0, 0, 0), (112, .invokevirtual 280, 3, 998, 2, 843, 5), (115, .ireturn, 1, 0, 0, 0, 0)]
def zc_X5_told : List zi_Row := zc_X5_told_0 ++ (zc_X5_told_1)
def zc_X5_tab_0 : List zi_Row := [(0, .iload_n 1, 1, 0, 0, 0, 0), (1, .invokestatic 54, 3, 29, 1, 314, 0), (4, .ifCond .eq 13, 3, 17, 0, 0, 0), (7, .iload_n 2, 1, 0, 0, 0, 0), (8, .ifCond .lt 9, 3, 17, 0, 0, 0), (11, .iload_n 3, 1, 0, 0, 0, 0), (12, .bipush (-2), 2, 0, 0, 0, 0), (14, .if_icmp .ge 6, 3, 20, 0, 0, 0), (17, .ldc 61, 2, 0, 0, 320, (-1000000001)), (19, .ireturn, 1, 0, 0, 0, 0), (20, .aload_n 0, 1, 0, 0, 0, 0), (21, .getfield 17, 3, 5, 1, 283, 0), (24, .iload_n 1, 1, 0, 0, 0, 0), (25, .aaload, 1, 0, 0, 0, 0), (26, .getfield 62, 3, 2, 3, 272, 0), (29, .ifCond .ne 6, 3, 35, 0, 0, 0), (32, .ldc 94, 2, 0, 0, 489, (-1000000002)), (34, .ireturn, 1, 0, 0, 0, 0), (35, .aload_n 0, 1, 0, 0, 0, 0), (36, .getfield 17, 3, 5, 1, 283, 0), (39, .iload_n 1, 1, 0, 0, 0, 0), (40, .aaload, 1, 0, 0, 0, 0), (41, .getfield 83, 3, 2, 1, 268, 0), (44, .astore 4, 2, 0, 0, 0, 0), (46, .aload 4, 2, 0, 0, 0, 0), (48, .iload_n 2, 1, 0, 0, 0, 0), (49, .invokevirtual 283, 3, 998, 2, 609, 3), (52, .istore 5, 2, 0, 0, 0, 0), (54, .iload 5, 2, 0, 0, 0, 0), (56, .ifCond .ge 6, 3, 62, 0, 0, 0), (59, .ldc 197, 2, 0, 0, 755, (-1000000005)), (61, .ireturn, 1, 0, 0, 0, 0), (62, .iload_n 3, 1, 0, 0, 0, 0), (63, .lookupswitch 41 #[(-2, 33), (-1, 25)], 25, 0, 0, 0, 0), (88, .aload 4, 2, 0, 0, 0, 0), (90, .iload 5, 2, 0, 0, 0, 0), (92, .invokevirtual 286, 3, 998, 2, 851, 3), (95, .ireturn, 1, 0, 0, 0, 0), (96, .aload 4, 2, 0, 0, 0, 0), (98, .iload 5, 2, 0, 0, 0, 0)]
def zc_X5_tab_1 : List zi_Row := [(100, .invokevirtual 289, 3, 998, 2, 852, 3), (103, .ireturn, 1, 0, 0, 0, 0), (104, .aload 4, 2, 0, 0, 0, 0), (106, .iload 5, 2, 0, 0, 0, 0), (108, .iload_n 3, 1, 0, 0, 0, 0), (109, .invokevirtual 292, 3, 998, 3, 856, 3), (112, .ireturn, 1, 0, 0, 0, 0)]
def zc_X5_tab : List zi_Row := zc_X5_tab_0 ++ (zc_X5_tab_1)
def zc_X5_count_0 : List zi_Row := [(0, .iload_n 1, 1, 0, 0, 0, 0), (1, .tableswitch 91 0 5 #[39, 44, 50, 56, 62, 86], 39, 0, 0, 0, 0), (40, .aload_n 0, 1, 0, 0, 0, 0), (41, .invokevirtual 295, 3, 39, 1, 861, 5), (44, .ireturn, 1, 0, 0, 0, 0), (45, .aload_n 0, 1, 0, 0, 0, 0), (46, .iconst 0, 1, 0, 0, 0, 0), (47, .invokevirtual 298, 3, 41, 2, 865, 5), (50, .ireturn, 1, 0, 0, 0, 0), (51, .aload_n 0, 1, 0, 0, 0, 0), (52, .iconst 1, 1, 0, 0, 0, 0), (53, .invokevirtual 298, 3, 41, 2, 865, 5), (56, .ireturn, 1, 0, 0, 0, 0), (57, .aload_n 0, 1, 0, 0, 0, 0), (58, .iconst 2, 1, 0, 0, 0, 0), (59, .invokevirtual 298, 3, 41, 2, 865, 5), (62, .ireturn, 1, 0, 0, 0, 0), (63, .aload_n 0, 1, 0, 0, 0, 0), (64, .getfield 24, 3, 5, 2, 284, 0), (67, .invokevirtual 168, 3, 44, 1, 573, 1), (70, .ifCond .ne 8, 3, 78, 0, 0, 0), (73, .ldc 197, 2, 0, 0, 755, (-1000000005)), (75, .goto 11, 3, 86, 0, 0, 0), (78, .aload_n 0, 1, 0, 0, 0, 0), (79, .getfield 24, 3, 5, 2, 284, 0), (82, .iconst 0, 1, 0, 0, 0, 0), (83, .invokevirtual 165, 3, 45, 2, 574, 1), (86, .ireturn, 1, 0, 0, 0, 0), (87, .aload_n 0, 1, 0, 0, 0, 0), (88, .invokevirtual 301, 3, 40, 1, 869, 5), (91, .ireturn, 1, 0, 0, 0, 0), (92, .ldc 61, 2, 0, 0, 320, (-1000000001)), (94, .ireturn, 1, 0, 0, 0, 0)]
def zc_X5_count : List zi_Row := zc_X5_count_0
def zc_X5_isScreen_0 : List zi_Row := [(0, .iload_n 0, 1, 0, 0, 0, 0), (1, .ifCond .lt 12, 3, 13, 0, 0, 0), (4, .iload_n 0, 1, 0, 0, 0, 0), (5, .iconst 3, 1, 0, 0, 0, 0), (6, .if_icmp .ge 7, 3, 13, 0, 0, 0), (9, .iconst 1, 1, 0, 0, 0, 0), (10, .goto 4, 3, 14, 0, 0, 0), (13, .iconst 0, 1, 0, 0, 0, 0), (14, .ireturn, 1, 0, 0, 0, 0)]
def zc_X5_isScreen : List zi_Row := zc_X5_isScreen_0
def zc_X5_isScreenSize_0 : List zi_Row := [(0, .iload_n 0, 1, 0, 0, 0, 0), (1, .bipush 40, 2, 0, 0, 0, 0), (3, .if_icmp .lt 14, 3, 17, 0, 0, 0), (6, .iload_n 0, 1, 0, 0, 0, 0), (7, .sipush 400, 3, 0, 0, 0, 0), (10, .if_icmp .gt 7, 3, 17, 0, 0, 0), (13, .iconst 1, 1, 0, 0, 0, 0), (14, .goto 4, 3, 18, 0, 0, 0), (17, .iconst 0, 1, 0, 0, 0, 0), (18, .ireturn, 1, 0, 0, 0, 0)]
def zc_X5_isScreenSize : List zi_Row := zc_X5_isScreenSize_0
def zc_X5_isWindowSize_0 : List zi_Row := [(0, .iload_n 0, 1, 0, 0, 0, 0), (1, .iconst 1, 1, 0, 0, 0, 0), (2, .if_icmp .lt 14, 3, 16, 0, 0, 0), (5, .iload_n 0, 1, 0, 0, 0, 0), (6, .sipush 200, 3, 0, 0, 0, 0), (9, .if_icmp .gt 7, 3, 16, 0, 0, 0), (12, .iconst 1, 1, 0, 0, 0, 0), (13, .goto 4, 3, 17, 0, 0, 0), (16, .iconst 0, 1, 0, 0, 0, 0), (17, .ireturn, 1, 0, 0, 0, 0)]
def zc_X5_isWindowSize : List zi_Row := zc_X5_isWindowSize_0
def zc_X5_isSide_0 : List zi_Row := [(0, .iload_n 0, 1, 0, 0, 0, 0), (1, .ifCond .lt 12, 3, 13, 0, 0, 0), (4, .iload_n 0, 1, 0, 0, 0, 0), (5, .iconst 4, 1, 0, 0, 0, 0), (6, .if_icmp .ge 7, 3, 13, 0, 0, 0), (9, .iconst 1, 1, 0, 0, 0, 0), (10, .goto 4, 3, 14, 0, 0, 0), (13, .iconst 0, 1, 0, 0, 0, 0), (14, .ireturn, 1, 0, 0, 0, 0)]
def zc_X5_isSide : List zi_Row := zc_X5_isSide_0
def zc_X5_isAxis_0 : List zi_Row := [(0, .iload_n 0, 1, 0, 0, 0, 0), (1, .ifCond .eq 8, 3, 9, 0, 0, 0), (4, .iload_n 0, 1, 0, 0, 0, 0), (5, .iconst 1, 1, 0, 0, 0, 0), (6, .if_icmp .ne 7, 3, 13, 0, 0, 0), (9, .iconst 1, 1, 0, 0, 0, 0), (10, .goto 4, 3, 14, 0, 0, 0), (13, .iconst 0, 1, 0, 0, 0, 0), (14, .ireturn, 1, 0, 0, 0, 0)]
def zc_X5_isAxis : List zi_Row := zc_X5_isAxis_0
def zc_X5_isPlace_0 : List zi_Row := [(0, .iload_n 0, 1, 0, 0, 0, 0), (1, .sipush (-1000), 3, 0, 0, 0, 0), (4, .if_icmp .lt 14, 3, 18, 0, 0, 0), (7, .iload_n 0, 1, 0, 0, 0, 0), (8, .sipush 1000, 3, 0, 0, 0, 0), (11, .if_icmp .gt 7, 3, 18, 0, 0, 0), (14, .iconst 1, 1, 0, 0, 0, 0), (15, .goto 4, 3, 19, 0, 0, 0), (18, .iconst 0, 1, 0, 0, 0, 0), (19, .ireturn, 1, 0, 0, 0, 0)]
def zc_X5_isPlace : List zi_Row := zc_X5_isPlace_0
def zc_X5_isWindow_0 : List zi_Row := [(0, .iload_n 1, 1, 0, 0, 0, 0), (1, .ifCond .lt 25, 3, 26, 0, 0, 0), (4, .iload_n 1, 1, 0, 0, 0, 0), (5, .bipush 10, 2, 0, 0, 0, 0), (7, .if_icmp .ge 19, 3, 26, 0, 0, 0), (10, .aload_n 0, 1, 0, 0, 0, 0), (11, .getfield 11, 3, 5, 0, 282, 0), (14, .iload_n 1, 1, 0, 0, 0, 0), (15, .aaload, 1, 0, 0, 0, 0), (16, .getfield 155, 3, 4, 2, 212, 0), (19, .ifCond .eq 7, 3, 26, 0, 0, 0), (22, .iconst 1, 1, 0, 0, 0, 0), (23, .goto 4, 3, 27, 0, 0, 0), (26, .iconst 0, 1, 0, 0, 0, 0), (27, .ireturn, 1, 0, 0, 0, 0)]
def zc_X5_isWindow : List zi_Row := zc_X5_isWindow_0
def zc_X5_isShownTile_0 : List zi_Row := [(0, .aload_n 0, 1, 0, 0, 0, 0), (1, .iload_n 1, 1, 0, 0, 0, 0), (2, .invokevirtual 122, 3, 35, 2, 349, 5), (5, .ifCond .eq 31, 3, 36, 0, 0, 0), (8, .aload_n 0, 1, 0, 0, 0, 0), (9, .getfield 11, 3, 5, 0, 282, 0), (12, .iload_n 1, 1, 0, 0, 0, 0), (13, .aaload, 1, 0, 0, 0, 0), (14, .invokevirtual 198, 3, 998, 1, 369, 4), (17, .ifCond .eq 19, 3, 36, 0, 0, 0), (20, .aload_n 0, 1, 0, 0, 0, 0), (21, .iload_n 1, 1, 0, 0, 0, 0), (22, .invokevirtual 176, 3, 998, 2, 373, 5), (25, .iload_n 1, 1, 0, 0, 0, 0), (26, .invokevirtual 304, 3, 998, 2, 714, 3), (29, .ifCond .eq 7, 3, 36, 0, 0, 0), (32, .iconst 1, 1, 0, 0, 0, 0), (33, .goto 4, 3, 37, 0, 0, 0), (36, .iconst 0, 1, 0, 0, 0, 0), (37, .ireturn, 1, 0, 0, 0, 0)]
def zc_X5_isShownTile : List zi_Row := zc_X5_isShownTile_0
def zc_X5_leastScreenBut_0 : List zi_Row := [(0, .iconst 0, 1, 0, 0, 0, 0), (1, .istore_n 2, 1, 0, 0, 0, 0), (2, .iload_n 2, 1, 0, 0, 0, 0), (3, .iconst 3, 1, 0, 0, 0, 0), (4, .if_icmp .ge 28, 3, 32, 0, 0, 0), (7, .iload_n 2, 1, 0, 0, 0, 0), (8, .iload_n 1, 1, 0, 0, 0, 0), (9, .if_icmp .eq 17, 3, 26, 0, 0, 0), (12, .aload_n 0, 1, 0, 0, 0, 0), (13, .getfield 17, 3, 5, 1, 283, 0), (16, .iload_n 2, 1, 0, 0, 0, 0), (17, .aaload, 1, 0, 0, 0, 0), (18, .getfield 62, 3, 2, 3, 272, 0), (21, .ifCond .eq 5, 3, 26, 0, 0, 0), (24, .iload_n 2, 1, 0, 0, 0, 0), (25, .ireturn, 1, 0, 0, 0, 0), (26, .iinc 2 1, 3, 0, 0, 0, 0), (29, .goto (-27), 3, 2, 0, 0, 0), (32, .iconst (-1), 1, 0, 0, 0, 0), (33, .ireturn, 1, 0, 0, 0, 0)]
def zc_X5_leastScreenBut : List zi_Row := zc_X5_leastScreenBut_0
def zc_X5_screenAtHand_0 : List zi_Row := [(0, .iconst 0, 1, 0, 0, 0, 0), (1, .istore_n 1, 1, 0, 0, 0, 0), (2, .iload_n 1, 1, 0, 0, 0, 0), (3, .aload_n 0, 1, 0, 0, 0, 0), (4, .getfield 24, 3, 5, 2, 284, 0), (7, .invokevirtual 168, 3, 44, 1, 573, 1), (10, .if_icmp .ge 35, 3, 45, 0, 0, 0), (13, .aload_n 0, 1, 0, 0, 0, 0), (14, .getfield 11, 3, 5, 0, 282, 0), (17, .aload_n 0, 1, 0, 0, 0, 0), (18, .getfield 24, 3, 5, 2, 284, 0), (21, .iload_n 1, 1, 0, 0, 0, 0), (22, .invokevirtual 165, 3, 45, 2, 574, 1), (25, .aaload, 1, 0, 0, 0, 0), (26, .astore_n 2, 1, 0, 0, 0, 0), (27, .aload_n 2, 1, 0, 0, 0, 0), (28, .invokevirtual 133, 3, 998, 1, 565, 4), (31, .ifCond .ne 8, 3, 39, 0, 0, 0), (34, .aload_n 2, 1, 0, 0, 0, 0), (35, .getfield 137, 3, 4, 5, 218, 0), (38, .ireturn, 1, 0, 0, 0, 0), (39, .iinc 1 1, 3, 0, 0, 0, 0), (42, .goto (-40), 3, 2, 0, 0, 0), (45, .aload_n 0, 1, 0, 0, 0, 0), (46, .iconst (-1), 1, 0, 0, 0, 0), (47, .invokevirtual 99, 3, 37, 2, 499, 5), (50, .ireturn, 1, 0, 0, 0, 0)]
def zc_X5_screenAtHand : List zi_Row := zc_X5_screenAtHand_0
def zc_X5_screensThere_0 : List zi_Row := [(0, .iconst 0, 1, 0, 0, 0, 0), (1, .istore_n 1, 1, 0, 0, 0, 0), (2, .iconst 0, 1, 0, 0, 0, 0), (3, .istore_n 2, 1, 0, 0, 0, 0), (4, .iload_n 2, 1, 0, 0, 0, 0), (5, .iconst 3, 1, 0, 0, 0, 0), (6, .if_icmp .ge 29, 3, 35, 0, 0, 0), (9, .iload_n 1, 1, 0, 0, 0, 0), (10, .aload_n 0, 1, 0, 0, 0, 0), (11, .getfield 17, 3, 5, 1, 283, 0), (14, .iload_n 2, 1, 0, 0, 0, 0), (15, .aaload, 1, 0, 0, 0, 0), (16, .getfield 62, 3, 2, 3, 272, 0), (19, .ifCond .eq 7, 3, 26, 0, 0, 0), (22, .iconst 1, 1, 0, 0, 0, 0), (23, .goto 4, 3, 27, 0, 0, 0), (26, .iconst 0, 1, 0, 0, 0, 0), (27, .iadd, 1, 0, 0, 0, 0), (28, .istore_n 1, 1, 0, 0, 0, 0), (29, .iinc 2 1, 3, 0, 0, 0, 0), (32, .goto (-28), 3, 4, 0, 0, 0), (35, .iload_n 1, 1, 0, 0, 0, 0), (36, .ireturn, 1, 0, 0, 0, 0)]
def zc_X5_screensThere : List zi_Row := zc_X5_screensThere_0
def zc_X5_screensWithKept_0 : List zi_Row := [(0, .iconst 0, 1, 0, 0, 0, 0), (1, .istore_n 1, 1, 0, 0, 0, 0), (2, .iconst 0, 1, 0, 0, 0, 0), (3, .istore_n 2, 1, 0, 0, 0, 0), (4, .iload_n 2, 1, 0, 0, 0, 0), (5, .iconst 3, 1, 0, 0, 0, 0), (6, .if_icmp .ge 32, 3, 38, 0, 0, 0), (9, .iload_n 1, 1, 0, 0, 0, 0), (10, .aload_n 0, 1, 0, 0, 0, 0), (11, .getfield 17, 3, 5, 1, 283, 0), (14, .iload_n 2, 1, 0, 0, 0, 0), (15, .aaload, 1, 0, 0, 0, 0), (16, .getfield 74, 3, 2, 2, 270, 0), (19, .getfield 315, 3, 0, 3, 255, 0), (22, .ifCond .eq 7, 3, 29, 0, 0, 0), (25, .iconst 1, 1, 0, 0, 0, 0), (26, .goto 4, 3, 30, 0, 0, 0), (29, .iconst 0, 1, 0, 0, 0, 0), (30, .iadd, 1, 0, 0, 0, 0), (31, .istore_n 1, 1, 0, 0, 0, 0), (32, .iinc 2 1, 3, 0, 0, 0, 0), (35, .goto (-31), 3, 4, 0, 0, 0), (38, .iload_n 1, 1, 0, 0, 0, 0), (39, .ireturn, 1, 0, 0, 0, 0)]
def zc_X5_screensWithKept : List zi_Row := zc_X5_screensWithKept_0
def zc_X5_windowsUnder_0 : List zi_Row := [(0, .iconst 0, 1, 0, 0, 0, 0), (1, .istore_n 2, 1, 0, 0, 0, 0), (2, .iconst 0, 1, 0, 0, 0, 0), (3, .istore_n 3, 1, 0, 0, 0, 0), (4, .iload_n 3, 1, 0, 0, 0, 0), (5, .bipush 10, 2, 0, 0, 0, 0), (7, .if_icmp .ge 30, 3, 37, 0, 0, 0), (10, .iload_n 2, 1, 0, 0, 0, 0), (11, .aload_n 0, 1, 0, 0, 0, 0), (12, .getfield 11, 3, 5, 0, 282, 0), (15, .iload_n 3, 1, 0, 0, 0, 0), (16, .aaload, 1, 0, 0, 0, 0), (17, .iload_n 1, 1, 0, 0, 0, 0), (18, .invokevirtual 261, 3, 48, 2, 802, 4), (21, .ifCond .eq 7, 3, 28, 0, 0, 0), (24, .iconst 1, 1, 0, 0, 0, 0), (25, .goto 4, 3, 29, 0, 0, 0), (28, .iconst 0, 1, 0, 0, 0, 0), (29, .iadd, 1, 0, 0, 0, 0), (30, .istore_n 2, 1, 0, 0, 0, 0), (31, .iinc 3 1, 3, 0, 0, 0, 0), (34, .goto (-30), 3, 4, 0, 0, 0), (37, .iload_n 2, 1, 0, 0, 0, 0), (38, .ireturn, 1, 0, 0, 0, 0)]
def zc_X5_windowsUnder : List zi_Row := zc_X5_windowsUnder_0
def zc_X5_leastFreeNumber_0 : List zi_Row := [(0, .iconst 0, 1, 0, 0, 0, 0), (1, .istore_n 1, 1, 0, 0, 0, 0), (2, .iload_n 1, 1, 0, 0, 0, 0), (3, .bipush 10, 2, 0, 0, 0, 0), (5, .if_icmp .ge 23, 3, 28, 0, 0, 0), (8, .aload_n 0, 1, 0, 0, 0, 0), (9, .getfield 11, 3, 5, 0, 282, 0), (12, .iload_n 1, 1, 0, 0, 0, 0), (13, .aaload, 1, 0, 0, 0, 0), (14, .getfield 155, 3, 4, 2, 212, 0), (17, .ifCond .ne 5, 3, 22, 0, 0, 0), (20, .iload_n 1, 1, 0, 0, 0, 0), (21, .ireturn, 1, 0, 0, 0, 0), (22, .iinc 1 1, 3, 0, 0, 0, 0), (25, .goto (-23), 3, 2, 0, 0, 0), (28, .iconst (-1), 1, 0, 0, 0, 0), (29, .ireturn, 1, 0, 0, 0, 0)]
def zc_X5_leastFreeNumber : List zi_Row := zc_X5_leastFreeNumber_0
def zc_X5_bringBack_0 : List zi_Row := [(0, .aload_n 0, 1, 0, 0, 0, 0), (1, .getfield 17, 3, 5, 1, 283, 0), (4, .iload_n 1, 1, 0, 0, 0, 0), (5, .aaload, 1, 0, 0, 0, 0), (6, .getfield 74, 3, 2, 2, 270, 0), (9, .astore_n 2, 1, 0, 0, 0, 0), (10, .aload_n 2, 1, 0, 0, 0, 0), (11, .getfield 315, 3, 0, 3, 255, 0), (14, .ifCond .eq 22, 3, 36, 0, 0, 0), (17, .aload_n 2, 1, 0, 0, 0, 0), (18, .getfield 398, 3, 0, 0, 250, 0), (21, .aload_n 0, 1, 0, 0, 0, 0), (22, .getfield 17, 3, 5, 1, 283, 0), (25, .iload_n 1, 1, 0, 0, 0, 0), (26, .aaload, 1, 0, 0, 0, 0), (27, .getfield 109, 3, 2, 0, 266, 0), (30, .invokevirtual 86, 3, 998, 2, 329, 3), (33, .ifCond .ne 5, 3, 38, 0, 0, 0), (36, .iconst 0, 1, 0, 0, 0, 0), (37, .ireturn, 1, 0, 0, 0, 0), (38, .iconst 0, 1, 0, 0, 0, 0), (39, .istore_n 3, 1, 0, 0, 0, 0), (40, .iload_n 3, 1, 0, 0, 0, 0), (41, .bipush 10, 2, 0, 0, 0, 0), (43, .if_icmp .ge 20, 3, 63, 0, 0, 0), (46, .aload_n 0, 1, 0, 0, 0, 0), (47, .getfield 38, 3, 5, 5, 287, 0), (50, .iload_n 3, 1, 0, 0, 0, 0), (51, .aload_n 2, 1, 0, 0, 0, 0), (52, .iload_n 3, 1, 0, 0, 0, 0), (53, .invokevirtual 403, 3, 998, 2, 337, 0), (56, .bastore, 1, 0, 0, 0, 0), (57, .iinc 3 1, 3, 0, 0, 0, 0), (60, .goto (-20), 3, 40, 0, 0, 0), (63, .aload_n 0, 1, 0, 0, 0, 0), (64, .invokevirtual 395, 3, 998, 1, 345, 5), (67, .aload_n 0, 1, 0, 0, 0, 0), (68, .iload_n 1, 1, 0, 0, 0, 0), (69, .invokevirtual 205, 3, 998, 2, 353, 5), (72, .ifCond .ne 5, 3, 77, 0, 0, 0)]
def zc_X5_bringBack_1 : List zi_Row := [(75, .iconst 0, 1, 0, 0, 0, 0), (76, .ireturn, 1, 0, 0, 0, 0), (77, .iconst 0, 1, 0, 0, 0, 0), (78, .istore_n 3, 1, 0, 0, 0, 0), (79, .iconst 0, 1, 0, 0, 0, 0), (80, .istore 4, 2, 0, 0, 0, 0), (82, .iload 4, 2, 0, 0, 0, 0), (84, .bipush 10, 2, 0, 0, 0, 0), (86, .if_icmp .ge 28, 3, 114, 0, 0, 0), (89, .aload_n 2, 1, 0, 0, 0, 0), (90, .iload 4, 2, 0, 0, 0, 0), (92, .invokevirtual 403, 3, 998, 2, 337, 0), (95, .ifCond .eq 13, 3, 108, 0, 0, 0), (98, .aload_n 0, 1, 0, 0, 0, 0), (99, .iload 4, 2, 0, 0, 0, 0), (101, .aload_n 2, 1, 0, 0, 0, 0), (102, .invokevirtual 406, 3, 998, 3, 365, 5), (105, .iinc 3 1, 3, 0, 0, 0, 0), (108, .iinc 4 1, 3, 0, 0, 0, 0), (111, .goto (-29), 3, 82, 0, 0, 0), (114, .aload_n 0, 1, 0, 0, 0, 0), (115, .iload_n 1, 1, 0, 0, 0, 0), (116, .invokevirtual 214, 3, 998, 2, 429, 5), (119, .aload_n 0, 1, 0, 0, 0, 0), (120, .getfield 17, 3, 5, 1, 283, 0), (123, .iload_n 1, 1, 0, 0, 0, 0), (124, .aaload, 1, 0, 0, 0, 0), (125, .getfield 83, 3, 2, 1, 268, 0), (128, .aload_n 2, 1, 0, 0, 0, 0), (129, .getfield 398, 3, 0, 0, 250, 0), (132, .invokevirtual 102, 3, 998, 2, 453, 3), (135, .aload_n 0, 1, 0, 0, 0, 0), (136, .invokevirtual 410, 3, 998, 1, 465, 5), (139, .iload_n 3, 1, 0, 0, 0, 0), (140, .ireturn, 1, 0, 0, 0, 0)]
def zc_X5_bringBack : List zi_Row := zc_X5_bringBack_0 ++ (zc_X5_bringBack_1)
def zc_X1_size_0 : List zi_Row := [(0, .aload_n 0, 1, 0, 0, 0, 0), (1, .getfield 15, 3, 1, 1, 125, 0), (4, .ireturn, 1, 0, 0, 0, 0)]
def zc_X1_size : List zi_Row := zc_X1_size_0
def zc_X1_get_0 : List zi_Row := [(0, .iload_n 1, 1, 0, 0, 0, 0), (1, .ifCond .lt 20, 3, 21, 0, 0, 0), (4, .iload_n 1, 1, 0, 0, 0, 0), (5, .aload_n 0, 1, 0, 0, 0, 0), (6, .getfield 15, 3, 1, 1, 125, 0), (9, .if_icmp .ge 12, 3, 21, 0, 0, 0), (12, .aload_n 0, 1, 0, 0, 0, 0), (13, .getfield 9, 3, 1, 0, 124, 0), (16, .iload_n 1, 1, 0, 0, 0, 0), (17, .iaload, 1, 0, 0, 0, 0), (18, .goto 4, 3, 22, 0, 0, 0), (21, .iconst (-1), 1, 0, 0, 0, 0), (22, .ireturn, 1, 0, 0, 0, 0)]
def zc_X1_get : List zi_Row := zc_X1_get_0
def zc_X2_setSize_0 : List zi_Row := [(0, .aload_n 0, 1, 0, 0, 0, 0), (1, .getfield 9, 3, 2, 0, 265, 0), (4, .iconst 0, 1, 0, 0, 0, 0), (5, .aload_n 1, 1, 0, 0, 0, 0), (6, .iconst 0, 1, 0, 0, 0, 0), (7, .iaload, 1, 0, 0, 0, 0), (8, .iastore, 1, 0, 0, 0, 0), (9, .aload_n 0, 1, 0, 0, 0, 0), (10, .getfield 9, 3, 2, 0, 265, 0), (13, .iconst 1, 1, 0, 0, 0, 0), (14, .aload_n 1, 1, 0, 0, 0, 0), (15, .iconst 1, 1, 0, 0, 0, 0), (16, .iaload, 1, 0, 0, 0, 0), (17, .iastore, 1, 0, 0, 0, 0), (18, .return_, 1, 0, 0, 0, 0)]
def zc_X2_setSize : List zi_Row := zc_X2_setSize_0
def zc_X0_forget_0 : List zi_Row := [(0, .aload_n 0, 1, 0, 0, 0, 0), (1, .iconst 0, 1, 0, 0, 0, 0), (2, .putfield 27, 3, 0, 3, 254, 0), (5, .return_, 1, 0, 0, 0, 0)]
def zc_X0_forget : List zi_Row := zc_X0_forget_0
def zc_X4_fallsUnder_0 : List zi_Row := [(0, .iload_n 1, 1, 0, 0, 0, 0), (1, .ifCond .eq 16, 3, 17, 0, 0, 0), (4, .iload_n 1, 1, 0, 0, 0, 0), (5, .iconst 2, 1, 0, 0, 0, 0), (6, .if_icmp .ne 15, 3, 21, 0, 0, 0), (9, .aload_n 0, 1, 0, 0, 0, 0), (10, .getfield 22, 3, 4, 3, 213, 0), (13, .iconst 1, 1, 0, 0, 0, 0), (14, .if_icmp .eq 7, 3, 21, 0, 0, 0), (17, .iconst 1, 1, 0, 0, 0, 0), (18, .goto 4, 3, 22, 0, 0, 0), (21, .iconst 0, 1, 0, 0, 0, 0), (22, .istore_n 2, 1, 0, 0, 0, 0), (23, .aload_n 0, 1, 0, 0, 0, 0), (24, .getfield 18, 3, 4, 2, 211, 0), (27, .ifCond .eq 19, 3, 46, 0, 0, 0), (30, .aload_n 0, 1, 0, 0, 0, 0), (31, .getfield 22, 3, 4, 3, 213, 0), (34, .iload_n 1, 1, 0, 0, 0, 0), (35, .if_icmp .eq 7, 3, 42, 0, 0, 0), (38, .iload_n 2, 1, 0, 0, 0, 0), (39, .ifCond .eq 7, 3, 46, 0, 0, 0), (42, .iconst 1, 1, 0, 0, 0, 0), (43, .goto 4, 3, 47, 0, 0, 0), (46, .iconst 0, 1, 0, 0, 0, 0), (47, .ireturn, 1, 0, 0, 0, 0)]
def zc_X4_fallsUnder : List zi_Row := zc_X4_fallsUnder_0
def zc_X6_screen_0 : List zi_Row := [(0, .iload_n 1, 1, 0, 0, 0, 0), (1, .iconst 0, 1, 0, 0, 0, 0), (2, .iconst 2, 1, 0, 0, 0, 0), (3, .invokestatic 101, 3, 68, 3, 983, 0), (6, .ifCond .eq 27, 3, 33, 0, 0, 0), (9, .iload_n 2, 1, 0, 0, 0, 0), (10, .bipush 40, 2, 0, 0, 0, 0), (12, .sipush 400, 3, 0, 0, 0, 0), (15, .invokestatic 101, 3, 68, 3, 983, 0), (18, .ifCond .eq 15, 3, 33, 0, 0, 0), (21, .iload_n 3, 1, 0, 0, 0, 0), (22, .bipush 40, 2, 0, 0, 0, 0), (24, .sipush 400, 3, 0, 0, 0, 0), (27, .invokestatic 101, 3, 68, 3, 983, 0), (30, .ifCond .ne 6, 3, 36, 0, 0, 0), (33, .ldc 166, 2, 0, 0, 986, (-1000000001)), (35, .ireturn, 1, 0, 0, 0, 0), (36, .aload_n 0, 1, 0, 0, 0, 0), (37, .getfield 7, 3, 6, 0, 879, 0), (40, .iload_n 1, 1, 0, 0, 0, 0), (41, .iaload, 1, 0, 0, 0, 0), (42, .ifCond .ne 60, 3, 102, 0, 0, 0), (45, .aload_n 0, 1, 0, 0, 0, 0), (46, .getfield 7, 3, 6, 0, 879, 0), (49, .iload_n 1, 1, 0, 0, 0, 0), (50, .iload_n 2, 1, 0, 0, 0, 0), (51, .iastore, 1, 0, 0, 0, 0), (52, .aload_n 0, 1, 0, 0, 0, 0), (53, .getfield 13, 3, 6, 1, 880, 0), (56, .iload_n 1, 1, 0, 0, 0, 0), (57, .iload_n 3, 1, 0, 0, 0, 0), (58, .iastore, 1, 0, 0, 0, 0), (59, .aload_n 0, 1, 0, 0, 0, 0), (60, .iload_n 1, 1, 0, 0, 0, 0), (61, .invokevirtual 167, 3, 71, 2, 987, 6), (64, .aload_n 0, 1, 0, 0, 0, 0), (65, .getfield 67, 3, 6, 21, 900, 0), (68, .iload_n 1, 1, 0, 0, 0, 0), (69, .baload, 1, 0, 0, 0, 0), (70, .ifCond .eq 19, 3, 89, 0, 0, 0)]
def zc_X6_screen_1 : List zi_Row := [(73, .aload_n 0, 1, 0, 0, 0, 0), (74, .iload_n 1, 1, 0, 0, 0, 0), (75, .invokevirtual 170, 3, 998, 2, 994, 6), (78, .ifCond .eq 11, 3, 89, 0, 0, 0), (81, .aload_n 0, 1, 0, 0, 0, 0), (82, .iload_n 1, 1, 0, 0, 0, 0), (83, .invokevirtual 173, 3, 998, 2, 1014, 6), (86, .goto 4, 3, 90, 0, 0, 0), (89, .iconst 0, 1, 0, 0, 0, 0), (90, .istore 4, 2, 0, 0, 0, 0), (92, .aload_n 0, 1, 0, 0, 0, 0), (93, .getfield 67, 3, 6, 21, 900, 0), (96, .iload_n 1, 1, 0, 0, 0, 0), (97, .iconst 0, 1, 0, 0, 0, 0), (98, .bastore, 1, 0, 0, 0, 0), (99, .iload 4, 2, 0, 0, 0, 0), (101, .ireturn, 1, 0, 0, 0, 0), (102, .aload_n 0, 1, 0, 0, 0, 0), (103, .iload_n 1, 1, 0, 0, 0, 0), (104, .iload_n 2, 1, 0, 0, 0, 0), (105, .iload_n 3, 1, 0, 0, 0, 0), (106, .invokevirtual 177, 3, 998, 4, 1002, 6), (109, .istore 4, 2, 0, 0, 0, 0), (111, .iconst 0, 1, 0, 0, 0, 0), (112, .istore 5, 2, 0, 0, 0, 0), (114, .iload 5, 2, 0, 0, 0, 0), (116, .bipush 10, 2, 0, 0, 0, 0), (118, .if_icmp .ge 42, 3, 160, 0, 0, 0), (121, .iload 4, 2, 0, 0, 0, 0), (123, .ifCond .eq 28, 3, 151, 0, 0, 0), (126, .aload_n 0, 1, 0, 0, 0, 0), (127, .iload 5, 2, 0, 0, 0, 0), (129, .iload_n 1, 1, 0, 0, 0, 0), (130, .invokevirtual 180, 3, 998, 3, 1057, 6), (133, .ifCond .eq 14, 3, 147, 0, 0, 0), (136, .aload_n 0, 1, 0, 0, 0, 0), (137, .iload 5, 2, 0, 0, 0, 0), (139, .iload_n 2, 1, 0, 0, 0, 0), (140, .iload_n 3, 1, 0, 0, 0, 0), (141, .invokevirtual 184, 3, 998, 4, 1010, 6)]
def zc_X6_screen_2 : List zi_Row := [(144, .ifCond .eq 7, 3, 151, 0, 0, 0), (147, .iconst 1, 1, 0, 0, 0, 0), (148, .goto 4, 3, 152, 0, 0, 0), (151, .iconst 0, 1, 0, 0, 0, 0), (152, .istore 4, 2, 0, 0, 0, 0), (154, .iinc 5 1, 3, 0, 0, 0, 0), (157, .goto (-43), 3, 114, 0, 0, 0), (160, .iload 4, 2, 0, 0, 0, 0), (162, .ifCond .ne 6, 3, 168, 0, 0, 0), (165, .ldc 187, 2, 0, 0, 1061, (-1000000002)), (167, .ireturn, 1, 0, 0, 0, 0), (168, .aload_n 0, 1, 0, 0, 0, 0), (169, .getfield 7, 3, 6, 0, 879, 0), (172, .iload_n 1, 1, 0, 0, 0, 0), (173, .iload_n 2, 1, 0, 0, 0, 0), (174, .iastore, 1, 0, 0, 0, 0), (175, .aload_n 0, 1, 0, 0, 0, 0), (176, .getfield 13, 3, 6, 1, 880, 0), (179, .iload_n 1, 1, 0, 0, 0, 0), (180, .iload_n 3, 1, 0, 0, 0, 0), (181, .iastore, 1, 0, 0, 0, 0), (182, .iconst 0, 1, 0, 0, 0, 0), (183, .istore 5, 2, 0, 0, 0, 0), (185, .iload 5, 2, 0, 0, 0, 0), (187, .bipush 10, 2, 0, 0, 0, 0), (189, .if_icmp .ge 40, 3, 229, 0, 0, 0), (192, .aload_n 0, 1, 0, 0, 0, 0), (193, .iload 5, 2, 0, 0, 0, 0), (195, .iload_n 1, 1, 0, 0, 0, 0), (196, .invokevirtual 180, 3, 998, 3, 1057, 6), (199, .ifCond .eq 24, 3, 223, 0, 0, 0), (202, .aload_n 0, 1, 0, 0, 0, 0), (203, .iload 5, 2, 0, 0, 0, 0), (205, .iload_n 1, 1, 0, 0, 0, 0), (206, .aload_n 0, 1, 0, 0, 0, 0), (207, .getfield 31, 3, 6, 7, 886, 0), (210, .iload 5, 2, 0, 0, 0, 0), (212, .iaload, 1, 0, 0, 0, 0), (213, .aload_n 0, 1, 0, 0, 0, 0), (214, .getfield 34, 3, 6, 8, 887, 0)]
def zc_X6_screen_3 : List zi_Row := [(217, .iload 5, 2, 0, 0, 0, 0), (219, .iaload, 1, 0, 0, 0, 0), (220, .invokevirtual 188, 3, 998, 5, 1050, 6), (223, .iinc 5 1, 3, 0, 0, 0, 0), (226, .goto (-41), 3, 185, 0, 0, 0), (229, .iconst 0, 1, 0, 0, 0, 0), (230, .ireturn, 1, 0, 0, 0, 0)]
def zc_X6_screen : List zi_Row := zc_X6_screen_0 ++ (zc_X6_screen_1 ++ (zc_X6_screen_2 ++ (zc_X6_screen_3)))
def zc_X6_gone_0 : List zi_Row := [(0, .iload_n 1, 1, 0, 0, 0, 0), (1, .iconst 0, 1, 0, 0, 0, 0), (2, .iconst 2, 1, 0, 0, 0, 0), (3, .invokestatic 101, 3, 68, 3, 983, 0), (6, .ifCond .ne 6, 3, 12, 0, 0, 0), (9, .ldc 166, 2, 0, 0, 986, (-1000000001)), (11, .ireturn, 1, 0, 0, 0, 0), (12, .iconst (-1), 1, 0, 0, 0, 0), (13, .istore_n 2, 1, 0, 0, 0, 0), (14, .iconst 2, 1, 0, 0, 0, 0), (15, .istore_n 3, 1, 0, 0, 0, 0), (16, .iload_n 3, 1, 0, 0, 0, 0), (17, .ifCond .lt 29, 3, 46, 0, 0, 0), (20, .iload_n 3, 1, 0, 0, 0, 0), (21, .iload_n 1, 1, 0, 0, 0, 0), (22, .if_icmp .eq 16, 3, 38, 0, 0, 0), (25, .aload_n 0, 1, 0, 0, 0, 0), (26, .getfield 7, 3, 6, 0, 879, 0), (29, .iload_n 3, 1, 0, 0, 0, 0), (30, .iaload, 1, 0, 0, 0, 0), (31, .ifCond .le 7, 3, 38, 0, 0, 0), (34, .iload_n 3, 1, 0, 0, 0, 0), (35, .goto 4, 3, 39, 0, 0, 0), (38, .iload_n 2, 1, 0, 0, 0, 0), (39, .istore_n 2, 1, 0, 0, 0, 0), (40, .iinc 3 (-1), 3, 0, 0, 0, 0), (43, .goto (-27), 3, 16, 0, 0, 0), (46, .aload_n 0, 1, 0, 0, 0, 0), (47, .getfield 7, 3, 6, 0, 879, 0), (50, .iload_n 1, 1, 0, 0, 0, 0), (51, .iaload, 1, 0, 0, 0, 0), (52, .ifCond .eq 7, 3, 59, 0, 0, 0), (55, .iload_n 2, 1, 0, 0, 0, 0), (56, .ifCond .ge 6, 3, 62, 0, 0, 0), (59, .ldc 187, 2, 0, 0, 1061, (-1000000002)), (61, .ireturn, 1, 0, 0, 0, 0), (62, .aload_n 0, 1, 0, 0, 0, 0), (63, .iload_n 2, 1, 0, 0, 0, 0), (64, .bipush 6, 2, 0, 0, 0, 0), (66, .invokevirtual 201, 3, 998, 3, 1046, 6)]
def zc_X6_gone_1 : List zi_Row := [(69, .aload_n 0, 1, 0, 0, 0, 0), (70, .iload_n 1, 1, 0, 0, 0, 0), (71, .bipush 6, 2, 0, 0, 0, 0), (73, .invokevirtual 207, 3, 998, 3, 1066, 6), (76, .istore_n 3, 1, 0, 0, 0, 0), (77, .aload_n 0, 1, 0, 0, 0, 0), (78, .bipush 6, 2, 0, 0, 0, 0), (80, .aload_n 0, 1, 0, 0, 0, 0), (81, .getfield 7, 3, 6, 0, 879, 0), (84, .iload_n 2, 1, 0, 0, 0, 0), (85, .iaload, 1, 0, 0, 0, 0), (86, .aload_n 0, 1, 0, 0, 0, 0), (87, .getfield 13, 3, 6, 1, 880, 0), (90, .iload_n 2, 1, 0, 0, 0, 0), (91, .iaload, 1, 0, 0, 0, 0), (92, .invokevirtual 177, 3, 998, 4, 1002, 6), (95, .istore 4, 2, 0, 0, 0, 0), (97, .iconst 0, 1, 0, 0, 0, 0), (98, .istore 5, 2, 0, 0, 0, 0), (100, .iload 5, 2, 0, 0, 0, 0), (102, .bipush 10, 2, 0, 0, 0, 0), (104, .if_icmp .ge 70, 3, 174, 0, 0, 0), (107, .iload 4, 2, 0, 0, 0, 0), (109, .ifCond .eq 38, 3, 147, 0, 0, 0), (112, .aload_n 0, 1, 0, 0, 0, 0), (113, .iload 5, 2, 0, 0, 0, 0), (115, .iload_n 1, 1, 0, 0, 0, 0), (116, .invokevirtual 180, 3, 998, 3, 1057, 6), (119, .ifCond .eq 24, 3, 143, 0, 0, 0), (122, .aload_n 0, 1, 0, 0, 0, 0), (123, .iload 5, 2, 0, 0, 0, 0), (125, .aload_n 0, 1, 0, 0, 0, 0), (126, .getfield 7, 3, 6, 0, 879, 0), (129, .iload_n 2, 1, 0, 0, 0, 0), (130, .iaload, 1, 0, 0, 0, 0), (131, .aload_n 0, 1, 0, 0, 0, 0), (132, .getfield 13, 3, 6, 1, 880, 0), (135, .iload_n 2, 1, 0, 0, 0, 0), (136, .iaload, 1, 0, 0, 0, 0), (137, .invokevirtual 184, 3, 998, 4, 1010, 6)]
def zc_X6_gone_2 : List zi_Row := [(140, .ifCond .eq 7, 3, 147, 0, 0, 0), (143, .iconst 1, 1, 0, 0, 0, 0), (144, .goto 4, 3, 148, 0, 0, 0), (147, .iconst 0, 1, 0, 0, 0, 0), (148, .istore 4, 2, 0, 0, 0, 0), (150, .iload_n 3, 1, 0, 0, 0, 0), (151, .aload_n 0, 1, 0, 0, 0, 0), (152, .iload 5, 2, 0, 0, 0, 0), (154, .iload_n 1, 1, 0, 0, 0, 0), (155, .invokevirtual 180, 3, 998, 3, 1057, 6), (158, .ifCond .eq 7, 3, 165, 0, 0, 0), (161, .iconst 1, 1, 0, 0, 0, 0), (162, .goto 4, 3, 166, 0, 0, 0), (165, .iconst 0, 1, 0, 0, 0, 0), (166, .iadd, 1, 0, 0, 0, 0), (167, .istore_n 3, 1, 0, 0, 0, 0), (168, .iinc 5 1, 3, 0, 0, 0, 0), (171, .goto (-71), 3, 100, 0, 0, 0), (174, .iload 4, 2, 0, 0, 0, 0), (176, .ifCond .ne 6, 3, 182, 0, 0, 0), (179, .ldc 187, 2, 0, 0, 1061, (-1000000002)), (181, .ireturn, 1, 0, 0, 0, 0), (182, .aload_n 0, 1, 0, 0, 0, 0), (183, .iload_n 1, 1, 0, 0, 0, 0), (184, .iconst 3, 1, 0, 0, 0, 0), (185, .iload_n 1, 1, 0, 0, 0, 0), (186, .iadd, 1, 0, 0, 0, 0), (187, .invokevirtual 201, 3, 998, 3, 1046, 6), (190, .aload_n 0, 1, 0, 0, 0, 0), (191, .getfield 67, 3, 6, 21, 900, 0), (194, .iload_n 1, 1, 0, 0, 0, 0), (195, .iload_n 3, 1, 0, 0, 0, 0), (196, .ifCond .le 7, 3, 203, 0, 0, 0), (199, .iconst 1, 1, 0, 0, 0, 0), (200, .goto 4, 3, 204, 0, 0, 0), (203, .iconst 0, 1, 0, 0, 0, 0), (204, .bastore, 1, 0, 0, 0, 0), (205, .iconst 0, 1, 0, 0, 0, 0), (206, .istore 5, 2, 0, 0, 0, 0), (208, .iload 5, 2, 0, 0, 0, 0)]
def zc_X6_gone_3 : List zi_Row := [(210, .bipush 10, 2, 0, 0, 0, 0), (212, .if_icmp .ge 153, 3, 365, 0, 0, 0), (215, .aload_n 0, 1, 0, 0, 0, 0), (216, .getfield 16, 3, 6, 2, 881, 0), (219, .iload 5, 2, 0, 0, 0, 0), (221, .iaload, 1, 0, 0, 0, 0), (222, .ifCond .le 29, 3, 251, 0, 0, 0), (225, .aload_n 0, 1, 0, 0, 0, 0), (226, .getfield 16, 3, 6, 2, 881, 0), (229, .iload 5, 2, 0, 0, 0, 0), (231, .iaload, 1, 0, 0, 0, 0), (232, .iconst 4, 1, 0, 0, 0, 0), (233, .if_icmp .eq 18, 3, 251, 0, 0, 0), (236, .aload_n 0, 1, 0, 0, 0, 0), (237, .getfield 28, 3, 6, 6, 885, 0), (240, .iload 5, 2, 0, 0, 0, 0), (242, .iaload, 1, 0, 0, 0, 0), (243, .iload_n 1, 1, 0, 0, 0, 0), (244, .if_icmp .ne 7, 3, 251, 0, 0, 0), (247, .iconst 1, 1, 0, 0, 0, 0), (248, .goto 4, 3, 252, 0, 0, 0), (251, .iconst 0, 1, 0, 0, 0, 0), (252, .istore 6, 2, 0, 0, 0, 0), (254, .aload_n 0, 1, 0, 0, 0, 0), (255, .getfield 71, 3, 6, 22, 901, 0), (258, .bipush 10, 2, 0, 0, 0, 0), (260, .iload_n 1, 1, 0, 0, 0, 0), (261, .imul, 1, 0, 0, 0, 0), (262, .iload 5, 2, 0, 0, 0, 0), (264, .iadd, 1, 0, 0, 0, 0), (265, .iload 6, 2, 0, 0, 0, 0), (267, .bastore, 1, 0, 0, 0, 0), (268, .aload_n 0, 1, 0, 0, 0, 0), (269, .getfield 74, 3, 6, 23, 902, 0), (272, .bipush 10, 2, 0, 0, 0, 0), (274, .iload_n 1, 1, 0, 0, 0, 0), (275, .imul, 1, 0, 0, 0, 0), (276, .iload 5, 2, 0, 0, 0, 0), (278, .iadd, 1, 0, 0, 0, 0), (279, .aload_n 0, 1, 0, 0, 0, 0)]
def zc_X6_gone_4 : List zi_Row := [(280, .getfield 31, 3, 6, 7, 886, 0), (283, .iload 5, 2, 0, 0, 0, 0), (285, .iaload, 1, 0, 0, 0, 0), (286, .iastore, 1, 0, 0, 0, 0), (287, .aload_n 0, 1, 0, 0, 0, 0), (288, .getfield 77, 3, 6, 24, 903, 0), (291, .bipush 10, 2, 0, 0, 0, 0), (293, .iload_n 1, 1, 0, 0, 0, 0), (294, .imul, 1, 0, 0, 0, 0), (295, .iload 5, 2, 0, 0, 0, 0), (297, .iadd, 1, 0, 0, 0, 0), (298, .aload_n 0, 1, 0, 0, 0, 0), (299, .getfield 34, 3, 6, 8, 887, 0), (302, .iload 5, 2, 0, 0, 0, 0), (304, .iaload, 1, 0, 0, 0, 0), (305, .iastore, 1, 0, 0, 0, 0), (306, .iload 6, 2, 0, 0, 0, 0), (308, .ifCond .eq 25, 3, 333, 0, 0, 0), (311, .aload_n 0, 1, 0, 0, 0, 0), (312, .getfield 16, 3, 6, 2, 881, 0), (315, .iload 5, 2, 0, 0, 0, 0), (317, .iaload, 1, 0, 0, 0, 0), (318, .iconst 1, 1, 0, 0, 0, 0), (319, .if_icmp .ne 14, 3, 333, 0, 0, 0), (322, .aload_n 0, 1, 0, 0, 0, 0), (323, .getfield 28, 3, 6, 6, 885, 0), (326, .iload 5, 2, 0, 0, 0, 0), (328, .iload_n 2, 1, 0, 0, 0, 0), (329, .iastore, 1, 0, 0, 0, 0), (330, .goto 29, 3, 359, 0, 0, 0), (333, .iload 6, 2, 0, 0, 0, 0), (335, .ifCond .eq 24, 3, 359, 0, 0, 0), (338, .aload_n 0, 1, 0, 0, 0, 0), (339, .iload 5, 2, 0, 0, 0, 0), (341, .iload_n 2, 1, 0, 0, 0, 0), (342, .aload_n 0, 1, 0, 0, 0, 0), (343, .getfield 31, 3, 6, 7, 886, 0), (346, .iload 5, 2, 0, 0, 0, 0), (348, .iaload, 1, 0, 0, 0, 0), (349, .aload_n 0, 1, 0, 0, 0, 0)]
def zc_X6_gone_5 : List zi_Row := [(350, .getfield 34, 3, 6, 8, 887, 0), (353, .iload 5, 2, 0, 0, 0, 0), (355, .iaload, 1, 0, 0, 0, 0), (356, .invokevirtual 188, 3, 998, 5, 1050, 6), (359, .iinc 5 1, 3, 0, 0, 0, 0), (362, .goto (-154), 3, 208, 0, 0, 0), (365, .aload_n 0, 1, 0, 0, 0, 0), (366, .bipush 6, 2, 0, 0, 0, 0), (368, .iload_n 2, 1, 0, 0, 0, 0), (369, .invokevirtual 201, 3, 998, 3, 1046, 6), (372, .aload_n 0, 1, 0, 0, 0, 0), (373, .iload_n 1, 1, 0, 0, 0, 0), (374, .invokevirtual 167, 3, 71, 2, 987, 6), (377, .aload_n 0, 1, 0, 0, 0, 0), (378, .getfield 7, 3, 6, 0, 879, 0), (381, .iload_n 1, 1, 0, 0, 0, 0), (382, .iconst 0, 1, 0, 0, 0, 0), (383, .iastore, 1, 0, 0, 0, 0), (384, .aload_n 0, 1, 0, 0, 0, 0), (385, .getfield 13, 3, 6, 1, 880, 0), (388, .iload_n 1, 1, 0, 0, 0, 0), (389, .iconst 0, 1, 0, 0, 0, 0), (390, .iastore, 1, 0, 0, 0, 0), (391, .iload_n 3, 1, 0, 0, 0, 0), (392, .ireturn, 1, 0, 0, 0, 0)]
def zc_X6_gone : List zi_Row := zc_X6_gone_0 ++ (zc_X6_gone_1 ++ (zc_X6_gone_2 ++ (zc_X6_gone_3 ++ (zc_X6_gone_4 ++ (zc_X6_gone_5)))))
def zc_X6_open_0 : List zi_Row := [(0, .iload_n 1, 1, 0, 0, 0, 0), (1, .iconst 1, 1, 0, 0, 0, 0), (2, .iconst 4, 1, 0, 0, 0, 0), (3, .invokestatic 101, 3, 68, 3, 983, 0), (6, .ifCond .eq 29, 3, 35, 0, 0, 0), (9, .iload_n 2, 1, 0, 0, 0, 0), (10, .iconst 1, 1, 0, 0, 0, 0), (11, .sipush 200, 3, 0, 0, 0, 0), (14, .invokestatic 101, 3, 68, 3, 983, 0), (17, .ifCond .eq 18, 3, 35, 0, 0, 0), (20, .iload_n 3, 1, 0, 0, 0, 0), (21, .iconst 1, 1, 0, 0, 0, 0), (22, .sipush 200, 3, 0, 0, 0, 0), (25, .invokestatic 101, 3, 68, 3, 983, 0), (28, .ifCond .eq 7, 3, 35, 0, 0, 0), (31, .iconst 1, 1, 0, 0, 0, 0), (32, .goto 4, 3, 36, 0, 0, 0), (35, .iconst 0, 1, 0, 0, 0, 0), (36, .istore 5, 2, 0, 0, 0, 0), (38, .iload 5, 2, 0, 0, 0, 0), (40, .ifCond .eq 26, 3, 66, 0, 0, 0), (43, .iload_n 1, 1, 0, 0, 0, 0), (44, .iconst 3, 1, 0, 0, 0, 0), (45, .if_icmp .ne 15, 3, 60, 0, 0, 0), (48, .aload_n 0, 1, 0, 0, 0, 0), (49, .iload 4, 2, 0, 0, 0, 0), (51, .invokevirtual 214, 3, 69, 2, 1086, 6), (54, .ifCond .ne 15, 3, 69, 0, 0, 0), (57, .goto 9, 3, 66, 0, 0, 0), (60, .iload 4, 2, 0, 0, 0, 0), (62, .iconst (-1), 1, 0, 0, 0, 0), (63, .if_icmp .eq 6, 3, 69, 0, 0, 0), (66, .ldc 166, 2, 0, 0, 986, (-1000000001)), (68, .ireturn, 1, 0, 0, 0, 0), (69, .aload_n 0, 1, 0, 0, 0, 0), (70, .invokevirtual 217, 3, 73, 1, 1090, 6), (73, .istore 6, 2, 0, 0, 0, 0), (75, .iload 6, 2, 0, 0, 0, 0), (77, .ifCond .ge 6, 3, 83, 0, 0, 0), (80, .ldc 221, 2, 0, 0, 1094, (-1000000003))]
def zc_X6_open_1 : List zi_Row := [(82, .ireturn, 1, 0, 0, 0, 0), (83, .iload_n 1, 1, 0, 0, 0, 0), (84, .iconst 3, 1, 0, 0, 0, 0), (85, .if_icmp .ne 28, 3, 113, 0, 0, 0), (88, .aload_n 0, 1, 0, 0, 0, 0), (89, .getfield 16, 3, 6, 2, 881, 0), (92, .iload 4, 2, 0, 0, 0, 0), (94, .iaload, 1, 0, 0, 0, 0), (95, .iconst 4, 1, 0, 0, 0, 0), (96, .if_icmp .ne 7, 3, 103, 0, 0, 0), (99, .iconst (-1), 1, 0, 0, 0, 0), (100, .goto 17, 3, 117, 0, 0, 0), (103, .aload_n 0, 1, 0, 0, 0, 0), (104, .getfield 28, 3, 6, 6, 885, 0), (107, .iload 4, 2, 0, 0, 0, 0), (109, .iaload, 1, 0, 0, 0, 0), (110, .goto 7, 3, 117, 0, 0, 0), (113, .aload_n 0, 1, 0, 0, 0, 0), (114, .invokevirtual 222, 3, 72, 1, 1095, 6), (117, .istore 7, 2, 0, 0, 0, 0), (119, .iload 7, 2, 0, 0, 0, 0), (121, .ifCond .ge 6, 3, 127, 0, 0, 0), (124, .ldc 187, 2, 0, 0, 1061, (-1000000002)), (126, .ireturn, 1, 0, 0, 0, 0), (127, .aload_n 0, 1, 0, 0, 0, 0), (128, .getfield 19, 3, 6, 3, 882, 0), (131, .iload 6, 2, 0, 0, 0, 0), (133, .iload_n 2, 1, 0, 0, 0, 0), (134, .iastore, 1, 0, 0, 0, 0), (135, .aload_n 0, 1, 0, 0, 0, 0), (136, .getfield 22, 3, 6, 4, 883, 0), (139, .iload 6, 2, 0, 0, 0, 0), (141, .iload_n 3, 1, 0, 0, 0, 0), (142, .iastore, 1, 0, 0, 0, 0), (143, .iload_n 1, 1, 0, 0, 0, 0), (144, .iconst 1, 1, 0, 0, 0, 0), (145, .if_icmp .ne 29, 3, 174, 0, 0, 0), (148, .aload_n 0, 1, 0, 0, 0, 0), (149, .iload 6, 2, 0, 0, 0, 0), (151, .iload 7, 2, 0, 0, 0, 0)]
def zc_X6_open_2 : List zi_Row := [(153, .invokevirtual 225, 3, 998, 3, 1099, 6), (156, .ifCond .ne 6, 3, 162, 0, 0, 0), (159, .ldc 187, 2, 0, 0, 1061, (-1000000002)), (161, .ireturn, 1, 0, 0, 0, 0), (162, .aload_n 0, 1, 0, 0, 0, 0), (163, .getfield 28, 3, 6, 6, 885, 0), (166, .iload 6, 2, 0, 0, 0, 0), (168, .iload 7, 2, 0, 0, 0, 0), (170, .iastore, 1, 0, 0, 0, 0), (171, .goto 34, 3, 205, 0, 0, 0), (174, .iload_n 1, 1, 0, 0, 0, 0), (175, .iconst 4, 1, 0, 0, 0, 0), (176, .if_icmp .eq 29, 3, 205, 0, 0, 0), (179, .aload_n 0, 1, 0, 0, 0, 0), (180, .iload 6, 2, 0, 0, 0, 0), (182, .aload_n 0, 1, 0, 0, 0, 0), (183, .getfield 7, 3, 6, 0, 879, 0), (186, .iload 7, 2, 0, 0, 0, 0), (188, .iaload, 1, 0, 0, 0, 0), (189, .aload_n 0, 1, 0, 0, 0, 0), (190, .getfield 13, 3, 6, 1, 880, 0), (193, .iload 7, 2, 0, 0, 0, 0), (195, .iaload, 1, 0, 0, 0, 0), (196, .invokevirtual 184, 3, 998, 4, 1010, 6), (199, .ifCond .ne 6, 3, 205, 0, 0, 0), (202, .ldc 187, 2, 0, 0, 1061, (-1000000002)), (204, .ireturn, 1, 0, 0, 0, 0), (205, .aload_n 0, 1, 0, 0, 0, 0), (206, .getfield 16, 3, 6, 2, 881, 0), (209, .iload 6, 2, 0, 0, 0, 0), (211, .iload_n 1, 1, 0, 0, 0, 0), (212, .iastore, 1, 0, 0, 0, 0), (213, .aload_n 0, 1, 0, 0, 0, 0), (214, .getfield 25, 3, 6, 5, 884, 0), (217, .iload 6, 2, 0, 0, 0, 0), (219, .iload 4, 2, 0, 0, 0, 0), (221, .iastore, 1, 0, 0, 0, 0), (222, .iload_n 1, 1, 0, 0, 0, 0), (223, .iconst 2, 1, 0, 0, 0, 0), (224, .if_icmp .ne 24, 3, 248, 0, 0, 0)]
def zc_X6_open_3 : List zi_Row := [(227, .aload_n 0, 1, 0, 0, 0, 0), (228, .iload 6, 2, 0, 0, 0, 0), (230, .iload 7, 2, 0, 0, 0, 0), (232, .bipush 10, 2, 0, 0, 0, 0), (234, .iload 6, 2, 0, 0, 0, 0), (236, .imul, 1, 0, 0, 0, 0), (237, .bipush 10, 2, 0, 0, 0, 0), (239, .iload 6, 2, 0, 0, 0, 0), (241, .imul, 1, 0, 0, 0, 0), (242, .invokevirtual 188, 3, 998, 5, 1050, 6), (245, .goto 104, 3, 349, 0, 0, 0), (248, .iload_n 1, 1, 0, 0, 0, 0), (249, .iconst 4, 1, 0, 0, 0, 0), (250, .if_icmp .ne 38, 3, 288, 0, 0, 0), (253, .aload_n 0, 1, 0, 0, 0, 0), (254, .getfield 28, 3, 6, 6, 885, 0), (257, .iload 6, 2, 0, 0, 0, 0), (259, .iconst (-1), 1, 0, 0, 0, 0), (260, .iastore, 1, 0, 0, 0, 0), (261, .aload_n 0, 1, 0, 0, 0, 0), (262, .getfield 31, 3, 6, 7, 886, 0), (265, .iload 6, 2, 0, 0, 0, 0), (267, .bipush 10, 2, 0, 0, 0, 0), (269, .iload 6, 2, 0, 0, 0, 0), (271, .imul, 1, 0, 0, 0, 0), (272, .iastore, 1, 0, 0, 0, 0), (273, .aload_n 0, 1, 0, 0, 0, 0), (274, .getfield 34, 3, 6, 8, 887, 0), (277, .iload 6, 2, 0, 0, 0, 0), (279, .bipush 10, 2, 0, 0, 0, 0), (281, .iload 6, 2, 0, 0, 0, 0), (283, .imul, 1, 0, 0, 0, 0), (284, .iastore, 1, 0, 0, 0, 0), (285, .goto 64, 3, 349, 0, 0, 0), (288, .iload_n 1, 1, 0, 0, 0, 0), (289, .iconst 3, 1, 0, 0, 0, 0), (290, .if_icmp .ne 59, 3, 349, 0, 0, 0), (293, .aload_n 0, 1, 0, 0, 0, 0), (294, .iload 4, 2, 0, 0, 0, 0), (296, .iconst 1, 1, 0, 0, 0, 0)]
def zc_X6_open_4 : List zi_Row := [(297, .invokevirtual 228, 3, 998, 3, 1119, 6), (300, .aload_n 0, 1, 0, 0, 0, 0), (301, .iload 4, 2, 0, 0, 0, 0), (303, .iconst 3, 1, 0, 0, 0, 0), (304, .invokevirtual 228, 3, 998, 3, 1119, 6), (307, .iload_n 2, 1, 0, 0, 0, 0), (308, .isub, 1, 0, 0, 0, 0), (309, .invokestatic 231, 3, 998, 1, 1128, 0), (312, .iadd, 1, 0, 0, 0, 0), (313, .istore 8, 2, 0, 0, 0, 0), (315, .aload_n 0, 1, 0, 0, 0, 0), (316, .iload 4, 2, 0, 0, 0, 0), (318, .iconst 2, 1, 0, 0, 0, 0), (319, .invokevirtual 228, 3, 998, 3, 1119, 6), (322, .aload_n 0, 1, 0, 0, 0, 0), (323, .iload 4, 2, 0, 0, 0, 0), (325, .iconst 4, 1, 0, 0, 0, 0), (326, .invokevirtual 228, 3, 998, 3, 1119, 6), (329, .iload_n 3, 1, 0, 0, 0, 0), (330, .isub, 1, 0, 0, 0, 0), (331, .invokestatic 231, 3, 998, 1, 1128, 0), (334, .iadd, 1, 0, 0, 0, 0), (335, .istore 9, 2, 0, 0, 0, 0), (337, .aload_n 0, 1, 0, 0, 0, 0), (338, .iload 6, 2, 0, 0, 0, 0), (340, .iload 7, 2, 0, 0, 0, 0), (342, .iload 8, 2, 0, 0, 0, 0), (344, .iload 9, 2, 0, 0, 0, 0), (346, .invokevirtual 188, 3, 998, 5, 1050, 6), (349, .aload_n 0, 1, 0, 0, 0, 0), (350, .iload 6, 2, 0, 0, 0, 0), (352, .invokevirtual 234, 3, 998, 2, 1131, 6), (355, .iload 6, 2, 0, 0, 0, 0), (357, .ireturn, 1, 0, 0, 0, 0)]
def zc_X6_open : List zi_Row := zc_X6_open_0 ++ (zc_X6_open_1 ++ (zc_X6_open_2 ++ (zc_X6_open_3 ++ (zc_X6_open_4))))
def zc_X6_close_0 : List zi_Row := [(0, .aload_n 0, 1, 0, 0, 0, 0), (1, .iload_n 1, 1, 0, 0, 0, 0), (2, .invokevirtual 214, 3, 69, 2, 1086, 6), (5, .ifCond .eq 11, 3, 16, 0, 0, 0), (8, .aload_n 0, 1, 0, 0, 0, 0), (9, .iload_n 1, 1, 0, 0, 0, 0), (10, .invokevirtual 250, 3, 998, 2, 1152, 6), (13, .goto 5, 3, 18, 0, 0, 0), (16, .ldc 166, 2, 0, 0, 986, (-1000000001)), (18, .ireturn, 1, 0, 0, 0, 0)]
def zc_X6_close : List zi_Row := zc_X6_close_0
def zc_X6_focus_0 : List zi_Row := [(0, .aload_n 0, 1, 0, 0, 0, 0), (1, .iload_n 1, 1, 0, 0, 0, 0), (2, .invokevirtual 214, 3, 69, 2, 1086, 6), (5, .ifCond .ne 6, 3, 11, 0, 0, 0), (8, .ldc 166, 2, 0, 0, 986, (-1000000001)), (10, .ireturn, 1, 0, 0, 0, 0), (11, .aload_n 0, 1, 0, 0, 0, 0), (12, .getfield 40, 3, 6, 11, 890, 0), (15, .iconst 0, 1, 0, 0, 0, 0), (16, .iaload, 1, 0, 0, 0, 0), (17, .istore_n 2, 1, 0, 0, 0, 0), (18, .aload_n 0, 1, 0, 0, 0, 0), (19, .iload_n 1, 1, 0, 0, 0, 0), (20, .invokevirtual 234, 3, 998, 2, 1131, 6), (23, .iload_n 2, 1, 0, 0, 0, 0), (24, .ireturn, 1, 0, 0, 0, 0)]
def zc_X6_focus : List zi_Row := zc_X6_focus_0
def zc_X6_back_0 : List zi_Row := [(0, .aload_n 0, 1, 0, 0, 0, 0), (1, .getfield 160, 3, 6, 12, 891, 0), (4, .iconst 2, 1, 0, 0, 0, 0), (5, .if_icmp .ge 6, 3, 11, 0, 0, 0), (8, .ldc 187, 2, 0, 0, 1061, (-1000000002)), (10, .ireturn, 1, 0, 0, 0, 0), (11, .aload_n 0, 1, 0, 0, 0, 0), (12, .getfield 40, 3, 6, 11, 890, 0), (15, .iconst 1, 1, 0, 0, 0, 0), (16, .iaload, 1, 0, 0, 0, 0), (17, .istore_n 1, 1, 0, 0, 0, 0), (18, .aload_n 0, 1, 0, 0, 0, 0), (19, .iload_n 1, 1, 0, 0, 0, 0), (20, .invokevirtual 234, 3, 998, 2, 1131, 6), (23, .iload_n 1, 1, 0, 0, 0, 0), (24, .ireturn, 1, 0, 0, 0, 0)]
def zc_X6_back : List zi_Row := zc_X6_back_0
def zc_X6_toward_0 : List zi_Row := [(0, .iload_n 1, 1, 0, 0, 0, 0), (1, .iconst 0, 1, 0, 0, 0, 0), (2, .iconst 3, 1, 0, 0, 0, 0), (3, .invokestatic 101, 3, 68, 3, 983, 0), (6, .ifCond .ne 6, 3, 12, 0, 0, 0), (9, .ldc 166, 2, 0, 0, 986, (-1000000001)), (11, .ireturn, 1, 0, 0, 0, 0), (12, .aload_n 0, 1, 0, 0, 0, 0), (13, .getfield 160, 3, 6, 12, 891, 0), (16, .ifCond .eq 16, 3, 32, 0, 0, 0), (19, .aload_n 0, 1, 0, 0, 0, 0), (20, .aload_n 0, 1, 0, 0, 0, 0), (21, .getfield 40, 3, 6, 11, 890, 0), (24, .iconst 0, 1, 0, 0, 0, 0), (25, .iaload, 1, 0, 0, 0, 0), (26, .invokevirtual 253, 3, 998, 2, 1172, 6), (29, .ifCond .ne 6, 3, 35, 0, 0, 0), (32, .ldc 187, 2, 0, 0, 1061, (-1000000002)), (34, .ireturn, 1, 0, 0, 0, 0), (35, .aload_n 0, 1, 0, 0, 0, 0), (36, .aload_n 0, 1, 0, 0, 0, 0), (37, .getfield 40, 3, 6, 11, 890, 0), (40, .iconst 0, 1, 0, 0, 0, 0), (41, .iaload, 1, 0, 0, 0, 0), (42, .iload_n 1, 1, 0, 0, 0, 0), (43, .invokevirtual 260, 3, 998, 3, 1176, 6), (46, .istore_n 2, 1, 0, 0, 0, 0), (47, .iload_n 2, 1, 0, 0, 0, 0), (48, .ifCond .ge 7, 3, 55, 0, 0, 0), (51, .ldc_w 263, 3, 0, 0, 1123, (-1000000005)), (54, .ireturn, 1, 0, 0, 0, 0), (55, .aload_n 0, 1, 0, 0, 0, 0), (56, .iload_n 2, 1, 0, 0, 0, 0), (57, .invokevirtual 234, 3, 998, 2, 1131, 6), (60, .iload_n 2, 1, 0, 0, 0, 0), (61, .ireturn, 1, 0, 0, 0, 0)]
def zc_X6_toward : List zi_Row := zc_X6_toward_0
def zc_X6_steps_0 : List zi_Row := [(0, .aload_n 0, 1, 0, 0, 0, 0), (1, .iload_n 1, 1, 0, 0, 0, 0), (2, .invokevirtual 214, 3, 69, 2, 1086, 6), (5, .ifCond .eq 11, 3, 16, 0, 0, 0), (8, .aload_n 0, 1, 0, 0, 0, 0), (9, .iload_n 2, 1, 0, 0, 0, 0), (10, .invokevirtual 214, 3, 69, 2, 1086, 6), (13, .ifCond .ne 6, 3, 19, 0, 0, 0), (16, .ldc 166, 2, 0, 0, 986, (-1000000001)), (18, .ireturn, 1, 0, 0, 0, 0), (19, .aload_n 0, 1, 0, 0, 0, 0), (20, .iload_n 1, 1, 0, 0, 0, 0), (21, .invokevirtual 253, 3, 998, 2, 1172, 6), (24, .ifCond .eq 11, 3, 35, 0, 0, 0), (27, .aload_n 0, 1, 0, 0, 0, 0), (28, .iload_n 2, 1, 0, 0, 0, 0), (29, .invokevirtual 253, 3, 998, 2, 1172, 6), (32, .ifCond .ne 6, 3, 38, 0, 0, 0), (35, .ldc 187, 2, 0, 0, 1061, (-1000000002)), (37, .ireturn, 1, 0, 0, 0, 0), (38, .iconst 0, 1, 0, 0, 0, 0), (39, .istore_n 3, 1, 0, 0, 0, 0), (40, .iload_n 3, 1, 0, 0, 0, 0), (41, .bipush 10, 2, 0, 0, 0, 0), (43, .if_icmp .ge 25, 3, 68, 0, 0, 0), (46, .aload_n 0, 1, 0, 0, 0, 0), (47, .getfield 98, 3, 6, 32, 911, 0), (50, .iload_n 3, 1, 0, 0, 0, 0), (51, .iload_n 3, 1, 0, 0, 0, 0), (52, .iload_n 1, 1, 0, 0, 0, 0), (53, .if_icmp .ne 7, 3, 60, 0, 0, 0), (56, .iconst 0, 1, 0, 0, 0, 0), (57, .goto 4, 3, 61, 0, 0, 0), (60, .iconst (-1), 1, 0, 0, 0, 0), (61, .iastore, 1, 0, 0, 0, 0), (62, .iinc 3 1, 3, 0, 0, 0, 0), (65, .goto (-25), 3, 40, 0, 0, 0), (68, .iconst 0, 1, 0, 0, 0, 0), (69, .istore_n 3, 1, 0, 0, 0, 0), (70, .iload_n 3, 1, 0, 0, 0, 0)]
def zc_X6_steps_1 : List zi_Row := [(71, .bipush 10, 2, 0, 0, 0, 0), (73, .if_icmp .ge 86, 3, 159, 0, 0, 0), (76, .iconst 0, 1, 0, 0, 0, 0), (77, .istore 4, 2, 0, 0, 0, 0), (79, .iload 4, 2, 0, 0, 0, 0), (81, .bipush 10, 2, 0, 0, 0, 0), (83, .if_icmp .ge 70, 3, 153, 0, 0, 0), (86, .iconst 0, 1, 0, 0, 0, 0), (87, .istore 5, 2, 0, 0, 0, 0), (89, .iload 5, 2, 0, 0, 0, 0), (91, .iconst 4, 1, 0, 0, 0, 0), (92, .if_icmp .ge 55, 3, 147, 0, 0, 0), (95, .aload_n 0, 1, 0, 0, 0, 0), (96, .getfield 98, 3, 6, 32, 911, 0), (99, .iload 4, 2, 0, 0, 0, 0), (101, .iaload, 1, 0, 0, 0, 0), (102, .iload_n 3, 1, 0, 0, 0, 0), (103, .if_icmp .ne 44, 3, 147, 0, 0, 0), (106, .aload_n 0, 1, 0, 0, 0, 0), (107, .iload 4, 2, 0, 0, 0, 0), (109, .iload 5, 2, 0, 0, 0, 0), (111, .invokevirtual 260, 3, 998, 3, 1176, 6), (114, .istore 6, 2, 0, 0, 0, 0), (116, .iload 6, 2, 0, 0, 0, 0), (118, .ifCond .lt 23, 3, 141, 0, 0, 0), (121, .aload_n 0, 1, 0, 0, 0, 0), (122, .getfield 98, 3, 6, 32, 911, 0), (125, .iload 6, 2, 0, 0, 0, 0), (127, .iaload, 1, 0, 0, 0, 0), (128, .ifCond .ge 13, 3, 141, 0, 0, 0), (131, .aload_n 0, 1, 0, 0, 0, 0), (132, .getfield 98, 3, 6, 32, 911, 0), (135, .iload 6, 2, 0, 0, 0, 0), (137, .iload_n 3, 1, 0, 0, 0, 0), (138, .iconst 1, 1, 0, 0, 0, 0), (139, .iadd, 1, 0, 0, 0, 0), (140, .iastore, 1, 0, 0, 0, 0), (141, .iinc 5 1, 3, 0, 0, 0, 0), (144, .goto (-55), 3, 89, 0, 0, 0), (147, .iinc 4 1, 3, 0, 0, 0, 0)]
def zc_X6_steps_2 : List zi_Row := [(150, .goto (-71), 3, 79, 0, 0, 0), (153, .iinc 3 1, 3, 0, 0, 0, 0), (156, .goto (-86), 3, 70, 0, 0, 0), (159, .aload_n 0, 1, 0, 0, 0, 0), (160, .getfield 98, 3, 6, 32, 911, 0), (163, .iload_n 2, 1, 0, 0, 0, 0), (164, .iaload, 1, 0, 0, 0, 0), (165, .ifCond .ge 9, 3, 174, 0, 0, 0), (168, .ldc_w 263, 3, 0, 0, 1123, (-1000000005)), (171, .goto 9, 3, 180, 0, 0, 0), (174, .aload_n 0, 1, 0, 0, 0, 0), (175, .getfield 98, 3, 6, 32, 911, 0), (178, .iload_n 2, 1, 0, 0, 0, 0), (179, .iaload, 1, 0, 0, 0, 0), (180, .ireturn, 1, 0, 0, 0, 0)]
def zc_X6_steps : List zi_Row := zc_X6_steps_0 ++ (zc_X6_steps_1 ++ (zc_X6_steps_2))
def zc_X6_drag_0 : List zi_Row := [(0, .aload_n 0, 1, 0, 0, 0, 0), (1, .iload_n 1, 1, 0, 0, 0, 0), (2, .invokevirtual 214, 3, 69, 2, 1086, 6), (5, .ifCond .eq 25, 3, 30, 0, 0, 0), (8, .aload_n 0, 1, 0, 0, 0, 0), (9, .iload_n 2, 1, 0, 0, 0, 0), (10, .invokevirtual 214, 3, 69, 2, 1086, 6), (13, .ifCond .eq 17, 3, 30, 0, 0, 0), (16, .iload_n 1, 1, 0, 0, 0, 0), (17, .iload_n 2, 1, 0, 0, 0, 0), (18, .if_icmp .eq 12, 3, 30, 0, 0, 0), (21, .iload_n 3, 1, 0, 0, 0, 0), (22, .iconst 0, 1, 0, 0, 0, 0), (23, .iconst 4, 1, 0, 0, 0, 0), (24, .invokestatic 101, 3, 68, 3, 983, 0), (27, .ifCond .ne 6, 3, 33, 0, 0, 0), (30, .ldc 166, 2, 0, 0, 986, (-1000000001)), (32, .ireturn, 1, 0, 0, 0, 0), (33, .aload_n 0, 1, 0, 0, 0, 0), (34, .getfield 16, 3, 6, 2, 881, 0), (37, .iload_n 1, 1, 0, 0, 0, 0), (38, .iaload, 1, 0, 0, 0, 0), (39, .iconst 1, 1, 0, 0, 0, 0), (40, .if_icmp .ne 13, 3, 53, 0, 0, 0), (43, .aload_n 0, 1, 0, 0, 0, 0), (44, .getfield 16, 3, 6, 2, 881, 0), (47, .iload_n 2, 1, 0, 0, 0, 0), (48, .iaload, 1, 0, 0, 0, 0), (49, .iconst 1, 1, 0, 0, 0, 0), (50, .if_icmp .eq 6, 3, 56, 0, 0, 0), (53, .ldc 187, 2, 0, 0, 1061, (-1000000002)), (55, .ireturn, 1, 0, 0, 0, 0), (56, .aload_n 0, 1, 0, 0, 0, 0), (57, .getfield 28, 3, 6, 6, 885, 0), (60, .iload_n 1, 1, 0, 0, 0, 0), (61, .iaload, 1, 0, 0, 0, 0), (62, .istore 4, 2, 0, 0, 0, 0), (64, .aload_n 0, 1, 0, 0, 0, 0), (65, .getfield 28, 3, 6, 6, 885, 0), (68, .iload_n 2, 1, 0, 0, 0, 0)]
def zc_X6_drag_1 : List zi_Row := [(69, .iaload, 1, 0, 0, 0, 0), (70, .istore 5, 2, 0, 0, 0, 0), (72, .aload_n 0, 1, 0, 0, 0, 0), (73, .iload 5, 2, 0, 0, 0, 0), (75, .bipush 6, 2, 0, 0, 0, 0), (77, .invokevirtual 201, 3, 998, 3, 1046, 6), (80, .iload 4, 2, 0, 0, 0, 0), (82, .iload 5, 2, 0, 0, 0, 0), (84, .if_icmp .ne 10, 3, 94, 0, 0, 0), (87, .aload_n 0, 1, 0, 0, 0, 0), (88, .bipush 6, 2, 0, 0, 0, 0), (90, .iload_n 1, 1, 0, 0, 0, 0), (91, .invokevirtual 197, 3, 998, 3, 1026, 6), (94, .aload_n 0, 1, 0, 0, 0, 0), (95, .bipush 6, 2, 0, 0, 0, 0), (97, .iload_n 2, 1, 0, 0, 0, 0), (98, .invokevirtual 116, 3, 998, 3, 1030, 6), (101, .istore 6, 2, 0, 0, 0, 0), (103, .iload_n 3, 1, 0, 0, 0, 0), (104, .iconst 4, 1, 0, 0, 0, 0), (105, .if_icmp .ne 15, 3, 120, 0, 0, 0), (108, .aload_n 0, 1, 0, 0, 0, 0), (109, .bipush 6, 2, 0, 0, 0, 0), (111, .iload 6, 2, 0, 0, 0, 0), (113, .iload_n 1, 1, 0, 0, 0, 0), (114, .invokevirtual 210, 3, 998, 4, 1078, 6), (117, .goto 33, 3, 150, 0, 0, 0), (120, .aload_n 0, 1, 0, 0, 0, 0), (121, .bipush 6, 2, 0, 0, 0, 0), (123, .iload 6, 2, 0, 0, 0, 0), (125, .iload_n 3, 1, 0, 0, 0, 0), (126, .iconst 2, 1, 0, 0, 0, 0), (127, .if_icmp .ge 7, 3, 134, 0, 0, 0), (130, .iconst 2, 1, 0, 0, 0, 0), (131, .goto 4, 3, 135, 0, 0, 0), (134, .iconst 3, 1, 0, 0, 0, 0), (135, .iload_n 1, 1, 0, 0, 0, 0), (136, .iload_n 3, 1, 0, 0, 0, 0), (137, .iconst 2, 1, 0, 0, 0, 0), (138, .irem, 1, 0, 0, 0, 0)]
def zc_X6_drag_2 : List zi_Row := [(139, .ifCond .ne 7, 3, 146, 0, 0, 0), (142, .iconst 1, 1, 0, 0, 0, 0), (143, .goto 4, 3, 147, 0, 0, 0), (146, .iconst 0, 1, 0, 0, 0, 0), (147, .invokevirtual 243, 3, 998, 6, 1115, 6), (150, .iconst 0, 1, 0, 0, 0, 0), (151, .istore 7, 2, 0, 0, 0, 0), (153, .iload 7, 2, 0, 0, 0, 0), (155, .bipush 10, 2, 0, 0, 0, 0), (157, .if_icmp .ge 27, 3, 184, 0, 0, 0), (160, .aload_n 0, 1, 0, 0, 0, 0), (161, .getfield 95, 3, 6, 31, 910, 0), (164, .iload 7, 2, 0, 0, 0, 0), (166, .iload 7, 2, 0, 0, 0, 0), (168, .iload_n 1, 1, 0, 0, 0, 0), (169, .if_icmp .ne 7, 3, 176, 0, 0, 0), (172, .iconst 1, 1, 0, 0, 0, 0), (173, .goto 4, 3, 177, 0, 0, 0), (176, .iconst 0, 1, 0, 0, 0, 0), (177, .bastore, 1, 0, 0, 0, 0), (178, .iinc 7 1, 3, 0, 0, 0, 0), (181, .goto (-28), 3, 153, 0, 0, 0), (184, .aload_n 0, 1, 0, 0, 0, 0), (185, .invokevirtual 191, 3, 998, 1, 998, 6), (188, .aload_n 0, 1, 0, 0, 0, 0), (189, .bipush 6, 2, 0, 0, 0, 0), (191, .aload_n 0, 1, 0, 0, 0, 0), (192, .getfield 7, 3, 6, 0, 879, 0), (195, .iload 5, 2, 0, 0, 0, 0), (197, .iaload, 1, 0, 0, 0, 0), (198, .aload_n 0, 1, 0, 0, 0, 0), (199, .getfield 13, 3, 6, 1, 880, 0), (202, .iload 5, 2, 0, 0, 0, 0), (204, .iaload, 1, 0, 0, 0, 0), (205, .invokevirtual 177, 3, 998, 4, 1002, 6), (208, .istore 7, 2, 0, 0, 0, 0), (210, .iconst 0, 1, 0, 0, 0, 0), (211, .istore 8, 2, 0, 0, 0, 0), (213, .iload 8, 2, 0, 0, 0, 0), (215, .bipush 10, 2, 0, 0, 0, 0)]
def zc_X6_drag_3 : List zi_Row := [(217, .if_icmp .ge 67, 3, 284, 0, 0, 0), (220, .iload 4, 2, 0, 0, 0, 0), (222, .iload 5, 2, 0, 0, 0, 0), (224, .if_icmp .eq 60, 3, 284, 0, 0, 0), (227, .iload 7, 2, 0, 0, 0, 0), (229, .ifCond .eq 46, 3, 275, 0, 0, 0), (232, .aload_n 0, 1, 0, 0, 0, 0), (233, .getfield 95, 3, 6, 31, 910, 0), (236, .iload 8, 2, 0, 0, 0, 0), (238, .baload, 1, 0, 0, 0, 0), (239, .ifCond .eq 32, 3, 271, 0, 0, 0), (242, .iload 8, 2, 0, 0, 0, 0), (244, .iload_n 1, 1, 0, 0, 0, 0), (245, .if_icmp .eq 26, 3, 271, 0, 0, 0), (248, .aload_n 0, 1, 0, 0, 0, 0), (249, .iload 8, 2, 0, 0, 0, 0), (251, .aload_n 0, 1, 0, 0, 0, 0), (252, .getfield 7, 3, 6, 0, 879, 0), (255, .iload 5, 2, 0, 0, 0, 0), (257, .iaload, 1, 0, 0, 0, 0), (258, .aload_n 0, 1, 0, 0, 0, 0), (259, .getfield 13, 3, 6, 1, 880, 0), (262, .iload 5, 2, 0, 0, 0, 0), (264, .iaload, 1, 0, 0, 0, 0), (265, .invokevirtual 184, 3, 998, 4, 1010, 6), (268, .ifCond .eq 7, 3, 275, 0, 0, 0), (271, .iconst 1, 1, 0, 0, 0, 0), (272, .goto 4, 3, 276, 0, 0, 0), (275, .iconst 0, 1, 0, 0, 0, 0), (276, .istore 7, 2, 0, 0, 0, 0), (278, .iinc 8 1, 3, 0, 0, 0, 0), (281, .goto (-68), 3, 213, 0, 0, 0), (284, .iload 7, 2, 0, 0, 0, 0), (286, .ifCond .ne 6, 3, 292, 0, 0, 0), (289, .ldc 187, 2, 0, 0, 1061, (-1000000002)), (291, .ireturn, 1, 0, 0, 0, 0), (292, .aload_n 0, 1, 0, 0, 0, 0), (293, .iload_n 1, 1, 0, 0, 0, 0), (294, .invokevirtual 247, 3, 998, 2, 1156, 6), (297, .iload 4, 2, 0, 0, 0, 0)]
def zc_X6_drag_4 : List zi_Row := [(299, .iload 5, 2, 0, 0, 0, 0), (301, .if_icmp .eq 10, 3, 311, 0, 0, 0), (304, .aload_n 0, 1, 0, 0, 0, 0), (305, .iload 4, 2, 0, 0, 0, 0), (307, .iload_n 1, 1, 0, 0, 0, 0), (308, .invokevirtual 197, 3, 998, 3, 1026, 6), (311, .aload_n 0, 1, 0, 0, 0, 0), (312, .bipush 6, 2, 0, 0, 0, 0), (314, .iload 5, 2, 0, 0, 0, 0), (316, .invokevirtual 201, 3, 998, 3, 1046, 6), (319, .aload_n 0, 1, 0, 0, 0, 0), (320, .getfield 28, 3, 6, 6, 885, 0), (323, .iload_n 1, 1, 0, 0, 0, 0), (324, .iload 5, 2, 0, 0, 0, 0), (326, .iastore, 1, 0, 0, 0, 0), (327, .iconst 0, 1, 0, 0, 0, 0), (328, .istore 8, 2, 0, 0, 0, 0), (330, .iload 8, 2, 0, 0, 0, 0), (332, .bipush 10, 2, 0, 0, 0, 0), (334, .if_icmp .ge 60, 3, 394, 0, 0, 0), (337, .iload 4, 2, 0, 0, 0, 0), (339, .iload 5, 2, 0, 0, 0, 0), (341, .if_icmp .eq 53, 3, 394, 0, 0, 0), (344, .aload_n 0, 1, 0, 0, 0, 0), (345, .getfield 95, 3, 6, 31, 910, 0), (348, .iload 8, 2, 0, 0, 0, 0), (350, .baload, 1, 0, 0, 0, 0), (351, .ifCond .eq 37, 3, 388, 0, 0, 0), (354, .iload 8, 2, 0, 0, 0, 0), (356, .iload_n 1, 1, 0, 0, 0, 0), (357, .if_icmp .eq 31, 3, 388, 0, 0, 0), (360, .aload_n 0, 1, 0, 0, 0, 0), (361, .iload 8, 2, 0, 0, 0, 0), (363, .iload 5, 2, 0, 0, 0, 0), (365, .aload_n 0, 1, 0, 0, 0, 0), (366, .getfield 31, 3, 6, 7, 886, 0), (369, .iload 8, 2, 0, 0, 0, 0), (371, .iaload, 1, 0, 0, 0, 0), (372, .aload_n 0, 1, 0, 0, 0, 0), (373, .getfield 34, 3, 6, 8, 887, 0)]
def zc_X6_drag_5 : List zi_Row := [(376, .iload 8, 2, 0, 0, 0, 0), (378, .iaload, 1, 0, 0, 0, 0), (379, .invokevirtual 188, 3, 998, 5, 1050, 6), (382, .aload_n 0, 1, 0, 0, 0, 0), (383, .iload 8, 2, 0, 0, 0, 0), (385, .invokevirtual 247, 3, 998, 2, 1156, 6), (388, .iinc 8 1, 3, 0, 0, 0, 0), (391, .goto (-61), 3, 330, 0, 0, 0), (394, .aload_n 0, 1, 0, 0, 0, 0), (395, .iload_n 1, 1, 0, 0, 0, 0), (396, .invokevirtual 234, 3, 998, 2, 1131, 6), (399, .iconst 0, 1, 0, 0, 0, 0), (400, .ireturn, 1, 0, 0, 0, 0)]
def zc_X6_drag : List zi_Row := zc_X6_drag_0 ++ (zc_X6_drag_1 ++ (zc_X6_drag_2 ++ (zc_X6_drag_3 ++ (zc_X6_drag_4 ++ (zc_X6_drag_5)))))
def zc_X6_move_0 : List zi_Row := [(0, .aload_n 0, 1, 0, 0, 0, 0), (1, .iload_n 1, 1, 0, 0, 0, 0), (2, .invokevirtual 214, 3, 69, 2, 1086, 6), (5, .ifCond .eq 29, 3, 34, 0, 0, 0), (8, .iload_n 2, 1, 0, 0, 0, 0), (9, .sipush (-1000), 3, 0, 0, 0, 0), (12, .sipush 1000, 3, 0, 0, 0, 0), (15, .invokestatic 101, 3, 68, 3, 983, 0), (18, .ifCond .eq 16, 3, 34, 0, 0, 0), (21, .iload_n 3, 1, 0, 0, 0, 0), (22, .sipush (-1000), 3, 0, 0, 0, 0), (25, .sipush 1000, 3, 0, 0, 0, 0), (28, .invokestatic 101, 3, 68, 3, 983, 0), (31, .ifCond .ne 6, 3, 37, 0, 0, 0), (34, .ldc 166, 2, 0, 0, 986, (-1000000001)), (36, .ireturn, 1, 0, 0, 0, 0), (37, .aload_n 0, 1, 0, 0, 0, 0), (38, .iload_n 1, 1, 0, 0, 0, 0), (39, .invokevirtual 147, 3, 998, 2, 1124, 6), (42, .ifCond .ne 6, 3, 48, 0, 0, 0), (45, .ldc 187, 2, 0, 0, 1061, (-1000000002)), (47, .ireturn, 1, 0, 0, 0, 0), (48, .aload_n 0, 1, 0, 0, 0, 0), (49, .getfield 16, 3, 6, 2, 881, 0), (52, .iload_n 1, 1, 0, 0, 0, 0), (53, .iaload, 1, 0, 0, 0, 0), (54, .iconst 4, 1, 0, 0, 0, 0), (55, .if_icmp .ne 32, 3, 87, 0, 0, 0), (58, .aload_n 0, 1, 0, 0, 0, 0), (59, .getfield 31, 3, 6, 7, 886, 0), (62, .iload_n 1, 1, 0, 0, 0, 0), (63, .iload_n 2, 1, 0, 0, 0, 0), (64, .sipush 400, 3, 0, 0, 0, 0), (67, .invokestatic 141, 3, 998, 2, 1054, 0), (70, .iastore, 1, 0, 0, 0, 0), (71, .aload_n 0, 1, 0, 0, 0, 0), (72, .getfield 34, 3, 6, 8, 887, 0), (75, .iload_n 1, 1, 0, 0, 0, 0), (76, .iload_n 3, 1, 0, 0, 0, 0), (77, .sipush 400, 3, 0, 0, 0, 0)]
def zc_X6_move_1 : List zi_Row := [(80, .invokestatic 141, 3, 998, 2, 1054, 0), (83, .iastore, 1, 0, 0, 0, 0), (84, .goto 16, 3, 100, 0, 0, 0), (87, .aload_n 0, 1, 0, 0, 0, 0), (88, .iload_n 1, 1, 0, 0, 0, 0), (89, .aload_n 0, 1, 0, 0, 0, 0), (90, .getfield 28, 3, 6, 6, 885, 0), (93, .iload_n 1, 1, 0, 0, 0, 0), (94, .iaload, 1, 0, 0, 0, 0), (95, .iload_n 2, 1, 0, 0, 0, 0), (96, .iload_n 3, 1, 0, 0, 0, 0), (97, .invokevirtual 188, 3, 998, 5, 1050, 6), (100, .aload_n 0, 1, 0, 0, 0, 0), (101, .iload_n 1, 1, 0, 0, 0, 0), (102, .invokevirtual 247, 3, 998, 2, 1156, 6), (105, .iconst 0, 1, 0, 0, 0, 0), (106, .ireturn, 1, 0, 0, 0, 0)]
def zc_X6_move : List zi_Row := zc_X6_move_0 ++ (zc_X6_move_1)
def zc_X6_share_0 : List zi_Row := [(0, .aload_n 0, 1, 0, 0, 0, 0), (1, .iload_n 1, 1, 0, 0, 0, 0), (2, .invokevirtual 214, 3, 69, 2, 1086, 6), (5, .ifCond .eq 23, 3, 28, 0, 0, 0), (8, .iload_n 2, 1, 0, 0, 0, 0), (9, .iconst 0, 1, 0, 0, 0, 0), (10, .iconst 1, 1, 0, 0, 0, 0), (11, .invokestatic 101, 3, 68, 3, 983, 0), (14, .ifCond .eq 14, 3, 28, 0, 0, 0), (17, .iload_n 3, 1, 0, 0, 0, 0), (18, .bipush 10, 2, 0, 0, 0, 0), (20, .bipush 90, 2, 0, 0, 0, 0), (22, .invokestatic 101, 3, 68, 3, 983, 0), (25, .ifCond .ne 6, 3, 31, 0, 0, 0), (28, .ldc 166, 2, 0, 0, 986, (-1000000001)), (30, .ireturn, 1, 0, 0, 0, 0), (31, .aload_n 0, 1, 0, 0, 0, 0), (32, .getfield 16, 3, 6, 2, 881, 0), (35, .iload_n 1, 1, 0, 0, 0, 0), (36, .iaload, 1, 0, 0, 0, 0), (37, .iconst 1, 1, 0, 0, 0, 0), (38, .if_icmp .eq 6, 3, 44, 0, 0, 0), (41, .ldc 187, 2, 0, 0, 1061, (-1000000002)), (43, .ireturn, 1, 0, 0, 0, 0), (44, .aload_n 0, 1, 0, 0, 0, 0), (45, .getfield 28, 3, 6, 6, 885, 0), (48, .iload_n 1, 1, 0, 0, 0, 0), (49, .iaload, 1, 0, 0, 0, 0), (50, .istore 4, 2, 0, 0, 0, 0), (52, .aload_n 0, 1, 0, 0, 0, 0), (53, .iload 4, 2, 0, 0, 0, 0), (55, .aload_n 0, 1, 0, 0, 0, 0), (56, .iload 4, 2, 0, 0, 0, 0), (58, .iload_n 1, 1, 0, 0, 0, 0), (59, .invokevirtual 116, 3, 998, 3, 1030, 6), (62, .invokevirtual 119, 3, 998, 3, 1038, 6), (65, .istore 5, 2, 0, 0, 0, 0), (67, .iload 5, 2, 0, 0, 0, 0), (69, .ifCond .lt 40, 3, 109, 0, 0, 0), (72, .aload_n 0, 1, 0, 0, 0, 0)]
def zc_X6_share_1 : List zi_Row := [(73, .getfield 46, 3, 6, 14, 893, 0), (76, .iload 4, 2, 0, 0, 0, 0), (78, .iload 5, 2, 0, 0, 0, 0), (80, .invokestatic 105, 3, 70, 2, 991, 0), (83, .iaload, 1, 0, 0, 0, 0), (84, .iload_n 2, 1, 0, 0, 0, 0), (85, .ifCond .ne 7, 3, 92, 0, 0, 0), (88, .iconst 2, 1, 0, 0, 0, 0), (89, .goto 4, 3, 93, 0, 0, 0), (92, .iconst 3, 1, 0, 0, 0, 0), (93, .if_icmp .eq 16, 3, 109, 0, 0, 0), (96, .aload_n 0, 1, 0, 0, 0, 0), (97, .iload 4, 2, 0, 0, 0, 0), (99, .iload 5, 2, 0, 0, 0, 0), (101, .invokevirtual 119, 3, 998, 3, 1038, 6), (104, .istore 5, 2, 0, 0, 0, 0), (106, .goto (-39), 3, 67, 0, 0, 0), (109, .iload 5, 2, 0, 0, 0, 0), (111, .ifCond .ge 6, 3, 117, 0, 0, 0), (114, .ldc 187, 2, 0, 0, 1061, (-1000000002)), (116, .ireturn, 1, 0, 0, 0, 0), (117, .aload_n 0, 1, 0, 0, 0, 0), (118, .getfield 55, 3, 6, 17, 896, 0), (121, .iload 4, 2, 0, 0, 0, 0), (123, .iload 5, 2, 0, 0, 0, 0), (125, .invokestatic 105, 3, 70, 2, 991, 0), (128, .iaload, 1, 0, 0, 0, 0), (129, .istore 6, 2, 0, 0, 0, 0), (131, .aload_n 0, 1, 0, 0, 0, 0), (132, .getfield 55, 3, 6, 17, 896, 0), (135, .iload 4, 2, 0, 0, 0, 0), (137, .iload 5, 2, 0, 0, 0, 0), (139, .invokestatic 105, 3, 70, 2, 991, 0), (142, .iload_n 3, 1, 0, 0, 0, 0), (143, .iastore, 1, 0, 0, 0, 0), (144, .iload 6, 2, 0, 0, 0, 0), (146, .ireturn, 1, 0, 0, 0, 0)]
def zc_X6_share : List zi_Row := zc_X6_share_0 ++ (zc_X6_share_1)
def zc_X6_area_0 : List zi_Row := [(0, .aload_n 0, 1, 0, 0, 0, 0), (1, .iload_n 1, 1, 0, 0, 0, 0), (2, .invokevirtual 214, 3, 69, 2, 1086, 6), (5, .ifCond .eq 21, 3, 26, 0, 0, 0), (8, .iload_n 2, 1, 0, 0, 0, 0), (9, .iconst 0, 1, 0, 0, 0, 0), (10, .iconst 4, 1, 0, 0, 0, 0), (11, .invokestatic 101, 3, 68, 3, 983, 0), (14, .ifCond .eq 12, 3, 26, 0, 0, 0), (17, .aload_n 0, 1, 0, 0, 0, 0), (18, .iload_n 1, 1, 0, 0, 0, 0), (19, .iload_n 2, 1, 0, 0, 0, 0), (20, .invokevirtual 228, 3, 998, 3, 1119, 6), (23, .goto 5, 3, 28, 0, 0, 0), (26, .ldc 166, 2, 0, 0, 986, (-1000000001)), (28, .ireturn, 1, 0, 0, 0, 0)]
def zc_X6_area : List zi_Row := zc_X6_area_0
def zc_X6_about_0 : List zi_Row := [(0, .aload_n 0, 1, 0, 0, 0, 0), (1, .iload_n 1, 1, 0, 0, 0, 0), (2, .invokevirtual 214, 3, 69, 2, 1086, 6), (5, .ifCond .eq 13, 3, 18, 0, 0, 0), (8, .iload_n 2, 1, 0, 0, 0, 0), (9, .iconst 0, 1, 0, 0, 0, 0), (10, .bipush 6, 2, 0, 0, 0, 0), (12, .invokestatic 101, 3, 68, 3, 983, 0), (15, .ifCond .ne 6, 3, 21, 0, 0, 0), (18, .ldc 166, 2, 0, 0, 986, (-1000000001)), (20, .ireturn, 1, 0, 0, 0, 0), (21, .iload_n 2, 1, 0, 0, 0, 0), (22, .tableswitch 117 0 5 #[38, 45, 52, 59, 82, 104], 38, 0, 0, 0, 0), (60, .aload_n 0, 1, 0, 0, 0, 0), (61, .getfield 16, 3, 6, 2, 881, 0), (64, .iload_n 1, 1, 0, 0, 0, 0), (65, .iaload, 1, 0, 0, 0, 0), (66, .ireturn, 1, 0, 0, 0, 0), (67, .aload_n 0, 1, 0, 0, 0, 0), (68, .getfield 19, 3, 6, 3, 882, 0), (71, .iload_n 1, 1, 0, 0, 0, 0), (72, .iaload, 1, 0, 0, 0, 0), (73, .ireturn, 1, 0, 0, 0, 0), (74, .aload_n 0, 1, 0, 0, 0, 0), (75, .getfield 22, 3, 6, 4, 883, 0), (78, .iload_n 1, 1, 0, 0, 0, 0), (79, .iaload, 1, 0, 0, 0, 0), (80, .ireturn, 1, 0, 0, 0, 0), (81, .aload_n 0, 1, 0, 0, 0, 0), (82, .getfield 16, 3, 6, 2, 881, 0), (85, .iload_n 1, 1, 0, 0, 0, 0), (86, .iaload, 1, 0, 0, 0, 0), (87, .iconst 3, 1, 0, 0, 0, 0), (88, .if_icmp .ne 12, 3, 100, 0, 0, 0), (91, .aload_n 0, 1, 0, 0, 0, 0), (92, .getfield 25, 3, 6, 5, 884, 0), (95, .iload_n 1, 1, 0, 0, 0, 0), (96, .iaload, 1, 0, 0, 0, 0), (97, .goto 6, 3, 103, 0, 0, 0), (100, .ldc_w 263, 3, 0, 0, 1123, (-1000000005))]
def zc_X6_about_1 : List zi_Row := [(103, .ireturn, 1, 0, 0, 0, 0), (104, .aload_n 0, 1, 0, 0, 0, 0), (105, .iload_n 1, 1, 0, 0, 0, 0), (106, .invokevirtual 147, 3, 998, 2, 1124, 6), (109, .ifCond .ne 11, 3, 120, 0, 0, 0), (112, .aload_n 0, 1, 0, 0, 0, 0), (113, .iload_n 1, 1, 0, 0, 0, 0), (114, .invokevirtual 253, 3, 998, 2, 1172, 6), (117, .ifCond .eq 7, 3, 124, 0, 0, 0), (120, .iconst 1, 1, 0, 0, 0, 0), (121, .goto 4, 3, 125, 0, 0, 0), (124, .iconst 0, 1, 0, 0, 0, 0), (125, .ireturn, 1, 0, 0, 0, 0), (126, .aload_n 0, 1, 0, 0, 0, 0), (127, .getfield 40, 3, 6, 11, 890, 0), (130, .aload_n 0, 1, 0, 0, 0, 0), (131, .getfield 160, 3, 6, 12, 891, 0), (134, .iload_n 1, 1, 0, 0, 0, 0), (135, .invokestatic 264, 3, 998, 3, 1207, 0), (138, .ireturn, 1, 0, 0, 0, 0), (139, .aload_n 0, 1, 0, 0, 0, 0), (140, .getfield 37, 3, 6, 9, 888, 0), (143, .aload_n 0, 1, 0, 0, 0, 0), (144, .getfield 144, 3, 6, 10, 889, 0), (147, .iload_n 1, 1, 0, 0, 0, 0), (148, .invokestatic 264, 3, 998, 3, 1207, 0), (151, .ireturn, 1, 0, 0, 0, 0)]
def zc_X6_about : List zi_Row := zc_X6_about_0 ++ (zc_X6_about_1)
def zc_X6_isOf_0 : List zi_Row := [(0, .aload_n 0, 1, 0, 0, 0, 0), (1, .iload_n 1, 1, 0, 0, 0, 0), (2, .invokevirtual 214, 3, 69, 2, 1086, 6), (5, .ifCond .eq 12, 3, 17, 0, 0, 0), (8, .iload_n 2, 1, 0, 0, 0, 0), (9, .iconst 0, 1, 0, 0, 0, 0), (10, .iconst 4, 1, 0, 0, 0, 0), (11, .invokestatic 101, 3, 68, 3, 983, 0), (14, .ifCond .ne 6, 3, 20, 0, 0, 0), (17, .ldc 166, 2, 0, 0, 986, (-1000000001)), (19, .ireturn, 1, 0, 0, 0, 0), (20, .iload_n 2, 1, 0, 0, 0, 0), (21, .ifCond .eq 26, 3, 47, 0, 0, 0), (24, .aload_n 0, 1, 0, 0, 0, 0), (25, .getfield 16, 3, 6, 2, 881, 0), (28, .iload_n 1, 1, 0, 0, 0, 0), (29, .iaload, 1, 0, 0, 0, 0), (30, .iload_n 2, 1, 0, 0, 0, 0), (31, .if_icmp .eq 16, 3, 47, 0, 0, 0), (34, .iload_n 2, 1, 0, 0, 0, 0), (35, .iconst 2, 1, 0, 0, 0, 0), (36, .if_icmp .ne 15, 3, 51, 0, 0, 0), (39, .aload_n 0, 1, 0, 0, 0, 0), (40, .iload_n 1, 1, 0, 0, 0, 0), (41, .invokevirtual 147, 3, 998, 2, 1124, 6), (44, .ifCond .eq 7, 3, 51, 0, 0, 0), (47, .iconst 1, 1, 0, 0, 0, 0), (48, .goto 4, 3, 52, 0, 0, 0), (51, .iconst 0, 1, 0, 0, 0, 0), (52, .ireturn, 1, 0, 0, 0, 0)]
def zc_X6_isOf : List zi_Row := zc_X6_isOf_0
def zc_X6_at_0 : List zi_Row := [(0, .iload_n 1, 1, 0, 0, 0, 0), (1, .iconst 0, 1, 0, 0, 0, 0), (2, .iconst 2, 1, 0, 0, 0, 0), (3, .invokestatic 101, 3, 68, 3, 983, 0), (6, .ifCond .ne 6, 3, 12, 0, 0, 0), (9, .ldc 166, 2, 0, 0, 986, (-1000000001)), (11, .ireturn, 1, 0, 0, 0, 0), (12, .aload_n 0, 1, 0, 0, 0, 0), (13, .getfield 7, 3, 6, 0, 879, 0), (16, .iload_n 1, 1, 0, 0, 0, 0), (17, .iaload, 1, 0, 0, 0, 0), (18, .ifCond .ne 6, 3, 24, 0, 0, 0), (21, .ldc 187, 2, 0, 0, 1061, (-1000000002)), (23, .ireturn, 1, 0, 0, 0, 0), (24, .iload_n 2, 1, 0, 0, 0, 0), (25, .iconst 0, 1, 0, 0, 0, 0), (26, .aload_n 0, 1, 0, 0, 0, 0), (27, .getfield 7, 3, 6, 0, 879, 0), (30, .iload_n 1, 1, 0, 0, 0, 0), (31, .iaload, 1, 0, 0, 0, 0), (32, .iconst 1, 1, 0, 0, 0, 0), (33, .isub, 1, 0, 0, 0, 0), (34, .invokestatic 101, 3, 68, 3, 983, 0), (37, .ifCond .eq 19, 3, 56, 0, 0, 0), (40, .iload_n 3, 1, 0, 0, 0, 0), (41, .iconst 0, 1, 0, 0, 0, 0), (42, .aload_n 0, 1, 0, 0, 0, 0), (43, .getfield 13, 3, 6, 1, 880, 0), (46, .iload_n 1, 1, 0, 0, 0, 0), (47, .iaload, 1, 0, 0, 0, 0), (48, .iconst 1, 1, 0, 0, 0, 0), (49, .isub, 1, 0, 0, 0, 0), (50, .invokestatic 101, 3, 68, 3, 983, 0), (53, .ifCond .ne 6, 3, 59, 0, 0, 0), (56, .ldc 166, 2, 0, 0, 986, (-1000000001)), (58, .ireturn, 1, 0, 0, 0, 0), (59, .aload_n 0, 1, 0, 0, 0, 0), (60, .getfield 144, 3, 6, 10, 889, 0), (63, .iconst 1, 1, 0, 0, 0, 0), (64, .isub, 1, 0, 0, 0, 0)]
def zc_X6_at_1 : List zi_Row := [(65, .istore 4, 2, 0, 0, 0, 0), (67, .iload 4, 2, 0, 0, 0, 0), (69, .ifCond .lt 34, 3, 103, 0, 0, 0), (72, .aload_n 0, 1, 0, 0, 0, 0), (73, .aload_n 0, 1, 0, 0, 0, 0), (74, .getfield 37, 3, 6, 9, 888, 0), (77, .iload 4, 2, 0, 0, 0, 0), (79, .iaload, 1, 0, 0, 0, 0), (80, .iload_n 1, 1, 0, 0, 0, 0), (81, .iload_n 2, 1, 0, 0, 0, 0), (82, .iload_n 3, 1, 0, 0, 0, 0), (83, .invokevirtual 268, 3, 998, 5, 1218, 6), (86, .ifCond .eq 11, 3, 97, 0, 0, 0), (89, .aload_n 0, 1, 0, 0, 0, 0), (90, .getfield 37, 3, 6, 9, 888, 0), (93, .iload 4, 2, 0, 0, 0, 0), (95, .iaload, 1, 0, 0, 0, 0), (96, .ireturn, 1, 0, 0, 0, 0), (97, .iinc 4 (-1), 3, 0, 0, 0, 0), (100, .goto (-33), 3, 67, 0, 0, 0), (103, .aload_n 0, 1, 0, 0, 0, 0), (104, .iload_n 1, 1, 0, 0, 0, 0), (105, .invokevirtual 240, 3, 998, 2, 1107, 6), (108, .iconst 0, 1, 0, 0, 0, 0), (109, .istore 4, 2, 0, 0, 0, 0), (111, .iload 4, 2, 0, 0, 0, 0), (113, .aload_n 0, 1, 0, 0, 0, 0), (114, .getfield 133, 3, 6, 30, 909, 0), (117, .if_icmp .ge 90, 3, 207, 0, 0, 0), (120, .aload_n 0, 1, 0, 0, 0, 0), (121, .getfield 92, 3, 6, 29, 908, 0), (124, .iload 4, 2, 0, 0, 0, 0), (126, .iaload, 1, 0, 0, 0, 0), (127, .istore 5, 2, 0, 0, 0, 0), (129, .iload_n 2, 1, 0, 0, 0, 0), (130, .aload_n 0, 1, 0, 0, 0, 0), (131, .getfield 80, 3, 6, 25, 904, 0), (134, .iload 5, 2, 0, 0, 0, 0), (136, .iaload, 1, 0, 0, 0, 0), (137, .if_icmp .lt 64, 3, 201, 0, 0, 0)]
def zc_X6_at_2 : List zi_Row := [(140, .iload_n 2, 1, 0, 0, 0, 0), (141, .aload_n 0, 1, 0, 0, 0, 0), (142, .getfield 80, 3, 6, 25, 904, 0), (145, .iload 5, 2, 0, 0, 0, 0), (147, .iaload, 1, 0, 0, 0, 0), (148, .aload_n 0, 1, 0, 0, 0, 0), (149, .getfield 86, 3, 6, 27, 906, 0), (152, .iload 5, 2, 0, 0, 0, 0), (154, .iaload, 1, 0, 0, 0, 0), (155, .iadd, 1, 0, 0, 0, 0), (156, .if_icmp .ge 45, 3, 201, 0, 0, 0), (159, .iload_n 3, 1, 0, 0, 0, 0), (160, .aload_n 0, 1, 0, 0, 0, 0), (161, .getfield 83, 3, 6, 26, 905, 0), (164, .iload 5, 2, 0, 0, 0, 0), (166, .iaload, 1, 0, 0, 0, 0), (167, .if_icmp .lt 34, 3, 201, 0, 0, 0), (170, .iload_n 3, 1, 0, 0, 0, 0), (171, .aload_n 0, 1, 0, 0, 0, 0), (172, .getfield 83, 3, 6, 26, 905, 0), (175, .iload 5, 2, 0, 0, 0, 0), (177, .iaload, 1, 0, 0, 0, 0), (178, .aload_n 0, 1, 0, 0, 0, 0), (179, .getfield 89, 3, 6, 28, 907, 0), (182, .iload 5, 2, 0, 0, 0, 0), (184, .iaload, 1, 0, 0, 0, 0), (185, .iadd, 1, 0, 0, 0, 0), (186, .if_icmp .ge 15, 3, 201, 0, 0, 0), (189, .aload_n 0, 1, 0, 0, 0, 0), (190, .getfield 64, 3, 6, 20, 899, 0), (193, .iload_n 1, 1, 0, 0, 0, 0), (194, .iload 5, 2, 0, 0, 0, 0), (196, .invokestatic 105, 3, 70, 2, 991, 0), (199, .iaload, 1, 0, 0, 0, 0), (200, .ireturn, 1, 0, 0, 0, 0), (201, .iinc 4 1, 3, 0, 0, 0, 0), (204, .goto (-93), 3, 111, 0, 0, 0), (207, .ldc_w 263, 3, 0, 0, 1123, (-1000000005)), (210, .ireturn, 1, 0, 0, 0, 0)]
def zc_X6_at : List zi_Row := zc_X6_at_0 ++ (zc_X6_at_1 ++ (zc_X6_at_2))
def zc_X6_neighbour_0 : List zi_Row := [(0, .aload_n 0, 1, 0, 0, 0, 0), (1, .iload_n 1, 1, 0, 0, 0, 0), (2, .invokevirtual 214, 3, 69, 2, 1086, 6), (5, .ifCond .eq 12, 3, 17, 0, 0, 0), (8, .iload_n 2, 1, 0, 0, 0, 0), (9, .iconst 0, 1, 0, 0, 0, 0), (10, .iconst 3, 1, 0, 0, 0, 0), (11, .invokestatic 101, 3, 68, 3, 983, 0), (14, .ifCond .ne 6, 3, 20, 0, 0, 0), (17, .ldc 166, 2, 0, 0, 986, (-1000000001)), (19, .ireturn, 1, 0, 0, 0, 0), (20, .aload_n 0, 1, 0, 0, 0, 0), (21, .iload_n 1, 1, 0, 0, 0, 0), (22, .invokevirtual 253, 3, 998, 2, 1172, 6), (25, .ifCond .ne 6, 3, 31, 0, 0, 0), (28, .ldc 187, 2, 0, 0, 1061, (-1000000002)), (30, .ireturn, 1, 0, 0, 0, 0), (31, .aload_n 0, 1, 0, 0, 0, 0), (32, .iload_n 1, 1, 0, 0, 0, 0), (33, .iload_n 2, 1, 0, 0, 0, 0), (34, .invokevirtual 260, 3, 998, 3, 1176, 6), (37, .istore_n 3, 1, 0, 0, 0, 0), (38, .iload_n 3, 1, 0, 0, 0, 0), (39, .ifCond .ge 9, 3, 48, 0, 0, 0), (42, .ldc_w 263, 3, 0, 0, 1123, (-1000000005)), (45, .goto 4, 3, 49, 0, 0, 0), (48, .iload_n 3, 1, 0, 0, 0, 0), (49, .ireturn, 1, 0, 0, 0, 0)]
def zc_X6_neighbour : List zi_Row := zc_X6_neighbour_0
def zc_X6_told_0 : List zi_Row := [(0, .iload_n 1, 1, 0, 0, 0, 0), (1, .iconst 0, 1, 0, 0, 0, 0), (2, .iconst 2, 1, 0, 0, 0, 0), (3, .invokestatic 101, 3, 68, 3, 983, 0), (6, .ifCond .eq 13, 3, 19, 0, 0, 0), (9, .iload_n 2, 1, 0, 0, 0, 0), (10, .iconst 0, 1, 0, 0, 0, 0), (11, .bipush 6, 2, 0, 0, 0, 0), (13, .invokestatic 101, 3, 68, 3, 983, 0), (16, .ifCond .ne 6, 3, 22, 0, 0, 0), (19, .ldc 166, 2, 0, 0, 986, (-1000000001)), (21, .ireturn, 1, 0, 0, 0, 0), (22, .aload_n 0, 1, 0, 0, 0, 0), (23, .getfield 7, 3, 6, 0, 879, 0), (26, .iload_n 1, 1, 0, 0, 0, 0), (27, .iaload, 1, 0, 0, 0, 0), (28, .ifCond .ne 6, 3, 34, 0, 0, 0), (31, .ldc 187, 2, 0, 0, 1061, (-1000000002)), (33, .ireturn, 1, 0, 0, 0, 0), (34, .aload_n 0, 1, 0, 0, 0, 0), (35, .iload_n 1, 1, 0, 0, 0, 0), (36, .invokevirtual 194, 3, 998, 2, 1018, 6), (39, .iconst 0, 1, 0, 0, 0, 0), (40, .istore_n 3, 1, 0, 0, 0, 0), (41, .iload_n 2, 1, 0, 0, 0, 0), (42, .tableswitch 127 0 5 #[38, 45, 52, 57, 75, 101], 38, 0, 0, 0, 0), (80, .aload_n 0, 1, 0, 0, 0, 0), (81, .getfield 7, 3, 6, 0, 879, 0), (84, .iload_n 1, 1, 0, 0, 0, 0), (85, .iaload, 1, 0, 0, 0, 0), (86, .ireturn, 1, 0, 0, 0, 0), (87, .aload_n 0, 1, 0, 0, 0, 0), (88, .getfield 13, 3, 6, 1, 880, 0), (91, .iload_n 1, 1, 0, 0, 0, 0), (92, .iaload, 1, 0, 0, 0, 0), (93, .ireturn, 1, 0, 0, 0, 0), (94, .aload_n 0, 1, 0, 0, 0, 0), (95, .getfield 133, 3, 6, 30, 909, 0), (98, .ireturn, 1, 0, 0, 0, 0), (99, .aload_n 0, 1, 0, 0, 0, 0)]
def zc_X6_told_1 : List zi_Row := [(100, .getfield 133, 3, 6, 30, 909, 0), (103, .ifCond .le 12, 3, 115, 0, 0, 0), (106, .aload_n 0, 1, 0, 0, 0, 0), (107, .getfield 133, 3, 6, 30, 909, 0), (110, .iconst 1, 1, 0, 0, 0, 0), (111, .isub, 1, 0, 0, 0, 0), (112, .goto 4, 3, 116, 0, 0, 0), (115, .iconst 0, 1, 0, 0, 0, 0), (116, .ireturn, 1, 0, 0, 0, 0), (117, .aload_n 0, 1, 0, 0, 0, 0), (118, .getfield 43, 3, 6, 13, 892, 0), (121, .iload_n 1, 1, 0, 0, 0, 0), (122, .iaload, 1, 0, 0, 0, 0), (123, .ifCond .ge 7, 3, 130, 0, 0, 0), (126, .iconst 0, 1, 0, 0, 0, 0), (127, .goto 15, 3, 142, 0, 0, 0), (130, .aload_n 0, 1, 0, 0, 0, 0), (131, .iload_n 1, 1, 0, 0, 0, 0), (132, .aload_n 0, 1, 0, 0, 0, 0), (133, .getfield 43, 3, 6, 13, 892, 0), (136, .iload_n 1, 1, 0, 0, 0, 0), (137, .iaload, 1, 0, 0, 0, 0), (138, .iconst 1, 1, 0, 0, 0, 0), (139, .invokevirtual 129, 3, 998, 4, 1006, 6), (142, .ireturn, 1, 0, 0, 0, 0), (143, .aload_n 0, 1, 0, 0, 0, 0), (144, .getfield 43, 3, 6, 13, 892, 0), (147, .iload_n 1, 1, 0, 0, 0, 0), (148, .iaload, 1, 0, 0, 0, 0), (149, .ifCond .ge 7, 3, 156, 0, 0, 0), (152, .iconst 0, 1, 0, 0, 0, 0), (153, .goto 15, 3, 168, 0, 0, 0), (156, .aload_n 0, 1, 0, 0, 0, 0), (157, .iload_n 1, 1, 0, 0, 0, 0), (158, .aload_n 0, 1, 0, 0, 0, 0), (159, .getfield 43, 3, 6, 13, 892, 0), (162, .iload_n 1, 1, 0, 0, 0, 0), (163, .iaload, 1, 0, 0, 0, 0), (164, .iconst 0, 1, 0, 0, 0, 0), (165, .invokevirtual 129, 3, 998, 4, 1006, 6)]
def zc_X6_told_2 : List zi_Row := [(168, .ireturn, 1, 0, 0, 0, 0), (169, .iconst 0, 1, 0, 0, 0, 0), (170, .istore 4, 2, 0, 0, 0, 0), (172, .iload 4, 2, 0, 0, 0, 0), (174, .bipush 10, 2, 0, 0, 0, 0), (176, .if_icmp .ge 27, 3, 203, 0, 0, 0), (179, .iload_n 3, 1, 0, 0, 0, 0), (180, .aload_n 0, 1, 0, 0, 0, 0), (181, .iload 4, 2, 0, 0, 0, 0), (183, .iload_n 1, 1, 0, 0, 0, 0), (184, .invokevirtual 180, 3, 998, 3, 1057, 6), (187, .ifCond .eq 7, 3, 194, 0, 0, 0), (190, .iconst 1, 1, 0, 0, 0, 0), (191, .goto 4, 3, 195, 0, 0, 0), (194, .iconst 0, 1, 0, 0, 0, 0), (195, .iadd, 1, 0, 0, 0, 0), (196, .istore_n 3, 1, 0, 0, 0, 0), (197, .iinc 4 1, 3, 0, 0, 0, 0), (200, .goto (-28), 3, 172, 0, 0, 0), (203, .iload_n 3, 1, 0, 0, 0, 0), (204, .ireturn, 1, 0, 0, 0, 0)]
def zc_X6_told : List zi_Row := zc_X6_told_0 ++ (zc_X6_told_1 ++ (zc_X6_told_2))
def zc_X6_tab_0 : List zi_Row := [(0, .iload_n 1, 1, 0, 0, 0, 0), (1, .iconst 0, 1, 0, 0, 0, 0), (2, .iconst 2, 1, 0, 0, 0, 0), (3, .invokestatic 101, 3, 68, 3, 983, 0), (6, .ifCond .eq 13, 3, 19, 0, 0, 0), (9, .iload_n 2, 1, 0, 0, 0, 0), (10, .ifCond .lt 9, 3, 19, 0, 0, 0), (13, .iload_n 3, 1, 0, 0, 0, 0), (14, .bipush (-2), 2, 0, 0, 0, 0), (16, .if_icmp .ge 6, 3, 22, 0, 0, 0), (19, .ldc 166, 2, 0, 0, 986, (-1000000001)), (21, .ireturn, 1, 0, 0, 0, 0), (22, .aload_n 0, 1, 0, 0, 0, 0), (23, .getfield 7, 3, 6, 0, 879, 0), (26, .iload_n 1, 1, 0, 0, 0, 0), (27, .iaload, 1, 0, 0, 0, 0), (28, .ifCond .ne 6, 3, 34, 0, 0, 0), (31, .ldc 187, 2, 0, 0, 1061, (-1000000002)), (33, .ireturn, 1, 0, 0, 0, 0), (34, .aload_n 0, 1, 0, 0, 0, 0), (35, .iload_n 1, 1, 0, 0, 0, 0), (36, .invokevirtual 194, 3, 998, 2, 1018, 6), (39, .iload_n 2, 1, 0, 0, 0, 0), (40, .aload_n 0, 1, 0, 0, 0, 0), (41, .getfield 133, 3, 6, 30, 909, 0), (44, .if_icmp .lt 7, 3, 51, 0, 0, 0), (47, .ldc_w 263, 3, 0, 0, 1123, (-1000000005)), (50, .ireturn, 1, 0, 0, 0, 0), (51, .iload_n 1, 1, 0, 0, 0, 0), (52, .aload_n 0, 1, 0, 0, 0, 0), (53, .getfield 92, 3, 6, 29, 908, 0), (56, .iload_n 2, 1, 0, 0, 0, 0), (57, .iaload, 1, 0, 0, 0, 0), (58, .invokestatic 105, 3, 70, 2, 991, 0), (61, .istore 4, 2, 0, 0, 0, 0), (63, .iload_n 3, 1, 0, 0, 0, 0), (64, .ifCond .ge 26, 3, 90, 0, 0, 0), (67, .iload_n 3, 1, 0, 0, 0, 0), (68, .iconst (-1), 1, 0, 0, 0, 0), (69, .if_icmp .ne 13, 3, 82, 0, 0, 0)]
def zc_X6_tab_1 : List zi_Row := [(72, .aload_n 0, 1, 0, 0, 0, 0), (73, .getfield 61, 3, 6, 19, 898, 0), (76, .iload 4, 2, 0, 0, 0, 0), (78, .iaload, 1, 0, 0, 0, 0), (79, .goto 10, 3, 89, 0, 0, 0), (82, .aload_n 0, 1, 0, 0, 0, 0), (83, .getfield 64, 3, 6, 20, 899, 0), (86, .iload 4, 2, 0, 0, 0, 0), (88, .iaload, 1, 0, 0, 0, 0), (89, .ireturn, 1, 0, 0, 0, 0), (90, .iload_n 3, 1, 0, 0, 0, 0), (91, .aload_n 0, 1, 0, 0, 0, 0), (92, .getfield 61, 3, 6, 19, 898, 0), (95, .iload 4, 2, 0, 0, 0, 0), (97, .iaload, 1, 0, 0, 0, 0), (98, .if_icmp .ge 18, 3, 116, 0, 0, 0), (101, .aload_n 0, 1, 0, 0, 0, 0), (102, .getfield 58, 3, 6, 18, 897, 0), (105, .bipush 10, 2, 0, 0, 0, 0), (107, .iload 4, 2, 0, 0, 0, 0), (109, .imul, 1, 0, 0, 0, 0), (110, .iload_n 3, 1, 0, 0, 0, 0), (111, .iadd, 1, 0, 0, 0, 0), (112, .iaload, 1, 0, 0, 0, 0), (113, .goto 6, 3, 119, 0, 0, 0), (116, .ldc_w 263, 3, 0, 0, 1123, (-1000000005)), (119, .ireturn, 1, 0, 0, 0, 0)]
def zc_X6_tab : List zi_Row := zc_X6_tab_0 ++ (zc_X6_tab_1)
def zc_X6_count_0 : List zi_Row := [(0, .iconst 0, 1, 0, 0, 0, 0), (1, .istore_n 2, 1, 0, 0, 0, 0), (2, .iload_n 1, 1, 0, 0, 0, 0), (3, .tableswitch 165 0 5 #[37, 69, 74, 108, 113, 133], 37, 0, 0, 0, 0), (40, .iconst 0, 1, 0, 0, 0, 0), (41, .istore_n 3, 1, 0, 0, 0, 0), (42, .iload_n 3, 1, 0, 0, 0, 0), (43, .iconst 3, 1, 0, 0, 0, 0), (44, .if_icmp .ge 26, 3, 70, 0, 0, 0), (47, .iload_n 2, 1, 0, 0, 0, 0), (48, .aload_n 0, 1, 0, 0, 0, 0), (49, .getfield 7, 3, 6, 0, 879, 0), (52, .iload_n 3, 1, 0, 0, 0, 0), (53, .iaload, 1, 0, 0, 0, 0), (54, .ifCond .le 7, 3, 61, 0, 0, 0), (57, .iconst 1, 1, 0, 0, 0, 0), (58, .goto 4, 3, 62, 0, 0, 0), (61, .iconst 0, 1, 0, 0, 0, 0), (62, .iadd, 1, 0, 0, 0, 0), (63, .istore_n 2, 1, 0, 0, 0, 0), (64, .iinc 3 1, 3, 0, 0, 0, 0), (67, .goto (-25), 3, 42, 0, 0, 0), (70, .iload_n 2, 1, 0, 0, 0, 0), (71, .ireturn, 1, 0, 0, 0, 0), (72, .aload_n 0, 1, 0, 0, 0, 0), (73, .getfield 160, 3, 6, 12, 891, 0), (76, .ireturn, 1, 0, 0, 0, 0), (77, .iconst 0, 1, 0, 0, 0, 0), (78, .istore_n 3, 1, 0, 0, 0, 0), (79, .iload_n 3, 1, 0, 0, 0, 0), (80, .bipush 10, 2, 0, 0, 0, 0), (82, .if_icmp .ge 27, 3, 109, 0, 0, 0), (85, .iload_n 2, 1, 0, 0, 0, 0), (86, .aload_n 0, 1, 0, 0, 0, 0), (87, .getfield 16, 3, 6, 2, 881, 0), (90, .iload_n 3, 1, 0, 0, 0, 0), (91, .iaload, 1, 0, 0, 0, 0), (92, .iconst 1, 1, 0, 0, 0, 0), (93, .if_icmp .ne 7, 3, 100, 0, 0, 0), (96, .iconst 1, 1, 0, 0, 0, 0)]
def zc_X6_count_1 : List zi_Row := [(97, .goto 4, 3, 101, 0, 0, 0), (100, .iconst 0, 1, 0, 0, 0, 0), (101, .iadd, 1, 0, 0, 0, 0), (102, .istore_n 2, 1, 0, 0, 0, 0), (103, .iinc 3 1, 3, 0, 0, 0, 0), (106, .goto (-27), 3, 79, 0, 0, 0), (109, .iload_n 2, 1, 0, 0, 0, 0), (110, .ireturn, 1, 0, 0, 0, 0), (111, .aload_n 0, 1, 0, 0, 0, 0), (112, .getfield 144, 3, 6, 10, 889, 0), (115, .ireturn, 1, 0, 0, 0, 0), (116, .aload_n 0, 1, 0, 0, 0, 0), (117, .getfield 160, 3, 6, 12, 891, 0), (120, .ifCond .le 12, 3, 132, 0, 0, 0), (123, .aload_n 0, 1, 0, 0, 0, 0), (124, .getfield 40, 3, 6, 11, 890, 0), (127, .iconst 0, 1, 0, 0, 0, 0), (128, .iaload, 1, 0, 0, 0, 0), (129, .goto 6, 3, 135, 0, 0, 0), (132, .ldc_w 263, 3, 0, 0, 1123, (-1000000005)), (135, .ireturn, 1, 0, 0, 0, 0), (136, .iconst 0, 1, 0, 0, 0, 0), (137, .istore_n 3, 1, 0, 0, 0, 0), (138, .iload_n 3, 1, 0, 0, 0, 0), (139, .iconst 3, 1, 0, 0, 0, 0), (140, .if_icmp .ge 26, 3, 166, 0, 0, 0), (143, .iload_n 2, 1, 0, 0, 0, 0), (144, .aload_n 0, 1, 0, 0, 0, 0), (145, .getfield 67, 3, 6, 21, 900, 0), (148, .iload_n 3, 1, 0, 0, 0, 0), (149, .baload, 1, 0, 0, 0, 0), (150, .ifCond .eq 7, 3, 157, 0, 0, 0), (153, .iconst 1, 1, 0, 0, 0, 0), (154, .goto 4, 3, 158, 0, 0, 0), (157, .iconst 0, 1, 0, 0, 0, 0), (158, .iadd, 1, 0, 0, 0, 0), (159, .istore_n 2, 1, 0, 0, 0, 0), (160, .iinc 3 1, 3, 0, 0, 0, 0), (163, .goto (-25), 3, 138, 0, 0, 0), (166, .iload_n 2, 1, 0, 0, 0, 0)]
def zc_X6_count_2 : List zi_Row := [(167, .ireturn, 1, 0, 0, 0, 0), (168, .ldc 166, 2, 0, 0, 986, (-1000000001)), (170, .ireturn, 1, 0, 0, 0, 0)]
def zc_X6_count : List zi_Row := zc_X6_count_0 ++ (zc_X6_count_1 ++ (zc_X6_count_2))
def zc_X6_isIn_0 : List zi_Row := [(0, .iload_n 0, 1, 0, 0, 0, 0), (1, .iload_n 1, 1, 0, 0, 0, 0), (2, .if_icmp .lt 12, 3, 14, 0, 0, 0), (5, .iload_n 0, 1, 0, 0, 0, 0), (6, .iload_n 2, 1, 0, 0, 0, 0), (7, .if_icmp .gt 7, 3, 14, 0, 0, 0), (10, .iconst 1, 1, 0, 0, 0, 0), (11, .goto 4, 3, 15, 0, 0, 0), (14, .iconst 0, 1, 0, 0, 0, 0), (15, .ireturn, 1, 0, 0, 0, 0)]
def zc_X6_isIn : List zi_Row := zc_X6_isIn_0
def zc_X6_isWindow_0 : List zi_Row := [(0, .iload_n 1, 1, 0, 0, 0, 0), (1, .iconst 0, 1, 0, 0, 0, 0), (2, .bipush 9, 2, 0, 0, 0, 0), (4, .invokestatic 101, 3, 68, 3, 983, 0), (7, .ifCond .eq 16, 3, 23, 0, 0, 0), (10, .aload_n 0, 1, 0, 0, 0, 0), (11, .getfield 16, 3, 6, 2, 881, 0), (14, .iload_n 1, 1, 0, 0, 0, 0), (15, .iaload, 1, 0, 0, 0, 0), (16, .ifCond .le 7, 3, 23, 0, 0, 0), (19, .iconst 1, 1, 0, 0, 0, 0), (20, .goto 4, 3, 24, 0, 0, 0), (23, .iconst 0, 1, 0, 0, 0, 0), (24, .ireturn, 1, 0, 0, 0, 0)]
def zc_X6_isWindow : List zi_Row := zc_X6_isWindow_0
def zc_X6_spot_0 : List zi_Row := [(0, .bipush 24, 2, 0, 0, 0, 0), (2, .iload_n 0, 1, 0, 0, 0, 0), (3, .imul, 1, 0, 0, 0, 0), (4, .iload_n 1, 1, 0, 0, 0, 0), (5, .iadd, 1, 0, 0, 0, 0), (6, .ireturn, 1, 0, 0, 0, 0)]
def zc_X6_spot : List zi_Row := zc_X6_spot_0
def zc_X6_clearTree_0 : List zi_Row := [(0, .aload_n 0, 1, 0, 0, 0, 0), (1, .getfield 43, 3, 6, 13, 892, 0), (4, .iload_n 1, 1, 0, 0, 0, 0), (5, .iconst (-1), 1, 0, 0, 0, 0), (6, .iastore, 1, 0, 0, 0, 0), (7, .iconst 0, 1, 0, 0, 0, 0), (8, .istore_n 2, 1, 0, 0, 0, 0), (9, .iload_n 2, 1, 0, 0, 0, 0), (10, .bipush 24, 2, 0, 0, 0, 0), (12, .if_icmp .ge 20, 3, 32, 0, 0, 0), (15, .aload_n 0, 1, 0, 0, 0, 0), (16, .getfield 46, 3, 6, 14, 893, 0), (19, .iload_n 1, 1, 0, 0, 0, 0), (20, .iload_n 2, 1, 0, 0, 0, 0), (21, .invokestatic 105, 3, 70, 2, 991, 0), (24, .iconst 0, 1, 0, 0, 0, 0), (25, .iastore, 1, 0, 0, 0, 0), (26, .iinc 2 1, 3, 0, 0, 0, 0), (29, .goto (-20), 3, 9, 0, 0, 0), (32, .return_, 1, 0, 0, 0, 0)]
def zc_X6_clearTree : List zi_Row := zc_X6_clearTree_0
def zc_X6_screenAtHand_0 : List zi_Row := [(0, .iconst 0, 1, 0, 0, 0, 0), (1, .istore_n 1, 1, 0, 0, 0, 0), (2, .iload_n 1, 1, 0, 0, 0, 0), (3, .aload_n 0, 1, 0, 0, 0, 0), (4, .getfield 160, 3, 6, 12, 891, 0), (7, .if_icmp .ge 36, 3, 43, 0, 0, 0), (10, .aload_n 0, 1, 0, 0, 0, 0), (11, .getfield 16, 3, 6, 2, 881, 0), (14, .aload_n 0, 1, 0, 0, 0, 0), (15, .getfield 40, 3, 6, 11, 890, 0), (18, .iload_n 1, 1, 0, 0, 0, 0), (19, .iaload, 1, 0, 0, 0, 0), (20, .iaload, 1, 0, 0, 0, 0), (21, .iconst 4, 1, 0, 0, 0, 0), (22, .if_icmp .eq 15, 3, 37, 0, 0, 0), (25, .aload_n 0, 1, 0, 0, 0, 0), (26, .getfield 28, 3, 6, 6, 885, 0), (29, .aload_n 0, 1, 0, 0, 0, 0), (30, .getfield 40, 3, 6, 11, 890, 0), (33, .iload_n 1, 1, 0, 0, 0, 0), (34, .iaload, 1, 0, 0, 0, 0), (35, .iaload, 1, 0, 0, 0, 0), (36, .ireturn, 1, 0, 0, 0, 0), (37, .iinc 1 1, 3, 0, 0, 0, 0), (40, .goto (-38), 3, 2, 0, 0, 0), (43, .iconst 0, 1, 0, 0, 0, 0), (44, .istore_n 1, 1, 0, 0, 0, 0), (45, .iload_n 1, 1, 0, 0, 0, 0), (46, .iconst 3, 1, 0, 0, 0, 0), (47, .if_icmp .ge 20, 3, 67, 0, 0, 0), (50, .aload_n 0, 1, 0, 0, 0, 0), (51, .getfield 7, 3, 6, 0, 879, 0), (54, .iload_n 1, 1, 0, 0, 0, 0), (55, .iaload, 1, 0, 0, 0, 0), (56, .ifCond .le 5, 3, 61, 0, 0, 0), (59, .iload_n 1, 1, 0, 0, 0, 0), (60, .ireturn, 1, 0, 0, 0, 0), (61, .iinc 1 1, 3, 0, 0, 0, 0), (64, .goto (-19), 3, 45, 0, 0, 0), (67, .iconst (-1), 1, 0, 0, 0, 0)]
def zc_X6_screenAtHand_1 : List zi_Row := [(68, .ireturn, 1, 0, 0, 0, 0)]
def zc_X6_screenAtHand : List zi_Row := zc_X6_screenAtHand_0 ++ (zc_X6_screenAtHand_1)
def zc_X6_freeNumber_0 : List zi_Row := [(0, .iconst 0, 1, 0, 0, 0, 0), (1, .istore_n 1, 1, 0, 0, 0, 0), (2, .iload_n 1, 1, 0, 0, 0, 0), (3, .bipush 10, 2, 0, 0, 0, 0), (5, .if_icmp .ge 20, 3, 25, 0, 0, 0), (8, .aload_n 0, 1, 0, 0, 0, 0), (9, .getfield 16, 3, 6, 2, 881, 0), (12, .iload_n 1, 1, 0, 0, 0, 0), (13, .iaload, 1, 0, 0, 0, 0), (14, .ifCond .ne 5, 3, 19, 0, 0, 0), (17, .iload_n 1, 1, 0, 0, 0, 0), (18, .ireturn, 1, 0, 0, 0, 0), (19, .iinc 1 1, 3, 0, 0, 0, 0), (22, .goto (-20), 3, 2, 0, 0, 0), (25, .iconst (-1), 1, 0, 0, 0, 0), (26, .ireturn, 1, 0, 0, 0, 0)]
def zc_X6_freeNumber : List zi_Row := zc_X6_freeNumber_0
def zi_ms : List zi_Me := [(yX5_init, cX5_init, 2, none, zc_X5_init, 400, 8000), (yX1_init, cX1_init, 1, none, zc_X1_init, 1, 10), (yX3_init, cX3_init, 1, none, zc_X3_init, 30, 600), (yX4_init, cX4_init, 1, none, zc_X4_init, 2, 4), (yX2_init, cX2_init, 1, none, zc_X2_init, 80, 1600), (yX0_init, cX0_init, 1, none, zc_X0_init, 40, 800), (yX6_init, cX6_init, 2, none, zc_X6_init, 40, 4000), (yX1_clear, cX1_clear, 1, none, zc_X1_clear, 0, 0), (yX3_clear, cX3_clear, 1, none, zc_X3_clear, 0, 0), (yJ7_fill_53178, cJ7_fill_53178, 4, none, zc_J7_fill_53178, 0, 0), (yX5_screen, cX5_screen, 6, (some FieldType.int), zc_X5_screen, 0, 0), (yX5_gone, cX5_gone, 5, (some FieldType.int), zc_X5_gone, 0, 0), (yX5_open, cX5_open, 8, (some FieldType.int), zc_X5_open, 0, 0), (yX5_close, cX5_close, 4, (some FieldType.int), zc_X5_close, 0, 0), (yX5_focus, cX5_focus, 3, (some FieldType.int), zc_X5_focus, 0, 0), (yX5_back, cX5_back, 2, (some FieldType.int), zc_X5_back, 0, 0), (yX5_toward, cX5_toward, 4, (some FieldType.int), zc_X5_toward, 0, 0), (yX5_steps, cX5_steps, 4, (some FieldType.int), zc_X5_steps, 0, 0), (yX5_drag, cX5_drag, 6, (some FieldType.int), zc_X5_drag, 0, 0), (yX5_move, cX5_move, 5, (some FieldType.int), zc_X5_move, 0, 0), (yX5_share, cX5_share, 6, (some FieldType.int), zc_X5_share, 0, 0), (yX5_area, cX5_area, 3, (some FieldType.int), zc_X5_area, 0, 0), (yX5_about, cX5_about, 4, (some FieldType.int), zc_X5_about, 0, 0), (yX5_isOf, cX5_isOf, 3, (some FieldType.int), zc_X5_isOf, 0, 0), (yX5_at, cX5_at, 6, (some FieldType.int), zc_X5_at, 0, 0), (yX5_neighbour, cX5_neighbour, 3, (some FieldType.int), zc_X5_neighbour, 0, 0), (yX5_told, cX5_told, 4, (some FieldType.int), zc_X5_told, 0, 0), (yX5_tab, cX5_tab, 6, (some FieldType.int), zc_X5_tab, 0, 0), (yX5_count, cX5_count, 2, (some FieldType.int), zc_X5_count, 0, 0), (yX5_isScreen, cX5_isScreen, 1, (some FieldType.boolean), zc_X5_isScreen, 0, 0), (yX5_isScreenSize, cX5_isScreenSize, 1, (some FieldType.boolean), zc_X5_isScreenSize, 0, 0), (yX5_isWindowSize, cX5_isWindowSize, 1, (some FieldType.boolean), zc_X5_isWindowSize, 0, 0), (yX5_isSide, cX5_isSide, 1, (some FieldType.boolean), zc_X5_isSide, 0, 0), (yX5_isAxis, cX5_isAxis, 1, (some FieldType.boolean), zc_X5_isAxis, 0, 0), (yX5_isPlace, cX5_isPlace, 1, (some FieldType.boolean), zc_X5_isPlace, 0, 0), (yX5_isWindow, cX5_isWindow, 2, (some FieldType.boolean), zc_X5_isWindow, 0, 0), (yX5_isShownTile, cX5_isShownTile, 2, (some FieldType.boolean), zc_X5_isShownTile, 0, 0), (yX5_leastScreenBut, cX5_leastScreenBut, 3, (some FieldType.int), zc_X5_leastScreenBut, 0, 0), (yX5_screenAtHand, cX5_screenAtHand, 3, (some FieldType.int), zc_X5_screenAtHand, 0, 0), (yX5_screensThere, cX5_screensThere, 3, (some FieldType.int), zc_X5_screensThere, 0, 0), (yX5_screensWithKept, cX5_screensWithKept, 3, (some FieldType.int), zc_X5_screensWithKept, 0, 0), (yX5_windowsUnder, cX5_windowsUnder, 4, (some FieldType.int), zc_X5_windowsUnder, 0, 0), (yX5_leastFreeNumber, cX5_leastFreeNumber, 2, (some FieldType.int), zc_X5_leastFreeNumber, 0, 0), (yX5_bringBack, cX5_bringBack, 5, (some FieldType.int), zc_X5_bringBack, 0, 0), (yX1_size, cX1_size, 1, (some FieldType.int), zc_X1_size, 0, 0), (yX1_get, cX1_get, 2, (some FieldType.int), zc_X1_get, 0, 0), (yX2_setSize, cX2_setSize, 2, none, zc_X2_setSize, 0, 0), (yX0_forget, cX0_forget, 1, none, zc_X0_forget, 0, 0), (yX4_fallsUnder, cX4_fallsUnder, 3, (some FieldType.boolean), zc_X4_fallsUnder, 0, 0), (yX6_screen, cX6_screen, 6, (some FieldType.int), zc_X6_screen, 0, 0), (yX6_gone, cX6_gone, 7, (some FieldType.int), zc_X6_gone, 0, 0), (yX6_open, cX6_open, 10, (some FieldType.int), zc_X6_open, 0, 0), (yX6_close, cX6_close, 2, (some FieldType.int), zc_X6_close, 0, 0), (yX6_focus, cX6_focus, 3, (some FieldType.int), zc_X6_focus, 0, 0), (yX6_back, cX6_back, 2, (some FieldType.int), zc_X6_back, 0, 0), (yX6_toward, cX6_toward, 3, (some FieldType.int), zc_X6_toward, 0, 0), (yX6_steps, cX6_steps, 7, (some FieldType.int), zc_X6_steps, 0, 0), (yX6_drag, cX6_drag, 9, (some FieldType.int), zc_X6_drag, 0, 0), (yX6_move, cX6_move, 4, (some FieldType.int), zc_X6_move, 0, 0), (yX6_share, cX6_share, 7, (some FieldType.int), zc_X6_share, 0, 0), (yX6_area, cX6_area, 3, (some FieldType.int), zc_X6_area, 0, 0), (yX6_about, cX6_about, 3, (some FieldType.int), zc_X6_about, 0, 0), (yX6_isOf, cX6_isOf, 3, (some FieldType.int), zc_X6_isOf, 0, 0), (yX6_at, cX6_at, 6, (some FieldType.int), zc_X6_at, 0, 0), (yX6_neighbour, cX6_neighbour, 4, (some FieldType.int), zc_X6_neighbour, 0, 0), (yX6_told, cX6_told, 5, (some FieldType.int), zc_X6_told, 0, 0), (yX6_tab, cX6_tab, 5, (some FieldType.int), zc_X6_tab, 0, 0), (yX6_count, cX6_count, 4, (some FieldType.int), zc_X6_count, 0, 0), (yX6_isIn, cX6_isIn, 3, (some FieldType.boolean), zc_X6_isIn, 0, 0), (yX6_isWindow, cX6_isWindow, 2, (some FieldType.boolean), zc_X6_isWindow, 0, 0), (yX6_spot, cX6_spot, 2, (some FieldType.int), zc_X6_spot, 0, 0), (yX6_clearTree, cX6_clearTree, 3, none, zc_X6_clearTree, 0, 0), (yX6_screenAtHand, cX6_screenAtHand, 2, (some FieldType.int), zc_X6_screenAtHand, 0, 0), (yX6_freeNumber, cX6_freeNumber, 2, (some FieldType.int), zc_X6_freeNumber, 0, 0)]
/-- the places in lw_tbl: code, initialized, instanceMethod or static, selects; 0 static, 1 instance, 2 constructor -/
def zi_mt : List (Nat × Nat × Nat × Nat × Nat) := [(110, 96, 109, 0, 2), (122, 97, 121, 0, 2), (136, 98, 135, 0, 2), (205, 100, 204, 0, 2), (236, 101, 235, 0, 2), (244, 102, 243, 0, 2), (877, 103, 876, 0, 2), (149, 97, 147, 148, 1), (145, 98, 143, 144, 1), (152, 99, 151, 0, 0), (313, 96, 311, 312, 1), (498, 96, 496, 497, 1), (556, 96, 554, 555, 1), (685, 96, 683, 684, 1), (698, 96, 696, 697, 1), (702, 96, 700, 701, 1), (706, 96, 704, 705, 1), (747, 96, 745, 746, 1), (759, 96, 757, 758, 1), (769, 96, 767, 768, 1), (777, 96, 775, 776, 1), (792, 96, 790, 791, 1), (796, 96, 794, 795, 1), (801, 96, 799, 800, 1), (809, 96, 807, 808, 1), (832, 96, 830, 831, 1), (836, 96, 834, 835, 1), (850, 96, 848, 849, 1), (860, 96, 858, 859, 1), (316, 96, 315, 0, 0), (319, 96, 318, 0, 0), (559, 96, 558, 0, 0), (709, 96, 708, 0, 0), (780, 96, 779, 0, 0), (772, 96, 771, 0, 0), (352, 96, 351, 2, 1), (713, 96, 712, 43, 1), (502, 96, 501, 19, 1), (572, 96, 571, 25, 1), (864, 96, 863, 52, 1), (872, 96, 871, 54, 1), (868, 96, 867, 53, 1), (563, 96, 562, 24, 1), (328, 96, 327, 0, 1), (389, 97, 387, 388, 1), (393, 97, 391, 392, 1), (324, 101, 322, 323, 1), (476, 102, 474, 475, 1), (805, 100, 803, 804, 1), (982, 103, 980, 981, 1), (1065, 103, 1063, 1064, 1), (1085, 103, 1083, 1084, 1), (1151, 103, 1149, 1150, 1), (1163, 103, 1161, 1162, 1), (1167, 103, 1165, 1166, 1), (1171, 103, 1169, 1170, 1), (1186, 103, 1184, 1185, 1), (1190, 103, 1188, 1189, 1), (1194, 103, 1192, 1193, 1), (1198, 103, 1196, 1197, 1), (1202, 103, 1200, 1201, 1), (1206, 103, 1204, 1205, 1), (1213, 103, 1211, 1212, 1), (1217, 103, 1215, 1216, 1), (1225, 103, 1223, 1224, 1), (1229, 103, 1227, 1228, 1), (1233, 103, 1231, 1232, 1), (1237, 103, 1235, 1236, 1), (985, 103, 984, 0, 0), (1089, 103, 1088, 76, 1), (993, 103, 992, 0, 0), (990, 103, 989, 55, 1), (1098, 103, 1097, 78, 1), (1093, 103, 1092, 77, 1)]
def zc_L_0 : List zi_Row := [(0, .new 7, 3, 5, 0, 106, 0), (3, .dup, 1, 0, 0, 0, 0), (4, .invokespecial 9, 3, 0, 1, 108, 0), (7, .astore_n 1, 1, 0, 0, 0, 0), (8, .new 10, 3, 6, 0, 873, 0), (11, .dup, 1, 0, 0, 0, 0), (12, .invokespecial 12, 3, 6, 1, 875, 0), (15, .astore_n 2, 1, 0, 0, 0, 0), (16, .iconst 0, 1, 0, 0, 0, 0), (17, .istore_n 3, 1, 0, 0, 0, 0), (18, .iload_n 3, 1, 0, 0, 0, 0), (19, .aload_n 0, 1, 0, 0, 0, 0), (20, .arraylength, 1, 0, 0, 0, 0), (21, .iconst 5, 1, 0, 0, 0, 0), (22, .isub, 1, 0, 0, 0, 0), (23, .if_icmp .gt 744, 3, 767, 0, 0, 0), (26, .aload_n 0, 1, 0, 0, 0, 0), (27, .iload_n 3, 1, 0, 0, 0, 0), (28, .iaload, 1, 0, 0, 0, 0), (29, .bipush 31, 2, 0, 0, 0, 0), (31, .iand, 1, 0, 0, 0, 0), (32, .tableswitch 729 0 18 #[92, 135, 158, 211, 234, 257, 270, 293, 326, 369, 412, 455, 488, 521, 554, 597, 630, 663, 706], 92, 0, 0, 0, 0), (124, .aload_n 1, 1, 0, 0, 0, 0), (125, .aload_n 0, 1, 0, 0, 0, 0), (126, .iload_n 3, 1, 0, 0, 0, 0), (127, .iconst 1, 1, 0, 0, 0, 0), (128, .iadd, 1, 0, 0, 0, 0), (129, .iaload, 1, 0, 0, 0, 0), (130, .aload_n 0, 1, 0, 0, 0, 0), (131, .iload_n 3, 1, 0, 0, 0, 0), (132, .iconst 2, 1, 0, 0, 0, 0), (133, .iadd, 1, 0, 0, 0, 0), (134, .iaload, 1, 0, 0, 0, 0), (135, .aload_n 0, 1, 0, 0, 0, 0), (136, .iload_n 3, 1, 0, 0, 0, 0), (137, .iconst 3, 1, 0, 0, 0, 0), (138, .iadd, 1, 0, 0, 0, 0), (139, .iaload, 1, 0, 0, 0, 0), (140, .invokevirtual 13, 3, 10, 4, 310, 5), (143, .aload_n 2, 1, 0, 0, 0, 0)]
def zc_L_1 : List zi_Row := [(144, .aload_n 0, 1, 0, 0, 0, 0), (145, .iload_n 3, 1, 0, 0, 0, 0), (146, .iconst 1, 1, 0, 0, 0, 0), (147, .iadd, 1, 0, 0, 0, 0), (148, .iaload, 1, 0, 0, 0, 0), (149, .aload_n 0, 1, 0, 0, 0, 0), (150, .iload_n 3, 1, 0, 0, 0, 0), (151, .iconst 2, 1, 0, 0, 0, 0), (152, .iadd, 1, 0, 0, 0, 0), (153, .iaload, 1, 0, 0, 0, 0), (154, .aload_n 0, 1, 0, 0, 0, 0), (155, .iload_n 3, 1, 0, 0, 0, 0), (156, .iconst 3, 1, 0, 0, 0, 0), (157, .iadd, 1, 0, 0, 0, 0), (158, .iaload, 1, 0, 0, 0, 0), (159, .invokevirtual 17, 3, 49, 4, 979, 6), (162, .if_icmp .eq 599, 3, 761, 0, 0, 0), (165, .iconst 0, 1, 0, 0, 0, 0), (166, .ireturn, 1, 0, 0, 0, 0), (167, .aload_n 1, 1, 0, 0, 0, 0), (168, .aload_n 0, 1, 0, 0, 0, 0), (169, .iload_n 3, 1, 0, 0, 0, 0), (170, .iconst 1, 1, 0, 0, 0, 0), (171, .iadd, 1, 0, 0, 0, 0), (172, .iaload, 1, 0, 0, 0, 0), (173, .invokevirtual 18, 3, 11, 2, 495, 5), (176, .aload_n 2, 1, 0, 0, 0, 0), (177, .aload_n 0, 1, 0, 0, 0, 0), (178, .iload_n 3, 1, 0, 0, 0, 0), (179, .iconst 1, 1, 0, 0, 0, 0), (180, .iadd, 1, 0, 0, 0, 0), (181, .iaload, 1, 0, 0, 0, 0), (182, .invokevirtual 22, 3, 50, 2, 1062, 6), (185, .if_icmp .eq 576, 3, 761, 0, 0, 0), (188, .iconst 0, 1, 0, 0, 0, 0), (189, .ireturn, 1, 0, 0, 0, 0), (190, .aload_n 1, 1, 0, 0, 0, 0), (191, .aload_n 0, 1, 0, 0, 0, 0), (192, .iload_n 3, 1, 0, 0, 0, 0), (193, .iconst 1, 1, 0, 0, 0, 0)]
def zc_L_2 : List zi_Row := [(194, .iadd, 1, 0, 0, 0, 0), (195, .iaload, 1, 0, 0, 0, 0), (196, .aload_n 0, 1, 0, 0, 0, 0), (197, .iload_n 3, 1, 0, 0, 0, 0), (198, .iconst 2, 1, 0, 0, 0, 0), (199, .iadd, 1, 0, 0, 0, 0), (200, .iaload, 1, 0, 0, 0, 0), (201, .aload_n 0, 1, 0, 0, 0, 0), (202, .iload_n 3, 1, 0, 0, 0, 0), (203, .iconst 3, 1, 0, 0, 0, 0), (204, .iadd, 1, 0, 0, 0, 0), (205, .iaload, 1, 0, 0, 0, 0), (206, .aload_n 0, 1, 0, 0, 0, 0), (207, .iload_n 3, 1, 0, 0, 0, 0), (208, .iconst 4, 1, 0, 0, 0, 0), (209, .iadd, 1, 0, 0, 0, 0), (210, .iaload, 1, 0, 0, 0, 0), (211, .invokevirtual 23, 3, 12, 5, 553, 5), (214, .aload_n 2, 1, 0, 0, 0, 0), (215, .aload_n 0, 1, 0, 0, 0, 0), (216, .iload_n 3, 1, 0, 0, 0, 0), (217, .iconst 1, 1, 0, 0, 0, 0), (218, .iadd, 1, 0, 0, 0, 0), (219, .iaload, 1, 0, 0, 0, 0), (220, .aload_n 0, 1, 0, 0, 0, 0), (221, .iload_n 3, 1, 0, 0, 0, 0), (222, .iconst 2, 1, 0, 0, 0, 0), (223, .iadd, 1, 0, 0, 0, 0), (224, .iaload, 1, 0, 0, 0, 0), (225, .aload_n 0, 1, 0, 0, 0, 0), (226, .iload_n 3, 1, 0, 0, 0, 0), (227, .iconst 3, 1, 0, 0, 0, 0), (228, .iadd, 1, 0, 0, 0, 0), (229, .iaload, 1, 0, 0, 0, 0), (230, .aload_n 0, 1, 0, 0, 0, 0), (231, .iload_n 3, 1, 0, 0, 0, 0), (232, .iconst 4, 1, 0, 0, 0, 0), (233, .iadd, 1, 0, 0, 0, 0), (234, .iaload, 1, 0, 0, 0, 0), (235, .invokevirtual 27, 3, 51, 5, 1082, 6)]
def zc_L_3 : List zi_Row := [(238, .if_icmp .eq 523, 3, 761, 0, 0, 0), (241, .iconst 0, 1, 0, 0, 0, 0), (242, .ireturn, 1, 0, 0, 0, 0), (243, .aload_n 1, 1, 0, 0, 0, 0), (244, .aload_n 0, 1, 0, 0, 0, 0), (245, .iload_n 3, 1, 0, 0, 0, 0), (246, .iconst 1, 1, 0, 0, 0, 0), (247, .iadd, 1, 0, 0, 0, 0), (248, .iaload, 1, 0, 0, 0, 0), (249, .invokevirtual 28, 3, 13, 2, 682, 5), (252, .aload_n 2, 1, 0, 0, 0, 0), (253, .aload_n 0, 1, 0, 0, 0, 0), (254, .iload_n 3, 1, 0, 0, 0, 0), (255, .iconst 1, 1, 0, 0, 0, 0), (256, .iadd, 1, 0, 0, 0, 0), (257, .iaload, 1, 0, 0, 0, 0), (258, .invokevirtual 31, 3, 52, 2, 1148, 6), (261, .if_icmp .eq 500, 3, 761, 0, 0, 0), (264, .iconst 0, 1, 0, 0, 0, 0), (265, .ireturn, 1, 0, 0, 0, 0), (266, .aload_n 1, 1, 0, 0, 0, 0), (267, .aload_n 0, 1, 0, 0, 0, 0), (268, .iload_n 3, 1, 0, 0, 0, 0), (269, .iconst 1, 1, 0, 0, 0, 0), (270, .iadd, 1, 0, 0, 0, 0), (271, .iaload, 1, 0, 0, 0, 0), (272, .invokevirtual 32, 3, 14, 2, 695, 5), (275, .aload_n 2, 1, 0, 0, 0, 0), (276, .aload_n 0, 1, 0, 0, 0, 0), (277, .iload_n 3, 1, 0, 0, 0, 0), (278, .iconst 1, 1, 0, 0, 0, 0), (279, .iadd, 1, 0, 0, 0, 0), (280, .iaload, 1, 0, 0, 0, 0), (281, .invokevirtual 35, 3, 53, 2, 1160, 6), (284, .if_icmp .eq 477, 3, 761, 0, 0, 0), (287, .iconst 0, 1, 0, 0, 0, 0), (288, .ireturn, 1, 0, 0, 0, 0), (289, .aload_n 1, 1, 0, 0, 0, 0), (290, .invokevirtual 36, 3, 15, 1, 699, 5), (293, .aload_n 2, 1, 0, 0, 0, 0)]
def zc_L_4 : List zi_Row := [(294, .invokevirtual 40, 3, 54, 1, 1164, 6), (297, .if_icmp .eq 464, 3, 761, 0, 0, 0), (300, .iconst 0, 1, 0, 0, 0, 0), (301, .ireturn, 1, 0, 0, 0, 0), (302, .aload_n 1, 1, 0, 0, 0, 0), (303, .aload_n 0, 1, 0, 0, 0, 0), (304, .iload_n 3, 1, 0, 0, 0, 0), (305, .iconst 1, 1, 0, 0, 0, 0), (306, .iadd, 1, 0, 0, 0, 0), (307, .iaload, 1, 0, 0, 0, 0), (308, .invokevirtual 41, 3, 16, 2, 703, 5), (311, .aload_n 2, 1, 0, 0, 0, 0), (312, .aload_n 0, 1, 0, 0, 0, 0), (313, .iload_n 3, 1, 0, 0, 0, 0), (314, .iconst 1, 1, 0, 0, 0, 0), (315, .iadd, 1, 0, 0, 0, 0), (316, .iaload, 1, 0, 0, 0, 0), (317, .invokevirtual 44, 3, 55, 2, 1168, 6), (320, .if_icmp .eq 441, 3, 761, 0, 0, 0), (323, .iconst 0, 1, 0, 0, 0, 0), (324, .ireturn, 1, 0, 0, 0, 0), (325, .aload_n 1, 1, 0, 0, 0, 0), (326, .aload_n 0, 1, 0, 0, 0, 0), (327, .iload_n 3, 1, 0, 0, 0, 0), (328, .iconst 1, 1, 0, 0, 0, 0), (329, .iadd, 1, 0, 0, 0, 0), (330, .iaload, 1, 0, 0, 0, 0), (331, .aload_n 0, 1, 0, 0, 0, 0), (332, .iload_n 3, 1, 0, 0, 0, 0), (333, .iconst 2, 1, 0, 0, 0, 0), (334, .iadd, 1, 0, 0, 0, 0), (335, .iaload, 1, 0, 0, 0, 0), (336, .invokevirtual 45, 3, 17, 3, 744, 5), (339, .aload_n 2, 1, 0, 0, 0, 0), (340, .aload_n 0, 1, 0, 0, 0, 0), (341, .iload_n 3, 1, 0, 0, 0, 0), (342, .iconst 1, 1, 0, 0, 0, 0), (343, .iadd, 1, 0, 0, 0, 0), (344, .iaload, 1, 0, 0, 0, 0), (345, .aload_n 0, 1, 0, 0, 0, 0)]
def zc_L_5 : List zi_Row := [(346, .iload_n 3, 1, 0, 0, 0, 0), (347, .iconst 2, 1, 0, 0, 0, 0), (348, .iadd, 1, 0, 0, 0, 0), (349, .iaload, 1, 0, 0, 0, 0), (350, .invokevirtual 49, 3, 56, 3, 1183, 6), (353, .if_icmp .eq 408, 3, 761, 0, 0, 0), (356, .iconst 0, 1, 0, 0, 0, 0), (357, .ireturn, 1, 0, 0, 0, 0), (358, .aload_n 1, 1, 0, 0, 0, 0), (359, .aload_n 0, 1, 0, 0, 0, 0), (360, .iload_n 3, 1, 0, 0, 0, 0), (361, .iconst 1, 1, 0, 0, 0, 0), (362, .iadd, 1, 0, 0, 0, 0), (363, .iaload, 1, 0, 0, 0, 0), (364, .aload_n 0, 1, 0, 0, 0, 0), (365, .iload_n 3, 1, 0, 0, 0, 0), (366, .iconst 2, 1, 0, 0, 0, 0), (367, .iadd, 1, 0, 0, 0, 0), (368, .iaload, 1, 0, 0, 0, 0), (369, .aload_n 0, 1, 0, 0, 0, 0), (370, .iload_n 3, 1, 0, 0, 0, 0), (371, .iconst 3, 1, 0, 0, 0, 0), (372, .iadd, 1, 0, 0, 0, 0), (373, .iaload, 1, 0, 0, 0, 0), (374, .invokevirtual 50, 3, 18, 4, 756, 5), (377, .aload_n 2, 1, 0, 0, 0, 0), (378, .aload_n 0, 1, 0, 0, 0, 0), (379, .iload_n 3, 1, 0, 0, 0, 0), (380, .iconst 1, 1, 0, 0, 0, 0), (381, .iadd, 1, 0, 0, 0, 0), (382, .iaload, 1, 0, 0, 0, 0), (383, .aload_n 0, 1, 0, 0, 0, 0), (384, .iload_n 3, 1, 0, 0, 0, 0), (385, .iconst 2, 1, 0, 0, 0, 0), (386, .iadd, 1, 0, 0, 0, 0), (387, .iaload, 1, 0, 0, 0, 0), (388, .aload_n 0, 1, 0, 0, 0, 0), (389, .iload_n 3, 1, 0, 0, 0, 0), (390, .iconst 3, 1, 0, 0, 0, 0), (391, .iadd, 1, 0, 0, 0, 0)]
def zc_L_6 : List zi_Row := [(392, .iaload, 1, 0, 0, 0, 0), (393, .invokevirtual 53, 3, 57, 4, 1187, 6), (396, .if_icmp .eq 365, 3, 761, 0, 0, 0), (399, .iconst 0, 1, 0, 0, 0, 0), (400, .ireturn, 1, 0, 0, 0, 0), (401, .aload_n 1, 1, 0, 0, 0, 0), (402, .aload_n 0, 1, 0, 0, 0, 0), (403, .iload_n 3, 1, 0, 0, 0, 0), (404, .iconst 1, 1, 0, 0, 0, 0), (405, .iadd, 1, 0, 0, 0, 0), (406, .iaload, 1, 0, 0, 0, 0), (407, .aload_n 0, 1, 0, 0, 0, 0), (408, .iload_n 3, 1, 0, 0, 0, 0), (409, .iconst 2, 1, 0, 0, 0, 0), (410, .iadd, 1, 0, 0, 0, 0), (411, .iaload, 1, 0, 0, 0, 0), (412, .aload_n 0, 1, 0, 0, 0, 0), (413, .iload_n 3, 1, 0, 0, 0, 0), (414, .iconst 3, 1, 0, 0, 0, 0), (415, .iadd, 1, 0, 0, 0, 0), (416, .iaload, 1, 0, 0, 0, 0), (417, .invokevirtual 54, 3, 19, 4, 766, 5), (420, .aload_n 2, 1, 0, 0, 0, 0), (421, .aload_n 0, 1, 0, 0, 0, 0), (422, .iload_n 3, 1, 0, 0, 0, 0), (423, .iconst 1, 1, 0, 0, 0, 0), (424, .iadd, 1, 0, 0, 0, 0), (425, .iaload, 1, 0, 0, 0, 0), (426, .aload_n 0, 1, 0, 0, 0, 0), (427, .iload_n 3, 1, 0, 0, 0, 0), (428, .iconst 2, 1, 0, 0, 0, 0), (429, .iadd, 1, 0, 0, 0, 0), (430, .iaload, 1, 0, 0, 0, 0), (431, .aload_n 0, 1, 0, 0, 0, 0), (432, .iload_n 3, 1, 0, 0, 0, 0), (433, .iconst 3, 1, 0, 0, 0, 0), (434, .iadd, 1, 0, 0, 0, 0), (435, .iaload, 1, 0, 0, 0, 0), (436, .invokevirtual 57, 3, 58, 4, 1191, 6), (439, .if_icmp .eq 322, 3, 761, 0, 0, 0)]
def zc_L_7 : List zi_Row := [(442, .iconst 0, 1, 0, 0, 0, 0), (443, .ireturn, 1, 0, 0, 0, 0), (444, .aload_n 1, 1, 0, 0, 0, 0), (445, .aload_n 0, 1, 0, 0, 0, 0), (446, .iload_n 3, 1, 0, 0, 0, 0), (447, .iconst 1, 1, 0, 0, 0, 0), (448, .iadd, 1, 0, 0, 0, 0), (449, .iaload, 1, 0, 0, 0, 0), (450, .aload_n 0, 1, 0, 0, 0, 0), (451, .iload_n 3, 1, 0, 0, 0, 0), (452, .iconst 2, 1, 0, 0, 0, 0), (453, .iadd, 1, 0, 0, 0, 0), (454, .iaload, 1, 0, 0, 0, 0), (455, .aload_n 0, 1, 0, 0, 0, 0), (456, .iload_n 3, 1, 0, 0, 0, 0), (457, .iconst 3, 1, 0, 0, 0, 0), (458, .iadd, 1, 0, 0, 0, 0), (459, .iaload, 1, 0, 0, 0, 0), (460, .invokevirtual 58, 3, 20, 4, 774, 5), (463, .aload_n 2, 1, 0, 0, 0, 0), (464, .aload_n 0, 1, 0, 0, 0, 0), (465, .iload_n 3, 1, 0, 0, 0, 0), (466, .iconst 1, 1, 0, 0, 0, 0), (467, .iadd, 1, 0, 0, 0, 0), (468, .iaload, 1, 0, 0, 0, 0), (469, .aload_n 0, 1, 0, 0, 0, 0), (470, .iload_n 3, 1, 0, 0, 0, 0), (471, .iconst 2, 1, 0, 0, 0, 0), (472, .iadd, 1, 0, 0, 0, 0), (473, .iaload, 1, 0, 0, 0, 0), (474, .aload_n 0, 1, 0, 0, 0, 0), (475, .iload_n 3, 1, 0, 0, 0, 0), (476, .iconst 3, 1, 0, 0, 0, 0), (477, .iadd, 1, 0, 0, 0, 0), (478, .iaload, 1, 0, 0, 0, 0), (479, .invokevirtual 61, 3, 59, 4, 1195, 6), (482, .if_icmp .eq 279, 3, 761, 0, 0, 0), (485, .iconst 0, 1, 0, 0, 0, 0), (486, .ireturn, 1, 0, 0, 0, 0), (487, .aload_n 1, 1, 0, 0, 0, 0)]
def zc_L_8 : List zi_Row := [(488, .aload_n 0, 1, 0, 0, 0, 0), (489, .iload_n 3, 1, 0, 0, 0, 0), (490, .iconst 1, 1, 0, 0, 0, 0), (491, .iadd, 1, 0, 0, 0, 0), (492, .iaload, 1, 0, 0, 0, 0), (493, .aload_n 0, 1, 0, 0, 0, 0), (494, .iload_n 3, 1, 0, 0, 0, 0), (495, .iconst 2, 1, 0, 0, 0, 0), (496, .iadd, 1, 0, 0, 0, 0), (497, .iaload, 1, 0, 0, 0, 0), (498, .invokevirtual 62, 3, 21, 3, 789, 5), (501, .aload_n 2, 1, 0, 0, 0, 0), (502, .aload_n 0, 1, 0, 0, 0, 0), (503, .iload_n 3, 1, 0, 0, 0, 0), (504, .iconst 1, 1, 0, 0, 0, 0), (505, .iadd, 1, 0, 0, 0, 0), (506, .iaload, 1, 0, 0, 0, 0), (507, .aload_n 0, 1, 0, 0, 0, 0), (508, .iload_n 3, 1, 0, 0, 0, 0), (509, .iconst 2, 1, 0, 0, 0, 0), (510, .iadd, 1, 0, 0, 0, 0), (511, .iaload, 1, 0, 0, 0, 0), (512, .invokevirtual 65, 3, 60, 3, 1199, 6), (515, .if_icmp .eq 246, 3, 761, 0, 0, 0), (518, .iconst 0, 1, 0, 0, 0, 0), (519, .ireturn, 1, 0, 0, 0, 0), (520, .aload_n 1, 1, 0, 0, 0, 0), (521, .aload_n 0, 1, 0, 0, 0, 0), (522, .iload_n 3, 1, 0, 0, 0, 0), (523, .iconst 1, 1, 0, 0, 0, 0), (524, .iadd, 1, 0, 0, 0, 0), (525, .iaload, 1, 0, 0, 0, 0), (526, .aload_n 0, 1, 0, 0, 0, 0), (527, .iload_n 3, 1, 0, 0, 0, 0), (528, .iconst 2, 1, 0, 0, 0, 0), (529, .iadd, 1, 0, 0, 0, 0), (530, .iaload, 1, 0, 0, 0, 0), (531, .invokevirtual 66, 3, 22, 3, 793, 5), (534, .aload_n 2, 1, 0, 0, 0, 0), (535, .aload_n 0, 1, 0, 0, 0, 0)]
def zc_L_9 : List zi_Row := [(536, .iload_n 3, 1, 0, 0, 0, 0), (537, .iconst 1, 1, 0, 0, 0, 0), (538, .iadd, 1, 0, 0, 0, 0), (539, .iaload, 1, 0, 0, 0, 0), (540, .aload_n 0, 1, 0, 0, 0, 0), (541, .iload_n 3, 1, 0, 0, 0, 0), (542, .iconst 2, 1, 0, 0, 0, 0), (543, .iadd, 1, 0, 0, 0, 0), (544, .iaload, 1, 0, 0, 0, 0), (545, .invokevirtual 69, 3, 61, 3, 1203, 6), (548, .if_icmp .eq 213, 3, 761, 0, 0, 0), (551, .iconst 0, 1, 0, 0, 0, 0), (552, .ireturn, 1, 0, 0, 0, 0), (553, .aload_n 1, 1, 0, 0, 0, 0), (554, .aload_n 0, 1, 0, 0, 0, 0), (555, .iload_n 3, 1, 0, 0, 0, 0), (556, .iconst 1, 1, 0, 0, 0, 0), (557, .iadd, 1, 0, 0, 0, 0), (558, .iaload, 1, 0, 0, 0, 0), (559, .aload_n 0, 1, 0, 0, 0, 0), (560, .iload_n 3, 1, 0, 0, 0, 0), (561, .iconst 2, 1, 0, 0, 0, 0), (562, .iadd, 1, 0, 0, 0, 0), (563, .iaload, 1, 0, 0, 0, 0), (564, .invokevirtual 70, 3, 23, 3, 798, 5), (567, .aload_n 2, 1, 0, 0, 0, 0), (568, .aload_n 0, 1, 0, 0, 0, 0), (569, .iload_n 3, 1, 0, 0, 0, 0), (570, .iconst 1, 1, 0, 0, 0, 0), (571, .iadd, 1, 0, 0, 0, 0), (572, .iaload, 1, 0, 0, 0, 0), (573, .aload_n 0, 1, 0, 0, 0, 0), (574, .iload_n 3, 1, 0, 0, 0, 0), (575, .iconst 2, 1, 0, 0, 0, 0), (576, .iadd, 1, 0, 0, 0, 0), (577, .iaload, 1, 0, 0, 0, 0), (578, .invokevirtual 73, 3, 62, 3, 1210, 6), (581, .if_icmp .eq 180, 3, 761, 0, 0, 0), (584, .iconst 0, 1, 0, 0, 0, 0), (585, .ireturn, 1, 0, 0, 0, 0)]
def zc_L_10 : List zi_Row := [(586, .aload_n 1, 1, 0, 0, 0, 0), (587, .aload_n 0, 1, 0, 0, 0, 0), (588, .iload_n 3, 1, 0, 0, 0, 0), (589, .iconst 1, 1, 0, 0, 0, 0), (590, .iadd, 1, 0, 0, 0, 0), (591, .iaload, 1, 0, 0, 0, 0), (592, .aload_n 0, 1, 0, 0, 0, 0), (593, .iload_n 3, 1, 0, 0, 0, 0), (594, .iconst 2, 1, 0, 0, 0, 0), (595, .iadd, 1, 0, 0, 0, 0), (596, .iaload, 1, 0, 0, 0, 0), (597, .aload_n 0, 1, 0, 0, 0, 0), (598, .iload_n 3, 1, 0, 0, 0, 0), (599, .iconst 3, 1, 0, 0, 0, 0), (600, .iadd, 1, 0, 0, 0, 0), (601, .iaload, 1, 0, 0, 0, 0), (602, .invokevirtual 74, 3, 24, 4, 806, 5), (605, .aload_n 2, 1, 0, 0, 0, 0), (606, .aload_n 0, 1, 0, 0, 0, 0), (607, .iload_n 3, 1, 0, 0, 0, 0), (608, .iconst 1, 1, 0, 0, 0, 0), (609, .iadd, 1, 0, 0, 0, 0), (610, .iaload, 1, 0, 0, 0, 0), (611, .aload_n 0, 1, 0, 0, 0, 0), (612, .iload_n 3, 1, 0, 0, 0, 0), (613, .iconst 2, 1, 0, 0, 0, 0), (614, .iadd, 1, 0, 0, 0, 0), (615, .iaload, 1, 0, 0, 0, 0), (616, .aload_n 0, 1, 0, 0, 0, 0), (617, .iload_n 3, 1, 0, 0, 0, 0), (618, .iconst 3, 1, 0, 0, 0, 0), (619, .iadd, 1, 0, 0, 0, 0), (620, .iaload, 1, 0, 0, 0, 0), (621, .invokevirtual 77, 3, 63, 4, 1214, 6), (624, .if_icmp .eq 137, 3, 761, 0, 0, 0), (627, .iconst 0, 1, 0, 0, 0, 0), (628, .ireturn, 1, 0, 0, 0, 0), (629, .aload_n 1, 1, 0, 0, 0, 0), (630, .aload_n 0, 1, 0, 0, 0, 0), (631, .iload_n 3, 1, 0, 0, 0, 0)]
def zc_L_11 : List zi_Row := [(632, .iconst 1, 1, 0, 0, 0, 0), (633, .iadd, 1, 0, 0, 0, 0), (634, .iaload, 1, 0, 0, 0, 0), (635, .aload_n 0, 1, 0, 0, 0, 0), (636, .iload_n 3, 1, 0, 0, 0, 0), (637, .iconst 2, 1, 0, 0, 0, 0), (638, .iadd, 1, 0, 0, 0, 0), (639, .iaload, 1, 0, 0, 0, 0), (640, .invokevirtual 78, 3, 25, 3, 829, 5), (643, .aload_n 2, 1, 0, 0, 0, 0), (644, .aload_n 0, 1, 0, 0, 0, 0), (645, .iload_n 3, 1, 0, 0, 0, 0), (646, .iconst 1, 1, 0, 0, 0, 0), (647, .iadd, 1, 0, 0, 0, 0), (648, .iaload, 1, 0, 0, 0, 0), (649, .aload_n 0, 1, 0, 0, 0, 0), (650, .iload_n 3, 1, 0, 0, 0, 0), (651, .iconst 2, 1, 0, 0, 0, 0), (652, .iadd, 1, 0, 0, 0, 0), (653, .iaload, 1, 0, 0, 0, 0), (654, .invokevirtual 81, 3, 64, 3, 1222, 6), (657, .if_icmp .eq 104, 3, 761, 0, 0, 0), (660, .iconst 0, 1, 0, 0, 0, 0), (661, .ireturn, 1, 0, 0, 0, 0), (662, .aload_n 1, 1, 0, 0, 0, 0), (663, .aload_n 0, 1, 0, 0, 0, 0), (664, .iload_n 3, 1, 0, 0, 0, 0), (665, .iconst 1, 1, 0, 0, 0, 0), (666, .iadd, 1, 0, 0, 0, 0), (667, .iaload, 1, 0, 0, 0, 0), (668, .aload_n 0, 1, 0, 0, 0, 0), (669, .iload_n 3, 1, 0, 0, 0, 0), (670, .iconst 2, 1, 0, 0, 0, 0), (671, .iadd, 1, 0, 0, 0, 0), (672, .iaload, 1, 0, 0, 0, 0), (673, .invokevirtual 82, 3, 26, 3, 833, 5), (676, .aload_n 2, 1, 0, 0, 0, 0), (677, .aload_n 0, 1, 0, 0, 0, 0), (678, .iload_n 3, 1, 0, 0, 0, 0), (679, .iconst 1, 1, 0, 0, 0, 0)]
def zc_L_12 : List zi_Row := [(680, .iadd, 1, 0, 0, 0, 0), (681, .iaload, 1, 0, 0, 0, 0), (682, .aload_n 0, 1, 0, 0, 0, 0), (683, .iload_n 3, 1, 0, 0, 0, 0), (684, .iconst 2, 1, 0, 0, 0, 0), (685, .iadd, 1, 0, 0, 0, 0), (686, .iaload, 1, 0, 0, 0, 0), (687, .invokevirtual 85, 3, 65, 3, 1226, 6), (690, .if_icmp .eq 71, 3, 761, 0, 0, 0), (693, .iconst 0, 1, 0, 0, 0, 0), (694, .ireturn, 1, 0, 0, 0, 0), (695, .aload_n 1, 1, 0, 0, 0, 0), (696, .aload_n 0, 1, 0, 0, 0, 0), (697, .iload_n 3, 1, 0, 0, 0, 0), (698, .iconst 1, 1, 0, 0, 0, 0), (699, .iadd, 1, 0, 0, 0, 0), (700, .iaload, 1, 0, 0, 0, 0), (701, .aload_n 0, 1, 0, 0, 0, 0), (702, .iload_n 3, 1, 0, 0, 0, 0), (703, .iconst 2, 1, 0, 0, 0, 0), (704, .iadd, 1, 0, 0, 0, 0), (705, .iaload, 1, 0, 0, 0, 0), (706, .aload_n 0, 1, 0, 0, 0, 0), (707, .iload_n 3, 1, 0, 0, 0, 0), (708, .iconst 3, 1, 0, 0, 0, 0), (709, .iadd, 1, 0, 0, 0, 0), (710, .iaload, 1, 0, 0, 0, 0), (711, .invokevirtual 86, 3, 27, 4, 847, 5), (714, .aload_n 2, 1, 0, 0, 0, 0), (715, .aload_n 0, 1, 0, 0, 0, 0), (716, .iload_n 3, 1, 0, 0, 0, 0), (717, .iconst 1, 1, 0, 0, 0, 0), (718, .iadd, 1, 0, 0, 0, 0), (719, .iaload, 1, 0, 0, 0, 0), (720, .aload_n 0, 1, 0, 0, 0, 0), (721, .iload_n 3, 1, 0, 0, 0, 0), (722, .iconst 2, 1, 0, 0, 0, 0), (723, .iadd, 1, 0, 0, 0, 0), (724, .iaload, 1, 0, 0, 0, 0), (725, .aload_n 0, 1, 0, 0, 0, 0)]
def zc_L_13 : List zi_Row := [(726, .iload_n 3, 1, 0, 0, 0, 0), (727, .iconst 3, 1, 0, 0, 0, 0), (728, .iadd, 1, 0, 0, 0, 0), (729, .iaload, 1, 0, 0, 0, 0), (730, .invokevirtual 89, 3, 66, 4, 1230, 6), (733, .if_icmp .eq 28, 3, 761, 0, 0, 0), (736, .iconst 0, 1, 0, 0, 0, 0), (737, .ireturn, 1, 0, 0, 0, 0), (738, .aload_n 1, 1, 0, 0, 0, 0), (739, .aload_n 0, 1, 0, 0, 0, 0), (740, .iload_n 3, 1, 0, 0, 0, 0), (741, .iconst 1, 1, 0, 0, 0, 0), (742, .iadd, 1, 0, 0, 0, 0), (743, .iaload, 1, 0, 0, 0, 0), (744, .invokevirtual 90, 3, 28, 2, 857, 5), (747, .aload_n 2, 1, 0, 0, 0, 0), (748, .aload_n 0, 1, 0, 0, 0, 0), (749, .iload_n 3, 1, 0, 0, 0, 0), (750, .iconst 1, 1, 0, 0, 0, 0), (751, .iadd, 1, 0, 0, 0, 0), (752, .iaload, 1, 0, 0, 0, 0), (753, .invokevirtual 93, 3, 67, 2, 1234, 6), (756, .if_icmp .eq 5, 3, 761, 0, 0, 0), (759, .iconst 0, 1, 0, 0, 0, 0), (760, .ireturn, 1, 0, 0, 0, 0), (761, .iinc 3 5, 3, 0, 0, 0, 0), (764, .goto (-746), 3, 18, 0, 0, 0), (767, .iconst 1, 1, 0, 0, 0, 0), (768, .ireturn, 1, 0, 0, 0, 0)]
def zc_L : List zi_Row := zc_L_0 ++ (zc_L_1 ++ (zc_L_2 ++ (zc_L_3 ++ (zc_L_4 ++ (zc_L_5 ++ (zc_L_6 ++ (zc_L_7 ++ (zc_L_8 ++ (zc_L_9 ++ (zc_L_10 ++ (zc_L_11 ++ (zc_L_12 ++ (zc_L_13)))))))))))))
def zi_nest : List Cond := [.methodLinkNest "WindowDesk" 23 ⟨"WindowDesk$Row", "<init>", "()V"⟩ "WindowDesk", .methodLinkNest "WindowDesk$Tree" 11 ⟨"WindowDesk$Row", "<init>", "()V"⟩ "WindowDesk", .methodLinkNest "WindowDesk" 52 ⟨"WindowDesk$Window", "<init>", "()V"⟩ "WindowDesk", .methodLinkNest "WindowDesk" 53 ⟨"WindowDesk$Screen", "<init>", "()V"⟩ "WindowDesk", .methodLinkNest "WindowDesk$Screen" 24 ⟨"WindowDesk$Kept", "<init>", "()V"⟩ "WindowDesk", .methodLinkNest "WindowDesk$Window" 36 ⟨"WindowDesk", "between", "(III)I"⟩ "WindowDesk", .methodLinkNest "WindowDesk$Tree" 165 ⟨"WindowDesk", "between", "(III)I"⟩ "WindowDesk", .methodLinkNest "WindowDesk$Tree" 189 ⟨"WindowDesk", "axisOf", "(I)I"⟩ "WindowDesk", .methodLinkNest "WindowDesk$Tree" 195 ⟨"WindowDesk", "isAfter", "(I)Z"⟩ "WindowDesk"]
end
section
/-! what abstract cells stand for -/
def zi_cv (ρ : Nat → Int32) (b : Nat) (as : List Nat) (v : Value) : Value := match v with
  | .ref 0 => .ref b
  | .ref (i + 1) => .ref (as.getD i 0)
  | .float k => .int (ρ k.toNat)
  | v => v
def zi_iv (ρ : Nat → Int32) (v : Value) : Int32 := match v with
  | .int x => x
  | .float k => ρ k.toNat
  | _ => 0
def zi_rv (as : List Nat) (v : Value) : Option Nat := match v with
  | .ref (i + 1) => some (as.getD i 0)
  | _ => none
def zi_ce (ρ : Nat → Int32) (b : Nat) (as : List Nat) (cy : Nat → ClassId) (c : Nat × List Value) : va_E :=
  if c.1 < 7 then .inr (c.1, c.2.map (zi_cv ρ b as))
  else if c.1 < 9 then .inl (cy c.1, c.2.length, .inl (fun i => zi_iv ρ (c.2.getD i (.int 0))))
  else .inl (cy c.1, c.2.length, .inr (.inr (.inr (.inr (fun i => zi_rv as (c.2.getD i .null))))))
def zi_w (ρ : Nat → Int32) (b : Nat) (as : List Nat) (cy : Nat → ClassId) (h : zi_Hp) : va_W := h.mapIdx (fun i c => (as.getD i 0, zi_ce ρ b as cy c))
def zi_lc (ρ : Nat → Int32) (b : Nat) (as : List Nat) (L : zi_Lc) : List (Nat × Value) := L.map (fun q => (q.1, zi_cv ρ b as q.2))
def zi_mem (x : Int) (l : zi_Iv) : Prop := ∃ q ∈ l, q.1 ≤ x ∧ x ≤ q.2
def zi_rho (ρ : Nat → Int32) (d : zi_Dm) : Prop := (∀ (k : Nat) (l : zi_Iv), d[k]? = some l → zi_mem (ρ k).toInt l) ∧ ρ 5 = ρ 0 &&& 31
section ZC
variable {ρ : Nat → Int32} {b : Nat} {as : List Nat} {cy : Nat → ClassId}
theorem zi_w_get {h : zi_Hp} {r : Nat} {c : Nat × List Value} (e : h[r]? = some c) : (zi_w ρ b as cy h)[r]? = some (as.getD r 0, zi_ce ρ b as cy c) := by
  unfold zi_w
  rw [List.getElem?_mapIdx, e]
  rfl
theorem zi_w_set {h : zi_Hp} {r : Nat} {c : Nat × List Value} : zi_w ρ b as cy (h.set r c) = (zi_w ρ b as cy h).set r (as.getD r 0, zi_ce ρ b as cy c) := by
  unfold zi_w
  rw [List.mapIdx_set]
theorem zi_cv_cat (v : Value) : (zi_cv ρ b as v).category = v.category := by
  unfold zi_cv
  split <;> first | rfl | simp [Value.category]
theorem zi_cv_grow {qs : List Nat} {v : Value} (h : zi_wfv as.length v = true) : zi_cv ρ b (as ++ qs) v = zi_cv ρ b as v := by
  unfold zi_cv
  split
  · rfl
  · rename_i i
    have hi : i < as.length := by simpa [zi_wfv] using h
    simp [List.getElem?_append_left hi]
  · rfl
  · rfl
theorem zi_rv_grow {qs : List Nat} {v : Value} (h : zi_wfv as.length v = true) : zi_rv (as ++ qs) v = zi_rv as v := by
  unfold zi_rv
  split
  · rename_i i
    have hi : i < as.length := by simpa [zi_wfv] using h
    simp [List.getElem?_append_left hi]
  · rfl
theorem zi_cvl_grow {qs : List Nat} {l : List Value} (h : zi_wfl as.length l = true) : l.map (zi_cv ρ b (as ++ qs)) = l.map (zi_cv ρ b as) := by
  apply List.map_congr_left
  intro v hv
  exact zi_cv_grow (List.all_eq_true.mp h v hv)
theorem zi_lc_grow {qs : List Nat} {L : zi_Lc} (h : zi_wfc as.length L = true) : zi_lc ρ b (as ++ qs) L = zi_lc ρ b as L := by
  apply List.map_congr_left
  intro q hq
  rw [zi_cv_grow (List.all_eq_true.mp h q hq)]
theorem zi_ce_grow {qs : List Nat} {c : Nat × List Value} (h : (c.1 == 7 || c.1 == 8 || zi_wfl as.length c.2) = true) : zi_ce ρ b (as ++ qs) cy c = zi_ce ρ b as cy c := by
  obtain ⟨t, l⟩ := c
  unfold zi_ce
  dsimp only
  split
  · rename_i ht
    have h2 : zi_wfl as.length l = true := by
      simp only [Bool.or_eq_true, beq_iff_eq] at h
      rcases h with (h | h) | h
      · omega
      · omega
      · exact h
    rw [zi_cvl_grow h2]
  · split
    · rfl
    · rename_i h1 h2
      have h3 : zi_wfl as.length l = true := by
        simp only [Bool.or_eq_true, beq_iff_eq] at h
        rcases h with (h | h) | h
        · omega
        · omega
        · exact h
      have e : (fun i => zi_rv (as ++ qs) (l.getD i .null)) = (fun i => zi_rv as (l.getD i .null)) := by
        funext i
        apply zi_rv_grow
        by_cases hi : i < l.length
        · have : l.getD i .null ∈ l := by simp [List.getD_eq_getElem?_getD, hi]
          exact List.all_eq_true.mp h3 _ this
        · simp [List.getD_eq_getElem?_getD, List.getElem?_eq_none (Nat.not_lt.mp hi), zi_wfv]
      rw [e]
theorem zi_w_grow {qs : List Nat} {h cs : zi_Hp} (hl : as.length = h.length) (hw : zi_wfh h = true) : zi_w ρ b (as ++ qs) cy (h ++ cs) = zi_w ρ b as cy h ++ cs.mapIdx (fun i c => (qs.getD i 0, zi_ce ρ b (as ++ qs) cy c)) := by
  unfold zi_w
  rw [List.mapIdx_append]
  congr 1
  · apply List.ext_getElem?
    intro i
    rw [List.getElem?_mapIdx, List.getElem?_mapIdx]
    cases hi : h[i]? with
    | none => rfl
    | some c =>
      have hlt : i < as.length := by rw [hl]; exact (List.getElem?_eq_some_iff.mp hi).1
      have hm : c ∈ h := List.mem_of_getElem? hi
      have h2 := List.all_eq_true.mp hw c hm
      rw [← hl] at h2
      simp only [Option.map_some]
      rw [zi_ce_grow h2]
      simp [List.getD_eq_getElem?_getD, List.getElem?_append_left hlt]
  · apply List.ext_getElem?
    intro i
    rw [List.getElem?_mapIdx, List.getElem?_mapIdx]
    cases cs[i]? with
    | none => rfl
    | some c =>
      simp [List.getD_eq_getElem?_getD, ← hl, List.getElem?_append_right]
theorem zi_clip_mem {lo hi x : Int} {l : zi_Iv} (h : zi_mem x l) (h1 : lo ≤ x) (h2 : x ≤ hi) : zi_mem x (zi_clip lo hi l) := by
  obtain ⟨q, hq, a, c⟩ := h
  refine ⟨(max q.1 lo, min q.2 hi), List.mem_filterMap.mpr ⟨q, hq, if_pos (by omega)⟩, by dsimp only; omega, by dsimp only; omega⟩
theorem zi_mem_app {x : Int} {l r : zi_Iv} : zi_mem x (l ++ r) ↔ zi_mem x l ∨ zi_mem x r := by
  unfold zi_mem
  constructor
  · rintro ⟨q, hq, h⟩
    rcases List.mem_append.mp hq with h1 | h1
    · exact Or.inl ⟨q, h1, h⟩
    · exact Or.inr ⟨q, h1, h⟩
  · rintro (⟨q, hq, h⟩ | ⟨q, hq, h⟩)
    · exact ⟨q, List.mem_append_left _ hq, h⟩
    · exact ⟨q, List.mem_append_right _ hq, h⟩
/-- the condition over whole numbers -/
def zi_hold (c : ClassFile.Cond) (x v : Int) : Prop := match c with
  | .eq => x = v | .ne => ¬ x = v | .lt => x < v | .ge => v ≤ x | .gt => v < x | .le => x ≤ v
theorem zi_T_mem {c : ClassFile.Cond} {x v : Int} {l : zi_Iv} (h : zi_mem x l) (lo : -2147483648 ≤ x) (hi : x ≤ 2147483647) (hc : zi_hold c x v) : zi_mem x (zi_T c v l) := by
  cases c <;> simp only [zi_hold] at hc <;> simp only [zi_T]
  · exact zi_clip_mem h (by omega) (by omega)
  · rw [zi_mem_app]
    rcases Int.lt_or_gt_of_ne hc with h1 | h1
    · exact Or.inl (zi_clip_mem h lo (by omega))
    · exact Or.inr (zi_clip_mem h (by omega) hi)
  · exact zi_clip_mem h lo (by omega)
  · exact zi_clip_mem h (by omega) hi
  · exact zi_clip_mem h (by omega) hi
  · exact zi_clip_mem h lo (by omega)
theorem zi_hold_neg (c : ClassFile.Cond) (x v : Int) : zi_hold c x v ∨ zi_hold (zi_neg c) x v := by
  cases c <;> simp only [zi_hold, zi_neg] <;> omega
theorem zi_cmp_hold {c : ClassFile.Cond} {x y : Int32} : zi_cmp c x y = true ↔ zi_hold c x.toInt y.toInt := by
  cases c <;> simp only [zi_cmp, zi_hold, decide_eq_true_eq, Int32.lt_iff_toInt_lt, Int32.le_iff_toInt_le, Int32.toInt_inj]
theorem zi_hold_swap {c : ClassFile.Cond} {x y : Int} : zi_hold (zi_swap c) x y ↔ zi_hold c y x := by
  cases c <;> simp only [zi_hold, zi_swap] <;> omega
theorem zi_rho_set {d : zi_Dm} {k : Nat} {l : zi_Iv} (h : zi_rho ρ d) (hm : zi_mem (ρ k).toInt l) : zi_rho ρ (d.set k l) := by
  refine ⟨fun j l' hj => ?_, h.2⟩
  rw [List.getElem?_set] at hj
  split at hj
  · rename_i e
    subst e
    split at hj
    · cases hj; exact hm
    · cases hj
  · exact h.1 j l' hj
theorem zi_lo (x : Int32) : -2147483648 ≤ x.toInt := by have := x.le_toInt; simpa using this
theorem zi_hi (x : Int32) : x.toInt ≤ 2147483647 := by have := x.toInt_lt; omega
theorem zi_nm_cv {d : zi_Dm} (h : zi_rho ρ d) (v : Value) : zi_cv ρ b as (zi_nm d v) = zi_cv ρ b as v := by
  unfold zi_nm
  split
  · rename_i k
    split
    · rename_i q hq
      split
      · rename_i e
        obtain ⟨q', hq', h1, h2⟩ := h.1 _ _ hq
        rw [List.mem_singleton.mp hq'] at h1 h2
        have : (ρ k.toNat).toInt = q.1 := by omega
        simp only [zi_cv]
        rw [← this, Int32.ofInt_toInt]
      · rfl
    · rfl
  · rfl
theorem zi_nm_iv {d : zi_Dm} (h : zi_rho ρ d) (v : Value) : zi_iv ρ (zi_nm d v) = zi_iv ρ v := by
  unfold zi_nm
  split
  · rename_i k
    split
    · rename_i q hq
      split
      · rename_i e
        obtain ⟨q', hq', h1, h2⟩ := h.1 _ _ hq
        rw [List.mem_singleton.mp hq'] at h1 h2
        have : (ρ k.toNat).toInt = q.1 := by omega
        simp only [zi_iv]
        rw [← this, Int32.ofInt_toInt]
      · rfl
    · rfl
  · rfl
theorem zi_cv_iv {v : Value} (h : zi_isI v = true) : zi_cv ρ b as v = .int (zi_iv ρ v) := by
  unfold zi_isI at h
  split at h
  · rfl
  · rfl
  · cases h
theorem zi_nm_isI {d : zi_Dm} {k : UInt32} : zi_isI (zi_nm d (.float k)) = true := by
  simp only [zi_nm]
  split
  · split <;> rfl
  · rfl
theorem zi_vals_mem {x : Int} {l : zi_Iv} (h : zi_mem x l) : x ∈ zi_vals l := by
  obtain ⟨q, hq, h1, h2⟩ := h
  refine List.mem_flatMap.mpr ⟨q, hq, List.mem_map.mpr ⟨(x - q.1).toNat, List.mem_range.mpr (by omega), by omega⟩⟩
theorem zi_get_at {L : zi_Lc} {k : Nat} {v : Value} {ls : Array Slot} {nL : Nat} (hl : lv_has ls nL (zi_lc ρ b as L)) (h : zi_get L k = some v) : ls[k]? = some (.val (zi_cv ρ b as v)) := by
  unfold zi_get at h
  obtain ⟨q, hq, e⟩ := Option.map_eq_some_iff.mp h
  have hm := List.mem_of_find?_eq_some hq
  have hk : q.1 = k := by simpa using List.find?_some hq
  have := hl.2.2 (q.1, zi_cv ρ b as q.2) (List.mem_map.mpr ⟨q, hm, rfl⟩)
  rw [← e, ← hk]
  exact this
theorem zi_set_lc {L : zi_Lc} {k : Nat} {v : Value} : (k, zi_cv ρ b as v) :: (zi_lc ρ b as L).filter (fun q => !(q.1 == k) && !(q.1 + 1 == k && q.2.category == 2)) = zi_lc ρ b as (zi_set L k v) := by
  unfold zi_lc zi_set
  rw [List.map_cons, List.filter_map]
  congr 2
  apply List.filter_congr
  intro q _
  simp only [Function.comp, zi_cv_cat]
theorem zi_bind_some {α : Type} {xs : List α} {k : α → Option (List zi_Out)} {os : List zi_Out} (h : zi_bind xs k = some os) : ∀ x ∈ xs, ∃ o, k x = some o ∧ ∀ y ∈ o, y ∈ os := by
  induction xs generalizing os with
  | nil => intro x hx; cases hx
  | cons x xs ih =>
    simp only [zi_bind] at h
    split at h
    · cases h
    · rename_i a ha
      split at h
      · cases h
      · rename_i c hc
        cases h
        intro y hy
        rcases List.mem_cons.mp hy with e | e
        · subst e
          exact ⟨a, ha, fun z hz => List.mem_append_left _ hz⟩
        · obtain ⟨o, h1, h2⟩ := ih hc y e
          exact ⟨o, h1, fun z hz => List.mem_append_right _ (h2 z hz)⟩
end ZC
end
section
/-! the words, and what a row must be -/
def zi_Ts : List Cond := lw_tbl.filter goodWord
def zi_tb (t : Nat) (w : Cond) : Bool := decide (lw_tbl[t]? = some w) && goodWord w
theorem zi_tb_in {t : Nat} {w : Cond} (h : zi_tb t w = true) : w ∈ zi_Ts := by
  simp only [zi_tb, Bool.and_eq_true, decide_eq_true_eq] at h
  exact List.mem_filter.mpr ⟨List.mem_of_getElem? h.1, h.2⟩
theorem zi_Ts_good {w : Cond} (h : w ∈ zi_Ts) : (w.onTables && w.keeps) = true ∨ ∃ ty, w = .arrayClass ty := good_of_word (List.mem_filter.mp h).2
def zi_tys (cy : Nat → ClassId) : List (ClassId × FieldType) := [(cy 7, .int), (cy 8, .boolean), (cy 9, .object RX2), (cy 10, .object RX4), (cy 11, .array .int)]
def zi_len (i : Instr) : Nat := match i with
  | .bipush _ | .ldc _ | .iload _ | .aload _ | .istore _ | .astore _ | .newarray _ => 2
  | .sipush _ | .ldc_w _ | .iinc _ _ | .getfield _ | .putfield _ | .goto _ | .ifCond _ _ | .if_icmp _ _ | .invokespecial _ | .invokestatic _ | .invokevirtual _ | .new _ | .anewarray _ => 3
  | .multianewarray _ _ => 4
  | _ => 1
def zi_lok (r : zi_Row) : Bool := match r.2.1 with
  | .tableswitch _ _ _ _ | .lookupswitch _ _ | .ldc2_w _ => true
  | i => decide (r.2.2.1 = zi_len i)
def zi_lk (own : String) (j t : Nat) (y : MethodName) : Bool := if t < 10000 then zi_tb t (.methodLink own j y) else decide (zi_nest[t - 10000]? = some (.methodLinkNest own j y RX5))
def zi_np (y : MethodName) : Option Nat := (parseMethodDescriptor y.desc).map (fun d => d.parameters.length)
def zi_ok (own : String) (ini : Bool) (ms : List zi_Me) (r : zi_Row) : Bool := match r with
  | (pc, i, _, a, b, t, v) => match i with
    | .getfield j => (match vwCl[a]? with | some q => decide (b < q.2.2) && decide ((q.2.1 b).1 = q.1) && zi_tb t (.fieldLink own j q.1 (q.2.1 b).2.1 (q.2.1 b).2.2.1) | none => false)
    | .putfield j => (match vwCl[a]? with | some q => decide (b < q.2.2) && decide ((q.2.1 b).1 = q.1) && zi_tb t (.fieldLink own j q.1 (q.2.1 b).2.1 (q.2.1 b).2.2.1) && (decide ((q.2.1 b).2.2.2 = false) || (ini && decide (q.1 = own))) | none => false)
    | .ldc j => zi_tb t (.constant own j (Int32.ofInt v))
    | .ldc_w j => zi_tb t (.constant own j (Int32.ofInt v))
    | .new j => (match vwCl[a]? with | some q => zi_tb t (.classLink own j q.1) | none => false)
    | .anewarray j => zi_tb t (.classLink own j (if a = 9 then RX2 else RX4))
    | .multianewarray j _ => zi_tb t (.classLink own j ("[" ++ (FieldType.array .int).toString))
    | .goto off => decide ((pc : Int) + off = (a : Int))
    | .ifCond _ off => decide ((pc : Int) + off = (a : Int))
    | .if_icmp _ off => decide ((pc : Int) + off = (a : Int))
    | .tableswitch _ lo hi offs => decide (offs.size = (hi - lo + 1).toNat)
    | .invokespecial j => if a = 999 then zi_tb t (.methodLink own j objectInit) else (match ms[a]?, zi_mt[a]? with
      | some m, some g => zi_lk own j t m.1 && decide (m.1.name = "<init>") && decide (zi_np m.1 = some (b - 1)) && decide (1 ≤ b) && decide (m.2.2.2.1 = none) && zi_tb g.2.2.1 (.instanceMethod m.1)
      | none, _ => true
      | some _, none => false)
    | .invokestatic j => (match ms[a]?, zi_mt[a]? with
      | some m, some g => zi_lk own j t m.1 && decide (zi_np m.1 = some b) && zi_tb g.2.2.1 (.static m.1)
      | none, _ => true
      | some _, none => false)
    | .invokevirtual j => (match ms[a]?, zi_mt[a]? with
      | some m, some g => zi_tb t (.methodLink own j m.1) && decide (zi_np m.1 = some (b - 1)) && decide (1 ≤ b) && (match vwCl[v.toNat]? with | some q => decide (q.1 = m.1.cls) | none => false) && decide (0 ≤ v) && zi_tb g.2.2.1 (.instanceMethod m.1) && zi_tb g.2.2.2.1 (.selects m.1.cls m.1 m.1)
      | none, _ => true
      | some _, none => false)
    | _ => true
/-! the classes -/
def zi_cok (a : Nat) (q : vw_C) : Prop := (∀ w ∈ u_ws q.1 q.2.1 q.2.2, w ∈ zi_Ts) ∧ (∀ k, k < q.2.2 → parseFieldDescriptor (q.2.1 k).2.2.1 = some (zi_ty a k)) ∧ (∀ x, x < q.2.2 → ∀ y, y < q.2.2 → x ≠ y → (q.2.1 x).2.1 ≠ (q.2.1 y).2.1) ∧ q.2.2 = zi_fld a ∧ Cond.instantiable q.1 q.2.2 ∈ zi_Ts ∧ Cond.initialized q.1 ∈ zi_Ts
section ZS
variable {ρ : Nat → Int32} {b0 : Nat} {as : List Nat} {cy : Nat → ClassId}
theorem zi_fit_ok {ty : FieldType} {v : Value} (h : zi_fit ty v = true) : narrow ty (zi_cv ρ b0 as v) = zi_cv ρ b0 as v ∧ fits ty (zi_cv ρ b0 as v) = true := by
  unfold zi_fit at h
  split at h
  · rename_i x
    simp only [Bool.or_eq_true, decide_eq_true_eq] at h
    rcases h with rfl | rfl
    · exact ⟨show narrow .boolean (.int 0) = .int 0 from by decide, show fits .boolean (.int 0) = true from by decide⟩
    · exact ⟨show narrow .boolean (.int 1) = .int 1 from by decide, show fits .boolean (.int 1) = true from by decide⟩
  · exact ⟨rfl, rfl⟩
  · exact ⟨rfl, rfl⟩
  · rename_i n a
    cases a with
    | zero => exact ⟨rfl, rfl⟩
    | succ a => exact ⟨rfl, rfl⟩
  · exact ⟨rfl, rfl⟩
  · rename_i n a
    cases a with
    | zero => exact ⟨rfl, rfl⟩
    | succ a => exact ⟨rfl, rfl⟩
  · exact ⟨rfl, rfl⟩
  · cases h
theorem zi_ce_obj {a : Nat} {fs : List Value} (h : a < 7) : zi_ce ρ b0 as cy (a, fs) = .inr (a, fs.map (zi_cv ρ b0 as)) := by
  unfold zi_ce
  rw [if_pos h]
theorem zi_ce_int {l : List Value} : zi_ce ρ b0 as cy (7, l) = .inl (cy 7, l.length, .inl (fun i => zi_iv ρ (l.getD i (.int 0)))) := by
  unfold zi_ce
  rw [if_neg (by dsimp only; omega), if_pos (by dsimp only; omega)]
theorem zi_ce_boo {l : List Value} : zi_ce ρ b0 as cy (8, l) = .inl (cy 8, l.length, .inl (fun i => zi_iv ρ (l.getD i (.int 0)))) := by
  unfold zi_ce
  rw [if_neg (by dsimp only; omega), if_pos (by dsimp only; omega)]
theorem zi_ce_ref {t : Nat} {l : List Value} (h : 9 ≤ t) : zi_ce ρ b0 as cy (t, l) = .inl (cy t, l.length, .inr (.inr (.inr (.inr (fun i => zi_rv as (l.getD i .null)))))) := by
  unfold zi_ce
  rw [if_neg (by dsimp only; omega), if_neg (by dsimp only; omega)]
theorem zi_in_lt {j : Int32} {n : Nat} (h : zi_in j n = true) : vp_in j n ∧ j.toNatClampNeg < n := by
  have h1 : vp_in j n := by simpa [zi_in, vp_in] using h
  exact ⟨h1, Nat.not_le.mp fun q => h1 (Or.inr q)⟩
theorem zi_upd {l : List Value} {j : Nat} {v : Value} (h : j < l.length) : (fun i => zi_iv ρ ((l.set j v).getD i (.int 0))) = upd (fun i => zi_iv ρ (l.getD i (.int 0))) j (zi_iv ρ v) := by
  funext i
  unfold upd
  by_cases e : i = j
  · subst e
    simp [List.getD_eq_getElem?_getD, h]
  · rw [if_neg e]
    simp [List.getD_eq_getElem?_getD, List.getElem?_set_ne (Ne.symm e)]
theorem zi_updr {l : List Value} {j q : Nat} (h : j < l.length) : (fun i => zi_rv as ((l.set j (.ref (q + 1))).getD i .null)) = va_up (fun i => zi_rv as (l.getD i .null)) j (some (as.getD q 0)) := by
  funext i
  unfold va_up
  by_cases e : i = j
  · subst e
    simp [List.getD_eq_getElem?_getD, h, zi_rv]
  · rw [if_neg e]
    simp [List.getD_eq_getElem?_getD, List.getElem?_set_ne (Ne.symm e)]
theorem zi_ld_at {L : zi_Lc} {d : zi_Dm} {k : Nat} {x : Value} {ls : Array Slot} {nL : Nat} (hr : zi_rho ρ d) (hl : lv_has ls nL (zi_lc ρ b0 as L)) (h : zi_ld L d k = some x) : ls[k]? = some (.val (.int (zi_iv ρ x))) ∧ zi_cv ρ b0 as x = .int (zi_iv ρ x) := by
  unfold zi_ld at h
  split at h
  · rename_i y hy
    cases h
    exact ⟨zi_get_at hl hy, rfl⟩
  · rename_i q hy
    cases h
    refine ⟨?_, zi_cv_iv zi_nm_isI⟩
    rw [zi_nm_iv hr]
    exact zi_get_at hl hy
  · cases h
theorem zi_lda_at {L : zi_Lc} {k : Nat} {x : Value} {ls : Array Slot} {nL : Nat} (hl : lv_has ls nL (zi_lc ρ b0 as L)) (h : zi_lda L k = some x) : ∃ y, ls[k]? = some (.val (.ref y)) ∧ zi_cv ρ b0 as x = .ref y := by
  unfold zi_lda at h
  split at h
  · rename_i r hy
    cases h
    have h1 := zi_get_at hl hy
    cases r with
    | zero => exact ⟨b0, h1, rfl⟩
    | succ r => exact ⟨as.getD r 0, h1, rfl⟩
  · cases h
end ZS
end
section
section ZW
variable {p : Program} {l : Launch} {e : Env} {R : Room} {s : State} {m : MethodId} {args : Array Value} {below : List Frame} {meth : Method} {c : Code} {H : Heap} {locs : List Loc} {cells slots : Nat} {Q : State → Prop}
variable {cc : ByteArray} {ls : Array Slot} {D : va_G} {A : Nat → Prop} {tys : List (ClassId × FieldType)} {H0 : Heap}
variable {ρ : Nat → Int32} {b0 : Nat} {as : List Nat} {cy : Nat → ClassId} {own : String} {ini : Bool} {ms : List zi_Me} {scr : Option (List Value)} {nL : Nat} {d : zi_Dm}
theorem zi_Waald {pc : Nat} {rest : List Value} {cl : List vw_C} {ws : va_W} {a : Nat} (hexec : p.tables.exec = Jvm.exec) (hb : c.code = cc) (hK : va_K D cl tys s) (hP : va_P D cl ws H) (q0 t0 : Nat) {cA : ClassId} {ty : FieldType} (hty : ty.isReference = true) {n : Nat} {f : Nat → Option Nat} (ha : ws[q0]? = some (a, .inl (cA, n, .inr (.inr (.inr (.inr f)))))) (ht : tys[t0]? = some (cA, ty)) {i : Int32} (hin : vp_in i n) (hdg : decode cc pc = .ok (.aaload, 1))
    (kk : W p l e R s m args below meth c H locs cells slots Q (F0 m (pc + 1) ls (va_rf (f i.toNatClampNeg) :: rest))) : W p l e R s m args below meth c H locs cells slots Q (F0 m pc ls (.int i :: .ref a :: rest)) := by
  have hlt : i.toNatClampNeg < n := Nat.not_le.mp fun q => hin (Or.inr q)
  exact W.aald (v := va_rf (f i.toNatClampNeg)) (ty := ty) hexec hb (hP q0 _ ha) ((hK.2 t0 _ ht).1 n (fun j => va_rf (f j))) hty (fun q => by cases q) (by show ¬ (i < 0 ∨ (arrV _ _ _).slots.size ≤ _); rw [arrV_size]; exact hin) (by show (arrV _ _ _).slots[_]? = _; rw [arrV_read _ _ hlt]) rfl rfl hdg kk
def zi_tyOf (t : Nat) : FieldType := match t with
  | 7 => .int | 8 => .boolean | 9 => .object RX2 | 10 => .object RX4 | _ => .array .int
theorem zi_tys_at {t : Nat} (h1 : 7 ≤ t) (h2 : t ≤ 11) : (zi_tys cy)[t - 7]? = some (cy t, zi_tyOf t) := by
  match t, h1, h2 with
  | 7, _, _ => rfl
  | 8, _, _ => rfl
  | 9, _, _ => rfl
  | 10, _, _ => rfl
  | 11, _, _ => rfl
set_option maxHeartbeats 4000000 in
/-- an instruction that goes on behind itself -/
theorem zi_step_sound {r : zi_Row} {L L' : zi_Lc} {st st' : List Value} {h h' : zi_Hp}
    (hx : p.tables.exec = Jvm.exec) (hb : c.code = cc) (hown : s.vm.findClass own = some m.cls) (hts : ∀ w ∈ zi_Ts, w.before args s = true) (hcl : ∀ a q, vwCl[a]? = some q → zi_cok a q) (hini : ini = true → meth.name = "<init>")
    (hX : ∀ sl, scr = some sl → va_X b0 sl.length (fun j => zi_iv ρ (sl.getD j (.int 0))) s H0 ∧ b0 < H0.size ∧ ¬ A b0)
    (hK : va_K D vwCl (zi_tys cy) s) (hrho : zi_rho ρ d)
    (hdg : decode cc r.1 = .ok (r.2.1, r.2.2.1)) (hlen : zi_lok r = true) (hok : zi_ok own ini ms r = true) (hst : zi_step scr nL d r L st h = some (L', st', h'))
    (hl : lv_has ls nL (zi_lc ρ b0 as L)) (hP : va_P D vwCl (zi_w ρ b0 as cy h) H) (hD : va_D A (zi_w ρ b0 as cy h)) (hS : va_S A H0 H locs)
    (kk : ∀ (H1 : Heap) (locs1 : List Loc) (ls1 : Array Slot), va_P D vwCl (zi_w ρ b0 as cy h') H1 → va_D A (zi_w ρ b0 as cy h') → va_S A H0 H1 locs1 → lv_has ls1 nL (zi_lc ρ b0 as L') → h'.length = h.length → W p l e R s m args below meth c H1 locs1 cells slots Q (F0 m (r.1 + r.2.2.1) ls1 (st'.map (zi_cv ρ b0 as)))) :
    W p l e R s m args below meth c H locs cells slots Q (F0 m r.1 ls (st.map (zi_cv ρ b0 as))) := by
  obtain ⟨pc, i, ln, a, b, t, v⟩ := r
  dsimp only at hdg hlen hok hst kk ⊢
  unfold zi_step at hst
  dsimp only at hst
  split at hst
  · -- iconst
    simp only [Option.some.injEq, Prod.mk.injEq] at hst
    obtain ⟨rfl, rfl, rfl⟩ := hst
    have e : ln = 1 := of_decide_eq_true hlen
    subst e
    exact lv_iconst hx hb hdg rfl (kk H locs ls hP hD hS hl rfl)
  · -- bipush
    simp only [Option.some.injEq, Prod.mk.injEq] at hst
    obtain ⟨rfl, rfl, rfl⟩ := hst
    have e : ln = 2 := of_decide_eq_true hlen
    subst e
    exact lv_bipush hx hb hdg rfl (kk H locs ls hP hD hS hl rfl)
  · -- sipush
    simp only [Option.some.injEq, Prod.mk.injEq] at hst
    obtain ⟨rfl, rfl, rfl⟩ := hst
    have e : ln = 3 := of_decide_eq_true hlen
    subst e
    exact lv_sipush hx hb hdg rfl (kk H locs ls hP hD hS hl rfl)
  · -- ldc
    simp only [Option.some.injEq, Prod.mk.injEq] at hst
    obtain ⟨rfl, rfl, rfl⟩ := hst
    have e : ln = 2 := of_decide_eq_true hlen
    subst e
    exact lv_ldc hx hb hown (hts _ (zi_tb_in hok)) hdg (kk H locs ls hP hD hS hl rfl)
  · -- ldc_w
    simp only [Option.some.injEq, Prod.mk.injEq] at hst
    obtain ⟨rfl, rfl, rfl⟩ := hst
    have e : ln = 3 := of_decide_eq_true hlen
    subst e
    exact lv_ldcw hx hb hown (hts _ (zi_tb_in hok)) hdg (kk H locs ls hP hD hS hl rfl)
  · -- iload_n
    obtain ⟨x, h1, h2⟩ := Option.map_eq_some_iff.mp hst
    simp only [Prod.mk.injEq] at h2
    obtain ⟨rfl, rfl, rfl⟩ := h2
    have e : ln = 1 := of_decide_eq_true hlen
    subst e
    obtain ⟨h3, h4⟩ := zi_ld_at hrho hl h1
    have h5 := kk H locs ls hP hD hS hl rfl
    rw [List.map_cons, h4] at h5
    exact lv_iload_n hx hb hdg rfl h3 h5
  · -- iload
    obtain ⟨x, h1, h2⟩ := Option.map_eq_some_iff.mp hst
    simp only [Prod.mk.injEq] at h2
    obtain ⟨rfl, rfl, rfl⟩ := h2
    have e : ln = 2 := of_decide_eq_true hlen
    subst e
    obtain ⟨h3, h4⟩ := zi_ld_at hrho hl h1
    have h5 := kk H locs ls hP hD hS hl rfl
    rw [List.map_cons, h4] at h5
    exact lv_iload hx hb hdg h3 h5
  · -- aload_n
    obtain ⟨x, h1, h2⟩ := Option.map_eq_some_iff.mp hst
    simp only [Prod.mk.injEq] at h2
    obtain ⟨rfl, rfl, rfl⟩ := h2
    have e : ln = 1 := of_decide_eq_true hlen
    subst e
    obtain ⟨y, h3, h4⟩ := zi_lda_at hl h1
    have h5 := kk H locs ls hP hD hS hl rfl
    rw [List.map_cons, h4] at h5
    exact lv_aload_n hx hb hdg rfl h3 h5
  · -- aload
    obtain ⟨x, h1, h2⟩ := Option.map_eq_some_iff.mp hst
    simp only [Prod.mk.injEq] at h2
    obtain ⟨rfl, rfl, rfl⟩ := h2
    have e : ln = 2 := of_decide_eq_true hlen
    subst e
    obtain ⟨y, h3, h4⟩ := zi_lda_at hl h1
    have h5 := kk H locs ls hP hD hS hl rfl
    rw [List.map_cons, h4] at h5
    exact lv_aload hx hb hdg h3 h5
  · -- istore_n
    rename_i k
    split at hst
    · rename_i x rest
      split at hst
      · rename_i hc
        simp only [Option.some.injEq, Prod.mk.injEq] at hst
        obtain ⟨rfl, rfl, rfl⟩ := hst
        have e : ln = 1 := of_decide_eq_true hlen
        subst e
        rw [List.map_cons, zi_cv_iv hc.1]
        exact lv_istore_n hx hb hdg rfl hl hc.2 (by rw [← zi_set_lc, zi_cv_iv hc.1]) (fun ls1 hl1 => kk H locs ls1 hP hD hS hl1 rfl)
      · cases hst
    · cases hst
  · -- istore
    rename_i k
    split at hst
    · rename_i x rest
      split at hst
      · rename_i hc
        simp only [Option.some.injEq, Prod.mk.injEq] at hst
        obtain ⟨rfl, rfl, rfl⟩ := hst
        have e : ln = 2 := of_decide_eq_true hlen
        subst e
        rw [List.map_cons, zi_cv_iv hc.1]
        exact lv_istore hx hb hdg hl hc.2 (by rw [← zi_set_lc, zi_cv_iv hc.1]) (fun ls1 hl1 => kk H locs ls1 hP hD hS hl1 rfl)
      · cases hst
    · cases hst
  · -- astore_n
    rename_i k
    split at hst
    · rename_i x rest
      split at hst
      · rename_i hc
        simp only [Option.some.injEq, Prod.mk.injEq] at hst
        obtain ⟨rfl, rfl, rfl⟩ := hst
        have e : ln = 1 := of_decide_eq_true hlen
        subst e
        obtain ⟨y, hy⟩ : ∃ y, zi_cv ρ b0 as (.ref x) = .ref y := by cases x <;> exact ⟨_, rfl⟩
        rw [List.map_cons, hy]
        exact lv_astore_n hx hb hdg rfl hl hc (by rw [← zi_set_lc, hy]) (fun ls1 hl1 => kk H locs ls1 hP hD hS hl1 rfl)
      · cases hst
    · cases hst
  · -- astore
    rename_i k
    split at hst
    · rename_i x rest
      split at hst
      · rename_i hc
        simp only [Option.some.injEq, Prod.mk.injEq] at hst
        obtain ⟨rfl, rfl, rfl⟩ := hst
        have e : ln = 2 := of_decide_eq_true hlen
        subst e
        obtain ⟨y, hy⟩ : ∃ y, zi_cv ρ b0 as (.ref x) = .ref y := by cases x <;> exact ⟨_, rfl⟩
        rw [List.map_cons, hy]
        exact lv_astore hx hb hdg hl hc (by rw [← zi_set_lc, hy]) (fun ls1 hl1 => kk H locs ls1 hP hD hS hl1 rfl)
      · cases hst
    · cases hst
  · -- iinc
    rename_i k n
    split at hst
    · rename_i x hg
      split at hst
      · rename_i hc
        simp only [Option.some.injEq, Prod.mk.injEq] at hst
        obtain ⟨rfl, rfl, rfl⟩ := hst
        have e : ln = 3 := of_decide_eq_true hlen
        subst e
        obtain ⟨j, hj⟩ : ∃ j : Nat, (zi_lc ρ b0 as L)[j]? = some (k, .int x) := by
          unfold zi_get at hg
          obtain ⟨q, hq, e⟩ := Option.map_eq_some_iff.mp hg
          have hm := List.mem_of_find?_eq_some hq
          have hk : q.1 = k := by simpa using List.find?_some hq
          refine List.getElem?_of_mem (List.mem_map.mpr ⟨q, hm, ?_⟩)
          rw [hk, e]
          rfl
        exact lv_iinc hx hb hdg hl hj rfl hc (by rw [← zi_set_lc]; rfl) (fun ls1 hl1 => kk H locs ls1 hP hD hS hl1 rfl)
      · cases hst
    · cases hst
  · -- iadd
    split at hst
    · simp only [Option.some.injEq, Prod.mk.injEq] at hst
      obtain ⟨rfl, rfl, rfl⟩ := hst
      have e : ln = 1 := of_decide_eq_true hlen
      subst e
      exact lv_iadd hx hb hdg (kk H locs ls hP hD hS hl rfl)
    · cases hst
  · -- isub
    split at hst
    · simp only [Option.some.injEq, Prod.mk.injEq] at hst
      obtain ⟨rfl, rfl, rfl⟩ := hst
      have e : ln = 1 := of_decide_eq_true hlen
      subst e
      exact lv_isub hx hb hdg (kk H locs ls hP hD hS hl rfl)
    · cases hst
  · -- imul
    split at hst
    · simp only [Option.some.injEq, Prod.mk.injEq] at hst
      obtain ⟨rfl, rfl, rfl⟩ := hst
      have e : ln = 1 := of_decide_eq_true hlen
      subst e
      exact lv_imul hx hb hdg (kk H locs ls hP hD hS hl rfl)
    · cases hst
  · -- iand
    split at hst
    · simp only [Option.some.injEq, Prod.mk.injEq] at hst
      obtain ⟨rfl, rfl, rfl⟩ := hst
      have e : ln = 1 := of_decide_eq_true hlen
      subst e
      exact lv_iand hx hb hdg (kk H locs ls hP hD hS hl rfl)
    · rename_i y k rest
      split at hst
      · rename_i hc
        simp only [Option.some.injEq, Prod.mk.injEq] at hst
        obtain ⟨rfl, rfl, rfl⟩ := hst
        have e : ln = 1 := of_decide_eq_true hlen
        subst e
        have h5 := kk H locs ls hP hD hS hl rfl
        have e5 : zi_cv ρ b0 as (.float 5) = .int (ρ 0 &&& 31) := by
          rw [← hrho.2]
          rfl
        rw [List.map_cons, e5] at h5
        have e0 : zi_cv ρ b0 as (.float k) = .int (ρ 0) := by
          show Value.int (ρ k.toNat) = _
          rw [hc.2]
        rw [List.map_cons, List.map_cons, e0, hc.1]
        exact lv_iand hx hb hdg h5
      · cases hst
    · cases hst
  · -- idiv
    split at hst
    · split at hst
      · cases hst
      · rename_i hc
        simp only [Option.some.injEq, Prod.mk.injEq] at hst
        obtain ⟨rfl, rfl, rfl⟩ := hst
        have e : ln = 1 := of_decide_eq_true hlen
        subst e
        exact lv_idiv hx hb hdg hc (kk H locs ls hP hD hS hl rfl)
    · cases hst
  · -- irem
    split at hst
    · split at hst
      · cases hst
      · rename_i hc
        simp only [Option.some.injEq, Prod.mk.injEq] at hst
        obtain ⟨rfl, rfl, rfl⟩ := hst
        have e : ln = 1 := of_decide_eq_true hlen
        subst e
        exact lv_irem hx hb hdg hc (kk H locs ls hP hD hS hl rfl)
    · cases hst
  · -- dup
    split at hst
    · split at hst
      · rename_i hc
        simp only [Option.some.injEq, Prod.mk.injEq] at hst
        obtain ⟨rfl, rfl, rfl⟩ := hst
        have e : ln = 1 := of_decide_eq_true hlen
        subst e
        exact lv_dup hx hb hdg (by rw [zi_cv_cat]; exact hc) (kk H locs ls hP hD hS hl rfl)
      · cases hst
    · cases hst
  · -- dup2
    split at hst
    · split at hst
      · rename_i hc
        simp only [Option.some.injEq, Prod.mk.injEq] at hst
        obtain ⟨rfl, rfl, rfl⟩ := hst
        have e : ln = 1 := of_decide_eq_true hlen
        subst e
        exact lv_dup2_11 hx hb hdg (by rw [zi_cv_cat]; exact hc.1) (by rw [zi_cv_cat]; exact hc.2) (kk H locs ls hP hD hS hl rfl)
      · cases hst
    · cases hst
  · -- getfield
    rename_i j
    split at hst
    · rename_i r rest
      obtain ⟨x, h1, h2⟩ := Option.map_eq_some_iff.mp hst
      simp only [Prod.mk.injEq] at h2
      obtain ⟨rfl, rfl, rfl⟩ := h2
      have e : ln = 3 := of_decide_eq_true hlen
      subst e
      unfold zi_gf at h1
      split at h1
      · rename_i t' fs hr
        split at h1
        · rename_i hc
          obtain ⟨rfl, h7⟩ := hc
          unfold zi_ok at hok
          dsimp only at hok
          split at hok
          · rename_i q hq
            simp only [Bool.and_eq_true, decide_eq_true_eq] at hok
            obtain ⟨⟨k1, k2⟩, k3⟩ := hok
            have he := zi_w_get (ρ := ρ) (b := b0) (as := as) (cy := cy) hr
            rw [zi_ce_obj h7] at he
            exact va_get (D := D) (ci := t') (C := q.1) (T := q.2.1) (N := q.2.2) hx hb hts (hcl _ _ hq).1 hown hK hP r he hq b k1 (hts _ (zi_tb_in k3)) (fun y hy => by rw [← k2]; exact hy) (by rw [List.getElem?_map, h1]; rfl) hdg (kk H locs ls hP hD hS hl rfl)
          · cases hok
        · cases h1
      · cases h1
    · cases hst
  · -- putfield
    rename_i j
    split at hst
    · rename_i x r rest
      obtain ⟨hn, h1, h2⟩ := Option.map_eq_some_iff.mp hst
      simp only [Prod.mk.injEq] at h2
      obtain ⟨rfl, rfl, rfl⟩ := h2
      have e : ln = 3 := of_decide_eq_true hlen
      subst e
      unfold zi_pf at h1
      split at h1
      · rename_i t' fs hr
        split at h1
        · rename_i hc
          obtain ⟨rfl, h7, hbl, hfit⟩ := hc
          cases h1
          unfold zi_ok at hok
          dsimp only at hok
          split at hok
          · rename_i q hq
            simp only [Bool.and_eq_true, Bool.or_eq_true, decide_eq_true_eq] at hok
            obtain ⟨⟨⟨k1, k2⟩, k3⟩, k4⟩ := hok
            have he := zi_w_get (ρ := ρ) (b := b0) (as := as) (cy := cy) hr
            rw [zi_ce_obj h7] at he
            have hcq := hcl _ _ hq
            obtain ⟨n1, n2⟩ := zi_fit_ok (ρ := ρ) (b0 := b0) (as := as) hfit
            have ew : (zi_w ρ b0 as cy h).set r (as.getD r 0, .inr (t', (fs.map (zi_cv ρ b0 as)).set b (zi_cv ρ b0 as x))) = zi_w ρ b0 as cy (h.set r (t', fs.set b x)) := by
              rw [zi_w_set, zi_ce_obj h7, List.map_set]
            have k9 : ∀ (H1 : Heap) (locs1 : List Loc), va_P D vwCl ((zi_w ρ b0 as cy h).set r (as.getD r 0, .inr (t', (fs.map (zi_cv ρ b0 as)).set b (zi_cv ρ b0 as x)))) H1 → va_D A ((zi_w ρ b0 as cy h).set r (as.getD r 0, .inr (t', (fs.map (zi_cv ρ b0 as)).set b (zi_cv ρ b0 as x)))) → va_S A H0 H1 locs1 → W p l e R s m args below meth c H1 locs1 cells slots Q (F0 m (pc + 3) ls (rest.map (zi_cv ρ b0 as))) := by
              intro H1 locs1 p1 p2 p3
              rw [ew] at p1 p2
              exact kk H1 locs1 ls p1 p2 p3 hl (List.length_set ..)
            rcases k4 with k4 | ⟨k4, k5⟩
            · exact va_put (D := D) (ci := t') (ty := zi_ty t' b) (C := q.1) (T := q.2.1) (N := q.2.2) hx hb hts hcq.1 (zi_ty t') hcq.2.1 hcq.2.2.1 hown hK hP hD hS r he hq b k1 (hts _ (zi_tb_in k3)) (fun y hy => by rw [← k2]; exact hy) k4 (hcq.2.1 b k1) n1 n2 (by rw [List.length_map]; exact hbl) hdg k9
            · by_cases k6 : (q.2.1 b).2.2.2 = false
              · exact va_put (D := D) (ci := t') (ty := zi_ty t' b) (C := q.1) (T := q.2.1) (N := q.2.2) hx hb hts hcq.1 (zi_ty t') hcq.2.1 hcq.2.2.1 hown hK hP hD hS r he hq b k1 (hts _ (zi_tb_in k3)) (fun y hy => by rw [← k2]; exact hy) k6 (hcq.2.1 b k1) n1 n2 (by rw [List.length_map]; exact hbl) hdg k9
              · exact va_putF (D := D) (ci := t') (ty := zi_ty t' b) (C := q.1) (T := q.2.1) (N := q.2.2) hx hb hts hcq.1 (zi_ty t') hcq.2.1 hcq.2.2.1 hown hK hP hD hS r he hq b k1 (hts _ (zi_tb_in k3)) (fun y hy => by rw [← k2]; exact hy) (by simpa using k6) (hini k4) (k2.trans k5) (hcq.2.1 b k1) n1 n2 (by rw [List.length_map]; exact hbl) hdg k9
          · cases hok
        · cases h1
      · cases h1
    · cases hst
  · -- iaload
    split at hst
    · rename_i j r rest
      obtain ⟨x, h1, h2⟩ := Option.map_eq_some_iff.mp hst
      simp only [Prod.mk.injEq] at h2
      obtain ⟨rfl, rfl, rfl⟩ := h2
      have e : ln = 1 := of_decide_eq_true hlen
      subst e
      have h5 := kk H locs ls hP hD hS hl rfl
      have hval : ∀ (sl : List Value) (y : Value), sl[j.toNatClampNeg]? = some y → zi_isI y = true → zi_cv ρ b0 as (zi_nm d y) = .int (zi_iv ρ (sl.getD j.toNatClampNeg (.int 0))) := by
        intro sl y hy hi
        rw [zi_nm_cv hrho, zi_cv_iv hi, List.getD_eq_getElem?_getD, hy]
        rfl
      unfold zi_iald at h1
      split at h1
      · split at h1
        · rename_i _ sl
          obtain ⟨x1, x2, x3⟩ := hX _ rfl
          split at h1
          · rename_i hin
            have hv : zi_cv ρ b0 as x = .int (zi_iv ρ (sl.getD j.toNatClampNeg (.int 0))) := by
              split at h1
              · rename_i y hy
                cases h1
                exact hval sl _ hy rfl
              · rename_i q hy
                cases h1
                exact hval sl _ hy rfl
              · cases h1
            rw [List.map_cons, hv] at h5
            exact va_sld hx hb x1 x2 x3 hS (zi_in_lt hin).1 hdg h5
          · cases h1
        · cases h1
      · rename_i r
        split at h1
        · rename_i sl hr
          split at h1
          · rename_i hin
            have hv : zi_cv ρ b0 as x = .int (zi_iv ρ (sl.getD j.toNatClampNeg (.int 0))) := by
              split at h1
              · rename_i y hy
                cases h1
                exact hval sl _ hy rfl
              · rename_i q hy
                cases h1
                exact hval sl _ hy rfl
              · cases h1
            rw [List.map_cons, hv] at h5
            have he := zi_w_get (ρ := ρ) (b := b0) (as := as) (cy := cy) hr
            rw [zi_ce_int] at he
            exact va_iald hx hb hK hP r 0 he rfl (zi_in_lt hin).1 hdg h5
          · cases h1
        · cases h1
    · cases hst
  · -- baload
    split at hst
    · rename_i j r rest
      obtain ⟨x, h1, h2⟩ := Option.map_eq_some_iff.mp hst
      simp only [Prod.mk.injEq] at h2
      obtain ⟨rfl, rfl, rfl⟩ := h2
      have e : ln = 1 := of_decide_eq_true hlen
      subst e
      have h5 := kk H locs ls hP hD hS hl rfl
      unfold zi_bald at h1
      split at h1
      · rename_i sl hr
        split at h1
        · rename_i hin
          split at h1
          · rename_i y hy
            cases h1
            have hv : y = zi_iv ρ (sl.getD j.toNatClampNeg (.int 0)) := by
              rw [List.getD_eq_getElem?_getD, hy]
              rfl
            rw [List.map_cons, hv] at h5
            have he := zi_w_get (ρ := ρ) (b := b0) (as := as) (cy := cy) hr
            rw [zi_ce_boo] at he
            exact va_zald hx hb hK hP r 1 he rfl (zi_in_lt hin).1 hdg h5
          · cases h1
        · cases h1
      · cases h1
    · cases hst
  · -- aaload
    split at hst
    · rename_i j r rest
      obtain ⟨x, h1, h2⟩ := Option.map_eq_some_iff.mp hst
      simp only [Prod.mk.injEq] at h2
      obtain ⟨rfl, rfl, rfl⟩ := h2
      have e : ln = 1 := of_decide_eq_true hlen
      subst e
      have h5 := kk H locs ls hP hD hS hl rfl
      unfold zi_aald at h1
      split at h1
      · rename_i t' sl hr
        split at h1
        · rename_i hin
          simp only [Bool.and_eq_true, decide_eq_true_eq] at hin
          have hv : zi_cv ρ b0 as x = va_rf (zi_rv as (sl.getD j.toNatClampNeg .null)) := by
            split at h1
            · rename_i y hy
              cases h1
              rw [List.getD_eq_getElem?_getD, hy]
              rfl
            · rename_i hy
              cases h1
              rw [List.getD_eq_getElem?_getD, hy]
              rfl
            · cases h1
          rw [List.map_cons, hv] at h5
          have he := zi_w_get (ρ := ρ) (b := b0) (as := as) (cy := cy) hr
          rw [zi_ce_ref hin.1.1] at he
          have hty : (zi_tyOf t').isReference = true := by
            obtain ⟨⟨g1, g2⟩, -⟩ := hin
            match t', g1, g2 with
            | 9, _, _ => rfl
            | 10, _, _ => rfl
            | 11, _, _ => rfl
          exact zi_Waald hx hb hK hP r (t' - 7) hty he (zi_tys_at (by omega) hin.1.2) (zi_in_lt hin.2).1 hdg h5
        · cases h1
      · cases h1
    · cases hst
  · -- iastore
    split at hst
    · rename_i x j r rest
      obtain ⟨hn, h1, h2⟩ := Option.map_eq_some_iff.mp hst
      simp only [Prod.mk.injEq] at h2
      obtain ⟨rfl, rfl, rfl⟩ := h2
      have e : ln = 1 := of_decide_eq_true hlen
      subst e
      unfold zi_iast at h1
      split at h1
      · rename_i sl hr
        split at h1
        · rename_i hin
          simp only [Bool.and_eq_true] at hin
          cases h1
          have he := zi_w_get (ρ := ρ) (b := b0) (as := as) (cy := cy) hr
          rw [zi_ce_int] at he
          rw [List.map_cons, zi_cv_iv hin.2]
          refine va_iast hx hb hK hP hD hS r 0 he rfl (zi_in_lt hin.1).1 hdg (fun H1 locs1 p1 p2 p3 => ?_)
          have ew : (zi_w ρ b0 as cy h).set r (as.getD r 0, .inl (cy 7, sl.length, .inl (upd (fun i => zi_iv ρ (sl.getD i (.int 0))) j.toNatClampNeg (zi_iv ρ x)))) = zi_w ρ b0 as cy (h.set r (7, sl.set j.toNatClampNeg x)) := by
            rw [zi_w_set, zi_ce_int, zi_upd (zi_in_lt hin.1).2, List.length_set]
          rw [ew] at p1 p2
          exact kk H1 locs1 ls p1 p2 p3 hl (List.length_set ..)
        · cases h1
      · cases h1
    · cases hst
  · -- bastore
    split at hst
    · rename_i x j r rest
      obtain ⟨hn, h1, h2⟩ := Option.map_eq_some_iff.mp hst
      simp only [Prod.mk.injEq] at h2
      obtain ⟨rfl, rfl, rfl⟩ := h2
      have e : ln = 1 := of_decide_eq_true hlen
      subst e
      unfold zi_bast at h1
      split at h1
      · rename_i sl hr
        split at h1
        · rename_i hin
          simp only [Bool.and_eq_true, Bool.or_eq_true, decide_eq_true_eq] at hin
          cases h1
          have he := zi_w_get (ρ := ρ) (b := b0) (as := as) (cy := cy) hr
          rw [zi_ce_boo] at he
          have hx1 : vp_nar .boolean x = x := by
            rcases hin.2 with rfl | rfl
            · decide
            · decide
          refine va_zast (x := x) hx hb hK hP hD hS r 1 he rfl (zi_in_lt hin.1).1 hdg (fun H1 locs1 p1 p2 p3 => ?_)
          have ew : (zi_w ρ b0 as cy h).set r (as.getD r 0, .inl (cy 8, sl.length, .inl (upd (fun i => zi_iv ρ (sl.getD i (.int 0))) j.toNatClampNeg (vp_nar .boolean x)))) = zi_w ρ b0 as cy (h.set r (8, sl.set j.toNatClampNeg (.int x))) := by
            rw [zi_w_set, zi_ce_boo, zi_upd (zi_in_lt hin.1).2, List.length_set, hx1]
            rfl
          rw [ew] at p1 p2
          exact kk H1 locs1 ls p1 p2 p3 hl (List.length_set ..)
        · cases h1
      · cases h1
    · cases hst
  · -- aastore
    split at hst
    · rename_i q j r rest
      obtain ⟨hn, h1, h2⟩ := Option.map_eq_some_iff.mp hst
      simp only [Prod.mk.injEq] at h2
      obtain ⟨rfl, rfl, rfl⟩ := h2
      have e : ln = 1 := of_decide_eq_true hlen
      subst e
      unfold zi_aast at h1
      split at h1
      · rename_i t' sl hr
        split at h1
        · rename_i hin
          simp only [Bool.and_eq_true, decide_eq_true_eq] at hin
          split at h1
          · rename_i ci vs hq
            split at h1
            · rename_i hci
              cases h1
              have h9 : 9 ≤ t' := by omega
              have he := zi_w_get (ρ := ρ) (b := b0) (as := as) (cy := cy) hr
              rw [zi_ce_ref h9] at he
              have hv := zi_w_get (ρ := ρ) (b := b0) (as := as) (cy := cy) hq
              have ew : (zi_w ρ b0 as cy h).set r (as.getD r 0, .inl (cy t', sl.length, .inr (.inr (.inr (.inr (va_up (fun i => zi_rv as (sl.getD i .null)) j.toNatClampNeg (some (as.getD q 0)))))))) = zi_w ρ b0 as cy (h.set r (t', sl.set j.toNatClampNeg (.ref (q + 1)))) := by
                rw [zi_w_set, zi_ce_ref h9, zi_updr (zi_in_lt hin.2).2, List.length_set]
              rcases hin.1 with rfl | rfl
              · have hci : ci = 2 := hci
                subst hci
                rw [zi_ce_obj (by omega)] at hv
                refine va_astq hx hb hK hP hD hS r 2 q 2 (r := (RX2, TX2, 4)) he rfl hv rfl (zi_in_lt hin.2).1 hdg (fun H1 locs1 p1 p2 p3 => ?_)
                rw [ew] at p1 p2
                exact kk H1 locs1 ls p1 p2 p3 hl (List.length_set ..)
              · have hci : ci = 4 := hci
                subst hci
                rw [zi_ce_obj (by omega)] at hv
                refine va_astq hx hb hK hP hD hS r 3 q 4 (r := (RX4, TX4, 6)) he rfl hv rfl (zi_in_lt hin.2).1 hdg (fun H1 locs1 p1 p2 p3 => ?_)
                rw [ew] at p1 p2
                exact kk H1 locs1 ls p1 p2 p3 hl (List.length_set ..)
            · cases h1
          · cases h1
        · cases h1
      · cases h1
    · cases hst
  · -- arraylength
    split at hst
    · rename_i r rest
      obtain ⟨x, h1, h2⟩ := Option.map_eq_some_iff.mp hst
      simp only [Prod.mk.injEq] at h2
      obtain ⟨rfl, rfl, rfl⟩ := h2
      have e : ln = 1 := of_decide_eq_true hlen
      subst e
      unfold zi_alen at h1
      split at h1
      · split at h1
        · rename_i sl hsl
          cases h1
          obtain ⟨x1, x2, x3⟩ := hX _ rfl
          exact va_slen hx hb x1 x2 x3 hS hdg (kk H locs ls hP hD hS hl rfl)
        · cases h1
      · rename_i r
        split at h1
        · rename_i t' sl hr
          split at h1
          · rename_i hc
            cases h1
            have he := zi_w_get (ρ := ρ) (b := b0) (as := as) (cy := cy) hr
            have h5 := kk H locs ls hP hD hS hl rfl
            by_cases h9 : 9 ≤ t'
            · rw [zi_ce_ref h9] at he
              exact va_alen hx hb hK hP r (t' - 7) he (zi_tys_at hc.1 hc.2) rfl hdg h5
            · have h78 : t' = 7 ∨ t' = 8 := by omega
              rcases h78 with rfl | rfl
              · rw [zi_ce_int] at he
                exact va_alen hx hb hK hP r 0 he rfl rfl hdg h5
              · rw [zi_ce_boo] at he
                exact va_alen hx hb hK hP r 1 he rfl rfl hdg h5
          · cases h1
        · cases h1
    · cases hst
  · cases hst
end ZW
end
section
section ZN
variable {p : Program} {l : Launch} {e : Env} {R : Room} {s : State} {m : MethodId} {args : Array Value} {below : List Frame} {meth : Method} {c : Code} {H : Heap} {locs : List Loc} {cells slots : Nat} {Q : State → Prop}
variable {cc : ByteArray} {ls : Array Slot} {D : va_G} {A : Nat → Prop} {H0 : Heap}
variable {ρ : Nat → Int32} {b0 : Nat} {as : List Nat} {cy : Nat → ClassId} {own : String} {ini : Bool} {ms : List zi_Me}
theorem zi_zero (n : Nat) : (fun i => zi_iv ρ ((List.replicate n (Value.int 0)).getD i (.int 0))) = fun _ => 0 := by
  funext i
  rw [List.getD_eq_getElem?_getD, List.getElem?_replicate]
  split <;> rfl
theorem zi_nulls (n : Nat) : (fun i => zi_rv as ((List.replicate n Value.null).getD i .null)) = fun _ => none := by
  funext i
  rw [List.getD_eq_getElem?_getD, List.getElem?_replicate]
  split <;> rfl
theorem zi_defs {a : Nat} (h : a < 7) : ((List.range (zi_fld a)).map (fun k => defaultValue (zi_ty a k))).map (zi_cv ρ b0 as) = (List.range (zi_fld a)).map (fun k => defaultValue (zi_ty a k)) := by
  match a, h with
  | 0, _ => rfl
  | 1, _ => rfl
  | 2, _ => rfl
  | 3, _ => rfl
  | 4, _ => rfl
  | 5, _ => rfl
  | 6, _ => rfl
theorem zi_top (q : Nat) (qs : List Nat) {h : zi_Hp} (hl : as.length = h.length) : zi_cv ρ b0 (as ++ q :: qs) (.ref (h.length + 1)) = .ref q := by
  show Value.ref ((as ++ q :: qs).getD h.length 0) = _
  rw [← hl]
  simp [List.getD_eq_getElem?_getD]
theorem zi_one_new {q : Nat} {h : zi_Hp} {c : Nat × List Value} (hl : as.length = h.length) (hw : zi_wfh h = true) : zi_w ρ b0 (as ++ [q]) cy (h ++ [c]) = zi_w ρ b0 as cy h ++ [(q, zi_ce ρ b0 (as ++ [q]) cy c)] := by
  rw [zi_w_grow hl hw]
  rfl
set_option maxHeartbeats 4000000 in
theorem zi_new_sound {r : zi_Row} {L : zi_Lc} {st st' : List Value} {h h' : zi_Hp} {k1 k2 nL : Nat}
    (hx : p.tables.exec = Jvm.exec) (hb : c.code = cc) (hown : s.vm.findClass own = some m.cls) (hts : ∀ w ∈ zi_Ts, w.before args s = true) (hcl : ∀ a q, vwCl[a]? = some q → zi_cok a q)
    (hAI : Cond.arrayClass .int ∈ zi_Ts) (hAZ : Cond.arrayClass .boolean ∈ zi_Ts) (hA2 : va_AO RX2 s) (hA4 : va_AO RX4 s) (hAA : va_AOA .int s)
    (hK : va_K D vwCl (zi_tys cy) s) (hA : ∀ q, H0.size ≤ q → A q)
    (hdg : decode cc r.1 = .ok (r.2.1, r.2.2.1)) (hlen : zi_lok r = true) (hok : zi_ok own ini ms r = true) (hst : zi_new r st h = some (st', h', k1, k2)) (hC : cells + k1 ≤ R.cells) (hSl : slots + k2 ≤ R.slots)
    (hwh : zi_wfh h = true) (hwc : zi_wfc h.length L = true) (hws : zi_wfl h.length st = true) (hln : as.length = h.length)
    (hl : lv_has ls nL (zi_lc ρ b0 as L)) (hP : va_P D vwCl (zi_w ρ b0 as cy h) H) (hD : va_D A (zi_w ρ b0 as cy h)) (hS : va_S A H0 H locs)
    (kk : ∀ (qs : List Nat) (H1 : Heap), va_P D vwCl (zi_w ρ b0 (as ++ qs) cy h') H1 → va_D A (zi_w ρ b0 (as ++ qs) cy h') → va_S A H0 H1 locs → lv_has ls nL (zi_lc ρ b0 (as ++ qs) L) → (as ++ qs).length = h'.length → qs.length ≤ k1 → W p l e R s m args below meth c H1 locs (cells + k1) (slots + k2) Q (F0 m (r.1 + r.2.2.1) ls (st'.map (zi_cv ρ b0 (as ++ qs))))) :
    W p l e R s m args below meth c H locs cells slots Q (F0 m r.1 ls (st.map (zi_cv ρ b0 as))) := by
  obtain ⟨pc, i, ln, a, b, t, v⟩ := r
  dsimp only at hdg hlen hok hst kk ⊢
  unfold zi_new at hst
  dsimp only at hst
  rw [← hln] at hwc hws
  have hlc : ∀ qs : List Nat, lv_has ls nL (zi_lc ρ b0 (as ++ qs) L) := fun qs => by rw [zi_lc_grow hwc]; exact hl
  split at hst
  · -- new
    rename_i j
    split at hst
    · rename_i h7
      simp only [Option.some.injEq, Prod.mk.injEq] at hst
      obtain ⟨rfl, rfl, rfl, rfl⟩ := hst
      have e : ln = 3 := of_decide_eq_true hlen
      subst e
      unfold zi_ok at hok
      dsimp only at hok
      split at hok
      · rename_i q hq
        obtain ⟨u1, u2, u3, u4, u5, u6⟩ := hcl _ _ hq
        obtain ⟨C, T, N⟩ := q
        dsimp only at u1 u2 u3 u4 u5 u6 hok
        subst u4
        refine va_new (C := C) (T := T) (N := zi_fld a) (ci := a) (fs := (List.range (zi_fld a)).map (fun k => defaultValue (zi_ty a k))) hx hb hts u1 (zi_ty a) u2 hown (hts _ (zi_tb_in hok)) (hts _ u5) (hts _ u6) hK hP hD hS hA hq (fun k hk => by simp [vp_V, List.getD_eq_getElem?_getD, hk]) hC hSl hdg (fun q H1 p1 p2 p3 => ?_)
        have ew := zi_one_new (ρ := ρ) (b0 := b0) (cy := cy) (q := q) (c := (a, (List.range (zi_fld a)).map (fun k => defaultValue (zi_ty a k)))) hln hwh
        rw [zi_ce_obj h7, zi_defs h7] at ew
        rw [← ew] at p1 p2
        have h5 := kk [q] H1 p1 p2 p3 (hlc _) (by simp [hln]) (Nat.le_refl _)
        rw [List.map_cons, zi_top q [] hln, zi_cvl_grow hws] at h5
        exact h5
      · cases hok
    · cases hst
  · -- newarray int
    split at hst
    · rename_i n rest
      split at hst
      · cases hst
      · rename_i hn
        simp only [Option.some.injEq, Prod.mk.injEq] at hst
        obtain ⟨rfl, rfl, rfl, rfl⟩ := hst
        have e : ln = 2 := of_decide_eq_true hlen
        subst e
        have hn0 : ¬ n < 0 := fun q => hn (Or.inl q)
        have hn1 : n.toNatClampNeg ≤ 100000 := Nat.not_lt.mp fun q => hn (Or.inr q)
        refine va_newa (atype := .int) (ty := .int) (a0 := (n.toNatClampNeg, .inl (fun _ => 0))) hx hb (hts _ hAI) rfl hK hP hD hS hA (fun cA => rfl) hn0 rfl (by show _ * 4 ≤ _; omega) hC hSl hdg (fun q cA H1 hK1 p1 p2 p3 => ?_)
        have e : cA = cy 7 := Option.some.inj ((hK1.2 5 _ rfl).2.symm.trans (hK.2 0 _ rfl).2)
        subst e
        have ew := zi_one_new (ρ := ρ) (b0 := b0) (cy := cy) (q := q) (c := (7, List.replicate n.toNatClampNeg (.int 0))) hln hwh
        rw [zi_ce_int, zi_zero, List.length_replicate] at ew
        rw [← ew] at p1 p2
        have h5 := kk [q] H1 p1 p2 p3 (hlc _) (by simp [hln]) (Nat.le_refl _)
        rw [List.map_cons, zi_top q [] hln, zi_cvl_grow (by simp only [zi_wfl, List.all_cons, Bool.and_eq_true] at hws ⊢; exact hws.2)] at h5
        exact h5
    · cases hst
  · -- newarray boolean
    split at hst
    · rename_i n rest
      split at hst
      · cases hst
      · rename_i hn
        simp only [Option.some.injEq, Prod.mk.injEq] at hst
        obtain ⟨rfl, rfl, rfl, rfl⟩ := hst
        have e : ln = 2 := of_decide_eq_true hlen
        subst e
        have hn0 : ¬ n < 0 := fun q => hn (Or.inl q)
        have hn1 : n.toNatClampNeg ≤ 100000 := Nat.not_lt.mp fun q => hn (Or.inr q)
        refine va_newa (atype := .boolean) (ty := .boolean) (a0 := (n.toNatClampNeg, .inl (fun _ => 0))) hx hb (hts _ hAZ) rfl hK hP hD hS hA (fun cA => rfl) hn0 rfl (by show _ * 1 ≤ _; omega) hC hSl hdg (fun q cA H1 hK1 p1 p2 p3 => ?_)
        have e : cA = cy 8 := Option.some.inj ((hK1.2 5 _ rfl).2.symm.trans (hK.2 1 _ rfl).2)
        subst e
        have ew := zi_one_new (ρ := ρ) (b0 := b0) (cy := cy) (q := q) (c := (8, List.replicate n.toNatClampNeg (.int 0))) hln hwh
        rw [zi_ce_boo, zi_zero, List.length_replicate] at ew
        rw [← ew] at p1 p2
        have h5 := kk [q] H1 p1 p2 p3 (hlc _) (by simp [hln]) (Nat.le_refl _)
        rw [List.map_cons, zi_top q [] hln, zi_cvl_grow (by simp only [zi_wfl, List.all_cons, Bool.and_eq_true] at hws ⊢; exact hws.2)] at h5
        exact h5
    · cases hst
  · -- anewarray
    rename_i j
    split at hst
    · rename_i n rest
      split at hst
      · cases hst
      · rename_i hn
        simp only [Option.some.injEq, Prod.mk.injEq] at hst
        obtain ⟨rfl, rfl, rfl, rfl⟩ := hst
        have e : ln = 3 := of_decide_eq_true hlen
        subst e
        have hn0 : ¬ n < 0 := fun q => hn (Or.inl q)
        have hn1 : n.toNatClampNeg ≤ 100000 := Nat.not_lt.mp fun q => hn (Or.inr (Or.inl q))
        have ha : a = 9 ∨ a = 10 := Classical.not_not.mp fun q => hn (Or.inr (Or.inr q))
        have hok : zi_tb t (.classLink own j (if a = 9 then RX2 else RX4)) = true := hok
        have h9 : 9 ≤ a := by omega
        have kq : ∀ (q : Nat) (H1 : Heap), va_P D vwCl (zi_w ρ b0 as cy h ++ [(q, .inl (cy a, n.toNatClampNeg, .inr (.inr (.inr (.inr (fun _ => none))))))]) H1 → va_D A (zi_w ρ b0 as cy h ++ [(q, .inl (cy a, n.toNatClampNeg, .inr (.inr (.inr (.inr (fun _ => none))))))]) → va_S A H0 H1 locs → W p l e R s m args below meth c H1 locs (cells + 1) (slots + n.toNatClampNeg) Q (F0 m (pc + 3) ls (.ref q :: rest.map (zi_cv ρ b0 as))) := by
          intro q H1 p1 p2 p3
          have ew := zi_one_new (ρ := ρ) (b0 := b0) (cy := cy) (q := q) (c := (a, List.replicate n.toNatClampNeg .null)) hln hwh
          rw [zi_ce_ref h9, zi_nulls, List.length_replicate] at ew
          rw [← ew] at p1 p2
          have h5 := kk [q] H1 p1 p2 p3 (hlc _) (by simp [hln]) (Nat.le_refl _)
          rw [List.map_cons, zi_top q [] hln, zi_cvl_grow (by simp only [zi_wfl, List.all_cons, Bool.and_eq_true] at hws ⊢; exact hws.2)] at h5
          exact h5
        rcases ha with rfl | rfl
        · refine va_newq (C := RX2) hx hb hown (hts _ (zi_tb_in hok)) hA2 hK hP hD hS hA hn0 rfl (by omega) hC hSl hdg (fun q cA H1 hK1 p1 p2 p3 => ?_)
          obtain ⟨-, -, -, -, -, f1⟩ := (hK1.2 5 _ rfl).2
          obtain ⟨-, -, -, -, -, f2⟩ := (hK.2 2 _ rfl).2
          have e : cA = cy 9 := Option.some.inj (f1.symm.trans f2)
          subst e
          exact kq q H1 p1 p2 p3
        · refine va_newq (C := RX4) hx hb hown (hts _ (zi_tb_in hok)) hA4 hK hP hD hS hA hn0 rfl (by omega) hC hSl hdg (fun q cA H1 hK1 p1 p2 p3 => ?_)
          obtain ⟨-, -, -, -, -, f1⟩ := (hK1.2 5 _ rfl).2
          obtain ⟨-, -, -, -, -, f2⟩ := (hK.2 3 _ rfl).2
          have e : cA = cy 10 := Option.some.inj (f1.symm.trans f2)
          subst e
          exact kq q H1 p1 p2 p3
    · cases hst
  · -- multianewarray
    rename_i j
    split at hst
    · rename_i k n rest
      split at hst
      · cases hst
      · rename_i hn
        simp only [Option.some.injEq, Prod.mk.injEq] at hst
        obtain ⟨rfl, rfl, rfl, rfl⟩ := hst
        have e : ln = 4 := of_decide_eq_true hlen
        subst e
        have hn0 : ¬ n < 0 := fun q => hn (Or.inl q)
        have hk0 : ¬ k < 0 := fun q => hn (Or.inr (Or.inl q))
        have hn1 : n.toNatClampNeg ≤ 100000 := Nat.not_lt.mp fun q => hn (Or.inr (Or.inr (Or.inl q)))
        have hk1 : k.toNatClampNeg ≤ 100000 := Nat.not_lt.mp fun q => hn (Or.inr (Or.inr (Or.inr q)))
        have hok : zi_tb t (.classLink own j ("[" ++ (FieldType.array .int).toString)) = true := hok
        have f7 : s.vm.findClass (FieldType.array .int).toString = some (cy 7) := (hK.2 0 _ rfl).2
        refine va_mna (X := zi_w ρ b0 as cy h) (L := []) (f := fun _ => .inr (0, [])) (ty := .int) (cy := cy 7) (z := (k.toNatClampNeg, .inl (fun _ => 0))) hx hb hown (hts _ (zi_tb_in hok)) hAA (hts _ hAI) f7 hK (by simpa [va_pl] using hP) (by simpa [va_pl] using hD) hS hA hn0 hk0 rfl rfl (by omega) (by show _ * 4 ≤ _; omega) (by omega) rfl rfl hC hSl (fun c0 => arrV_new c0 _ _) hdg (fun q r cA H1 hinj hnot hK1 p1 p2 p3 => ?_)
        have e : cA = cy 11 := Option.some.inj ((hK1.2 5 _ rfl).2.symm.trans (hK.2 4 _ rfl).2)
        subst e
        have ew : (zi_w ρ b0 as cy h ++ [(q, .inl (cy 11, n.toNatClampNeg, .inr (.inr (.inr (.inr (fun i => if i < n.toNatClampNeg then some (r i) else none))))))]) ++ va_pl ([] ++ (List.range n.toNatClampNeg).map r) (vr_up (fun _ => .inr (0, [])) ((List.range n.toNatClampNeg).map r) (.inl (cy 7, (k.toNatClampNeg, .inl (fun _ => 0))))) = zi_w ρ b0 (as ++ q :: (List.range n.toNatClampNeg).map r) cy (h ++ (11, (List.range n.toNatClampNeg).map (fun i => .ref (h.length + 2 + i))) :: List.replicate n.toNatClampNeg (7, List.replicate k.toNatClampNeg (.int 0))) := by
          rw [zi_w_grow hln hwh, List.append_assoc, List.mapIdx_cons]
          congr 1
          rw [List.singleton_append]
          congr 1
          · rw [zi_ce_ref (by omega)]
            have e1 : (fun i => zi_rv (as ++ q :: (List.range n.toNatClampNeg).map r) (((List.range n.toNatClampNeg).map (fun i => Value.ref (h.length + 2 + i))).getD i .null)) = (fun i => if i < n.toNatClampNeg then some (r i) else none) := by
              funext i
              by_cases hi : i < n.toNatClampNeg
              · rw [if_pos hi]
                have e2 : ((List.range n.toNatClampNeg).map (fun i => Value.ref (h.length + 2 + i))).getD i .null = .ref ((h.length + 1 + i) + 1) := by
                  rw [List.getD_eq_getElem?_getD, List.getElem?_map, List.getElem?_range hi]
                  have e9 : h.length + 2 + i = h.length + 1 + i + 1 := by omega
                  exact congrArg Value.ref e9
                rw [e2]
                show some ((as ++ q :: (List.range n.toNatClampNeg).map r).getD (h.length + 1 + i) 0) = _
                rw [← hln, List.getD_eq_getElem?_getD, List.getElem?_append_right (by omega)]
                have e3 : as.length + 1 + i - as.length = i + 1 := by omega
                rw [e3]
                simp [hi]
              · rw [if_neg hi]
                have e2 : ((List.range n.toNatClampNeg).map (fun i => Value.ref (h.length + 2 + i))).getD i .null = .null := by
                  simp [List.getD_eq_getElem?_getD, hi]
                rw [e2]
                rfl
            rw [e1]
            simp
          · apply List.ext_getElem?
            intro i
            unfold va_pl
            rw [List.getElem?_mapIdx]
            have e7 : ∀ xs : List Nat, zi_ce ρ b0 xs cy (7, List.replicate k.toNatClampNeg (.int 0)) = .inl (cy 7, k.toNatClampNeg, .inl (fun _ => 0)) := fun xs => by rw [zi_ce_int, zi_zero, List.length_replicate]
            by_cases hi : i < n.toNatClampNeg
            · simp only [List.nil_append, List.getElem?_map, List.getElem?_range hi, List.getElem?_replicate, if_pos hi, Option.map_some, e7, List.getD_eq_getElem?_getD, List.getElem?_cons_succ, Option.getD_some]
              rw [vr_up_in (List.mem_map.mpr ⟨i, List.mem_range.mpr hi, rfl⟩)]
            · simp [hi]
        rw [ew] at p1 p2
        have h5 := kk (q :: (List.range n.toNatClampNeg).map r) H1 p1 p2 p3 (hlc _) (by simp [hln]) (by simp; omega)
        rw [List.map_cons, zi_top q _ hln, zi_cvl_grow (by simp only [zi_wfl, List.all_cons, Bool.and_eq_true] at hws ⊢; exact hws.2.2), ← Nat.add_assoc, ← Nat.add_assoc] at h5
        exact h5
    · cases hst
  · cases hst
end ZN
end
section
/-! what the tables say beside the words -/
def zi_Nst (U : State) : Prop := (∀ w ∈ zi_nest, va_Nw w U) ∧ va_AO RX2 U ∧ va_AO RX4 U ∧ va_AOA .int U
theorem zi_nest_k : ∀ w ∈ zi_nest, ∃ (a : String) (i : Nat) (x : MethodName) (h : String), w = Cond.methodLinkNest a i x h := by
  intro w hw
  simp only [zi_nest, List.mem_cons, List.not_mem_nil, or_false] at hw
  rcases hw with rfl | rfl | rfl | rfl | rfl | rfl | rfl | rfl | rfl <;> exact ⟨_, _, _, _, rfl⟩
theorem zi_Nst.warm {s U : State} (hW : s.WarmedH U.vm) (h : zi_Nst s) : zi_Nst U := by
  refine ⟨fun w hw => ?_, h.2.1.moved hW.alike, h.2.2.1.moved hW.alike, Jvm.Stand.arrayOver_alikeB hW.alike h.2.2.2⟩
  obtain ⟨a, i, x, g, rfl⟩ := zi_nest_k w hw
  exact va_Nw.warmM hW (h.1 _ hw)
theorem zi_Nst.same {u U : State} (e : u.vm = U.vm) (h : zi_Nst u) : zi_Nst U := by
  have ha : u.vm.Alike U.vm := by rw [← e]; exact Vm.Alike.refl u.vm
  refine ⟨fun w hw => ?_, h.2.1.moved ha, h.2.2.1.moved ha, Jvm.Stand.arrayOver_alikeB ha h.2.2.2⟩
  obtain ⟨a, i, x, g, rfl⟩ := zi_nest_k w hw
  exact va_Nw.same rfl e (h.1 _ hw)
/-! a method's contract -/
def zi_Pc (ρ : Nat → Int32) (b0 : Nat) (as : List Nat) (cy : Nat → ClassId) (D : va_G) (sz : Nat) (h : zi_Hp) (vs : List Value) : Array Value → State → Prop :=
  va_Pc (vs.map (zi_cv ρ b0 as)) (fun U => U.heap.size = sz ∧ va_P D vwCl (zi_w ρ b0 as cy h) U.heap ∧ va_K D vwCl (zi_tys cy) U ∧ va_D (fun _ => True) (zi_w ρ b0 as cy h) ∧ zi_Nst U)
def zi_Qc (ρ : Nat → Int32) (b0 : Nat) (as : List Nat) (cy : Nat → ClassId) (D : va_G) (sz : Nat) (h : zi_Hp) (mc : Nat) (os : List zi_Out) : Array Value → State → Outcome → State → Prop :=
  fun _ st oc t => ∃ o ∈ os, zi_rho ρ o.1 ∧ ∃ qs : List Nat, qs.length ≤ mc ∧ (as ++ qs).length = o.2.2.length ∧ oc = .returned (o.2.1.map (zi_cv ρ b0 (as ++ qs))) ∧ va_P D vwCl (zi_w ρ b0 (as ++ qs) cy o.2.2) t.heap ∧ va_D (va_A (zi_w ρ b0 as cy h) sz) (zi_w ρ b0 (as ++ qs) cy o.2.2) ∧ va_F (va_A (zi_w ρ b0 as cy h) sz) st t
abbrev zi_wsM (mt : zi_Me) : List Cond := Cond.code mt.1 mt.2.1 mt.2.2.1 mt.2.2.2.1 :: zi_Ts
abbrev zi_rm (mt : zi_Me) (dp : Nat) : Room := { frames := dp, cells := mt.2.2.2.2.2.1, slots := mt.2.2.2.2.2.2, locals := 40 * dp }
def zi_callOk (l : Launch) (ms : List zi_Me) (call : Nat → List Value → zi_Hp → zi_Dm → Option (List zi_Out)) (dp : Nat) : Prop :=
  ∀ (a : Nat) (mt : zi_Me), ms[a]? = some mt → ∀ (vs : List Value) (h : zi_Hp) (d : zi_Dm) (os : List zi_Out), call a vs h d = some os → ∀ (ρ : Nat → Int32) (b0 : Nat) (as : List Nat) (cy : Nat → ClassId) (D : va_G) (sz : Nat), zi_rho ρ d → as.length = h.length →
    Met l mt.1 (zi_wsM mt) (zi_rm mt dp) (zi_Pc ρ b0 as cy D sz h vs) (zi_Qc ρ b0 as cy D sz h mt.2.2.2.2.2.1 os) mt.2.2.2.2.2.1 mt.2.2.2.2.2.2 (va_A (zi_w ρ b0 as cy h) sz)
/-- what is known of each method -/
def zi_mOk (ms : List zi_Me) : Prop := ∀ (a : Nat) (mt : zi_Me), ms[a]? = some mt → Cond.code mt.1 mt.2.1 mt.2.2.1 mt.2.2.2.1 ∈ zi_Ts ∧ Cond.initialized mt.1.cls ∈ zi_Ts ∧ plainName mt.1.cls = true ∧ (mt.1.cls ≠ "java/lang/invoke/MethodHandle" ∧ mt.1.cls ≠ "java/lang/invoke/VarHandle") ∧ mt.2.2.1 ≤ 21 ∧
  ∀ r ∈ mt.2.2.2.2.1, decode mt.2.1 r.1 = .ok (r.2.1, r.2.2.1) ∧ zi_lok r = true ∧ zi_ok mt.1.cls (decide (mt.1.name = "<init>")) ms r = true
theorem zi_goodM {ms : List zi_Me} (h : zi_mOk ms) {a : Nat} {mt : zi_Me} (e : ms[a]? = some mt) : GoodIn zi_Ts (zi_wsM mt) := by
  intro w hw
  rcases List.mem_cons.mp hw with rfl | hw
  · exact ⟨(h a mt e).1, zi_Ts_good (h a mt e).1⟩
  · exact ⟨hw, zi_Ts_good hw⟩
theorem zi_catsum (l : List Value) : (l.map fun v => v.category).sum ≤ 2 * l.length := by
  induction l with
  | nil => simp
  | cons v l ih =>
    have : v.category ≤ 2 := by rcases lv_cat v with h | h <;> omega
    simp only [List.map_cons, List.sum_cons, List.length_cons]
    omega
section ZB
variable {p : Program} {l : Launch} {e : Env} {R : Room} {s : State} {m : MethodId} {args : Array Value} {below : List Frame} {meth : Method} {c : Code} {H : Heap} {locs : List Loc} {cells slots : Nat} {Q : State → Prop}
variable {cc : ByteArray} {ls : Array Slot} {D : va_G} {A : Nat → Prop} {pc : Nat} {rest : List Value}
variable {ρ : Nat → Int32} {b0 : Nat} {as : List Nat} {cy : Nat → ClassId}
theorem zi_Wif {cnd : ClassFile.Cond} {x : Int32} {off : Int} {tgt : Nat} (hx : p.tables.exec = Jvm.exec) (hb : c.code = cc) (hdg : decode cc pc = .ok (.ifCond cnd off, 3)) (ht : (pc : Int) + off = (tgt : Int))
    (kt : zi_cmp cnd x 0 = true → W p l e R s m args below meth c H locs cells slots Q (F0 m tgt ls rest)) (kf : ¬ zi_cmp cnd x 0 = true → W p l e R s m args below meth c H locs cells slots Q (F0 m (pc + 3) ls rest)) : W p l e R s m args below meth c H locs cells slots Q (F0 m pc ls (.int x :: rest)) := by
  cases cnd <;> simp only [zi_cmp, decide_eq_true_eq] at kt kf
  · exact lv_if_eq hx hb hdg ht kt kf
  · exact lv_if_ne hx hb hdg ht kt (fun h => kf (fun n => n h))
  · exact lv_if_lt hx hb hdg ht kt kf
  · exact lv_if_ge hx hb hdg ht kt kf
  · exact lv_if_gt hx hb hdg ht kt kf
  · exact lv_if_le hx hb hdg ht kt kf
theorem zi_Wicmp {cnd : ClassFile.Cond} {x y : Int32} {off : Int} {tgt : Nat} (hx : p.tables.exec = Jvm.exec) (hb : c.code = cc) (hdg : decode cc pc = .ok (.if_icmp cnd off, 3)) (ht : (pc : Int) + off = (tgt : Int))
    (kt : zi_cmp cnd x y = true → W p l e R s m args below meth c H locs cells slots Q (F0 m tgt ls rest)) (kf : ¬ zi_cmp cnd x y = true → W p l e R s m args below meth c H locs cells slots Q (F0 m (pc + 3) ls rest)) : W p l e R s m args below meth c H locs cells slots Q (F0 m pc ls (.int y :: .int x :: rest)) := by
  cases cnd <;> simp only [zi_cmp, decide_eq_true_eq] at kt kf
  · exact lv_icmp_eq hx hb hdg ht kt kf
  · exact lv_icmp_ne hx hb hdg ht kt (fun h => kf (fun n => n h))
  · exact lv_icmp_lt hx hb hdg ht kt kf
  · exact lv_icmp_ge hx hb hdg ht kt kf
  · exact lv_icmp_gt hx hb hdg ht kt kf
  · exact lv_icmp_le hx hb hdg ht kt kf
/-- behind a call -/
theorem zi_Wcall {a : Array Value} {h : zi_Hp} {os : List zi_Out} {mc mS : Nat} {st0 : List Value}
    (hr : va_Run p l e R s m args below meth c H locs cells slots mc mS (F0 m pc ls st0) rest (zi_Qc ρ b0 as cy D H.size h mc os a) (va_A (zi_w ρ b0 as cy h) H.size))
    (hA : ∀ q, s.heap.size ≤ q → A q) (hD : va_D A (zi_w ρ b0 as cy h)) (hS : va_S A s.heap H locs)
    (kk : ∀ o ∈ os, zi_rho ρ o.1 → ∀ (qs : List Nat) (H1 : Heap) (locs1 : List Loc), qs.length ≤ mc → (as ++ qs).length = o.2.2.length → va_P D vwCl (zi_w ρ b0 (as ++ qs) cy o.2.2) H1 → va_D A (zi_w ρ b0 (as ++ qs) cy o.2.2) → va_S A s.heap H1 locs1 → W p l e R s m args below meth c H1 locs1 (cells + mc) (slots + mS) Q (F0 m (pc + 3) ls ((o.2.1.map (zi_cv ρ b0 (as ++ qs))).toList ++ rest))) :
    W p l e R s m args below meth c H locs cells slots Q (F0 m pc ls st0) := by
  have hF : ∀ q, va_A (zi_w ρ b0 as cy h) H.size q → A q := fun q hq => by
    rcases hq with ⟨k, x, hk⟩ | hq
    · exact hD.2 k (q, x) hk
    · exact hA q (Nat.le_trans hS.1 hq)
  intro T hT X
  obtain ⟨v, st₀, t, T', L, h0, X', hL, e1, e2, ⟨o, ho, hrho, qs, q1, q2, hv, hp, hd, hz, hk⟩, st⟩ := hr T hT X
  have hv : v = o.2.1.map (zi_cv ρ b0 (as ++ qs)) := by injection hv
  subst hv
  rw [h0] at hz hk
  obtain ⟨t2, a1, b1⟩ := kk o ho hrho qs T'.heap (locs ++ L) q1 q2 (by rw [e1]; exact hp) (hd.weaken (fun _ q _ h => hF q.1 h))
    ⟨Nat.le_trans hS.1 (by rw [e1]; exact hz), fun q h1 h2 => by rw [e1, hk q (Nat.lt_of_lt_of_le h1 hS.1) (fun z => h2 (hF q z))]; exact hS.2.1 q h1 h2, fun q hq => by
      rcases List.mem_append.mp hq with h | h
      · exact hS.2.2 q h
      · exact hF _ (hL q h)⟩ T' rfl X'
  exact ⟨t2, st t2 a1, b1⟩
theorem zi_blind {sz : Nat} {h : zi_Hp} {vs : List Value} : FrameBlind (zi_Pc ρ b0 as cy D sz h vs) := by
  intro a U g mk q
  obtain ⟨q0, q1, qP, qK, qD, qN⟩ := q
  exact ⟨q0, q1, qP, va_K.moved (u := U) (U := U.calling g mk a) (Vm.Alike.refl U.vm) qK, qD, zi_Nst.same (u := U) (U := U.calling g mk a) rfl qN⟩
theorem zi_pre {h : zi_Hp} {vs : List Value} (hP : va_P D vwCl (zi_w ρ b0 as cy h) H) (hK : va_K D vwCl (zi_tys cy) s) (hD : va_D A (zi_w ρ b0 as cy h)) (hN : zi_Nst s) :
    ∀ U : State, U.heap = H → s.WarmedH U.vm → zi_Pc ρ b0 as cy D H.size h vs (vs.map (zi_cv ρ b0 as)).toArray U := fun U hU hW =>
  ⟨rfl, by rw [hU], by rw [hU]; exact hP, va_K.moved hW.alike hK, hD.weaken (fun _ _ _ _ => trivial), hN.warm hW⟩
end ZB
theorem zi_ask_st {ρ : Nat → Int32} {b0 : Nat} {as : List Nat} {i : Instr} {st : List Value} {k : UInt32} {f : Int32 → List Value} (h : zi_ask i st = some (k, f)) : (f (ρ k.toNat)).map (zi_cv ρ b0 as) = st.map (zi_cv ρ b0 as) := by
  unfold zi_ask at h
  split at h
  all_goals first
    | cases h; done
    | (split at h
       · cases h; rfl
       · cases h)
end
section
section ZA
variable {p : Program} {l : Launch} {e : Env} {R : Room} {s : State} {m : MethodId} {args : Array Value} {below : List Frame} {meth : Method} {c : Code} {Q : State → Prop}
variable {cc : ByteArray} {D : va_G} {A : Nat → Prop} {ρ : Nat → Int32} {b0 : Nat} {as0 : List Nat} {cy : Nat → ClassId} {own : String} {ini : Bool} {ms : List zi_Me} {scr : Option (List Value)} {nL mc mS dp : Nat} {ret : Option FieldType} {code0 : List zi_Row}
variable {call : Nat → List Value → zi_Hp → zi_Dm → Option (List zi_Out)} {OUT : List zi_Out}
set_option maxHeartbeats 8000000 in
theorem zi_go_sound
    (hx : p.tables.exec = Jvm.exec) (hb : c.code = cc) (hml : c.maxLocals = nL) (hown : s.vm.findClass own = some m.cls) (hts : ∀ w ∈ zi_Ts, w.before args s = true) (hcl : ∀ a q, vwCl[a]? = some q → zi_cok a q) (hini : ini = true → meth.name = "<init>")
    (hX : ∀ sl, scr = some sl → va_X b0 sl.length (fun j => zi_iv ρ (sl.getD j (.int 0))) s s.heap ∧ b0 < s.heap.size ∧ ¬ A b0)
    (hN : zi_Nst s) (hAI : Cond.arrayClass .int ∈ zi_Ts) (hAZ : Cond.arrayClass .boolean ∈ zi_Ts) (hoI : Cond.instanceMethod objectInit ∈ zi_Ts) (hoC : Cond.code objectInit ⟨#[0xb1]⟩ 1 none ∈ zi_Ts)
    (hK : va_K D vwCl (zi_tys cy) s) (hA : ∀ q, s.heap.size ≤ q → A q)
    (hRf : dp + 1 ≤ R.frames) (hRl : 40 * (dp + 1) ≤ R.locals) (hRc : mc ≤ R.cells) (hRs : mS ≤ R.slots)
    (hcode : ∀ r ∈ code0, decode cc r.1 = .ok (r.2.1, r.2.2.1) ∧ zi_lok r = true ∧ zi_ok own ini ms r = true)
    (hms : zi_mOk ms) (hcall : zi_callOk l ms call dp)
    (hleaf : ∀ (pc : Nat) (ls : Array Slot) (st : List Value) (o : zi_Out) (H : Heap) (locs : List Loc) (kc ks : Nat) (as : List Nat), o ∈ OUT → zi_rho ρ o.1 → (∃ qs, as = as0 ++ qs ∧ qs.length ≤ kc) → as.length = o.2.2.length → kc ≤ mc → ks ≤ mS →
      va_P D vwCl (zi_w ρ b0 as cy o.2.2) H → va_D A (zi_w ρ b0 as cy o.2.2) → va_S A s.heap H locs →
      ((decode cc pc = .ok (.ireturn, 1) ∧ ∃ v, o.2.1 = some v ∧ zi_retOk ret v = true ∧ st = [v]) ∨ (decode cc pc = .ok (.areturn, 1) ∧ ∃ x, o.2.1 = some (.ref x) ∧ zi_retA ret = true ∧ st = [.ref x]) ∨ (decode cc pc = .ok (.return_, 1) ∧ o.2.1 = none ∧ ret = none ∧ st = [])) →
      W p l e R s m args below meth c H locs kc ks Q (F0 m pc ls (st.map (zi_cv ρ b0 as)))) :
    ∀ (n pc : Nat) (L : zi_Lc) (st : List Value) (h : zi_Hp) (d : zi_Dm) (kc ks : Nat) (os : List zi_Out), zi_go ms scr nL ret code0 mc mS call n pc L st h d kc ks = some os → (∀ o ∈ os, o ∈ OUT) → zi_rho ρ d → kc ≤ mc → ks ≤ mS →
      ∀ (as : List Nat) (H : Heap) (locs : List Loc) (ls : Array Slot), (∃ qs, as = as0 ++ qs ∧ qs.length ≤ kc) → as.length = h.length → lv_has ls nL (zi_lc ρ b0 as L) → va_P D vwCl (zi_w ρ b0 as cy h) H → va_D A (zi_w ρ b0 as cy h) → va_S A s.heap H locs →
      W p l e R s m args below meth c H locs kc ks Q (F0 m pc ls (st.map (zi_cv ρ b0 as))) := by
  intro n
  induction n with
  | zero =>
    intro pc L st h d kc ks os hgo
    simp only [zi_go] at hgo
    cases hgo
  | succ n ih =>
    intro pc L st h d kc ks os hgo hos hrho hkc hks as H locs ls has hln hl hP hD hS
    unfold zi_go at hgo
    split at hgo
    · cases hgo
    rename_i r hfind
    have hrm : r ∈ code0 := List.mem_of_find?_eq_some hfind
    have hpc : r.1 = pc := by simpa using List.find?_some hfind
    obtain ⟨hdg, hlen, hok⟩ := hcode r hrm
    subst hpc
    split at hgo
    · -- an unknown index
      rename_i k f hask
      split at hgo
      · cases hgo
      rename_i dl hdl
      split at hgo
      · have hm := hrho.1 _ _ hdl
        obtain ⟨o, h1, h2⟩ := zi_bind_some hgo _ (zi_vals_mem hm)
        have h3 := ih _ _ _ _ _ _ _ _ h1 (fun y hy => hos y (h2 y hy)) (zi_rho_set hrho ⟨_, List.mem_singleton.mpr rfl, Int.le_refl _, Int.le_refl _⟩) hkc hks as H locs ls has hln hl hP hD hS
        rw [Int32.ofInt_toInt, zi_ask_st hask] at h3
        exact h3
      · cases hgo
    rename_i hask
    split at hgo
    · -- ireturn
      rename_i hi
      have hdg' : decode cc r.1 = .ok (.ireturn, 1) := by
        have e1 : r.2.2.1 = 1 := by
          have h := hlen
          unfold zi_lok at h
          rw [hi] at h
          exact of_decide_eq_true h
        rw [hdg, hi, e1]
      split at hgo
      · rename_i v
        split at hgo
        · rename_i hr
          cases hgo
          exact hleaf _ ls [v] _ H locs kc ks as (hos _ (List.mem_singleton.mpr rfl)) hrho has hln hkc hks hP hD hS (Or.inl ⟨hdg', v, rfl, hr, rfl⟩)
        · cases hgo
      · cases hgo
    · -- areturn
      rename_i hi
      have hdg' : decode cc r.1 = .ok (.areturn, 1) := by
        have e1 : r.2.2.1 = 1 := by
          have h := hlen
          unfold zi_lok at h
          rw [hi] at h
          exact of_decide_eq_true h
        rw [hdg, hi, e1]
      split at hgo
      · rename_i x
        split at hgo
        · rename_i hr
          cases hgo
          exact hleaf _ ls [.ref x] _ H locs kc ks as (hos _ (List.mem_singleton.mpr rfl)) hrho has hln hkc hks hP hD hS (Or.inr (Or.inl ⟨hdg', x, rfl, hr, rfl⟩))
        · cases hgo
      · cases hgo
    · -- return
      rename_i hi
      have hdg' : decode cc r.1 = .ok (.return_, 1) := by
        have e1 : r.2.2.1 = 1 := by
          have h := hlen
          unfold zi_lok at h
          rw [hi] at h
          exact of_decide_eq_true h
        rw [hdg, hi, e1]
      split at hgo
      · split at hgo
        · rename_i hr
          cases hgo
          exact hleaf _ ls [] _ H locs kc ks as (hos _ (List.mem_singleton.mpr rfl)) hrho has hln hkc hks hP hD hS (Or.inr (Or.inr ⟨hdg', rfl, hr, rfl⟩))
        · cases hgo
      · cases hgo
    · -- goto
      rename_i off hi
      obtain ⟨pc, i, ln, a, b, t, v⟩ := r
      dsimp only at hi hgo hdg hlen hok hask hfind hrm ⊢
      subst hi
      have e1 : ln = 3 := of_decide_eq_true hlen
      subst e1
      have e2 : (pc : Int) + off = (a : Int) := of_decide_eq_true hok
      exact lv_goto hx hb hdg e2 (ih _ _ _ _ _ _ _ _ hgo hos hrho hkc hks as H locs ls has hln hl hP hD hS)
    · -- if
      rename_i cnd off hi
      obtain ⟨pc, i, ln, a, b, t, v⟩ := r
      dsimp only at hi hgo hdg hlen hok hask hfind hrm ⊢
      subst hi
      have e1 : ln = 3 := of_decide_eq_true hlen
      subst e1
      have e2 : (pc : Int) + off = (a : Int) := of_decide_eq_true hok
      split at hgo
      · rename_i x rest
        refine zi_Wif hx hb hdg e2 (fun hc => ?_) (fun hc => ?_)
        · rw [if_pos hc] at hgo
          exact ih _ _ _ _ _ _ _ _ hgo hos hrho hkc hks as H locs ls has hln hl hP hD hS
        · rw [if_neg hc] at hgo
          exact ih _ _ _ _ _ _ _ _ hgo hos hrho hkc hks as H locs ls has hln hl hP hD hS
      · rename_i k rest
        split at hgo
        · cases hgo
        rename_i dl hdl
        have hm := hrho.1 _ _ hdl
        have key : ∀ (q : zi_Iv × Nat), q ∈ [(zi_T cnd 0 dl, a), (zi_T (zi_neg cnd) 0 dl, pc + 3)] → zi_mem (ρ k.toNat).toInt q.1 → W p l e R s m args below meth c H locs kc ks Q (F0 m q.2 ls (rest.map (zi_cv ρ b0 as))) := by
          intro q hq hqm
          obtain ⟨o, h1, h2⟩ := zi_bind_some hgo q hq
          have hne : q.1.isEmpty = false := by
            obtain ⟨y, hy, -⟩ := hqm
            cases hq1 : q.1 with
            | nil => rw [hq1] at hy; cases hy
            | cons _ _ => rfl
          rw [hne] at h1
          exact ih _ _ _ _ _ _ _ _ h1 (fun y hy => hos y (h2 y hy)) (zi_rho_set hrho hqm) hkc hks as H locs ls has hln hl hP hD hS
        refine zi_Wif (x := ρ k.toNat) hx hb hdg e2 (fun hc => ?_) (fun hc => ?_)
        · exact key (_, _) List.mem_cons_self (zi_T_mem hm (zi_lo _) (zi_hi _) (zi_cmp_hold.mp hc))
        · refine key (_, _) (List.mem_cons_of_mem _ List.mem_cons_self) (zi_T_mem hm (zi_lo _) (zi_hi _) ?_)
          rcases zi_hold_neg cnd (ρ k.toNat).toInt 0 with h1 | h1
          · exact absurd (zi_cmp_hold.mpr h1) hc
          · exact h1
      · cases hgo
    · -- if_icmp
      rename_i cnd off hi
      obtain ⟨pc, i, ln, a, b, t, v⟩ := r
      dsimp only at hi hgo hdg hlen hok hask hfind hrm ⊢
      subst hi
      have e1 : ln = 3 := of_decide_eq_true hlen
      subst e1
      have e2 : (pc : Int) + off = (a : Int) := of_decide_eq_true hok
      split at hgo
      · rename_i y x rest
        refine zi_Wicmp hx hb hdg e2 (fun hc => ?_) (fun hc => ?_)
        · rw [if_pos hc] at hgo
          exact ih _ _ _ _ _ _ _ _ hgo hos hrho hkc hks as H locs ls has hln hl hP hD hS
        · rw [if_neg hc] at hgo
          exact ih _ _ _ _ _ _ _ _ hgo hos hrho hkc hks as H locs ls has hln hl hP hD hS
      · rename_i y k rest
        split at hgo
        · cases hgo
        rename_i dl hdl
        have hm := hrho.1 _ _ hdl
        have key : ∀ (q : zi_Iv × Nat), q ∈ [(zi_T cnd y.toInt dl, a), (zi_T (zi_neg cnd) y.toInt dl, pc + 3)] → zi_mem (ρ k.toNat).toInt q.1 → W p l e R s m args below meth c H locs kc ks Q (F0 m q.2 ls (rest.map (zi_cv ρ b0 as))) := by
          intro q hq hqm
          obtain ⟨o, h1, h2⟩ := zi_bind_some hgo q hq
          have hne : q.1.isEmpty = false := by
            obtain ⟨y, hy, -⟩ := hqm
            cases hq1 : q.1 with
            | nil => rw [hq1] at hy; cases hy
            | cons _ _ => rfl
          rw [hne] at h1
          exact ih _ _ _ _ _ _ _ _ h1 (fun y hy => hos y (h2 y hy)) (zi_rho_set hrho hqm) hkc hks as H locs ls has hln hl hP hD hS
        refine zi_Wicmp (x := ρ k.toNat) (y := y) hx hb hdg e2 (fun hc => ?_) (fun hc => ?_)
        · exact key (_, _) List.mem_cons_self (zi_T_mem hm (zi_lo _) (zi_hi _) (zi_cmp_hold.mp hc))
        · refine key (_, _) (List.mem_cons_of_mem _ List.mem_cons_self) (zi_T_mem hm (zi_lo _) (zi_hi _) ?_)
          rcases zi_hold_neg cnd (ρ k.toNat).toInt y.toInt with h1 | h1
          · exact absurd (zi_cmp_hold.mpr h1) hc
          · exact h1
      · rename_i k x rest
        split at hgo
        · cases hgo
        rename_i dl hdl
        have hm := hrho.1 _ _ hdl
        have key : ∀ (q : zi_Iv × Nat), q ∈ [(zi_T (zi_swap cnd) x.toInt dl, a), (zi_T (zi_neg (zi_swap cnd)) x.toInt dl, pc + 3)] → zi_mem (ρ k.toNat).toInt q.1 → W p l e R s m args below meth c H locs kc ks Q (F0 m q.2 ls (rest.map (zi_cv ρ b0 as))) := by
          intro q hq hqm
          obtain ⟨o, h1, h2⟩ := zi_bind_some hgo q hq
          have hne : q.1.isEmpty = false := by
            obtain ⟨y, hy, -⟩ := hqm
            cases hq1 : q.1 with
            | nil => rw [hq1] at hy; cases hy
            | cons _ _ => rfl
          rw [hne] at h1
          exact ih _ _ _ _ _ _ _ _ h1 (fun y hy => hos y (h2 y hy)) (zi_rho_set hrho hqm) hkc hks as H locs ls has hln hl hP hD hS
        refine zi_Wicmp (x := x) (y := ρ k.toNat) hx hb hdg e2 (fun hc => ?_) (fun hc => ?_)
        · exact key (_, _) List.mem_cons_self (zi_T_mem hm (zi_lo _) (zi_hi _) (zi_hold_swap.mpr (zi_cmp_hold.mp hc)))
        · refine key (_, _) (List.mem_cons_of_mem _ List.mem_cons_self) (zi_T_mem hm (zi_lo _) (zi_hi _) ?_)
          rcases zi_hold_neg (zi_swap cnd) (ρ k.toNat).toInt x.toInt with h1 | h1
          · exact absurd (zi_cmp_hold.mpr (zi_hold_swap.mp h1)) hc
          · exact h1
      · cases hgo
    · -- tableswitch
      rename_i dflt lo hi' offs hi
      obtain ⟨pc, i, ln, a, b, t, v⟩ := r
      dsimp only at hi hgo hdg hlen hok hask hfind hrm ⊢
      subst hi
      have e2 : offs.size = (hi' - lo + 1).toNat := of_decide_eq_true hok
      split at hgo
      · rename_i x rest
        split at hgo
        · rename_i hc
          split at hgo
          · rename_i ht
            exact lv_tableOut hx hb hdg hc ht (ih _ _ _ _ _ _ _ _ hgo hos hrho hkc hks as H locs ls has hln hl hP hD hS)
          · cases hgo
        · rename_i hc
          split at hgo
          · rename_i off hoff
            split at hgo
            · rename_i ht
              exact lv_tableIn hx hb hdg (fun q => hc (Or.inl q)) (fun q => hc (Or.inr q)) hoff ht (ih _ _ _ _ _ _ _ _ hgo hos hrho hkc hks as H locs ls has hln hl hP hD hS)
            · cases hgo
          · cases hgo
      · rename_i k rest
        split at hgo
        · cases hgo
        rename_i dl hdl
        have hm := hrho.1 _ _ hdl
        have key : ∀ (q : zi_Iv × Int), q ∈ ((zi_T .lt lo dl, dflt) :: (zi_T .gt hi' dl, dflt) :: (List.range (hi' - lo + 1).toNat).map (fun (j : Nat) => (zi_T .eq (lo + (j : Int)) dl, offs[j]?.getD 0))) → zi_mem (ρ k.toNat).toInt q.1 → ∃ tg : Nat, (pc : Int) + q.2 = (tg : Int) ∧ W p l e R s m args below meth c H locs kc ks Q (F0 m tg ls (rest.map (zi_cv ρ b0 as))) := by
          intro q hq hqm
          obtain ⟨o, h1, h2⟩ := zi_bind_some hgo q hq
          have hne : q.1.isEmpty = false := by
            obtain ⟨y, hy, -⟩ := hqm
            cases hq1 : q.1 with
            | nil => rw [hq1] at hy; cases hy
            | cons _ _ => rfl
          rw [hne] at h1
          simp only [Bool.false_eq_true, if_false] at h1
          split at h1
          · rename_i ht
            exact ⟨_, ht, ih _ _ _ _ _ _ _ _ h1 (fun y hy => hos y (h2 y hy)) (zi_rho_set hrho hqm) hkc hks as H locs ls has hln hl hP hD hS⟩
          · cases h1
        by_cases c1 : (ρ k.toNat).toInt < lo
        · obtain ⟨tg, g1, g2⟩ := key (_, _) List.mem_cons_self (zi_T_mem (c := .lt) hm (zi_lo _) (zi_hi _) c1)
          exact lv_tableOut (x := ρ k.toNat) hx hb hdg (Or.inl c1) g1 g2
        · by_cases c2 : hi' < (ρ k.toNat).toInt
          · obtain ⟨tg, g1, g2⟩ := key (_, _) (List.mem_cons_of_mem _ List.mem_cons_self) (zi_T_mem (c := .gt) hm (zi_lo _) (zi_hi _) c2)
            exact lv_tableOut (x := ρ k.toNat) hx hb hdg (Or.inr c2) g1 g2
          · have hj : ((ρ k.toNat).toInt - lo).toNat < (hi' - lo + 1).toNat := by omega
            obtain ⟨tg, g1, g2⟩ := key (_, _) (List.mem_cons_of_mem _ (List.mem_cons_of_mem _ (List.mem_map.mpr ⟨((ρ k.toNat).toInt - lo).toNat, List.mem_range.mpr hj, rfl⟩))) (zi_T_mem (c := .eq) hm (zi_lo _) (zi_hi _) (show (ρ k.toNat).toInt = lo + (((ρ k.toNat).toInt - lo).toNat : Int) by omega))
            have hs : offs[((ρ k.toNat).toInt - lo).toNat]? = some (offs[((ρ k.toNat).toInt - lo).toNat]?.getD 0) := by
              rw [← e2] at hj
              simp [hj]
            exact lv_tableIn (x := ρ k.toNat) hx hb hdg c1 c2 hs g1 g2
      · cases hgo
    · -- invokespecial
      rename_i j hi
      obtain ⟨pc, i, ln, a, b, t, v⟩ := r
      dsimp only at hi hgo hdg hlen hok hask hfind hrm ⊢
      subst hi
      have e1 : ln = 3 := of_decide_eq_true hlen
      subst e1
      split at hgo
      · rename_i ha
        subst ha
        split at hgo
        · rename_i x rest
          split at hgo
          · rename_i hr4
            have hok : zi_tb t (.methodLink own j objectInit) = true := hok
            have hcs := zi_catsum (rest.map (zi_cv ρ b0 as))
            rw [List.length_map] at hcs
            refine W.objInit (a := as.getD x 0) (rest := rest.map (zi_cv ρ b0 as)) hx hb hown (hts _ (zi_tb_in hok)) (hts _ hoI) (hts _ hoC) rfl (by rw [hml]; exact hl.1) rfl hdg (by omega) (by show 2 * 0 + _ + 12 ≤ _; omega) ?_
            exact ih _ _ _ _ _ _ _ _ hgo hos hrho hkc hks as H locs ls has hln hl hP hD hS
          · cases hgo
        · cases hgo
      · rename_i ha
        split at hgo
        · cases hgo
        rename_i mt hmt
        split at hgo
        · rename_i hc
          obtain ⟨c1, c2, c3, c4, c5, c6⟩ := hc
          split at hgo
          · rename_i x tl hvs
            split at hgo
            · cases hgo
            rename_i os1 hcl1
            obtain ⟨m1, m2, m3, m4, m5, -⟩ := hms a mt hmt
            unfold zi_ok at hok
            dsimp only at hok
            rw [if_neg ha, hmt] at hok
            have hst : st = st.take b ++ st.drop b := (List.take_append_drop b st).symm
            have hcs := zi_catsum ((st.drop b).map (zi_cv ρ b0 as))
            rw [List.length_map] at hcs
            have hM := hcall a mt hmt (.ref (x + 1) :: tl) h d os1 hcl1 ρ b0 as cy D H.size hrho hln
            have hblind := zi_blind (ρ := ρ) (b0 := b0) (as := as) (cy := cy) (D := D) (sz := H.size) (h := h) (vs := .ref (x + 1) :: tl)
            have hpre := zi_pre (vs := .ref (x + 1) :: tl) hP hK hD hN
            have hgood := zi_goodM hms hmt
            have hR : (zi_rm mt dp).frames + 1 ≤ R.frames ∧ 8 + (mt.2.2.1 + 11) + (zi_rm mt dp).locals ≤ R.locals := ⟨hRf, by show 8 + (mt.2.2.1 + 11) + 40 * dp ≤ R.locals; omega⟩
            have hvl : (st.take b).reverse.length = b := by simp [c4]
            have htk : st.take b = tl.reverse ++ [.ref (x + 1)] := by
              have := congrArg List.reverse hvs
              simpa using this
            have hstk : (st.map (zi_cv ρ b0 as)) = (tl.map (zi_cv ρ b0 as)).reverse ++ .ref (as.getD x 0) :: (st.drop b).map (zi_cv ρ b0 as) := by
              conv => lhs; rw [hst, htk]
              simp [zi_cv]
            have hnl : (tl.map (zi_cv ρ b0 as)).length = b - 1 := by
              rw [hvs] at hvl
              simp only [List.length_cons] at hvl
              rw [List.length_map]
              omega
            cases hmt2 : zi_mt[a]? with
            | none => rw [hmt2] at hok; cases hok
            | some g =>
              rw [hmt2] at hok
              simp only [Bool.and_eq_true, decide_eq_true_eq] at hok
              obtain ⟨⟨⟨⟨⟨k1, k2⟩, k3⟩, k4⟩, k5⟩, k6⟩ := hok
              have kfin : ∀ (hr : va_Run p l e R s m args below meth c H locs kc ks mt.2.2.2.2.2.1 mt.2.2.2.2.2.2 (F0 m pc ls (st.map (zi_cv ρ b0 as))) ((st.drop b).map (zi_cv ρ b0 as)) (zi_Qc ρ b0 as cy D H.size h mt.2.2.2.2.2.1 os1 ((Value.ref (x + 1) :: tl).map (zi_cv ρ b0 as)).toArray) (va_A (zi_w ρ b0 as cy h) H.size)), W p l e R s m args below meth c H locs kc ks Q (F0 m pc ls (st.map (zi_cv ρ b0 as))) := by
                intro hr
                refine zi_Wcall hr hA hD hS (fun o ho ro qs H1 locs1 q1 q2 p1 p2 p3 => ?_)
                obtain ⟨o1, g1, g2⟩ := zi_bind_some hgo o ho
                obtain ⟨q0, e0, l0⟩ := has
                have h3 := ih _ _ _ _ _ _ _ _ g1 (fun y hy => hos y (g2 y hy)) ro c2 c3 (as ++ qs) H1 locs1 ls ⟨q0 ++ qs, by rw [e0, List.append_assoc], by rw [List.length_append]; omega⟩ q2 (by rw [← hln] at c5; rw [zi_lc_grow c5]; exact hl) p1 p2 p3
                rw [List.map_append] at h3
                rw [← hln] at c6
                rw [zi_cvl_grow c6] at h3
                have e9 : (o.2.1.map (zi_cv ρ b0 (as ++ qs))).toList = o.2.1.toList.map (zi_cv ρ b0 (as ++ qs)) := by
                  cases o.2.1 <;> rfl
                rw [e9]
                exact h3
              apply kfin
              have hn : mt.2.2.2.1 = none := k5
              have hws : zi_wsM mt = Cond.code mt.1 mt.2.1 mt.2.2.1 none :: zi_Ts := by rw [← hn]
              unfold zi_lk at k1
              split at k1
              · exact va_runI (As := tl.map (zi_cv ρ b0 as)) (b := as.getD x 0) ⟨hx, hb, hml, hown, hts⟩ hM ⟨callB_of (b - 1) hts hgood hws rfl rfl (hts _ m2) (hts _ (zi_tb_in k1)) ⟨m4.1, m4.2, k3⟩ hR, k2, hts _ (zi_tb_in k6)⟩ ⟨hblind, hpre⟩ rfl hnl hl.1 hstk (lv_room (by omega)) hdg ⟨by omega, by omega⟩
              · have k1 := of_decide_eq_true k1
                exact va_runIN (As := tl.map (zi_cv ρ b0 as)) (b := as.getD x 0) (host := RX5) ⟨hx, hb, hml, hown, hts⟩ hM ⟨va_cnB (b - 1) hts hgood hws rfl rfl (hN.1 _ (List.mem_of_getElem? k1)) (hts _ m2) ⟨m4.1, m4.2, k3⟩ hR, k2, hts _ (zi_tb_in k6)⟩ ⟨hblind, hpre⟩ rfl hnl hl.1 hstk (lv_room (by omega)) hdg ⟨by omega, by omega⟩
          · cases hgo
        · cases hgo
    · -- invokestatic
      rename_i j hi
      obtain ⟨pc, i, ln, a, b, t, v⟩ := r
      dsimp only at hi hgo hdg hlen hok hask hfind hrm ⊢
      subst hi
      have e1 : ln = 3 := of_decide_eq_true hlen
      subst e1
      split at hgo
      · cases hgo
      rename_i mt hmt
      split at hgo
      · rename_i hc
        obtain ⟨c1, c2, c3, c4, c5, c6⟩ := hc
        split at hgo
        · cases hgo
        rename_i os1 hcl1
        obtain ⟨m1, m2, m3, m4, m5, -⟩ := hms a mt hmt
        unfold zi_ok at hok
        dsimp only at hok
        rw [hmt] at hok
        have hvl : (st.take b).reverse.length = b := by simp [c4]
        have hst : st = st.take b ++ st.drop b := (List.take_append_drop b st).symm
        have hcs := zi_catsum ((st.drop b).map (zi_cv ρ b0 as))
        rw [List.length_map] at hcs
        have hM := hcall a mt hmt ((st.take b).reverse) h d os1 hcl1 ρ b0 as cy D H.size hrho hln
        have hblind := zi_blind (ρ := ρ) (b0 := b0) (as := as) (cy := cy) (D := D) (sz := H.size) (h := h) (vs := (st.take b).reverse)
        have hpre := zi_pre (vs := (st.take b).reverse) hP hK hD hN
        have hgood := zi_goodM hms hmt
        have hR : (zi_rm mt dp).frames + 1 ≤ R.frames ∧ 8 + (mt.2.2.1 + 11) + (zi_rm mt dp).locals ≤ R.locals := ⟨hRf, by show 8 + (mt.2.2.1 + 11) + 40 * dp ≤ R.locals; omega⟩
        have hstk : (st.map (zi_cv ρ b0 as)) = ((st.take b).reverse.map (zi_cv ρ b0 as)).reverse ++ (st.drop b).map (zi_cv ρ b0 as) := by
          conv => lhs; rw [hst]
          rw [List.map_append]
          congr 1
          rw [← List.map_reverse, List.reverse_reverse]
        have hnl : ((st.take b).reverse.map (zi_cv ρ b0 as)).length = b := by rw [List.length_map]; exact hvl
        cases hmt2 : zi_mt[a]? with
        | none => rw [hmt2] at hok; cases hok
        | some g =>
          rw [hmt2] at hok
          simp only [Bool.and_eq_true, decide_eq_true_eq] at hok
          obtain ⟨⟨k1, k3⟩, k6⟩ := hok
          have kfin : ∀ (hr : va_Run p l e R s m args below meth c H locs kc ks mt.2.2.2.2.2.1 mt.2.2.2.2.2.2 (F0 m pc ls (st.map (zi_cv ρ b0 as))) ((st.drop b).map (zi_cv ρ b0 as)) (zi_Qc ρ b0 as cy D H.size h mt.2.2.2.2.2.1 os1 ((st.take b).reverse.map (zi_cv ρ b0 as)).toArray) (va_A (zi_w ρ b0 as cy h) H.size)), W p l e R s m args below meth c H locs kc ks Q (F0 m pc ls (st.map (zi_cv ρ b0 as))) := by
            intro hr
            refine zi_Wcall hr hA hD hS (fun o ho ro qs H1 locs1 q1 q2 p1 p2 p3 => ?_)
            obtain ⟨o1, g1, g2⟩ := zi_bind_some hgo o ho
            obtain ⟨q0, e0, l0⟩ := has
            have h3 := ih _ _ _ _ _ _ _ _ g1 (fun y hy => hos y (g2 y hy)) ro c2 c3 (as ++ qs) H1 locs1 ls ⟨q0 ++ qs, by rw [e0, List.append_assoc], by rw [List.length_append]; omega⟩ q2 (by rw [← hln] at c5; rw [zi_lc_grow c5]; exact hl) p1 p2 p3
            rw [List.map_append] at h3
            rw [← hln] at c6
            rw [zi_cvl_grow c6] at h3
            have e9 : (o.2.1.map (zi_cv ρ b0 (as ++ qs))).toList = o.2.1.toList.map (zi_cv ρ b0 (as ++ qs)) := by
              cases o.2.1 <;> rfl
            rw [e9]
            exact h3
          apply kfin
          unfold zi_lk at k1
          split at k1
          · exact va_runS (As := (st.take b).reverse.map (zi_cv ρ b0 as)) ⟨hx, hb, hml, hown, hts⟩ hM ⟨callB_of b hts hgood rfl rfl rfl (hts _ m2) (hts _ (zi_tb_in k1)) ⟨m4.1, m4.2, k3⟩ hR, hts _ (zi_tb_in k6)⟩ ⟨hblind, hpre⟩ rfl hnl hl.1 hstk (lv_room (by omega)) hdg ⟨by omega, by omega⟩
          · have k1 := of_decide_eq_true k1
            exact va_runSN (As := (st.take b).reverse.map (zi_cv ρ b0 as)) (host := RX5) ⟨hx, hb, hml, hown, hts⟩ hM ⟨va_cnB b hts hgood rfl rfl rfl (hN.1 _ (List.mem_of_getElem? k1)) (hts _ m2) ⟨m4.1, m4.2, k3⟩ hR, hts _ (zi_tb_in k6), trivial⟩ ⟨hblind, hpre⟩ rfl hnl hl.1 hstk (lv_room (by omega)) hdg ⟨by omega, by omega⟩
      · cases hgo
    · -- invokevirtual
      rename_i j hi
      obtain ⟨pc, i, ln, a, b, t, v⟩ := r
      dsimp only at hi hgo hdg hlen hok hask hfind hrm ⊢
      subst hi
      have e1 : ln = 3 := of_decide_eq_true hlen
      subst e1
      split at hgo
      · cases hgo
      rename_i mt hmt
      split at hgo
      · rename_i hc
        obtain ⟨c1, c2, c3, c4, c5, c6⟩ := hc
        split at hgo
        · rename_i x tl hvs
          split at hgo
          · rename_i t' fs hxc
            split at hgo
            · rename_i hcx
              split at hgo
              · cases hgo
              rename_i os1 hcl1
              obtain ⟨m1, m2, m3, m4, m5, -⟩ := hms a mt hmt
              unfold zi_ok at hok
              dsimp only at hok
              rw [hmt] at hok
              have hst : st = st.take b ++ st.drop b := (List.take_append_drop b st).symm
              have hcs := zi_catsum ((st.drop b).map (zi_cv ρ b0 as))
              rw [List.length_map] at hcs
              have hM := hcall a mt hmt (.ref (x + 1) :: tl) h d os1 hcl1 ρ b0 as cy D H.size hrho hln
              have hblind := zi_blind (ρ := ρ) (b0 := b0) (as := as) (cy := cy) (D := D) (sz := H.size) (h := h) (vs := .ref (x + 1) :: tl)
              have hpre := zi_pre (vs := .ref (x + 1) :: tl) hP hK hD hN
              have hgood := zi_goodM hms hmt
              have hR : (zi_rm mt dp).frames + 1 ≤ R.frames ∧ 8 + (mt.2.2.1 + 11) + (zi_rm mt dp).locals ≤ R.locals := ⟨hRf, by show 8 + (mt.2.2.1 + 11) + 40 * dp ≤ R.locals; omega⟩
              have hvl : (st.take b).reverse.length = b := by simp [c4]
              have htk : st.take b = tl.reverse ++ [.ref (x + 1)] := by
                have := congrArg List.reverse hvs
                simpa using this
              have hstk : (st.map (zi_cv ρ b0 as)) = (tl.map (zi_cv ρ b0 as)).reverse ++ .ref (as.getD x 0) :: (st.drop b).map (zi_cv ρ b0 as) := by
                conv => lhs; rw [hst, htk]
                simp [zi_cv]
              have hnl : (tl.map (zi_cv ρ b0 as)).length = b - 1 := by
                rw [hvs] at hvl
                simp only [List.length_cons] at hvl
                rw [List.length_map]
                omega
              cases hmt2 : zi_mt[a]? with
              | none => rw [hmt2] at hok; cases hok
              | some g =>
                rw [hmt2] at hok
                simp only [Bool.and_eq_true, decide_eq_true_eq] at hok
                obtain ⟨⟨⟨⟨⟨⟨k1, k3⟩, k4⟩, k5⟩, k7⟩, k6⟩, k8⟩ := hok
                split at k5
                · rename_i q hq
                  have k5 : q.1 = mt.1.cls := of_decide_eq_true k5
                  have e7 : v.toNat = t' := by omega
                  rw [e7] at hq
                  have he := zi_w_get (ρ := ρ) (b := b0) (as := as) (cy := cy) hxc
                  rw [zi_ce_obj hcx.2] at he
                  have hrv := va_recv hK hP hq he
                  rw [k5] at hrv
                  have kfin : ∀ (hr : va_Run p l e R s m args below meth c H locs kc ks mt.2.2.2.2.2.1 mt.2.2.2.2.2.2 (F0 m pc ls (st.map (zi_cv ρ b0 as))) ((st.drop b).map (zi_cv ρ b0 as)) (zi_Qc ρ b0 as cy D H.size h mt.2.2.2.2.2.1 os1 ((Value.ref (x + 1) :: tl).map (zi_cv ρ b0 as)).toArray) (va_A (zi_w ρ b0 as cy h) H.size)), W p l e R s m args below meth c H locs kc ks Q (F0 m pc ls (st.map (zi_cv ρ b0 as))) := by
                    intro hr
                    refine zi_Wcall hr hA hD hS (fun o ho ro qs H1 locs1 q1 q2 p1 p2 p3 => ?_)
                    obtain ⟨o1, g1, g2⟩ := zi_bind_some hgo o ho
                    obtain ⟨q0, e0, l0⟩ := has
                    have h3 := ih _ _ _ _ _ _ _ _ g1 (fun y hy => hos y (g2 y hy)) ro c2 c3 (as ++ qs) H1 locs1 ls ⟨q0 ++ qs, by rw [e0, List.append_assoc], by rw [List.length_append]; omega⟩ q2 (by rw [← hln] at c5; rw [zi_lc_grow c5]; exact hl) p1 p2 p3
                    rw [List.map_append] at h3
                    rw [← hln] at c6
                    rw [zi_cvl_grow c6] at h3
                    have e9 : (o.2.1.map (zi_cv ρ b0 (as ++ qs))).toList = o.2.1.toList.map (zi_cv ρ b0 (as ++ qs)) := by
                      cases o.2.1 <;> rfl
                    rw [e9]
                    exact h3
                  apply kfin
                  exact va_runV (As := tl.map (zi_cv ρ b0 as)) (b := as.getD x 0) (C := mt.1.cls) ⟨hx, hb, hml, hown, hts⟩ hM ⟨callB_of (b - 1) hts hgood rfl rfl rfl (hts _ m2) (hts _ (zi_tb_in k1)) ⟨m4.1, m4.2, k3⟩ hR, hts _ (zi_tb_in k6), hts _ (zi_tb_in k8)⟩ ⟨hblind, hrv, hpre⟩ rfl hnl hl.1 hstk (lv_room (by omega)) hdg ⟨by omega, by omega⟩
                · cases k5
            · cases hgo
          · cases hgo
        · cases hgo
      · cases hgo
    · -- the rest
      split at hgo
      · rename_i st' h' k1 k2 hnew
        split at hgo
        · rename_i hc
          obtain ⟨c1, c2, c3, c4, c5⟩ := hc
          refine zi_new_sound hx hb hown hts hcl hAI hAZ hN.2.1 hN.2.2.1 hN.2.2.2 hK hA hdg hlen hok hnew (by omega) (by omega) c3 c4 c5 hln hl hP hD hS (fun qs H1 p1 p2 p3 p4 p5 p6 => ?_)
          obtain ⟨q0, e0, l0⟩ := has
          exact ih _ _ _ _ _ _ _ _ hgo hos hrho c1 c2 (as ++ qs) H1 locs ls ⟨q0 ++ qs, by rw [e0, List.append_assoc], by rw [List.length_append]; omega⟩ p5 p4 p1 p2 p3
        · cases hgo
      · split at hgo
        · rename_i L' st' h' hstep
          exact zi_step_sound hx hb hown hts hcl hini hX hK hrho hdg hlen hok hstep hl hP hD hS (fun H1 locs1 ls1 p1 p2 p3 p4 p5 => ih _ _ _ _ _ _ _ _ hgo hos hrho hkc hks as H1 locs1 ls1 has (by rw [p5]; exact hln) p4 p1 p2 p3)
        · cases hgo
end ZA
end
section
theorem zi_args {ρ : Nat → Int32} {b0 : Nat} {as : List Nat} (vs : List Value) : ∀ i : Nat, lv_args i (vs.map (zi_cv ρ b0 as)) = zi_lc ρ b0 as (lv_args i vs) := by
  induction vs with
  | nil => intro i; rfl
  | cons v vs ih =>
    intro i
    show (i, zi_cv ρ b0 as v) :: lv_args (if (zi_cv ρ b0 as v).category = 2 then i + 2 else i + 1) (vs.map (zi_cv ρ b0 as)) = _
    rw [zi_cv_cat, ih]
    rfl
theorem zi_sl {ρ : Nat → Int32} {b0 : Nat} {as : List Nat} (vs : List Value) : (lg_sl (vs.map (zi_cv ρ b0 as))).length = (lg_sl vs).length := by
  induction vs with
  | nil => rfl
  | cons v vs ih =>
    simp only [lg_sl, List.map_cons, List.flatMap_cons, List.length_append, zi_cv_cat] at ih ⊢
    rw [ih]
    split <;> rfl
set_option maxHeartbeats 4000000 in
theorem zi_run_sound (l : Launch) {ms : List zi_Me} (F : Nat) (hms : zi_mOk ms) (hcl : ∀ a q, vwCl[a]? = some q → zi_cok a q) (hAI : Cond.arrayClass .int ∈ zi_Ts) (hAZ : Cond.arrayClass .boolean ∈ zi_Ts) (hoI : Cond.instanceMethod objectInit ∈ zi_Ts) (hoC : Cond.code objectInit ⟨#[0xb1]⟩ 1 none ∈ zi_Ts) :
    ∀ dp : Nat, zi_callOk l ms (zi_run ms F dp) dp := by
  intro dp
  induction dp with
  | zero =>
    intro a mt hmt vs h d os hrun
    simp only [zi_run] at hrun
    cases hrun
  | succ dp ih =>
    intro a mt hmt vs h d os hrun ρ b0 as cy D sz hrho hln
    unfold zi_run at hrun
    rw [hmt] at hrun
    dsimp only at hrun
    split at hrun
    · rename_i hsl
      obtain ⟨m1, m2, m3, m4, m5, m6⟩ := hms a mt hmt
      refine Met.ofW (cc := mt.2.1) (maxL := mt.2.2.1) (ret := mt.2.2.2.1) m3 rfl ?_
      intro p e s m args below meth c s₁ B hml hv
      obtain ⟨rfl, hsz, hP, hK, hD0, hN⟩ := hv
      have hx := B.exec
      have hb := B.bytes
      have hr := B.returns
      have hts0 := atoms_spec (ws := zi_wsM mt) B.pre
      have hts : ∀ w ∈ zi_Ts, w.before (vs.map (zi_cv ρ b0 as)).toArray s = true := fun w hw => hts0 w (List.mem_cons_of_mem _ hw)
      have hown : s.vm.findClass mt.1.cls = some m.cls := findClass_of_methodNamed B.named
      have hlocks := B.notSynchronized
      have hnm : meth.name = mt.1.name := (name_of_methodNamed B.named B.method).1
      subst hsz
      have hD := hD0.self (sz := s.heap.size)
      have hl := lv_entry (vs.map (zi_cv ρ b0 as)) (n := mt.2.2.1) (by rw [zi_sl]; exact hsl)
      rw [zi_args] at hl
      rw [lg_entry_eq]
      generalize (lg_sl (vs.map (zi_cv ρ b0 as)) ++ List.replicate (mt.2.2.1 - (lg_sl (vs.map (zi_cv ρ b0 as))).length) Slot.unset).toArray = ls at hl ⊢
      refine zi_go_sound (as0 := as) (OUT := os) (A := va_A (zi_w ρ b0 as cy h) s.heap.size) (dp := dp) (own := mt.1.cls) (ini := decide (mt.1.name = "<init>")) (scr := none) (R := (headSpec (zi_wsM mt) (zi_rm mt (dp + 1))).room) hx hb hml hown hts hcl (fun hi => by rw [hnm]; exact of_decide_eq_true hi) (fun sl hs => by cases hs) hN hAI hAZ hoI hoC hK (fun q hq => Or.inr hq) (Nat.le_refl _) (Nat.le_refl _) (Nat.le_refl _) (Nat.le_refl _) m6 hms ih ?_ F 0 (lv_args 0 vs) [] h d 0 0 os hrun (fun _ ho => ho) hrho (Nat.zero_le _) (Nat.zero_le _) as s.heap [] ls ⟨[], by simp, Nat.le_refl _⟩ hln hl hP hD va_S.rf
      intro pc ls st o H locs kc ks as' ho hro has hlen hkc hks hP1 hD1 hS1 hret
      obtain ⟨qs, rfl, hq⟩ := has
      have hQ : ∀ t : State, t.heap = H → s.WarmedH t.vm → zi_Qc ρ b0 as cy D s.heap.size h mt.2.2.2.2.2.1 os (vs.map (zi_cv ρ b0 as)).toArray s (.returned (o.2.1.map (zi_cv ρ b0 (as ++ qs)))) t := fun t ht hW => ⟨o, ho, hro, qs, Nat.le_trans hq hkc, hlen, rfl, by rw [ht]; exact hP1, hD1, hS1.F ht⟩
      refine W.widen hkc hks ?_
      rcases hret with ⟨hd, v, hv, hrk, rfl⟩ | ⟨hd, x, hv, hra, rfl⟩ | ⟨hd, hv, hrn, rfl⟩
      · rw [hv] at hQ
        unfold zi_retOk at hrk
        split at hrk
        · rename_i hre
          have e1 := zi_cv_iv (ρ := ρ) (b := b0) (as := as ++ qs) hrk
          show W _ _ _ _ _ _ _ _ _ _ _ _ _ _ _ (F0 m pc ls [zi_cv ρ b0 (as ++ qs) v])
          have hQ : ∀ t : State, t.heap = H → s.WarmedH t.vm → zi_Qc ρ b0 as cy D s.heap.size h mt.2.2.2.2.2.1 os (vs.map (zi_cv ρ b0 as)).toArray s (.returned (some (zi_cv ρ b0 (as ++ qs) v))) t := hQ
          rw [e1] at hQ ⊢
          exact W.zret (ty := .int) hx hb (hr.trans hre) rfl hQ hS1.2.2 hd
        · rename_i hre
          split at hrk
          · rename_i x
            simp only [Bool.or_eq_true, decide_eq_true_eq] at hrk
            refine W.zret (v := x) (ty := .boolean) hx hb (hr.trans hre) ?_ hQ hS1.2.2 hd
            rcases hrk with rfl | rfl
            · decide
            · decide
          · cases hrk
        · cases hrk
      · rw [hv] at hQ
        unfold zi_retA at hra
        split at hra
        · rename_i nm hre
          refine W.aret (v := zi_cv ρ b0 (as ++ qs) (.ref x)) (rt := .object nm) hx hb (hr.trans hre) (Or.inl ⟨_, rfl⟩) (Or.inr ?_) hQ hS1.2.2 hd
          cases x <;> exact ⟨_, rfl⟩
        · cases hra
      · rw [hv] at hQ
        exact W.vret hx hb (hr.trans hrn) hQ hS1.2.2 hd
    · cases hrun
end
section
def zi_mP (mt : zi_Me) : Prop := Cond.code mt.1 mt.2.1 mt.2.2.1 mt.2.2.2.1 ∈ zi_Ts ∧ Cond.initialized mt.1.cls ∈ zi_Ts ∧ plainName mt.1.cls = true ∧ (mt.1.cls ≠ "java/lang/invoke/MethodHandle" ∧ mt.1.cls ≠ "java/lang/invoke/VarHandle") ∧ mt.2.2.1 ≤ 21 ∧
  ∀ r ∈ mt.2.2.2.2.1, decode mt.2.1 r.1 = .ok (r.2.1, r.2.2.1) ∧ zi_lok r = true ∧ zi_ok mt.1.cls (decide (mt.1.name = "<init>")) zi_ms r = true
set_option maxRecDepth 100000 in
theorem zv_zc_X5_init_0 : ∀ r ∈ zc_X5_init_0, decode cX5_init r.1 = .ok (r.2.1, r.2.2.1) ∧ zi_lok r = true ∧ zi_ok yX5_init.cls (decide (yX5_init.name = "<init>")) zi_ms r = true := by decide +kernel
set_option maxRecDepth 100000 in
theorem zv_zc_X5_init_1 : ∀ r ∈ zc_X5_init_1, decode cX5_init r.1 = .ok (r.2.1, r.2.2.1) ∧ zi_lok r = true ∧ zi_ok yX5_init.cls (decide (yX5_init.name = "<init>")) zi_ms r = true := by decide +kernel
set_option maxRecDepth 100000 in
theorem zm_0 : zi_mP (yX5_init, cX5_init, 2, none, zc_X5_init, 400, 8000) := ⟨zi_tb_in (t := 110) (by decide +kernel), zi_tb_in (t := 96) (by decide +kernel), by decide +kernel, ⟨by decide +kernel, by decide +kernel⟩, by decide +kernel, List.forall_mem_append.mpr ⟨zv_zc_X5_init_0, zv_zc_X5_init_1⟩⟩
set_option maxRecDepth 100000 in
theorem zv_zc_X1_init_0 : ∀ r ∈ zc_X1_init_0, decode cX1_init r.1 = .ok (r.2.1, r.2.2.1) ∧ zi_lok r = true ∧ zi_ok yX1_init.cls (decide (yX1_init.name = "<init>")) zi_ms r = true := by decide +kernel
set_option maxRecDepth 100000 in
theorem zm_1 : zi_mP (yX1_init, cX1_init, 1, none, zc_X1_init, 1, 10) := ⟨zi_tb_in (t := 122) (by decide +kernel), zi_tb_in (t := 97) (by decide +kernel), by decide +kernel, ⟨by decide +kernel, by decide +kernel⟩, by decide +kernel, zv_zc_X1_init_0⟩
set_option maxRecDepth 100000 in
theorem zv_zc_X3_init_0 : ∀ r ∈ zc_X3_init_0, decode cX3_init r.1 = .ok (r.2.1, r.2.2.1) ∧ zi_lok r = true ∧ zi_ok yX3_init.cls (decide (yX3_init.name = "<init>")) zi_ms r = true := by decide +kernel
set_option maxRecDepth 100000 in
theorem zv_zc_X3_init_1 : ∀ r ∈ zc_X3_init_1, decode cX3_init r.1 = .ok (r.2.1, r.2.2.1) ∧ zi_lok r = true ∧ zi_ok yX3_init.cls (decide (yX3_init.name = "<init>")) zi_ms r = true := by decide +kernel
set_option maxRecDepth 100000 in
theorem zm_2 : zi_mP (yX3_init, cX3_init, 1, none, zc_X3_init, 30, 600) := ⟨zi_tb_in (t := 136) (by decide +kernel), zi_tb_in (t := 98) (by decide +kernel), by decide +kernel, ⟨by decide +kernel, by decide +kernel⟩, by decide +kernel, List.forall_mem_append.mpr ⟨zv_zc_X3_init_0, zv_zc_X3_init_1⟩⟩
set_option maxRecDepth 100000 in
theorem zv_zc_X4_init_0 : ∀ r ∈ zc_X4_init_0, decode cX4_init r.1 = .ok (r.2.1, r.2.2.1) ∧ zi_lok r = true ∧ zi_ok yX4_init.cls (decide (yX4_init.name = "<init>")) zi_ms r = true := by decide +kernel
set_option maxRecDepth 100000 in
theorem zm_3 : zi_mP (yX4_init, cX4_init, 1, none, zc_X4_init, 2, 4) := ⟨zi_tb_in (t := 205) (by decide +kernel), zi_tb_in (t := 100) (by decide +kernel), by decide +kernel, ⟨by decide +kernel, by decide +kernel⟩, by decide +kernel, zv_zc_X4_init_0⟩
set_option maxRecDepth 100000 in
theorem zv_zc_X2_init_0 : ∀ r ∈ zc_X2_init_0, decode cX2_init r.1 = .ok (r.2.1, r.2.2.1) ∧ zi_lok r = true ∧ zi_ok yX2_init.cls (decide (yX2_init.name = "<init>")) zi_ms r = true := by decide +kernel
set_option maxRecDepth 100000 in
theorem zm_4 : zi_mP (yX2_init, cX2_init, 1, none, zc_X2_init, 80, 1600) := ⟨zi_tb_in (t := 236) (by decide +kernel), zi_tb_in (t := 101) (by decide +kernel), by decide +kernel, ⟨by decide +kernel, by decide +kernel⟩, by decide +kernel, zv_zc_X2_init_0⟩
set_option maxRecDepth 100000 in
theorem zv_zc_X0_init_0 : ∀ r ∈ zc_X0_init_0, decode cX0_init r.1 = .ok (r.2.1, r.2.2.1) ∧ zi_lok r = true ∧ zi_ok yX0_init.cls (decide (yX0_init.name = "<init>")) zi_ms r = true := by decide +kernel
set_option maxRecDepth 100000 in
theorem zm_5 : zi_mP (yX0_init, cX0_init, 1, none, zc_X0_init, 40, 800) := ⟨zi_tb_in (t := 244) (by decide +kernel), zi_tb_in (t := 102) (by decide +kernel), by decide +kernel, ⟨by decide +kernel, by decide +kernel⟩, by decide +kernel, zv_zc_X0_init_0⟩
set_option maxRecDepth 100000 in
theorem zv_zc_X6_init_0 : ∀ r ∈ zc_X6_init_0, decode cX6_init r.1 = .ok (r.2.1, r.2.2.1) ∧ zi_lok r = true ∧ zi_ok yX6_init.cls (decide (yX6_init.name = "<init>")) zi_ms r = true := by decide +kernel
set_option maxRecDepth 100000 in
theorem zv_zc_X6_init_1 : ∀ r ∈ zc_X6_init_1, decode cX6_init r.1 = .ok (r.2.1, r.2.2.1) ∧ zi_lok r = true ∧ zi_ok yX6_init.cls (decide (yX6_init.name = "<init>")) zi_ms r = true := by decide +kernel
set_option maxRecDepth 100000 in
theorem zv_zc_X6_init_2 : ∀ r ∈ zc_X6_init_2, decode cX6_init r.1 = .ok (r.2.1, r.2.2.1) ∧ zi_lok r = true ∧ zi_ok yX6_init.cls (decide (yX6_init.name = "<init>")) zi_ms r = true := by decide +kernel
set_option maxRecDepth 100000 in
theorem zv_zc_X6_init_3 : ∀ r ∈ zc_X6_init_3, decode cX6_init r.1 = .ok (r.2.1, r.2.2.1) ∧ zi_lok r = true ∧ zi_ok yX6_init.cls (decide (yX6_init.name = "<init>")) zi_ms r = true := by decide +kernel
set_option maxRecDepth 100000 in
theorem zm_6 : zi_mP (yX6_init, cX6_init, 2, none, zc_X6_init, 40, 4000) := ⟨zi_tb_in (t := 877) (by decide +kernel), zi_tb_in (t := 103) (by decide +kernel), by decide +kernel, ⟨by decide +kernel, by decide +kernel⟩, by decide +kernel, List.forall_mem_append.mpr ⟨zv_zc_X6_init_0, List.forall_mem_append.mpr ⟨zv_zc_X6_init_1, List.forall_mem_append.mpr ⟨zv_zc_X6_init_2, zv_zc_X6_init_3⟩⟩⟩⟩
set_option maxRecDepth 100000 in
theorem zv_zc_X1_clear_0 : ∀ r ∈ zc_X1_clear_0, decode cX1_clear r.1 = .ok (r.2.1, r.2.2.1) ∧ zi_lok r = true ∧ zi_ok yX1_clear.cls (decide (yX1_clear.name = "<init>")) zi_ms r = true := by decide +kernel
set_option maxRecDepth 100000 in
theorem zm_7 : zi_mP (yX1_clear, cX1_clear, 1, none, zc_X1_clear, 0, 0) := ⟨zi_tb_in (t := 149) (by decide +kernel), zi_tb_in (t := 97) (by decide +kernel), by decide +kernel, ⟨by decide +kernel, by decide +kernel⟩, by decide +kernel, zv_zc_X1_clear_0⟩
set_option maxRecDepth 100000 in
theorem zv_zc_X3_clear_0 : ∀ r ∈ zc_X3_clear_0, decode cX3_clear r.1 = .ok (r.2.1, r.2.2.1) ∧ zi_lok r = true ∧ zi_ok yX3_clear.cls (decide (yX3_clear.name = "<init>")) zi_ms r = true := by decide +kernel
set_option maxRecDepth 100000 in
theorem zm_8 : zi_mP (yX3_clear, cX3_clear, 1, none, zc_X3_clear, 0, 0) := ⟨zi_tb_in (t := 145) (by decide +kernel), zi_tb_in (t := 98) (by decide +kernel), by decide +kernel, ⟨by decide +kernel, by decide +kernel⟩, by decide +kernel, zv_zc_X3_clear_0⟩
set_option maxRecDepth 100000 in
theorem zv_zc_J7_fill_53178_0 : ∀ r ∈ zc_J7_fill_53178_0, decode cJ7_fill_53178 r.1 = .ok (r.2.1, r.2.2.1) ∧ zi_lok r = true ∧ zi_ok yJ7_fill_53178.cls (decide (yJ7_fill_53178.name = "<init>")) zi_ms r = true := by decide +kernel
set_option maxRecDepth 100000 in
theorem zm_9 : zi_mP (yJ7_fill_53178, cJ7_fill_53178, 4, none, zc_J7_fill_53178, 0, 0) := ⟨zi_tb_in (t := 152) (by decide +kernel), zi_tb_in (t := 99) (by decide +kernel), by decide +kernel, ⟨by decide +kernel, by decide +kernel⟩, by decide +kernel, zv_zc_J7_fill_53178_0⟩
set_option maxRecDepth 100000 in
theorem zv_zc_X5_screen_0 : ∀ r ∈ zc_X5_screen_0, decode cX5_screen r.1 = .ok (r.2.1, r.2.2.1) ∧ zi_lok r = true ∧ zi_ok yX5_screen.cls (decide (yX5_screen.name = "<init>")) zi_ms r = true := by decide +kernel
set_option maxRecDepth 100000 in
theorem zv_zc_X5_screen_1 : ∀ r ∈ zc_X5_screen_1, decode cX5_screen r.1 = .ok (r.2.1, r.2.2.1) ∧ zi_lok r = true ∧ zi_ok yX5_screen.cls (decide (yX5_screen.name = "<init>")) zi_ms r = true := by decide +kernel
set_option maxRecDepth 100000 in
theorem zm_10 : zi_mP (yX5_screen, cX5_screen, 6, (some FieldType.int), zc_X5_screen, 0, 0) := ⟨zi_tb_in (t := 313) (by decide +kernel), zi_tb_in (t := 96) (by decide +kernel), by decide +kernel, ⟨by decide +kernel, by decide +kernel⟩, by decide +kernel, List.forall_mem_append.mpr ⟨zv_zc_X5_screen_0, zv_zc_X5_screen_1⟩⟩
set_option maxRecDepth 100000 in
theorem zv_zc_X5_gone_0 : ∀ r ∈ zc_X5_gone_0, decode cX5_gone r.1 = .ok (r.2.1, r.2.2.1) ∧ zi_lok r = true ∧ zi_ok yX5_gone.cls (decide (yX5_gone.name = "<init>")) zi_ms r = true := by decide +kernel
set_option maxRecDepth 100000 in
theorem zv_zc_X5_gone_1 : ∀ r ∈ zc_X5_gone_1, decode cX5_gone r.1 = .ok (r.2.1, r.2.2.1) ∧ zi_lok r = true ∧ zi_ok yX5_gone.cls (decide (yX5_gone.name = "<init>")) zi_ms r = true := by decide +kernel
set_option maxRecDepth 100000 in
theorem zv_zc_X5_gone_2 : ∀ r ∈ zc_X5_gone_2, decode cX5_gone r.1 = .ok (r.2.1, r.2.2.1) ∧ zi_lok r = true ∧ zi_ok yX5_gone.cls (decide (yX5_gone.name = "<init>")) zi_ms r = true := by decide +kernel
set_option maxRecDepth 100000 in
theorem zm_11 : zi_mP (yX5_gone, cX5_gone, 5, (some FieldType.int), zc_X5_gone, 0, 0) := ⟨zi_tb_in (t := 498) (by decide +kernel), zi_tb_in (t := 96) (by decide +kernel), by decide +kernel, ⟨by decide +kernel, by decide +kernel⟩, by decide +kernel, List.forall_mem_append.mpr ⟨zv_zc_X5_gone_0, List.forall_mem_append.mpr ⟨zv_zc_X5_gone_1, zv_zc_X5_gone_2⟩⟩⟩
set_option maxRecDepth 100000 in
theorem zv_zc_X5_open_0 : ∀ r ∈ zc_X5_open_0, decode cX5_open r.1 = .ok (r.2.1, r.2.2.1) ∧ zi_lok r = true ∧ zi_ok yX5_open.cls (decide (yX5_open.name = "<init>")) zi_ms r = true := by decide +kernel
set_option maxRecDepth 100000 in
theorem zv_zc_X5_open_1 : ∀ r ∈ zc_X5_open_1, decode cX5_open r.1 = .ok (r.2.1, r.2.2.1) ∧ zi_lok r = true ∧ zi_ok yX5_open.cls (decide (yX5_open.name = "<init>")) zi_ms r = true := by decide +kernel
set_option maxRecDepth 100000 in
theorem zv_zc_X5_open_2 : ∀ r ∈ zc_X5_open_2, decode cX5_open r.1 = .ok (r.2.1, r.2.2.1) ∧ zi_lok r = true ∧ zi_ok yX5_open.cls (decide (yX5_open.name = "<init>")) zi_ms r = true := by decide +kernel
set_option maxRecDepth 100000 in
theorem zm_12 : zi_mP (yX5_open, cX5_open, 8, (some FieldType.int), zc_X5_open, 0, 0) := ⟨zi_tb_in (t := 556) (by decide +kernel), zi_tb_in (t := 96) (by decide +kernel), by decide +kernel, ⟨by decide +kernel, by decide +kernel⟩, by decide +kernel, List.forall_mem_append.mpr ⟨zv_zc_X5_open_0, List.forall_mem_append.mpr ⟨zv_zc_X5_open_1, zv_zc_X5_open_2⟩⟩⟩
set_option maxRecDepth 100000 in
theorem zv_zc_X5_close_0 : ∀ r ∈ zc_X5_close_0, decode cX5_close r.1 = .ok (r.2.1, r.2.2.1) ∧ zi_lok r = true ∧ zi_ok yX5_close.cls (decide (yX5_close.name = "<init>")) zi_ms r = true := by decide +kernel
set_option maxRecDepth 100000 in
theorem zm_13 : zi_mP (yX5_close, cX5_close, 4, (some FieldType.int), zc_X5_close, 0, 0) := ⟨zi_tb_in (t := 685) (by decide +kernel), zi_tb_in (t := 96) (by decide +kernel), by decide +kernel, ⟨by decide +kernel, by decide +kernel⟩, by decide +kernel, zv_zc_X5_close_0⟩
set_option maxRecDepth 100000 in
theorem zv_zc_X5_focus_0 : ∀ r ∈ zc_X5_focus_0, decode cX5_focus r.1 = .ok (r.2.1, r.2.2.1) ∧ zi_lok r = true ∧ zi_ok yX5_focus.cls (decide (yX5_focus.name = "<init>")) zi_ms r = true := by decide +kernel
set_option maxRecDepth 100000 in
theorem zm_14 : zi_mP (yX5_focus, cX5_focus, 3, (some FieldType.int), zc_X5_focus, 0, 0) := ⟨zi_tb_in (t := 698) (by decide +kernel), zi_tb_in (t := 96) (by decide +kernel), by decide +kernel, ⟨by decide +kernel, by decide +kernel⟩, by decide +kernel, zv_zc_X5_focus_0⟩
set_option maxRecDepth 100000 in
theorem zv_zc_X5_back_0 : ∀ r ∈ zc_X5_back_0, decode cX5_back r.1 = .ok (r.2.1, r.2.2.1) ∧ zi_lok r = true ∧ zi_ok yX5_back.cls (decide (yX5_back.name = "<init>")) zi_ms r = true := by decide +kernel
set_option maxRecDepth 100000 in
theorem zm_15 : zi_mP (yX5_back, cX5_back, 2, (some FieldType.int), zc_X5_back, 0, 0) := ⟨zi_tb_in (t := 702) (by decide +kernel), zi_tb_in (t := 96) (by decide +kernel), by decide +kernel, ⟨by decide +kernel, by decide +kernel⟩, by decide +kernel, zv_zc_X5_back_0⟩
set_option maxRecDepth 100000 in
theorem zv_zc_X5_toward_0 : ∀ r ∈ zc_X5_toward_0, decode cX5_toward r.1 = .ok (r.2.1, r.2.2.1) ∧ zi_lok r = true ∧ zi_ok yX5_toward.cls (decide (yX5_toward.name = "<init>")) zi_ms r = true := by decide +kernel
set_option maxRecDepth 100000 in
theorem zm_16 : zi_mP (yX5_toward, cX5_toward, 4, (some FieldType.int), zc_X5_toward, 0, 0) := ⟨zi_tb_in (t := 706) (by decide +kernel), zi_tb_in (t := 96) (by decide +kernel), by decide +kernel, ⟨by decide +kernel, by decide +kernel⟩, by decide +kernel, zv_zc_X5_toward_0⟩
set_option maxRecDepth 100000 in
theorem zv_zc_X5_steps_0 : ∀ r ∈ zc_X5_steps_0, decode cX5_steps r.1 = .ok (r.2.1, r.2.2.1) ∧ zi_lok r = true ∧ zi_ok yX5_steps.cls (decide (yX5_steps.name = "<init>")) zi_ms r = true := by decide +kernel
set_option maxRecDepth 100000 in
theorem zv_zc_X5_steps_1 : ∀ r ∈ zc_X5_steps_1, decode cX5_steps r.1 = .ok (r.2.1, r.2.2.1) ∧ zi_lok r = true ∧ zi_ok yX5_steps.cls (decide (yX5_steps.name = "<init>")) zi_ms r = true := by decide +kernel
set_option maxRecDepth 100000 in
theorem zm_17 : zi_mP (yX5_steps, cX5_steps, 4, (some FieldType.int), zc_X5_steps, 0, 0) := ⟨zi_tb_in (t := 747) (by decide +kernel), zi_tb_in (t := 96) (by decide +kernel), by decide +kernel, ⟨by decide +kernel, by decide +kernel⟩, by decide +kernel, List.forall_mem_append.mpr ⟨zv_zc_X5_steps_0, zv_zc_X5_steps_1⟩⟩
end
section
set_option maxRecDepth 100000 in
theorem zv_zc_X5_drag_0 : ∀ r ∈ zc_X5_drag_0, decode cX5_drag r.1 = .ok (r.2.1, r.2.2.1) ∧ zi_lok r = true ∧ zi_ok yX5_drag.cls (decide (yX5_drag.name = "<init>")) zi_ms r = true := by decide +kernel
set_option maxRecDepth 100000 in
theorem zv_zc_X5_drag_1 : ∀ r ∈ zc_X5_drag_1, decode cX5_drag r.1 = .ok (r.2.1, r.2.2.1) ∧ zi_lok r = true ∧ zi_ok yX5_drag.cls (decide (yX5_drag.name = "<init>")) zi_ms r = true := by decide +kernel
set_option maxRecDepth 100000 in
theorem zv_zc_X5_drag_2 : ∀ r ∈ zc_X5_drag_2, decode cX5_drag r.1 = .ok (r.2.1, r.2.2.1) ∧ zi_lok r = true ∧ zi_ok yX5_drag.cls (decide (yX5_drag.name = "<init>")) zi_ms r = true := by decide +kernel
set_option maxRecDepth 100000 in
theorem zm_18 : zi_mP (yX5_drag, cX5_drag, 6, (some FieldType.int), zc_X5_drag, 0, 0) := ⟨zi_tb_in (t := 759) (by decide +kernel), zi_tb_in (t := 96) (by decide +kernel), by decide +kernel, ⟨by decide +kernel, by decide +kernel⟩, by decide +kernel, List.forall_mem_append.mpr ⟨zv_zc_X5_drag_0, List.forall_mem_append.mpr ⟨zv_zc_X5_drag_1, zv_zc_X5_drag_2⟩⟩⟩
set_option maxRecDepth 100000 in
theorem zv_zc_X5_move_0 : ∀ r ∈ zc_X5_move_0, decode cX5_move r.1 = .ok (r.2.1, r.2.2.1) ∧ zi_lok r = true ∧ zi_ok yX5_move.cls (decide (yX5_move.name = "<init>")) zi_ms r = true := by decide +kernel
set_option maxRecDepth 100000 in
theorem zv_zc_X5_move_1 : ∀ r ∈ zc_X5_move_1, decode cX5_move r.1 = .ok (r.2.1, r.2.2.1) ∧ zi_lok r = true ∧ zi_ok yX5_move.cls (decide (yX5_move.name = "<init>")) zi_ms r = true := by decide +kernel
set_option maxRecDepth 100000 in
theorem zm_19 : zi_mP (yX5_move, cX5_move, 5, (some FieldType.int), zc_X5_move, 0, 0) := ⟨zi_tb_in (t := 769) (by decide +kernel), zi_tb_in (t := 96) (by decide +kernel), by decide +kernel, ⟨by decide +kernel, by decide +kernel⟩, by decide +kernel, List.forall_mem_append.mpr ⟨zv_zc_X5_move_0, zv_zc_X5_move_1⟩⟩
set_option maxRecDepth 100000 in
theorem zv_zc_X5_share_0 : ∀ r ∈ zc_X5_share_0, decode cX5_share r.1 = .ok (r.2.1, r.2.2.1) ∧ zi_lok r = true ∧ zi_ok yX5_share.cls (decide (yX5_share.name = "<init>")) zi_ms r = true := by decide +kernel
set_option maxRecDepth 100000 in
theorem zv_zc_X5_share_1 : ∀ r ∈ zc_X5_share_1, decode cX5_share r.1 = .ok (r.2.1, r.2.2.1) ∧ zi_lok r = true ∧ zi_ok yX5_share.cls (decide (yX5_share.name = "<init>")) zi_ms r = true := by decide +kernel
set_option maxRecDepth 100000 in
theorem zm_20 : zi_mP (yX5_share, cX5_share, 6, (some FieldType.int), zc_X5_share, 0, 0) := ⟨zi_tb_in (t := 777) (by decide +kernel), zi_tb_in (t := 96) (by decide +kernel), by decide +kernel, ⟨by decide +kernel, by decide +kernel⟩, by decide +kernel, List.forall_mem_append.mpr ⟨zv_zc_X5_share_0, zv_zc_X5_share_1⟩⟩
set_option maxRecDepth 100000 in
theorem zv_zc_X5_area_0 : ∀ r ∈ zc_X5_area_0, decode cX5_area r.1 = .ok (r.2.1, r.2.2.1) ∧ zi_lok r = true ∧ zi_ok yX5_area.cls (decide (yX5_area.name = "<init>")) zi_ms r = true := by decide +kernel
set_option maxRecDepth 100000 in
theorem zm_21 : zi_mP (yX5_area, cX5_area, 3, (some FieldType.int), zc_X5_area, 0, 0) := ⟨zi_tb_in (t := 792) (by decide +kernel), zi_tb_in (t := 96) (by decide +kernel), by decide +kernel, ⟨by decide +kernel, by decide +kernel⟩, by decide +kernel, zv_zc_X5_area_0⟩
set_option maxRecDepth 100000 in
theorem zv_zc_X5_about_0 : ∀ r ∈ zc_X5_about_0, decode cX5_about r.1 = .ok (r.2.1, r.2.2.1) ∧ zi_lok r = true ∧ zi_ok yX5_about.cls (decide (yX5_about.name = "<init>")) zi_ms r = true := by decide +kernel
set_option maxRecDepth 100000 in
theorem zv_zc_X5_about_1 : ∀ r ∈ zc_X5_about_1, decode cX5_about r.1 = .ok (r.2.1, r.2.2.1) ∧ zi_lok r = true ∧ zi_ok yX5_about.cls (decide (yX5_about.name = "<init>")) zi_ms r = true := by decide +kernel
set_option maxRecDepth 100000 in
theorem zm_22 : zi_mP (yX5_about, cX5_about, 4, (some FieldType.int), zc_X5_about, 0, 0) := ⟨zi_tb_in (t := 796) (by decide +kernel), zi_tb_in (t := 96) (by decide +kernel), by decide +kernel, ⟨by decide +kernel, by decide +kernel⟩, by decide +kernel, List.forall_mem_append.mpr ⟨zv_zc_X5_about_0, zv_zc_X5_about_1⟩⟩
set_option maxRecDepth 100000 in
theorem zv_zc_X5_isOf_0 : ∀ r ∈ zc_X5_isOf_0, decode cX5_isOf r.1 = .ok (r.2.1, r.2.2.1) ∧ zi_lok r = true ∧ zi_ok yX5_isOf.cls (decide (yX5_isOf.name = "<init>")) zi_ms r = true := by decide +kernel
set_option maxRecDepth 100000 in
theorem zm_23 : zi_mP (yX5_isOf, cX5_isOf, 3, (some FieldType.int), zc_X5_isOf, 0, 0) := ⟨zi_tb_in (t := 801) (by decide +kernel), zi_tb_in (t := 96) (by decide +kernel), by decide +kernel, ⟨by decide +kernel, by decide +kernel⟩, by decide +kernel, zv_zc_X5_isOf_0⟩
set_option maxRecDepth 100000 in
theorem zv_zc_X5_at_0 : ∀ r ∈ zc_X5_at_0, decode cX5_at r.1 = .ok (r.2.1, r.2.2.1) ∧ zi_lok r = true ∧ zi_ok yX5_at.cls (decide (yX5_at.name = "<init>")) zi_ms r = true := by decide +kernel
set_option maxRecDepth 100000 in
theorem zv_zc_X5_at_1 : ∀ r ∈ zc_X5_at_1, decode cX5_at r.1 = .ok (r.2.1, r.2.2.1) ∧ zi_lok r = true ∧ zi_ok yX5_at.cls (decide (yX5_at.name = "<init>")) zi_ms r = true := by decide +kernel
set_option maxRecDepth 100000 in
theorem zm_24 : zi_mP (yX5_at, cX5_at, 6, (some FieldType.int), zc_X5_at, 0, 0) := ⟨zi_tb_in (t := 809) (by decide +kernel), zi_tb_in (t := 96) (by decide +kernel), by decide +kernel, ⟨by decide +kernel, by decide +kernel⟩, by decide +kernel, List.forall_mem_append.mpr ⟨zv_zc_X5_at_0, zv_zc_X5_at_1⟩⟩
set_option maxRecDepth 100000 in
theorem zv_zc_X5_neighbour_0 : ∀ r ∈ zc_X5_neighbour_0, decode cX5_neighbour r.1 = .ok (r.2.1, r.2.2.1) ∧ zi_lok r = true ∧ zi_ok yX5_neighbour.cls (decide (yX5_neighbour.name = "<init>")) zi_ms r = true := by decide +kernel
set_option maxRecDepth 100000 in
theorem zm_25 : zi_mP (yX5_neighbour, cX5_neighbour, 3, (some FieldType.int), zc_X5_neighbour, 0, 0) := ⟨zi_tb_in (t := 832) (by decide +kernel), zi_tb_in (t := 96) (by decide +kernel), by decide +kernel, ⟨by decide +kernel, by decide +kernel⟩, by decide +kernel, zv_zc_X5_neighbour_0⟩
set_option maxRecDepth 100000 in
theorem zv_zc_X5_told_0 : ∀ r ∈ zc_X5_told_0, decode cX5_told r.1 = .ok (r.2.1, r.2.2.1) ∧ zi_lok r = true ∧ zi_ok yX5_told.cls (decide (yX5_told.name = "<init>")) zi_ms r = true := by decide +kernel
set_option maxRecDepth 100000 in
theorem zv_zc_X5_told_1 : ∀ r ∈ zc_X5_told_1, decode cX5_told r.1 = .ok (r.2.1, r.2.2.1) ∧ zi_lok r = true ∧ zi_ok yX5_told.cls (decide (yX5_told.name = "<init>")) zi_ms r = true := by decide +kernel
set_option maxRecDepth 100000 in
theorem zm_26 : zi_mP (yX5_told, cX5_told, 4, (some FieldType.int), zc_X5_told, 0, 0) := ⟨zi_tb_in (t := 836) (by decide +kernel), zi_tb_in (t := 96) (by decide +kernel), by decide +kernel, ⟨by decide +kernel, by decide +kernel⟩, by decide +kernel, List.forall_mem_append.mpr ⟨zv_zc_X5_told_0, zv_zc_X5_told_1⟩⟩
set_option maxRecDepth 100000 in
theorem zv_zc_X5_tab_0 : ∀ r ∈ zc_X5_tab_0, decode cX5_tab r.1 = .ok (r.2.1, r.2.2.1) ∧ zi_lok r = true ∧ zi_ok yX5_tab.cls (decide (yX5_tab.name = "<init>")) zi_ms r = true := by decide +kernel
set_option maxRecDepth 100000 in
theorem zv_zc_X5_tab_1 : ∀ r ∈ zc_X5_tab_1, decode cX5_tab r.1 = .ok (r.2.1, r.2.2.1) ∧ zi_lok r = true ∧ zi_ok yX5_tab.cls (decide (yX5_tab.name = "<init>")) zi_ms r = true := by decide +kernel
set_option maxRecDepth 100000 in
theorem zm_27 : zi_mP (yX5_tab, cX5_tab, 6, (some FieldType.int), zc_X5_tab, 0, 0) := ⟨zi_tb_in (t := 850) (by decide +kernel), zi_tb_in (t := 96) (by decide +kernel), by decide +kernel, ⟨by decide +kernel, by decide +kernel⟩, by decide +kernel, List.forall_mem_append.mpr ⟨zv_zc_X5_tab_0, zv_zc_X5_tab_1⟩⟩
set_option maxRecDepth 100000 in
theorem zv_zc_X5_count_0 : ∀ r ∈ zc_X5_count_0, decode cX5_count r.1 = .ok (r.2.1, r.2.2.1) ∧ zi_lok r = true ∧ zi_ok yX5_count.cls (decide (yX5_count.name = "<init>")) zi_ms r = true := by decide +kernel
set_option maxRecDepth 100000 in
theorem zm_28 : zi_mP (yX5_count, cX5_count, 2, (some FieldType.int), zc_X5_count, 0, 0) := ⟨zi_tb_in (t := 860) (by decide +kernel), zi_tb_in (t := 96) (by decide +kernel), by decide +kernel, ⟨by decide +kernel, by decide +kernel⟩, by decide +kernel, zv_zc_X5_count_0⟩
set_option maxRecDepth 100000 in
theorem zv_zc_X5_isScreen_0 : ∀ r ∈ zc_X5_isScreen_0, decode cX5_isScreen r.1 = .ok (r.2.1, r.2.2.1) ∧ zi_lok r = true ∧ zi_ok yX5_isScreen.cls (decide (yX5_isScreen.name = "<init>")) zi_ms r = true := by decide +kernel
set_option maxRecDepth 100000 in
theorem zm_29 : zi_mP (yX5_isScreen, cX5_isScreen, 1, (some FieldType.boolean), zc_X5_isScreen, 0, 0) := ⟨zi_tb_in (t := 316) (by decide +kernel), zi_tb_in (t := 96) (by decide +kernel), by decide +kernel, ⟨by decide +kernel, by decide +kernel⟩, by decide +kernel, zv_zc_X5_isScreen_0⟩
set_option maxRecDepth 100000 in
theorem zv_zc_X5_isScreenSize_0 : ∀ r ∈ zc_X5_isScreenSize_0, decode cX5_isScreenSize r.1 = .ok (r.2.1, r.2.2.1) ∧ zi_lok r = true ∧ zi_ok yX5_isScreenSize.cls (decide (yX5_isScreenSize.name = "<init>")) zi_ms r = true := by decide +kernel
set_option maxRecDepth 100000 in
theorem zm_30 : zi_mP (yX5_isScreenSize, cX5_isScreenSize, 1, (some FieldType.boolean), zc_X5_isScreenSize, 0, 0) := ⟨zi_tb_in (t := 319) (by decide +kernel), zi_tb_in (t := 96) (by decide +kernel), by decide +kernel, ⟨by decide +kernel, by decide +kernel⟩, by decide +kernel, zv_zc_X5_isScreenSize_0⟩
set_option maxRecDepth 100000 in
theorem zv_zc_X5_isWindowSize_0 : ∀ r ∈ zc_X5_isWindowSize_0, decode cX5_isWindowSize r.1 = .ok (r.2.1, r.2.2.1) ∧ zi_lok r = true ∧ zi_ok yX5_isWindowSize.cls (decide (yX5_isWindowSize.name = "<init>")) zi_ms r = true := by decide +kernel
set_option maxRecDepth 100000 in
theorem zm_31 : zi_mP (yX5_isWindowSize, cX5_isWindowSize, 1, (some FieldType.boolean), zc_X5_isWindowSize, 0, 0) := ⟨zi_tb_in (t := 559) (by decide +kernel), zi_tb_in (t := 96) (by decide +kernel), by decide +kernel, ⟨by decide +kernel, by decide +kernel⟩, by decide +kernel, zv_zc_X5_isWindowSize_0⟩
set_option maxRecDepth 100000 in
theorem zv_zc_X5_isSide_0 : ∀ r ∈ zc_X5_isSide_0, decode cX5_isSide r.1 = .ok (r.2.1, r.2.2.1) ∧ zi_lok r = true ∧ zi_ok yX5_isSide.cls (decide (yX5_isSide.name = "<init>")) zi_ms r = true := by decide +kernel
set_option maxRecDepth 100000 in
theorem zm_32 : zi_mP (yX5_isSide, cX5_isSide, 1, (some FieldType.boolean), zc_X5_isSide, 0, 0) := ⟨zi_tb_in (t := 709) (by decide +kernel), zi_tb_in (t := 96) (by decide +kernel), by decide +kernel, ⟨by decide +kernel, by decide +kernel⟩, by decide +kernel, zv_zc_X5_isSide_0⟩
set_option maxRecDepth 100000 in
theorem zv_zc_X5_isAxis_0 : ∀ r ∈ zc_X5_isAxis_0, decode cX5_isAxis r.1 = .ok (r.2.1, r.2.2.1) ∧ zi_lok r = true ∧ zi_ok yX5_isAxis.cls (decide (yX5_isAxis.name = "<init>")) zi_ms r = true := by decide +kernel
set_option maxRecDepth 100000 in
theorem zm_33 : zi_mP (yX5_isAxis, cX5_isAxis, 1, (some FieldType.boolean), zc_X5_isAxis, 0, 0) := ⟨zi_tb_in (t := 780) (by decide +kernel), zi_tb_in (t := 96) (by decide +kernel), by decide +kernel, ⟨by decide +kernel, by decide +kernel⟩, by decide +kernel, zv_zc_X5_isAxis_0⟩
set_option maxRecDepth 100000 in
theorem zv_zc_X5_isPlace_0 : ∀ r ∈ zc_X5_isPlace_0, decode cX5_isPlace r.1 = .ok (r.2.1, r.2.2.1) ∧ zi_lok r = true ∧ zi_ok yX5_isPlace.cls (decide (yX5_isPlace.name = "<init>")) zi_ms r = true := by decide +kernel
set_option maxRecDepth 100000 in
theorem zm_34 : zi_mP (yX5_isPlace, cX5_isPlace, 1, (some FieldType.boolean), zc_X5_isPlace, 0, 0) := ⟨zi_tb_in (t := 772) (by decide +kernel), zi_tb_in (t := 96) (by decide +kernel), by decide +kernel, ⟨by decide +kernel, by decide +kernel⟩, by decide +kernel, zv_zc_X5_isPlace_0⟩
set_option maxRecDepth 100000 in
theorem zv_zc_X5_isWindow_0 : ∀ r ∈ zc_X5_isWindow_0, decode cX5_isWindow r.1 = .ok (r.2.1, r.2.2.1) ∧ zi_lok r = true ∧ zi_ok yX5_isWindow.cls (decide (yX5_isWindow.name = "<init>")) zi_ms r = true := by decide +kernel
set_option maxRecDepth 100000 in
theorem zm_35 : zi_mP (yX5_isWindow, cX5_isWindow, 2, (some FieldType.boolean), zc_X5_isWindow, 0, 0) := ⟨zi_tb_in (t := 352) (by decide +kernel), zi_tb_in (t := 96) (by decide +kernel), by decide +kernel, ⟨by decide +kernel, by decide +kernel⟩, by decide +kernel, zv_zc_X5_isWindow_0⟩
set_option maxRecDepth 100000 in
theorem zv_zc_X5_isShownTile_0 : ∀ r ∈ zc_X5_isShownTile_0, decode cX5_isShownTile r.1 = .ok (r.2.1, r.2.2.1) ∧ zi_lok r = true ∧ zi_ok yX5_isShownTile.cls (decide (yX5_isShownTile.name = "<init>")) zi_ms r = true := by decide +kernel
set_option maxRecDepth 100000 in
theorem zm_36 : zi_mP (yX5_isShownTile, cX5_isShownTile, 2, (some FieldType.boolean), zc_X5_isShownTile, 0, 0) := ⟨zi_tb_in (t := 713) (by decide +kernel), zi_tb_in (t := 96) (by decide +kernel), by decide +kernel, ⟨by decide +kernel, by decide +kernel⟩, by decide +kernel, zv_zc_X5_isShownTile_0⟩
set_option maxRecDepth 100000 in
theorem zv_zc_X5_leastScreenBut_0 : ∀ r ∈ zc_X5_leastScreenBut_0, decode cX5_leastScreenBut r.1 = .ok (r.2.1, r.2.2.1) ∧ zi_lok r = true ∧ zi_ok yX5_leastScreenBut.cls (decide (yX5_leastScreenBut.name = "<init>")) zi_ms r = true := by decide +kernel
set_option maxRecDepth 100000 in
theorem zm_37 : zi_mP (yX5_leastScreenBut, cX5_leastScreenBut, 3, (some FieldType.int), zc_X5_leastScreenBut, 0, 0) := ⟨zi_tb_in (t := 502) (by decide +kernel), zi_tb_in (t := 96) (by decide +kernel), by decide +kernel, ⟨by decide +kernel, by decide +kernel⟩, by decide +kernel, zv_zc_X5_leastScreenBut_0⟩
set_option maxRecDepth 100000 in
theorem zv_zc_X5_screenAtHand_0 : ∀ r ∈ zc_X5_screenAtHand_0, decode cX5_screenAtHand r.1 = .ok (r.2.1, r.2.2.1) ∧ zi_lok r = true ∧ zi_ok yX5_screenAtHand.cls (decide (yX5_screenAtHand.name = "<init>")) zi_ms r = true := by decide +kernel
set_option maxRecDepth 100000 in
theorem zm_38 : zi_mP (yX5_screenAtHand, cX5_screenAtHand, 3, (some FieldType.int), zc_X5_screenAtHand, 0, 0) := ⟨zi_tb_in (t := 572) (by decide +kernel), zi_tb_in (t := 96) (by decide +kernel), by decide +kernel, ⟨by decide +kernel, by decide +kernel⟩, by decide +kernel, zv_zc_X5_screenAtHand_0⟩
set_option maxRecDepth 100000 in
theorem zv_zc_X5_screensThere_0 : ∀ r ∈ zc_X5_screensThere_0, decode cX5_screensThere r.1 = .ok (r.2.1, r.2.2.1) ∧ zi_lok r = true ∧ zi_ok yX5_screensThere.cls (decide (yX5_screensThere.name = "<init>")) zi_ms r = true := by decide +kernel
set_option maxRecDepth 100000 in
theorem zm_39 : zi_mP (yX5_screensThere, cX5_screensThere, 3, (some FieldType.int), zc_X5_screensThere, 0, 0) := ⟨zi_tb_in (t := 864) (by decide +kernel), zi_tb_in (t := 96) (by decide +kernel), by decide +kernel, ⟨by decide +kernel, by decide +kernel⟩, by decide +kernel, zv_zc_X5_screensThere_0⟩
end
section
set_option maxRecDepth 100000 in
theorem zv_zc_X5_screensWithKept_0 : ∀ r ∈ zc_X5_screensWithKept_0, decode cX5_screensWithKept r.1 = .ok (r.2.1, r.2.2.1) ∧ zi_lok r = true ∧ zi_ok yX5_screensWithKept.cls (decide (yX5_screensWithKept.name = "<init>")) zi_ms r = true := by decide +kernel
set_option maxRecDepth 100000 in
theorem zm_40 : zi_mP (yX5_screensWithKept, cX5_screensWithKept, 3, (some FieldType.int), zc_X5_screensWithKept, 0, 0) := ⟨zi_tb_in (t := 872) (by decide +kernel), zi_tb_in (t := 96) (by decide +kernel), by decide +kernel, ⟨by decide +kernel, by decide +kernel⟩, by decide +kernel, zv_zc_X5_screensWithKept_0⟩
set_option maxRecDepth 100000 in
theorem zv_zc_X5_windowsUnder_0 : ∀ r ∈ zc_X5_windowsUnder_0, decode cX5_windowsUnder r.1 = .ok (r.2.1, r.2.2.1) ∧ zi_lok r = true ∧ zi_ok yX5_windowsUnder.cls (decide (yX5_windowsUnder.name = "<init>")) zi_ms r = true := by decide +kernel
set_option maxRecDepth 100000 in
theorem zm_41 : zi_mP (yX5_windowsUnder, cX5_windowsUnder, 4, (some FieldType.int), zc_X5_windowsUnder, 0, 0) := ⟨zi_tb_in (t := 868) (by decide +kernel), zi_tb_in (t := 96) (by decide +kernel), by decide +kernel, ⟨by decide +kernel, by decide +kernel⟩, by decide +kernel, zv_zc_X5_windowsUnder_0⟩
set_option maxRecDepth 100000 in
theorem zv_zc_X5_leastFreeNumber_0 : ∀ r ∈ zc_X5_leastFreeNumber_0, decode cX5_leastFreeNumber r.1 = .ok (r.2.1, r.2.2.1) ∧ zi_lok r = true ∧ zi_ok yX5_leastFreeNumber.cls (decide (yX5_leastFreeNumber.name = "<init>")) zi_ms r = true := by decide +kernel
set_option maxRecDepth 100000 in
theorem zm_42 : zi_mP (yX5_leastFreeNumber, cX5_leastFreeNumber, 2, (some FieldType.int), zc_X5_leastFreeNumber, 0, 0) := ⟨zi_tb_in (t := 563) (by decide +kernel), zi_tb_in (t := 96) (by decide +kernel), by decide +kernel, ⟨by decide +kernel, by decide +kernel⟩, by decide +kernel, zv_zc_X5_leastFreeNumber_0⟩
set_option maxRecDepth 100000 in
theorem zv_zc_X5_bringBack_0 : ∀ r ∈ zc_X5_bringBack_0, decode cX5_bringBack r.1 = .ok (r.2.1, r.2.2.1) ∧ zi_lok r = true ∧ zi_ok yX5_bringBack.cls (decide (yX5_bringBack.name = "<init>")) zi_ms r = true := by decide +kernel
set_option maxRecDepth 100000 in
theorem zv_zc_X5_bringBack_1 : ∀ r ∈ zc_X5_bringBack_1, decode cX5_bringBack r.1 = .ok (r.2.1, r.2.2.1) ∧ zi_lok r = true ∧ zi_ok yX5_bringBack.cls (decide (yX5_bringBack.name = "<init>")) zi_ms r = true := by decide +kernel
set_option maxRecDepth 100000 in
theorem zm_43 : zi_mP (yX5_bringBack, cX5_bringBack, 5, (some FieldType.int), zc_X5_bringBack, 0, 0) := ⟨zi_tb_in (t := 328) (by decide +kernel), zi_tb_in (t := 96) (by decide +kernel), by decide +kernel, ⟨by decide +kernel, by decide +kernel⟩, by decide +kernel, List.forall_mem_append.mpr ⟨zv_zc_X5_bringBack_0, zv_zc_X5_bringBack_1⟩⟩
set_option maxRecDepth 100000 in
theorem zv_zc_X1_size_0 : ∀ r ∈ zc_X1_size_0, decode cX1_size r.1 = .ok (r.2.1, r.2.2.1) ∧ zi_lok r = true ∧ zi_ok yX1_size.cls (decide (yX1_size.name = "<init>")) zi_ms r = true := by decide +kernel
set_option maxRecDepth 100000 in
theorem zm_44 : zi_mP (yX1_size, cX1_size, 1, (some FieldType.int), zc_X1_size, 0, 0) := ⟨zi_tb_in (t := 389) (by decide +kernel), zi_tb_in (t := 97) (by decide +kernel), by decide +kernel, ⟨by decide +kernel, by decide +kernel⟩, by decide +kernel, zv_zc_X1_size_0⟩
set_option maxRecDepth 100000 in
theorem zv_zc_X1_get_0 : ∀ r ∈ zc_X1_get_0, decode cX1_get r.1 = .ok (r.2.1, r.2.2.1) ∧ zi_lok r = true ∧ zi_ok yX1_get.cls (decide (yX1_get.name = "<init>")) zi_ms r = true := by decide +kernel
set_option maxRecDepth 100000 in
theorem zm_45 : zi_mP (yX1_get, cX1_get, 2, (some FieldType.int), zc_X1_get, 0, 0) := ⟨zi_tb_in (t := 393) (by decide +kernel), zi_tb_in (t := 97) (by decide +kernel), by decide +kernel, ⟨by decide +kernel, by decide +kernel⟩, by decide +kernel, zv_zc_X1_get_0⟩
set_option maxRecDepth 100000 in
theorem zv_zc_X2_setSize_0 : ∀ r ∈ zc_X2_setSize_0, decode cX2_setSize r.1 = .ok (r.2.1, r.2.2.1) ∧ zi_lok r = true ∧ zi_ok yX2_setSize.cls (decide (yX2_setSize.name = "<init>")) zi_ms r = true := by decide +kernel
set_option maxRecDepth 100000 in
theorem zm_46 : zi_mP (yX2_setSize, cX2_setSize, 2, none, zc_X2_setSize, 0, 0) := ⟨zi_tb_in (t := 324) (by decide +kernel), zi_tb_in (t := 101) (by decide +kernel), by decide +kernel, ⟨by decide +kernel, by decide +kernel⟩, by decide +kernel, zv_zc_X2_setSize_0⟩
set_option maxRecDepth 100000 in
theorem zv_zc_X0_forget_0 : ∀ r ∈ zc_X0_forget_0, decode cX0_forget r.1 = .ok (r.2.1, r.2.2.1) ∧ zi_lok r = true ∧ zi_ok yX0_forget.cls (decide (yX0_forget.name = "<init>")) zi_ms r = true := by decide +kernel
set_option maxRecDepth 100000 in
theorem zm_47 : zi_mP (yX0_forget, cX0_forget, 1, none, zc_X0_forget, 0, 0) := ⟨zi_tb_in (t := 476) (by decide +kernel), zi_tb_in (t := 102) (by decide +kernel), by decide +kernel, ⟨by decide +kernel, by decide +kernel⟩, by decide +kernel, zv_zc_X0_forget_0⟩
set_option maxRecDepth 100000 in
theorem zv_zc_X4_fallsUnder_0 : ∀ r ∈ zc_X4_fallsUnder_0, decode cX4_fallsUnder r.1 = .ok (r.2.1, r.2.2.1) ∧ zi_lok r = true ∧ zi_ok yX4_fallsUnder.cls (decide (yX4_fallsUnder.name = "<init>")) zi_ms r = true := by decide +kernel
set_option maxRecDepth 100000 in
theorem zm_48 : zi_mP (yX4_fallsUnder, cX4_fallsUnder, 3, (some FieldType.boolean), zc_X4_fallsUnder, 0, 0) := ⟨zi_tb_in (t := 805) (by decide +kernel), zi_tb_in (t := 100) (by decide +kernel), by decide +kernel, ⟨by decide +kernel, by decide +kernel⟩, by decide +kernel, zv_zc_X4_fallsUnder_0⟩
set_option maxRecDepth 100000 in
theorem zv_zc_X6_screen_0 : ∀ r ∈ zc_X6_screen_0, decode cX6_screen r.1 = .ok (r.2.1, r.2.2.1) ∧ zi_lok r = true ∧ zi_ok yX6_screen.cls (decide (yX6_screen.name = "<init>")) zi_ms r = true := by decide +kernel
set_option maxRecDepth 100000 in
theorem zv_zc_X6_screen_1 : ∀ r ∈ zc_X6_screen_1, decode cX6_screen r.1 = .ok (r.2.1, r.2.2.1) ∧ zi_lok r = true ∧ zi_ok yX6_screen.cls (decide (yX6_screen.name = "<init>")) zi_ms r = true := by decide +kernel
set_option maxRecDepth 100000 in
theorem zv_zc_X6_screen_2 : ∀ r ∈ zc_X6_screen_2, decode cX6_screen r.1 = .ok (r.2.1, r.2.2.1) ∧ zi_lok r = true ∧ zi_ok yX6_screen.cls (decide (yX6_screen.name = "<init>")) zi_ms r = true := by decide +kernel
set_option maxRecDepth 100000 in
theorem zv_zc_X6_screen_3 : ∀ r ∈ zc_X6_screen_3, decode cX6_screen r.1 = .ok (r.2.1, r.2.2.1) ∧ zi_lok r = true ∧ zi_ok yX6_screen.cls (decide (yX6_screen.name = "<init>")) zi_ms r = true := by decide +kernel
set_option maxRecDepth 100000 in
theorem zm_49 : zi_mP (yX6_screen, cX6_screen, 6, (some FieldType.int), zc_X6_screen, 0, 0) := ⟨zi_tb_in (t := 982) (by decide +kernel), zi_tb_in (t := 103) (by decide +kernel), by decide +kernel, ⟨by decide +kernel, by decide +kernel⟩, by decide +kernel, List.forall_mem_append.mpr ⟨zv_zc_X6_screen_0, List.forall_mem_append.mpr ⟨zv_zc_X6_screen_1, List.forall_mem_append.mpr ⟨zv_zc_X6_screen_2, zv_zc_X6_screen_3⟩⟩⟩⟩
set_option maxRecDepth 100000 in
theorem zv_zc_X6_gone_0 : ∀ r ∈ zc_X6_gone_0, decode cX6_gone r.1 = .ok (r.2.1, r.2.2.1) ∧ zi_lok r = true ∧ zi_ok yX6_gone.cls (decide (yX6_gone.name = "<init>")) zi_ms r = true := by decide +kernel
set_option maxRecDepth 100000 in
theorem zv_zc_X6_gone_1 : ∀ r ∈ zc_X6_gone_1, decode cX6_gone r.1 = .ok (r.2.1, r.2.2.1) ∧ zi_lok r = true ∧ zi_ok yX6_gone.cls (decide (yX6_gone.name = "<init>")) zi_ms r = true := by decide +kernel
set_option maxRecDepth 100000 in
theorem zv_zc_X6_gone_2 : ∀ r ∈ zc_X6_gone_2, decode cX6_gone r.1 = .ok (r.2.1, r.2.2.1) ∧ zi_lok r = true ∧ zi_ok yX6_gone.cls (decide (yX6_gone.name = "<init>")) zi_ms r = true := by decide +kernel
set_option maxRecDepth 100000 in
theorem zv_zc_X6_gone_3 : ∀ r ∈ zc_X6_gone_3, decode cX6_gone r.1 = .ok (r.2.1, r.2.2.1) ∧ zi_lok r = true ∧ zi_ok yX6_gone.cls (decide (yX6_gone.name = "<init>")) zi_ms r = true := by decide +kernel
set_option maxRecDepth 100000 in
theorem zv_zc_X6_gone_4 : ∀ r ∈ zc_X6_gone_4, decode cX6_gone r.1 = .ok (r.2.1, r.2.2.1) ∧ zi_lok r = true ∧ zi_ok yX6_gone.cls (decide (yX6_gone.name = "<init>")) zi_ms r = true := by decide +kernel
set_option maxRecDepth 100000 in
theorem zv_zc_X6_gone_5 : ∀ r ∈ zc_X6_gone_5, decode cX6_gone r.1 = .ok (r.2.1, r.2.2.1) ∧ zi_lok r = true ∧ zi_ok yX6_gone.cls (decide (yX6_gone.name = "<init>")) zi_ms r = true := by decide +kernel
set_option maxRecDepth 100000 in
theorem zm_50 : zi_mP (yX6_gone, cX6_gone, 7, (some FieldType.int), zc_X6_gone, 0, 0) := ⟨zi_tb_in (t := 1065) (by decide +kernel), zi_tb_in (t := 103) (by decide +kernel), by decide +kernel, ⟨by decide +kernel, by decide +kernel⟩, by decide +kernel, List.forall_mem_append.mpr ⟨zv_zc_X6_gone_0, List.forall_mem_append.mpr ⟨zv_zc_X6_gone_1, List.forall_mem_append.mpr ⟨zv_zc_X6_gone_2, List.forall_mem_append.mpr ⟨zv_zc_X6_gone_3, List.forall_mem_append.mpr ⟨zv_zc_X6_gone_4, zv_zc_X6_gone_5⟩⟩⟩⟩⟩⟩
set_option maxRecDepth 100000 in
theorem zv_zc_X6_open_0 : ∀ r ∈ zc_X6_open_0, decode cX6_open r.1 = .ok (r.2.1, r.2.2.1) ∧ zi_lok r = true ∧ zi_ok yX6_open.cls (decide (yX6_open.name = "<init>")) zi_ms r = true := by decide +kernel
set_option maxRecDepth 100000 in
theorem zv_zc_X6_open_1 : ∀ r ∈ zc_X6_open_1, decode cX6_open r.1 = .ok (r.2.1, r.2.2.1) ∧ zi_lok r = true ∧ zi_ok yX6_open.cls (decide (yX6_open.name = "<init>")) zi_ms r = true := by decide +kernel
set_option maxRecDepth 100000 in
theorem zv_zc_X6_open_2 : ∀ r ∈ zc_X6_open_2, decode cX6_open r.1 = .ok (r.2.1, r.2.2.1) ∧ zi_lok r = true ∧ zi_ok yX6_open.cls (decide (yX6_open.name = "<init>")) zi_ms r = true := by decide +kernel
set_option maxRecDepth 100000 in
theorem zv_zc_X6_open_3 : ∀ r ∈ zc_X6_open_3, decode cX6_open r.1 = .ok (r.2.1, r.2.2.1) ∧ zi_lok r = true ∧ zi_ok yX6_open.cls (decide (yX6_open.name = "<init>")) zi_ms r = true := by decide +kernel
set_option maxRecDepth 100000 in
theorem zv_zc_X6_open_4 : ∀ r ∈ zc_X6_open_4, decode cX6_open r.1 = .ok (r.2.1, r.2.2.1) ∧ zi_lok r = true ∧ zi_ok yX6_open.cls (decide (yX6_open.name = "<init>")) zi_ms r = true := by decide +kernel
set_option maxRecDepth 100000 in
theorem zm_51 : zi_mP (yX6_open, cX6_open, 10, (some FieldType.int), zc_X6_open, 0, 0) := ⟨zi_tb_in (t := 1085) (by decide +kernel), zi_tb_in (t := 103) (by decide +kernel), by decide +kernel, ⟨by decide +kernel, by decide +kernel⟩, by decide +kernel, List.forall_mem_append.mpr ⟨zv_zc_X6_open_0, List.forall_mem_append.mpr ⟨zv_zc_X6_open_1, List.forall_mem_append.mpr ⟨zv_zc_X6_open_2, List.forall_mem_append.mpr ⟨zv_zc_X6_open_3, zv_zc_X6_open_4⟩⟩⟩⟩⟩
set_option maxRecDepth 100000 in
theorem zv_zc_X6_close_0 : ∀ r ∈ zc_X6_close_0, decode cX6_close r.1 = .ok (r.2.1, r.2.2.1) ∧ zi_lok r = true ∧ zi_ok yX6_close.cls (decide (yX6_close.name = "<init>")) zi_ms r = true := by decide +kernel
set_option maxRecDepth 100000 in
theorem zm_52 : zi_mP (yX6_close, cX6_close, 2, (some FieldType.int), zc_X6_close, 0, 0) := ⟨zi_tb_in (t := 1151) (by decide +kernel), zi_tb_in (t := 103) (by decide +kernel), by decide +kernel, ⟨by decide +kernel, by decide +kernel⟩, by decide +kernel, zv_zc_X6_close_0⟩
set_option maxRecDepth 100000 in
theorem zv_zc_X6_focus_0 : ∀ r ∈ zc_X6_focus_0, decode cX6_focus r.1 = .ok (r.2.1, r.2.2.1) ∧ zi_lok r = true ∧ zi_ok yX6_focus.cls (decide (yX6_focus.name = "<init>")) zi_ms r = true := by decide +kernel
set_option maxRecDepth 100000 in
theorem zm_53 : zi_mP (yX6_focus, cX6_focus, 3, (some FieldType.int), zc_X6_focus, 0, 0) := ⟨zi_tb_in (t := 1163) (by decide +kernel), zi_tb_in (t := 103) (by decide +kernel), by decide +kernel, ⟨by decide +kernel, by decide +kernel⟩, by decide +kernel, zv_zc_X6_focus_0⟩
set_option maxRecDepth 100000 in
theorem zv_zc_X6_back_0 : ∀ r ∈ zc_X6_back_0, decode cX6_back r.1 = .ok (r.2.1, r.2.2.1) ∧ zi_lok r = true ∧ zi_ok yX6_back.cls (decide (yX6_back.name = "<init>")) zi_ms r = true := by decide +kernel
set_option maxRecDepth 100000 in
theorem zm_54 : zi_mP (yX6_back, cX6_back, 2, (some FieldType.int), zc_X6_back, 0, 0) := ⟨zi_tb_in (t := 1167) (by decide +kernel), zi_tb_in (t := 103) (by decide +kernel), by decide +kernel, ⟨by decide +kernel, by decide +kernel⟩, by decide +kernel, zv_zc_X6_back_0⟩
set_option maxRecDepth 100000 in
theorem zv_zc_X6_toward_0 : ∀ r ∈ zc_X6_toward_0, decode cX6_toward r.1 = .ok (r.2.1, r.2.2.1) ∧ zi_lok r = true ∧ zi_ok yX6_toward.cls (decide (yX6_toward.name = "<init>")) zi_ms r = true := by decide +kernel
set_option maxRecDepth 100000 in
theorem zm_55 : zi_mP (yX6_toward, cX6_toward, 3, (some FieldType.int), zc_X6_toward, 0, 0) := ⟨zi_tb_in (t := 1171) (by decide +kernel), zi_tb_in (t := 103) (by decide +kernel), by decide +kernel, ⟨by decide +kernel, by decide +kernel⟩, by decide +kernel, zv_zc_X6_toward_0⟩
end
section
set_option maxRecDepth 100000 in
theorem zv_zc_X6_steps_0 : ∀ r ∈ zc_X6_steps_0, decode cX6_steps r.1 = .ok (r.2.1, r.2.2.1) ∧ zi_lok r = true ∧ zi_ok yX6_steps.cls (decide (yX6_steps.name = "<init>")) zi_ms r = true := by decide +kernel
set_option maxRecDepth 100000 in
theorem zv_zc_X6_steps_1 : ∀ r ∈ zc_X6_steps_1, decode cX6_steps r.1 = .ok (r.2.1, r.2.2.1) ∧ zi_lok r = true ∧ zi_ok yX6_steps.cls (decide (yX6_steps.name = "<init>")) zi_ms r = true := by decide +kernel
set_option maxRecDepth 100000 in
theorem zv_zc_X6_steps_2 : ∀ r ∈ zc_X6_steps_2, decode cX6_steps r.1 = .ok (r.2.1, r.2.2.1) ∧ zi_lok r = true ∧ zi_ok yX6_steps.cls (decide (yX6_steps.name = "<init>")) zi_ms r = true := by decide +kernel
set_option maxRecDepth 100000 in
theorem zm_56 : zi_mP (yX6_steps, cX6_steps, 7, (some FieldType.int), zc_X6_steps, 0, 0) := ⟨zi_tb_in (t := 1186) (by decide +kernel), zi_tb_in (t := 103) (by decide +kernel), by decide +kernel, ⟨by decide +kernel, by decide +kernel⟩, by decide +kernel, List.forall_mem_append.mpr ⟨zv_zc_X6_steps_0, List.forall_mem_append.mpr ⟨zv_zc_X6_steps_1, zv_zc_X6_steps_2⟩⟩⟩
set_option maxRecDepth 100000 in
theorem zv_zc_X6_drag_0 : ∀ r ∈ zc_X6_drag_0, decode cX6_drag r.1 = .ok (r.2.1, r.2.2.1) ∧ zi_lok r = true ∧ zi_ok yX6_drag.cls (decide (yX6_drag.name = "<init>")) zi_ms r = true := by decide +kernel
set_option maxRecDepth 100000 in
theorem zv_zc_X6_drag_1 : ∀ r ∈ zc_X6_drag_1, decode cX6_drag r.1 = .ok (r.2.1, r.2.2.1) ∧ zi_lok r = true ∧ zi_ok yX6_drag.cls (decide (yX6_drag.name = "<init>")) zi_ms r = true := by decide +kernel
set_option maxRecDepth 100000 in
theorem zv_zc_X6_drag_2 : ∀ r ∈ zc_X6_drag_2, decode cX6_drag r.1 = .ok (r.2.1, r.2.2.1) ∧ zi_lok r = true ∧ zi_ok yX6_drag.cls (decide (yX6_drag.name = "<init>")) zi_ms r = true := by decide +kernel
set_option maxRecDepth 100000 in
theorem zv_zc_X6_drag_3 : ∀ r ∈ zc_X6_drag_3, decode cX6_drag r.1 = .ok (r.2.1, r.2.2.1) ∧ zi_lok r = true ∧ zi_ok yX6_drag.cls (decide (yX6_drag.name = "<init>")) zi_ms r = true := by decide +kernel
set_option maxRecDepth 100000 in
theorem zv_zc_X6_drag_4 : ∀ r ∈ zc_X6_drag_4, decode cX6_drag r.1 = .ok (r.2.1, r.2.2.1) ∧ zi_lok r = true ∧ zi_ok yX6_drag.cls (decide (yX6_drag.name = "<init>")) zi_ms r = true := by decide +kernel
set_option maxRecDepth 100000 in
theorem zv_zc_X6_drag_5 : ∀ r ∈ zc_X6_drag_5, decode cX6_drag r.1 = .ok (r.2.1, r.2.2.1) ∧ zi_lok r = true ∧ zi_ok yX6_drag.cls (decide (yX6_drag.name = "<init>")) zi_ms r = true := by decide +kernel
set_option maxRecDepth 100000 in
theorem zm_57 : zi_mP (yX6_drag, cX6_drag, 9, (some FieldType.int), zc_X6_drag, 0, 0) := ⟨zi_tb_in (t := 1190) (by decide +kernel), zi_tb_in (t := 103) (by decide +kernel), by decide +kernel, ⟨by decide +kernel, by decide +kernel⟩, by decide +kernel, List.forall_mem_append.mpr ⟨zv_zc_X6_drag_0, List.forall_mem_append.mpr ⟨zv_zc_X6_drag_1, List.forall_mem_append.mpr ⟨zv_zc_X6_drag_2, List.forall_mem_append.mpr ⟨zv_zc_X6_drag_3, List.forall_mem_append.mpr ⟨zv_zc_X6_drag_4, zv_zc_X6_drag_5⟩⟩⟩⟩⟩⟩
set_option maxRecDepth 100000 in
theorem zv_zc_X6_move_0 : ∀ r ∈ zc_X6_move_0, decode cX6_move r.1 = .ok (r.2.1, r.2.2.1) ∧ zi_lok r = true ∧ zi_ok yX6_move.cls (decide (yX6_move.name = "<init>")) zi_ms r = true := by decide +kernel
set_option maxRecDepth 100000 in
theorem zv_zc_X6_move_1 : ∀ r ∈ zc_X6_move_1, decode cX6_move r.1 = .ok (r.2.1, r.2.2.1) ∧ zi_lok r = true ∧ zi_ok yX6_move.cls (decide (yX6_move.name = "<init>")) zi_ms r = true := by decide +kernel
set_option maxRecDepth 100000 in
theorem zm_58 : zi_mP (yX6_move, cX6_move, 4, (some FieldType.int), zc_X6_move, 0, 0) := ⟨zi_tb_in (t := 1194) (by decide +kernel), zi_tb_in (t := 103) (by decide +kernel), by decide +kernel, ⟨by decide +kernel, by decide +kernel⟩, by decide +kernel, List.forall_mem_append.mpr ⟨zv_zc_X6_move_0, zv_zc_X6_move_1⟩⟩
set_option maxRecDepth 100000 in
theorem zv_zc_X6_share_0 : ∀ r ∈ zc_X6_share_0, decode cX6_share r.1 = .ok (r.2.1, r.2.2.1) ∧ zi_lok r = true ∧ zi_ok yX6_share.cls (decide (yX6_share.name = "<init>")) zi_ms r = true := by decide +kernel
set_option maxRecDepth 100000 in
theorem zv_zc_X6_share_1 : ∀ r ∈ zc_X6_share_1, decode cX6_share r.1 = .ok (r.2.1, r.2.2.1) ∧ zi_lok r = true ∧ zi_ok yX6_share.cls (decide (yX6_share.name = "<init>")) zi_ms r = true := by decide +kernel
set_option maxRecDepth 100000 in
theorem zm_59 : zi_mP (yX6_share, cX6_share, 7, (some FieldType.int), zc_X6_share, 0, 0) := ⟨zi_tb_in (t := 1198) (by decide +kernel), zi_tb_in (t := 103) (by decide +kernel), by decide +kernel, ⟨by decide +kernel, by decide +kernel⟩, by decide +kernel, List.forall_mem_append.mpr ⟨zv_zc_X6_share_0, zv_zc_X6_share_1⟩⟩
set_option maxRecDepth 100000 in
theorem zv_zc_X6_area_0 : ∀ r ∈ zc_X6_area_0, decode cX6_area r.1 = .ok (r.2.1, r.2.2.1) ∧ zi_lok r = true ∧ zi_ok yX6_area.cls (decide (yX6_area.name = "<init>")) zi_ms r = true := by decide +kernel
set_option maxRecDepth 100000 in
theorem zm_60 : zi_mP (yX6_area, cX6_area, 3, (some FieldType.int), zc_X6_area, 0, 0) := ⟨zi_tb_in (t := 1202) (by decide +kernel), zi_tb_in (t := 103) (by decide +kernel), by decide +kernel, ⟨by decide +kernel, by decide +kernel⟩, by decide +kernel, zv_zc_X6_area_0⟩
set_option maxRecDepth 100000 in
theorem zv_zc_X6_about_0 : ∀ r ∈ zc_X6_about_0, decode cX6_about r.1 = .ok (r.2.1, r.2.2.1) ∧ zi_lok r = true ∧ zi_ok yX6_about.cls (decide (yX6_about.name = "<init>")) zi_ms r = true := by decide +kernel
set_option maxRecDepth 100000 in
theorem zv_zc_X6_about_1 : ∀ r ∈ zc_X6_about_1, decode cX6_about r.1 = .ok (r.2.1, r.2.2.1) ∧ zi_lok r = true ∧ zi_ok yX6_about.cls (decide (yX6_about.name = "<init>")) zi_ms r = true := by decide +kernel
set_option maxRecDepth 100000 in
theorem zm_61 : zi_mP (yX6_about, cX6_about, 3, (some FieldType.int), zc_X6_about, 0, 0) := ⟨zi_tb_in (t := 1206) (by decide +kernel), zi_tb_in (t := 103) (by decide +kernel), by decide +kernel, ⟨by decide +kernel, by decide +kernel⟩, by decide +kernel, List.forall_mem_append.mpr ⟨zv_zc_X6_about_0, zv_zc_X6_about_1⟩⟩
set_option maxRecDepth 100000 in
theorem zv_zc_X6_isOf_0 : ∀ r ∈ zc_X6_isOf_0, decode cX6_isOf r.1 = .ok (r.2.1, r.2.2.1) ∧ zi_lok r = true ∧ zi_ok yX6_isOf.cls (decide (yX6_isOf.name = "<init>")) zi_ms r = true := by decide +kernel
set_option maxRecDepth 100000 in
theorem zm_62 : zi_mP (yX6_isOf, cX6_isOf, 3, (some FieldType.int), zc_X6_isOf, 0, 0) := ⟨zi_tb_in (t := 1213) (by decide +kernel), zi_tb_in (t := 103) (by decide +kernel), by decide +kernel, ⟨by decide +kernel, by decide +kernel⟩, by decide +kernel, zv_zc_X6_isOf_0⟩
set_option maxRecDepth 100000 in
theorem zv_zc_X6_at_0 : ∀ r ∈ zc_X6_at_0, decode cX6_at r.1 = .ok (r.2.1, r.2.2.1) ∧ zi_lok r = true ∧ zi_ok yX6_at.cls (decide (yX6_at.name = "<init>")) zi_ms r = true := by decide +kernel
set_option maxRecDepth 100000 in
theorem zv_zc_X6_at_1 : ∀ r ∈ zc_X6_at_1, decode cX6_at r.1 = .ok (r.2.1, r.2.2.1) ∧ zi_lok r = true ∧ zi_ok yX6_at.cls (decide (yX6_at.name = "<init>")) zi_ms r = true := by decide +kernel
set_option maxRecDepth 100000 in
theorem zv_zc_X6_at_2 : ∀ r ∈ zc_X6_at_2, decode cX6_at r.1 = .ok (r.2.1, r.2.2.1) ∧ zi_lok r = true ∧ zi_ok yX6_at.cls (decide (yX6_at.name = "<init>")) zi_ms r = true := by decide +kernel
set_option maxRecDepth 100000 in
theorem zm_63 : zi_mP (yX6_at, cX6_at, 6, (some FieldType.int), zc_X6_at, 0, 0) := ⟨zi_tb_in (t := 1217) (by decide +kernel), zi_tb_in (t := 103) (by decide +kernel), by decide +kernel, ⟨by decide +kernel, by decide +kernel⟩, by decide +kernel, List.forall_mem_append.mpr ⟨zv_zc_X6_at_0, List.forall_mem_append.mpr ⟨zv_zc_X6_at_1, zv_zc_X6_at_2⟩⟩⟩
set_option maxRecDepth 100000 in
theorem zv_zc_X6_neighbour_0 : ∀ r ∈ zc_X6_neighbour_0, decode cX6_neighbour r.1 = .ok (r.2.1, r.2.2.1) ∧ zi_lok r = true ∧ zi_ok yX6_neighbour.cls (decide (yX6_neighbour.name = "<init>")) zi_ms r = true := by decide +kernel
set_option maxRecDepth 100000 in
theorem zm_64 : zi_mP (yX6_neighbour, cX6_neighbour, 4, (some FieldType.int), zc_X6_neighbour, 0, 0) := ⟨zi_tb_in (t := 1225) (by decide +kernel), zi_tb_in (t := 103) (by decide +kernel), by decide +kernel, ⟨by decide +kernel, by decide +kernel⟩, by decide +kernel, zv_zc_X6_neighbour_0⟩
set_option maxRecDepth 100000 in
theorem zv_zc_X6_told_0 : ∀ r ∈ zc_X6_told_0, decode cX6_told r.1 = .ok (r.2.1, r.2.2.1) ∧ zi_lok r = true ∧ zi_ok yX6_told.cls (decide (yX6_told.name = "<init>")) zi_ms r = true := by decide +kernel
set_option maxRecDepth 100000 in
theorem zv_zc_X6_told_1 : ∀ r ∈ zc_X6_told_1, decode cX6_told r.1 = .ok (r.2.1, r.2.2.1) ∧ zi_lok r = true ∧ zi_ok yX6_told.cls (decide (yX6_told.name = "<init>")) zi_ms r = true := by decide +kernel
set_option maxRecDepth 100000 in
theorem zv_zc_X6_told_2 : ∀ r ∈ zc_X6_told_2, decode cX6_told r.1 = .ok (r.2.1, r.2.2.1) ∧ zi_lok r = true ∧ zi_ok yX6_told.cls (decide (yX6_told.name = "<init>")) zi_ms r = true := by decide +kernel
set_option maxRecDepth 100000 in
theorem zm_65 : zi_mP (yX6_told, cX6_told, 5, (some FieldType.int), zc_X6_told, 0, 0) := ⟨zi_tb_in (t := 1229) (by decide +kernel), zi_tb_in (t := 103) (by decide +kernel), by decide +kernel, ⟨by decide +kernel, by decide +kernel⟩, by decide +kernel, List.forall_mem_append.mpr ⟨zv_zc_X6_told_0, List.forall_mem_append.mpr ⟨zv_zc_X6_told_1, zv_zc_X6_told_2⟩⟩⟩
set_option maxRecDepth 100000 in
theorem zv_zc_X6_tab_0 : ∀ r ∈ zc_X6_tab_0, decode cX6_tab r.1 = .ok (r.2.1, r.2.2.1) ∧ zi_lok r = true ∧ zi_ok yX6_tab.cls (decide (yX6_tab.name = "<init>")) zi_ms r = true := by decide +kernel
set_option maxRecDepth 100000 in
theorem zv_zc_X6_tab_1 : ∀ r ∈ zc_X6_tab_1, decode cX6_tab r.1 = .ok (r.2.1, r.2.2.1) ∧ zi_lok r = true ∧ zi_ok yX6_tab.cls (decide (yX6_tab.name = "<init>")) zi_ms r = true := by decide +kernel
set_option maxRecDepth 100000 in
theorem zm_66 : zi_mP (yX6_tab, cX6_tab, 5, (some FieldType.int), zc_X6_tab, 0, 0) := ⟨zi_tb_in (t := 1233) (by decide +kernel), zi_tb_in (t := 103) (by decide +kernel), by decide +kernel, ⟨by decide +kernel, by decide +kernel⟩, by decide +kernel, List.forall_mem_append.mpr ⟨zv_zc_X6_tab_0, zv_zc_X6_tab_1⟩⟩
set_option maxRecDepth 100000 in
theorem zv_zc_X6_count_0 : ∀ r ∈ zc_X6_count_0, decode cX6_count r.1 = .ok (r.2.1, r.2.2.1) ∧ zi_lok r = true ∧ zi_ok yX6_count.cls (decide (yX6_count.name = "<init>")) zi_ms r = true := by decide +kernel
set_option maxRecDepth 100000 in
theorem zv_zc_X6_count_1 : ∀ r ∈ zc_X6_count_1, decode cX6_count r.1 = .ok (r.2.1, r.2.2.1) ∧ zi_lok r = true ∧ zi_ok yX6_count.cls (decide (yX6_count.name = "<init>")) zi_ms r = true := by decide +kernel
set_option maxRecDepth 100000 in
theorem zv_zc_X6_count_2 : ∀ r ∈ zc_X6_count_2, decode cX6_count r.1 = .ok (r.2.1, r.2.2.1) ∧ zi_lok r = true ∧ zi_ok yX6_count.cls (decide (yX6_count.name = "<init>")) zi_ms r = true := by decide +kernel
set_option maxRecDepth 100000 in
theorem zm_67 : zi_mP (yX6_count, cX6_count, 4, (some FieldType.int), zc_X6_count, 0, 0) := ⟨zi_tb_in (t := 1237) (by decide +kernel), zi_tb_in (t := 103) (by decide +kernel), by decide +kernel, ⟨by decide +kernel, by decide +kernel⟩, by decide +kernel, List.forall_mem_append.mpr ⟨zv_zc_X6_count_0, List.forall_mem_append.mpr ⟨zv_zc_X6_count_1, zv_zc_X6_count_2⟩⟩⟩
set_option maxRecDepth 100000 in
theorem zv_zc_X6_isIn_0 : ∀ r ∈ zc_X6_isIn_0, decode cX6_isIn r.1 = .ok (r.2.1, r.2.2.1) ∧ zi_lok r = true ∧ zi_ok yX6_isIn.cls (decide (yX6_isIn.name = "<init>")) zi_ms r = true := by decide +kernel
set_option maxRecDepth 100000 in
theorem zm_68 : zi_mP (yX6_isIn, cX6_isIn, 3, (some FieldType.boolean), zc_X6_isIn, 0, 0) := ⟨zi_tb_in (t := 985) (by decide +kernel), zi_tb_in (t := 103) (by decide +kernel), by decide +kernel, ⟨by decide +kernel, by decide +kernel⟩, by decide +kernel, zv_zc_X6_isIn_0⟩
end
section
set_option maxRecDepth 100000 in
theorem zv_zc_X6_isWindow_0 : ∀ r ∈ zc_X6_isWindow_0, decode cX6_isWindow r.1 = .ok (r.2.1, r.2.2.1) ∧ zi_lok r = true ∧ zi_ok yX6_isWindow.cls (decide (yX6_isWindow.name = "<init>")) zi_ms r = true := by decide +kernel
set_option maxRecDepth 100000 in
theorem zm_69 : zi_mP (yX6_isWindow, cX6_isWindow, 2, (some FieldType.boolean), zc_X6_isWindow, 0, 0) := ⟨zi_tb_in (t := 1089) (by decide +kernel), zi_tb_in (t := 103) (by decide +kernel), by decide +kernel, ⟨by decide +kernel, by decide +kernel⟩, by decide +kernel, zv_zc_X6_isWindow_0⟩
set_option maxRecDepth 100000 in
theorem zv_zc_X6_spot_0 : ∀ r ∈ zc_X6_spot_0, decode cX6_spot r.1 = .ok (r.2.1, r.2.2.1) ∧ zi_lok r = true ∧ zi_ok yX6_spot.cls (decide (yX6_spot.name = "<init>")) zi_ms r = true := by decide +kernel
set_option maxRecDepth 100000 in
theorem zm_70 : zi_mP (yX6_spot, cX6_spot, 2, (some FieldType.int), zc_X6_spot, 0, 0) := ⟨zi_tb_in (t := 993) (by decide +kernel), zi_tb_in (t := 103) (by decide +kernel), by decide +kernel, ⟨by decide +kernel, by decide +kernel⟩, by decide +kernel, zv_zc_X6_spot_0⟩
set_option maxRecDepth 100000 in
theorem zv_zc_X6_clearTree_0 : ∀ r ∈ zc_X6_clearTree_0, decode cX6_clearTree r.1 = .ok (r.2.1, r.2.2.1) ∧ zi_lok r = true ∧ zi_ok yX6_clearTree.cls (decide (yX6_clearTree.name = "<init>")) zi_ms r = true := by decide +kernel
set_option maxRecDepth 100000 in
theorem zm_71 : zi_mP (yX6_clearTree, cX6_clearTree, 3, none, zc_X6_clearTree, 0, 0) := ⟨zi_tb_in (t := 990) (by decide +kernel), zi_tb_in (t := 103) (by decide +kernel), by decide +kernel, ⟨by decide +kernel, by decide +kernel⟩, by decide +kernel, zv_zc_X6_clearTree_0⟩
set_option maxRecDepth 100000 in
theorem zv_zc_X6_screenAtHand_0 : ∀ r ∈ zc_X6_screenAtHand_0, decode cX6_screenAtHand r.1 = .ok (r.2.1, r.2.2.1) ∧ zi_lok r = true ∧ zi_ok yX6_screenAtHand.cls (decide (yX6_screenAtHand.name = "<init>")) zi_ms r = true := by decide +kernel
set_option maxRecDepth 100000 in
theorem zv_zc_X6_screenAtHand_1 : ∀ r ∈ zc_X6_screenAtHand_1, decode cX6_screenAtHand r.1 = .ok (r.2.1, r.2.2.1) ∧ zi_lok r = true ∧ zi_ok yX6_screenAtHand.cls (decide (yX6_screenAtHand.name = "<init>")) zi_ms r = true := by decide +kernel
set_option maxRecDepth 100000 in
theorem zm_72 : zi_mP (yX6_screenAtHand, cX6_screenAtHand, 2, (some FieldType.int), zc_X6_screenAtHand, 0, 0) := ⟨zi_tb_in (t := 1098) (by decide +kernel), zi_tb_in (t := 103) (by decide +kernel), by decide +kernel, ⟨by decide +kernel, by decide +kernel⟩, by decide +kernel, List.forall_mem_append.mpr ⟨zv_zc_X6_screenAtHand_0, zv_zc_X6_screenAtHand_1⟩⟩
set_option maxRecDepth 100000 in
theorem zv_zc_X6_freeNumber_0 : ∀ r ∈ zc_X6_freeNumber_0, decode cX6_freeNumber r.1 = .ok (r.2.1, r.2.2.1) ∧ zi_lok r = true ∧ zi_ok yX6_freeNumber.cls (decide (yX6_freeNumber.name = "<init>")) zi_ms r = true := by decide +kernel
set_option maxRecDepth 100000 in
theorem zm_73 : zi_mP (yX6_freeNumber, cX6_freeNumber, 2, (some FieldType.int), zc_X6_freeNumber, 0, 0) := ⟨zi_tb_in (t := 1093) (by decide +kernel), zi_tb_in (t := 103) (by decide +kernel), by decide +kernel, ⟨by decide +kernel, by decide +kernel⟩, by decide +kernel, zv_zc_X6_freeNumber_0⟩
end
section
set_option maxRecDepth 100000 in
theorem zi_ms_all : ∀ mt ∈ zi_ms, zi_mP mt := List.forall_mem_cons.mpr ⟨zm_0, List.forall_mem_cons.mpr ⟨zm_1, List.forall_mem_cons.mpr ⟨zm_2, List.forall_mem_cons.mpr ⟨zm_3, List.forall_mem_cons.mpr ⟨zm_4, List.forall_mem_cons.mpr ⟨zm_5, List.forall_mem_cons.mpr ⟨zm_6, List.forall_mem_cons.mpr ⟨zm_7, List.forall_mem_cons.mpr ⟨zm_8, List.forall_mem_cons.mpr ⟨zm_9, List.forall_mem_cons.mpr ⟨zm_10, List.forall_mem_cons.mpr ⟨zm_11, List.forall_mem_cons.mpr ⟨zm_12, List.forall_mem_cons.mpr ⟨zm_13, List.forall_mem_cons.mpr ⟨zm_14, List.forall_mem_cons.mpr ⟨zm_15, List.forall_mem_cons.mpr ⟨zm_16, List.forall_mem_cons.mpr ⟨zm_17, List.forall_mem_cons.mpr ⟨zm_18, List.forall_mem_cons.mpr ⟨zm_19, List.forall_mem_cons.mpr ⟨zm_20, List.forall_mem_cons.mpr ⟨zm_21, List.forall_mem_cons.mpr ⟨zm_22, List.forall_mem_cons.mpr ⟨zm_23, List.forall_mem_cons.mpr ⟨zm_24, List.forall_mem_cons.mpr ⟨zm_25, List.forall_mem_cons.mpr ⟨zm_26, List.forall_mem_cons.mpr ⟨zm_27, List.forall_mem_cons.mpr ⟨zm_28, List.forall_mem_cons.mpr ⟨zm_29, List.forall_mem_cons.mpr ⟨zm_30, List.forall_mem_cons.mpr ⟨zm_31, List.forall_mem_cons.mpr ⟨zm_32, List.forall_mem_cons.mpr ⟨zm_33, List.forall_mem_cons.mpr ⟨zm_34, List.forall_mem_cons.mpr ⟨zm_35, List.forall_mem_cons.mpr ⟨zm_36, List.forall_mem_cons.mpr ⟨zm_37, List.forall_mem_cons.mpr ⟨zm_38, List.forall_mem_cons.mpr ⟨zm_39, List.forall_mem_cons.mpr ⟨zm_40, List.forall_mem_cons.mpr ⟨zm_41, List.forall_mem_cons.mpr ⟨zm_42, List.forall_mem_cons.mpr ⟨zm_43, List.forall_mem_cons.mpr ⟨zm_44, List.forall_mem_cons.mpr ⟨zm_45, List.forall_mem_cons.mpr ⟨zm_46, List.forall_mem_cons.mpr ⟨zm_47, List.forall_mem_cons.mpr ⟨zm_48, List.forall_mem_cons.mpr ⟨zm_49, List.forall_mem_cons.mpr ⟨zm_50, List.forall_mem_cons.mpr ⟨zm_51, List.forall_mem_cons.mpr ⟨zm_52, List.forall_mem_cons.mpr ⟨zm_53, List.forall_mem_cons.mpr ⟨zm_54, List.forall_mem_cons.mpr ⟨zm_55, List.forall_mem_cons.mpr ⟨zm_56, List.forall_mem_cons.mpr ⟨zm_57, List.forall_mem_cons.mpr ⟨zm_58, List.forall_mem_cons.mpr ⟨zm_59, List.forall_mem_cons.mpr ⟨zm_60, List.forall_mem_cons.mpr ⟨zm_61, List.forall_mem_cons.mpr ⟨zm_62, List.forall_mem_cons.mpr ⟨zm_63, List.forall_mem_cons.mpr ⟨zm_64, List.forall_mem_cons.mpr ⟨zm_65, List.forall_mem_cons.mpr ⟨zm_66, List.forall_mem_cons.mpr ⟨zm_67, List.forall_mem_cons.mpr ⟨zm_68, List.forall_mem_cons.mpr ⟨zm_69, List.forall_mem_cons.mpr ⟨zm_70, List.forall_mem_cons.mpr ⟨zm_71, List.forall_mem_cons.mpr ⟨zm_72, List.forall_mem_cons.mpr ⟨zm_73, fun _ h => absurd h List.not_mem_nil⟩⟩⟩⟩⟩⟩⟩⟩⟩⟩⟩⟩⟩⟩⟩⟩⟩⟩⟩⟩⟩⟩⟩⟩⟩⟩⟩⟩⟩⟩⟩⟩⟩⟩⟩⟩⟩⟩⟩⟩⟩⟩⟩⟩⟩⟩⟩⟩⟩⟩⟩⟩⟩⟩⟩⟩⟩⟩⟩⟩⟩⟩⟩⟩⟩⟩⟩⟩⟩⟩⟩⟩⟩⟩
theorem zi_ms_ok : zi_mOk zi_ms := fun a mt h => zi_ms_all mt (List.mem_of_getElem? h)
theorem zi_lay {C : String} {T : u_T} {N : Nat} (ps : List Nat) (h : u_ws C T N = ps.filterMap (fun i => lw_tbl[i]?)) (hg : (u_ws C T N).all goodWord = true) : ∀ w ∈ u_ws C T N, w ∈ zi_Ts := by
  intro w hw
  have h1 := List.all_eq_true.mp hg w hw
  rw [h] at hw
  obtain ⟨i, -, hi⟩ := List.mem_filterMap.mp hw
  exact List.mem_filter.mpr ⟨List.mem_of_getElem? hi, h1⟩
set_option maxRecDepth 100000 in
theorem zk_0 : zi_cok 0 (RX0, TX0, 4) := ⟨zi_lay [256, 258, 260, 262] (by decide +kernel) (by decide +kernel), tyX0_ok, nmX0, rfl, zi_tb_in (t := 241) (by decide +kernel), zi_tb_in (t := 102) (by decide +kernel)⟩
set_option maxRecDepth 100000 in
theorem zk_1 : zi_cok 1 (RX1, TX1, 2) := ⟨zi_lay [126, 128] (by decide +kernel) (by decide +kernel), tyX1_ok, nmX1, rfl, zi_tb_in (t := 119) (by decide +kernel), zi_tb_in (t := 97) (by decide +kernel)⟩
set_option maxRecDepth 100000 in
theorem zk_2 : zi_cok 2 (RX2, TX2, 4) := ⟨zi_lay [273, 275, 277, 279] (by decide +kernel) (by decide +kernel), tyX2_ok, nmX2, rfl, zi_tb_in (t := 233) (by decide +kernel), zi_tb_in (t := 101) (by decide +kernel)⟩
set_option maxRecDepth 100000 in
theorem zk_3 : zi_cok 3 (RX3, TX3, 16) := ⟨zi_lay [169, 171, 173, 175, 177, 179, 181, 183, 185, 187, 189, 191, 193, 195, 197, 199] (by decide +kernel) (by decide +kernel), tyX3_ok, nmX3, rfl, zi_tb_in (t := 133) (by decide +kernel), zi_tb_in (t := 98) (by decide +kernel)⟩
set_option maxRecDepth 100000 in
theorem zk_4 : zi_cok 4 (RX4, TX4, 6) := ⟨zi_lay [219, 221, 223, 225, 227, 229] (by decide +kernel) (by decide +kernel), tyX4_ok, nmX4, rfl, zi_tb_in (t := 202) (by decide +kernel), zi_tb_in (t := 100) (by decide +kernel)⟩
set_option maxRecDepth 100000 in
theorem zk_5 : zi_cok 5 (RX5, TX5, 9) := ⟨zi_lay [291, 293, 295, 297, 299, 301, 303, 305, 307] (by decide +kernel) (by decide +kernel), tyX5_ok, nmX5, rfl, zi_tb_in (t := 107) (by decide +kernel), zi_tb_in (t := 96) (by decide +kernel)⟩
set_option maxRecDepth 100000 in
theorem zk_6 : zi_cok 6 (RX6, TX6, 33) := ⟨zi_lay [912, 914, 916, 918, 920, 922, 924, 926, 928, 930, 932, 934, 936, 938, 940, 942, 944, 946, 948, 950, 952, 954, 956, 958, 960, 962, 964, 966, 968, 970, 972, 974, 976] (by decide +kernel) (by decide +kernel), tyX6_ok, nmX6, rfl, zi_tb_in (t := 874) (by decide +kernel), zi_tb_in (t := 103) (by decide +kernel)⟩
theorem zi_cl_ok : ∀ a q, vwCl[a]? = some q → zi_cok a q := by
  intro a q h
  match a, h with
  | 0, h => cases h; exact zk_0
  | 1, h => cases h; exact zk_1
  | 2, h => cases h; exact zk_2
  | 3, h => cases h; exact zk_3
  | 4, h => cases h; exact zk_4
  | 5, h => cases h; exact zk_5
  | 6, h => cases h; exact zk_6
  | k + 7, h => simp at h
theorem zi_AI : Cond.arrayClass .int ∈ zi_Ts := zi_tb_in (t := 131) (by decide +kernel)
theorem zi_AZ : Cond.arrayClass .boolean ∈ zi_Ts := zi_tb_in (t := 232) (by decide +kernel)
theorem zi_oI : Cond.instanceMethod objectInit ∈ zi_Ts := zi_tb_in (t := 112) (by decide +kernel)
theorem zi_oC : Cond.code objectInit ⟨#[0xb1]⟩ 1 none ∈ zi_Ts := zi_tb_in (t := 113) (by decide +kernel)
theorem zi_nest_in : ∀ w ∈ zi_nest, w ∈ lw_tbl := by
  have h : zi_nest = [120, 139, 203, 234, 242, 446, 591, 727, 730].filterMap (fun i => lw_tbl[i]?) := by decide +kernel
  intro w hw
  rw [h] at hw
  obtain ⟨i, -, hi⟩ := List.mem_filterMap.mp hw
  exact List.mem_of_getElem? hi
theorem zi_ov2 : Cond.arrayOver (.object RX2) ∈ lw_tbl := List.mem_of_getElem? (i := 117) (by decide +kernel)
theorem zi_ov4 : Cond.arrayOver (.object RX4) ∈ lw_tbl := List.mem_of_getElem? (i := 115) (by decide +kernel)
theorem zi_ovA : Cond.arrayOver (.array .int) ∈ lw_tbl := List.mem_of_getElem? (i := 141) (by decide +kernel)
set_option maxRecDepth 100000 in
theorem zv_L_0 : ∀ r ∈ zc_L_0, decode code r.1 = .ok (r.2.1, r.2.2.1) ∧ zi_lok r = true ∧ zi_ok RL false zi_ms r = true := by decide +kernel
set_option maxRecDepth 100000 in
theorem zv_L_1 : ∀ r ∈ zc_L_1, decode code r.1 = .ok (r.2.1, r.2.2.1) ∧ zi_lok r = true ∧ zi_ok RL false zi_ms r = true := by decide +kernel
set_option maxRecDepth 100000 in
theorem zv_L_2 : ∀ r ∈ zc_L_2, decode code r.1 = .ok (r.2.1, r.2.2.1) ∧ zi_lok r = true ∧ zi_ok RL false zi_ms r = true := by decide +kernel
set_option maxRecDepth 100000 in
theorem zv_L_3 : ∀ r ∈ zc_L_3, decode code r.1 = .ok (r.2.1, r.2.2.1) ∧ zi_lok r = true ∧ zi_ok RL false zi_ms r = true := by decide +kernel
set_option maxRecDepth 100000 in
theorem zv_L_4 : ∀ r ∈ zc_L_4, decode code r.1 = .ok (r.2.1, r.2.2.1) ∧ zi_lok r = true ∧ zi_ok RL false zi_ms r = true := by decide +kernel
set_option maxRecDepth 100000 in
theorem zv_L_5 : ∀ r ∈ zc_L_5, decode code r.1 = .ok (r.2.1, r.2.2.1) ∧ zi_lok r = true ∧ zi_ok RL false zi_ms r = true := by decide +kernel
set_option maxRecDepth 100000 in
theorem zv_L_6 : ∀ r ∈ zc_L_6, decode code r.1 = .ok (r.2.1, r.2.2.1) ∧ zi_lok r = true ∧ zi_ok RL false zi_ms r = true := by decide +kernel
set_option maxRecDepth 100000 in
theorem zv_L_7 : ∀ r ∈ zc_L_7, decode code r.1 = .ok (r.2.1, r.2.2.1) ∧ zi_lok r = true ∧ zi_ok RL false zi_ms r = true := by decide +kernel
set_option maxRecDepth 100000 in
theorem zv_L_8 : ∀ r ∈ zc_L_8, decode code r.1 = .ok (r.2.1, r.2.2.1) ∧ zi_lok r = true ∧ zi_ok RL false zi_ms r = true := by decide +kernel
set_option maxRecDepth 100000 in
theorem zv_L_9 : ∀ r ∈ zc_L_9, decode code r.1 = .ok (r.2.1, r.2.2.1) ∧ zi_lok r = true ∧ zi_ok RL false zi_ms r = true := by decide +kernel
set_option maxRecDepth 100000 in
theorem zv_L_10 : ∀ r ∈ zc_L_10, decode code r.1 = .ok (r.2.1, r.2.2.1) ∧ zi_lok r = true ∧ zi_ok RL false zi_ms r = true := by decide +kernel
set_option maxRecDepth 100000 in
theorem zv_L_11 : ∀ r ∈ zc_L_11, decode code r.1 = .ok (r.2.1, r.2.2.1) ∧ zi_lok r = true ∧ zi_ok RL false zi_ms r = true := by decide +kernel
set_option maxRecDepth 100000 in
theorem zv_L_12 : ∀ r ∈ zc_L_12, decode code r.1 = .ok (r.2.1, r.2.2.1) ∧ zi_lok r = true ∧ zi_ok RL false zi_ms r = true := by decide +kernel
set_option maxRecDepth 100000 in
theorem zv_L_13 : ∀ r ∈ zc_L_13, decode code r.1 = .ok (r.2.1, r.2.2.1) ∧ zi_lok r = true ∧ zi_ok RL false zi_ms r = true := by decide +kernel
theorem zv_L : ∀ r ∈ zc_L, decode code r.1 = .ok (r.2.1, r.2.2.1) ∧ zi_lok r = true ∧ zi_ok RL false zi_ms r = true := List.forall_mem_append.mpr ⟨zv_L_0, List.forall_mem_append.mpr ⟨zv_L_1, List.forall_mem_append.mpr ⟨zv_L_2, List.forall_mem_append.mpr ⟨zv_L_3, List.forall_mem_append.mpr ⟨zv_L_4, List.forall_mem_append.mpr ⟨zv_L_5, List.forall_mem_append.mpr ⟨zv_L_6, List.forall_mem_append.mpr ⟨zv_L_7, List.forall_mem_append.mpr ⟨zv_L_8, List.forall_mem_append.mpr ⟨zv_L_9, List.forall_mem_append.mpr ⟨zv_L_10, List.forall_mem_append.mpr ⟨zv_L_11, List.forall_mem_append.mpr ⟨zv_L_12, zv_L_13⟩⟩⟩⟩⟩⟩⟩⟩⟩⟩⟩⟩⟩
end
section
def zh_1 : zi_Hp := [(5, [.ref 2, .ref 3, .ref 4, .ref 6, .ref 8, .ref 32, .ref 33, .ref 34, .ref 35]), (10, [.ref 37, .ref 40, .ref 43, .ref 46, .ref 49, .ref 52, .ref 55, .ref 58, .ref 61, .ref 64]), (9, [.ref 67, .ref 122, .ref 177]), (1, [.ref 5, .int 0]), (7, List.replicate 10 (.int 0)), (1, [.ref 7, .int 0]), (7, List.replicate 10 (.int 0)), (3, [.ref 9, .ref 11, .ref 12, .ref 15, .ref 16, .ref 17, .ref 18, .ref 19, .ref 20, .int (-1), .ref 21, .ref 22, .int 0, .ref 23, .ref 26, .ref 29]), (1, [.ref 10, .int 0]), (7, List.replicate 10 (.int 0)), (7, List.replicate 10 (.int (-1))), (11, [.ref 13, .ref 14]), (7, List.replicate 10 (.int 0)), (7, List.replicate 10 (.int 0)), (7, List.replicate 19 (.int 3)), (7, List.replicate 19 (.int 0)), (7, List.replicate 19 (.int 0)), (7, List.replicate 19 (.int 0)), (7, List.replicate 19 (.int 0)), (7, List.replicate 19 (.int 0)), (7, List.replicate 19 (.int 0)), (7, List.replicate 19 (.int 0)), (11, [.ref 24, .ref 25]), (7, List.replicate 19 (.int 0)), (7, List.replicate 19 (.int 0)), (11, [.ref 27, .ref 28]), (7, List.replicate 19 (.int 0)), (7, List.replicate 19 (.int 0)), (11, [.ref 30, .ref 31]), (7, List.replicate 19 (.int 0)), (7, List.replicate 19 (.int 0)), (8, List.replicate 10 (.int 0)), (7, [.int 0, .int 0]), (7, List.replicate 10 (.int 0)), (1, [.ref 36, .int 0]), (7, List.replicate 10 (.int 0)), (4, [.ref 38, .ref 39, .int 0, .int 0, .int (-1), .int (-1)]), (7, [.int 0, .int 0]), (7, [.int 0, .int 0]), (4, [.ref 41, .ref 42, .int 0, .int 0, .int (-1), .int (-1)]), (7, [.int 0, .int 0]), (7, [.int 0, .int 0]), (4, [.ref 44, .ref 45, .int 0, .int 0, .int (-1), .int (-1)]), (7, [.int 0, .int 0]), (7, [.int 0, .int 0]), (4, [.ref 47, .ref 48, .int 0, .int 0, .int (-1), .int (-1)]), (7, [.int 0, .int 0]), (7, [.int 0, .int 0]), (4, [.ref 50, .ref 51, .int 0, .int 0, .int (-1), .int (-1)]), (7, [.int 0, .int 0]), (7, [.int 0, .int 0]), (4, [.ref 53, .ref 54, .int 0, .int 0, .int (-1), .int (-1)]), (7, [.int 0, .int 0]), (7, [.int 0, .int 0]), (4, [.ref 56, .ref 57, .int 0, .int 0, .int (-1), .int (-1)]), (7, [.int 0, .int 0]), (7, [.int 0, .int 0]), (4, [.ref 59, .ref 60, .int 0, .int 0, .int (-1), .int (-1)]), (7, [.int 0, .int 0]), (7, [.int 0, .int 0]), (4, [.ref 62, .ref 63, .int 0, .int 0, .int (-1), .int (-1)]), (7, [.int 0, .int 0]), (7, [.int 0, .int 0]), (4, [.ref 65, .ref 66, .int 0, .int 0, .int (-1), .int (-1)]), (7, [.int 0, .int 0]), (7, [.int 0, .int 0]), (2, [.ref 68, .ref 69, .ref 93, .int 0]), (7, [.int 0, .int 0]), (3, [.ref 70, .ref 72, .ref 73, .ref 76, .ref 77, .ref 78, .ref 79, .ref 80, .ref 81, .int (-1), .ref 82, .ref 83, .int 0, .ref 84, .ref 87, .ref 90]), (1, [.ref 71, .int 0]), (7, List.replicate 10 (.int 0)), (7, List.replicate 10 (.int (-1))), (11, [.ref 74, .ref 75]), (7, List.replicate 10 (.int 0)), (7, List.replicate 10 (.int 0)), (7, List.replicate 19 (.int 3)), (7, List.replicate 19 (.int 0)), (7, List.replicate 19 (.int 0)), (7, List.replicate 19 (.int 0)), (7, List.replicate 19 (.int 0)), (7, List.replicate 19 (.int 0)), (7, List.replicate 19 (.int 0)), (7, List.replicate 19 (.int 0)), (11, [.ref 85, .ref 86]), (7, List.replicate 19 (.int 0)), (7, List.replicate 19 (.int 0)), (11, [.ref 88, .ref 89]), (7, List.replicate 19 (.int 0)), (7, List.replicate 19 (.int 0)), (11, [.ref 91, .ref 92]), (7, List.replicate 19 (.int 0)), (7, List.replicate 19 (.int 0)), (0, [.ref 94, .ref 118, .ref 121, .int 0]), (3, [.ref 95, .ref 97, .ref 98, .ref 101, .ref 102, .ref 103, .ref 104, .ref 105, .ref 106, .int (-1), .ref 107, .ref 108, .int 0, .ref 109, .ref 112, .ref 115]), (1, [.ref 96, .int 0]), (7, List.replicate 10 (.int 0)), (7, List.replicate 10 (.int (-1))), (11, [.ref 99, .ref 100]), (7, List.replicate 10 (.int 0)), (7, List.replicate 10 (.int 0)), (7, List.replicate 19 (.int 3)), (7, List.replicate 19 (.int 0)), (7, List.replicate 19 (.int 0)), (7, List.replicate 19 (.int 0)), (7, List.replicate 19 (.int 0)), (7, List.replicate 19 (.int 0)), (7, List.replicate 19 (.int 0)), (7, List.replicate 19 (.int 0)), (11, [.ref 110, .ref 111]), (7, List.replicate 19 (.int 0)), (7, List.replicate 19 (.int 0)), (11, [.ref 113, .ref 114]), (7, List.replicate 19 (.int 0)), (7, List.replicate 19 (.int 0)), (11, [.ref 116, .ref 117]), (7, List.replicate 19 (.int 0)), (7, List.replicate 19 (.int 0)), (11, [.ref 119, .ref 120]), (7, List.replicate 10 (.int 0)), (7, List.replicate 10 (.int 0)), (8, List.replicate 10 (.int 0)), (2, [.ref 123, .ref 124, .ref 148, .int 0]), (7, [.int 0, .int 0]), (3, [.ref 125, .ref 127, .ref 128, .ref 131, .ref 132, .ref 133, .ref 134, .ref 135, .ref 136, .int (-1), .ref 137, .ref 138, .int 0, .ref 139, .ref 142, .ref 145]), (1, [.ref 126, .int 0]), (7, List.replicate 10 (.int 0)), (7, List.replicate 10 (.int (-1))), (11, [.ref 129, .ref 130]), (7, List.replicate 10 (.int 0)), (7, List.replicate 10 (.int 0)), (7, List.replicate 19 (.int 3)), (7, List.replicate 19 (.int 0)), (7, List.replicate 19 (.int 0)), (7, List.replicate 19 (.int 0)), (7, List.replicate 19 (.int 0)), (7, List.replicate 19 (.int 0)), (7, List.replicate 19 (.int 0)), (7, List.replicate 19 (.int 0)), (11, [.ref 140, .ref 141]), (7, List.replicate 19 (.int 0)), (7, List.replicate 19 (.int 0)), (11, [.ref 143, .ref 144]), (7, List.replicate 19 (.int 0)), (7, List.replicate 19 (.int 0)), (11, [.ref 146, .ref 147]), (7, List.replicate 19 (.int 0)), (7, List.replicate 19 (.int 0)), (0, [.ref 149, .ref 173, .ref 176, .int 0]), (3, [.ref 150, .ref 152, .ref 153, .ref 156, .ref 157, .ref 158, .ref 159, .ref 160, .ref 161, .int (-1), .ref 162, .ref 163, .int 0, .ref 164, .ref 167, .ref 170]), (1, [.ref 151, .int 0]), (7, List.replicate 10 (.int 0)), (7, List.replicate 10 (.int (-1))), (11, [.ref 154, .ref 155]), (7, List.replicate 10 (.int 0)), (7, List.replicate 10 (.int 0)), (7, List.replicate 19 (.int 3)), (7, List.replicate 19 (.int 0)), (7, List.replicate 19 (.int 0)), (7, List.replicate 19 (.int 0)), (7, List.replicate 19 (.int 0)), (7, List.replicate 19 (.int 0)), (7, List.replicate 19 (.int 0)), (7, List.replicate 19 (.int 0)), (11, [.ref 165, .ref 166]), (7, List.replicate 19 (.int 0)), (7, List.replicate 19 (.int 0)), (11, [.ref 168, .ref 169]), (7, List.replicate 19 (.int 0)), (7, List.replicate 19 (.int 0)), (11, [.ref 171, .ref 172]), (7, List.replicate 19 (.int 0)), (7, List.replicate 19 (.int 0)), (11, [.ref 174, .ref 175]), (7, List.replicate 10 (.int 0)), (7, List.replicate 10 (.int 0)), (8, List.replicate 10 (.int 0)), (2, [.ref 178, .ref 179, .ref 203, .int 0]), (7, [.int 0, .int 0]), (3, [.ref 180, .ref 182, .ref 183, .ref 186, .ref 187, .ref 188, .ref 189, .ref 190, .ref 191, .int (-1), .ref 192, .ref 193, .int 0, .ref 194, .ref 197, .ref 200]), (1, [.ref 181, .int 0]), (7, List.replicate 10 (.int 0)), (7, List.replicate 10 (.int (-1))), (11, [.ref 184, .ref 185]), (7, List.replicate 10 (.int 0)), (7, List.replicate 10 (.int 0)), (7, List.replicate 19 (.int 3)), (7, List.replicate 19 (.int 0)), (7, List.replicate 19 (.int 0)), (7, List.replicate 19 (.int 0)), (7, List.replicate 19 (.int 0)), (7, List.replicate 19 (.int 0)), (7, List.replicate 19 (.int 0)), (7, List.replicate 19 (.int 0)), (11, [.ref 195, .ref 196]), (7, List.replicate 19 (.int 0)), (7, List.replicate 19 (.int 0)), (11, [.ref 198, .ref 199]), (7, List.replicate 19 (.int 0)), (7, List.replicate 19 (.int 0)), (11, [.ref 201, .ref 202]), (7, List.replicate 19 (.int 0)), (7, List.replicate 19 (.int 0)), (0, [.ref 204, .ref 228, .ref 231, .int 0]), (3, [.ref 205, .ref 207, .ref 208, .ref 211, .ref 212, .ref 213, .ref 214, .ref 215, .ref 216, .int (-1), .ref 217, .ref 218, .int 0, .ref 219, .ref 222, .ref 225]), (1, [.ref 206, .int 0]), (7, List.replicate 10 (.int 0)), (7, List.replicate 10 (.int (-1))), (11, [.ref 209, .ref 210]), (7, List.replicate 10 (.int 0)), (7, List.replicate 10 (.int 0)), (7, List.replicate 19 (.int 3)), (7, List.replicate 19 (.int 0)), (7, List.replicate 19 (.int 0)), (7, List.replicate 19 (.int 0)), (7, List.replicate 19 (.int 0)), (7, List.replicate 19 (.int 0)), (7, List.replicate 19 (.int 0)), (7, List.replicate 19 (.int 0)), (11, [.ref 220, .ref 221]), (7, List.replicate 19 (.int 0)), (7, List.replicate 19 (.int 0)), (11, [.ref 223, .ref 224]), (7, List.replicate 19 (.int 0)), (7, List.replicate 19 (.int 0)), (11, [.ref 226, .ref 227]), (7, List.replicate 19 (.int 0)), (7, List.replicate 19 (.int 0)), (11, [.ref 229, .ref 230]), (7, List.replicate 10 (.int 0)), (7, List.replicate 10 (.int 0)), (8, List.replicate 10 (.int 0))]
def zh_m : zi_Hp := [(6, [.ref 233, .ref 234, .ref 235, .ref 236, .ref 237, .ref 238, .ref 239, .ref 240, .ref 241, .ref 242, .int 0, .ref 243, .int 0, .ref 244, .ref 245, .ref 246, .ref 247, .ref 248, .ref 249, .ref 250, .ref 251, .ref 252, .ref 253, .ref 254, .ref 255, .ref 256, .ref 257, .ref 258, .ref 259, .ref 260, .int 0, .ref 261, .ref 262]), (7, [.int 0, .int 0, .int 0]), (7, [.int 0, .int 0, .int 0]), (7, List.replicate 10 (.int 0)), (7, List.replicate 10 (.int 0)), (7, List.replicate 10 (.int 0)), (7, List.replicate 10 (.int 0)), (7, List.replicate 10 (.int 0)), (7, List.replicate 10 (.int 0)), (7, List.replicate 10 (.int 0)), (7, List.replicate 10 (.int 0)), (7, List.replicate 10 (.int 0)), (7, List.replicate 7 (.int (-1))), (7, List.replicate 168 (.int 0)), (7, List.replicate 168 (.int 0)), (7, List.replicate 168 (.int 0)), (7, List.replicate 168 (.int 0)), (7, List.replicate 1680 (.int 0)), (7, List.replicate 168 (.int 0)), (7, List.replicate 168 (.int 0)), (8, [.int 0, .int 0, .int 0]), (8, List.replicate 30 (.int 0)), (7, List.replicate 30 (.int 0)), (7, List.replicate 30 (.int 0)), (7, List.replicate 24 (.int 0)), (7, List.replicate 24 (.int 0)), (7, List.replicate 24 (.int 0)), (7, List.replicate 24 (.int 0)), (7, List.replicate 24 (.int 0)), (8, List.replicate 10 (.int 0)), (7, List.replicate 10 (.int 0))]
def zh_2 : zi_Hp := zh_1 ++ zh_m
abbrev zi_full : zi_Iv := [(-2147483648, 2147483647)]
def zi_one (o : Option (List zi_Out)) : Bool := match o with
  | some os => os.all (fun o => decide (o.2.1 = some (.int 1)))
  | none => false
def zs (L : Nat) : List Value := [Value.float 0, .float 1, .float 2, .float 3, .float 4].take L
def zd (lo hi : Int) : zi_Dm := [zi_full, zi_full, zi_full, zi_full, zi_full, [(lo, hi)]]
def zg (L : Nat) (d : zi_Dm) : Option (List zi_Out) := zi_go zi_ms (some (zs L)) 4 (some .boolean) zc_L 600000 7302250 (zi_run zi_ms 3000 10) 3000 18 [(3, .int 0), (2, .ref 232), (1, .ref 1), (0, .ref 0)] [] zh_2 d 442 12042
def zn_5 : zi_Hp := [(5, (List.range (zi_fld 5)).map (fun k => defaultValue (zi_ty 5 k)))]
def zn_6 : zi_Hp := [(6, (List.range (zi_fld 6)).map (fun k => defaultValue (zi_ty 6 k)))]
end
section
def zi_leq : List Value → List Value → Bool
  | [], [] => true
  | x :: xs, y :: ys => decide (x = y) && zi_leq xs ys
  | _, _ => false
theorem zi_leq_eq : ∀ {a b : List Value}, zi_leq a b = true → a = b
  | [], [], _ => rfl
  | x :: xs, y :: ys, h => by
    simp only [zi_leq, Bool.and_eq_true, decide_eq_true_eq] at h
    rw [h.1, zi_leq_eq h.2]
  | [], _ :: _, h => by cases h
  | _ :: _, [], h => by cases h
def zi_heq : zi_Hp → zi_Hp → Bool
  | [], [] => true
  | x :: xs, y :: ys => decide (x.1 = y.1) && zi_leq x.2 y.2 && zi_heq xs ys
  | _, _ => false
theorem zi_heq_eq : ∀ {a b : zi_Hp}, zi_heq a b = true → a = b
  | [], [], _ => rfl
  | (x1, x2) :: xs, (y1, y2) :: ys, h => by
    simp only [zi_heq, Bool.and_eq_true, decide_eq_true_eq] at h
    rw [h.1.1, zi_leq_eq h.1.2, zi_heq_eq h.2]
  | [], _ :: _, h => by cases h
  | _ :: _, [], h => by cases h
/-- one outcome, nothing answered, this heap -/
def zi_is (o : Option (List zi_Out)) (h : zi_Hp) : Bool := match o with
  | some [([], none, g)] => zi_heq g h
  | _ => false
theorem zi_is_eq {o : Option (List zi_Out)} {h : zi_Hp} (e : zi_is o h = true) : o = some [([], none, h)] := by
  unfold zi_is at e
  split at e
  · rw [zi_heq_eq e]
  · cases e
set_option maxRecDepth 100000 in
theorem ze_A : zi_run zi_ms 3000 10 0 [.ref 1] zn_5 [] = some [([], none, zh_1)] := zi_is_eq (by decide +kernel)
set_option maxRecDepth 100000 in
theorem ze_B : zi_run zi_ms 3000 10 6 [.ref 232] (zh_1 ++ zn_6) [] = some [([], none, zh_2)] := zi_is_eq (by decide +kernel)
end
section
set_option maxRecDepth 100000 in
theorem ze_0 : zi_one (zg 5 (zd 0 0)) = true := by decide +kernel
end
section
set_option maxRecDepth 100000 in
theorem ze_1 : zi_one (zg 5 (zd 1 1)) = true := by decide +kernel
end
section
set_option maxRecDepth 100000 in
theorem ze_2 : zi_one (zg 5 (zd 2 2)) = true := by decide +kernel
end
section
set_option maxRecDepth 100000 in
theorem ze_3 : zi_one (zg 5 (zd 3 3)) = true := by decide +kernel
set_option maxRecDepth 100000 in
theorem ze_4 : zi_one (zg 5 (zd 4 4)) = true := by decide +kernel
set_option maxRecDepth 100000 in
theorem ze_5 : zi_one (zg 5 (zd 5 5)) = true := by decide +kernel
end
section
set_option maxRecDepth 100000 in
theorem ze_6 : zi_one (zg 5 (zd 6 6)) = true := by decide +kernel
set_option maxRecDepth 100000 in
theorem ze_7 : zi_one (zg 5 (zd 7 7)) = true := by decide +kernel
end
section
set_option maxRecDepth 100000 in
theorem ze_8 : zi_one (zg 5 (zd 8 8)) = true := by decide +kernel
set_option maxRecDepth 100000 in
theorem ze_9 : zi_one (zg 5 (zd 9 9)) = true := by decide +kernel
end
section
set_option maxRecDepth 100000 in
theorem ze_10 : zi_one (zg 5 (zd 10 10)) = true := by decide +kernel
set_option maxRecDepth 100000 in
theorem ze_11 : zi_one (zg 5 (zd 11 11)) = true := by decide +kernel
set_option maxRecDepth 100000 in
theorem ze_12 : zi_one (zg 5 (zd 12 12)) = true := by decide +kernel
end
section
set_option maxRecDepth 100000 in
theorem ze_13 : zi_one (zg 5 (zd 13 13)) = true := by decide +kernel
set_option maxRecDepth 100000 in
theorem ze_14 : zi_one (zg 5 (zd 14 14)) = true := by decide +kernel
end
section
set_option maxRecDepth 100000 in
theorem ze_15 : zi_one (zg 5 (zd 15 15)) = true := by decide +kernel
set_option maxRecDepth 100000 in
theorem ze_16 : zi_one (zg 5 (zd 16 16)) = true := by decide +kernel
end
section
set_option maxRecDepth 100000 in
theorem ze_17 : zi_one (zg 5 (zd 17 17)) = true := by decide +kernel
set_option maxRecDepth 100000 in
theorem ze_18 : zi_one (zg 5 (zd 18 18)) = true := by decide +kernel
end
section
set_option maxRecDepth 100000 in
theorem ze_19 : zi_one (zg 5 (zd 19 31)) = true := by decide +kernel
set_option maxRecDepth 100000 in
theorem zl_0 : zi_one (zg 0 (zd 0 31)) = true := by decide +kernel
set_option maxRecDepth 100000 in
theorem zl_1 : zi_one (zg 1 (zd 0 31)) = true := by decide +kernel
set_option maxRecDepth 100000 in
theorem zl_2 : zi_one (zg 2 (zd 0 31)) = true := by decide +kernel
set_option maxRecDepth 100000 in
theorem zl_3 : zi_one (zg 3 (zd 0 31)) = true := by decide +kernel
set_option maxRecDepth 100000 in
theorem zl_4 : zi_one (zg 4 (zd 0 31)) = true := by decide +kernel
end
section
/-! THE CLAIM OUT OF ONE WALK OF THE LAW'S BODY. Your part is whole_start (and what it stands on); all else here is the same for every law, but numbers. -/
def R_law : String := "WindowDeskLaw"
def lw_P (b : Addr) (xs : List Int32) (args : Array Value) (s : State) : Prop := args = #[.ref b] ∧ s.IntsAt b xs ∧ xs.length ≤ 5 ∧ (Jvm.Cond.and given_1 narrow_1).before args s = true
def lw_Q (_ : Array Value) (s : State) (o : Outcome) (t : State) : Prop := o = .returned (some (.int 1)) ∧ Framed s o t [] 600000 7302250
def lw_Z (below : List Frame) (a : Array Value) (s : State) : State → Prop := fun t => ∃ o, t.status = .running ∧ Ended t below o ∧ lw_Q a s o t
/-- the law's own end, with 1 on the stack, nothing written that was there before, its room as the claim has it -/
theorem lw_ret {p : Program} {l : Launch} {e : Env} {s : State} {m : MethodId} {below : List Frame} {meth : Method} {c : Code} {b : Nat} (hx : p.tables.exec = Jvm.exec) (hb : c.code = code) (hr : meth.sig.returnType = ret) (hlocks : meth.locks = false) {pc : Nat} {H : Heap} {ls : Array Slot} (hdg : decode code pc = .ok (.ireturn, 1)) : W p l e room_1 s m #[Value.ref b] below meth c H [] 600000 7302250 (lw_Z below #[Value.ref b] s) (F0 m pc ls [.int 1]) := by
  intro T hT X
  obtain ⟨fs, hret, hrun, hended, hW, hframe⟩ := X.leave (v := some (.int 1)) (hlocks := hlocks) (fun h => by rw [hr] at h; cases h)
  have hmeth' : T.vm.method? m = some meth := X.method'
  refine ⟨T.setFrames fs, ?_, .returned (some (.int 1)), hrun, hended, rfl, ⟨_, rfl⟩, hW, hframe⟩
  jvm_step X.here [X.here.top, hx, hb, hdg, hmeth', hr, ret, narrow_b1]
  (try refine ⟨rfl, ?_⟩); (try refine ⟨rfl, ?_⟩)
  first | (intro acts; rw [hret _ acts rfl rfl rfl]) | rw [hret _ _ rfl rfl rfl]
  exact Steps.refl _
/-- what holds at the law's entry: the machine, the code, the tables' words (any of lw_tbl by 'hts w (by decide +kernel)'), the script of L ints xs at the cell b, what the Statement gives of the start (any of its parts by flat_of_before) -/
def lw_At (p : Program) (s : State) (m : MethodId) (meth : Method) (c : Code) (b L : Nat) (xs : Nat → Int32) : Prop :=
  p.tables.exec = Jvm.exec ∧ c.code = code ∧ meth.sig.returnType = ret ∧ c.maxLocals = 4 ∧ s.vm.findClass R_law = some m.cls ∧ (∀ w ∈ lw_tbl, w.before #[Value.ref b] s = true) ∧ va_X b L xs s s.heap ∧ b < s.heap.size ∧ meth.locks = false ∧ (Jvm.Cond.and given_1 narrow_1).before #[Value.ref b] s = true
end
section
/-! the law: its start, and one round -/
theorem zi_world {args : Array Value} {s : State} (hts : ∀ w ∈ zi_Ts, w.before args s = true) (hN : zi_Nst s) : ∃ (D : va_G) (cy : Nat → ClassId), va_K D vwCl (zi_tys cy) s := by
  obtain ⟨c0, i0, k0⟩ := u_known (C := RX0) (T := TX0) (N := 4) (n := 4) hts zk_0.1 (hts _ zk_0.2.2.2.2.1)
  obtain ⟨c1, i1, k1⟩ := u_known (C := RX1) (T := TX1) (N := 2) (n := 2) hts zk_1.1 (hts _ zk_1.2.2.2.2.1)
  obtain ⟨c2, i2, k2⟩ := u_known (C := RX2) (T := TX2) (N := 4) (n := 4) hts zk_2.1 (hts _ zk_2.2.2.2.2.1)
  obtain ⟨c3, i3, k3⟩ := u_known (C := RX3) (T := TX3) (N := 16) (n := 16) hts zk_3.1 (hts _ zk_3.2.2.2.2.1)
  obtain ⟨c4, i4, k4⟩ := u_known (C := RX4) (T := TX4) (N := 6) (n := 6) hts zk_4.1 (hts _ zk_4.2.2.2.2.1)
  obtain ⟨c5, i5, k5⟩ := u_known (C := RX5) (T := TX5) (N := 9) (n := 9) hts zk_5.1 (hts _ zk_5.2.2.2.2.1)
  obtain ⟨c6, i6, k6⟩ := u_known (C := RX6) (T := TX6) (N := 33) (n := 33) hts zk_6.1 (hts _ zk_6.2.2.2.2.1)
  obtain ⟨aI, kI, pI, fI, gI, tI⟩ := Cond.arrayClass_spec (hts _ zi_AI)
  obtain ⟨aZ, kZ, pZ, fZ, gZ, tZ⟩ := Cond.arrayClass_spec (hts _ zi_AZ)
  obtain ⟨pS, aS, kS, fS, -, gS, tS, nS⟩ := Cond.arrayOver_spec hN.2.1
  obtain ⟨pW, aW, kW, fW, -, gW, tW, nW⟩ := Cond.arrayOver_spec hN.2.2.1
  obtain ⟨pA, aA, kA, fA, -, gA, tA, nA⟩ := Jvm.Stand.arrayOver_specB hN.2.2.2
  refine ⟨(fun k => if k = 0 then c0 else if k = 1 then c1 else if k = 2 then c2 else if k = 3 then c3 else if k = 4 then c4 else if k = 5 then c5 else c6, fun k => if k = 0 then i0 else if k = 1 then i1 else if k = 2 then i2 else if k = 3 then i3 else if k = 4 then i4 else if k = 5 then i5 else i6), fun t => if t = 7 then aI else if t = 8 then aZ else if t = 9 then aS else if t = 10 then aW else aA, ?_, ?_⟩
  · intro k q hq
    match k, hq with
    | 0, hq => cases hq; exact k0
    | 1, hq => cases hq; exact k1
    | 2, hq => cases hq; exact k2
    | 3, hq => cases hq; exact k3
    | 4, hq => cases hq; exact k4
    | 5, hq => cases hq; exact k5
    | 6, hq => cases hq; exact k6
    | k + 7, hq => simp at hq
  · intro k q hq
    match k, hq with
    | 0, hq => cases hq; exact ⟨fun n z => ⟨(fun q hq => by cases hq), kI, gI, pI, tI⟩, fI⟩
    | 1, hq => cases hq; exact ⟨fun n z => ⟨(fun q hq => by cases hq), kZ, gZ, pZ, tZ⟩, fZ⟩
    | 2, hq => cases hq; exact ⟨fun n z => ⟨(fun q hq => by cases hq), kS, gS, pS, tS⟩, ⟨kS, pS, gS, tS, fS, nS⟩⟩
    | 3, hq => cases hq; exact ⟨fun n z => ⟨(fun q hq => by cases hq), kW, gW, pW, tW⟩, ⟨kW, pW, gW, tW, fW, nW⟩⟩
    | 4, hq => cases hq; exact ⟨fun n z => ⟨(fun q hq => by cases hq), kA, gA, pA, tA⟩, nA⟩
    | k + 5, hq => simp [zi_tys] at hq
section ZL
variable {p : Program} {l : Launch} {e : Env} {R : Room} {s : State} {m : MethodId} {args : Array Value} {below : List Frame} {meth : Method} {c : Code} {H : Heap} {locs : List Loc} {cells slots : Nat} {Q : State → Prop}
variable {cc : ByteArray} {ls : Array Slot} {D : va_G} {A : Nat → Prop} {pc : Nat} {ρ : Nat → Int32} {b0 : Nat} {as : List Nat} {cy : Nat → ClassId} {own : String} {ms : List zi_Me} {nL dp : Nat} {call : Nat → List Value → zi_Hp → zi_Dm → Option (List zi_Out)}
/-- a constructor without arguments is called -/
theorem zi_Winit {a j t x : Nat} {mt : zi_Me} {rest : List Value} {h : zi_Hp} {d : zi_Dm} {os : List zi_Out}
    (hx : p.tables.exec = Jvm.exec) (hb : c.code = cc) (hml : c.maxLocals = nL) (hown : s.vm.findClass own = some m.cls) (hts : ∀ w ∈ zi_Ts, w.before args s = true) (hN : zi_Nst s) (hK : va_K D vwCl (zi_tys cy) s) (hA : ∀ q, s.heap.size ≤ q → A q)
    (hRf : dp + 1 ≤ R.frames) (hRl : 40 * (dp + 1) ≤ R.locals) (hC : cells + mt.2.2.2.2.2.1 ≤ R.cells) (hSl : slots + mt.2.2.2.2.2.2 ≤ R.slots)
    (hms : zi_mOk ms) (hcall : zi_callOk l ms call dp) (hmt : ms[a]? = some mt) (hrun : call a [.ref (x + 1)] h d = some os)
    (k1 : zi_tb t (.methodLink own j mt.1) = true) (k2 : mt.1.name = "<init>") (k3 : zi_np mt.1 = some 0) (k5 : mt.2.2.2.1 = none) (k6 : Cond.instanceMethod mt.1 ∈ zi_Ts) (hdg : decode cc pc = .ok (.invokespecial j, 3)) (hr4 : rest.length ≤ 4)
    (hrho : zi_rho ρ d) (hln : as.length = h.length) (hl : ls.size = nL) (hP : va_P D vwCl (zi_w ρ b0 as cy h) H) (hD : va_D A (zi_w ρ b0 as cy h)) (hS : va_S A s.heap H locs)
    (kk : ∀ o ∈ os, zi_rho ρ o.1 → ∀ (qs : List Nat) (H1 : Heap) (locs1 : List Loc), qs.length ≤ mt.2.2.2.2.2.1 → (as ++ qs).length = o.2.2.length → va_P D vwCl (zi_w ρ b0 (as ++ qs) cy o.2.2) H1 → va_D A (zi_w ρ b0 (as ++ qs) cy o.2.2) → va_S A s.heap H1 locs1 → W p l e R s m args below meth c H1 locs1 (cells + mt.2.2.2.2.2.1) (slots + mt.2.2.2.2.2.2) Q (F0 m (pc + 3) ls ((o.2.1.map (zi_cv ρ b0 (as ++ qs))).toList ++ rest.map (zi_cv ρ b0 as)))) :
    W p l e R s m args below meth c H locs cells slots Q (F0 m pc ls ((.ref (x + 1) :: rest).map (zi_cv ρ b0 as))) := by
  obtain ⟨m1, m2, m3, m4, m5, -⟩ := hms a mt hmt
  have hcs := zi_catsum (rest.map (zi_cv ρ b0 as))
  rw [List.length_map] at hcs
  have hM := hcall a mt hmt [.ref (x + 1)] h d os hrun ρ b0 as cy D H.size hrho hln
  have hws : zi_wsM mt = Cond.code mt.1 mt.2.1 mt.2.2.1 none :: zi_Ts := by rw [← k5]
  have hR : (zi_rm mt dp).frames + 1 ≤ R.frames ∧ 8 + (mt.2.2.1 + 11) + (zi_rm mt dp).locals ≤ R.locals := ⟨hRf, by show 8 + (mt.2.2.1 + 11) + 40 * dp ≤ R.locals; omega⟩
  refine zi_Wcall (va_runI (As := []) (b := as.getD x 0) ⟨hx, hb, hml, hown, hts⟩ hM ⟨callB_of 0 hts (zi_goodM hms hmt) hws rfl rfl (hts _ m2) (hts _ (zi_tb_in k1)) ⟨m4.1, m4.2, k3⟩ hR, k2, hts _ k6⟩ ⟨zi_blind, zi_pre (vs := [.ref (x + 1)]) hP hK hD hN⟩ rfl rfl hl rfl (lv_room (by omega)) hdg ⟨hC, hSl⟩) hA hD hS kk
end ZL
theorem zi_rho_zd {ρ : Nat → Int32} {lo hi : Int} (h5 : ρ 5 = ρ 0 &&& 31) (h1 : lo ≤ (ρ 5).toInt) (h2 : (ρ 5).toInt ≤ hi) : zi_rho ρ (zd lo hi) := by
  refine ⟨fun k l hk => ?_, h5⟩
  have hf : zi_mem (ρ k).toInt zi_full := ⟨_, List.mem_singleton.mpr rfl, zi_lo _, zi_hi _⟩
  match k, hk with
  | 0, hk => cases hk; exact hf
  | 1, hk => cases hk; exact hf
  | 2, hk => cases hk; exact hf
  | 3, hk => cases hk; exact hf
  | 4, hk => cases hk; exact hf
  | 5, hk => cases hk; exact ⟨_, List.mem_singleton.mpr rfl, h1, h2⟩
  | k + 6, hk => simp [zd] at hk
set_option maxHeartbeats 4000000 in
set_option maxRecDepth 100000 in
theorem whole_start {p : Program} {e : Env} {s : State} {m : MethodId} {below : List Frame} {meth : Method} {c : Code} (l : Launch) {b L : Nat} {xs : Nat → Int32} (hL : L ≤ 5) (C0 : lw_At p s m meth c b L xs) : W p l e room_1 s m #[Value.ref b] below meth c s.heap [] 0 0 (lw_Z below #[Value.ref b] s) (entryFrame m ([Value.ref b] : List Value).toArray 4) := by
  obtain ⟨hx, hb, hr, hml, hown, hts0, hX0, hbl, hlocks, hgv⟩ := C0
  have hown : s.vm.findClass RL = some m.cls := hown
  have hts : ∀ w ∈ zi_Ts, w.before #[Value.ref b] s = true := fun w hw => hts0 w (List.mem_filter.mp hw).1
  have hN : zi_Nst s := ⟨fun w hw => by
    obtain ⟨a, i, x, g, rfl⟩ := zi_nest_k w hw
    exact va_Nw.of rfl (hts0 _ (zi_nest_in _ hw)), va_AO.of (hts0 _ zi_ov2), va_AO.of (hts0 _ zi_ov4), hts0 _ zi_ovA⟩
  obtain ⟨D, cy, hK⟩ := zi_world hts hN
  have hcall := zi_run_sound l 3000 zi_ms_ok zi_cl_ok zi_AI zi_AZ zi_oI zi_oC 10
  obtain ⟨ρ, hρ, h5⟩ : ∃ ρ : Nat → Int32, (∀ j, j < 5 → ρ j = xs j) ∧ ρ 5 = ρ 0 &&& 31 := ⟨fun k => if k = 5 then xs 0 &&& 31 else xs k, fun j hj => if_neg (by omega), rfl⟩
  have hr0 : zi_rho ρ [] := ⟨fun k l hk => by simp at hk, h5⟩
  obtain ⟨A, hAe⟩ : ∃ A : Nat → Prop, A = fun q => s.heap.size ≤ q := ⟨_, rfl⟩
  have hA : ∀ q, s.heap.size ≤ q → A q := fun q h => by rw [hAe]; exact h
  have hA' : ∀ q, A q → s.heap.size ≤ q := fun q h => by rw [hAe] at h; exact h
  have hS : va_S A s.heap s.heap [] := va_S.rf
  have hP : va_P D vwCl (zi_w ρ b [] cy []) s.heap := fun k q h => by simp [zi_w] at h
  have hD : va_D A (zi_w ρ b [] cy []) := ⟨fun i j p q h => by simp [zi_w] at h, fun k q h => by simp [zi_w] at h⟩
  have hl := lv_entry ([.ref b]) (n := 4) (Nat.le_of_ble_eq_true rfl)
  rw [lg_entry_eq]
  generalize (lg_sl ([.ref b]) ++ List.replicate (4 - (lg_sl ([.ref b])).length) Slot.unset).toArray = ls at hl ⊢
  have hl : lv_has ls 4 (zi_lc ρ b [] [(0, .ref 0)]) := hl
  -- from the loop's head
  have head : ∀ (d : zi_Dm), zi_rho ρ d → zi_one (zg L d) = true → ∀ (as : List Nat) (H : Heap) (locs : List Loc) (ls : Array Slot), as.length ≤ 442 → as.length = zh_2.length → lv_has ls 4 (zi_lc ρ b as [(3, .int 0), (2, .ref 232), (1, .ref 1), (0, .ref 0)]) → va_P D vwCl (zi_w ρ b as cy zh_2) H → va_D A (zi_w ρ b as cy zh_2) → va_S A s.heap H locs → W p l e room_1 s m #[Value.ref b] below meth c H locs 442 12042 (lw_Z below #[Value.ref b] s) (F0 m 18 ls []) := by
    intro d hd hone as H locs ls hal hln hl hP hD hS
    unfold zi_one at hone
    split at hone
    · rename_i os hos
      unfold zg at hos
      have hall : ∀ o ∈ os, o.2.1 = some (.int 1) := fun o ho => of_decide_eq_true (List.all_eq_true.mp hone o ho)
      refine zi_go_sound (as0 := []) (OUT := os) (A := A) (dp := 10) (own := RL) (ini := false) (b0 := b) (cy := cy) (D := D) (ρ := ρ) (R := room_1) (cc := code) hx hb hml hown hts zi_cl_ok (fun h => by cases h) ?_ hN zi_AI zi_AZ zi_oI zi_oC hK hA (by decide) (by decide) (by decide) (by decide) zv_L zi_ms_ok hcall ?_ 3000 18 _ [] zh_2 d 442 12042 os hos (fun _ h => h) hd (by decide) (by decide) as H locs ls ⟨as, rfl, hal⟩ hln hl hP hD hS
      · intro sl hsl
        cases hsl
        refine ⟨?_, hbl, fun h => absurd (hA' b h) (Nat.not_le.mpr hbl)⟩
        obtain ⟨scr, e1, e2, e3, e4, e5⟩ := hX0
        have hzl : (zs L).length = L := by
          unfold zs
          rw [List.length_take]
          simp
          omega
        rw [hzl]
        refine ⟨scr, e1, e2, e3, e4, fun j hj => ?_⟩
        rw [e5 j hj, ← hρ j (by omega)]
        have e6 : (zs L).getD j (.int 0) = .float (UInt32.ofNat j) := by
          unfold zs
          rw [List.getD_eq_getElem?_getD, List.getElem?_take, if_pos hj]
          have hj5 : j < 5 := by omega
          match j, hj5 with
          | 0, _ => rfl
          | 1, _ => rfl
          | 2, _ => rfl
          | 3, _ => rfl
          | 4, _ => rfl
        show some (Value.int (ρ j)) = some (Value.int (zi_iv ρ ((zs L).getD j (.int 0))))
        rw [e6]
        have hj5 : j < 5 := by omega
        match j, hj5 with
        | 0, _ => rfl
        | 1, _ => rfl
        | 2, _ => rfl
        | 3, _ => rfl
        | 4, _ => rfl
      · intro pc ls st o H locs kc ks as' ho hro has hlen hkc hks hP1 hD1 hS1 hret
        rcases hret with ⟨hd, v, hv, hrk, rfl⟩ | ⟨hd, x, hv, hra, rfl⟩ | ⟨hd, hv, hrn, rfl⟩
        · rw [hall o ho] at hv
          cases hv
          refine va_forget (fun q hq => hA' _ (hS1.2.2 q hq)) ?_
          refine W.widen (k := 600000) (n := 7302250) hkc hks ?_
          exact lw_ret hx hb hr hlocks hd
        · cases hra
        · cases hrn
    · cases hone
  -- which round
  have round : ∃ d : zi_Dm, zi_rho ρ d ∧ zi_one (zg L d) = true := by
    obtain ⟨j, hj, ej⟩ := pk_andE (ρ 0) (m := 31) 5 (by decide)
    have hj : j < 32 := hj
    have e5 : (ρ 5).toInt = (j : Int) := by rw [h5, ej]; exact nI_toInt (by omega)
    have z : ∀ k : Nat, j = k → zi_rho ρ (zd k k) := fun k hk => zi_rho_zd h5 (by omega) (by omega)
    have hL5 : L = 0 ∨ L = 1 ∨ L = 2 ∨ L = 3 ∨ L = 4 ∨ L = 5 := by omega
    rcases hL5 with rfl | rfl | rfl | rfl | rfl | rfl
    · exact ⟨_, zi_rho_zd h5 (by omega) (by omega), zl_0⟩
    · exact ⟨_, zi_rho_zd h5 (by omega) (by omega), zl_1⟩
    · exact ⟨_, zi_rho_zd h5 (by omega) (by omega), zl_2⟩
    · exact ⟨_, zi_rho_zd h5 (by omega) (by omega), zl_3⟩
    · exact ⟨_, zi_rho_zd h5 (by omega) (by omega), zl_4⟩
    · by_cases h19 : 19 ≤ j
      · exact ⟨_, zi_rho_zd h5 (by omega) (by omega), ze_19⟩
      · have h18 : j = 0 ∨ j = 1 ∨ j = 2 ∨ j = 3 ∨ j = 4 ∨ j = 5 ∨ j = 6 ∨ j = 7 ∨ j = 8 ∨ j = 9 ∨ j = 10 ∨ j = 11 ∨ j = 12 ∨ j = 13 ∨ j = 14 ∨ j = 15 ∨ j = 16 ∨ j = 17 ∨ j = 18 := by omega
        rcases h18 with h | h | h | h | h | h | h | h | h | h | h | h | h | h | h | h | h | h | h
        · exact ⟨_, z 0 h, ze_0⟩
        · exact ⟨_, z 1 h, ze_1⟩
        · exact ⟨_, z 2 h, ze_2⟩
        · exact ⟨_, z 3 h, ze_3⟩
        · exact ⟨_, z 4 h, ze_4⟩
        · exact ⟨_, z 5 h, ze_5⟩
        · exact ⟨_, z 6 h, ze_6⟩
        · exact ⟨_, z 7 h, ze_7⟩
        · exact ⟨_, z 8 h, ze_8⟩
        · exact ⟨_, z 9 h, ze_9⟩
        · exact ⟨_, z 10 h, ze_10⟩
        · exact ⟨_, z 11 h, ze_11⟩
        · exact ⟨_, z 12 h, ze_12⟩
        · exact ⟨_, z 13 h, ze_13⟩
        · exact ⟨_, z 14 h, ze_14⟩
        · exact ⟨_, z 15 h, ze_15⟩
        · exact ⟨_, z 16 h, ze_16⟩
        · exact ⟨_, z 17 h, ze_17⟩
        · exact ⟨_, z 18 h, ze_18⟩
  obtain ⟨d, hd, hone⟩ := round
  have head := head d hd hone
  -- the two objects are made
  obtain ⟨g0, g1, g2⟩ := zv_L_0 (0, .new 7, 3, 5, 0, 106, 0) (List.mem_of_getElem? (i := 0) rfl)
  refine zi_new_sound (r := (0, .new 7, 3, 5, 0, 106, 0)) (own := RL) (ini := false) (ms := zi_ms) (L := [(0, .ref 0)]) (st := []) (st' := [.ref 1]) (h := []) (h' := zn_5) (k1 := 1) (k2 := 9) (nL := 4) hx hb hown hts zi_cl_ok zi_AI zi_AZ hN.2.1 hN.2.2.1 hN.2.2.2 hK hA g0 g1 g2 rfl (by decide) (by decide) rfl rfl rfl rfl hl hP hD hS (fun qs1 H1 p1 p2 p3 p4 p5 p6 => ?_)
  generalize ([] ++ qs1 : List Nat) = a1 at p1 p2 p4 p5 ⊢
  obtain ⟨g0, g1, g2⟩ := zv_L_0 (3, .dup, 1, 0, 0, 0, 0) (List.mem_of_getElem? (i := 1) rfl)
  refine zi_step_sound (r := (3, .dup, 1, 0, 0, 0, 0)) (own := RL) (ini := false) (ms := zi_ms) (scr := none) (L := [(0, .ref 0)]) (L' := [(0, .ref 0)]) (st := [.ref 1]) (st' := [.ref 1, .ref 1]) (h := zn_5) (h' := zn_5) (nL := 4) (d := []) hx hb hown hts zi_cl_ok (fun h => by cases h) (fun _ h => by cases h) hK hr0 g0 g1 g2 rfl p4 p1 p2 p3 (fun H2 l2 ls2 u1 u2 u3 u4 u5 => ?_)
  obtain ⟨g0, g1, g2⟩ := zv_L_0 (4, .invokespecial 9, 3, 0, 1, 108, 0) (List.mem_of_getElem? (i := 2) rfl)
  refine zi_Winit (a := 0) (mt := (yX5_init, cX5_init, 2, none, zc_X5_init, 400, 8000)) (j := 9) (t := 108) (x := 0) (rest := [.ref 1]) (nL := 4) (own := RL) (d := []) (h := zn_5) hx hb hml hown hts hN hK hA (by decide) (by decide) (by decide) (by decide) zi_ms_ok hcall rfl ze_A (by decide +kernel) rfl (by decide +kernel) rfl (zi_tb_in (t := 109) (by decide +kernel)) g0 (by decide) hr0 p5 u4.1 u1 u2 u3 (fun o ho ro qs2 H3 l3 v1 v2 v3 v4 v5 => ?_)
  cases List.mem_singleton.mp ho
  have q5 : a1.length = 1 := p5
  have w1 : zi_wfl a1.length [.ref 1] = true := by rw [q5]; rfl
  have hl3 : lv_has ls2 4 (zi_lc ρ b (a1 ++ qs2) [(0, .ref 0)]) := u4
  rw [← zi_cvl_grow (qs := qs2) w1]
  generalize a1 ++ qs2 = a2 at v2 v3 v4 hl3 ⊢
  obtain ⟨g0, g1, g2⟩ := zv_L_0 (7, .astore_n 1, 1, 0, 0, 0, 0) (List.mem_of_getElem? (i := 3) rfl)
  refine zi_step_sound (r := (7, .astore_n 1, 1, 0, 0, 0, 0)) (own := RL) (ini := false) (ms := zi_ms) (scr := none) (L := [(0, .ref 0)]) (L' := [(1, .ref 1), (0, .ref 0)]) (st := [.ref 1]) (st' := []) (h := zh_1) (h' := zh_1) (nL := 4) (d := []) hx hb hown hts zi_cl_ok (fun h => by cases h) (fun _ h => by cases h) hK hr0 g0 g1 g2 rfl hl3 v3 v4 v5 (fun H4 l4 ls4 u1 u2 u3 u4 u5 => ?_)
  obtain ⟨g0, g1, g2⟩ := zv_L_0 (8, .new 10, 3, 6, 0, 873, 0) (List.mem_of_getElem? (i := 4) rfl)
  refine zi_new_sound (r := (8, .new 10, 3, 6, 0, 873, 0)) (own := RL) (ini := false) (ms := zi_ms) (L := [(1, .ref 1), (0, .ref 0)]) (st := []) (st' := [.ref 232]) (h := zh_1) (h' := zh_1 ++ zn_6) (k1 := 1) (k2 := 33) (nL := 4) hx hb hown hts zi_cl_ok zi_AI zi_AZ hN.2.1 hN.2.2.1 hN.2.2.2 hK hA g0 g1 g2 (by decide +kernel) (by decide) (by decide) (by decide +kernel) (by decide +kernel) rfl v2 u4 u1 u2 u3 (fun qs3 H5 p1 p2 p3 p4 p5 p6 => ?_)
  generalize a2 ++ qs3 = a3 at p1 p2 p4 p5 ⊢
  obtain ⟨g0, g1, g2⟩ := zv_L_0 (11, .dup, 1, 0, 0, 0, 0) (List.mem_of_getElem? (i := 5) rfl)
  refine zi_step_sound (r := (11, .dup, 1, 0, 0, 0, 0)) (own := RL) (ini := false) (ms := zi_ms) (scr := none) (L := [(1, .ref 1), (0, .ref 0)]) (L' := [(1, .ref 1), (0, .ref 0)]) (st := [.ref 232]) (st' := [.ref 232, .ref 232]) (h := zh_1 ++ zn_6) (h' := zh_1 ++ zn_6) (nL := 4) (d := []) hx hb hown hts zi_cl_ok (fun h => by cases h) (fun _ h => by cases h) hK hr0 g0 g1 g2 rfl p4 p1 p2 p3 (fun H6 l6 ls6 u1 u2 u3 u4 u5 => ?_)
  obtain ⟨g0, g1, g2⟩ := zv_L_0 (12, .invokespecial 12, 3, 6, 1, 875, 0) (List.mem_of_getElem? (i := 6) rfl)
  refine zi_Winit (a := 6) (mt := (yX6_init, cX6_init, 2, none, zc_X6_init, 40, 4000)) (j := 12) (t := 875) (x := 231) (rest := [.ref 232]) (nL := 4) (own := RL) (d := []) (h := zh_1 ++ zn_6) hx hb hml hown hts hN hK hA (by decide) (by decide) (by decide) (by decide) zi_ms_ok hcall rfl ze_B (by decide +kernel) rfl (by decide +kernel) rfl (zi_tb_in (t := 876) (by decide +kernel)) g0 (by decide) hr0 p5 u4.1 u1 u2 u3 (fun o ho ro qs4 H7 l7 v1 v2 v3 v4 v5 => ?_)
  cases List.mem_singleton.mp ho
  have q5 : a3.length = 232 := p5.trans (by decide +kernel)
  have w1 : zi_wfl a3.length [.ref 232] = true := by rw [q5]; rfl
  have w2 : zi_wfc a3.length [(1, .ref 1), (0, .ref 0)] = true := by rw [q5]; rfl
  have hl7 : lv_has ls6 4 (zi_lc ρ b (a3 ++ qs4) [(1, .ref 1), (0, .ref 0)]) := by rw [zi_lc_grow w2]; exact u4
  rw [← zi_cvl_grow (qs := qs4) w1]
  generalize a3 ++ qs4 = a4 at v2 v3 v4 hl7 ⊢
  obtain ⟨g0, g1, g2⟩ := zv_L_0 (15, .astore_n 2, 1, 0, 0, 0, 0) (List.mem_of_getElem? (i := 7) rfl)
  refine zi_step_sound (r := (15, .astore_n 2, 1, 0, 0, 0, 0)) (own := RL) (ini := false) (ms := zi_ms) (scr := none) (L := [(1, .ref 1), (0, .ref 0)]) (L' := [(2, .ref 232), (1, .ref 1), (0, .ref 0)]) (st := [.ref 232]) (st' := []) (h := zh_2) (h' := zh_2) (nL := 4) (d := []) hx hb hown hts zi_cl_ok (fun h => by cases h) (fun _ h => by cases h) hK hr0 g0 g1 g2 rfl hl7 v3 v4 v5 (fun H8 l8 ls8 u1 u2 u3 u4 u5 => ?_)
  obtain ⟨g0, g1, g2⟩ := zv_L_0 (16, .iconst 0, 1, 0, 0, 0, 0) (List.mem_of_getElem? (i := 8) rfl)
  refine zi_step_sound (r := (16, .iconst 0, 1, 0, 0, 0, 0)) (own := RL) (ini := false) (ms := zi_ms) (scr := none) (L := [(2, .ref 232), (1, .ref 1), (0, .ref 0)]) (L' := [(2, .ref 232), (1, .ref 1), (0, .ref 0)]) (st := []) (st' := [.int 0]) (h := zh_2) (h' := zh_2) (nL := 4) (d := []) hx hb hown hts zi_cl_ok (fun h => by cases h) (fun _ h => by cases h) hK hr0 g0 g1 g2 rfl u4 u1 u2 u3 (fun H9 l9 ls9 u1 u2 u3 u4 u5 => ?_)
  obtain ⟨g0, g1, g2⟩ := zv_L_0 (17, .istore_n 3, 1, 0, 0, 0, 0) (List.mem_of_getElem? (i := 9) rfl)
  refine zi_step_sound (r := (17, .istore_n 3, 1, 0, 0, 0, 0)) (own := RL) (ini := false) (ms := zi_ms) (scr := none) (L := [(2, .ref 232), (1, .ref 1), (0, .ref 0)]) (L' := [(3, .int 0), (2, .ref 232), (1, .ref 1), (0, .ref 0)]) (st := [.int 0]) (st' := []) (h := zh_2) (h' := zh_2) (nL := 4) (d := []) hx hb hown hts zi_cl_ok (fun h => by cases h) (fun _ h => by cases h) hK hr0 g0 g1 g2 rfl u4 u1 u2 u3 (fun H10 l10 ls10 u1 u2 u3 u4 u5 => ?_)
  exact head a4 H10 l10 ls10 (by rw [v2]; decide +kernel) v2 u4 u1 u2 u3
end
section
set_option maxHeartbeats 4000000 in
theorem lw_walk (l : Launch) (b : Addr) (xs : List Int32) : MetFree l x (headSpec (Jvm.Cond.code x code maxLocals ret :: tables_1) room_1) (lw_P b xs) (fun _ _ _ _ _ => True) lw_Q := by
  refine MetFree.of_bodyS (code := code) (maxLocals := maxLocals) (ret := ret) (by decide) ?_ ?_
  · intro args s m h hn
    obtain ⟨meth, c, h1, h2, h3, h4, h5, h6, -, -⟩ := Cond.code_spec hn (atoms_spec (ws := Jvm.Cond.code x code maxLocals ret :: tables_1) h _ List.mem_cons_self)
    exact ⟨meth, c, h1, h2, h3, h4, h5, h6⟩
  · intro p e s m args below meth c s₁ B hml0 hP _
    obtain ⟨rfl, hx, hbd, hgv⟩ := hP
    obtain ⟨scr, harrAt, hlist, hof, hsmall⟩ := hx
    obtain ⟨hcb, hkn, -, -⟩ := State.arrayAt?_spec harrAt
    have hown : s.vm.findClass R_law = some m.cls := findClass_of_methodNamed B.named
    have hts0 : ∀ c ∈ (Jvm.Cond.code x code maxLocals ret :: tables_1), c.before #[Value.ref b] s = true := atoms_spec (ws := Jvm.Cond.code x code maxLocals ret :: tables_1) B.pre
    have hts : ∀ w ∈ lw_tbl, w.before #[Value.ref b] s = true := k2_hts_sels lw_privs (fun w hw => hts0 w (List.mem_cons_of_mem _ hw)) lw_privs_ok
    have hml : c.maxLocals = 4 := B.maxLocals_eq (hts0 _ List.mem_cons_self)
    have X₀ : Stand p l e room_1 s m #[Value.ref b] below meth c s₁ [] 0 0 := Stand.of_body B
    have hh0 : s₁.heap = s.heap := by rw [B.state]; rfl
    have hsz : scr.slots.size = xs.length := by rw [← Array.length_toList, hlist, List.length_map]
    have hval : ∀ j : Nat, j < xs.length → scr.slots[j]? = some (.int (xs.getD j 0)) := fun j hj => by
      rw [← Array.getElem?_toList, hlist]
      simp [hj]
    have hbl : b < s.heap.size := (Array.getElem?_eq_some_iff.mp hcb).1
    have hX : va_X b xs.length (fun j => xs.getD j 0) s s.heap := ⟨scr, hcb, hof, hkn, hsz, hval⟩
    have K : W p l e room_1 s m #[Value.ref b] below meth c s₁.heap [] 0 0 (lw_Z below #[Value.ref b] s) (entryFrame m ([Value.ref b] : List Value).toArray 4) := by
      rw [hh0]
      exact whole_start l hbd ⟨B.exec, B.bytes, B.returns, hml, hown, hts, hX, hbl, B.notSynchronized, hgv⟩
    obtain ⟨t, a1, o, b1, b2, b3⟩ := K s₁ rfl X₀
    exact ⟨t, o, a1, b1, b2, b3⟩
theorem lw_pre_spec {args : Array Value} {s : State} (h : (Jvm.Cond.and given_1 narrow_1).before args s = true) (hr : rest_1_c.before args s = true) : ∃ (b : Addr) (xs : List Int32), lw_P b xs args s := by
  have hs := flat_of_before _ h
  have hq := flat_of_before _ hr
  have hc : (Cond.count 1).before args s = true := hs _ (by decide +kernel)
  have harr : (Cond.arrayOf (.arg 0) .int).before args s = true := hs _ (by decide +kernel)
  have hle : (Cond.le (.length (.arg 0)) (.int 5)).before args s = true := hs _ (by decide +kernel)
  have hlen : (Cond.isInt (.length (.arg 0))).before args s = true := hq _ (by decide +kernel)
  have hall : (Cond.all (.arg 0) (.isInt (.elem (.arg 0) (.index 0)))).before args s = true := hq _ (by decide +kernel)
  obtain ⟨b, xs, hb, hx⟩ := State.ints_of_pre rfl harr hlen hall
  have hsm : xs.length < 2 ^ 31 := hx.choose_spec.2.2.2
  have hev : (Term.length (.arg 0)).eval args s none [] s = some (.int xs.length.toInt32) := hx.length_eval hb
  have hv := Cond.le_ints hev (show (Term.int 5).eval args s none [] s = some (.int 5) from rfl)
  have hd : xs.length.toInt32 ≤ 5 := by
    simpa [Cond.before, Cond.holds, hv] using hle
  have hN : xs.length ≤ 5 := (Int32.ofNat_le_ofNat hsm (by decide)).mp (show Int32.ofNat xs.length ≤ Int32.ofNat 5 from hd)
  exact ⟨b, xs, Cond.one_arg hc (show args[0]? = some (.ref b) from hb), hx, hN, h⟩
theorem lw_comes (l : Launch) : Comes l x (Jvm.Cond.code x code maxLocals ret :: tables_1) room_1 (fun tb e args s => Calls_1 tb e args s ∧ rest_1 tb e args s ∧ Pre_1 tb e args s)
    (fun _ _ args s o t => lw_Q args s o t) := by
  intro p e ha hc hk s m args below hf hfit hheap happ hpre
  obtain ⟨b, xs, hP⟩ := lw_pre_spec hpre.2.2 hpre.2.1
  obtain ⟨k, o, h1, h2, h3, hQ⟩ := lw_walk l b xs p e ha hc hk s m args below hf ((Spec.applies_iff_loose hf).mp happ).1 hP trivial
  exact ⟨k, o, h1, h2, h3, hQ⟩
theorem lw_frame {s t : State} {o : Outcome} {args : Array Value} (h : Framed s o t [] 600000 7302250) :
    Framed s o t (fieldLocs frame_1_writes args s ++ arrayLocs frame_1_arrays args s ++ staticLocs frame_1_statics s) 600000 7302250 := h
theorem lw_limb (L : Cond) (hL : ∀ (args : Array Value) (s t : State), L.after args s (.returned (some (.int 1))) t = true) :
    ArmFor flags0 classFile x code maxLocals ret World_1 tables_1 room_1 Calls_1 rest_1 Pre_1
      (fun tb e a s o t => postC L tb e a s o t ∧ Framed s o t (fieldLocs frame_1_writes a s ++ arrayLocs frame_1_arrays a s ++ staticLocs frame_1_statics s) 600000 7302250) := by
  intro l _ _ _ p e ha hc hk s m args below hf hfit hheap happ hpre
  obtain ⟨k, o, h1, h2, h3, rfl, hF⟩ := lw_comes l p e ha hc hk s m args below hf hfit hheap happ hpre
  exact ⟨k, _, h1, h2, h3, hL args s _, lw_frame hF⟩
theorem i_vc : Claimed_1_1 ∧ Claimed_1_2 := ⟨lw_limb limb_1_1 (fun args s t => by simp [limb_1_1, Cond.after, Cond.holds, Cond.value]), lw_limb limb_1_2 (fun args s t => Cond.after_iff.mpr (by
  first | (rw [show limb_1_2 = Cond.eq .result (.int 1) from rfl, Cond.eq_ints (x := 1) (y := 1) rfl rfl]; simp; done) | (simp [limb_1_2, Cond.value, Term.eval]; done)))⟩
end
section
set_option maxRecDepth 100000 in
theorem zx_get (ms : List zi_Me) (call : Nat → List Value → zi_Hp → zi_Dm → Option (List zi_Out)) (n : Nat) (h : zi_Hp) (r q : Nat) (i sz : Int32) (l : List Value) (x : Int32) (hr : h[r]? = some (1, [.ref (q + 1), .int sz])) (hq : h[q]? = some (7, l)) (h1 : ¬ i < 0) (h2 : i < sz) (h3 : zi_in i l.length = true) (hx : l[i.toNatClampNeg]? = some (.int x)) :
    zi_go ms none 2 (some .int) zc_X1_get 0 0 call (n + 20) 0 [(0, .ref (r + 1)), (1, .int i)] [] h [] 0 0 = some [([], some (.int x), h)] := by
  simp [zi_go, zc_X1_get, zc_X1_get_0, zi_ask, zi_new, zi_step, zi_ld, zi_lda, zi_get, zi_gf, hr, hq, zi_cmp, h1, h2, zi_iald, h3, hx, zi_retOk, zi_isI, Int32.not_le.mpr h2]
end
