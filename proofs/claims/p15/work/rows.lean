section
-- ===== PART A: goes FIRST, ahead of the names: the tables' words, and 'selects' of the private methods out of them =====
/-- a private method of a class that the tables say can be made, by its rows of tables_1 -/
def lw_okq (q : MethodName × Nat) : Prop := (q.1.cls ≠ "java/lang/invoke/MethodHandle" ∧ q.1.cls ≠ "java/lang/invoke/VarHandle") ∧ Cond.instantiable q.1.cls q.2 ∈ tables_1 ∧ Cond.privateMethod q.1 ∈ tables_1 ∧ Cond.instanceMethod q.1 ∈ tables_1
theorem lw_p0 : lw_okq (⟨"WindowDesk", "bringBack", "(I)I"⟩, 9) := ⟨⟨by decide +kernel, by decide +kernel⟩, List.mem_of_getElem? (i := 12) (by decide +kernel), List.mem_of_getElem? (i := 231) (by decide +kernel), List.mem_of_getElem? (i := 232) (by decide +kernel)⟩
theorem lw_p1 : lw_okq (⟨"WindowDesk", "gatherDialogs", "()V"⟩, 9) := ⟨⟨by decide +kernel, by decide +kernel⟩, List.mem_of_getElem? (i := 12) (by decide +kernel), List.mem_of_getElem? (i := 251) (by decide +kernel), List.mem_of_getElem? (i := 252) (by decide +kernel)⟩
theorem lw_p2 : lw_okq (⟨"WindowDesk", "isWindow", "(I)Z"⟩, 9) := ⟨⟨by decide +kernel, by decide +kernel⟩, List.mem_of_getElem? (i := 12) (by decide +kernel), List.mem_of_getElem? (i := 255) (by decide +kernel), List.mem_of_getElem? (i := 256) (by decide +kernel)⟩
theorem lw_p3 : lw_okq (⟨"WindowDesk", "groupCanBeWhole", "(I)Z"⟩, 9) := ⟨⟨by decide +kernel, by decide +kernel⟩, List.mem_of_getElem? (i := 12) (by decide +kernel), List.mem_of_getElem? (i := 259) (by decide +kernel), List.mem_of_getElem? (i := 260) (by decide +kernel)⟩
theorem lw_p4 : lw_okq (⟨"WindowDesk", "takeBack", "(ILWindowDesk$Kept;)V"⟩, 9) := ⟨⟨by decide +kernel, by decide +kernel⟩, List.mem_of_getElem? (i := 12) (by decide +kernel), List.mem_of_getElem? (i := 271) (by decide +kernel), List.mem_of_getElem? (i := 272) (by decide +kernel)⟩
theorem lw_p5 : lw_okq (⟨"WindowDesk", "treeOf", "(I)LWindowDesk$Tree;"⟩, 9) := ⟨⟨by decide +kernel, by decide +kernel⟩, List.mem_of_getElem? (i := 12) (by decide +kernel), List.mem_of_getElem? (i := 279) (by decide +kernel), List.mem_of_getElem? (i := 280) (by decide +kernel)⟩
theorem lw_p6 : lw_okq (⟨"WindowDesk$Tree", "nextShown", "(II)I"⟩, 16) := ⟨⟨by decide +kernel, by decide +kernel⟩, List.mem_of_getElem? (i := 38) (by decide +kernel), List.mem_of_getElem? (i := 288) (by decide +kernel), List.mem_of_getElem? (i := 289) (by decide +kernel)⟩
theorem lw_p7 : lw_okq (⟨"WindowDesk$Tree", "dropLeaf", "(I)V"⟩, 16) := ⟨⟨by decide +kernel, by decide +kernel⟩, List.mem_of_getElem? (i := 38) (by decide +kernel), List.mem_of_getElem? (i := 308) (by decide +kernel), List.mem_of_getElem? (i := 309) (by decide +kernel)⟩
theorem lw_p8 : lw_okq (⟨"WindowDesk$Tree", "putInPlaceOf", "(II)V"⟩, 16) := ⟨⟨by decide +kernel, by decide +kernel⟩, List.mem_of_getElem? (i := 38) (by decide +kernel), List.mem_of_getElem? (i := 312) (by decide +kernel), List.mem_of_getElem? (i := 313) (by decide +kernel)⟩
theorem lw_p9 : lw_okq (⟨"WindowDesk$Tree", "settle", "()V"⟩, 16) := ⟨⟨by decide +kernel, by decide +kernel⟩, List.mem_of_getElem? (i := 38) (by decide +kernel), List.mem_of_getElem? (i := 316) (by decide +kernel), List.mem_of_getElem? (i := 317) (by decide +kernel)⟩
theorem lw_p10 : lw_okq (⟨"WindowDesk$Tree", "listNodes", "()V"⟩, 16) := ⟨⟨by decide +kernel, by decide +kernel⟩, List.mem_of_getElem? (i := 38) (by decide +kernel), List.mem_of_getElem? (i := 320) (by decide +kernel), List.mem_of_getElem? (i := 321) (by decide +kernel)⟩
theorem lw_p11 : lw_okq (⟨"WindowDesk$Tree", "measureLeaves", "(I)V"⟩, 16) := ⟨⟨by decide +kernel, by decide +kernel⟩, List.mem_of_getElem? (i := 38) (by decide +kernel), List.mem_of_getElem? (i := 324) (by decide +kernel), List.mem_of_getElem? (i := 325) (by decide +kernel)⟩
theorem lw_p12 : lw_okq (⟨"WindowDesk$Tree", "measureCuts", "(I)V"⟩, 16) := ⟨⟨by decide +kernel, by decide +kernel⟩, List.mem_of_getElem? (i := 38) (by decide +kernel), List.mem_of_getElem? (i := 331) (by decide +kernel), List.mem_of_getElem? (i := 332) (by decide +kernel)⟩
theorem lw_p13 : lw_okq (⟨"WindowDesk", "sendGroup", "(I)V"⟩, 9) := ⟨⟨by decide +kernel, by decide +kernel⟩, List.mem_of_getElem? (i := 12) (by decide +kernel), List.mem_of_getElem? (i := 335) (by decide +kernel), List.mem_of_getElem? (i := 336) (by decide +kernel)⟩
theorem lw_p14 : lw_okq (⟨"WindowDesk$Window", "nearest", "(II[I)I"⟩, 6) := ⟨⟨by decide +kernel, by decide +kernel⟩, List.mem_of_getElem? (i := 107) (by decide +kernel), List.mem_of_getElem? (i := 348) (by decide +kernel), List.mem_of_getElem? (i := 349) (by decide +kernel)⟩
theorem lw_p15 : lw_okq (⟨"WindowDesk", "forgetKeptWithGroup", "()V"⟩, 9) := ⟨⟨by decide +kernel, by decide +kernel⟩, List.mem_of_getElem? (i := 12) (by decide +kernel), List.mem_of_getElem? (i := 371) (by decide +kernel), List.mem_of_getElem? (i := 372) (by decide +kernel)⟩
def lw_privs_1 : List (MethodName × Nat) := [(⟨"WindowDesk", "bringBack", "(I)I"⟩, 9), (⟨"WindowDesk", "gatherDialogs", "()V"⟩, 9), (⟨"WindowDesk", "isWindow", "(I)Z"⟩, 9), (⟨"WindowDesk", "groupCanBeWhole", "(I)Z"⟩, 9), (⟨"WindowDesk", "takeBack", "(ILWindowDesk$Kept;)V"⟩, 9), (⟨"WindowDesk", "treeOf", "(I)LWindowDesk$Tree;"⟩, 9), (⟨"WindowDesk$Tree", "nextShown", "(II)I"⟩, 16), (⟨"WindowDesk$Tree", "dropLeaf", "(I)V"⟩, 16), (⟨"WindowDesk$Tree", "putInPlaceOf", "(II)V"⟩, 16), (⟨"WindowDesk$Tree", "settle", "()V"⟩, 16), (⟨"WindowDesk$Tree", "listNodes", "()V"⟩, 16), (⟨"WindowDesk$Tree", "measureLeaves", "(I)V"⟩, 16), (⟨"WindowDesk$Tree", "measureCuts", "(I)V"⟩, 16), (⟨"WindowDesk", "sendGroup", "(I)V"⟩, 9), (⟨"WindowDesk$Window", "nearest", "(II[I)I"⟩, 6), (⟨"WindowDesk", "forgetKeptWithGroup", "()V"⟩, 9)]
theorem lw_r1 : ∀ q ∈ lw_privs_1, lw_okq q := List.forall_mem_cons.mpr ⟨lw_p0, List.forall_mem_cons.mpr ⟨lw_p1, List.forall_mem_cons.mpr ⟨lw_p2, List.forall_mem_cons.mpr ⟨lw_p3, List.forall_mem_cons.mpr ⟨lw_p4, List.forall_mem_cons.mpr ⟨lw_p5, List.forall_mem_cons.mpr ⟨lw_p6, List.forall_mem_cons.mpr ⟨lw_p7, List.forall_mem_cons.mpr ⟨lw_p8, List.forall_mem_cons.mpr ⟨lw_p9, List.forall_mem_cons.mpr ⟨lw_p10, List.forall_mem_cons.mpr ⟨lw_p11, List.forall_mem_cons.mpr ⟨lw_p12, List.forall_mem_cons.mpr ⟨lw_p13, List.forall_mem_cons.mpr ⟨lw_p14, List.forall_mem_cons.mpr ⟨lw_p15, fun _ h => absurd h List.not_mem_nil⟩⟩⟩⟩⟩⟩⟩⟩⟩⟩⟩⟩⟩⟩⟩⟩
theorem lw_p16 : lw_okq (⟨"WindowDesk", "forgetKeptWith", "(I)V"⟩, 9) := ⟨⟨by decide +kernel, by decide +kernel⟩, List.mem_of_getElem? (i := 12) (by decide +kernel), List.mem_of_getElem? (i := 375) (by decide +kernel), List.mem_of_getElem? (i := 376) (by decide +kernel)⟩
theorem lw_p17 : lw_okq (⟨"WindowDesk", "looseOnesFit", "(I[I)Z"⟩, 9) := ⟨⟨by decide +kernel, by decide +kernel⟩, List.mem_of_getElem? (i := 12) (by decide +kernel), List.mem_of_getElem? (i := 383) (by decide +kernel), List.mem_of_getElem? (i := 384) (by decide +kernel)⟩
theorem lw_p18 : lw_okq (⟨"WindowDesk", "sendAll", "(II)V"⟩, 9) := ⟨⟨by decide +kernel, by decide +kernel⟩, List.mem_of_getElem? (i := 12) (by decide +kernel), List.mem_of_getElem? (i := 396) (by decide +kernel), List.mem_of_getElem? (i := 397) (by decide +kernel)⟩
theorem lw_p19 : lw_okq (⟨"WindowDesk", "leastScreenBut", "(I)I"⟩, 9) := ⟨⟨by decide +kernel, by decide +kernel⟩, List.mem_of_getElem? (i := 12) (by decide +kernel), List.mem_of_getElem? (i := 405) (by decide +kernel), List.mem_of_getElem? (i := 406) (by decide +kernel)⟩
theorem lw_p20 : lw_okq (⟨"WindowDesk$Tree", "newNode", "(I)I"⟩, 16) := ⟨⟨by decide +kernel, by decide +kernel⟩, List.mem_of_getElem? (i := 38) (by decide +kernel), List.mem_of_getElem? (i := 434) (by decide +kernel), List.mem_of_getElem? (i := 435) (by decide +kernel)⟩
theorem lw_p21 : lw_okq (⟨"WindowDesk$Tree", "enter", "(IIII)V"⟩, 16) := ⟨⟨by decide +kernel, by decide +kernel⟩, List.mem_of_getElem? (i := 38) (by decide +kernel), List.mem_of_getElem? (i := 438) (by decide +kernel), List.mem_of_getElem? (i := 439) (by decide +kernel)⟩
theorem lw_p22 : lw_okq (⟨"WindowDesk", "windowsOn", "(I)I"⟩, 9) := ⟨⟨by decide +kernel, by decide +kernel⟩, List.mem_of_getElem? (i := 12) (by decide +kernel), List.mem_of_getElem? (i := 446) (by decide +kernel), List.mem_of_getElem? (i := 447) (by decide +kernel)⟩
theorem lw_p23 : lw_okq (⟨"WindowDesk", "keepAll", "(I)V"⟩, 9) := ⟨⟨by decide +kernel, by decide +kernel⟩, List.mem_of_getElem? (i := 12) (by decide +kernel), List.mem_of_getElem? (i := 450) (by decide +kernel), List.mem_of_getElem? (i := 451) (by decide +kernel)⟩
theorem lw_p24 : lw_okq (⟨"WindowDesk", "leastFreeNumber", "()I"⟩, 9) := ⟨⟨by decide +kernel, by decide +kernel⟩, List.mem_of_getElem? (i := 12) (by decide +kernel), List.mem_of_getElem? (i := 466) (by decide +kernel), List.mem_of_getElem? (i := 467) (by decide +kernel)⟩
theorem lw_p25 : lw_okq (⟨"WindowDesk", "screenAtHand", "()I"⟩, 9) := ⟨⟨by decide +kernel, by decide +kernel⟩, List.mem_of_getElem? (i := 12) (by decide +kernel), List.mem_of_getElem? (i := 475) (by decide +kernel), List.mem_of_getElem? (i := 476) (by decide +kernel)⟩
theorem lw_p26 : lw_okq (⟨"WindowDesk", "layTrees", "()V"⟩, 9) := ⟨⟨by decide +kernel, by decide +kernel⟩, List.mem_of_getElem? (i := 12) (by decide +kernel), List.mem_of_getElem? (i := 481) (by decide +kernel), List.mem_of_getElem? (i := 482) (by decide +kernel)⟩
theorem lw_p27 : lw_okq (⟨"WindowDesk$Tree", "divide", "(I)V"⟩, 16) := ⟨⟨by decide +kernel, by decide +kernel⟩, List.mem_of_getElem? (i := 38) (by decide +kernel), List.mem_of_getElem? (i := 489) (by decide +kernel), List.mem_of_getElem? (i := 490) (by decide +kernel)⟩
theorem lw_p28 : lw_okq (⟨"WindowDesk$Tree", "firstPart", "(II)I"⟩, 16) := ⟨⟨by decide +kernel, by decide +kernel⟩, List.mem_of_getElem? (i := 38) (by decide +kernel), List.mem_of_getElem? (i := 493) (by decide +kernel), List.mem_of_getElem? (i := 494) (by decide +kernel)⟩
theorem lw_p29 : lw_okq (⟨"WindowDesk", "findRoom", "(II)Z"⟩, 9) := ⟨⟨by decide +kernel, by decide +kernel⟩, List.mem_of_getElem? (i := 12) (by decide +kernel), List.mem_of_getElem? (i := 502) (by decide +kernel), List.mem_of_getElem? (i := 503) (by decide +kernel)⟩
theorem lw_p30 : lw_okq (⟨"WindowDesk", "tile", "(ILWindowDesk$Screen;)Z"⟩, 9) := ⟨⟨by decide +kernel, by decide +kernel⟩, List.mem_of_getElem? (i := 12) (by decide +kernel), List.mem_of_getElem? (i := 506) (by decide +kernel), List.mem_of_getElem? (i := 507) (by decide +kernel)⟩
theorem lw_p31 : lw_okq (⟨"WindowDesk", "leafAtHand", "(LWindowDesk$Tree;)I"⟩, 9) := ⟨⟨by decide +kernel, by decide +kernel⟩, List.mem_of_getElem? (i := 12) (by decide +kernel), List.mem_of_getElem? (i := 510) (by decide +kernel), List.mem_of_getElem? (i := 511) (by decide +kernel)⟩
def lw_privs_2 : List (MethodName × Nat) := [(⟨"WindowDesk", "forgetKeptWith", "(I)V"⟩, 9), (⟨"WindowDesk", "looseOnesFit", "(I[I)Z"⟩, 9), (⟨"WindowDesk", "sendAll", "(II)V"⟩, 9), (⟨"WindowDesk", "leastScreenBut", "(I)I"⟩, 9), (⟨"WindowDesk$Tree", "newNode", "(I)I"⟩, 16), (⟨"WindowDesk$Tree", "enter", "(IIII)V"⟩, 16), (⟨"WindowDesk", "windowsOn", "(I)I"⟩, 9), (⟨"WindowDesk", "keepAll", "(I)V"⟩, 9), (⟨"WindowDesk", "leastFreeNumber", "()I"⟩, 9), (⟨"WindowDesk", "screenAtHand", "()I"⟩, 9), (⟨"WindowDesk", "layTrees", "()V"⟩, 9), (⟨"WindowDesk$Tree", "divide", "(I)V"⟩, 16), (⟨"WindowDesk$Tree", "firstPart", "(II)I"⟩, 16), (⟨"WindowDesk", "findRoom", "(II)Z"⟩, 9), (⟨"WindowDesk", "tile", "(ILWindowDesk$Screen;)Z"⟩, 9), (⟨"WindowDesk", "leafAtHand", "(LWindowDesk$Tree;)I"⟩, 9)]
theorem lw_r2 : ∀ q ∈ lw_privs_2, lw_okq q := List.forall_mem_cons.mpr ⟨lw_p16, List.forall_mem_cons.mpr ⟨lw_p17, List.forall_mem_cons.mpr ⟨lw_p18, List.forall_mem_cons.mpr ⟨lw_p19, List.forall_mem_cons.mpr ⟨lw_p20, List.forall_mem_cons.mpr ⟨lw_p21, List.forall_mem_cons.mpr ⟨lw_p22, List.forall_mem_cons.mpr ⟨lw_p23, List.forall_mem_cons.mpr ⟨lw_p24, List.forall_mem_cons.mpr ⟨lw_p25, List.forall_mem_cons.mpr ⟨lw_p26, List.forall_mem_cons.mpr ⟨lw_p27, List.forall_mem_cons.mpr ⟨lw_p28, List.forall_mem_cons.mpr ⟨lw_p29, List.forall_mem_cons.mpr ⟨lw_p30, List.forall_mem_cons.mpr ⟨lw_p31, fun _ h => absurd h List.not_mem_nil⟩⟩⟩⟩⟩⟩⟩⟩⟩⟩⟩⟩⟩⟩⟩⟩
theorem lw_p32 : lw_okq (⟨"WindowDesk", "tryCut", "(ILWindowDesk$Screen;II)Z"⟩, 9) := ⟨⟨by decide +kernel, by decide +kernel⟩, List.mem_of_getElem? (i := 12) (by decide +kernel), List.mem_of_getElem? (i := 520) (by decide +kernel), List.mem_of_getElem? (i := 521) (by decide +kernel)⟩
theorem lw_p33 : lw_okq (⟨"WindowDesk", "tryTab", "(ILWindowDesk$Screen;I)Z"⟩, 9) := ⟨⟨by decide +kernel, by decide +kernel⟩, List.mem_of_getElem? (i := 12) (by decide +kernel), List.mem_of_getElem? (i := 528) (by decide +kernel), List.mem_of_getElem? (i := 529) (by decide +kernel)⟩
theorem lw_p34 : lw_okq (⟨"WindowDesk", "middleOf", "(LWindowDesk$Window;I)I"⟩, 9) := ⟨⟨by decide +kernel, by decide +kernel⟩, List.mem_of_getElem? (i := 12) (by decide +kernel), List.mem_of_getElem? (i := 533) (by decide +kernel), List.mem_of_getElem? (i := 534) (by decide +kernel)⟩
theorem lw_p35 : lw_okq (⟨"WindowDesk", "lengthOf", "(II)I"⟩, 9) := ⟨⟨by decide +kernel, by decide +kernel⟩, List.mem_of_getElem? (i := 12) (by decide +kernel), List.mem_of_getElem? (i := 537) (by decide +kernel), List.mem_of_getElem? (i := 538) (by decide +kernel)⟩
theorem lw_p36 : lw_okq (⟨"WindowDesk", "startOf", "(II)I"⟩, 9) := ⟨⟨by decide +kernel, by decide +kernel⟩, List.mem_of_getElem? (i := 12) (by decide +kernel), List.mem_of_getElem? (i := 545) (by decide +kernel), List.mem_of_getElem? (i := 546) (by decide +kernel)⟩
theorem lw_p37 : lw_okq (⟨"WindowDesk", "giveFocus", "(I)V"⟩, 9) := ⟨⟨by decide +kernel, by decide +kernel⟩, List.mem_of_getElem? (i := 12) (by decide +kernel), List.mem_of_getElem? (i := 557) (by decide +kernel), List.mem_of_getElem? (i := 558) (by decide +kernel)⟩
theorem lw_p38 : lw_okq (⟨"WindowDesk", "raise", "(II)V"⟩, 9) := ⟨⟨by decide +kernel, by decide +kernel⟩, List.mem_of_getElem? (i := 12) (by decide +kernel), List.mem_of_getElem? (i := 575) (by decide +kernel), List.mem_of_getElem? (i := 576) (by decide +kernel)⟩
theorem lw_p39 : lw_okq (⟨"WindowDesk", "dialogsOf", "(I)I"⟩, 9) := ⟨⟨by decide +kernel, by decide +kernel⟩, List.mem_of_getElem? (i := 12) (by decide +kernel), List.mem_of_getElem? (i := 580) (by decide +kernel), List.mem_of_getElem? (i := 581) (by decide +kernel)⟩
theorem lw_p40 : lw_okq (⟨"WindowDesk", "lowestDialogOf", "(I)I"⟩, 9) := ⟨⟨by decide +kernel, by decide +kernel⟩, List.mem_of_getElem? (i := 12) (by decide +kernel), List.mem_of_getElem? (i := 584) (by decide +kernel), List.mem_of_getElem? (i := 585) (by decide +kernel)⟩
theorem lw_p41 : lw_okq (⟨"WindowDesk", "gatherWithDialogs", "(I)V"⟩, 9) := ⟨⟨by decide +kernel, by decide +kernel⟩, List.mem_of_getElem? (i := 12) (by decide +kernel), List.mem_of_getElem? (i := 592) (by decide +kernel), List.mem_of_getElem? (i := 593) (by decide +kernel)⟩
theorem lw_p42 : lw_okq (⟨"WindowDesk", "end", "(I)V"⟩, 9) := ⟨⟨by decide +kernel, by decide +kernel⟩, List.mem_of_getElem? (i := 12) (by decide +kernel), List.mem_of_getElem? (i := 596) (by decide +kernel), List.mem_of_getElem? (i := 597) (by decide +kernel)⟩
theorem lw_p43 : lw_okq (⟨"WindowDesk", "isShownTile", "(I)Z"⟩, 9) := ⟨⟨by decide +kernel, by decide +kernel⟩, List.mem_of_getElem? (i := 12) (by decide +kernel), List.mem_of_getElem? (i := 616) (by decide +kernel), List.mem_of_getElem? (i := 617) (by decide +kernel)⟩
theorem lw_p44 : lw_okq (⟨"WindowDesk$Tree", "meets", "(III)Z"⟩, 16) := ⟨⟨by decide +kernel, by decide +kernel⟩, List.mem_of_getElem? (i := 38) (by decide +kernel), List.mem_of_getElem? (i := 629) (by decide +kernel), List.mem_of_getElem? (i := 630) (by decide +kernel)⟩
theorem lw_p45 : lw_okq (⟨"WindowDesk$Tree", "endOf", "(II)I"⟩, 16) := ⟨⟨by decide +kernel, by decide +kernel⟩, List.mem_of_getElem? (i := 38) (by decide +kernel), List.mem_of_getElem? (i := 640) (by decide +kernel), List.mem_of_getElem? (i := 641) (by decide +kernel)⟩
theorem lw_p46 : lw_okq (⟨"WindowDesk$Tree", "commonBorder", "(III)I"⟩, 16) := ⟨⟨by decide +kernel, by decide +kernel⟩, List.mem_of_getElem? (i := 38) (by decide +kernel), List.mem_of_getElem? (i := 645) (by decide +kernel), List.mem_of_getElem? (i := 646) (by decide +kernel)⟩
theorem lw_p47 : lw_okq (⟨"WindowDesk", "reachFrom", "(I)V"⟩, 9) := ⟨⟨by decide +kernel, by decide +kernel⟩, List.mem_of_getElem? (i := 12) (by decide +kernel), List.mem_of_getElem? (i := 657) (by decide +kernel), List.mem_of_getElem? (i := 658) (by decide +kernel)⟩
def lw_privs_3 : List (MethodName × Nat) := [(⟨"WindowDesk", "tryCut", "(ILWindowDesk$Screen;II)Z"⟩, 9), (⟨"WindowDesk", "tryTab", "(ILWindowDesk$Screen;I)Z"⟩, 9), (⟨"WindowDesk", "middleOf", "(LWindowDesk$Window;I)I"⟩, 9), (⟨"WindowDesk", "lengthOf", "(II)I"⟩, 9), (⟨"WindowDesk", "startOf", "(II)I"⟩, 9), (⟨"WindowDesk", "giveFocus", "(I)V"⟩, 9), (⟨"WindowDesk", "raise", "(II)V"⟩, 9), (⟨"WindowDesk", "dialogsOf", "(I)I"⟩, 9), (⟨"WindowDesk", "lowestDialogOf", "(I)I"⟩, 9), (⟨"WindowDesk", "gatherWithDialogs", "(I)V"⟩, 9), (⟨"WindowDesk", "end", "(I)V"⟩, 9), (⟨"WindowDesk", "isShownTile", "(I)Z"⟩, 9), (⟨"WindowDesk$Tree", "meets", "(III)Z"⟩, 16), (⟨"WindowDesk$Tree", "endOf", "(II)I"⟩, 16), (⟨"WindowDesk$Tree", "commonBorder", "(III)I"⟩, 16), (⟨"WindowDesk", "reachFrom", "(I)V"⟩, 9)]
theorem lw_r3 : ∀ q ∈ lw_privs_3, lw_okq q := List.forall_mem_cons.mpr ⟨lw_p32, List.forall_mem_cons.mpr ⟨lw_p33, List.forall_mem_cons.mpr ⟨lw_p34, List.forall_mem_cons.mpr ⟨lw_p35, List.forall_mem_cons.mpr ⟨lw_p36, List.forall_mem_cons.mpr ⟨lw_p37, List.forall_mem_cons.mpr ⟨lw_p38, List.forall_mem_cons.mpr ⟨lw_p39, List.forall_mem_cons.mpr ⟨lw_p40, List.forall_mem_cons.mpr ⟨lw_p41, List.forall_mem_cons.mpr ⟨lw_p42, List.forall_mem_cons.mpr ⟨lw_p43, List.forall_mem_cons.mpr ⟨lw_p44, List.forall_mem_cons.mpr ⟨lw_p45, List.forall_mem_cons.mpr ⟨lw_p46, List.forall_mem_cons.mpr ⟨lw_p47, fun _ h => absurd h List.not_mem_nil⟩⟩⟩⟩⟩⟩⟩⟩⟩⟩⟩⟩⟩⟩⟩⟩
theorem lw_p48 : lw_okq (⟨"WindowDesk", "tryDrag", "(III)V"⟩, 9) := ⟨⟨by decide +kernel, by decide +kernel⟩, List.mem_of_getElem? (i := 12) (by decide +kernel), List.mem_of_getElem? (i := 666) (by decide +kernel), List.mem_of_getElem? (i := 667) (by decide +kernel)⟩
theorem lw_p49 : lw_okq (⟨"WindowDesk$Window", "spans", "(II[I)Z"⟩, 6) := ⟨⟨by decide +kernel, by decide +kernel⟩, List.mem_of_getElem? (i := 107) (by decide +kernel), List.mem_of_getElem? (i := 723) (by decide +kernel), List.mem_of_getElem? (i := 724) (by decide +kernel)⟩
theorem lw_p50 : lw_okq (⟨"WindowDesk$Tree", "spans", "(III)Z"⟩, 16) := ⟨⟨by decide +kernel, by decide +kernel⟩, List.mem_of_getElem? (i := 38) (by decide +kernel), List.mem_of_getElem? (i := 731) (by decide +kernel), List.mem_of_getElem? (i := 732) (by decide +kernel)⟩
theorem lw_p51 : lw_okq (⟨"WindowDesk", "looseOnes", "(I)I"⟩, 9) := ⟨⟨by decide +kernel, by decide +kernel⟩, List.mem_of_getElem? (i := 12) (by decide +kernel), List.mem_of_getElem? (i := 749) (by decide +kernel), List.mem_of_getElem? (i := 750) (by decide +kernel)⟩
theorem lw_p52 : lw_okq (⟨"WindowDesk", "screensThere", "()I"⟩, 9) := ⟨⟨by decide +kernel, by decide +kernel⟩, List.mem_of_getElem? (i := 12) (by decide +kernel), List.mem_of_getElem? (i := 767) (by decide +kernel), List.mem_of_getElem? (i := 768) (by decide +kernel)⟩
theorem lw_p53 : lw_okq (⟨"WindowDesk", "windowsUnder", "(I)I"⟩, 9) := ⟨⟨by decide +kernel, by decide +kernel⟩, List.mem_of_getElem? (i := 12) (by decide +kernel), List.mem_of_getElem? (i := 771) (by decide +kernel), List.mem_of_getElem? (i := 772) (by decide +kernel)⟩
theorem lw_p54 : lw_okq (⟨"WindowDesk", "screensWithKept", "()I"⟩, 9) := ⟨⟨by decide +kernel, by decide +kernel⟩, List.mem_of_getElem? (i := 12) (by decide +kernel), List.mem_of_getElem? (i := 775) (by decide +kernel), List.mem_of_getElem? (i := 776) (by decide +kernel)⟩
theorem lw_p55 : lw_okq (⟨"WindowDeskModel", "clearTree", "(I)V"⟩, 33) := ⟨⟨by decide +kernel, by decide +kernel⟩, List.mem_of_getElem? (i := 779) (by decide +kernel), List.mem_of_getElem? (i := 893) (by decide +kernel), List.mem_of_getElem? (i := 894) (by decide +kernel)⟩
theorem lw_p56 : lw_okq (⟨"WindowDeskModel", "comesBack", "(I)Z"⟩, 33) := ⟨⟨by decide +kernel, by decide +kernel⟩, List.mem_of_getElem? (i := 779) (by decide +kernel), List.mem_of_getElem? (i := 900) (by decide +kernel), List.mem_of_getElem? (i := 901) (by decide +kernel)⟩
theorem lw_p57 : lw_okq (⟨"WindowDeskModel", "spread", "()V"⟩, 33) := ⟨⟨by decide +kernel, by decide +kernel⟩, List.mem_of_getElem? (i := 779) (by decide +kernel), List.mem_of_getElem? (i := 904) (by decide +kernel), List.mem_of_getElem? (i := 905) (by decide +kernel)⟩
theorem lw_p58 : lw_okq (⟨"WindowDeskModel", "fits", "(III)Z"⟩, 33) := ⟨⟨by decide +kernel, by decide +kernel⟩, List.mem_of_getElem? (i := 779) (by decide +kernel), List.mem_of_getElem? (i := 908) (by decide +kernel), List.mem_of_getElem? (i := 909) (by decide +kernel)⟩
theorem lw_p59 : lw_okq (⟨"WindowDeskModel", "least", "(IIZ)I"⟩, 33) := ⟨⟨by decide +kernel, by decide +kernel⟩, List.mem_of_getElem? (i := 779) (by decide +kernel), List.mem_of_getElem? (i := 912) (by decide +kernel), List.mem_of_getElem? (i := 913) (by decide +kernel)⟩
theorem lw_p60 : lw_okq (⟨"WindowDeskModel", "canBeWhole", "(III)Z"⟩, 33) := ⟨⟨by decide +kernel, by decide +kernel⟩, List.mem_of_getElem? (i := 779) (by decide +kernel), List.mem_of_getElem? (i := 916) (by decide +kernel), List.mem_of_getElem? (i := 917) (by decide +kernel)⟩
theorem lw_p61 : lw_okq (⟨"WindowDeskModel", "bring", "(I)I"⟩, 33) := ⟨⟨by decide +kernel, by decide +kernel⟩, List.mem_of_getElem? (i := 779) (by decide +kernel), List.mem_of_getElem? (i := 920) (by decide +kernel), List.mem_of_getElem? (i := 921) (by decide +kernel)⟩
theorem lw_p62 : lw_okq (⟨"WindowDeskModel", "clearLeaves", "(I)V"⟩, 33) := ⟨⟨by decide +kernel, by decide +kernel⟩, List.mem_of_getElem? (i := 779) (by decide +kernel), List.mem_of_getElem? (i := 924) (by decide +kernel), List.mem_of_getElem? (i := 925) (by decide +kernel)⟩
theorem lw_p63 : lw_okq (⟨"WindowDeskModel", "findLeaves", "(II)V"⟩, 33) := ⟨⟨by decide +kernel, by decide +kernel⟩, List.mem_of_getElem? (i := 779) (by decide +kernel), List.mem_of_getElem? (i := 928) (by decide +kernel), List.mem_of_getElem? (i := 929) (by decide +kernel)⟩
def lw_privs_4 : List (MethodName × Nat) := [(⟨"WindowDesk", "tryDrag", "(III)V"⟩, 9), (⟨"WindowDesk$Window", "spans", "(II[I)Z"⟩, 6), (⟨"WindowDesk$Tree", "spans", "(III)Z"⟩, 16), (⟨"WindowDesk", "looseOnes", "(I)I"⟩, 9), (⟨"WindowDesk", "screensThere", "()I"⟩, 9), (⟨"WindowDesk", "windowsUnder", "(I)I"⟩, 9), (⟨"WindowDesk", "screensWithKept", "()I"⟩, 9), (⟨"WindowDeskModel", "clearTree", "(I)V"⟩, 33), (⟨"WindowDeskModel", "comesBack", "(I)Z"⟩, 33), (⟨"WindowDeskModel", "spread", "()V"⟩, 33), (⟨"WindowDeskModel", "fits", "(III)Z"⟩, 33), (⟨"WindowDeskModel", "least", "(IIZ)I"⟩, 33), (⟨"WindowDeskModel", "canBeWhole", "(III)Z"⟩, 33), (⟨"WindowDeskModel", "bring", "(I)I"⟩, 33), (⟨"WindowDeskModel", "clearLeaves", "(I)V"⟩, 33), (⟨"WindowDeskModel", "findLeaves", "(II)V"⟩, 33)]
theorem lw_r4 : ∀ q ∈ lw_privs_4, lw_okq q := List.forall_mem_cons.mpr ⟨lw_p48, List.forall_mem_cons.mpr ⟨lw_p49, List.forall_mem_cons.mpr ⟨lw_p50, List.forall_mem_cons.mpr ⟨lw_p51, List.forall_mem_cons.mpr ⟨lw_p52, List.forall_mem_cons.mpr ⟨lw_p53, List.forall_mem_cons.mpr ⟨lw_p54, List.forall_mem_cons.mpr ⟨lw_p55, List.forall_mem_cons.mpr ⟨lw_p56, List.forall_mem_cons.mpr ⟨lw_p57, List.forall_mem_cons.mpr ⟨lw_p58, List.forall_mem_cons.mpr ⟨lw_p59, List.forall_mem_cons.mpr ⟨lw_p60, List.forall_mem_cons.mpr ⟨lw_p61, List.forall_mem_cons.mpr ⟨lw_p62, List.forall_mem_cons.mpr ⟨lw_p63, fun _ h => absurd h List.not_mem_nil⟩⟩⟩⟩⟩⟩⟩⟩⟩⟩⟩⟩⟩⟩⟩⟩
theorem lw_p64 : lw_okq (⟨"WindowDeskModel", "leave", "(II)V"⟩, 33) := ⟨⟨by decide +kernel, by decide +kernel⟩, List.mem_of_getElem? (i := 779) (by decide +kernel), List.mem_of_getElem? (i := 932) (by decide +kernel), List.mem_of_getElem? (i := 933) (by decide +kernel)⟩
theorem lw_p65 : lw_okq (⟨"WindowDeskModel", "leafOf", "(II)I"⟩, 33) := ⟨⟨by decide +kernel, by decide +kernel⟩, List.mem_of_getElem? (i := 779) (by decide +kernel), List.mem_of_getElem? (i := 936) (by decide +kernel), List.mem_of_getElem? (i := 937) (by decide +kernel)⟩
theorem lw_p66 : lw_okq (⟨"WindowDeskModel", "placeOfTab", "(III)I"⟩, 33) := ⟨⟨by decide +kernel, by decide +kernel⟩, List.mem_of_getElem? (i := 779) (by decide +kernel), List.mem_of_getElem? (i := 940) (by decide +kernel), List.mem_of_getElem? (i := 941) (by decide +kernel)⟩
theorem lw_p67 : lw_okq (⟨"WindowDeskModel", "above", "(II)I"⟩, 33) := ⟨⟨by decide +kernel, by decide +kernel⟩, List.mem_of_getElem? (i := 779) (by decide +kernel), List.mem_of_getElem? (i := 944) (by decide +kernel), List.mem_of_getElem? (i := 945) (by decide +kernel)⟩
theorem lw_p68 : lw_okq (⟨"WindowDeskModel", "stand", "(IIII)V"⟩, 33) := ⟨⟨by decide +kernel, by decide +kernel⟩, List.mem_of_getElem? (i := 779) (by decide +kernel), List.mem_of_getElem? (i := 948) (by decide +kernel), List.mem_of_getElem? (i := 949) (by decide +kernel)⟩
theorem lw_p69 : lw_okq (⟨"WindowDeskModel", "copyTree", "(II)V"⟩, 33) := ⟨⟨by decide +kernel, by decide +kernel⟩, List.mem_of_getElem? (i := 779) (by decide +kernel), List.mem_of_getElem? (i := 952) (by decide +kernel), List.mem_of_getElem? (i := 953) (by decide +kernel)⟩
theorem lw_p70 : lw_okq (⟨"WindowDeskModel", "putAt", "(IIII)V"⟩, 33) := ⟨⟨by decide +kernel, by decide +kernel⟩, List.mem_of_getElem? (i := 779) (by decide +kernel), List.mem_of_getElem? (i := 956) (by decide +kernel), List.mem_of_getElem? (i := 957) (by decide +kernel)⟩
theorem lw_p71 : lw_okq (⟨"WindowDeskModel", "isOnScreen", "(II)Z"⟩, 33) := ⟨⟨by decide +kernel, by decide +kernel⟩, List.mem_of_getElem? (i := 779) (by decide +kernel), List.mem_of_getElem? (i := 963) (by decide +kernel), List.mem_of_getElem? (i := 964) (by decide +kernel)⟩
theorem lw_p72 : lw_okq (⟨"WindowDeskModel", "moveTabs", "(II)I"⟩, 33) := ⟨⟨by decide +kernel, by decide +kernel⟩, List.mem_of_getElem? (i := 779) (by decide +kernel), List.mem_of_getElem? (i := 972) (by decide +kernel), List.mem_of_getElem? (i := 973) (by decide +kernel)⟩
theorem lw_p73 : lw_okq (⟨"WindowDeskModel", "newLeaf", "(II)I"⟩, 33) := ⟨⟨by decide +kernel, by decide +kernel⟩, List.mem_of_getElem? (i := 779) (by decide +kernel), List.mem_of_getElem? (i := 976) (by decide +kernel), List.mem_of_getElem? (i := 977) (by decide +kernel)⟩
theorem lw_p74 : lw_okq (⟨"WindowDeskModel", "newNode", "(II)I"⟩, 33) := ⟨⟨by decide +kernel, by decide +kernel⟩, List.mem_of_getElem? (i := 779) (by decide +kernel), List.mem_of_getElem? (i := 980) (by decide +kernel), List.mem_of_getElem? (i := 981) (by decide +kernel)⟩
theorem lw_p75 : lw_okq (⟨"WindowDeskModel", "addTab", "(III)V"⟩, 33) := ⟨⟨by decide +kernel, by decide +kernel⟩, List.mem_of_getElem? (i := 779) (by decide +kernel), List.mem_of_getElem? (i := 984) (by decide +kernel), List.mem_of_getElem? (i := 985) (by decide +kernel)⟩
theorem lw_p76 : lw_okq (⟨"WindowDeskModel", "isWindow", "(I)Z"⟩, 33) := ⟨⟨by decide +kernel, by decide +kernel⟩, List.mem_of_getElem? (i := 779) (by decide +kernel), List.mem_of_getElem? (i := 992) (by decide +kernel), List.mem_of_getElem? (i := 993) (by decide +kernel)⟩
theorem lw_p77 : lw_okq (⟨"WindowDeskModel", "freeNumber", "()I"⟩, 33) := ⟨⟨by decide +kernel, by decide +kernel⟩, List.mem_of_getElem? (i := 779) (by decide +kernel), List.mem_of_getElem? (i := 996) (by decide +kernel), List.mem_of_getElem? (i := 997) (by decide +kernel)⟩
theorem lw_p78 : lw_okq (⟨"WindowDeskModel", "screenAtHand", "()I"⟩, 33) := ⟨⟨by decide +kernel, by decide +kernel⟩, List.mem_of_getElem? (i := 779) (by decide +kernel), List.mem_of_getElem? (i := 1001) (by decide +kernel), List.mem_of_getElem? (i := 1002) (by decide +kernel)⟩
theorem lw_p79 : lw_okq (⟨"WindowDeskModel", "tile", "(II)Z"⟩, 33) := ⟨⟨by decide +kernel, by decide +kernel⟩, List.mem_of_getElem? (i := 779) (by decide +kernel), List.mem_of_getElem? (i := 1005) (by decide +kernel), List.mem_of_getElem? (i := 1006) (by decide +kernel)⟩
def lw_privs_5 : List (MethodName × Nat) := [(⟨"WindowDeskModel", "leave", "(II)V"⟩, 33), (⟨"WindowDeskModel", "leafOf", "(II)I"⟩, 33), (⟨"WindowDeskModel", "placeOfTab", "(III)I"⟩, 33), (⟨"WindowDeskModel", "above", "(II)I"⟩, 33), (⟨"WindowDeskModel", "stand", "(IIII)V"⟩, 33), (⟨"WindowDeskModel", "copyTree", "(II)V"⟩, 33), (⟨"WindowDeskModel", "putAt", "(IIII)V"⟩, 33), (⟨"WindowDeskModel", "isOnScreen", "(II)Z"⟩, 33), (⟨"WindowDeskModel", "moveTabs", "(II)I"⟩, 33), (⟨"WindowDeskModel", "newLeaf", "(II)I"⟩, 33), (⟨"WindowDeskModel", "newNode", "(II)I"⟩, 33), (⟨"WindowDeskModel", "addTab", "(III)V"⟩, 33), (⟨"WindowDeskModel", "isWindow", "(I)Z"⟩, 33), (⟨"WindowDeskModel", "freeNumber", "()I"⟩, 33), (⟨"WindowDeskModel", "screenAtHand", "()I"⟩, 33), (⟨"WindowDeskModel", "tile", "(II)Z"⟩, 33)]
theorem lw_r5 : ∀ q ∈ lw_privs_5, lw_okq q := List.forall_mem_cons.mpr ⟨lw_p64, List.forall_mem_cons.mpr ⟨lw_p65, List.forall_mem_cons.mpr ⟨lw_p66, List.forall_mem_cons.mpr ⟨lw_p67, List.forall_mem_cons.mpr ⟨lw_p68, List.forall_mem_cons.mpr ⟨lw_p69, List.forall_mem_cons.mpr ⟨lw_p70, List.forall_mem_cons.mpr ⟨lw_p71, List.forall_mem_cons.mpr ⟨lw_p72, List.forall_mem_cons.mpr ⟨lw_p73, List.forall_mem_cons.mpr ⟨lw_p74, List.forall_mem_cons.mpr ⟨lw_p75, List.forall_mem_cons.mpr ⟨lw_p76, List.forall_mem_cons.mpr ⟨lw_p77, List.forall_mem_cons.mpr ⟨lw_p78, List.forall_mem_cons.mpr ⟨lw_p79, fun _ h => absurd h List.not_mem_nil⟩⟩⟩⟩⟩⟩⟩⟩⟩⟩⟩⟩⟩⟩⟩⟩
theorem lw_p80 : lw_okq (⟨"WindowDeskModel", "takesTrial", "(I)Z"⟩, 33) := ⟨⟨by decide +kernel, by decide +kernel⟩, List.mem_of_getElem? (i := 779) (by decide +kernel), List.mem_of_getElem? (i := 1009) (by decide +kernel), List.mem_of_getElem? (i := 1010) (by decide +kernel)⟩
theorem lw_p81 : lw_okq (⟨"WindowDeskModel", "layAll", "(I)V"⟩, 33) := ⟨⟨by decide +kernel, by decide +kernel⟩, List.mem_of_getElem? (i := 779) (by decide +kernel), List.mem_of_getElem? (i := 1013) (by decide +kernel), List.mem_of_getElem? (i := 1014) (by decide +kernel)⟩
theorem lw_p82 : lw_okq (⟨"WindowDeskModel", "lay", "(IIIIII)V"⟩, 33) := ⟨⟨by decide +kernel, by decide +kernel⟩, List.mem_of_getElem? (i := 779) (by decide +kernel), List.mem_of_getElem? (i := 1017) (by decide +kernel), List.mem_of_getElem? (i := 1018) (by decide +kernel)⟩
theorem lw_p83 : lw_okq (⟨"WindowDeskModel", "cutLeaf", "(IIIIZ)V"⟩, 33) := ⟨⟨by decide +kernel, by decide +kernel⟩, List.mem_of_getElem? (i := 779) (by decide +kernel), List.mem_of_getElem? (i := 1021) (by decide +kernel), List.mem_of_getElem? (i := 1022) (by decide +kernel)⟩
theorem lw_p84 : lw_okq (⟨"WindowDeskModel", "areaOf", "(II)I"⟩, 33) := ⟨⟨by decide +kernel, by decide +kernel⟩, List.mem_of_getElem? (i := 779) (by decide +kernel), List.mem_of_getElem? (i := 1025) (by decide +kernel), List.mem_of_getElem? (i := 1026) (by decide +kernel)⟩
theorem lw_p85 : lw_okq (⟨"WindowDeskModel", "isFloating", "(I)Z"⟩, 33) := ⟨⟨by decide +kernel, by decide +kernel⟩, List.mem_of_getElem? (i := 779) (by decide +kernel), List.mem_of_getElem? (i := 1030) (by decide +kernel), List.mem_of_getElem? (i := 1031) (by decide +kernel)⟩
theorem lw_p86 : lw_okq (⟨"WindowDeskModel", "focused", "(I)V"⟩, 33) := ⟨⟨by decide +kernel, by decide +kernel⟩, List.mem_of_getElem? (i := 779) (by decide +kernel), List.mem_of_getElem? (i := 1037) (by decide +kernel), List.mem_of_getElem? (i := 1038) (by decide +kernel)⟩
theorem lw_p87 : lw_okq (⟨"WindowDeskModel", "front", "(I)V"⟩, 33) := ⟨⟨by decide +kernel, by decide +kernel⟩, List.mem_of_getElem? (i := 779) (by decide +kernel), List.mem_of_getElem? (i := 1041) (by decide +kernel), List.mem_of_getElem? (i := 1042) (by decide +kernel)⟩
theorem lw_p88 : lw_okq (⟨"WindowDeskModel", "raise", "(I)V"⟩, 33) := ⟨⟨by decide +kernel, by decide +kernel⟩, List.mem_of_getElem? (i := 779) (by decide +kernel), List.mem_of_getElem? (i := 1045) (by decide +kernel), List.mem_of_getElem? (i := 1046) (by decide +kernel)⟩
theorem lw_p89 : lw_okq (⟨"WindowDeskModel", "unstack", "(I)V"⟩, 33) := ⟨⟨by decide +kernel, by decide +kernel⟩, List.mem_of_getElem? (i := 779) (by decide +kernel), List.mem_of_getElem? (i := 1049) (by decide +kernel), List.mem_of_getElem? (i := 1050) (by decide +kernel)⟩
theorem lw_p90 : lw_okq (⟨"WindowDeskModel", "closed", "(I)I"⟩, 33) := ⟨⟨by decide +kernel, by decide +kernel⟩, List.mem_of_getElem? (i := 779) (by decide +kernel), List.mem_of_getElem? (i := 1058) (by decide +kernel), List.mem_of_getElem? (i := 1059) (by decide +kernel)⟩
theorem lw_p91 : lw_okq (⟨"WindowDeskModel", "forget", "(I)V"⟩, 33) := ⟨⟨by decide +kernel, by decide +kernel⟩, List.mem_of_getElem? (i := 779) (by decide +kernel), List.mem_of_getElem? (i := 1062) (by decide +kernel), List.mem_of_getElem? (i := 1063) (by decide +kernel)⟩
theorem lw_p92 : lw_okq (⟨"WindowDeskModel", "isShown", "(I)Z"⟩, 33) := ⟨⟨by decide +kernel, by decide +kernel⟩, List.mem_of_getElem? (i := 779) (by decide +kernel), List.mem_of_getElem? (i := 1078) (by decide +kernel), List.mem_of_getElem? (i := 1079) (by decide +kernel)⟩
theorem lw_p93 : lw_okq (⟨"WindowDeskModel", "neighbourOf", "(II)I"⟩, 33) := ⟨⟨by decide +kernel, by decide +kernel⟩, List.mem_of_getElem? (i := 779) (by decide +kernel), List.mem_of_getElem? (i := 1082) (by decide +kernel), List.mem_of_getElem? (i := 1083) (by decide +kernel)⟩
theorem lw_p94 : lw_okq (⟨"WindowDeskModel", "lies", "(IIII)Z"⟩, 33) := ⟨⟨by decide +kernel, by decide +kernel⟩, List.mem_of_getElem? (i := 779) (by decide +kernel), List.mem_of_getElem? (i := 1124) (by decide +kernel), List.mem_of_getElem? (i := 1125) (by decide +kernel)⟩
def lw_privs_6 : List (MethodName × Nat) := [(⟨"WindowDeskModel", "takesTrial", "(I)Z"⟩, 33), (⟨"WindowDeskModel", "layAll", "(I)V"⟩, 33), (⟨"WindowDeskModel", "lay", "(IIIIII)V"⟩, 33), (⟨"WindowDeskModel", "cutLeaf", "(IIIIZ)V"⟩, 33), (⟨"WindowDeskModel", "areaOf", "(II)I"⟩, 33), (⟨"WindowDeskModel", "isFloating", "(I)Z"⟩, 33), (⟨"WindowDeskModel", "focused", "(I)V"⟩, 33), (⟨"WindowDeskModel", "front", "(I)V"⟩, 33), (⟨"WindowDeskModel", "raise", "(I)V"⟩, 33), (⟨"WindowDeskModel", "unstack", "(I)V"⟩, 33), (⟨"WindowDeskModel", "closed", "(I)I"⟩, 33), (⟨"WindowDeskModel", "forget", "(I)V"⟩, 33), (⟨"WindowDeskModel", "isShown", "(I)Z"⟩, 33), (⟨"WindowDeskModel", "neighbourOf", "(II)I"⟩, 33), (⟨"WindowDeskModel", "lies", "(IIII)Z"⟩, 33)]
theorem lw_r6 : ∀ q ∈ lw_privs_6, lw_okq q := List.forall_mem_cons.mpr ⟨lw_p80, List.forall_mem_cons.mpr ⟨lw_p81, List.forall_mem_cons.mpr ⟨lw_p82, List.forall_mem_cons.mpr ⟨lw_p83, List.forall_mem_cons.mpr ⟨lw_p84, List.forall_mem_cons.mpr ⟨lw_p85, List.forall_mem_cons.mpr ⟨lw_p86, List.forall_mem_cons.mpr ⟨lw_p87, List.forall_mem_cons.mpr ⟨lw_p88, List.forall_mem_cons.mpr ⟨lw_p89, List.forall_mem_cons.mpr ⟨lw_p90, List.forall_mem_cons.mpr ⟨lw_p91, List.forall_mem_cons.mpr ⟨lw_p92, List.forall_mem_cons.mpr ⟨lw_p93, List.forall_mem_cons.mpr ⟨lw_p94, fun _ h => absurd h List.not_mem_nil⟩⟩⟩⟩⟩⟩⟩⟩⟩⟩⟩⟩⟩⟩⟩
def lw_privs : List (MethodName × Nat) := lw_privs_1 ++ (lw_privs_2 ++ (lw_privs_3 ++ (lw_privs_4 ++ (lw_privs_5 ++ (lw_privs_6)))))
def lw_tbl : List Cond := k2_sels lw_privs ++ tables_1
theorem lw_privs_ok : ∀ q ∈ lw_privs, lw_okq q := by
  show ∀ q ∈ lw_privs_1 ++ (lw_privs_2 ++ (lw_privs_3 ++ (lw_privs_4 ++ (lw_privs_5 ++ (lw_privs_6))))), lw_okq q
  exact List.forall_mem_append.mpr ⟨lw_r1, List.forall_mem_append.mpr ⟨lw_r2, List.forall_mem_append.mpr ⟨lw_r3, List.forall_mem_append.mpr ⟨lw_r4, List.forall_mem_append.mpr ⟨lw_r5, lw_r6⟩⟩⟩⟩⟩
def va_AOA (ty : FieldType) (U : State) : Prop := (Cond.arrayOver (.array ty)).before #[] U = true
theorem va_AOA.use {ty : FieldType} {A : Array Value} {U : State} (h : va_AOA ty U) : (Cond.arrayOver (.array ty)).before A U = true := h
/-! ===== BEGIN words of one list among another's, by their places ===== -/
theorem goodIn_r {big : List Cond} (ws : List Cond) (ps : List Nat) (hp : ws = ps.filterMap (fun i => big[i]?)) (h : ws.all goodWord = true) : GoodIn big ws := by
  intro w hw
  have h1 := List.all_eq_true.mp h w hw
  rw [hp] at hw
  obtain ⟨i, -, hi⟩ := List.mem_filterMap.mp hw
  have hm : w ∈ big := by first | exact List.mem_of_getElem? hi | exact List.getElem?_mem hi
  exact ⟨hm, good_of_word h1⟩
theorem goodIn_app {big a b : List Cond} (ha : GoodIn big a) (hb : GoodIn big b) : GoodIn big (a ++ b) := fun w h => (List.mem_append.mp h).elim (ha w) (hb w)
theorem goodIn_ca {big a b : List Cond} {c : Cond} (ha : GoodIn big (c :: a)) (hb : GoodIn big b) : GoodIn big (c :: (a ++ b)) := fun w h => (List.mem_cons.mp h).elim (fun e => ha w (List.mem_cons.mpr (Or.inl e))) (fun h => (List.mem_append.mp h).elim (fun h => ha w (List.mem_cons.mpr (Or.inr h))) (hb w))
theorem goodIn_sub {big ws : List Cond} (hm : ∀ w ∈ ws, w ∈ big) (h : ws.all goodWord = true) : GoodIn big ws := fun w hw => ⟨hm w hw, good_of_word (List.all_eq_true.mp h w hw)⟩
/-! ===== END ===== -/

/-! ===== BEGIN new T[n][m]: the outer array a place, the inner ones among the pooled ===== -/
/-- f, but v at every address of l -/
def vr_up {α : Type} (f : Nat → α) (l : List Nat) (v : α) : Nat → α := fun a => if a ∈ l then v else f a
theorem vr_up_in {α : Type} {f : Nat → α} {l : List Nat} {v : α} {a : Nat} (h : a ∈ l) : vr_up f l v a = v := if_pos h
theorem vr_up_ne {α : Type} {f : Nat → α} {l : List Nat} {v : α} {a : Nat} (h : a ∉ l) : vr_up f l v a = f a := if_neg h
theorem vr_rows {L l : List Nat} {f : Nat → va_E} {e : va_E} (h : ∀ a, a ∈ l → a ∉ L) : va_pl L f ++ l.map (fun a => (a, e)) = va_pl (L ++ l) (vr_up f l e) := by
  unfold va_pl
  rw [List.map_append]
  congr 1
  · apply List.map_congr_left
    intro a ha
    rw [vr_up_ne (fun q => h a q ha)]
  · apply List.map_congr_left
    intro a ha
    rw [vr_up_in ha]
theorem vr_lay {X rows : va_W} {x : Nat × va_E} {pl : va_W} {D : va_G} {cl : List vw_C} {H : Heap} (hP : va_P D cl (((X ++ pl) ++ [x]) ++ rows) H) : va_P D cl ((X ++ [x]) ++ (pl ++ rows)) H := by
  rw [List.append_assoc (X ++ pl)] at hP
  have h := va_P.swap hP
  rw [← List.append_assoc X] at h
  have h2 := va_P.swap h
  rw [List.append_assoc (X ++ [x])] at h2
  exact h2
theorem vr_layD {X rows : va_W} {x : Nat × va_E} {pl : va_W} {A : Nat → Prop} (hD : va_D A (((X ++ pl) ++ [x]) ++ rows)) : va_D A ((X ++ [x]) ++ (pl ++ rows)) := by
  rw [List.append_assoc (X ++ pl)] at hD
  have h := va_D.swap hD
  rw [← List.append_assoc X] at h
  have h2 := va_D.swap h
  rw [List.append_assoc (X ++ [x])] at h2
  exact h2
theorem vr_outer (c : ClassId) (N h0 : Nat) : ∀ i : Nat, Jvm.Free.Multi.outerC c N h0 i = arrV c N (fun j => va_rf (if j < i then some (h0 + 1 + j) else none))
  | 0 => by
    show ({ cls := c, slots := Array.replicate N .null, vm := .none } : Cell) = _
    rw [arrV_new]
    refine congrArg (arrV c N) (funext fun j => ?_)
    simp [va_rf]
  | i + 1 => by
    show (Jvm.Free.Multi.outerC c N h0 i).setSlot i (.ref (h0 + 1 + i)) = _
    rw [vr_outer c N h0 i, arrV_store]
    refine congrArg (arrV c N) (funext fun j => ?_)
    by_cases e : j = i
    · subst e
      simp [updV, va_rf]
    · by_cases h : j < i
      · simp [updV, e, h, Nat.lt_succ_of_lt h]
      · simp [updV, e, h, show ¬ j < i + 1 by omega]
section VGM
variable {p : Program} {l : Launch} {e : Env} {R : Room} {s : State} {m : MethodId} {args : Array Value} {below : List Frame} {meth : Method} {c : Code} {H : Heap} {locs : List Loc} {cells slots : Nat} {Q : State → Prop}
variable {cc : ByteArray} {pc : Nat} {ls : Array Slot} {rest : List Value} {D : va_G} {cl : List vw_C} {A : Nat → Prop} {a : Nat} {tys : List (ClassId × FieldType)} {ws : va_W} {H0 : Heap}
theorem va_mna {X : va_W} {L : List Nat} {f : Nat → va_E} {cc : ByteArray} (hexec : p.tables.exec = Jvm.exec) (hb : c.code = cc) {own : String} {index : Nat} {ty : FieldType} {cy : ClassId} (hown : s.vm.findClass own = some m.cls) (hclink : (Cond.classLink own index ("[" ++ (FieldType.array ty).toString)).before args s = true) (hover : va_AOA ty s) (harr : (Cond.arrayClass ty).before args s = true) (hcy : s.vm.findClass (FieldType.array ty).toString = some cy)
    (hK : va_K D cl tys s) (hP : va_P D cl (X ++ va_pl L f) H) (hD : va_D A (X ++ va_pl L f)) (hS : va_S A H0 H locs) (hA : ∀ q, H0.size ≤ q → A q) {n k : Int32} {N' K' : Nat} {z : vp_A} (hn : ¬ n < 0) (hk : ¬ k < 0) (hN : n.toNatClampNeg = N') (hM : k.toNatClampNeg = K')
    (hb1 : N' * 4 ≤ 536870912) (hb2 : K' * componentBytes ty ≤ 536870912) (hb3 : K' ≤ 536870912) (hdf : fits ty (defaultValue ty) = true) (hdd : (defaultValue ty).isDefault = true) (hcells : cells + (1 + N') ≤ R.cells) (hslots : slots + (N' + N' * K') ≤ R.slots) (hz : ∀ c : ClassId, Jvm.Free.Multi.innerC c K' (defaultValue ty) = vp_cell c z) (hdg : decode cc pc = .ok (.multianewarray index 2, 4))
    (kk : ∀ (q : Nat) (r : Nat → Nat) (cA : ClassId) (H1 : Heap), (∀ i j : Nat, i < N' → j < N' → r i = r j → i = j) → (∀ i : Nat, i < N' → r i ∉ L) → va_K D cl (tys ++ [(cA, .array ty)]) s →
      va_P D cl ((X ++ [(q, .inl (cA, N', .inr (.inr (.inr (.inr (fun i => if i < N' then some (r i) else none))))))]) ++ va_pl (L ++ (List.range N').map r) (vr_up f ((List.range N').map r) (.inl (cy, z)))) H1 → va_D A ((X ++ [(q, .inl (cA, N', .inr (.inr (.inr (.inr (fun i => if i < N' then some (r i) else none))))))]) ++ va_pl (L ++ (List.range N').map r) (vr_up f ((List.range N').map r) (.inl (cy, z)))) → va_S A H0 H1 locs →
      W p l e R s m args below meth c H1 locs (cells + 1 + N') (slots + N' + N' * K') Q (F0 m (pc + 4) ls (.ref q :: rest))) : W p l e R s m args below meth c H locs cells slots Q (F0 m pc ls (.int k :: .int n :: rest)) := by
  subst hN
  subst hM
  intro T hT Xs
  obtain ⟨vm₁, cA, comp, -, fA, fC, hO, -, X', step⟩ := Xs.multianewarray2F hexec hown hclink (va_AOA.use hover) harr (g := F0 m pc ls (.int k :: .int n :: rest)) rfl (by rw [hb]; exact hdg) rfl hn hk hb1 hb2 hb3 hdf hdd hcells hslots
  have ec : some cy = some comp := hcy.symm.trans fC
  cases ec
  generalize hF : Jvm.Free.Multi.fill (T.setVm vm₁) cA cy n.toNatClampNeg k.toNatClampNeg (defaultValue ty) n.toNatClampNeg = F at X' step
  have hTh : (T.setVm vm₁).heap = H := hT
  obtain ⟨f1, f2, -, -⟩ := Jvm.Free.Multi.fill_facts (T.setVm vm₁) cA cy n.toNatClampNeg k.toNatClampNeg (defaultValue ty) n.toNatClampNeg
  rw [hF, hTh] at f1 f2
  have hold : ∀ x : Nat, x < H.size → F.heap[x]? = H[x]? := fun x hx => by
    have := Jvm.Free.Multi.fill_old (T.setVm vm₁) cA cy n.toNatClampNeg k.toNatClampNeg (defaultValue ty) (a := x) (by rw [hTh]; exact hx) n.toNatClampNeg
    rw [hF, hTh] at this
    exact this
  have hrow : ∀ j : Nat, j < n.toNatClampNeg → F.heap[H.size + 1 + j]? = some (vp_cell cy z) := fun j hj => by
    have := Jvm.Free.Multi.fill_inner (T.setVm vm₁) cA cy n.toNatClampNeg k.toNatClampNeg (defaultValue ty) n.toNatClampNeg j hj
    rw [hF, hTh, hz] at this
    exact this
  have hout : Jvm.Free.Multi.outerC cA n.toNatClampNeg H.size n.toNatClampNeg = vp_cell cA (n.toNatClampNeg, .inr (.inr (.inr (.inr (fun i => if i < n.toNatClampNeg then some (H.size + 1 + i) else none))))) := by
    rw [vp_cell_q]
    exact vr_outer cA n.toNatClampNeg H.size n.toNatClampNeg
  rw [hout] at f2
  have hlt : ∀ a, a ∈ L → a < H.size := fun a ha => by
    obtain ⟨k9, hk9⟩ := va_pl_get (X := X) (f := f) ha
    exact (hP k9 _ hk9).lt
  have hnl : ∀ i : Nat, i < n.toNatClampNeg → H.size + 1 + i ∉ L := fun i _ h => by
    have := hlt _ h
    omega
  have hnm : ∀ a, a ∈ (List.range n.toNatClampNeg).map (fun i => H.size + 1 + i) → a ∉ L := fun a ha h => by
    obtain ⟨i, -, rfl⟩ := List.mem_map.mp ha
    have := hlt _ h
    omega
  have hP0 : va_P D cl (X ++ va_pl L f) F.heap := hP.kept (fun k9 x hx => hold x.1 ((hP k9 x hx).lt))
  have hP1 : va_P D cl ((X ++ va_pl L f) ++ [(H.size, .inl (cA, n.toNatClampNeg, .inr (.inr (.inr (.inr (fun i => if i < n.toNatClampNeg then some (H.size + 1 + i) else none))))))]) F.heap := hP0.app (fun k9 x hx => by
    have h0 : k9 < 1 := (List.getElem?_eq_some_iff.mp hx).1
    rw [show k9 = 0 by omega] at hx
    cases hx
    exact f2)
  have hP2 : va_P D cl (((X ++ va_pl L f) ++ [(H.size, .inl (cA, n.toNatClampNeg, .inr (.inr (.inr (.inr (fun i => if i < n.toNatClampNeg then some (H.size + 1 + i) else none))))))]) ++ ((List.range n.toNatClampNeg).map (fun i => H.size + 1 + i)).map (fun a => (a, .inl (cy, z)))) F.heap := hP1.app (fun k9 x hx => by
    obtain ⟨a, ha, rfl⟩ := List.mem_map.mp (List.mem_of_getElem? hx)
    obtain ⟨i, hi, rfl⟩ := List.mem_map.mp ha
    exact hrow i (List.mem_range.mp hi))
  have hD2 : va_D A (((X ++ va_pl L f) ++ [(H.size, .inl (cA, n.toNatClampNeg, .inr (.inr (.inr (.inr (fun i => if i < n.toNatClampNeg then some (H.size + 1 + i) else none))))))]) ++ ((List.range n.toNatClampNeg).map (fun i => H.size + 1 + i)).map (fun a => (a, .inl (cy, z)))) := by
    have hD1 := hD.push (e := .inl (cA, n.toNatClampNeg, .inr (.inr (.inr (.inr (fun i => if i < n.toNatClampNeg then some (H.size + 1 + i) else none)))))) hP rfl (hA _ hS.1)
    generalize hW1 : (X ++ va_pl L f) ++ [(H.size, .inl (cA, n.toNatClampNeg, .inr (.inr (.inr (.inr (fun i => if i < n.toNatClampNeg then some (H.size + 1 + i) else none))))))] = W1 at hD1 hP1 ⊢
    have hle : ∀ (k9 : Nat) (x : Nat × va_E), W1[k9]? = some x → x.1 ≤ H.size := fun k9 x hx => by
      rw [← hW1] at hx
      by_cases hl : k9 < (X ++ va_pl L f).length
      · rw [List.getElem?_append_left hl] at hx
        exact Nat.le_of_lt ((hP k9 x hx).lt)
      · rw [List.getElem?_append_right (by omega)] at hx
        have h0 : k9 - (X ++ va_pl L f).length < 1 := (List.getElem?_eq_some_iff.mp hx).1
        rw [show k9 - (X ++ va_pl L f).length = 0 by omega] at hx
        cases hx
        exact Nat.le_refl _
    have hr : ∀ (k9 : Nat) (x : Nat × va_E), (((List.range n.toNatClampNeg).map (fun i => H.size + 1 + i)).map (fun a => ((a, .inl (cy, z)) : Nat × va_E)))[k9]? = some x → x.1 = H.size + 1 + k9 := fun k9 x hx => by
      rw [List.getElem?_map, List.getElem?_map] at hx
      by_cases h9 : k9 < n.toNatClampNeg
      · rw [List.getElem?_range h9] at hx
        cases hx
        rfl
      · have hn0 : (List.range n.toNatClampNeg)[k9]? = none := List.getElem?_eq_none (by rw [List.length_range]; omega)
        rw [hn0] at hx
        cases hx
    refine ⟨fun i j x y hi hj hxy => ?_, fun k9 x hx => ?_⟩
    · by_cases h1 : i < W1.length <;> by_cases h2 : j < W1.length
      · rw [List.getElem?_append_left h1] at hi
        rw [List.getElem?_append_left h2] at hj
        exact hD1.1 i j x y hi hj hxy
      · rw [List.getElem?_append_left h1] at hi
        rw [List.getElem?_append_right (by omega)] at hj
        have := hle _ _ hi
        have := hr _ _ hj
        omega
      · rw [List.getElem?_append_right (by omega)] at hi
        rw [List.getElem?_append_left h2] at hj
        have := hle _ _ hj
        have := hr _ _ hi
        omega
      · rw [List.getElem?_append_right (by omega)] at hi hj
        have := hr _ _ hi
        have := hr _ _ hj
        omega
    · by_cases h1 : k9 < W1.length
      · rw [List.getElem?_append_left h1] at hx
        exact hD1.2 k9 x hx
      · rw [List.getElem?_append_right (by omega)] at hx
        have := hr _ _ hx
        exact hA _ (by have := hS.1; omega)
  have hAr : ArrOfT s cA (.array ty) := fun N9 z9 => by
    obtain ⟨-, k9, hk9, cm9, hkk9⟩ := (hO 0 0 0).1
    exact ⟨(fun q hq => by cases hq), k9, hk9, cm9, hkk9⟩
  have hK2 : va_K D cl (tys ++ [(cA, .array ty)]) s := ⟨hK.1, fun k9 x hx => by
    by_cases hl : k9 < tys.length
    · rw [List.getElem?_append_left hl] at hx
      exact hK.2 k9 x hx
    · rw [List.getElem?_append_right (by omega)] at hx
      have h0 : k9 - tys.length < 1 := (List.getElem?_eq_some_iff.mp hx).1
      rw [show k9 - tys.length = 0 by omega] at hx
      cases hx
      exact ⟨hAr, fA⟩⟩
  obtain ⟨t, a1, b1⟩ := kk H.size (fun i => H.size + 1 + i) cA F.heap (fun i j _ _ h => by have h9 : H.size + 1 + i = H.size + 1 + j := h; omega) hnl hK2 (by rw [← vr_rows hnm]; exact vr_lay hP2) (by rw [← vr_rows hnm]; exact vr_layD hD2) ⟨by rw [f1]; have := hS.1; omega, fun x h1 h2 => (hold x (Nat.lt_of_lt_of_le h1 hS.1)).trans (hS.2.1 x h1 h2), hS.2.2⟩ F rfl X'
  refine ⟨t, step t ?_, b1⟩
  have e : T.heap.size = H.size := by rw [hT]
  rw [e]
  exact a1
end VGM
/-! ===== END ===== -/

def RX0 : String := "WindowDesk$Kept"
def TX0 : u_T := fun k => match k with
  | 0 => ("WindowDesk$Kept", "tree", "LWindowDesk$Tree;", true)
  | 1 => ("WindowDesk$Kept", "places", "[[I", true)
  | 2 => ("WindowDesk$Kept", "placed", "[Z", true)
  | _ => ("WindowDesk$Kept", "there", "Z", false)
def tyX0 : Nat → FieldType := fun k => match k with
  | 0 => .object "WindowDesk$Tree"
  | 1 => .array (.array .int)
  | 2 => .array .boolean
  | _ => .boolean
abbrev wsX00 : List Cond := u_ws RX0 TX0 4
theorem nmX0 : ∀ a, a < 4 → ∀ b, b < 4 → a ≠ b → (TX0 a).2.1 ≠ (TX0 b).2.1 := by decide +kernel
theorem tyX0_ok : ∀ k, k < 4 → parseFieldDescriptor (TX0 k).2.2.1 = some (tyX0 k) := by decide +kernel
abbrev cX0_init : ByteArray := prog_2_method_1_code
def yX0_init : MethodName := ⟨RX0, "<init>", "()V"⟩
abbrev cX0_has : ByteArray := prog_2_method_2_code
def yX0_has : MethodName := ⟨RX0, "has", "(I)Z"⟩
abbrev cX0_keepPlace : ByteArray := prog_2_method_3_code
def yX0_keepPlace : MethodName := ⟨RX0, "keepPlace", "(IZ[I)V"⟩
abbrev cX0_forget : ByteArray := prog_2_method_4_code
def yX0_forget : MethodName := ⟨RX0, "forget", "()V"⟩
def RX1 : String := "WindowDesk$Row"
def TX1 : u_T := fun k => match k with
  | 0 => ("WindowDesk$Row", "items", "[I", true)
  | _ => ("WindowDesk$Row", "size", "I", false)
def tyX1 : Nat → FieldType := fun k => match k with
  | 0 => .array .int
  | _ => .int
abbrev wsX10 : List Cond := u_ws RX1 TX1 2
theorem nmX1 : ∀ a, a < 2 → ∀ b, b < 2 → a ≠ b → (TX1 a).2.1 ≠ (TX1 b).2.1 := by decide +kernel
theorem tyX1_ok : ∀ k, k < 2 → parseFieldDescriptor (TX1 k).2.2.1 = some (tyX1 k) := by decide +kernel
abbrev cX1_init : ByteArray := prog_3_method_1_code
def yX1_init : MethodName := ⟨RX1, "<init>", "()V"⟩
abbrev cX1_size : ByteArray := prog_3_method_2_code
def yX1_size : MethodName := ⟨RX1, "size", "()I"⟩
abbrev cX1_get : ByteArray := prog_3_method_3_code
def yX1_get : MethodName := ⟨RX1, "get", "(I)I"⟩
abbrev cX1_placeOf : ByteArray := prog_3_method_4_code
def yX1_placeOf : MethodName := ⟨RX1, "placeOf", "(I)I"⟩
abbrev cX1_clear : ByteArray := prog_3_method_5_code
def yX1_clear : MethodName := ⟨RX1, "clear", "()V"⟩
abbrev cX1_append : ByteArray := prog_3_method_6_code
def yX1_append : MethodName := ⟨RX1, "append", "(I)V"⟩
abbrev cX1_takeOut : ByteArray := prog_3_method_7_code
def yX1_takeOut : MethodName := ⟨RX1, "takeOut", "(I)V"⟩
abbrev cX1_putLast : ByteArray := prog_3_method_8_code
def yX1_putLast : MethodName := ⟨RX1, "putLast", "(I)V"⟩
abbrev cX1_putFirst : ByteArray := prog_3_method_9_code
def yX1_putFirst : MethodName := ⟨RX1, "putFirst", "(I)V"⟩
abbrev cX1_copyFrom : ByteArray := prog_3_method_10_code
def yX1_copyFrom : MethodName := ⟨RX1, "copyFrom", "(LWindowDesk$Row;)V"⟩
def RX2 : String := "WindowDesk$Screen"
def TX2 : u_T := fun k => match k with
  | 0 => ("WindowDesk$Screen", "size", "[I", true)
  | 1 => ("WindowDesk$Screen", "tree", "LWindowDesk$Tree;", true)
  | 2 => ("WindowDesk$Screen", "kept", "LWindowDesk$Kept;", true)
  | _ => ("WindowDesk$Screen", "there", "Z", false)
def tyX2 : Nat → FieldType := fun k => match k with
  | 0 => .array .int
  | 1 => .object "WindowDesk$Tree"
  | 2 => .object "WindowDesk$Kept"
  | _ => .boolean
abbrev wsX20 : List Cond := u_ws RX2 TX2 4
theorem nmX2 : ∀ a, a < 4 → ∀ b, b < 4 → a ≠ b → (TX2 a).2.1 ≠ (TX2 b).2.1 := by decide +kernel
theorem tyX2_ok : ∀ k, k < 4 → parseFieldDescriptor (TX2 k).2.2.1 = some (tyX2 k) := by decide +kernel
abbrev cX2_init : ByteArray := prog_4_method_1_code
def yX2_init : MethodName := ⟨RX2, "<init>", "()V"⟩
abbrev cX2_setSize : ByteArray := prog_4_method_2_code
def yX2_setSize : MethodName := ⟨RX2, "setSize", "([I)V"⟩
def RX3 : String := "WindowDesk$Tree"
def TX3 : u_T := fun k => match k with
  | 0 => ("WindowDesk$Tree", "tabs", "LWindowDesk$Row;", true)
  | 1 => ("WindowDesk$Tree", "homes", "[I", true)
  | 2 => ("WindowDesk$Tree", "tabLeast", "[[I", true)
  | 3 => ("WindowDesk$Tree", "forms", "[I", true)
  | 4 => ("WindowDesk$Tree", "shares", "[I", true)
  | 5 => ("WindowDesk$Tree", "firsts", "[I", true)
  | 6 => ("WindowDesk$Tree", "seconds", "[I", true)
  | 7 => ("WindowDesk$Tree", "aboves", "[I", true)
  | 8 => ("WindowDesk$Tree", "shown", "[I", true)
  | 9 => ("WindowDesk$Tree", "root", "I", false)
  | 10 => ("WindowDesk$Tree", "order", "[I", true)
  | 11 => ("WindowDesk$Tree", "waiting", "[I", true)
  | 12 => ("WindowDesk$Tree", "nodes", "I", false)
  | 13 => ("WindowDesk$Tree", "least", "[[I", true)
  | 14 => ("WindowDesk$Tree", "starts", "[[I", true)
  | _ => ("WindowDesk$Tree", "lengths", "[[I", true)
def tyX3 : Nat → FieldType := fun k => match k with
  | 0 => .object "WindowDesk$Row"
  | 1 => .array .int
  | 2 => .array (.array .int)
  | 3 => .array .int
  | 4 => .array .int
  | 5 => .array .int
  | 6 => .array .int
  | 7 => .array .int
  | 8 => .array .int
  | 9 => .int
  | 10 => .array .int
  | 11 => .array .int
  | 12 => .int
  | 13 => .array (.array .int)
  | 14 => .array (.array .int)
  | _ => .array (.array .int)
abbrev wsX30 : List Cond := u_ws RX3 TX3 16
theorem nmX3 : ∀ a, a < 16 → ∀ b, b < 16 → a ≠ b → (TX3 a).2.1 ≠ (TX3 b).2.1 := by decide +kernel
theorem tyX3_ok : ∀ k, k < 16 → parseFieldDescriptor (TX3 k).2.2.1 = some (tyX3 k) := by decide +kernel
abbrev cX3_init : ByteArray := prog_5_method_1_code
def yX3_init : MethodName := ⟨RX3, "<init>", "()V"⟩
abbrev cX3_clear : ByteArray := prog_5_method_2_code
def yX3_clear : MethodName := ⟨RX3, "clear", "()V"⟩
abbrev cX3_copyFrom : ByteArray := prog_5_method_3_code
def yX3_copyFrom : MethodName := ⟨RX3, "copyFrom", "(LWindowDesk$Tree;)V"⟩
abbrev cX3_leafOf : ByteArray := prog_5_method_4_code
def yX3_leafOf : MethodName := ⟨RX3, "leafOf", "(I)I"⟩
abbrev cX3_isShown : ByteArray := prog_5_method_5_code
def yX3_isShown : MethodName := ⟨RX3, "isShown", "(I)Z"⟩
abbrev cX3_leaves : ByteArray := prog_5_method_6_code
def yX3_leaves : MethodName := ⟨RX3, "leaves", "()I"⟩
abbrev cX3_cuts : ByteArray := prog_5_method_7_code
def yX3_cuts : MethodName := ⟨RX3, "cuts", "()I"⟩
abbrev cX3_leafNumber : ByteArray := prog_5_method_8_code
def yX3_leafNumber : MethodName := ⟨RX3, "leafNumber", "(I)I"⟩
abbrev cX3_shownIn : ByteArray := prog_5_method_9_code
def yX3_shownIn : MethodName := ⟨RX3, "shownIn", "(I)I"⟩
abbrev cX3_tabsIn : ByteArray := prog_5_method_10_code
def yX3_tabsIn : MethodName := ⟨RX3, "tabsIn", "(I)I"⟩
abbrev cX3_tabIn : ByteArray := prog_5_method_11_code
def yX3_tabIn : MethodName := ⟨RX3, "tabIn", "(II)I"⟩
abbrev cX3_leastOf : ByteArray := prog_5_method_12_code
def yX3_leastOf : MethodName := ⟨RX3, "leastOf", "(I)I"⟩
abbrev cX3_fits : ByteArray := prog_5_method_13_code
def yX3_fits : MethodName := ⟨RX3, "fits", "([I)Z"⟩
abbrev cX3_nearestCut : ByteArray := prog_5_method_14_code
def yX3_nearestCut : MethodName := ⟨RX3, "nearestCut", "(II)I"⟩
abbrev cX3_changeShare : ByteArray := prog_5_method_15_code
def yX3_changeShare : MethodName := ⟨RX3, "changeShare", "(II)I"⟩
abbrev cX3_show : ByteArray := prog_5_method_16_code
def yX3_show : MethodName := ⟨RX3, "show", "(I)V"⟩
abbrev cX3_addTab : ByteArray := prog_5_method_17_code
def yX3_addTab : MethodName := ⟨RX3, "addTab", "(IIII)V"⟩
abbrev cX3_addAllTabs : ByteArray := prog_5_method_18_code
def yX3_addAllTabs : MethodName := ⟨RX3, "addAllTabs", "(LWindowDesk$Tree;)V"⟩
abbrev cX3_cutLeaf : ByteArray := prog_5_method_19_code
def yX3_cutLeaf : MethodName := ⟨RX3, "cutLeaf", "(IIZIII)V"⟩
abbrev cX3_takeOut : ByteArray := prog_5_method_20_code
def yX3_takeOut : MethodName := ⟨RX3, "takeOut", "(I)V"⟩
abbrev cX3_nextShown : ByteArray := prog_5_method_21_code
def yX3_nextShown : MethodName := ⟨RX3, "nextShown", "(II)I"⟩
abbrev cX3_dropLeaf : ByteArray := prog_5_method_22_code
def yX3_dropLeaf : MethodName := ⟨RX3, "dropLeaf", "(I)V"⟩
abbrev cX3_putInPlaceOf : ByteArray := prog_5_method_23_code
def yX3_putInPlaceOf : MethodName := ⟨RX3, "putInPlaceOf", "(II)V"⟩
abbrev cX3_enter : ByteArray := prog_5_method_24_code
def yX3_enter : MethodName := ⟨RX3, "enter", "(IIII)V"⟩
abbrev cX3_newNode : ByteArray := prog_5_method_25_code
def yX3_newNode : MethodName := ⟨RX3, "newNode", "(I)I"⟩
abbrev cX3_settle : ByteArray := prog_5_method_26_code
def yX3_settle : MethodName := ⟨RX3, "settle", "()V"⟩
abbrev cX3_listNodes : ByteArray := prog_5_method_27_code
def yX3_listNodes : MethodName := ⟨RX3, "listNodes", "()V"⟩
abbrev cX3_measureLeaves : ByteArray := prog_5_method_28_code
def yX3_measureLeaves : MethodName := ⟨RX3, "measureLeaves", "(I)V"⟩
abbrev cX3_measureCuts : ByteArray := prog_5_method_29_code
def yX3_measureCuts : MethodName := ⟨RX3, "measureCuts", "(I)V"⟩
abbrev cX3_lay : ByteArray := prog_5_method_30_code
def yX3_lay : MethodName := ⟨RX3, "lay", "([I)V"⟩
abbrev cX3_divide : ByteArray := prog_5_method_31_code
def yX3_divide : MethodName := ⟨RX3, "divide", "(I)V"⟩
abbrev cX3_firstPart : ByteArray := prog_5_method_32_code
def yX3_firstPart : MethodName := ⟨RX3, "firstPart", "(II)I"⟩
abbrev cX3_isWide : ByteArray := prog_5_method_33_code
def yX3_isWide : MethodName := ⟨RX3, "isWide", "(I)Z"⟩
abbrev cX3_startOf : ByteArray := prog_5_method_34_code
def yX3_startOf : MethodName := ⟨RX3, "startOf", "(II)I"⟩
abbrev cX3_lengthOf : ByteArray := prog_5_method_35_code
def yX3_lengthOf : MethodName := ⟨RX3, "lengthOf", "(II)I"⟩
abbrev cX3_endOf : ByteArray := prog_5_method_36_code
def yX3_endOf : MethodName := ⟨RX3, "endOf", "(II)I"⟩
abbrev cX3_shownAt : ByteArray := prog_5_method_37_code
def yX3_shownAt : MethodName := ⟨RX3, "shownAt", "(II)I"⟩
abbrev cX3_spans : ByteArray := prog_5_method_38_code
def yX3_spans : MethodName := ⟨RX3, "spans", "(III)Z"⟩
abbrev cX3_neighbourTo : ByteArray := prog_5_method_39_code
def yX3_neighbourTo : MethodName := ⟨RX3, "neighbourTo", "(II)I"⟩
abbrev cX3_meets : ByteArray := prog_5_method_40_code
def yX3_meets : MethodName := ⟨RX3, "meets", "(III)Z"⟩
abbrev cX3_commonBorder : ByteArray := prog_5_method_41_code
def yX3_commonBorder : MethodName := ⟨RX3, "commonBorder", "(III)I"⟩
def RX4 : String := "WindowDesk$Window"
def TX4 : u_T := fun k => match k with
  | 0 => ("WindowDesk$Window", "least", "[I", true)
  | 1 => ("WindowDesk$Window", "place", "[I", true)
  | 2 => ("WindowDesk$Window", "there", "Z", false)
  | 3 => ("WindowDesk$Window", "kind", "I", false)
  | 4 => ("WindowDesk$Window", "owner", "I", false)
  | _ => ("WindowDesk$Window", "screen", "I", false)
def tyX4 : Nat → FieldType := fun k => match k with
  | 0 => .array .int
  | 1 => .array .int
  | 2 => .boolean
  | 3 => .int
  | 4 => .int
  | _ => .int
abbrev wsX40 : List Cond := u_ws RX4 TX4 6
theorem nmX4 : ∀ a, a < 6 → ∀ b, b < 6 → a ≠ b → (TX4 a).2.1 ≠ (TX4 b).2.1 := by decide +kernel
theorem tyX4_ok : ∀ k, k < 6 → parseFieldDescriptor (TX4 k).2.2.1 = some (tyX4 k) := by decide +kernel
abbrev cX4_init : ByteArray := prog_6_method_1_code
def yX4_init : MethodName := ⟨RX4, "<init>", "()V"⟩
abbrev cX4_prepare : ByteArray := prog_6_method_2_code
def yX4_prepare : MethodName := ⟨RX4, "prepare", "(IIII)V"⟩
abbrev cX4_isTiled : ByteArray := prog_6_method_3_code
def yX4_isTiled : MethodName := ⟨RX4, "isTiled", "()Z"⟩
abbrev cX4_isFloating : ByteArray := prog_6_method_4_code
def yX4_isFloating : MethodName := ⟨RX4, "isFloating", "()Z"⟩
abbrev cX4_isSticky : ByteArray := prog_6_method_5_code
def yX4_isSticky : MethodName := ⟨RX4, "isSticky", "()Z"⟩
abbrev cX4_isOn : ByteArray := prog_6_method_6_code
def yX4_isOn : MethodName := ⟨RX4, "isOn", "(I)Z"⟩
abbrev cX4_isLooseOn : ByteArray := prog_6_method_7_code
def yX4_isLooseOn : MethodName := ⟨RX4, "isLooseOn", "(I)Z"⟩
abbrev cX4_fallsUnder : ByteArray := prog_6_method_8_code
def yX4_fallsUnder : MethodName := ⟨RX4, "fallsUnder", "(I)Z"⟩
abbrev cX4_canBeWhole : ByteArray := prog_6_method_9_code
def yX4_canBeWhole : MethodName := ⟨RX4, "canBeWhole", "([I)Z"⟩
abbrev cX4_nearest : ByteArray := prog_6_method_10_code
def yX4_nearest : MethodName := ⟨RX4, "nearest", "(II[I)I"⟩
abbrev cX4_putAt : ByteArray := prog_6_method_11_code
def yX4_putAt : MethodName := ⟨RX4, "putAt", "(II[I)V"⟩
abbrev cX4_sendTo : ByteArray := prog_6_method_12_code
def yX4_sendTo : MethodName := ⟨RX4, "sendTo", "(I[I)V"⟩
abbrev cX4_coversPoint : ByteArray := prog_6_method_13_code
def yX4_coversPoint : MethodName := ⟨RX4, "coversPoint", "(III[I)Z"⟩
abbrev cX4_spans : ByteArray := prog_6_method_14_code
def yX4_spans : MethodName := ⟨RX4, "spans", "(II[I)Z"⟩
def RX5 : String := "WindowDesk"
def TX5 : u_T := fun k => match k with
  | 0 => ("WindowDesk", "windows", "[LWindowDesk$Window;", true)
  | 1 => ("WindowDesk", "screens", "[LWindowDesk$Screen;", true)
  | 2 => ("WindowDesk", "focusRow", "LWindowDesk$Row;", true)
  | 3 => ("WindowDesk", "stack", "LWindowDesk$Row;", true)
  | 4 => ("WindowDesk", "trial", "LWindowDesk$Tree;", true)
  | 5 => ("WindowDesk", "group", "[Z", true)
  | 6 => ("WindowDesk", "asked", "[I", true)
  | 7 => ("WindowDesk", "distances", "[I", true)
  | _ => ("WindowDesk", "reached", "LWindowDesk$Row;", true)
def tyX5 : Nat → FieldType := fun k => match k with
  | 0 => .array (.object "WindowDesk$Window")
  | 1 => .array (.object "WindowDesk$Screen")
  | 2 => .object "WindowDesk$Row"
  | 3 => .object "WindowDesk$Row"
  | 4 => .object "WindowDesk$Tree"
  | 5 => .array .boolean
  | 6 => .array .int
  | 7 => .array .int
  | _ => .object "WindowDesk$Row"
abbrev wsX50 : List Cond := u_ws RX5 TX5 9
theorem nmX5 : ∀ a, a < 9 → ∀ b, b < 9 → a ≠ b → (TX5 a).2.1 ≠ (TX5 b).2.1 := by decide +kernel
theorem tyX5_ok : ∀ k, k < 9 → parseFieldDescriptor (TX5 k).2.2.1 = some (tyX5 k) := by decide +kernel
abbrev cX5_init : ByteArray := prog_1_method_1_code
def yX5_init : MethodName := ⟨RX5, "<init>", "()V"⟩
abbrev cX5_screen : ByteArray := prog_1_method_2_code
def yX5_screen : MethodName := ⟨RX5, "screen", "(III)I"⟩
abbrev cX5_gone : ByteArray := prog_1_method_3_code
def yX5_gone : MethodName := ⟨RX5, "gone", "(I)I"⟩
abbrev cX5_open : ByteArray := prog_1_method_4_code
def yX5_open : MethodName := ⟨RX5, "open", "(IIII)I"⟩
abbrev cX5_close : ByteArray := prog_1_method_5_code
def yX5_close : MethodName := ⟨RX5, "close", "(I)I"⟩
abbrev cX5_focus : ByteArray := prog_1_method_6_code
def yX5_focus : MethodName := ⟨RX5, "focus", "(I)I"⟩
abbrev cX5_back : ByteArray := prog_1_method_7_code
def yX5_back : MethodName := ⟨RX5, "back", "()I"⟩
abbrev cX5_toward : ByteArray := prog_1_method_8_code
def yX5_toward : MethodName := ⟨RX5, "toward", "(I)I"⟩
abbrev cX5_steps : ByteArray := prog_1_method_9_code
def yX5_steps : MethodName := ⟨RX5, "steps", "(II)I"⟩
abbrev cX5_drag : ByteArray := prog_1_method_10_code
def yX5_drag : MethodName := ⟨RX5, "drag", "(III)I"⟩
abbrev cX5_move : ByteArray := prog_1_method_11_code
def yX5_move : MethodName := ⟨RX5, "move", "(III)I"⟩
abbrev cX5_share : ByteArray := prog_1_method_12_code
def yX5_share : MethodName := ⟨RX5, "share", "(III)I"⟩
abbrev cX5_area : ByteArray := prog_1_method_13_code
def yX5_area : MethodName := ⟨RX5, "area", "(II)I"⟩
abbrev cX5_about : ByteArray := prog_1_method_14_code
def yX5_about : MethodName := ⟨RX5, "about", "(II)I"⟩
abbrev cX5_isOf : ByteArray := prog_1_method_15_code
def yX5_isOf : MethodName := ⟨RX5, "isOf", "(II)I"⟩
abbrev cX5_at : ByteArray := prog_1_method_16_code
def yX5_at : MethodName := ⟨RX5, "at", "(III)I"⟩
abbrev cX5_neighbour : ByteArray := prog_1_method_17_code
def yX5_neighbour : MethodName := ⟨RX5, "neighbour", "(II)I"⟩
abbrev cX5_told : ByteArray := prog_1_method_18_code
def yX5_told : MethodName := ⟨RX5, "told", "(II)I"⟩
abbrev cX5_tab : ByteArray := prog_1_method_19_code
def yX5_tab : MethodName := ⟨RX5, "tab", "(III)I"⟩
abbrev cX5_count : ByteArray := prog_1_method_20_code
def yX5_count : MethodName := ⟨RX5, "count", "(I)I"⟩
abbrev cX5_isScreen : ByteArray := prog_1_method_21_code
def yX5_isScreen : MethodName := ⟨RX5, "isScreen", "(I)Z"⟩
abbrev cX5_isScreenSize : ByteArray := prog_1_method_22_code
def yX5_isScreenSize : MethodName := ⟨RX5, "isScreenSize", "(I)Z"⟩
abbrev cX5_isWindowSize : ByteArray := prog_1_method_23_code
def yX5_isWindowSize : MethodName := ⟨RX5, "isWindowSize", "(I)Z"⟩
abbrev cX5_isSide : ByteArray := prog_1_method_24_code
def yX5_isSide : MethodName := ⟨RX5, "isSide", "(I)Z"⟩
abbrev cX5_isAxis : ByteArray := prog_1_method_25_code
def yX5_isAxis : MethodName := ⟨RX5, "isAxis", "(I)Z"⟩
abbrev cX5_isPlace : ByteArray := prog_1_method_26_code
def yX5_isPlace : MethodName := ⟨RX5, "isPlace", "(I)Z"⟩
abbrev cX5_isWindow : ByteArray := prog_1_method_27_code
def yX5_isWindow : MethodName := ⟨RX5, "isWindow", "(I)Z"⟩
abbrev cX5_isShownTile : ByteArray := prog_1_method_28_code
def yX5_isShownTile : MethodName := ⟨RX5, "isShownTile", "(I)Z"⟩
abbrev cX5_between : ByteArray := prog_1_method_29_code
def yX5_between : MethodName := ⟨RX5, "between", "(III)I"⟩
abbrev cX5_leastScreenBut : ByteArray := prog_1_method_30_code
def yX5_leastScreenBut : MethodName := ⟨RX5, "leastScreenBut", "(I)I"⟩
abbrev cX5_screenAtHand : ByteArray := prog_1_method_31_code
def yX5_screenAtHand : MethodName := ⟨RX5, "screenAtHand", "()I"⟩
abbrev cX5_screensThere : ByteArray := prog_1_method_32_code
def yX5_screensThere : MethodName := ⟨RX5, "screensThere", "()I"⟩
abbrev cX5_screensWithKept : ByteArray := prog_1_method_33_code
def yX5_screensWithKept : MethodName := ⟨RX5, "screensWithKept", "()I"⟩
abbrev cX5_windowsUnder : ByteArray := prog_1_method_34_code
def yX5_windowsUnder : MethodName := ⟨RX5, "windowsUnder", "(I)I"⟩
abbrev cX5_looseOnes : ByteArray := prog_1_method_35_code
def yX5_looseOnes : MethodName := ⟨RX5, "looseOnes", "(I)I"⟩
abbrev cX5_windowsOn : ByteArray := prog_1_method_36_code
def yX5_windowsOn : MethodName := ⟨RX5, "windowsOn", "(I)I"⟩
abbrev cX5_looseOnesFit : ByteArray := prog_1_method_37_code
def yX5_looseOnesFit : MethodName := ⟨RX5, "looseOnesFit", "(I[I)Z"⟩
abbrev cX5_sendAll : ByteArray := prog_1_method_38_code
def yX5_sendAll : MethodName := ⟨RX5, "sendAll", "(II)V"⟩
abbrev cX5_treeOf : ByteArray := prog_1_method_39_code
def yX5_treeOf : MethodName := ⟨RX5, "treeOf", "(I)LWindowDesk$Tree;"⟩
abbrev cX5_layTrees : ByteArray := prog_1_method_40_code
def yX5_layTrees : MethodName := ⟨RX5, "layTrees", "()V"⟩
abbrev cX5_startOf : ByteArray := prog_1_method_41_code
def yX5_startOf : MethodName := ⟨RX5, "startOf", "(II)I"⟩
abbrev cX5_lengthOf : ByteArray := prog_1_method_42_code
def yX5_lengthOf : MethodName := ⟨RX5, "lengthOf", "(II)I"⟩
abbrev cX5_leastFreeNumber : ByteArray := prog_1_method_43_code
def yX5_leastFreeNumber : MethodName := ⟨RX5, "leastFreeNumber", "()I"⟩
abbrev cX5_findRoom : ByteArray := prog_1_method_44_code
def yX5_findRoom : MethodName := ⟨RX5, "findRoom", "(II)Z"⟩
abbrev cX5_middleOf : ByteArray := prog_1_method_45_code
def yX5_middleOf : MethodName := ⟨RX5, "middleOf", "(LWindowDesk$Window;I)I"⟩
abbrev cX5_tile : ByteArray := prog_1_method_46_code
def yX5_tile : MethodName := ⟨RX5, "tile", "(ILWindowDesk$Screen;)Z"⟩
abbrev cX5_leafAtHand : ByteArray := prog_1_method_47_code
def yX5_leafAtHand : MethodName := ⟨RX5, "leafAtHand", "(LWindowDesk$Tree;)I"⟩
abbrev cX5_tryCut : ByteArray := prog_1_method_48_code
def yX5_tryCut : MethodName := ⟨RX5, "tryCut", "(ILWindowDesk$Screen;II)Z"⟩
abbrev cX5_tryTab : ByteArray := prog_1_method_49_code
def yX5_tryTab : MethodName := ⟨RX5, "tryTab", "(ILWindowDesk$Screen;I)Z"⟩
abbrev cX5_end : ByteArray := prog_1_method_50_code
def yX5_end : MethodName := ⟨RX5, "end", "(I)V"⟩
abbrev cX5_giveFocus : ByteArray := prog_1_method_51_code
def yX5_giveFocus : MethodName := ⟨RX5, "giveFocus", "(I)V"⟩
abbrev cX5_raise : ByteArray := prog_1_method_52_code
def yX5_raise : MethodName := ⟨RX5, "raise", "(II)V"⟩
abbrev cX5_dialogsOf : ByteArray := prog_1_method_53_code
def yX5_dialogsOf : MethodName := ⟨RX5, "dialogsOf", "(I)I"⟩
abbrev cX5_lowestDialogOf : ByteArray := prog_1_method_54_code
def yX5_lowestDialogOf : MethodName := ⟨RX5, "lowestDialogOf", "(I)I"⟩
abbrev cX5_reachFrom : ByteArray := prog_1_method_55_code
def yX5_reachFrom : MethodName := ⟨RX5, "reachFrom", "(I)V"⟩
abbrev cX5_tryDrag : ByteArray := prog_1_method_56_code
def yX5_tryDrag : MethodName := ⟨RX5, "tryDrag", "(III)V"⟩
abbrev cX5_axisOf : ByteArray := prog_1_method_57_code
def yX5_axisOf : MethodName := ⟨RX5, "axisOf", "(I)I"⟩
abbrev cX5_isAfter : ByteArray := prog_1_method_58_code
def yX5_isAfter : MethodName := ⟨RX5, "isAfter", "(I)Z"⟩
abbrev cX5_gatherWithDialogs : ByteArray := prog_1_method_59_code
def yX5_gatherWithDialogs : MethodName := ⟨RX5, "gatherWithDialogs", "(I)V"⟩
abbrev cX5_gatherDialogs : ByteArray := prog_1_method_60_code
def yX5_gatherDialogs : MethodName := ⟨RX5, "gatherDialogs", "()V"⟩
abbrev cX5_groupCanBeWhole : ByteArray := prog_1_method_61_code
def yX5_groupCanBeWhole : MethodName := ⟨RX5, "groupCanBeWhole", "(I)Z"⟩
abbrev cX5_sendGroup : ByteArray := prog_1_method_62_code
def yX5_sendGroup : MethodName := ⟨RX5, "sendGroup", "(I)V"⟩
abbrev cX5_keepAll : ByteArray := prog_1_method_63_code
def yX5_keepAll : MethodName := ⟨RX5, "keepAll", "(I)V"⟩
abbrev cX5_forgetKeptWith : ByteArray := prog_1_method_64_code
def yX5_forgetKeptWith : MethodName := ⟨RX5, "forgetKeptWith", "(I)V"⟩
abbrev cX5_bringBack : ByteArray := prog_1_method_65_code
def yX5_bringBack : MethodName := ⟨RX5, "bringBack", "(I)I"⟩
abbrev cX5_takeBack : ByteArray := prog_1_method_66_code
def yX5_takeBack : MethodName := ⟨RX5, "takeBack", "(ILWindowDesk$Kept;)V"⟩
abbrev cX5_forgetKeptWithGroup : ByteArray := prog_1_method_67_code
def yX5_forgetKeptWithGroup : MethodName := ⟨RX5, "forgetKeptWithGroup", "()V"⟩
def RX6 : String := "WindowDeskModel"
def TX6 : u_T := fun k => match k with
  | 0 => ("WindowDeskModel", "wide", "[I", true)
  | 1 => ("WindowDeskModel", "high", "[I", true)
  | 2 => ("WindowDeskModel", "kind", "[I", true)
  | 3 => ("WindowDeskModel", "w", "[I", true)
  | 4 => ("WindowDeskModel", "h", "[I", true)
  | 5 => ("WindowDeskModel", "owner", "[I", true)
  | 6 => ("WindowDeskModel", "home", "[I", true)
  | 7 => ("WindowDeskModel", "x", "[I", true)
  | 8 => ("WindowDeskModel", "y", "[I", true)
  | 9 => ("WindowDeskModel", "stack", "[I", true)
  | 10 => ("WindowDeskModel", "stacked", "I", false)
  | 11 => ("WindowDeskModel", "row", "[I", true)
  | 12 => ("WindowDeskModel", "rowed", "I", false)
  | 13 => ("WindowDeskModel", "root", "[I", true)
  | 14 => ("WindowDeskModel", "type", "[I", true)
  | 15 => ("WindowDeskModel", "one", "[I", true)
  | 16 => ("WindowDeskModel", "two", "[I", true)
  | 17 => ("WindowDeskModel", "part", "[I", true)
  | 18 => ("WindowDeskModel", "tabs", "[I", true)
  | 19 => ("WindowDeskModel", "tabMany", "[I", true)
  | 20 => ("WindowDeskModel", "shown", "[I", true)
  | 21 => ("WindowDeskModel", "isKept", "[Z", true)
  | 22 => ("WindowDeskModel", "keptHas", "[Z", true)
  | 23 => ("WindowDeskModel", "keptX", "[I", true)
  | 24 => ("WindowDeskModel", "keptY", "[I", true)
  | 25 => ("WindowDeskModel", "ax", "[I", true)
  | 26 => ("WindowDeskModel", "ay", "[I", true)
  | 27 => ("WindowDeskModel", "aw", "[I", true)
  | 28 => ("WindowDeskModel", "ah", "[I", true)
  | 29 => ("WindowDeskModel", "leaves", "[I", true)
  | 30 => ("WindowDeskModel", "leafMany", "I", false)
  | 31 => ("WindowDeskModel", "comes", "[Z", true)
  | _ => ("WindowDeskModel", "far", "[I", true)
def tyX6 : Nat → FieldType := fun k => match k with
  | 0 => .array .int
  | 1 => .array .int
  | 2 => .array .int
  | 3 => .array .int
  | 4 => .array .int
  | 5 => .array .int
  | 6 => .array .int
  | 7 => .array .int
  | 8 => .array .int
  | 9 => .array .int
  | 10 => .int
  | 11 => .array .int
  | 12 => .int
  | 13 => .array .int
  | 14 => .array .int
  | 15 => .array .int
  | 16 => .array .int
  | 17 => .array .int
  | 18 => .array .int
  | 19 => .array .int
  | 20 => .array .int
  | 21 => .array .boolean
  | 22 => .array .boolean
  | 23 => .array .int
  | 24 => .array .int
  | 25 => .array .int
  | 26 => .array .int
  | 27 => .array .int
  | 28 => .array .int
  | 29 => .array .int
  | 30 => .int
  | 31 => .array .boolean
  | _ => .array .int
abbrev wsX60 : List Cond := u_ws RX6 TX6 33
theorem nmX6 : ∀ a, a < 33 → ∀ b, b < 33 → a ≠ b → (TX6 a).2.1 ≠ (TX6 b).2.1 := by decide +kernel
theorem tyX6_ok : ∀ k, k < 33 → parseFieldDescriptor (TX6 k).2.2.1 = some (tyX6 k) := by decide +kernel
abbrev cX6_init : ByteArray := prog_8_method_1_code
def yX6_init : MethodName := ⟨RX6, "<init>", "()V"⟩
abbrev cX6_isIn : ByteArray := prog_8_method_2_code
def yX6_isIn : MethodName := ⟨RX6, "isIn", "(III)Z"⟩
abbrev cX6_half : ByteArray := prog_8_method_3_code
def yX6_half : MethodName := ⟨RX6, "half", "(I)I"⟩
abbrev cX6_nearest : ByteArray := prog_8_method_4_code
def yX6_nearest : MethodName := ⟨RX6, "nearest", "(II)I"⟩
abbrev cX6_isWindow : ByteArray := prog_8_method_5_code
def yX6_isWindow : MethodName := ⟨RX6, "isWindow", "(I)Z"⟩
abbrev cX6_isFloating : ByteArray := prog_8_method_6_code
def yX6_isFloating : MethodName := ⟨RX6, "isFloating", "(I)Z"⟩
abbrev cX6_spot : ByteArray := prog_8_method_8_code
def yX6_spot : MethodName := ⟨RX6, "spot", "(II)I"⟩
abbrev cX6_clearTree : ByteArray := prog_8_method_9_code
def yX6_clearTree : MethodName := ⟨RX6, "clearTree", "(I)V"⟩
abbrev cX6_copyTree : ByteArray := prog_8_method_10_code
def yX6_copyTree : MethodName := ⟨RX6, "copyTree", "(II)V"⟩
abbrev cX6_newNode : ByteArray := prog_8_method_11_code
def yX6_newNode : MethodName := ⟨RX6, "newNode", "(II)I"⟩
abbrev cX6_newLeaf : ByteArray := prog_8_method_12_code
def yX6_newLeaf : MethodName := ⟨RX6, "newLeaf", "(II)I"⟩
abbrev cX6_addTab : ByteArray := prog_8_method_13_code
def yX6_addTab : MethodName := ⟨RX6, "addTab", "(III)V"⟩
abbrev cX6_placeOfTab : ByteArray := prog_8_method_14_code
def yX6_placeOfTab : MethodName := ⟨RX6, "placeOfTab", "(III)I"⟩
abbrev cX6_leafOf : ByteArray := prog_8_method_15_code
def yX6_leafOf : MethodName := ⟨RX6, "leafOf", "(II)I"⟩
abbrev cX6_above : ByteArray := prog_8_method_16_code
def yX6_above : MethodName := ⟨RX6, "above", "(II)I"⟩
abbrev cX6_stand : ByteArray := prog_8_method_17_code
def yX6_stand : MethodName := ⟨RX6, "stand", "(IIII)V"⟩
abbrev cX6_leave : ByteArray := prog_8_method_18_code
def yX6_leave : MethodName := ⟨RX6, "leave", "(II)V"⟩
abbrev cX6_cutLeaf : ByteArray := prog_8_method_19_code
def yX6_cutLeaf : MethodName := ⟨RX6, "cutLeaf", "(IIIIZ)V"⟩
abbrev cX6_least : ByteArray := prog_8_method_20_code
def yX6_least : MethodName := ⟨RX6, "least", "(IIZ)I"⟩
abbrev cX6_fits : ByteArray := prog_8_method_21_code
def yX6_fits : MethodName := ⟨RX6, "fits", "(III)Z"⟩
abbrev cX6_lay : ByteArray := prog_8_method_22_code
def yX6_lay : MethodName := ⟨RX6, "lay", "(IIIIII)V"⟩
abbrev cX6_layAll : ByteArray := prog_8_method_23_code
def yX6_layAll : MethodName := ⟨RX6, "layAll", "(I)V"⟩
abbrev cX6_canBeWhole : ByteArray := prog_8_method_24_code
def yX6_canBeWhole : MethodName := ⟨RX6, "canBeWhole", "(III)Z"⟩
abbrev cX6_putAt : ByteArray := prog_8_method_25_code
def yX6_putAt : MethodName := ⟨RX6, "putAt", "(IIII)V"⟩
abbrev cX6_isOnScreen : ByteArray := prog_8_method_26_code
def yX6_isOnScreen : MethodName := ⟨RX6, "isOnScreen", "(II)Z"⟩
abbrev cX6_unstack : ByteArray := prog_8_method_27_code
def yX6_unstack : MethodName := ⟨RX6, "unstack", "(I)V"⟩
abbrev cX6_raise : ByteArray := prog_8_method_28_code
def yX6_raise : MethodName := ⟨RX6, "raise", "(I)V"⟩
abbrev cX6_front : ByteArray := prog_8_method_29_code
def yX6_front : MethodName := ⟨RX6, "front", "(I)V"⟩
abbrev cX6_focused : ByteArray := prog_8_method_30_code
def yX6_focused : MethodName := ⟨RX6, "focused", "(I)V"⟩
abbrev cX6_forget : ByteArray := prog_8_method_31_code
def yX6_forget : MethodName := ⟨RX6, "forget", "(I)V"⟩
abbrev cX6_screen : ByteArray := prog_8_method_32_code
def yX6_screen : MethodName := ⟨RX6, "screen", "(III)I"⟩
abbrev cX6_spread : ByteArray := prog_8_method_33_code
def yX6_spread : MethodName := ⟨RX6, "spread", "()V"⟩
abbrev cX6_comesBack : ByteArray := prog_8_method_34_code
def yX6_comesBack : MethodName := ⟨RX6, "comesBack", "(I)Z"⟩
abbrev cX6_bring : ByteArray := prog_8_method_35_code
def yX6_bring : MethodName := ⟨RX6, "bring", "(I)I"⟩
abbrev cX6_clearLeaves : ByteArray := prog_8_method_36_code
def yX6_clearLeaves : MethodName := ⟨RX6, "clearLeaves", "(I)V"⟩
abbrev cX6_findLeaves : ByteArray := prog_8_method_37_code
def yX6_findLeaves : MethodName := ⟨RX6, "findLeaves", "(II)V"⟩
abbrev cX6_gone : ByteArray := prog_8_method_38_code
def yX6_gone : MethodName := ⟨RX6, "gone", "(I)I"⟩
abbrev cX6_moveTabs : ByteArray := prog_8_method_39_code
def yX6_moveTabs : MethodName := ⟨RX6, "moveTabs", "(II)I"⟩
abbrev cX6_screenAtHand : ByteArray := prog_8_method_40_code
def yX6_screenAtHand : MethodName := ⟨RX6, "screenAtHand", "()I"⟩
abbrev cX6_freeNumber : ByteArray := prog_8_method_41_code
def yX6_freeNumber : MethodName := ⟨RX6, "freeNumber", "()I"⟩
abbrev cX6_open : ByteArray := prog_8_method_42_code
def yX6_open : MethodName := ⟨RX6, "open", "(IIII)I"⟩
abbrev cX6_tile : ByteArray := prog_8_method_43_code
def yX6_tile : MethodName := ⟨RX6, "tile", "(II)Z"⟩
abbrev cX6_takesTrial : ByteArray := prog_8_method_44_code
def yX6_takesTrial : MethodName := ⟨RX6, "takesTrial", "(I)Z"⟩
abbrev cX6_closed : ByteArray := prog_8_method_45_code
def yX6_closed : MethodName := ⟨RX6, "closed", "(I)I"⟩
abbrev cX6_close : ByteArray := prog_8_method_46_code
def yX6_close : MethodName := ⟨RX6, "close", "(I)I"⟩
abbrev cX6_focus : ByteArray := prog_8_method_47_code
def yX6_focus : MethodName := ⟨RX6, "focus", "(I)I"⟩
abbrev cX6_back : ByteArray := prog_8_method_48_code
def yX6_back : MethodName := ⟨RX6, "back", "()I"⟩
abbrev cX6_isShown : ByteArray := prog_8_method_49_code
def yX6_isShown : MethodName := ⟨RX6, "isShown", "(I)Z"⟩
abbrev cX6_common : ByteArray := prog_8_method_50_code
def yX6_common : MethodName := ⟨RX6, "common", "(IIII)I"⟩
abbrev cX6_neighbourOf : ByteArray := prog_8_method_51_code
def yX6_neighbourOf : MethodName := ⟨RX6, "neighbourOf", "(II)I"⟩
abbrev cX6_toward : ByteArray := prog_8_method_52_code
def yX6_toward : MethodName := ⟨RX6, "toward", "(I)I"⟩
abbrev cX6_steps : ByteArray := prog_8_method_53_code
def yX6_steps : MethodName := ⟨RX6, "steps", "(II)I"⟩
abbrev cX6_drag : ByteArray := prog_8_method_54_code
def yX6_drag : MethodName := ⟨RX6, "drag", "(III)I"⟩
abbrev cX6_move : ByteArray := prog_8_method_55_code
def yX6_move : MethodName := ⟨RX6, "move", "(III)I"⟩
abbrev cX6_share : ByteArray := prog_8_method_56_code
def yX6_share : MethodName := ⟨RX6, "share", "(III)I"⟩
abbrev cX6_areaOf : ByteArray := prog_8_method_57_code
def yX6_areaOf : MethodName := ⟨RX6, "areaOf", "(II)I"⟩
abbrev cX6_area : ByteArray := prog_8_method_58_code
def yX6_area : MethodName := ⟨RX6, "area", "(II)I"⟩
abbrev cX6_placeIn : ByteArray := prog_8_method_59_code
def yX6_placeIn : MethodName := ⟨RX6, "placeIn", "([III)I"⟩
abbrev cX6_about : ByteArray := prog_8_method_60_code
def yX6_about : MethodName := ⟨RX6, "about", "(II)I"⟩
abbrev cX6_isOf : ByteArray := prog_8_method_61_code
def yX6_isOf : MethodName := ⟨RX6, "isOf", "(II)I"⟩
abbrev cX6_lies : ByteArray := prog_8_method_62_code
def yX6_lies : MethodName := ⟨RX6, "lies", "(IIII)Z"⟩
abbrev cX6_at : ByteArray := prog_8_method_63_code
def yX6_at : MethodName := ⟨RX6, "at", "(III)I"⟩
abbrev cX6_neighbour : ByteArray := prog_8_method_64_code
def yX6_neighbour : MethodName := ⟨RX6, "neighbour", "(II)I"⟩
abbrev cX6_told : ByteArray := prog_8_method_65_code
def yX6_told : MethodName := ⟨RX6, "told", "(II)I"⟩
abbrev cX6_tab : ByteArray := prog_8_method_66_code
def yX6_tab : MethodName := ⟨RX6, "tab", "(III)I"⟩
abbrev cX6_count : ByteArray := prog_8_method_67_code
def yX6_count : MethodName := ⟨RX6, "count", "(I)I"⟩
def RJ9 : String := "java/lang/Math"
abbrev cJ9_floorDiv_7cf53 : ByteArray := prog_9_method_47_code
def yJ9_floorDiv_7cf53 : MethodName := ⟨RJ9, "floorDiv", "(II)I"⟩
abbrev cJ9_max_7cf53 : ByteArray := prog_9_method_65_code
def yJ9_max_7cf53 : MethodName := ⟨RJ9, "max", "(II)I"⟩
abbrev cJ9_min_7cf53 : ByteArray := prog_9_method_69_code
def yJ9_min_7cf53 : MethodName := ⟨RJ9, "min", "(II)I"⟩
def RJ10 : String := "java/lang/System"
def RJ7 : String := "java/util/Arrays"
abbrev cJ7_fill_53178 : ByteArray := prog_11_method_103_code
def yJ7_fill_53178 : MethodName := ⟨RJ7, "fill", "([II)V"⟩
def RL : String := "WindowDeskLaw"
abbrev cL_law : ByteArray := code
def yL_law : MethodName := ⟨RL, "law", "([I)Z"⟩
abbrev vwCl : List vw_C := [(RX0, TX0, 4), (RX1, TX1, 2), (RX2, TX2, 4), (RX3, TX3, 16), (RX4, TX4, 6), (RX5, TX5, 9), (RX6, TX6, 33)]
end
section
/-! a big-step interpreter over abstract cells, with unknown ints (.float k: the unknown number k) -/
abbrev zi_Hp : Type := List (Nat × List Value)
abbrev zi_Lc : Type := List (Nat × Value)
abbrev zi_Iv : Type := List (Int × Int)
abbrev zi_Dm : Type := List zi_Iv
abbrev zi_Out : Type := zi_Dm × Option Value × zi_Hp
/-- pc, instruction, its length, resolved numbers a b, place t of its word in the tables, number v -/
abbrev zi_Row : Type := Nat × Instr × Nat × Nat × Nat × Nat × Int
/-- name, bytes, max locals, return type, rows, most cells, most slots -/
abbrev zi_Me : Type := MethodName × ByteArray × Nat × Option FieldType × List zi_Row × Nat × Nat
def zi_clip (lo hi : Int) (l : zi_Iv) : zi_Iv := l.filterMap (fun q => if max q.1 lo ≤ min q.2 hi then some (max q.1 lo, min q.2 hi) else none)
def zi_T (c : ClassFile.Cond) (v : Int) (l : zi_Iv) : zi_Iv := match c with
  | .eq => zi_clip v v l
  | .ne => zi_clip (-2147483648) (v - 1) l ++ zi_clip (v + 1) 2147483647 l
  | .lt => zi_clip (-2147483648) (v - 1) l
  | .ge => zi_clip v 2147483647 l
  | .gt => zi_clip (v + 1) 2147483647 l
  | .le => zi_clip (-2147483648) v l
def zi_neg (c : ClassFile.Cond) : ClassFile.Cond := match c with
  | .eq => .ne | .ne => .eq | .lt => .ge | .ge => .lt | .gt => .le | .le => .gt
def zi_swap (c : ClassFile.Cond) : ClassFile.Cond := match c with
  | .eq => .eq | .ne => .ne | .lt => .gt | .ge => .le | .gt => .lt | .le => .ge
def zi_cmp (c : ClassFile.Cond) (x y : Int32) : Bool := match c with
  | .eq => decide (x = y) | .ne => decide (¬ x = y) | .lt => decide (x < y) | .ge => decide (y ≤ x) | .gt => decide (y < x) | .le => decide (x ≤ y)
def zi_get (L : zi_Lc) (k : Nat) : Option Value := (L.find? (fun q => q.1 == k)).map (fun q => q.2)
def zi_set (L : zi_Lc) (k : Nat) (v : Value) : zi_Lc := (k, v) :: L.filter (fun q => !(q.1 == k) && !(q.1 + 1 == k && q.2.category == 2))
def zi_set2 (L : zi_Lc) (k : Nat) (v : Value) : zi_Lc := (k, v) :: L.filter (fun q => !(q.1 == k) && (!(q.1 == k + 1) && !(q.1 + 1 == k && q.2.category == 2)))
def zi_isI (v : Value) : Bool := match v with | .int _ => true | .float _ => true | _ => false
/-- an unknown of which one value is left -/
def zi_nm (d : zi_Dm) (v : Value) : Value := match v with
  | .float k => (match d[k.toNat]? with | some [q] => if q.1 = q.2 then .int (Int32.ofInt q.1) else .float k | _ => .float k)
  | v => v
def zi_in (j : Int32) (n : Nat) : Bool := decide (¬ (j < 0 ∨ n ≤ j.toNatClampNeg))
def zi_wfv (n : Nat) (v : Value) : Bool := match v with | .ref (i + 1) => decide (i < n) | _ => true
def zi_wfl (n : Nat) (l : List Value) : Bool := l.all (zi_wfv n)
def zi_wfc (n : Nat) (L : zi_Lc) : Bool := L.all (fun q => zi_wfv n q.2)
def zi_wfh (h : zi_Hp) : Bool := h.all (fun c => c.1 == 7 || c.1 == 8 || zi_wfl h.length c.2)
def zi_iop (i : Instr) (x y : Int32) : Option Int32 := match i with
  | .iadd => some (x + y) | .isub => some (x - y) | .imul => some (x * y) | .iand => some (x &&& y)
  | .idiv => if y = 0 then none else some (x / y)
  | .irem => if y = 0 then none else some (x - x / y * y)
  | _ => none
def zi_ty (ci k : Nat) : FieldType := match ci with
  | 0 => tyX0 k | 1 => tyX1 k | 2 => tyX2 k | 3 => tyX3 k | 4 => tyX4 k | 5 => tyX5 k | _ => tyX6 k
def zi_fld (ci : Nat) : Nat := match ci with
  | 0 => 4 | 1 => 2 | 2 => 4 | 3 => 16 | 4 => 6 | 5 => 9 | _ => 33
/-- may a field of this type take it? -/
def zi_fit (ty : FieldType) (v : Value) : Bool := match ty, v with
  | .boolean, .int x => decide (x = 0) || decide (x = 1)
  | .int, .int _ => true
  | .int, .float _ => true
  | .object _, .ref _ => true
  | .object _, .null => true
  | .array _, .ref _ => true
  | .array _, .null => true
  | _, _ => false
def zi_ld (ls : zi_Lc) (d : zi_Dm) (k : Nat) : Option Value := match zi_get ls k with
  | some (.int x) => some (.int x)
  | some (.float q) => some (zi_nm d (.float q))
  | _ => none
def zi_lda (ls : zi_Lc) (k : Nat) : Option Value := match zi_get ls k with
  | some (.ref r) => some (.ref r)
  | _ => none
def zi_iald (scr : Option (List Value)) (d : zi_Dm) (h : zi_Hp) (j : Int32) (r : Nat) : Option Value := match r with
  | 0 => (match scr with
    | some l => if zi_in j l.length then (match l[j.toNatClampNeg]? with | some (.int x) => some (.int x) | some (.float q) => some (zi_nm d (.float q)) | _ => none) else none
    | none => none)
  | r + 1 => (match h[r]? with
    | some (7, l) => if zi_in j l.length then (match l[j.toNatClampNeg]? with | some (.int x) => some (.int x) | some (.float q) => some (zi_nm d (.float q)) | _ => none) else none
    | _ => none)
def zi_bald (h : zi_Hp) (j : Int32) (r : Nat) : Option Value := match h[r]? with
  | some (8, l) => if zi_in j l.length then (match l[j.toNatClampNeg]? with | some (.int x) => some (.int x) | _ => none) else none
  | _ => none
def zi_aald (h : zi_Hp) (j : Int32) (r : Nat) : Option Value := match h[r]? with
  | some (t, l) => if decide (9 ≤ t ∧ t ≤ 11) && zi_in j l.length then (match l[j.toNatClampNeg]? with | some (.ref (x + 1)) => some (.ref (x + 1)) | some .null => some .null | _ => none) else none
  | _ => none
def zi_iast (h : zi_Hp) (j : Int32) (r : Nat) (v : Value) : Option zi_Hp := match h[r]? with
  | some (7, l) => if zi_in j l.length && zi_isI v then some (h.set r (7, l.set j.toNatClampNeg v)) else none
  | _ => none
def zi_bast (h : zi_Hp) (j : Int32) (r : Nat) (x : Int32) : Option zi_Hp := match h[r]? with
  | some (8, l) => if zi_in j l.length && (decide (x = 0) || decide (x = 1)) then some (h.set r (8, l.set j.toNatClampNeg (.int x))) else none
  | _ => none
def zi_el (t : Nat) : Nat := if t = 9 then 2 else 4
def zi_aast (h : zi_Hp) (j : Int32) (r q : Nat) : Option zi_Hp := match h[r]? with
  | some (t, l) => if decide (t = 9 ∨ t = 10) && zi_in j l.length then (match h[q]? with | some (ci, _) => if ci = zi_el t then some (h.set r (t, l.set j.toNatClampNeg (.ref (q + 1)))) else none | none => none) else none
  | _ => none
def zi_alen (scr : Option (List Value)) (h : zi_Hp) (r : Nat) : Option Value := match r with
  | 0 => (match scr with | some l => some (.int (Int32.ofNat l.length)) | none => none)
  | r + 1 => (match h[r]? with | some (t, l) => if 7 ≤ t ∧ t ≤ 11 then some (.int (Int32.ofNat l.length)) else none | _ => none)
def zi_gf (h : zi_Hp) (a b r : Nat) : Option Value := match h[r]? with
  | some (t, fs) => if t = a ∧ a < 7 then fs[b]? else none
  | none => none
def zi_pf (h : zi_Hp) (a b r : Nat) (v : Value) : Option zi_Hp := match h[r]? with
  | some (t, fs) => if t = a ∧ a < 7 ∧ b < fs.length ∧ zi_fit (zi_ty a b) v = true then some (h.set r (t, fs.set b v)) else none
  | none => none
/-- an instruction that goes on behind itself and makes nothing -/
def zi_step (scr : Option (List Value)) (nL : Nat) (d : zi_Dm) (r : zi_Row) (ls : zi_Lc) (st : List Value) (h : zi_Hp) : Option (zi_Lc × List Value × zi_Hp) :=
  match r with
  | (_, i, _, a, b, _, v) => match i with
    | .iconst n => some (ls, .int (Int32.ofInt n) :: st, h)
    | .bipush n => some (ls, .int (Int8.ofInt n).toInt32 :: st, h)
    | .sipush n => some (ls, .int (Int16.ofInt n).toInt32 :: st, h)
    | .ldc _ => some (ls, .int (Int32.ofInt v) :: st, h)
    | .ldc_w _ => some (ls, .int (Int32.ofInt v) :: st, h)
    | .iload_n k => (zi_ld ls d k.val).map (fun x => (ls, x :: st, h))
    | .iload k => (zi_ld ls d k).map (fun x => (ls, x :: st, h))
    | .aload_n k => (zi_lda ls k.val).map (fun x => (ls, x :: st, h))
    | .aload k => (zi_lda ls k).map (fun x => (ls, x :: st, h))
    | .istore_n k => (match st with | x :: rest => if zi_isI x = true ∧ k.val < nL then some (zi_set ls k.val x, rest, h) else none | _ => none)
    | .istore k => (match st with | x :: rest => if zi_isI x = true ∧ k < nL then some (zi_set ls k x, rest, h) else none | _ => none)
    | .astore_n k => (match st with | .ref x :: rest => if k.val < nL then some (zi_set ls k.val (.ref x), rest, h) else none | _ => none)
    | .astore k => (match st with | .ref x :: rest => if k < nL then some (zi_set ls k (.ref x), rest, h) else none | _ => none)
    | .iinc k n => (match zi_get ls k with | some (.int x) => if k < nL then some (zi_set ls k (.int (x + Int32.ofInt n)), st, h) else none | _ => none)
    | .iadd => (match st with | .int y :: .int x :: rest => some (ls, .int (x + y) :: rest, h) | _ => none)
    | .isub => (match st with | .int y :: .int x :: rest => some (ls, .int (x - y) :: rest, h) | _ => none)
    | .imul => (match st with | .int y :: .int x :: rest => some (ls, .int (x * y) :: rest, h) | _ => none)
    | .iand => (match st with
      | .int y :: .int x :: rest => some (ls, .int (x &&& y) :: rest, h)
      | .int y :: .float k :: rest => if y = 31 ∧ k.toNat = 0 then some (ls, .float 5 :: rest, h) else none
      | _ => none)
    | .idiv => (match st with | .int y :: .int x :: rest => if y = 0 then none else some (ls, .int (x / y) :: rest, h) | _ => none)
    | .irem => (match st with | .int y :: .int x :: rest => if y = 0 then none else some (ls, .int (x - x / y * y) :: rest, h) | _ => none)
    | .dup => (match st with | x :: rest => if x.category = 1 then some (ls, x :: x :: rest, h) else none | _ => none)
    | .dup2 => (match st with | x :: y :: rest => if x.category = 1 ∧ y.category = 1 then some (ls, x :: y :: x :: y :: rest, h) else none | _ => none)
    | .getfield _ => (match st with | .ref (r + 1) :: rest => (zi_gf h a b r).map (fun x => (ls, x :: rest, h)) | _ => none)
    | .putfield _ => (match st with | x :: .ref (r + 1) :: rest => (zi_pf h a b r x).map (fun h' => (ls, rest, h')) | _ => none)
    | .iaload => (match st with | .int j :: .ref r :: rest => (zi_iald scr d h j r).map (fun x => (ls, x :: rest, h)) | _ => none)
    | .baload => (match st with | .int j :: .ref (r + 1) :: rest => (zi_bald h j r).map (fun x => (ls, x :: rest, h)) | _ => none)
    | .aaload => (match st with | .int j :: .ref (r + 1) :: rest => (zi_aald h j r).map (fun x => (ls, x :: rest, h)) | _ => none)
    | .iastore => (match st with | x :: .int j :: .ref (r + 1) :: rest => (zi_iast h j r x).map (fun h' => (ls, rest, h')) | _ => none)
    | .bastore => (match st with | .int x :: .int j :: .ref (r + 1) :: rest => (zi_bast h j r x).map (fun h' => (ls, rest, h')) | _ => none)
    | .aastore => (match st with | .ref (q + 1) :: .int j :: .ref (r + 1) :: rest => (zi_aast h j r q).map (fun h' => (ls, rest, h')) | _ => none)
    | .arraylength => (match st with | .ref r :: rest => (zi_alen scr h r).map (fun x => (ls, x :: rest, h)) | _ => none)
    | .pop => (match st with | x :: rest => if x.category = 1 then some (ls, rest, h) else none | _ => none)
    | .ixor => (match st with | .int y :: .int x :: rest => some (ls, .int (x ^^^ y) :: rest, h) | _ => none)
    | .lconst n => some (ls, .long (Int64.ofNat n.val) :: st, h)
    | .ldc2_w _ => some (ls, .long (Int64.ofInt v) :: st, h)
    | .lload_n k => (match zi_get ls k.val with | some (.long x) => some (ls, .long x :: st, h) | _ => none)
    | .lstore_n k => (match st with | .long x :: rest => if k.val + 1 < nL then some (zi_set2 ls k.val (.long x), rest, h) else none | _ => none)
    | .i2l => (match st with | .int x :: rest => some (ls, .long x.toInt64 :: rest, h) | _ => none)
    | .l2i => (match st with | .long x :: rest => some (ls, .int x.toInt32 :: rest, h) | _ => none)
    | .lshl => (match st with | .int y :: .long x :: rest => some (ls, .long (x <<< (y.toInt64 &&& 63)) :: rest, h) | _ => none)
    | .lshr => (match st with | .int y :: .long x :: rest => some (ls, .long (x >>> (y.toInt64 &&& 63)) :: rest, h) | _ => none)
    | .lor => (match st with | .long y :: .long x :: rest => some (ls, .long (x ||| y) :: rest, h) | _ => none)
    | .land => (match st with | .long y :: .long x :: rest => some (ls, .long (x &&& y) :: rest, h) | _ => none)
    | _ => none
/-- System.arraycopy of ints -/
def zi_cpy (h : zi_Hp) (r0 : Nat) (sp : Int32) (r1 : Nat) (dp n : Int32) : Option zi_Hp := match h[r0]?, h[r1]? with
  | some (7, l0), some (7, l1) => if sp < 0 ∨ dp < 0 ∨ n < 0 ∨ l0.length < sp.toNatClampNeg + n.toNatClampNeg ∨ l1.length < dp.toNatClampNeg + n.toNatClampNeg then none
      else some (h.set r1 (7, l1.take dp.toNatClampNeg ++ ((l0.drop sp.toNatClampNeg).take n.toNatClampNeg ++ l1.drop (dp.toNatClampNeg + n.toNatClampNeg))))
  | _, _ => none
/-- an instruction that makes cells: the new heap, the reference on top, cells and slots -/
def zi_new (r : zi_Row) (st : List Value) (h : zi_Hp) : Option (List Value × zi_Hp × Nat × Nat) :=
  match r with
  | (_, i, _, a, _, _, _) => match i with
    | .new _ => if a < 7 then some (.ref (h.length + 1) :: st, h ++ [(a, (List.range (zi_fld a)).map (fun k => defaultValue (zi_ty a k)))], 1, zi_fld a) else none
    | .newarray .int => (match st with | .int n :: rest => if n < 0 ∨ 100000 < n.toNatClampNeg then none else some (.ref (h.length + 1) :: rest, h ++ [(7, List.replicate n.toNatClampNeg (.int 0))], 1, n.toNatClampNeg) | _ => none)
    | .newarray .boolean => (match st with | .int n :: rest => if n < 0 ∨ 100000 < n.toNatClampNeg then none else some (.ref (h.length + 1) :: rest, h ++ [(8, List.replicate n.toNatClampNeg (.int 0))], 1, n.toNatClampNeg) | _ => none)
    | .anewarray _ => (match st with | .int n :: rest => if n < 0 ∨ 100000 < n.toNatClampNeg ∨ ¬ (a = 9 ∨ a = 10) then none else some (.ref (h.length + 1) :: rest, h ++ [(a, List.replicate n.toNatClampNeg .null)], 1, n.toNatClampNeg) | _ => none)
    | .multianewarray _ 2 => (match st with | .int k :: .int n :: rest => if n < 0 ∨ k < 0 ∨ 100000 < n.toNatClampNeg ∨ 100000 < k.toNatClampNeg then none else some (.ref (h.length + 1) :: rest, h ++ (11, (List.range n.toNatClampNeg).map (fun i => .ref (h.length + 2 + i))) :: List.replicate n.toNatClampNeg (7, List.replicate k.toNatClampNeg (.int 0)), 1 + n.toNatClampNeg, n.toNatClampNeg + n.toNatClampNeg * k.toNatClampNeg) | _ => none)
    | _ => none
def zi_bind {α : Type} : List α → (α → Option (List zi_Out)) → Option (List zi_Out)
  | [], _ => some []
  | x :: xs, k => match k x with
    | none => none
    | some a => match zi_bind xs k with
      | none => none
      | some b => some (a ++ b)
def zi_vals (l : zi_Iv) : List Int := l.flatMap (fun q => (List.range (q.2 - q.1 + 1).toNat).map (fun (j : Nat) => q.1 + (j : Int)))
/-- an unknown index that an array is asked at: its number and the rest of the stack behind a known one -/
def zi_ask (i : Instr) (st : List Value) : Option (UInt32 × (Int32 → List Value)) := match i with
  | .iaload | .baload | .aaload => (match st with | .float k :: rest => some (k, fun c => .int c :: rest) | _ => none)
  | .iastore | .bastore | .aastore => (match st with | x :: .float k :: rest => some (k, fun c => x :: .int c :: rest) | _ => none)
  | _ => none
def zi_retOk (ret : Option FieldType) (v : Value) : Bool := match ret with
  | some .int => zi_isI v
  | some .boolean => (match v with | .int x => decide (x = 0) || decide (x = 1) | _ => false)
  | _ => false
def zi_retA (ret : Option FieldType) : Bool := match ret with
  | some (.object _) => true
  | _ => false
section ZG
variable (ms : List zi_Me) (scr : Option (List Value)) (nL : Nat) (ret : Option FieldType) (code : List zi_Row) (mc mS : Nat) (call : Nat → List Value → zi_Hp → zi_Dm → Option (List zi_Out))
def zi_go : Nat → Nat → zi_Lc → List Value → zi_Hp → zi_Dm → Nat → Nat → Option (List zi_Out)
  | 0, _, _, _, _, _, _, _ => none
  | n + 1, pc, ls, st, h, d, kc, ks =>
    match code.find? (fun r => r.1 == pc) with
    | none => none
    | some r =>
      match zi_ask r.2.1 st with
      | some (k, f) => (match d[k.toNat]? with
        | none => none
        | some l => if (zi_vals l).length ≤ 64 then zi_bind (zi_vals l) (fun v => zi_go n pc ls (f (Int32.ofInt v)) h (d.set k.toNat [(v, v)]) kc ks) else none)
      | none =>
        match r.2.1 with
        | .ireturn => (match st with | [v] => if zi_retOk ret v then some [(d, some v, h)] else none | _ => none)
        | .areturn => (match st with | [.ref x] => if zi_retA ret then some [(d, some (.ref x), h)] else none | _ => none)
        | .return_ => (match st with | [] => if ret = none then some [(d, none, h)] else none | _ => none)
        | .goto _ => zi_go n r.2.2.2.1 ls st h d kc ks
        | .ifCond c _ => (match st with
          | .int x :: rest => if zi_cmp c x 0 then zi_go n r.2.2.2.1 ls rest h d kc ks else zi_go n (pc + 3) ls rest h d kc ks
          | .float k :: rest => (match d[k.toNat]? with
            | none => none
            | some l => zi_bind [(zi_T c 0 l, r.2.2.2.1), (zi_T (zi_neg c) 0 l, pc + 3)] (fun q => if q.1.isEmpty then some [] else zi_go n q.2 ls rest h (d.set k.toNat q.1) kc ks))
          | _ => none)
        | .if_icmp c _ => (match st with
          | .int y :: .int x :: rest => if zi_cmp c x y then zi_go n r.2.2.2.1 ls rest h d kc ks else zi_go n (pc + 3) ls rest h d kc ks
          | .int y :: .float k :: rest => (match d[k.toNat]? with
            | none => none
            | some l => zi_bind [(zi_T c y.toInt l, r.2.2.2.1), (zi_T (zi_neg c) y.toInt l, pc + 3)] (fun q => if q.1.isEmpty then some [] else zi_go n q.2 ls rest h (d.set k.toNat q.1) kc ks))
          | .float k :: .int x :: rest => (match d[k.toNat]? with
            | none => none
            | some l => zi_bind [(zi_T (zi_swap c) x.toInt l, r.2.2.2.1), (zi_T (zi_neg (zi_swap c)) x.toInt l, pc + 3)] (fun q => if q.1.isEmpty then some [] else zi_go n q.2 ls rest h (d.set k.toNat q.1) kc ks))
          | _ => none)
        | .tableswitch dflt lo hi offs => (match st with
          | .int x :: rest => if x.toInt < lo ∨ hi < x.toInt then (if (pc : Int) + dflt = (((pc : Int) + dflt).toNat : Int) then zi_go n ((pc : Int) + dflt).toNat ls rest h d kc ks else none)
            else (match offs[(x.toInt - lo).toNat]? with
              | some off => if (pc : Int) + off = (((pc : Int) + off).toNat : Int) then zi_go n ((pc : Int) + off).toNat ls rest h d kc ks else none
              | none => none)
          | .float k :: rest => (match d[k.toNat]? with
            | none => none
            | some l => zi_bind ((zi_T .lt lo l, dflt) :: (zi_T .gt hi l, dflt) :: (List.range (hi - lo + 1).toNat).map (fun (j : Nat) => (zi_T .eq (lo + (j : Int)) l, offs[j]?.getD 0))) (fun q => if q.1.isEmpty then some [] else if (pc : Int) + q.2 = (((pc : Int) + q.2).toNat : Int) then zi_go n ((pc : Int) + q.2).toNat ls rest h (d.set k.toNat q.1) kc ks else none))
          | _ => none)
        | .invokespecial _ =>
          if r.2.2.2.1 = 999 then (match st with | .ref (x + 1) :: rest => if rest.length ≤ 4 then zi_go n (pc + 3) ls rest h d kc ks else none | _ => none)
          else (match ms[r.2.2.2.1]? with
            | none => none
            | some mt => if (st.drop r.2.2.2.2.1).length ≤ 4 ∧ kc + mt.2.2.2.2.2.1 ≤ mc ∧ ks + mt.2.2.2.2.2.2 ≤ mS ∧ r.2.2.2.2.1 ≤ st.length ∧ zi_wfc h.length ls = true ∧ zi_wfl h.length (st.drop r.2.2.2.2.1) = true then
                (match (st.take r.2.2.2.2.1).reverse with
                | .ref (x + 1) :: tl => (match call r.2.2.2.1 (.ref (x + 1) :: tl) h d with
                  | none => none
                  | some os => zi_bind os (fun o => zi_go n (pc + 3) ls (o.2.1.toList ++ st.drop r.2.2.2.2.1) o.2.2 o.1 (kc + mt.2.2.2.2.2.1) (ks + mt.2.2.2.2.2.2)))
                | _ => none)
              else none)
        | .lookupswitch dflt ps => (match st with
          | .int x :: rest => if (pc : Int) + Op.lookupswitch.offset ps.toList dflt x.toInt = (((pc : Int) + Op.lookupswitch.offset ps.toList dflt x.toInt).toNat : Int) then zi_go n ((pc : Int) + Op.lookupswitch.offset ps.toList dflt x.toInt).toNat ls rest h d kc ks else none
          | _ => none)
        | .invokestatic _ => if r.2.2.2.1 = 997 then (match st with
            | .int n0 :: .int dp :: .ref (r1 + 1) :: .int sp :: .ref (r0 + 1) :: rest => if rest.length ≤ 4 then (match zi_cpy h r0 sp r1 dp n0 with
              | some h' => zi_go n (pc + 3) ls rest h' d kc ks
              | none => none) else none
            | _ => none)
          else (match ms[r.2.2.2.1]? with
            | none => none
            | some mt => if (st.drop r.2.2.2.2.1).length ≤ 4 ∧ kc + mt.2.2.2.2.2.1 ≤ mc ∧ ks + mt.2.2.2.2.2.2 ≤ mS ∧ r.2.2.2.2.1 ≤ st.length ∧ zi_wfc h.length ls = true ∧ zi_wfl h.length (st.drop r.2.2.2.2.1) = true then
                (match call r.2.2.2.1 (st.take r.2.2.2.2.1).reverse h d with
                | none => none
                | some os => zi_bind os (fun o => zi_go n (pc + 3) ls (o.2.1.toList ++ st.drop r.2.2.2.2.1) o.2.2 o.1 (kc + mt.2.2.2.2.2.1) (ks + mt.2.2.2.2.2.2)))
              else none)
        | .invokevirtual _ => (match ms[r.2.2.2.1]? with
            | none => none
            | some mt => if (st.drop r.2.2.2.2.1).length ≤ 4 ∧ kc + mt.2.2.2.2.2.1 ≤ mc ∧ ks + mt.2.2.2.2.2.2 ≤ mS ∧ r.2.2.2.2.1 ≤ st.length ∧ zi_wfc h.length ls = true ∧ zi_wfl h.length (st.drop r.2.2.2.2.1) = true then
                (match (st.take r.2.2.2.2.1).reverse with
                | .ref (x + 1) :: tl => (match h[x]? with
                  | some (t, _) => if (t : Int) = r.2.2.2.2.2.2 ∧ t < 7 then
                    (match call r.2.2.2.1 (.ref (x + 1) :: tl) h d with
                    | none => none
                    | some os => zi_bind os (fun o => zi_go n (pc + 3) ls (o.2.1.toList ++ st.drop r.2.2.2.2.1) o.2.2 o.1 (kc + mt.2.2.2.2.2.1) (ks + mt.2.2.2.2.2.2))) else none
                  | none => none)
                | _ => none)
              else none)
        | _ => match zi_new r st h with
          | some (st', h', k1, k2) => if kc + k1 ≤ mc ∧ ks + k2 ≤ mS ∧ zi_wfh h = true ∧ zi_wfc h.length ls = true ∧ zi_wfl h.length st = true then zi_go n (pc + r.2.2.1) ls st' h' d (kc + k1) (ks + k2) else none
          | none => match zi_step scr nL d r ls st h with
            | some (ls', st', h') => zi_go n (pc + r.2.2.1) ls' st' h' d kc ks
            | none => none
end ZG
/-- a method by its number, at most D calls deep, F instructions each -/
def zi_run (ms : List zi_Me) (F : Nat) : Nat → Nat → List Value → zi_Hp → zi_Dm → Option (List zi_Out)
  | 0, _, _, _, _ => none
  | D + 1, a, args, h, d => match ms[a]? with
    | none => none
    | some m => if (lg_sl args).length ≤ m.2.2.1 then zi_go ms none m.2.2.1 m.2.2.2.1 m.2.2.2.2.1 m.2.2.2.2.2.1 m.2.2.2.2.2.2 (zi_run ms F D) F 0 (lv_args 0 args) [] h d 0 0 else none
end
section
def zc_X5_init_0 : List zi_Row := [(0, .aload_n 0, 1, 0, 0, 0, 0), (1, .invokespecial 1, 3, 999, 0, 111, 0), (4, .aload_n 0, 1, 0, 0, 0, 0), (5, .bipush 10, 2, 0, 0, 0, 0), (7, .anewarray 9, 3, 10, 0, 114, 0), (10, .putfield 11, 3, 5, 0, 282, 0), (13, .aload_n 0, 1, 0, 0, 0, 0), (14, .iconst 3, 1, 0, 0, 0, 0), (15, .anewarray 15, 3, 9, 0, 116, 0), (18, .putfield 17, 3, 5, 1, 283, 0), (21, .aload_n 0, 1, 0, 0, 0, 0), (22, .new 21, 3, 1, 0, 118, 0), (25, .dup, 1, 0, 0, 0, 0), (26, .invokespecial 23, 3, 1, 1, 10000, 0), (29, .putfield 24, 3, 5, 2, 284, 0), (32, .aload_n 0, 1, 0, 0, 0, 0), (33, .new 21, 3, 1, 0, 118, 0), (36, .dup, 1, 0, 0, 0, 0), (37, .invokespecial 23, 3, 1, 1, 10000, 0), (40, .putfield 28, 3, 5, 3, 285, 0), (43, .aload_n 0, 1, 0, 0, 0, 0), (44, .new 31, 3, 3, 0, 132, 0), (47, .dup, 1, 0, 0, 0, 0), (48, .invokespecial 33, 3, 2, 1, 134, 0), (51, .putfield 34, 3, 5, 4, 286, 0), (54, .aload_n 0, 1, 0, 0, 0, 0), (55, .bipush 10, 2, 0, 0, 0, 0), (57, .newarray .boolean, 2, 0, 0, 0, 0), (59, .putfield 38, 3, 5, 5, 287, 0), (62, .aload_n 0, 1, 0, 0, 0, 0), (63, .iconst 2, 1, 0, 0, 0, 0), (64, .newarray .int, 2, 0, 0, 0, 0), (66, .putfield 42, 3, 5, 6, 288, 0), (69, .aload_n 0, 1, 0, 0, 0, 0), (70, .bipush 10, 2, 0, 0, 0, 0), (72, .newarray .int, 2, 0, 0, 0, 0), (74, .putfield 46, 3, 5, 7, 289, 0), (77, .aload_n 0, 1, 0, 0, 0, 0), (78, .new 21, 3, 1, 0, 118, 0), (81, .dup, 1, 0, 0, 0, 0)]
def zc_X5_init_1 : List zi_Row := [(82, .invokespecial 23, 3, 1, 1, 10000, 0), (85, .putfield 49, 3, 5, 8, 290, 0), (88, .iconst 0, 1, 0, 0, 0, 0), (89, .istore_n 1, 1, 0, 0, 0, 0), (90, .iload_n 1, 1, 0, 0, 0, 0), (91, .bipush 10, 2, 0, 0, 0, 0), (93, .if_icmp .ge 22, 3, 115, 0, 0, 0), (96, .aload_n 0, 1, 0, 0, 0, 0), (97, .getfield 11, 3, 5, 0, 282, 0), (100, .iload_n 1, 1, 0, 0, 0, 0), (101, .new 9, 3, 4, 0, 114, 0), (104, .dup, 1, 0, 0, 0, 0), (105, .invokespecial 52, 3, 3, 1, 10002, 0), (108, .aastore, 1, 0, 0, 0, 0), (109, .iinc 1 1, 3, 0, 0, 0, 0), (112, .goto (-22), 3, 90, 0, 0, 0), (115, .iconst 0, 1, 0, 0, 0, 0), (116, .istore_n 1, 1, 0, 0, 0, 0), (117, .iload_n 1, 1, 0, 0, 0, 0), (118, .iconst 3, 1, 0, 0, 0, 0), (119, .if_icmp .ge 22, 3, 141, 0, 0, 0), (122, .aload_n 0, 1, 0, 0, 0, 0), (123, .getfield 17, 3, 5, 1, 283, 0), (126, .iload_n 1, 1, 0, 0, 0, 0), (127, .new 15, 3, 2, 0, 116, 0), (130, .dup, 1, 0, 0, 0, 0), (131, .invokespecial 53, 3, 4, 1, 10003, 0), (134, .aastore, 1, 0, 0, 0, 0), (135, .iinc 1 1, 3, 0, 0, 0, 0), (138, .goto (-21), 3, 117, 0, 0, 0), (141, .return_, 1, 0, 0, 0, 0)]
def zc_X5_init : List zi_Row := zc_X5_init_0 ++ (zc_X5_init_1)
def zc_X1_init_0 : List zi_Row := [(0, .aload_n 0, 1, 0, 0, 0, 0), (1, .invokespecial 3, 3, 999, 0, 123, 0), (4, .aload_n 0, 1, 0, 0, 0, 0), (5, .bipush 10, 2, 0, 0, 0, 0), (7, .newarray .int, 2, 0, 0, 0, 0), (9, .putfield 9, 3, 1, 0, 124, 0), (12, .aload_n 0, 1, 0, 0, 0, 0), (13, .iconst 0, 1, 0, 0, 0, 0), (14, .putfield 15, 3, 1, 1, 125, 0), (17, .return_, 1, 0, 0, 0, 0)]
def zc_X1_init : List zi_Row := zc_X1_init_0
def zc_X3_init_0 : List zi_Row := [(0, .aload_n 0, 1, 0, 0, 0, 0), (1, .invokespecial 3, 3, 999, 0, 137, 0), (4, .aload_n 0, 1, 0, 0, 0, 0), (5, .new 9, 3, 1, 0, 138, 0), (8, .dup, 1, 0, 0, 0, 0), (9, .invokespecial 11, 3, 1, 1, 10001, 0), (12, .putfield 12, 3, 3, 0, 153, 0), (15, .aload_n 0, 1, 0, 0, 0, 0), (16, .bipush 10, 2, 0, 0, 0, 0), (18, .newarray .int, 2, 0, 0, 0, 0), (20, .putfield 18, 3, 3, 1, 154, 0), (23, .aload_n 0, 1, 0, 0, 0, 0), (24, .iconst 2, 1, 0, 0, 0, 0), (25, .bipush 10, 2, 0, 0, 0, 0), (27, .multianewarray 22 2, 4, 0, 0, 140, 0), (31, .putfield 24, 3, 3, 2, 155, 0), (34, .aload_n 0, 1, 0, 0, 0, 0), (35, .bipush 19, 2, 0, 0, 0, 0), (37, .newarray .int, 2, 0, 0, 0, 0), (39, .putfield 27, 3, 3, 3, 156, 0), (42, .aload_n 0, 1, 0, 0, 0, 0), (43, .bipush 19, 2, 0, 0, 0, 0), (45, .newarray .int, 2, 0, 0, 0, 0), (47, .putfield 30, 3, 3, 4, 157, 0), (50, .aload_n 0, 1, 0, 0, 0, 0), (51, .bipush 19, 2, 0, 0, 0, 0), (53, .newarray .int, 2, 0, 0, 0, 0), (55, .putfield 33, 3, 3, 5, 158, 0), (58, .aload_n 0, 1, 0, 0, 0, 0), (59, .bipush 19, 2, 0, 0, 0, 0), (61, .newarray .int, 2, 0, 0, 0, 0), (63, .putfield 36, 3, 3, 6, 159, 0), (66, .aload_n 0, 1, 0, 0, 0, 0), (67, .bipush 19, 2, 0, 0, 0, 0), (69, .newarray .int, 2, 0, 0, 0, 0), (71, .putfield 39, 3, 3, 7, 160, 0), (74, .aload_n 0, 1, 0, 0, 0, 0), (75, .bipush 19, 2, 0, 0, 0, 0), (77, .newarray .int, 2, 0, 0, 0, 0), (79, .putfield 42, 3, 3, 8, 161, 0)]
def zc_X3_init_1 : List zi_Row := [(82, .aload_n 0, 1, 0, 0, 0, 0), (83, .iconst (-1), 1, 0, 0, 0, 0), (84, .putfield 45, 3, 3, 9, 162, 0), (87, .aload_n 0, 1, 0, 0, 0, 0), (88, .bipush 19, 2, 0, 0, 0, 0), (90, .newarray .int, 2, 0, 0, 0, 0), (92, .putfield 49, 3, 3, 10, 163, 0), (95, .aload_n 0, 1, 0, 0, 0, 0), (96, .bipush 19, 2, 0, 0, 0, 0), (98, .newarray .int, 2, 0, 0, 0, 0), (100, .putfield 52, 3, 3, 11, 164, 0), (103, .aload_n 0, 1, 0, 0, 0, 0), (104, .iconst 0, 1, 0, 0, 0, 0), (105, .putfield 55, 3, 3, 12, 165, 0), (108, .aload_n 0, 1, 0, 0, 0, 0), (109, .iconst 2, 1, 0, 0, 0, 0), (110, .bipush 19, 2, 0, 0, 0, 0), (112, .multianewarray 22 2, 4, 0, 0, 140, 0), (116, .putfield 58, 3, 3, 13, 166, 0), (119, .aload_n 0, 1, 0, 0, 0, 0), (120, .iconst 2, 1, 0, 0, 0, 0), (121, .bipush 19, 2, 0, 0, 0, 0), (123, .multianewarray 22 2, 4, 0, 0, 140, 0), (127, .putfield 61, 3, 3, 14, 167, 0), (130, .aload_n 0, 1, 0, 0, 0, 0), (131, .iconst 2, 1, 0, 0, 0, 0), (132, .bipush 19, 2, 0, 0, 0, 0), (134, .multianewarray 22 2, 4, 0, 0, 140, 0), (138, .putfield 64, 3, 3, 15, 168, 0), (141, .aload_n 0, 1, 0, 0, 0, 0), (142, .invokevirtual 67, 3, 8, 1, 142, 3), (145, .return_, 1, 0, 0, 0, 0)]
def zc_X3_init : List zi_Row := zc_X3_init_0 ++ (zc_X3_init_1)
def zc_X4_init_0 : List zi_Row := [(0, .aload_n 0, 1, 0, 0, 0, 0), (1, .invokespecial 3, 3, 999, 0, 206, 0), (4, .aload_n 0, 1, 0, 0, 0, 0), (5, .iconst 2, 1, 0, 0, 0, 0), (6, .newarray .int, 2, 0, 0, 0, 0), (8, .putfield 9, 3, 4, 0, 207, 0), (11, .aload_n 0, 1, 0, 0, 0, 0), (12, .iconst 2, 1, 0, 0, 0, 0), (13, .newarray .int, 2, 0, 0, 0, 0), (15, .putfield 15, 3, 4, 1, 209, 0), (18, .aload_n 0, 1, 0, 0, 0, 0), (19, .iconst 0, 1, 0, 0, 0, 0), (20, .putfield 18, 3, 4, 2, 211, 0), (23, .aload_n 0, 1, 0, 0, 0, 0), (24, .iconst 0, 1, 0, 0, 0, 0), (25, .putfield 22, 3, 4, 3, 213, 0), (28, .aload_n 0, 1, 0, 0, 0, 0), (29, .iconst (-1), 1, 0, 0, 0, 0), (30, .putfield 26, 3, 4, 4, 215, 0), (33, .aload_n 0, 1, 0, 0, 0, 0), (34, .iconst (-1), 1, 0, 0, 0, 0), (35, .putfield 29, 3, 4, 5, 217, 0), (38, .return_, 1, 0, 0, 0, 0)]
def zc_X4_init : List zi_Row := zc_X4_init_0
def zc_X2_init_0 : List zi_Row := [(0, .aload_n 0, 1, 0, 0, 0, 0), (1, .invokespecial 3, 3, 999, 0, 237, 0), (4, .aload_n 0, 1, 0, 0, 0, 0), (5, .iconst 2, 1, 0, 0, 0, 0), (6, .newarray .int, 2, 0, 0, 0, 0), (8, .putfield 9, 3, 2, 0, 265, 0), (11, .aload_n 0, 1, 0, 0, 0, 0), (12, .new 15, 3, 3, 0, 238, 0), (15, .dup, 1, 0, 0, 0, 0), (16, .invokespecial 17, 3, 2, 1, 239, 0), (19, .putfield 18, 3, 2, 1, 267, 0), (22, .aload_n 0, 1, 0, 0, 0, 0), (23, .new 22, 3, 0, 0, 240, 0), (26, .dup, 1, 0, 0, 0, 0), (27, .invokespecial 24, 3, 5, 1, 10004, 0), (30, .putfield 25, 3, 2, 2, 269, 0), (33, .aload_n 0, 1, 0, 0, 0, 0), (34, .iconst 0, 1, 0, 0, 0, 0), (35, .putfield 29, 3, 2, 3, 271, 0), (38, .return_, 1, 0, 0, 0, 0)]
def zc_X2_init : List zi_Row := zc_X2_init_0
def zc_X0_init_0 : List zi_Row := [(0, .aload_n 0, 1, 0, 0, 0, 0), (1, .invokespecial 3, 3, 999, 0, 245, 0), (4, .aload_n 0, 1, 0, 0, 0, 0), (5, .new 9, 3, 3, 0, 246, 0), (8, .dup, 1, 0, 0, 0, 0), (9, .invokespecial 11, 3, 2, 1, 247, 0), (12, .putfield 12, 3, 0, 0, 249, 0), (15, .aload_n 0, 1, 0, 0, 0, 0), (16, .iconst 2, 1, 0, 0, 0, 0), (17, .bipush 10, 2, 0, 0, 0, 0), (19, .multianewarray 18 2, 4, 0, 0, 248, 0), (23, .putfield 20, 3, 0, 1, 251, 0), (26, .aload_n 0, 1, 0, 0, 0, 0), (27, .bipush 10, 2, 0, 0, 0, 0), (29, .newarray .boolean, 2, 0, 0, 0, 0), (31, .putfield 23, 3, 0, 2, 253, 0), (34, .aload_n 0, 1, 0, 0, 0, 0), (35, .iconst 0, 1, 0, 0, 0, 0), (36, .putfield 27, 3, 0, 3, 254, 0), (39, .return_, 1, 0, 0, 0, 0)]
def zc_X0_init : List zi_Row := zc_X0_init_0
def zc_X6_init_0 : List zi_Row := [(0, .aload_n 0, 1, 0, 0, 0, 0), (1, .invokespecial 1, 3, 999, 0, 878, 0), (4, .aload_n 0, 1, 0, 0, 0, 0), (5, .iconst 3, 1, 0, 0, 0, 0), (6, .newarray .int, 2, 0, 0, 0, 0), (8, .putfield 7, 3, 6, 0, 879, 0), (11, .aload_n 0, 1, 0, 0, 0, 0), (12, .iconst 3, 1, 0, 0, 0, 0), (13, .newarray .int, 2, 0, 0, 0, 0), (15, .putfield 13, 3, 6, 1, 880, 0), (18, .aload_n 0, 1, 0, 0, 0, 0), (19, .bipush 10, 2, 0, 0, 0, 0), (21, .newarray .int, 2, 0, 0, 0, 0), (23, .putfield 16, 3, 6, 2, 881, 0), (26, .aload_n 0, 1, 0, 0, 0, 0), (27, .bipush 10, 2, 0, 0, 0, 0), (29, .newarray .int, 2, 0, 0, 0, 0), (31, .putfield 19, 3, 6, 3, 882, 0), (34, .aload_n 0, 1, 0, 0, 0, 0), (35, .bipush 10, 2, 0, 0, 0, 0), (37, .newarray .int, 2, 0, 0, 0, 0), (39, .putfield 22, 3, 6, 4, 883, 0), (42, .aload_n 0, 1, 0, 0, 0, 0), (43, .bipush 10, 2, 0, 0, 0, 0), (45, .newarray .int, 2, 0, 0, 0, 0), (47, .putfield 25, 3, 6, 5, 884, 0), (50, .aload_n 0, 1, 0, 0, 0, 0), (51, .bipush 10, 2, 0, 0, 0, 0), (53, .newarray .int, 2, 0, 0, 0, 0), (55, .putfield 28, 3, 6, 6, 885, 0), (58, .aload_n 0, 1, 0, 0, 0, 0), (59, .bipush 10, 2, 0, 0, 0, 0), (61, .newarray .int, 2, 0, 0, 0, 0), (63, .putfield 31, 3, 6, 7, 886, 0), (66, .aload_n 0, 1, 0, 0, 0, 0), (67, .bipush 10, 2, 0, 0, 0, 0), (69, .newarray .int, 2, 0, 0, 0, 0), (71, .putfield 34, 3, 6, 8, 887, 0), (74, .aload_n 0, 1, 0, 0, 0, 0), (75, .bipush 10, 2, 0, 0, 0, 0)]
def zc_X6_init_1 : List zi_Row := [(77, .newarray .int, 2, 0, 0, 0, 0), (79, .putfield 37, 3, 6, 9, 888, 0), (82, .aload_n 0, 1, 0, 0, 0, 0), (83, .bipush 10, 2, 0, 0, 0, 0), (85, .newarray .int, 2, 0, 0, 0, 0), (87, .putfield 40, 3, 6, 11, 890, 0), (90, .aload_n 0, 1, 0, 0, 0, 0), (91, .bipush 7, 2, 0, 0, 0, 0), (93, .newarray .int, 2, 0, 0, 0, 0), (95, .putfield 43, 3, 6, 13, 892, 0), (98, .aload_n 0, 1, 0, 0, 0, 0), (99, .sipush 168, 3, 0, 0, 0, 0), (102, .newarray .int, 2, 0, 0, 0, 0), (104, .putfield 46, 3, 6, 14, 893, 0), (107, .aload_n 0, 1, 0, 0, 0, 0), (108, .sipush 168, 3, 0, 0, 0, 0), (111, .newarray .int, 2, 0, 0, 0, 0), (113, .putfield 49, 3, 6, 15, 894, 0), (116, .aload_n 0, 1, 0, 0, 0, 0), (117, .sipush 168, 3, 0, 0, 0, 0), (120, .newarray .int, 2, 0, 0, 0, 0), (122, .putfield 52, 3, 6, 16, 895, 0), (125, .aload_n 0, 1, 0, 0, 0, 0), (126, .sipush 168, 3, 0, 0, 0, 0), (129, .newarray .int, 2, 0, 0, 0, 0), (131, .putfield 55, 3, 6, 17, 896, 0), (134, .aload_n 0, 1, 0, 0, 0, 0), (135, .sipush 1680, 3, 0, 0, 0, 0), (138, .newarray .int, 2, 0, 0, 0, 0), (140, .putfield 58, 3, 6, 18, 897, 0), (143, .aload_n 0, 1, 0, 0, 0, 0), (144, .sipush 168, 3, 0, 0, 0, 0), (147, .newarray .int, 2, 0, 0, 0, 0), (149, .putfield 61, 3, 6, 19, 898, 0), (152, .aload_n 0, 1, 0, 0, 0, 0), (153, .sipush 168, 3, 0, 0, 0, 0), (156, .newarray .int, 2, 0, 0, 0, 0), (158, .putfield 64, 3, 6, 20, 899, 0), (161, .aload_n 0, 1, 0, 0, 0, 0), (162, .iconst 3, 1, 0, 0, 0, 0)]
def zc_X6_init_2 : List zi_Row := [(163, .newarray .boolean, 2, 0, 0, 0, 0), (165, .putfield 67, 3, 6, 21, 900, 0), (168, .aload_n 0, 1, 0, 0, 0, 0), (169, .bipush 30, 2, 0, 0, 0, 0), (171, .newarray .boolean, 2, 0, 0, 0, 0), (173, .putfield 71, 3, 6, 22, 901, 0), (176, .aload_n 0, 1, 0, 0, 0, 0), (177, .bipush 30, 2, 0, 0, 0, 0), (179, .newarray .int, 2, 0, 0, 0, 0), (181, .putfield 74, 3, 6, 23, 902, 0), (184, .aload_n 0, 1, 0, 0, 0, 0), (185, .bipush 30, 2, 0, 0, 0, 0), (187, .newarray .int, 2, 0, 0, 0, 0), (189, .putfield 77, 3, 6, 24, 903, 0), (192, .aload_n 0, 1, 0, 0, 0, 0), (193, .bipush 24, 2, 0, 0, 0, 0), (195, .newarray .int, 2, 0, 0, 0, 0), (197, .putfield 80, 3, 6, 25, 904, 0), (200, .aload_n 0, 1, 0, 0, 0, 0), (201, .bipush 24, 2, 0, 0, 0, 0), (203, .newarray .int, 2, 0, 0, 0, 0), (205, .putfield 83, 3, 6, 26, 905, 0), (208, .aload_n 0, 1, 0, 0, 0, 0), (209, .bipush 24, 2, 0, 0, 0, 0), (211, .newarray .int, 2, 0, 0, 0, 0), (213, .putfield 86, 3, 6, 27, 906, 0), (216, .aload_n 0, 1, 0, 0, 0, 0), (217, .bipush 24, 2, 0, 0, 0, 0), (219, .newarray .int, 2, 0, 0, 0, 0), (221, .putfield 89, 3, 6, 28, 907, 0), (224, .aload_n 0, 1, 0, 0, 0, 0), (225, .bipush 24, 2, 0, 0, 0, 0), (227, .newarray .int, 2, 0, 0, 0, 0), (229, .putfield 92, 3, 6, 29, 908, 0), (232, .aload_n 0, 1, 0, 0, 0, 0), (233, .bipush 10, 2, 0, 0, 0, 0), (235, .newarray .boolean, 2, 0, 0, 0, 0), (237, .putfield 95, 3, 6, 31, 910, 0), (240, .aload_n 0, 1, 0, 0, 0, 0), (241, .bipush 10, 2, 0, 0, 0, 0)]
def zc_X6_init_3 : List zi_Row := [(243, .newarray .int, 2, 0, 0, 0, 0), (245, .putfield 98, 3, 6, 32, 911, 0), (248, .iconst 0, 1, 0, 0, 0, 0), (249, .istore_n 1, 1, 0, 0, 0, 0), (250, .iload_n 1, 1, 0, 0, 0, 0), (251, .bipush 7, 2, 0, 0, 0, 0), (253, .if_icmp .ge 16, 3, 269, 0, 0, 0), (256, .aload_n 0, 1, 0, 0, 0, 0), (257, .getfield 43, 3, 6, 13, 892, 0), (260, .iload_n 1, 1, 0, 0, 0, 0), (261, .iconst (-1), 1, 0, 0, 0, 0), (262, .iastore, 1, 0, 0, 0, 0), (263, .iinc 1 1, 3, 0, 0, 0, 0), (266, .goto (-16), 3, 250, 0, 0, 0), (269, .return_, 1, 0, 0, 0, 0)]
def zc_X6_init : List zi_Row := zc_X6_init_0 ++ (zc_X6_init_1 ++ (zc_X6_init_2 ++ (zc_X6_init_3)))
def zc_X1_clear_0 : List zi_Row := [(0, .aload_n 0, 1, 0, 0, 0, 0), (1, .iconst 0, 1, 0, 0, 0, 0), (2, .putfield 15, 3, 1, 1, 125, 0), (5, .return_, 1, 0, 0, 0, 0)]
def zc_X1_clear : List zi_Row := zc_X1_clear_0
def zc_X3_clear_0 : List zi_Row := [(0, .aload_n 0, 1, 0, 0, 0, 0), (1, .getfield 12, 3, 3, 0, 153, 0), (4, .invokevirtual 70, 3, 7, 1, 146, 1), (7, .aload_n 0, 1, 0, 0, 0, 0), (8, .getfield 18, 3, 3, 1, 154, 0), (11, .iconst (-1), 1, 0, 0, 0, 0), (12, .invokestatic 71, 3, 9, 2, 150, 0), (15, .aload_n 0, 1, 0, 0, 0, 0), (16, .getfield 27, 3, 3, 3, 156, 0), (19, .iconst 3, 1, 0, 0, 0, 0), (20, .invokestatic 71, 3, 9, 2, 150, 0), (23, .aload_n 0, 1, 0, 0, 0, 0), (24, .iconst (-1), 1, 0, 0, 0, 0), (25, .putfield 45, 3, 3, 9, 162, 0), (28, .aload_n 0, 1, 0, 0, 0, 0), (29, .iconst 0, 1, 0, 0, 0, 0), (30, .putfield 55, 3, 3, 12, 165, 0), (33, .return_, 1, 0, 0, 0, 0)]
def zc_X3_clear : List zi_Row := zc_X3_clear_0
def zc_J7_fill_53178_0 : List zi_Row := [(0, .iconst 0, 1, 0, 0, 0, 0), (1, .istore_n 2, 1, 0, 0, 0, 0), (2, .aload_n 0, 1, 0, 0, 0, 0), (3, .arraylength, 1, 0, 0, 0, 0), (4, .istore_n 3, 1, 0, 0, 0, 0), (5, .iload_n 2, 1, 0, 0, 0, 0), (6, .iload_n 3, 1, 0, 0, 0, 0), (7, .if_icmp .ge 13, 3, 20, 0, 0, 0), (10, .aload_n 0, 1, 0, 0, 0, 0), (11, .iload_n 2, 1, 0, 0, 0, 0), (12, .iload_n 1, 1, 0, 0, 0, 0), (13, .iastore, 1, 0, 0, 0, 0), (14, .iinc 2 1, 3, 0, 0, 0, 0), (17, .goto (-12), 3, 5, 0, 0, 0), (20, .return_, 1, 0, 0, 0, 0)]
def zc_J7_fill_53178 : List zi_Row := zc_J7_fill_53178_0
def zc_X5_screen_0 : List zi_Row := [(0, .iload_n 1, 1, 0, 0, 0, 0), (1, .invokestatic 54, 3, 29, 1, 314, 0), (4, .ifCond .eq 17, 3, 21, 0, 0, 0), (7, .iload_n 2, 1, 0, 0, 0, 0), (8, .invokestatic 58, 3, 30, 1, 317, 0), (11, .ifCond .eq 10, 3, 21, 0, 0, 0), (14, .iload_n 3, 1, 0, 0, 0, 0), (15, .invokestatic 58, 3, 30, 1, 317, 0), (18, .ifCond .ne 6, 3, 24, 0, 0, 0), (21, .ldc 61, 2, 0, 0, 320, (-1000000001)), (23, .ireturn, 1, 0, 0, 0, 0), (24, .aload_n 0, 1, 0, 0, 0, 0), (25, .getfield 42, 3, 5, 6, 288, 0), (28, .iconst 0, 1, 0, 0, 0, 0), (29, .iload_n 2, 1, 0, 0, 0, 0), (30, .iastore, 1, 0, 0, 0, 0), (31, .aload_n 0, 1, 0, 0, 0, 0), (32, .getfield 42, 3, 5, 6, 288, 0), (35, .iconst 1, 1, 0, 0, 0, 0), (36, .iload_n 3, 1, 0, 0, 0, 0), (37, .iastore, 1, 0, 0, 0, 0), (38, .aload_n 0, 1, 0, 0, 0, 0), (39, .getfield 17, 3, 5, 1, 283, 0), (42, .iload_n 1, 1, 0, 0, 0, 0), (43, .aaload, 1, 0, 0, 0, 0), (44, .astore 4, 2, 0, 0, 0, 0), (46, .aload 4, 2, 0, 0, 0, 0), (48, .getfield 62, 3, 2, 3, 272, 0), (51, .ifCond .ne 36, 3, 87, 0, 0, 0), (54, .aload 4, 2, 0, 0, 0, 0), (56, .iconst 1, 1, 0, 0, 0, 0), (57, .putfield 62, 3, 2, 3, 272, 0), (60, .aload 4, 2, 0, 0, 0, 0), (62, .aload_n 0, 1, 0, 0, 0, 0), (63, .getfield 42, 3, 5, 6, 288, 0), (66, .invokevirtual 66, 3, 46, 2, 321, 2), (69, .aload_n 0, 1, 0, 0, 0, 0), (70, .iload_n 1, 1, 0, 0, 0, 0), (71, .invokevirtual 70, 3, 43, 2, 325, 5), (74, .istore 5, 2, 0, 0, 0, 0)]
def zc_X5_screen_1 : List zi_Row := [(76, .aload 4, 2, 0, 0, 0, 0), (78, .getfield 74, 3, 2, 2, 270, 0), (81, .invokevirtual 78, 3, 47, 1, 473, 0), (84, .iload 5, 2, 0, 0, 0, 0), (86, .ireturn, 1, 0, 0, 0, 0), (87, .aload 4, 2, 0, 0, 0, 0), (89, .getfield 83, 3, 2, 1, 268, 0), (92, .aload_n 0, 1, 0, 0, 0, 0), (93, .getfield 42, 3, 5, 6, 288, 0), (96, .invokevirtual 86, 3, 92, 2, 329, 3), (99, .ifCond .eq 15, 3, 114, 0, 0, 0), (102, .aload_n 0, 1, 0, 0, 0, 0), (103, .iload_n 1, 1, 0, 0, 0, 0), (104, .aload_n 0, 1, 0, 0, 0, 0), (105, .getfield 42, 3, 5, 6, 288, 0), (108, .invokevirtual 90, 3, 136, 3, 477, 5), (111, .ifCond .ne 6, 3, 117, 0, 0, 0), (114, .ldc 94, 2, 0, 0, 489, (-1000000002)), (116, .ireturn, 1, 0, 0, 0, 0), (117, .aload 4, 2, 0, 0, 0, 0), (119, .aload_n 0, 1, 0, 0, 0, 0), (120, .getfield 42, 3, 5, 6, 288, 0), (123, .invokevirtual 66, 3, 46, 2, 321, 2), (126, .aload_n 0, 1, 0, 0, 0, 0), (127, .iload_n 1, 1, 0, 0, 0, 0), (128, .iload_n 1, 1, 0, 0, 0, 0), (129, .invokevirtual 95, 3, 137, 3, 490, 5), (132, .iconst 0, 1, 0, 0, 0, 0), (133, .ireturn, 1, 0, 0, 0, 0)]
def zc_X5_screen : List zi_Row := zc_X5_screen_0 ++ (zc_X5_screen_1)
def zc_X5_gone_0 : List zi_Row := [(0, .iload_n 1, 1, 0, 0, 0, 0), (1, .invokestatic 54, 3, 29, 1, 314, 0), (4, .ifCond .ne 6, 3, 10, 0, 0, 0), (7, .ldc 61, 2, 0, 0, 320, (-1000000001)), (9, .ireturn, 1, 0, 0, 0, 0), (10, .aload_n 0, 1, 0, 0, 0, 0), (11, .iload_n 1, 1, 0, 0, 0, 0), (12, .invokevirtual 99, 3, 37, 2, 499, 5), (15, .istore_n 2, 1, 0, 0, 0, 0), (16, .aload_n 0, 1, 0, 0, 0, 0), (17, .getfield 17, 3, 5, 1, 283, 0), (20, .iload_n 1, 1, 0, 0, 0, 0), (21, .aaload, 1, 0, 0, 0, 0), (22, .getfield 62, 3, 2, 3, 272, 0), (25, .ifCond .eq 7, 3, 32, 0, 0, 0), (28, .iload_n 2, 1, 0, 0, 0, 0), (29, .ifCond .ge 6, 3, 35, 0, 0, 0), (32, .ldc 94, 2, 0, 0, 489, (-1000000002)), (34, .ireturn, 1, 0, 0, 0, 0), (35, .aload_n 0, 1, 0, 0, 0, 0), (36, .getfield 17, 3, 5, 1, 283, 0), (39, .iload_n 1, 1, 0, 0, 0, 0), (40, .aaload, 1, 0, 0, 0, 0), (41, .astore_n 3, 1, 0, 0, 0, 0), (42, .aload_n 0, 1, 0, 0, 0, 0), (43, .getfield 34, 3, 5, 4, 286, 0), (46, .aload_n 0, 1, 0, 0, 0, 0), (47, .getfield 17, 3, 5, 1, 283, 0), (50, .iload_n 2, 1, 0, 0, 0, 0), (51, .aaload, 1, 0, 0, 0, 0), (52, .getfield 83, 3, 2, 1, 268, 0), (55, .invokevirtual 102, 3, 82, 2, 453, 3), (58, .aload_n 0, 1, 0, 0, 0, 0), (59, .getfield 34, 3, 5, 4, 286, 0), (62, .aload_n 3, 1, 0, 0, 0, 0), (63, .getfield 83, 3, 2, 1, 268, 0), (66, .invokevirtual 106, 3, 97, 2, 503, 3), (69, .aload_n 0, 1, 0, 0, 0, 0), (70, .getfield 34, 3, 5, 4, 286, 0), (73, .aload_n 0, 1, 0, 0, 0, 0)]
def zc_X5_gone_1 : List zi_Row := [(74, .getfield 17, 3, 5, 1, 283, 0), (77, .iload_n 2, 1, 0, 0, 0, 0), (78, .aaload, 1, 0, 0, 0, 0), (79, .getfield 109, 3, 2, 0, 266, 0), (82, .invokevirtual 86, 3, 92, 2, 329, 3), (85, .ifCond .eq 20, 3, 105, 0, 0, 0), (88, .aload_n 0, 1, 0, 0, 0, 0), (89, .iload_n 1, 1, 0, 0, 0, 0), (90, .aload_n 0, 1, 0, 0, 0, 0), (91, .getfield 17, 3, 5, 1, 283, 0), (94, .iload_n 2, 1, 0, 0, 0, 0), (95, .aaload, 1, 0, 0, 0, 0), (96, .getfield 109, 3, 2, 0, 266, 0), (99, .invokevirtual 90, 3, 136, 3, 477, 5), (102, .ifCond .ne 6, 3, 108, 0, 0, 0), (105, .ldc 94, 2, 0, 0, 489, (-1000000002)), (107, .ireturn, 1, 0, 0, 0, 0), (108, .aload_n 0, 1, 0, 0, 0, 0), (109, .iload_n 1, 1, 0, 0, 0, 0), (110, .invokevirtual 112, 3, 135, 2, 540, 5), (113, .istore 4, 2, 0, 0, 0, 0), (115, .aload_n 0, 1, 0, 0, 0, 0), (116, .iload_n 1, 1, 0, 0, 0, 0), (117, .invokevirtual 115, 3, 161, 2, 544, 5), (120, .aload_n 0, 1, 0, 0, 0, 0), (121, .iload_n 1, 1, 0, 0, 0, 0), (122, .iload_n 2, 1, 0, 0, 0, 0), (123, .invokevirtual 95, 3, 137, 3, 490, 5), (126, .aload_n 0, 1, 0, 0, 0, 0), (127, .getfield 17, 3, 5, 1, 283, 0), (130, .iload_n 2, 1, 0, 0, 0, 0), (131, .aaload, 1, 0, 0, 0, 0), (132, .getfield 83, 3, 2, 1, 268, 0), (135, .aload_n 0, 1, 0, 0, 0, 0), (136, .getfield 34, 3, 5, 4, 286, 0), (139, .invokevirtual 102, 3, 82, 2, 453, 3), (142, .aload_n 3, 1, 0, 0, 0, 0), (143, .getfield 83, 3, 2, 1, 268, 0), (146, .invokevirtual 119, 3, 8, 1, 552, 3), (149, .aload_n 3, 1, 0, 0, 0, 0)]
def zc_X5_gone_2 : List zi_Row := [(150, .iconst 0, 1, 0, 0, 0, 0), (151, .putfield 62, 3, 2, 3, 272, 0), (154, .iload 4, 2, 0, 0, 0, 0), (156, .ireturn, 1, 0, 0, 0, 0)]
def zc_X5_gone : List zi_Row := zc_X5_gone_0 ++ (zc_X5_gone_1 ++ (zc_X5_gone_2))
def zc_X5_open_0 : List zi_Row := [(0, .iload_n 1, 1, 0, 0, 0, 0), (1, .iconst 3, 1, 0, 0, 0, 0), (2, .if_icmp .ne 12, 3, 14, 0, 0, 0), (5, .aload_n 0, 1, 0, 0, 0, 0), (6, .iload 4, 2, 0, 0, 0, 0), (8, .invokevirtual 122, 3, 35, 2, 349, 5), (11, .goto 14, 3, 25, 0, 0, 0), (14, .iload 4, 2, 0, 0, 0, 0), (16, .iconst (-1), 1, 0, 0, 0, 0), (17, .if_icmp .ne 7, 3, 24, 0, 0, 0), (20, .iconst 1, 1, 0, 0, 0, 0), (21, .goto 4, 3, 25, 0, 0, 0), (24, .iconst 0, 1, 0, 0, 0, 0), (25, .istore 5, 2, 0, 0, 0, 0), (27, .iload_n 1, 1, 0, 0, 0, 0), (28, .iconst 1, 1, 0, 0, 0, 0), (29, .if_icmp .lt 27, 3, 56, 0, 0, 0), (32, .iload_n 1, 1, 0, 0, 0, 0), (33, .iconst 4, 1, 0, 0, 0, 0), (34, .if_icmp .gt 22, 3, 56, 0, 0, 0), (37, .iload_n 2, 1, 0, 0, 0, 0), (38, .invokestatic 125, 3, 31, 1, 557, 0), (41, .ifCond .eq 15, 3, 56, 0, 0, 0), (44, .iload_n 3, 1, 0, 0, 0, 0), (45, .invokestatic 125, 3, 31, 1, 557, 0), (48, .ifCond .eq 8, 3, 56, 0, 0, 0), (51, .iload 5, 2, 0, 0, 0, 0), (53, .ifCond .ne 6, 3, 59, 0, 0, 0), (56, .ldc 61, 2, 0, 0, 320, (-1000000001)), (58, .ireturn, 1, 0, 0, 0, 0), (59, .aload_n 0, 1, 0, 0, 0, 0), (60, .invokevirtual 128, 3, 42, 1, 560, 5), (63, .istore 6, 2, 0, 0, 0, 0), (65, .iload 6, 2, 0, 0, 0, 0), (67, .ifCond .ge 6, 3, 73, 0, 0, 0), (70, .ldc 132, 2, 0, 0, 564, (-1000000003)), (72, .ireturn, 1, 0, 0, 0, 0), (73, .iload_n 1, 1, 0, 0, 0, 0), (74, .iconst 3, 1, 0, 0, 0, 0), (75, .if_icmp .ne 19, 3, 94, 0, 0, 0)]
def zc_X5_open_1 : List zi_Row := [(78, .aload_n 0, 1, 0, 0, 0, 0), (79, .getfield 11, 3, 5, 0, 282, 0), (82, .iload 4, 2, 0, 0, 0, 0), (84, .aaload, 1, 0, 0, 0, 0), (85, .invokevirtual 133, 3, 124, 1, 565, 4), (88, .ifCond .eq 6, 3, 94, 0, 0, 0), (91, .ldc 94, 2, 0, 0, 489, (-1000000002)), (93, .ireturn, 1, 0, 0, 0, 0), (94, .iload_n 1, 1, 0, 0, 0, 0), (95, .iconst 3, 1, 0, 0, 0, 0), (96, .if_icmp .ne 16, 3, 112, 0, 0, 0), (99, .aload_n 0, 1, 0, 0, 0, 0), (100, .getfield 11, 3, 5, 0, 282, 0), (103, .iload 4, 2, 0, 0, 0, 0), (105, .aaload, 1, 0, 0, 0, 0), (106, .getfield 137, 3, 4, 5, 218, 0), (109, .goto 7, 3, 116, 0, 0, 0), (112, .aload_n 0, 1, 0, 0, 0, 0), (113, .invokevirtual 141, 3, 38, 1, 569, 5), (116, .istore 7, 2, 0, 0, 0, 0), (118, .iload 7, 2, 0, 0, 0, 0), (120, .ifCond .ge 6, 3, 126, 0, 0, 0), (123, .ldc 94, 2, 0, 0, 489, (-1000000002)), (125, .ireturn, 1, 0, 0, 0, 0), (126, .aload_n 0, 1, 0, 0, 0, 0), (127, .invokevirtual 144, 3, 139, 1, 575, 5), (130, .aload_n 0, 1, 0, 0, 0, 0), (131, .getfield 11, 3, 5, 0, 282, 0), (134, .iload 6, 2, 0, 0, 0, 0), (136, .aaload, 1, 0, 0, 0, 0), (137, .iload_n 1, 1, 0, 0, 0, 0), (138, .iload_n 2, 1, 0, 0, 0, 0), (139, .iload_n 3, 1, 0, 0, 0, 0), (140, .iload 4, 2, 0, 0, 0, 0), (142, .invokevirtual 147, 3, 121, 5, 592, 4), (145, .aload_n 0, 1, 0, 0, 0, 0), (146, .iload 6, 2, 0, 0, 0, 0), (148, .iload 7, 2, 0, 0, 0, 0), (150, .invokevirtual 151, 3, 142, 3, 596, 5), (153, .ifCond .ne 6, 3, 159, 0, 0, 0)]
def zc_X5_open_2 : List zi_Row := [(156, .ldc 94, 2, 0, 0, 489, (-1000000002)), (158, .ireturn, 1, 0, 0, 0, 0), (159, .aload_n 0, 1, 0, 0, 0, 0), (160, .getfield 11, 3, 5, 0, 282, 0), (163, .iload 6, 2, 0, 0, 0, 0), (165, .aaload, 1, 0, 0, 0, 0), (166, .iconst 1, 1, 0, 0, 0, 0), (167, .putfield 155, 3, 4, 2, 212, 0), (170, .aload_n 0, 1, 0, 0, 0, 0), (171, .iload 6, 2, 0, 0, 0, 0), (173, .invokevirtual 156, 3, 149, 2, 651, 5), (176, .iload 6, 2, 0, 0, 0, 0), (178, .ireturn, 1, 0, 0, 0, 0)]
def zc_X5_open : List zi_Row := zc_X5_open_0 ++ (zc_X5_open_1 ++ (zc_X5_open_2))
def zc_X5_close_0 : List zi_Row := [(0, .aload_n 0, 1, 0, 0, 0, 0), (1, .iload_n 1, 1, 0, 0, 0, 0), (2, .invokevirtual 122, 3, 35, 2, 349, 5), (5, .ifCond .ne 6, 3, 11, 0, 0, 0), (8, .ldc 61, 2, 0, 0, 320, (-1000000001)), (10, .ireturn, 1, 0, 0, 0, 0), (11, .aload_n 0, 1, 0, 0, 0, 0), (12, .iload_n 1, 1, 0, 0, 0, 0), (13, .invokevirtual 159, 3, 157, 2, 686, 5), (16, .iconst 0, 1, 0, 0, 0, 0), (17, .istore_n 2, 1, 0, 0, 0, 0), (18, .iconst 0, 1, 0, 0, 0, 0), (19, .istore_n 3, 1, 0, 0, 0, 0), (20, .iload_n 3, 1, 0, 0, 0, 0), (21, .bipush 10, 2, 0, 0, 0, 0), (23, .if_icmp .ge 26, 3, 49, 0, 0, 0), (26, .aload_n 0, 1, 0, 0, 0, 0), (27, .getfield 38, 3, 5, 5, 287, 0), (30, .iload_n 3, 1, 0, 0, 0, 0), (31, .baload, 1, 0, 0, 0, 0), (32, .ifCond .eq 11, 3, 43, 0, 0, 0), (35, .aload_n 0, 1, 0, 0, 0, 0), (36, .iload_n 3, 1, 0, 0, 0, 0), (37, .invokevirtual 162, 3, 148, 2, 690, 5), (40, .iinc 2 1, 3, 0, 0, 0, 0), (43, .iinc 3 1, 3, 0, 0, 0, 0), (46, .goto (-26), 3, 20, 0, 0, 0), (49, .iload_n 2, 1, 0, 0, 0, 0), (50, .ireturn, 1, 0, 0, 0, 0)]
def zc_X5_close : List zi_Row := zc_X5_close_0
def zc_X5_focus_0 : List zi_Row := [(0, .aload_n 0, 1, 0, 0, 0, 0), (1, .iload_n 1, 1, 0, 0, 0, 0), (2, .invokevirtual 122, 3, 35, 2, 349, 5), (5, .ifCond .ne 6, 3, 11, 0, 0, 0), (8, .ldc 61, 2, 0, 0, 320, (-1000000001)), (10, .ireturn, 1, 0, 0, 0, 0), (11, .aload_n 0, 1, 0, 0, 0, 0), (12, .getfield 24, 3, 5, 2, 284, 0), (15, .iconst 0, 1, 0, 0, 0, 0), (16, .invokevirtual 165, 3, 45, 2, 574, 1), (19, .istore_n 2, 1, 0, 0, 0, 0), (20, .aload_n 0, 1, 0, 0, 0, 0), (21, .iload_n 1, 1, 0, 0, 0, 0), (22, .invokevirtual 156, 3, 149, 2, 651, 5), (25, .iload_n 2, 1, 0, 0, 0, 0), (26, .ireturn, 1, 0, 0, 0, 0)]
def zc_X5_focus : List zi_Row := zc_X5_focus_0
def zc_X5_back_0 : List zi_Row := [(0, .aload_n 0, 1, 0, 0, 0, 0), (1, .getfield 24, 3, 5, 2, 284, 0), (4, .invokevirtual 168, 3, 44, 1, 573, 1), (7, .iconst 2, 1, 0, 0, 0, 0), (8, .if_icmp .ge 6, 3, 14, 0, 0, 0), (11, .ldc 94, 2, 0, 0, 489, (-1000000002)), (13, .ireturn, 1, 0, 0, 0, 0), (14, .aload_n 0, 1, 0, 0, 0, 0), (15, .getfield 24, 3, 5, 2, 284, 0), (18, .iconst 1, 1, 0, 0, 0, 0), (19, .invokevirtual 165, 3, 45, 2, 574, 1), (22, .istore_n 1, 1, 0, 0, 0, 0), (23, .aload_n 0, 1, 0, 0, 0, 0), (24, .iload_n 1, 1, 0, 0, 0, 0), (25, .invokevirtual 156, 3, 149, 2, 651, 5), (28, .iload_n 1, 1, 0, 0, 0, 0), (29, .ireturn, 1, 0, 0, 0, 0)]
def zc_X5_back : List zi_Row := zc_X5_back_0
def zc_X5_toward_0 : List zi_Row := [(0, .iload_n 1, 1, 0, 0, 0, 0), (1, .invokestatic 170, 3, 32, 1, 707, 0), (4, .ifCond .ne 6, 3, 10, 0, 0, 0), (7, .ldc 61, 2, 0, 0, 320, (-1000000001)), (9, .ireturn, 1, 0, 0, 0, 0), (10, .aload_n 0, 1, 0, 0, 0, 0), (11, .getfield 24, 3, 5, 2, 284, 0), (14, .iconst 0, 1, 0, 0, 0, 0), (15, .invokevirtual 165, 3, 45, 2, 574, 1), (18, .istore_n 2, 1, 0, 0, 0, 0), (19, .aload_n 0, 1, 0, 0, 0, 0), (20, .iload_n 2, 1, 0, 0, 0, 0), (21, .invokevirtual 173, 3, 36, 2, 710, 5), (24, .ifCond .ne 6, 3, 30, 0, 0, 0), (27, .ldc 94, 2, 0, 0, 489, (-1000000002)), (29, .ireturn, 1, 0, 0, 0, 0), (30, .aload_n 0, 1, 0, 0, 0, 0), (31, .invokevirtual 144, 3, 139, 1, 575, 5), (34, .aload_n 0, 1, 0, 0, 0, 0), (35, .iload_n 2, 1, 0, 0, 0, 0), (36, .invokevirtual 176, 3, 138, 2, 373, 5), (39, .iload_n 2, 1, 0, 0, 0, 0), (40, .iload_n 1, 1, 0, 0, 0, 0), (41, .invokevirtual 180, 3, 118, 3, 718, 3), (44, .istore_n 3, 1, 0, 0, 0, 0), (45, .aload_n 0, 1, 0, 0, 0, 0), (46, .iload_n 3, 1, 0, 0, 0, 0), (47, .invokevirtual 122, 3, 35, 2, 349, 5), (50, .ifCond .eq 8, 3, 58, 0, 0, 0), (53, .aload_n 0, 1, 0, 0, 0, 0), (54, .iload_n 3, 1, 0, 0, 0, 0), (55, .invokevirtual 156, 3, 149, 2, 651, 5), (58, .iload_n 3, 1, 0, 0, 0, 0), (59, .ireturn, 1, 0, 0, 0, 0)]
def zc_X5_toward : List zi_Row := zc_X5_toward_0
def zc_X5_steps_0 : List zi_Row := [(0, .aload_n 0, 1, 0, 0, 0, 0), (1, .iload_n 1, 1, 0, 0, 0, 0), (2, .invokevirtual 122, 3, 35, 2, 349, 5), (5, .ifCond .eq 11, 3, 16, 0, 0, 0), (8, .aload_n 0, 1, 0, 0, 0, 0), (9, .iload_n 2, 1, 0, 0, 0, 0), (10, .invokevirtual 122, 3, 35, 2, 349, 5), (13, .ifCond .ne 6, 3, 19, 0, 0, 0), (16, .ldc 61, 2, 0, 0, 320, (-1000000001)), (18, .ireturn, 1, 0, 0, 0, 0), (19, .aload_n 0, 1, 0, 0, 0, 0), (20, .iload_n 1, 1, 0, 0, 0, 0), (21, .invokevirtual 173, 3, 36, 2, 710, 5), (24, .ifCond .eq 11, 3, 35, 0, 0, 0), (27, .aload_n 0, 1, 0, 0, 0, 0), (28, .iload_n 2, 1, 0, 0, 0, 0), (29, .invokevirtual 173, 3, 36, 2, 710, 5), (32, .ifCond .ne 6, 3, 38, 0, 0, 0), (35, .ldc 94, 2, 0, 0, 489, (-1000000002)), (37, .ireturn, 1, 0, 0, 0, 0), (38, .aload_n 0, 1, 0, 0, 0, 0), (39, .invokevirtual 144, 3, 139, 1, 575, 5), (42, .aload_n 0, 1, 0, 0, 0, 0), (43, .getfield 46, 3, 5, 7, 289, 0), (46, .iconst (-1), 1, 0, 0, 0, 0), (47, .invokestatic 184, 3, 9, 2, 748, 0), (50, .aload_n 0, 1, 0, 0, 0, 0), (51, .getfield 46, 3, 5, 7, 289, 0), (54, .iload_n 1, 1, 0, 0, 0, 0), (55, .iconst 0, 1, 0, 0, 0, 0), (56, .iastore, 1, 0, 0, 0, 0), (57, .aload_n 0, 1, 0, 0, 0, 0), (58, .getfield 49, 3, 5, 8, 290, 0), (61, .invokevirtual 190, 3, 7, 1, 749, 1), (64, .aload_n 0, 1, 0, 0, 0, 0), (65, .getfield 49, 3, 5, 8, 290, 0), (68, .iload_n 1, 1, 0, 0, 0, 0), (69, .invokevirtual 191, 3, 77, 2, 750, 1), (72, .iconst 0, 1, 0, 0, 0, 0), (73, .istore_n 3, 1, 0, 0, 0, 0)]
def zc_X5_steps_1 : List zi_Row := [(74, .iload_n 3, 1, 0, 0, 0, 0), (75, .bipush 10, 2, 0, 0, 0, 0), (77, .if_icmp .ge 32, 3, 109, 0, 0, 0), (80, .iload_n 3, 1, 0, 0, 0, 0), (81, .aload_n 0, 1, 0, 0, 0, 0), (82, .getfield 49, 3, 5, 8, 290, 0), (85, .invokevirtual 168, 3, 44, 1, 573, 1), (88, .if_icmp .ge 21, 3, 109, 0, 0, 0), (91, .aload_n 0, 1, 0, 0, 0, 0), (92, .aload_n 0, 1, 0, 0, 0, 0), (93, .getfield 49, 3, 5, 8, 290, 0), (96, .iload_n 3, 1, 0, 0, 0, 0), (97, .invokevirtual 165, 3, 45, 2, 574, 1), (100, .invokevirtual 194, 3, 153, 2, 751, 5), (103, .iinc 3 1, 3, 0, 0, 0, 0), (106, .goto (-32), 3, 74, 0, 0, 0), (109, .aload_n 0, 1, 0, 0, 0, 0), (110, .getfield 46, 3, 5, 7, 289, 0), (113, .iload_n 2, 1, 0, 0, 0, 0), (114, .iaload, 1, 0, 0, 0, 0), (115, .ifCond .ge 8, 3, 123, 0, 0, 0), (118, .ldc 197, 2, 0, 0, 755, (-1000000005)), (120, .goto 9, 3, 129, 0, 0, 0), (123, .aload_n 0, 1, 0, 0, 0, 0), (124, .getfield 46, 3, 5, 7, 289, 0), (127, .iload_n 2, 1, 0, 0, 0, 0), (128, .iaload, 1, 0, 0, 0, 0), (129, .ireturn, 1, 0, 0, 0, 0)]
def zc_X5_steps : List zi_Row := zc_X5_steps_0 ++ (zc_X5_steps_1)
def zc_X5_drag_0 : List zi_Row := [(0, .aload_n 0, 1, 0, 0, 0, 0), (1, .iload_n 1, 1, 0, 0, 0, 0), (2, .invokevirtual 122, 3, 35, 2, 349, 5), (5, .ifCond .eq 28, 3, 33, 0, 0, 0), (8, .aload_n 0, 1, 0, 0, 0, 0), (9, .iload_n 2, 1, 0, 0, 0, 0), (10, .invokevirtual 122, 3, 35, 2, 349, 5), (13, .ifCond .eq 20, 3, 33, 0, 0, 0), (16, .iload_n 1, 1, 0, 0, 0, 0), (17, .iload_n 2, 1, 0, 0, 0, 0), (18, .if_icmp .eq 15, 3, 33, 0, 0, 0), (21, .iload_n 3, 1, 0, 0, 0, 0), (22, .invokestatic 170, 3, 32, 1, 707, 0), (25, .ifCond .ne 11, 3, 36, 0, 0, 0), (28, .iload_n 3, 1, 0, 0, 0, 0), (29, .iconst 4, 1, 0, 0, 0, 0), (30, .if_icmp .eq 6, 3, 36, 0, 0, 0), (33, .ldc 61, 2, 0, 0, 320, (-1000000001)), (35, .ireturn, 1, 0, 0, 0, 0), (36, .aload_n 0, 1, 0, 0, 0, 0), (37, .getfield 11, 3, 5, 0, 282, 0), (40, .iload_n 1, 1, 0, 0, 0, 0), (41, .aaload, 1, 0, 0, 0, 0), (42, .invokevirtual 198, 3, 122, 1, 369, 4), (45, .ifCond .eq 15, 3, 60, 0, 0, 0), (48, .aload_n 0, 1, 0, 0, 0, 0), (49, .getfield 11, 3, 5, 0, 282, 0), (52, .iload_n 2, 1, 0, 0, 0, 0), (53, .aaload, 1, 0, 0, 0, 0), (54, .invokevirtual 198, 3, 122, 1, 369, 4), (57, .ifCond .ne 6, 3, 63, 0, 0, 0), (60, .ldc 94, 2, 0, 0, 489, (-1000000002)), (62, .ireturn, 1, 0, 0, 0, 0), (63, .aload_n 0, 1, 0, 0, 0, 0), (64, .getfield 11, 3, 5, 0, 282, 0), (67, .iload_n 1, 1, 0, 0, 0, 0), (68, .aaload, 1, 0, 0, 0, 0), (69, .getfield 137, 3, 4, 5, 218, 0), (72, .istore 4, 2, 0, 0, 0, 0), (74, .aload_n 0, 1, 0, 0, 0, 0)]
def zc_X5_drag_1 : List zi_Row := [(75, .getfield 11, 3, 5, 0, 282, 0), (78, .iload_n 2, 1, 0, 0, 0, 0), (79, .aaload, 1, 0, 0, 0, 0), (80, .getfield 137, 3, 4, 5, 218, 0), (83, .istore 5, 2, 0, 0, 0, 0), (85, .aload_n 0, 1, 0, 0, 0, 0), (86, .iload_n 1, 1, 0, 0, 0, 0), (87, .iload_n 2, 1, 0, 0, 0, 0), (88, .iload_n 3, 1, 0, 0, 0, 0), (89, .invokevirtual 201, 3, 154, 4, 760, 5), (92, .aload_n 0, 1, 0, 0, 0, 0), (93, .iload_n 1, 1, 0, 0, 0, 0), (94, .invokevirtual 159, 3, 157, 2, 686, 5), (97, .aload_n 0, 1, 0, 0, 0, 0), (98, .getfield 34, 3, 5, 4, 286, 0), (101, .aload_n 0, 1, 0, 0, 0, 0), (102, .getfield 17, 3, 5, 1, 283, 0), (105, .iload 5, 2, 0, 0, 0, 0), (107, .aaload, 1, 0, 0, 0, 0), (108, .getfield 109, 3, 2, 0, 266, 0), (111, .invokevirtual 86, 3, 92, 2, 329, 3), (114, .ifCond .eq 19, 3, 133, 0, 0, 0), (117, .iload 4, 2, 0, 0, 0, 0), (119, .iload 5, 2, 0, 0, 0, 0), (121, .if_icmp .eq 15, 3, 136, 0, 0, 0), (124, .aload_n 0, 1, 0, 0, 0, 0), (125, .iload 5, 2, 0, 0, 0, 0), (127, .invokevirtual 205, 3, 159, 2, 353, 5), (130, .ifCond .ne 6, 3, 136, 0, 0, 0), (133, .ldc 94, 2, 0, 0, 489, (-1000000002)), (135, .ireturn, 1, 0, 0, 0, 0), (136, .aload_n 0, 1, 0, 0, 0, 0), (137, .iload_n 1, 1, 0, 0, 0, 0), (138, .invokevirtual 208, 3, 162, 2, 469, 5), (141, .aload_n 0, 1, 0, 0, 0, 0), (142, .getfield 17, 3, 5, 1, 283, 0), (145, .iload 4, 2, 0, 0, 0, 0), (147, .aaload, 1, 0, 0, 0, 0), (148, .getfield 83, 3, 2, 1, 268, 0), (151, .iload_n 1, 1, 0, 0, 0, 0)]
def zc_X5_drag_2 : List zi_Row := [(152, .invokevirtual 211, 3, 99, 2, 377, 3), (155, .aload_n 0, 1, 0, 0, 0, 0), (156, .getfield 17, 3, 5, 1, 283, 0), (159, .iload 5, 2, 0, 0, 0, 0), (161, .aaload, 1, 0, 0, 0, 0), (162, .getfield 83, 3, 2, 1, 268, 0), (165, .aload_n 0, 1, 0, 0, 0, 0), (166, .getfield 34, 3, 5, 4, 286, 0), (169, .invokevirtual 102, 3, 82, 2, 453, 3), (172, .iload 4, 2, 0, 0, 0, 0), (174, .iload 5, 2, 0, 0, 0, 0), (176, .if_icmp .eq 9, 3, 185, 0, 0, 0), (179, .aload_n 0, 1, 0, 0, 0, 0), (180, .iload 5, 2, 0, 0, 0, 0), (182, .invokevirtual 214, 3, 160, 2, 429, 5), (185, .aload_n 0, 1, 0, 0, 0, 0), (186, .iload_n 1, 1, 0, 0, 0, 0), (187, .invokevirtual 156, 3, 149, 2, 651, 5), (190, .iconst 0, 1, 0, 0, 0, 0), (191, .ireturn, 1, 0, 0, 0, 0)]
def zc_X5_drag : List zi_Row := zc_X5_drag_0 ++ (zc_X5_drag_1 ++ (zc_X5_drag_2))
def zc_X5_move_0 : List zi_Row := [(0, .aload_n 0, 1, 0, 0, 0, 0), (1, .iload_n 1, 1, 0, 0, 0, 0), (2, .invokevirtual 122, 3, 35, 2, 349, 5), (5, .ifCond .eq 17, 3, 22, 0, 0, 0), (8, .iload_n 2, 1, 0, 0, 0, 0), (9, .invokestatic 217, 3, 34, 1, 770, 0), (12, .ifCond .eq 10, 3, 22, 0, 0, 0), (15, .iload_n 3, 1, 0, 0, 0, 0), (16, .invokestatic 217, 3, 34, 1, 770, 0), (19, .ifCond .ne 6, 3, 25, 0, 0, 0), (22, .ldc 61, 2, 0, 0, 320, (-1000000001)), (24, .ireturn, 1, 0, 0, 0, 0), (25, .aload_n 0, 1, 0, 0, 0, 0), (26, .getfield 11, 3, 5, 0, 282, 0), (29, .iload_n 1, 1, 0, 0, 0, 0), (30, .aaload, 1, 0, 0, 0, 0), (31, .astore 4, 2, 0, 0, 0, 0), (33, .aload 4, 2, 0, 0, 0, 0), (35, .invokevirtual 220, 3, 123, 1, 357, 4), (38, .ifCond .ne 6, 3, 44, 0, 0, 0), (41, .ldc 94, 2, 0, 0, 489, (-1000000002)), (43, .ireturn, 1, 0, 0, 0, 0), (44, .aload_n 0, 1, 0, 0, 0, 0), (45, .iload_n 1, 1, 0, 0, 0, 0), (46, .invokevirtual 208, 3, 162, 2, 469, 5), (49, .aload 4, 2, 0, 0, 0, 0), (51, .invokevirtual 133, 3, 124, 1, 565, 4), (54, .ifCond .eq 36, 3, 90, 0, 0, 0), (57, .aload 4, 2, 0, 0, 0, 0), (59, .getfield 223, 3, 4, 1, 210, 0), (62, .iconst 0, 1, 0, 0, 0, 0), (63, .iconst 0, 1, 0, 0, 0, 0), (64, .iload_n 2, 1, 0, 0, 0, 0), (65, .sipush 400, 3, 0, 0, 0, 0), (68, .invokestatic 226, 3, 133, 3, 773, 0), (71, .iastore, 1, 0, 0, 0, 0), (72, .aload 4, 2, 0, 0, 0, 0), (74, .getfield 223, 3, 4, 1, 210, 0), (77, .iconst 1, 1, 0, 0, 0, 0), (78, .iconst 0, 1, 0, 0, 0, 0)]
def zc_X5_move_1 : List zi_Row := [(79, .iload_n 3, 1, 0, 0, 0, 0), (80, .sipush 400, 3, 0, 0, 0, 0), (83, .invokestatic 226, 3, 133, 3, 773, 0), (86, .iastore, 1, 0, 0, 0, 0), (87, .goto 23, 3, 110, 0, 0, 0), (90, .aload 4, 2, 0, 0, 0, 0), (92, .iload_n 2, 1, 0, 0, 0, 0), (93, .iload_n 3, 1, 0, 0, 0, 0), (94, .aload_n 0, 1, 0, 0, 0, 0), (95, .getfield 17, 3, 5, 1, 283, 0), (98, .aload 4, 2, 0, 0, 0, 0), (100, .getfield 137, 3, 4, 5, 218, 0), (103, .aaload, 1, 0, 0, 0, 0), (104, .getfield 109, 3, 2, 0, 266, 0), (107, .invokevirtual 230, 3, 129, 4, 650, 4), (110, .iconst 0, 1, 0, 0, 0, 0), (111, .ireturn, 1, 0, 0, 0, 0)]
def zc_X5_move : List zi_Row := zc_X5_move_0 ++ (zc_X5_move_1)
def zc_X5_share_0 : List zi_Row := [(0, .aload_n 0, 1, 0, 0, 0, 0), (1, .iload_n 1, 1, 0, 0, 0, 0), (2, .invokevirtual 122, 3, 35, 2, 349, 5), (5, .ifCond .eq 22, 3, 27, 0, 0, 0), (8, .iload_n 2, 1, 0, 0, 0, 0), (9, .invokestatic 234, 3, 33, 1, 778, 0), (12, .ifCond .eq 15, 3, 27, 0, 0, 0), (15, .iload_n 3, 1, 0, 0, 0, 0), (16, .bipush 10, 2, 0, 0, 0, 0), (18, .if_icmp .lt 9, 3, 27, 0, 0, 0), (21, .iload_n 3, 1, 0, 0, 0, 0), (22, .bipush 90, 2, 0, 0, 0, 0), (24, .if_icmp .le 6, 3, 30, 0, 0, 0), (27, .ldc 61, 2, 0, 0, 320, (-1000000001)), (29, .ireturn, 1, 0, 0, 0, 0), (30, .aload_n 0, 1, 0, 0, 0, 0), (31, .getfield 11, 3, 5, 0, 282, 0), (34, .iload_n 1, 1, 0, 0, 0, 0), (35, .aaload, 1, 0, 0, 0, 0), (36, .invokevirtual 198, 3, 122, 1, 369, 4), (39, .ifCond .ne 6, 3, 45, 0, 0, 0), (42, .ldc 94, 2, 0, 0, 489, (-1000000002)), (44, .ireturn, 1, 0, 0, 0, 0), (45, .aload_n 0, 1, 0, 0, 0, 0), (46, .iload_n 1, 1, 0, 0, 0, 0), (47, .invokevirtual 176, 3, 138, 2, 373, 5), (50, .astore 4, 2, 0, 0, 0, 0), (52, .aload 4, 2, 0, 0, 0, 0), (54, .iload_n 1, 1, 0, 0, 0, 0), (55, .iload_n 2, 1, 0, 0, 0, 0), (56, .invokevirtual 237, 3, 93, 3, 781, 3), (59, .istore 5, 2, 0, 0, 0, 0), (61, .iload 5, 2, 0, 0, 0, 0), (63, .ifCond .ge 8, 3, 71, 0, 0, 0), (66, .ldc 94, 2, 0, 0, 489, (-1000000002)), (68, .goto 11, 3, 79, 0, 0, 0), (71, .aload 4, 2, 0, 0, 0, 0), (73, .iload 5, 2, 0, 0, 0, 0), (75, .iload_n 3, 1, 0, 0, 0, 0), (76, .invokevirtual 240, 3, 94, 3, 785, 3)]
def zc_X5_share_1 : List zi_Row := [(79, .ireturn, 1, 0, 0, 0, 0)]
def zc_X5_share : List zi_Row := zc_X5_share_0 ++ (zc_X5_share_1)
def zc_X5_area_0 : List zi_Row := [(0, .aload_n 0, 1, 0, 0, 0, 0), (1, .iload_n 1, 1, 0, 0, 0, 0), (2, .invokevirtual 122, 3, 35, 2, 349, 5), (5, .ifCond .ne 6, 3, 11, 0, 0, 0), (8, .ldc 61, 2, 0, 0, 320, (-1000000001)), (10, .ireturn, 1, 0, 0, 0, 0), (11, .aload_n 0, 1, 0, 0, 0, 0), (12, .invokevirtual 144, 3, 139, 1, 575, 5), (15, .iload_n 2, 1, 0, 0, 0, 0), (16, .tableswitch 81 0 4 #[36, 63, 63, 72, 72], 36, 0, 0, 0, 0), (52, .aload_n 0, 1, 0, 0, 0, 0), (53, .getfield 11, 3, 5, 0, 282, 0), (56, .iload_n 1, 1, 0, 0, 0, 0), (57, .aaload, 1, 0, 0, 0, 0), (58, .invokevirtual 133, 3, 124, 1, 565, 4), (61, .ifCond .eq 8, 3, 69, 0, 0, 0), (64, .ldc 197, 2, 0, 0, 755, (-1000000005)), (66, .goto 12, 3, 78, 0, 0, 0), (69, .aload_n 0, 1, 0, 0, 0, 0), (70, .getfield 11, 3, 5, 0, 282, 0), (73, .iload_n 1, 1, 0, 0, 0, 0), (74, .aaload, 1, 0, 0, 0, 0), (75, .getfield 137, 3, 4, 5, 218, 0), (78, .ireturn, 1, 0, 0, 0, 0), (79, .aload_n 0, 1, 0, 0, 0, 0), (80, .iload_n 1, 1, 0, 0, 0, 0), (81, .iload_n 2, 1, 0, 0, 0, 0), (82, .iconst 1, 1, 0, 0, 0, 0), (83, .isub, 1, 0, 0, 0, 0), (84, .invokevirtual 243, 3, 140, 3, 639, 5), (87, .ireturn, 1, 0, 0, 0, 0), (88, .aload_n 0, 1, 0, 0, 0, 0), (89, .iload_n 1, 1, 0, 0, 0, 0), (90, .iload_n 2, 1, 0, 0, 0, 0), (91, .iconst 3, 1, 0, 0, 0, 0), (92, .isub, 1, 0, 0, 0, 0), (93, .invokevirtual 246, 3, 141, 3, 631, 5), (96, .ireturn, 1, 0, 0, 0, 0), (97, .ldc 61, 2, 0, 0, 320, (-1000000001)), (99, .ireturn, 1, 0, 0, 0, 0)]
def zc_X5_area : List zi_Row := zc_X5_area_0
def zc_X5_about_0 : List zi_Row := [(0, .aload_n 0, 1, 0, 0, 0, 0), (1, .iload_n 1, 1, 0, 0, 0, 0), (2, .invokevirtual 122, 3, 35, 2, 349, 5), (5, .ifCond .ne 6, 3, 11, 0, 0, 0), (8, .ldc 61, 2, 0, 0, 320, (-1000000001)), (10, .ireturn, 1, 0, 0, 0, 0), (11, .aload_n 0, 1, 0, 0, 0, 0), (12, .getfield 11, 3, 5, 0, 282, 0), (15, .iload_n 1, 1, 0, 0, 0, 0), (16, .aaload, 1, 0, 0, 0, 0), (17, .astore_n 3, 1, 0, 0, 0, 0), (18, .iload_n 2, 1, 0, 0, 0, 0), (19, .tableswitch 123 0 6 #[41, 46, 46, 55, 72, 93, 102], 41, 0, 0, 0, 0), (60, .aload_n 3, 1, 0, 0, 0, 0), (61, .getfield 249, 3, 4, 3, 214, 0), (64, .ireturn, 1, 0, 0, 0, 0), (65, .aload_n 3, 1, 0, 0, 0, 0), (66, .getfield 252, 3, 4, 0, 208, 0), (69, .iload_n 2, 1, 0, 0, 0, 0), (70, .iconst 1, 1, 0, 0, 0, 0), (71, .isub, 1, 0, 0, 0, 0), (72, .iaload, 1, 0, 0, 0, 0), (73, .ireturn, 1, 0, 0, 0, 0), (74, .aload_n 3, 1, 0, 0, 0, 0), (75, .getfield 255, 3, 4, 4, 216, 0), (78, .ifCond .ge 8, 3, 86, 0, 0, 0), (81, .ldc 197, 2, 0, 0, 755, (-1000000005)), (83, .goto 7, 3, 90, 0, 0, 0), (86, .aload_n 3, 1, 0, 0, 0, 0), (87, .getfield 255, 3, 4, 4, 216, 0), (90, .ireturn, 1, 0, 0, 0, 0), (91, .aload_n 3, 1, 0, 0, 0, 0), (92, .invokevirtual 220, 3, 123, 1, 357, 4), (95, .ifCond .ne 11, 3, 106, 0, 0, 0), (98, .aload_n 0, 1, 0, 0, 0, 0), (99, .iload_n 1, 1, 0, 0, 0, 0), (100, .invokevirtual 173, 3, 36, 2, 710, 5), (103, .ifCond .eq 7, 3, 110, 0, 0, 0), (106, .iconst 1, 1, 0, 0, 0, 0), (107, .goto 4, 3, 111, 0, 0, 0)]
def zc_X5_about_1 : List zi_Row := [(110, .iconst 0, 1, 0, 0, 0, 0), (111, .ireturn, 1, 0, 0, 0, 0), (112, .aload_n 0, 1, 0, 0, 0, 0), (113, .getfield 24, 3, 5, 2, 284, 0), (116, .iload_n 1, 1, 0, 0, 0, 0), (117, .invokevirtual 258, 3, 76, 2, 797, 1), (120, .ireturn, 1, 0, 0, 0, 0), (121, .aload_n 3, 1, 0, 0, 0, 0), (122, .invokevirtual 220, 3, 123, 1, 357, 4), (125, .ifCond .eq 14, 3, 139, 0, 0, 0), (128, .aload_n 0, 1, 0, 0, 0, 0), (129, .getfield 28, 3, 5, 3, 285, 0), (132, .iload_n 1, 1, 0, 0, 0, 0), (133, .invokevirtual 258, 3, 76, 2, 797, 1), (136, .goto 5, 3, 141, 0, 0, 0), (139, .ldc 197, 2, 0, 0, 755, (-1000000005)), (141, .ireturn, 1, 0, 0, 0, 0), (142, .ldc 61, 2, 0, 0, 320, (-1000000001)), (144, .ireturn, 1, 0, 0, 0, 0)]
def zc_X5_about : List zi_Row := zc_X5_about_0 ++ (zc_X5_about_1)
def zc_X5_isOf_0 : List zi_Row := [(0, .aload_n 0, 1, 0, 0, 0, 0), (1, .iload_n 1, 1, 0, 0, 0, 0), (2, .invokevirtual 122, 3, 35, 2, 349, 5), (5, .ifCond .eq 12, 3, 17, 0, 0, 0), (8, .iload_n 2, 1, 0, 0, 0, 0), (9, .ifCond .lt 8, 3, 17, 0, 0, 0), (12, .iload_n 2, 1, 0, 0, 0, 0), (13, .iconst 4, 1, 0, 0, 0, 0), (14, .if_icmp .le 6, 3, 20, 0, 0, 0), (17, .ldc 61, 2, 0, 0, 320, (-1000000001)), (19, .ireturn, 1, 0, 0, 0, 0), (20, .aload_n 0, 1, 0, 0, 0, 0), (21, .getfield 11, 3, 5, 0, 282, 0), (24, .iload_n 1, 1, 0, 0, 0, 0), (25, .aaload, 1, 0, 0, 0, 0), (26, .iload_n 2, 1, 0, 0, 0, 0), (27, .invokevirtual 261, 3, 48, 2, 802, 4), (30, .ifCond .eq 7, 3, 37, 0, 0, 0), (33, .iconst 1, 1, 0, 0, 0, 0), (34, .goto 4, 3, 38, 0, 0, 0), (37, .iconst 0, 1, 0, 0, 0, 0), (38, .ireturn, 1, 0, 0, 0, 0)]
def zc_X5_isOf : List zi_Row := zc_X5_isOf_0
def zc_X5_at_0 : List zi_Row := [(0, .iload_n 1, 1, 0, 0, 0, 0), (1, .invokestatic 54, 3, 29, 1, 314, 0), (4, .ifCond .ne 6, 3, 10, 0, 0, 0), (7, .ldc 61, 2, 0, 0, 320, (-1000000001)), (9, .ireturn, 1, 0, 0, 0, 0), (10, .aload_n 0, 1, 0, 0, 0, 0), (11, .getfield 17, 3, 5, 1, 283, 0), (14, .iload_n 1, 1, 0, 0, 0, 0), (15, .aaload, 1, 0, 0, 0, 0), (16, .astore 4, 2, 0, 0, 0, 0), (18, .aload 4, 2, 0, 0, 0, 0), (20, .getfield 62, 3, 2, 3, 272, 0), (23, .ifCond .ne 6, 3, 29, 0, 0, 0), (26, .ldc 94, 2, 0, 0, 489, (-1000000002)), (28, .ireturn, 1, 0, 0, 0, 0), (29, .iload_n 2, 1, 0, 0, 0, 0), (30, .ifCond .lt 29, 3, 59, 0, 0, 0), (33, .iload_n 2, 1, 0, 0, 0, 0), (34, .aload 4, 2, 0, 0, 0, 0), (36, .getfield 109, 3, 2, 0, 266, 0), (39, .iconst 0, 1, 0, 0, 0, 0), (40, .iaload, 1, 0, 0, 0, 0), (41, .if_icmp .ge 18, 3, 59, 0, 0, 0), (44, .iload_n 3, 1, 0, 0, 0, 0), (45, .ifCond .lt 14, 3, 59, 0, 0, 0), (48, .iload_n 3, 1, 0, 0, 0, 0), (49, .aload 4, 2, 0, 0, 0, 0), (51, .getfield 109, 3, 2, 0, 266, 0), (54, .iconst 1, 1, 0, 0, 0, 0), (55, .iaload, 1, 0, 0, 0, 0), (56, .if_icmp .lt 6, 3, 62, 0, 0, 0), (59, .ldc 61, 2, 0, 0, 320, (-1000000001)), (61, .ireturn, 1, 0, 0, 0, 0), (62, .aload_n 0, 1, 0, 0, 0, 0), (63, .getfield 28, 3, 5, 3, 285, 0), (66, .invokevirtual 168, 3, 44, 1, 573, 1), (69, .iconst 1, 1, 0, 0, 0, 0), (70, .isub, 1, 0, 0, 0, 0), (71, .istore 5, 2, 0, 0, 0, 0), (73, .iload 5, 2, 0, 0, 0, 0)]
def zc_X5_at_1 : List zi_Row := [(75, .ifCond .lt 47, 3, 122, 0, 0, 0), (78, .aload_n 0, 1, 0, 0, 0, 0), (79, .getfield 11, 3, 5, 0, 282, 0), (82, .aload_n 0, 1, 0, 0, 0, 0), (83, .getfield 28, 3, 5, 3, 285, 0), (86, .iload 5, 2, 0, 0, 0, 0), (88, .invokevirtual 165, 3, 45, 2, 574, 1), (91, .aaload, 1, 0, 0, 0, 0), (92, .iload_n 2, 1, 0, 0, 0, 0), (93, .iload_n 3, 1, 0, 0, 0, 0), (94, .iload_n 1, 1, 0, 0, 0, 0), (95, .aload 4, 2, 0, 0, 0, 0), (97, .getfield 109, 3, 2, 0, 266, 0), (100, .invokevirtual 264, 3, 131, 5, 810, 4), (103, .ifCond .eq 13, 3, 116, 0, 0, 0), (106, .aload_n 0, 1, 0, 0, 0, 0), (107, .getfield 28, 3, 5, 3, 285, 0), (110, .iload 5, 2, 0, 0, 0, 0), (112, .invokevirtual 165, 3, 45, 2, 574, 1), (115, .ireturn, 1, 0, 0, 0, 0), (116, .iinc 5 (-1), 3, 0, 0, 0, 0), (119, .goto (-46), 3, 73, 0, 0, 0), (122, .aload_n 0, 1, 0, 0, 0, 0), (123, .invokevirtual 144, 3, 139, 1, 575, 5), (126, .aload 4, 2, 0, 0, 0, 0), (128, .getfield 83, 3, 2, 1, 268, 0), (131, .iload_n 2, 1, 0, 0, 0, 0), (132, .iload_n 3, 1, 0, 0, 0, 0), (133, .invokevirtual 268, 3, 116, 3, 821, 3), (136, .ireturn, 1, 0, 0, 0, 0)]
def zc_X5_at : List zi_Row := zc_X5_at_0 ++ (zc_X5_at_1)
def zc_X5_neighbour_0 : List zi_Row := [(0, .aload_n 0, 1, 0, 0, 0, 0), (1, .iload_n 1, 1, 0, 0, 0, 0), (2, .invokevirtual 122, 3, 35, 2, 349, 5), (5, .ifCond .eq 10, 3, 15, 0, 0, 0), (8, .iload_n 2, 1, 0, 0, 0, 0), (9, .invokestatic 170, 3, 32, 1, 707, 0), (12, .ifCond .ne 6, 3, 18, 0, 0, 0), (15, .ldc 61, 2, 0, 0, 320, (-1000000001)), (17, .ireturn, 1, 0, 0, 0, 0), (18, .aload_n 0, 1, 0, 0, 0, 0), (19, .iload_n 1, 1, 0, 0, 0, 0), (20, .invokevirtual 173, 3, 36, 2, 710, 5), (23, .ifCond .ne 6, 3, 29, 0, 0, 0), (26, .ldc 94, 2, 0, 0, 489, (-1000000002)), (28, .ireturn, 1, 0, 0, 0, 0), (29, .aload_n 0, 1, 0, 0, 0, 0), (30, .invokevirtual 144, 3, 139, 1, 575, 5), (33, .aload_n 0, 1, 0, 0, 0, 0), (34, .iload_n 1, 1, 0, 0, 0, 0), (35, .invokevirtual 176, 3, 138, 2, 373, 5), (38, .iload_n 1, 1, 0, 0, 0, 0), (39, .iload_n 2, 1, 0, 0, 0, 0), (40, .invokevirtual 180, 3, 118, 3, 718, 3), (43, .ireturn, 1, 0, 0, 0, 0)]
def zc_X5_neighbour : List zi_Row := zc_X5_neighbour_0
def zc_X5_told_0 : List zi_Row := [(0, .iload_n 1, 1, 0, 0, 0, 0), (1, .invokestatic 54, 3, 29, 1, 314, 0), (4, .ifCond .eq 13, 3, 17, 0, 0, 0), (7, .iload_n 2, 1, 0, 0, 0, 0), (8, .ifCond .lt 9, 3, 17, 0, 0, 0), (11, .iload_n 2, 1, 0, 0, 0, 0), (12, .bipush 6, 2, 0, 0, 0, 0), (14, .if_icmp .le 6, 3, 20, 0, 0, 0), (17, .ldc 61, 2, 0, 0, 320, (-1000000001)), (19, .ireturn, 1, 0, 0, 0, 0), (20, .aload_n 0, 1, 0, 0, 0, 0), (21, .getfield 17, 3, 5, 1, 283, 0), (24, .iload_n 1, 1, 0, 0, 0, 0), (25, .aaload, 1, 0, 0, 0, 0), (26, .astore_n 3, 1, 0, 0, 0, 0), (27, .aload_n 3, 1, 0, 0, 0, 0), (28, .getfield 62, 3, 2, 3, 272, 0), (31, .ifCond .ne 6, 3, 37, 0, 0, 0), (34, .ldc 94, 2, 0, 0, 489, (-1000000002)), (36, .ireturn, 1, 0, 0, 0, 0), (37, .iload_n 2, 1, 0, 0, 0, 0), (38, .tableswitch 72 0 5 #[38, 38, 45, 53, 61, 61], 38, 0, 0, 0, 0), (76, .aload_n 3, 1, 0, 0, 0, 0), (77, .getfield 109, 3, 2, 0, 266, 0), (80, .iload_n 2, 1, 0, 0, 0, 0), (81, .iaload, 1, 0, 0, 0, 0), (82, .ireturn, 1, 0, 0, 0, 0), (83, .aload_n 3, 1, 0, 0, 0, 0), (84, .getfield 83, 3, 2, 1, 268, 0), (87, .invokevirtual 271, 3, 85, 1, 837, 3), (90, .ireturn, 1, 0, 0, 0, 0), (91, .aload_n 3, 1, 0, 0, 0, 0), (92, .getfield 83, 3, 2, 1, 268, 0), (95, .invokevirtual 274, 3, 86, 1, 838, 3), (98, .ireturn, 1, 0, 0, 0, 0), (99, .aload_n 3, 1, 0, 0, 0, 0), (100, .getfield 83, 3, 2, 1, 268, 0), (103, .iload_n 2, 1, 0, 0, 0, 0), (104, .iconst 4, 1, 0, 0, 0, 0), (105, .isub, 1, 0, 0, 0, 0)]
def zc_X5_told_1 : List zi_Row := [(106, .invokevirtual 277, 3, 91, 2, 842, 3), (109, .ireturn, 1, 0, 0, 0, 0), (110, .aload_n 0, 1, 0, 0, 0, 0), (111, .iload_n 1, 1, 0, 0, 0, 0), (112, .invokevirtual 280, 3, 134, 2, 843, 5), (115, .ireturn, 1, 0, 0, 0, 0)]
def zc_X5_told : List zi_Row := zc_X5_told_0 ++ (zc_X5_told_1)
def zc_X5_tab_0 : List zi_Row := [(0, .iload_n 1, 1, 0, 0, 0, 0), (1, .invokestatic 54, 3, 29, 1, 314, 0), (4, .ifCond .eq 13, 3, 17, 0, 0, 0), (7, .iload_n 2, 1, 0, 0, 0, 0), (8, .ifCond .lt 9, 3, 17, 0, 0, 0), (11, .iload_n 3, 1, 0, 0, 0, 0), (12, .bipush (-2), 2, 0, 0, 0, 0), (14, .if_icmp .ge 6, 3, 20, 0, 0, 0), (17, .ldc 61, 2, 0, 0, 320, (-1000000001)), (19, .ireturn, 1, 0, 0, 0, 0), (20, .aload_n 0, 1, 0, 0, 0, 0), (21, .getfield 17, 3, 5, 1, 283, 0), (24, .iload_n 1, 1, 0, 0, 0, 0), (25, .aaload, 1, 0, 0, 0, 0), (26, .getfield 62, 3, 2, 3, 272, 0), (29, .ifCond .ne 6, 3, 35, 0, 0, 0), (32, .ldc 94, 2, 0, 0, 489, (-1000000002)), (34, .ireturn, 1, 0, 0, 0, 0), (35, .aload_n 0, 1, 0, 0, 0, 0), (36, .getfield 17, 3, 5, 1, 283, 0), (39, .iload_n 1, 1, 0, 0, 0, 0), (40, .aaload, 1, 0, 0, 0, 0), (41, .getfield 83, 3, 2, 1, 268, 0), (44, .astore 4, 2, 0, 0, 0, 0), (46, .aload 4, 2, 0, 0, 0, 0), (48, .iload_n 2, 1, 0, 0, 0, 0), (49, .invokevirtual 283, 3, 87, 2, 609, 3), (52, .istore 5, 2, 0, 0, 0, 0), (54, .iload 5, 2, 0, 0, 0, 0), (56, .ifCond .ge 6, 3, 62, 0, 0, 0), (59, .ldc 197, 2, 0, 0, 755, (-1000000005)), (61, .ireturn, 1, 0, 0, 0, 0), (62, .iload_n 3, 1, 0, 0, 0, 0), (63, .lookupswitch 41 #[(-2, 33), (-1, 25)], 25, 0, 0, 0, 0), (88, .aload 4, 2, 0, 0, 0, 0), (90, .iload 5, 2, 0, 0, 0, 0), (92, .invokevirtual 286, 3, 89, 2, 851, 3), (95, .ireturn, 1, 0, 0, 0, 0), (96, .aload 4, 2, 0, 0, 0, 0), (98, .iload 5, 2, 0, 0, 0, 0)]
def zc_X5_tab_1 : List zi_Row := [(100, .invokevirtual 289, 3, 88, 2, 852, 3), (103, .ireturn, 1, 0, 0, 0, 0), (104, .aload 4, 2, 0, 0, 0, 0), (106, .iload 5, 2, 0, 0, 0, 0), (108, .iload_n 3, 1, 0, 0, 0, 0), (109, .invokevirtual 292, 3, 90, 3, 856, 3), (112, .ireturn, 1, 0, 0, 0, 0)]
def zc_X5_tab : List zi_Row := zc_X5_tab_0 ++ (zc_X5_tab_1)
def zc_X5_count_0 : List zi_Row := [(0, .iload_n 1, 1, 0, 0, 0, 0), (1, .tableswitch 91 0 5 #[39, 44, 50, 56, 62, 86], 39, 0, 0, 0, 0), (40, .aload_n 0, 1, 0, 0, 0, 0), (41, .invokevirtual 295, 3, 39, 1, 861, 5), (44, .ireturn, 1, 0, 0, 0, 0), (45, .aload_n 0, 1, 0, 0, 0, 0), (46, .iconst 0, 1, 0, 0, 0, 0), (47, .invokevirtual 298, 3, 41, 2, 865, 5), (50, .ireturn, 1, 0, 0, 0, 0), (51, .aload_n 0, 1, 0, 0, 0, 0), (52, .iconst 1, 1, 0, 0, 0, 0), (53, .invokevirtual 298, 3, 41, 2, 865, 5), (56, .ireturn, 1, 0, 0, 0, 0), (57, .aload_n 0, 1, 0, 0, 0, 0), (58, .iconst 2, 1, 0, 0, 0, 0), (59, .invokevirtual 298, 3, 41, 2, 865, 5), (62, .ireturn, 1, 0, 0, 0, 0), (63, .aload_n 0, 1, 0, 0, 0, 0), (64, .getfield 24, 3, 5, 2, 284, 0), (67, .invokevirtual 168, 3, 44, 1, 573, 1), (70, .ifCond .ne 8, 3, 78, 0, 0, 0), (73, .ldc 197, 2, 0, 0, 755, (-1000000005)), (75, .goto 11, 3, 86, 0, 0, 0), (78, .aload_n 0, 1, 0, 0, 0, 0), (79, .getfield 24, 3, 5, 2, 284, 0), (82, .iconst 0, 1, 0, 0, 0, 0), (83, .invokevirtual 165, 3, 45, 2, 574, 1), (86, .ireturn, 1, 0, 0, 0, 0), (87, .aload_n 0, 1, 0, 0, 0, 0), (88, .invokevirtual 301, 3, 40, 1, 869, 5), (91, .ireturn, 1, 0, 0, 0, 0), (92, .ldc 61, 2, 0, 0, 320, (-1000000001)), (94, .ireturn, 1, 0, 0, 0, 0)]
def zc_X5_count : List zi_Row := zc_X5_count_0
def zc_X5_isScreen_0 : List zi_Row := [(0, .iload_n 0, 1, 0, 0, 0, 0), (1, .ifCond .lt 12, 3, 13, 0, 0, 0), (4, .iload_n 0, 1, 0, 0, 0, 0), (5, .iconst 3, 1, 0, 0, 0, 0), (6, .if_icmp .ge 7, 3, 13, 0, 0, 0), (9, .iconst 1, 1, 0, 0, 0, 0), (10, .goto 4, 3, 14, 0, 0, 0), (13, .iconst 0, 1, 0, 0, 0, 0), (14, .ireturn, 1, 0, 0, 0, 0)]
def zc_X5_isScreen : List zi_Row := zc_X5_isScreen_0
def zc_X5_isScreenSize_0 : List zi_Row := [(0, .iload_n 0, 1, 0, 0, 0, 0), (1, .bipush 40, 2, 0, 0, 0, 0), (3, .if_icmp .lt 14, 3, 17, 0, 0, 0), (6, .iload_n 0, 1, 0, 0, 0, 0), (7, .sipush 400, 3, 0, 0, 0, 0), (10, .if_icmp .gt 7, 3, 17, 0, 0, 0), (13, .iconst 1, 1, 0, 0, 0, 0), (14, .goto 4, 3, 18, 0, 0, 0), (17, .iconst 0, 1, 0, 0, 0, 0), (18, .ireturn, 1, 0, 0, 0, 0)]
def zc_X5_isScreenSize : List zi_Row := zc_X5_isScreenSize_0
def zc_X5_isWindowSize_0 : List zi_Row := [(0, .iload_n 0, 1, 0, 0, 0, 0), (1, .iconst 1, 1, 0, 0, 0, 0), (2, .if_icmp .lt 14, 3, 16, 0, 0, 0), (5, .iload_n 0, 1, 0, 0, 0, 0), (6, .sipush 200, 3, 0, 0, 0, 0), (9, .if_icmp .gt 7, 3, 16, 0, 0, 0), (12, .iconst 1, 1, 0, 0, 0, 0), (13, .goto 4, 3, 17, 0, 0, 0), (16, .iconst 0, 1, 0, 0, 0, 0), (17, .ireturn, 1, 0, 0, 0, 0)]
def zc_X5_isWindowSize : List zi_Row := zc_X5_isWindowSize_0
def zc_X5_isSide_0 : List zi_Row := [(0, .iload_n 0, 1, 0, 0, 0, 0), (1, .ifCond .lt 12, 3, 13, 0, 0, 0), (4, .iload_n 0, 1, 0, 0, 0, 0), (5, .iconst 4, 1, 0, 0, 0, 0), (6, .if_icmp .ge 7, 3, 13, 0, 0, 0), (9, .iconst 1, 1, 0, 0, 0, 0), (10, .goto 4, 3, 14, 0, 0, 0), (13, .iconst 0, 1, 0, 0, 0, 0), (14, .ireturn, 1, 0, 0, 0, 0)]
def zc_X5_isSide : List zi_Row := zc_X5_isSide_0
def zc_X5_isAxis_0 : List zi_Row := [(0, .iload_n 0, 1, 0, 0, 0, 0), (1, .ifCond .eq 8, 3, 9, 0, 0, 0), (4, .iload_n 0, 1, 0, 0, 0, 0), (5, .iconst 1, 1, 0, 0, 0, 0), (6, .if_icmp .ne 7, 3, 13, 0, 0, 0), (9, .iconst 1, 1, 0, 0, 0, 0), (10, .goto 4, 3, 14, 0, 0, 0), (13, .iconst 0, 1, 0, 0, 0, 0), (14, .ireturn, 1, 0, 0, 0, 0)]
def zc_X5_isAxis : List zi_Row := zc_X5_isAxis_0
def zc_X5_isPlace_0 : List zi_Row := [(0, .iload_n 0, 1, 0, 0, 0, 0), (1, .sipush (-1000), 3, 0, 0, 0, 0), (4, .if_icmp .lt 14, 3, 18, 0, 0, 0), (7, .iload_n 0, 1, 0, 0, 0, 0), (8, .sipush 1000, 3, 0, 0, 0, 0), (11, .if_icmp .gt 7, 3, 18, 0, 0, 0), (14, .iconst 1, 1, 0, 0, 0, 0), (15, .goto 4, 3, 19, 0, 0, 0), (18, .iconst 0, 1, 0, 0, 0, 0), (19, .ireturn, 1, 0, 0, 0, 0)]
def zc_X5_isPlace : List zi_Row := zc_X5_isPlace_0
def zc_X5_isWindow_0 : List zi_Row := [(0, .iload_n 1, 1, 0, 0, 0, 0), (1, .ifCond .lt 25, 3, 26, 0, 0, 0), (4, .iload_n 1, 1, 0, 0, 0, 0), (5, .bipush 10, 2, 0, 0, 0, 0), (7, .if_icmp .ge 19, 3, 26, 0, 0, 0), (10, .aload_n 0, 1, 0, 0, 0, 0), (11, .getfield 11, 3, 5, 0, 282, 0), (14, .iload_n 1, 1, 0, 0, 0, 0), (15, .aaload, 1, 0, 0, 0, 0), (16, .getfield 155, 3, 4, 2, 212, 0), (19, .ifCond .eq 7, 3, 26, 0, 0, 0), (22, .iconst 1, 1, 0, 0, 0, 0), (23, .goto 4, 3, 27, 0, 0, 0), (26, .iconst 0, 1, 0, 0, 0, 0), (27, .ireturn, 1, 0, 0, 0, 0)]
def zc_X5_isWindow : List zi_Row := zc_X5_isWindow_0
def zc_X5_isShownTile_0 : List zi_Row := [(0, .aload_n 0, 1, 0, 0, 0, 0), (1, .iload_n 1, 1, 0, 0, 0, 0), (2, .invokevirtual 122, 3, 35, 2, 349, 5), (5, .ifCond .eq 31, 3, 36, 0, 0, 0), (8, .aload_n 0, 1, 0, 0, 0, 0), (9, .getfield 11, 3, 5, 0, 282, 0), (12, .iload_n 1, 1, 0, 0, 0, 0), (13, .aaload, 1, 0, 0, 0, 0), (14, .invokevirtual 198, 3, 122, 1, 369, 4), (17, .ifCond .eq 19, 3, 36, 0, 0, 0), (20, .aload_n 0, 1, 0, 0, 0, 0), (21, .iload_n 1, 1, 0, 0, 0, 0), (22, .invokevirtual 176, 3, 138, 2, 373, 5), (25, .iload_n 1, 1, 0, 0, 0, 0), (26, .invokevirtual 304, 3, 84, 2, 714, 3), (29, .ifCond .eq 7, 3, 36, 0, 0, 0), (32, .iconst 1, 1, 0, 0, 0, 0), (33, .goto 4, 3, 37, 0, 0, 0), (36, .iconst 0, 1, 0, 0, 0, 0), (37, .ireturn, 1, 0, 0, 0, 0)]
def zc_X5_isShownTile : List zi_Row := zc_X5_isShownTile_0
def zc_X5_leastScreenBut_0 : List zi_Row := [(0, .iconst 0, 1, 0, 0, 0, 0), (1, .istore_n 2, 1, 0, 0, 0, 0), (2, .iload_n 2, 1, 0, 0, 0, 0), (3, .iconst 3, 1, 0, 0, 0, 0), (4, .if_icmp .ge 28, 3, 32, 0, 0, 0), (7, .iload_n 2, 1, 0, 0, 0, 0), (8, .iload_n 1, 1, 0, 0, 0, 0), (9, .if_icmp .eq 17, 3, 26, 0, 0, 0), (12, .aload_n 0, 1, 0, 0, 0, 0), (13, .getfield 17, 3, 5, 1, 283, 0), (16, .iload_n 2, 1, 0, 0, 0, 0), (17, .aaload, 1, 0, 0, 0, 0), (18, .getfield 62, 3, 2, 3, 272, 0), (21, .ifCond .eq 5, 3, 26, 0, 0, 0), (24, .iload_n 2, 1, 0, 0, 0, 0), (25, .ireturn, 1, 0, 0, 0, 0), (26, .iinc 2 1, 3, 0, 0, 0, 0), (29, .goto (-27), 3, 2, 0, 0, 0), (32, .iconst (-1), 1, 0, 0, 0, 0), (33, .ireturn, 1, 0, 0, 0, 0)]
def zc_X5_leastScreenBut : List zi_Row := zc_X5_leastScreenBut_0
def zc_X5_screenAtHand_0 : List zi_Row := [(0, .iconst 0, 1, 0, 0, 0, 0), (1, .istore_n 1, 1, 0, 0, 0, 0), (2, .iload_n 1, 1, 0, 0, 0, 0), (3, .aload_n 0, 1, 0, 0, 0, 0), (4, .getfield 24, 3, 5, 2, 284, 0), (7, .invokevirtual 168, 3, 44, 1, 573, 1), (10, .if_icmp .ge 35, 3, 45, 0, 0, 0), (13, .aload_n 0, 1, 0, 0, 0, 0), (14, .getfield 11, 3, 5, 0, 282, 0), (17, .aload_n 0, 1, 0, 0, 0, 0), (18, .getfield 24, 3, 5, 2, 284, 0), (21, .iload_n 1, 1, 0, 0, 0, 0), (22, .invokevirtual 165, 3, 45, 2, 574, 1), (25, .aaload, 1, 0, 0, 0, 0), (26, .astore_n 2, 1, 0, 0, 0, 0), (27, .aload_n 2, 1, 0, 0, 0, 0), (28, .invokevirtual 133, 3, 124, 1, 565, 4), (31, .ifCond .ne 8, 3, 39, 0, 0, 0), (34, .aload_n 2, 1, 0, 0, 0, 0), (35, .getfield 137, 3, 4, 5, 218, 0), (38, .ireturn, 1, 0, 0, 0, 0), (39, .iinc 1 1, 3, 0, 0, 0, 0), (42, .goto (-40), 3, 2, 0, 0, 0), (45, .aload_n 0, 1, 0, 0, 0, 0), (46, .iconst (-1), 1, 0, 0, 0, 0), (47, .invokevirtual 99, 3, 37, 2, 499, 5), (50, .ireturn, 1, 0, 0, 0, 0)]
def zc_X5_screenAtHand : List zi_Row := zc_X5_screenAtHand_0
def zc_X5_screensThere_0 : List zi_Row := [(0, .iconst 0, 1, 0, 0, 0, 0), (1, .istore_n 1, 1, 0, 0, 0, 0), (2, .iconst 0, 1, 0, 0, 0, 0), (3, .istore_n 2, 1, 0, 0, 0, 0), (4, .iload_n 2, 1, 0, 0, 0, 0), (5, .iconst 3, 1, 0, 0, 0, 0), (6, .if_icmp .ge 29, 3, 35, 0, 0, 0), (9, .iload_n 1, 1, 0, 0, 0, 0), (10, .aload_n 0, 1, 0, 0, 0, 0), (11, .getfield 17, 3, 5, 1, 283, 0), (14, .iload_n 2, 1, 0, 0, 0, 0), (15, .aaload, 1, 0, 0, 0, 0), (16, .getfield 62, 3, 2, 3, 272, 0), (19, .ifCond .eq 7, 3, 26, 0, 0, 0), (22, .iconst 1, 1, 0, 0, 0, 0), (23, .goto 4, 3, 27, 0, 0, 0), (26, .iconst 0, 1, 0, 0, 0, 0), (27, .iadd, 1, 0, 0, 0, 0), (28, .istore_n 1, 1, 0, 0, 0, 0), (29, .iinc 2 1, 3, 0, 0, 0, 0), (32, .goto (-28), 3, 4, 0, 0, 0), (35, .iload_n 1, 1, 0, 0, 0, 0), (36, .ireturn, 1, 0, 0, 0, 0)]
def zc_X5_screensThere : List zi_Row := zc_X5_screensThere_0
def zc_X5_screensWithKept_0 : List zi_Row := [(0, .iconst 0, 1, 0, 0, 0, 0), (1, .istore_n 1, 1, 0, 0, 0, 0), (2, .iconst 0, 1, 0, 0, 0, 0), (3, .istore_n 2, 1, 0, 0, 0, 0), (4, .iload_n 2, 1, 0, 0, 0, 0), (5, .iconst 3, 1, 0, 0, 0, 0), (6, .if_icmp .ge 32, 3, 38, 0, 0, 0), (9, .iload_n 1, 1, 0, 0, 0, 0), (10, .aload_n 0, 1, 0, 0, 0, 0), (11, .getfield 17, 3, 5, 1, 283, 0), (14, .iload_n 2, 1, 0, 0, 0, 0), (15, .aaload, 1, 0, 0, 0, 0), (16, .getfield 74, 3, 2, 2, 270, 0), (19, .getfield 315, 3, 0, 3, 255, 0), (22, .ifCond .eq 7, 3, 29, 0, 0, 0), (25, .iconst 1, 1, 0, 0, 0, 0), (26, .goto 4, 3, 30, 0, 0, 0), (29, .iconst 0, 1, 0, 0, 0, 0), (30, .iadd, 1, 0, 0, 0, 0), (31, .istore_n 1, 1, 0, 0, 0, 0), (32, .iinc 2 1, 3, 0, 0, 0, 0), (35, .goto (-31), 3, 4, 0, 0, 0), (38, .iload_n 1, 1, 0, 0, 0, 0), (39, .ireturn, 1, 0, 0, 0, 0)]
def zc_X5_screensWithKept : List zi_Row := zc_X5_screensWithKept_0
def zc_X5_windowsUnder_0 : List zi_Row := [(0, .iconst 0, 1, 0, 0, 0, 0), (1, .istore_n 2, 1, 0, 0, 0, 0), (2, .iconst 0, 1, 0, 0, 0, 0), (3, .istore_n 3, 1, 0, 0, 0, 0), (4, .iload_n 3, 1, 0, 0, 0, 0), (5, .bipush 10, 2, 0, 0, 0, 0), (7, .if_icmp .ge 30, 3, 37, 0, 0, 0), (10, .iload_n 2, 1, 0, 0, 0, 0), (11, .aload_n 0, 1, 0, 0, 0, 0), (12, .getfield 11, 3, 5, 0, 282, 0), (15, .iload_n 3, 1, 0, 0, 0, 0), (16, .aaload, 1, 0, 0, 0, 0), (17, .iload_n 1, 1, 0, 0, 0, 0), (18, .invokevirtual 261, 3, 48, 2, 802, 4), (21, .ifCond .eq 7, 3, 28, 0, 0, 0), (24, .iconst 1, 1, 0, 0, 0, 0), (25, .goto 4, 3, 29, 0, 0, 0), (28, .iconst 0, 1, 0, 0, 0, 0), (29, .iadd, 1, 0, 0, 0, 0), (30, .istore_n 2, 1, 0, 0, 0, 0), (31, .iinc 3 1, 3, 0, 0, 0, 0), (34, .goto (-30), 3, 4, 0, 0, 0), (37, .iload_n 2, 1, 0, 0, 0, 0), (38, .ireturn, 1, 0, 0, 0, 0)]
def zc_X5_windowsUnder : List zi_Row := zc_X5_windowsUnder_0
def zc_X5_leastFreeNumber_0 : List zi_Row := [(0, .iconst 0, 1, 0, 0, 0, 0), (1, .istore_n 1, 1, 0, 0, 0, 0), (2, .iload_n 1, 1, 0, 0, 0, 0), (3, .bipush 10, 2, 0, 0, 0, 0), (5, .if_icmp .ge 23, 3, 28, 0, 0, 0), (8, .aload_n 0, 1, 0, 0, 0, 0), (9, .getfield 11, 3, 5, 0, 282, 0), (12, .iload_n 1, 1, 0, 0, 0, 0), (13, .aaload, 1, 0, 0, 0, 0), (14, .getfield 155, 3, 4, 2, 212, 0), (17, .ifCond .ne 5, 3, 22, 0, 0, 0), (20, .iload_n 1, 1, 0, 0, 0, 0), (21, .ireturn, 1, 0, 0, 0, 0), (22, .iinc 1 1, 3, 0, 0, 0, 0), (25, .goto (-23), 3, 2, 0, 0, 0), (28, .iconst (-1), 1, 0, 0, 0, 0), (29, .ireturn, 1, 0, 0, 0, 0)]
def zc_X5_leastFreeNumber : List zi_Row := zc_X5_leastFreeNumber_0
def zc_X5_bringBack_0 : List zi_Row := [(0, .aload_n 0, 1, 0, 0, 0, 0), (1, .getfield 17, 3, 5, 1, 283, 0), (4, .iload_n 1, 1, 0, 0, 0, 0), (5, .aaload, 1, 0, 0, 0, 0), (6, .getfield 74, 3, 2, 2, 270, 0), (9, .astore_n 2, 1, 0, 0, 0, 0), (10, .aload_n 2, 1, 0, 0, 0, 0), (11, .getfield 315, 3, 0, 3, 255, 0), (14, .ifCond .eq 22, 3, 36, 0, 0, 0), (17, .aload_n 2, 1, 0, 0, 0, 0), (18, .getfield 398, 3, 0, 0, 250, 0), (21, .aload_n 0, 1, 0, 0, 0, 0), (22, .getfield 17, 3, 5, 1, 283, 0), (25, .iload_n 1, 1, 0, 0, 0, 0), (26, .aaload, 1, 0, 0, 0, 0), (27, .getfield 109, 3, 2, 0, 266, 0), (30, .invokevirtual 86, 3, 92, 2, 329, 3), (33, .ifCond .ne 5, 3, 38, 0, 0, 0), (36, .iconst 0, 1, 0, 0, 0, 0), (37, .ireturn, 1, 0, 0, 0, 0), (38, .iconst 0, 1, 0, 0, 0, 0), (39, .istore_n 3, 1, 0, 0, 0, 0), (40, .iload_n 3, 1, 0, 0, 0, 0), (41, .bipush 10, 2, 0, 0, 0, 0), (43, .if_icmp .ge 20, 3, 63, 0, 0, 0), (46, .aload_n 0, 1, 0, 0, 0, 0), (47, .getfield 38, 3, 5, 5, 287, 0), (50, .iload_n 3, 1, 0, 0, 0, 0), (51, .aload_n 2, 1, 0, 0, 0, 0), (52, .iload_n 3, 1, 0, 0, 0, 0), (53, .invokevirtual 403, 3, 74, 2, 337, 0), (56, .bastore, 1, 0, 0, 0, 0), (57, .iinc 3 1, 3, 0, 0, 0, 0), (60, .goto (-20), 3, 40, 0, 0, 0), (63, .aload_n 0, 1, 0, 0, 0, 0), (64, .invokevirtual 395, 3, 158, 1, 345, 5), (67, .aload_n 0, 1, 0, 0, 0, 0), (68, .iload_n 1, 1, 0, 0, 0, 0), (69, .invokevirtual 205, 3, 159, 2, 353, 5), (72, .ifCond .ne 5, 3, 77, 0, 0, 0)]
def zc_X5_bringBack_1 : List zi_Row := [(75, .iconst 0, 1, 0, 0, 0, 0), (76, .ireturn, 1, 0, 0, 0, 0), (77, .iconst 0, 1, 0, 0, 0, 0), (78, .istore_n 3, 1, 0, 0, 0, 0), (79, .iconst 0, 1, 0, 0, 0, 0), (80, .istore 4, 2, 0, 0, 0, 0), (82, .iload 4, 2, 0, 0, 0, 0), (84, .bipush 10, 2, 0, 0, 0, 0), (86, .if_icmp .ge 28, 3, 114, 0, 0, 0), (89, .aload_n 2, 1, 0, 0, 0, 0), (90, .iload 4, 2, 0, 0, 0, 0), (92, .invokevirtual 403, 3, 74, 2, 337, 0), (95, .ifCond .eq 13, 3, 108, 0, 0, 0), (98, .aload_n 0, 1, 0, 0, 0, 0), (99, .iload 4, 2, 0, 0, 0, 0), (101, .aload_n 2, 1, 0, 0, 0, 0), (102, .invokevirtual 406, 3, 163, 3, 365, 5), (105, .iinc 3 1, 3, 0, 0, 0, 0), (108, .iinc 4 1, 3, 0, 0, 0, 0), (111, .goto (-29), 3, 82, 0, 0, 0), (114, .aload_n 0, 1, 0, 0, 0, 0), (115, .iload_n 1, 1, 0, 0, 0, 0), (116, .invokevirtual 214, 3, 160, 2, 429, 5), (119, .aload_n 0, 1, 0, 0, 0, 0), (120, .getfield 17, 3, 5, 1, 283, 0), (123, .iload_n 1, 1, 0, 0, 0, 0), (124, .aaload, 1, 0, 0, 0, 0), (125, .getfield 83, 3, 2, 1, 268, 0), (128, .aload_n 2, 1, 0, 0, 0, 0), (129, .getfield 398, 3, 0, 0, 250, 0), (132, .invokevirtual 102, 3, 82, 2, 453, 3), (135, .aload_n 0, 1, 0, 0, 0, 0), (136, .invokevirtual 410, 3, 164, 1, 465, 5), (139, .iload_n 3, 1, 0, 0, 0, 0), (140, .ireturn, 1, 0, 0, 0, 0)]
def zc_X5_bringBack : List zi_Row := zc_X5_bringBack_0 ++ (zc_X5_bringBack_1)
def zc_X1_size_0 : List zi_Row := [(0, .aload_n 0, 1, 0, 0, 0, 0), (1, .getfield 15, 3, 1, 1, 125, 0), (4, .ireturn, 1, 0, 0, 0, 0)]
def zc_X1_size : List zi_Row := zc_X1_size_0
def zc_X1_get_0 : List zi_Row := [(0, .iload_n 1, 1, 0, 0, 0, 0), (1, .ifCond .lt 20, 3, 21, 0, 0, 0), (4, .iload_n 1, 1, 0, 0, 0, 0), (5, .aload_n 0, 1, 0, 0, 0, 0), (6, .getfield 15, 3, 1, 1, 125, 0), (9, .if_icmp .ge 12, 3, 21, 0, 0, 0), (12, .aload_n 0, 1, 0, 0, 0, 0), (13, .getfield 9, 3, 1, 0, 124, 0), (16, .iload_n 1, 1, 0, 0, 0, 0), (17, .iaload, 1, 0, 0, 0, 0), (18, .goto 4, 3, 22, 0, 0, 0), (21, .iconst (-1), 1, 0, 0, 0, 0), (22, .ireturn, 1, 0, 0, 0, 0)]
def zc_X1_get : List zi_Row := zc_X1_get_0
def zc_X2_setSize_0 : List zi_Row := [(0, .aload_n 0, 1, 0, 0, 0, 0), (1, .getfield 9, 3, 2, 0, 265, 0), (4, .iconst 0, 1, 0, 0, 0, 0), (5, .aload_n 1, 1, 0, 0, 0, 0), (6, .iconst 0, 1, 0, 0, 0, 0), (7, .iaload, 1, 0, 0, 0, 0), (8, .iastore, 1, 0, 0, 0, 0), (9, .aload_n 0, 1, 0, 0, 0, 0), (10, .getfield 9, 3, 2, 0, 265, 0), (13, .iconst 1, 1, 0, 0, 0, 0), (14, .aload_n 1, 1, 0, 0, 0, 0), (15, .iconst 1, 1, 0, 0, 0, 0), (16, .iaload, 1, 0, 0, 0, 0), (17, .iastore, 1, 0, 0, 0, 0), (18, .return_, 1, 0, 0, 0, 0)]
def zc_X2_setSize : List zi_Row := zc_X2_setSize_0
def zc_X0_forget_0 : List zi_Row := [(0, .aload_n 0, 1, 0, 0, 0, 0), (1, .iconst 0, 1, 0, 0, 0, 0), (2, .putfield 27, 3, 0, 3, 254, 0), (5, .return_, 1, 0, 0, 0, 0)]
def zc_X0_forget : List zi_Row := zc_X0_forget_0
def zc_X4_fallsUnder_0 : List zi_Row := [(0, .iload_n 1, 1, 0, 0, 0, 0), (1, .ifCond .eq 16, 3, 17, 0, 0, 0), (4, .iload_n 1, 1, 0, 0, 0, 0), (5, .iconst 2, 1, 0, 0, 0, 0), (6, .if_icmp .ne 15, 3, 21, 0, 0, 0), (9, .aload_n 0, 1, 0, 0, 0, 0), (10, .getfield 22, 3, 4, 3, 213, 0), (13, .iconst 1, 1, 0, 0, 0, 0), (14, .if_icmp .eq 7, 3, 21, 0, 0, 0), (17, .iconst 1, 1, 0, 0, 0, 0), (18, .goto 4, 3, 22, 0, 0, 0), (21, .iconst 0, 1, 0, 0, 0, 0), (22, .istore_n 2, 1, 0, 0, 0, 0), (23, .aload_n 0, 1, 0, 0, 0, 0), (24, .getfield 18, 3, 4, 2, 211, 0), (27, .ifCond .eq 19, 3, 46, 0, 0, 0), (30, .aload_n 0, 1, 0, 0, 0, 0), (31, .getfield 22, 3, 4, 3, 213, 0), (34, .iload_n 1, 1, 0, 0, 0, 0), (35, .if_icmp .eq 7, 3, 42, 0, 0, 0), (38, .iload_n 2, 1, 0, 0, 0, 0), (39, .ifCond .eq 7, 3, 46, 0, 0, 0), (42, .iconst 1, 1, 0, 0, 0, 0), (43, .goto 4, 3, 47, 0, 0, 0), (46, .iconst 0, 1, 0, 0, 0, 0), (47, .ireturn, 1, 0, 0, 0, 0)]
def zc_X4_fallsUnder : List zi_Row := zc_X4_fallsUnder_0
def zc_X6_screen_0 : List zi_Row := [(0, .iload_n 1, 1, 0, 0, 0, 0), (1, .iconst 0, 1, 0, 0, 0, 0), (2, .iconst 2, 1, 0, 0, 0, 0), (3, .invokestatic 101, 3, 68, 3, 983, 0), (6, .ifCond .eq 27, 3, 33, 0, 0, 0), (9, .iload_n 2, 1, 0, 0, 0, 0), (10, .bipush 40, 2, 0, 0, 0, 0), (12, .sipush 400, 3, 0, 0, 0, 0), (15, .invokestatic 101, 3, 68, 3, 983, 0), (18, .ifCond .eq 15, 3, 33, 0, 0, 0), (21, .iload_n 3, 1, 0, 0, 0, 0), (22, .bipush 40, 2, 0, 0, 0, 0), (24, .sipush 400, 3, 0, 0, 0, 0), (27, .invokestatic 101, 3, 68, 3, 983, 0), (30, .ifCond .ne 6, 3, 36, 0, 0, 0), (33, .ldc 166, 2, 0, 0, 986, (-1000000001)), (35, .ireturn, 1, 0, 0, 0, 0), (36, .aload_n 0, 1, 0, 0, 0, 0), (37, .getfield 7, 3, 6, 0, 879, 0), (40, .iload_n 1, 1, 0, 0, 0, 0), (41, .iaload, 1, 0, 0, 0, 0), (42, .ifCond .ne 60, 3, 102, 0, 0, 0), (45, .aload_n 0, 1, 0, 0, 0, 0), (46, .getfield 7, 3, 6, 0, 879, 0), (49, .iload_n 1, 1, 0, 0, 0, 0), (50, .iload_n 2, 1, 0, 0, 0, 0), (51, .iastore, 1, 0, 0, 0, 0), (52, .aload_n 0, 1, 0, 0, 0, 0), (53, .getfield 13, 3, 6, 1, 880, 0), (56, .iload_n 1, 1, 0, 0, 0, 0), (57, .iload_n 3, 1, 0, 0, 0, 0), (58, .iastore, 1, 0, 0, 0, 0), (59, .aload_n 0, 1, 0, 0, 0, 0), (60, .iload_n 1, 1, 0, 0, 0, 0), (61, .invokevirtual 167, 3, 71, 2, 987, 6), (64, .aload_n 0, 1, 0, 0, 0, 0), (65, .getfield 67, 3, 6, 21, 900, 0), (68, .iload_n 1, 1, 0, 0, 0, 0), (69, .baload, 1, 0, 0, 0, 0), (70, .ifCond .eq 19, 3, 89, 0, 0, 0)]
def zc_X6_screen_1 : List zi_Row := [(73, .aload_n 0, 1, 0, 0, 0, 0), (74, .iload_n 1, 1, 0, 0, 0, 0), (75, .invokevirtual 170, 3, 191, 2, 994, 6), (78, .ifCond .eq 11, 3, 89, 0, 0, 0), (81, .aload_n 0, 1, 0, 0, 0, 0), (82, .iload_n 1, 1, 0, 0, 0, 0), (83, .invokevirtual 173, 3, 192, 2, 1014, 6), (86, .goto 4, 3, 90, 0, 0, 0), (89, .iconst 0, 1, 0, 0, 0, 0), (90, .istore 4, 2, 0, 0, 0, 0), (92, .aload_n 0, 1, 0, 0, 0, 0), (93, .getfield 67, 3, 6, 21, 900, 0), (96, .iload_n 1, 1, 0, 0, 0, 0), (97, .iconst 0, 1, 0, 0, 0, 0), (98, .bastore, 1, 0, 0, 0, 0), (99, .iload 4, 2, 0, 0, 0, 0), (101, .ireturn, 1, 0, 0, 0, 0), (102, .aload_n 0, 1, 0, 0, 0, 0), (103, .iload_n 1, 1, 0, 0, 0, 0), (104, .iload_n 2, 1, 0, 0, 0, 0), (105, .iload_n 3, 1, 0, 0, 0, 0), (106, .invokevirtual 177, 3, 179, 4, 1002, 6), (109, .istore 4, 2, 0, 0, 0, 0), (111, .iconst 0, 1, 0, 0, 0, 0), (112, .istore 5, 2, 0, 0, 0, 0), (114, .iload 5, 2, 0, 0, 0, 0), (116, .bipush 10, 2, 0, 0, 0, 0), (118, .if_icmp .ge 42, 3, 160, 0, 0, 0), (121, .iload 4, 2, 0, 0, 0, 0), (123, .ifCond .eq 28, 3, 151, 0, 0, 0), (126, .aload_n 0, 1, 0, 0, 0, 0), (127, .iload 5, 2, 0, 0, 0, 0), (129, .iload_n 1, 1, 0, 0, 0, 0), (130, .invokevirtual 180, 3, 184, 3, 1057, 6), (133, .ifCond .eq 14, 3, 147, 0, 0, 0), (136, .aload_n 0, 1, 0, 0, 0, 0), (137, .iload 5, 2, 0, 0, 0, 0), (139, .iload_n 2, 1, 0, 0, 0, 0), (140, .iload_n 3, 1, 0, 0, 0, 0), (141, .invokevirtual 184, 3, 182, 4, 1010, 6)]
def zc_X6_screen_2 : List zi_Row := [(144, .ifCond .eq 7, 3, 151, 0, 0, 0), (147, .iconst 1, 1, 0, 0, 0, 0), (148, .goto 4, 3, 152, 0, 0, 0), (151, .iconst 0, 1, 0, 0, 0, 0), (152, .istore 4, 2, 0, 0, 0, 0), (154, .iinc 5 1, 3, 0, 0, 0, 0), (157, .goto (-43), 3, 114, 0, 0, 0), (160, .iload 4, 2, 0, 0, 0, 0), (162, .ifCond .ne 6, 3, 168, 0, 0, 0), (165, .ldc 187, 2, 0, 0, 1061, (-1000000002)), (167, .ireturn, 1, 0, 0, 0, 0), (168, .aload_n 0, 1, 0, 0, 0, 0), (169, .getfield 7, 3, 6, 0, 879, 0), (172, .iload_n 1, 1, 0, 0, 0, 0), (173, .iload_n 2, 1, 0, 0, 0, 0), (174, .iastore, 1, 0, 0, 0, 0), (175, .aload_n 0, 1, 0, 0, 0, 0), (176, .getfield 13, 3, 6, 1, 880, 0), (179, .iload_n 1, 1, 0, 0, 0, 0), (180, .iload_n 3, 1, 0, 0, 0, 0), (181, .iastore, 1, 0, 0, 0, 0), (182, .iconst 0, 1, 0, 0, 0, 0), (183, .istore 5, 2, 0, 0, 0, 0), (185, .iload 5, 2, 0, 0, 0, 0), (187, .bipush 10, 2, 0, 0, 0, 0), (189, .if_icmp .ge 40, 3, 229, 0, 0, 0), (192, .aload_n 0, 1, 0, 0, 0, 0), (193, .iload 5, 2, 0, 0, 0, 0), (195, .iload_n 1, 1, 0, 0, 0, 0), (196, .invokevirtual 180, 3, 184, 3, 1057, 6), (199, .ifCond .eq 24, 3, 223, 0, 0, 0), (202, .aload_n 0, 1, 0, 0, 0, 0), (203, .iload 5, 2, 0, 0, 0, 0), (205, .iload_n 1, 1, 0, 0, 0, 0), (206, .aload_n 0, 1, 0, 0, 0, 0), (207, .getfield 31, 3, 6, 7, 886, 0), (210, .iload 5, 2, 0, 0, 0, 0), (212, .iaload, 1, 0, 0, 0, 0), (213, .aload_n 0, 1, 0, 0, 0, 0), (214, .getfield 34, 3, 6, 8, 887, 0)]
def zc_X6_screen_3 : List zi_Row := [(217, .iload 5, 2, 0, 0, 0, 0), (219, .iaload, 1, 0, 0, 0, 0), (220, .invokevirtual 188, 3, 183, 5, 1050, 6), (223, .iinc 5 1, 3, 0, 0, 0, 0), (226, .goto (-41), 3, 185, 0, 0, 0), (229, .iconst 0, 1, 0, 0, 0, 0), (230, .ireturn, 1, 0, 0, 0, 0)]
def zc_X6_screen : List zi_Row := zc_X6_screen_0 ++ (zc_X6_screen_1 ++ (zc_X6_screen_2 ++ (zc_X6_screen_3)))
def zc_X6_gone_0 : List zi_Row := [(0, .iload_n 1, 1, 0, 0, 0, 0), (1, .iconst 0, 1, 0, 0, 0, 0), (2, .iconst 2, 1, 0, 0, 0, 0), (3, .invokestatic 101, 3, 68, 3, 983, 0), (6, .ifCond .ne 6, 3, 12, 0, 0, 0), (9, .ldc 166, 2, 0, 0, 986, (-1000000001)), (11, .ireturn, 1, 0, 0, 0, 0), (12, .iconst (-1), 1, 0, 0, 0, 0), (13, .istore_n 2, 1, 0, 0, 0, 0), (14, .iconst 2, 1, 0, 0, 0, 0), (15, .istore_n 3, 1, 0, 0, 0, 0), (16, .iload_n 3, 1, 0, 0, 0, 0), (17, .ifCond .lt 29, 3, 46, 0, 0, 0), (20, .iload_n 3, 1, 0, 0, 0, 0), (21, .iload_n 1, 1, 0, 0, 0, 0), (22, .if_icmp .eq 16, 3, 38, 0, 0, 0), (25, .aload_n 0, 1, 0, 0, 0, 0), (26, .getfield 7, 3, 6, 0, 879, 0), (29, .iload_n 3, 1, 0, 0, 0, 0), (30, .iaload, 1, 0, 0, 0, 0), (31, .ifCond .le 7, 3, 38, 0, 0, 0), (34, .iload_n 3, 1, 0, 0, 0, 0), (35, .goto 4, 3, 39, 0, 0, 0), (38, .iload_n 2, 1, 0, 0, 0, 0), (39, .istore_n 2, 1, 0, 0, 0, 0), (40, .iinc 3 (-1), 3, 0, 0, 0, 0), (43, .goto (-27), 3, 16, 0, 0, 0), (46, .aload_n 0, 1, 0, 0, 0, 0), (47, .getfield 7, 3, 6, 0, 879, 0), (50, .iload_n 1, 1, 0, 0, 0, 0), (51, .iaload, 1, 0, 0, 0, 0), (52, .ifCond .eq 7, 3, 59, 0, 0, 0), (55, .iload_n 2, 1, 0, 0, 0, 0), (56, .ifCond .ge 6, 3, 62, 0, 0, 0), (59, .ldc 187, 2, 0, 0, 1061, (-1000000002)), (61, .ireturn, 1, 0, 0, 0, 0), (62, .aload_n 0, 1, 0, 0, 0, 0), (63, .iload_n 2, 1, 0, 0, 0, 0), (64, .bipush 6, 2, 0, 0, 0, 0), (66, .invokevirtual 201, 3, 168, 3, 1046, 6)]
def zc_X6_gone_1 : List zi_Row := [(69, .aload_n 0, 1, 0, 0, 0, 0), (70, .iload_n 1, 1, 0, 0, 0, 0), (71, .bipush 6, 2, 0, 0, 0, 0), (73, .invokevirtual 207, 3, 195, 3, 1066, 6), (76, .istore_n 3, 1, 0, 0, 0, 0), (77, .aload_n 0, 1, 0, 0, 0, 0), (78, .bipush 6, 2, 0, 0, 0, 0), (80, .aload_n 0, 1, 0, 0, 0, 0), (81, .getfield 7, 3, 6, 0, 879, 0), (84, .iload_n 2, 1, 0, 0, 0, 0), (85, .iaload, 1, 0, 0, 0, 0), (86, .aload_n 0, 1, 0, 0, 0, 0), (87, .getfield 13, 3, 6, 1, 880, 0), (90, .iload_n 2, 1, 0, 0, 0, 0), (91, .iaload, 1, 0, 0, 0, 0), (92, .invokevirtual 177, 3, 179, 4, 1002, 6), (95, .istore 4, 2, 0, 0, 0, 0), (97, .iconst 0, 1, 0, 0, 0, 0), (98, .istore 5, 2, 0, 0, 0, 0), (100, .iload 5, 2, 0, 0, 0, 0), (102, .bipush 10, 2, 0, 0, 0, 0), (104, .if_icmp .ge 70, 3, 174, 0, 0, 0), (107, .iload 4, 2, 0, 0, 0, 0), (109, .ifCond .eq 38, 3, 147, 0, 0, 0), (112, .aload_n 0, 1, 0, 0, 0, 0), (113, .iload 5, 2, 0, 0, 0, 0), (115, .iload_n 1, 1, 0, 0, 0, 0), (116, .invokevirtual 180, 3, 184, 3, 1057, 6), (119, .ifCond .eq 24, 3, 143, 0, 0, 0), (122, .aload_n 0, 1, 0, 0, 0, 0), (123, .iload 5, 2, 0, 0, 0, 0), (125, .aload_n 0, 1, 0, 0, 0, 0), (126, .getfield 7, 3, 6, 0, 879, 0), (129, .iload_n 2, 1, 0, 0, 0, 0), (130, .iaload, 1, 0, 0, 0, 0), (131, .aload_n 0, 1, 0, 0, 0, 0), (132, .getfield 13, 3, 6, 1, 880, 0), (135, .iload_n 2, 1, 0, 0, 0, 0), (136, .iaload, 1, 0, 0, 0, 0), (137, .invokevirtual 184, 3, 182, 4, 1010, 6)]
def zc_X6_gone_2 : List zi_Row := [(140, .ifCond .eq 7, 3, 147, 0, 0, 0), (143, .iconst 1, 1, 0, 0, 0, 0), (144, .goto 4, 3, 148, 0, 0, 0), (147, .iconst 0, 1, 0, 0, 0, 0), (148, .istore 4, 2, 0, 0, 0, 0), (150, .iload_n 3, 1, 0, 0, 0, 0), (151, .aload_n 0, 1, 0, 0, 0, 0), (152, .iload 5, 2, 0, 0, 0, 0), (154, .iload_n 1, 1, 0, 0, 0, 0), (155, .invokevirtual 180, 3, 184, 3, 1057, 6), (158, .ifCond .eq 7, 3, 165, 0, 0, 0), (161, .iconst 1, 1, 0, 0, 0, 0), (162, .goto 4, 3, 166, 0, 0, 0), (165, .iconst 0, 1, 0, 0, 0, 0), (166, .iadd, 1, 0, 0, 0, 0), (167, .istore_n 3, 1, 0, 0, 0, 0), (168, .iinc 5 1, 3, 0, 0, 0, 0), (171, .goto (-71), 3, 100, 0, 0, 0), (174, .iload 4, 2, 0, 0, 0, 0), (176, .ifCond .ne 6, 3, 182, 0, 0, 0), (179, .ldc 187, 2, 0, 0, 1061, (-1000000002)), (181, .ireturn, 1, 0, 0, 0, 0), (182, .aload_n 0, 1, 0, 0, 0, 0), (183, .iload_n 1, 1, 0, 0, 0, 0), (184, .iconst 3, 1, 0, 0, 0, 0), (185, .iload_n 1, 1, 0, 0, 0, 0), (186, .iadd, 1, 0, 0, 0, 0), (187, .invokevirtual 201, 3, 168, 3, 1046, 6), (190, .aload_n 0, 1, 0, 0, 0, 0), (191, .getfield 67, 3, 6, 21, 900, 0), (194, .iload_n 1, 1, 0, 0, 0, 0), (195, .iload_n 3, 1, 0, 0, 0, 0), (196, .ifCond .le 7, 3, 203, 0, 0, 0), (199, .iconst 1, 1, 0, 0, 0, 0), (200, .goto 4, 3, 204, 0, 0, 0), (203, .iconst 0, 1, 0, 0, 0, 0), (204, .bastore, 1, 0, 0, 0, 0), (205, .iconst 0, 1, 0, 0, 0, 0), (206, .istore 5, 2, 0, 0, 0, 0), (208, .iload 5, 2, 0, 0, 0, 0)]
def zc_X6_gone_3 : List zi_Row := [(210, .bipush 10, 2, 0, 0, 0, 0), (212, .if_icmp .ge 153, 3, 365, 0, 0, 0), (215, .aload_n 0, 1, 0, 0, 0, 0), (216, .getfield 16, 3, 6, 2, 881, 0), (219, .iload 5, 2, 0, 0, 0, 0), (221, .iaload, 1, 0, 0, 0, 0), (222, .ifCond .le 29, 3, 251, 0, 0, 0), (225, .aload_n 0, 1, 0, 0, 0, 0), (226, .getfield 16, 3, 6, 2, 881, 0), (229, .iload 5, 2, 0, 0, 0, 0), (231, .iaload, 1, 0, 0, 0, 0), (232, .iconst 4, 1, 0, 0, 0, 0), (233, .if_icmp .eq 18, 3, 251, 0, 0, 0), (236, .aload_n 0, 1, 0, 0, 0, 0), (237, .getfield 28, 3, 6, 6, 885, 0), (240, .iload 5, 2, 0, 0, 0, 0), (242, .iaload, 1, 0, 0, 0, 0), (243, .iload_n 1, 1, 0, 0, 0, 0), (244, .if_icmp .ne 7, 3, 251, 0, 0, 0), (247, .iconst 1, 1, 0, 0, 0, 0), (248, .goto 4, 3, 252, 0, 0, 0), (251, .iconst 0, 1, 0, 0, 0, 0), (252, .istore 6, 2, 0, 0, 0, 0), (254, .aload_n 0, 1, 0, 0, 0, 0), (255, .getfield 71, 3, 6, 22, 901, 0), (258, .bipush 10, 2, 0, 0, 0, 0), (260, .iload_n 1, 1, 0, 0, 0, 0), (261, .imul, 1, 0, 0, 0, 0), (262, .iload 5, 2, 0, 0, 0, 0), (264, .iadd, 1, 0, 0, 0, 0), (265, .iload 6, 2, 0, 0, 0, 0), (267, .bastore, 1, 0, 0, 0, 0), (268, .aload_n 0, 1, 0, 0, 0, 0), (269, .getfield 74, 3, 6, 23, 902, 0), (272, .bipush 10, 2, 0, 0, 0, 0), (274, .iload_n 1, 1, 0, 0, 0, 0), (275, .imul, 1, 0, 0, 0, 0), (276, .iload 5, 2, 0, 0, 0, 0), (278, .iadd, 1, 0, 0, 0, 0), (279, .aload_n 0, 1, 0, 0, 0, 0)]
def zc_X6_gone_4 : List zi_Row := [(280, .getfield 31, 3, 6, 7, 886, 0), (283, .iload 5, 2, 0, 0, 0, 0), (285, .iaload, 1, 0, 0, 0, 0), (286, .iastore, 1, 0, 0, 0, 0), (287, .aload_n 0, 1, 0, 0, 0, 0), (288, .getfield 77, 3, 6, 24, 903, 0), (291, .bipush 10, 2, 0, 0, 0, 0), (293, .iload_n 1, 1, 0, 0, 0, 0), (294, .imul, 1, 0, 0, 0, 0), (295, .iload 5, 2, 0, 0, 0, 0), (297, .iadd, 1, 0, 0, 0, 0), (298, .aload_n 0, 1, 0, 0, 0, 0), (299, .getfield 34, 3, 6, 8, 887, 0), (302, .iload 5, 2, 0, 0, 0, 0), (304, .iaload, 1, 0, 0, 0, 0), (305, .iastore, 1, 0, 0, 0, 0), (306, .iload 6, 2, 0, 0, 0, 0), (308, .ifCond .eq 25, 3, 333, 0, 0, 0), (311, .aload_n 0, 1, 0, 0, 0, 0), (312, .getfield 16, 3, 6, 2, 881, 0), (315, .iload 5, 2, 0, 0, 0, 0), (317, .iaload, 1, 0, 0, 0, 0), (318, .iconst 1, 1, 0, 0, 0, 0), (319, .if_icmp .ne 14, 3, 333, 0, 0, 0), (322, .aload_n 0, 1, 0, 0, 0, 0), (323, .getfield 28, 3, 6, 6, 885, 0), (326, .iload 5, 2, 0, 0, 0, 0), (328, .iload_n 2, 1, 0, 0, 0, 0), (329, .iastore, 1, 0, 0, 0, 0), (330, .goto 29, 3, 359, 0, 0, 0), (333, .iload 6, 2, 0, 0, 0, 0), (335, .ifCond .eq 24, 3, 359, 0, 0, 0), (338, .aload_n 0, 1, 0, 0, 0, 0), (339, .iload 5, 2, 0, 0, 0, 0), (341, .iload_n 2, 1, 0, 0, 0, 0), (342, .aload_n 0, 1, 0, 0, 0, 0), (343, .getfield 31, 3, 6, 7, 886, 0), (346, .iload 5, 2, 0, 0, 0, 0), (348, .iaload, 1, 0, 0, 0, 0), (349, .aload_n 0, 1, 0, 0, 0, 0)]
def zc_X6_gone_5 : List zi_Row := [(350, .getfield 34, 3, 6, 8, 887, 0), (353, .iload 5, 2, 0, 0, 0, 0), (355, .iaload, 1, 0, 0, 0, 0), (356, .invokevirtual 188, 3, 183, 5, 1050, 6), (359, .iinc 5 1, 3, 0, 0, 0, 0), (362, .goto (-154), 3, 208, 0, 0, 0), (365, .aload_n 0, 1, 0, 0, 0, 0), (366, .bipush 6, 2, 0, 0, 0, 0), (368, .iload_n 2, 1, 0, 0, 0, 0), (369, .invokevirtual 201, 3, 168, 3, 1046, 6), (372, .aload_n 0, 1, 0, 0, 0, 0), (373, .iload_n 1, 1, 0, 0, 0, 0), (374, .invokevirtual 167, 3, 71, 2, 987, 6), (377, .aload_n 0, 1, 0, 0, 0, 0), (378, .getfield 7, 3, 6, 0, 879, 0), (381, .iload_n 1, 1, 0, 0, 0, 0), (382, .iconst 0, 1, 0, 0, 0, 0), (383, .iastore, 1, 0, 0, 0, 0), (384, .aload_n 0, 1, 0, 0, 0, 0), (385, .getfield 13, 3, 6, 1, 880, 0), (388, .iload_n 1, 1, 0, 0, 0, 0), (389, .iconst 0, 1, 0, 0, 0, 0), (390, .iastore, 1, 0, 0, 0, 0), (391, .iload_n 3, 1, 0, 0, 0, 0), (392, .ireturn, 1, 0, 0, 0, 0)]
def zc_X6_gone : List zi_Row := zc_X6_gone_0 ++ (zc_X6_gone_1 ++ (zc_X6_gone_2 ++ (zc_X6_gone_3 ++ (zc_X6_gone_4 ++ (zc_X6_gone_5)))))
def zc_X6_open_0 : List zi_Row := [(0, .iload_n 1, 1, 0, 0, 0, 0), (1, .iconst 1, 1, 0, 0, 0, 0), (2, .iconst 4, 1, 0, 0, 0, 0), (3, .invokestatic 101, 3, 68, 3, 983, 0), (6, .ifCond .eq 29, 3, 35, 0, 0, 0), (9, .iload_n 2, 1, 0, 0, 0, 0), (10, .iconst 1, 1, 0, 0, 0, 0), (11, .sipush 200, 3, 0, 0, 0, 0), (14, .invokestatic 101, 3, 68, 3, 983, 0), (17, .ifCond .eq 18, 3, 35, 0, 0, 0), (20, .iload_n 3, 1, 0, 0, 0, 0), (21, .iconst 1, 1, 0, 0, 0, 0), (22, .sipush 200, 3, 0, 0, 0, 0), (25, .invokestatic 101, 3, 68, 3, 983, 0), (28, .ifCond .eq 7, 3, 35, 0, 0, 0), (31, .iconst 1, 1, 0, 0, 0, 0), (32, .goto 4, 3, 36, 0, 0, 0), (35, .iconst 0, 1, 0, 0, 0, 0), (36, .istore 5, 2, 0, 0, 0, 0), (38, .iload 5, 2, 0, 0, 0, 0), (40, .ifCond .eq 26, 3, 66, 0, 0, 0), (43, .iload_n 1, 1, 0, 0, 0, 0), (44, .iconst 3, 1, 0, 0, 0, 0), (45, .if_icmp .ne 15, 3, 60, 0, 0, 0), (48, .aload_n 0, 1, 0, 0, 0, 0), (49, .iload 4, 2, 0, 0, 0, 0), (51, .invokevirtual 214, 3, 69, 2, 1086, 6), (54, .ifCond .ne 15, 3, 69, 0, 0, 0), (57, .goto 9, 3, 66, 0, 0, 0), (60, .iload 4, 2, 0, 0, 0, 0), (62, .iconst (-1), 1, 0, 0, 0, 0), (63, .if_icmp .eq 6, 3, 69, 0, 0, 0), (66, .ldc 166, 2, 0, 0, 986, (-1000000001)), (68, .ireturn, 1, 0, 0, 0, 0), (69, .aload_n 0, 1, 0, 0, 0, 0), (70, .invokevirtual 217, 3, 73, 1, 1090, 6), (73, .istore 6, 2, 0, 0, 0, 0), (75, .iload 6, 2, 0, 0, 0, 0), (77, .ifCond .ge 6, 3, 83, 0, 0, 0), (80, .ldc 221, 2, 0, 0, 1094, (-1000000003))]
def zc_X6_open_1 : List zi_Row := [(82, .ireturn, 1, 0, 0, 0, 0), (83, .iload_n 1, 1, 0, 0, 0, 0), (84, .iconst 3, 1, 0, 0, 0, 0), (85, .if_icmp .ne 28, 3, 113, 0, 0, 0), (88, .aload_n 0, 1, 0, 0, 0, 0), (89, .getfield 16, 3, 6, 2, 881, 0), (92, .iload 4, 2, 0, 0, 0, 0), (94, .iaload, 1, 0, 0, 0, 0), (95, .iconst 4, 1, 0, 0, 0, 0), (96, .if_icmp .ne 7, 3, 103, 0, 0, 0), (99, .iconst (-1), 1, 0, 0, 0, 0), (100, .goto 17, 3, 117, 0, 0, 0), (103, .aload_n 0, 1, 0, 0, 0, 0), (104, .getfield 28, 3, 6, 6, 885, 0), (107, .iload 4, 2, 0, 0, 0, 0), (109, .iaload, 1, 0, 0, 0, 0), (110, .goto 7, 3, 117, 0, 0, 0), (113, .aload_n 0, 1, 0, 0, 0, 0), (114, .invokevirtual 222, 3, 72, 1, 1095, 6), (117, .istore 7, 2, 0, 0, 0, 0), (119, .iload 7, 2, 0, 0, 0, 0), (121, .ifCond .ge 6, 3, 127, 0, 0, 0), (124, .ldc 187, 2, 0, 0, 1061, (-1000000002)), (126, .ireturn, 1, 0, 0, 0, 0), (127, .aload_n 0, 1, 0, 0, 0, 0), (128, .getfield 19, 3, 6, 3, 882, 0), (131, .iload 6, 2, 0, 0, 0, 0), (133, .iload_n 2, 1, 0, 0, 0, 0), (134, .iastore, 1, 0, 0, 0, 0), (135, .aload_n 0, 1, 0, 0, 0, 0), (136, .getfield 22, 3, 6, 4, 883, 0), (139, .iload 6, 2, 0, 0, 0, 0), (141, .iload_n 3, 1, 0, 0, 0, 0), (142, .iastore, 1, 0, 0, 0, 0), (143, .iload_n 1, 1, 0, 0, 0, 0), (144, .iconst 1, 1, 0, 0, 0, 0), (145, .if_icmp .ne 29, 3, 174, 0, 0, 0), (148, .aload_n 0, 1, 0, 0, 0, 0), (149, .iload 6, 2, 0, 0, 0, 0), (151, .iload 7, 2, 0, 0, 0, 0)]
def zc_X6_open_2 : List zi_Row := [(153, .invokevirtual 225, 3, 196, 3, 1099, 6), (156, .ifCond .ne 6, 3, 162, 0, 0, 0), (159, .ldc 187, 2, 0, 0, 1061, (-1000000002)), (161, .ireturn, 1, 0, 0, 0, 0), (162, .aload_n 0, 1, 0, 0, 0, 0), (163, .getfield 28, 3, 6, 6, 885, 0), (166, .iload 6, 2, 0, 0, 0, 0), (168, .iload 7, 2, 0, 0, 0, 0), (170, .iastore, 1, 0, 0, 0, 0), (171, .goto 34, 3, 205, 0, 0, 0), (174, .iload_n 1, 1, 0, 0, 0, 0), (175, .iconst 4, 1, 0, 0, 0, 0), (176, .if_icmp .eq 29, 3, 205, 0, 0, 0), (179, .aload_n 0, 1, 0, 0, 0, 0), (180, .iload 6, 2, 0, 0, 0, 0), (182, .aload_n 0, 1, 0, 0, 0, 0), (183, .getfield 7, 3, 6, 0, 879, 0), (186, .iload 7, 2, 0, 0, 0, 0), (188, .iaload, 1, 0, 0, 0, 0), (189, .aload_n 0, 1, 0, 0, 0, 0), (190, .getfield 13, 3, 6, 1, 880, 0), (193, .iload 7, 2, 0, 0, 0, 0), (195, .iaload, 1, 0, 0, 0, 0), (196, .invokevirtual 184, 3, 182, 4, 1010, 6), (199, .ifCond .ne 6, 3, 205, 0, 0, 0), (202, .ldc 187, 2, 0, 0, 1061, (-1000000002)), (204, .ireturn, 1, 0, 0, 0, 0), (205, .aload_n 0, 1, 0, 0, 0, 0), (206, .getfield 16, 3, 6, 2, 881, 0), (209, .iload 6, 2, 0, 0, 0, 0), (211, .iload_n 1, 1, 0, 0, 0, 0), (212, .iastore, 1, 0, 0, 0, 0), (213, .aload_n 0, 1, 0, 0, 0, 0), (214, .getfield 25, 3, 6, 5, 884, 0), (217, .iload 6, 2, 0, 0, 0, 0), (219, .iload 4, 2, 0, 0, 0, 0), (221, .iastore, 1, 0, 0, 0, 0), (222, .iload_n 1, 1, 0, 0, 0, 0), (223, .iconst 2, 1, 0, 0, 0, 0), (224, .if_icmp .ne 24, 3, 248, 0, 0, 0)]
def zc_X6_open_3 : List zi_Row := [(227, .aload_n 0, 1, 0, 0, 0, 0), (228, .iload 6, 2, 0, 0, 0, 0), (230, .iload 7, 2, 0, 0, 0, 0), (232, .bipush 10, 2, 0, 0, 0, 0), (234, .iload 6, 2, 0, 0, 0, 0), (236, .imul, 1, 0, 0, 0, 0), (237, .bipush 10, 2, 0, 0, 0, 0), (239, .iload 6, 2, 0, 0, 0, 0), (241, .imul, 1, 0, 0, 0, 0), (242, .invokevirtual 188, 3, 183, 5, 1050, 6), (245, .goto 104, 3, 349, 0, 0, 0), (248, .iload_n 1, 1, 0, 0, 0, 0), (249, .iconst 4, 1, 0, 0, 0, 0), (250, .if_icmp .ne 38, 3, 288, 0, 0, 0), (253, .aload_n 0, 1, 0, 0, 0, 0), (254, .getfield 28, 3, 6, 6, 885, 0), (257, .iload 6, 2, 0, 0, 0, 0), (259, .iconst (-1), 1, 0, 0, 0, 0), (260, .iastore, 1, 0, 0, 0, 0), (261, .aload_n 0, 1, 0, 0, 0, 0), (262, .getfield 31, 3, 6, 7, 886, 0), (265, .iload 6, 2, 0, 0, 0, 0), (267, .bipush 10, 2, 0, 0, 0, 0), (269, .iload 6, 2, 0, 0, 0, 0), (271, .imul, 1, 0, 0, 0, 0), (272, .iastore, 1, 0, 0, 0, 0), (273, .aload_n 0, 1, 0, 0, 0, 0), (274, .getfield 34, 3, 6, 8, 887, 0), (277, .iload 6, 2, 0, 0, 0, 0), (279, .bipush 10, 2, 0, 0, 0, 0), (281, .iload 6, 2, 0, 0, 0, 0), (283, .imul, 1, 0, 0, 0, 0), (284, .iastore, 1, 0, 0, 0, 0), (285, .goto 64, 3, 349, 0, 0, 0), (288, .iload_n 1, 1, 0, 0, 0, 0), (289, .iconst 3, 1, 0, 0, 0, 0), (290, .if_icmp .ne 59, 3, 349, 0, 0, 0), (293, .aload_n 0, 1, 0, 0, 0, 0), (294, .iload 4, 2, 0, 0, 0, 0), (296, .iconst 1, 1, 0, 0, 0, 0)]
def zc_X6_open_4 : List zi_Row := [(297, .invokevirtual 228, 3, 202, 3, 1119, 6), (300, .aload_n 0, 1, 0, 0, 0, 0), (301, .iload 4, 2, 0, 0, 0, 0), (303, .iconst 3, 1, 0, 0, 0, 0), (304, .invokevirtual 228, 3, 202, 3, 1119, 6), (307, .iload_n 2, 1, 0, 0, 0, 0), (308, .isub, 1, 0, 0, 0, 0), (309, .invokestatic 231, 3, 165, 1, 1128, 0), (312, .iadd, 1, 0, 0, 0, 0), (313, .istore 8, 2, 0, 0, 0, 0), (315, .aload_n 0, 1, 0, 0, 0, 0), (316, .iload 4, 2, 0, 0, 0, 0), (318, .iconst 2, 1, 0, 0, 0, 0), (319, .invokevirtual 228, 3, 202, 3, 1119, 6), (322, .aload_n 0, 1, 0, 0, 0, 0), (323, .iload 4, 2, 0, 0, 0, 0), (325, .iconst 4, 1, 0, 0, 0, 0), (326, .invokevirtual 228, 3, 202, 3, 1119, 6), (329, .iload_n 3, 1, 0, 0, 0, 0), (330, .isub, 1, 0, 0, 0, 0), (331, .invokestatic 231, 3, 165, 1, 1128, 0), (334, .iadd, 1, 0, 0, 0, 0), (335, .istore 9, 2, 0, 0, 0, 0), (337, .aload_n 0, 1, 0, 0, 0, 0), (338, .iload 6, 2, 0, 0, 0, 0), (340, .iload 7, 2, 0, 0, 0, 0), (342, .iload 8, 2, 0, 0, 0, 0), (344, .iload 9, 2, 0, 0, 0, 0), (346, .invokevirtual 188, 3, 183, 5, 1050, 6), (349, .aload_n 0, 1, 0, 0, 0, 0), (350, .iload 6, 2, 0, 0, 0, 0), (352, .invokevirtual 234, 3, 188, 2, 1131, 6), (355, .iload 6, 2, 0, 0, 0, 0), (357, .ireturn, 1, 0, 0, 0, 0)]
def zc_X6_open : List zi_Row := zc_X6_open_0 ++ (zc_X6_open_1 ++ (zc_X6_open_2 ++ (zc_X6_open_3 ++ (zc_X6_open_4))))
def zc_X6_close_0 : List zi_Row := [(0, .aload_n 0, 1, 0, 0, 0, 0), (1, .iload_n 1, 1, 0, 0, 0, 0), (2, .invokevirtual 214, 3, 69, 2, 1086, 6), (5, .ifCond .eq 11, 3, 16, 0, 0, 0), (8, .aload_n 0, 1, 0, 0, 0, 0), (9, .iload_n 1, 1, 0, 0, 0, 0), (10, .invokevirtual 250, 3, 198, 2, 1152, 6), (13, .goto 5, 3, 18, 0, 0, 0), (16, .ldc 166, 2, 0, 0, 986, (-1000000001)), (18, .ireturn, 1, 0, 0, 0, 0)]
def zc_X6_close : List zi_Row := zc_X6_close_0
def zc_X6_focus_0 : List zi_Row := [(0, .aload_n 0, 1, 0, 0, 0, 0), (1, .iload_n 1, 1, 0, 0, 0, 0), (2, .invokevirtual 214, 3, 69, 2, 1086, 6), (5, .ifCond .ne 6, 3, 11, 0, 0, 0), (8, .ldc 166, 2, 0, 0, 986, (-1000000001)), (10, .ireturn, 1, 0, 0, 0, 0), (11, .aload_n 0, 1, 0, 0, 0, 0), (12, .getfield 40, 3, 6, 11, 890, 0), (15, .iconst 0, 1, 0, 0, 0, 0), (16, .iaload, 1, 0, 0, 0, 0), (17, .istore_n 2, 1, 0, 0, 0, 0), (18, .aload_n 0, 1, 0, 0, 0, 0), (19, .iload_n 1, 1, 0, 0, 0, 0), (20, .invokevirtual 234, 3, 188, 2, 1131, 6), (23, .iload_n 2, 1, 0, 0, 0, 0), (24, .ireturn, 1, 0, 0, 0, 0)]
def zc_X6_focus : List zi_Row := zc_X6_focus_0
def zc_X6_back_0 : List zi_Row := [(0, .aload_n 0, 1, 0, 0, 0, 0), (1, .getfield 160, 3, 6, 12, 891, 0), (4, .iconst 2, 1, 0, 0, 0, 0), (5, .if_icmp .ge 6, 3, 11, 0, 0, 0), (8, .ldc 187, 2, 0, 0, 1061, (-1000000002)), (10, .ireturn, 1, 0, 0, 0, 0), (11, .aload_n 0, 1, 0, 0, 0, 0), (12, .getfield 40, 3, 6, 11, 890, 0), (15, .iconst 1, 1, 0, 0, 0, 0), (16, .iaload, 1, 0, 0, 0, 0), (17, .istore_n 1, 1, 0, 0, 0, 0), (18, .aload_n 0, 1, 0, 0, 0, 0), (19, .iload_n 1, 1, 0, 0, 0, 0), (20, .invokevirtual 234, 3, 188, 2, 1131, 6), (23, .iload_n 1, 1, 0, 0, 0, 0), (24, .ireturn, 1, 0, 0, 0, 0)]
def zc_X6_back : List zi_Row := zc_X6_back_0
def zc_X6_toward_0 : List zi_Row := [(0, .iload_n 1, 1, 0, 0, 0, 0), (1, .iconst 0, 1, 0, 0, 0, 0), (2, .iconst 3, 1, 0, 0, 0, 0), (3, .invokestatic 101, 3, 68, 3, 983, 0), (6, .ifCond .ne 6, 3, 12, 0, 0, 0), (9, .ldc 166, 2, 0, 0, 986, (-1000000001)), (11, .ireturn, 1, 0, 0, 0, 0), (12, .aload_n 0, 1, 0, 0, 0, 0), (13, .getfield 160, 3, 6, 12, 891, 0), (16, .ifCond .eq 16, 3, 32, 0, 0, 0), (19, .aload_n 0, 1, 0, 0, 0, 0), (20, .aload_n 0, 1, 0, 0, 0, 0), (21, .getfield 40, 3, 6, 11, 890, 0), (24, .iconst 0, 1, 0, 0, 0, 0), (25, .iaload, 1, 0, 0, 0, 0), (26, .invokevirtual 253, 3, 199, 2, 1172, 6), (29, .ifCond .ne 6, 3, 35, 0, 0, 0), (32, .ldc 187, 2, 0, 0, 1061, (-1000000002)), (34, .ireturn, 1, 0, 0, 0, 0), (35, .aload_n 0, 1, 0, 0, 0, 0), (36, .aload_n 0, 1, 0, 0, 0, 0), (37, .getfield 40, 3, 6, 11, 890, 0), (40, .iconst 0, 1, 0, 0, 0, 0), (41, .iaload, 1, 0, 0, 0, 0), (42, .iload_n 1, 1, 0, 0, 0, 0), (43, .invokevirtual 260, 3, 201, 3, 1176, 6), (46, .istore_n 2, 1, 0, 0, 0, 0), (47, .iload_n 2, 1, 0, 0, 0, 0), (48, .ifCond .ge 7, 3, 55, 0, 0, 0), (51, .ldc_w 263, 3, 0, 0, 1123, (-1000000005)), (54, .ireturn, 1, 0, 0, 0, 0), (55, .aload_n 0, 1, 0, 0, 0, 0), (56, .iload_n 2, 1, 0, 0, 0, 0), (57, .invokevirtual 234, 3, 188, 2, 1131, 6), (60, .iload_n 2, 1, 0, 0, 0, 0), (61, .ireturn, 1, 0, 0, 0, 0)]
def zc_X6_toward : List zi_Row := zc_X6_toward_0
def zc_X6_steps_0 : List zi_Row := [(0, .aload_n 0, 1, 0, 0, 0, 0), (1, .iload_n 1, 1, 0, 0, 0, 0), (2, .invokevirtual 214, 3, 69, 2, 1086, 6), (5, .ifCond .eq 11, 3, 16, 0, 0, 0), (8, .aload_n 0, 1, 0, 0, 0, 0), (9, .iload_n 2, 1, 0, 0, 0, 0), (10, .invokevirtual 214, 3, 69, 2, 1086, 6), (13, .ifCond .ne 6, 3, 19, 0, 0, 0), (16, .ldc 166, 2, 0, 0, 986, (-1000000001)), (18, .ireturn, 1, 0, 0, 0, 0), (19, .aload_n 0, 1, 0, 0, 0, 0), (20, .iload_n 1, 1, 0, 0, 0, 0), (21, .invokevirtual 253, 3, 199, 2, 1172, 6), (24, .ifCond .eq 11, 3, 35, 0, 0, 0), (27, .aload_n 0, 1, 0, 0, 0, 0), (28, .iload_n 2, 1, 0, 0, 0, 0), (29, .invokevirtual 253, 3, 199, 2, 1172, 6), (32, .ifCond .ne 6, 3, 38, 0, 0, 0), (35, .ldc 187, 2, 0, 0, 1061, (-1000000002)), (37, .ireturn, 1, 0, 0, 0, 0), (38, .iconst 0, 1, 0, 0, 0, 0), (39, .istore_n 3, 1, 0, 0, 0, 0), (40, .iload_n 3, 1, 0, 0, 0, 0), (41, .bipush 10, 2, 0, 0, 0, 0), (43, .if_icmp .ge 25, 3, 68, 0, 0, 0), (46, .aload_n 0, 1, 0, 0, 0, 0), (47, .getfield 98, 3, 6, 32, 911, 0), (50, .iload_n 3, 1, 0, 0, 0, 0), (51, .iload_n 3, 1, 0, 0, 0, 0), (52, .iload_n 1, 1, 0, 0, 0, 0), (53, .if_icmp .ne 7, 3, 60, 0, 0, 0), (56, .iconst 0, 1, 0, 0, 0, 0), (57, .goto 4, 3, 61, 0, 0, 0), (60, .iconst (-1), 1, 0, 0, 0, 0), (61, .iastore, 1, 0, 0, 0, 0), (62, .iinc 3 1, 3, 0, 0, 0, 0), (65, .goto (-25), 3, 40, 0, 0, 0), (68, .iconst 0, 1, 0, 0, 0, 0), (69, .istore_n 3, 1, 0, 0, 0, 0), (70, .iload_n 3, 1, 0, 0, 0, 0)]
def zc_X6_steps_1 : List zi_Row := [(71, .bipush 10, 2, 0, 0, 0, 0), (73, .if_icmp .ge 86, 3, 159, 0, 0, 0), (76, .iconst 0, 1, 0, 0, 0, 0), (77, .istore 4, 2, 0, 0, 0, 0), (79, .iload 4, 2, 0, 0, 0, 0), (81, .bipush 10, 2, 0, 0, 0, 0), (83, .if_icmp .ge 70, 3, 153, 0, 0, 0), (86, .iconst 0, 1, 0, 0, 0, 0), (87, .istore 5, 2, 0, 0, 0, 0), (89, .iload 5, 2, 0, 0, 0, 0), (91, .iconst 4, 1, 0, 0, 0, 0), (92, .if_icmp .ge 55, 3, 147, 0, 0, 0), (95, .aload_n 0, 1, 0, 0, 0, 0), (96, .getfield 98, 3, 6, 32, 911, 0), (99, .iload 4, 2, 0, 0, 0, 0), (101, .iaload, 1, 0, 0, 0, 0), (102, .iload_n 3, 1, 0, 0, 0, 0), (103, .if_icmp .ne 44, 3, 147, 0, 0, 0), (106, .aload_n 0, 1, 0, 0, 0, 0), (107, .iload 4, 2, 0, 0, 0, 0), (109, .iload 5, 2, 0, 0, 0, 0), (111, .invokevirtual 260, 3, 201, 3, 1176, 6), (114, .istore 6, 2, 0, 0, 0, 0), (116, .iload 6, 2, 0, 0, 0, 0), (118, .ifCond .lt 23, 3, 141, 0, 0, 0), (121, .aload_n 0, 1, 0, 0, 0, 0), (122, .getfield 98, 3, 6, 32, 911, 0), (125, .iload 6, 2, 0, 0, 0, 0), (127, .iaload, 1, 0, 0, 0, 0), (128, .ifCond .ge 13, 3, 141, 0, 0, 0), (131, .aload_n 0, 1, 0, 0, 0, 0), (132, .getfield 98, 3, 6, 32, 911, 0), (135, .iload 6, 2, 0, 0, 0, 0), (137, .iload_n 3, 1, 0, 0, 0, 0), (138, .iconst 1, 1, 0, 0, 0, 0), (139, .iadd, 1, 0, 0, 0, 0), (140, .iastore, 1, 0, 0, 0, 0), (141, .iinc 5 1, 3, 0, 0, 0, 0), (144, .goto (-55), 3, 89, 0, 0, 0), (147, .iinc 4 1, 3, 0, 0, 0, 0)]
def zc_X6_steps_2 : List zi_Row := [(150, .goto (-71), 3, 79, 0, 0, 0), (153, .iinc 3 1, 3, 0, 0, 0, 0), (156, .goto (-86), 3, 70, 0, 0, 0), (159, .aload_n 0, 1, 0, 0, 0, 0), (160, .getfield 98, 3, 6, 32, 911, 0), (163, .iload_n 2, 1, 0, 0, 0, 0), (164, .iaload, 1, 0, 0, 0, 0), (165, .ifCond .ge 9, 3, 174, 0, 0, 0), (168, .ldc_w 263, 3, 0, 0, 1123, (-1000000005)), (171, .goto 9, 3, 180, 0, 0, 0), (174, .aload_n 0, 1, 0, 0, 0, 0), (175, .getfield 98, 3, 6, 32, 911, 0), (178, .iload_n 2, 1, 0, 0, 0, 0), (179, .iaload, 1, 0, 0, 0, 0), (180, .ireturn, 1, 0, 0, 0, 0)]
def zc_X6_steps : List zi_Row := zc_X6_steps_0 ++ (zc_X6_steps_1 ++ (zc_X6_steps_2))
def zc_X6_drag_0 : List zi_Row := [(0, .aload_n 0, 1, 0, 0, 0, 0), (1, .iload_n 1, 1, 0, 0, 0, 0), (2, .invokevirtual 214, 3, 69, 2, 1086, 6), (5, .ifCond .eq 25, 3, 30, 0, 0, 0), (8, .aload_n 0, 1, 0, 0, 0, 0), (9, .iload_n 2, 1, 0, 0, 0, 0), (10, .invokevirtual 214, 3, 69, 2, 1086, 6), (13, .ifCond .eq 17, 3, 30, 0, 0, 0), (16, .iload_n 1, 1, 0, 0, 0, 0), (17, .iload_n 2, 1, 0, 0, 0, 0), (18, .if_icmp .eq 12, 3, 30, 0, 0, 0), (21, .iload_n 3, 1, 0, 0, 0, 0), (22, .iconst 0, 1, 0, 0, 0, 0), (23, .iconst 4, 1, 0, 0, 0, 0), (24, .invokestatic 101, 3, 68, 3, 983, 0), (27, .ifCond .ne 6, 3, 33, 0, 0, 0), (30, .ldc 166, 2, 0, 0, 986, (-1000000001)), (32, .ireturn, 1, 0, 0, 0, 0), (33, .aload_n 0, 1, 0, 0, 0, 0), (34, .getfield 16, 3, 6, 2, 881, 0), (37, .iload_n 1, 1, 0, 0, 0, 0), (38, .iaload, 1, 0, 0, 0, 0), (39, .iconst 1, 1, 0, 0, 0, 0), (40, .if_icmp .ne 13, 3, 53, 0, 0, 0), (43, .aload_n 0, 1, 0, 0, 0, 0), (44, .getfield 16, 3, 6, 2, 881, 0), (47, .iload_n 2, 1, 0, 0, 0, 0), (48, .iaload, 1, 0, 0, 0, 0), (49, .iconst 1, 1, 0, 0, 0, 0), (50, .if_icmp .eq 6, 3, 56, 0, 0, 0), (53, .ldc 187, 2, 0, 0, 1061, (-1000000002)), (55, .ireturn, 1, 0, 0, 0, 0), (56, .aload_n 0, 1, 0, 0, 0, 0), (57, .getfield 28, 3, 6, 6, 885, 0), (60, .iload_n 1, 1, 0, 0, 0, 0), (61, .iaload, 1, 0, 0, 0, 0), (62, .istore 4, 2, 0, 0, 0, 0), (64, .aload_n 0, 1, 0, 0, 0, 0), (65, .getfield 28, 3, 6, 6, 885, 0), (68, .iload_n 2, 1, 0, 0, 0, 0)]
def zc_X6_drag_1 : List zi_Row := [(69, .iaload, 1, 0, 0, 0, 0), (70, .istore 5, 2, 0, 0, 0, 0), (72, .aload_n 0, 1, 0, 0, 0, 0), (73, .iload 5, 2, 0, 0, 0, 0), (75, .bipush 6, 2, 0, 0, 0, 0), (77, .invokevirtual 201, 3, 168, 3, 1046, 6), (80, .iload 4, 2, 0, 0, 0, 0), (82, .iload 5, 2, 0, 0, 0, 0), (84, .if_icmp .ne 10, 3, 94, 0, 0, 0), (87, .aload_n 0, 1, 0, 0, 0, 0), (88, .bipush 6, 2, 0, 0, 0, 0), (90, .iload_n 1, 1, 0, 0, 0, 0), (91, .invokevirtual 197, 3, 176, 3, 1026, 6), (94, .aload_n 0, 1, 0, 0, 0, 0), (95, .bipush 6, 2, 0, 0, 0, 0), (97, .iload_n 2, 1, 0, 0, 0, 0), (98, .invokevirtual 116, 3, 173, 3, 1030, 6), (101, .istore 6, 2, 0, 0, 0, 0), (103, .iload_n 3, 1, 0, 0, 0, 0), (104, .iconst 4, 1, 0, 0, 0, 0), (105, .if_icmp .ne 15, 3, 120, 0, 0, 0), (108, .aload_n 0, 1, 0, 0, 0, 0), (109, .bipush 6, 2, 0, 0, 0, 0), (111, .iload 6, 2, 0, 0, 0, 0), (113, .iload_n 1, 1, 0, 0, 0, 0), (114, .invokevirtual 210, 3, 171, 4, 1078, 6), (117, .goto 33, 3, 150, 0, 0, 0), (120, .aload_n 0, 1, 0, 0, 0, 0), (121, .bipush 6, 2, 0, 0, 0, 0), (123, .iload 6, 2, 0, 0, 0, 0), (125, .iload_n 3, 1, 0, 0, 0, 0), (126, .iconst 2, 1, 0, 0, 0, 0), (127, .if_icmp .ge 7, 3, 134, 0, 0, 0), (130, .iconst 2, 1, 0, 0, 0, 0), (131, .goto 4, 3, 135, 0, 0, 0), (134, .iconst 3, 1, 0, 0, 0, 0), (135, .iload_n 1, 1, 0, 0, 0, 0), (136, .iload_n 3, 1, 0, 0, 0, 0), (137, .iconst 2, 1, 0, 0, 0, 0), (138, .irem, 1, 0, 0, 0, 0)]
def zc_X6_drag_2 : List zi_Row := [(139, .ifCond .ne 7, 3, 146, 0, 0, 0), (142, .iconst 1, 1, 0, 0, 0, 0), (143, .goto 4, 3, 147, 0, 0, 0), (146, .iconst 0, 1, 0, 0, 0, 0), (147, .invokevirtual 243, 3, 177, 6, 1115, 6), (150, .iconst 0, 1, 0, 0, 0, 0), (151, .istore 7, 2, 0, 0, 0, 0), (153, .iload 7, 2, 0, 0, 0, 0), (155, .bipush 10, 2, 0, 0, 0, 0), (157, .if_icmp .ge 27, 3, 184, 0, 0, 0), (160, .aload_n 0, 1, 0, 0, 0, 0), (161, .getfield 95, 3, 6, 31, 910, 0), (164, .iload 7, 2, 0, 0, 0, 0), (166, .iload 7, 2, 0, 0, 0, 0), (168, .iload_n 1, 1, 0, 0, 0, 0), (169, .if_icmp .ne 7, 3, 176, 0, 0, 0), (172, .iconst 1, 1, 0, 0, 0, 0), (173, .goto 4, 3, 177, 0, 0, 0), (176, .iconst 0, 1, 0, 0, 0, 0), (177, .bastore, 1, 0, 0, 0, 0), (178, .iinc 7 1, 3, 0, 0, 0, 0), (181, .goto (-28), 3, 153, 0, 0, 0), (184, .aload_n 0, 1, 0, 0, 0, 0), (185, .invokevirtual 191, 3, 190, 1, 998, 6), (188, .aload_n 0, 1, 0, 0, 0, 0), (189, .bipush 6, 2, 0, 0, 0, 0), (191, .aload_n 0, 1, 0, 0, 0, 0), (192, .getfield 7, 3, 6, 0, 879, 0), (195, .iload 5, 2, 0, 0, 0, 0), (197, .iaload, 1, 0, 0, 0, 0), (198, .aload_n 0, 1, 0, 0, 0, 0), (199, .getfield 13, 3, 6, 1, 880, 0), (202, .iload 5, 2, 0, 0, 0, 0), (204, .iaload, 1, 0, 0, 0, 0), (205, .invokevirtual 177, 3, 179, 4, 1002, 6), (208, .istore 7, 2, 0, 0, 0, 0), (210, .iconst 0, 1, 0, 0, 0, 0), (211, .istore 8, 2, 0, 0, 0, 0), (213, .iload 8, 2, 0, 0, 0, 0), (215, .bipush 10, 2, 0, 0, 0, 0)]
def zc_X6_drag_3 : List zi_Row := [(217, .if_icmp .ge 67, 3, 284, 0, 0, 0), (220, .iload 4, 2, 0, 0, 0, 0), (222, .iload 5, 2, 0, 0, 0, 0), (224, .if_icmp .eq 60, 3, 284, 0, 0, 0), (227, .iload 7, 2, 0, 0, 0, 0), (229, .ifCond .eq 46, 3, 275, 0, 0, 0), (232, .aload_n 0, 1, 0, 0, 0, 0), (233, .getfield 95, 3, 6, 31, 910, 0), (236, .iload 8, 2, 0, 0, 0, 0), (238, .baload, 1, 0, 0, 0, 0), (239, .ifCond .eq 32, 3, 271, 0, 0, 0), (242, .iload 8, 2, 0, 0, 0, 0), (244, .iload_n 1, 1, 0, 0, 0, 0), (245, .if_icmp .eq 26, 3, 271, 0, 0, 0), (248, .aload_n 0, 1, 0, 0, 0, 0), (249, .iload 8, 2, 0, 0, 0, 0), (251, .aload_n 0, 1, 0, 0, 0, 0), (252, .getfield 7, 3, 6, 0, 879, 0), (255, .iload 5, 2, 0, 0, 0, 0), (257, .iaload, 1, 0, 0, 0, 0), (258, .aload_n 0, 1, 0, 0, 0, 0), (259, .getfield 13, 3, 6, 1, 880, 0), (262, .iload 5, 2, 0, 0, 0, 0), (264, .iaload, 1, 0, 0, 0, 0), (265, .invokevirtual 184, 3, 182, 4, 1010, 6), (268, .ifCond .eq 7, 3, 275, 0, 0, 0), (271, .iconst 1, 1, 0, 0, 0, 0), (272, .goto 4, 3, 276, 0, 0, 0), (275, .iconst 0, 1, 0, 0, 0, 0), (276, .istore 7, 2, 0, 0, 0, 0), (278, .iinc 8 1, 3, 0, 0, 0, 0), (281, .goto (-68), 3, 213, 0, 0, 0), (284, .iload 7, 2, 0, 0, 0, 0), (286, .ifCond .ne 6, 3, 292, 0, 0, 0), (289, .ldc 187, 2, 0, 0, 1061, (-1000000002)), (291, .ireturn, 1, 0, 0, 0, 0), (292, .aload_n 0, 1, 0, 0, 0, 0), (293, .iload_n 1, 1, 0, 0, 0, 0), (294, .invokevirtual 247, 3, 189, 2, 1156, 6), (297, .iload 4, 2, 0, 0, 0, 0)]
def zc_X6_drag_4 : List zi_Row := [(299, .iload 5, 2, 0, 0, 0, 0), (301, .if_icmp .eq 10, 3, 311, 0, 0, 0), (304, .aload_n 0, 1, 0, 0, 0, 0), (305, .iload 4, 2, 0, 0, 0, 0), (307, .iload_n 1, 1, 0, 0, 0, 0), (308, .invokevirtual 197, 3, 176, 3, 1026, 6), (311, .aload_n 0, 1, 0, 0, 0, 0), (312, .bipush 6, 2, 0, 0, 0, 0), (314, .iload 5, 2, 0, 0, 0, 0), (316, .invokevirtual 201, 3, 168, 3, 1046, 6), (319, .aload_n 0, 1, 0, 0, 0, 0), (320, .getfield 28, 3, 6, 6, 885, 0), (323, .iload_n 1, 1, 0, 0, 0, 0), (324, .iload 5, 2, 0, 0, 0, 0), (326, .iastore, 1, 0, 0, 0, 0), (327, .iconst 0, 1, 0, 0, 0, 0), (328, .istore 8, 2, 0, 0, 0, 0), (330, .iload 8, 2, 0, 0, 0, 0), (332, .bipush 10, 2, 0, 0, 0, 0), (334, .if_icmp .ge 60, 3, 394, 0, 0, 0), (337, .iload 4, 2, 0, 0, 0, 0), (339, .iload 5, 2, 0, 0, 0, 0), (341, .if_icmp .eq 53, 3, 394, 0, 0, 0), (344, .aload_n 0, 1, 0, 0, 0, 0), (345, .getfield 95, 3, 6, 31, 910, 0), (348, .iload 8, 2, 0, 0, 0, 0), (350, .baload, 1, 0, 0, 0, 0), (351, .ifCond .eq 37, 3, 388, 0, 0, 0), (354, .iload 8, 2, 0, 0, 0, 0), (356, .iload_n 1, 1, 0, 0, 0, 0), (357, .if_icmp .eq 31, 3, 388, 0, 0, 0), (360, .aload_n 0, 1, 0, 0, 0, 0), (361, .iload 8, 2, 0, 0, 0, 0), (363, .iload 5, 2, 0, 0, 0, 0), (365, .aload_n 0, 1, 0, 0, 0, 0), (366, .getfield 31, 3, 6, 7, 886, 0), (369, .iload 8, 2, 0, 0, 0, 0), (371, .iaload, 1, 0, 0, 0, 0), (372, .aload_n 0, 1, 0, 0, 0, 0), (373, .getfield 34, 3, 6, 8, 887, 0)]
def zc_X6_drag_5 : List zi_Row := [(376, .iload 8, 2, 0, 0, 0, 0), (378, .iaload, 1, 0, 0, 0, 0), (379, .invokevirtual 188, 3, 183, 5, 1050, 6), (382, .aload_n 0, 1, 0, 0, 0, 0), (383, .iload 8, 2, 0, 0, 0, 0), (385, .invokevirtual 247, 3, 189, 2, 1156, 6), (388, .iinc 8 1, 3, 0, 0, 0, 0), (391, .goto (-61), 3, 330, 0, 0, 0), (394, .aload_n 0, 1, 0, 0, 0, 0), (395, .iload_n 1, 1, 0, 0, 0, 0), (396, .invokevirtual 234, 3, 188, 2, 1131, 6), (399, .iconst 0, 1, 0, 0, 0, 0), (400, .ireturn, 1, 0, 0, 0, 0)]
def zc_X6_drag : List zi_Row := zc_X6_drag_0 ++ (zc_X6_drag_1 ++ (zc_X6_drag_2 ++ (zc_X6_drag_3 ++ (zc_X6_drag_4 ++ (zc_X6_drag_5)))))
def zc_X6_move_0 : List zi_Row := [(0, .aload_n 0, 1, 0, 0, 0, 0), (1, .iload_n 1, 1, 0, 0, 0, 0), (2, .invokevirtual 214, 3, 69, 2, 1086, 6), (5, .ifCond .eq 29, 3, 34, 0, 0, 0), (8, .iload_n 2, 1, 0, 0, 0, 0), (9, .sipush (-1000), 3, 0, 0, 0, 0), (12, .sipush 1000, 3, 0, 0, 0, 0), (15, .invokestatic 101, 3, 68, 3, 983, 0), (18, .ifCond .eq 16, 3, 34, 0, 0, 0), (21, .iload_n 3, 1, 0, 0, 0, 0), (22, .sipush (-1000), 3, 0, 0, 0, 0), (25, .sipush 1000, 3, 0, 0, 0, 0), (28, .invokestatic 101, 3, 68, 3, 983, 0), (31, .ifCond .ne 6, 3, 37, 0, 0, 0), (34, .ldc 166, 2, 0, 0, 986, (-1000000001)), (36, .ireturn, 1, 0, 0, 0, 0), (37, .aload_n 0, 1, 0, 0, 0, 0), (38, .iload_n 1, 1, 0, 0, 0, 0), (39, .invokevirtual 147, 3, 167, 2, 1124, 6), (42, .ifCond .ne 6, 3, 48, 0, 0, 0), (45, .ldc 187, 2, 0, 0, 1061, (-1000000002)), (47, .ireturn, 1, 0, 0, 0, 0), (48, .aload_n 0, 1, 0, 0, 0, 0), (49, .getfield 16, 3, 6, 2, 881, 0), (52, .iload_n 1, 1, 0, 0, 0, 0), (53, .iaload, 1, 0, 0, 0, 0), (54, .iconst 4, 1, 0, 0, 0, 0), (55, .if_icmp .ne 32, 3, 87, 0, 0, 0), (58, .aload_n 0, 1, 0, 0, 0, 0), (59, .getfield 31, 3, 6, 7, 886, 0), (62, .iload_n 1, 1, 0, 0, 0, 0), (63, .iload_n 2, 1, 0, 0, 0, 0), (64, .sipush 400, 3, 0, 0, 0, 0), (67, .invokestatic 141, 3, 166, 2, 1054, 0), (70, .iastore, 1, 0, 0, 0, 0), (71, .aload_n 0, 1, 0, 0, 0, 0), (72, .getfield 34, 3, 6, 8, 887, 0), (75, .iload_n 1, 1, 0, 0, 0, 0), (76, .iload_n 3, 1, 0, 0, 0, 0), (77, .sipush 400, 3, 0, 0, 0, 0)]
def zc_X6_move_1 : List zi_Row := [(80, .invokestatic 141, 3, 166, 2, 1054, 0), (83, .iastore, 1, 0, 0, 0, 0), (84, .goto 16, 3, 100, 0, 0, 0), (87, .aload_n 0, 1, 0, 0, 0, 0), (88, .iload_n 1, 1, 0, 0, 0, 0), (89, .aload_n 0, 1, 0, 0, 0, 0), (90, .getfield 28, 3, 6, 6, 885, 0), (93, .iload_n 1, 1, 0, 0, 0, 0), (94, .iaload, 1, 0, 0, 0, 0), (95, .iload_n 2, 1, 0, 0, 0, 0), (96, .iload_n 3, 1, 0, 0, 0, 0), (97, .invokevirtual 188, 3, 183, 5, 1050, 6), (100, .aload_n 0, 1, 0, 0, 0, 0), (101, .iload_n 1, 1, 0, 0, 0, 0), (102, .invokevirtual 247, 3, 189, 2, 1156, 6), (105, .iconst 0, 1, 0, 0, 0, 0), (106, .ireturn, 1, 0, 0, 0, 0)]
def zc_X6_move : List zi_Row := zc_X6_move_0 ++ (zc_X6_move_1)
def zc_X6_share_0 : List zi_Row := [(0, .aload_n 0, 1, 0, 0, 0, 0), (1, .iload_n 1, 1, 0, 0, 0, 0), (2, .invokevirtual 214, 3, 69, 2, 1086, 6), (5, .ifCond .eq 23, 3, 28, 0, 0, 0), (8, .iload_n 2, 1, 0, 0, 0, 0), (9, .iconst 0, 1, 0, 0, 0, 0), (10, .iconst 1, 1, 0, 0, 0, 0), (11, .invokestatic 101, 3, 68, 3, 983, 0), (14, .ifCond .eq 14, 3, 28, 0, 0, 0), (17, .iload_n 3, 1, 0, 0, 0, 0), (18, .bipush 10, 2, 0, 0, 0, 0), (20, .bipush 90, 2, 0, 0, 0, 0), (22, .invokestatic 101, 3, 68, 3, 983, 0), (25, .ifCond .ne 6, 3, 31, 0, 0, 0), (28, .ldc 166, 2, 0, 0, 986, (-1000000001)), (30, .ireturn, 1, 0, 0, 0, 0), (31, .aload_n 0, 1, 0, 0, 0, 0), (32, .getfield 16, 3, 6, 2, 881, 0), (35, .iload_n 1, 1, 0, 0, 0, 0), (36, .iaload, 1, 0, 0, 0, 0), (37, .iconst 1, 1, 0, 0, 0, 0), (38, .if_icmp .eq 6, 3, 44, 0, 0, 0), (41, .ldc 187, 2, 0, 0, 1061, (-1000000002)), (43, .ireturn, 1, 0, 0, 0, 0), (44, .aload_n 0, 1, 0, 0, 0, 0), (45, .getfield 28, 3, 6, 6, 885, 0), (48, .iload_n 1, 1, 0, 0, 0, 0), (49, .iaload, 1, 0, 0, 0, 0), (50, .istore 4, 2, 0, 0, 0, 0), (52, .aload_n 0, 1, 0, 0, 0, 0), (53, .iload 4, 2, 0, 0, 0, 0), (55, .aload_n 0, 1, 0, 0, 0, 0), (56, .iload 4, 2, 0, 0, 0, 0), (58, .iload_n 1, 1, 0, 0, 0, 0), (59, .invokevirtual 116, 3, 173, 3, 1030, 6), (62, .invokevirtual 119, 3, 174, 3, 1038, 6), (65, .istore 5, 2, 0, 0, 0, 0), (67, .iload 5, 2, 0, 0, 0, 0), (69, .ifCond .lt 40, 3, 109, 0, 0, 0), (72, .aload_n 0, 1, 0, 0, 0, 0)]
def zc_X6_share_1 : List zi_Row := [(73, .getfield 46, 3, 6, 14, 893, 0), (76, .iload 4, 2, 0, 0, 0, 0), (78, .iload 5, 2, 0, 0, 0, 0), (80, .invokestatic 105, 3, 70, 2, 991, 0), (83, .iaload, 1, 0, 0, 0, 0), (84, .iload_n 2, 1, 0, 0, 0, 0), (85, .ifCond .ne 7, 3, 92, 0, 0, 0), (88, .iconst 2, 1, 0, 0, 0, 0), (89, .goto 4, 3, 93, 0, 0, 0), (92, .iconst 3, 1, 0, 0, 0, 0), (93, .if_icmp .eq 16, 3, 109, 0, 0, 0), (96, .aload_n 0, 1, 0, 0, 0, 0), (97, .iload 4, 2, 0, 0, 0, 0), (99, .iload 5, 2, 0, 0, 0, 0), (101, .invokevirtual 119, 3, 174, 3, 1038, 6), (104, .istore 5, 2, 0, 0, 0, 0), (106, .goto (-39), 3, 67, 0, 0, 0), (109, .iload 5, 2, 0, 0, 0, 0), (111, .ifCond .ge 6, 3, 117, 0, 0, 0), (114, .ldc 187, 2, 0, 0, 1061, (-1000000002)), (116, .ireturn, 1, 0, 0, 0, 0), (117, .aload_n 0, 1, 0, 0, 0, 0), (118, .getfield 55, 3, 6, 17, 896, 0), (121, .iload 4, 2, 0, 0, 0, 0), (123, .iload 5, 2, 0, 0, 0, 0), (125, .invokestatic 105, 3, 70, 2, 991, 0), (128, .iaload, 1, 0, 0, 0, 0), (129, .istore 6, 2, 0, 0, 0, 0), (131, .aload_n 0, 1, 0, 0, 0, 0), (132, .getfield 55, 3, 6, 17, 896, 0), (135, .iload 4, 2, 0, 0, 0, 0), (137, .iload 5, 2, 0, 0, 0, 0), (139, .invokestatic 105, 3, 70, 2, 991, 0), (142, .iload_n 3, 1, 0, 0, 0, 0), (143, .iastore, 1, 0, 0, 0, 0), (144, .iload 6, 2, 0, 0, 0, 0), (146, .ireturn, 1, 0, 0, 0, 0)]
def zc_X6_share : List zi_Row := zc_X6_share_0 ++ (zc_X6_share_1)
def zc_X6_area_0 : List zi_Row := [(0, .aload_n 0, 1, 0, 0, 0, 0), (1, .iload_n 1, 1, 0, 0, 0, 0), (2, .invokevirtual 214, 3, 69, 2, 1086, 6), (5, .ifCond .eq 21, 3, 26, 0, 0, 0), (8, .iload_n 2, 1, 0, 0, 0, 0), (9, .iconst 0, 1, 0, 0, 0, 0), (10, .iconst 4, 1, 0, 0, 0, 0), (11, .invokestatic 101, 3, 68, 3, 983, 0), (14, .ifCond .eq 12, 3, 26, 0, 0, 0), (17, .aload_n 0, 1, 0, 0, 0, 0), (18, .iload_n 1, 1, 0, 0, 0, 0), (19, .iload_n 2, 1, 0, 0, 0, 0), (20, .invokevirtual 228, 3, 202, 3, 1119, 6), (23, .goto 5, 3, 28, 0, 0, 0), (26, .ldc 166, 2, 0, 0, 986, (-1000000001)), (28, .ireturn, 1, 0, 0, 0, 0)]
def zc_X6_area : List zi_Row := zc_X6_area_0
def zc_X6_about_0 : List zi_Row := [(0, .aload_n 0, 1, 0, 0, 0, 0), (1, .iload_n 1, 1, 0, 0, 0, 0), (2, .invokevirtual 214, 3, 69, 2, 1086, 6), (5, .ifCond .eq 13, 3, 18, 0, 0, 0), (8, .iload_n 2, 1, 0, 0, 0, 0), (9, .iconst 0, 1, 0, 0, 0, 0), (10, .bipush 6, 2, 0, 0, 0, 0), (12, .invokestatic 101, 3, 68, 3, 983, 0), (15, .ifCond .ne 6, 3, 21, 0, 0, 0), (18, .ldc 166, 2, 0, 0, 986, (-1000000001)), (20, .ireturn, 1, 0, 0, 0, 0), (21, .iload_n 2, 1, 0, 0, 0, 0), (22, .tableswitch 117 0 5 #[38, 45, 52, 59, 82, 104], 38, 0, 0, 0, 0), (60, .aload_n 0, 1, 0, 0, 0, 0), (61, .getfield 16, 3, 6, 2, 881, 0), (64, .iload_n 1, 1, 0, 0, 0, 0), (65, .iaload, 1, 0, 0, 0, 0), (66, .ireturn, 1, 0, 0, 0, 0), (67, .aload_n 0, 1, 0, 0, 0, 0), (68, .getfield 19, 3, 6, 3, 882, 0), (71, .iload_n 1, 1, 0, 0, 0, 0), (72, .iaload, 1, 0, 0, 0, 0), (73, .ireturn, 1, 0, 0, 0, 0), (74, .aload_n 0, 1, 0, 0, 0, 0), (75, .getfield 22, 3, 6, 4, 883, 0), (78, .iload_n 1, 1, 0, 0, 0, 0), (79, .iaload, 1, 0, 0, 0, 0), (80, .ireturn, 1, 0, 0, 0, 0), (81, .aload_n 0, 1, 0, 0, 0, 0), (82, .getfield 16, 3, 6, 2, 881, 0), (85, .iload_n 1, 1, 0, 0, 0, 0), (86, .iaload, 1, 0, 0, 0, 0), (87, .iconst 3, 1, 0, 0, 0, 0), (88, .if_icmp .ne 12, 3, 100, 0, 0, 0), (91, .aload_n 0, 1, 0, 0, 0, 0), (92, .getfield 25, 3, 6, 5, 884, 0), (95, .iload_n 1, 1, 0, 0, 0, 0), (96, .iaload, 1, 0, 0, 0, 0), (97, .goto 6, 3, 103, 0, 0, 0), (100, .ldc_w 263, 3, 0, 0, 1123, (-1000000005))]
def zc_X6_about_1 : List zi_Row := [(103, .ireturn, 1, 0, 0, 0, 0), (104, .aload_n 0, 1, 0, 0, 0, 0), (105, .iload_n 1, 1, 0, 0, 0, 0), (106, .invokevirtual 147, 3, 167, 2, 1124, 6), (109, .ifCond .ne 11, 3, 120, 0, 0, 0), (112, .aload_n 0, 1, 0, 0, 0, 0), (113, .iload_n 1, 1, 0, 0, 0, 0), (114, .invokevirtual 253, 3, 199, 2, 1172, 6), (117, .ifCond .eq 7, 3, 124, 0, 0, 0), (120, .iconst 1, 1, 0, 0, 0, 0), (121, .goto 4, 3, 125, 0, 0, 0), (124, .iconst 0, 1, 0, 0, 0, 0), (125, .ireturn, 1, 0, 0, 0, 0), (126, .aload_n 0, 1, 0, 0, 0, 0), (127, .getfield 40, 3, 6, 11, 890, 0), (130, .aload_n 0, 1, 0, 0, 0, 0), (131, .getfield 160, 3, 6, 12, 891, 0), (134, .iload_n 1, 1, 0, 0, 0, 0), (135, .invokestatic 264, 3, 203, 3, 1207, 0), (138, .ireturn, 1, 0, 0, 0, 0), (139, .aload_n 0, 1, 0, 0, 0, 0), (140, .getfield 37, 3, 6, 9, 888, 0), (143, .aload_n 0, 1, 0, 0, 0, 0), (144, .getfield 144, 3, 6, 10, 889, 0), (147, .iload_n 1, 1, 0, 0, 0, 0), (148, .invokestatic 264, 3, 203, 3, 1207, 0), (151, .ireturn, 1, 0, 0, 0, 0)]
def zc_X6_about : List zi_Row := zc_X6_about_0 ++ (zc_X6_about_1)
def zc_X6_isOf_0 : List zi_Row := [(0, .aload_n 0, 1, 0, 0, 0, 0), (1, .iload_n 1, 1, 0, 0, 0, 0), (2, .invokevirtual 214, 3, 69, 2, 1086, 6), (5, .ifCond .eq 12, 3, 17, 0, 0, 0), (8, .iload_n 2, 1, 0, 0, 0, 0), (9, .iconst 0, 1, 0, 0, 0, 0), (10, .iconst 4, 1, 0, 0, 0, 0), (11, .invokestatic 101, 3, 68, 3, 983, 0), (14, .ifCond .ne 6, 3, 20, 0, 0, 0), (17, .ldc 166, 2, 0, 0, 986, (-1000000001)), (19, .ireturn, 1, 0, 0, 0, 0), (20, .iload_n 2, 1, 0, 0, 0, 0), (21, .ifCond .eq 26, 3, 47, 0, 0, 0), (24, .aload_n 0, 1, 0, 0, 0, 0), (25, .getfield 16, 3, 6, 2, 881, 0), (28, .iload_n 1, 1, 0, 0, 0, 0), (29, .iaload, 1, 0, 0, 0, 0), (30, .iload_n 2, 1, 0, 0, 0, 0), (31, .if_icmp .eq 16, 3, 47, 0, 0, 0), (34, .iload_n 2, 1, 0, 0, 0, 0), (35, .iconst 2, 1, 0, 0, 0, 0), (36, .if_icmp .ne 15, 3, 51, 0, 0, 0), (39, .aload_n 0, 1, 0, 0, 0, 0), (40, .iload_n 1, 1, 0, 0, 0, 0), (41, .invokevirtual 147, 3, 167, 2, 1124, 6), (44, .ifCond .eq 7, 3, 51, 0, 0, 0), (47, .iconst 1, 1, 0, 0, 0, 0), (48, .goto 4, 3, 52, 0, 0, 0), (51, .iconst 0, 1, 0, 0, 0, 0), (52, .ireturn, 1, 0, 0, 0, 0)]
def zc_X6_isOf : List zi_Row := zc_X6_isOf_0
def zc_X6_at_0 : List zi_Row := [(0, .iload_n 1, 1, 0, 0, 0, 0), (1, .iconst 0, 1, 0, 0, 0, 0), (2, .iconst 2, 1, 0, 0, 0, 0), (3, .invokestatic 101, 3, 68, 3, 983, 0), (6, .ifCond .ne 6, 3, 12, 0, 0, 0), (9, .ldc 166, 2, 0, 0, 986, (-1000000001)), (11, .ireturn, 1, 0, 0, 0, 0), (12, .aload_n 0, 1, 0, 0, 0, 0), (13, .getfield 7, 3, 6, 0, 879, 0), (16, .iload_n 1, 1, 0, 0, 0, 0), (17, .iaload, 1, 0, 0, 0, 0), (18, .ifCond .ne 6, 3, 24, 0, 0, 0), (21, .ldc 187, 2, 0, 0, 1061, (-1000000002)), (23, .ireturn, 1, 0, 0, 0, 0), (24, .iload_n 2, 1, 0, 0, 0, 0), (25, .iconst 0, 1, 0, 0, 0, 0), (26, .aload_n 0, 1, 0, 0, 0, 0), (27, .getfield 7, 3, 6, 0, 879, 0), (30, .iload_n 1, 1, 0, 0, 0, 0), (31, .iaload, 1, 0, 0, 0, 0), (32, .iconst 1, 1, 0, 0, 0, 0), (33, .isub, 1, 0, 0, 0, 0), (34, .invokestatic 101, 3, 68, 3, 983, 0), (37, .ifCond .eq 19, 3, 56, 0, 0, 0), (40, .iload_n 3, 1, 0, 0, 0, 0), (41, .iconst 0, 1, 0, 0, 0, 0), (42, .aload_n 0, 1, 0, 0, 0, 0), (43, .getfield 13, 3, 6, 1, 880, 0), (46, .iload_n 1, 1, 0, 0, 0, 0), (47, .iaload, 1, 0, 0, 0, 0), (48, .iconst 1, 1, 0, 0, 0, 0), (49, .isub, 1, 0, 0, 0, 0), (50, .invokestatic 101, 3, 68, 3, 983, 0), (53, .ifCond .ne 6, 3, 59, 0, 0, 0), (56, .ldc 166, 2, 0, 0, 986, (-1000000001)), (58, .ireturn, 1, 0, 0, 0, 0), (59, .aload_n 0, 1, 0, 0, 0, 0), (60, .getfield 144, 3, 6, 10, 889, 0), (63, .iconst 1, 1, 0, 0, 0, 0), (64, .isub, 1, 0, 0, 0, 0)]
def zc_X6_at_1 : List zi_Row := [(65, .istore 4, 2, 0, 0, 0, 0), (67, .iload 4, 2, 0, 0, 0, 0), (69, .ifCond .lt 34, 3, 103, 0, 0, 0), (72, .aload_n 0, 1, 0, 0, 0, 0), (73, .aload_n 0, 1, 0, 0, 0, 0), (74, .getfield 37, 3, 6, 9, 888, 0), (77, .iload 4, 2, 0, 0, 0, 0), (79, .iaload, 1, 0, 0, 0, 0), (80, .iload_n 1, 1, 0, 0, 0, 0), (81, .iload_n 2, 1, 0, 0, 0, 0), (82, .iload_n 3, 1, 0, 0, 0, 0), (83, .invokevirtual 268, 3, 204, 5, 1218, 6), (86, .ifCond .eq 11, 3, 97, 0, 0, 0), (89, .aload_n 0, 1, 0, 0, 0, 0), (90, .getfield 37, 3, 6, 9, 888, 0), (93, .iload 4, 2, 0, 0, 0, 0), (95, .iaload, 1, 0, 0, 0, 0), (96, .ireturn, 1, 0, 0, 0, 0), (97, .iinc 4 (-1), 3, 0, 0, 0, 0), (100, .goto (-33), 3, 67, 0, 0, 0), (103, .aload_n 0, 1, 0, 0, 0, 0), (104, .iload_n 1, 1, 0, 0, 0, 0), (105, .invokevirtual 240, 3, 181, 2, 1107, 6), (108, .iconst 0, 1, 0, 0, 0, 0), (109, .istore 4, 2, 0, 0, 0, 0), (111, .iload 4, 2, 0, 0, 0, 0), (113, .aload_n 0, 1, 0, 0, 0, 0), (114, .getfield 133, 3, 6, 30, 909, 0), (117, .if_icmp .ge 90, 3, 207, 0, 0, 0), (120, .aload_n 0, 1, 0, 0, 0, 0), (121, .getfield 92, 3, 6, 29, 908, 0), (124, .iload 4, 2, 0, 0, 0, 0), (126, .iaload, 1, 0, 0, 0, 0), (127, .istore 5, 2, 0, 0, 0, 0), (129, .iload_n 2, 1, 0, 0, 0, 0), (130, .aload_n 0, 1, 0, 0, 0, 0), (131, .getfield 80, 3, 6, 25, 904, 0), (134, .iload 5, 2, 0, 0, 0, 0), (136, .iaload, 1, 0, 0, 0, 0), (137, .if_icmp .lt 64, 3, 201, 0, 0, 0)]
def zc_X6_at_2 : List zi_Row := [(140, .iload_n 2, 1, 0, 0, 0, 0), (141, .aload_n 0, 1, 0, 0, 0, 0), (142, .getfield 80, 3, 6, 25, 904, 0), (145, .iload 5, 2, 0, 0, 0, 0), (147, .iaload, 1, 0, 0, 0, 0), (148, .aload_n 0, 1, 0, 0, 0, 0), (149, .getfield 86, 3, 6, 27, 906, 0), (152, .iload 5, 2, 0, 0, 0, 0), (154, .iaload, 1, 0, 0, 0, 0), (155, .iadd, 1, 0, 0, 0, 0), (156, .if_icmp .ge 45, 3, 201, 0, 0, 0), (159, .iload_n 3, 1, 0, 0, 0, 0), (160, .aload_n 0, 1, 0, 0, 0, 0), (161, .getfield 83, 3, 6, 26, 905, 0), (164, .iload 5, 2, 0, 0, 0, 0), (166, .iaload, 1, 0, 0, 0, 0), (167, .if_icmp .lt 34, 3, 201, 0, 0, 0), (170, .iload_n 3, 1, 0, 0, 0, 0), (171, .aload_n 0, 1, 0, 0, 0, 0), (172, .getfield 83, 3, 6, 26, 905, 0), (175, .iload 5, 2, 0, 0, 0, 0), (177, .iaload, 1, 0, 0, 0, 0), (178, .aload_n 0, 1, 0, 0, 0, 0), (179, .getfield 89, 3, 6, 28, 907, 0), (182, .iload 5, 2, 0, 0, 0, 0), (184, .iaload, 1, 0, 0, 0, 0), (185, .iadd, 1, 0, 0, 0, 0), (186, .if_icmp .ge 15, 3, 201, 0, 0, 0), (189, .aload_n 0, 1, 0, 0, 0, 0), (190, .getfield 64, 3, 6, 20, 899, 0), (193, .iload_n 1, 1, 0, 0, 0, 0), (194, .iload 5, 2, 0, 0, 0, 0), (196, .invokestatic 105, 3, 70, 2, 991, 0), (199, .iaload, 1, 0, 0, 0, 0), (200, .ireturn, 1, 0, 0, 0, 0), (201, .iinc 4 1, 3, 0, 0, 0, 0), (204, .goto (-93), 3, 111, 0, 0, 0), (207, .ldc_w 263, 3, 0, 0, 1123, (-1000000005)), (210, .ireturn, 1, 0, 0, 0, 0)]
def zc_X6_at : List zi_Row := zc_X6_at_0 ++ (zc_X6_at_1 ++ (zc_X6_at_2))
def zc_X6_neighbour_0 : List zi_Row := [(0, .aload_n 0, 1, 0, 0, 0, 0), (1, .iload_n 1, 1, 0, 0, 0, 0), (2, .invokevirtual 214, 3, 69, 2, 1086, 6), (5, .ifCond .eq 12, 3, 17, 0, 0, 0), (8, .iload_n 2, 1, 0, 0, 0, 0), (9, .iconst 0, 1, 0, 0, 0, 0), (10, .iconst 3, 1, 0, 0, 0, 0), (11, .invokestatic 101, 3, 68, 3, 983, 0), (14, .ifCond .ne 6, 3, 20, 0, 0, 0), (17, .ldc 166, 2, 0, 0, 986, (-1000000001)), (19, .ireturn, 1, 0, 0, 0, 0), (20, .aload_n 0, 1, 0, 0, 0, 0), (21, .iload_n 1, 1, 0, 0, 0, 0), (22, .invokevirtual 253, 3, 199, 2, 1172, 6), (25, .ifCond .ne 6, 3, 31, 0, 0, 0), (28, .ldc 187, 2, 0, 0, 1061, (-1000000002)), (30, .ireturn, 1, 0, 0, 0, 0), (31, .aload_n 0, 1, 0, 0, 0, 0), (32, .iload_n 1, 1, 0, 0, 0, 0), (33, .iload_n 2, 1, 0, 0, 0, 0), (34, .invokevirtual 260, 3, 201, 3, 1176, 6), (37, .istore_n 3, 1, 0, 0, 0, 0), (38, .iload_n 3, 1, 0, 0, 0, 0), (39, .ifCond .ge 9, 3, 48, 0, 0, 0), (42, .ldc_w 263, 3, 0, 0, 1123, (-1000000005)), (45, .goto 4, 3, 49, 0, 0, 0), (48, .iload_n 3, 1, 0, 0, 0, 0), (49, .ireturn, 1, 0, 0, 0, 0)]
def zc_X6_neighbour : List zi_Row := zc_X6_neighbour_0
def zc_X6_told_0 : List zi_Row := [(0, .iload_n 1, 1, 0, 0, 0, 0), (1, .iconst 0, 1, 0, 0, 0, 0), (2, .iconst 2, 1, 0, 0, 0, 0), (3, .invokestatic 101, 3, 68, 3, 983, 0), (6, .ifCond .eq 13, 3, 19, 0, 0, 0), (9, .iload_n 2, 1, 0, 0, 0, 0), (10, .iconst 0, 1, 0, 0, 0, 0), (11, .bipush 6, 2, 0, 0, 0, 0), (13, .invokestatic 101, 3, 68, 3, 983, 0), (16, .ifCond .ne 6, 3, 22, 0, 0, 0), (19, .ldc 166, 2, 0, 0, 986, (-1000000001)), (21, .ireturn, 1, 0, 0, 0, 0), (22, .aload_n 0, 1, 0, 0, 0, 0), (23, .getfield 7, 3, 6, 0, 879, 0), (26, .iload_n 1, 1, 0, 0, 0, 0), (27, .iaload, 1, 0, 0, 0, 0), (28, .ifCond .ne 6, 3, 34, 0, 0, 0), (31, .ldc 187, 2, 0, 0, 1061, (-1000000002)), (33, .ireturn, 1, 0, 0, 0, 0), (34, .aload_n 0, 1, 0, 0, 0, 0), (35, .iload_n 1, 1, 0, 0, 0, 0), (36, .invokevirtual 194, 3, 193, 2, 1018, 6), (39, .iconst 0, 1, 0, 0, 0, 0), (40, .istore_n 3, 1, 0, 0, 0, 0), (41, .iload_n 2, 1, 0, 0, 0, 0), (42, .tableswitch 127 0 5 #[38, 45, 52, 57, 75, 101], 38, 0, 0, 0, 0), (80, .aload_n 0, 1, 0, 0, 0, 0), (81, .getfield 7, 3, 6, 0, 879, 0), (84, .iload_n 1, 1, 0, 0, 0, 0), (85, .iaload, 1, 0, 0, 0, 0), (86, .ireturn, 1, 0, 0, 0, 0), (87, .aload_n 0, 1, 0, 0, 0, 0), (88, .getfield 13, 3, 6, 1, 880, 0), (91, .iload_n 1, 1, 0, 0, 0, 0), (92, .iaload, 1, 0, 0, 0, 0), (93, .ireturn, 1, 0, 0, 0, 0), (94, .aload_n 0, 1, 0, 0, 0, 0), (95, .getfield 133, 3, 6, 30, 909, 0), (98, .ireturn, 1, 0, 0, 0, 0), (99, .aload_n 0, 1, 0, 0, 0, 0)]
def zc_X6_told_1 : List zi_Row := [(100, .getfield 133, 3, 6, 30, 909, 0), (103, .ifCond .le 12, 3, 115, 0, 0, 0), (106, .aload_n 0, 1, 0, 0, 0, 0), (107, .getfield 133, 3, 6, 30, 909, 0), (110, .iconst 1, 1, 0, 0, 0, 0), (111, .isub, 1, 0, 0, 0, 0), (112, .goto 4, 3, 116, 0, 0, 0), (115, .iconst 0, 1, 0, 0, 0, 0), (116, .ireturn, 1, 0, 0, 0, 0), (117, .aload_n 0, 1, 0, 0, 0, 0), (118, .getfield 43, 3, 6, 13, 892, 0), (121, .iload_n 1, 1, 0, 0, 0, 0), (122, .iaload, 1, 0, 0, 0, 0), (123, .ifCond .ge 7, 3, 130, 0, 0, 0), (126, .iconst 0, 1, 0, 0, 0, 0), (127, .goto 15, 3, 142, 0, 0, 0), (130, .aload_n 0, 1, 0, 0, 0, 0), (131, .iload_n 1, 1, 0, 0, 0, 0), (132, .aload_n 0, 1, 0, 0, 0, 0), (133, .getfield 43, 3, 6, 13, 892, 0), (136, .iload_n 1, 1, 0, 0, 0, 0), (137, .iaload, 1, 0, 0, 0, 0), (138, .iconst 1, 1, 0, 0, 0, 0), (139, .invokevirtual 129, 3, 178, 4, 1006, 6), (142, .ireturn, 1, 0, 0, 0, 0), (143, .aload_n 0, 1, 0, 0, 0, 0), (144, .getfield 43, 3, 6, 13, 892, 0), (147, .iload_n 1, 1, 0, 0, 0, 0), (148, .iaload, 1, 0, 0, 0, 0), (149, .ifCond .ge 7, 3, 156, 0, 0, 0), (152, .iconst 0, 1, 0, 0, 0, 0), (153, .goto 15, 3, 168, 0, 0, 0), (156, .aload_n 0, 1, 0, 0, 0, 0), (157, .iload_n 1, 1, 0, 0, 0, 0), (158, .aload_n 0, 1, 0, 0, 0, 0), (159, .getfield 43, 3, 6, 13, 892, 0), (162, .iload_n 1, 1, 0, 0, 0, 0), (163, .iaload, 1, 0, 0, 0, 0), (164, .iconst 0, 1, 0, 0, 0, 0), (165, .invokevirtual 129, 3, 178, 4, 1006, 6)]
def zc_X6_told_2 : List zi_Row := [(168, .ireturn, 1, 0, 0, 0, 0), (169, .iconst 0, 1, 0, 0, 0, 0), (170, .istore 4, 2, 0, 0, 0, 0), (172, .iload 4, 2, 0, 0, 0, 0), (174, .bipush 10, 2, 0, 0, 0, 0), (176, .if_icmp .ge 27, 3, 203, 0, 0, 0), (179, .iload_n 3, 1, 0, 0, 0, 0), (180, .aload_n 0, 1, 0, 0, 0, 0), (181, .iload 4, 2, 0, 0, 0, 0), (183, .iload_n 1, 1, 0, 0, 0, 0), (184, .invokevirtual 180, 3, 184, 3, 1057, 6), (187, .ifCond .eq 7, 3, 194, 0, 0, 0), (190, .iconst 1, 1, 0, 0, 0, 0), (191, .goto 4, 3, 195, 0, 0, 0), (194, .iconst 0, 1, 0, 0, 0, 0), (195, .iadd, 1, 0, 0, 0, 0), (196, .istore_n 3, 1, 0, 0, 0, 0), (197, .iinc 4 1, 3, 0, 0, 0, 0), (200, .goto (-28), 3, 172, 0, 0, 0), (203, .iload_n 3, 1, 0, 0, 0, 0), (204, .ireturn, 1, 0, 0, 0, 0)]
def zc_X6_told : List zi_Row := zc_X6_told_0 ++ (zc_X6_told_1 ++ (zc_X6_told_2))
def zc_X6_tab_0 : List zi_Row := [(0, .iload_n 1, 1, 0, 0, 0, 0), (1, .iconst 0, 1, 0, 0, 0, 0), (2, .iconst 2, 1, 0, 0, 0, 0), (3, .invokestatic 101, 3, 68, 3, 983, 0), (6, .ifCond .eq 13, 3, 19, 0, 0, 0), (9, .iload_n 2, 1, 0, 0, 0, 0), (10, .ifCond .lt 9, 3, 19, 0, 0, 0), (13, .iload_n 3, 1, 0, 0, 0, 0), (14, .bipush (-2), 2, 0, 0, 0, 0), (16, .if_icmp .ge 6, 3, 22, 0, 0, 0), (19, .ldc 166, 2, 0, 0, 986, (-1000000001)), (21, .ireturn, 1, 0, 0, 0, 0), (22, .aload_n 0, 1, 0, 0, 0, 0), (23, .getfield 7, 3, 6, 0, 879, 0), (26, .iload_n 1, 1, 0, 0, 0, 0), (27, .iaload, 1, 0, 0, 0, 0), (28, .ifCond .ne 6, 3, 34, 0, 0, 0), (31, .ldc 187, 2, 0, 0, 1061, (-1000000002)), (33, .ireturn, 1, 0, 0, 0, 0), (34, .aload_n 0, 1, 0, 0, 0, 0), (35, .iload_n 1, 1, 0, 0, 0, 0), (36, .invokevirtual 194, 3, 193, 2, 1018, 6), (39, .iload_n 2, 1, 0, 0, 0, 0), (40, .aload_n 0, 1, 0, 0, 0, 0), (41, .getfield 133, 3, 6, 30, 909, 0), (44, .if_icmp .lt 7, 3, 51, 0, 0, 0), (47, .ldc_w 263, 3, 0, 0, 1123, (-1000000005)), (50, .ireturn, 1, 0, 0, 0, 0), (51, .iload_n 1, 1, 0, 0, 0, 0), (52, .aload_n 0, 1, 0, 0, 0, 0), (53, .getfield 92, 3, 6, 29, 908, 0), (56, .iload_n 2, 1, 0, 0, 0, 0), (57, .iaload, 1, 0, 0, 0, 0), (58, .invokestatic 105, 3, 70, 2, 991, 0), (61, .istore 4, 2, 0, 0, 0, 0), (63, .iload_n 3, 1, 0, 0, 0, 0), (64, .ifCond .ge 26, 3, 90, 0, 0, 0), (67, .iload_n 3, 1, 0, 0, 0, 0), (68, .iconst (-1), 1, 0, 0, 0, 0), (69, .if_icmp .ne 13, 3, 82, 0, 0, 0)]
def zc_X6_tab_1 : List zi_Row := [(72, .aload_n 0, 1, 0, 0, 0, 0), (73, .getfield 61, 3, 6, 19, 898, 0), (76, .iload 4, 2, 0, 0, 0, 0), (78, .iaload, 1, 0, 0, 0, 0), (79, .goto 10, 3, 89, 0, 0, 0), (82, .aload_n 0, 1, 0, 0, 0, 0), (83, .getfield 64, 3, 6, 20, 899, 0), (86, .iload 4, 2, 0, 0, 0, 0), (88, .iaload, 1, 0, 0, 0, 0), (89, .ireturn, 1, 0, 0, 0, 0), (90, .iload_n 3, 1, 0, 0, 0, 0), (91, .aload_n 0, 1, 0, 0, 0, 0), (92, .getfield 61, 3, 6, 19, 898, 0), (95, .iload 4, 2, 0, 0, 0, 0), (97, .iaload, 1, 0, 0, 0, 0), (98, .if_icmp .ge 18, 3, 116, 0, 0, 0), (101, .aload_n 0, 1, 0, 0, 0, 0), (102, .getfield 58, 3, 6, 18, 897, 0), (105, .bipush 10, 2, 0, 0, 0, 0), (107, .iload 4, 2, 0, 0, 0, 0), (109, .imul, 1, 0, 0, 0, 0), (110, .iload_n 3, 1, 0, 0, 0, 0), (111, .iadd, 1, 0, 0, 0, 0), (112, .iaload, 1, 0, 0, 0, 0), (113, .goto 6, 3, 119, 0, 0, 0), (116, .ldc_w 263, 3, 0, 0, 1123, (-1000000005)), (119, .ireturn, 1, 0, 0, 0, 0)]
def zc_X6_tab : List zi_Row := zc_X6_tab_0 ++ (zc_X6_tab_1)
def zc_X6_count_0 : List zi_Row := [(0, .iconst 0, 1, 0, 0, 0, 0), (1, .istore_n 2, 1, 0, 0, 0, 0), (2, .iload_n 1, 1, 0, 0, 0, 0), (3, .tableswitch 165 0 5 #[37, 69, 74, 108, 113, 133], 37, 0, 0, 0, 0), (40, .iconst 0, 1, 0, 0, 0, 0), (41, .istore_n 3, 1, 0, 0, 0, 0), (42, .iload_n 3, 1, 0, 0, 0, 0), (43, .iconst 3, 1, 0, 0, 0, 0), (44, .if_icmp .ge 26, 3, 70, 0, 0, 0), (47, .iload_n 2, 1, 0, 0, 0, 0), (48, .aload_n 0, 1, 0, 0, 0, 0), (49, .getfield 7, 3, 6, 0, 879, 0), (52, .iload_n 3, 1, 0, 0, 0, 0), (53, .iaload, 1, 0, 0, 0, 0), (54, .ifCond .le 7, 3, 61, 0, 0, 0), (57, .iconst 1, 1, 0, 0, 0, 0), (58, .goto 4, 3, 62, 0, 0, 0), (61, .iconst 0, 1, 0, 0, 0, 0), (62, .iadd, 1, 0, 0, 0, 0), (63, .istore_n 2, 1, 0, 0, 0, 0), (64, .iinc 3 1, 3, 0, 0, 0, 0), (67, .goto (-25), 3, 42, 0, 0, 0), (70, .iload_n 2, 1, 0, 0, 0, 0), (71, .ireturn, 1, 0, 0, 0, 0), (72, .aload_n 0, 1, 0, 0, 0, 0), (73, .getfield 160, 3, 6, 12, 891, 0), (76, .ireturn, 1, 0, 0, 0, 0), (77, .iconst 0, 1, 0, 0, 0, 0), (78, .istore_n 3, 1, 0, 0, 0, 0), (79, .iload_n 3, 1, 0, 0, 0, 0), (80, .bipush 10, 2, 0, 0, 0, 0), (82, .if_icmp .ge 27, 3, 109, 0, 0, 0), (85, .iload_n 2, 1, 0, 0, 0, 0), (86, .aload_n 0, 1, 0, 0, 0, 0), (87, .getfield 16, 3, 6, 2, 881, 0), (90, .iload_n 3, 1, 0, 0, 0, 0), (91, .iaload, 1, 0, 0, 0, 0), (92, .iconst 1, 1, 0, 0, 0, 0), (93, .if_icmp .ne 7, 3, 100, 0, 0, 0), (96, .iconst 1, 1, 0, 0, 0, 0)]
def zc_X6_count_1 : List zi_Row := [(97, .goto 4, 3, 101, 0, 0, 0), (100, .iconst 0, 1, 0, 0, 0, 0), (101, .iadd, 1, 0, 0, 0, 0), (102, .istore_n 2, 1, 0, 0, 0, 0), (103, .iinc 3 1, 3, 0, 0, 0, 0), (106, .goto (-27), 3, 79, 0, 0, 0), (109, .iload_n 2, 1, 0, 0, 0, 0), (110, .ireturn, 1, 0, 0, 0, 0), (111, .aload_n 0, 1, 0, 0, 0, 0), (112, .getfield 144, 3, 6, 10, 889, 0), (115, .ireturn, 1, 0, 0, 0, 0), (116, .aload_n 0, 1, 0, 0, 0, 0), (117, .getfield 160, 3, 6, 12, 891, 0), (120, .ifCond .le 12, 3, 132, 0, 0, 0), (123, .aload_n 0, 1, 0, 0, 0, 0), (124, .getfield 40, 3, 6, 11, 890, 0), (127, .iconst 0, 1, 0, 0, 0, 0), (128, .iaload, 1, 0, 0, 0, 0), (129, .goto 6, 3, 135, 0, 0, 0), (132, .ldc_w 263, 3, 0, 0, 1123, (-1000000005)), (135, .ireturn, 1, 0, 0, 0, 0), (136, .iconst 0, 1, 0, 0, 0, 0), (137, .istore_n 3, 1, 0, 0, 0, 0), (138, .iload_n 3, 1, 0, 0, 0, 0), (139, .iconst 3, 1, 0, 0, 0, 0), (140, .if_icmp .ge 26, 3, 166, 0, 0, 0), (143, .iload_n 2, 1, 0, 0, 0, 0), (144, .aload_n 0, 1, 0, 0, 0, 0), (145, .getfield 67, 3, 6, 21, 900, 0), (148, .iload_n 3, 1, 0, 0, 0, 0), (149, .baload, 1, 0, 0, 0, 0), (150, .ifCond .eq 7, 3, 157, 0, 0, 0), (153, .iconst 1, 1, 0, 0, 0, 0), (154, .goto 4, 3, 158, 0, 0, 0), (157, .iconst 0, 1, 0, 0, 0, 0), (158, .iadd, 1, 0, 0, 0, 0), (159, .istore_n 2, 1, 0, 0, 0, 0), (160, .iinc 3 1, 3, 0, 0, 0, 0), (163, .goto (-25), 3, 138, 0, 0, 0), (166, .iload_n 2, 1, 0, 0, 0, 0)]
def zc_X6_count_2 : List zi_Row := [(167, .ireturn, 1, 0, 0, 0, 0), (168, .ldc 166, 2, 0, 0, 986, (-1000000001)), (170, .ireturn, 1, 0, 0, 0, 0)]
def zc_X6_count : List zi_Row := zc_X6_count_0 ++ (zc_X6_count_1 ++ (zc_X6_count_2))
def zc_X6_isIn_0 : List zi_Row := [(0, .iload_n 0, 1, 0, 0, 0, 0), (1, .iload_n 1, 1, 0, 0, 0, 0), (2, .if_icmp .lt 12, 3, 14, 0, 0, 0), (5, .iload_n 0, 1, 0, 0, 0, 0), (6, .iload_n 2, 1, 0, 0, 0, 0), (7, .if_icmp .gt 7, 3, 14, 0, 0, 0), (10, .iconst 1, 1, 0, 0, 0, 0), (11, .goto 4, 3, 15, 0, 0, 0), (14, .iconst 0, 1, 0, 0, 0, 0), (15, .ireturn, 1, 0, 0, 0, 0)]
def zc_X6_isIn : List zi_Row := zc_X6_isIn_0
def zc_X6_isWindow_0 : List zi_Row := [(0, .iload_n 1, 1, 0, 0, 0, 0), (1, .iconst 0, 1, 0, 0, 0, 0), (2, .bipush 9, 2, 0, 0, 0, 0), (4, .invokestatic 101, 3, 68, 3, 983, 0), (7, .ifCond .eq 16, 3, 23, 0, 0, 0), (10, .aload_n 0, 1, 0, 0, 0, 0), (11, .getfield 16, 3, 6, 2, 881, 0), (14, .iload_n 1, 1, 0, 0, 0, 0), (15, .iaload, 1, 0, 0, 0, 0), (16, .ifCond .le 7, 3, 23, 0, 0, 0), (19, .iconst 1, 1, 0, 0, 0, 0), (20, .goto 4, 3, 24, 0, 0, 0), (23, .iconst 0, 1, 0, 0, 0, 0), (24, .ireturn, 1, 0, 0, 0, 0)]
def zc_X6_isWindow : List zi_Row := zc_X6_isWindow_0
def zc_X6_spot_0 : List zi_Row := [(0, .bipush 24, 2, 0, 0, 0, 0), (2, .iload_n 0, 1, 0, 0, 0, 0), (3, .imul, 1, 0, 0, 0, 0), (4, .iload_n 1, 1, 0, 0, 0, 0), (5, .iadd, 1, 0, 0, 0, 0), (6, .ireturn, 1, 0, 0, 0, 0)]
def zc_X6_spot : List zi_Row := zc_X6_spot_0
def zc_X6_clearTree_0 : List zi_Row := [(0, .aload_n 0, 1, 0, 0, 0, 0), (1, .getfield 43, 3, 6, 13, 892, 0), (4, .iload_n 1, 1, 0, 0, 0, 0), (5, .iconst (-1), 1, 0, 0, 0, 0), (6, .iastore, 1, 0, 0, 0, 0), (7, .iconst 0, 1, 0, 0, 0, 0), (8, .istore_n 2, 1, 0, 0, 0, 0), (9, .iload_n 2, 1, 0, 0, 0, 0), (10, .bipush 24, 2, 0, 0, 0, 0), (12, .if_icmp .ge 20, 3, 32, 0, 0, 0), (15, .aload_n 0, 1, 0, 0, 0, 0), (16, .getfield 46, 3, 6, 14, 893, 0), (19, .iload_n 1, 1, 0, 0, 0, 0), (20, .iload_n 2, 1, 0, 0, 0, 0), (21, .invokestatic 105, 3, 70, 2, 991, 0), (24, .iconst 0, 1, 0, 0, 0, 0), (25, .iastore, 1, 0, 0, 0, 0), (26, .iinc 2 1, 3, 0, 0, 0, 0), (29, .goto (-20), 3, 9, 0, 0, 0), (32, .return_, 1, 0, 0, 0, 0)]
def zc_X6_clearTree : List zi_Row := zc_X6_clearTree_0
def zc_X6_screenAtHand_0 : List zi_Row := [(0, .iconst 0, 1, 0, 0, 0, 0), (1, .istore_n 1, 1, 0, 0, 0, 0), (2, .iload_n 1, 1, 0, 0, 0, 0), (3, .aload_n 0, 1, 0, 0, 0, 0), (4, .getfield 160, 3, 6, 12, 891, 0), (7, .if_icmp .ge 36, 3, 43, 0, 0, 0), (10, .aload_n 0, 1, 0, 0, 0, 0), (11, .getfield 16, 3, 6, 2, 881, 0), (14, .aload_n 0, 1, 0, 0, 0, 0), (15, .getfield 40, 3, 6, 11, 890, 0), (18, .iload_n 1, 1, 0, 0, 0, 0), (19, .iaload, 1, 0, 0, 0, 0), (20, .iaload, 1, 0, 0, 0, 0), (21, .iconst 4, 1, 0, 0, 0, 0), (22, .if_icmp .eq 15, 3, 37, 0, 0, 0), (25, .aload_n 0, 1, 0, 0, 0, 0), (26, .getfield 28, 3, 6, 6, 885, 0), (29, .aload_n 0, 1, 0, 0, 0, 0), (30, .getfield 40, 3, 6, 11, 890, 0), (33, .iload_n 1, 1, 0, 0, 0, 0), (34, .iaload, 1, 0, 0, 0, 0), (35, .iaload, 1, 0, 0, 0, 0), (36, .ireturn, 1, 0, 0, 0, 0), (37, .iinc 1 1, 3, 0, 0, 0, 0), (40, .goto (-38), 3, 2, 0, 0, 0), (43, .iconst 0, 1, 0, 0, 0, 0), (44, .istore_n 1, 1, 0, 0, 0, 0), (45, .iload_n 1, 1, 0, 0, 0, 0), (46, .iconst 3, 1, 0, 0, 0, 0), (47, .if_icmp .ge 20, 3, 67, 0, 0, 0), (50, .aload_n 0, 1, 0, 0, 0, 0), (51, .getfield 7, 3, 6, 0, 879, 0), (54, .iload_n 1, 1, 0, 0, 0, 0), (55, .iaload, 1, 0, 0, 0, 0), (56, .ifCond .le 5, 3, 61, 0, 0, 0), (59, .iload_n 1, 1, 0, 0, 0, 0), (60, .ireturn, 1, 0, 0, 0, 0), (61, .iinc 1 1, 3, 0, 0, 0, 0), (64, .goto (-19), 3, 45, 0, 0, 0), (67, .iconst (-1), 1, 0, 0, 0, 0)]
def zc_X6_screenAtHand_1 : List zi_Row := [(68, .ireturn, 1, 0, 0, 0, 0)]
def zc_X6_screenAtHand : List zi_Row := zc_X6_screenAtHand_0 ++ (zc_X6_screenAtHand_1)
def zc_X6_freeNumber_0 : List zi_Row := [(0, .iconst 0, 1, 0, 0, 0, 0), (1, .istore_n 1, 1, 0, 0, 0, 0), (2, .iload_n 1, 1, 0, 0, 0, 0), (3, .bipush 10, 2, 0, 0, 0, 0), (5, .if_icmp .ge 20, 3, 25, 0, 0, 0), (8, .aload_n 0, 1, 0, 0, 0, 0), (9, .getfield 16, 3, 6, 2, 881, 0), (12, .iload_n 1, 1, 0, 0, 0, 0), (13, .iaload, 1, 0, 0, 0, 0), (14, .ifCond .ne 5, 3, 19, 0, 0, 0), (17, .iload_n 1, 1, 0, 0, 0, 0), (18, .ireturn, 1, 0, 0, 0, 0), (19, .iinc 1 1, 3, 0, 0, 0, 0), (22, .goto (-20), 3, 2, 0, 0, 0), (25, .iconst (-1), 1, 0, 0, 0, 0), (26, .ireturn, 1, 0, 0, 0, 0)]
def zc_X6_freeNumber : List zi_Row := zc_X6_freeNumber_0
def zc_X0_has_0 : List zi_Row := [(0, .aload_n 0, 1, 0, 0, 0, 0), (1, .getfield 27, 3, 0, 3, 254, 0), (4, .ifCond .eq 27, 3, 31, 0, 0, 0), (7, .aload_n 0, 1, 0, 0, 0, 0), (8, .getfield 23, 3, 0, 2, 253, 0), (11, .iload_n 1, 1, 0, 0, 0, 0), (12, .baload, 1, 0, 0, 0, 0), (13, .ifCond .ne 14, 3, 27, 0, 0, 0), (16, .aload_n 0, 1, 0, 0, 0, 0), (17, .getfield 12, 3, 0, 0, 249, 0), (20, .iload_n 1, 1, 0, 0, 0, 0), (21, .invokevirtual 31, 3, 83, 2, 341, 3), (24, .ifCond .lt 7, 3, 31, 0, 0, 0), (27, .iconst 1, 1, 0, 0, 0, 0), (28, .goto 4, 3, 32, 0, 0, 0), (31, .iconst 0, 1, 0, 0, 0, 0), (32, .ireturn, 1, 0, 0, 0, 0)]
def zc_X0_has : List zi_Row := zc_X0_has_0
def zc_X0_keepPlace_0 : List zi_Row := [(0, .aload_n 0, 1, 0, 0, 0, 0), (1, .getfield 23, 3, 0, 2, 253, 0), (4, .iload_n 1, 1, 0, 0, 0, 0), (5, .iload_n 2, 1, 0, 0, 0, 0), (6, .bastore, 1, 0, 0, 0, 0), (7, .aload_n 0, 1, 0, 0, 0, 0), (8, .getfield 20, 3, 0, 1, 251, 0), (11, .iconst 0, 1, 0, 0, 0, 0), (12, .aaload, 1, 0, 0, 0, 0), (13, .iload_n 1, 1, 0, 0, 0, 0), (14, .aload_n 3, 1, 0, 0, 0, 0), (15, .iconst 0, 1, 0, 0, 0, 0), (16, .iaload, 1, 0, 0, 0, 0), (17, .iastore, 1, 0, 0, 0, 0), (18, .aload_n 0, 1, 0, 0, 0, 0), (19, .getfield 20, 3, 0, 1, 251, 0), (22, .iconst 1, 1, 0, 0, 0, 0), (23, .aaload, 1, 0, 0, 0, 0), (24, .iload_n 1, 1, 0, 0, 0, 0), (25, .aload_n 3, 1, 0, 0, 0, 0), (26, .iconst 1, 1, 0, 0, 0, 0), (27, .iaload, 1, 0, 0, 0, 0), (28, .iastore, 1, 0, 0, 0, 0), (29, .return_, 1, 0, 0, 0, 0)]
def zc_X0_keepPlace : List zi_Row := zc_X0_keepPlace_0
def zc_X1_placeOf_0 : List zi_Row := [(0, .iconst 0, 1, 0, 0, 0, 0), (1, .istore_n 2, 1, 0, 0, 0, 0), (2, .iload_n 2, 1, 0, 0, 0, 0), (3, .aload_n 0, 1, 0, 0, 0, 0), (4, .getfield 15, 3, 1, 1, 125, 0), (7, .if_icmp .ge 21, 3, 28, 0, 0, 0), (10, .aload_n 0, 1, 0, 0, 0, 0), (11, .getfield 9, 3, 1, 0, 124, 0), (14, .iload_n 2, 1, 0, 0, 0, 0), (15, .iaload, 1, 0, 0, 0, 0), (16, .iload_n 1, 1, 0, 0, 0, 0), (17, .if_icmp .ne 5, 3, 22, 0, 0, 0), (20, .iload_n 2, 1, 0, 0, 0, 0), (21, .ireturn, 1, 0, 0, 0, 0), (22, .iinc 2 1, 3, 0, 0, 0, 0), (25, .goto (-23), 3, 2, 0, 0, 0), (28, .iconst (-1), 1, 0, 0, 0, 0), (29, .ireturn, 1, 0, 0, 0, 0)]
def zc_X1_placeOf : List zi_Row := zc_X1_placeOf_0
def zc_X1_append_0 : List zi_Row := [(0, .aload_n 0, 1, 0, 0, 0, 0), (1, .getfield 15, 3, 1, 1, 125, 0), (4, .bipush 10, 2, 0, 0, 0, 0), (6, .if_icmp .ge 23, 3, 29, 0, 0, 0), (9, .aload_n 0, 1, 0, 0, 0, 0), (10, .getfield 9, 3, 1, 0, 124, 0), (13, .aload_n 0, 1, 0, 0, 0, 0), (14, .getfield 15, 3, 1, 1, 125, 0), (17, .iload_n 1, 1, 0, 0, 0, 0), (18, .iastore, 1, 0, 0, 0, 0), (19, .aload_n 0, 1, 0, 0, 0, 0), (20, .dup, 1, 0, 0, 0, 0), (21, .getfield 15, 3, 1, 1, 125, 0), (24, .iconst 1, 1, 0, 0, 0, 0), (25, .iadd, 1, 0, 0, 0, 0), (26, .putfield 15, 3, 1, 1, 125, 0), (29, .return_, 1, 0, 0, 0, 0)]
def zc_X1_append : List zi_Row := zc_X1_append_0
def zc_X1_takeOut_0 : List zi_Row := [(0, .aload_n 0, 1, 0, 0, 0, 0), (1, .iload_n 1, 1, 0, 0, 0, 0), (2, .invokevirtual 19, 3, 76, 2, 398, 1), (5, .istore_n 2, 1, 0, 0, 0, 0), (6, .iload_n 2, 1, 0, 0, 0, 0), (7, .ifCond .ge 4, 3, 11, 0, 0, 0), (10, .return_, 1, 0, 0, 0, 0), (11, .aload_n 0, 1, 0, 0, 0, 0), (12, .dup, 1, 0, 0, 0, 0), (13, .getfield 15, 3, 1, 1, 125, 0), (16, .iconst 1, 1, 0, 0, 0, 0), (17, .isub, 1, 0, 0, 0, 0), (18, .putfield 15, 3, 1, 1, 125, 0), (21, .iload_n 2, 1, 0, 0, 0, 0), (22, .istore_n 3, 1, 0, 0, 0, 0), (23, .iload_n 3, 1, 0, 0, 0, 0), (24, .aload_n 0, 1, 0, 0, 0, 0), (25, .getfield 15, 3, 1, 1, 125, 0), (28, .if_icmp .ge 23, 3, 51, 0, 0, 0), (31, .aload_n 0, 1, 0, 0, 0, 0), (32, .getfield 9, 3, 1, 0, 124, 0), (35, .iload_n 3, 1, 0, 0, 0, 0), (36, .aload_n 0, 1, 0, 0, 0, 0), (37, .getfield 9, 3, 1, 0, 124, 0), (40, .iload_n 3, 1, 0, 0, 0, 0), (41, .iconst 1, 1, 0, 0, 0, 0), (42, .iadd, 1, 0, 0, 0, 0), (43, .iaload, 1, 0, 0, 0, 0), (44, .iastore, 1, 0, 0, 0, 0), (45, .iinc 3 1, 3, 0, 0, 0, 0), (48, .goto (-25), 3, 23, 0, 0, 0), (51, .return_, 1, 0, 0, 0, 0)]
def zc_X1_takeOut : List zi_Row := zc_X1_takeOut_0
def zc_X1_putLast_0 : List zi_Row := [(0, .aload_n 0, 1, 0, 0, 0, 0), (1, .iload_n 1, 1, 0, 0, 0, 0), (2, .invokevirtual 23, 3, 78, 2, 663, 1), (5, .aload_n 0, 1, 0, 0, 0, 0), (6, .iload_n 1, 1, 0, 0, 0, 0), (7, .invokevirtual 27, 3, 77, 2, 664, 1), (10, .return_, 1, 0, 0, 0, 0)]
def zc_X1_putLast : List zi_Row := zc_X1_putLast_0
def zc_X1_putFirst_0 : List zi_Row := [(0, .aload_n 0, 1, 0, 0, 0, 0), (1, .iload_n 1, 1, 0, 0, 0, 0), (2, .invokevirtual 30, 3, 79, 2, 659, 1), (5, .aload_n 0, 1, 0, 0, 0, 0), (6, .getfield 15, 3, 1, 1, 125, 0), (9, .iconst 1, 1, 0, 0, 0, 0), (10, .isub, 1, 0, 0, 0, 0), (11, .istore_n 2, 1, 0, 0, 0, 0), (12, .iload_n 2, 1, 0, 0, 0, 0), (13, .ifCond .le 23, 3, 36, 0, 0, 0), (16, .aload_n 0, 1, 0, 0, 0, 0), (17, .getfield 9, 3, 1, 0, 124, 0), (20, .iload_n 2, 1, 0, 0, 0, 0), (21, .aload_n 0, 1, 0, 0, 0, 0), (22, .getfield 9, 3, 1, 0, 124, 0), (25, .iload_n 2, 1, 0, 0, 0, 0), (26, .iconst 1, 1, 0, 0, 0, 0), (27, .isub, 1, 0, 0, 0, 0), (28, .iaload, 1, 0, 0, 0, 0), (29, .iastore, 1, 0, 0, 0, 0), (30, .iinc 2 (-1), 3, 0, 0, 0, 0), (33, .goto (-21), 3, 12, 0, 0, 0), (36, .aload_n 0, 1, 0, 0, 0, 0), (37, .getfield 9, 3, 1, 0, 124, 0), (40, .iconst 0, 1, 0, 0, 0, 0), (41, .iload_n 1, 1, 0, 0, 0, 0), (42, .iastore, 1, 0, 0, 0, 0), (43, .return_, 1, 0, 0, 0, 0)]
def zc_X1_putFirst : List zi_Row := zc_X1_putFirst_0
def zc_X1_copyFrom_0 : List zi_Row := [(0, .aload_n 1, 1, 0, 0, 0, 0), (1, .getfield 9, 3, 1, 0, 124, 0), (4, .iconst 0, 1, 0, 0, 0, 0), (5, .aload_n 0, 1, 0, 0, 0, 0), (6, .getfield 9, 3, 1, 0, 124, 0), (9, .iconst 0, 1, 0, 0, 0, 0), (10, .bipush 10, 2, 0, 0, 0, 0), (12, .invokestatic 33, 3, 997, 0, 461, 0), (15, .aload_n 0, 1, 0, 0, 0, 0), (16, .aload_n 1, 1, 0, 0, 0, 0), (17, .getfield 15, 3, 1, 1, 125, 0), (20, .putfield 15, 3, 1, 1, 125, 0), (23, .return_, 1, 0, 0, 0, 0)]
def zc_X1_copyFrom : List zi_Row := zc_X1_copyFrom_0
def zc_X3_copyFrom_0 : List zi_Row := [(0, .aload_n 0, 1, 0, 0, 0, 0), (1, .getfield 12, 3, 3, 0, 153, 0), (4, .aload_n 1, 1, 0, 0, 0, 0), (5, .getfield 12, 3, 3, 0, 153, 0), (8, .invokevirtual 77, 3, 81, 2, 457, 1), (11, .aload_n 1, 1, 0, 0, 0, 0), (12, .getfield 18, 3, 3, 1, 154, 0), (15, .iconst 0, 1, 0, 0, 0, 0), (16, .aload_n 0, 1, 0, 0, 0, 0), (17, .getfield 18, 3, 3, 1, 154, 0), (20, .iconst 0, 1, 0, 0, 0, 0), (21, .bipush 10, 2, 0, 0, 0, 0), (23, .invokestatic 81, 3, 997, 0, 464, 0), (26, .iconst 0, 1, 0, 0, 0, 0), (27, .istore_n 2, 1, 0, 0, 0, 0), (28, .iload_n 2, 1, 0, 0, 0, 0), (29, .iconst 2, 1, 0, 0, 0, 0), (30, .if_icmp .ge 28, 3, 58, 0, 0, 0), (33, .aload_n 1, 1, 0, 0, 0, 0), (34, .getfield 24, 3, 3, 2, 155, 0), (37, .iload_n 2, 1, 0, 0, 0, 0), (38, .aaload, 1, 0, 0, 0, 0), (39, .iconst 0, 1, 0, 0, 0, 0), (40, .aload_n 0, 1, 0, 0, 0, 0), (41, .getfield 24, 3, 3, 2, 155, 0), (44, .iload_n 2, 1, 0, 0, 0, 0), (45, .aaload, 1, 0, 0, 0, 0), (46, .iconst 0, 1, 0, 0, 0, 0), (47, .bipush 10, 2, 0, 0, 0, 0), (49, .invokestatic 81, 3, 997, 0, 464, 0), (52, .iinc 2 1, 3, 0, 0, 0, 0), (55, .goto (-27), 3, 28, 0, 0, 0), (58, .aload_n 1, 1, 0, 0, 0, 0), (59, .getfield 27, 3, 3, 3, 156, 0), (62, .iconst 0, 1, 0, 0, 0, 0), (63, .aload_n 0, 1, 0, 0, 0, 0), (64, .getfield 27, 3, 3, 3, 156, 0), (67, .iconst 0, 1, 0, 0, 0, 0), (68, .bipush 19, 2, 0, 0, 0, 0), (70, .invokestatic 81, 3, 997, 0, 464, 0)]
def zc_X3_copyFrom_1 : List zi_Row := [(73, .aload_n 1, 1, 0, 0, 0, 0), (74, .getfield 30, 3, 3, 4, 157, 0), (77, .iconst 0, 1, 0, 0, 0, 0), (78, .aload_n 0, 1, 0, 0, 0, 0), (79, .getfield 30, 3, 3, 4, 157, 0), (82, .iconst 0, 1, 0, 0, 0, 0), (83, .bipush 19, 2, 0, 0, 0, 0), (85, .invokestatic 81, 3, 997, 0, 464, 0), (88, .aload_n 1, 1, 0, 0, 0, 0), (89, .getfield 33, 3, 3, 5, 158, 0), (92, .iconst 0, 1, 0, 0, 0, 0), (93, .aload_n 0, 1, 0, 0, 0, 0), (94, .getfield 33, 3, 3, 5, 158, 0), (97, .iconst 0, 1, 0, 0, 0, 0), (98, .bipush 19, 2, 0, 0, 0, 0), (100, .invokestatic 81, 3, 997, 0, 464, 0), (103, .aload_n 1, 1, 0, 0, 0, 0), (104, .getfield 36, 3, 3, 6, 159, 0), (107, .iconst 0, 1, 0, 0, 0, 0), (108, .aload_n 0, 1, 0, 0, 0, 0), (109, .getfield 36, 3, 3, 6, 159, 0), (112, .iconst 0, 1, 0, 0, 0, 0), (113, .bipush 19, 2, 0, 0, 0, 0), (115, .invokestatic 81, 3, 997, 0, 464, 0), (118, .aload_n 1, 1, 0, 0, 0, 0), (119, .getfield 39, 3, 3, 7, 160, 0), (122, .iconst 0, 1, 0, 0, 0, 0), (123, .aload_n 0, 1, 0, 0, 0, 0), (124, .getfield 39, 3, 3, 7, 160, 0), (127, .iconst 0, 1, 0, 0, 0, 0), (128, .bipush 19, 2, 0, 0, 0, 0), (130, .invokestatic 81, 3, 997, 0, 464, 0), (133, .aload_n 1, 1, 0, 0, 0, 0), (134, .getfield 42, 3, 3, 8, 161, 0), (137, .iconst 0, 1, 0, 0, 0, 0), (138, .aload_n 0, 1, 0, 0, 0, 0), (139, .getfield 42, 3, 3, 8, 161, 0), (142, .iconst 0, 1, 0, 0, 0, 0), (143, .bipush 19, 2, 0, 0, 0, 0), (145, .invokestatic 81, 3, 997, 0, 464, 0)]
def zc_X3_copyFrom_2 : List zi_Row := [(148, .aload_n 0, 1, 0, 0, 0, 0), (149, .aload_n 1, 1, 0, 0, 0, 0), (150, .getfield 45, 3, 3, 9, 162, 0), (153, .putfield 45, 3, 3, 9, 162, 0), (156, .aload_n 0, 1, 0, 0, 0, 0), (157, .invokevirtual 87, 3, 105, 1, 410, 3), (160, .return_, 1, 0, 0, 0, 0)]
def zc_X3_copyFrom : List zi_Row := zc_X3_copyFrom_0 ++ (zc_X3_copyFrom_1 ++ (zc_X3_copyFrom_2))
def zc_X3_leafOf_0 : List zi_Row := [(0, .iload_n 1, 1, 0, 0, 0, 0), (1, .ifCond .lt 18, 3, 19, 0, 0, 0), (4, .iload_n 1, 1, 0, 0, 0, 0), (5, .bipush 10, 2, 0, 0, 0, 0), (7, .if_icmp .ge 12, 3, 19, 0, 0, 0), (10, .aload_n 0, 1, 0, 0, 0, 0), (11, .getfield 18, 3, 3, 1, 154, 0), (14, .iload_n 1, 1, 0, 0, 0, 0), (15, .iaload, 1, 0, 0, 0, 0), (16, .goto 4, 3, 20, 0, 0, 0), (19, .iconst (-1), 1, 0, 0, 0, 0), (20, .ireturn, 1, 0, 0, 0, 0)]
def zc_X3_leafOf : List zi_Row := zc_X3_leafOf_0
def zc_X3_isShown_0 : List zi_Row := [(0, .aload_n 0, 1, 0, 0, 0, 0), (1, .iload_n 1, 1, 0, 0, 0, 0), (2, .invokevirtual 90, 3, 83, 2, 381, 3), (5, .istore_n 2, 1, 0, 0, 0, 0), (6, .iload_n 2, 1, 0, 0, 0, 0), (7, .ifCond .lt 17, 3, 24, 0, 0, 0), (10, .aload_n 0, 1, 0, 0, 0, 0), (11, .getfield 42, 3, 3, 8, 161, 0), (14, .iload_n 2, 1, 0, 0, 0, 0), (15, .iaload, 1, 0, 0, 0, 0), (16, .iload_n 1, 1, 0, 0, 0, 0), (17, .if_icmp .ne 7, 3, 24, 0, 0, 0), (20, .iconst 1, 1, 0, 0, 0, 0), (21, .goto 4, 3, 25, 0, 0, 0), (24, .iconst 0, 1, 0, 0, 0, 0), (25, .ireturn, 1, 0, 0, 0, 0)]
def zc_X3_isShown : List zi_Row := zc_X3_isShown_0
def zc_X3_leaves_0 : List zi_Row := [(0, .aload_n 0, 1, 0, 0, 0, 0), (1, .getfield 55, 3, 3, 12, 165, 0), (4, .iconst 1, 1, 0, 0, 0, 0), (5, .iadd, 1, 0, 0, 0, 0), (6, .iconst 2, 1, 0, 0, 0, 0), (7, .idiv, 1, 0, 0, 0, 0), (8, .ireturn, 1, 0, 0, 0, 0)]
def zc_X3_leaves : List zi_Row := zc_X3_leaves_0
def zc_X3_cuts_0 : List zi_Row := [(0, .aload_n 0, 1, 0, 0, 0, 0), (1, .getfield 55, 3, 3, 12, 165, 0), (4, .iconst 2, 1, 0, 0, 0, 0), (5, .idiv, 1, 0, 0, 0, 0), (6, .ireturn, 1, 0, 0, 0, 0)]
def zc_X3_cuts : List zi_Row := zc_X3_cuts_0
def zc_X3_leafNumber_0 : List zi_Row := [(0, .iconst 0, 1, 0, 0, 0, 0), (1, .istore_n 2, 1, 0, 0, 0, 0), (2, .iconst 0, 1, 0, 0, 0, 0), (3, .istore_n 3, 1, 0, 0, 0, 0), (4, .iload_n 3, 1, 0, 0, 0, 0), (5, .aload_n 0, 1, 0, 0, 0, 0), (6, .getfield 55, 3, 3, 12, 165, 0), (9, .if_icmp .ge 39, 3, 48, 0, 0, 0), (12, .aload_n 0, 1, 0, 0, 0, 0), (13, .getfield 27, 3, 3, 3, 156, 0), (16, .aload_n 0, 1, 0, 0, 0, 0), (17, .getfield 49, 3, 3, 10, 163, 0), (20, .iload_n 3, 1, 0, 0, 0, 0), (21, .iaload, 1, 0, 0, 0, 0), (22, .iaload, 1, 0, 0, 0, 0), (23, .iconst 2, 1, 0, 0, 0, 0), (24, .if_icmp .ne 18, 3, 42, 0, 0, 0), (27, .iload_n 2, 1, 0, 0, 0, 0), (28, .iload_n 1, 1, 0, 0, 0, 0), (29, .if_icmp .ne 10, 3, 39, 0, 0, 0), (32, .aload_n 0, 1, 0, 0, 0, 0), (33, .getfield 49, 3, 3, 10, 163, 0), (36, .iload_n 3, 1, 0, 0, 0, 0), (37, .iaload, 1, 0, 0, 0, 0), (38, .ireturn, 1, 0, 0, 0, 0), (39, .iinc 2 1, 3, 0, 0, 0, 0), (42, .iinc 3 1, 3, 0, 0, 0, 0), (45, .goto (-41), 3, 4, 0, 0, 0), (48, .iconst (-1), 1, 0, 0, 0, 0), (49, .ireturn, 1, 0, 0, 0, 0)]
def zc_X3_leafNumber : List zi_Row := zc_X3_leafNumber_0
def zc_X3_shownIn_0 : List zi_Row := [(0, .aload_n 0, 1, 0, 0, 0, 0), (1, .getfield 42, 3, 3, 8, 161, 0), (4, .iload_n 1, 1, 0, 0, 0, 0), (5, .iaload, 1, 0, 0, 0, 0), (6, .ireturn, 1, 0, 0, 0, 0)]
def zc_X3_shownIn : List zi_Row := zc_X3_shownIn_0
def zc_X3_tabsIn_0 : List zi_Row := [(0, .iconst 0, 1, 0, 0, 0, 0), (1, .istore_n 2, 1, 0, 0, 0, 0), (2, .iconst 0, 1, 0, 0, 0, 0), (3, .istore_n 3, 1, 0, 0, 0, 0), (4, .iload_n 3, 1, 0, 0, 0, 0), (5, .aload_n 0, 1, 0, 0, 0, 0), (6, .getfield 12, 3, 3, 0, 153, 0), (9, .invokevirtual 94, 3, 44, 1, 386, 1), (12, .if_icmp .ge 34, 3, 46, 0, 0, 0), (15, .iload_n 2, 1, 0, 0, 0, 0), (16, .aload_n 0, 1, 0, 0, 0, 0), (17, .getfield 18, 3, 3, 1, 154, 0), (20, .aload_n 0, 1, 0, 0, 0, 0), (21, .getfield 12, 3, 3, 0, 153, 0), (24, .iload_n 3, 1, 0, 0, 0, 0), (25, .invokevirtual 98, 3, 45, 2, 390, 1), (28, .iaload, 1, 0, 0, 0, 0), (29, .iload_n 1, 1, 0, 0, 0, 0), (30, .if_icmp .ne 7, 3, 37, 0, 0, 0), (33, .iconst 1, 1, 0, 0, 0, 0), (34, .goto 4, 3, 38, 0, 0, 0), (37, .iconst 0, 1, 0, 0, 0, 0), (38, .iadd, 1, 0, 0, 0, 0), (39, .istore_n 2, 1, 0, 0, 0, 0), (40, .iinc 3 1, 3, 0, 0, 0, 0), (43, .goto (-39), 3, 4, 0, 0, 0), (46, .iload_n 2, 1, 0, 0, 0, 0), (47, .ireturn, 1, 0, 0, 0, 0)]
def zc_X3_tabsIn : List zi_Row := zc_X3_tabsIn_0
def zc_X3_tabIn_0 : List zi_Row := [(0, .iconst 0, 1, 0, 0, 0, 0), (1, .istore_n 3, 1, 0, 0, 0, 0), (2, .iconst 0, 1, 0, 0, 0, 0), (3, .istore 4, 2, 0, 0, 0, 0), (5, .iload 4, 2, 0, 0, 0, 0), (7, .aload_n 0, 1, 0, 0, 0, 0), (8, .getfield 12, 3, 3, 0, 153, 0), (11, .invokevirtual 94, 3, 44, 1, 386, 1), (14, .if_icmp .ge 45, 3, 59, 0, 0, 0), (17, .aload_n 0, 1, 0, 0, 0, 0), (18, .getfield 18, 3, 3, 1, 154, 0), (21, .aload_n 0, 1, 0, 0, 0, 0), (22, .getfield 12, 3, 3, 0, 153, 0), (25, .iload 4, 2, 0, 0, 0, 0), (27, .invokevirtual 98, 3, 45, 2, 390, 1), (30, .iaload, 1, 0, 0, 0, 0), (31, .iload_n 1, 1, 0, 0, 0, 0), (32, .if_icmp .ne 21, 3, 53, 0, 0, 0), (35, .iload_n 3, 1, 0, 0, 0, 0), (36, .iload_n 2, 1, 0, 0, 0, 0), (37, .if_icmp .ne 13, 3, 50, 0, 0, 0), (40, .aload_n 0, 1, 0, 0, 0, 0), (41, .getfield 12, 3, 3, 0, 153, 0), (44, .iload 4, 2, 0, 0, 0, 0), (46, .invokevirtual 98, 3, 45, 2, 390, 1), (49, .ireturn, 1, 0, 0, 0, 0), (50, .iinc 3 1, 3, 0, 0, 0, 0), (53, .iinc 4 1, 3, 0, 0, 0, 0), (56, .goto (-51), 3, 5, 0, 0, 0), (59, .ldc 101, 2, 0, 0, 523, (-1000000005)), (61, .ireturn, 1, 0, 0, 0, 0)]
def zc_X3_tabIn : List zi_Row := zc_X3_tabIn_0
def zc_X3_leastOf_0 : List zi_Row := [(0, .aload_n 0, 1, 0, 0, 0, 0), (1, .getfield 45, 3, 3, 9, 162, 0), (4, .ifCond .ge 7, 3, 11, 0, 0, 0), (7, .iconst 0, 1, 0, 0, 0, 0), (8, .goto 14, 3, 22, 0, 0, 0), (11, .aload_n 0, 1, 0, 0, 0, 0), (12, .getfield 58, 3, 3, 13, 166, 0), (15, .iload_n 1, 1, 0, 0, 0, 0), (16, .aaload, 1, 0, 0, 0, 0), (17, .aload_n 0, 1, 0, 0, 0, 0), (18, .getfield 45, 3, 3, 9, 162, 0), (21, .iaload, 1, 0, 0, 0, 0), (22, .ireturn, 1, 0, 0, 0, 0)]
def zc_X3_leastOf : List zi_Row := zc_X3_leastOf_0
def zc_X3_fits_0 : List zi_Row := [(0, .aload_n 0, 1, 0, 0, 0, 0), (1, .iconst 0, 1, 0, 0, 0, 0), (2, .invokevirtual 102, 3, 91, 2, 333, 3), (5, .aload_n 1, 1, 0, 0, 0, 0), (6, .iconst 0, 1, 0, 0, 0, 0), (7, .iaload, 1, 0, 0, 0, 0), (8, .if_icmp .gt 18, 3, 26, 0, 0, 0), (11, .aload_n 0, 1, 0, 0, 0, 0), (12, .iconst 1, 1, 0, 0, 0, 0), (13, .invokevirtual 102, 3, 91, 2, 333, 3), (16, .aload_n 1, 1, 0, 0, 0, 0), (17, .iconst 1, 1, 0, 0, 0, 0), (18, .iaload, 1, 0, 0, 0, 0), (19, .if_icmp .gt 7, 3, 26, 0, 0, 0), (22, .iconst 1, 1, 0, 0, 0, 0), (23, .goto 4, 3, 27, 0, 0, 0), (26, .iconst 0, 1, 0, 0, 0, 0), (27, .ireturn, 1, 0, 0, 0, 0)]
def zc_X3_fits : List zi_Row := zc_X3_fits_0
def zc_X3_nearestCut_0 : List zi_Row := [(0, .aload_n 0, 1, 0, 0, 0, 0), (1, .iload_n 1, 1, 0, 0, 0, 0), (2, .invokevirtual 90, 3, 83, 2, 381, 3), (5, .istore_n 3, 1, 0, 0, 0, 0), (6, .iconst 0, 1, 0, 0, 0, 0), (7, .istore 4, 2, 0, 0, 0, 0), (9, .iload 4, 2, 0, 0, 0, 0), (11, .bipush 19, 2, 0, 0, 0, 0), (13, .if_icmp .ge 32, 3, 45, 0, 0, 0), (16, .iload_n 3, 1, 0, 0, 0, 0), (17, .ifCond .lt 28, 3, 45, 0, 0, 0), (20, .aload_n 0, 1, 0, 0, 0, 0), (21, .getfield 27, 3, 3, 3, 156, 0), (24, .iload_n 3, 1, 0, 0, 0, 0), (25, .iaload, 1, 0, 0, 0, 0), (26, .iload_n 2, 1, 0, 0, 0, 0), (27, .if_icmp .ne 5, 3, 32, 0, 0, 0), (30, .iload_n 3, 1, 0, 0, 0, 0), (31, .ireturn, 1, 0, 0, 0, 0), (32, .aload_n 0, 1, 0, 0, 0, 0), (33, .getfield 39, 3, 3, 7, 160, 0), (36, .iload_n 3, 1, 0, 0, 0, 0), (37, .iaload, 1, 0, 0, 0, 0), (38, .istore_n 3, 1, 0, 0, 0, 0), (39, .iinc 4 1, 3, 0, 0, 0, 0), (42, .goto (-33), 3, 9, 0, 0, 0), (45, .iconst (-1), 1, 0, 0, 0, 0), (46, .ireturn, 1, 0, 0, 0, 0)]
def zc_X3_nearestCut : List zi_Row := zc_X3_nearestCut_0
def zc_X3_changeShare_0 : List zi_Row := [(0, .aload_n 0, 1, 0, 0, 0, 0), (1, .getfield 30, 3, 3, 4, 157, 0), (4, .iload_n 1, 1, 0, 0, 0, 0), (5, .iaload, 1, 0, 0, 0, 0), (6, .istore_n 3, 1, 0, 0, 0, 0), (7, .aload_n 0, 1, 0, 0, 0, 0), (8, .getfield 30, 3, 3, 4, 157, 0), (11, .iload_n 1, 1, 0, 0, 0, 0), (12, .iload_n 2, 1, 0, 0, 0, 0), (13, .iastore, 1, 0, 0, 0, 0), (14, .iload_n 3, 1, 0, 0, 0, 0), (15, .ireturn, 1, 0, 0, 0, 0)]
def zc_X3_changeShare : List zi_Row := zc_X3_changeShare_0
def zc_X3_show_0 : List zi_Row := [(0, .aload_n 0, 1, 0, 0, 0, 0), (1, .iload_n 1, 1, 0, 0, 0, 0), (2, .invokevirtual 90, 3, 83, 2, 381, 3), (5, .istore_n 2, 1, 0, 0, 0, 0), (6, .iload_n 2, 1, 0, 0, 0, 0), (7, .ifCond .lt 10, 3, 17, 0, 0, 0), (10, .aload_n 0, 1, 0, 0, 0, 0), (11, .getfield 42, 3, 3, 8, 161, 0), (14, .iload_n 2, 1, 0, 0, 0, 0), (15, .iload_n 1, 1, 0, 0, 0, 0), (16, .iastore, 1, 0, 0, 0, 0), (17, .return_, 1, 0, 0, 0, 0)]
def zc_X3_show : List zi_Row := zc_X3_show_0
def zc_X3_addTab_0 : List zi_Row := [(0, .iload_n 1, 1, 0, 0, 0, 0), (1, .istore 5, 2, 0, 0, 0, 0), (3, .iload_n 1, 1, 0, 0, 0, 0), (4, .ifCond .ge 32, 3, 36, 0, 0, 0), (7, .aload_n 0, 1, 0, 0, 0, 0), (8, .iconst 2, 1, 0, 0, 0, 0), (9, .invokevirtual 105, 3, 104, 2, 528, 3), (12, .istore 5, 2, 0, 0, 0, 0), (14, .aload_n 0, 1, 0, 0, 0, 0), (15, .iload 5, 2, 0, 0, 0, 0), (17, .putfield 45, 3, 3, 9, 162, 0), (20, .aload_n 0, 1, 0, 0, 0, 0), (21, .getfield 39, 3, 3, 7, 160, 0), (24, .iload 5, 2, 0, 0, 0, 0), (26, .iconst (-1), 1, 0, 0, 0, 0), (27, .iastore, 1, 0, 0, 0, 0), (28, .aload_n 0, 1, 0, 0, 0, 0), (29, .getfield 42, 3, 3, 8, 161, 0), (32, .iload 5, 2, 0, 0, 0, 0), (34, .iload_n 2, 1, 0, 0, 0, 0), (35, .iastore, 1, 0, 0, 0, 0), (36, .aload_n 0, 1, 0, 0, 0, 0), (37, .iload 5, 2, 0, 0, 0, 0), (39, .iload_n 2, 1, 0, 0, 0, 0), (40, .iload_n 3, 1, 0, 0, 0, 0), (41, .iload 4, 2, 0, 0, 0, 0), (43, .invokevirtual 108, 3, 103, 5, 532, 3), (46, .aload_n 0, 1, 0, 0, 0, 0), (47, .invokevirtual 87, 3, 105, 1, 410, 3), (50, .return_, 1, 0, 0, 0, 0)]
def zc_X3_addTab : List zi_Row := zc_X3_addTab_0
def zc_X3_addAllTabs_0 : List zi_Row := [(0, .iconst 0, 1, 0, 0, 0, 0), (1, .istore_n 2, 1, 0, 0, 0, 0), (2, .iload_n 2, 1, 0, 0, 0, 0), (3, .aload_n 1, 1, 0, 0, 0, 0), (4, .invokevirtual 112, 3, 85, 1, 507, 3), (7, .if_icmp .ge 72, 3, 79, 0, 0, 0), (10, .aload_n 1, 1, 0, 0, 0, 0), (11, .iload_n 2, 1, 0, 0, 0, 0), (12, .invokevirtual 115, 3, 87, 2, 511, 3), (15, .istore_n 3, 1, 0, 0, 0, 0), (16, .iconst 0, 1, 0, 0, 0, 0), (17, .istore 4, 2, 0, 0, 0, 0), (19, .iload 4, 2, 0, 0, 0, 0), (21, .aload_n 1, 1, 0, 0, 0, 0), (22, .iload_n 3, 1, 0, 0, 0, 0), (23, .invokevirtual 118, 3, 89, 2, 515, 3), (26, .if_icmp .ge 47, 3, 73, 0, 0, 0), (29, .aload_n 1, 1, 0, 0, 0, 0), (30, .iload_n 3, 1, 0, 0, 0, 0), (31, .iload 4, 2, 0, 0, 0, 0), (33, .invokevirtual 121, 3, 90, 3, 519, 3), (36, .istore 5, 2, 0, 0, 0, 0), (38, .aload_n 0, 1, 0, 0, 0, 0), (39, .aload_n 0, 1, 0, 0, 0, 0), (40, .iconst 0, 1, 0, 0, 0, 0), (41, .invokevirtual 115, 3, 87, 2, 511, 3), (44, .iload 5, 2, 0, 0, 0, 0), (46, .aload_n 1, 1, 0, 0, 0, 0), (47, .getfield 24, 3, 3, 2, 155, 0), (50, .iconst 0, 1, 0, 0, 0, 0), (51, .aaload, 1, 0, 0, 0, 0), (52, .iload 5, 2, 0, 0, 0, 0), (54, .iaload, 1, 0, 0, 0, 0), (55, .aload_n 1, 1, 0, 0, 0, 0), (56, .getfield 24, 3, 3, 2, 155, 0), (59, .iconst 1, 1, 0, 0, 0, 0), (60, .aaload, 1, 0, 0, 0, 0), (61, .iload 5, 2, 0, 0, 0, 0), (63, .iaload, 1, 0, 0, 0, 0), (64, .invokevirtual 125, 3, 96, 5, 524, 3)]
def zc_X3_addAllTabs_1 : List zi_Row := [(67, .iinc 4 1, 3, 0, 0, 0, 0), (70, .goto (-51), 3, 19, 0, 0, 0), (73, .iinc 2 1, 3, 0, 0, 0, 0), (76, .goto (-74), 3, 2, 0, 0, 0), (79, .return_, 1, 0, 0, 0, 0)]
def zc_X3_addAllTabs : List zi_Row := zc_X3_addAllTabs_0 ++ (zc_X3_addAllTabs_1)
def zc_X3_cutLeaf_0 : List zi_Row := [(0, .aload_n 0, 1, 0, 0, 0, 0), (1, .iload_n 2, 1, 0, 0, 0, 0), (2, .invokevirtual 105, 3, 104, 2, 528, 3), (5, .istore 7, 2, 0, 0, 0, 0), (7, .aload_n 0, 1, 0, 0, 0, 0), (8, .iconst 2, 1, 0, 0, 0, 0), (9, .invokevirtual 105, 3, 104, 2, 528, 3), (12, .istore 8, 2, 0, 0, 0, 0), (14, .aload_n 0, 1, 0, 0, 0, 0), (15, .iload_n 1, 1, 0, 0, 0, 0), (16, .iload 7, 2, 0, 0, 0, 0), (18, .invokevirtual 128, 3, 102, 3, 406, 3), (21, .aload_n 0, 1, 0, 0, 0, 0), (22, .getfield 30, 3, 3, 4, 157, 0), (25, .iload 7, 2, 0, 0, 0, 0), (27, .bipush 50, 2, 0, 0, 0, 0), (29, .iastore, 1, 0, 0, 0, 0), (30, .aload_n 0, 1, 0, 0, 0, 0), (31, .getfield 33, 3, 3, 5, 158, 0), (34, .iload 7, 2, 0, 0, 0, 0), (36, .iload_n 3, 1, 0, 0, 0, 0), (37, .ifCond .eq 8, 3, 45, 0, 0, 0), (40, .iload 8, 2, 0, 0, 0, 0), (42, .goto 4, 3, 46, 0, 0, 0), (45, .iload_n 1, 1, 0, 0, 0, 0), (46, .iastore, 1, 0, 0, 0, 0), (47, .aload_n 0, 1, 0, 0, 0, 0), (48, .getfield 36, 3, 3, 6, 159, 0), (51, .iload 7, 2, 0, 0, 0, 0), (53, .iload_n 3, 1, 0, 0, 0, 0), (54, .ifCond .eq 7, 3, 61, 0, 0, 0), (57, .iload_n 1, 1, 0, 0, 0, 0), (58, .goto 5, 3, 63, 0, 0, 0), (61, .iload 8, 2, 0, 0, 0, 0), (63, .iastore, 1, 0, 0, 0, 0), (64, .aload_n 0, 1, 0, 0, 0, 0), (65, .getfield 39, 3, 3, 7, 160, 0), (68, .iload_n 1, 1, 0, 0, 0, 0), (69, .iload 7, 2, 0, 0, 0, 0), (71, .iastore, 1, 0, 0, 0, 0)]
def zc_X3_cutLeaf_1 : List zi_Row := [(72, .aload_n 0, 1, 0, 0, 0, 0), (73, .getfield 39, 3, 3, 7, 160, 0), (76, .iload 8, 2, 0, 0, 0, 0), (78, .iload 7, 2, 0, 0, 0, 0), (80, .iastore, 1, 0, 0, 0, 0), (81, .aload_n 0, 1, 0, 0, 0, 0), (82, .getfield 42, 3, 3, 8, 161, 0), (85, .iload 8, 2, 0, 0, 0, 0), (87, .iload 4, 2, 0, 0, 0, 0), (89, .iastore, 1, 0, 0, 0, 0), (90, .aload_n 0, 1, 0, 0, 0, 0), (91, .iload 8, 2, 0, 0, 0, 0), (93, .iload 4, 2, 0, 0, 0, 0), (95, .iload 5, 2, 0, 0, 0, 0), (97, .iload 6, 2, 0, 0, 0, 0), (99, .invokevirtual 108, 3, 103, 5, 532, 3), (102, .aload_n 0, 1, 0, 0, 0, 0), (103, .invokevirtual 87, 3, 105, 1, 410, 3), (106, .return_, 1, 0, 0, 0, 0)]
def zc_X3_cutLeaf : List zi_Row := zc_X3_cutLeaf_0 ++ (zc_X3_cutLeaf_1)
def zc_X3_takeOut_0 : List zi_Row := [(0, .aload_n 0, 1, 0, 0, 0, 0), (1, .iload_n 1, 1, 0, 0, 0, 0), (2, .invokevirtual 90, 3, 83, 2, 381, 3), (5, .istore_n 2, 1, 0, 0, 0, 0), (6, .iload_n 2, 1, 0, 0, 0, 0), (7, .ifCond .ge 4, 3, 11, 0, 0, 0), (10, .return_, 1, 0, 0, 0, 0), (11, .aload_n 0, 1, 0, 0, 0, 0), (12, .getfield 42, 3, 3, 8, 161, 0), (15, .iload_n 2, 1, 0, 0, 0, 0), (16, .iaload, 1, 0, 0, 0, 0), (17, .iload_n 1, 1, 0, 0, 0, 0), (18, .if_icmp .ne 15, 3, 33, 0, 0, 0), (21, .aload_n 0, 1, 0, 0, 0, 0), (22, .getfield 42, 3, 3, 8, 161, 0), (25, .iload_n 2, 1, 0, 0, 0, 0), (26, .aload_n 0, 1, 0, 0, 0, 0), (27, .iload_n 1, 1, 0, 0, 0, 0), (28, .iload_n 2, 1, 0, 0, 0, 0), (29, .invokevirtual 132, 3, 100, 3, 382, 3), (32, .iastore, 1, 0, 0, 0, 0), (33, .aload_n 0, 1, 0, 0, 0, 0), (34, .getfield 12, 3, 3, 0, 153, 0), (37, .iload_n 1, 1, 0, 0, 0, 0), (38, .invokevirtual 135, 3, 78, 2, 394, 1), (41, .aload_n 0, 1, 0, 0, 0, 0), (42, .getfield 18, 3, 3, 1, 154, 0), (45, .iload_n 1, 1, 0, 0, 0, 0), (46, .iconst (-1), 1, 0, 0, 0, 0), (47, .iastore, 1, 0, 0, 0, 0), (48, .aload_n 0, 1, 0, 0, 0, 0), (49, .getfield 42, 3, 3, 8, 161, 0), (52, .iload_n 2, 1, 0, 0, 0, 0), (53, .iaload, 1, 0, 0, 0, 0), (54, .ifCond .ge 8, 3, 62, 0, 0, 0), (57, .aload_n 0, 1, 0, 0, 0, 0), (58, .iload_n 2, 1, 0, 0, 0, 0), (59, .invokevirtual 139, 3, 101, 2, 402, 3), (62, .aload_n 0, 1, 0, 0, 0, 0), (63, .invokevirtual 87, 3, 105, 1, 410, 3)]
def zc_X3_takeOut_1 : List zi_Row := [(66, .return_, 1, 0, 0, 0, 0)]
def zc_X3_takeOut : List zi_Row := zc_X3_takeOut_0 ++ (zc_X3_takeOut_1)
def zc_X3_nextShown_0 : List zi_Row := [(0, .iconst (-1), 1, 0, 0, 0, 0), (1, .istore_n 3, 1, 0, 0, 0, 0), (2, .iconst 0, 1, 0, 0, 0, 0), (3, .istore 4, 2, 0, 0, 0, 0), (5, .iconst 0, 1, 0, 0, 0, 0), (6, .istore 5, 2, 0, 0, 0, 0), (8, .iload 5, 2, 0, 0, 0, 0), (10, .aload_n 0, 1, 0, 0, 0, 0), (11, .getfield 12, 3, 3, 0, 153, 0), (14, .invokevirtual 94, 3, 44, 1, 386, 1), (17, .if_icmp .ge 53, 3, 70, 0, 0, 0), (20, .aload_n 0, 1, 0, 0, 0, 0), (21, .getfield 12, 3, 3, 0, 153, 0), (24, .iload 5, 2, 0, 0, 0, 0), (26, .invokevirtual 98, 3, 45, 2, 390, 1), (29, .istore 6, 2, 0, 0, 0, 0), (31, .iload 6, 2, 0, 0, 0, 0), (33, .iload_n 1, 1, 0, 0, 0, 0), (34, .if_icmp .ne 9, 3, 43, 0, 0, 0), (37, .iconst 1, 1, 0, 0, 0, 0), (38, .istore 4, 2, 0, 0, 0, 0), (40, .goto 24, 3, 64, 0, 0, 0), (43, .aload_n 0, 1, 0, 0, 0, 0), (44, .getfield 18, 3, 3, 1, 154, 0), (47, .iload 6, 2, 0, 0, 0, 0), (49, .iaload, 1, 0, 0, 0, 0), (50, .iload_n 2, 1, 0, 0, 0, 0), (51, .if_icmp .ne 13, 3, 64, 0, 0, 0), (54, .iload 6, 2, 0, 0, 0, 0), (56, .istore_n 3, 1, 0, 0, 0, 0), (57, .iload 4, 2, 0, 0, 0, 0), (59, .ifCond .eq 5, 3, 64, 0, 0, 0), (62, .iload_n 3, 1, 0, 0, 0, 0), (63, .ireturn, 1, 0, 0, 0, 0), (64, .iinc 5 1, 3, 0, 0, 0, 0), (67, .goto (-59), 3, 8, 0, 0, 0), (70, .iload_n 3, 1, 0, 0, 0, 0), (71, .ireturn, 1, 0, 0, 0, 0)]
def zc_X3_nextShown : List zi_Row := zc_X3_nextShown_0
def zc_X3_dropLeaf_0 : List zi_Row := [(0, .aload_n 0, 1, 0, 0, 0, 0), (1, .getfield 39, 3, 3, 7, 160, 0), (4, .iload_n 1, 1, 0, 0, 0, 0), (5, .iaload, 1, 0, 0, 0, 0), (6, .istore_n 2, 1, 0, 0, 0, 0), (7, .aload_n 0, 1, 0, 0, 0, 0), (8, .getfield 27, 3, 3, 3, 156, 0), (11, .iload_n 1, 1, 0, 0, 0, 0), (12, .iconst 3, 1, 0, 0, 0, 0), (13, .iastore, 1, 0, 0, 0, 0), (14, .iload_n 2, 1, 0, 0, 0, 0), (15, .ifCond .ge 9, 3, 24, 0, 0, 0), (18, .aload_n 0, 1, 0, 0, 0, 0), (19, .iconst (-1), 1, 0, 0, 0, 0), (20, .putfield 45, 3, 3, 9, 162, 0), (23, .return_, 1, 0, 0, 0, 0), (24, .aload_n 0, 1, 0, 0, 0, 0), (25, .iload_n 2, 1, 0, 0, 0, 0), (26, .aload_n 0, 1, 0, 0, 0, 0), (27, .getfield 33, 3, 3, 5, 158, 0), (30, .iload_n 2, 1, 0, 0, 0, 0), (31, .iaload, 1, 0, 0, 0, 0), (32, .iload_n 1, 1, 0, 0, 0, 0), (33, .if_icmp .ne 12, 3, 45, 0, 0, 0), (36, .aload_n 0, 1, 0, 0, 0, 0), (37, .getfield 36, 3, 3, 6, 159, 0), (40, .iload_n 2, 1, 0, 0, 0, 0), (41, .iaload, 1, 0, 0, 0, 0), (42, .goto 9, 3, 51, 0, 0, 0), (45, .aload_n 0, 1, 0, 0, 0, 0), (46, .getfield 33, 3, 3, 5, 158, 0), (49, .iload_n 2, 1, 0, 0, 0, 0), (50, .iaload, 1, 0, 0, 0, 0), (51, .invokevirtual 128, 3, 102, 3, 406, 3), (54, .aload_n 0, 1, 0, 0, 0, 0), (55, .getfield 27, 3, 3, 3, 156, 0), (58, .iload_n 2, 1, 0, 0, 0, 0), (59, .iconst 3, 1, 0, 0, 0, 0), (60, .iastore, 1, 0, 0, 0, 0), (61, .return_, 1, 0, 0, 0, 0)]
def zc_X3_dropLeaf : List zi_Row := zc_X3_dropLeaf_0
def zc_X3_putInPlaceOf_0 : List zi_Row := [(0, .aload_n 0, 1, 0, 0, 0, 0), (1, .getfield 39, 3, 3, 7, 160, 0), (4, .iload_n 1, 1, 0, 0, 0, 0), (5, .iaload, 1, 0, 0, 0, 0), (6, .istore_n 3, 1, 0, 0, 0, 0), (7, .aload_n 0, 1, 0, 0, 0, 0), (8, .getfield 39, 3, 3, 7, 160, 0), (11, .iload_n 2, 1, 0, 0, 0, 0), (12, .iload_n 3, 1, 0, 0, 0, 0), (13, .iastore, 1, 0, 0, 0, 0), (14, .iload_n 3, 1, 0, 0, 0, 0), (15, .ifCond .ge 11, 3, 26, 0, 0, 0), (18, .aload_n 0, 1, 0, 0, 0, 0), (19, .iload_n 2, 1, 0, 0, 0, 0), (20, .putfield 45, 3, 3, 9, 162, 0), (23, .goto 30, 3, 53, 0, 0, 0), (26, .aload_n 0, 1, 0, 0, 0, 0), (27, .getfield 33, 3, 3, 5, 158, 0), (30, .iload_n 3, 1, 0, 0, 0, 0), (31, .iaload, 1, 0, 0, 0, 0), (32, .iload_n 1, 1, 0, 0, 0, 0), (33, .if_icmp .ne 13, 3, 46, 0, 0, 0), (36, .aload_n 0, 1, 0, 0, 0, 0), (37, .getfield 33, 3, 3, 5, 158, 0), (40, .iload_n 3, 1, 0, 0, 0, 0), (41, .iload_n 2, 1, 0, 0, 0, 0), (42, .iastore, 1, 0, 0, 0, 0), (43, .goto 10, 3, 53, 0, 0, 0), (46, .aload_n 0, 1, 0, 0, 0, 0), (47, .getfield 36, 3, 3, 6, 159, 0), (50, .iload_n 3, 1, 0, 0, 0, 0), (51, .iload_n 2, 1, 0, 0, 0, 0), (52, .iastore, 1, 0, 0, 0, 0), (53, .return_, 1, 0, 0, 0, 0)]
def zc_X3_putInPlaceOf : List zi_Row := zc_X3_putInPlaceOf_0
def zc_X3_enter_0 : List zi_Row := [(0, .aload_n 0, 1, 0, 0, 0, 0), (1, .getfield 12, 3, 3, 0, 153, 0), (4, .iload_n 2, 1, 0, 0, 0, 0), (5, .invokevirtual 142, 3, 77, 2, 536, 1), (8, .aload_n 0, 1, 0, 0, 0, 0), (9, .getfield 18, 3, 3, 1, 154, 0), (12, .iload_n 2, 1, 0, 0, 0, 0), (13, .iload_n 1, 1, 0, 0, 0, 0), (14, .iastore, 1, 0, 0, 0, 0), (15, .aload_n 0, 1, 0, 0, 0, 0), (16, .getfield 24, 3, 3, 2, 155, 0), (19, .iconst 0, 1, 0, 0, 0, 0), (20, .aaload, 1, 0, 0, 0, 0), (21, .iload_n 2, 1, 0, 0, 0, 0), (22, .iload_n 3, 1, 0, 0, 0, 0), (23, .iastore, 1, 0, 0, 0, 0), (24, .aload_n 0, 1, 0, 0, 0, 0), (25, .getfield 24, 3, 3, 2, 155, 0), (28, .iconst 1, 1, 0, 0, 0, 0), (29, .aaload, 1, 0, 0, 0, 0), (30, .iload_n 2, 1, 0, 0, 0, 0), (31, .iload 4, 2, 0, 0, 0, 0), (33, .iastore, 1, 0, 0, 0, 0), (34, .return_, 1, 0, 0, 0, 0)]
def zc_X3_enter : List zi_Row := zc_X3_enter_0
def zc_X3_newNode_0 : List zi_Row := [(0, .iconst 0, 1, 0, 0, 0, 0), (1, .istore_n 2, 1, 0, 0, 0, 0), (2, .iload_n 2, 1, 0, 0, 0, 0), (3, .bipush 18, 2, 0, 0, 0, 0), (5, .if_icmp .ge 19, 3, 24, 0, 0, 0), (8, .aload_n 0, 1, 0, 0, 0, 0), (9, .getfield 27, 3, 3, 3, 156, 0), (12, .iload_n 2, 1, 0, 0, 0, 0), (13, .iaload, 1, 0, 0, 0, 0), (14, .iconst 3, 1, 0, 0, 0, 0), (15, .if_icmp .eq 9, 3, 24, 0, 0, 0), (18, .iinc 2 1, 3, 0, 0, 0, 0), (21, .goto (-19), 3, 2, 0, 0, 0), (24, .aload_n 0, 1, 0, 0, 0, 0), (25, .getfield 27, 3, 3, 3, 156, 0), (28, .iload_n 2, 1, 0, 0, 0, 0), (29, .iload_n 1, 1, 0, 0, 0, 0), (30, .iastore, 1, 0, 0, 0, 0), (31, .iload_n 2, 1, 0, 0, 0, 0), (32, .ireturn, 1, 0, 0, 0, 0)]
def zc_X3_newNode : List zi_Row := zc_X3_newNode_0
def zc_X3_settle_0 : List zi_Row := [(0, .aload_n 0, 1, 0, 0, 0, 0), (1, .invokevirtual 145, 3, 106, 1, 414, 3), (4, .iconst 0, 1, 0, 0, 0, 0), (5, .istore_n 1, 1, 0, 0, 0, 0), (6, .iload_n 1, 1, 0, 0, 0, 0), (7, .iconst 2, 1, 0, 0, 0, 0), (8, .if_icmp .ge 19, 3, 27, 0, 0, 0), (11, .aload_n 0, 1, 0, 0, 0, 0), (12, .iload_n 1, 1, 0, 0, 0, 0), (13, .invokevirtual 148, 3, 107, 2, 418, 3), (16, .aload_n 0, 1, 0, 0, 0, 0), (17, .iload_n 1, 1, 0, 0, 0, 0), (18, .invokevirtual 151, 3, 108, 2, 425, 3), (21, .iinc 1 1, 3, 0, 0, 0, 0), (24, .goto (-18), 3, 6, 0, 0, 0), (27, .return_, 1, 0, 0, 0, 0)]
def zc_X3_settle : List zi_Row := zc_X3_settle_0
def zc_X3_listNodes_0 : List zi_Row := [(0, .aload_n 0, 1, 0, 0, 0, 0), (1, .iconst 0, 1, 0, 0, 0, 0), (2, .putfield 55, 3, 3, 12, 165, 0), (5, .iconst 0, 1, 0, 0, 0, 0), (6, .istore_n 1, 1, 0, 0, 0, 0), (7, .aload_n 0, 1, 0, 0, 0, 0), (8, .getfield 45, 3, 3, 9, 162, 0), (11, .ifCond .lt 16, 3, 27, 0, 0, 0), (14, .aload_n 0, 1, 0, 0, 0, 0), (15, .getfield 52, 3, 3, 11, 164, 0), (18, .iload_n 1, 1, 0, 0, 0, 0), (19, .aload_n 0, 1, 0, 0, 0, 0), (20, .getfield 45, 3, 3, 9, 162, 0), (23, .iastore, 1, 0, 0, 0, 0), (24, .iinc 1 1, 3, 0, 0, 0, 0), (27, .iconst 0, 1, 0, 0, 0, 0), (28, .istore_n 2, 1, 0, 0, 0, 0), (29, .iload_n 2, 1, 0, 0, 0, 0), (30, .bipush 19, 2, 0, 0, 0, 0), (32, .if_icmp .ge 82, 3, 114, 0, 0, 0), (35, .iload_n 1, 1, 0, 0, 0, 0), (36, .ifCond .le 78, 3, 114, 0, 0, 0), (39, .iinc 1 (-1), 3, 0, 0, 0, 0), (42, .aload_n 0, 1, 0, 0, 0, 0), (43, .getfield 52, 3, 3, 11, 164, 0), (46, .iload_n 1, 1, 0, 0, 0, 0), (47, .iaload, 1, 0, 0, 0, 0), (48, .istore_n 3, 1, 0, 0, 0, 0), (49, .aload_n 0, 1, 0, 0, 0, 0), (50, .getfield 49, 3, 3, 10, 163, 0), (53, .aload_n 0, 1, 0, 0, 0, 0), (54, .getfield 55, 3, 3, 12, 165, 0), (57, .iload_n 3, 1, 0, 0, 0, 0), (58, .iastore, 1, 0, 0, 0, 0), (59, .aload_n 0, 1, 0, 0, 0, 0), (60, .dup, 1, 0, 0, 0, 0), (61, .getfield 55, 3, 3, 12, 165, 0), (64, .iconst 1, 1, 0, 0, 0, 0), (65, .iadd, 1, 0, 0, 0, 0), (66, .putfield 55, 3, 3, 12, 165, 0)]
def zc_X3_listNodes_1 : List zi_Row := [(69, .aload_n 0, 1, 0, 0, 0, 0), (70, .getfield 27, 3, 3, 3, 156, 0), (73, .iload_n 3, 1, 0, 0, 0, 0), (74, .iaload, 1, 0, 0, 0, 0), (75, .iconst 2, 1, 0, 0, 0, 0), (76, .if_icmp .eq 32, 3, 108, 0, 0, 0), (79, .aload_n 0, 1, 0, 0, 0, 0), (80, .getfield 52, 3, 3, 11, 164, 0), (83, .iload_n 1, 1, 0, 0, 0, 0), (84, .aload_n 0, 1, 0, 0, 0, 0), (85, .getfield 36, 3, 3, 6, 159, 0), (88, .iload_n 3, 1, 0, 0, 0, 0), (89, .iaload, 1, 0, 0, 0, 0), (90, .iastore, 1, 0, 0, 0, 0), (91, .aload_n 0, 1, 0, 0, 0, 0), (92, .getfield 52, 3, 3, 11, 164, 0), (95, .iload_n 1, 1, 0, 0, 0, 0), (96, .iconst 1, 1, 0, 0, 0, 0), (97, .iadd, 1, 0, 0, 0, 0), (98, .aload_n 0, 1, 0, 0, 0, 0), (99, .getfield 33, 3, 3, 5, 158, 0), (102, .iload_n 3, 1, 0, 0, 0, 0), (103, .iaload, 1, 0, 0, 0, 0), (104, .iastore, 1, 0, 0, 0, 0), (105, .iinc 1 2, 3, 0, 0, 0, 0), (108, .iinc 2 1, 3, 0, 0, 0, 0), (111, .goto (-82), 3, 29, 0, 0, 0), (114, .return_, 1, 0, 0, 0, 0)]
def zc_X3_listNodes : List zi_Row := zc_X3_listNodes_0 ++ (zc_X3_listNodes_1)
def zc_X3_measureLeaves_0 : List zi_Row := [(0, .aload_n 0, 1, 0, 0, 0, 0), (1, .getfield 58, 3, 3, 13, 166, 0), (4, .iload_n 1, 1, 0, 0, 0, 0), (5, .aaload, 1, 0, 0, 0, 0), (6, .iconst 0, 1, 0, 0, 0, 0), (7, .invokestatic 71, 3, 9, 2, 150, 0), (10, .iconst 0, 1, 0, 0, 0, 0), (11, .istore_n 2, 1, 0, 0, 0, 0), (12, .iload_n 2, 1, 0, 0, 0, 0), (13, .aload_n 0, 1, 0, 0, 0, 0), (14, .getfield 12, 3, 3, 0, 153, 0), (17, .invokevirtual 94, 3, 44, 1, 386, 1), (20, .if_icmp .ge 55, 3, 75, 0, 0, 0), (23, .aload_n 0, 1, 0, 0, 0, 0), (24, .getfield 12, 3, 3, 0, 153, 0), (27, .iload_n 2, 1, 0, 0, 0, 0), (28, .invokevirtual 98, 3, 45, 2, 390, 1), (31, .istore_n 3, 1, 0, 0, 0, 0), (32, .aload_n 0, 1, 0, 0, 0, 0), (33, .getfield 18, 3, 3, 1, 154, 0), (36, .iload_n 3, 1, 0, 0, 0, 0), (37, .iaload, 1, 0, 0, 0, 0), (38, .istore 4, 2, 0, 0, 0, 0), (40, .aload_n 0, 1, 0, 0, 0, 0), (41, .getfield 58, 3, 3, 13, 166, 0), (44, .iload_n 1, 1, 0, 0, 0, 0), (45, .aaload, 1, 0, 0, 0, 0), (46, .iload 4, 2, 0, 0, 0, 0), (48, .aload_n 0, 1, 0, 0, 0, 0), (49, .getfield 58, 3, 3, 13, 166, 0), (52, .iload_n 1, 1, 0, 0, 0, 0), (53, .aaload, 1, 0, 0, 0, 0), (54, .iload 4, 2, 0, 0, 0, 0), (56, .iaload, 1, 0, 0, 0, 0), (57, .aload_n 0, 1, 0, 0, 0, 0), (58, .getfield 24, 3, 3, 2, 155, 0), (61, .iload_n 1, 1, 0, 0, 0, 0), (62, .aaload, 1, 0, 0, 0, 0), (63, .iload_n 3, 1, 0, 0, 0, 0), (64, .iaload, 1, 0, 0, 0, 0)]
def zc_X3_measureLeaves_1 : List zi_Row := [(65, .invokestatic 154, 3, 206, 2, 422, 0), (68, .iastore, 1, 0, 0, 0, 0), (69, .iinc 2 1, 3, 0, 0, 0, 0), (72, .goto (-60), 3, 12, 0, 0, 0), (75, .return_, 1, 0, 0, 0, 0)]
def zc_X3_measureLeaves : List zi_Row := zc_X3_measureLeaves_0 ++ (zc_X3_measureLeaves_1)
def zc_X3_measureCuts_0 : List zi_Row := [(0, .aload_n 0, 1, 0, 0, 0, 0), (1, .getfield 55, 3, 3, 12, 165, 0), (4, .iconst 1, 1, 0, 0, 0, 0), (5, .isub, 1, 0, 0, 0, 0), (6, .istore_n 2, 1, 0, 0, 0, 0), (7, .iload_n 2, 1, 0, 0, 0, 0), (8, .ifCond .lt 89, 3, 97, 0, 0, 0), (11, .aload_n 0, 1, 0, 0, 0, 0), (12, .getfield 49, 3, 3, 10, 163, 0), (15, .iload_n 2, 1, 0, 0, 0, 0), (16, .iaload, 1, 0, 0, 0, 0), (17, .istore_n 3, 1, 0, 0, 0, 0), (18, .aload_n 0, 1, 0, 0, 0, 0), (19, .getfield 27, 3, 3, 3, 156, 0), (22, .iload_n 3, 1, 0, 0, 0, 0), (23, .iaload, 1, 0, 0, 0, 0), (24, .iconst 2, 1, 0, 0, 0, 0), (25, .if_icmp .eq 66, 3, 91, 0, 0, 0), (28, .aload_n 0, 1, 0, 0, 0, 0), (29, .getfield 58, 3, 3, 13, 166, 0), (32, .iload_n 1, 1, 0, 0, 0, 0), (33, .aaload, 1, 0, 0, 0, 0), (34, .aload_n 0, 1, 0, 0, 0, 0), (35, .getfield 33, 3, 3, 5, 158, 0), (38, .iload_n 3, 1, 0, 0, 0, 0), (39, .iaload, 1, 0, 0, 0, 0), (40, .iaload, 1, 0, 0, 0, 0), (41, .istore 4, 2, 0, 0, 0, 0), (43, .aload_n 0, 1, 0, 0, 0, 0), (44, .getfield 58, 3, 3, 13, 166, 0), (47, .iload_n 1, 1, 0, 0, 0, 0), (48, .aaload, 1, 0, 0, 0, 0), (49, .aload_n 0, 1, 0, 0, 0, 0), (50, .getfield 36, 3, 3, 6, 159, 0), (53, .iload_n 3, 1, 0, 0, 0, 0), (54, .iaload, 1, 0, 0, 0, 0), (55, .iaload, 1, 0, 0, 0, 0), (56, .istore 5, 2, 0, 0, 0, 0), (58, .aload_n 0, 1, 0, 0, 0, 0), (59, .getfield 58, 3, 3, 13, 166, 0)]
def zc_X3_measureCuts_1 : List zi_Row := [(62, .iload_n 1, 1, 0, 0, 0, 0), (63, .aaload, 1, 0, 0, 0, 0), (64, .iload_n 3, 1, 0, 0, 0, 0), (65, .aload_n 0, 1, 0, 0, 0, 0), (66, .getfield 27, 3, 3, 3, 156, 0), (69, .iload_n 3, 1, 0, 0, 0, 0), (70, .iaload, 1, 0, 0, 0, 0), (71, .iload_n 1, 1, 0, 0, 0, 0), (72, .if_icmp .ne 11, 3, 83, 0, 0, 0), (75, .iload 4, 2, 0, 0, 0, 0), (77, .iload 5, 2, 0, 0, 0, 0), (79, .iadd, 1, 0, 0, 0, 0), (80, .goto 10, 3, 90, 0, 0, 0), (83, .iload 4, 2, 0, 0, 0, 0), (85, .iload 5, 2, 0, 0, 0, 0), (87, .invokestatic 154, 3, 206, 2, 422, 0), (90, .iastore, 1, 0, 0, 0, 0), (91, .iinc 2 (-1), 3, 0, 0, 0, 0), (94, .goto (-87), 3, 7, 0, 0, 0), (97, .return_, 1, 0, 0, 0, 0)]
def zc_X3_measureCuts : List zi_Row := zc_X3_measureCuts_0 ++ (zc_X3_measureCuts_1)
def zc_X3_lay_0 : List zi_Row := [(0, .iconst 0, 1, 0, 0, 0, 0), (1, .istore_n 2, 1, 0, 0, 0, 0), (2, .iload_n 2, 1, 0, 0, 0, 0), (3, .iconst 2, 1, 0, 0, 0, 0), (4, .if_icmp .ge 42, 3, 46, 0, 0, 0), (7, .aload_n 0, 1, 0, 0, 0, 0), (8, .getfield 45, 3, 3, 9, 162, 0), (11, .ifCond .lt 35, 3, 46, 0, 0, 0), (14, .aload_n 0, 1, 0, 0, 0, 0), (15, .getfield 61, 3, 3, 14, 167, 0), (18, .iload_n 2, 1, 0, 0, 0, 0), (19, .aaload, 1, 0, 0, 0, 0), (20, .aload_n 0, 1, 0, 0, 0, 0), (21, .getfield 45, 3, 3, 9, 162, 0), (24, .iconst 0, 1, 0, 0, 0, 0), (25, .iastore, 1, 0, 0, 0, 0), (26, .aload_n 0, 1, 0, 0, 0, 0), (27, .getfield 64, 3, 3, 15, 168, 0), (30, .iload_n 2, 1, 0, 0, 0, 0), (31, .aaload, 1, 0, 0, 0, 0), (32, .aload_n 0, 1, 0, 0, 0, 0), (33, .getfield 45, 3, 3, 9, 162, 0), (36, .aload_n 1, 1, 0, 0, 0, 0), (37, .iload_n 2, 1, 0, 0, 0, 0), (38, .iaload, 1, 0, 0, 0, 0), (39, .iastore, 1, 0, 0, 0, 0), (40, .iinc 2 1, 3, 0, 0, 0, 0), (43, .goto (-41), 3, 2, 0, 0, 0), (46, .iconst 0, 1, 0, 0, 0, 0), (47, .istore_n 2, 1, 0, 0, 0, 0), (48, .iload_n 2, 1, 0, 0, 0, 0), (49, .aload_n 0, 1, 0, 0, 0, 0), (50, .getfield 55, 3, 3, 12, 165, 0), (53, .if_icmp .ge 34, 3, 87, 0, 0, 0), (56, .aload_n 0, 1, 0, 0, 0, 0), (57, .getfield 27, 3, 3, 3, 156, 0), (60, .aload_n 0, 1, 0, 0, 0, 0), (61, .getfield 49, 3, 3, 10, 163, 0), (64, .iload_n 2, 1, 0, 0, 0, 0), (65, .iaload, 1, 0, 0, 0, 0)]
def zc_X3_lay_1 : List zi_Row := [(66, .iaload, 1, 0, 0, 0, 0), (67, .iconst 2, 1, 0, 0, 0, 0), (68, .if_icmp .eq 13, 3, 81, 0, 0, 0), (71, .aload_n 0, 1, 0, 0, 0, 0), (72, .aload_n 0, 1, 0, 0, 0, 0), (73, .getfield 49, 3, 3, 10, 163, 0), (76, .iload_n 2, 1, 0, 0, 0, 0), (77, .iaload, 1, 0, 0, 0, 0), (78, .invokevirtual 159, 3, 110, 2, 583, 3), (81, .iinc 2 1, 3, 0, 0, 0, 0), (84, .goto (-36), 3, 48, 0, 0, 0), (87, .return_, 1, 0, 0, 0, 0)]
def zc_X3_lay : List zi_Row := zc_X3_lay_0 ++ (zc_X3_lay_1)
def zc_X3_divide_0 : List zi_Row := [(0, .aload_n 0, 1, 0, 0, 0, 0), (1, .getfield 33, 3, 3, 5, 158, 0), (4, .iload_n 1, 1, 0, 0, 0, 0), (5, .iaload, 1, 0, 0, 0, 0), (6, .istore_n 2, 1, 0, 0, 0, 0), (7, .aload_n 0, 1, 0, 0, 0, 0), (8, .getfield 36, 3, 3, 6, 159, 0), (11, .iload_n 1, 1, 0, 0, 0, 0), (12, .iaload, 1, 0, 0, 0, 0), (13, .istore_n 3, 1, 0, 0, 0, 0), (14, .iconst 0, 1, 0, 0, 0, 0), (15, .istore 4, 2, 0, 0, 0, 0), (17, .iload 4, 2, 0, 0, 0, 0), (19, .iconst 2, 1, 0, 0, 0, 0), (20, .if_icmp .ge 148, 3, 168, 0, 0, 0), (23, .aload_n 0, 1, 0, 0, 0, 0), (24, .getfield 64, 3, 3, 15, 168, 0), (27, .iload 4, 2, 0, 0, 0, 0), (29, .aaload, 1, 0, 0, 0, 0), (30, .iload_n 1, 1, 0, 0, 0, 0), (31, .iaload, 1, 0, 0, 0, 0), (32, .istore 5, 2, 0, 0, 0, 0), (34, .aload_n 0, 1, 0, 0, 0, 0), (35, .getfield 27, 3, 3, 3, 156, 0), (38, .iload_n 1, 1, 0, 0, 0, 0), (39, .iaload, 1, 0, 0, 0, 0), (40, .iload 4, 2, 0, 0, 0, 0), (42, .if_icmp .ne 7, 3, 49, 0, 0, 0), (45, .iconst 1, 1, 0, 0, 0, 0), (46, .goto 4, 3, 50, 0, 0, 0), (49, .iconst 0, 1, 0, 0, 0, 0), (50, .istore 6, 2, 0, 0, 0, 0), (52, .iload 6, 2, 0, 0, 0, 0), (54, .ifCond .eq 13, 3, 67, 0, 0, 0), (57, .aload_n 0, 1, 0, 0, 0, 0), (58, .iload_n 1, 1, 0, 0, 0, 0), (59, .iload 4, 2, 0, 0, 0, 0), (61, .invokevirtual 162, 3, 111, 3, 587, 3), (64, .goto 5, 3, 69, 0, 0, 0), (67, .iload 5, 2, 0, 0, 0, 0)]
def zc_X3_divide_1 : List zi_Row := [(69, .istore 7, 2, 0, 0, 0, 0), (71, .aload_n 0, 1, 0, 0, 0, 0), (72, .getfield 61, 3, 3, 14, 167, 0), (75, .iload 4, 2, 0, 0, 0, 0), (77, .aaload, 1, 0, 0, 0, 0), (78, .iload_n 2, 1, 0, 0, 0, 0), (79, .aload_n 0, 1, 0, 0, 0, 0), (80, .getfield 61, 3, 3, 14, 167, 0), (83, .iload 4, 2, 0, 0, 0, 0), (85, .aaload, 1, 0, 0, 0, 0), (86, .iload_n 1, 1, 0, 0, 0, 0), (87, .iaload, 1, 0, 0, 0, 0), (88, .iastore, 1, 0, 0, 0, 0), (89, .aload_n 0, 1, 0, 0, 0, 0), (90, .getfield 64, 3, 3, 15, 168, 0), (93, .iload 4, 2, 0, 0, 0, 0), (95, .aaload, 1, 0, 0, 0, 0), (96, .iload_n 2, 1, 0, 0, 0, 0), (97, .iload 7, 2, 0, 0, 0, 0), (99, .iastore, 1, 0, 0, 0, 0), (100, .aload_n 0, 1, 0, 0, 0, 0), (101, .getfield 61, 3, 3, 14, 167, 0), (104, .iload 4, 2, 0, 0, 0, 0), (106, .aaload, 1, 0, 0, 0, 0), (107, .iload_n 3, 1, 0, 0, 0, 0), (108, .iload 6, 2, 0, 0, 0, 0), (110, .ifCond .eq 18, 3, 128, 0, 0, 0), (113, .aload_n 0, 1, 0, 0, 0, 0), (114, .getfield 61, 3, 3, 14, 167, 0), (117, .iload 4, 2, 0, 0, 0, 0), (119, .aaload, 1, 0, 0, 0, 0), (120, .iload_n 1, 1, 0, 0, 0, 0), (121, .iaload, 1, 0, 0, 0, 0), (122, .iload 7, 2, 0, 0, 0, 0), (124, .iadd, 1, 0, 0, 0, 0), (125, .goto 12, 3, 137, 0, 0, 0), (128, .aload_n 0, 1, 0, 0, 0, 0), (129, .getfield 61, 3, 3, 14, 167, 0), (132, .iload 4, 2, 0, 0, 0, 0), (134, .aaload, 1, 0, 0, 0, 0)]
def zc_X3_divide_2 : List zi_Row := [(135, .iload_n 1, 1, 0, 0, 0, 0), (136, .iaload, 1, 0, 0, 0, 0), (137, .iastore, 1, 0, 0, 0, 0), (138, .aload_n 0, 1, 0, 0, 0, 0), (139, .getfield 64, 3, 3, 15, 168, 0), (142, .iload 4, 2, 0, 0, 0, 0), (144, .aaload, 1, 0, 0, 0, 0), (145, .iload_n 3, 1, 0, 0, 0, 0), (146, .iload 6, 2, 0, 0, 0, 0), (148, .ifCond .eq 11, 3, 159, 0, 0, 0), (151, .iload 5, 2, 0, 0, 0, 0), (153, .iload 7, 2, 0, 0, 0, 0), (155, .isub, 1, 0, 0, 0, 0), (156, .goto 5, 3, 161, 0, 0, 0), (159, .iload 5, 2, 0, 0, 0, 0), (161, .iastore, 1, 0, 0, 0, 0), (162, .iinc 4 1, 3, 0, 0, 0, 0), (165, .goto (-148), 3, 17, 0, 0, 0), (168, .return_, 1, 0, 0, 0, 0)]
def zc_X3_divide : List zi_Row := zc_X3_divide_0 ++ (zc_X3_divide_1 ++ (zc_X3_divide_2))
def zc_X3_firstPart_0 : List zi_Row := [(0, .aload_n 0, 1, 0, 0, 0, 0), (1, .getfield 64, 3, 3, 15, 168, 0), (4, .iload_n 2, 1, 0, 0, 0, 0), (5, .aaload, 1, 0, 0, 0, 0), (6, .iload_n 1, 1, 0, 0, 0, 0), (7, .iaload, 1, 0, 0, 0, 0), (8, .istore_n 3, 1, 0, 0, 0, 0), (9, .iload_n 3, 1, 0, 0, 0, 0), (10, .aload_n 0, 1, 0, 0, 0, 0), (11, .getfield 58, 3, 3, 13, 166, 0), (14, .iload_n 2, 1, 0, 0, 0, 0), (15, .aaload, 1, 0, 0, 0, 0), (16, .aload_n 0, 1, 0, 0, 0, 0), (17, .getfield 36, 3, 3, 6, 159, 0), (20, .iload_n 1, 1, 0, 0, 0, 0), (21, .iaload, 1, 0, 0, 0, 0), (22, .iaload, 1, 0, 0, 0, 0), (23, .isub, 1, 0, 0, 0, 0), (24, .istore 4, 2, 0, 0, 0, 0), (26, .aload_n 0, 1, 0, 0, 0, 0), (27, .getfield 58, 3, 3, 13, 166, 0), (30, .iload_n 2, 1, 0, 0, 0, 0), (31, .aaload, 1, 0, 0, 0, 0), (32, .aload_n 0, 1, 0, 0, 0, 0), (33, .getfield 33, 3, 3, 5, 158, 0), (36, .iload_n 1, 1, 0, 0, 0, 0), (37, .iaload, 1, 0, 0, 0, 0), (38, .iaload, 1, 0, 0, 0, 0), (39, .iload_n 3, 1, 0, 0, 0, 0), (40, .aload_n 0, 1, 0, 0, 0, 0), (41, .getfield 30, 3, 3, 4, 157, 0), (44, .iload_n 1, 1, 0, 0, 0, 0), (45, .iaload, 1, 0, 0, 0, 0), (46, .imul, 1, 0, 0, 0, 0), (47, .bipush 100, 2, 0, 0, 0, 0), (49, .idiv, 1, 0, 0, 0, 0), (50, .iload 4, 2, 0, 0, 0, 0), (52, .invokestatic 165, 3, 133, 3, 10006, 0), (55, .ireturn, 1, 0, 0, 0, 0)]
def zc_X3_firstPart : List zi_Row := zc_X3_firstPart_0
def zc_X3_isWide_0 : List zi_Row := [(0, .aload_n 0, 1, 0, 0, 0, 0), (1, .getfield 64, 3, 3, 15, 168, 0), (4, .iconst 0, 1, 0, 0, 0, 0), (5, .aaload, 1, 0, 0, 0, 0), (6, .iload_n 1, 1, 0, 0, 0, 0), (7, .iaload, 1, 0, 0, 0, 0), (8, .aload_n 0, 1, 0, 0, 0, 0), (9, .getfield 64, 3, 3, 15, 168, 0), (12, .iconst 1, 1, 0, 0, 0, 0), (13, .aaload, 1, 0, 0, 0, 0), (14, .iload_n 1, 1, 0, 0, 0, 0), (15, .iaload, 1, 0, 0, 0, 0), (16, .if_icmp .lt 7, 3, 23, 0, 0, 0), (19, .iconst 1, 1, 0, 0, 0, 0), (20, .goto 4, 3, 24, 0, 0, 0), (23, .iconst 0, 1, 0, 0, 0, 0), (24, .ireturn, 1, 0, 0, 0, 0)]
def zc_X3_isWide : List zi_Row := zc_X3_isWide_0
def zc_X3_startOf_0 : List zi_Row := [(0, .aload_n 0, 1, 0, 0, 0, 0), (1, .iload_n 1, 1, 0, 0, 0, 0), (2, .invokevirtual 90, 3, 83, 2, 381, 3), (5, .istore_n 3, 1, 0, 0, 0, 0), (6, .iload_n 3, 1, 0, 0, 0, 0), (7, .ifCond .ge 7, 3, 14, 0, 0, 0), (10, .iconst 0, 1, 0, 0, 0, 0), (11, .goto 11, 3, 22, 0, 0, 0), (14, .aload_n 0, 1, 0, 0, 0, 0), (15, .getfield 61, 3, 3, 14, 167, 0), (18, .iload_n 2, 1, 0, 0, 0, 0), (19, .aaload, 1, 0, 0, 0, 0), (20, .iload_n 3, 1, 0, 0, 0, 0), (21, .iaload, 1, 0, 0, 0, 0), (22, .ireturn, 1, 0, 0, 0, 0)]
def zc_X3_startOf : List zi_Row := zc_X3_startOf_0
def zc_X3_lengthOf_0 : List zi_Row := [(0, .aload_n 0, 1, 0, 0, 0, 0), (1, .iload_n 1, 1, 0, 0, 0, 0), (2, .invokevirtual 90, 3, 83, 2, 381, 3), (5, .istore_n 3, 1, 0, 0, 0, 0), (6, .iload_n 3, 1, 0, 0, 0, 0), (7, .ifCond .ge 7, 3, 14, 0, 0, 0), (10, .iconst 0, 1, 0, 0, 0, 0), (11, .goto 11, 3, 22, 0, 0, 0), (14, .aload_n 0, 1, 0, 0, 0, 0), (15, .getfield 64, 3, 3, 15, 168, 0), (18, .iload_n 2, 1, 0, 0, 0, 0), (19, .aaload, 1, 0, 0, 0, 0), (20, .iload_n 3, 1, 0, 0, 0, 0), (21, .iaload, 1, 0, 0, 0, 0), (22, .ireturn, 1, 0, 0, 0, 0)]
def zc_X3_lengthOf : List zi_Row := zc_X3_lengthOf_0
def zc_X3_endOf_0 : List zi_Row := [(0, .aload_n 0, 1, 0, 0, 0, 0), (1, .iload_n 1, 1, 0, 0, 0, 0), (2, .iload_n 2, 1, 0, 0, 0, 0), (3, .invokevirtual 169, 3, 113, 3, 733, 3), (6, .aload_n 0, 1, 0, 0, 0, 0), (7, .iload_n 1, 1, 0, 0, 0, 0), (8, .iload_n 2, 1, 0, 0, 0, 0), (9, .invokevirtual 172, 3, 114, 3, 738, 3), (12, .iadd, 1, 0, 0, 0, 0), (13, .ireturn, 1, 0, 0, 0, 0)]
def zc_X3_endOf : List zi_Row := zc_X3_endOf_0
def zc_X3_shownAt_0 : List zi_Row := [(0, .iconst 0, 1, 0, 0, 0, 0), (1, .istore_n 3, 1, 0, 0, 0, 0), (2, .iload_n 3, 1, 0, 0, 0, 0), (3, .bipush 10, 2, 0, 0, 0, 0), (5, .if_icmp .ge 39, 3, 44, 0, 0, 0), (8, .aload_n 0, 1, 0, 0, 0, 0), (9, .iload_n 3, 1, 0, 0, 0, 0), (10, .invokevirtual 175, 3, 84, 2, 722, 3), (13, .ifCond .eq 25, 3, 38, 0, 0, 0), (16, .aload_n 0, 1, 0, 0, 0, 0), (17, .iload_n 3, 1, 0, 0, 0, 0), (18, .iload_n 1, 1, 0, 0, 0, 0), (19, .iconst 0, 1, 0, 0, 0, 0), (20, .invokevirtual 179, 3, 117, 4, 825, 3), (23, .ifCond .eq 15, 3, 38, 0, 0, 0), (26, .aload_n 0, 1, 0, 0, 0, 0), (27, .iload_n 3, 1, 0, 0, 0, 0), (28, .iload_n 2, 1, 0, 0, 0, 0), (29, .iconst 1, 1, 0, 0, 0, 0), (30, .invokevirtual 179, 3, 117, 4, 825, 3), (33, .ifCond .eq 5, 3, 38, 0, 0, 0), (36, .iload_n 3, 1, 0, 0, 0, 0), (37, .ireturn, 1, 0, 0, 0, 0), (38, .iinc 3 1, 3, 0, 0, 0, 0), (41, .goto (-39), 3, 2, 0, 0, 0), (44, .ldc 101, 2, 0, 0, 523, (-1000000005)), (46, .ireturn, 1, 0, 0, 0, 0)]
def zc_X3_shownAt : List zi_Row := zc_X3_shownAt_0
def zc_X3_spans_0 : List zi_Row := [(0, .iload_n 2, 1, 0, 0, 0, 0), (1, .aload_n 0, 1, 0, 0, 0, 0), (2, .iload_n 1, 1, 0, 0, 0, 0), (3, .iload_n 3, 1, 0, 0, 0, 0), (4, .invokevirtual 169, 3, 113, 3, 733, 3), (7, .if_icmp .lt 17, 3, 24, 0, 0, 0), (10, .iload_n 2, 1, 0, 0, 0, 0), (11, .aload_n 0, 1, 0, 0, 0, 0), (12, .iload_n 1, 1, 0, 0, 0, 0), (13, .iload_n 3, 1, 0, 0, 0, 0), (14, .invokevirtual 183, 3, 115, 3, 734, 3), (17, .if_icmp .ge 7, 3, 24, 0, 0, 0), (20, .iconst 1, 1, 0, 0, 0, 0), (21, .goto 4, 3, 25, 0, 0, 0), (24, .iconst 0, 1, 0, 0, 0, 0), (25, .ireturn, 1, 0, 0, 0, 0)]
def zc_X3_spans : List zi_Row := zc_X3_spans_0
def zc_X3_neighbourTo_0 : List zi_Row := [(0, .ldc 101, 2, 0, 0, 523, (-1000000005)), (2, .istore_n 3, 1, 0, 0, 0, 0), (3, .iconst 0, 1, 0, 0, 0, 0), (4, .istore 4, 2, 0, 0, 0, 0), (6, .iconst 0, 1, 0, 0, 0, 0), (7, .istore 5, 2, 0, 0, 0, 0), (9, .iload 5, 2, 0, 0, 0, 0), (11, .bipush 10, 2, 0, 0, 0, 0), (13, .if_icmp .ge 74, 3, 87, 0, 0, 0), (16, .aload_n 0, 1, 0, 0, 0, 0), (17, .iload 5, 2, 0, 0, 0, 0), (19, .invokevirtual 175, 3, 84, 2, 722, 3), (22, .ifCond .eq 18, 3, 40, 0, 0, 0), (25, .aload_n 0, 1, 0, 0, 0, 0), (26, .iload_n 1, 1, 0, 0, 0, 0), (27, .iload 5, 2, 0, 0, 0, 0), (29, .iload_n 2, 1, 0, 0, 0, 0), (30, .invokevirtual 186, 3, 119, 4, 723, 3), (33, .ifCond .eq 7, 3, 40, 0, 0, 0), (36, .iconst 1, 1, 0, 0, 0, 0), (37, .goto 4, 3, 41, 0, 0, 0), (40, .iconst 0, 1, 0, 0, 0, 0), (41, .istore 6, 2, 0, 0, 0, 0), (43, .iload 6, 2, 0, 0, 0, 0), (45, .ifCond .eq 19, 3, 64, 0, 0, 0), (48, .aload_n 0, 1, 0, 0, 0, 0), (49, .iload_n 1, 1, 0, 0, 0, 0), (50, .iload 5, 2, 0, 0, 0, 0), (52, .iconst 1, 1, 0, 0, 0, 0), (53, .iload_n 2, 1, 0, 0, 0, 0), (54, .invokestatic 189, 3, 155, 1, 10007, 0), (57, .isub, 1, 0, 0, 0, 0), (58, .invokevirtual 192, 3, 120, 4, 739, 3), (61, .goto 4, 3, 65, 0, 0, 0), (64, .iconst 0, 1, 0, 0, 0, 0), (65, .istore 7, 2, 0, 0, 0, 0), (67, .iload 7, 2, 0, 0, 0, 0), (69, .iload 4, 2, 0, 0, 0, 0), (71, .if_icmp .le 10, 3, 81, 0, 0, 0), (74, .iload 5, 2, 0, 0, 0, 0)]
def zc_X3_neighbourTo_1 : List zi_Row := [(76, .istore_n 3, 1, 0, 0, 0, 0), (77, .iload 7, 2, 0, 0, 0, 0), (79, .istore 4, 2, 0, 0, 0, 0), (81, .iinc 5 1, 3, 0, 0, 0, 0), (84, .goto (-75), 3, 9, 0, 0, 0), (87, .iload_n 3, 1, 0, 0, 0, 0), (88, .ireturn, 1, 0, 0, 0, 0)]
def zc_X3_neighbourTo : List zi_Row := zc_X3_neighbourTo_0 ++ (zc_X3_neighbourTo_1)
def zc_X3_meets_0 : List zi_Row := [(0, .iload_n 3, 1, 0, 0, 0, 0), (1, .invokestatic 189, 3, 155, 1, 10007, 0), (4, .istore 4, 2, 0, 0, 0, 0), (6, .iload_n 3, 1, 0, 0, 0, 0), (7, .invokestatic 195, 3, 156, 1, 10008, 0), (10, .ifCond .eq 28, 3, 38, 0, 0, 0), (13, .aload_n 0, 1, 0, 0, 0, 0), (14, .iload_n 2, 1, 0, 0, 0, 0), (15, .iload 4, 2, 0, 0, 0, 0), (17, .invokevirtual 169, 3, 113, 3, 733, 3), (20, .aload_n 0, 1, 0, 0, 0, 0), (21, .iload_n 1, 1, 0, 0, 0, 0), (22, .iload 4, 2, 0, 0, 0, 0), (24, .invokevirtual 183, 3, 115, 3, 734, 3), (27, .if_icmp .ne 7, 3, 34, 0, 0, 0), (30, .iconst 1, 1, 0, 0, 0, 0), (31, .goto 29, 3, 60, 0, 0, 0), (34, .iconst 0, 1, 0, 0, 0, 0), (35, .goto 25, 3, 60, 0, 0, 0), (38, .aload_n 0, 1, 0, 0, 0, 0), (39, .iload_n 2, 1, 0, 0, 0, 0), (40, .iload 4, 2, 0, 0, 0, 0), (42, .invokevirtual 183, 3, 115, 3, 734, 3), (45, .aload_n 0, 1, 0, 0, 0, 0), (46, .iload_n 1, 1, 0, 0, 0, 0), (47, .iload 4, 2, 0, 0, 0, 0), (49, .invokevirtual 169, 3, 113, 3, 733, 3), (52, .if_icmp .ne 7, 3, 59, 0, 0, 0), (55, .iconst 1, 1, 0, 0, 0, 0), (56, .goto 4, 3, 60, 0, 0, 0), (59, .iconst 0, 1, 0, 0, 0, 0), (60, .ireturn, 1, 0, 0, 0, 0)]
def zc_X3_meets : List zi_Row := zc_X3_meets_0
def zc_X3_commonBorder_0 : List zi_Row := [(0, .aload_n 0, 1, 0, 0, 0, 0), (1, .iload_n 1, 1, 0, 0, 0, 0), (2, .iload_n 3, 1, 0, 0, 0, 0), (3, .invokevirtual 169, 3, 113, 3, 733, 3), (6, .aload_n 0, 1, 0, 0, 0, 0), (7, .iload_n 2, 1, 0, 0, 0, 0), (8, .iload_n 3, 1, 0, 0, 0, 0), (9, .invokevirtual 169, 3, 113, 3, 733, 3), (12, .invokestatic 154, 3, 206, 2, 422, 0), (15, .istore 4, 2, 0, 0, 0, 0), (17, .aload_n 0, 1, 0, 0, 0, 0), (18, .iload_n 1, 1, 0, 0, 0, 0), (19, .iload_n 3, 1, 0, 0, 0, 0), (20, .invokevirtual 183, 3, 115, 3, 734, 3), (23, .aload_n 0, 1, 0, 0, 0, 0), (24, .iload_n 2, 1, 0, 0, 0, 0), (25, .iload_n 3, 1, 0, 0, 0, 0), (26, .invokevirtual 183, 3, 115, 3, 734, 3), (29, .invokestatic 198, 3, 207, 2, 743, 0), (32, .iload 4, 2, 0, 0, 0, 0), (34, .isub, 1, 0, 0, 0, 0), (35, .ireturn, 1, 0, 0, 0, 0)]
def zc_X3_commonBorder : List zi_Row := zc_X3_commonBorder_0
def zc_X4_prepare_0 : List zi_Row := [(0, .aload_n 0, 1, 0, 0, 0, 0), (1, .iload_n 1, 1, 0, 0, 0, 0), (2, .putfield 22, 3, 4, 3, 213, 0), (5, .aload_n 0, 1, 0, 0, 0, 0), (6, .getfield 9, 3, 4, 0, 207, 0), (9, .iconst 0, 1, 0, 0, 0, 0), (10, .iload_n 2, 1, 0, 0, 0, 0), (11, .iastore, 1, 0, 0, 0, 0), (12, .aload_n 0, 1, 0, 0, 0, 0), (13, .getfield 9, 3, 4, 0, 207, 0), (16, .iconst 1, 1, 0, 0, 0, 0), (17, .iload_n 3, 1, 0, 0, 0, 0), (18, .iastore, 1, 0, 0, 0, 0), (19, .aload_n 0, 1, 0, 0, 0, 0), (20, .iload 4, 2, 0, 0, 0, 0), (22, .putfield 26, 3, 4, 4, 215, 0), (25, .aload_n 0, 1, 0, 0, 0, 0), (26, .iconst (-1), 1, 0, 0, 0, 0), (27, .putfield 29, 3, 4, 5, 217, 0), (30, .return_, 1, 0, 0, 0, 0)]
def zc_X4_prepare : List zi_Row := zc_X4_prepare_0
def zc_X4_isTiled_0 : List zi_Row := [(0, .aload_n 0, 1, 0, 0, 0, 0), (1, .getfield 18, 3, 4, 2, 211, 0), (4, .ifCond .eq 15, 3, 19, 0, 0, 0), (7, .aload_n 0, 1, 0, 0, 0, 0), (8, .getfield 22, 3, 4, 3, 213, 0), (11, .iconst 1, 1, 0, 0, 0, 0), (12, .if_icmp .ne 7, 3, 19, 0, 0, 0), (15, .iconst 1, 1, 0, 0, 0, 0), (16, .goto 4, 3, 20, 0, 0, 0), (19, .iconst 0, 1, 0, 0, 0, 0), (20, .ireturn, 1, 0, 0, 0, 0)]
def zc_X4_isTiled : List zi_Row := zc_X4_isTiled_0
def zc_X4_isFloating_0 : List zi_Row := [(0, .aload_n 0, 1, 0, 0, 0, 0), (1, .getfield 18, 3, 4, 2, 211, 0), (4, .ifCond .eq 15, 3, 19, 0, 0, 0), (7, .aload_n 0, 1, 0, 0, 0, 0), (8, .getfield 22, 3, 4, 3, 213, 0), (11, .iconst 1, 1, 0, 0, 0, 0), (12, .if_icmp .eq 7, 3, 19, 0, 0, 0), (15, .iconst 1, 1, 0, 0, 0, 0), (16, .goto 4, 3, 20, 0, 0, 0), (19, .iconst 0, 1, 0, 0, 0, 0), (20, .ireturn, 1, 0, 0, 0, 0)]
def zc_X4_isFloating : List zi_Row := zc_X4_isFloating_0
def zc_X4_isSticky_0 : List zi_Row := [(0, .aload_n 0, 1, 0, 0, 0, 0), (1, .getfield 18, 3, 4, 2, 211, 0), (4, .ifCond .eq 15, 3, 19, 0, 0, 0), (7, .aload_n 0, 1, 0, 0, 0, 0), (8, .getfield 22, 3, 4, 3, 213, 0), (11, .iconst 4, 1, 0, 0, 0, 0), (12, .if_icmp .ne 7, 3, 19, 0, 0, 0), (15, .iconst 1, 1, 0, 0, 0, 0), (16, .goto 4, 3, 20, 0, 0, 0), (19, .iconst 0, 1, 0, 0, 0, 0), (20, .ireturn, 1, 0, 0, 0, 0)]
def zc_X4_isSticky : List zi_Row := zc_X4_isSticky_0
def zc_X4_isOn_0 : List zi_Row := [(0, .aload_n 0, 1, 0, 0, 0, 0), (1, .getfield 18, 3, 4, 2, 211, 0), (4, .ifCond .eq 23, 3, 27, 0, 0, 0), (7, .aload_n 0, 1, 0, 0, 0, 0), (8, .getfield 22, 3, 4, 3, 213, 0), (11, .iconst 4, 1, 0, 0, 0, 0), (12, .if_icmp .eq 15, 3, 27, 0, 0, 0), (15, .aload_n 0, 1, 0, 0, 0, 0), (16, .getfield 29, 3, 4, 5, 217, 0), (19, .iload_n 1, 1, 0, 0, 0, 0), (20, .if_icmp .ne 7, 3, 27, 0, 0, 0), (23, .iconst 1, 1, 0, 0, 0, 0), (24, .goto 4, 3, 28, 0, 0, 0), (27, .iconst 0, 1, 0, 0, 0, 0), (28, .ireturn, 1, 0, 0, 0, 0)]
def zc_X4_isOn : List zi_Row := zc_X4_isOn_0
def zc_X4_isLooseOn_0 : List zi_Row := [(0, .aload_n 0, 1, 0, 0, 0, 0), (1, .iload_n 1, 1, 0, 0, 0, 0), (2, .invokevirtual 32, 3, 125, 2, 485, 4), (5, .ifCond .eq 15, 3, 20, 0, 0, 0), (8, .aload_n 0, 1, 0, 0, 0, 0), (9, .getfield 22, 3, 4, 3, 213, 0), (12, .iconst 1, 1, 0, 0, 0, 0), (13, .if_icmp .eq 7, 3, 20, 0, 0, 0), (16, .iconst 1, 1, 0, 0, 0, 0), (17, .goto 4, 3, 21, 0, 0, 0), (20, .iconst 0, 1, 0, 0, 0, 0), (21, .ireturn, 1, 0, 0, 0, 0)]
def zc_X4_isLooseOn : List zi_Row := zc_X4_isLooseOn_0
def zc_X4_canBeWhole_0 : List zi_Row := [(0, .aload_n 0, 1, 0, 0, 0, 0), (1, .getfield 9, 3, 4, 0, 207, 0), (4, .iconst 0, 1, 0, 0, 0, 0), (5, .iaload, 1, 0, 0, 0, 0), (6, .aload_n 1, 1, 0, 0, 0, 0), (7, .iconst 0, 1, 0, 0, 0, 0), (8, .iaload, 1, 0, 0, 0, 0), (9, .if_icmp .gt 19, 3, 28, 0, 0, 0), (12, .aload_n 0, 1, 0, 0, 0, 0), (13, .getfield 9, 3, 4, 0, 207, 0), (16, .iconst 1, 1, 0, 0, 0, 0), (17, .iaload, 1, 0, 0, 0, 0), (18, .aload_n 1, 1, 0, 0, 0, 0), (19, .iconst 1, 1, 0, 0, 0, 0), (20, .iaload, 1, 0, 0, 0, 0), (21, .if_icmp .gt 7, 3, 28, 0, 0, 0), (24, .iconst 1, 1, 0, 0, 0, 0), (25, .goto 4, 3, 29, 0, 0, 0), (28, .iconst 0, 1, 0, 0, 0, 0), (29, .ireturn, 1, 0, 0, 0, 0)]
def zc_X4_canBeWhole : List zi_Row := zc_X4_canBeWhole_0
def zc_X4_nearest_0 : List zi_Row := [(0, .iconst 0, 1, 0, 0, 0, 0), (1, .iload_n 1, 1, 0, 0, 0, 0), (2, .aload_n 3, 1, 0, 0, 0, 0), (3, .iload_n 2, 1, 0, 0, 0, 0), (4, .iaload, 1, 0, 0, 0, 0), (5, .aload_n 0, 1, 0, 0, 0, 0), (6, .getfield 9, 3, 4, 0, 207, 0), (9, .iload_n 2, 1, 0, 0, 0, 0), (10, .iaload, 1, 0, 0, 0, 0), (11, .isub, 1, 0, 0, 0, 0), (12, .invokestatic 36, 3, 133, 3, 10005, 0), (15, .ireturn, 1, 0, 0, 0, 0)]
def zc_X4_nearest : List zi_Row := zc_X4_nearest_0
def zc_X4_putAt_0 : List zi_Row := [(0, .aload_n 0, 1, 0, 0, 0, 0), (1, .getfield 15, 3, 4, 1, 209, 0), (4, .iconst 0, 1, 0, 0, 0, 0), (5, .aload_n 0, 1, 0, 0, 0, 0), (6, .iload_n 1, 1, 0, 0, 0, 0), (7, .iconst 0, 1, 0, 0, 0, 0), (8, .aload_n 3, 1, 0, 0, 0, 0), (9, .invokevirtual 40, 3, 128, 4, 442, 4), (12, .iastore, 1, 0, 0, 0, 0), (13, .aload_n 0, 1, 0, 0, 0, 0), (14, .getfield 15, 3, 4, 1, 209, 0), (17, .iconst 1, 1, 0, 0, 0, 0), (18, .aload_n 0, 1, 0, 0, 0, 0), (19, .iload_n 2, 1, 0, 0, 0, 0), (20, .iconst 1, 1, 0, 0, 0, 0), (21, .aload_n 3, 1, 0, 0, 0, 0), (22, .invokevirtual 40, 3, 128, 4, 442, 4), (25, .iastore, 1, 0, 0, 0, 0), (26, .return_, 1, 0, 0, 0, 0)]
def zc_X4_putAt : List zi_Row := zc_X4_putAt_0
def zc_X4_sendTo_0 : List zi_Row := [(0, .aload_n 0, 1, 0, 0, 0, 0), (1, .iload_n 1, 1, 0, 0, 0, 0), (2, .putfield 29, 3, 4, 5, 217, 0), (5, .aload_n 0, 1, 0, 0, 0, 0), (6, .invokevirtual 44, 3, 123, 1, 437, 4), (9, .ifCond .eq 20, 3, 29, 0, 0, 0), (12, .aload_n 0, 1, 0, 0, 0, 0), (13, .aload_n 0, 1, 0, 0, 0, 0), (14, .getfield 15, 3, 4, 1, 209, 0), (17, .iconst 0, 1, 0, 0, 0, 0), (18, .iaload, 1, 0, 0, 0, 0), (19, .aload_n 0, 1, 0, 0, 0, 0), (20, .getfield 15, 3, 4, 1, 209, 0), (23, .iconst 1, 1, 0, 0, 0, 0), (24, .iaload, 1, 0, 0, 0, 0), (25, .aload_n 2, 1, 0, 0, 0, 0), (26, .invokevirtual 48, 3, 129, 4, 438, 4), (29, .return_, 1, 0, 0, 0, 0)]
def zc_X4_sendTo : List zi_Row := zc_X4_sendTo_0
def zc_X4_coversPoint_0 : List zi_Row := [(0, .aload_n 0, 1, 0, 0, 0, 0), (1, .iload_n 3, 1, 0, 0, 0, 0), (2, .invokevirtual 52, 3, 126, 2, 814, 4), (5, .ifCond .ne 19, 3, 24, 0, 0, 0), (8, .aload_n 0, 1, 0, 0, 0, 0), (9, .invokevirtual 55, 3, 124, 1, 815, 4), (12, .ifCond .eq 16, 3, 28, 0, 0, 0), (15, .aload_n 0, 1, 0, 0, 0, 0), (16, .aload 4, 2, 0, 0, 0, 0), (18, .invokevirtual 58, 3, 127, 2, 816, 4), (21, .ifCond .eq 7, 3, 28, 0, 0, 0), (24, .iconst 1, 1, 0, 0, 0, 0), (25, .goto 4, 3, 29, 0, 0, 0), (28, .iconst 0, 1, 0, 0, 0, 0), (29, .istore 5, 2, 0, 0, 0, 0), (31, .iload 5, 2, 0, 0, 0, 0), (33, .ifCond .eq 29, 3, 62, 0, 0, 0), (36, .aload_n 0, 1, 0, 0, 0, 0), (37, .iload_n 1, 1, 0, 0, 0, 0), (38, .iconst 0, 1, 0, 0, 0, 0), (39, .aload 4, 2, 0, 0, 0, 0), (41, .invokevirtual 62, 3, 132, 4, 817, 4), (44, .ifCond .eq 18, 3, 62, 0, 0, 0), (47, .aload_n 0, 1, 0, 0, 0, 0), (48, .iload_n 2, 1, 0, 0, 0, 0), (49, .iconst 1, 1, 0, 0, 0, 0), (50, .aload 4, 2, 0, 0, 0, 0), (52, .invokevirtual 62, 3, 132, 4, 817, 4), (55, .ifCond .eq 7, 3, 62, 0, 0, 0), (58, .iconst 1, 1, 0, 0, 0, 0), (59, .goto 4, 3, 63, 0, 0, 0), (62, .iconst 0, 1, 0, 0, 0, 0), (63, .ireturn, 1, 0, 0, 0, 0)]
def zc_X4_coversPoint : List zi_Row := zc_X4_coversPoint_0
def zc_X4_spans_0 : List zi_Row := [(0, .aload_n 0, 1, 0, 0, 0, 0), (1, .aload_n 0, 1, 0, 0, 0, 0), (2, .getfield 15, 3, 4, 1, 209, 0), (5, .iload_n 2, 1, 0, 0, 0, 0), (6, .iaload, 1, 0, 0, 0, 0), (7, .iload_n 2, 1, 0, 0, 0, 0), (8, .aload_n 3, 1, 0, 0, 0, 0), (9, .invokevirtual 40, 3, 128, 4, 442, 4), (12, .istore 4, 2, 0, 0, 0, 0), (14, .iload_n 1, 1, 0, 0, 0, 0), (15, .iload 4, 2, 0, 0, 0, 0), (17, .if_icmp .lt 20, 3, 37, 0, 0, 0), (20, .iload_n 1, 1, 0, 0, 0, 0), (21, .iload 4, 2, 0, 0, 0, 0), (23, .aload_n 0, 1, 0, 0, 0, 0), (24, .getfield 9, 3, 4, 0, 207, 0), (27, .iload_n 2, 1, 0, 0, 0, 0), (28, .iaload, 1, 0, 0, 0, 0), (29, .iadd, 1, 0, 0, 0, 0), (30, .if_icmp .ge 7, 3, 37, 0, 0, 0), (33, .iconst 1, 1, 0, 0, 0, 0), (34, .goto 4, 3, 38, 0, 0, 0), (37, .iconst 0, 1, 0, 0, 0, 0), (38, .ireturn, 1, 0, 0, 0, 0)]
def zc_X4_spans : List zi_Row := zc_X4_spans_0
def zc_X5_between_0 : List zi_Row := [(0, .iload_n 0, 1, 0, 0, 0, 0), (1, .iload_n 1, 1, 0, 0, 0, 0), (2, .iload_n 2, 1, 0, 0, 0, 0), (3, .invokestatic 307, 3, 207, 2, 449, 0), (6, .invokestatic 312, 3, 206, 2, 452, 0), (9, .ireturn, 1, 0, 0, 0, 0)]
def zc_X5_between : List zi_Row := zc_X5_between_0
def zc_X5_looseOnes_0 : List zi_Row := [(0, .iconst 0, 1, 0, 0, 0, 0), (1, .istore_n 2, 1, 0, 0, 0, 0), (2, .iconst 0, 1, 0, 0, 0, 0), (3, .istore_n 3, 1, 0, 0, 0, 0), (4, .iload_n 3, 1, 0, 0, 0, 0), (5, .bipush 10, 2, 0, 0, 0, 0), (7, .if_icmp .ge 30, 3, 37, 0, 0, 0), (10, .iload_n 2, 1, 0, 0, 0, 0), (11, .aload_n 0, 1, 0, 0, 0, 0), (12, .getfield 11, 3, 5, 0, 282, 0), (15, .iload_n 3, 1, 0, 0, 0, 0), (16, .aaload, 1, 0, 0, 0, 0), (17, .iload_n 1, 1, 0, 0, 0, 0), (18, .invokevirtual 316, 3, 126, 2, 481, 4), (21, .ifCond .eq 7, 3, 28, 0, 0, 0), (24, .iconst 1, 1, 0, 0, 0, 0), (25, .goto 4, 3, 29, 0, 0, 0), (28, .iconst 0, 1, 0, 0, 0, 0), (29, .iadd, 1, 0, 0, 0, 0), (30, .istore_n 2, 1, 0, 0, 0, 0), (31, .iinc 3 1, 3, 0, 0, 0, 0), (34, .goto (-30), 3, 4, 0, 0, 0), (37, .iload_n 2, 1, 0, 0, 0, 0), (38, .ireturn, 1, 0, 0, 0, 0)]
def zc_X5_looseOnes : List zi_Row := zc_X5_looseOnes_0
def zc_X5_windowsOn_0 : List zi_Row := [(0, .iconst 0, 1, 0, 0, 0, 0), (1, .istore_n 2, 1, 0, 0, 0, 0), (2, .iconst 0, 1, 0, 0, 0, 0), (3, .istore_n 3, 1, 0, 0, 0, 0), (4, .iload_n 3, 1, 0, 0, 0, 0), (5, .bipush 10, 2, 0, 0, 0, 0), (7, .if_icmp .ge 30, 3, 37, 0, 0, 0), (10, .iload_n 2, 1, 0, 0, 0, 0), (11, .aload_n 0, 1, 0, 0, 0, 0), (12, .getfield 11, 3, 5, 0, 282, 0), (15, .iload_n 3, 1, 0, 0, 0, 0), (16, .aaload, 1, 0, 0, 0, 0), (17, .iload_n 1, 1, 0, 0, 0, 0), (18, .invokevirtual 319, 3, 125, 2, 494, 4), (21, .ifCond .eq 7, 3, 28, 0, 0, 0), (24, .iconst 1, 1, 0, 0, 0, 0), (25, .goto 4, 3, 29, 0, 0, 0), (28, .iconst 0, 1, 0, 0, 0, 0), (29, .iadd, 1, 0, 0, 0, 0), (30, .istore_n 2, 1, 0, 0, 0, 0), (31, .iinc 3 1, 3, 0, 0, 0, 0), (34, .goto (-30), 3, 4, 0, 0, 0), (37, .iload_n 2, 1, 0, 0, 0, 0), (38, .ireturn, 1, 0, 0, 0, 0)]
def zc_X5_windowsOn : List zi_Row := zc_X5_windowsOn_0
def zc_X5_looseOnesFit_0 : List zi_Row := [(0, .iconst 0, 1, 0, 0, 0, 0), (1, .istore_n 3, 1, 0, 0, 0, 0), (2, .iload_n 3, 1, 0, 0, 0, 0), (3, .bipush 10, 2, 0, 0, 0, 0), (5, .if_icmp .ge 37, 3, 42, 0, 0, 0), (8, .aload_n 0, 1, 0, 0, 0, 0), (9, .getfield 11, 3, 5, 0, 282, 0), (12, .iload_n 3, 1, 0, 0, 0, 0), (13, .aaload, 1, 0, 0, 0, 0), (14, .iload_n 1, 1, 0, 0, 0, 0), (15, .invokevirtual 316, 3, 126, 2, 481, 4), (18, .ifCond .eq 18, 3, 36, 0, 0, 0), (21, .aload_n 0, 1, 0, 0, 0, 0), (22, .getfield 11, 3, 5, 0, 282, 0), (25, .iload_n 3, 1, 0, 0, 0, 0), (26, .aaload, 1, 0, 0, 0, 0), (27, .aload_n 2, 1, 0, 0, 0, 0), (28, .invokevirtual 322, 3, 127, 2, 361, 4), (31, .ifCond .ne 5, 3, 36, 0, 0, 0), (34, .iconst 0, 1, 0, 0, 0, 0), (35, .ireturn, 1, 0, 0, 0, 0), (36, .iinc 3 1, 3, 0, 0, 0, 0), (39, .goto (-37), 3, 2, 0, 0, 0), (42, .iconst 1, 1, 0, 0, 0, 0), (43, .ireturn, 1, 0, 0, 0, 0)]
def zc_X5_looseOnesFit : List zi_Row := zc_X5_looseOnesFit_0
def zc_X5_sendAll_0 : List zi_Row := [(0, .iconst 0, 1, 0, 0, 0, 0), (1, .istore_n 3, 1, 0, 0, 0, 0), (2, .iload_n 3, 1, 0, 0, 0, 0), (3, .bipush 10, 2, 0, 0, 0, 0), (5, .if_icmp .ge 41, 3, 46, 0, 0, 0), (8, .aload_n 0, 1, 0, 0, 0, 0), (9, .getfield 11, 3, 5, 0, 282, 0), (12, .iload_n 3, 1, 0, 0, 0, 0), (13, .aaload, 1, 0, 0, 0, 0), (14, .iload_n 1, 1, 0, 0, 0, 0), (15, .invokevirtual 319, 3, 125, 2, 494, 4), (18, .ifCond .eq 22, 3, 40, 0, 0, 0), (21, .aload_n 0, 1, 0, 0, 0, 0), (22, .getfield 11, 3, 5, 0, 282, 0), (25, .iload_n 3, 1, 0, 0, 0, 0), (26, .aaload, 1, 0, 0, 0, 0), (27, .iload_n 2, 1, 0, 0, 0, 0), (28, .aload_n 0, 1, 0, 0, 0, 0), (29, .getfield 17, 3, 5, 1, 283, 0), (32, .iload_n 2, 1, 0, 0, 0, 0), (33, .aaload, 1, 0, 0, 0, 0), (34, .getfield 109, 3, 2, 0, 266, 0), (37, .invokevirtual 325, 3, 130, 3, 433, 4), (40, .iinc 3 1, 3, 0, 0, 0, 0), (43, .goto (-41), 3, 2, 0, 0, 0), (46, .return_, 1, 0, 0, 0, 0)]
def zc_X5_sendAll : List zi_Row := zc_X5_sendAll_0
def zc_X5_treeOf_0 : List zi_Row := [(0, .aload_n 0, 1, 0, 0, 0, 0), (1, .getfield 17, 3, 5, 1, 283, 0), (4, .aload_n 0, 1, 0, 0, 0, 0), (5, .getfield 11, 3, 5, 0, 282, 0), (8, .iload_n 1, 1, 0, 0, 0, 0), (9, .aaload, 1, 0, 0, 0, 0), (10, .getfield 137, 3, 4, 5, 218, 0), (13, .aaload, 1, 0, 0, 0, 0), (14, .getfield 83, 3, 2, 1, 268, 0), (17, .areturn, 1, 0, 0, 0, 0)]
def zc_X5_treeOf : List zi_Row := zc_X5_treeOf_0
def zc_X5_layTrees_0 : List zi_Row := [(0, .iconst 0, 1, 0, 0, 0, 0), (1, .istore_n 1, 1, 0, 0, 0, 0), (2, .iload_n 1, 1, 0, 0, 0, 0), (3, .iconst 3, 1, 0, 0, 0, 0), (4, .if_icmp .ge 30, 3, 34, 0, 0, 0), (7, .aload_n 0, 1, 0, 0, 0, 0), (8, .getfield 17, 3, 5, 1, 283, 0), (11, .iload_n 1, 1, 0, 0, 0, 0), (12, .aaload, 1, 0, 0, 0, 0), (13, .getfield 83, 3, 2, 1, 268, 0), (16, .aload_n 0, 1, 0, 0, 0, 0), (17, .getfield 17, 3, 5, 1, 283, 0), (20, .iload_n 1, 1, 0, 0, 0, 0), (21, .aaload, 1, 0, 0, 0, 0), (22, .getfield 109, 3, 2, 0, 266, 0), (25, .invokevirtual 329, 3, 109, 2, 579, 3), (28, .iinc 1 1, 3, 0, 0, 0, 0), (31, .goto (-29), 3, 2, 0, 0, 0), (34, .return_, 1, 0, 0, 0, 0)]
def zc_X5_layTrees : List zi_Row := zc_X5_layTrees_0
def zc_X5_startOf_0 : List zi_Row := [(0, .aload_n 0, 1, 0, 0, 0, 0), (1, .getfield 11, 3, 5, 0, 282, 0), (4, .iload_n 1, 1, 0, 0, 0, 0), (5, .aaload, 1, 0, 0, 0, 0), (6, .invokevirtual 198, 3, 122, 1, 369, 4), (9, .ifCond .eq 16, 3, 25, 0, 0, 0), (12, .aload_n 0, 1, 0, 0, 0, 0), (13, .iload_n 1, 1, 0, 0, 0, 0), (14, .invokevirtual 176, 3, 138, 2, 373, 5), (17, .iload_n 1, 1, 0, 0, 0, 0), (18, .iload_n 2, 1, 0, 0, 0, 0), (19, .invokevirtual 332, 3, 113, 3, 643, 3), (22, .goto 14, 3, 36, 0, 0, 0), (25, .aload_n 0, 1, 0, 0, 0, 0), (26, .getfield 11, 3, 5, 0, 282, 0), (29, .iload_n 1, 1, 0, 0, 0, 0), (30, .aaload, 1, 0, 0, 0, 0), (31, .getfield 223, 3, 4, 1, 210, 0), (34, .iload_n 2, 1, 0, 0, 0, 0), (35, .iaload, 1, 0, 0, 0, 0), (36, .ireturn, 1, 0, 0, 0, 0)]
def zc_X5_startOf : List zi_Row := zc_X5_startOf_0
def zc_X5_lengthOf_0 : List zi_Row := [(0, .aload_n 0, 1, 0, 0, 0, 0), (1, .getfield 11, 3, 5, 0, 282, 0), (4, .iload_n 1, 1, 0, 0, 0, 0), (5, .aaload, 1, 0, 0, 0, 0), (6, .invokevirtual 198, 3, 122, 1, 369, 4), (9, .ifCond .eq 16, 3, 25, 0, 0, 0), (12, .aload_n 0, 1, 0, 0, 0, 0), (13, .iload_n 1, 1, 0, 0, 0, 0), (14, .invokevirtual 176, 3, 138, 2, 373, 5), (17, .iload_n 1, 1, 0, 0, 0, 0), (18, .iload_n 2, 1, 0, 0, 0, 0), (19, .invokevirtual 333, 3, 114, 3, 635, 3), (22, .goto 14, 3, 36, 0, 0, 0), (25, .aload_n 0, 1, 0, 0, 0, 0), (26, .getfield 11, 3, 5, 0, 282, 0), (29, .iload_n 1, 1, 0, 0, 0, 0), (30, .aaload, 1, 0, 0, 0, 0), (31, .getfield 252, 3, 4, 0, 208, 0), (34, .iload_n 2, 1, 0, 0, 0, 0), (35, .iaload, 1, 0, 0, 0, 0), (36, .ireturn, 1, 0, 0, 0, 0)]
def zc_X5_lengthOf : List zi_Row := zc_X5_lengthOf_0
def zc_X5_findRoom_0 : List zi_Row := [(0, .aload_n 0, 1, 0, 0, 0, 0), (1, .getfield 11, 3, 5, 0, 282, 0), (4, .iload_n 1, 1, 0, 0, 0, 0), (5, .aaload, 1, 0, 0, 0, 0), (6, .astore_n 3, 1, 0, 0, 0, 0), (7, .aload_n 3, 1, 0, 0, 0, 0), (8, .getfield 249, 3, 4, 3, 214, 0), (11, .iconst 1, 1, 0, 0, 0, 0), (12, .if_icmp .ne 20, 3, 32, 0, 0, 0), (15, .aload_n 3, 1, 0, 0, 0, 0), (16, .iload_n 2, 1, 0, 0, 0, 0), (17, .putfield 137, 3, 4, 5, 218, 0), (20, .aload_n 0, 1, 0, 0, 0, 0), (21, .iload_n 1, 1, 0, 0, 0, 0), (22, .aload_n 0, 1, 0, 0, 0, 0), (23, .getfield 17, 3, 5, 1, 283, 0), (26, .iload_n 2, 1, 0, 0, 0, 0), (27, .aaload, 1, 0, 0, 0, 0), (28, .invokevirtual 334, 3, 144, 3, 600, 5), (31, .ireturn, 1, 0, 0, 0, 0), (32, .aload_n 3, 1, 0, 0, 0, 0), (33, .getfield 249, 3, 4, 3, 214, 0), (36, .iconst 4, 1, 0, 0, 0, 0), (37, .if_icmp .ne 25, 3, 62, 0, 0, 0), (40, .aload_n 3, 1, 0, 0, 0, 0), (41, .getfield 223, 3, 4, 1, 210, 0), (44, .iconst 0, 1, 0, 0, 0, 0), (45, .bipush 10, 2, 0, 0, 0, 0), (47, .iload_n 1, 1, 0, 0, 0, 0), (48, .imul, 1, 0, 0, 0, 0), (49, .iastore, 1, 0, 0, 0, 0), (50, .aload_n 3, 1, 0, 0, 0, 0), (51, .getfield 223, 3, 4, 1, 210, 0), (54, .iconst 1, 1, 0, 0, 0, 0), (55, .bipush 10, 2, 0, 0, 0, 0), (57, .iload_n 1, 1, 0, 0, 0, 0), (58, .imul, 1, 0, 0, 0, 0), (59, .iastore, 1, 0, 0, 0, 0), (60, .iconst 1, 1, 0, 0, 0, 0), (61, .ireturn, 1, 0, 0, 0, 0)]
def zc_X5_findRoom_1 : List zi_Row := [(62, .aload_n 3, 1, 0, 0, 0, 0), (63, .aload_n 0, 1, 0, 0, 0, 0), (64, .getfield 17, 3, 5, 1, 283, 0), (67, .iload_n 2, 1, 0, 0, 0, 0), (68, .aaload, 1, 0, 0, 0, 0), (69, .getfield 109, 3, 2, 0, 266, 0), (72, .invokevirtual 322, 3, 127, 2, 361, 4), (75, .ifCond .ne 5, 3, 80, 0, 0, 0), (78, .iconst 0, 1, 0, 0, 0, 0), (79, .ireturn, 1, 0, 0, 0, 0), (80, .aload_n 3, 1, 0, 0, 0, 0), (81, .iload_n 2, 1, 0, 0, 0, 0), (82, .putfield 137, 3, 4, 5, 218, 0), (85, .aload_n 3, 1, 0, 0, 0, 0), (86, .getfield 249, 3, 4, 3, 214, 0), (89, .iconst 3, 1, 0, 0, 0, 0), (90, .if_icmp .ne 12, 3, 102, 0, 0, 0), (93, .aload_n 0, 1, 0, 0, 0, 0), (94, .aload_n 3, 1, 0, 0, 0, 0), (95, .iconst 0, 1, 0, 0, 0, 0), (96, .invokevirtual 338, 3, 143, 3, 627, 5), (99, .goto 7, 3, 106, 0, 0, 0), (102, .bipush 10, 2, 0, 0, 0, 0), (104, .iload_n 1, 1, 0, 0, 0, 0), (105, .imul, 1, 0, 0, 0, 0), (106, .istore 4, 2, 0, 0, 0, 0), (108, .aload_n 3, 1, 0, 0, 0, 0), (109, .getfield 249, 3, 4, 3, 214, 0), (112, .iconst 3, 1, 0, 0, 0, 0), (113, .if_icmp .ne 12, 3, 125, 0, 0, 0), (116, .aload_n 0, 1, 0, 0, 0, 0), (117, .aload_n 3, 1, 0, 0, 0, 0), (118, .iconst 1, 1, 0, 0, 0, 0), (119, .invokevirtual 338, 3, 143, 3, 627, 5), (122, .goto 7, 3, 129, 0, 0, 0), (125, .bipush 10, 2, 0, 0, 0, 0), (127, .iload_n 1, 1, 0, 0, 0, 0), (128, .imul, 1, 0, 0, 0, 0), (129, .istore 5, 2, 0, 0, 0, 0), (131, .aload_n 3, 1, 0, 0, 0, 0)]
def zc_X5_findRoom_2 : List zi_Row := [(132, .iload 4, 2, 0, 0, 0, 0), (134, .iload 5, 2, 0, 0, 0, 0), (136, .aload_n 0, 1, 0, 0, 0, 0), (137, .getfield 17, 3, 5, 1, 283, 0), (140, .iload_n 2, 1, 0, 0, 0, 0), (141, .aaload, 1, 0, 0, 0, 0), (142, .getfield 109, 3, 2, 0, 266, 0), (145, .invokevirtual 230, 3, 129, 4, 650, 4), (148, .iconst 1, 1, 0, 0, 0, 0), (149, .ireturn, 1, 0, 0, 0, 0)]
def zc_X5_findRoom : List zi_Row := zc_X5_findRoom_0 ++ (zc_X5_findRoom_1 ++ (zc_X5_findRoom_2))
def zc_X5_middleOf_0 : List zi_Row := [(0, .aload_n 0, 1, 0, 0, 0, 0), (1, .aload_n 1, 1, 0, 0, 0, 0), (2, .getfield 255, 3, 4, 4, 216, 0), (5, .iload_n 2, 1, 0, 0, 0, 0), (6, .invokevirtual 246, 3, 141, 3, 631, 5), (9, .aload_n 1, 1, 0, 0, 0, 0), (10, .getfield 252, 3, 4, 0, 208, 0), (13, .iload_n 2, 1, 0, 0, 0, 0), (14, .iaload, 1, 0, 0, 0, 0), (15, .isub, 1, 0, 0, 0, 0), (16, .istore_n 3, 1, 0, 0, 0, 0), (17, .aload_n 0, 1, 0, 0, 0, 0), (18, .aload_n 1, 1, 0, 0, 0, 0), (19, .getfield 255, 3, 4, 4, 216, 0), (22, .iload_n 2, 1, 0, 0, 0, 0), (23, .invokevirtual 243, 3, 140, 3, 639, 5), (26, .iload_n 3, 1, 0, 0, 0, 0), (27, .iconst 2, 1, 0, 0, 0, 0), (28, .invokestatic 342, 3, 205, 2, 647, 0), (31, .iadd, 1, 0, 0, 0, 0), (32, .ireturn, 1, 0, 0, 0, 0)]
def zc_X5_middleOf : List zi_Row := zc_X5_middleOf_0
def zc_X5_tile_0 : List zi_Row := [(0, .aload_n 0, 1, 0, 0, 0, 0), (1, .aload_n 2, 1, 0, 0, 0, 0), (2, .getfield 83, 3, 2, 1, 268, 0), (5, .invokevirtual 345, 3, 145, 2, 604, 5), (8, .istore_n 3, 1, 0, 0, 0, 0), (9, .iload_n 3, 1, 0, 0, 0, 0), (10, .ifCond .lt 18, 3, 28, 0, 0, 0), (13, .aload_n 2, 1, 0, 0, 0, 0), (14, .getfield 83, 3, 2, 1, 268, 0), (17, .iload_n 3, 1, 0, 0, 0, 0), (18, .invokevirtual 349, 3, 112, 2, 610, 3), (21, .ifCond .eq 7, 3, 28, 0, 0, 0), (24, .iconst 0, 1, 0, 0, 0, 0), (25, .goto 4, 3, 29, 0, 0, 0), (28, .iconst 1, 1, 0, 0, 0, 0), (29, .istore 4, 2, 0, 0, 0, 0), (31, .aload_n 0, 1, 0, 0, 0, 0), (32, .iload_n 1, 1, 0, 0, 0, 0), (33, .aload_n 2, 1, 0, 0, 0, 0), (34, .iload_n 3, 1, 0, 0, 0, 0), (35, .iload 4, 2, 0, 0, 0, 0), (37, .invokevirtual 352, 3, 146, 5, 614, 5), (40, .ifCond .ne 27, 3, 67, 0, 0, 0), (43, .aload_n 0, 1, 0, 0, 0, 0), (44, .iload_n 1, 1, 0, 0, 0, 0), (45, .aload_n 2, 1, 0, 0, 0, 0), (46, .iload_n 3, 1, 0, 0, 0, 0), (47, .iconst 1, 1, 0, 0, 0, 0), (48, .iload 4, 2, 0, 0, 0, 0), (50, .isub, 1, 0, 0, 0, 0), (51, .invokevirtual 352, 3, 146, 5, 614, 5), (54, .ifCond .ne 13, 3, 67, 0, 0, 0), (57, .aload_n 0, 1, 0, 0, 0, 0), (58, .iload_n 1, 1, 0, 0, 0, 0), (59, .aload_n 2, 1, 0, 0, 0, 0), (60, .iload_n 3, 1, 0, 0, 0, 0), (61, .invokevirtual 356, 3, 147, 4, 622, 5), (64, .ifCond .eq 7, 3, 71, 0, 0, 0), (67, .iconst 1, 1, 0, 0, 0, 0), (68, .goto 4, 3, 72, 0, 0, 0)]
def zc_X5_tile_1 : List zi_Row := [(71, .iconst 0, 1, 0, 0, 0, 0), (72, .istore 5, 2, 0, 0, 0, 0), (74, .iload 5, 2, 0, 0, 0, 0), (76, .ifCond .eq 14, 3, 90, 0, 0, 0), (79, .aload_n 2, 1, 0, 0, 0, 0), (80, .getfield 83, 3, 2, 1, 268, 0), (83, .aload_n 0, 1, 0, 0, 0, 0), (84, .getfield 34, 3, 5, 4, 286, 0), (87, .invokevirtual 102, 3, 82, 2, 453, 3), (90, .iload 5, 2, 0, 0, 0, 0), (92, .ireturn, 1, 0, 0, 0, 0)]
def zc_X5_tile : List zi_Row := zc_X5_tile_0 ++ (zc_X5_tile_1)
def zc_X5_leafAtHand_0 : List zi_Row := [(0, .iconst 0, 1, 0, 0, 0, 0), (1, .istore_n 2, 1, 0, 0, 0, 0), (2, .iload_n 2, 1, 0, 0, 0, 0), (3, .aload_n 0, 1, 0, 0, 0, 0), (4, .getfield 24, 3, 5, 2, 284, 0), (7, .invokevirtual 168, 3, 44, 1, 573, 1), (10, .if_icmp .ge 28, 3, 38, 0, 0, 0), (13, .aload_n 1, 1, 0, 0, 0, 0), (14, .aload_n 0, 1, 0, 0, 0, 0), (15, .getfield 24, 3, 5, 2, 284, 0), (18, .iload_n 2, 1, 0, 0, 0, 0), (19, .invokevirtual 165, 3, 45, 2, 574, 1), (22, .invokevirtual 360, 3, 83, 2, 608, 3), (25, .istore_n 3, 1, 0, 0, 0, 0), (26, .iload_n 3, 1, 0, 0, 0, 0), (27, .ifCond .lt 5, 3, 32, 0, 0, 0), (30, .iload_n 3, 1, 0, 0, 0, 0), (31, .ireturn, 1, 0, 0, 0, 0), (32, .iinc 2 1, 3, 0, 0, 0, 0), (35, .goto (-33), 3, 2, 0, 0, 0), (38, .aload_n 1, 1, 0, 0, 0, 0), (39, .iconst 0, 1, 0, 0, 0, 0), (40, .invokevirtual 283, 3, 87, 2, 609, 3), (43, .ireturn, 1, 0, 0, 0, 0)]
def zc_X5_leafAtHand : List zi_Row := zc_X5_leafAtHand_0
def zc_X5_tryCut_0 : List zi_Row := [(0, .iload_n 3, 1, 0, 0, 0, 0), (1, .ifCond .ge 5, 3, 6, 0, 0, 0), (4, .iconst 0, 1, 0, 0, 0, 0), (5, .ireturn, 1, 0, 0, 0, 0), (6, .aload_n 0, 1, 0, 0, 0, 0), (7, .getfield 11, 3, 5, 0, 282, 0), (10, .iload_n 1, 1, 0, 0, 0, 0), (11, .aaload, 1, 0, 0, 0, 0), (12, .getfield 252, 3, 4, 0, 208, 0), (15, .astore 5, 2, 0, 0, 0, 0), (17, .aload_n 0, 1, 0, 0, 0, 0), (18, .getfield 34, 3, 5, 4, 286, 0), (21, .aload_n 2, 1, 0, 0, 0, 0), (22, .getfield 83, 3, 2, 1, 268, 0), (25, .invokevirtual 102, 3, 82, 2, 453, 3), (28, .aload_n 0, 1, 0, 0, 0, 0), (29, .getfield 34, 3, 5, 4, 286, 0), (32, .iload_n 3, 1, 0, 0, 0, 0), (33, .iload 4, 2, 0, 0, 0, 0), (35, .iconst 0, 1, 0, 0, 0, 0), (36, .iload_n 1, 1, 0, 0, 0, 0), (37, .aload 5, 2, 0, 0, 0, 0), (39, .iconst 0, 1, 0, 0, 0, 0), (40, .iaload, 1, 0, 0, 0, 0), (41, .aload 5, 2, 0, 0, 0, 0), (43, .iconst 1, 1, 0, 0, 0, 0), (44, .iaload, 1, 0, 0, 0, 0), (45, .invokevirtual 363, 3, 98, 7, 618, 3), (48, .aload_n 0, 1, 0, 0, 0, 0), (49, .getfield 34, 3, 5, 4, 286, 0), (52, .aload_n 2, 1, 0, 0, 0, 0), (53, .getfield 109, 3, 2, 0, 266, 0), (56, .invokevirtual 86, 3, 92, 2, 329, 3), (59, .ireturn, 1, 0, 0, 0, 0)]
def zc_X5_tryCut : List zi_Row := zc_X5_tryCut_0
def zc_X5_tryTab_0 : List zi_Row := [(0, .aload_n 0, 1, 0, 0, 0, 0), (1, .getfield 11, 3, 5, 0, 282, 0), (4, .iload_n 1, 1, 0, 0, 0, 0), (5, .aaload, 1, 0, 0, 0, 0), (6, .getfield 252, 3, 4, 0, 208, 0), (9, .astore 4, 2, 0, 0, 0, 0), (11, .aload_n 0, 1, 0, 0, 0, 0), (12, .getfield 34, 3, 5, 4, 286, 0), (15, .aload_n 2, 1, 0, 0, 0, 0), (16, .getfield 83, 3, 2, 1, 268, 0), (19, .invokevirtual 102, 3, 82, 2, 453, 3), (22, .aload_n 0, 1, 0, 0, 0, 0), (23, .getfield 34, 3, 5, 4, 286, 0), (26, .iload_n 3, 1, 0, 0, 0, 0), (27, .iload_n 1, 1, 0, 0, 0, 0), (28, .aload 4, 2, 0, 0, 0, 0), (30, .iconst 0, 1, 0, 0, 0, 0), (31, .iaload, 1, 0, 0, 0, 0), (32, .aload 4, 2, 0, 0, 0, 0), (34, .iconst 1, 1, 0, 0, 0, 0), (35, .iaload, 1, 0, 0, 0, 0), (36, .invokevirtual 367, 3, 96, 5, 626, 3), (39, .aload_n 0, 1, 0, 0, 0, 0), (40, .getfield 34, 3, 5, 4, 286, 0), (43, .aload_n 2, 1, 0, 0, 0, 0), (44, .getfield 109, 3, 2, 0, 266, 0), (47, .invokevirtual 86, 3, 92, 2, 329, 3), (50, .ireturn, 1, 0, 0, 0, 0)]
def zc_X5_tryTab : List zi_Row := zc_X5_tryTab_0
def zc_X5_end_0 : List zi_Row := [(0, .aload_n 0, 1, 0, 0, 0, 0), (1, .iload_n 1, 1, 0, 0, 0, 0), (2, .invokevirtual 208, 3, 162, 2, 469, 5), (5, .aload_n 0, 1, 0, 0, 0, 0), (6, .getfield 11, 3, 5, 0, 282, 0), (9, .iload_n 1, 1, 0, 0, 0, 0), (10, .aaload, 1, 0, 0, 0, 0), (11, .invokevirtual 198, 3, 122, 1, 369, 4), (14, .ifCond .eq 12, 3, 26, 0, 0, 0), (17, .aload_n 0, 1, 0, 0, 0, 0), (18, .iload_n 1, 1, 0, 0, 0, 0), (19, .invokevirtual 176, 3, 138, 2, 373, 5), (22, .iload_n 1, 1, 0, 0, 0, 0), (23, .invokevirtual 211, 3, 99, 2, 377, 3), (26, .aload_n 0, 1, 0, 0, 0, 0), (27, .getfield 24, 3, 5, 2, 284, 0), (30, .iload_n 1, 1, 0, 0, 0, 0), (31, .invokevirtual 370, 3, 78, 2, 694, 1), (34, .aload_n 0, 1, 0, 0, 0, 0), (35, .getfield 28, 3, 5, 3, 285, 0), (38, .iload_n 1, 1, 0, 0, 0, 0), (39, .invokevirtual 370, 3, 78, 2, 694, 1), (42, .aload_n 0, 1, 0, 0, 0, 0), (43, .getfield 11, 3, 5, 0, 282, 0), (46, .iload_n 1, 1, 0, 0, 0, 0), (47, .aaload, 1, 0, 0, 0, 0), (48, .iconst 0, 1, 0, 0, 0, 0), (49, .putfield 155, 3, 4, 2, 212, 0), (52, .return_, 1, 0, 0, 0, 0)]
def zc_X5_end : List zi_Row := zc_X5_end_0
def zc_X5_giveFocus_0 : List zi_Row := [(0, .aload_n 0, 1, 0, 0, 0, 0), (1, .getfield 24, 3, 5, 2, 284, 0), (4, .iload_n 1, 1, 0, 0, 0, 0), (5, .invokevirtual 371, 3, 80, 2, 655, 1), (8, .aload_n 0, 1, 0, 0, 0, 0), (9, .getfield 11, 3, 5, 0, 282, 0), (12, .iload_n 1, 1, 0, 0, 0, 0), (13, .aaload, 1, 0, 0, 0, 0), (14, .invokevirtual 198, 3, 122, 1, 369, 4), (17, .ifCond .eq 12, 3, 29, 0, 0, 0), (20, .aload_n 0, 1, 0, 0, 0, 0), (21, .iload_n 1, 1, 0, 0, 0, 0), (22, .invokevirtual 176, 3, 138, 2, 373, 5), (25, .iload_n 1, 1, 0, 0, 0, 0), (26, .invokevirtual 374, 3, 95, 2, 665, 3), (29, .aload_n 0, 1, 0, 0, 0, 0), (30, .iload_n 1, 1, 0, 0, 0, 0), (31, .iconst 0, 1, 0, 0, 0, 0), (32, .invokevirtual 377, 3, 150, 3, 669, 5), (35, .return_, 1, 0, 0, 0, 0)]
def zc_X5_giveFocus : List zi_Row := zc_X5_giveFocus_0
def zc_X5_raise_0 : List zi_Row := [(0, .iload_n 2, 1, 0, 0, 0, 0), (1, .bipush 10, 2, 0, 0, 0, 0), (3, .if_icmp .ge 11, 3, 14, 0, 0, 0), (6, .aload_n 0, 1, 0, 0, 0, 0), (7, .iload_n 1, 1, 0, 0, 0, 0), (8, .invokevirtual 122, 3, 35, 2, 349, 5), (11, .ifCond .ne 4, 3, 15, 0, 0, 0), (14, .return_, 1, 0, 0, 0, 0), (15, .aload_n 0, 1, 0, 0, 0, 0), (16, .getfield 11, 3, 5, 0, 282, 0), (19, .iload_n 1, 1, 0, 0, 0, 0), (20, .aaload, 1, 0, 0, 0, 0), (21, .invokevirtual 220, 3, 123, 1, 357, 4), (24, .ifCond .eq 11, 3, 35, 0, 0, 0), (27, .aload_n 0, 1, 0, 0, 0, 0), (28, .getfield 28, 3, 5, 3, 285, 0), (31, .iload_n 1, 1, 0, 0, 0, 0), (32, .invokevirtual 380, 3, 79, 2, 673, 1), (35, .aload_n 0, 1, 0, 0, 0, 0), (36, .iload_n 1, 1, 0, 0, 0, 0), (37, .invokevirtual 383, 3, 151, 2, 674, 5), (40, .istore_n 3, 1, 0, 0, 0, 0), (41, .iconst 0, 1, 0, 0, 0, 0), (42, .istore 4, 2, 0, 0, 0, 0), (44, .iload 4, 2, 0, 0, 0, 0), (46, .iload_n 3, 1, 0, 0, 0, 0), (47, .if_icmp .ge 21, 3, 68, 0, 0, 0), (50, .aload_n 0, 1, 0, 0, 0, 0), (51, .aload_n 0, 1, 0, 0, 0, 0), (52, .iload_n 1, 1, 0, 0, 0, 0), (53, .invokevirtual 386, 3, 152, 2, 678, 5), (56, .iload_n 2, 1, 0, 0, 0, 0), (57, .iconst 1, 1, 0, 0, 0, 0), (58, .iadd, 1, 0, 0, 0, 0), (59, .invokevirtual 377, 3, 150, 3, 669, 5), (62, .iinc 4 1, 3, 0, 0, 0, 0), (65, .goto (-21), 3, 44, 0, 0, 0), (68, .return_, 1, 0, 0, 0, 0)]
def zc_X5_raise : List zi_Row := zc_X5_raise_0
def zc_X5_dialogsOf_0 : List zi_Row := [(0, .iconst 0, 1, 0, 0, 0, 0), (1, .istore_n 2, 1, 0, 0, 0, 0), (2, .iconst 0, 1, 0, 0, 0, 0), (3, .istore_n 3, 1, 0, 0, 0, 0), (4, .iload_n 3, 1, 0, 0, 0, 0), (5, .aload_n 0, 1, 0, 0, 0, 0), (6, .getfield 28, 3, 5, 3, 285, 0), (9, .invokevirtual 168, 3, 44, 1, 573, 1), (12, .if_icmp .ge 37, 3, 49, 0, 0, 0), (15, .iload_n 2, 1, 0, 0, 0, 0), (16, .aload_n 0, 1, 0, 0, 0, 0), (17, .getfield 11, 3, 5, 0, 282, 0), (20, .aload_n 0, 1, 0, 0, 0, 0), (21, .getfield 28, 3, 5, 3, 285, 0), (24, .iload_n 3, 1, 0, 0, 0, 0), (25, .invokevirtual 165, 3, 45, 2, 574, 1), (28, .aaload, 1, 0, 0, 0, 0), (29, .getfield 255, 3, 4, 4, 216, 0), (32, .iload_n 1, 1, 0, 0, 0, 0), (33, .if_icmp .ne 7, 3, 40, 0, 0, 0), (36, .iconst 1, 1, 0, 0, 0, 0), (37, .goto 4, 3, 41, 0, 0, 0), (40, .iconst 0, 1, 0, 0, 0, 0), (41, .iadd, 1, 0, 0, 0, 0), (42, .istore_n 2, 1, 0, 0, 0, 0), (43, .iinc 3 1, 3, 0, 0, 0, 0), (46, .goto (-42), 3, 4, 0, 0, 0), (49, .iload_n 2, 1, 0, 0, 0, 0), (50, .ireturn, 1, 0, 0, 0, 0)]
def zc_X5_dialogsOf : List zi_Row := zc_X5_dialogsOf_0
def zc_X5_lowestDialogOf_0 : List zi_Row := [(0, .iconst 0, 1, 0, 0, 0, 0), (1, .istore_n 2, 1, 0, 0, 0, 0), (2, .iload_n 2, 1, 0, 0, 0, 0), (3, .aload_n 0, 1, 0, 0, 0, 0), (4, .getfield 28, 3, 5, 3, 285, 0), (7, .invokevirtual 168, 3, 44, 1, 573, 1), (10, .if_icmp .ge 38, 3, 48, 0, 0, 0), (13, .aload_n 0, 1, 0, 0, 0, 0), (14, .getfield 11, 3, 5, 0, 282, 0), (17, .aload_n 0, 1, 0, 0, 0, 0), (18, .getfield 28, 3, 5, 3, 285, 0), (21, .iload_n 2, 1, 0, 0, 0, 0), (22, .invokevirtual 165, 3, 45, 2, 574, 1), (25, .aaload, 1, 0, 0, 0, 0), (26, .getfield 255, 3, 4, 4, 216, 0), (29, .iload_n 1, 1, 0, 0, 0, 0), (30, .if_icmp .ne 12, 3, 42, 0, 0, 0), (33, .aload_n 0, 1, 0, 0, 0, 0), (34, .getfield 28, 3, 5, 3, 285, 0), (37, .iload_n 2, 1, 0, 0, 0, 0), (38, .invokevirtual 165, 3, 45, 2, 574, 1), (41, .ireturn, 1, 0, 0, 0, 0), (42, .iinc 2 1, 3, 0, 0, 0, 0), (45, .goto (-43), 3, 2, 0, 0, 0), (48, .iconst (-1), 1, 0, 0, 0, 0), (49, .ireturn, 1, 0, 0, 0, 0)]
def zc_X5_lowestDialogOf : List zi_Row := zc_X5_lowestDialogOf_0
def zc_X5_reachFrom_0 : List zi_Row := [(0, .iconst 0, 1, 0, 0, 0, 0), (1, .istore_n 2, 1, 0, 0, 0, 0), (2, .iload_n 2, 1, 0, 0, 0, 0), (3, .iconst 4, 1, 0, 0, 0, 0), (4, .if_icmp .ge 59, 3, 63, 0, 0, 0), (7, .aload_n 0, 1, 0, 0, 0, 0), (8, .iload_n 1, 1, 0, 0, 0, 0), (9, .invokevirtual 176, 3, 138, 2, 373, 5), (12, .iload_n 1, 1, 0, 0, 0, 0), (13, .iload_n 2, 1, 0, 0, 0, 0), (14, .invokevirtual 180, 3, 118, 3, 718, 3), (17, .istore_n 3, 1, 0, 0, 0, 0), (18, .aload_n 0, 1, 0, 0, 0, 0), (19, .iload_n 3, 1, 0, 0, 0, 0), (20, .invokevirtual 122, 3, 35, 2, 349, 5), (23, .ifCond .eq 34, 3, 57, 0, 0, 0), (26, .aload_n 0, 1, 0, 0, 0, 0), (27, .getfield 46, 3, 5, 7, 289, 0), (30, .iload_n 3, 1, 0, 0, 0, 0), (31, .iaload, 1, 0, 0, 0, 0), (32, .ifCond .ge 25, 3, 57, 0, 0, 0), (35, .aload_n 0, 1, 0, 0, 0, 0), (36, .getfield 46, 3, 5, 7, 289, 0), (39, .iload_n 3, 1, 0, 0, 0, 0), (40, .aload_n 0, 1, 0, 0, 0, 0), (41, .getfield 46, 3, 5, 7, 289, 0), (44, .iload_n 1, 1, 0, 0, 0, 0), (45, .iaload, 1, 0, 0, 0, 0), (46, .iconst 1, 1, 0, 0, 0, 0), (47, .iadd, 1, 0, 0, 0, 0), (48, .iastore, 1, 0, 0, 0, 0), (49, .aload_n 0, 1, 0, 0, 0, 0), (50, .getfield 49, 3, 5, 8, 290, 0), (53, .iload_n 3, 1, 0, 0, 0, 0), (54, .invokevirtual 191, 3, 77, 2, 750, 1), (57, .iinc 2 1, 3, 0, 0, 0, 0), (60, .goto (-58), 3, 2, 0, 0, 0), (63, .return_, 1, 0, 0, 0, 0)]
def zc_X5_reachFrom : List zi_Row := zc_X5_reachFrom_0
def zc_X5_tryDrag_0 : List zi_Row := [(0, .aload_n 0, 1, 0, 0, 0, 0), (1, .getfield 11, 3, 5, 0, 282, 0), (4, .iload_n 1, 1, 0, 0, 0, 0), (5, .aaload, 1, 0, 0, 0, 0), (6, .getfield 252, 3, 4, 0, 208, 0), (9, .astore 4, 2, 0, 0, 0, 0), (11, .aload_n 0, 1, 0, 0, 0, 0), (12, .getfield 34, 3, 5, 4, 286, 0), (15, .aload_n 0, 1, 0, 0, 0, 0), (16, .iload_n 2, 1, 0, 0, 0, 0), (17, .invokevirtual 176, 3, 138, 2, 373, 5), (20, .invokevirtual 102, 3, 82, 2, 453, 3), (23, .aload_n 0, 1, 0, 0, 0, 0), (24, .getfield 34, 3, 5, 4, 286, 0), (27, .iload_n 1, 1, 0, 0, 0, 0), (28, .invokevirtual 211, 3, 99, 2, 377, 3), (31, .aload_n 0, 1, 0, 0, 0, 0), (32, .getfield 34, 3, 5, 4, 286, 0), (35, .iload_n 2, 1, 0, 0, 0, 0), (36, .invokevirtual 360, 3, 83, 2, 608, 3), (39, .istore 5, 2, 0, 0, 0, 0), (41, .iload_n 3, 1, 0, 0, 0, 0), (42, .iconst 4, 1, 0, 0, 0, 0), (43, .if_icmp .ne 24, 3, 67, 0, 0, 0), (46, .aload_n 0, 1, 0, 0, 0, 0), (47, .getfield 34, 3, 5, 4, 286, 0), (50, .iload 5, 2, 0, 0, 0, 0), (52, .iload_n 1, 1, 0, 0, 0, 0), (53, .aload 4, 2, 0, 0, 0, 0), (55, .iconst 0, 1, 0, 0, 0, 0), (56, .iaload, 1, 0, 0, 0, 0), (57, .aload 4, 2, 0, 0, 0, 0), (59, .iconst 1, 1, 0, 0, 0, 0), (60, .iaload, 1, 0, 0, 0, 0), (61, .invokevirtual 367, 3, 96, 5, 626, 3), (64, .goto 37, 3, 101, 0, 0, 0), (67, .aload_n 0, 1, 0, 0, 0, 0), (68, .getfield 34, 3, 5, 4, 286, 0), (71, .iload 5, 2, 0, 0, 0, 0), (73, .iload_n 3, 1, 0, 0, 0, 0)]
def zc_X5_tryDrag_1 : List zi_Row := [(74, .invokestatic 389, 3, 155, 1, 764, 0), (77, .iload_n 3, 1, 0, 0, 0, 0), (78, .invokestatic 392, 3, 156, 1, 765, 0), (81, .ifCond .ne 7, 3, 88, 0, 0, 0), (84, .iconst 1, 1, 0, 0, 0, 0), (85, .goto 4, 3, 89, 0, 0, 0), (88, .iconst 0, 1, 0, 0, 0, 0), (89, .iload_n 1, 1, 0, 0, 0, 0), (90, .aload 4, 2, 0, 0, 0, 0), (92, .iconst 0, 1, 0, 0, 0, 0), (93, .iaload, 1, 0, 0, 0, 0), (94, .aload 4, 2, 0, 0, 0, 0), (96, .iconst 1, 1, 0, 0, 0, 0), (97, .iaload, 1, 0, 0, 0, 0), (98, .invokevirtual 363, 3, 98, 7, 618, 3), (101, .return_, 1, 0, 0, 0, 0)]
def zc_X5_tryDrag : List zi_Row := zc_X5_tryDrag_0 ++ (zc_X5_tryDrag_1)
def zc_X5_axisOf_0 : List zi_Row := [(0, .iload_n 0, 1, 0, 0, 0, 0), (1, .iconst 2, 1, 0, 0, 0, 0), (2, .if_icmp .ge 7, 3, 9, 0, 0, 0), (5, .iconst 0, 1, 0, 0, 0, 0), (6, .goto 4, 3, 10, 0, 0, 0), (9, .iconst 1, 1, 0, 0, 0, 0), (10, .ireturn, 1, 0, 0, 0, 0)]
def zc_X5_axisOf : List zi_Row := zc_X5_axisOf_0
def zc_X5_isAfter_0 : List zi_Row := [(0, .iload_n 0, 1, 0, 0, 0, 0), (1, .iconst 2, 1, 0, 0, 0, 0), (2, .irem, 1, 0, 0, 0, 0), (3, .iconst 1, 1, 0, 0, 0, 0), (4, .if_icmp .ne 7, 3, 11, 0, 0, 0), (7, .iconst 1, 1, 0, 0, 0, 0), (8, .goto 4, 3, 12, 0, 0, 0), (11, .iconst 0, 1, 0, 0, 0, 0), (12, .ireturn, 1, 0, 0, 0, 0)]
def zc_X5_isAfter : List zi_Row := zc_X5_isAfter_0
def zc_X5_gatherWithDialogs_0 : List zi_Row := [(0, .iconst 0, 1, 0, 0, 0, 0), (1, .istore_n 2, 1, 0, 0, 0, 0), (2, .iload_n 2, 1, 0, 0, 0, 0), (3, .bipush 10, 2, 0, 0, 0, 0), (5, .if_icmp .ge 25, 3, 30, 0, 0, 0), (8, .aload_n 0, 1, 0, 0, 0, 0), (9, .getfield 38, 3, 5, 5, 287, 0), (12, .iload_n 2, 1, 0, 0, 0, 0), (13, .iload_n 2, 1, 0, 0, 0, 0), (14, .iload_n 1, 1, 0, 0, 0, 0), (15, .if_icmp .ne 7, 3, 22, 0, 0, 0), (18, .iconst 1, 1, 0, 0, 0, 0), (19, .goto 4, 3, 23, 0, 0, 0), (22, .iconst 0, 1, 0, 0, 0, 0), (23, .bastore, 1, 0, 0, 0, 0), (24, .iinc 2 1, 3, 0, 0, 0, 0), (27, .goto (-25), 3, 2, 0, 0, 0), (30, .aload_n 0, 1, 0, 0, 0, 0), (31, .invokevirtual 395, 3, 158, 1, 345, 5), (34, .return_, 1, 0, 0, 0, 0)]
def zc_X5_gatherWithDialogs : List zi_Row := zc_X5_gatherWithDialogs_0
def zc_X5_gatherDialogs_0 : List zi_Row := [(0, .iconst 0, 1, 0, 0, 0, 0), (1, .istore_n 1, 1, 0, 0, 0, 0), (2, .iload_n 1, 1, 0, 0, 0, 0), (3, .bipush 10, 2, 0, 0, 0, 0), (5, .if_icmp .ge 71, 3, 76, 0, 0, 0), (8, .iconst 0, 1, 0, 0, 0, 0), (9, .istore_n 2, 1, 0, 0, 0, 0), (10, .iload_n 2, 1, 0, 0, 0, 0), (11, .bipush 10, 2, 0, 0, 0, 0), (13, .if_icmp .ge 57, 3, 70, 0, 0, 0), (16, .aload_n 0, 1, 0, 0, 0, 0), (17, .iload_n 2, 1, 0, 0, 0, 0), (18, .invokevirtual 122, 3, 35, 2, 349, 5), (21, .ifCond .eq 43, 3, 64, 0, 0, 0), (24, .aload_n 0, 1, 0, 0, 0, 0), (25, .aload_n 0, 1, 0, 0, 0, 0), (26, .getfield 11, 3, 5, 0, 282, 0), (29, .iload_n 2, 1, 0, 0, 0, 0), (30, .aaload, 1, 0, 0, 0, 0), (31, .getfield 255, 3, 4, 4, 216, 0), (34, .invokevirtual 122, 3, 35, 2, 349, 5), (37, .ifCond .eq 27, 3, 64, 0, 0, 0), (40, .aload_n 0, 1, 0, 0, 0, 0), (41, .getfield 38, 3, 5, 5, 287, 0), (44, .aload_n 0, 1, 0, 0, 0, 0), (45, .getfield 11, 3, 5, 0, 282, 0), (48, .iload_n 2, 1, 0, 0, 0, 0), (49, .aaload, 1, 0, 0, 0, 0), (50, .getfield 255, 3, 4, 4, 216, 0), (53, .baload, 1, 0, 0, 0, 0), (54, .ifCond .eq 10, 3, 64, 0, 0, 0), (57, .aload_n 0, 1, 0, 0, 0, 0), (58, .getfield 38, 3, 5, 5, 287, 0), (61, .iload_n 2, 1, 0, 0, 0, 0), (62, .iconst 1, 1, 0, 0, 0, 0), (63, .bastore, 1, 0, 0, 0, 0), (64, .iinc 2 1, 3, 0, 0, 0, 0), (67, .goto (-57), 3, 10, 0, 0, 0), (70, .iinc 1 1, 3, 0, 0, 0, 0), (73, .goto (-71), 3, 2, 0, 0, 0)]
def zc_X5_gatherDialogs_1 : List zi_Row := [(76, .return_, 1, 0, 0, 0, 0)]
def zc_X5_gatherDialogs : List zi_Row := zc_X5_gatherDialogs_0 ++ (zc_X5_gatherDialogs_1)
def zc_X5_groupCanBeWhole_0 : List zi_Row := [(0, .iconst 0, 1, 0, 0, 0, 0), (1, .istore_n 2, 1, 0, 0, 0, 0), (2, .iload_n 2, 1, 0, 0, 0, 0), (3, .bipush 10, 2, 0, 0, 0, 0), (5, .if_icmp .ge 53, 3, 58, 0, 0, 0), (8, .aload_n 0, 1, 0, 0, 0, 0), (9, .getfield 38, 3, 5, 5, 287, 0), (12, .iload_n 2, 1, 0, 0, 0, 0), (13, .baload, 1, 0, 0, 0, 0), (14, .ifCond .eq 38, 3, 52, 0, 0, 0), (17, .aload_n 0, 1, 0, 0, 0, 0), (18, .getfield 11, 3, 5, 0, 282, 0), (21, .iload_n 2, 1, 0, 0, 0, 0), (22, .aaload, 1, 0, 0, 0, 0), (23, .invokevirtual 220, 3, 123, 1, 357, 4), (26, .ifCond .eq 26, 3, 52, 0, 0, 0), (29, .aload_n 0, 1, 0, 0, 0, 0), (30, .getfield 11, 3, 5, 0, 282, 0), (33, .iload_n 2, 1, 0, 0, 0, 0), (34, .aaload, 1, 0, 0, 0, 0), (35, .aload_n 0, 1, 0, 0, 0, 0), (36, .getfield 17, 3, 5, 1, 283, 0), (39, .iload_n 1, 1, 0, 0, 0, 0), (40, .aaload, 1, 0, 0, 0, 0), (41, .getfield 109, 3, 2, 0, 266, 0), (44, .invokevirtual 322, 3, 127, 2, 361, 4), (47, .ifCond .ne 5, 3, 52, 0, 0, 0), (50, .iconst 0, 1, 0, 0, 0, 0), (51, .ireturn, 1, 0, 0, 0, 0), (52, .iinc 2 1, 3, 0, 0, 0, 0), (55, .goto (-53), 3, 2, 0, 0, 0), (58, .iconst 1, 1, 0, 0, 0, 0), (59, .ireturn, 1, 0, 0, 0, 0)]
def zc_X5_groupCanBeWhole : List zi_Row := zc_X5_groupCanBeWhole_0
def zc_X5_sendGroup_0 : List zi_Row := [(0, .iconst 0, 1, 0, 0, 0, 0), (1, .istore_n 2, 1, 0, 0, 0, 0), (2, .iload_n 2, 1, 0, 0, 0, 0), (3, .bipush 10, 2, 0, 0, 0, 0), (5, .if_icmp .ge 37, 3, 42, 0, 0, 0), (8, .aload_n 0, 1, 0, 0, 0, 0), (9, .getfield 38, 3, 5, 5, 287, 0), (12, .iload_n 2, 1, 0, 0, 0, 0), (13, .baload, 1, 0, 0, 0, 0), (14, .ifCond .eq 22, 3, 36, 0, 0, 0), (17, .aload_n 0, 1, 0, 0, 0, 0), (18, .getfield 11, 3, 5, 0, 282, 0), (21, .iload_n 2, 1, 0, 0, 0, 0), (22, .aaload, 1, 0, 0, 0, 0), (23, .iload_n 1, 1, 0, 0, 0, 0), (24, .aload_n 0, 1, 0, 0, 0, 0), (25, .getfield 17, 3, 5, 1, 283, 0), (28, .iload_n 1, 1, 0, 0, 0, 0), (29, .aaload, 1, 0, 0, 0, 0), (30, .getfield 109, 3, 2, 0, 266, 0), (33, .invokevirtual 325, 3, 130, 3, 433, 4), (36, .iinc 2 1, 3, 0, 0, 0, 0), (39, .goto (-37), 3, 2, 0, 0, 0), (42, .return_, 1, 0, 0, 0, 0)]
def zc_X5_sendGroup : List zi_Row := zc_X5_sendGroup_0
def zc_X5_keepAll_0 : List zi_Row := [(0, .aload_n 0, 1, 0, 0, 0, 0), (1, .getfield 17, 3, 5, 1, 283, 0), (4, .iload_n 1, 1, 0, 0, 0, 0), (5, .aaload, 1, 0, 0, 0, 0), (6, .getfield 74, 3, 2, 2, 270, 0), (9, .astore_n 2, 1, 0, 0, 0, 0), (10, .aload_n 2, 1, 0, 0, 0, 0), (11, .aload_n 0, 1, 0, 0, 0, 0), (12, .iload_n 1, 1, 0, 0, 0, 0), (13, .invokevirtual 112, 3, 135, 2, 540, 5), (16, .ifCond .le 7, 3, 23, 0, 0, 0), (19, .iconst 1, 1, 0, 0, 0, 0), (20, .goto 4, 3, 24, 0, 0, 0), (23, .iconst 0, 1, 0, 0, 0, 0), (24, .putfield 315, 3, 0, 3, 255, 0), (27, .aload_n 2, 1, 0, 0, 0, 0), (28, .getfield 398, 3, 0, 0, 250, 0), (31, .aload_n 0, 1, 0, 0, 0, 0), (32, .getfield 17, 3, 5, 1, 283, 0), (35, .iload_n 1, 1, 0, 0, 0, 0), (36, .aaload, 1, 0, 0, 0, 0), (37, .getfield 83, 3, 2, 1, 268, 0), (40, .invokevirtual 102, 3, 82, 2, 453, 3), (43, .iconst 0, 1, 0, 0, 0, 0), (44, .istore_n 3, 1, 0, 0, 0, 0), (45, .iload_n 3, 1, 0, 0, 0, 0), (46, .bipush 10, 2, 0, 0, 0, 0), (48, .if_icmp .ge 33, 3, 81, 0, 0, 0), (51, .aload_n 2, 1, 0, 0, 0, 0), (52, .iload_n 3, 1, 0, 0, 0, 0), (53, .aload_n 0, 1, 0, 0, 0, 0), (54, .getfield 11, 3, 5, 0, 282, 0), (57, .iload_n 3, 1, 0, 0, 0, 0), (58, .aaload, 1, 0, 0, 0, 0), (59, .iload_n 1, 1, 0, 0, 0, 0), (60, .invokevirtual 316, 3, 126, 2, 481, 4), (63, .aload_n 0, 1, 0, 0, 0, 0), (64, .getfield 11, 3, 5, 0, 282, 0), (67, .iload_n 3, 1, 0, 0, 0, 0), (68, .aaload, 1, 0, 0, 0, 0)]
def zc_X5_keepAll_1 : List zi_Row := [(69, .getfield 223, 3, 4, 1, 210, 0), (72, .invokevirtual 399, 3, 75, 4, 548, 0), (75, .iinc 3 1, 3, 0, 0, 0, 0), (78, .goto (-33), 3, 45, 0, 0, 0), (81, .return_, 1, 0, 0, 0, 0)]
def zc_X5_keepAll : List zi_Row := zc_X5_keepAll_0 ++ (zc_X5_keepAll_1)
def zc_X5_forgetKeptWith_0 : List zi_Row := [(0, .iconst 0, 1, 0, 0, 0, 0), (1, .istore_n 2, 1, 0, 0, 0, 0), (2, .iload_n 2, 1, 0, 0, 0, 0), (3, .iconst 3, 1, 0, 0, 0, 0), (4, .if_icmp .ge 37, 3, 41, 0, 0, 0), (7, .aload_n 0, 1, 0, 0, 0, 0), (8, .getfield 17, 3, 5, 1, 283, 0), (11, .iload_n 2, 1, 0, 0, 0, 0), (12, .aaload, 1, 0, 0, 0, 0), (13, .getfield 74, 3, 2, 2, 270, 0), (16, .iload_n 1, 1, 0, 0, 0, 0), (17, .invokevirtual 403, 3, 74, 2, 337, 0), (20, .ifCond .eq 15, 3, 35, 0, 0, 0), (23, .aload_n 0, 1, 0, 0, 0, 0), (24, .getfield 17, 3, 5, 1, 283, 0), (27, .iload_n 2, 1, 0, 0, 0, 0), (28, .aaload, 1, 0, 0, 0, 0), (29, .getfield 74, 3, 2, 2, 270, 0), (32, .invokevirtual 78, 3, 47, 1, 473, 0), (35, .iinc 2 1, 3, 0, 0, 0, 0), (38, .goto (-36), 3, 2, 0, 0, 0), (41, .return_, 1, 0, 0, 0, 0)]
def zc_X5_forgetKeptWith : List zi_Row := zc_X5_forgetKeptWith_0
def zc_X5_takeBack_0 : List zi_Row := [(0, .aload_n 0, 1, 0, 0, 0, 0), (1, .getfield 11, 3, 5, 0, 282, 0), (4, .iload_n 1, 1, 0, 0, 0, 0), (5, .aaload, 1, 0, 0, 0, 0), (6, .invokevirtual 198, 3, 122, 1, 369, 4), (9, .ifCond .eq 15, 3, 24, 0, 0, 0), (12, .aload_n 0, 1, 0, 0, 0, 0), (13, .iload_n 1, 1, 0, 0, 0, 0), (14, .invokevirtual 176, 3, 138, 2, 373, 5), (17, .iload_n 1, 1, 0, 0, 0, 0), (18, .invokevirtual 211, 3, 99, 2, 377, 3), (21, .goto 41, 3, 62, 0, 0, 0), (24, .aload_n 0, 1, 0, 0, 0, 0), (25, .getfield 11, 3, 5, 0, 282, 0), (28, .iload_n 1, 1, 0, 0, 0, 0), (29, .aaload, 1, 0, 0, 0, 0), (30, .getfield 223, 3, 4, 1, 210, 0), (33, .iconst 0, 1, 0, 0, 0, 0), (34, .aload_n 2, 1, 0, 0, 0, 0), (35, .getfield 413, 3, 0, 1, 252, 0), (38, .iconst 0, 1, 0, 0, 0, 0), (39, .aaload, 1, 0, 0, 0, 0), (40, .iload_n 1, 1, 0, 0, 0, 0), (41, .iaload, 1, 0, 0, 0, 0), (42, .iastore, 1, 0, 0, 0, 0), (43, .aload_n 0, 1, 0, 0, 0, 0), (44, .getfield 11, 3, 5, 0, 282, 0), (47, .iload_n 1, 1, 0, 0, 0, 0), (48, .aaload, 1, 0, 0, 0, 0), (49, .getfield 223, 3, 4, 1, 210, 0), (52, .iconst 1, 1, 0, 0, 0, 0), (53, .aload_n 2, 1, 0, 0, 0, 0), (54, .getfield 413, 3, 0, 1, 252, 0), (57, .iconst 1, 1, 0, 0, 0, 0), (58, .aaload, 1, 0, 0, 0, 0), (59, .iload_n 1, 1, 0, 0, 0, 0), (60, .iaload, 1, 0, 0, 0, 0), (61, .iastore, 1, 0, 0, 0, 0), (62, .return_, 1, 0, 0, 0, 0)]
def zc_X5_takeBack : List zi_Row := zc_X5_takeBack_0
def zc_X5_forgetKeptWithGroup_0 : List zi_Row := [(0, .iconst 0, 1, 0, 0, 0, 0), (1, .istore_n 1, 1, 0, 0, 0, 0), (2, .iload_n 1, 1, 0, 0, 0, 0), (3, .bipush 10, 2, 0, 0, 0, 0), (5, .if_icmp .ge 23, 3, 28, 0, 0, 0), (8, .aload_n 0, 1, 0, 0, 0, 0), (9, .getfield 38, 3, 5, 5, 287, 0), (12, .iload_n 1, 1, 0, 0, 0, 0), (13, .baload, 1, 0, 0, 0, 0), (14, .ifCond .eq 8, 3, 22, 0, 0, 0), (17, .aload_n 0, 1, 0, 0, 0, 0), (18, .iload_n 1, 1, 0, 0, 0, 0), (19, .invokevirtual 208, 3, 162, 2, 469, 5), (22, .iinc 1 1, 3, 0, 0, 0, 0), (25, .goto (-23), 3, 2, 0, 0, 0), (28, .return_, 1, 0, 0, 0, 0)]
def zc_X5_forgetKeptWithGroup : List zi_Row := zc_X5_forgetKeptWithGroup_0
def zc_X6_half_0 : List zi_Row := [(0, .iload_n 0, 1, 0, 0, 0, 0), (1, .ifCond .ge 17, 3, 18, 0, 0, 0), (4, .iload_n 0, 1, 0, 0, 0, 0), (5, .iconst 2, 1, 0, 0, 0, 0), (6, .irem, 1, 0, 0, 0, 0), (7, .ifCond .eq 11, 3, 18, 0, 0, 0), (10, .iload_n 0, 1, 0, 0, 0, 0), (11, .iconst 2, 1, 0, 0, 0, 0), (12, .idiv, 1, 0, 0, 0, 0), (13, .iconst 1, 1, 0, 0, 0, 0), (14, .isub, 1, 0, 0, 0, 0), (15, .goto 6, 3, 21, 0, 0, 0), (18, .iload_n 0, 1, 0, 0, 0, 0), (19, .iconst 2, 1, 0, 0, 0, 0), (20, .idiv, 1, 0, 0, 0, 0), (21, .ireturn, 1, 0, 0, 0, 0)]
def zc_X6_half : List zi_Row := zc_X6_half_0
def zc_X6_nearest_0 : List zi_Row := [(0, .iload_n 0, 1, 0, 0, 0, 0), (1, .ifCond .ge 7, 3, 8, 0, 0, 0), (4, .iconst 0, 1, 0, 0, 0, 0), (5, .goto 13, 3, 18, 0, 0, 0), (8, .iload_n 0, 1, 0, 0, 0, 0), (9, .iload_n 1, 1, 0, 0, 0, 0), (10, .if_icmp .le 7, 3, 17, 0, 0, 0), (13, .iload_n 1, 1, 0, 0, 0, 0), (14, .goto 4, 3, 18, 0, 0, 0), (17, .iload_n 0, 1, 0, 0, 0, 0), (18, .ireturn, 1, 0, 0, 0, 0)]
def zc_X6_nearest : List zi_Row := zc_X6_nearest_0
def zc_X6_isFloating_0 : List zi_Row := [(0, .aload_n 0, 1, 0, 0, 0, 0), (1, .getfield 16, 3, 6, 2, 881, 0), (4, .iload_n 1, 1, 0, 0, 0, 0), (5, .iaload, 1, 0, 0, 0, 0), (6, .iconst 2, 1, 0, 0, 0, 0), (7, .if_icmp .lt 7, 3, 14, 0, 0, 0), (10, .iconst 1, 1, 0, 0, 0, 0), (11, .goto 4, 3, 15, 0, 0, 0), (14, .iconst 0, 1, 0, 0, 0, 0), (15, .ireturn, 1, 0, 0, 0, 0)]
def zc_X6_isFloating : List zi_Row := zc_X6_isFloating_0
def zc_X6_copyTree_0 : List zi_Row := [(0, .aload_n 0, 1, 0, 0, 0, 0), (1, .getfield 43, 3, 6, 13, 892, 0), (4, .iload_n 2, 1, 0, 0, 0, 0), (5, .aload_n 0, 1, 0, 0, 0, 0), (6, .getfield 43, 3, 6, 13, 892, 0), (9, .iload_n 1, 1, 0, 0, 0, 0), (10, .iaload, 1, 0, 0, 0, 0), (11, .iastore, 1, 0, 0, 0, 0), (12, .iconst 0, 1, 0, 0, 0, 0), (13, .istore_n 3, 1, 0, 0, 0, 0), (14, .iload_n 3, 1, 0, 0, 0, 0), (15, .bipush 24, 2, 0, 0, 0, 0), (17, .if_icmp .ge 149, 3, 166, 0, 0, 0), (20, .iload_n 1, 1, 0, 0, 0, 0), (21, .iload_n 3, 1, 0, 0, 0, 0), (22, .invokestatic 105, 3, 70, 2, 991, 0), (25, .istore 4, 2, 0, 0, 0, 0), (27, .iload_n 2, 1, 0, 0, 0, 0), (28, .iload_n 3, 1, 0, 0, 0, 0), (29, .invokestatic 105, 3, 70, 2, 991, 0), (32, .istore 5, 2, 0, 0, 0, 0), (34, .aload_n 0, 1, 0, 0, 0, 0), (35, .getfield 46, 3, 6, 14, 893, 0), (38, .iload 5, 2, 0, 0, 0, 0), (40, .aload_n 0, 1, 0, 0, 0, 0), (41, .getfield 46, 3, 6, 14, 893, 0), (44, .iload 4, 2, 0, 0, 0, 0), (46, .iaload, 1, 0, 0, 0, 0), (47, .iastore, 1, 0, 0, 0, 0), (48, .aload_n 0, 1, 0, 0, 0, 0), (49, .getfield 49, 3, 6, 15, 894, 0), (52, .iload 5, 2, 0, 0, 0, 0), (54, .aload_n 0, 1, 0, 0, 0, 0), (55, .getfield 49, 3, 6, 15, 894, 0), (58, .iload 4, 2, 0, 0, 0, 0), (60, .iaload, 1, 0, 0, 0, 0), (61, .iastore, 1, 0, 0, 0, 0), (62, .aload_n 0, 1, 0, 0, 0, 0), (63, .getfield 52, 3, 6, 16, 895, 0), (66, .iload 5, 2, 0, 0, 0, 0)]
def zc_X6_copyTree_1 : List zi_Row := [(68, .aload_n 0, 1, 0, 0, 0, 0), (69, .getfield 52, 3, 6, 16, 895, 0), (72, .iload 4, 2, 0, 0, 0, 0), (74, .iaload, 1, 0, 0, 0, 0), (75, .iastore, 1, 0, 0, 0, 0), (76, .aload_n 0, 1, 0, 0, 0, 0), (77, .getfield 55, 3, 6, 17, 896, 0), (80, .iload 5, 2, 0, 0, 0, 0), (82, .aload_n 0, 1, 0, 0, 0, 0), (83, .getfield 55, 3, 6, 17, 896, 0), (86, .iload 4, 2, 0, 0, 0, 0), (88, .iaload, 1, 0, 0, 0, 0), (89, .iastore, 1, 0, 0, 0, 0), (90, .aload_n 0, 1, 0, 0, 0, 0), (91, .getfield 61, 3, 6, 19, 898, 0), (94, .iload 5, 2, 0, 0, 0, 0), (96, .aload_n 0, 1, 0, 0, 0, 0), (97, .getfield 61, 3, 6, 19, 898, 0), (100, .iload 4, 2, 0, 0, 0, 0), (102, .iaload, 1, 0, 0, 0, 0), (103, .iastore, 1, 0, 0, 0, 0), (104, .aload_n 0, 1, 0, 0, 0, 0), (105, .getfield 64, 3, 6, 20, 899, 0), (108, .iload 5, 2, 0, 0, 0, 0), (110, .aload_n 0, 1, 0, 0, 0, 0), (111, .getfield 64, 3, 6, 20, 899, 0), (114, .iload 4, 2, 0, 0, 0, 0), (116, .iaload, 1, 0, 0, 0, 0), (117, .iastore, 1, 0, 0, 0, 0), (118, .iconst 0, 1, 0, 0, 0, 0), (119, .istore 6, 2, 0, 0, 0, 0), (121, .iload 6, 2, 0, 0, 0, 0), (123, .bipush 10, 2, 0, 0, 0, 0), (125, .if_icmp .ge 35, 3, 160, 0, 0, 0), (128, .aload_n 0, 1, 0, 0, 0, 0), (129, .getfield 58, 3, 6, 18, 897, 0), (132, .bipush 10, 2, 0, 0, 0, 0), (134, .iload 5, 2, 0, 0, 0, 0), (136, .imul, 1, 0, 0, 0, 0), (137, .iload 6, 2, 0, 0, 0, 0)]
def zc_X6_copyTree_2 : List zi_Row := [(139, .iadd, 1, 0, 0, 0, 0), (140, .aload_n 0, 1, 0, 0, 0, 0), (141, .getfield 58, 3, 6, 18, 897, 0), (144, .bipush 10, 2, 0, 0, 0, 0), (146, .iload 4, 2, 0, 0, 0, 0), (148, .imul, 1, 0, 0, 0, 0), (149, .iload 6, 2, 0, 0, 0, 0), (151, .iadd, 1, 0, 0, 0, 0), (152, .iaload, 1, 0, 0, 0, 0), (153, .iastore, 1, 0, 0, 0, 0), (154, .iinc 6 1, 3, 0, 0, 0, 0), (157, .goto (-36), 3, 121, 0, 0, 0), (160, .iinc 3 1, 3, 0, 0, 0, 0), (163, .goto (-149), 3, 14, 0, 0, 0), (166, .return_, 1, 0, 0, 0, 0)]
def zc_X6_copyTree : List zi_Row := zc_X6_copyTree_0 ++ (zc_X6_copyTree_1 ++ (zc_X6_copyTree_2))
def zc_X6_newNode_0 : List zi_Row := [(0, .iconst 0, 1, 0, 0, 0, 0), (1, .istore_n 3, 1, 0, 0, 0, 0), (2, .aload_n 0, 1, 0, 0, 0, 0), (3, .getfield 46, 3, 6, 14, 893, 0), (6, .iload_n 1, 1, 0, 0, 0, 0), (7, .iload_n 3, 1, 0, 0, 0, 0), (8, .invokestatic 105, 3, 70, 2, 991, 0), (11, .iaload, 1, 0, 0, 0, 0), (12, .ifCond .eq 9, 3, 21, 0, 0, 0), (15, .iinc 3 1, 3, 0, 0, 0, 0), (18, .goto (-16), 3, 2, 0, 0, 0), (21, .aload_n 0, 1, 0, 0, 0, 0), (22, .getfield 46, 3, 6, 14, 893, 0), (25, .iload_n 1, 1, 0, 0, 0, 0), (26, .iload_n 3, 1, 0, 0, 0, 0), (27, .invokestatic 105, 3, 70, 2, 991, 0), (30, .iload_n 2, 1, 0, 0, 0, 0), (31, .iastore, 1, 0, 0, 0, 0), (32, .aload_n 0, 1, 0, 0, 0, 0), (33, .getfield 61, 3, 6, 19, 898, 0), (36, .iload_n 1, 1, 0, 0, 0, 0), (37, .iload_n 3, 1, 0, 0, 0, 0), (38, .invokestatic 105, 3, 70, 2, 991, 0), (41, .iconst 0, 1, 0, 0, 0, 0), (42, .iastore, 1, 0, 0, 0, 0), (43, .iload_n 3, 1, 0, 0, 0, 0), (44, .ireturn, 1, 0, 0, 0, 0)]
def zc_X6_newNode : List zi_Row := zc_X6_newNode_0
def zc_X6_newLeaf_0 : List zi_Row := [(0, .aload_n 0, 1, 0, 0, 0, 0), (1, .iload_n 1, 1, 0, 0, 0, 0), (2, .iconst 1, 1, 0, 0, 0, 0), (3, .invokevirtual 109, 3, 169, 3, 1074, 6), (6, .istore_n 3, 1, 0, 0, 0, 0), (7, .aload_n 0, 1, 0, 0, 0, 0), (8, .getfield 58, 3, 6, 18, 897, 0), (11, .bipush 10, 2, 0, 0, 0, 0), (13, .iload_n 1, 1, 0, 0, 0, 0), (14, .iload_n 3, 1, 0, 0, 0, 0), (15, .invokestatic 105, 3, 70, 2, 991, 0), (18, .imul, 1, 0, 0, 0, 0), (19, .iload_n 2, 1, 0, 0, 0, 0), (20, .iastore, 1, 0, 0, 0, 0), (21, .aload_n 0, 1, 0, 0, 0, 0), (22, .getfield 61, 3, 6, 19, 898, 0), (25, .iload_n 1, 1, 0, 0, 0, 0), (26, .iload_n 3, 1, 0, 0, 0, 0), (27, .invokestatic 105, 3, 70, 2, 991, 0), (30, .iconst 1, 1, 0, 0, 0, 0), (31, .iastore, 1, 0, 0, 0, 0), (32, .aload_n 0, 1, 0, 0, 0, 0), (33, .getfield 64, 3, 6, 20, 899, 0), (36, .iload_n 1, 1, 0, 0, 0, 0), (37, .iload_n 3, 1, 0, 0, 0, 0), (38, .invokestatic 105, 3, 70, 2, 991, 0), (41, .iload_n 2, 1, 0, 0, 0, 0), (42, .iastore, 1, 0, 0, 0, 0), (43, .iload_n 3, 1, 0, 0, 0, 0), (44, .ireturn, 1, 0, 0, 0, 0)]
def zc_X6_newLeaf : List zi_Row := zc_X6_newLeaf_0
def zc_X6_addTab_0 : List zi_Row := [(0, .aload_n 0, 1, 0, 0, 0, 0), (1, .getfield 58, 3, 6, 18, 897, 0), (4, .bipush 10, 2, 0, 0, 0, 0), (6, .iload_n 1, 1, 0, 0, 0, 0), (7, .iload_n 2, 1, 0, 0, 0, 0), (8, .invokestatic 105, 3, 70, 2, 991, 0), (11, .imul, 1, 0, 0, 0, 0), (12, .aload_n 0, 1, 0, 0, 0, 0), (13, .getfield 61, 3, 6, 19, 898, 0), (16, .iload_n 1, 1, 0, 0, 0, 0), (17, .iload_n 2, 1, 0, 0, 0, 0), (18, .invokestatic 105, 3, 70, 2, 991, 0), (21, .iaload, 1, 0, 0, 0, 0), (22, .iadd, 1, 0, 0, 0, 0), (23, .iload_n 3, 1, 0, 0, 0, 0), (24, .iastore, 1, 0, 0, 0, 0), (25, .aload_n 0, 1, 0, 0, 0, 0), (26, .getfield 61, 3, 6, 19, 898, 0), (29, .iload_n 1, 1, 0, 0, 0, 0), (30, .iload_n 2, 1, 0, 0, 0, 0), (31, .invokestatic 105, 3, 70, 2, 991, 0), (34, .dup2, 1, 0, 0, 0, 0), (35, .iaload, 1, 0, 0, 0, 0), (36, .iconst 1, 1, 0, 0, 0, 0), (37, .iadd, 1, 0, 0, 0, 0), (38, .iastore, 1, 0, 0, 0, 0), (39, .return_, 1, 0, 0, 0, 0)]
def zc_X6_addTab : List zi_Row := zc_X6_addTab_0
def zc_X6_placeOfTab_0 : List zi_Row := [(0, .iconst 0, 1, 0, 0, 0, 0), (1, .istore 4, 2, 0, 0, 0, 0), (3, .iload 4, 2, 0, 0, 0, 0), (5, .aload_n 0, 1, 0, 0, 0, 0), (6, .getfield 61, 3, 6, 19, 898, 0), (9, .iload_n 1, 1, 0, 0, 0, 0), (10, .iload_n 2, 1, 0, 0, 0, 0), (11, .invokestatic 105, 3, 70, 2, 991, 0), (14, .iaload, 1, 0, 0, 0, 0), (15, .if_icmp .ge 32, 3, 47, 0, 0, 0), (18, .aload_n 0, 1, 0, 0, 0, 0), (19, .getfield 58, 3, 6, 18, 897, 0), (22, .bipush 10, 2, 0, 0, 0, 0), (24, .iload_n 1, 1, 0, 0, 0, 0), (25, .iload_n 2, 1, 0, 0, 0, 0), (26, .invokestatic 105, 3, 70, 2, 991, 0), (29, .imul, 1, 0, 0, 0, 0), (30, .iload 4, 2, 0, 0, 0, 0), (32, .iadd, 1, 0, 0, 0, 0), (33, .iaload, 1, 0, 0, 0, 0), (34, .iload_n 3, 1, 0, 0, 0, 0), (35, .if_icmp .ne 6, 3, 41, 0, 0, 0), (38, .iload 4, 2, 0, 0, 0, 0), (40, .ireturn, 1, 0, 0, 0, 0), (41, .iinc 4 1, 3, 0, 0, 0, 0), (44, .goto (-41), 3, 3, 0, 0, 0), (47, .iconst (-1), 1, 0, 0, 0, 0), (48, .ireturn, 1, 0, 0, 0, 0)]
def zc_X6_placeOfTab : List zi_Row := zc_X6_placeOfTab_0
def zc_X6_leafOf_0 : List zi_Row := [(0, .iconst 0, 1, 0, 0, 0, 0), (1, .istore_n 3, 1, 0, 0, 0, 0), (2, .iload_n 3, 1, 0, 0, 0, 0), (3, .bipush 24, 2, 0, 0, 0, 0), (5, .if_icmp .ge 35, 3, 40, 0, 0, 0), (8, .aload_n 0, 1, 0, 0, 0, 0), (9, .getfield 46, 3, 6, 14, 893, 0), (12, .iload_n 1, 1, 0, 0, 0, 0), (13, .iload_n 3, 1, 0, 0, 0, 0), (14, .invokestatic 105, 3, 70, 2, 991, 0), (17, .iaload, 1, 0, 0, 0, 0), (18, .iconst 1, 1, 0, 0, 0, 0), (19, .if_icmp .ne 15, 3, 34, 0, 0, 0), (22, .aload_n 0, 1, 0, 0, 0, 0), (23, .iload_n 1, 1, 0, 0, 0, 0), (24, .iload_n 3, 1, 0, 0, 0, 0), (25, .iload_n 2, 1, 0, 0, 0, 0), (26, .invokevirtual 112, 3, 172, 4, 1034, 6), (29, .ifCond .lt 5, 3, 34, 0, 0, 0), (32, .iload_n 3, 1, 0, 0, 0, 0), (33, .ireturn, 1, 0, 0, 0, 0), (34, .iinc 3 1, 3, 0, 0, 0, 0), (37, .goto (-35), 3, 2, 0, 0, 0), (40, .iconst (-1), 1, 0, 0, 0, 0), (41, .ireturn, 1, 0, 0, 0, 0)]
def zc_X6_leafOf : List zi_Row := zc_X6_leafOf_0
def zc_X6_above_0 : List zi_Row := [(0, .iconst 0, 1, 0, 0, 0, 0), (1, .istore_n 3, 1, 0, 0, 0, 0), (2, .iload_n 3, 1, 0, 0, 0, 0), (3, .bipush 24, 2, 0, 0, 0, 0), (5, .if_icmp .ge 53, 3, 58, 0, 0, 0), (8, .aload_n 0, 1, 0, 0, 0, 0), (9, .getfield 46, 3, 6, 14, 893, 0), (12, .iload_n 1, 1, 0, 0, 0, 0), (13, .iload_n 3, 1, 0, 0, 0, 0), (14, .invokestatic 105, 3, 70, 2, 991, 0), (17, .iaload, 1, 0, 0, 0, 0), (18, .iconst 1, 1, 0, 0, 0, 0), (19, .if_icmp .le 33, 3, 52, 0, 0, 0), (22, .aload_n 0, 1, 0, 0, 0, 0), (23, .getfield 49, 3, 6, 15, 894, 0), (26, .iload_n 1, 1, 0, 0, 0, 0), (27, .iload_n 3, 1, 0, 0, 0, 0), (28, .invokestatic 105, 3, 70, 2, 991, 0), (31, .iaload, 1, 0, 0, 0, 0), (32, .iload_n 2, 1, 0, 0, 0, 0), (33, .if_icmp .eq 17, 3, 50, 0, 0, 0), (36, .aload_n 0, 1, 0, 0, 0, 0), (37, .getfield 52, 3, 6, 16, 895, 0), (40, .iload_n 1, 1, 0, 0, 0, 0), (41, .iload_n 3, 1, 0, 0, 0, 0), (42, .invokestatic 105, 3, 70, 2, 991, 0), (45, .iaload, 1, 0, 0, 0, 0), (46, .iload_n 2, 1, 0, 0, 0, 0), (47, .if_icmp .ne 5, 3, 52, 0, 0, 0), (50, .iload_n 3, 1, 0, 0, 0, 0), (51, .ireturn, 1, 0, 0, 0, 0), (52, .iinc 3 1, 3, 0, 0, 0, 0), (55, .goto (-53), 3, 2, 0, 0, 0), (58, .iconst (-1), 1, 0, 0, 0, 0), (59, .ireturn, 1, 0, 0, 0, 0)]
def zc_X6_above : List zi_Row := zc_X6_above_0
def zc_X6_stand_0 : List zi_Row := [(0, .iload_n 2, 1, 0, 0, 0, 0), (1, .ifCond .ge 14, 3, 15, 0, 0, 0), (4, .aload_n 0, 1, 0, 0, 0, 0), (5, .getfield 43, 3, 6, 13, 892, 0), (8, .iload_n 1, 1, 0, 0, 0, 0), (9, .iload 4, 2, 0, 0, 0, 0), (11, .iastore, 1, 0, 0, 0, 0), (12, .goto 44, 3, 56, 0, 0, 0), (15, .aload_n 0, 1, 0, 0, 0, 0), (16, .getfield 49, 3, 6, 15, 894, 0), (19, .iload_n 1, 1, 0, 0, 0, 0), (20, .iload_n 2, 1, 0, 0, 0, 0), (21, .invokestatic 105, 3, 70, 2, 991, 0), (24, .iaload, 1, 0, 0, 0, 0), (25, .iload_n 3, 1, 0, 0, 0, 0), (26, .if_icmp .ne 18, 3, 44, 0, 0, 0), (29, .aload_n 0, 1, 0, 0, 0, 0), (30, .getfield 49, 3, 6, 15, 894, 0), (33, .iload_n 1, 1, 0, 0, 0, 0), (34, .iload_n 2, 1, 0, 0, 0, 0), (35, .invokestatic 105, 3, 70, 2, 991, 0), (38, .iload 4, 2, 0, 0, 0, 0), (40, .iastore, 1, 0, 0, 0, 0), (41, .goto 15, 3, 56, 0, 0, 0), (44, .aload_n 0, 1, 0, 0, 0, 0), (45, .getfield 52, 3, 6, 16, 895, 0), (48, .iload_n 1, 1, 0, 0, 0, 0), (49, .iload_n 2, 1, 0, 0, 0, 0), (50, .invokestatic 105, 3, 70, 2, 991, 0), (53, .iload 4, 2, 0, 0, 0, 0), (55, .iastore, 1, 0, 0, 0, 0), (56, .return_, 1, 0, 0, 0, 0)]
def zc_X6_stand : List zi_Row := zc_X6_stand_0
def zc_X6_leave_0 : List zi_Row := [(0, .aload_n 0, 1, 0, 0, 0, 0), (1, .iload_n 1, 1, 0, 0, 0, 0), (2, .iload_n 2, 1, 0, 0, 0, 0), (3, .invokevirtual 116, 3, 173, 3, 1030, 6), (6, .istore_n 3, 1, 0, 0, 0, 0), (7, .iload_n 1, 1, 0, 0, 0, 0), (8, .iload_n 3, 1, 0, 0, 0, 0), (9, .invokestatic 105, 3, 70, 2, 991, 0), (12, .istore 4, 2, 0, 0, 0, 0), (14, .aload_n 0, 1, 0, 0, 0, 0), (15, .iload_n 1, 1, 0, 0, 0, 0), (16, .iload_n 3, 1, 0, 0, 0, 0), (17, .iload_n 2, 1, 0, 0, 0, 0), (18, .invokevirtual 112, 3, 172, 4, 1034, 6), (21, .istore 5, 2, 0, 0, 0, 0), (23, .aload_n 0, 1, 0, 0, 0, 0), (24, .getfield 61, 3, 6, 19, 898, 0), (27, .iload 4, 2, 0, 0, 0, 0), (29, .dup2, 1, 0, 0, 0, 0), (30, .iaload, 1, 0, 0, 0, 0), (31, .iconst 1, 1, 0, 0, 0, 0), (32, .isub, 1, 0, 0, 0, 0), (33, .iastore, 1, 0, 0, 0, 0), (34, .iload 5, 2, 0, 0, 0, 0), (36, .istore 6, 2, 0, 0, 0, 0), (38, .iload 6, 2, 0, 0, 0, 0), (40, .aload_n 0, 1, 0, 0, 0, 0), (41, .getfield 61, 3, 6, 19, 898, 0), (44, .iload 4, 2, 0, 0, 0, 0), (46, .iaload, 1, 0, 0, 0, 0), (47, .if_icmp .ge 37, 3, 84, 0, 0, 0), (50, .aload_n 0, 1, 0, 0, 0, 0), (51, .getfield 58, 3, 6, 18, 897, 0), (54, .bipush 10, 2, 0, 0, 0, 0), (56, .iload 4, 2, 0, 0, 0, 0), (58, .imul, 1, 0, 0, 0, 0), (59, .iload 6, 2, 0, 0, 0, 0), (61, .iadd, 1, 0, 0, 0, 0), (62, .aload_n 0, 1, 0, 0, 0, 0), (63, .getfield 58, 3, 6, 18, 897, 0)]
def zc_X6_leave_1 : List zi_Row := [(66, .bipush 10, 2, 0, 0, 0, 0), (68, .iload 4, 2, 0, 0, 0, 0), (70, .imul, 1, 0, 0, 0, 0), (71, .iload 6, 2, 0, 0, 0, 0), (73, .iadd, 1, 0, 0, 0, 0), (74, .iconst 1, 1, 0, 0, 0, 0), (75, .iadd, 1, 0, 0, 0, 0), (76, .iaload, 1, 0, 0, 0, 0), (77, .iastore, 1, 0, 0, 0, 0), (78, .iinc 6 1, 3, 0, 0, 0, 0), (81, .goto (-43), 3, 38, 0, 0, 0), (84, .aload_n 0, 1, 0, 0, 0, 0), (85, .getfield 61, 3, 6, 19, 898, 0), (88, .iload 4, 2, 0, 0, 0, 0), (90, .iaload, 1, 0, 0, 0, 0), (91, .ifCond .le 73, 3, 164, 0, 0, 0), (94, .iload 5, 2, 0, 0, 0, 0), (96, .aload_n 0, 1, 0, 0, 0, 0), (97, .getfield 61, 3, 6, 19, 898, 0), (100, .iload 4, 2, 0, 0, 0, 0), (102, .iaload, 1, 0, 0, 0, 0), (103, .if_icmp .ge 8, 3, 111, 0, 0, 0), (106, .iload 5, 2, 0, 0, 0, 0), (108, .goto 12, 3, 120, 0, 0, 0), (111, .aload_n 0, 1, 0, 0, 0, 0), (112, .getfield 61, 3, 6, 19, 898, 0), (115, .iload 4, 2, 0, 0, 0, 0), (117, .iaload, 1, 0, 0, 0, 0), (118, .iconst 1, 1, 0, 0, 0, 0), (119, .isub, 1, 0, 0, 0, 0), (120, .istore 6, 2, 0, 0, 0, 0), (122, .aload_n 0, 1, 0, 0, 0, 0), (123, .getfield 64, 3, 6, 20, 899, 0), (126, .iload 4, 2, 0, 0, 0, 0), (128, .aload_n 0, 1, 0, 0, 0, 0), (129, .getfield 64, 3, 6, 20, 899, 0), (132, .iload 4, 2, 0, 0, 0, 0), (134, .iaload, 1, 0, 0, 0, 0), (135, .iload_n 2, 1, 0, 0, 0, 0), (136, .if_icmp .ne 19, 3, 155, 0, 0, 0)]
def zc_X6_leave_2 : List zi_Row := [(139, .aload_n 0, 1, 0, 0, 0, 0), (140, .getfield 58, 3, 6, 18, 897, 0), (143, .bipush 10, 2, 0, 0, 0, 0), (145, .iload 4, 2, 0, 0, 0, 0), (147, .imul, 1, 0, 0, 0, 0), (148, .iload 6, 2, 0, 0, 0, 0), (150, .iadd, 1, 0, 0, 0, 0), (151, .iaload, 1, 0, 0, 0, 0), (152, .goto 10, 3, 162, 0, 0, 0), (155, .aload_n 0, 1, 0, 0, 0, 0), (156, .getfield 64, 3, 6, 20, 899, 0), (159, .iload 4, 2, 0, 0, 0, 0), (161, .iaload, 1, 0, 0, 0, 0), (162, .iastore, 1, 0, 0, 0, 0), (163, .return_, 1, 0, 0, 0, 0), (164, .aload_n 0, 1, 0, 0, 0, 0), (165, .iload_n 1, 1, 0, 0, 0, 0), (166, .iload_n 3, 1, 0, 0, 0, 0), (167, .invokevirtual 119, 3, 174, 3, 1038, 6), (170, .istore 6, 2, 0, 0, 0, 0), (172, .aload_n 0, 1, 0, 0, 0, 0), (173, .getfield 46, 3, 6, 14, 893, 0), (176, .iload 4, 2, 0, 0, 0, 0), (178, .iconst 0, 1, 0, 0, 0, 0), (179, .iastore, 1, 0, 0, 0, 0), (180, .iload 6, 2, 0, 0, 0, 0), (182, .ifCond .ge 11, 3, 193, 0, 0, 0), (185, .aload_n 0, 1, 0, 0, 0, 0), (186, .getfield 43, 3, 6, 13, 892, 0), (189, .iload_n 1, 1, 0, 0, 0, 0), (190, .iconst (-1), 1, 0, 0, 0, 0), (191, .iastore, 1, 0, 0, 0, 0), (192, .return_, 1, 0, 0, 0, 0), (193, .aload_n 0, 1, 0, 0, 0, 0), (194, .getfield 49, 3, 6, 15, 894, 0), (197, .iload_n 1, 1, 0, 0, 0, 0), (198, .iload 6, 2, 0, 0, 0, 0), (200, .invokestatic 105, 3, 70, 2, 991, 0), (203, .iaload, 1, 0, 0, 0, 0), (204, .iload_n 3, 1, 0, 0, 0, 0)]
def zc_X6_leave_3 : List zi_Row := [(205, .if_icmp .ne 17, 3, 222, 0, 0, 0), (208, .aload_n 0, 1, 0, 0, 0, 0), (209, .getfield 52, 3, 6, 16, 895, 0), (212, .iload_n 1, 1, 0, 0, 0, 0), (213, .iload 6, 2, 0, 0, 0, 0), (215, .invokestatic 105, 3, 70, 2, 991, 0), (218, .iaload, 1, 0, 0, 0, 0), (219, .goto 14, 3, 233, 0, 0, 0), (222, .aload_n 0, 1, 0, 0, 0, 0), (223, .getfield 49, 3, 6, 15, 894, 0), (226, .iload_n 1, 1, 0, 0, 0, 0), (227, .iload 6, 2, 0, 0, 0, 0), (229, .invokestatic 105, 3, 70, 2, 991, 0), (232, .iaload, 1, 0, 0, 0, 0), (233, .istore 7, 2, 0, 0, 0, 0), (235, .aload_n 0, 1, 0, 0, 0, 0), (236, .iload_n 1, 1, 0, 0, 0, 0), (237, .iload 6, 2, 0, 0, 0, 0), (239, .invokevirtual 119, 3, 174, 3, 1038, 6), (242, .istore 8, 2, 0, 0, 0, 0), (244, .aload_n 0, 1, 0, 0, 0, 0), (245, .getfield 46, 3, 6, 14, 893, 0), (248, .iload_n 1, 1, 0, 0, 0, 0), (249, .iload 6, 2, 0, 0, 0, 0), (251, .invokestatic 105, 3, 70, 2, 991, 0), (254, .iconst 0, 1, 0, 0, 0, 0), (255, .iastore, 1, 0, 0, 0, 0), (256, .aload_n 0, 1, 0, 0, 0, 0), (257, .iload_n 1, 1, 0, 0, 0, 0), (258, .iload 8, 2, 0, 0, 0, 0), (260, .iload 6, 2, 0, 0, 0, 0), (262, .iload 7, 2, 0, 0, 0, 0), (264, .invokevirtual 122, 3, 175, 5, 1042, 6), (267, .return_, 1, 0, 0, 0, 0)]
def zc_X6_leave : List zi_Row := zc_X6_leave_0 ++ (zc_X6_leave_1 ++ (zc_X6_leave_2 ++ (zc_X6_leave_3)))
def zc_X6_cutLeaf_0 : List zi_Row := [(0, .aload_n 0, 1, 0, 0, 0, 0), (1, .iload_n 1, 1, 0, 0, 0, 0), (2, .iload_n 2, 1, 0, 0, 0, 0), (3, .invokevirtual 119, 3, 174, 3, 1038, 6), (6, .istore 6, 2, 0, 0, 0, 0), (8, .aload_n 0, 1, 0, 0, 0, 0), (9, .iload_n 1, 1, 0, 0, 0, 0), (10, .iload 4, 2, 0, 0, 0, 0), (12, .invokevirtual 126, 3, 170, 3, 1070, 6), (15, .istore 7, 2, 0, 0, 0, 0), (17, .aload_n 0, 1, 0, 0, 0, 0), (18, .iload_n 1, 1, 0, 0, 0, 0), (19, .iload_n 3, 1, 0, 0, 0, 0), (20, .invokevirtual 109, 3, 169, 3, 1074, 6), (23, .istore 8, 2, 0, 0, 0, 0), (25, .aload_n 0, 1, 0, 0, 0, 0), (26, .getfield 49, 3, 6, 15, 894, 0), (29, .iload_n 1, 1, 0, 0, 0, 0), (30, .iload 8, 2, 0, 0, 0, 0), (32, .invokestatic 105, 3, 70, 2, 991, 0), (35, .iload 5, 2, 0, 0, 0, 0), (37, .ifCond .eq 8, 3, 45, 0, 0, 0), (40, .iload 7, 2, 0, 0, 0, 0), (42, .goto 4, 3, 46, 0, 0, 0), (45, .iload_n 2, 1, 0, 0, 0, 0), (46, .iastore, 1, 0, 0, 0, 0), (47, .aload_n 0, 1, 0, 0, 0, 0), (48, .getfield 52, 3, 6, 16, 895, 0), (51, .iload_n 1, 1, 0, 0, 0, 0), (52, .iload 8, 2, 0, 0, 0, 0), (54, .invokestatic 105, 3, 70, 2, 991, 0), (57, .iload 5, 2, 0, 0, 0, 0), (59, .ifCond .eq 7, 3, 66, 0, 0, 0), (62, .iload_n 2, 1, 0, 0, 0, 0), (63, .goto 5, 3, 68, 0, 0, 0), (66, .iload 7, 2, 0, 0, 0, 0), (68, .iastore, 1, 0, 0, 0, 0), (69, .aload_n 0, 1, 0, 0, 0, 0), (70, .getfield 55, 3, 6, 17, 896, 0), (73, .iload_n 1, 1, 0, 0, 0, 0)]
def zc_X6_cutLeaf_1 : List zi_Row := [(74, .iload 8, 2, 0, 0, 0, 0), (76, .invokestatic 105, 3, 70, 2, 991, 0), (79, .bipush 50, 2, 0, 0, 0, 0), (81, .iastore, 1, 0, 0, 0, 0), (82, .aload_n 0, 1, 0, 0, 0, 0), (83, .iload_n 1, 1, 0, 0, 0, 0), (84, .iload 6, 2, 0, 0, 0, 0), (86, .iload_n 2, 1, 0, 0, 0, 0), (87, .iload 8, 2, 0, 0, 0, 0), (89, .invokevirtual 122, 3, 175, 5, 1042, 6), (92, .return_, 1, 0, 0, 0, 0)]
def zc_X6_cutLeaf : List zi_Row := zc_X6_cutLeaf_0 ++ (zc_X6_cutLeaf_1)
def zc_X6_least_0 : List zi_Row := [(0, .iload_n 1, 1, 0, 0, 0, 0), (1, .iload_n 2, 1, 0, 0, 0, 0), (2, .invokestatic 105, 3, 70, 2, 991, 0), (5, .istore 4, 2, 0, 0, 0, 0), (7, .aload_n 0, 1, 0, 0, 0, 0), (8, .getfield 46, 3, 6, 14, 893, 0), (11, .iload 4, 2, 0, 0, 0, 0), (13, .iaload, 1, 0, 0, 0, 0), (14, .iconst 1, 1, 0, 0, 0, 0), (15, .if_icmp .ne 91, 3, 106, 0, 0, 0), (18, .iconst 0, 1, 0, 0, 0, 0), (19, .istore 5, 2, 0, 0, 0, 0), (21, .iconst 0, 1, 0, 0, 0, 0), (22, .istore 6, 2, 0, 0, 0, 0), (24, .iload 6, 2, 0, 0, 0, 0), (26, .aload_n 0, 1, 0, 0, 0, 0), (27, .getfield 61, 3, 6, 19, 898, 0), (30, .iload 4, 2, 0, 0, 0, 0), (32, .iaload, 1, 0, 0, 0, 0), (33, .if_icmp .ge 70, 3, 103, 0, 0, 0), (36, .iload_n 3, 1, 0, 0, 0, 0), (37, .ifCond .eq 24, 3, 61, 0, 0, 0), (40, .aload_n 0, 1, 0, 0, 0, 0), (41, .getfield 19, 3, 6, 3, 882, 0), (44, .aload_n 0, 1, 0, 0, 0, 0), (45, .getfield 58, 3, 6, 18, 897, 0), (48, .bipush 10, 2, 0, 0, 0, 0), (50, .iload 4, 2, 0, 0, 0, 0), (52, .imul, 1, 0, 0, 0, 0), (53, .iload 6, 2, 0, 0, 0, 0), (55, .iadd, 1, 0, 0, 0, 0), (56, .iaload, 1, 0, 0, 0, 0), (57, .iaload, 1, 0, 0, 0, 0), (58, .goto 21, 3, 79, 0, 0, 0), (61, .aload_n 0, 1, 0, 0, 0, 0), (62, .getfield 22, 3, 6, 4, 883, 0), (65, .aload_n 0, 1, 0, 0, 0, 0), (66, .getfield 58, 3, 6, 18, 897, 0), (69, .bipush 10, 2, 0, 0, 0, 0), (71, .iload 4, 2, 0, 0, 0, 0)]
def zc_X6_least_1 : List zi_Row := [(73, .imul, 1, 0, 0, 0, 0), (74, .iload 6, 2, 0, 0, 0, 0), (76, .iadd, 1, 0, 0, 0, 0), (77, .iaload, 1, 0, 0, 0, 0), (78, .iaload, 1, 0, 0, 0, 0), (79, .istore 7, 2, 0, 0, 0, 0), (81, .iload 7, 2, 0, 0, 0, 0), (83, .iload 5, 2, 0, 0, 0, 0), (85, .if_icmp .le 8, 3, 93, 0, 0, 0), (88, .iload 7, 2, 0, 0, 0, 0), (90, .goto 5, 3, 95, 0, 0, 0), (93, .iload 5, 2, 0, 0, 0, 0), (95, .istore 5, 2, 0, 0, 0, 0), (97, .iinc 6 1, 3, 0, 0, 0, 0), (100, .goto (-76), 3, 24, 0, 0, 0), (103, .iload 5, 2, 0, 0, 0, 0), (105, .ireturn, 1, 0, 0, 0, 0), (106, .aload_n 0, 1, 0, 0, 0, 0), (107, .iload_n 1, 1, 0, 0, 0, 0), (108, .aload_n 0, 1, 0, 0, 0, 0), (109, .getfield 49, 3, 6, 15, 894, 0), (112, .iload 4, 2, 0, 0, 0, 0), (114, .iaload, 1, 0, 0, 0, 0), (115, .iload_n 3, 1, 0, 0, 0, 0), (116, .invokevirtual 129, 3, 178, 4, 1006, 6), (119, .istore 5, 2, 0, 0, 0, 0), (121, .aload_n 0, 1, 0, 0, 0, 0), (122, .iload_n 1, 1, 0, 0, 0, 0), (123, .aload_n 0, 1, 0, 0, 0, 0), (124, .getfield 52, 3, 6, 16, 895, 0), (127, .iload 4, 2, 0, 0, 0, 0), (129, .iaload, 1, 0, 0, 0, 0), (130, .iload_n 3, 1, 0, 0, 0, 0), (131, .invokevirtual 129, 3, 178, 4, 1006, 6), (134, .istore 6, 2, 0, 0, 0, 0), (136, .aload_n 0, 1, 0, 0, 0, 0), (137, .getfield 46, 3, 6, 14, 893, 0), (140, .iload 4, 2, 0, 0, 0, 0), (142, .iaload, 1, 0, 0, 0, 0), (143, .iconst 2, 1, 0, 0, 0, 0)]
def zc_X6_least_2 : List zi_Row := [(144, .if_icmp .ne 7, 3, 151, 0, 0, 0), (147, .iconst 1, 1, 0, 0, 0, 0), (148, .goto 4, 3, 152, 0, 0, 0), (151, .iconst 0, 1, 0, 0, 0, 0), (152, .iload_n 3, 1, 0, 0, 0, 0), (153, .if_icmp .ne 11, 3, 164, 0, 0, 0), (156, .iload 5, 2, 0, 0, 0, 0), (158, .iload 6, 2, 0, 0, 0, 0), (160, .iadd, 1, 0, 0, 0, 0), (161, .goto 17, 3, 178, 0, 0, 0), (164, .iload 5, 2, 0, 0, 0, 0), (166, .iload 6, 2, 0, 0, 0, 0), (168, .if_icmp .le 8, 3, 176, 0, 0, 0), (171, .iload 5, 2, 0, 0, 0, 0), (173, .goto 5, 3, 178, 0, 0, 0), (176, .iload 6, 2, 0, 0, 0, 0), (178, .ireturn, 1, 0, 0, 0, 0)]
def zc_X6_least : List zi_Row := zc_X6_least_0 ++ (zc_X6_least_1 ++ (zc_X6_least_2))
def zc_X6_fits_0 : List zi_Row := [(0, .aload_n 0, 1, 0, 0, 0, 0), (1, .getfield 43, 3, 6, 13, 892, 0), (4, .iload_n 1, 1, 0, 0, 0, 0), (5, .iaload, 1, 0, 0, 0, 0), (6, .ifCond .lt 35, 3, 41, 0, 0, 0), (9, .aload_n 0, 1, 0, 0, 0, 0), (10, .iload_n 1, 1, 0, 0, 0, 0), (11, .aload_n 0, 1, 0, 0, 0, 0), (12, .getfield 43, 3, 6, 13, 892, 0), (15, .iload_n 1, 1, 0, 0, 0, 0), (16, .iaload, 1, 0, 0, 0, 0), (17, .iconst 1, 1, 0, 0, 0, 0), (18, .invokevirtual 129, 3, 178, 4, 1006, 6), (21, .iload_n 2, 1, 0, 0, 0, 0), (22, .if_icmp .gt 23, 3, 45, 0, 0, 0), (25, .aload_n 0, 1, 0, 0, 0, 0), (26, .iload_n 1, 1, 0, 0, 0, 0), (27, .aload_n 0, 1, 0, 0, 0, 0), (28, .getfield 43, 3, 6, 13, 892, 0), (31, .iload_n 1, 1, 0, 0, 0, 0), (32, .iaload, 1, 0, 0, 0, 0), (33, .iconst 0, 1, 0, 0, 0, 0), (34, .invokevirtual 129, 3, 178, 4, 1006, 6), (37, .iload_n 3, 1, 0, 0, 0, 0), (38, .if_icmp .gt 7, 3, 45, 0, 0, 0), (41, .iconst 1, 1, 0, 0, 0, 0), (42, .goto 4, 3, 46, 0, 0, 0), (45, .iconst 0, 1, 0, 0, 0, 0), (46, .ireturn, 1, 0, 0, 0, 0)]
def zc_X6_fits : List zi_Row := zc_X6_fits_0
def zc_X6_lay_0 : List zi_Row := [(0, .iload_n 1, 1, 0, 0, 0, 0), (1, .iload_n 2, 1, 0, 0, 0, 0), (2, .invokestatic 105, 3, 70, 2, 991, 0), (5, .istore 7, 2, 0, 0, 0, 0), (7, .aload_n 0, 1, 0, 0, 0, 0), (8, .getfield 80, 3, 6, 25, 904, 0), (11, .iload_n 2, 1, 0, 0, 0, 0), (12, .iload_n 3, 1, 0, 0, 0, 0), (13, .iastore, 1, 0, 0, 0, 0), (14, .aload_n 0, 1, 0, 0, 0, 0), (15, .getfield 83, 3, 6, 26, 905, 0), (18, .iload_n 2, 1, 0, 0, 0, 0), (19, .iload 4, 2, 0, 0, 0, 0), (21, .iastore, 1, 0, 0, 0, 0), (22, .aload_n 0, 1, 0, 0, 0, 0), (23, .getfield 86, 3, 6, 27, 906, 0), (26, .iload_n 2, 1, 0, 0, 0, 0), (27, .iload 5, 2, 0, 0, 0, 0), (29, .iastore, 1, 0, 0, 0, 0), (30, .aload_n 0, 1, 0, 0, 0, 0), (31, .getfield 89, 3, 6, 28, 907, 0), (34, .iload_n 2, 1, 0, 0, 0, 0), (35, .iload 6, 2, 0, 0, 0, 0), (37, .iastore, 1, 0, 0, 0, 0), (38, .aload_n 0, 1, 0, 0, 0, 0), (39, .getfield 46, 3, 6, 14, 893, 0), (42, .iload 7, 2, 0, 0, 0, 0), (44, .iaload, 1, 0, 0, 0, 0), (45, .iconst 1, 1, 0, 0, 0, 0), (46, .if_icmp .ne 24, 3, 70, 0, 0, 0), (49, .aload_n 0, 1, 0, 0, 0, 0), (50, .getfield 92, 3, 6, 29, 908, 0), (53, .aload_n 0, 1, 0, 0, 0, 0), (54, .getfield 133, 3, 6, 30, 909, 0), (57, .iload_n 2, 1, 0, 0, 0, 0), (58, .iastore, 1, 0, 0, 0, 0), (59, .aload_n 0, 1, 0, 0, 0, 0), (60, .dup, 1, 0, 0, 0, 0), (61, .getfield 133, 3, 6, 30, 909, 0), (64, .iconst 1, 1, 0, 0, 0, 0)]
def zc_X6_lay_1 : List zi_Row := [(65, .iadd, 1, 0, 0, 0, 0), (66, .putfield 133, 3, 6, 30, 909, 0), (69, .return_, 1, 0, 0, 0, 0), (70, .aload_n 0, 1, 0, 0, 0, 0), (71, .getfield 46, 3, 6, 14, 893, 0), (74, .iload 7, 2, 0, 0, 0, 0), (76, .iaload, 1, 0, 0, 0, 0), (77, .iconst 2, 1, 0, 0, 0, 0), (78, .if_icmp .ne 7, 3, 85, 0, 0, 0), (81, .iconst 1, 1, 0, 0, 0, 0), (82, .goto 4, 3, 86, 0, 0, 0), (85, .iconst 0, 1, 0, 0, 0, 0), (86, .istore 8, 2, 0, 0, 0, 0), (88, .iload 8, 2, 0, 0, 0, 0), (90, .ifCond .eq 8, 3, 98, 0, 0, 0), (93, .iload 5, 2, 0, 0, 0, 0), (95, .goto 5, 3, 100, 0, 0, 0), (98, .iload 6, 2, 0, 0, 0, 0), (100, .istore 9, 2, 0, 0, 0, 0), (102, .iload 9, 2, 0, 0, 0, 0), (104, .aload_n 0, 1, 0, 0, 0, 0), (105, .getfield 55, 3, 6, 17, 896, 0), (108, .iload 7, 2, 0, 0, 0, 0), (110, .iaload, 1, 0, 0, 0, 0), (111, .imul, 1, 0, 0, 0, 0), (112, .bipush 100, 2, 0, 0, 0, 0), (114, .idiv, 1, 0, 0, 0, 0), (115, .istore 10, 2, 0, 0, 0, 0), (117, .iload 9, 2, 0, 0, 0, 0), (119, .aload_n 0, 1, 0, 0, 0, 0), (120, .iload_n 1, 1, 0, 0, 0, 0), (121, .aload_n 0, 1, 0, 0, 0, 0), (122, .getfield 52, 3, 6, 16, 895, 0), (125, .iload 7, 2, 0, 0, 0, 0), (127, .iaload, 1, 0, 0, 0, 0), (128, .iload 8, 2, 0, 0, 0, 0), (130, .invokevirtual 129, 3, 178, 4, 1006, 6), (133, .isub, 1, 0, 0, 0, 0), (134, .istore 11, 2, 0, 0, 0, 0), (136, .aload_n 0, 1, 0, 0, 0, 0)]
def zc_X6_lay_2 : List zi_Row := [(137, .iload_n 1, 1, 0, 0, 0, 0), (138, .aload_n 0, 1, 0, 0, 0, 0), (139, .getfield 49, 3, 6, 15, 894, 0), (142, .iload 7, 2, 0, 0, 0, 0), (144, .iaload, 1, 0, 0, 0, 0), (145, .iload 8, 2, 0, 0, 0, 0), (147, .invokevirtual 129, 3, 178, 4, 1006, 6), (150, .istore 12, 2, 0, 0, 0, 0), (152, .iload 10, 2, 0, 0, 0, 0), (154, .iload 11, 2, 0, 0, 0, 0), (156, .if_icmp .le 8, 3, 164, 0, 0, 0), (159, .iload 11, 2, 0, 0, 0, 0), (161, .goto 5, 3, 166, 0, 0, 0), (164, .iload 10, 2, 0, 0, 0, 0), (166, .istore 10, 2, 0, 0, 0, 0), (168, .iload 10, 2, 0, 0, 0, 0), (170, .iload 12, 2, 0, 0, 0, 0), (172, .if_icmp .ge 8, 3, 180, 0, 0, 0), (175, .iload 12, 2, 0, 0, 0, 0), (177, .goto 5, 3, 182, 0, 0, 0), (180, .iload 10, 2, 0, 0, 0, 0), (182, .istore 10, 2, 0, 0, 0, 0), (184, .iload 8, 2, 0, 0, 0, 0), (186, .ifCond .eq 50, 3, 236, 0, 0, 0), (189, .aload_n 0, 1, 0, 0, 0, 0), (190, .iload_n 1, 1, 0, 0, 0, 0), (191, .aload_n 0, 1, 0, 0, 0, 0), (192, .getfield 49, 3, 6, 15, 894, 0), (195, .iload 7, 2, 0, 0, 0, 0), (197, .iaload, 1, 0, 0, 0, 0), (198, .iload_n 3, 1, 0, 0, 0, 0), (199, .iload 4, 2, 0, 0, 0, 0), (201, .iload 10, 2, 0, 0, 0, 0), (203, .iload 6, 2, 0, 0, 0, 0), (205, .invokevirtual 137, 3, 180, 7, 1111, 6), (208, .aload_n 0, 1, 0, 0, 0, 0), (209, .iload_n 1, 1, 0, 0, 0, 0), (210, .aload_n 0, 1, 0, 0, 0, 0), (211, .getfield 52, 3, 6, 16, 895, 0), (214, .iload 7, 2, 0, 0, 0, 0)]
def zc_X6_lay_3 : List zi_Row := [(216, .iaload, 1, 0, 0, 0, 0), (217, .iload_n 3, 1, 0, 0, 0, 0), (218, .iload 10, 2, 0, 0, 0, 0), (220, .iadd, 1, 0, 0, 0, 0), (221, .iload 4, 2, 0, 0, 0, 0), (223, .iload 5, 2, 0, 0, 0, 0), (225, .iload 10, 2, 0, 0, 0, 0), (227, .isub, 1, 0, 0, 0, 0), (228, .iload 6, 2, 0, 0, 0, 0), (230, .invokevirtual 137, 3, 180, 7, 1111, 6), (233, .goto 47, 3, 280, 0, 0, 0), (236, .aload_n 0, 1, 0, 0, 0, 0), (237, .iload_n 1, 1, 0, 0, 0, 0), (238, .aload_n 0, 1, 0, 0, 0, 0), (239, .getfield 49, 3, 6, 15, 894, 0), (242, .iload 7, 2, 0, 0, 0, 0), (244, .iaload, 1, 0, 0, 0, 0), (245, .iload_n 3, 1, 0, 0, 0, 0), (246, .iload 4, 2, 0, 0, 0, 0), (248, .iload 5, 2, 0, 0, 0, 0), (250, .iload 10, 2, 0, 0, 0, 0), (252, .invokevirtual 137, 3, 180, 7, 1111, 6), (255, .aload_n 0, 1, 0, 0, 0, 0), (256, .iload_n 1, 1, 0, 0, 0, 0), (257, .aload_n 0, 1, 0, 0, 0, 0), (258, .getfield 52, 3, 6, 16, 895, 0), (261, .iload 7, 2, 0, 0, 0, 0), (263, .iaload, 1, 0, 0, 0, 0), (264, .iload_n 3, 1, 0, 0, 0, 0), (265, .iload 4, 2, 0, 0, 0, 0), (267, .iload 10, 2, 0, 0, 0, 0), (269, .iadd, 1, 0, 0, 0, 0), (270, .iload 5, 2, 0, 0, 0, 0), (272, .iload 6, 2, 0, 0, 0, 0), (274, .iload 10, 2, 0, 0, 0, 0), (276, .isub, 1, 0, 0, 0, 0), (277, .invokevirtual 137, 3, 180, 7, 1111, 6), (280, .return_, 1, 0, 0, 0, 0)]
def zc_X6_lay : List zi_Row := zc_X6_lay_0 ++ (zc_X6_lay_1 ++ (zc_X6_lay_2 ++ (zc_X6_lay_3)))
def zc_X6_layAll_0 : List zi_Row := [(0, .aload_n 0, 1, 0, 0, 0, 0), (1, .iconst 0, 1, 0, 0, 0, 0), (2, .putfield 133, 3, 6, 30, 909, 0), (5, .aload_n 0, 1, 0, 0, 0, 0), (6, .getfield 43, 3, 6, 13, 892, 0), (9, .iload_n 1, 1, 0, 0, 0, 0), (10, .iaload, 1, 0, 0, 0, 0), (11, .ifCond .lt 28, 3, 39, 0, 0, 0), (14, .aload_n 0, 1, 0, 0, 0, 0), (15, .iload_n 1, 1, 0, 0, 0, 0), (16, .aload_n 0, 1, 0, 0, 0, 0), (17, .getfield 43, 3, 6, 13, 892, 0), (20, .iload_n 1, 1, 0, 0, 0, 0), (21, .iaload, 1, 0, 0, 0, 0), (22, .iconst 0, 1, 0, 0, 0, 0), (23, .iconst 0, 1, 0, 0, 0, 0), (24, .aload_n 0, 1, 0, 0, 0, 0), (25, .getfield 7, 3, 6, 0, 879, 0), (28, .iload_n 1, 1, 0, 0, 0, 0), (29, .iaload, 1, 0, 0, 0, 0), (30, .aload_n 0, 1, 0, 0, 0, 0), (31, .getfield 13, 3, 6, 1, 880, 0), (34, .iload_n 1, 1, 0, 0, 0, 0), (35, .iaload, 1, 0, 0, 0, 0), (36, .invokevirtual 137, 3, 180, 7, 1111, 6), (39, .return_, 1, 0, 0, 0, 0)]
def zc_X6_layAll : List zi_Row := zc_X6_layAll_0
def zc_X6_canBeWhole_0 : List zi_Row := [(0, .aload_n 0, 1, 0, 0, 0, 0), (1, .getfield 19, 3, 6, 3, 882, 0), (4, .iload_n 1, 1, 0, 0, 0, 0), (5, .iaload, 1, 0, 0, 0, 0), (6, .iload_n 2, 1, 0, 0, 0, 0), (7, .if_icmp .gt 17, 3, 24, 0, 0, 0), (10, .aload_n 0, 1, 0, 0, 0, 0), (11, .getfield 22, 3, 6, 4, 883, 0), (14, .iload_n 1, 1, 0, 0, 0, 0), (15, .iaload, 1, 0, 0, 0, 0), (16, .iload_n 3, 1, 0, 0, 0, 0), (17, .if_icmp .gt 7, 3, 24, 0, 0, 0), (20, .iconst 1, 1, 0, 0, 0, 0), (21, .goto 4, 3, 25, 0, 0, 0), (24, .iconst 0, 1, 0, 0, 0, 0), (25, .ireturn, 1, 0, 0, 0, 0)]
def zc_X6_canBeWhole : List zi_Row := zc_X6_canBeWhole_0
def zc_X6_putAt_0 : List zi_Row := [(0, .aload_n 0, 1, 0, 0, 0, 0), (1, .getfield 28, 3, 6, 6, 885, 0), (4, .iload_n 1, 1, 0, 0, 0, 0), (5, .iload_n 2, 1, 0, 0, 0, 0), (6, .iastore, 1, 0, 0, 0, 0), (7, .aload_n 0, 1, 0, 0, 0, 0), (8, .getfield 31, 3, 6, 7, 886, 0), (11, .iload_n 1, 1, 0, 0, 0, 0), (12, .iload_n 3, 1, 0, 0, 0, 0), (13, .aload_n 0, 1, 0, 0, 0, 0), (14, .getfield 7, 3, 6, 0, 879, 0), (17, .iload_n 2, 1, 0, 0, 0, 0), (18, .iaload, 1, 0, 0, 0, 0), (19, .aload_n 0, 1, 0, 0, 0, 0), (20, .getfield 19, 3, 6, 3, 882, 0), (23, .iload_n 1, 1, 0, 0, 0, 0), (24, .iaload, 1, 0, 0, 0, 0), (25, .isub, 1, 0, 0, 0, 0), (26, .invokestatic 141, 3, 166, 2, 1054, 0), (29, .iastore, 1, 0, 0, 0, 0), (30, .aload_n 0, 1, 0, 0, 0, 0), (31, .getfield 34, 3, 6, 8, 887, 0), (34, .iload_n 1, 1, 0, 0, 0, 0), (35, .iload 4, 2, 0, 0, 0, 0), (37, .aload_n 0, 1, 0, 0, 0, 0), (38, .getfield 13, 3, 6, 1, 880, 0), (41, .iload_n 2, 1, 0, 0, 0, 0), (42, .iaload, 1, 0, 0, 0, 0), (43, .aload_n 0, 1, 0, 0, 0, 0), (44, .getfield 22, 3, 6, 4, 883, 0), (47, .iload_n 1, 1, 0, 0, 0, 0), (48, .iaload, 1, 0, 0, 0, 0), (49, .isub, 1, 0, 0, 0, 0), (50, .invokestatic 141, 3, 166, 2, 1054, 0), (53, .iastore, 1, 0, 0, 0, 0), (54, .return_, 1, 0, 0, 0, 0)]
def zc_X6_putAt : List zi_Row := zc_X6_putAt_0
def zc_X6_isOnScreen_0 : List zi_Row := [(0, .aload_n 0, 1, 0, 0, 0, 0), (1, .getfield 16, 3, 6, 2, 881, 0), (4, .iload_n 1, 1, 0, 0, 0, 0), (5, .iaload, 1, 0, 0, 0, 0), (6, .iconst 1, 1, 0, 0, 0, 0), (7, .if_icmp .le 27, 3, 34, 0, 0, 0), (10, .aload_n 0, 1, 0, 0, 0, 0), (11, .getfield 16, 3, 6, 2, 881, 0), (14, .iload_n 1, 1, 0, 0, 0, 0), (15, .iaload, 1, 0, 0, 0, 0), (16, .iconst 4, 1, 0, 0, 0, 0), (17, .if_icmp .eq 17, 3, 34, 0, 0, 0), (20, .aload_n 0, 1, 0, 0, 0, 0), (21, .getfield 28, 3, 6, 6, 885, 0), (24, .iload_n 1, 1, 0, 0, 0, 0), (25, .iaload, 1, 0, 0, 0, 0), (26, .iload_n 2, 1, 0, 0, 0, 0), (27, .if_icmp .ne 7, 3, 34, 0, 0, 0), (30, .iconst 1, 1, 0, 0, 0, 0), (31, .goto 4, 3, 35, 0, 0, 0), (34, .iconst 0, 1, 0, 0, 0, 0), (35, .ireturn, 1, 0, 0, 0, 0)]
def zc_X6_isOnScreen : List zi_Row := zc_X6_isOnScreen_0
def zc_X6_unstack_0 : List zi_Row := [(0, .iconst 0, 1, 0, 0, 0, 0), (1, .istore_n 2, 1, 0, 0, 0, 0), (2, .iconst 0, 1, 0, 0, 0, 0), (3, .istore_n 3, 1, 0, 0, 0, 0), (4, .iload_n 3, 1, 0, 0, 0, 0), (5, .aload_n 0, 1, 0, 0, 0, 0), (6, .getfield 144, 3, 6, 10, 889, 0), (9, .if_icmp .ge 34, 3, 43, 0, 0, 0), (12, .aload_n 0, 1, 0, 0, 0, 0), (13, .getfield 37, 3, 6, 9, 888, 0), (16, .iload_n 3, 1, 0, 0, 0, 0), (17, .iaload, 1, 0, 0, 0, 0), (18, .iload_n 1, 1, 0, 0, 0, 0), (19, .if_icmp .eq 18, 3, 37, 0, 0, 0), (22, .aload_n 0, 1, 0, 0, 0, 0), (23, .getfield 37, 3, 6, 9, 888, 0), (26, .iload_n 2, 1, 0, 0, 0, 0), (27, .aload_n 0, 1, 0, 0, 0, 0), (28, .getfield 37, 3, 6, 9, 888, 0), (31, .iload_n 3, 1, 0, 0, 0, 0), (32, .iaload, 1, 0, 0, 0, 0), (33, .iastore, 1, 0, 0, 0, 0), (34, .iinc 2 1, 3, 0, 0, 0, 0), (37, .iinc 3 1, 3, 0, 0, 0, 0), (40, .goto (-36), 3, 4, 0, 0, 0), (43, .aload_n 0, 1, 0, 0, 0, 0), (44, .iload_n 2, 1, 0, 0, 0, 0), (45, .putfield 144, 3, 6, 10, 889, 0), (48, .return_, 1, 0, 0, 0, 0)]
def zc_X6_unstack : List zi_Row := zc_X6_unstack_0
def zc_X6_raise_0 : List zi_Row := [(0, .aload_n 0, 1, 0, 0, 0, 0), (1, .iload_n 1, 1, 0, 0, 0, 0), (2, .invokevirtual 147, 3, 167, 2, 1124, 6), (5, .ifCond .eq 28, 3, 33, 0, 0, 0), (8, .aload_n 0, 1, 0, 0, 0, 0), (9, .iload_n 1, 1, 0, 0, 0, 0), (10, .invokevirtual 151, 3, 185, 2, 1143, 6), (13, .aload_n 0, 1, 0, 0, 0, 0), (14, .getfield 37, 3, 6, 9, 888, 0), (17, .aload_n 0, 1, 0, 0, 0, 0), (18, .getfield 144, 3, 6, 10, 889, 0), (21, .iload_n 1, 1, 0, 0, 0, 0), (22, .iastore, 1, 0, 0, 0, 0), (23, .aload_n 0, 1, 0, 0, 0, 0), (24, .dup, 1, 0, 0, 0, 0), (25, .getfield 144, 3, 6, 10, 889, 0), (28, .iconst 1, 1, 0, 0, 0, 0), (29, .iadd, 1, 0, 0, 0, 0), (30, .putfield 144, 3, 6, 10, 889, 0), (33, .iconst 0, 1, 0, 0, 0, 0), (34, .istore_n 2, 1, 0, 0, 0, 0), (35, .lconst 0, 1, 0, 0, 0, 0), (36, .lstore_n 3, 1, 0, 0, 0, 0), (37, .iconst 0, 1, 0, 0, 0, 0), (38, .istore 5, 2, 0, 0, 0, 0), (40, .iload 5, 2, 0, 0, 0, 0), (42, .aload_n 0, 1, 0, 0, 0, 0), (43, .getfield 144, 3, 6, 10, 889, 0), (46, .if_icmp .ge 59, 3, 105, 0, 0, 0), (49, .aload_n 0, 1, 0, 0, 0, 0), (50, .getfield 16, 3, 6, 2, 881, 0), (53, .aload_n 0, 1, 0, 0, 0, 0), (54, .getfield 37, 3, 6, 9, 888, 0), (57, .iload 5, 2, 0, 0, 0, 0), (59, .iaload, 1, 0, 0, 0, 0), (60, .iaload, 1, 0, 0, 0, 0), (61, .iconst 3, 1, 0, 0, 0, 0), (62, .if_icmp .ne 37, 3, 99, 0, 0, 0), (65, .aload_n 0, 1, 0, 0, 0, 0), (66, .getfield 25, 3, 6, 5, 884, 0)]
def zc_X6_raise_1 : List zi_Row := [(69, .aload_n 0, 1, 0, 0, 0, 0), (70, .getfield 37, 3, 6, 9, 888, 0), (73, .iload 5, 2, 0, 0, 0, 0), (75, .iaload, 1, 0, 0, 0, 0), (76, .iaload, 1, 0, 0, 0, 0), (77, .iload_n 1, 1, 0, 0, 0, 0), (78, .if_icmp .ne 21, 3, 99, 0, 0, 0), (81, .lload_n 3, 1, 0, 0, 0, 0), (82, .aload_n 0, 1, 0, 0, 0, 0), (83, .getfield 37, 3, 6, 9, 888, 0), (86, .iload 5, 2, 0, 0, 0, 0), (88, .iaload, 1, 0, 0, 0, 0), (89, .i2l, 1, 0, 0, 0, 0), (90, .iconst 4, 1, 0, 0, 0, 0), (91, .iload_n 2, 1, 0, 0, 0, 0), (92, .imul, 1, 0, 0, 0, 0), (93, .lshl, 1, 0, 0, 0, 0), (94, .lor, 1, 0, 0, 0, 0), (95, .lstore_n 3, 1, 0, 0, 0, 0), (96, .iinc 2 1, 3, 0, 0, 0, 0), (99, .iinc 5 1, 3, 0, 0, 0, 0), (102, .goto (-62), 3, 40, 0, 0, 0), (105, .iconst 0, 1, 0, 0, 0, 0), (106, .istore 5, 2, 0, 0, 0, 0), (108, .iload 5, 2, 0, 0, 0, 0), (110, .iload_n 2, 1, 0, 0, 0, 0), (111, .if_icmp .ge 24, 3, 135, 0, 0, 0), (114, .aload_n 0, 1, 0, 0, 0, 0), (115, .lload_n 3, 1, 0, 0, 0, 0), (116, .iconst 4, 1, 0, 0, 0, 0), (117, .iload 5, 2, 0, 0, 0, 0), (119, .imul, 1, 0, 0, 0, 0), (120, .lshr, 1, 0, 0, 0, 0), (121, .ldc2_w 155, 3, 0, 0, 1147, 15), (124, .land, 1, 0, 0, 0, 0), (125, .l2i, 1, 0, 0, 0, 0), (126, .invokevirtual 157, 3, 186, 2, 1139, 6), (129, .iinc 5 1, 3, 0, 0, 0, 0), (132, .goto (-24), 3, 108, 0, 0, 0), (135, .return_, 1, 0, 0, 0, 0)]
def zc_X6_raise : List zi_Row := zc_X6_raise_0 ++ (zc_X6_raise_1)
def zc_X6_front_0 : List zi_Row := [(0, .iload_n 1, 1, 0, 0, 0, 0), (1, .istore_n 2, 1, 0, 0, 0, 0), (2, .iconst 0, 1, 0, 0, 0, 0), (3, .istore_n 3, 1, 0, 0, 0, 0), (4, .iload_n 3, 1, 0, 0, 0, 0), (5, .aload_n 0, 1, 0, 0, 0, 0), (6, .getfield 160, 3, 6, 12, 891, 0), (9, .if_icmp .ge 34, 3, 43, 0, 0, 0), (12, .aload_n 0, 1, 0, 0, 0, 0), (13, .getfield 40, 3, 6, 11, 890, 0), (16, .iload_n 3, 1, 0, 0, 0, 0), (17, .iaload, 1, 0, 0, 0, 0), (18, .istore 4, 2, 0, 0, 0, 0), (20, .aload_n 0, 1, 0, 0, 0, 0), (21, .getfield 40, 3, 6, 11, 890, 0), (24, .iload_n 3, 1, 0, 0, 0, 0), (25, .iload_n 2, 1, 0, 0, 0, 0), (26, .iastore, 1, 0, 0, 0, 0), (27, .iload 4, 2, 0, 0, 0, 0), (29, .istore_n 2, 1, 0, 0, 0, 0), (30, .iload 4, 2, 0, 0, 0, 0), (32, .iload_n 1, 1, 0, 0, 0, 0), (33, .if_icmp .ne 4, 3, 37, 0, 0, 0), (36, .return_, 1, 0, 0, 0, 0), (37, .iinc 3 1, 3, 0, 0, 0, 0), (40, .goto (-36), 3, 4, 0, 0, 0), (43, .aload_n 0, 1, 0, 0, 0, 0), (44, .getfield 40, 3, 6, 11, 890, 0), (47, .aload_n 0, 1, 0, 0, 0, 0), (48, .getfield 160, 3, 6, 12, 891, 0), (51, .iload_n 2, 1, 0, 0, 0, 0), (52, .iastore, 1, 0, 0, 0, 0), (53, .aload_n 0, 1, 0, 0, 0, 0), (54, .dup, 1, 0, 0, 0, 0), (55, .getfield 160, 3, 6, 12, 891, 0), (58, .iconst 1, 1, 0, 0, 0, 0), (59, .iadd, 1, 0, 0, 0, 0), (60, .putfield 160, 3, 6, 12, 891, 0), (63, .return_, 1, 0, 0, 0, 0)]
def zc_X6_front : List zi_Row := zc_X6_front_0
def zc_X6_focused_0 : List zi_Row := [(0, .aload_n 0, 1, 0, 0, 0, 0), (1, .iload_n 1, 1, 0, 0, 0, 0), (2, .invokevirtual 163, 3, 187, 2, 1135, 6), (5, .aload_n 0, 1, 0, 0, 0, 0), (6, .getfield 16, 3, 6, 2, 881, 0), (9, .iload_n 1, 1, 0, 0, 0, 0), (10, .iaload, 1, 0, 0, 0, 0), (11, .iconst 1, 1, 0, 0, 0, 0), (12, .if_icmp .ne 29, 3, 41, 0, 0, 0), (15, .aload_n 0, 1, 0, 0, 0, 0), (16, .getfield 64, 3, 6, 20, 899, 0), (19, .aload_n 0, 1, 0, 0, 0, 0), (20, .getfield 28, 3, 6, 6, 885, 0), (23, .iload_n 1, 1, 0, 0, 0, 0), (24, .iaload, 1, 0, 0, 0, 0), (25, .aload_n 0, 1, 0, 0, 0, 0), (26, .aload_n 0, 1, 0, 0, 0, 0), (27, .getfield 28, 3, 6, 6, 885, 0), (30, .iload_n 1, 1, 0, 0, 0, 0), (31, .iaload, 1, 0, 0, 0, 0), (32, .iload_n 1, 1, 0, 0, 0, 0), (33, .invokevirtual 116, 3, 173, 3, 1030, 6), (36, .invokestatic 105, 3, 70, 2, 991, 0), (39, .iload_n 1, 1, 0, 0, 0, 0), (40, .iastore, 1, 0, 0, 0, 0), (41, .aload_n 0, 1, 0, 0, 0, 0), (42, .iload_n 1, 1, 0, 0, 0, 0), (43, .invokevirtual 157, 3, 186, 2, 1139, 6), (46, .return_, 1, 0, 0, 0, 0)]
def zc_X6_focused : List zi_Row := zc_X6_focused_0
def zc_X6_forget_0 : List zi_Row := [(0, .iconst 0, 1, 0, 0, 0, 0), (1, .istore_n 2, 1, 0, 0, 0, 0), (2, .iload_n 2, 1, 0, 0, 0, 0), (3, .iconst 3, 1, 0, 0, 0, 0), (4, .if_icmp .ge 39, 3, 43, 0, 0, 0), (7, .aload_n 0, 1, 0, 0, 0, 0), (8, .getfield 67, 3, 6, 21, 900, 0), (11, .iload_n 2, 1, 0, 0, 0, 0), (12, .baload, 1, 0, 0, 0, 0), (13, .ifCond .eq 24, 3, 37, 0, 0, 0), (16, .aload_n 0, 1, 0, 0, 0, 0), (17, .getfield 71, 3, 6, 22, 901, 0), (20, .bipush 10, 2, 0, 0, 0, 0), (22, .iload_n 2, 1, 0, 0, 0, 0), (23, .imul, 1, 0, 0, 0, 0), (24, .iload_n 1, 1, 0, 0, 0, 0), (25, .iadd, 1, 0, 0, 0, 0), (26, .baload, 1, 0, 0, 0, 0), (27, .ifCond .eq 10, 3, 37, 0, 0, 0), (30, .aload_n 0, 1, 0, 0, 0, 0), (31, .getfield 67, 3, 6, 21, 900, 0), (34, .iload_n 2, 1, 0, 0, 0, 0), (35, .iconst 0, 1, 0, 0, 0, 0), (36, .bastore, 1, 0, 0, 0, 0), (37, .iinc 2 1, 3, 0, 0, 0, 0), (40, .goto (-38), 3, 2, 0, 0, 0), (43, .return_, 1, 0, 0, 0, 0)]
def zc_X6_forget : List zi_Row := zc_X6_forget_0
def zc_X6_spread_0 : List zi_Row := [(0, .iconst 0, 1, 0, 0, 0, 0), (1, .istore_n 1, 1, 0, 0, 0, 0), (2, .iload_n 1, 1, 0, 0, 0, 0), (3, .bipush 10, 2, 0, 0, 0, 0), (5, .if_icmp .ge 67, 3, 72, 0, 0, 0), (8, .iconst 0, 1, 0, 0, 0, 0), (9, .istore_n 2, 1, 0, 0, 0, 0), (10, .iload_n 2, 1, 0, 0, 0, 0), (11, .bipush 10, 2, 0, 0, 0, 0), (13, .if_icmp .ge 53, 3, 66, 0, 0, 0), (16, .aload_n 0, 1, 0, 0, 0, 0), (17, .getfield 95, 3, 6, 31, 910, 0), (20, .iload_n 2, 1, 0, 0, 0, 0), (21, .aload_n 0, 1, 0, 0, 0, 0), (22, .getfield 95, 3, 6, 31, 910, 0), (25, .iload_n 2, 1, 0, 0, 0, 0), (26, .baload, 1, 0, 0, 0, 0), (27, .ifCond .ne 27, 3, 54, 0, 0, 0), (30, .aload_n 0, 1, 0, 0, 0, 0), (31, .getfield 16, 3, 6, 2, 881, 0), (34, .iload_n 2, 1, 0, 0, 0, 0), (35, .iaload, 1, 0, 0, 0, 0), (36, .iconst 3, 1, 0, 0, 0, 0), (37, .if_icmp .ne 21, 3, 58, 0, 0, 0), (40, .aload_n 0, 1, 0, 0, 0, 0), (41, .getfield 95, 3, 6, 31, 910, 0), (44, .aload_n 0, 1, 0, 0, 0, 0), (45, .getfield 25, 3, 6, 5, 884, 0), (48, .iload_n 2, 1, 0, 0, 0, 0), (49, .iaload, 1, 0, 0, 0, 0), (50, .baload, 1, 0, 0, 0, 0), (51, .ifCond .eq 7, 3, 58, 0, 0, 0), (54, .iconst 1, 1, 0, 0, 0, 0), (55, .goto 4, 3, 59, 0, 0, 0), (58, .iconst 0, 1, 0, 0, 0, 0), (59, .bastore, 1, 0, 0, 0, 0), (60, .iinc 2 1, 3, 0, 0, 0, 0), (63, .goto (-53), 3, 10, 0, 0, 0), (66, .iinc 1 1, 3, 0, 0, 0, 0), (69, .goto (-67), 3, 2, 0, 0, 0)]
def zc_X6_spread_1 : List zi_Row := [(72, .return_, 1, 0, 0, 0, 0)]
def zc_X6_spread : List zi_Row := zc_X6_spread_0 ++ (zc_X6_spread_1)
def zc_X6_comesBack_0 : List zi_Row := [(0, .iconst 0, 1, 0, 0, 0, 0), (1, .istore_n 2, 1, 0, 0, 0, 0), (2, .iload_n 2, 1, 0, 0, 0, 0), (3, .bipush 10, 2, 0, 0, 0, 0), (5, .if_icmp .ge 26, 3, 31, 0, 0, 0), (8, .aload_n 0, 1, 0, 0, 0, 0), (9, .getfield 95, 3, 6, 31, 910, 0), (12, .iload_n 2, 1, 0, 0, 0, 0), (13, .aload_n 0, 1, 0, 0, 0, 0), (14, .getfield 71, 3, 6, 22, 901, 0), (17, .bipush 10, 2, 0, 0, 0, 0), (19, .iload_n 1, 1, 0, 0, 0, 0), (20, .imul, 1, 0, 0, 0, 0), (21, .iload_n 2, 1, 0, 0, 0, 0), (22, .iadd, 1, 0, 0, 0, 0), (23, .baload, 1, 0, 0, 0, 0), (24, .bastore, 1, 0, 0, 0, 0), (25, .iinc 2 1, 3, 0, 0, 0, 0), (28, .goto (-26), 3, 2, 0, 0, 0), (31, .aload_n 0, 1, 0, 0, 0, 0), (32, .invokevirtual 191, 3, 190, 1, 998, 6), (35, .aload_n 0, 1, 0, 0, 0, 0), (36, .iconst 3, 1, 0, 0, 0, 0), (37, .iload_n 1, 1, 0, 0, 0, 0), (38, .iadd, 1, 0, 0, 0, 0), (39, .aload_n 0, 1, 0, 0, 0, 0), (40, .getfield 7, 3, 6, 0, 879, 0), (43, .iload_n 1, 1, 0, 0, 0, 0), (44, .iaload, 1, 0, 0, 0, 0), (45, .aload_n 0, 1, 0, 0, 0, 0), (46, .getfield 13, 3, 6, 1, 880, 0), (49, .iload_n 1, 1, 0, 0, 0, 0), (50, .iaload, 1, 0, 0, 0, 0), (51, .invokevirtual 177, 3, 179, 4, 1002, 6), (54, .istore_n 2, 1, 0, 0, 0, 0), (55, .iconst 0, 1, 0, 0, 0, 0), (56, .istore_n 3, 1, 0, 0, 0, 0), (57, .iload_n 3, 1, 0, 0, 0, 0), (58, .bipush 10, 2, 0, 0, 0, 0), (60, .if_icmp .ge 58, 3, 118, 0, 0, 0)]
def zc_X6_comesBack_1 : List zi_Row := [(63, .iload_n 2, 1, 0, 0, 0, 0), (64, .ifCond .eq 46, 3, 110, 0, 0, 0), (67, .aload_n 0, 1, 0, 0, 0, 0), (68, .getfield 95, 3, 6, 31, 910, 0), (71, .iload_n 3, 1, 0, 0, 0, 0), (72, .baload, 1, 0, 0, 0, 0), (73, .ifCond .eq 33, 3, 106, 0, 0, 0), (76, .aload_n 0, 1, 0, 0, 0, 0), (77, .getfield 16, 3, 6, 2, 881, 0), (80, .iload_n 3, 1, 0, 0, 0, 0), (81, .iaload, 1, 0, 0, 0, 0), (82, .iconst 1, 1, 0, 0, 0, 0), (83, .if_icmp .eq 23, 3, 106, 0, 0, 0), (86, .aload_n 0, 1, 0, 0, 0, 0), (87, .iload_n 3, 1, 0, 0, 0, 0), (88, .aload_n 0, 1, 0, 0, 0, 0), (89, .getfield 7, 3, 6, 0, 879, 0), (92, .iload_n 1, 1, 0, 0, 0, 0), (93, .iaload, 1, 0, 0, 0, 0), (94, .aload_n 0, 1, 0, 0, 0, 0), (95, .getfield 13, 3, 6, 1, 880, 0), (98, .iload_n 1, 1, 0, 0, 0, 0), (99, .iaload, 1, 0, 0, 0, 0), (100, .invokevirtual 184, 3, 182, 4, 1010, 6), (103, .ifCond .eq 7, 3, 110, 0, 0, 0), (106, .iconst 1, 1, 0, 0, 0, 0), (107, .goto 4, 3, 111, 0, 0, 0), (110, .iconst 0, 1, 0, 0, 0, 0), (111, .istore_n 2, 1, 0, 0, 0, 0), (112, .iinc 3 1, 3, 0, 0, 0, 0), (115, .goto (-58), 3, 57, 0, 0, 0), (118, .iload_n 2, 1, 0, 0, 0, 0), (119, .ireturn, 1, 0, 0, 0, 0)]
def zc_X6_comesBack : List zi_Row := zc_X6_comesBack_0 ++ (zc_X6_comesBack_1)
def zc_X6_bring_0 : List zi_Row := [(0, .iconst 0, 1, 0, 0, 0, 0), (1, .istore_n 2, 1, 0, 0, 0, 0), (2, .aload_n 0, 1, 0, 0, 0, 0), (3, .iconst 3, 1, 0, 0, 0, 0), (4, .iload_n 1, 1, 0, 0, 0, 0), (5, .iadd, 1, 0, 0, 0, 0), (6, .invokevirtual 194, 3, 193, 2, 1018, 6), (9, .iconst 0, 1, 0, 0, 0, 0), (10, .istore_n 3, 1, 0, 0, 0, 0), (11, .iload_n 3, 1, 0, 0, 0, 0), (12, .aload_n 0, 1, 0, 0, 0, 0), (13, .getfield 133, 3, 6, 30, 909, 0), (16, .if_icmp .ge 80, 3, 96, 0, 0, 0), (19, .iconst 3, 1, 0, 0, 0, 0), (20, .iload_n 1, 1, 0, 0, 0, 0), (21, .iadd, 1, 0, 0, 0, 0), (22, .aload_n 0, 1, 0, 0, 0, 0), (23, .getfield 92, 3, 6, 29, 908, 0), (26, .iload_n 3, 1, 0, 0, 0, 0), (27, .iaload, 1, 0, 0, 0, 0), (28, .invokestatic 105, 3, 70, 2, 991, 0), (31, .istore 4, 2, 0, 0, 0, 0), (33, .iconst 0, 1, 0, 0, 0, 0), (34, .istore 5, 2, 0, 0, 0, 0), (36, .iload 5, 2, 0, 0, 0, 0), (38, .aload_n 0, 1, 0, 0, 0, 0), (39, .getfield 61, 3, 6, 19, 898, 0), (42, .iload 4, 2, 0, 0, 0, 0), (44, .iaload, 1, 0, 0, 0, 0), (45, .if_icmp .ge 45, 3, 90, 0, 0, 0), (48, .aload_n 0, 1, 0, 0, 0, 0), (49, .getfield 58, 3, 6, 18, 897, 0), (52, .bipush 10, 2, 0, 0, 0, 0), (54, .iload 4, 2, 0, 0, 0, 0), (56, .imul, 1, 0, 0, 0, 0), (57, .iload 5, 2, 0, 0, 0, 0), (59, .iadd, 1, 0, 0, 0, 0), (60, .iaload, 1, 0, 0, 0, 0), (61, .istore 6, 2, 0, 0, 0, 0), (63, .aload_n 0, 1, 0, 0, 0, 0)]
def zc_X6_bring_1 : List zi_Row := [(64, .aload_n 0, 1, 0, 0, 0, 0), (65, .getfield 28, 3, 6, 6, 885, 0), (68, .iload 6, 2, 0, 0, 0, 0), (70, .iaload, 1, 0, 0, 0, 0), (71, .iload 6, 2, 0, 0, 0, 0), (73, .invokevirtual 197, 3, 176, 3, 1026, 6), (76, .aload_n 0, 1, 0, 0, 0, 0), (77, .getfield 28, 3, 6, 6, 885, 0), (80, .iload 6, 2, 0, 0, 0, 0), (82, .iload_n 1, 1, 0, 0, 0, 0), (83, .iastore, 1, 0, 0, 0, 0), (84, .iinc 5 1, 3, 0, 0, 0, 0), (87, .goto (-51), 3, 36, 0, 0, 0), (90, .iinc 3 1, 3, 0, 0, 0, 0), (93, .goto (-82), 3, 11, 0, 0, 0), (96, .aload_n 0, 1, 0, 0, 0, 0), (97, .iconst 3, 1, 0, 0, 0, 0), (98, .iload_n 1, 1, 0, 0, 0, 0), (99, .iadd, 1, 0, 0, 0, 0), (100, .iload_n 1, 1, 0, 0, 0, 0), (101, .invokevirtual 201, 3, 168, 3, 1046, 6), (104, .iconst 0, 1, 0, 0, 0, 0), (105, .istore_n 3, 1, 0, 0, 0, 0), (106, .iload_n 3, 1, 0, 0, 0, 0), (107, .bipush 10, 2, 0, 0, 0, 0), (109, .if_icmp .ge 154, 3, 263, 0, 0, 0), (112, .aload_n 0, 1, 0, 0, 0, 0), (113, .getfield 95, 3, 6, 31, 910, 0), (116, .iload_n 3, 1, 0, 0, 0, 0), (117, .baload, 1, 0, 0, 0, 0), (118, .ifCond .eq 139, 3, 257, 0, 0, 0), (121, .iinc 2 1, 3, 0, 0, 0, 0), (124, .aload_n 0, 1, 0, 0, 0, 0), (125, .getfield 16, 3, 6, 2, 881, 0), (128, .iload_n 3, 1, 0, 0, 0, 0), (129, .iaload, 1, 0, 0, 0, 0), (130, .iconst 1, 1, 0, 0, 0, 0), (131, .if_icmp .eq 72, 3, 203, 0, 0, 0), (134, .aload_n 0, 1, 0, 0, 0, 0), (135, .getfield 71, 3, 6, 22, 901, 0)]
def zc_X6_bring_2 : List zi_Row := [(138, .bipush 10, 2, 0, 0, 0, 0), (140, .iload_n 1, 1, 0, 0, 0, 0), (141, .imul, 1, 0, 0, 0, 0), (142, .iload_n 3, 1, 0, 0, 0, 0), (143, .iadd, 1, 0, 0, 0, 0), (144, .baload, 1, 0, 0, 0, 0), (145, .istore 4, 2, 0, 0, 0, 0), (147, .aload_n 0, 1, 0, 0, 0, 0), (148, .iload_n 3, 1, 0, 0, 0, 0), (149, .iload_n 1, 1, 0, 0, 0, 0), (150, .iload 4, 2, 0, 0, 0, 0), (152, .ifCond .eq 17, 3, 169, 0, 0, 0), (155, .aload_n 0, 1, 0, 0, 0, 0), (156, .getfield 74, 3, 6, 23, 902, 0), (159, .bipush 10, 2, 0, 0, 0, 0), (161, .iload_n 1, 1, 0, 0, 0, 0), (162, .imul, 1, 0, 0, 0, 0), (163, .iload_n 3, 1, 0, 0, 0, 0), (164, .iadd, 1, 0, 0, 0, 0), (165, .iaload, 1, 0, 0, 0, 0), (166, .goto 9, 3, 175, 0, 0, 0), (169, .aload_n 0, 1, 0, 0, 0, 0), (170, .getfield 31, 3, 6, 7, 886, 0), (173, .iload_n 3, 1, 0, 0, 0, 0), (174, .iaload, 1, 0, 0, 0, 0), (175, .iload 4, 2, 0, 0, 0, 0), (177, .ifCond .eq 17, 3, 194, 0, 0, 0), (180, .aload_n 0, 1, 0, 0, 0, 0), (181, .getfield 77, 3, 6, 24, 903, 0), (184, .bipush 10, 2, 0, 0, 0, 0), (186, .iload_n 1, 1, 0, 0, 0, 0), (187, .imul, 1, 0, 0, 0, 0), (188, .iload_n 3, 1, 0, 0, 0, 0), (189, .iadd, 1, 0, 0, 0, 0), (190, .iaload, 1, 0, 0, 0, 0), (191, .goto 9, 3, 200, 0, 0, 0), (194, .aload_n 0, 1, 0, 0, 0, 0), (195, .getfield 34, 3, 6, 8, 887, 0), (198, .iload_n 3, 1, 0, 0, 0, 0), (199, .iaload, 1, 0, 0, 0, 0)]
def zc_X6_bring_3 : List zi_Row := [(200, .invokevirtual 188, 3, 183, 5, 1050, 6), (203, .iconst 0, 1, 0, 0, 0, 0), (204, .istore 4, 2, 0, 0, 0, 0), (206, .iload 4, 2, 0, 0, 0, 0), (208, .iconst 3, 1, 0, 0, 0, 0), (209, .if_icmp .ge 48, 3, 257, 0, 0, 0), (212, .iload 4, 2, 0, 0, 0, 0), (214, .iload_n 1, 1, 0, 0, 0, 0), (215, .if_icmp .eq 36, 3, 251, 0, 0, 0), (218, .aload_n 0, 1, 0, 0, 0, 0), (219, .getfield 67, 3, 6, 21, 900, 0), (222, .iload 4, 2, 0, 0, 0, 0), (224, .baload, 1, 0, 0, 0, 0), (225, .ifCond .eq 26, 3, 251, 0, 0, 0), (228, .aload_n 0, 1, 0, 0, 0, 0), (229, .getfield 71, 3, 6, 22, 901, 0), (232, .bipush 10, 2, 0, 0, 0, 0), (234, .iload 4, 2, 0, 0, 0, 0), (236, .imul, 1, 0, 0, 0, 0), (237, .iload_n 3, 1, 0, 0, 0, 0), (238, .iadd, 1, 0, 0, 0, 0), (239, .baload, 1, 0, 0, 0, 0), (240, .ifCond .eq 11, 3, 251, 0, 0, 0), (243, .aload_n 0, 1, 0, 0, 0, 0), (244, .getfield 67, 3, 6, 21, 900, 0), (247, .iload 4, 2, 0, 0, 0, 0), (249, .iconst 0, 1, 0, 0, 0, 0), (250, .bastore, 1, 0, 0, 0, 0), (251, .iinc 4 1, 3, 0, 0, 0, 0), (254, .goto (-48), 3, 206, 0, 0, 0), (257, .iinc 3 1, 3, 0, 0, 0, 0), (260, .goto (-154), 3, 106, 0, 0, 0), (263, .iload_n 2, 1, 0, 0, 0, 0), (264, .ireturn, 1, 0, 0, 0, 0)]
def zc_X6_bring : List zi_Row := zc_X6_bring_0 ++ (zc_X6_bring_1 ++ (zc_X6_bring_2 ++ (zc_X6_bring_3)))
def zc_X6_clearLeaves_0 : List zi_Row := [(0, .aload_n 0, 1, 0, 0, 0, 0), (1, .iconst 0, 1, 0, 0, 0, 0), (2, .putfield 133, 3, 6, 30, 909, 0), (5, .aload_n 0, 1, 0, 0, 0, 0), (6, .getfield 43, 3, 6, 13, 892, 0), (9, .iload_n 1, 1, 0, 0, 0, 0), (10, .iaload, 1, 0, 0, 0, 0), (11, .ifCond .lt 14, 3, 25, 0, 0, 0), (14, .aload_n 0, 1, 0, 0, 0, 0), (15, .iload_n 1, 1, 0, 0, 0, 0), (16, .aload_n 0, 1, 0, 0, 0, 0), (17, .getfield 43, 3, 6, 13, 892, 0), (20, .iload_n 1, 1, 0, 0, 0, 0), (21, .iaload, 1, 0, 0, 0, 0), (22, .invokevirtual 204, 3, 194, 3, 1022, 6), (25, .return_, 1, 0, 0, 0, 0)]
def zc_X6_clearLeaves : List zi_Row := zc_X6_clearLeaves_0
def zc_X6_findLeaves_0 : List zi_Row := [(0, .aload_n 0, 1, 0, 0, 0, 0), (1, .getfield 46, 3, 6, 14, 893, 0), (4, .iload_n 1, 1, 0, 0, 0, 0), (5, .iload_n 2, 1, 0, 0, 0, 0), (6, .invokestatic 105, 3, 70, 2, 991, 0), (9, .iaload, 1, 0, 0, 0, 0), (10, .iconst 1, 1, 0, 0, 0, 0), (11, .if_icmp .ne 26, 3, 37, 0, 0, 0), (14, .aload_n 0, 1, 0, 0, 0, 0), (15, .getfield 92, 3, 6, 29, 908, 0), (18, .aload_n 0, 1, 0, 0, 0, 0), (19, .getfield 133, 3, 6, 30, 909, 0), (22, .iload_n 2, 1, 0, 0, 0, 0), (23, .iastore, 1, 0, 0, 0, 0), (24, .aload_n 0, 1, 0, 0, 0, 0), (25, .dup, 1, 0, 0, 0, 0), (26, .getfield 133, 3, 6, 30, 909, 0), (29, .iconst 1, 1, 0, 0, 0, 0), (30, .iadd, 1, 0, 0, 0, 0), (31, .putfield 133, 3, 6, 30, 909, 0), (34, .goto 33, 3, 67, 0, 0, 0), (37, .aload_n 0, 1, 0, 0, 0, 0), (38, .iload_n 1, 1, 0, 0, 0, 0), (39, .aload_n 0, 1, 0, 0, 0, 0), (40, .getfield 49, 3, 6, 15, 894, 0), (43, .iload_n 1, 1, 0, 0, 0, 0), (44, .iload_n 2, 1, 0, 0, 0, 0), (45, .invokestatic 105, 3, 70, 2, 991, 0), (48, .iaload, 1, 0, 0, 0, 0), (49, .invokevirtual 204, 3, 194, 3, 1022, 6), (52, .aload_n 0, 1, 0, 0, 0, 0), (53, .iload_n 1, 1, 0, 0, 0, 0), (54, .aload_n 0, 1, 0, 0, 0, 0), (55, .getfield 52, 3, 6, 16, 895, 0), (58, .iload_n 1, 1, 0, 0, 0, 0), (59, .iload_n 2, 1, 0, 0, 0, 0), (60, .invokestatic 105, 3, 70, 2, 991, 0), (63, .iaload, 1, 0, 0, 0, 0), (64, .invokevirtual 204, 3, 194, 3, 1022, 6), (67, .return_, 1, 0, 0, 0, 0)]
def zc_X6_findLeaves : List zi_Row := zc_X6_findLeaves_0
def zc_X6_moveTabs_0 : List zi_Row := [(0, .aload_n 0, 1, 0, 0, 0, 0), (1, .iload_n 2, 1, 0, 0, 0, 0), (2, .invokevirtual 194, 3, 193, 2, 1018, 6), (5, .aload_n 0, 1, 0, 0, 0, 0), (6, .getfield 133, 3, 6, 30, 909, 0), (9, .ifCond .le 12, 3, 21, 0, 0, 0), (12, .aload_n 0, 1, 0, 0, 0, 0), (13, .getfield 92, 3, 6, 29, 908, 0), (16, .iconst 0, 1, 0, 0, 0, 0), (17, .iaload, 1, 0, 0, 0, 0), (18, .goto 4, 3, 22, 0, 0, 0), (21, .iconst (-1), 1, 0, 0, 0, 0), (22, .istore_n 3, 1, 0, 0, 0, 0), (23, .aload_n 0, 1, 0, 0, 0, 0), (24, .iload_n 1, 1, 0, 0, 0, 0), (25, .invokevirtual 194, 3, 193, 2, 1018, 6), (28, .iconst 0, 1, 0, 0, 0, 0), (29, .istore 4, 2, 0, 0, 0, 0), (31, .iconst 0, 1, 0, 0, 0, 0), (32, .istore 5, 2, 0, 0, 0, 0), (34, .iload 5, 2, 0, 0, 0, 0), (36, .aload_n 0, 1, 0, 0, 0, 0), (37, .getfield 133, 3, 6, 30, 909, 0), (40, .if_icmp .ge 91, 3, 131, 0, 0, 0), (43, .iload_n 1, 1, 0, 0, 0, 0), (44, .aload_n 0, 1, 0, 0, 0, 0), (45, .getfield 92, 3, 6, 29, 908, 0), (48, .iload 5, 2, 0, 0, 0, 0), (50, .iaload, 1, 0, 0, 0, 0), (51, .invokestatic 105, 3, 70, 2, 991, 0), (54, .istore 6, 2, 0, 0, 0, 0), (56, .iconst 0, 1, 0, 0, 0, 0), (57, .istore 7, 2, 0, 0, 0, 0), (59, .iload 7, 2, 0, 0, 0, 0), (61, .aload_n 0, 1, 0, 0, 0, 0), (62, .getfield 61, 3, 6, 19, 898, 0), (65, .iload 6, 2, 0, 0, 0, 0), (67, .iaload, 1, 0, 0, 0, 0), (68, .if_icmp .ge 57, 3, 125, 0, 0, 0), (71, .aload_n 0, 1, 0, 0, 0, 0)]
def zc_X6_moveTabs_1 : List zi_Row := [(72, .getfield 58, 3, 6, 18, 897, 0), (75, .bipush 10, 2, 0, 0, 0, 0), (77, .iload 6, 2, 0, 0, 0, 0), (79, .imul, 1, 0, 0, 0, 0), (80, .iload 7, 2, 0, 0, 0, 0), (82, .iadd, 1, 0, 0, 0, 0), (83, .iaload, 1, 0, 0, 0, 0), (84, .istore 8, 2, 0, 0, 0, 0), (86, .iload_n 3, 1, 0, 0, 0, 0), (87, .ifCond .ge 21, 3, 108, 0, 0, 0), (90, .aload_n 0, 1, 0, 0, 0, 0), (91, .iload_n 2, 1, 0, 0, 0, 0), (92, .iload 8, 2, 0, 0, 0, 0), (94, .invokevirtual 126, 3, 170, 3, 1070, 6), (97, .istore_n 3, 1, 0, 0, 0, 0), (98, .aload_n 0, 1, 0, 0, 0, 0), (99, .getfield 43, 3, 6, 13, 892, 0), (102, .iload_n 2, 1, 0, 0, 0, 0), (103, .iload_n 3, 1, 0, 0, 0, 0), (104, .iastore, 1, 0, 0, 0, 0), (105, .goto 11, 3, 116, 0, 0, 0), (108, .aload_n 0, 1, 0, 0, 0, 0), (109, .iload_n 2, 1, 0, 0, 0, 0), (110, .iload_n 3, 1, 0, 0, 0, 0), (111, .iload 8, 2, 0, 0, 0, 0), (113, .invokevirtual 210, 3, 171, 4, 1078, 6), (116, .iinc 4 1, 3, 0, 0, 0, 0), (119, .iinc 7 1, 3, 0, 0, 0, 0), (122, .goto (-63), 3, 59, 0, 0, 0), (125, .iinc 5 1, 3, 0, 0, 0, 0), (128, .goto (-94), 3, 34, 0, 0, 0), (131, .iload 4, 2, 0, 0, 0, 0), (133, .ireturn, 1, 0, 0, 0, 0)]
def zc_X6_moveTabs : List zi_Row := zc_X6_moveTabs_0 ++ (zc_X6_moveTabs_1)
def zc_X6_tile_0 : List zi_Row := [(0, .iconst (-1), 1, 0, 0, 0, 0), (1, .istore_n 3, 1, 0, 0, 0, 0), (2, .aload_n 0, 1, 0, 0, 0, 0), (3, .getfield 160, 3, 6, 12, 891, 0), (6, .iconst 1, 1, 0, 0, 0, 0), (7, .isub, 1, 0, 0, 0, 0), (8, .istore 4, 2, 0, 0, 0, 0), (10, .iload 4, 2, 0, 0, 0, 0), (12, .ifCond .lt 58, 3, 70, 0, 0, 0), (15, .aload_n 0, 1, 0, 0, 0, 0), (16, .getfield 16, 3, 6, 2, 881, 0), (19, .aload_n 0, 1, 0, 0, 0, 0), (20, .getfield 40, 3, 6, 11, 890, 0), (23, .iload 4, 2, 0, 0, 0, 0), (25, .iaload, 1, 0, 0, 0, 0), (26, .iaload, 1, 0, 0, 0, 0), (27, .iconst 1, 1, 0, 0, 0, 0), (28, .if_icmp .ne 34, 3, 62, 0, 0, 0), (31, .aload_n 0, 1, 0, 0, 0, 0), (32, .getfield 28, 3, 6, 6, 885, 0), (35, .aload_n 0, 1, 0, 0, 0, 0), (36, .getfield 40, 3, 6, 11, 890, 0), (39, .iload 4, 2, 0, 0, 0, 0), (41, .iaload, 1, 0, 0, 0, 0), (42, .iaload, 1, 0, 0, 0, 0), (43, .iload_n 2, 1, 0, 0, 0, 0), (44, .if_icmp .ne 18, 3, 62, 0, 0, 0), (47, .aload_n 0, 1, 0, 0, 0, 0), (48, .iload_n 2, 1, 0, 0, 0, 0), (49, .aload_n 0, 1, 0, 0, 0, 0), (50, .getfield 40, 3, 6, 11, 890, 0), (53, .iload 4, 2, 0, 0, 0, 0), (55, .iaload, 1, 0, 0, 0, 0), (56, .invokevirtual 116, 3, 173, 3, 1030, 6), (59, .goto 4, 3, 63, 0, 0, 0), (62, .iload_n 3, 1, 0, 0, 0, 0), (63, .istore_n 3, 1, 0, 0, 0, 0), (64, .iinc 4 (-1), 3, 0, 0, 0, 0), (67, .goto (-57), 3, 10, 0, 0, 0), (70, .iload_n 3, 1, 0, 0, 0, 0)]
def zc_X6_tile_1 : List zi_Row := [(71, .ifCond .ge 29, 3, 100, 0, 0, 0), (74, .aload_n 0, 1, 0, 0, 0, 0), (75, .bipush 6, 2, 0, 0, 0, 0), (77, .invokevirtual 167, 3, 71, 2, 987, 6), (80, .aload_n 0, 1, 0, 0, 0, 0), (81, .getfield 43, 3, 6, 13, 892, 0), (84, .bipush 6, 2, 0, 0, 0, 0), (86, .aload_n 0, 1, 0, 0, 0, 0), (87, .bipush 6, 2, 0, 0, 0, 0), (89, .iload_n 1, 1, 0, 0, 0, 0), (90, .invokevirtual 126, 3, 170, 3, 1070, 6), (93, .iastore, 1, 0, 0, 0, 0), (94, .aload_n 0, 1, 0, 0, 0, 0), (95, .iload_n 2, 1, 0, 0, 0, 0), (96, .invokevirtual 237, 3, 197, 2, 1103, 6), (99, .ireturn, 1, 0, 0, 0, 0), (100, .aload_n 0, 1, 0, 0, 0, 0), (101, .iload_n 2, 1, 0, 0, 0, 0), (102, .invokevirtual 240, 3, 181, 2, 1107, 6), (105, .aload_n 0, 1, 0, 0, 0, 0), (106, .getfield 86, 3, 6, 27, 906, 0), (109, .iload_n 3, 1, 0, 0, 0, 0), (110, .iaload, 1, 0, 0, 0, 0), (111, .aload_n 0, 1, 0, 0, 0, 0), (112, .getfield 89, 3, 6, 28, 907, 0), (115, .iload_n 3, 1, 0, 0, 0, 0), (116, .iaload, 1, 0, 0, 0, 0), (117, .if_icmp .lt 7, 3, 124, 0, 0, 0), (120, .iconst 1, 1, 0, 0, 0, 0), (121, .goto 4, 3, 125, 0, 0, 0), (124, .iconst 0, 1, 0, 0, 0, 0), (125, .istore 4, 2, 0, 0, 0, 0), (127, .iconst 0, 1, 0, 0, 0, 0), (128, .istore 5, 2, 0, 0, 0, 0), (130, .iload 5, 2, 0, 0, 0, 0), (132, .iconst 3, 1, 0, 0, 0, 0), (133, .if_icmp .ge 72, 3, 205, 0, 0, 0), (136, .aload_n 0, 1, 0, 0, 0, 0), (137, .iload_n 2, 1, 0, 0, 0, 0), (138, .bipush 6, 2, 0, 0, 0, 0)]
def zc_X6_tile_2 : List zi_Row := [(140, .invokevirtual 201, 3, 168, 3, 1046, 6), (143, .iload 5, 2, 0, 0, 0, 0), (145, .iconst 2, 1, 0, 0, 0, 0), (146, .if_icmp .ge 35, 3, 181, 0, 0, 0), (149, .aload_n 0, 1, 0, 0, 0, 0), (150, .bipush 6, 2, 0, 0, 0, 0), (152, .iload_n 3, 1, 0, 0, 0, 0), (153, .iload 4, 2, 0, 0, 0, 0), (155, .iload 5, 2, 0, 0, 0, 0), (157, .ifCond .ne 7, 3, 164, 0, 0, 0), (160, .iconst 1, 1, 0, 0, 0, 0), (161, .goto 4, 3, 165, 0, 0, 0), (164, .iconst 0, 1, 0, 0, 0, 0), (165, .if_icmp .ne 7, 3, 172, 0, 0, 0), (168, .iconst 2, 1, 0, 0, 0, 0), (169, .goto 4, 3, 173, 0, 0, 0), (172, .iconst 3, 1, 0, 0, 0, 0), (173, .iload_n 1, 1, 0, 0, 0, 0), (174, .iconst 0, 1, 0, 0, 0, 0), (175, .invokevirtual 243, 3, 177, 6, 1115, 6), (178, .goto 11, 3, 189, 0, 0, 0), (181, .aload_n 0, 1, 0, 0, 0, 0), (182, .bipush 6, 2, 0, 0, 0, 0), (184, .iload_n 3, 1, 0, 0, 0, 0), (185, .iload_n 1, 1, 0, 0, 0, 0), (186, .invokevirtual 210, 3, 171, 4, 1078, 6), (189, .aload_n 0, 1, 0, 0, 0, 0), (190, .iload_n 2, 1, 0, 0, 0, 0), (191, .invokevirtual 237, 3, 197, 2, 1103, 6), (194, .ifCond .eq 5, 3, 199, 0, 0, 0), (197, .iconst 1, 1, 0, 0, 0, 0), (198, .ireturn, 1, 0, 0, 0, 0), (199, .iinc 5 1, 3, 0, 0, 0, 0), (202, .goto (-72), 3, 130, 0, 0, 0), (205, .iconst 0, 1, 0, 0, 0, 0), (206, .ireturn, 1, 0, 0, 0, 0)]
def zc_X6_tile : List zi_Row := zc_X6_tile_0 ++ (zc_X6_tile_1 ++ (zc_X6_tile_2))
def zc_X6_takesTrial_0 : List zi_Row := [(0, .aload_n 0, 1, 0, 0, 0, 0), (1, .bipush 6, 2, 0, 0, 0, 0), (3, .aload_n 0, 1, 0, 0, 0, 0), (4, .getfield 7, 3, 6, 0, 879, 0), (7, .iload_n 1, 1, 0, 0, 0, 0), (8, .iaload, 1, 0, 0, 0, 0), (9, .aload_n 0, 1, 0, 0, 0, 0), (10, .getfield 13, 3, 6, 1, 880, 0), (13, .iload_n 1, 1, 0, 0, 0, 0), (14, .iaload, 1, 0, 0, 0, 0), (15, .invokevirtual 177, 3, 179, 4, 1002, 6), (18, .ifCond .ne 5, 3, 23, 0, 0, 0), (21, .iconst 0, 1, 0, 0, 0, 0), (22, .ireturn, 1, 0, 0, 0, 0), (23, .aload_n 0, 1, 0, 0, 0, 0), (24, .bipush 6, 2, 0, 0, 0, 0), (26, .iload_n 1, 1, 0, 0, 0, 0), (27, .invokevirtual 201, 3, 168, 3, 1046, 6), (30, .iconst 1, 1, 0, 0, 0, 0), (31, .ireturn, 1, 0, 0, 0, 0)]
def zc_X6_takesTrial : List zi_Row := zc_X6_takesTrial_0
def zc_X6_closed_0 : List zi_Row := [(0, .aload_n 0, 1, 0, 0, 0, 0), (1, .iload_n 1, 1, 0, 0, 0, 0), (2, .invokevirtual 247, 3, 189, 2, 1156, 6), (5, .aload_n 0, 1, 0, 0, 0, 0), (6, .getfield 16, 3, 6, 2, 881, 0), (9, .iload_n 1, 1, 0, 0, 0, 0), (10, .iaload, 1, 0, 0, 0, 0), (11, .iconst 1, 1, 0, 0, 0, 0), (12, .if_icmp .ne 17, 3, 29, 0, 0, 0), (15, .aload_n 0, 1, 0, 0, 0, 0), (16, .aload_n 0, 1, 0, 0, 0, 0), (17, .getfield 28, 3, 6, 6, 885, 0), (20, .iload_n 1, 1, 0, 0, 0, 0), (21, .iaload, 1, 0, 0, 0, 0), (22, .iload_n 1, 1, 0, 0, 0, 0), (23, .invokevirtual 197, 3, 176, 3, 1026, 6), (26, .goto 8, 3, 34, 0, 0, 0), (29, .aload_n 0, 1, 0, 0, 0, 0), (30, .iload_n 1, 1, 0, 0, 0, 0), (31, .invokevirtual 151, 3, 185, 2, 1143, 6), (34, .iconst 0, 1, 0, 0, 0, 0), (35, .istore_n 2, 1, 0, 0, 0, 0), (36, .iconst 0, 1, 0, 0, 0, 0), (37, .istore_n 3, 1, 0, 0, 0, 0), (38, .iload_n 3, 1, 0, 0, 0, 0), (39, .aload_n 0, 1, 0, 0, 0, 0), (40, .getfield 160, 3, 6, 12, 891, 0), (43, .if_icmp .ge 34, 3, 77, 0, 0, 0), (46, .aload_n 0, 1, 0, 0, 0, 0), (47, .getfield 40, 3, 6, 11, 890, 0), (50, .iload_n 3, 1, 0, 0, 0, 0), (51, .iaload, 1, 0, 0, 0, 0), (52, .iload_n 1, 1, 0, 0, 0, 0), (53, .if_icmp .eq 18, 3, 71, 0, 0, 0), (56, .aload_n 0, 1, 0, 0, 0, 0), (57, .getfield 40, 3, 6, 11, 890, 0), (60, .iload_n 2, 1, 0, 0, 0, 0), (61, .aload_n 0, 1, 0, 0, 0, 0), (62, .getfield 40, 3, 6, 11, 890, 0), (65, .iload_n 3, 1, 0, 0, 0, 0)]
def zc_X6_closed_1 : List zi_Row := [(66, .iaload, 1, 0, 0, 0, 0), (67, .iastore, 1, 0, 0, 0, 0), (68, .iinc 2 1, 3, 0, 0, 0, 0), (71, .iinc 3 1, 3, 0, 0, 0, 0), (74, .goto (-36), 3, 38, 0, 0, 0), (77, .aload_n 0, 1, 0, 0, 0, 0), (78, .iload_n 2, 1, 0, 0, 0, 0), (79, .putfield 160, 3, 6, 12, 891, 0), (82, .aload_n 0, 1, 0, 0, 0, 0), (83, .getfield 16, 3, 6, 2, 881, 0), (86, .iload_n 1, 1, 0, 0, 0, 0), (87, .iconst 0, 1, 0, 0, 0, 0), (88, .iastore, 1, 0, 0, 0, 0), (89, .iconst 1, 1, 0, 0, 0, 0), (90, .istore_n 3, 1, 0, 0, 0, 0), (91, .iconst 0, 1, 0, 0, 0, 0), (92, .istore 4, 2, 0, 0, 0, 0), (94, .iload 4, 2, 0, 0, 0, 0), (96, .bipush 10, 2, 0, 0, 0, 0), (98, .if_icmp .ge 40, 3, 138, 0, 0, 0), (101, .aload_n 0, 1, 0, 0, 0, 0), (102, .getfield 16, 3, 6, 2, 881, 0), (105, .iload 4, 2, 0, 0, 0, 0), (107, .iaload, 1, 0, 0, 0, 0), (108, .iconst 3, 1, 0, 0, 0, 0), (109, .if_icmp .ne 23, 3, 132, 0, 0, 0), (112, .aload_n 0, 1, 0, 0, 0, 0), (113, .getfield 25, 3, 6, 5, 884, 0), (116, .iload 4, 2, 0, 0, 0, 0), (118, .iaload, 1, 0, 0, 0, 0), (119, .iload_n 1, 1, 0, 0, 0, 0), (120, .if_icmp .ne 12, 3, 132, 0, 0, 0), (123, .iload_n 3, 1, 0, 0, 0, 0), (124, .aload_n 0, 1, 0, 0, 0, 0), (125, .iload 4, 2, 0, 0, 0, 0), (127, .invokevirtual 250, 3, 198, 2, 1152, 6), (130, .iadd, 1, 0, 0, 0, 0), (131, .istore_n 3, 1, 0, 0, 0, 0), (132, .iinc 4 1, 3, 0, 0, 0, 0), (135, .goto (-41), 3, 94, 0, 0, 0)]
def zc_X6_closed_2 : List zi_Row := [(138, .iload_n 3, 1, 0, 0, 0, 0), (139, .ireturn, 1, 0, 0, 0, 0)]
def zc_X6_closed : List zi_Row := zc_X6_closed_0 ++ (zc_X6_closed_1 ++ (zc_X6_closed_2))
def zc_X6_isShown_0 : List zi_Row := [(0, .aload_n 0, 1, 0, 0, 0, 0), (1, .getfield 16, 3, 6, 2, 881, 0), (4, .iload_n 1, 1, 0, 0, 0, 0), (5, .iaload, 1, 0, 0, 0, 0), (6, .iconst 1, 1, 0, 0, 0, 0), (7, .if_icmp .ne 36, 3, 43, 0, 0, 0), (10, .aload_n 0, 1, 0, 0, 0, 0), (11, .getfield 64, 3, 6, 20, 899, 0), (14, .aload_n 0, 1, 0, 0, 0, 0), (15, .getfield 28, 3, 6, 6, 885, 0), (18, .iload_n 1, 1, 0, 0, 0, 0), (19, .iaload, 1, 0, 0, 0, 0), (20, .aload_n 0, 1, 0, 0, 0, 0), (21, .aload_n 0, 1, 0, 0, 0, 0), (22, .getfield 28, 3, 6, 6, 885, 0), (25, .iload_n 1, 1, 0, 0, 0, 0), (26, .iaload, 1, 0, 0, 0, 0), (27, .iload_n 1, 1, 0, 0, 0, 0), (28, .invokevirtual 116, 3, 173, 3, 1030, 6), (31, .invokestatic 105, 3, 70, 2, 991, 0), (34, .iaload, 1, 0, 0, 0, 0), (35, .iload_n 1, 1, 0, 0, 0, 0), (36, .if_icmp .ne 7, 3, 43, 0, 0, 0), (39, .iconst 1, 1, 0, 0, 0, 0), (40, .goto 4, 3, 44, 0, 0, 0), (43, .iconst 0, 1, 0, 0, 0, 0), (44, .ireturn, 1, 0, 0, 0, 0)]
def zc_X6_isShown : List zi_Row := zc_X6_isShown_0
def zc_X6_common_0 : List zi_Row := [(0, .iload_n 0, 1, 0, 0, 0, 0), (1, .iload_n 2, 1, 0, 0, 0, 0), (2, .if_icmp .le 7, 3, 9, 0, 0, 0), (5, .iload_n 0, 1, 0, 0, 0, 0), (6, .goto 4, 3, 10, 0, 0, 0), (9, .iload_n 2, 1, 0, 0, 0, 0), (10, .istore 4, 2, 0, 0, 0, 0), (12, .iload_n 1, 1, 0, 0, 0, 0), (13, .iload_n 3, 1, 0, 0, 0, 0), (14, .if_icmp .ge 7, 3, 21, 0, 0, 0), (17, .iload_n 1, 1, 0, 0, 0, 0), (18, .goto 4, 3, 22, 0, 0, 0), (21, .iload_n 3, 1, 0, 0, 0, 0), (22, .istore 5, 2, 0, 0, 0, 0), (24, .iload 5, 2, 0, 0, 0, 0), (26, .iload 4, 2, 0, 0, 0, 0), (28, .isub, 1, 0, 0, 0, 0), (29, .ireturn, 1, 0, 0, 0, 0)]
def zc_X6_common : List zi_Row := zc_X6_common_0
def zc_X6_neighbourOf_0 : List zi_Row := [(0, .aload_n 0, 1, 0, 0, 0, 0), (1, .getfield 28, 3, 6, 6, 885, 0), (4, .iload_n 1, 1, 0, 0, 0, 0), (5, .iaload, 1, 0, 0, 0, 0), (6, .istore_n 3, 1, 0, 0, 0, 0), (7, .aload_n 0, 1, 0, 0, 0, 0), (8, .iload_n 3, 1, 0, 0, 0, 0), (9, .invokevirtual 240, 3, 181, 2, 1107, 6), (12, .aload_n 0, 1, 0, 0, 0, 0), (13, .iload_n 3, 1, 0, 0, 0, 0), (14, .iload_n 1, 1, 0, 0, 0, 0), (15, .invokevirtual 116, 3, 173, 3, 1030, 6), (18, .istore 4, 2, 0, 0, 0, 0), (20, .iconst (-1), 1, 0, 0, 0, 0), (21, .istore 5, 2, 0, 0, 0, 0), (23, .iconst 0, 1, 0, 0, 0, 0), (24, .istore 6, 2, 0, 0, 0, 0), (26, .iconst 0, 1, 0, 0, 0, 0), (27, .istore 7, 2, 0, 0, 0, 0), (29, .iload 7, 2, 0, 0, 0, 0), (31, .bipush 10, 2, 0, 0, 0, 0), (33, .if_icmp .ge 324, 3, 357, 0, 0, 0), (36, .iload 7, 2, 0, 0, 0, 0), (38, .iload_n 1, 1, 0, 0, 0, 0), (39, .if_icmp .eq 312, 3, 351, 0, 0, 0), (42, .aload_n 0, 1, 0, 0, 0, 0), (43, .getfield 16, 3, 6, 2, 881, 0), (46, .iload 7, 2, 0, 0, 0, 0), (48, .iaload, 1, 0, 0, 0, 0), (49, .iconst 1, 1, 0, 0, 0, 0), (50, .if_icmp .ne 301, 3, 351, 0, 0, 0), (53, .aload_n 0, 1, 0, 0, 0, 0), (54, .getfield 28, 3, 6, 6, 885, 0), (57, .iload 7, 2, 0, 0, 0, 0), (59, .iaload, 1, 0, 0, 0, 0), (60, .iload_n 3, 1, 0, 0, 0, 0), (61, .if_icmp .ne 290, 3, 351, 0, 0, 0), (64, .aload_n 0, 1, 0, 0, 0, 0), (65, .iload 7, 2, 0, 0, 0, 0), (67, .invokevirtual 253, 3, 199, 2, 1172, 6)]
def zc_X6_neighbourOf_1 : List zi_Row := [(70, .ifCond .eq 281, 3, 351, 0, 0, 0), (73, .aload_n 0, 1, 0, 0, 0, 0), (74, .iload_n 3, 1, 0, 0, 0, 0), (75, .iload 7, 2, 0, 0, 0, 0), (77, .invokevirtual 116, 3, 173, 3, 1030, 6), (80, .istore 8, 2, 0, 0, 0, 0), (82, .iload_n 2, 1, 0, 0, 0, 0), (83, .ifCond .ne 36, 3, 119, 0, 0, 0), (86, .aload_n 0, 1, 0, 0, 0, 0), (87, .getfield 80, 3, 6, 25, 904, 0), (90, .iload 8, 2, 0, 0, 0, 0), (92, .iaload, 1, 0, 0, 0, 0), (93, .aload_n 0, 1, 0, 0, 0, 0), (94, .getfield 86, 3, 6, 27, 906, 0), (97, .iload 8, 2, 0, 0, 0, 0), (99, .iaload, 1, 0, 0, 0, 0), (100, .iadd, 1, 0, 0, 0, 0), (101, .aload_n 0, 1, 0, 0, 0, 0), (102, .getfield 80, 3, 6, 25, 904, 0), (105, .iload 4, 2, 0, 0, 0, 0), (107, .iaload, 1, 0, 0, 0, 0), (108, .if_icmp .ne 7, 3, 115, 0, 0, 0), (111, .iconst 1, 1, 0, 0, 0, 0), (112, .goto 113, 3, 225, 0, 0, 0), (115, .iconst 0, 1, 0, 0, 0, 0), (116, .goto 109, 3, 225, 0, 0, 0), (119, .iload_n 2, 1, 0, 0, 0, 0), (120, .iconst 1, 1, 0, 0, 0, 0), (121, .if_icmp .ne 36, 3, 157, 0, 0, 0), (124, .aload_n 0, 1, 0, 0, 0, 0), (125, .getfield 80, 3, 6, 25, 904, 0), (128, .iload 4, 2, 0, 0, 0, 0), (130, .iaload, 1, 0, 0, 0, 0), (131, .aload_n 0, 1, 0, 0, 0, 0), (132, .getfield 86, 3, 6, 27, 906, 0), (135, .iload 4, 2, 0, 0, 0, 0), (137, .iaload, 1, 0, 0, 0, 0), (138, .iadd, 1, 0, 0, 0, 0), (139, .aload_n 0, 1, 0, 0, 0, 0), (140, .getfield 80, 3, 6, 25, 904, 0)]
def zc_X6_neighbourOf_2 : List zi_Row := [(143, .iload 8, 2, 0, 0, 0, 0), (145, .iaload, 1, 0, 0, 0, 0), (146, .if_icmp .ne 7, 3, 153, 0, 0, 0), (149, .iconst 1, 1, 0, 0, 0, 0), (150, .goto 75, 3, 225, 0, 0, 0), (153, .iconst 0, 1, 0, 0, 0, 0), (154, .goto 71, 3, 225, 0, 0, 0), (157, .iload_n 2, 1, 0, 0, 0, 0), (158, .iconst 2, 1, 0, 0, 0, 0), (159, .if_icmp .ne 36, 3, 195, 0, 0, 0), (162, .aload_n 0, 1, 0, 0, 0, 0), (163, .getfield 83, 3, 6, 26, 905, 0), (166, .iload 8, 2, 0, 0, 0, 0), (168, .iaload, 1, 0, 0, 0, 0), (169, .aload_n 0, 1, 0, 0, 0, 0), (170, .getfield 89, 3, 6, 28, 907, 0), (173, .iload 8, 2, 0, 0, 0, 0), (175, .iaload, 1, 0, 0, 0, 0), (176, .iadd, 1, 0, 0, 0, 0), (177, .aload_n 0, 1, 0, 0, 0, 0), (178, .getfield 83, 3, 6, 26, 905, 0), (181, .iload 4, 2, 0, 0, 0, 0), (183, .iaload, 1, 0, 0, 0, 0), (184, .if_icmp .ne 7, 3, 191, 0, 0, 0), (187, .iconst 1, 1, 0, 0, 0, 0), (188, .goto 37, 3, 225, 0, 0, 0), (191, .iconst 0, 1, 0, 0, 0, 0), (192, .goto 33, 3, 225, 0, 0, 0), (195, .aload_n 0, 1, 0, 0, 0, 0), (196, .getfield 83, 3, 6, 26, 905, 0), (199, .iload 4, 2, 0, 0, 0, 0), (201, .iaload, 1, 0, 0, 0, 0), (202, .aload_n 0, 1, 0, 0, 0, 0), (203, .getfield 89, 3, 6, 28, 907, 0), (206, .iload 4, 2, 0, 0, 0, 0), (208, .iaload, 1, 0, 0, 0, 0), (209, .iadd, 1, 0, 0, 0, 0), (210, .aload_n 0, 1, 0, 0, 0, 0), (211, .getfield 83, 3, 6, 26, 905, 0), (214, .iload 8, 2, 0, 0, 0, 0)]
def zc_X6_neighbourOf_3 : List zi_Row := [(216, .iaload, 1, 0, 0, 0, 0), (217, .if_icmp .ne 7, 3, 224, 0, 0, 0), (220, .iconst 1, 1, 0, 0, 0, 0), (221, .goto 4, 3, 225, 0, 0, 0), (224, .iconst 0, 1, 0, 0, 0, 0), (225, .istore 9, 2, 0, 0, 0, 0), (227, .iload_n 2, 1, 0, 0, 0, 0), (228, .iconst 2, 1, 0, 0, 0, 0), (229, .if_icmp .ge 53, 3, 282, 0, 0, 0), (232, .aload_n 0, 1, 0, 0, 0, 0), (233, .getfield 83, 3, 6, 26, 905, 0), (236, .iload 4, 2, 0, 0, 0, 0), (238, .iaload, 1, 0, 0, 0, 0), (239, .aload_n 0, 1, 0, 0, 0, 0), (240, .getfield 83, 3, 6, 26, 905, 0), (243, .iload 4, 2, 0, 0, 0, 0), (245, .iaload, 1, 0, 0, 0, 0), (246, .aload_n 0, 1, 0, 0, 0, 0), (247, .getfield 89, 3, 6, 28, 907, 0), (250, .iload 4, 2, 0, 0, 0, 0), (252, .iaload, 1, 0, 0, 0, 0), (253, .iadd, 1, 0, 0, 0, 0), (254, .aload_n 0, 1, 0, 0, 0, 0), (255, .getfield 83, 3, 6, 26, 905, 0), (258, .iload 8, 2, 0, 0, 0, 0), (260, .iaload, 1, 0, 0, 0, 0), (261, .aload_n 0, 1, 0, 0, 0, 0), (262, .getfield 83, 3, 6, 26, 905, 0), (265, .iload 8, 2, 0, 0, 0, 0), (267, .iaload, 1, 0, 0, 0, 0), (268, .aload_n 0, 1, 0, 0, 0, 0), (269, .getfield 89, 3, 6, 28, 907, 0), (272, .iload 8, 2, 0, 0, 0, 0), (274, .iaload, 1, 0, 0, 0, 0), (275, .iadd, 1, 0, 0, 0, 0), (276, .invokestatic 256, 3, 200, 4, 1180, 0), (279, .goto 50, 3, 329, 0, 0, 0), (282, .aload_n 0, 1, 0, 0, 0, 0), (283, .getfield 80, 3, 6, 25, 904, 0), (286, .iload 4, 2, 0, 0, 0, 0)]
def zc_X6_neighbourOf_4 : List zi_Row := [(288, .iaload, 1, 0, 0, 0, 0), (289, .aload_n 0, 1, 0, 0, 0, 0), (290, .getfield 80, 3, 6, 25, 904, 0), (293, .iload 4, 2, 0, 0, 0, 0), (295, .iaload, 1, 0, 0, 0, 0), (296, .aload_n 0, 1, 0, 0, 0, 0), (297, .getfield 86, 3, 6, 27, 906, 0), (300, .iload 4, 2, 0, 0, 0, 0), (302, .iaload, 1, 0, 0, 0, 0), (303, .iadd, 1, 0, 0, 0, 0), (304, .aload_n 0, 1, 0, 0, 0, 0), (305, .getfield 80, 3, 6, 25, 904, 0), (308, .iload 8, 2, 0, 0, 0, 0), (310, .iaload, 1, 0, 0, 0, 0), (311, .aload_n 0, 1, 0, 0, 0, 0), (312, .getfield 80, 3, 6, 25, 904, 0), (315, .iload 8, 2, 0, 0, 0, 0), (317, .iaload, 1, 0, 0, 0, 0), (318, .aload_n 0, 1, 0, 0, 0, 0), (319, .getfield 86, 3, 6, 27, 906, 0), (322, .iload 8, 2, 0, 0, 0, 0), (324, .iaload, 1, 0, 0, 0, 0), (325, .iadd, 1, 0, 0, 0, 0), (326, .invokestatic 256, 3, 200, 4, 1180, 0), (329, .istore 10, 2, 0, 0, 0, 0), (331, .iload 9, 2, 0, 0, 0, 0), (333, .ifCond .eq 18, 3, 351, 0, 0, 0), (336, .iload 10, 2, 0, 0, 0, 0), (338, .iload 6, 2, 0, 0, 0, 0), (340, .if_icmp .le 11, 3, 351, 0, 0, 0), (343, .iload 10, 2, 0, 0, 0, 0), (345, .istore 6, 2, 0, 0, 0, 0), (347, .iload 7, 2, 0, 0, 0, 0), (349, .istore 5, 2, 0, 0, 0, 0), (351, .iinc 7 1, 3, 0, 0, 0, 0), (354, .goto (-325), 3, 29, 0, 0, 0), (357, .iload 5, 2, 0, 0, 0, 0), (359, .ireturn, 1, 0, 0, 0, 0)]
def zc_X6_neighbourOf : List zi_Row := zc_X6_neighbourOf_0 ++ (zc_X6_neighbourOf_1 ++ (zc_X6_neighbourOf_2 ++ (zc_X6_neighbourOf_3 ++ (zc_X6_neighbourOf_4))))
def zc_X6_areaOf_0 : List zi_Row := [(0, .iload_n 2, 1, 0, 0, 0, 0), (1, .ifCond .ne 26, 3, 27, 0, 0, 0), (4, .aload_n 0, 1, 0, 0, 0, 0), (5, .getfield 16, 3, 6, 2, 881, 0), (8, .iload_n 1, 1, 0, 0, 0, 0), (9, .iaload, 1, 0, 0, 0, 0), (10, .iconst 4, 1, 0, 0, 0, 0), (11, .if_icmp .ne 9, 3, 20, 0, 0, 0), (14, .ldc_w 263, 3, 0, 0, 1123, (-1000000005)), (17, .goto 9, 3, 26, 0, 0, 0), (20, .aload_n 0, 1, 0, 0, 0, 0), (21, .getfield 28, 3, 6, 6, 885, 0), (24, .iload_n 1, 1, 0, 0, 0, 0), (25, .iaload, 1, 0, 0, 0, 0), (26, .ireturn, 1, 0, 0, 0, 0), (27, .aload_n 0, 1, 0, 0, 0, 0), (28, .iload_n 1, 1, 0, 0, 0, 0), (29, .invokevirtual 147, 3, 167, 2, 1124, 6), (32, .ifCond .eq 52, 3, 84, 0, 0, 0), (35, .iload_n 2, 1, 0, 0, 0, 0), (36, .iconst 1, 1, 0, 0, 0, 0), (37, .if_icmp .ne 12, 3, 49, 0, 0, 0), (40, .aload_n 0, 1, 0, 0, 0, 0), (41, .getfield 31, 3, 6, 7, 886, 0), (44, .iload_n 1, 1, 0, 0, 0, 0), (45, .iaload, 1, 0, 0, 0, 0), (46, .goto 37, 3, 83, 0, 0, 0), (49, .iload_n 2, 1, 0, 0, 0, 0), (50, .iconst 2, 1, 0, 0, 0, 0), (51, .if_icmp .ne 12, 3, 63, 0, 0, 0), (54, .aload_n 0, 1, 0, 0, 0, 0), (55, .getfield 34, 3, 6, 8, 887, 0), (58, .iload_n 1, 1, 0, 0, 0, 0), (59, .iaload, 1, 0, 0, 0, 0), (60, .goto 23, 3, 83, 0, 0, 0), (63, .iload_n 2, 1, 0, 0, 0, 0), (64, .iconst 3, 1, 0, 0, 0, 0), (65, .if_icmp .ne 12, 3, 77, 0, 0, 0), (68, .aload_n 0, 1, 0, 0, 0, 0), (69, .getfield 19, 3, 6, 3, 882, 0)]
def zc_X6_areaOf_1 : List zi_Row := [(72, .iload_n 1, 1, 0, 0, 0, 0), (73, .iaload, 1, 0, 0, 0, 0), (74, .goto 9, 3, 83, 0, 0, 0), (77, .aload_n 0, 1, 0, 0, 0, 0), (78, .getfield 22, 3, 6, 4, 883, 0), (81, .iload_n 1, 1, 0, 0, 0, 0), (82, .iaload, 1, 0, 0, 0, 0), (83, .ireturn, 1, 0, 0, 0, 0), (84, .aload_n 0, 1, 0, 0, 0, 0), (85, .aload_n 0, 1, 0, 0, 0, 0), (86, .getfield 28, 3, 6, 6, 885, 0), (89, .iload_n 1, 1, 0, 0, 0, 0), (90, .iaload, 1, 0, 0, 0, 0), (91, .invokevirtual 240, 3, 181, 2, 1107, 6), (94, .aload_n 0, 1, 0, 0, 0, 0), (95, .aload_n 0, 1, 0, 0, 0, 0), (96, .getfield 28, 3, 6, 6, 885, 0), (99, .iload_n 1, 1, 0, 0, 0, 0), (100, .iaload, 1, 0, 0, 0, 0), (101, .iload_n 1, 1, 0, 0, 0, 0), (102, .invokevirtual 116, 3, 173, 3, 1030, 6), (105, .istore_n 3, 1, 0, 0, 0, 0), (106, .iload_n 2, 1, 0, 0, 0, 0), (107, .iconst 1, 1, 0, 0, 0, 0), (108, .if_icmp .ne 12, 3, 120, 0, 0, 0), (111, .aload_n 0, 1, 0, 0, 0, 0), (112, .getfield 80, 3, 6, 25, 904, 0), (115, .iload_n 3, 1, 0, 0, 0, 0), (116, .iaload, 1, 0, 0, 0, 0), (117, .goto 37, 3, 154, 0, 0, 0), (120, .iload_n 2, 1, 0, 0, 0, 0), (121, .iconst 2, 1, 0, 0, 0, 0), (122, .if_icmp .ne 12, 3, 134, 0, 0, 0), (125, .aload_n 0, 1, 0, 0, 0, 0), (126, .getfield 83, 3, 6, 26, 905, 0), (129, .iload_n 3, 1, 0, 0, 0, 0), (130, .iaload, 1, 0, 0, 0, 0), (131, .goto 23, 3, 154, 0, 0, 0), (134, .iload_n 2, 1, 0, 0, 0, 0), (135, .iconst 3, 1, 0, 0, 0, 0)]
def zc_X6_areaOf_2 : List zi_Row := [(136, .if_icmp .ne 12, 3, 148, 0, 0, 0), (139, .aload_n 0, 1, 0, 0, 0, 0), (140, .getfield 86, 3, 6, 27, 906, 0), (143, .iload_n 3, 1, 0, 0, 0, 0), (144, .iaload, 1, 0, 0, 0, 0), (145, .goto 9, 3, 154, 0, 0, 0), (148, .aload_n 0, 1, 0, 0, 0, 0), (149, .getfield 89, 3, 6, 28, 907, 0), (152, .iload_n 3, 1, 0, 0, 0, 0), (153, .iaload, 1, 0, 0, 0, 0), (154, .ireturn, 1, 0, 0, 0, 0)]
def zc_X6_areaOf : List zi_Row := zc_X6_areaOf_0 ++ (zc_X6_areaOf_1 ++ (zc_X6_areaOf_2))
def zc_X6_placeIn_0 : List zi_Row := [(0, .iconst 0, 1, 0, 0, 0, 0), (1, .istore_n 3, 1, 0, 0, 0, 0), (2, .iload_n 3, 1, 0, 0, 0, 0), (3, .iload_n 1, 1, 0, 0, 0, 0), (4, .if_icmp .ge 18, 3, 22, 0, 0, 0), (7, .aload_n 0, 1, 0, 0, 0, 0), (8, .iload_n 3, 1, 0, 0, 0, 0), (9, .iaload, 1, 0, 0, 0, 0), (10, .iload_n 2, 1, 0, 0, 0, 0), (11, .if_icmp .ne 5, 3, 16, 0, 0, 0), (14, .iload_n 3, 1, 0, 0, 0, 0), (15, .ireturn, 1, 0, 0, 0, 0), (16, .iinc 3 1, 3, 0, 0, 0, 0), (19, .goto (-17), 3, 2, 0, 0, 0), (22, .ldc_w 263, 3, 0, 0, 1123, (-1000000005)), (25, .ireturn, 1, 0, 0, 0, 0)]
def zc_X6_placeIn : List zi_Row := zc_X6_placeIn_0
def zc_X6_lies_0 : List zi_Row := [(0, .aload_n 0, 1, 0, 0, 0, 0), (1, .getfield 16, 3, 6, 2, 881, 0), (4, .iload_n 1, 1, 0, 0, 0, 0), (5, .iaload, 1, 0, 0, 0, 0), (6, .iconst 4, 1, 0, 0, 0, 0), (7, .if_icmp .eq 13, 3, 20, 0, 0, 0), (10, .aload_n 0, 1, 0, 0, 0, 0), (11, .getfield 28, 3, 6, 6, 885, 0), (14, .iload_n 1, 1, 0, 0, 0, 0), (15, .iaload, 1, 0, 0, 0, 0), (16, .iload_n 2, 1, 0, 0, 0, 0), (17, .if_icmp .ne 33, 3, 50, 0, 0, 0), (20, .aload_n 0, 1, 0, 0, 0, 0), (21, .getfield 16, 3, 6, 2, 881, 0), (24, .iload_n 1, 1, 0, 0, 0, 0), (25, .iaload, 1, 0, 0, 0, 0), (26, .iconst 4, 1, 0, 0, 0, 0), (27, .if_icmp .ne 25, 3, 52, 0, 0, 0), (30, .aload_n 0, 1, 0, 0, 0, 0), (31, .iload_n 1, 1, 0, 0, 0, 0), (32, .aload_n 0, 1, 0, 0, 0, 0), (33, .getfield 7, 3, 6, 0, 879, 0), (36, .iload_n 2, 1, 0, 0, 0, 0), (37, .iaload, 1, 0, 0, 0, 0), (38, .aload_n 0, 1, 0, 0, 0, 0), (39, .getfield 13, 3, 6, 1, 880, 0), (42, .iload_n 2, 1, 0, 0, 0, 0), (43, .iaload, 1, 0, 0, 0, 0), (44, .invokevirtual 184, 3, 182, 4, 1010, 6), (47, .ifCond .ne 5, 3, 52, 0, 0, 0), (50, .iconst 0, 1, 0, 0, 0, 0), (51, .ireturn, 1, 0, 0, 0, 0), (52, .aload_n 0, 1, 0, 0, 0, 0), (53, .getfield 16, 3, 6, 2, 881, 0), (56, .iload_n 1, 1, 0, 0, 0, 0), (57, .iaload, 1, 0, 0, 0, 0), (58, .iconst 4, 1, 0, 0, 0, 0), (59, .if_icmp .ne 28, 3, 87, 0, 0, 0), (62, .aload_n 0, 1, 0, 0, 0, 0), (63, .getfield 31, 3, 6, 7, 886, 0)]
def zc_X6_lies_1 : List zi_Row := [(66, .iload_n 1, 1, 0, 0, 0, 0), (67, .iaload, 1, 0, 0, 0, 0), (68, .aload_n 0, 1, 0, 0, 0, 0), (69, .getfield 7, 3, 6, 0, 879, 0), (72, .iload_n 2, 1, 0, 0, 0, 0), (73, .iaload, 1, 0, 0, 0, 0), (74, .aload_n 0, 1, 0, 0, 0, 0), (75, .getfield 19, 3, 6, 3, 882, 0), (78, .iload_n 1, 1, 0, 0, 0, 0), (79, .iaload, 1, 0, 0, 0, 0), (80, .isub, 1, 0, 0, 0, 0), (81, .invokestatic 141, 3, 166, 2, 1054, 0), (84, .goto 9, 3, 93, 0, 0, 0), (87, .aload_n 0, 1, 0, 0, 0, 0), (88, .getfield 31, 3, 6, 7, 886, 0), (91, .iload_n 1, 1, 0, 0, 0, 0), (92, .iaload, 1, 0, 0, 0, 0), (93, .istore 5, 2, 0, 0, 0, 0), (95, .aload_n 0, 1, 0, 0, 0, 0), (96, .getfield 16, 3, 6, 2, 881, 0), (99, .iload_n 1, 1, 0, 0, 0, 0), (100, .iaload, 1, 0, 0, 0, 0), (101, .iconst 4, 1, 0, 0, 0, 0), (102, .if_icmp .ne 28, 3, 130, 0, 0, 0), (105, .aload_n 0, 1, 0, 0, 0, 0), (106, .getfield 34, 3, 6, 8, 887, 0), (109, .iload_n 1, 1, 0, 0, 0, 0), (110, .iaload, 1, 0, 0, 0, 0), (111, .aload_n 0, 1, 0, 0, 0, 0), (112, .getfield 13, 3, 6, 1, 880, 0), (115, .iload_n 2, 1, 0, 0, 0, 0), (116, .iaload, 1, 0, 0, 0, 0), (117, .aload_n 0, 1, 0, 0, 0, 0), (118, .getfield 22, 3, 6, 4, 883, 0), (121, .iload_n 1, 1, 0, 0, 0, 0), (122, .iaload, 1, 0, 0, 0, 0), (123, .isub, 1, 0, 0, 0, 0), (124, .invokestatic 141, 3, 166, 2, 1054, 0), (127, .goto 9, 3, 136, 0, 0, 0), (130, .aload_n 0, 1, 0, 0, 0, 0)]
def zc_X6_lies_2 : List zi_Row := [(131, .getfield 34, 3, 6, 8, 887, 0), (134, .iload_n 1, 1, 0, 0, 0, 0), (135, .iaload, 1, 0, 0, 0, 0), (136, .istore 6, 2, 0, 0, 0, 0), (138, .iload_n 3, 1, 0, 0, 0, 0), (139, .iload 5, 2, 0, 0, 0, 0), (141, .if_icmp .lt 41, 3, 182, 0, 0, 0), (144, .iload_n 3, 1, 0, 0, 0, 0), (145, .iload 5, 2, 0, 0, 0, 0), (147, .aload_n 0, 1, 0, 0, 0, 0), (148, .getfield 19, 3, 6, 3, 882, 0), (151, .iload_n 1, 1, 0, 0, 0, 0), (152, .iaload, 1, 0, 0, 0, 0), (153, .iadd, 1, 0, 0, 0, 0), (154, .if_icmp .ge 28, 3, 182, 0, 0, 0), (157, .iload 4, 2, 0, 0, 0, 0), (159, .iload 6, 2, 0, 0, 0, 0), (161, .if_icmp .lt 21, 3, 182, 0, 0, 0), (164, .iload 4, 2, 0, 0, 0, 0), (166, .iload 6, 2, 0, 0, 0, 0), (168, .aload_n 0, 1, 0, 0, 0, 0), (169, .getfield 22, 3, 6, 4, 883, 0), (172, .iload_n 1, 1, 0, 0, 0, 0), (173, .iaload, 1, 0, 0, 0, 0), (174, .iadd, 1, 0, 0, 0, 0), (175, .if_icmp .ge 7, 3, 182, 0, 0, 0), (178, .iconst 1, 1, 0, 0, 0, 0), (179, .goto 4, 3, 183, 0, 0, 0), (182, .iconst 0, 1, 0, 0, 0, 0), (183, .ireturn, 1, 0, 0, 0, 0)]
def zc_X6_lies : List zi_Row := zc_X6_lies_0 ++ (zc_X6_lies_1 ++ (zc_X6_lies_2))
def zc_J9_floorDiv_7cf53_0 : List zi_Row := [(0, .iload_n 0, 1, 0, 0, 0, 0), (1, .iload_n 1, 1, 0, 0, 0, 0), (2, .idiv, 1, 0, 0, 0, 0), (3, .istore_n 2, 1, 0, 0, 0, 0), (4, .iload_n 0, 1, 0, 0, 0, 0), (5, .iload_n 1, 1, 0, 0, 0, 0), (6, .ixor, 1, 0, 0, 0, 0), (7, .ifCond .ge 14, 3, 21, 0, 0, 0), (10, .iload_n 2, 1, 0, 0, 0, 0), (11, .iload_n 1, 1, 0, 0, 0, 0), (12, .imul, 1, 0, 0, 0, 0), (13, .iload_n 0, 1, 0, 0, 0, 0), (14, .if_icmp .eq 7, 3, 21, 0, 0, 0), (17, .iload_n 2, 1, 0, 0, 0, 0), (18, .iconst 1, 1, 0, 0, 0, 0), (19, .isub, 1, 0, 0, 0, 0), (20, .ireturn, 1, 0, 0, 0, 0), (21, .iload_n 2, 1, 0, 0, 0, 0), (22, .ireturn, 1, 0, 0, 0, 0)]
def zc_J9_floorDiv_7cf53 : List zi_Row := zc_J9_floorDiv_7cf53_0
def zc_J9_max_7cf53_0 : List zi_Row := [(0, .iload_n 0, 1, 0, 0, 0, 0), (1, .iload_n 1, 1, 0, 0, 0, 0), (2, .if_icmp .lt 7, 3, 9, 0, 0, 0), (5, .iload_n 0, 1, 0, 0, 0, 0), (6, .goto 4, 3, 10, 0, 0, 0), (9, .iload_n 1, 1, 0, 0, 0, 0), (10, .ireturn, 1, 0, 0, 0, 0)]
def zc_J9_max_7cf53 : List zi_Row := zc_J9_max_7cf53_0
def zc_J9_min_7cf53_0 : List zi_Row := [(0, .iload_n 0, 1, 0, 0, 0, 0), (1, .iload_n 1, 1, 0, 0, 0, 0), (2, .if_icmp .gt 7, 3, 9, 0, 0, 0), (5, .iload_n 0, 1, 0, 0, 0, 0), (6, .goto 4, 3, 10, 0, 0, 0), (9, .iload_n 1, 1, 0, 0, 0, 0), (10, .ireturn, 1, 0, 0, 0, 0)]
def zc_J9_min_7cf53 : List zi_Row := zc_J9_min_7cf53_0
def zi_ms : List zi_Me := [(yX5_init, cX5_init, 2, none, zc_X5_init, 400, 8000), (yX1_init, cX1_init, 1, none, zc_X1_init, 1, 10), (yX3_init, cX3_init, 1, none, zc_X3_init, 30, 600), (yX4_init, cX4_init, 1, none, zc_X4_init, 2, 4), (yX2_init, cX2_init, 1, none, zc_X2_init, 80, 1600), (yX0_init, cX0_init, 1, none, zc_X0_init, 40, 800), (yX6_init, cX6_init, 2, none, zc_X6_init, 40, 4000), (yX1_clear, cX1_clear, 1, none, zc_X1_clear, 0, 0), (yX3_clear, cX3_clear, 1, none, zc_X3_clear, 0, 0), (yJ7_fill_53178, cJ7_fill_53178, 4, none, zc_J7_fill_53178, 0, 0), (yX5_screen, cX5_screen, 6, (some FieldType.int), zc_X5_screen, 0, 0), (yX5_gone, cX5_gone, 5, (some FieldType.int), zc_X5_gone, 0, 0), (yX5_open, cX5_open, 8, (some FieldType.int), zc_X5_open, 0, 0), (yX5_close, cX5_close, 4, (some FieldType.int), zc_X5_close, 0, 0), (yX5_focus, cX5_focus, 3, (some FieldType.int), zc_X5_focus, 0, 0), (yX5_back, cX5_back, 2, (some FieldType.int), zc_X5_back, 0, 0), (yX5_toward, cX5_toward, 4, (some FieldType.int), zc_X5_toward, 0, 0), (yX5_steps, cX5_steps, 4, (some FieldType.int), zc_X5_steps, 0, 0), (yX5_drag, cX5_drag, 6, (some FieldType.int), zc_X5_drag, 0, 0), (yX5_move, cX5_move, 5, (some FieldType.int), zc_X5_move, 0, 0), (yX5_share, cX5_share, 6, (some FieldType.int), zc_X5_share, 0, 0), (yX5_area, cX5_area, 3, (some FieldType.int), zc_X5_area, 0, 0), (yX5_about, cX5_about, 4, (some FieldType.int), zc_X5_about, 0, 0), (yX5_isOf, cX5_isOf, 3, (some FieldType.int), zc_X5_isOf, 0, 0), (yX5_at, cX5_at, 6, (some FieldType.int), zc_X5_at, 0, 0), (yX5_neighbour, cX5_neighbour, 3, (some FieldType.int), zc_X5_neighbour, 0, 0), (yX5_told, cX5_told, 4, (some FieldType.int), zc_X5_told, 0, 0), (yX5_tab, cX5_tab, 6, (some FieldType.int), zc_X5_tab, 0, 0), (yX5_count, cX5_count, 2, (some FieldType.int), zc_X5_count, 0, 0), (yX5_isScreen, cX5_isScreen, 1, (some FieldType.boolean), zc_X5_isScreen, 0, 0), (yX5_isScreenSize, cX5_isScreenSize, 1, (some FieldType.boolean), zc_X5_isScreenSize, 0, 0), (yX5_isWindowSize, cX5_isWindowSize, 1, (some FieldType.boolean), zc_X5_isWindowSize, 0, 0), (yX5_isSide, cX5_isSide, 1, (some FieldType.boolean), zc_X5_isSide, 0, 0), (yX5_isAxis, cX5_isAxis, 1, (some FieldType.boolean), zc_X5_isAxis, 0, 0), (yX5_isPlace, cX5_isPlace, 1, (some FieldType.boolean), zc_X5_isPlace, 0, 0), (yX5_isWindow, cX5_isWindow, 2, (some FieldType.boolean), zc_X5_isWindow, 0, 0), (yX5_isShownTile, cX5_isShownTile, 2, (some FieldType.boolean), zc_X5_isShownTile, 0, 0), (yX5_leastScreenBut, cX5_leastScreenBut, 3, (some FieldType.int), zc_X5_leastScreenBut, 0, 0), (yX5_screenAtHand, cX5_screenAtHand, 3, (some FieldType.int), zc_X5_screenAtHand, 0, 0), (yX5_screensThere, cX5_screensThere, 3, (some FieldType.int), zc_X5_screensThere, 0, 0), (yX5_screensWithKept, cX5_screensWithKept, 3, (some FieldType.int), zc_X5_screensWithKept, 0, 0), (yX5_windowsUnder, cX5_windowsUnder, 4, (some FieldType.int), zc_X5_windowsUnder, 0, 0), (yX5_leastFreeNumber, cX5_leastFreeNumber, 2, (some FieldType.int), zc_X5_leastFreeNumber, 0, 0), (yX5_bringBack, cX5_bringBack, 5, (some FieldType.int), zc_X5_bringBack, 0, 0), (yX1_size, cX1_size, 1, (some FieldType.int), zc_X1_size, 0, 0), (yX1_get, cX1_get, 2, (some FieldType.int), zc_X1_get, 0, 0), (yX2_setSize, cX2_setSize, 2, none, zc_X2_setSize, 0, 0), (yX0_forget, cX0_forget, 1, none, zc_X0_forget, 0, 0), (yX4_fallsUnder, cX4_fallsUnder, 3, (some FieldType.boolean), zc_X4_fallsUnder, 0, 0), (yX6_screen, cX6_screen, 6, (some FieldType.int), zc_X6_screen, 0, 0), (yX6_gone, cX6_gone, 7, (some FieldType.int), zc_X6_gone, 0, 0), (yX6_open, cX6_open, 10, (some FieldType.int), zc_X6_open, 0, 0), (yX6_close, cX6_close, 2, (some FieldType.int), zc_X6_close, 0, 0), (yX6_focus, cX6_focus, 3, (some FieldType.int), zc_X6_focus, 0, 0), (yX6_back, cX6_back, 2, (some FieldType.int), zc_X6_back, 0, 0), (yX6_toward, cX6_toward, 3, (some FieldType.int), zc_X6_toward, 0, 0), (yX6_steps, cX6_steps, 7, (some FieldType.int), zc_X6_steps, 0, 0), (yX6_drag, cX6_drag, 9, (some FieldType.int), zc_X6_drag, 0, 0), (yX6_move, cX6_move, 4, (some FieldType.int), zc_X6_move, 0, 0), (yX6_share, cX6_share, 7, (some FieldType.int), zc_X6_share, 0, 0), (yX6_area, cX6_area, 3, (some FieldType.int), zc_X6_area, 0, 0), (yX6_about, cX6_about, 3, (some FieldType.int), zc_X6_about, 0, 0), (yX6_isOf, cX6_isOf, 3, (some FieldType.int), zc_X6_isOf, 0, 0), (yX6_at, cX6_at, 6, (some FieldType.int), zc_X6_at, 0, 0), (yX6_neighbour, cX6_neighbour, 4, (some FieldType.int), zc_X6_neighbour, 0, 0), (yX6_told, cX6_told, 5, (some FieldType.int), zc_X6_told, 0, 0), (yX6_tab, cX6_tab, 5, (some FieldType.int), zc_X6_tab, 0, 0), (yX6_count, cX6_count, 4, (some FieldType.int), zc_X6_count, 0, 0), (yX6_isIn, cX6_isIn, 3, (some FieldType.boolean), zc_X6_isIn, 0, 0), (yX6_isWindow, cX6_isWindow, 2, (some FieldType.boolean), zc_X6_isWindow, 0, 0), (yX6_spot, cX6_spot, 2, (some FieldType.int), zc_X6_spot, 0, 0), (yX6_clearTree, cX6_clearTree, 3, none, zc_X6_clearTree, 0, 0), (yX6_screenAtHand, cX6_screenAtHand, 2, (some FieldType.int), zc_X6_screenAtHand, 0, 0), (yX6_freeNumber, cX6_freeNumber, 2, (some FieldType.int), zc_X6_freeNumber, 0, 0), (yX0_has, cX0_has, 2, (some FieldType.boolean), zc_X0_has, 0, 0), (yX0_keepPlace, cX0_keepPlace, 4, none, zc_X0_keepPlace, 0, 0), (yX1_placeOf, cX1_placeOf, 3, (some FieldType.int), zc_X1_placeOf, 0, 0), (yX1_append, cX1_append, 2, none, zc_X1_append, 0, 0), (yX1_takeOut, cX1_takeOut, 4, none, zc_X1_takeOut, 0, 0), (yX1_putLast, cX1_putLast, 2, none, zc_X1_putLast, 0, 0), (yX1_putFirst, cX1_putFirst, 3, none, zc_X1_putFirst, 0, 0), (yX1_copyFrom, cX1_copyFrom, 2, none, zc_X1_copyFrom, 0, 0), (yX3_copyFrom, cX3_copyFrom, 3, none, zc_X3_copyFrom, 0, 0), (yX3_leafOf, cX3_leafOf, 2, (some FieldType.int), zc_X3_leafOf, 0, 0), (yX3_isShown, cX3_isShown, 3, (some FieldType.boolean), zc_X3_isShown, 0, 0), (yX3_leaves, cX3_leaves, 1, (some FieldType.int), zc_X3_leaves, 0, 0), (yX3_cuts, cX3_cuts, 1, (some FieldType.int), zc_X3_cuts, 0, 0), (yX3_leafNumber, cX3_leafNumber, 4, (some FieldType.int), zc_X3_leafNumber, 0, 0), (yX3_shownIn, cX3_shownIn, 2, (some FieldType.int), zc_X3_shownIn, 0, 0), (yX3_tabsIn, cX3_tabsIn, 4, (some FieldType.int), zc_X3_tabsIn, 0, 0), (yX3_tabIn, cX3_tabIn, 5, (some FieldType.int), zc_X3_tabIn, 0, 0), (yX3_leastOf, cX3_leastOf, 2, (some FieldType.int), zc_X3_leastOf, 0, 0), (yX3_fits, cX3_fits, 2, (some FieldType.boolean), zc_X3_fits, 0, 0), (yX3_nearestCut, cX3_nearestCut, 5, (some FieldType.int), zc_X3_nearestCut, 0, 0), (yX3_changeShare, cX3_changeShare, 4, (some FieldType.int), zc_X3_changeShare, 0, 0), (yX3_show, cX3_show, 3, none, zc_X3_show, 0, 0), (yX3_addTab, cX3_addTab, 6, none, zc_X3_addTab, 0, 0), (yX3_addAllTabs, cX3_addAllTabs, 6, none, zc_X3_addAllTabs, 0, 0), (yX3_cutLeaf, cX3_cutLeaf, 9, none, zc_X3_cutLeaf, 0, 0), (yX3_takeOut, cX3_takeOut, 3, none, zc_X3_takeOut, 0, 0), (yX3_nextShown, cX3_nextShown, 7, (some FieldType.int), zc_X3_nextShown, 0, 0), (yX3_dropLeaf, cX3_dropLeaf, 3, none, zc_X3_dropLeaf, 0, 0), (yX3_putInPlaceOf, cX3_putInPlaceOf, 4, none, zc_X3_putInPlaceOf, 0, 0), (yX3_enter, cX3_enter, 5, none, zc_X3_enter, 0, 0), (yX3_newNode, cX3_newNode, 3, (some FieldType.int), zc_X3_newNode, 0, 0), (yX3_settle, cX3_settle, 2, none, zc_X3_settle, 0, 0), (yX3_listNodes, cX3_listNodes, 4, none, zc_X3_listNodes, 0, 0), (yX3_measureLeaves, cX3_measureLeaves, 5, none, zc_X3_measureLeaves, 0, 0), (yX3_measureCuts, cX3_measureCuts, 6, none, zc_X3_measureCuts, 0, 0), (yX3_lay, cX3_lay, 3, none, zc_X3_lay, 0, 0), (yX3_divide, cX3_divide, 8, none, zc_X3_divide, 0, 0), (yX3_firstPart, cX3_firstPart, 5, (some FieldType.int), zc_X3_firstPart, 0, 0), (yX3_isWide, cX3_isWide, 2, (some FieldType.boolean), zc_X3_isWide, 0, 0), (yX3_startOf, cX3_startOf, 4, (some FieldType.int), zc_X3_startOf, 0, 0), (yX3_lengthOf, cX3_lengthOf, 4, (some FieldType.int), zc_X3_lengthOf, 0, 0), (yX3_endOf, cX3_endOf, 3, (some FieldType.int), zc_X3_endOf, 0, 0), (yX3_shownAt, cX3_shownAt, 4, (some FieldType.int), zc_X3_shownAt, 0, 0), (yX3_spans, cX3_spans, 4, (some FieldType.boolean), zc_X3_spans, 0, 0), (yX3_neighbourTo, cX3_neighbourTo, 8, (some FieldType.int), zc_X3_neighbourTo, 0, 0), (yX3_meets, cX3_meets, 5, (some FieldType.boolean), zc_X3_meets, 0, 0), (yX3_commonBorder, cX3_commonBorder, 5, (some FieldType.int), zc_X3_commonBorder, 0, 0), (yX4_prepare, cX4_prepare, 5, none, zc_X4_prepare, 0, 0), (yX4_isTiled, cX4_isTiled, 1, (some FieldType.boolean), zc_X4_isTiled, 0, 0), (yX4_isFloating, cX4_isFloating, 1, (some FieldType.boolean), zc_X4_isFloating, 0, 0), (yX4_isSticky, cX4_isSticky, 1, (some FieldType.boolean), zc_X4_isSticky, 0, 0), (yX4_isOn, cX4_isOn, 2, (some FieldType.boolean), zc_X4_isOn, 0, 0), (yX4_isLooseOn, cX4_isLooseOn, 2, (some FieldType.boolean), zc_X4_isLooseOn, 0, 0), (yX4_canBeWhole, cX4_canBeWhole, 2, (some FieldType.boolean), zc_X4_canBeWhole, 0, 0), (yX4_nearest, cX4_nearest, 4, (some FieldType.int), zc_X4_nearest, 0, 0), (yX4_putAt, cX4_putAt, 4, none, zc_X4_putAt, 0, 0), (yX4_sendTo, cX4_sendTo, 3, none, zc_X4_sendTo, 0, 0), (yX4_coversPoint, cX4_coversPoint, 6, (some FieldType.boolean), zc_X4_coversPoint, 0, 0), (yX4_spans, cX4_spans, 5, (some FieldType.boolean), zc_X4_spans, 0, 0), (yX5_between, cX5_between, 3, (some FieldType.int), zc_X5_between, 0, 0), (yX5_looseOnes, cX5_looseOnes, 4, (some FieldType.int), zc_X5_looseOnes, 0, 0), (yX5_windowsOn, cX5_windowsOn, 4, (some FieldType.int), zc_X5_windowsOn, 0, 0), (yX5_looseOnesFit, cX5_looseOnesFit, 4, (some FieldType.boolean), zc_X5_looseOnesFit, 0, 0), (yX5_sendAll, cX5_sendAll, 4, none, zc_X5_sendAll, 0, 0), (yX5_treeOf, cX5_treeOf, 2, (some (FieldType.object "WindowDesk$Tree")), zc_X5_treeOf, 0, 0), (yX5_layTrees, cX5_layTrees, 2, none, zc_X5_layTrees, 0, 0), (yX5_startOf, cX5_startOf, 3, (some FieldType.int), zc_X5_startOf, 0, 0), (yX5_lengthOf, cX5_lengthOf, 3, (some FieldType.int), zc_X5_lengthOf, 0, 0), (yX5_findRoom, cX5_findRoom, 6, (some FieldType.boolean), zc_X5_findRoom, 0, 0), (yX5_middleOf, cX5_middleOf, 4, (some FieldType.int), zc_X5_middleOf, 0, 0), (yX5_tile, cX5_tile, 6, (some FieldType.boolean), zc_X5_tile, 0, 0), (yX5_leafAtHand, cX5_leafAtHand, 4, (some FieldType.int), zc_X5_leafAtHand, 0, 0), (yX5_tryCut, cX5_tryCut, 6, (some FieldType.boolean), zc_X5_tryCut, 0, 0), (yX5_tryTab, cX5_tryTab, 5, (some FieldType.boolean), zc_X5_tryTab, 0, 0), (yX5_end, cX5_end, 2, none, zc_X5_end, 0, 0), (yX5_giveFocus, cX5_giveFocus, 2, none, zc_X5_giveFocus, 0, 0), (yX5_raise, cX5_raise, 5, none, zc_X5_raise, 0, 0), (yX5_dialogsOf, cX5_dialogsOf, 4, (some FieldType.int), zc_X5_dialogsOf, 0, 0), (yX5_lowestDialogOf, cX5_lowestDialogOf, 3, (some FieldType.int), zc_X5_lowestDialogOf, 0, 0), (yX5_reachFrom, cX5_reachFrom, 4, none, zc_X5_reachFrom, 0, 0), (yX5_tryDrag, cX5_tryDrag, 6, none, zc_X5_tryDrag, 0, 0), (yX5_axisOf, cX5_axisOf, 1, (some FieldType.int), zc_X5_axisOf, 0, 0), (yX5_isAfter, cX5_isAfter, 1, (some FieldType.boolean), zc_X5_isAfter, 0, 0), (yX5_gatherWithDialogs, cX5_gatherWithDialogs, 3, none, zc_X5_gatherWithDialogs, 0, 0), (yX5_gatherDialogs, cX5_gatherDialogs, 3, none, zc_X5_gatherDialogs, 0, 0), (yX5_groupCanBeWhole, cX5_groupCanBeWhole, 3, (some FieldType.boolean), zc_X5_groupCanBeWhole, 0, 0), (yX5_sendGroup, cX5_sendGroup, 3, none, zc_X5_sendGroup, 0, 0), (yX5_keepAll, cX5_keepAll, 4, none, zc_X5_keepAll, 0, 0), (yX5_forgetKeptWith, cX5_forgetKeptWith, 3, none, zc_X5_forgetKeptWith, 0, 0), (yX5_takeBack, cX5_takeBack, 3, none, zc_X5_takeBack, 0, 0), (yX5_forgetKeptWithGroup, cX5_forgetKeptWithGroup, 2, none, zc_X5_forgetKeptWithGroup, 0, 0), (yX6_half, cX6_half, 1, (some FieldType.int), zc_X6_half, 0, 0), (yX6_nearest, cX6_nearest, 2, (some FieldType.int), zc_X6_nearest, 0, 0), (yX6_isFloating, cX6_isFloating, 2, (some FieldType.boolean), zc_X6_isFloating, 0, 0), (yX6_copyTree, cX6_copyTree, 7, none, zc_X6_copyTree, 0, 0), (yX6_newNode, cX6_newNode, 4, (some FieldType.int), zc_X6_newNode, 0, 0), (yX6_newLeaf, cX6_newLeaf, 4, (some FieldType.int), zc_X6_newLeaf, 0, 0), (yX6_addTab, cX6_addTab, 4, none, zc_X6_addTab, 0, 0), (yX6_placeOfTab, cX6_placeOfTab, 5, (some FieldType.int), zc_X6_placeOfTab, 0, 0), (yX6_leafOf, cX6_leafOf, 4, (some FieldType.int), zc_X6_leafOf, 0, 0), (yX6_above, cX6_above, 4, (some FieldType.int), zc_X6_above, 0, 0), (yX6_stand, cX6_stand, 5, none, zc_X6_stand, 0, 0), (yX6_leave, cX6_leave, 9, none, zc_X6_leave, 0, 0), (yX6_cutLeaf, cX6_cutLeaf, 9, none, zc_X6_cutLeaf, 0, 0), (yX6_least, cX6_least, 8, (some FieldType.int), zc_X6_least, 0, 0), (yX6_fits, cX6_fits, 4, (some FieldType.boolean), zc_X6_fits, 0, 0), (yX6_lay, cX6_lay, 13, none, zc_X6_lay, 0, 0), (yX6_layAll, cX6_layAll, 2, none, zc_X6_layAll, 0, 0), (yX6_canBeWhole, cX6_canBeWhole, 4, (some FieldType.boolean), zc_X6_canBeWhole, 0, 0), (yX6_putAt, cX6_putAt, 5, none, zc_X6_putAt, 0, 0), (yX6_isOnScreen, cX6_isOnScreen, 3, (some FieldType.boolean), zc_X6_isOnScreen, 0, 0), (yX6_unstack, cX6_unstack, 4, none, zc_X6_unstack, 0, 0), (yX6_raise, cX6_raise, 6, none, zc_X6_raise, 0, 0), (yX6_front, cX6_front, 5, none, zc_X6_front, 0, 0), (yX6_focused, cX6_focused, 2, none, zc_X6_focused, 0, 0), (yX6_forget, cX6_forget, 3, none, zc_X6_forget, 0, 0), (yX6_spread, cX6_spread, 3, none, zc_X6_spread, 0, 0), (yX6_comesBack, cX6_comesBack, 4, (some FieldType.boolean), zc_X6_comesBack, 0, 0), (yX6_bring, cX6_bring, 7, (some FieldType.int), zc_X6_bring, 0, 0), (yX6_clearLeaves, cX6_clearLeaves, 2, none, zc_X6_clearLeaves, 0, 0), (yX6_findLeaves, cX6_findLeaves, 3, none, zc_X6_findLeaves, 0, 0), (yX6_moveTabs, cX6_moveTabs, 9, (some FieldType.int), zc_X6_moveTabs, 0, 0), (yX6_tile, cX6_tile, 6, (some FieldType.boolean), zc_X6_tile, 0, 0), (yX6_takesTrial, cX6_takesTrial, 2, (some FieldType.boolean), zc_X6_takesTrial, 0, 0), (yX6_closed, cX6_closed, 5, (some FieldType.int), zc_X6_closed, 0, 0), (yX6_isShown, cX6_isShown, 2, (some FieldType.boolean), zc_X6_isShown, 0, 0), (yX6_common, cX6_common, 6, (some FieldType.int), zc_X6_common, 0, 0), (yX6_neighbourOf, cX6_neighbourOf, 11, (some FieldType.int), zc_X6_neighbourOf, 0, 0), (yX6_areaOf, cX6_areaOf, 4, (some FieldType.int), zc_X6_areaOf, 0, 0), (yX6_placeIn, cX6_placeIn, 4, (some FieldType.int), zc_X6_placeIn, 0, 0), (yX6_lies, cX6_lies, 7, (some FieldType.boolean), zc_X6_lies, 0, 0), (yJ9_floorDiv_7cf53, cJ9_floorDiv_7cf53, 3, (some FieldType.int), zc_J9_floorDiv_7cf53, 0, 0), (yJ9_max_7cf53, cJ9_max_7cf53, 2, (some FieldType.int), zc_J9_max_7cf53, 0, 0), (yJ9_min_7cf53, cJ9_min_7cf53, 2, (some FieldType.int), zc_J9_min_7cf53, 0, 0)]
/-- the places in lw_tbl: code, initialized, instanceMethod or static, selects; 0 static, 1 instance, 2 constructor -/
def zi_mt : List (Nat × Nat × Nat × Nat × Nat) := [(110, 96, 109, 0, 2), (122, 97, 121, 0, 2), (136, 98, 135, 0, 2), (205, 100, 204, 0, 2), (236, 101, 235, 0, 2), (244, 102, 243, 0, 2), (877, 103, 876, 0, 2), (149, 97, 147, 148, 1), (145, 98, 143, 144, 1), (152, 99, 151, 0, 0), (313, 96, 311, 312, 1), (498, 96, 496, 497, 1), (556, 96, 554, 555, 1), (685, 96, 683, 684, 1), (698, 96, 696, 697, 1), (702, 96, 700, 701, 1), (706, 96, 704, 705, 1), (747, 96, 745, 746, 1), (759, 96, 757, 758, 1), (769, 96, 767, 768, 1), (777, 96, 775, 776, 1), (792, 96, 790, 791, 1), (796, 96, 794, 795, 1), (801, 96, 799, 800, 1), (809, 96, 807, 808, 1), (832, 96, 830, 831, 1), (836, 96, 834, 835, 1), (850, 96, 848, 849, 1), (860, 96, 858, 859, 1), (316, 96, 315, 0, 0), (319, 96, 318, 0, 0), (559, 96, 558, 0, 0), (709, 96, 708, 0, 0), (780, 96, 779, 0, 0), (772, 96, 771, 0, 0), (352, 96, 351, 2, 1), (713, 96, 712, 43, 1), (502, 96, 501, 19, 1), (572, 96, 571, 25, 1), (864, 96, 863, 52, 1), (872, 96, 871, 54, 1), (868, 96, 867, 53, 1), (563, 96, 562, 24, 1), (328, 96, 327, 0, 1), (389, 97, 387, 388, 1), (393, 97, 391, 392, 1), (324, 101, 322, 323, 1), (476, 102, 474, 475, 1), (805, 100, 803, 804, 1), (982, 103, 980, 981, 1), (1065, 103, 1063, 1064, 1), (1085, 103, 1083, 1084, 1), (1151, 103, 1149, 1150, 1), (1163, 103, 1161, 1162, 1), (1167, 103, 1165, 1166, 1), (1171, 103, 1169, 1170, 1), (1186, 103, 1184, 1185, 1), (1190, 103, 1188, 1189, 1), (1194, 103, 1192, 1193, 1), (1198, 103, 1196, 1197, 1), (1202, 103, 1200, 1201, 1), (1206, 103, 1204, 1205, 1), (1213, 103, 1211, 1212, 1), (1217, 103, 1215, 1216, 1), (1225, 103, 1223, 1224, 1), (1229, 103, 1227, 1228, 1), (1233, 103, 1231, 1232, 1), (1237, 103, 1235, 1236, 1), (985, 103, 984, 0, 0), (1089, 103, 1088, 76, 1), (993, 103, 992, 0, 0), (990, 103, 989, 55, 1), (1098, 103, 1097, 78, 1), (1093, 103, 1092, 77, 1), (340, 102, 338, 339, 1), (551, 102, 549, 550, 1), (401, 97, 399, 400, 1), (539, 97, 537, 538, 1), (397, 97, 395, 396, 1), (662, 97, 660, 661, 1), (658, 97, 656, 657, 1), (460, 97, 458, 459, 1), (456, 98, 454, 455, 1), (344, 98, 342, 343, 1), (717, 98, 715, 716, 1), (510, 98, 508, 509, 1), (841, 98, 839, 840, 1), (514, 98, 512, 513, 1), (855, 98, 853, 854, 1), (518, 98, 516, 517, 1), (522, 98, 520, 521, 1), (336, 98, 334, 335, 1), (332, 98, 330, 331, 1), (784, 98, 782, 783, 1), (788, 98, 786, 787, 1), (668, 98, 666, 667, 1), (527, 98, 525, 526, 1), (506, 98, 504, 505, 1), (621, 98, 619, 620, 1), (380, 98, 378, 379, 1), (385, 98, 384, 6, 1), (405, 98, 404, 7, 1), (409, 98, 408, 8, 1), (535, 98, 534, 21, 1), (531, 98, 530, 20, 1), (413, 98, 412, 9, 1), (417, 98, 416, 10, 1), (421, 98, 420, 11, 1), (428, 98, 427, 12, 1), (582, 98, 580, 581, 1), (586, 98, 585, 27, 1), (590, 98, 589, 28, 1), (613, 98, 611, 612, 1), (646, 98, 644, 645, 1), (638, 98, 636, 637, 1), (737, 98, 736, 45, 1), (824, 98, 822, 823, 1), (828, 98, 827, 50, 1), (721, 98, 719, 720, 1), (726, 98, 725, 44, 1), (742, 98, 741, 46, 1), (595, 100, 593, 594, 1), (372, 100, 370, 371, 1), (360, 100, 358, 359, 1), (568, 100, 566, 567, 1), (488, 100, 486, 487, 1), (484, 100, 482, 483, 1), (364, 100, 362, 363, 1), (445, 100, 444, 14, 1), (441, 100, 439, 440, 1), (436, 100, 434, 435, 1), (813, 100, 811, 812, 1), (820, 100, 819, 49, 1), (448, 96, 447, 0, 0), (846, 96, 845, 51, 1), (543, 96, 542, 22, 1), (480, 96, 479, 17, 1), (493, 96, 492, 18, 1), (376, 96, 375, 5, 1), (578, 96, 577, 26, 1), (642, 96, 641, 36, 1), (634, 96, 633, 35, 1), (599, 96, 598, 29, 1), (630, 96, 629, 34, 1), (603, 96, 602, 30, 1), (607, 96, 606, 31, 1), (617, 96, 616, 32, 1), (625, 96, 624, 33, 1), (693, 96, 692, 42, 1), (654, 96, 653, 37, 1), (672, 96, 671, 38, 1), (677, 96, 676, 39, 1), (681, 96, 680, 40, 1), (754, 96, 753, 47, 1), (763, 96, 762, 48, 1), (729, 96, 728, 0, 0), (732, 96, 731, 0, 0), (689, 96, 688, 41, 1), (348, 96, 347, 1, 1), (356, 96, 355, 3, 1), (432, 96, 431, 13, 1), (547, 96, 546, 23, 1), (472, 96, 471, 16, 1), (368, 96, 367, 4, 1), (468, 96, 467, 15, 1), (1130, 103, 1129, 0, 0), (1056, 103, 1055, 0, 0), (1127, 103, 1126, 85, 1), (1049, 103, 1048, 69, 1), (1077, 103, 1076, 74, 1), (1073, 103, 1072, 73, 1), (1081, 103, 1080, 75, 1), (1037, 103, 1036, 66, 1), (1033, 103, 1032, 65, 1), (1041, 103, 1040, 67, 1), (1045, 103, 1044, 68, 1), (1029, 103, 1028, 64, 1), (1118, 103, 1117, 83, 1), (1009, 103, 1008, 59, 1), (1005, 103, 1004, 58, 1), (1114, 103, 1113, 82, 1), (1110, 103, 1109, 81, 1), (1013, 103, 1012, 60, 1), (1053, 103, 1052, 70, 1), (1060, 103, 1059, 71, 1), (1146, 103, 1145, 89, 1), (1142, 103, 1141, 88, 1), (1138, 103, 1137, 87, 1), (1134, 103, 1133, 86, 1), (1159, 103, 1158, 91, 1), (1001, 103, 1000, 57, 1), (997, 103, 996, 56, 1), (1017, 103, 1016, 61, 1), (1021, 103, 1020, 62, 1), (1025, 103, 1024, 63, 1), (1069, 103, 1068, 72, 1), (1102, 103, 1101, 79, 1), (1106, 103, 1105, 80, 1), (1155, 103, 1154, 90, 1), (1175, 103, 1174, 92, 1), (1182, 103, 1181, 0, 0), (1179, 103, 1178, 93, 1), (1122, 103, 1121, 84, 1), (1209, 103, 1208, 0, 0), (1221, 103, 1220, 94, 1), (649, 104, 648, 0, 0), (424, 104, 423, 0, 0), (451, 104, 450, 0, 0)]
def zc_L_0 : List zi_Row := [(0, .new 7, 3, 5, 0, 106, 0), (3, .dup, 1, 0, 0, 0, 0), (4, .invokespecial 9, 3, 0, 1, 108, 0), (7, .astore_n 1, 1, 0, 0, 0, 0), (8, .new 10, 3, 6, 0, 873, 0), (11, .dup, 1, 0, 0, 0, 0), (12, .invokespecial 12, 3, 6, 1, 875, 0), (15, .astore_n 2, 1, 0, 0, 0, 0), (16, .iconst 0, 1, 0, 0, 0, 0), (17, .istore_n 3, 1, 0, 0, 0, 0), (18, .iload_n 3, 1, 0, 0, 0, 0), (19, .aload_n 0, 1, 0, 0, 0, 0), (20, .arraylength, 1, 0, 0, 0, 0), (21, .iconst 5, 1, 0, 0, 0, 0), (22, .isub, 1, 0, 0, 0, 0), (23, .if_icmp .gt 744, 3, 767, 0, 0, 0), (26, .aload_n 0, 1, 0, 0, 0, 0), (27, .iload_n 3, 1, 0, 0, 0, 0), (28, .iaload, 1, 0, 0, 0, 0), (29, .bipush 31, 2, 0, 0, 0, 0), (31, .iand, 1, 0, 0, 0, 0), (32, .tableswitch 729 0 18 #[92, 135, 158, 211, 234, 257, 270, 293, 326, 369, 412, 455, 488, 521, 554, 597, 630, 663, 706], 92, 0, 0, 0, 0), (124, .aload_n 1, 1, 0, 0, 0, 0), (125, .aload_n 0, 1, 0, 0, 0, 0), (126, .iload_n 3, 1, 0, 0, 0, 0), (127, .iconst 1, 1, 0, 0, 0, 0), (128, .iadd, 1, 0, 0, 0, 0), (129, .iaload, 1, 0, 0, 0, 0), (130, .aload_n 0, 1, 0, 0, 0, 0), (131, .iload_n 3, 1, 0, 0, 0, 0), (132, .iconst 2, 1, 0, 0, 0, 0), (133, .iadd, 1, 0, 0, 0, 0), (134, .iaload, 1, 0, 0, 0, 0), (135, .aload_n 0, 1, 0, 0, 0, 0), (136, .iload_n 3, 1, 0, 0, 0, 0), (137, .iconst 3, 1, 0, 0, 0, 0), (138, .iadd, 1, 0, 0, 0, 0), (139, .iaload, 1, 0, 0, 0, 0), (140, .invokevirtual 13, 3, 10, 4, 310, 5), (143, .pop, 1, 0, 0, 0, 0)]
def zc_L_1 : List zi_Row := [(144, .aload_n 2, 1, 0, 0, 0, 0), (145, .aload_n 0, 1, 0, 0, 0, 0), (146, .iload_n 3, 1, 0, 0, 0, 0), (147, .iconst 1, 1, 0, 0, 0, 0), (148, .iadd, 1, 0, 0, 0, 0), (149, .iaload, 1, 0, 0, 0, 0), (150, .aload_n 0, 1, 0, 0, 0, 0), (151, .iload_n 3, 1, 0, 0, 0, 0), (152, .iconst 2, 1, 0, 0, 0, 0), (153, .iadd, 1, 0, 0, 0, 0), (154, .iaload, 1, 0, 0, 0, 0), (155, .aload_n 0, 1, 0, 0, 0, 0), (156, .iload_n 3, 1, 0, 0, 0, 0), (157, .iconst 3, 1, 0, 0, 0, 0), (158, .iadd, 1, 0, 0, 0, 0), (159, .iaload, 1, 0, 0, 0, 0), (160, .invokevirtual 17, 3, 49, 4, 979, 6), (163, .pop, 1, 0, 0, 0, 0), (164, .goto 597, 3, 761, 0, 0, 0), (167, .aload_n 1, 1, 0, 0, 0, 0), (168, .aload_n 0, 1, 0, 0, 0, 0), (169, .iload_n 3, 1, 0, 0, 0, 0), (170, .iconst 1, 1, 0, 0, 0, 0), (171, .iadd, 1, 0, 0, 0, 0), (172, .iaload, 1, 0, 0, 0, 0), (173, .invokevirtual 18, 3, 11, 2, 495, 5), (176, .pop, 1, 0, 0, 0, 0), (177, .aload_n 2, 1, 0, 0, 0, 0), (178, .aload_n 0, 1, 0, 0, 0, 0), (179, .iload_n 3, 1, 0, 0, 0, 0), (180, .iconst 1, 1, 0, 0, 0, 0), (181, .iadd, 1, 0, 0, 0, 0), (182, .iaload, 1, 0, 0, 0, 0), (183, .invokevirtual 22, 3, 50, 2, 1062, 6), (186, .pop, 1, 0, 0, 0, 0), (187, .goto 574, 3, 761, 0, 0, 0), (190, .aload_n 1, 1, 0, 0, 0, 0), (191, .aload_n 0, 1, 0, 0, 0, 0), (192, .iload_n 3, 1, 0, 0, 0, 0), (193, .iconst 1, 1, 0, 0, 0, 0)]
def zc_L_2 : List zi_Row := [(194, .iadd, 1, 0, 0, 0, 0), (195, .iaload, 1, 0, 0, 0, 0), (196, .aload_n 0, 1, 0, 0, 0, 0), (197, .iload_n 3, 1, 0, 0, 0, 0), (198, .iconst 2, 1, 0, 0, 0, 0), (199, .iadd, 1, 0, 0, 0, 0), (200, .iaload, 1, 0, 0, 0, 0), (201, .aload_n 0, 1, 0, 0, 0, 0), (202, .iload_n 3, 1, 0, 0, 0, 0), (203, .iconst 3, 1, 0, 0, 0, 0), (204, .iadd, 1, 0, 0, 0, 0), (205, .iaload, 1, 0, 0, 0, 0), (206, .aload_n 0, 1, 0, 0, 0, 0), (207, .iload_n 3, 1, 0, 0, 0, 0), (208, .iconst 4, 1, 0, 0, 0, 0), (209, .iadd, 1, 0, 0, 0, 0), (210, .iaload, 1, 0, 0, 0, 0), (211, .invokevirtual 23, 3, 12, 5, 553, 5), (214, .pop, 1, 0, 0, 0, 0), (215, .aload_n 2, 1, 0, 0, 0, 0), (216, .aload_n 0, 1, 0, 0, 0, 0), (217, .iload_n 3, 1, 0, 0, 0, 0), (218, .iconst 1, 1, 0, 0, 0, 0), (219, .iadd, 1, 0, 0, 0, 0), (220, .iaload, 1, 0, 0, 0, 0), (221, .aload_n 0, 1, 0, 0, 0, 0), (222, .iload_n 3, 1, 0, 0, 0, 0), (223, .iconst 2, 1, 0, 0, 0, 0), (224, .iadd, 1, 0, 0, 0, 0), (225, .iaload, 1, 0, 0, 0, 0), (226, .aload_n 0, 1, 0, 0, 0, 0), (227, .iload_n 3, 1, 0, 0, 0, 0), (228, .iconst 3, 1, 0, 0, 0, 0), (229, .iadd, 1, 0, 0, 0, 0), (230, .iaload, 1, 0, 0, 0, 0), (231, .aload_n 0, 1, 0, 0, 0, 0), (232, .iload_n 3, 1, 0, 0, 0, 0), (233, .iconst 4, 1, 0, 0, 0, 0), (234, .iadd, 1, 0, 0, 0, 0), (235, .iaload, 1, 0, 0, 0, 0)]
def zc_L_3 : List zi_Row := [(236, .invokevirtual 27, 3, 51, 5, 1082, 6), (239, .pop, 1, 0, 0, 0, 0), (240, .goto 521, 3, 761, 0, 0, 0), (243, .aload_n 1, 1, 0, 0, 0, 0), (244, .aload_n 0, 1, 0, 0, 0, 0), (245, .iload_n 3, 1, 0, 0, 0, 0), (246, .iconst 1, 1, 0, 0, 0, 0), (247, .iadd, 1, 0, 0, 0, 0), (248, .iaload, 1, 0, 0, 0, 0), (249, .invokevirtual 28, 3, 13, 2, 682, 5), (252, .pop, 1, 0, 0, 0, 0), (253, .aload_n 2, 1, 0, 0, 0, 0), (254, .aload_n 0, 1, 0, 0, 0, 0), (255, .iload_n 3, 1, 0, 0, 0, 0), (256, .iconst 1, 1, 0, 0, 0, 0), (257, .iadd, 1, 0, 0, 0, 0), (258, .iaload, 1, 0, 0, 0, 0), (259, .invokevirtual 31, 3, 52, 2, 1148, 6), (262, .pop, 1, 0, 0, 0, 0), (263, .goto 498, 3, 761, 0, 0, 0), (266, .aload_n 1, 1, 0, 0, 0, 0), (267, .aload_n 0, 1, 0, 0, 0, 0), (268, .iload_n 3, 1, 0, 0, 0, 0), (269, .iconst 1, 1, 0, 0, 0, 0), (270, .iadd, 1, 0, 0, 0, 0), (271, .iaload, 1, 0, 0, 0, 0), (272, .invokevirtual 32, 3, 14, 2, 695, 5), (275, .pop, 1, 0, 0, 0, 0), (276, .aload_n 2, 1, 0, 0, 0, 0), (277, .aload_n 0, 1, 0, 0, 0, 0), (278, .iload_n 3, 1, 0, 0, 0, 0), (279, .iconst 1, 1, 0, 0, 0, 0), (280, .iadd, 1, 0, 0, 0, 0), (281, .iaload, 1, 0, 0, 0, 0), (282, .invokevirtual 35, 3, 53, 2, 1160, 6), (285, .pop, 1, 0, 0, 0, 0), (286, .goto 475, 3, 761, 0, 0, 0), (289, .aload_n 1, 1, 0, 0, 0, 0), (290, .invokevirtual 36, 3, 15, 1, 699, 5), (293, .pop, 1, 0, 0, 0, 0)]
def zc_L_4 : List zi_Row := [(294, .aload_n 2, 1, 0, 0, 0, 0), (295, .invokevirtual 40, 3, 54, 1, 1164, 6), (298, .pop, 1, 0, 0, 0, 0), (299, .goto 462, 3, 761, 0, 0, 0), (302, .aload_n 1, 1, 0, 0, 0, 0), (303, .aload_n 0, 1, 0, 0, 0, 0), (304, .iload_n 3, 1, 0, 0, 0, 0), (305, .iconst 1, 1, 0, 0, 0, 0), (306, .iadd, 1, 0, 0, 0, 0), (307, .iaload, 1, 0, 0, 0, 0), (308, .invokevirtual 41, 3, 16, 2, 703, 5), (311, .pop, 1, 0, 0, 0, 0), (312, .aload_n 2, 1, 0, 0, 0, 0), (313, .aload_n 0, 1, 0, 0, 0, 0), (314, .iload_n 3, 1, 0, 0, 0, 0), (315, .iconst 1, 1, 0, 0, 0, 0), (316, .iadd, 1, 0, 0, 0, 0), (317, .iaload, 1, 0, 0, 0, 0), (318, .invokevirtual 44, 3, 55, 2, 1168, 6), (321, .pop, 1, 0, 0, 0, 0), (322, .goto 439, 3, 761, 0, 0, 0), (325, .aload_n 1, 1, 0, 0, 0, 0), (326, .aload_n 0, 1, 0, 0, 0, 0), (327, .iload_n 3, 1, 0, 0, 0, 0), (328, .iconst 1, 1, 0, 0, 0, 0), (329, .iadd, 1, 0, 0, 0, 0), (330, .iaload, 1, 0, 0, 0, 0), (331, .aload_n 0, 1, 0, 0, 0, 0), (332, .iload_n 3, 1, 0, 0, 0, 0), (333, .iconst 2, 1, 0, 0, 0, 0), (334, .iadd, 1, 0, 0, 0, 0), (335, .iaload, 1, 0, 0, 0, 0), (336, .invokevirtual 45, 3, 17, 3, 744, 5), (339, .pop, 1, 0, 0, 0, 0), (340, .aload_n 2, 1, 0, 0, 0, 0), (341, .aload_n 0, 1, 0, 0, 0, 0), (342, .iload_n 3, 1, 0, 0, 0, 0), (343, .iconst 1, 1, 0, 0, 0, 0), (344, .iadd, 1, 0, 0, 0, 0), (345, .iaload, 1, 0, 0, 0, 0)]
def zc_L_5 : List zi_Row := [(346, .aload_n 0, 1, 0, 0, 0, 0), (347, .iload_n 3, 1, 0, 0, 0, 0), (348, .iconst 2, 1, 0, 0, 0, 0), (349, .iadd, 1, 0, 0, 0, 0), (350, .iaload, 1, 0, 0, 0, 0), (351, .invokevirtual 49, 3, 56, 3, 1183, 6), (354, .pop, 1, 0, 0, 0, 0), (355, .goto 406, 3, 761, 0, 0, 0), (358, .aload_n 1, 1, 0, 0, 0, 0), (359, .aload_n 0, 1, 0, 0, 0, 0), (360, .iload_n 3, 1, 0, 0, 0, 0), (361, .iconst 1, 1, 0, 0, 0, 0), (362, .iadd, 1, 0, 0, 0, 0), (363, .iaload, 1, 0, 0, 0, 0), (364, .aload_n 0, 1, 0, 0, 0, 0), (365, .iload_n 3, 1, 0, 0, 0, 0), (366, .iconst 2, 1, 0, 0, 0, 0), (367, .iadd, 1, 0, 0, 0, 0), (368, .iaload, 1, 0, 0, 0, 0), (369, .aload_n 0, 1, 0, 0, 0, 0), (370, .iload_n 3, 1, 0, 0, 0, 0), (371, .iconst 3, 1, 0, 0, 0, 0), (372, .iadd, 1, 0, 0, 0, 0), (373, .iaload, 1, 0, 0, 0, 0), (374, .invokevirtual 50, 3, 18, 4, 756, 5), (377, .pop, 1, 0, 0, 0, 0), (378, .aload_n 2, 1, 0, 0, 0, 0), (379, .aload_n 0, 1, 0, 0, 0, 0), (380, .iload_n 3, 1, 0, 0, 0, 0), (381, .iconst 1, 1, 0, 0, 0, 0), (382, .iadd, 1, 0, 0, 0, 0), (383, .iaload, 1, 0, 0, 0, 0), (384, .aload_n 0, 1, 0, 0, 0, 0), (385, .iload_n 3, 1, 0, 0, 0, 0), (386, .iconst 2, 1, 0, 0, 0, 0), (387, .iadd, 1, 0, 0, 0, 0), (388, .iaload, 1, 0, 0, 0, 0), (389, .aload_n 0, 1, 0, 0, 0, 0), (390, .iload_n 3, 1, 0, 0, 0, 0), (391, .iconst 3, 1, 0, 0, 0, 0)]
def zc_L_6 : List zi_Row := [(392, .iadd, 1, 0, 0, 0, 0), (393, .iaload, 1, 0, 0, 0, 0), (394, .invokevirtual 53, 3, 57, 4, 1187, 6), (397, .pop, 1, 0, 0, 0, 0), (398, .goto 363, 3, 761, 0, 0, 0), (401, .aload_n 1, 1, 0, 0, 0, 0), (402, .aload_n 0, 1, 0, 0, 0, 0), (403, .iload_n 3, 1, 0, 0, 0, 0), (404, .iconst 1, 1, 0, 0, 0, 0), (405, .iadd, 1, 0, 0, 0, 0), (406, .iaload, 1, 0, 0, 0, 0), (407, .aload_n 0, 1, 0, 0, 0, 0), (408, .iload_n 3, 1, 0, 0, 0, 0), (409, .iconst 2, 1, 0, 0, 0, 0), (410, .iadd, 1, 0, 0, 0, 0), (411, .iaload, 1, 0, 0, 0, 0), (412, .aload_n 0, 1, 0, 0, 0, 0), (413, .iload_n 3, 1, 0, 0, 0, 0), (414, .iconst 3, 1, 0, 0, 0, 0), (415, .iadd, 1, 0, 0, 0, 0), (416, .iaload, 1, 0, 0, 0, 0), (417, .invokevirtual 54, 3, 19, 4, 766, 5), (420, .pop, 1, 0, 0, 0, 0), (421, .aload_n 2, 1, 0, 0, 0, 0), (422, .aload_n 0, 1, 0, 0, 0, 0), (423, .iload_n 3, 1, 0, 0, 0, 0), (424, .iconst 1, 1, 0, 0, 0, 0), (425, .iadd, 1, 0, 0, 0, 0), (426, .iaload, 1, 0, 0, 0, 0), (427, .aload_n 0, 1, 0, 0, 0, 0), (428, .iload_n 3, 1, 0, 0, 0, 0), (429, .iconst 2, 1, 0, 0, 0, 0), (430, .iadd, 1, 0, 0, 0, 0), (431, .iaload, 1, 0, 0, 0, 0), (432, .aload_n 0, 1, 0, 0, 0, 0), (433, .iload_n 3, 1, 0, 0, 0, 0), (434, .iconst 3, 1, 0, 0, 0, 0), (435, .iadd, 1, 0, 0, 0, 0), (436, .iaload, 1, 0, 0, 0, 0), (437, .invokevirtual 57, 3, 58, 4, 1191, 6)]
def zc_L_7 : List zi_Row := [(440, .pop, 1, 0, 0, 0, 0), (441, .goto 320, 3, 761, 0, 0, 0), (444, .aload_n 1, 1, 0, 0, 0, 0), (445, .aload_n 0, 1, 0, 0, 0, 0), (446, .iload_n 3, 1, 0, 0, 0, 0), (447, .iconst 1, 1, 0, 0, 0, 0), (448, .iadd, 1, 0, 0, 0, 0), (449, .iaload, 1, 0, 0, 0, 0), (450, .aload_n 0, 1, 0, 0, 0, 0), (451, .iload_n 3, 1, 0, 0, 0, 0), (452, .iconst 2, 1, 0, 0, 0, 0), (453, .iadd, 1, 0, 0, 0, 0), (454, .iaload, 1, 0, 0, 0, 0), (455, .aload_n 0, 1, 0, 0, 0, 0), (456, .iload_n 3, 1, 0, 0, 0, 0), (457, .iconst 3, 1, 0, 0, 0, 0), (458, .iadd, 1, 0, 0, 0, 0), (459, .iaload, 1, 0, 0, 0, 0), (460, .invokevirtual 58, 3, 20, 4, 774, 5), (463, .pop, 1, 0, 0, 0, 0), (464, .aload_n 2, 1, 0, 0, 0, 0), (465, .aload_n 0, 1, 0, 0, 0, 0), (466, .iload_n 3, 1, 0, 0, 0, 0), (467, .iconst 1, 1, 0, 0, 0, 0), (468, .iadd, 1, 0, 0, 0, 0), (469, .iaload, 1, 0, 0, 0, 0), (470, .aload_n 0, 1, 0, 0, 0, 0), (471, .iload_n 3, 1, 0, 0, 0, 0), (472, .iconst 2, 1, 0, 0, 0, 0), (473, .iadd, 1, 0, 0, 0, 0), (474, .iaload, 1, 0, 0, 0, 0), (475, .aload_n 0, 1, 0, 0, 0, 0), (476, .iload_n 3, 1, 0, 0, 0, 0), (477, .iconst 3, 1, 0, 0, 0, 0), (478, .iadd, 1, 0, 0, 0, 0), (479, .iaload, 1, 0, 0, 0, 0), (480, .invokevirtual 61, 3, 59, 4, 1195, 6), (483, .pop, 1, 0, 0, 0, 0), (484, .goto 277, 3, 761, 0, 0, 0), (487, .aload_n 1, 1, 0, 0, 0, 0)]
def zc_L_8 : List zi_Row := [(488, .aload_n 0, 1, 0, 0, 0, 0), (489, .iload_n 3, 1, 0, 0, 0, 0), (490, .iconst 1, 1, 0, 0, 0, 0), (491, .iadd, 1, 0, 0, 0, 0), (492, .iaload, 1, 0, 0, 0, 0), (493, .aload_n 0, 1, 0, 0, 0, 0), (494, .iload_n 3, 1, 0, 0, 0, 0), (495, .iconst 2, 1, 0, 0, 0, 0), (496, .iadd, 1, 0, 0, 0, 0), (497, .iaload, 1, 0, 0, 0, 0), (498, .invokevirtual 62, 3, 21, 3, 789, 5), (501, .pop, 1, 0, 0, 0, 0), (502, .aload_n 2, 1, 0, 0, 0, 0), (503, .aload_n 0, 1, 0, 0, 0, 0), (504, .iload_n 3, 1, 0, 0, 0, 0), (505, .iconst 1, 1, 0, 0, 0, 0), (506, .iadd, 1, 0, 0, 0, 0), (507, .iaload, 1, 0, 0, 0, 0), (508, .aload_n 0, 1, 0, 0, 0, 0), (509, .iload_n 3, 1, 0, 0, 0, 0), (510, .iconst 2, 1, 0, 0, 0, 0), (511, .iadd, 1, 0, 0, 0, 0), (512, .iaload, 1, 0, 0, 0, 0), (513, .invokevirtual 65, 3, 60, 3, 1199, 6), (516, .pop, 1, 0, 0, 0, 0), (517, .goto 244, 3, 761, 0, 0, 0), (520, .aload_n 1, 1, 0, 0, 0, 0), (521, .aload_n 0, 1, 0, 0, 0, 0), (522, .iload_n 3, 1, 0, 0, 0, 0), (523, .iconst 1, 1, 0, 0, 0, 0), (524, .iadd, 1, 0, 0, 0, 0), (525, .iaload, 1, 0, 0, 0, 0), (526, .aload_n 0, 1, 0, 0, 0, 0), (527, .iload_n 3, 1, 0, 0, 0, 0), (528, .iconst 2, 1, 0, 0, 0, 0), (529, .iadd, 1, 0, 0, 0, 0), (530, .iaload, 1, 0, 0, 0, 0), (531, .invokevirtual 66, 3, 22, 3, 793, 5), (534, .pop, 1, 0, 0, 0, 0), (535, .aload_n 2, 1, 0, 0, 0, 0)]
def zc_L_9 : List zi_Row := [(536, .aload_n 0, 1, 0, 0, 0, 0), (537, .iload_n 3, 1, 0, 0, 0, 0), (538, .iconst 1, 1, 0, 0, 0, 0), (539, .iadd, 1, 0, 0, 0, 0), (540, .iaload, 1, 0, 0, 0, 0), (541, .aload_n 0, 1, 0, 0, 0, 0), (542, .iload_n 3, 1, 0, 0, 0, 0), (543, .iconst 2, 1, 0, 0, 0, 0), (544, .iadd, 1, 0, 0, 0, 0), (545, .iaload, 1, 0, 0, 0, 0), (546, .invokevirtual 69, 3, 61, 3, 1203, 6), (549, .pop, 1, 0, 0, 0, 0), (550, .goto 211, 3, 761, 0, 0, 0), (553, .aload_n 1, 1, 0, 0, 0, 0), (554, .aload_n 0, 1, 0, 0, 0, 0), (555, .iload_n 3, 1, 0, 0, 0, 0), (556, .iconst 1, 1, 0, 0, 0, 0), (557, .iadd, 1, 0, 0, 0, 0), (558, .iaload, 1, 0, 0, 0, 0), (559, .aload_n 0, 1, 0, 0, 0, 0), (560, .iload_n 3, 1, 0, 0, 0, 0), (561, .iconst 2, 1, 0, 0, 0, 0), (562, .iadd, 1, 0, 0, 0, 0), (563, .iaload, 1, 0, 0, 0, 0), (564, .invokevirtual 70, 3, 23, 3, 798, 5), (567, .aload_n 2, 1, 0, 0, 0, 0), (568, .aload_n 0, 1, 0, 0, 0, 0), (569, .iload_n 3, 1, 0, 0, 0, 0), (570, .iconst 1, 1, 0, 0, 0, 0), (571, .iadd, 1, 0, 0, 0, 0), (572, .iaload, 1, 0, 0, 0, 0), (573, .aload_n 0, 1, 0, 0, 0, 0), (574, .iload_n 3, 1, 0, 0, 0, 0), (575, .iconst 2, 1, 0, 0, 0, 0), (576, .iadd, 1, 0, 0, 0, 0), (577, .iaload, 1, 0, 0, 0, 0), (578, .invokevirtual 73, 3, 62, 3, 1210, 6), (581, .if_icmp .eq 180, 3, 761, 0, 0, 0), (584, .iconst 0, 1, 0, 0, 0, 0), (585, .ireturn, 1, 0, 0, 0, 0)]
def zc_L_10 : List zi_Row := [(586, .aload_n 1, 1, 0, 0, 0, 0), (587, .aload_n 0, 1, 0, 0, 0, 0), (588, .iload_n 3, 1, 0, 0, 0, 0), (589, .iconst 1, 1, 0, 0, 0, 0), (590, .iadd, 1, 0, 0, 0, 0), (591, .iaload, 1, 0, 0, 0, 0), (592, .aload_n 0, 1, 0, 0, 0, 0), (593, .iload_n 3, 1, 0, 0, 0, 0), (594, .iconst 2, 1, 0, 0, 0, 0), (595, .iadd, 1, 0, 0, 0, 0), (596, .iaload, 1, 0, 0, 0, 0), (597, .aload_n 0, 1, 0, 0, 0, 0), (598, .iload_n 3, 1, 0, 0, 0, 0), (599, .iconst 3, 1, 0, 0, 0, 0), (600, .iadd, 1, 0, 0, 0, 0), (601, .iaload, 1, 0, 0, 0, 0), (602, .invokevirtual 74, 3, 24, 4, 806, 5), (605, .pop, 1, 0, 0, 0, 0), (606, .aload_n 2, 1, 0, 0, 0, 0), (607, .aload_n 0, 1, 0, 0, 0, 0), (608, .iload_n 3, 1, 0, 0, 0, 0), (609, .iconst 1, 1, 0, 0, 0, 0), (610, .iadd, 1, 0, 0, 0, 0), (611, .iaload, 1, 0, 0, 0, 0), (612, .aload_n 0, 1, 0, 0, 0, 0), (613, .iload_n 3, 1, 0, 0, 0, 0), (614, .iconst 2, 1, 0, 0, 0, 0), (615, .iadd, 1, 0, 0, 0, 0), (616, .iaload, 1, 0, 0, 0, 0), (617, .aload_n 0, 1, 0, 0, 0, 0), (618, .iload_n 3, 1, 0, 0, 0, 0), (619, .iconst 3, 1, 0, 0, 0, 0), (620, .iadd, 1, 0, 0, 0, 0), (621, .iaload, 1, 0, 0, 0, 0), (622, .invokevirtual 77, 3, 63, 4, 1214, 6), (625, .pop, 1, 0, 0, 0, 0), (626, .goto 135, 3, 761, 0, 0, 0), (629, .aload_n 1, 1, 0, 0, 0, 0), (630, .aload_n 0, 1, 0, 0, 0, 0), (631, .iload_n 3, 1, 0, 0, 0, 0)]
def zc_L_11 : List zi_Row := [(632, .iconst 1, 1, 0, 0, 0, 0), (633, .iadd, 1, 0, 0, 0, 0), (634, .iaload, 1, 0, 0, 0, 0), (635, .aload_n 0, 1, 0, 0, 0, 0), (636, .iload_n 3, 1, 0, 0, 0, 0), (637, .iconst 2, 1, 0, 0, 0, 0), (638, .iadd, 1, 0, 0, 0, 0), (639, .iaload, 1, 0, 0, 0, 0), (640, .invokevirtual 78, 3, 25, 3, 829, 5), (643, .pop, 1, 0, 0, 0, 0), (644, .aload_n 2, 1, 0, 0, 0, 0), (645, .aload_n 0, 1, 0, 0, 0, 0), (646, .iload_n 3, 1, 0, 0, 0, 0), (647, .iconst 1, 1, 0, 0, 0, 0), (648, .iadd, 1, 0, 0, 0, 0), (649, .iaload, 1, 0, 0, 0, 0), (650, .aload_n 0, 1, 0, 0, 0, 0), (651, .iload_n 3, 1, 0, 0, 0, 0), (652, .iconst 2, 1, 0, 0, 0, 0), (653, .iadd, 1, 0, 0, 0, 0), (654, .iaload, 1, 0, 0, 0, 0), (655, .invokevirtual 81, 3, 64, 3, 1222, 6), (658, .pop, 1, 0, 0, 0, 0), (659, .goto 102, 3, 761, 0, 0, 0), (662, .aload_n 1, 1, 0, 0, 0, 0), (663, .aload_n 0, 1, 0, 0, 0, 0), (664, .iload_n 3, 1, 0, 0, 0, 0), (665, .iconst 1, 1, 0, 0, 0, 0), (666, .iadd, 1, 0, 0, 0, 0), (667, .iaload, 1, 0, 0, 0, 0), (668, .aload_n 0, 1, 0, 0, 0, 0), (669, .iload_n 3, 1, 0, 0, 0, 0), (670, .iconst 2, 1, 0, 0, 0, 0), (671, .iadd, 1, 0, 0, 0, 0), (672, .iaload, 1, 0, 0, 0, 0), (673, .invokevirtual 82, 3, 26, 3, 833, 5), (676, .pop, 1, 0, 0, 0, 0), (677, .aload_n 2, 1, 0, 0, 0, 0), (678, .aload_n 0, 1, 0, 0, 0, 0), (679, .iload_n 3, 1, 0, 0, 0, 0)]
def zc_L_12 : List zi_Row := [(680, .iconst 1, 1, 0, 0, 0, 0), (681, .iadd, 1, 0, 0, 0, 0), (682, .iaload, 1, 0, 0, 0, 0), (683, .aload_n 0, 1, 0, 0, 0, 0), (684, .iload_n 3, 1, 0, 0, 0, 0), (685, .iconst 2, 1, 0, 0, 0, 0), (686, .iadd, 1, 0, 0, 0, 0), (687, .iaload, 1, 0, 0, 0, 0), (688, .invokevirtual 85, 3, 65, 3, 1226, 6), (691, .pop, 1, 0, 0, 0, 0), (692, .goto 69, 3, 761, 0, 0, 0), (695, .aload_n 1, 1, 0, 0, 0, 0), (696, .aload_n 0, 1, 0, 0, 0, 0), (697, .iload_n 3, 1, 0, 0, 0, 0), (698, .iconst 1, 1, 0, 0, 0, 0), (699, .iadd, 1, 0, 0, 0, 0), (700, .iaload, 1, 0, 0, 0, 0), (701, .aload_n 0, 1, 0, 0, 0, 0), (702, .iload_n 3, 1, 0, 0, 0, 0), (703, .iconst 2, 1, 0, 0, 0, 0), (704, .iadd, 1, 0, 0, 0, 0), (705, .iaload, 1, 0, 0, 0, 0), (706, .aload_n 0, 1, 0, 0, 0, 0), (707, .iload_n 3, 1, 0, 0, 0, 0), (708, .iconst 3, 1, 0, 0, 0, 0), (709, .iadd, 1, 0, 0, 0, 0), (710, .iaload, 1, 0, 0, 0, 0), (711, .invokevirtual 86, 3, 27, 4, 847, 5), (714, .pop, 1, 0, 0, 0, 0), (715, .aload_n 2, 1, 0, 0, 0, 0), (716, .aload_n 0, 1, 0, 0, 0, 0), (717, .iload_n 3, 1, 0, 0, 0, 0), (718, .iconst 1, 1, 0, 0, 0, 0), (719, .iadd, 1, 0, 0, 0, 0), (720, .iaload, 1, 0, 0, 0, 0), (721, .aload_n 0, 1, 0, 0, 0, 0), (722, .iload_n 3, 1, 0, 0, 0, 0), (723, .iconst 2, 1, 0, 0, 0, 0), (724, .iadd, 1, 0, 0, 0, 0), (725, .iaload, 1, 0, 0, 0, 0)]
def zc_L_13 : List zi_Row := [(726, .aload_n 0, 1, 0, 0, 0, 0), (727, .iload_n 3, 1, 0, 0, 0, 0), (728, .iconst 3, 1, 0, 0, 0, 0), (729, .iadd, 1, 0, 0, 0, 0), (730, .iaload, 1, 0, 0, 0, 0), (731, .invokevirtual 89, 3, 66, 4, 1230, 6), (734, .pop, 1, 0, 0, 0, 0), (735, .goto 26, 3, 761, 0, 0, 0), (738, .aload_n 1, 1, 0, 0, 0, 0), (739, .aload_n 0, 1, 0, 0, 0, 0), (740, .iload_n 3, 1, 0, 0, 0, 0), (741, .iconst 1, 1, 0, 0, 0, 0), (742, .iadd, 1, 0, 0, 0, 0), (743, .iaload, 1, 0, 0, 0, 0), (744, .invokevirtual 90, 3, 28, 2, 857, 5), (747, .pop, 1, 0, 0, 0, 0), (748, .aload_n 2, 1, 0, 0, 0, 0), (749, .aload_n 0, 1, 0, 0, 0, 0), (750, .iload_n 3, 1, 0, 0, 0, 0), (751, .iconst 1, 1, 0, 0, 0, 0), (752, .iadd, 1, 0, 0, 0, 0), (753, .iaload, 1, 0, 0, 0, 0), (754, .invokevirtual 93, 3, 67, 2, 1234, 6), (757, .pop, 1, 0, 0, 0, 0), (758, .goto 3, 3, 761, 0, 0, 0), (761, .iinc 3 5, 3, 0, 0, 0, 0), (764, .goto (-746), 3, 18, 0, 0, 0), (767, .iconst 1, 1, 0, 0, 0, 0), (768, .ireturn, 1, 0, 0, 0, 0)]
def zc_L : List zi_Row := zc_L_0 ++ (zc_L_1 ++ (zc_L_2 ++ (zc_L_3 ++ (zc_L_4 ++ (zc_L_5 ++ (zc_L_6 ++ (zc_L_7 ++ (zc_L_8 ++ (zc_L_9 ++ (zc_L_10 ++ (zc_L_11 ++ (zc_L_12 ++ (zc_L_13)))))))))))))
def zi_nest : List Cond := [.methodLinkNest "WindowDesk" 23 ⟨"WindowDesk$Row", "<init>", "()V"⟩ "WindowDesk", .methodLinkNest "WindowDesk$Tree" 11 ⟨"WindowDesk$Row", "<init>", "()V"⟩ "WindowDesk", .methodLinkNest "WindowDesk" 52 ⟨"WindowDesk$Window", "<init>", "()V"⟩ "WindowDesk", .methodLinkNest "WindowDesk" 53 ⟨"WindowDesk$Screen", "<init>", "()V"⟩ "WindowDesk", .methodLinkNest "WindowDesk$Screen" 24 ⟨"WindowDesk$Kept", "<init>", "()V"⟩ "WindowDesk", .methodLinkNest "WindowDesk$Window" 36 ⟨"WindowDesk", "between", "(III)I"⟩ "WindowDesk", .methodLinkNest "WindowDesk$Tree" 165 ⟨"WindowDesk", "between", "(III)I"⟩ "WindowDesk", .methodLinkNest "WindowDesk$Tree" 189 ⟨"WindowDesk", "axisOf", "(I)I"⟩ "WindowDesk", .methodLinkNest "WindowDesk$Tree" 195 ⟨"WindowDesk", "isAfter", "(I)Z"⟩ "WindowDesk"]
end
section
/-! what abstract cells stand for -/
def zi_cv (ρ : Nat → Int32) (b : Nat) (as : List Nat) (v : Value) : Value := match v with
  | .ref 0 => .ref b
  | .ref (i + 1) => .ref (as.getD i 0)
  | .float k => .int (ρ k.toNat)
  | v => v
def zi_iv (ρ : Nat → Int32) (v : Value) : Int32 := match v with
  | .int x => x
  | .float k => ρ k.toNat
  | _ => 0
def zi_rv (as : List Nat) (v : Value) : Option Nat := match v with
  | .ref (i + 1) => some (as.getD i 0)
  | _ => none
def zi_ce (ρ : Nat → Int32) (b : Nat) (as : List Nat) (cy : Nat → ClassId) (c : Nat × List Value) : va_E :=
  if c.1 < 7 then .inr (c.1, c.2.map (zi_cv ρ b as))
  else if c.1 < 9 then .inl (cy c.1, c.2.length, .inl (fun i => zi_iv ρ (c.2.getD i (.int 0))))
  else .inl (cy c.1, c.2.length, .inr (.inr (.inr (.inr (fun i => zi_rv as (c.2.getD i .null))))))
def zi_w (ρ : Nat → Int32) (b : Nat) (as : List Nat) (cy : Nat → ClassId) (h : zi_Hp) : va_W := h.mapIdx (fun i c => (as.getD i 0, zi_ce ρ b as cy c))
def zi_lc (ρ : Nat → Int32) (b : Nat) (as : List Nat) (L : zi_Lc) : List (Nat × Value) := L.map (fun q => (q.1, zi_cv ρ b as q.2))
def zi_mem (x : Int) (l : zi_Iv) : Prop := ∃ q ∈ l, q.1 ≤ x ∧ x ≤ q.2
def zi_rho (ρ : Nat → Int32) (d : zi_Dm) : Prop := (∀ (k : Nat) (l : zi_Iv), d[k]? = some l → zi_mem (ρ k).toInt l) ∧ ρ 5 = ρ 0 &&& 31
section ZC
variable {ρ : Nat → Int32} {b : Nat} {as : List Nat} {cy : Nat → ClassId}
theorem zi_w_get {h : zi_Hp} {r : Nat} {c : Nat × List Value} (e : h[r]? = some c) : (zi_w ρ b as cy h)[r]? = some (as.getD r 0, zi_ce ρ b as cy c) := by
  unfold zi_w
  rw [List.getElem?_mapIdx, e]
  rfl
theorem zi_w_set {h : zi_Hp} {r : Nat} {c : Nat × List Value} : zi_w ρ b as cy (h.set r c) = (zi_w ρ b as cy h).set r (as.getD r 0, zi_ce ρ b as cy c) := by
  unfold zi_w
  rw [List.mapIdx_set]
theorem zi_cv_cat (v : Value) : (zi_cv ρ b as v).category = v.category := by
  unfold zi_cv
  split <;> first | rfl | simp [Value.category]
theorem zi_cv_grow {qs : List Nat} {v : Value} (h : zi_wfv as.length v = true) : zi_cv ρ b (as ++ qs) v = zi_cv ρ b as v := by
  unfold zi_cv
  split
  · rfl
  · rename_i i
    have hi : i < as.length := by simpa [zi_wfv] using h
    simp [List.getElem?_append_left hi]
  · rfl
  · rfl
theorem zi_rv_grow {qs : List Nat} {v : Value} (h : zi_wfv as.length v = true) : zi_rv (as ++ qs) v = zi_rv as v := by
  unfold zi_rv
  split
  · rename_i i
    have hi : i < as.length := by simpa [zi_wfv] using h
    simp [List.getElem?_append_left hi]
  · rfl
theorem zi_cvl_grow {qs : List Nat} {l : List Value} (h : zi_wfl as.length l = true) : l.map (zi_cv ρ b (as ++ qs)) = l.map (zi_cv ρ b as) := by
  apply List.map_congr_left
  intro v hv
  exact zi_cv_grow (List.all_eq_true.mp h v hv)
theorem zi_lc_grow {qs : List Nat} {L : zi_Lc} (h : zi_wfc as.length L = true) : zi_lc ρ b (as ++ qs) L = zi_lc ρ b as L := by
  apply List.map_congr_left
  intro q hq
  rw [zi_cv_grow (List.all_eq_true.mp h q hq)]
theorem zi_ce_grow {qs : List Nat} {c : Nat × List Value} (h : (c.1 == 7 || c.1 == 8 || zi_wfl as.length c.2) = true) : zi_ce ρ b (as ++ qs) cy c = zi_ce ρ b as cy c := by
  obtain ⟨t, l⟩ := c
  unfold zi_ce
  dsimp only
  split
  · rename_i ht
    have h2 : zi_wfl as.length l = true := by
      simp only [Bool.or_eq_true, beq_iff_eq] at h
      rcases h with (h | h) | h
      · omega
      · omega
      · exact h
    rw [zi_cvl_grow h2]
  · split
    · rfl
    · rename_i h1 h2
      have h3 : zi_wfl as.length l = true := by
        simp only [Bool.or_eq_true, beq_iff_eq] at h
        rcases h with (h | h) | h
        · omega
        · omega
        · exact h
      have e : (fun i => zi_rv (as ++ qs) (l.getD i .null)) = (fun i => zi_rv as (l.getD i .null)) := by
        funext i
        apply zi_rv_grow
        by_cases hi : i < l.length
        · have : l.getD i .null ∈ l := by simp [List.getD_eq_getElem?_getD, hi]
          exact List.all_eq_true.mp h3 _ this
        · simp [List.getD_eq_getElem?_getD, List.getElem?_eq_none (Nat.not_lt.mp hi), zi_wfv]
      rw [e]
theorem zi_w_grow {qs : List Nat} {h cs : zi_Hp} (hl : as.length = h.length) (hw : zi_wfh h = true) : zi_w ρ b (as ++ qs) cy (h ++ cs) = zi_w ρ b as cy h ++ cs.mapIdx (fun i c => (qs.getD i 0, zi_ce ρ b (as ++ qs) cy c)) := by
  unfold zi_w
  rw [List.mapIdx_append]
  congr 1
  · apply List.ext_getElem?
    intro i
    rw [List.getElem?_mapIdx, List.getElem?_mapIdx]
    cases hi : h[i]? with
    | none => rfl
    | some c =>
      have hlt : i < as.length := by rw [hl]; exact (List.getElem?_eq_some_iff.mp hi).1
      have hm : c ∈ h := List.mem_of_getElem? hi
      have h2 := List.all_eq_true.mp hw c hm
      rw [← hl] at h2
      simp only [Option.map_some]
      rw [zi_ce_grow h2]
      simp [List.getD_eq_getElem?_getD, List.getElem?_append_left hlt]
  · apply List.ext_getElem?
    intro i
    rw [List.getElem?_mapIdx, List.getElem?_mapIdx]
    cases cs[i]? with
    | none => rfl
    | some c =>
      simp [List.getD_eq_getElem?_getD, ← hl, List.getElem?_append_right]
theorem zi_clip_mem {lo hi x : Int} {l : zi_Iv} (h : zi_mem x l) (h1 : lo ≤ x) (h2 : x ≤ hi) : zi_mem x (zi_clip lo hi l) := by
  obtain ⟨q, hq, a, c⟩ := h
  refine ⟨(max q.1 lo, min q.2 hi), List.mem_filterMap.mpr ⟨q, hq, if_pos (by omega)⟩, by dsimp only; omega, by dsimp only; omega⟩
theorem zi_mem_app {x : Int} {l r : zi_Iv} : zi_mem x (l ++ r) ↔ zi_mem x l ∨ zi_mem x r := by
  unfold zi_mem
  constructor
  · rintro ⟨q, hq, h⟩
    rcases List.mem_append.mp hq with h1 | h1
    · exact Or.inl ⟨q, h1, h⟩
    · exact Or.inr ⟨q, h1, h⟩
  · rintro (⟨q, hq, h⟩ | ⟨q, hq, h⟩)
    · exact ⟨q, List.mem_append_left _ hq, h⟩
    · exact ⟨q, List.mem_append_right _ hq, h⟩
/-- the condition over whole numbers -/
def zi_hold (c : ClassFile.Cond) (x v : Int) : Prop := match c with
  | .eq => x = v | .ne => ¬ x = v | .lt => x < v | .ge => v ≤ x | .gt => v < x | .le => x ≤ v
theorem zi_T_mem {c : ClassFile.Cond} {x v : Int} {l : zi_Iv} (h : zi_mem x l) (lo : -2147483648 ≤ x) (hi : x ≤ 2147483647) (hc : zi_hold c x v) : zi_mem x (zi_T c v l) := by
  cases c <;> simp only [zi_hold] at hc <;> simp only [zi_T]
  · exact zi_clip_mem h (by omega) (by omega)
  · rw [zi_mem_app]
    rcases Int.lt_or_gt_of_ne hc with h1 | h1
    · exact Or.inl (zi_clip_mem h lo (by omega))
    · exact Or.inr (zi_clip_mem h (by omega) hi)
  · exact zi_clip_mem h lo (by omega)
  · exact zi_clip_mem h (by omega) hi
  · exact zi_clip_mem h (by omega) hi
  · exact zi_clip_mem h lo (by omega)
theorem zi_hold_neg (c : ClassFile.Cond) (x v : Int) : zi_hold c x v ∨ zi_hold (zi_neg c) x v := by
  cases c <;> simp only [zi_hold, zi_neg] <;> omega
theorem zi_cmp_hold {c : ClassFile.Cond} {x y : Int32} : zi_cmp c x y = true ↔ zi_hold c x.toInt y.toInt := by
  cases c <;> simp only [zi_cmp, zi_hold, decide_eq_true_eq, Int32.lt_iff_toInt_lt, Int32.le_iff_toInt_le, Int32.toInt_inj]
theorem zi_hold_swap {c : ClassFile.Cond} {x y : Int} : zi_hold (zi_swap c) x y ↔ zi_hold c y x := by
  cases c <;> simp only [zi_hold, zi_swap] <;> omega
theorem zi_rho_set {d : zi_Dm} {k : Nat} {l : zi_Iv} (h : zi_rho ρ d) (hm : zi_mem (ρ k).toInt l) : zi_rho ρ (d.set k l) := by
  refine ⟨fun j l' hj => ?_, h.2⟩
  rw [List.getElem?_set] at hj
  split at hj
  · rename_i e
    subst e
    split at hj
    · cases hj; exact hm
    · cases hj
  · exact h.1 j l' hj
theorem zi_lo (x : Int32) : -2147483648 ≤ x.toInt := by have := x.le_toInt; simpa using this
theorem zi_hi (x : Int32) : x.toInt ≤ 2147483647 := by have := x.toInt_lt; omega
theorem zi_nm_cv {d : zi_Dm} (h : zi_rho ρ d) (v : Value) : zi_cv ρ b as (zi_nm d v) = zi_cv ρ b as v := by
  unfold zi_nm
  split
  · rename_i k
    split
    · rename_i q hq
      split
      · rename_i e
        obtain ⟨q', hq', h1, h2⟩ := h.1 _ _ hq
        rw [List.mem_singleton.mp hq'] at h1 h2
        have : (ρ k.toNat).toInt = q.1 := by omega
        simp only [zi_cv]
        rw [← this, Int32.ofInt_toInt]
      · rfl
    · rfl
  · rfl
theorem zi_nm_iv {d : zi_Dm} (h : zi_rho ρ d) (v : Value) : zi_iv ρ (zi_nm d v) = zi_iv ρ v := by
  unfold zi_nm
  split
  · rename_i k
    split
    · rename_i q hq
      split
      · rename_i e
        obtain ⟨q', hq', h1, h2⟩ := h.1 _ _ hq
        rw [List.mem_singleton.mp hq'] at h1 h2
        have : (ρ k.toNat).toInt = q.1 := by omega
        simp only [zi_iv]
        rw [← this, Int32.ofInt_toInt]
      · rfl
    · rfl
  · rfl
theorem zi_cv_iv {v : Value} (h : zi_isI v = true) : zi_cv ρ b as v = .int (zi_iv ρ v) := by
  unfold zi_isI at h
  split at h
  · rfl
  · rfl
  · cases h
theorem zi_nm_isI {d : zi_Dm} {k : UInt32} : zi_isI (zi_nm d (.float k)) = true := by
  simp only [zi_nm]
  split
  · split <;> rfl
  · rfl
theorem zi_vals_mem {x : Int} {l : zi_Iv} (h : zi_mem x l) : x ∈ zi_vals l := by
  obtain ⟨q, hq, h1, h2⟩ := h
  refine List.mem_flatMap.mpr ⟨q, hq, List.mem_map.mpr ⟨(x - q.1).toNat, List.mem_range.mpr (by omega), by omega⟩⟩
theorem zi_get_at {L : zi_Lc} {k : Nat} {v : Value} {ls : Array Slot} {nL : Nat} (hl : lv_has ls nL (zi_lc ρ b as L)) (h : zi_get L k = some v) : ls[k]? = some (.val (zi_cv ρ b as v)) := by
  unfold zi_get at h
  obtain ⟨q, hq, e⟩ := Option.map_eq_some_iff.mp h
  have hm := List.mem_of_find?_eq_some hq
  have hk : q.1 = k := by simpa using List.find?_some hq
  have := hl.2.2 (q.1, zi_cv ρ b as q.2) (List.mem_map.mpr ⟨q, hm, rfl⟩)
  rw [← e, ← hk]
  exact this
theorem zi_set_lc {L : zi_Lc} {k : Nat} {v : Value} : (k, zi_cv ρ b as v) :: (zi_lc ρ b as L).filter (fun q => !(q.1 == k) && !(q.1 + 1 == k && q.2.category == 2)) = zi_lc ρ b as (zi_set L k v) := by
  unfold zi_lc zi_set
  rw [List.map_cons, List.filter_map]
  congr 2
  apply List.filter_congr
  intro q _
  simp only [Function.comp, zi_cv_cat]
theorem zi_set2_lc {L : zi_Lc} {k : Nat} {v : Value} : (k, zi_cv ρ b as v) :: (zi_lc ρ b as L).filter (fun q => !(q.1 == k) && (!(q.1 == k + 1) && !(q.1 + 1 == k && q.2.category == 2))) = zi_lc ρ b as (zi_set2 L k v) := by
  unfold zi_lc zi_set2
  rw [List.map_cons, List.filter_map]
  congr 2
  apply List.filter_congr
  intro q _
  simp only [Function.comp, zi_cv_cat]
theorem zi_bind_some {α : Type} {xs : List α} {k : α → Option (List zi_Out)} {os : List zi_Out} (h : zi_bind xs k = some os) : ∀ x ∈ xs, ∃ o, k x = some o ∧ ∀ y ∈ o, y ∈ os := by
  induction xs generalizing os with
  | nil => intro x hx; cases hx
  | cons x xs ih =>
    simp only [zi_bind] at h
    split at h
    · cases h
    · rename_i a ha
      split at h
      · cases h
      · rename_i c hc
        cases h
        intro y hy
        rcases List.mem_cons.mp hy with e | e
        · subst e
          exact ⟨a, ha, fun z hz => List.mem_append_left _ hz⟩
        · obtain ⟨o, h1, h2⟩ := ih hc y e
          exact ⟨o, h1, fun z hz => List.mem_append_right _ (h2 z hz)⟩
end ZC
end
section
/-! the words, and what a row must be -/
def zi_Ts : List Cond := lw_tbl.filter goodWord
def zi_tb (t : Nat) (w : Cond) : Bool := decide (lw_tbl[t]? = some w) && goodWord w
theorem zi_tb_in {t : Nat} {w : Cond} (h : zi_tb t w = true) : w ∈ zi_Ts := by
  simp only [zi_tb, Bool.and_eq_true, decide_eq_true_eq] at h
  exact List.mem_filter.mpr ⟨List.mem_of_getElem? h.1, h.2⟩
theorem zi_Ts_good {w : Cond} (h : w ∈ zi_Ts) : (w.onTables && w.keeps) = true ∨ ∃ ty, w = .arrayClass ty := good_of_word (List.mem_filter.mp h).2
def zi_tys (cy : Nat → ClassId) : List (ClassId × FieldType) := [(cy 7, .int), (cy 8, .boolean), (cy 9, .object RX2), (cy 10, .object RX4), (cy 11, .array .int)]
def zi_len (i : Instr) : Nat := match i with
  | .bipush _ | .ldc _ | .iload _ | .aload _ | .istore _ | .astore _ | .newarray _ => 2
  | .sipush _ | .ldc_w _ | .iinc _ _ | .getfield _ | .putfield _ | .goto _ | .ifCond _ _ | .if_icmp _ _ | .invokespecial _ | .invokestatic _ | .invokevirtual _ | .new _ | .anewarray _ | .ldc2_w _ => 3
  | .multianewarray _ _ => 4
  | _ => 1
def zi_lok (r : zi_Row) : Bool := match r.2.1 with
  | .tableswitch _ _ _ _ | .lookupswitch _ _ => true
  | i => decide (r.2.2.1 = zi_len i)
def zi_lk (own : String) (j t : Nat) (y : MethodName) : Bool := if t < 10000 then zi_tb t (.methodLink own j y) else decide (zi_nest[t - 10000]? = some (.methodLinkNest own j y RX5))
def zi_np (y : MethodName) : Option Nat := (parseMethodDescriptor y.desc).map (fun d => d.parameters.length)
def zi_ok (own : String) (ini : Bool) (ms : List zi_Me) (r : zi_Row) : Bool := match r with
  | (pc, i, _, a, b, t, v) => match i with
    | .getfield j => (match vwCl[a]? with | some q => decide (b < q.2.2) && decide ((q.2.1 b).1 = q.1) && zi_tb t (.fieldLink own j q.1 (q.2.1 b).2.1 (q.2.1 b).2.2.1) | none => false)
    | .putfield j => (match vwCl[a]? with | some q => decide (b < q.2.2) && decide ((q.2.1 b).1 = q.1) && zi_tb t (.fieldLink own j q.1 (q.2.1 b).2.1 (q.2.1 b).2.2.1) && (decide ((q.2.1 b).2.2.2 = false) || (ini && decide (q.1 = own))) | none => false)
    | .ldc j => zi_tb t (.constant own j (Int32.ofInt v))
    | .ldc_w j => zi_tb t (.constant own j (Int32.ofInt v))
    | .ldc2_w j => zi_tb t (.constantLong own j (Int64.ofInt v))
    | .lookupswitch _ ps => (ps.toList.zip (ps.toList.drop 1)).all (fun (a, next) => a.1 < next.1)
    | .new j => (match vwCl[a]? with | some q => zi_tb t (.classLink own j q.1) | none => false)
    | .anewarray j => zi_tb t (.classLink own j (if a = 9 then RX2 else RX4))
    | .multianewarray j _ => zi_tb t (.classLink own j ("[" ++ (FieldType.array .int).toString))
    | .goto off => decide ((pc : Int) + off = (a : Int))
    | .ifCond _ off => decide ((pc : Int) + off = (a : Int))
    | .if_icmp _ off => decide ((pc : Int) + off = (a : Int))
    | .tableswitch _ lo hi offs => decide (offs.size = (hi - lo + 1).toNat)
    | .invokespecial j => if a = 999 then zi_tb t (.methodLink own j objectInit) else (match ms[a]?, zi_mt[a]? with
      | some m, some g => zi_lk own j t m.1 && decide (m.1.name = "<init>") && decide (zi_np m.1 = some (b - 1)) && decide (1 ≤ b) && decide (m.2.2.2.1 = none) && zi_tb g.2.2.1 (.instanceMethod m.1)
      | none, _ => true
      | some _, none => false)
    | .invokestatic j => if a = 997 then zi_tb t (.methodLink own j arraycopyName) else (match ms[a]?, zi_mt[a]? with
      | some m, some g => zi_lk own j t m.1 && decide (zi_np m.1 = some b) && zi_tb g.2.2.1 (.static m.1)
      | none, _ => true
      | some _, none => false)
    | .invokevirtual j => (match ms[a]?, zi_mt[a]? with
      | some m, some g => zi_tb t (.methodLink own j m.1) && decide (zi_np m.1 = some (b - 1)) && decide (1 ≤ b) && (match vwCl[v.toNat]? with | some q => decide (q.1 = m.1.cls) | none => false) && decide (0 ≤ v) && zi_tb g.2.2.1 (.instanceMethod m.1) && zi_tb g.2.2.2.1 (.selects m.1.cls m.1 m.1)
      | none, _ => true
      | some _, none => false)
    | _ => true
/-! the classes -/
def zi_cok (a : Nat) (q : vw_C) : Prop := (∀ w ∈ u_ws q.1 q.2.1 q.2.2, w ∈ zi_Ts) ∧ (∀ k, k < q.2.2 → parseFieldDescriptor (q.2.1 k).2.2.1 = some (zi_ty a k)) ∧ (∀ x, x < q.2.2 → ∀ y, y < q.2.2 → x ≠ y → (q.2.1 x).2.1 ≠ (q.2.1 y).2.1) ∧ q.2.2 = zi_fld a ∧ Cond.instantiable q.1 q.2.2 ∈ zi_Ts ∧ Cond.initialized q.1 ∈ zi_Ts
section ZS
variable {ρ : Nat → Int32} {b0 : Nat} {as : List Nat} {cy : Nat → ClassId}
theorem zi_fit_ok {ty : FieldType} {v : Value} (h : zi_fit ty v = true) : narrow ty (zi_cv ρ b0 as v) = zi_cv ρ b0 as v ∧ fits ty (zi_cv ρ b0 as v) = true := by
  unfold zi_fit at h
  split at h
  · rename_i x
    simp only [Bool.or_eq_true, decide_eq_true_eq] at h
    rcases h with rfl | rfl
    · exact ⟨show narrow .boolean (.int 0) = .int 0 from by decide, show fits .boolean (.int 0) = true from by decide⟩
    · exact ⟨show narrow .boolean (.int 1) = .int 1 from by decide, show fits .boolean (.int 1) = true from by decide⟩
  · exact ⟨rfl, rfl⟩
  · exact ⟨rfl, rfl⟩
  · rename_i n a
    cases a with
    | zero => exact ⟨rfl, rfl⟩
    | succ a => exact ⟨rfl, rfl⟩
  · exact ⟨rfl, rfl⟩
  · rename_i n a
    cases a with
    | zero => exact ⟨rfl, rfl⟩
    | succ a => exact ⟨rfl, rfl⟩
  · exact ⟨rfl, rfl⟩
  · cases h
theorem zi_ce_obj {a : Nat} {fs : List Value} (h : a < 7) : zi_ce ρ b0 as cy (a, fs) = .inr (a, fs.map (zi_cv ρ b0 as)) := by
  unfold zi_ce
  rw [if_pos h]
theorem zi_ce_int {l : List Value} : zi_ce ρ b0 as cy (7, l) = .inl (cy 7, l.length, .inl (fun i => zi_iv ρ (l.getD i (.int 0)))) := by
  unfold zi_ce
  rw [if_neg (by dsimp only; omega), if_pos (by dsimp only; omega)]
theorem zi_ce_boo {l : List Value} : zi_ce ρ b0 as cy (8, l) = .inl (cy 8, l.length, .inl (fun i => zi_iv ρ (l.getD i (.int 0)))) := by
  unfold zi_ce
  rw [if_neg (by dsimp only; omega), if_pos (by dsimp only; omega)]
theorem zi_ce_ref {t : Nat} {l : List Value} (h : 9 ≤ t) : zi_ce ρ b0 as cy (t, l) = .inl (cy t, l.length, .inr (.inr (.inr (.inr (fun i => zi_rv as (l.getD i .null)))))) := by
  unfold zi_ce
  rw [if_neg (by dsimp only; omega), if_neg (by dsimp only; omega)]
theorem zi_in_lt {j : Int32} {n : Nat} (h : zi_in j n = true) : vp_in j n ∧ j.toNatClampNeg < n := by
  have h1 : vp_in j n := by simpa [zi_in, vp_in] using h
  exact ⟨h1, Nat.not_le.mp fun q => h1 (Or.inr q)⟩
theorem zi_upd {l : List Value} {j : Nat} {v : Value} (h : j < l.length) : (fun i => zi_iv ρ ((l.set j v).getD i (.int 0))) = upd (fun i => zi_iv ρ (l.getD i (.int 0))) j (zi_iv ρ v) := by
  funext i
  unfold upd
  by_cases e : i = j
  · subst e
    simp [List.getD_eq_getElem?_getD, h]
  · rw [if_neg e]
    simp [List.getD_eq_getElem?_getD, List.getElem?_set_ne (Ne.symm e)]
theorem zi_updr {l : List Value} {j q : Nat} (h : j < l.length) : (fun i => zi_rv as ((l.set j (.ref (q + 1))).getD i .null)) = va_up (fun i => zi_rv as (l.getD i .null)) j (some (as.getD q 0)) := by
  funext i
  unfold va_up
  by_cases e : i = j
  · subst e
    simp [List.getD_eq_getElem?_getD, h, zi_rv]
  · rw [if_neg e]
    simp [List.getD_eq_getElem?_getD, List.getElem?_set_ne (Ne.symm e)]
theorem zi_ld_at {L : zi_Lc} {d : zi_Dm} {k : Nat} {x : Value} {ls : Array Slot} {nL : Nat} (hr : zi_rho ρ d) (hl : lv_has ls nL (zi_lc ρ b0 as L)) (h : zi_ld L d k = some x) : ls[k]? = some (.val (.int (zi_iv ρ x))) ∧ zi_cv ρ b0 as x = .int (zi_iv ρ x) := by
  unfold zi_ld at h
  split at h
  · rename_i y hy
    cases h
    exact ⟨zi_get_at hl hy, rfl⟩
  · rename_i q hy
    cases h
    refine ⟨?_, zi_cv_iv zi_nm_isI⟩
    rw [zi_nm_iv hr]
    exact zi_get_at hl hy
  · cases h
theorem zi_lda_at {L : zi_Lc} {k : Nat} {x : Value} {ls : Array Slot} {nL : Nat} (hl : lv_has ls nL (zi_lc ρ b0 as L)) (h : zi_lda L k = some x) : ∃ y, ls[k]? = some (.val (.ref y)) ∧ zi_cv ρ b0 as x = .ref y := by
  unfold zi_lda at h
  split at h
  · rename_i r hy
    cases h
    have h1 := zi_get_at hl hy
    cases r with
    | zero => exact ⟨b0, h1, rfl⟩
    | succ r => exact ⟨as.getD r 0, h1, rfl⟩
  · cases h
end ZS
end
section
section ZW
variable {p : Program} {l : Launch} {e : Env} {R : Room} {s : State} {m : MethodId} {args : Array Value} {below : List Frame} {meth : Method} {c : Code} {H : Heap} {locs : List Loc} {cells slots : Nat} {Q : State → Prop}
variable {cc : ByteArray} {ls : Array Slot} {D : va_G} {A : Nat → Prop} {tys : List (ClassId × FieldType)} {H0 : Heap}
variable {ρ : Nat → Int32} {b0 : Nat} {as : List Nat} {cy : Nat → ClassId} {own : String} {ini : Bool} {ms : List zi_Me} {scr : Option (List Value)} {nL : Nat} {d : zi_Dm}
theorem zi_Waald {pc : Nat} {rest : List Value} {cl : List vw_C} {ws : va_W} {a : Nat} (hexec : p.tables.exec = Jvm.exec) (hb : c.code = cc) (hK : va_K D cl tys s) (hP : va_P D cl ws H) (q0 t0 : Nat) {cA : ClassId} {ty : FieldType} (hty : ty.isReference = true) {n : Nat} {f : Nat → Option Nat} (ha : ws[q0]? = some (a, .inl (cA, n, .inr (.inr (.inr (.inr f)))))) (ht : tys[t0]? = some (cA, ty)) {i : Int32} (hin : vp_in i n) (hdg : decode cc pc = .ok (.aaload, 1))
    (kk : W p l e R s m args below meth c H locs cells slots Q (F0 m (pc + 1) ls (va_rf (f i.toNatClampNeg) :: rest))) : W p l e R s m args below meth c H locs cells slots Q (F0 m pc ls (.int i :: .ref a :: rest)) := by
  have hlt : i.toNatClampNeg < n := Nat.not_le.mp fun q => hin (Or.inr q)
  exact W.aald (v := va_rf (f i.toNatClampNeg)) (ty := ty) hexec hb (hP q0 _ ha) ((hK.2 t0 _ ht).1 n (fun j => va_rf (f j))) hty (fun q => by cases q) (by show ¬ (i < 0 ∨ (arrV _ _ _).slots.size ≤ _); rw [arrV_size]; exact hin) (by show (arrV _ _ _).slots[_]? = _; rw [arrV_read _ _ hlt]) rfl rfl hdg kk
def zi_tyOf (t : Nat) : FieldType := match t with
  | 7 => .int | 8 => .boolean | 9 => .object RX2 | 10 => .object RX4 | _ => .array .int
theorem zi_tys_at {t : Nat} (h1 : 7 ≤ t) (h2 : t ≤ 11) : (zi_tys cy)[t - 7]? = some (cy t, zi_tyOf t) := by
  match t, h1, h2 with
  | 7, _, _ => rfl
  | 8, _, _ => rfl
  | 9, _, _ => rfl
  | 10, _, _ => rfl
  | 11, _, _ => rfl
set_option maxHeartbeats 4000000 in
/-- an instruction that goes on behind itself -/
theorem zi_step_sound {r : zi_Row} {L L' : zi_Lc} {st st' : List Value} {h h' : zi_Hp}
    (hx : p.tables.exec = Jvm.exec) (hb : c.code = cc) (hown : s.vm.findClass own = some m.cls) (hts : ∀ w ∈ zi_Ts, w.before args s = true) (hcl : ∀ a q, vwCl[a]? = some q → zi_cok a q) (hini : ini = true → meth.name = "<init>")
    (hX : ∀ sl, scr = some sl → va_X b0 sl.length (fun j => zi_iv ρ (sl.getD j (.int 0))) s H0 ∧ b0 < H0.size ∧ ¬ A b0)
    (hK : va_K D vwCl (zi_tys cy) s) (hrho : zi_rho ρ d)
    (hdg : decode cc r.1 = .ok (r.2.1, r.2.2.1)) (hlen : zi_lok r = true) (hok : zi_ok own ini ms r = true) (hst : zi_step scr nL d r L st h = some (L', st', h'))
    (hl : lv_has ls nL (zi_lc ρ b0 as L)) (hP : va_P D vwCl (zi_w ρ b0 as cy h) H) (hD : va_D A (zi_w ρ b0 as cy h)) (hS : va_S A H0 H locs)
    (kk : ∀ (H1 : Heap) (locs1 : List Loc) (ls1 : Array Slot), va_P D vwCl (zi_w ρ b0 as cy h') H1 → va_D A (zi_w ρ b0 as cy h') → va_S A H0 H1 locs1 → lv_has ls1 nL (zi_lc ρ b0 as L') → h'.length = h.length → W p l e R s m args below meth c H1 locs1 cells slots Q (F0 m (r.1 + r.2.2.1) ls1 (st'.map (zi_cv ρ b0 as)))) :
    W p l e R s m args below meth c H locs cells slots Q (F0 m r.1 ls (st.map (zi_cv ρ b0 as))) := by
  obtain ⟨pc, i, ln, a, b, t, v⟩ := r
  dsimp only at hdg hlen hok hst kk ⊢
  unfold zi_step at hst
  dsimp only at hst
  split at hst
  · -- iconst
    simp only [Option.some.injEq, Prod.mk.injEq] at hst
    obtain ⟨rfl, rfl, rfl⟩ := hst
    have e : ln = 1 := of_decide_eq_true hlen
    subst e
    exact lv_iconst hx hb hdg rfl (kk H locs ls hP hD hS hl rfl)
  · -- bipush
    simp only [Option.some.injEq, Prod.mk.injEq] at hst
    obtain ⟨rfl, rfl, rfl⟩ := hst
    have e : ln = 2 := of_decide_eq_true hlen
    subst e
    exact lv_bipush hx hb hdg rfl (kk H locs ls hP hD hS hl rfl)
  · -- sipush
    simp only [Option.some.injEq, Prod.mk.injEq] at hst
    obtain ⟨rfl, rfl, rfl⟩ := hst
    have e : ln = 3 := of_decide_eq_true hlen
    subst e
    exact lv_sipush hx hb hdg rfl (kk H locs ls hP hD hS hl rfl)
  · -- ldc
    simp only [Option.some.injEq, Prod.mk.injEq] at hst
    obtain ⟨rfl, rfl, rfl⟩ := hst
    have e : ln = 2 := of_decide_eq_true hlen
    subst e
    exact lv_ldc hx hb hown (hts _ (zi_tb_in hok)) hdg (kk H locs ls hP hD hS hl rfl)
  · -- ldc_w
    simp only [Option.some.injEq, Prod.mk.injEq] at hst
    obtain ⟨rfl, rfl, rfl⟩ := hst
    have e : ln = 3 := of_decide_eq_true hlen
    subst e
    exact lv_ldcw hx hb hown (hts _ (zi_tb_in hok)) hdg (kk H locs ls hP hD hS hl rfl)
  · -- iload_n
    obtain ⟨x, h1, h2⟩ := Option.map_eq_some_iff.mp hst
    simp only [Prod.mk.injEq] at h2
    obtain ⟨rfl, rfl, rfl⟩ := h2
    have e : ln = 1 := of_decide_eq_true hlen
    subst e
    obtain ⟨h3, h4⟩ := zi_ld_at hrho hl h1
    have h5 := kk H locs ls hP hD hS hl rfl
    rw [List.map_cons, h4] at h5
    exact lv_iload_n hx hb hdg rfl h3 h5
  · -- iload
    obtain ⟨x, h1, h2⟩ := Option.map_eq_some_iff.mp hst
    simp only [Prod.mk.injEq] at h2
    obtain ⟨rfl, rfl, rfl⟩ := h2
    have e : ln = 2 := of_decide_eq_true hlen
    subst e
    obtain ⟨h3, h4⟩ := zi_ld_at hrho hl h1
    have h5 := kk H locs ls hP hD hS hl rfl
    rw [List.map_cons, h4] at h5
    exact lv_iload hx hb hdg h3 h5
  · -- aload_n
    obtain ⟨x, h1, h2⟩ := Option.map_eq_some_iff.mp hst
    simp only [Prod.mk.injEq] at h2
    obtain ⟨rfl, rfl, rfl⟩ := h2
    have e : ln = 1 := of_decide_eq_true hlen
    subst e
    obtain ⟨y, h3, h4⟩ := zi_lda_at hl h1
    have h5 := kk H locs ls hP hD hS hl rfl
    rw [List.map_cons, h4] at h5
    exact lv_aload_n hx hb hdg rfl h3 h5
  · -- aload
    obtain ⟨x, h1, h2⟩ := Option.map_eq_some_iff.mp hst
    simp only [Prod.mk.injEq] at h2
    obtain ⟨rfl, rfl, rfl⟩ := h2
    have e : ln = 2 := of_decide_eq_true hlen
    subst e
    obtain ⟨y, h3, h4⟩ := zi_lda_at hl h1
    have h5 := kk H locs ls hP hD hS hl rfl
    rw [List.map_cons, h4] at h5
    exact lv_aload hx hb hdg h3 h5
  · -- istore_n
    rename_i k
    split at hst
    · rename_i x rest
      split at hst
      · rename_i hc
        simp only [Option.some.injEq, Prod.mk.injEq] at hst
        obtain ⟨rfl, rfl, rfl⟩ := hst
        have e : ln = 1 := of_decide_eq_true hlen
        subst e
        rw [List.map_cons, zi_cv_iv hc.1]
        exact lv_istore_n hx hb hdg rfl hl hc.2 (by rw [← zi_set_lc, zi_cv_iv hc.1]) (fun ls1 hl1 => kk H locs ls1 hP hD hS hl1 rfl)
      · cases hst
    · cases hst
  · -- istore
    rename_i k
    split at hst
    · rename_i x rest
      split at hst
      · rename_i hc
        simp only [Option.some.injEq, Prod.mk.injEq] at hst
        obtain ⟨rfl, rfl, rfl⟩ := hst
        have e : ln = 2 := of_decide_eq_true hlen
        subst e
        rw [List.map_cons, zi_cv_iv hc.1]
        exact lv_istore hx hb hdg hl hc.2 (by rw [← zi_set_lc, zi_cv_iv hc.1]) (fun ls1 hl1 => kk H locs ls1 hP hD hS hl1 rfl)
      · cases hst
    · cases hst
  · -- astore_n
    rename_i k
    split at hst
    · rename_i x rest
      split at hst
      · rename_i hc
        simp only [Option.some.injEq, Prod.mk.injEq] at hst
        obtain ⟨rfl, rfl, rfl⟩ := hst
        have e : ln = 1 := of_decide_eq_true hlen
        subst e
        obtain ⟨y, hy⟩ : ∃ y, zi_cv ρ b0 as (.ref x) = .ref y := by cases x <;> exact ⟨_, rfl⟩
        rw [List.map_cons, hy]
        exact lv_astore_n hx hb hdg rfl hl hc (by rw [← zi_set_lc, hy]) (fun ls1 hl1 => kk H locs ls1 hP hD hS hl1 rfl)
      · cases hst
    · cases hst
  · -- astore
    rename_i k
    split at hst
    · rename_i x rest
      split at hst
      · rename_i hc
        simp only [Option.some.injEq, Prod.mk.injEq] at hst
        obtain ⟨rfl, rfl, rfl⟩ := hst
        have e : ln = 2 := of_decide_eq_true hlen
        subst e
        obtain ⟨y, hy⟩ : ∃ y, zi_cv ρ b0 as (.ref x) = .ref y := by cases x <;> exact ⟨_, rfl⟩
        rw [List.map_cons, hy]
        exact lv_astore hx hb hdg hl hc (by rw [← zi_set_lc, hy]) (fun ls1 hl1 => kk H locs ls1 hP hD hS hl1 rfl)
      · cases hst
    · cases hst
  · -- iinc
    rename_i k n
    split at hst
    · rename_i x hg
      split at hst
      · rename_i hc
        simp only [Option.some.injEq, Prod.mk.injEq] at hst
        obtain ⟨rfl, rfl, rfl⟩ := hst
        have e : ln = 3 := of_decide_eq_true hlen
        subst e
        obtain ⟨j, hj⟩ : ∃ j : Nat, (zi_lc ρ b0 as L)[j]? = some (k, .int x) := by
          unfold zi_get at hg
          obtain ⟨q, hq, e⟩ := Option.map_eq_some_iff.mp hg
          have hm := List.mem_of_find?_eq_some hq
          have hk : q.1 = k := by simpa using List.find?_some hq
          refine List.getElem?_of_mem (List.mem_map.mpr ⟨q, hm, ?_⟩)
          rw [hk, e]
          rfl
        exact lv_iinc hx hb hdg hl hj rfl hc (by rw [← zi_set_lc]; rfl) (fun ls1 hl1 => kk H locs ls1 hP hD hS hl1 rfl)
      · cases hst
    · cases hst
  · -- iadd
    split at hst
    · simp only [Option.some.injEq, Prod.mk.injEq] at hst
      obtain ⟨rfl, rfl, rfl⟩ := hst
      have e : ln = 1 := of_decide_eq_true hlen
      subst e
      exact lv_iadd hx hb hdg (kk H locs ls hP hD hS hl rfl)
    · cases hst
  · -- isub
    split at hst
    · simp only [Option.some.injEq, Prod.mk.injEq] at hst
      obtain ⟨rfl, rfl, rfl⟩ := hst
      have e : ln = 1 := of_decide_eq_true hlen
      subst e
      exact lv_isub hx hb hdg (kk H locs ls hP hD hS hl rfl)
    · cases hst
  · -- imul
    split at hst
    · simp only [Option.some.injEq, Prod.mk.injEq] at hst
      obtain ⟨rfl, rfl, rfl⟩ := hst
      have e : ln = 1 := of_decide_eq_true hlen
      subst e
      exact lv_imul hx hb hdg (kk H locs ls hP hD hS hl rfl)
    · cases hst
  · -- iand
    split at hst
    · simp only [Option.some.injEq, Prod.mk.injEq] at hst
      obtain ⟨rfl, rfl, rfl⟩ := hst
      have e : ln = 1 := of_decide_eq_true hlen
      subst e
      exact lv_iand hx hb hdg (kk H locs ls hP hD hS hl rfl)
    · rename_i y k rest
      split at hst
      · rename_i hc
        simp only [Option.some.injEq, Prod.mk.injEq] at hst
        obtain ⟨rfl, rfl, rfl⟩ := hst
        have e : ln = 1 := of_decide_eq_true hlen
        subst e
        have h5 := kk H locs ls hP hD hS hl rfl
        have e5 : zi_cv ρ b0 as (.float 5) = .int (ρ 0 &&& 31) := by
          rw [← hrho.2]
          rfl
        rw [List.map_cons, e5] at h5
        have e0 : zi_cv ρ b0 as (.float k) = .int (ρ 0) := by
          show Value.int (ρ k.toNat) = _
          rw [hc.2]
        rw [List.map_cons, List.map_cons, e0, hc.1]
        exact lv_iand hx hb hdg h5
      · cases hst
    · cases hst
  · -- idiv
    split at hst
    · split at hst
      · cases hst
      · rename_i hc
        simp only [Option.some.injEq, Prod.mk.injEq] at hst
        obtain ⟨rfl, rfl, rfl⟩ := hst
        have e : ln = 1 := of_decide_eq_true hlen
        subst e
        exact lv_idiv hx hb hdg hc (kk H locs ls hP hD hS hl rfl)
    · cases hst
  · -- irem
    split at hst
    · split at hst
      · cases hst
      · rename_i hc
        simp only [Option.some.injEq, Prod.mk.injEq] at hst
        obtain ⟨rfl, rfl, rfl⟩ := hst
        have e : ln = 1 := of_decide_eq_true hlen
        subst e
        exact lv_irem hx hb hdg hc (kk H locs ls hP hD hS hl rfl)
    · cases hst
  · -- dup
    split at hst
    · split at hst
      · rename_i hc
        simp only [Option.some.injEq, Prod.mk.injEq] at hst
        obtain ⟨rfl, rfl, rfl⟩ := hst
        have e : ln = 1 := of_decide_eq_true hlen
        subst e
        exact lv_dup hx hb hdg (by rw [zi_cv_cat]; exact hc) (kk H locs ls hP hD hS hl rfl)
      · cases hst
    · cases hst
  · -- dup2
    split at hst
    · split at hst
      · rename_i hc
        simp only [Option.some.injEq, Prod.mk.injEq] at hst
        obtain ⟨rfl, rfl, rfl⟩ := hst
        have e : ln = 1 := of_decide_eq_true hlen
        subst e
        exact lv_dup2_11 hx hb hdg (by rw [zi_cv_cat]; exact hc.1) (by rw [zi_cv_cat]; exact hc.2) (kk H locs ls hP hD hS hl rfl)
      · cases hst
    · cases hst
  · -- getfield
    rename_i j
    split at hst
    · rename_i r rest
      obtain ⟨x, h1, h2⟩ := Option.map_eq_some_iff.mp hst
      simp only [Prod.mk.injEq] at h2
      obtain ⟨rfl, rfl, rfl⟩ := h2
      have e : ln = 3 := of_decide_eq_true hlen
      subst e
      unfold zi_gf at h1
      split at h1
      · rename_i t' fs hr
        split at h1
        · rename_i hc
          obtain ⟨rfl, h7⟩ := hc
          unfold zi_ok at hok
          dsimp only at hok
          split at hok
          · rename_i q hq
            simp only [Bool.and_eq_true, decide_eq_true_eq] at hok
            obtain ⟨⟨k1, k2⟩, k3⟩ := hok
            have he := zi_w_get (ρ := ρ) (b := b0) (as := as) (cy := cy) hr
            rw [zi_ce_obj h7] at he
            exact va_get (D := D) (ci := t') (C := q.1) (T := q.2.1) (N := q.2.2) hx hb hts (hcl _ _ hq).1 hown hK hP r he hq b k1 (hts _ (zi_tb_in k3)) (fun y hy => by rw [← k2]; exact hy) (by rw [List.getElem?_map, h1]; rfl) hdg (kk H locs ls hP hD hS hl rfl)
          · cases hok
        · cases h1
      · cases h1
    · cases hst
  · -- putfield
    rename_i j
    split at hst
    · rename_i x r rest
      obtain ⟨hn, h1, h2⟩ := Option.map_eq_some_iff.mp hst
      simp only [Prod.mk.injEq] at h2
      obtain ⟨rfl, rfl, rfl⟩ := h2
      have e : ln = 3 := of_decide_eq_true hlen
      subst e
      unfold zi_pf at h1
      split at h1
      · rename_i t' fs hr
        split at h1
        · rename_i hc
          obtain ⟨rfl, h7, hbl, hfit⟩ := hc
          cases h1
          unfold zi_ok at hok
          dsimp only at hok
          split at hok
          · rename_i q hq
            simp only [Bool.and_eq_true, Bool.or_eq_true, decide_eq_true_eq] at hok
            obtain ⟨⟨⟨k1, k2⟩, k3⟩, k4⟩ := hok
            have he := zi_w_get (ρ := ρ) (b := b0) (as := as) (cy := cy) hr
            rw [zi_ce_obj h7] at he
            have hcq := hcl _ _ hq
            obtain ⟨n1, n2⟩ := zi_fit_ok (ρ := ρ) (b0 := b0) (as := as) hfit
            have ew : (zi_w ρ b0 as cy h).set r (as.getD r 0, .inr (t', (fs.map (zi_cv ρ b0 as)).set b (zi_cv ρ b0 as x))) = zi_w ρ b0 as cy (h.set r (t', fs.set b x)) := by
              rw [zi_w_set, zi_ce_obj h7, List.map_set]
            have k9 : ∀ (H1 : Heap) (locs1 : List Loc), va_P D vwCl ((zi_w ρ b0 as cy h).set r (as.getD r 0, .inr (t', (fs.map (zi_cv ρ b0 as)).set b (zi_cv ρ b0 as x)))) H1 → va_D A ((zi_w ρ b0 as cy h).set r (as.getD r 0, .inr (t', (fs.map (zi_cv ρ b0 as)).set b (zi_cv ρ b0 as x)))) → va_S A H0 H1 locs1 → W p l e R s m args below meth c H1 locs1 cells slots Q (F0 m (pc + 3) ls (rest.map (zi_cv ρ b0 as))) := by
              intro H1 locs1 p1 p2 p3
              rw [ew] at p1 p2
              exact kk H1 locs1 ls p1 p2 p3 hl (List.length_set ..)
            rcases k4 with k4 | ⟨k4, k5⟩
            · exact va_put (D := D) (ci := t') (ty := zi_ty t' b) (C := q.1) (T := q.2.1) (N := q.2.2) hx hb hts hcq.1 (zi_ty t') hcq.2.1 hcq.2.2.1 hown hK hP hD hS r he hq b k1 (hts _ (zi_tb_in k3)) (fun y hy => by rw [← k2]; exact hy) k4 (hcq.2.1 b k1) n1 n2 (by rw [List.length_map]; exact hbl) hdg k9
            · by_cases k6 : (q.2.1 b).2.2.2 = false
              · exact va_put (D := D) (ci := t') (ty := zi_ty t' b) (C := q.1) (T := q.2.1) (N := q.2.2) hx hb hts hcq.1 (zi_ty t') hcq.2.1 hcq.2.2.1 hown hK hP hD hS r he hq b k1 (hts _ (zi_tb_in k3)) (fun y hy => by rw [← k2]; exact hy) k6 (hcq.2.1 b k1) n1 n2 (by rw [List.length_map]; exact hbl) hdg k9
              · exact va_putF (D := D) (ci := t') (ty := zi_ty t' b) (C := q.1) (T := q.2.1) (N := q.2.2) hx hb hts hcq.1 (zi_ty t') hcq.2.1 hcq.2.2.1 hown hK hP hD hS r he hq b k1 (hts _ (zi_tb_in k3)) (fun y hy => by rw [← k2]; exact hy) (by simpa using k6) (hini k4) (k2.trans k5) (hcq.2.1 b k1) n1 n2 (by rw [List.length_map]; exact hbl) hdg k9
          · cases hok
        · cases h1
      · cases h1
    · cases hst
  · -- iaload
    split at hst
    · rename_i j r rest
      obtain ⟨x, h1, h2⟩ := Option.map_eq_some_iff.mp hst
      simp only [Prod.mk.injEq] at h2
      obtain ⟨rfl, rfl, rfl⟩ := h2
      have e : ln = 1 := of_decide_eq_true hlen
      subst e
      have h5 := kk H locs ls hP hD hS hl rfl
      have hval : ∀ (sl : List Value) (y : Value), sl[j.toNatClampNeg]? = some y → zi_isI y = true → zi_cv ρ b0 as (zi_nm d y) = .int (zi_iv ρ (sl.getD j.toNatClampNeg (.int 0))) := by
        intro sl y hy hi
        rw [zi_nm_cv hrho, zi_cv_iv hi, List.getD_eq_getElem?_getD, hy]
        rfl
      unfold zi_iald at h1
      split at h1
      · split at h1
        · rename_i _ sl
          obtain ⟨x1, x2, x3⟩ := hX _ rfl
          split at h1
          · rename_i hin
            have hv : zi_cv ρ b0 as x = .int (zi_iv ρ (sl.getD j.toNatClampNeg (.int 0))) := by
              split at h1
              · rename_i y hy
                cases h1
                exact hval sl _ hy rfl
              · rename_i q hy
                cases h1
                exact hval sl _ hy rfl
              · cases h1
            rw [List.map_cons, hv] at h5
            exact va_sld hx hb x1 x2 x3 hS (zi_in_lt hin).1 hdg h5
          · cases h1
        · cases h1
      · rename_i r
        split at h1
        · rename_i sl hr
          split at h1
          · rename_i hin
            have hv : zi_cv ρ b0 as x = .int (zi_iv ρ (sl.getD j.toNatClampNeg (.int 0))) := by
              split at h1
              · rename_i y hy
                cases h1
                exact hval sl _ hy rfl
              · rename_i q hy
                cases h1
                exact hval sl _ hy rfl
              · cases h1
            rw [List.map_cons, hv] at h5
            have he := zi_w_get (ρ := ρ) (b := b0) (as := as) (cy := cy) hr
            rw [zi_ce_int] at he
            exact va_iald hx hb hK hP r 0 he rfl (zi_in_lt hin).1 hdg h5
          · cases h1
        · cases h1
    · cases hst
  · -- baload
    split at hst
    · rename_i j r rest
      obtain ⟨x, h1, h2⟩ := Option.map_eq_some_iff.mp hst
      simp only [Prod.mk.injEq] at h2
      obtain ⟨rfl, rfl, rfl⟩ := h2
      have e : ln = 1 := of_decide_eq_true hlen
      subst e
      have h5 := kk H locs ls hP hD hS hl rfl
      unfold zi_bald at h1
      split at h1
      · rename_i sl hr
        split at h1
        · rename_i hin
          split at h1
          · rename_i y hy
            cases h1
            have hv : y = zi_iv ρ (sl.getD j.toNatClampNeg (.int 0)) := by
              rw [List.getD_eq_getElem?_getD, hy]
              rfl
            rw [List.map_cons, hv] at h5
            have he := zi_w_get (ρ := ρ) (b := b0) (as := as) (cy := cy) hr
            rw [zi_ce_boo] at he
            exact va_zald hx hb hK hP r 1 he rfl (zi_in_lt hin).1 hdg h5
          · cases h1
        · cases h1
      · cases h1
    · cases hst
  · -- aaload
    split at hst
    · rename_i j r rest
      obtain ⟨x, h1, h2⟩ := Option.map_eq_some_iff.mp hst
      simp only [Prod.mk.injEq] at h2
      obtain ⟨rfl, rfl, rfl⟩ := h2
      have e : ln = 1 := of_decide_eq_true hlen
      subst e
      have h5 := kk H locs ls hP hD hS hl rfl
      unfold zi_aald at h1
      split at h1
      · rename_i t' sl hr
        split at h1
        · rename_i hin
          simp only [Bool.and_eq_true, decide_eq_true_eq] at hin
          have hv : zi_cv ρ b0 as x = va_rf (zi_rv as (sl.getD j.toNatClampNeg .null)) := by
            split at h1
            · rename_i y hy
              cases h1
              rw [List.getD_eq_getElem?_getD, hy]
              rfl
            · rename_i hy
              cases h1
              rw [List.getD_eq_getElem?_getD, hy]
              rfl
            · cases h1
          rw [List.map_cons, hv] at h5
          have he := zi_w_get (ρ := ρ) (b := b0) (as := as) (cy := cy) hr
          rw [zi_ce_ref hin.1.1] at he
          have hty : (zi_tyOf t').isReference = true := by
            obtain ⟨⟨g1, g2⟩, -⟩ := hin
            match t', g1, g2 with
            | 9, _, _ => rfl
            | 10, _, _ => rfl
            | 11, _, _ => rfl
          exact zi_Waald hx hb hK hP r (t' - 7) hty he (zi_tys_at (by omega) hin.1.2) (zi_in_lt hin.2).1 hdg h5
        · cases h1
      · cases h1
    · cases hst
  · -- iastore
    split at hst
    · rename_i x j r rest
      obtain ⟨hn, h1, h2⟩ := Option.map_eq_some_iff.mp hst
      simp only [Prod.mk.injEq] at h2
      obtain ⟨rfl, rfl, rfl⟩ := h2
      have e : ln = 1 := of_decide_eq_true hlen
      subst e
      unfold zi_iast at h1
      split at h1
      · rename_i sl hr
        split at h1
        · rename_i hin
          simp only [Bool.and_eq_true] at hin
          cases h1
          have he := zi_w_get (ρ := ρ) (b := b0) (as := as) (cy := cy) hr
          rw [zi_ce_int] at he
          rw [List.map_cons, zi_cv_iv hin.2]
          refine va_iast hx hb hK hP hD hS r 0 he rfl (zi_in_lt hin.1).1 hdg (fun H1 locs1 p1 p2 p3 => ?_)
          have ew : (zi_w ρ b0 as cy h).set r (as.getD r 0, .inl (cy 7, sl.length, .inl (upd (fun i => zi_iv ρ (sl.getD i (.int 0))) j.toNatClampNeg (zi_iv ρ x)))) = zi_w ρ b0 as cy (h.set r (7, sl.set j.toNatClampNeg x)) := by
            rw [zi_w_set, zi_ce_int, zi_upd (zi_in_lt hin.1).2, List.length_set]
          rw [ew] at p1 p2
          exact kk H1 locs1 ls p1 p2 p3 hl (List.length_set ..)
        · cases h1
      · cases h1
    · cases hst
  · -- bastore
    split at hst
    · rename_i x j r rest
      obtain ⟨hn, h1, h2⟩ := Option.map_eq_some_iff.mp hst
      simp only [Prod.mk.injEq] at h2
      obtain ⟨rfl, rfl, rfl⟩ := h2
      have e : ln = 1 := of_decide_eq_true hlen
      subst e
      unfold zi_bast at h1
      split at h1
      · rename_i sl hr
        split at h1
        · rename_i hin
          simp only [Bool.and_eq_true, Bool.or_eq_true, decide_eq_true_eq] at hin
          cases h1
          have he := zi_w_get (ρ := ρ) (b := b0) (as := as) (cy := cy) hr
          rw [zi_ce_boo] at he
          have hx1 : vp_nar .boolean x = x := by
            rcases hin.2 with rfl | rfl
            · decide
            · decide
          refine va_zast (x := x) hx hb hK hP hD hS r 1 he rfl (zi_in_lt hin.1).1 hdg (fun H1 locs1 p1 p2 p3 => ?_)
          have ew : (zi_w ρ b0 as cy h).set r (as.getD r 0, .inl (cy 8, sl.length, .inl (upd (fun i => zi_iv ρ (sl.getD i (.int 0))) j.toNatClampNeg (vp_nar .boolean x)))) = zi_w ρ b0 as cy (h.set r (8, sl.set j.toNatClampNeg (.int x))) := by
            rw [zi_w_set, zi_ce_boo, zi_upd (zi_in_lt hin.1).2, List.length_set, hx1]
            rfl
          rw [ew] at p1 p2
          exact kk H1 locs1 ls p1 p2 p3 hl (List.length_set ..)
        · cases h1
      · cases h1
    · cases hst
  · -- aastore
    split at hst
    · rename_i q j r rest
      obtain ⟨hn, h1, h2⟩ := Option.map_eq_some_iff.mp hst
      simp only [Prod.mk.injEq] at h2
      obtain ⟨rfl, rfl, rfl⟩ := h2
      have e : ln = 1 := of_decide_eq_true hlen
      subst e
      unfold zi_aast at h1
      split at h1
      · rename_i t' sl hr
        split at h1
        · rename_i hin
          simp only [Bool.and_eq_true, decide_eq_true_eq] at hin
          split at h1
          · rename_i ci vs hq
            split at h1
            · rename_i hci
              cases h1
              have h9 : 9 ≤ t' := by omega
              have he := zi_w_get (ρ := ρ) (b := b0) (as := as) (cy := cy) hr
              rw [zi_ce_ref h9] at he
              have hv := zi_w_get (ρ := ρ) (b := b0) (as := as) (cy := cy) hq
              have ew : (zi_w ρ b0 as cy h).set r (as.getD r 0, .inl (cy t', sl.length, .inr (.inr (.inr (.inr (va_up (fun i => zi_rv as (sl.getD i .null)) j.toNatClampNeg (some (as.getD q 0)))))))) = zi_w ρ b0 as cy (h.set r (t', sl.set j.toNatClampNeg (.ref (q + 1)))) := by
                rw [zi_w_set, zi_ce_ref h9, zi_updr (zi_in_lt hin.2).2, List.length_set]
              rcases hin.1 with rfl | rfl
              · have hci : ci = 2 := hci
                subst hci
                rw [zi_ce_obj (by omega)] at hv
                refine va_astq hx hb hK hP hD hS r 2 q 2 (r := (RX2, TX2, 4)) he rfl hv rfl (zi_in_lt hin.2).1 hdg (fun H1 locs1 p1 p2 p3 => ?_)
                rw [ew] at p1 p2
                exact kk H1 locs1 ls p1 p2 p3 hl (List.length_set ..)
              · have hci : ci = 4 := hci
                subst hci
                rw [zi_ce_obj (by omega)] at hv
                refine va_astq hx hb hK hP hD hS r 3 q 4 (r := (RX4, TX4, 6)) he rfl hv rfl (zi_in_lt hin.2).1 hdg (fun H1 locs1 p1 p2 p3 => ?_)
                rw [ew] at p1 p2
                exact kk H1 locs1 ls p1 p2 p3 hl (List.length_set ..)
            · cases h1
          · cases h1
        · cases h1
      · cases h1
    · cases hst
  · -- arraylength
    split at hst
    · rename_i r rest
      obtain ⟨x, h1, h2⟩ := Option.map_eq_some_iff.mp hst
      simp only [Prod.mk.injEq] at h2
      obtain ⟨rfl, rfl, rfl⟩ := h2
      have e : ln = 1 := of_decide_eq_true hlen
      subst e
      unfold zi_alen at h1
      split at h1
      · split at h1
        · rename_i sl hsl
          cases h1
          obtain ⟨x1, x2, x3⟩ := hX _ rfl
          exact va_slen hx hb x1 x2 x3 hS hdg (kk H locs ls hP hD hS hl rfl)
        · cases h1
      · rename_i r
        split at h1
        · rename_i t' sl hr
          split at h1
          · rename_i hc
            cases h1
            have he := zi_w_get (ρ := ρ) (b := b0) (as := as) (cy := cy) hr
            have h5 := kk H locs ls hP hD hS hl rfl
            by_cases h9 : 9 ≤ t'
            · rw [zi_ce_ref h9] at he
              exact va_alen hx hb hK hP r (t' - 7) he (zi_tys_at hc.1 hc.2) rfl hdg h5
            · have h78 : t' = 7 ∨ t' = 8 := by omega
              rcases h78 with rfl | rfl
              · rw [zi_ce_int] at he
                exact va_alen hx hb hK hP r 0 he rfl rfl hdg h5
              · rw [zi_ce_boo] at he
                exact va_alen hx hb hK hP r 1 he rfl rfl hdg h5
          · cases h1
        · cases h1
    · cases hst
  · -- pop
    split at hst
    · split at hst
      · rename_i hc
        simp only [Option.some.injEq, Prod.mk.injEq] at hst
        obtain ⟨rfl, rfl, rfl⟩ := hst
        have e : ln = 1 := of_decide_eq_true hlen
        subst e
        exact lv_pop hx hb hdg (by rw [zi_cv_cat]; exact hc) (kk H locs ls hP hD hS hl rfl)
      · cases hst
    · cases hst
  · -- ixor
    split at hst
    · simp only [Option.some.injEq, Prod.mk.injEq] at hst
      obtain ⟨rfl, rfl, rfl⟩ := hst
      have e : ln = 1 := of_decide_eq_true hlen
      subst e
      exact lv_ixor hx hb hdg (kk H locs ls hP hD hS hl rfl)
    · cases hst
  · -- lconst
    simp only [Option.some.injEq, Prod.mk.injEq] at hst
    obtain ⟨rfl, rfl, rfl⟩ := hst
    have e : ln = 1 := of_decide_eq_true hlen
    subst e
    exact lv_lconst hx hb hdg rfl (kk H locs ls hP hD hS hl rfl)
  · -- ldc2_w
    simp only [Option.some.injEq, Prod.mk.injEq] at hst
    obtain ⟨rfl, rfl, rfl⟩ := hst
    have e : ln = 3 := of_decide_eq_true hlen
    subst e
    exact lv_ldc2 hx hb hown (hts _ (zi_tb_in hok)) hdg (kk H locs ls hP hD hS hl rfl)
  · -- lload_n
    split at hst
    · rename_i x hg
      simp only [Option.some.injEq, Prod.mk.injEq] at hst
      obtain ⟨rfl, rfl, rfl⟩ := hst
      have e : ln = 1 := of_decide_eq_true hlen
      subst e
      exact lv_lload_n hx hb hdg rfl (zi_get_at hl hg) (kk H locs ls hP hD hS hl rfl)
    · cases hst
  · -- lstore_n
    split at hst
    · rename_i x rest
      split at hst
      · rename_i hc
        simp only [Option.some.injEq, Prod.mk.injEq] at hst
        obtain ⟨rfl, rfl, rfl⟩ := hst
        have e : ln = 1 := of_decide_eq_true hlen
        subst e
        exact lv_lstore_n hx hb hdg rfl hl hc (by rw [← zi_set2_lc]; rfl) (fun ls1 hl1 => kk H locs ls1 hP hD hS hl1 rfl)
      · cases hst
    · cases hst
  · -- i2l
    split at hst
    · simp only [Option.some.injEq, Prod.mk.injEq] at hst
      obtain ⟨rfl, rfl, rfl⟩ := hst
      have e : ln = 1 := of_decide_eq_true hlen
      subst e
      exact lv_i2l hx hb hdg rfl (kk H locs ls hP hD hS hl rfl)
    · cases hst
  · -- l2i
    split at hst
    · simp only [Option.some.injEq, Prod.mk.injEq] at hst
      obtain ⟨rfl, rfl, rfl⟩ := hst
      have e : ln = 1 := of_decide_eq_true hlen
      subst e
      exact lv_l2i hx hb hdg rfl (kk H locs ls hP hD hS hl rfl)
    · cases hst
  · -- lshl
    split at hst
    · simp only [Option.some.injEq, Prod.mk.injEq] at hst
      obtain ⟨rfl, rfl, rfl⟩ := hst
      have e : ln = 1 := of_decide_eq_true hlen
      subst e
      exact lv_lshl hx hb hdg rfl (kk H locs ls hP hD hS hl rfl)
    · cases hst
  · -- lshr
    split at hst
    · simp only [Option.some.injEq, Prod.mk.injEq] at hst
      obtain ⟨rfl, rfl, rfl⟩ := hst
      have e : ln = 1 := of_decide_eq_true hlen
      subst e
      exact lv_lshr hx hb hdg rfl (kk H locs ls hP hD hS hl rfl)
    · cases hst
  · -- lor
    split at hst
    · simp only [Option.some.injEq, Prod.mk.injEq] at hst
      obtain ⟨rfl, rfl, rfl⟩ := hst
      have e : ln = 1 := of_decide_eq_true hlen
      subst e
      exact lv_lor hx hb hdg (kk H locs ls hP hD hS hl rfl)
    · cases hst
  · -- land
    split at hst
    · simp only [Option.some.injEq, Prod.mk.injEq] at hst
      obtain ⟨rfl, rfl, rfl⟩ := hst
      have e : ln = 1 := of_decide_eq_true hlen
      subst e
      exact lv_land hx hb hdg (kk H locs ls hP hD hS hl rfl)
    · cases hst
  · cases hst
end ZW
end
section
section ZN
variable {p : Program} {l : Launch} {e : Env} {R : Room} {s : State} {m : MethodId} {args : Array Value} {below : List Frame} {meth : Method} {c : Code} {H : Heap} {locs : List Loc} {cells slots : Nat} {Q : State → Prop}
variable {cc : ByteArray} {ls : Array Slot} {D : va_G} {A : Nat → Prop} {H0 : Heap}
variable {ρ : Nat → Int32} {b0 : Nat} {as : List Nat} {cy : Nat → ClassId} {own : String} {ini : Bool} {ms : List zi_Me}
theorem zi_zero (n : Nat) : (fun i => zi_iv ρ ((List.replicate n (Value.int 0)).getD i (.int 0))) = fun _ => 0 := by
  funext i
  rw [List.getD_eq_getElem?_getD, List.getElem?_replicate]
  split <;> rfl
theorem zi_nulls (n : Nat) : (fun i => zi_rv as ((List.replicate n Value.null).getD i .null)) = fun _ => none := by
  funext i
  rw [List.getD_eq_getElem?_getD, List.getElem?_replicate]
  split <;> rfl
theorem zi_defs {a : Nat} (h : a < 7) : ((List.range (zi_fld a)).map (fun k => defaultValue (zi_ty a k))).map (zi_cv ρ b0 as) = (List.range (zi_fld a)).map (fun k => defaultValue (zi_ty a k)) := by
  match a, h with
  | 0, _ => rfl
  | 1, _ => rfl
  | 2, _ => rfl
  | 3, _ => rfl
  | 4, _ => rfl
  | 5, _ => rfl
  | 6, _ => rfl
theorem zi_top (q : Nat) (qs : List Nat) {h : zi_Hp} (hl : as.length = h.length) : zi_cv ρ b0 (as ++ q :: qs) (.ref (h.length + 1)) = .ref q := by
  show Value.ref ((as ++ q :: qs).getD h.length 0) = _
  rw [← hl]
  simp [List.getD_eq_getElem?_getD]
theorem zi_one_new {q : Nat} {h : zi_Hp} {c : Nat × List Value} (hl : as.length = h.length) (hw : zi_wfh h = true) : zi_w ρ b0 (as ++ [q]) cy (h ++ [c]) = zi_w ρ b0 as cy h ++ [(q, zi_ce ρ b0 (as ++ [q]) cy c)] := by
  rw [zi_w_grow hl hw]
  rfl
set_option maxHeartbeats 4000000 in
theorem zi_new_sound {r : zi_Row} {L : zi_Lc} {st st' : List Value} {h h' : zi_Hp} {k1 k2 nL : Nat}
    (hx : p.tables.exec = Jvm.exec) (hb : c.code = cc) (hown : s.vm.findClass own = some m.cls) (hts : ∀ w ∈ zi_Ts, w.before args s = true) (hcl : ∀ a q, vwCl[a]? = some q → zi_cok a q)
    (hAI : Cond.arrayClass .int ∈ zi_Ts) (hAZ : Cond.arrayClass .boolean ∈ zi_Ts) (hA2 : va_AO RX2 s) (hA4 : va_AO RX4 s) (hAA : va_AOA .int s)
    (hK : va_K D vwCl (zi_tys cy) s) (hA : ∀ q, H0.size ≤ q → A q)
    (hdg : decode cc r.1 = .ok (r.2.1, r.2.2.1)) (hlen : zi_lok r = true) (hok : zi_ok own ini ms r = true) (hst : zi_new r st h = some (st', h', k1, k2)) (hC : cells + k1 ≤ R.cells) (hSl : slots + k2 ≤ R.slots)
    (hwh : zi_wfh h = true) (hwc : zi_wfc h.length L = true) (hws : zi_wfl h.length st = true) (hln : as.length = h.length)
    (hl : lv_has ls nL (zi_lc ρ b0 as L)) (hP : va_P D vwCl (zi_w ρ b0 as cy h) H) (hD : va_D A (zi_w ρ b0 as cy h)) (hS : va_S A H0 H locs)
    (kk : ∀ (qs : List Nat) (H1 : Heap), va_P D vwCl (zi_w ρ b0 (as ++ qs) cy h') H1 → va_D A (zi_w ρ b0 (as ++ qs) cy h') → va_S A H0 H1 locs → lv_has ls nL (zi_lc ρ b0 (as ++ qs) L) → (as ++ qs).length = h'.length → qs.length ≤ k1 → W p l e R s m args below meth c H1 locs (cells + k1) (slots + k2) Q (F0 m (r.1 + r.2.2.1) ls (st'.map (zi_cv ρ b0 (as ++ qs))))) :
    W p l e R s m args below meth c H locs cells slots Q (F0 m r.1 ls (st.map (zi_cv ρ b0 as))) := by
  obtain ⟨pc, i, ln, a, b, t, v⟩ := r
  dsimp only at hdg hlen hok hst kk ⊢
  unfold zi_new at hst
  dsimp only at hst
  rw [← hln] at hwc hws
  have hlc : ∀ qs : List Nat, lv_has ls nL (zi_lc ρ b0 (as ++ qs) L) := fun qs => by rw [zi_lc_grow hwc]; exact hl
  split at hst
  · -- new
    rename_i j
    split at hst
    · rename_i h7
      simp only [Option.some.injEq, Prod.mk.injEq] at hst
      obtain ⟨rfl, rfl, rfl, rfl⟩ := hst
      have e : ln = 3 := of_decide_eq_true hlen
      subst e
      unfold zi_ok at hok
      dsimp only at hok
      split at hok
      · rename_i q hq
        obtain ⟨u1, u2, u3, u4, u5, u6⟩ := hcl _ _ hq
        obtain ⟨C, T, N⟩ := q
        dsimp only at u1 u2 u3 u4 u5 u6 hok
        subst u4
        refine va_new (C := C) (T := T) (N := zi_fld a) (ci := a) (fs := (List.range (zi_fld a)).map (fun k => defaultValue (zi_ty a k))) hx hb hts u1 (zi_ty a) u2 hown (hts _ (zi_tb_in hok)) (hts _ u5) (hts _ u6) hK hP hD hS hA hq (fun k hk => by simp [vp_V, List.getD_eq_getElem?_getD, hk]) hC hSl hdg (fun q H1 p1 p2 p3 => ?_)
        have ew := zi_one_new (ρ := ρ) (b0 := b0) (cy := cy) (q := q) (c := (a, (List.range (zi_fld a)).map (fun k => defaultValue (zi_ty a k)))) hln hwh
        rw [zi_ce_obj h7, zi_defs h7] at ew
        rw [← ew] at p1 p2
        have h5 := kk [q] H1 p1 p2 p3 (hlc _) (by simp [hln]) (Nat.le_refl _)
        rw [List.map_cons, zi_top q [] hln, zi_cvl_grow hws] at h5
        exact h5
      · cases hok
    · cases hst
  · -- newarray int
    split at hst
    · rename_i n rest
      split at hst
      · cases hst
      · rename_i hn
        simp only [Option.some.injEq, Prod.mk.injEq] at hst
        obtain ⟨rfl, rfl, rfl, rfl⟩ := hst
        have e : ln = 2 := of_decide_eq_true hlen
        subst e
        have hn0 : ¬ n < 0 := fun q => hn (Or.inl q)
        have hn1 : n.toNatClampNeg ≤ 100000 := Nat.not_lt.mp fun q => hn (Or.inr q)
        refine va_newa (atype := .int) (ty := .int) (a0 := (n.toNatClampNeg, .inl (fun _ => 0))) hx hb (hts _ hAI) rfl hK hP hD hS hA (fun cA => rfl) hn0 rfl (by show _ * 4 ≤ _; omega) hC hSl hdg (fun q cA H1 hK1 p1 p2 p3 => ?_)
        have e : cA = cy 7 := Option.some.inj ((hK1.2 5 _ rfl).2.symm.trans (hK.2 0 _ rfl).2)
        subst e
        have ew := zi_one_new (ρ := ρ) (b0 := b0) (cy := cy) (q := q) (c := (7, List.replicate n.toNatClampNeg (.int 0))) hln hwh
        rw [zi_ce_int, zi_zero, List.length_replicate] at ew
        rw [← ew] at p1 p2
        have h5 := kk [q] H1 p1 p2 p3 (hlc _) (by simp [hln]) (Nat.le_refl _)
        rw [List.map_cons, zi_top q [] hln, zi_cvl_grow (by simp only [zi_wfl, List.all_cons, Bool.and_eq_true] at hws ⊢; exact hws.2)] at h5
        exact h5
    · cases hst
  · -- newarray boolean
    split at hst
    · rename_i n rest
      split at hst
      · cases hst
      · rename_i hn
        simp only [Option.some.injEq, Prod.mk.injEq] at hst
        obtain ⟨rfl, rfl, rfl, rfl⟩ := hst
        have e : ln = 2 := of_decide_eq_true hlen
        subst e
        have hn0 : ¬ n < 0 := fun q => hn (Or.inl q)
        have hn1 : n.toNatClampNeg ≤ 100000 := Nat.not_lt.mp fun q => hn (Or.inr q)
        refine va_newa (atype := .boolean) (ty := .boolean) (a0 := (n.toNatClampNeg, .inl (fun _ => 0))) hx hb (hts _ hAZ) rfl hK hP hD hS hA (fun cA => rfl) hn0 rfl (by show _ * 1 ≤ _; omega) hC hSl hdg (fun q cA H1 hK1 p1 p2 p3 => ?_)
        have e : cA = cy 8 := Option.some.inj ((hK1.2 5 _ rfl).2.symm.trans (hK.2 1 _ rfl).2)
        subst e
        have ew := zi_one_new (ρ := ρ) (b0 := b0) (cy := cy) (q := q) (c := (8, List.replicate n.toNatClampNeg (.int 0))) hln hwh
        rw [zi_ce_boo, zi_zero, List.length_replicate] at ew
        rw [← ew] at p1 p2
        have h5 := kk [q] H1 p1 p2 p3 (hlc _) (by simp [hln]) (Nat.le_refl _)
        rw [List.map_cons, zi_top q [] hln, zi_cvl_grow (by simp only [zi_wfl, List.all_cons, Bool.and_eq_true] at hws ⊢; exact hws.2)] at h5
        exact h5
    · cases hst
  · -- anewarray
    rename_i j
    split at hst
    · rename_i n rest
      split at hst
      · cases hst
      · rename_i hn
        simp only [Option.some.injEq, Prod.mk.injEq] at hst
        obtain ⟨rfl, rfl, rfl, rfl⟩ := hst
        have e : ln = 3 := of_decide_eq_true hlen
        subst e
        have hn0 : ¬ n < 0 := fun q => hn (Or.inl q)
        have hn1 : n.toNatClampNeg ≤ 100000 := Nat.not_lt.mp fun q => hn (Or.inr (Or.inl q))
        have ha : a = 9 ∨ a = 10 := Classical.not_not.mp fun q => hn (Or.inr (Or.inr q))
        have hok : zi_tb t (.classLink own j (if a = 9 then RX2 else RX4)) = true := hok
        have h9 : 9 ≤ a := by omega
        have kq : ∀ (q : Nat) (H1 : Heap), va_P D vwCl (zi_w ρ b0 as cy h ++ [(q, .inl (cy a, n.toNatClampNeg, .inr (.inr (.inr (.inr (fun _ => none))))))]) H1 → va_D A (zi_w ρ b0 as cy h ++ [(q, .inl (cy a, n.toNatClampNeg, .inr (.inr (.inr (.inr (fun _ => none))))))]) → va_S A H0 H1 locs → W p l e R s m args below meth c H1 locs (cells + 1) (slots + n.toNatClampNeg) Q (F0 m (pc + 3) ls (.ref q :: rest.map (zi_cv ρ b0 as))) := by
          intro q H1 p1 p2 p3
          have ew := zi_one_new (ρ := ρ) (b0 := b0) (cy := cy) (q := q) (c := (a, List.replicate n.toNatClampNeg .null)) hln hwh
          rw [zi_ce_ref h9, zi_nulls, List.length_replicate] at ew
          rw [← ew] at p1 p2
          have h5 := kk [q] H1 p1 p2 p3 (hlc _) (by simp [hln]) (Nat.le_refl _)
          rw [List.map_cons, zi_top q [] hln, zi_cvl_grow (by simp only [zi_wfl, List.all_cons, Bool.and_eq_true] at hws ⊢; exact hws.2)] at h5
          exact h5
        rcases ha with rfl | rfl
        · refine va_newq (C := RX2) hx hb hown (hts _ (zi_tb_in hok)) hA2 hK hP hD hS hA hn0 rfl (by omega) hC hSl hdg (fun q cA H1 hK1 p1 p2 p3 => ?_)
          obtain ⟨-, -, -, -, -, f1⟩ := (hK1.2 5 _ rfl).2
          obtain ⟨-, -, -, -, -, f2⟩ := (hK.2 2 _ rfl).2
          have e : cA = cy 9 := Option.some.inj (f1.symm.trans f2)
          subst e
          exact kq q H1 p1 p2 p3
        · refine va_newq (C := RX4) hx hb hown (hts _ (zi_tb_in hok)) hA4 hK hP hD hS hA hn0 rfl (by omega) hC hSl hdg (fun q cA H1 hK1 p1 p2 p3 => ?_)
          obtain ⟨-, -, -, -, -, f1⟩ := (hK1.2 5 _ rfl).2
          obtain ⟨-, -, -, -, -, f2⟩ := (hK.2 3 _ rfl).2
          have e : cA = cy 10 := Option.some.inj (f1.symm.trans f2)
          subst e
          exact kq q H1 p1 p2 p3
    · cases hst
  · -- multianewarray
    rename_i j
    split at hst
    · rename_i k n rest
      split at hst
      · cases hst
      · rename_i hn
        simp only [Option.some.injEq, Prod.mk.injEq] at hst
        obtain ⟨rfl, rfl, rfl, rfl⟩ := hst
        have e : ln = 4 := of_decide_eq_true hlen
        subst e
        have hn0 : ¬ n < 0 := fun q => hn (Or.inl q)
        have hk0 : ¬ k < 0 := fun q => hn (Or.inr (Or.inl q))
        have hn1 : n.toNatClampNeg ≤ 100000 := Nat.not_lt.mp fun q => hn (Or.inr (Or.inr (Or.inl q)))
        have hk1 : k.toNatClampNeg ≤ 100000 := Nat.not_lt.mp fun q => hn (Or.inr (Or.inr (Or.inr q)))
        have hok : zi_tb t (.classLink own j ("[" ++ (FieldType.array .int).toString)) = true := hok
        have f7 : s.vm.findClass (FieldType.array .int).toString = some (cy 7) := (hK.2 0 _ rfl).2
        refine va_mna (X := zi_w ρ b0 as cy h) (L := []) (f := fun _ => .inr (0, [])) (ty := .int) (cy := cy 7) (z := (k.toNatClampNeg, .inl (fun _ => 0))) hx hb hown (hts _ (zi_tb_in hok)) hAA (hts _ hAI) f7 hK (by simpa [va_pl] using hP) (by simpa [va_pl] using hD) hS hA hn0 hk0 rfl rfl (by omega) (by show _ * 4 ≤ _; omega) (by omega) rfl rfl hC hSl (fun c0 => arrV_new c0 _ _) hdg (fun q r cA H1 hinj hnot hK1 p1 p2 p3 => ?_)
        have e : cA = cy 11 := Option.some.inj ((hK1.2 5 _ rfl).2.symm.trans (hK.2 4 _ rfl).2)
        subst e
        have ew : (zi_w ρ b0 as cy h ++ [(q, .inl (cy 11, n.toNatClampNeg, .inr (.inr (.inr (.inr (fun i => if i < n.toNatClampNeg then some (r i) else none))))))]) ++ va_pl ([] ++ (List.range n.toNatClampNeg).map r) (vr_up (fun _ => .inr (0, [])) ((List.range n.toNatClampNeg).map r) (.inl (cy 7, (k.toNatClampNeg, .inl (fun _ => 0))))) = zi_w ρ b0 (as ++ q :: (List.range n.toNatClampNeg).map r) cy (h ++ (11, (List.range n.toNatClampNeg).map (fun i => .ref (h.length + 2 + i))) :: List.replicate n.toNatClampNeg (7, List.replicate k.toNatClampNeg (.int 0))) := by
          rw [zi_w_grow hln hwh, List.append_assoc, List.mapIdx_cons]
          congr 1
          rw [List.singleton_append]
          congr 1
          · rw [zi_ce_ref (by omega)]
            have e1 : (fun i => zi_rv (as ++ q :: (List.range n.toNatClampNeg).map r) (((List.range n.toNatClampNeg).map (fun i => Value.ref (h.length + 2 + i))).getD i .null)) = (fun i => if i < n.toNatClampNeg then some (r i) else none) := by
              funext i
              by_cases hi : i < n.toNatClampNeg
              · rw [if_pos hi]
                have e2 : ((List.range n.toNatClampNeg).map (fun i => Value.ref (h.length + 2 + i))).getD i .null = .ref ((h.length + 1 + i) + 1) := by
                  rw [List.getD_eq_getElem?_getD, List.getElem?_map, List.getElem?_range hi]
                  have e9 : h.length + 2 + i = h.length + 1 + i + 1 := by omega
                  exact congrArg Value.ref e9
                rw [e2]
                show some ((as ++ q :: (List.range n.toNatClampNeg).map r).getD (h.length + 1 + i) 0) = _
                rw [← hln, List.getD_eq_getElem?_getD, List.getElem?_append_right (by omega)]
                have e3 : as.length + 1 + i - as.length = i + 1 := by omega
                rw [e3]
                simp [hi]
              · rw [if_neg hi]
                have e2 : ((List.range n.toNatClampNeg).map (fun i => Value.ref (h.length + 2 + i))).getD i .null = .null := by
                  simp [List.getD_eq_getElem?_getD, hi]
                rw [e2]
                rfl
            rw [e1]
            simp
          · apply List.ext_getElem?
            intro i
            unfold va_pl
            rw [List.getElem?_mapIdx]
            have e7 : ∀ xs : List Nat, zi_ce ρ b0 xs cy (7, List.replicate k.toNatClampNeg (.int 0)) = .inl (cy 7, k.toNatClampNeg, .inl (fun _ => 0)) := fun xs => by rw [zi_ce_int, zi_zero, List.length_replicate]
            by_cases hi : i < n.toNatClampNeg
            · simp only [List.nil_append, List.getElem?_map, List.getElem?_range hi, List.getElem?_replicate, if_pos hi, Option.map_some, e7, List.getD_eq_getElem?_getD, List.getElem?_cons_succ, Option.getD_some]
              rw [vr_up_in (List.mem_map.mpr ⟨i, List.mem_range.mpr hi, rfl⟩)]
            · simp [hi]
        rw [ew] at p1 p2
        have h5 := kk (q :: (List.range n.toNatClampNeg).map r) H1 p1 p2 p3 (hlc _) (by simp [hln]) (by simp; omega)
        rw [List.map_cons, zi_top q _ hln, zi_cvl_grow (by simp only [zi_wfl, List.all_cons, Bool.and_eq_true] at hws ⊢; exact hws.2.2), ← Nat.add_assoc, ← Nat.add_assoc] at h5
        exact h5
    · cases hst
  · cases hst
end ZN
end
section
/-! what the tables say beside the words -/
def zi_Nst (U : State) : Prop := (∀ w ∈ zi_nest, va_Nw w U) ∧ va_AO RX2 U ∧ va_AO RX4 U ∧ va_AOA .int U
theorem zi_nest_k : ∀ w ∈ zi_nest, ∃ (a : String) (i : Nat) (x : MethodName) (h : String), w = Cond.methodLinkNest a i x h := by
  intro w hw
  simp only [zi_nest, List.mem_cons, List.not_mem_nil, or_false] at hw
  rcases hw with rfl | rfl | rfl | rfl | rfl | rfl | rfl | rfl | rfl <;> exact ⟨_, _, _, _, rfl⟩
theorem zi_Nst.warm {s U : State} (hW : s.WarmedH U.vm) (h : zi_Nst s) : zi_Nst U := by
  refine ⟨fun w hw => ?_, h.2.1.moved hW.alike, h.2.2.1.moved hW.alike, Jvm.Stand.arrayOver_alikeB hW.alike h.2.2.2⟩
  obtain ⟨a, i, x, g, rfl⟩ := zi_nest_k w hw
  exact va_Nw.warmM hW (h.1 _ hw)
theorem zi_Nst.same {u U : State} (e : u.vm = U.vm) (h : zi_Nst u) : zi_Nst U := by
  have ha : u.vm.Alike U.vm := by rw [← e]; exact Vm.Alike.refl u.vm
  refine ⟨fun w hw => ?_, h.2.1.moved ha, h.2.2.1.moved ha, Jvm.Stand.arrayOver_alikeB ha h.2.2.2⟩
  obtain ⟨a, i, x, g, rfl⟩ := zi_nest_k w hw
  exact va_Nw.same rfl e (h.1 _ hw)
/-! a method's contract -/
def zi_Pc (ρ : Nat → Int32) (b0 : Nat) (as : List Nat) (cy : Nat → ClassId) (D : va_G) (sz : Nat) (h : zi_Hp) (vs : List Value) : Array Value → State → Prop :=
  va_Pc (vs.map (zi_cv ρ b0 as)) (fun U => U.heap.size = sz ∧ va_P D vwCl (zi_w ρ b0 as cy h) U.heap ∧ va_K D vwCl (zi_tys cy) U ∧ va_D (fun _ => True) (zi_w ρ b0 as cy h) ∧ zi_Nst U)
def zi_Qc (ρ : Nat → Int32) (b0 : Nat) (as : List Nat) (cy : Nat → ClassId) (D : va_G) (sz : Nat) (h : zi_Hp) (mc : Nat) (os : List zi_Out) : Array Value → State → Outcome → State → Prop :=
  fun _ st oc t => ∃ o ∈ os, zi_rho ρ o.1 ∧ ∃ qs : List Nat, qs.length ≤ mc ∧ (as ++ qs).length = o.2.2.length ∧ oc = .returned (o.2.1.map (zi_cv ρ b0 (as ++ qs))) ∧ va_P D vwCl (zi_w ρ b0 (as ++ qs) cy o.2.2) t.heap ∧ va_D (va_A (zi_w ρ b0 as cy h) sz) (zi_w ρ b0 (as ++ qs) cy o.2.2) ∧ va_F (va_A (zi_w ρ b0 as cy h) sz) st t
abbrev zi_wsM (mt : zi_Me) : List Cond := Cond.code mt.1 mt.2.1 mt.2.2.1 mt.2.2.2.1 :: zi_Ts
abbrev zi_rm (mt : zi_Me) (dp : Nat) : Room := { frames := dp, cells := mt.2.2.2.2.2.1, slots := mt.2.2.2.2.2.2, locals := 40 * dp }
def zi_callOk (l : Launch) (ms : List zi_Me) (call : Nat → List Value → zi_Hp → zi_Dm → Option (List zi_Out)) (dp : Nat) : Prop :=
  ∀ (a : Nat) (mt : zi_Me), ms[a]? = some mt → ∀ (vs : List Value) (h : zi_Hp) (d : zi_Dm) (os : List zi_Out), call a vs h d = some os → ∀ (ρ : Nat → Int32) (b0 : Nat) (as : List Nat) (cy : Nat → ClassId) (D : va_G) (sz : Nat), zi_rho ρ d → as.length = h.length →
    Met l mt.1 (zi_wsM mt) (zi_rm mt dp) (zi_Pc ρ b0 as cy D sz h vs) (zi_Qc ρ b0 as cy D sz h mt.2.2.2.2.2.1 os) mt.2.2.2.2.2.1 mt.2.2.2.2.2.2 (va_A (zi_w ρ b0 as cy h) sz)
/-- what is known of each method -/
def zi_mOk (ms : List zi_Me) : Prop := ∀ (a : Nat) (mt : zi_Me), ms[a]? = some mt → Cond.code mt.1 mt.2.1 mt.2.2.1 mt.2.2.2.1 ∈ zi_Ts ∧ Cond.initialized mt.1.cls ∈ zi_Ts ∧ plainFor mt.1 = true ∧ (mt.1.cls ≠ "java/lang/invoke/MethodHandle" ∧ mt.1.cls ≠ "java/lang/invoke/VarHandle") ∧ mt.2.2.1 ≤ 21 ∧
  ∀ r ∈ mt.2.2.2.2.1, decode mt.2.1 r.1 = .ok (r.2.1, r.2.2.1) ∧ zi_lok r = true ∧ zi_ok mt.1.cls (decide (mt.1.name = "<init>")) ms r = true
theorem zi_goodM {ms : List zi_Me} (h : zi_mOk ms) {a : Nat} {mt : zi_Me} (e : ms[a]? = some mt) : GoodIn zi_Ts (zi_wsM mt) := by
  intro w hw
  rcases List.mem_cons.mp hw with rfl | hw
  · exact ⟨(h a mt e).1, zi_Ts_good (h a mt e).1⟩
  · exact ⟨hw, zi_Ts_good hw⟩
theorem zi_catsum (l : List Value) : (l.map fun v => v.category).sum ≤ 2 * l.length := by
  induction l with
  | nil => simp
  | cons v l ih =>
    have : v.category ≤ 2 := by rcases lv_cat v with h | h <;> omega
    simp only [List.map_cons, List.sum_cons, List.length_cons]
    omega
section ZB
variable {p : Program} {l : Launch} {e : Env} {R : Room} {s : State} {m : MethodId} {args : Array Value} {below : List Frame} {meth : Method} {c : Code} {H : Heap} {locs : List Loc} {cells slots : Nat} {Q : State → Prop}
variable {cc : ByteArray} {ls : Array Slot} {D : va_G} {A : Nat → Prop} {pc : Nat} {rest : List Value}
variable {ρ : Nat → Int32} {b0 : Nat} {as : List Nat} {cy : Nat → ClassId}
theorem zi_Wif {cnd : ClassFile.Cond} {x : Int32} {off : Int} {tgt : Nat} (hx : p.tables.exec = Jvm.exec) (hb : c.code = cc) (hdg : decode cc pc = .ok (.ifCond cnd off, 3)) (ht : (pc : Int) + off = (tgt : Int))
    (kt : zi_cmp cnd x 0 = true → W p l e R s m args below meth c H locs cells slots Q (F0 m tgt ls rest)) (kf : ¬ zi_cmp cnd x 0 = true → W p l e R s m args below meth c H locs cells slots Q (F0 m (pc + 3) ls rest)) : W p l e R s m args below meth c H locs cells slots Q (F0 m pc ls (.int x :: rest)) := by
  cases cnd <;> simp only [zi_cmp, decide_eq_true_eq] at kt kf
  · exact lv_if_eq hx hb hdg ht kt kf
  · exact lv_if_ne hx hb hdg ht kt (fun h => kf (fun n => n h))
  · exact lv_if_lt hx hb hdg ht kt kf
  · exact lv_if_ge hx hb hdg ht kt kf
  · exact lv_if_gt hx hb hdg ht kt kf
  · exact lv_if_le hx hb hdg ht kt kf
theorem zi_Wicmp {cnd : ClassFile.Cond} {x y : Int32} {off : Int} {tgt : Nat} (hx : p.tables.exec = Jvm.exec) (hb : c.code = cc) (hdg : decode cc pc = .ok (.if_icmp cnd off, 3)) (ht : (pc : Int) + off = (tgt : Int))
    (kt : zi_cmp cnd x y = true → W p l e R s m args below meth c H locs cells slots Q (F0 m tgt ls rest)) (kf : ¬ zi_cmp cnd x y = true → W p l e R s m args below meth c H locs cells slots Q (F0 m (pc + 3) ls rest)) : W p l e R s m args below meth c H locs cells slots Q (F0 m pc ls (.int y :: .int x :: rest)) := by
  cases cnd <;> simp only [zi_cmp, decide_eq_true_eq] at kt kf
  · exact lv_icmp_eq hx hb hdg ht kt kf
  · exact lv_icmp_ne hx hb hdg ht kt (fun h => kf (fun n => n h))
  · exact lv_icmp_lt hx hb hdg ht kt kf
  · exact lv_icmp_ge hx hb hdg ht kt kf
  · exact lv_icmp_gt hx hb hdg ht kt kf
  · exact lv_icmp_le hx hb hdg ht kt kf
/-- behind a call -/
theorem zi_Wcall {a : Array Value} {h : zi_Hp} {os : List zi_Out} {mc mS : Nat} {st0 : List Value}
    (hr : va_Run p l e R s m args below meth c H locs cells slots mc mS (F0 m pc ls st0) rest (zi_Qc ρ b0 as cy D H.size h mc os a) (va_A (zi_w ρ b0 as cy h) H.size))
    (hA : ∀ q, s.heap.size ≤ q → A q) (hD : va_D A (zi_w ρ b0 as cy h)) (hS : va_S A s.heap H locs)
    (kk : ∀ o ∈ os, zi_rho ρ o.1 → ∀ (qs : List Nat) (H1 : Heap) (locs1 : List Loc), qs.length ≤ mc → (as ++ qs).length = o.2.2.length → va_P D vwCl (zi_w ρ b0 (as ++ qs) cy o.2.2) H1 → va_D A (zi_w ρ b0 (as ++ qs) cy o.2.2) → va_S A s.heap H1 locs1 → W p l e R s m args below meth c H1 locs1 (cells + mc) (slots + mS) Q (F0 m (pc + 3) ls ((o.2.1.map (zi_cv ρ b0 (as ++ qs))).toList ++ rest))) :
    W p l e R s m args below meth c H locs cells slots Q (F0 m pc ls st0) := by
  have hF : ∀ q, va_A (zi_w ρ b0 as cy h) H.size q → A q := fun q hq => by
    rcases hq with ⟨k, x, hk⟩ | hq
    · exact hD.2 k (q, x) hk
    · exact hA q (Nat.le_trans hS.1 hq)
  intro T hT X
  obtain ⟨v, st₀, t, T', L, h0, X', hL, e1, e2, ⟨o, ho, hrho, qs, q1, q2, hv, hp, hd, hz, hk⟩, st⟩ := hr T hT X
  have hv : v = o.2.1.map (zi_cv ρ b0 (as ++ qs)) := by injection hv
  subst hv
  rw [h0] at hz hk
  obtain ⟨t2, a1, b1⟩ := kk o ho hrho qs T'.heap (locs ++ L) q1 q2 (by rw [e1]; exact hp) (hd.weaken (fun _ q _ h => hF q.1 h))
    ⟨Nat.le_trans hS.1 (by rw [e1]; exact hz), fun q h1 h2 => by rw [e1, hk q (Nat.lt_of_lt_of_le h1 hS.1) (fun z => h2 (hF q z))]; exact hS.2.1 q h1 h2, fun q hq => by
      rcases List.mem_append.mp hq with h | h
      · exact hS.2.2 q h
      · exact hF _ (hL q h)⟩ T' rfl X'
  exact ⟨t2, st t2 a1, b1⟩
theorem zi_blind {sz : Nat} {h : zi_Hp} {vs : List Value} : FrameBlind (zi_Pc ρ b0 as cy D sz h vs) := by
  intro a U g mk q
  obtain ⟨q0, q1, qP, qK, qD, qN⟩ := q
  exact ⟨q0, q1, qP, va_K.moved (u := U) (U := U.calling g mk a) (Vm.Alike.refl U.vm) qK, qD, zi_Nst.same (u := U) (U := U.calling g mk a) rfl qN⟩
theorem zi_pre {h : zi_Hp} {vs : List Value} (hP : va_P D vwCl (zi_w ρ b0 as cy h) H) (hK : va_K D vwCl (zi_tys cy) s) (hD : va_D A (zi_w ρ b0 as cy h)) (hN : zi_Nst s) :
    ∀ U : State, U.heap = H → s.WarmedH U.vm → zi_Pc ρ b0 as cy D H.size h vs (vs.map (zi_cv ρ b0 as)).toArray U := fun U hU hW =>
  ⟨rfl, by rw [hU], by rw [hU]; exact hP, va_K.moved hW.alike hK, hD.weaken (fun _ _ _ _ => trivial), hN.warm hW⟩
end ZB
theorem zi_ask_st {ρ : Nat → Int32} {b0 : Nat} {as : List Nat} {i : Instr} {st : List Value} {k : UInt32} {f : Int32 → List Value} (h : zi_ask i st = some (k, f)) : (f (ρ k.toNat)).map (zi_cv ρ b0 as) = st.map (zi_cv ρ b0 as) := by
  unfold zi_ask at h
  split at h
  all_goals first
    | cases h; done
    | (split at h
       · cases h; rfl
       · cases h)
theorem zi_cpyl {l0 l1 : List Value} {sp dp n : Nat} (h4 : sp + n ≤ l0.length) (h5 : dp + n ≤ l1.length) : (l1.take dp ++ ((l0.drop sp).take n ++ l1.drop (dp + n))).length = l1.length := by
  simp only [List.length_append, List.length_take, List.length_drop]
  omega
theorem zi_cpyf {ρ : Nat → Int32} {l0 l1 : List Value} {sp dp n : Nat} (h4 : sp + n ≤ l0.length) (h5 : dp + n ≤ l1.length) : (fun i => zi_iv ρ ((l1.take dp ++ ((l0.drop sp).take n ++ l1.drop (dp + n))).getD i (.int 0))) = va_cpy (fun i => zi_iv ρ (l0.getD i (.int 0))) (fun i => zi_iv ρ (l1.getD i (.int 0))) sp dp n := by
  funext i
  unfold va_cpy
  have e1 : (l1.take dp).length = dp := by rw [List.length_take]; omega
  have e2 : ((l0.drop sp).take n).length = n := by rw [List.length_take, List.length_drop]; omega
  simp only [List.getD_eq_getElem?_getD]
  by_cases c1 : i < dp
  · rw [if_neg (by omega), List.getElem?_append_left (by omega), List.getElem?_take, if_pos c1]
  · by_cases c2 : i < dp + n
    · rw [if_pos ⟨by omega, c2⟩, List.getElem?_append_right (by omega), List.getElem?_append_left (by omega), List.getElem?_take, if_pos (by omega), List.getElem?_drop, e1]
    · rw [if_neg (by omega), List.getElem?_append_right (by omega), List.getElem?_append_right (by omega), List.getElem?_drop, e1, e2]
      congr 3
      omega
end
section
section ZA
variable {p : Program} {l : Launch} {e : Env} {R : Room} {s : State} {m : MethodId} {args : Array Value} {below : List Frame} {meth : Method} {c : Code} {Q : State → Prop}
variable {cc : ByteArray} {D : va_G} {A : Nat → Prop} {ρ : Nat → Int32} {b0 : Nat} {as0 : List Nat} {cy : Nat → ClassId} {own : String} {ini : Bool} {ms : List zi_Me} {scr : Option (List Value)} {nL mc mS dp : Nat} {ret : Option FieldType} {code0 : List zi_Row}
variable {call : Nat → List Value → zi_Hp → zi_Dm → Option (List zi_Out)} {OUT : List zi_Out}
set_option maxHeartbeats 8000000 in
theorem zi_go_sound
    (hx : p.tables.exec = Jvm.exec) (hb : c.code = cc) (hml : c.maxLocals = nL) (hown : s.vm.findClass own = some m.cls) (hts : ∀ w ∈ zi_Ts, w.before args s = true) (hcl : ∀ a q, vwCl[a]? = some q → zi_cok a q) (hini : ini = true → meth.name = "<init>")
    (hX : ∀ sl, scr = some sl → va_X b0 sl.length (fun j => zi_iv ρ (sl.getD j (.int 0))) s s.heap ∧ b0 < s.heap.size ∧ ¬ A b0)
    (hN : zi_Nst s) (hAI : Cond.arrayClass .int ∈ zi_Ts) (hAZ : Cond.arrayClass .boolean ∈ zi_Ts) (hoI : Cond.instanceMethod objectInit ∈ zi_Ts) (hoC : Cond.code objectInit ⟨#[0xb1]⟩ 1 none ∈ zi_Ts) (hcN : Cond.native arraycopyName ∈ zi_Ts) (hcS : Cond.static arraycopyName ∈ zi_Ts) (hcI : Cond.initialized "java/lang/System" ∈ zi_Ts)
    (hK : va_K D vwCl (zi_tys cy) s) (hA : ∀ q, s.heap.size ≤ q → A q)
    (hRf : dp + 1 ≤ R.frames) (hRl : 40 * (dp + 1) ≤ R.locals) (hRc : mc ≤ R.cells) (hRs : mS ≤ R.slots)
    (hcode : ∀ r ∈ code0, decode cc r.1 = .ok (r.2.1, r.2.2.1) ∧ zi_lok r = true ∧ zi_ok own ini ms r = true)
    (hms : zi_mOk ms) (hcall : zi_callOk l ms call dp)
    (hleaf : ∀ (pc : Nat) (ls : Array Slot) (st : List Value) (o : zi_Out) (H : Heap) (locs : List Loc) (kc ks : Nat) (as : List Nat), o ∈ OUT → zi_rho ρ o.1 → (∃ qs, as = as0 ++ qs ∧ qs.length ≤ kc) → as.length = o.2.2.length → kc ≤ mc → ks ≤ mS →
      va_P D vwCl (zi_w ρ b0 as cy o.2.2) H → va_D A (zi_w ρ b0 as cy o.2.2) → va_S A s.heap H locs →
      ((decode cc pc = .ok (.ireturn, 1) ∧ ∃ v, o.2.1 = some v ∧ zi_retOk ret v = true ∧ st = [v]) ∨ (decode cc pc = .ok (.areturn, 1) ∧ ∃ x, o.2.1 = some (.ref x) ∧ zi_retA ret = true ∧ st = [.ref x]) ∨ (decode cc pc = .ok (.return_, 1) ∧ o.2.1 = none ∧ ret = none ∧ st = [])) →
      W p l e R s m args below meth c H locs kc ks Q (F0 m pc ls (st.map (zi_cv ρ b0 as)))) :
    ∀ (n pc : Nat) (L : zi_Lc) (st : List Value) (h : zi_Hp) (d : zi_Dm) (kc ks : Nat) (os : List zi_Out), zi_go ms scr nL ret code0 mc mS call n pc L st h d kc ks = some os → (∀ o ∈ os, o ∈ OUT) → zi_rho ρ d → kc ≤ mc → ks ≤ mS →
      ∀ (as : List Nat) (H : Heap) (locs : List Loc) (ls : Array Slot), (∃ qs, as = as0 ++ qs ∧ qs.length ≤ kc) → as.length = h.length → lv_has ls nL (zi_lc ρ b0 as L) → va_P D vwCl (zi_w ρ b0 as cy h) H → va_D A (zi_w ρ b0 as cy h) → va_S A s.heap H locs →
      W p l e R s m args below meth c H locs kc ks Q (F0 m pc ls (st.map (zi_cv ρ b0 as))) := by
  intro n
  induction n with
  | zero =>
    intro pc L st h d kc ks os hgo
    simp only [zi_go] at hgo
    cases hgo
  | succ n ih =>
    intro pc L st h d kc ks os hgo hos hrho hkc hks as H locs ls has hln hl hP hD hS
    unfold zi_go at hgo
    split at hgo
    · cases hgo
    rename_i r hfind
    have hrm : r ∈ code0 := List.mem_of_find?_eq_some hfind
    have hpc : r.1 = pc := by simpa using List.find?_some hfind
    obtain ⟨hdg, hlen, hok⟩ := hcode r hrm
    subst hpc
    split at hgo
    · -- an unknown index
      rename_i k f hask
      split at hgo
      · cases hgo
      rename_i dl hdl
      split at hgo
      · have hm := hrho.1 _ _ hdl
        obtain ⟨o, h1, h2⟩ := zi_bind_some hgo _ (zi_vals_mem hm)
        have h3 := ih _ _ _ _ _ _ _ _ h1 (fun y hy => hos y (h2 y hy)) (zi_rho_set hrho ⟨_, List.mem_singleton.mpr rfl, Int.le_refl _, Int.le_refl _⟩) hkc hks as H locs ls has hln hl hP hD hS
        rw [Int32.ofInt_toInt, zi_ask_st hask] at h3
        exact h3
      · cases hgo
    rename_i hask
    split at hgo
    · -- ireturn
      rename_i hi
      have hdg' : decode cc r.1 = .ok (.ireturn, 1) := by
        have e1 : r.2.2.1 = 1 := by
          have h := hlen
          unfold zi_lok at h
          rw [hi] at h
          exact of_decide_eq_true h
        rw [hdg, hi, e1]
      split at hgo
      · rename_i v
        split at hgo
        · rename_i hr
          cases hgo
          exact hleaf _ ls [v] _ H locs kc ks as (hos _ (List.mem_singleton.mpr rfl)) hrho has hln hkc hks hP hD hS (Or.inl ⟨hdg', v, rfl, hr, rfl⟩)
        · cases hgo
      · cases hgo
    · -- areturn
      rename_i hi
      have hdg' : decode cc r.1 = .ok (.areturn, 1) := by
        have e1 : r.2.2.1 = 1 := by
          have h := hlen
          unfold zi_lok at h
          rw [hi] at h
          exact of_decide_eq_true h
        rw [hdg, hi, e1]
      split at hgo
      · rename_i x
        split at hgo
        · rename_i hr
          cases hgo
          exact hleaf _ ls [.ref x] _ H locs kc ks as (hos _ (List.mem_singleton.mpr rfl)) hrho has hln hkc hks hP hD hS (Or.inr (Or.inl ⟨hdg', x, rfl, hr, rfl⟩))
        · cases hgo
      · cases hgo
    · -- return
      rename_i hi
      have hdg' : decode cc r.1 = .ok (.return_, 1) := by
        have e1 : r.2.2.1 = 1 := by
          have h := hlen
          unfold zi_lok at h
          rw [hi] at h
          exact of_decide_eq_true h
        rw [hdg, hi, e1]
      split at hgo
      · split at hgo
        · rename_i hr
          cases hgo
          exact hleaf _ ls [] _ H locs kc ks as (hos _ (List.mem_singleton.mpr rfl)) hrho has hln hkc hks hP hD hS (Or.inr (Or.inr ⟨hdg', rfl, hr, rfl⟩))
        · cases hgo
      · cases hgo
    · -- goto
      rename_i off hi
      obtain ⟨pc, i, ln, a, b, t, v⟩ := r
      dsimp only at hi hgo hdg hlen hok hask hfind hrm ⊢
      subst hi
      have e1 : ln = 3 := of_decide_eq_true hlen
      subst e1
      have e2 : (pc : Int) + off = (a : Int) := of_decide_eq_true hok
      exact lv_goto hx hb hdg e2 (ih _ _ _ _ _ _ _ _ hgo hos hrho hkc hks as H locs ls has hln hl hP hD hS)
    · -- if
      rename_i cnd off hi
      obtain ⟨pc, i, ln, a, b, t, v⟩ := r
      dsimp only at hi hgo hdg hlen hok hask hfind hrm ⊢
      subst hi
      have e1 : ln = 3 := of_decide_eq_true hlen
      subst e1
      have e2 : (pc : Int) + off = (a : Int) := of_decide_eq_true hok
      split at hgo
      · rename_i x rest
        refine zi_Wif hx hb hdg e2 (fun hc => ?_) (fun hc => ?_)
        · rw [if_pos hc] at hgo
          exact ih _ _ _ _ _ _ _ _ hgo hos hrho hkc hks as H locs ls has hln hl hP hD hS
        · rw [if_neg hc] at hgo
          exact ih _ _ _ _ _ _ _ _ hgo hos hrho hkc hks as H locs ls has hln hl hP hD hS
      · rename_i k rest
        split at hgo
        · cases hgo
        rename_i dl hdl
        have hm := hrho.1 _ _ hdl
        have key : ∀ (q : zi_Iv × Nat), q ∈ [(zi_T cnd 0 dl, a), (zi_T (zi_neg cnd) 0 dl, pc + 3)] → zi_mem (ρ k.toNat).toInt q.1 → W p l e R s m args below meth c H locs kc ks Q (F0 m q.2 ls (rest.map (zi_cv ρ b0 as))) := by
          intro q hq hqm
          obtain ⟨o, h1, h2⟩ := zi_bind_some hgo q hq
          have hne : q.1.isEmpty = false := by
            obtain ⟨y, hy, -⟩ := hqm
            cases hq1 : q.1 with
            | nil => rw [hq1] at hy; cases hy
            | cons _ _ => rfl
          rw [hne] at h1
          exact ih _ _ _ _ _ _ _ _ h1 (fun y hy => hos y (h2 y hy)) (zi_rho_set hrho hqm) hkc hks as H locs ls has hln hl hP hD hS
        refine zi_Wif (x := ρ k.toNat) hx hb hdg e2 (fun hc => ?_) (fun hc => ?_)
        · exact key (_, _) List.mem_cons_self (zi_T_mem hm (zi_lo _) (zi_hi _) (zi_cmp_hold.mp hc))
        · refine key (_, _) (List.mem_cons_of_mem _ List.mem_cons_self) (zi_T_mem hm (zi_lo _) (zi_hi _) ?_)
          rcases zi_hold_neg cnd (ρ k.toNat).toInt 0 with h1 | h1
          · exact absurd (zi_cmp_hold.mpr h1) hc
          · exact h1
      · cases hgo
    · -- if_icmp
      rename_i cnd off hi
      obtain ⟨pc, i, ln, a, b, t, v⟩ := r
      dsimp only at hi hgo hdg hlen hok hask hfind hrm ⊢
      subst hi
      have e1 : ln = 3 := of_decide_eq_true hlen
      subst e1
      have e2 : (pc : Int) + off = (a : Int) := of_decide_eq_true hok
      split at hgo
      · rename_i y x rest
        refine zi_Wicmp hx hb hdg e2 (fun hc => ?_) (fun hc => ?_)
        · rw [if_pos hc] at hgo
          exact ih _ _ _ _ _ _ _ _ hgo hos hrho hkc hks as H locs ls has hln hl hP hD hS
        · rw [if_neg hc] at hgo
          exact ih _ _ _ _ _ _ _ _ hgo hos hrho hkc hks as H locs ls has hln hl hP hD hS
      · rename_i y k rest
        split at hgo
        · cases hgo
        rename_i dl hdl
        have hm := hrho.1 _ _ hdl
        have key : ∀ (q : zi_Iv × Nat), q ∈ [(zi_T cnd y.toInt dl, a), (zi_T (zi_neg cnd) y.toInt dl, pc + 3)] → zi_mem (ρ k.toNat).toInt q.1 → W p l e R s m args below meth c H locs kc ks Q (F0 m q.2 ls (rest.map (zi_cv ρ b0 as))) := by
          intro q hq hqm
          obtain ⟨o, h1, h2⟩ := zi_bind_some hgo q hq
          have hne : q.1.isEmpty = false := by
            obtain ⟨y, hy, -⟩ := hqm
            cases hq1 : q.1 with
            | nil => rw [hq1] at hy; cases hy
            | cons _ _ => rfl
          rw [hne] at h1
          exact ih _ _ _ _ _ _ _ _ h1 (fun y hy => hos y (h2 y hy)) (zi_rho_set hrho hqm) hkc hks as H locs ls has hln hl hP hD hS
        refine zi_Wicmp (x := ρ k.toNat) (y := y) hx hb hdg e2 (fun hc => ?_) (fun hc => ?_)
        · exact key (_, _) List.mem_cons_self (zi_T_mem hm (zi_lo _) (zi_hi _) (zi_cmp_hold.mp hc))
        · refine key (_, _) (List.mem_cons_of_mem _ List.mem_cons_self) (zi_T_mem hm (zi_lo _) (zi_hi _) ?_)
          rcases zi_hold_neg cnd (ρ k.toNat).toInt y.toInt with h1 | h1
          · exact absurd (zi_cmp_hold.mpr h1) hc
          · exact h1
      · rename_i k x rest
        split at hgo
        · cases hgo
        rename_i dl hdl
        have hm := hrho.1 _ _ hdl
        have key : ∀ (q : zi_Iv × Nat), q ∈ [(zi_T (zi_swap cnd) x.toInt dl, a), (zi_T (zi_neg (zi_swap cnd)) x.toInt dl, pc + 3)] → zi_mem (ρ k.toNat).toInt q.1 → W p l e R s m args below meth c H locs kc ks Q (F0 m q.2 ls (rest.map (zi_cv ρ b0 as))) := by
          intro q hq hqm
          obtain ⟨o, h1, h2⟩ := zi_bind_some hgo q hq
          have hne : q.1.isEmpty = false := by
            obtain ⟨y, hy, -⟩ := hqm
            cases hq1 : q.1 with
            | nil => rw [hq1] at hy; cases hy
            | cons _ _ => rfl
          rw [hne] at h1
          exact ih _ _ _ _ _ _ _ _ h1 (fun y hy => hos y (h2 y hy)) (zi_rho_set hrho hqm) hkc hks as H locs ls has hln hl hP hD hS
        refine zi_Wicmp (x := x) (y := ρ k.toNat) hx hb hdg e2 (fun hc => ?_) (fun hc => ?_)
        · exact key (_, _) List.mem_cons_self (zi_T_mem hm (zi_lo _) (zi_hi _) (zi_hold_swap.mpr (zi_cmp_hold.mp hc)))
        · refine key (_, _) (List.mem_cons_of_mem _ List.mem_cons_self) (zi_T_mem hm (zi_lo _) (zi_hi _) ?_)
          rcases zi_hold_neg (zi_swap cnd) (ρ k.toNat).toInt x.toInt with h1 | h1
          · exact absurd (zi_cmp_hold.mpr (zi_hold_swap.mp h1)) hc
          · exact h1
      · cases hgo
    · -- tableswitch
      rename_i dflt lo hi' offs hi
      obtain ⟨pc, i, ln, a, b, t, v⟩ := r
      dsimp only at hi hgo hdg hlen hok hask hfind hrm ⊢
      subst hi
      have e2 : offs.size = (hi' - lo + 1).toNat := of_decide_eq_true hok
      split at hgo
      · rename_i x rest
        split at hgo
        · rename_i hc
          split at hgo
          · rename_i ht
            exact lv_tableOut hx hb hdg hc ht (ih _ _ _ _ _ _ _ _ hgo hos hrho hkc hks as H locs ls has hln hl hP hD hS)
          · cases hgo
        · rename_i hc
          split at hgo
          · rename_i off hoff
            split at hgo
            · rename_i ht
              exact lv_tableIn hx hb hdg (fun q => hc (Or.inl q)) (fun q => hc (Or.inr q)) hoff ht (ih _ _ _ _ _ _ _ _ hgo hos hrho hkc hks as H locs ls has hln hl hP hD hS)
            · cases hgo
          · cases hgo
      · rename_i k rest
        split at hgo
        · cases hgo
        rename_i dl hdl
        have hm := hrho.1 _ _ hdl
        have key : ∀ (q : zi_Iv × Int), q ∈ ((zi_T .lt lo dl, dflt) :: (zi_T .gt hi' dl, dflt) :: (List.range (hi' - lo + 1).toNat).map (fun (j : Nat) => (zi_T .eq (lo + (j : Int)) dl, offs[j]?.getD 0))) → zi_mem (ρ k.toNat).toInt q.1 → ∃ tg : Nat, (pc : Int) + q.2 = (tg : Int) ∧ W p l e R s m args below meth c H locs kc ks Q (F0 m tg ls (rest.map (zi_cv ρ b0 as))) := by
          intro q hq hqm
          obtain ⟨o, h1, h2⟩ := zi_bind_some hgo q hq
          have hne : q.1.isEmpty = false := by
            obtain ⟨y, hy, -⟩ := hqm
            cases hq1 : q.1 with
            | nil => rw [hq1] at hy; cases hy
            | cons _ _ => rfl
          rw [hne] at h1
          simp only [Bool.false_eq_true, if_false] at h1
          split at h1
          · rename_i ht
            exact ⟨_, ht, ih _ _ _ _ _ _ _ _ h1 (fun y hy => hos y (h2 y hy)) (zi_rho_set hrho hqm) hkc hks as H locs ls has hln hl hP hD hS⟩
          · cases h1
        by_cases c1 : (ρ k.toNat).toInt < lo
        · obtain ⟨tg, g1, g2⟩ := key (_, _) List.mem_cons_self (zi_T_mem (c := .lt) hm (zi_lo _) (zi_hi _) c1)
          exact lv_tableOut (x := ρ k.toNat) hx hb hdg (Or.inl c1) g1 g2
        · by_cases c2 : hi' < (ρ k.toNat).toInt
          · obtain ⟨tg, g1, g2⟩ := key (_, _) (List.mem_cons_of_mem _ List.mem_cons_self) (zi_T_mem (c := .gt) hm (zi_lo _) (zi_hi _) c2)
            exact lv_tableOut (x := ρ k.toNat) hx hb hdg (Or.inr c2) g1 g2
          · have hj : ((ρ k.toNat).toInt - lo).toNat < (hi' - lo + 1).toNat := by omega
            obtain ⟨tg, g1, g2⟩ := key (_, _) (List.mem_cons_of_mem _ (List.mem_cons_of_mem _ (List.mem_map.mpr ⟨((ρ k.toNat).toInt - lo).toNat, List.mem_range.mpr hj, rfl⟩))) (zi_T_mem (c := .eq) hm (zi_lo _) (zi_hi _) (show (ρ k.toNat).toInt = lo + (((ρ k.toNat).toInt - lo).toNat : Int) by omega))
            have hs : offs[((ρ k.toNat).toInt - lo).toNat]? = some (offs[((ρ k.toNat).toInt - lo).toNat]?.getD 0) := by
              rw [← e2] at hj
              simp [hj]
            exact lv_tableIn (x := ρ k.toNat) hx hb hdg c1 c2 hs g1 g2
      · cases hgo
    · -- invokespecial
      rename_i j hi
      obtain ⟨pc, i, ln, a, b, t, v⟩ := r
      dsimp only at hi hgo hdg hlen hok hask hfind hrm ⊢
      subst hi
      have e1 : ln = 3 := of_decide_eq_true hlen
      subst e1
      split at hgo
      · rename_i ha
        subst ha
        split at hgo
        · rename_i x rest
          split at hgo
          · rename_i hr4
            have hok : zi_tb t (.methodLink own j objectInit) = true := hok
            have hcs := zi_catsum (rest.map (zi_cv ρ b0 as))
            rw [List.length_map] at hcs
            refine W.objInit (a := as.getD x 0) (rest := rest.map (zi_cv ρ b0 as)) hx hb hown (hts _ (zi_tb_in hok)) (hts _ hoI) (hts _ hoC) rfl (by rw [hml]; exact hl.1) rfl hdg (by omega) (by show 2 * 0 + _ + 12 ≤ _; omega) ?_
            exact ih _ _ _ _ _ _ _ _ hgo hos hrho hkc hks as H locs ls has hln hl hP hD hS
          · cases hgo
        · cases hgo
      · rename_i ha
        split at hgo
        · cases hgo
        rename_i mt hmt
        split at hgo
        · rename_i hc
          obtain ⟨c1, c2, c3, c4, c5, c6⟩ := hc
          split at hgo
          · rename_i x tl hvs
            split at hgo
            · cases hgo
            rename_i os1 hcl1
            obtain ⟨m1, m2, m3, m4, m5, -⟩ := hms a mt hmt
            unfold zi_ok at hok
            dsimp only at hok
            rw [if_neg ha, hmt] at hok
            have hst : st = st.take b ++ st.drop b := (List.take_append_drop b st).symm
            have hcs := zi_catsum ((st.drop b).map (zi_cv ρ b0 as))
            rw [List.length_map] at hcs
            have hM := hcall a mt hmt (.ref (x + 1) :: tl) h d os1 hcl1 ρ b0 as cy D H.size hrho hln
            have hblind := zi_blind (ρ := ρ) (b0 := b0) (as := as) (cy := cy) (D := D) (sz := H.size) (h := h) (vs := .ref (x + 1) :: tl)
            have hpre := zi_pre (vs := .ref (x + 1) :: tl) hP hK hD hN
            have hgood := zi_goodM hms hmt
            have hR : (zi_rm mt dp).frames + 1 ≤ R.frames ∧ 8 + (mt.2.2.1 + 11) + (zi_rm mt dp).locals ≤ R.locals := ⟨hRf, by show 8 + (mt.2.2.1 + 11) + 40 * dp ≤ R.locals; omega⟩
            have hvl : (st.take b).reverse.length = b := by simp [c4]
            have htk : st.take b = tl.reverse ++ [.ref (x + 1)] := by
              have := congrArg List.reverse hvs
              simpa using this
            have hstk : (st.map (zi_cv ρ b0 as)) = (tl.map (zi_cv ρ b0 as)).reverse ++ .ref (as.getD x 0) :: (st.drop b).map (zi_cv ρ b0 as) := by
              conv => lhs; rw [hst, htk]
              simp [zi_cv]
            have hnl : (tl.map (zi_cv ρ b0 as)).length = b - 1 := by
              rw [hvs] at hvl
              simp only [List.length_cons] at hvl
              rw [List.length_map]
              omega
            cases hmt2 : zi_mt[a]? with
            | none => rw [hmt2] at hok; cases hok
            | some g =>
              rw [hmt2] at hok
              simp only [Bool.and_eq_true, decide_eq_true_eq] at hok
              obtain ⟨⟨⟨⟨⟨k1, k2⟩, k3⟩, k4⟩, k5⟩, k6⟩ := hok
              have kfin : ∀ (hr : va_Run p l e R s m args below meth c H locs kc ks mt.2.2.2.2.2.1 mt.2.2.2.2.2.2 (F0 m pc ls (st.map (zi_cv ρ b0 as))) ((st.drop b).map (zi_cv ρ b0 as)) (zi_Qc ρ b0 as cy D H.size h mt.2.2.2.2.2.1 os1 ((Value.ref (x + 1) :: tl).map (zi_cv ρ b0 as)).toArray) (va_A (zi_w ρ b0 as cy h) H.size)), W p l e R s m args below meth c H locs kc ks Q (F0 m pc ls (st.map (zi_cv ρ b0 as))) := by
                intro hr
                refine zi_Wcall hr hA hD hS (fun o ho ro qs H1 locs1 q1 q2 p1 p2 p3 => ?_)
                obtain ⟨o1, g1, g2⟩ := zi_bind_some hgo o ho
                obtain ⟨q0, e0, l0⟩ := has
                have h3 := ih _ _ _ _ _ _ _ _ g1 (fun y hy => hos y (g2 y hy)) ro c2 c3 (as ++ qs) H1 locs1 ls ⟨q0 ++ qs, by rw [e0, List.append_assoc], by rw [List.length_append]; omega⟩ q2 (by rw [← hln] at c5; rw [zi_lc_grow c5]; exact hl) p1 p2 p3
                rw [List.map_append] at h3
                rw [← hln] at c6
                rw [zi_cvl_grow c6] at h3
                have e9 : (o.2.1.map (zi_cv ρ b0 (as ++ qs))).toList = o.2.1.toList.map (zi_cv ρ b0 (as ++ qs)) := by
                  cases o.2.1 <;> rfl
                rw [e9]
                exact h3
              apply kfin
              have hn : mt.2.2.2.1 = none := k5
              have hws : zi_wsM mt = Cond.code mt.1 mt.2.1 mt.2.2.1 none :: zi_Ts := by rw [← hn]
              unfold zi_lk at k1
              split at k1
              · exact va_runI (As := tl.map (zi_cv ρ b0 as)) (b := as.getD x 0) ⟨hx, hb, hml, hown, hts⟩ hM ⟨callB_of (b - 1) hts hgood hws rfl rfl (hts _ m2) (hts _ (zi_tb_in k1)) ⟨m4.1, m4.2, k3⟩ hR, k2, hts _ (zi_tb_in k6)⟩ ⟨hblind, hpre⟩ rfl hnl hl.1 hstk (lv_room (by omega)) hdg ⟨by omega, by omega⟩
              · have k1 := of_decide_eq_true k1
                exact va_runIN (As := tl.map (zi_cv ρ b0 as)) (b := as.getD x 0) (host := RX5) ⟨hx, hb, hml, hown, hts⟩ hM ⟨va_cnB (b - 1) hts hgood hws rfl rfl (hN.1 _ (List.mem_of_getElem? k1)) (hts _ m2) ⟨m4.1, m4.2, k3⟩ hR, k2, hts _ (zi_tb_in k6)⟩ ⟨hblind, hpre⟩ rfl hnl hl.1 hstk (lv_room (by omega)) hdg ⟨by omega, by omega⟩
          · cases hgo
        · cases hgo
    · -- lookupswitch
      rename_i dflt ps hi
      obtain ⟨pc, i, ln, a, b, t, v⟩ := r
      dsimp only at hi hgo hdg hlen hok hask hfind hrm ⊢
      subst hi
      split at hgo
      · rename_i x rest
        split at hgo
        · rename_i ht
          exact lv_lookup hx hb hdg hok rfl ht (ih _ _ _ _ _ _ _ _ hgo hos hrho hkc hks as H locs ls has hln hl hP hD hS)
        · cases hgo
      · cases hgo
    · -- invokestatic
      rename_i j hi
      obtain ⟨pc, i, ln, a, b, t, v⟩ := r
      dsimp only at hi hgo hdg hlen hok hask hfind hrm ⊢
      subst hi
      have e1 : ln = 3 := of_decide_eq_true hlen
      subst e1
      split at hgo
      · rename_i ha
        subst ha
        split at hgo
        · rename_i n0 dpp r1 sp r0 rest
          split at hgo
          · rename_i hr4
            split at hgo
            · rename_i h' hcp
              have hok : zi_tb t (.methodLink own j arraycopyName) = true := hok
              have hcs := zi_catsum (rest.map (zi_cv ρ b0 as))
              rw [List.length_map] at hcs
              unfold zi_cpy at hcp
              split at hcp
              · rename_i l0 l1 h0 h1
                split at hcp
                · cases hcp
                · rename_i hc
                  cases hcp
                  have he0 := zi_w_get (ρ := ρ) (b := b0) (as := as) (cy := cy) h0
                  have he1 := zi_w_get (ρ := ρ) (b := b0) (as := as) (cy := cy) h1
                  rw [zi_ce_int] at he0 he1
                  have hnf : nativeFrameWords "java/lang/System" "arraycopy" 5 ≤ 21 := by decide
                  refine va_copyi hx hb (by rw [hml]; exact hl.1.symm) hown (hts _ (zi_tb_in hok)) (hts _ hcN) (hts _ hcS) (hts _ hcI) hK hP hD hS r0 r1 0 0 he0 he1 rfl rfl rfl (fun q => hc (Or.inl q)) (fun q => hc (Or.inr (Or.inl q))) (fun q => hc (Or.inr (Or.inr (Or.inl q)))) (Nat.not_lt.mp fun q => hc (Or.inr (Or.inr (Or.inr (Or.inl q))))) (Nat.not_lt.mp fun q => hc (Or.inr (Or.inr (Or.inr (Or.inr q))))) (fun _ _ => rfl) (by omega) (by show ((rest.map (zi_cv ρ b0 as)).map fun v => v.category).sum + _ ≤ _; omega) hdg (fun H1 locs1 p1 p2 p3 => ?_)
                  have h4 : sp.toNatClampNeg + n0.toNatClampNeg ≤ l0.length := Nat.not_lt.mp fun q => hc (Or.inr (Or.inr (Or.inr (Or.inl q))))
                  have h5 : dpp.toNatClampNeg + n0.toNatClampNeg ≤ l1.length := Nat.not_lt.mp fun q => hc (Or.inr (Or.inr (Or.inr (Or.inr q))))
                  have ew : (zi_w ρ b0 as cy h).set r1 (as.getD r1 0, .inl (cy 7, l1.length, .inl (va_cpy (fun i => zi_iv ρ (l0.getD i (.int 0))) (fun i => zi_iv ρ (l1.getD i (.int 0))) sp.toNatClampNeg dpp.toNatClampNeg n0.toNatClampNeg))) = zi_w ρ b0 as cy (h.set r1 (7, l1.take dpp.toNatClampNeg ++ ((l0.drop sp.toNatClampNeg).take n0.toNatClampNeg ++ l1.drop (dpp.toNatClampNeg + n0.toNatClampNeg)))) := by
                    rw [zi_w_set, zi_ce_int, zi_cpyf h4 h5, zi_cpyl h4 h5]
                  rw [ew] at p1 p2
                  exact ih _ _ _ _ _ _ _ _ hgo hos hrho hkc hks as H1 locs1 ls has (by rw [List.length_set]; exact hln) hl p1 p2 p3
              · cases hcp
            · cases hgo
          · cases hgo
        · cases hgo
      · rename_i ha
        split at hgo
        · cases hgo
        rename_i mt hmt
        split at hgo
        · rename_i hc
          obtain ⟨c1, c2, c3, c4, c5, c6⟩ := hc
          split at hgo
          · cases hgo
          rename_i os1 hcl1
          obtain ⟨m1, m2, m3, m4, m5, -⟩ := hms a mt hmt
          unfold zi_ok at hok
          dsimp only at hok
          rw [if_neg ha, hmt] at hok
          have hvl : (st.take b).reverse.length = b := by simp [c4]
          have hst : st = st.take b ++ st.drop b := (List.take_append_drop b st).symm
          have hcs := zi_catsum ((st.drop b).map (zi_cv ρ b0 as))
          rw [List.length_map] at hcs
          have hM := hcall a mt hmt ((st.take b).reverse) h d os1 hcl1 ρ b0 as cy D H.size hrho hln
          have hblind := zi_blind (ρ := ρ) (b0 := b0) (as := as) (cy := cy) (D := D) (sz := H.size) (h := h) (vs := (st.take b).reverse)
          have hpre := zi_pre (vs := (st.take b).reverse) hP hK hD hN
          have hgood := zi_goodM hms hmt
          have hR : (zi_rm mt dp).frames + 1 ≤ R.frames ∧ 8 + (mt.2.2.1 + 11) + (zi_rm mt dp).locals ≤ R.locals := ⟨hRf, by show 8 + (mt.2.2.1 + 11) + 40 * dp ≤ R.locals; omega⟩
          have hstk : (st.map (zi_cv ρ b0 as)) = ((st.take b).reverse.map (zi_cv ρ b0 as)).reverse ++ (st.drop b).map (zi_cv ρ b0 as) := by
            conv => lhs; rw [hst]
            rw [List.map_append]
            congr 1
            rw [← List.map_reverse, List.reverse_reverse]
          have hnl : ((st.take b).reverse.map (zi_cv ρ b0 as)).length = b := by rw [List.length_map]; exact hvl
          cases hmt2 : zi_mt[a]? with
          | none => rw [hmt2] at hok; cases hok
          | some g =>
            rw [hmt2] at hok
            simp only [Bool.and_eq_true, decide_eq_true_eq] at hok
            obtain ⟨⟨k1, k3⟩, k6⟩ := hok
            have kfin : ∀ (hr : va_Run p l e R s m args below meth c H locs kc ks mt.2.2.2.2.2.1 mt.2.2.2.2.2.2 (F0 m pc ls (st.map (zi_cv ρ b0 as))) ((st.drop b).map (zi_cv ρ b0 as)) (zi_Qc ρ b0 as cy D H.size h mt.2.2.2.2.2.1 os1 ((st.take b).reverse.map (zi_cv ρ b0 as)).toArray) (va_A (zi_w ρ b0 as cy h) H.size)), W p l e R s m args below meth c H locs kc ks Q (F0 m pc ls (st.map (zi_cv ρ b0 as))) := by
              intro hr
              refine zi_Wcall hr hA hD hS (fun o ho ro qs H1 locs1 q1 q2 p1 p2 p3 => ?_)
              obtain ⟨o1, g1, g2⟩ := zi_bind_some hgo o ho
              obtain ⟨q0, e0, l0⟩ := has
              have h3 := ih _ _ _ _ _ _ _ _ g1 (fun y hy => hos y (g2 y hy)) ro c2 c3 (as ++ qs) H1 locs1 ls ⟨q0 ++ qs, by rw [e0, List.append_assoc], by rw [List.length_append]; omega⟩ q2 (by rw [← hln] at c5; rw [zi_lc_grow c5]; exact hl) p1 p2 p3
              rw [List.map_append] at h3
              rw [← hln] at c6
              rw [zi_cvl_grow c6] at h3
              have e9 : (o.2.1.map (zi_cv ρ b0 (as ++ qs))).toList = o.2.1.toList.map (zi_cv ρ b0 (as ++ qs)) := by
                cases o.2.1 <;> rfl
              rw [e9]
              exact h3
            apply kfin
            unfold zi_lk at k1
            split at k1
            · exact va_runS (As := (st.take b).reverse.map (zi_cv ρ b0 as)) ⟨hx, hb, hml, hown, hts⟩ hM ⟨callB_of b hts hgood rfl rfl rfl (hts _ m2) (hts _ (zi_tb_in k1)) ⟨m4.1, m4.2, k3⟩ hR, hts _ (zi_tb_in k6)⟩ ⟨hblind, hpre⟩ rfl hnl hl.1 hstk (lv_room (by omega)) hdg ⟨by omega, by omega⟩
            · have k1 := of_decide_eq_true k1
              exact va_runSN (As := (st.take b).reverse.map (zi_cv ρ b0 as)) (host := RX5) ⟨hx, hb, hml, hown, hts⟩ hM ⟨va_cnB b hts hgood rfl rfl rfl (hN.1 _ (List.mem_of_getElem? k1)) (hts _ m2) ⟨m4.1, m4.2, k3⟩ hR, hts _ (zi_tb_in k6), trivial⟩ ⟨hblind, hpre⟩ rfl hnl hl.1 hstk (lv_room (by omega)) hdg ⟨by omega, by omega⟩
        · cases hgo
    · -- invokevirtual
      rename_i j hi
      obtain ⟨pc, i, ln, a, b, t, v⟩ := r
      dsimp only at hi hgo hdg hlen hok hask hfind hrm ⊢
      subst hi
      have e1 : ln = 3 := of_decide_eq_true hlen
      subst e1
      split at hgo
      · cases hgo
      rename_i mt hmt
      split at hgo
      · rename_i hc
        obtain ⟨c1, c2, c3, c4, c5, c6⟩ := hc
        split at hgo
        · rename_i x tl hvs
          split at hgo
          · rename_i t' fs hxc
            split at hgo
            · rename_i hcx
              split at hgo
              · cases hgo
              rename_i os1 hcl1
              obtain ⟨m1, m2, m3, m4, m5, -⟩ := hms a mt hmt
              unfold zi_ok at hok
              dsimp only at hok
              rw [hmt] at hok
              have hst : st = st.take b ++ st.drop b := (List.take_append_drop b st).symm
              have hcs := zi_catsum ((st.drop b).map (zi_cv ρ b0 as))
              rw [List.length_map] at hcs
              have hM := hcall a mt hmt (.ref (x + 1) :: tl) h d os1 hcl1 ρ b0 as cy D H.size hrho hln
              have hblind := zi_blind (ρ := ρ) (b0 := b0) (as := as) (cy := cy) (D := D) (sz := H.size) (h := h) (vs := .ref (x + 1) :: tl)
              have hpre := zi_pre (vs := .ref (x + 1) :: tl) hP hK hD hN
              have hgood := zi_goodM hms hmt
              have hR : (zi_rm mt dp).frames + 1 ≤ R.frames ∧ 8 + (mt.2.2.1 + 11) + (zi_rm mt dp).locals ≤ R.locals := ⟨hRf, by show 8 + (mt.2.2.1 + 11) + 40 * dp ≤ R.locals; omega⟩
              have hvl : (st.take b).reverse.length = b := by simp [c4]
              have htk : st.take b = tl.reverse ++ [.ref (x + 1)] := by
                have := congrArg List.reverse hvs
                simpa using this
              have hstk : (st.map (zi_cv ρ b0 as)) = (tl.map (zi_cv ρ b0 as)).reverse ++ .ref (as.getD x 0) :: (st.drop b).map (zi_cv ρ b0 as) := by
                conv => lhs; rw [hst, htk]
                simp [zi_cv]
              have hnl : (tl.map (zi_cv ρ b0 as)).length = b - 1 := by
                rw [hvs] at hvl
                simp only [List.length_cons] at hvl
                rw [List.length_map]
                omega
              cases hmt2 : zi_mt[a]? with
              | none => rw [hmt2] at hok; cases hok
              | some g =>
                rw [hmt2] at hok
                simp only [Bool.and_eq_true, decide_eq_true_eq] at hok
                obtain ⟨⟨⟨⟨⟨⟨k1, k3⟩, k4⟩, k5⟩, k7⟩, k6⟩, k8⟩ := hok
                split at k5
                · rename_i q hq
                  have k5 : q.1 = mt.1.cls := of_decide_eq_true k5
                  have e7 : v.toNat = t' := by omega
                  rw [e7] at hq
                  have he := zi_w_get (ρ := ρ) (b := b0) (as := as) (cy := cy) hxc
                  rw [zi_ce_obj hcx.2] at he
                  have hrv := va_recv hK hP hq he
                  rw [k5] at hrv
                  have kfin : ∀ (hr : va_Run p l e R s m args below meth c H locs kc ks mt.2.2.2.2.2.1 mt.2.2.2.2.2.2 (F0 m pc ls (st.map (zi_cv ρ b0 as))) ((st.drop b).map (zi_cv ρ b0 as)) (zi_Qc ρ b0 as cy D H.size h mt.2.2.2.2.2.1 os1 ((Value.ref (x + 1) :: tl).map (zi_cv ρ b0 as)).toArray) (va_A (zi_w ρ b0 as cy h) H.size)), W p l e R s m args below meth c H locs kc ks Q (F0 m pc ls (st.map (zi_cv ρ b0 as))) := by
                    intro hr
                    refine zi_Wcall hr hA hD hS (fun o ho ro qs H1 locs1 q1 q2 p1 p2 p3 => ?_)
                    obtain ⟨o1, g1, g2⟩ := zi_bind_some hgo o ho
                    obtain ⟨q0, e0, l0⟩ := has
                    have h3 := ih _ _ _ _ _ _ _ _ g1 (fun y hy => hos y (g2 y hy)) ro c2 c3 (as ++ qs) H1 locs1 ls ⟨q0 ++ qs, by rw [e0, List.append_assoc], by rw [List.length_append]; omega⟩ q2 (by rw [← hln] at c5; rw [zi_lc_grow c5]; exact hl) p1 p2 p3
                    rw [List.map_append] at h3
                    rw [← hln] at c6
                    rw [zi_cvl_grow c6] at h3
                    have e9 : (o.2.1.map (zi_cv ρ b0 (as ++ qs))).toList = o.2.1.toList.map (zi_cv ρ b0 (as ++ qs)) := by
                      cases o.2.1 <;> rfl
                    rw [e9]
                    exact h3
                  apply kfin
                  exact va_runV (As := tl.map (zi_cv ρ b0 as)) (b := as.getD x 0) (C := mt.1.cls) ⟨hx, hb, hml, hown, hts⟩ hM ⟨callB_of (b - 1) hts hgood rfl rfl rfl (hts _ m2) (hts _ (zi_tb_in k1)) ⟨m4.1, m4.2, k3⟩ hR, hts _ (zi_tb_in k6), hts _ (zi_tb_in k8)⟩ ⟨hblind, hrv, hpre⟩ rfl hnl hl.1 hstk (lv_room (by omega)) hdg ⟨by omega, by omega⟩
                · cases k5
            · cases hgo
          · cases hgo
        · cases hgo
      · cases hgo
    · -- the rest
      split at hgo
      · rename_i st' h' k1 k2 hnew
        split at hgo
        · rename_i hc
          obtain ⟨c1, c2, c3, c4, c5⟩ := hc
          refine zi_new_sound hx hb hown hts hcl hAI hAZ hN.2.1 hN.2.2.1 hN.2.2.2 hK hA hdg hlen hok hnew (by omega) (by omega) c3 c4 c5 hln hl hP hD hS (fun qs H1 p1 p2 p3 p4 p5 p6 => ?_)
          obtain ⟨q0, e0, l0⟩ := has
          exact ih _ _ _ _ _ _ _ _ hgo hos hrho c1 c2 (as ++ qs) H1 locs ls ⟨q0 ++ qs, by rw [e0, List.append_assoc], by rw [List.length_append]; omega⟩ p5 p4 p1 p2 p3
        · cases hgo
      · split at hgo
        · rename_i L' st' h' hstep
          exact zi_step_sound hx hb hown hts hcl hini hX hK hrho hdg hlen hok hstep hl hP hD hS (fun H1 locs1 ls1 p1 p2 p3 p4 p5 => ih _ _ _ _ _ _ _ _ hgo hos hrho hkc hks as H1 locs1 ls1 has (by rw [p5]; exact hln) p4 p1 p2 p3)
        · cases hgo
end ZA
end
section
/-- Met.ofW, for a method in whose place nothing else is run -/
theorem zi_ofW {l : Launch} {y : MethodName} {ws ws' : List Cond} {rm : Room} {Pc : Array Value → State → Prop} {Qc : Array Value → State → Outcome → State → Prop} {mc ms : Nat} {free : Addr → Prop} {cc : ByteArray} {maxL : Nat} {ret : Option FieldType}
    (hy : plainFor y = true) (hw : ws = Cond.code y cc maxL ret :: ws')
    (body : ∀ p e s m args below meth c s₁, BodyLoose p l y (headSpec ws rm) cc maxL ret e s m args below meth c s₁ → c.maxLocals = maxL → Pc args s →
      W p l e (headSpec ws rm).room s m args below meth c s.heap [] 0 0 (MQ below Qc args s mc ms free) (entryFrame m args maxL)) : Met l y ws rm Pc Qc mc ms free := by
  refine MetFree.of_bodySF (code := cc) (maxLocals := maxL) (ret := ret) hy ?_ ?_
  · intro args s m h hn
    obtain ⟨meth, c, h1, h2, h3, h4, h5, h6, -, -⟩ := Cond.code_spec hn (atoms_spec (ws := ws) h _ (by rw [hw]; exact List.mem_cons_self))
    exact ⟨meth, c, h1, h2, h3, h4, h5, h6⟩
  · intro p e s m args below meth c s₁ B hml hP _
    have hh0 : s₁.heap = s.heap := by rw [B.state]; rfl
    obtain ⟨t, a1, o, b1, b2, b3⟩ := body p e s m args below meth c s₁ B hml hP s₁ hh0 (Stand.of_body B)
    exact ⟨t, o, a1, b1, b2, ⟨b3.1, b3.2⟩⟩
theorem zi_args {ρ : Nat → Int32} {b0 : Nat} {as : List Nat} (vs : List Value) : ∀ i : Nat, lv_args i (vs.map (zi_cv ρ b0 as)) = zi_lc ρ b0 as (lv_args i vs) := by
  induction vs with
  | nil => intro i; rfl
  | cons v vs ih =>
    intro i
    show (i, zi_cv ρ b0 as v) :: lv_args (if (zi_cv ρ b0 as v).category = 2 then i + 2 else i + 1) (vs.map (zi_cv ρ b0 as)) = _
    rw [zi_cv_cat, ih]
    rfl
theorem zi_sl {ρ : Nat → Int32} {b0 : Nat} {as : List Nat} (vs : List Value) : (lg_sl (vs.map (zi_cv ρ b0 as))).length = (lg_sl vs).length := by
  induction vs with
  | nil => rfl
  | cons v vs ih =>
    simp only [lg_sl, List.map_cons, List.flatMap_cons, List.length_append, zi_cv_cat] at ih ⊢
    rw [ih]
    split <;> rfl
set_option maxHeartbeats 4000000 in
theorem zi_run_sound (l : Launch) {ms : List zi_Me} (F : Nat) (hms : zi_mOk ms) (hcl : ∀ a q, vwCl[a]? = some q → zi_cok a q) (hAI : Cond.arrayClass .int ∈ zi_Ts) (hAZ : Cond.arrayClass .boolean ∈ zi_Ts) (hoI : Cond.instanceMethod objectInit ∈ zi_Ts) (hoC : Cond.code objectInit ⟨#[0xb1]⟩ 1 none ∈ zi_Ts) (hcN : Cond.native arraycopyName ∈ zi_Ts) (hcS : Cond.static arraycopyName ∈ zi_Ts) (hcI : Cond.initialized "java/lang/System" ∈ zi_Ts) :
    ∀ dp : Nat, zi_callOk l ms (zi_run ms F dp) dp := by
  intro dp
  induction dp with
  | zero =>
    intro a mt hmt vs h d os hrun
    simp only [zi_run] at hrun
    cases hrun
  | succ dp ih =>
    intro a mt hmt vs h d os hrun ρ b0 as cy D sz hrho hln
    unfold zi_run at hrun
    rw [hmt] at hrun
    dsimp only at hrun
    split at hrun
    · rename_i hsl
      obtain ⟨m1, m2, m3, m4, m5, m6⟩ := hms a mt hmt
      refine zi_ofW (cc := mt.2.1) (maxL := mt.2.2.1) (ret := mt.2.2.2.1) m3 rfl ?_
      intro p e s m args below meth c s₁ B hml hv
      obtain ⟨rfl, hsz, hP, hK, hD0, hN⟩ := hv
      have hx := B.exec
      have hb := B.bytes
      have hr := B.returns
      have hts0 := atoms_spec (ws := zi_wsM mt) B.pre
      have hts : ∀ w ∈ zi_Ts, w.before (vs.map (zi_cv ρ b0 as)).toArray s = true := fun w hw => hts0 w (List.mem_cons_of_mem _ hw)
      have hown : s.vm.findClass mt.1.cls = some m.cls := findClass_of_methodNamed B.named
      have hlocks := B.notSynchronized
      have hnm : meth.name = mt.1.name := (name_of_methodNamed B.named B.method).1
      subst hsz
      have hD := hD0.self (sz := s.heap.size)
      have hl := lv_entry (vs.map (zi_cv ρ b0 as)) (n := mt.2.2.1) (by rw [zi_sl]; exact hsl)
      rw [zi_args] at hl
      rw [lg_entry_eq]
      generalize (lg_sl (vs.map (zi_cv ρ b0 as)) ++ List.replicate (mt.2.2.1 - (lg_sl (vs.map (zi_cv ρ b0 as))).length) Slot.unset).toArray = ls at hl ⊢
      refine zi_go_sound (as0 := as) (OUT := os) (A := va_A (zi_w ρ b0 as cy h) s.heap.size) (dp := dp) (own := mt.1.cls) (ini := decide (mt.1.name = "<init>")) (scr := none) (R := (headSpec (zi_wsM mt) (zi_rm mt (dp + 1))).room) hx hb hml hown hts hcl (fun hi => by rw [hnm]; exact of_decide_eq_true hi) (fun sl hs => by cases hs) hN hAI hAZ hoI hoC hcN hcS hcI hK (fun q hq => Or.inr hq) (Nat.le_refl _) (Nat.le_refl _) (Nat.le_refl _) (Nat.le_refl _) m6 hms ih ?_ F 0 (lv_args 0 vs) [] h d 0 0 os hrun (fun _ ho => ho) hrho (Nat.zero_le _) (Nat.zero_le _) as s.heap [] ls ⟨[], by simp, Nat.le_refl _⟩ hln hl hP hD va_S.rf
      intro pc ls st o H locs kc ks as' ho hro has hlen hkc hks hP1 hD1 hS1 hret
      obtain ⟨qs, rfl, hq⟩ := has
      have hQ : ∀ t : State, t.heap = H → s.WarmedH t.vm → zi_Qc ρ b0 as cy D s.heap.size h mt.2.2.2.2.2.1 os (vs.map (zi_cv ρ b0 as)).toArray s (.returned (o.2.1.map (zi_cv ρ b0 (as ++ qs)))) t := fun t ht hW => ⟨o, ho, hro, qs, Nat.le_trans hq hkc, hlen, rfl, by rw [ht]; exact hP1, hD1, hS1.F ht⟩
      refine W.widen hkc hks ?_
      rcases hret with ⟨hd, v, hv, hrk, rfl⟩ | ⟨hd, x, hv, hra, rfl⟩ | ⟨hd, hv, hrn, rfl⟩
      · rw [hv] at hQ
        unfold zi_retOk at hrk
        split at hrk
        · rename_i hre
          have e1 := zi_cv_iv (ρ := ρ) (b := b0) (as := as ++ qs) hrk
          show W _ _ _ _ _ _ _ _ _ _ _ _ _ _ _ (F0 m pc ls [zi_cv ρ b0 (as ++ qs) v])
          have hQ : ∀ t : State, t.heap = H → s.WarmedH t.vm → zi_Qc ρ b0 as cy D s.heap.size h mt.2.2.2.2.2.1 os (vs.map (zi_cv ρ b0 as)).toArray s (.returned (some (zi_cv ρ b0 (as ++ qs) v))) t := hQ
          rw [e1] at hQ ⊢
          exact W.zret (ty := .int) hx hb (hr.trans hre) rfl hQ hS1.2.2 hd
        · rename_i hre
          split at hrk
          · rename_i x
            simp only [Bool.or_eq_true, decide_eq_true_eq] at hrk
            refine W.zret (v := x) (ty := .boolean) hx hb (hr.trans hre) ?_ hQ hS1.2.2 hd
            rcases hrk with rfl | rfl
            · decide
            · decide
          · cases hrk
        · cases hrk
      · rw [hv] at hQ
        unfold zi_retA at hra
        split at hra
        · rename_i nm hre
          refine W.aret (v := zi_cv ρ b0 (as ++ qs) (.ref x)) (rt := .object nm) hx hb (hr.trans hre) (Or.inl ⟨_, rfl⟩) (Or.inr ?_) hQ hS1.2.2 hd
          cases x <;> exact ⟨_, rfl⟩
        · cases hra
      · rw [hv] at hQ
        exact W.vret hx hb (hr.trans hrn) hQ hS1.2.2 hd
    · cases hrun
end
section
/-! the memory behind the constructors: every cell stands where it stands; only ints change -/
def zh_1 : zi_Hp := [(5, [.ref 2, .ref 3, .ref 4, .ref 6, .ref 8, .ref 32, .ref 33, .ref 34, .ref 35]), (10, [.ref 37, .ref 40, .ref 43, .ref 46, .ref 49, .ref 52, .ref 55, .ref 58, .ref 61, .ref 64]), (9, [.ref 67, .ref 122, .ref 177]), (1, [.ref 5, .int 0]), (7, List.replicate 10 (.int 0)), (1, [.ref 7, .int 0]), (7, List.replicate 10 (.int 0)), (3, [.ref 9, .ref 11, .ref 12, .ref 15, .ref 16, .ref 17, .ref 18, .ref 19, .ref 20, .int (-1), .ref 21, .ref 22, .int 0, .ref 23, .ref 26, .ref 29]), (1, [.ref 10, .int 0]), (7, List.replicate 10 (.int 0)), (7, List.replicate 10 (.int (-1))), (11, [.ref 13, .ref 14]), (7, List.replicate 10 (.int 0)), (7, List.replicate 10 (.int 0)), (7, List.replicate 19 (.int 3)), (7, List.replicate 19 (.int 0)), (7, List.replicate 19 (.int 0)), (7, List.replicate 19 (.int 0)), (7, List.replicate 19 (.int 0)), (7, List.replicate 19 (.int 0)), (7, List.replicate 19 (.int 0)), (7, List.replicate 19 (.int 0)), (11, [.ref 24, .ref 25]), (7, List.replicate 19 (.int 0)), (7, List.replicate 19 (.int 0)), (11, [.ref 27, .ref 28]), (7, List.replicate 19 (.int 0)), (7, List.replicate 19 (.int 0)), (11, [.ref 30, .ref 31]), (7, List.replicate 19 (.int 0)), (7, List.replicate 19 (.int 0)), (8, List.replicate 10 (.int 0)), (7, [.int 0, .int 0]), (7, List.replicate 10 (.int 0)), (1, [.ref 36, .int 0]), (7, List.replicate 10 (.int 0)), (4, [.ref 38, .ref 39, .int 0, .int 0, .int (-1), .int (-1)]), (7, [.int 0, .int 0]), (7, [.int 0, .int 0]), (4, [.ref 41, .ref 42, .int 0, .int 0, .int (-1), .int (-1)]), (7, [.int 0, .int 0]), (7, [.int 0, .int 0]), (4, [.ref 44, .ref 45, .int 0, .int 0, .int (-1), .int (-1)]), (7, [.int 0, .int 0]), (7, [.int 0, .int 0]), (4, [.ref 47, .ref 48, .int 0, .int 0, .int (-1), .int (-1)]), (7, [.int 0, .int 0]), (7, [.int 0, .int 0]), (4, [.ref 50, .ref 51, .int 0, .int 0, .int (-1), .int (-1)]), (7, [.int 0, .int 0]), (7, [.int 0, .int 0]), (4, [.ref 53, .ref 54, .int 0, .int 0, .int (-1), .int (-1)]), (7, [.int 0, .int 0]), (7, [.int 0, .int 0]), (4, [.ref 56, .ref 57, .int 0, .int 0, .int (-1), .int (-1)]), (7, [.int 0, .int 0]), (7, [.int 0, .int 0]), (4, [.ref 59, .ref 60, .int 0, .int 0, .int (-1), .int (-1)]), (7, [.int 0, .int 0]), (7, [.int 0, .int 0]), (4, [.ref 62, .ref 63, .int 0, .int 0, .int (-1), .int (-1)]), (7, [.int 0, .int 0]), (7, [.int 0, .int 0]), (4, [.ref 65, .ref 66, .int 0, .int 0, .int (-1), .int (-1)]), (7, [.int 0, .int 0]), (7, [.int 0, .int 0]), (2, [.ref 68, .ref 69, .ref 93, .int 0]), (7, [.int 0, .int 0]), (3, [.ref 70, .ref 72, .ref 73, .ref 76, .ref 77, .ref 78, .ref 79, .ref 80, .ref 81, .int (-1), .ref 82, .ref 83, .int 0, .ref 84, .ref 87, .ref 90]), (1, [.ref 71, .int 0]), (7, List.replicate 10 (.int 0)), (7, List.replicate 10 (.int (-1))), (11, [.ref 74, .ref 75]), (7, List.replicate 10 (.int 0)), (7, List.replicate 10 (.int 0)), (7, List.replicate 19 (.int 3)), (7, List.replicate 19 (.int 0)), (7, List.replicate 19 (.int 0)), (7, List.replicate 19 (.int 0)), (7, List.replicate 19 (.int 0)), (7, List.replicate 19 (.int 0)), (7, List.replicate 19 (.int 0)), (7, List.replicate 19 (.int 0)), (11, [.ref 85, .ref 86]), (7, List.replicate 19 (.int 0)), (7, List.replicate 19 (.int 0)), (11, [.ref 88, .ref 89]), (7, List.replicate 19 (.int 0)), (7, List.replicate 19 (.int 0)), (11, [.ref 91, .ref 92]), (7, List.replicate 19 (.int 0)), (7, List.replicate 19 (.int 0)), (0, [.ref 94, .ref 118, .ref 121, .int 0]), (3, [.ref 95, .ref 97, .ref 98, .ref 101, .ref 102, .ref 103, .ref 104, .ref 105, .ref 106, .int (-1), .ref 107, .ref 108, .int 0, .ref 109, .ref 112, .ref 115]), (1, [.ref 96, .int 0]), (7, List.replicate 10 (.int 0)), (7, List.replicate 10 (.int (-1))), (11, [.ref 99, .ref 100]), (7, List.replicate 10 (.int 0)), (7, List.replicate 10 (.int 0)), (7, List.replicate 19 (.int 3)), (7, List.replicate 19 (.int 0)), (7, List.replicate 19 (.int 0)), (7, List.replicate 19 (.int 0)), (7, List.replicate 19 (.int 0)), (7, List.replicate 19 (.int 0)), (7, List.replicate 19 (.int 0)), (7, List.replicate 19 (.int 0)), (11, [.ref 110, .ref 111]), (7, List.replicate 19 (.int 0)), (7, List.replicate 19 (.int 0)), (11, [.ref 113, .ref 114]), (7, List.replicate 19 (.int 0)), (7, List.replicate 19 (.int 0)), (11, [.ref 116, .ref 117]), (7, List.replicate 19 (.int 0)), (7, List.replicate 19 (.int 0)), (11, [.ref 119, .ref 120]), (7, List.replicate 10 (.int 0)), (7, List.replicate 10 (.int 0)), (8, List.replicate 10 (.int 0)), (2, [.ref 123, .ref 124, .ref 148, .int 0]), (7, [.int 0, .int 0]), (3, [.ref 125, .ref 127, .ref 128, .ref 131, .ref 132, .ref 133, .ref 134, .ref 135, .ref 136, .int (-1), .ref 137, .ref 138, .int 0, .ref 139, .ref 142, .ref 145]), (1, [.ref 126, .int 0]), (7, List.replicate 10 (.int 0)), (7, List.replicate 10 (.int (-1))), (11, [.ref 129, .ref 130]), (7, List.replicate 10 (.int 0)), (7, List.replicate 10 (.int 0)), (7, List.replicate 19 (.int 3)), (7, List.replicate 19 (.int 0)), (7, List.replicate 19 (.int 0)), (7, List.replicate 19 (.int 0)), (7, List.replicate 19 (.int 0)), (7, List.replicate 19 (.int 0)), (7, List.replicate 19 (.int 0)), (7, List.replicate 19 (.int 0)), (11, [.ref 140, .ref 141]), (7, List.replicate 19 (.int 0)), (7, List.replicate 19 (.int 0)), (11, [.ref 143, .ref 144]), (7, List.replicate 19 (.int 0)), (7, List.replicate 19 (.int 0)), (11, [.ref 146, .ref 147]), (7, List.replicate 19 (.int 0)), (7, List.replicate 19 (.int 0)), (0, [.ref 149, .ref 173, .ref 176, .int 0]), (3, [.ref 150, .ref 152, .ref 153, .ref 156, .ref 157, .ref 158, .ref 159, .ref 160, .ref 161, .int (-1), .ref 162, .ref 163, .int 0, .ref 164, .ref 167, .ref 170]), (1, [.ref 151, .int 0]), (7, List.replicate 10 (.int 0)), (7, List.replicate 10 (.int (-1))), (11, [.ref 154, .ref 155]), (7, List.replicate 10 (.int 0)), (7, List.replicate 10 (.int 0)), (7, List.replicate 19 (.int 3)), (7, List.replicate 19 (.int 0)), (7, List.replicate 19 (.int 0)), (7, List.replicate 19 (.int 0)), (7, List.replicate 19 (.int 0)), (7, List.replicate 19 (.int 0)), (7, List.replicate 19 (.int 0)), (7, List.replicate 19 (.int 0)), (11, [.ref 165, .ref 166]), (7, List.replicate 19 (.int 0)), (7, List.replicate 19 (.int 0)), (11, [.ref 168, .ref 169]), (7, List.replicate 19 (.int 0)), (7, List.replicate 19 (.int 0)), (11, [.ref 171, .ref 172]), (7, List.replicate 19 (.int 0)), (7, List.replicate 19 (.int 0)), (11, [.ref 174, .ref 175]), (7, List.replicate 10 (.int 0)), (7, List.replicate 10 (.int 0)), (8, List.replicate 10 (.int 0)), (2, [.ref 178, .ref 179, .ref 203, .int 0]), (7, [.int 0, .int 0]), (3, [.ref 180, .ref 182, .ref 183, .ref 186, .ref 187, .ref 188, .ref 189, .ref 190, .ref 191, .int (-1), .ref 192, .ref 193, .int 0, .ref 194, .ref 197, .ref 200]), (1, [.ref 181, .int 0]), (7, List.replicate 10 (.int 0)), (7, List.replicate 10 (.int (-1))), (11, [.ref 184, .ref 185]), (7, List.replicate 10 (.int 0)), (7, List.replicate 10 (.int 0)), (7, List.replicate 19 (.int 3)), (7, List.replicate 19 (.int 0)), (7, List.replicate 19 (.int 0)), (7, List.replicate 19 (.int 0)), (7, List.replicate 19 (.int 0)), (7, List.replicate 19 (.int 0)), (7, List.replicate 19 (.int 0)), (7, List.replicate 19 (.int 0)), (11, [.ref 195, .ref 196]), (7, List.replicate 19 (.int 0)), (7, List.replicate 19 (.int 0)), (11, [.ref 198, .ref 199]), (7, List.replicate 19 (.int 0)), (7, List.replicate 19 (.int 0)), (11, [.ref 201, .ref 202]), (7, List.replicate 19 (.int 0)), (7, List.replicate 19 (.int 0)), (0, [.ref 204, .ref 228, .ref 231, .int 0]), (3, [.ref 205, .ref 207, .ref 208, .ref 211, .ref 212, .ref 213, .ref 214, .ref 215, .ref 216, .int (-1), .ref 217, .ref 218, .int 0, .ref 219, .ref 222, .ref 225]), (1, [.ref 206, .int 0]), (7, List.replicate 10 (.int 0)), (7, List.replicate 10 (.int (-1))), (11, [.ref 209, .ref 210]), (7, List.replicate 10 (.int 0)), (7, List.replicate 10 (.int 0)), (7, List.replicate 19 (.int 3)), (7, List.replicate 19 (.int 0)), (7, List.replicate 19 (.int 0)), (7, List.replicate 19 (.int 0)), (7, List.replicate 19 (.int 0)), (7, List.replicate 19 (.int 0)), (7, List.replicate 19 (.int 0)), (7, List.replicate 19 (.int 0)), (11, [.ref 220, .ref 221]), (7, List.replicate 19 (.int 0)), (7, List.replicate 19 (.int 0)), (11, [.ref 223, .ref 224]), (7, List.replicate 19 (.int 0)), (7, List.replicate 19 (.int 0)), (11, [.ref 226, .ref 227]), (7, List.replicate 19 (.int 0)), (7, List.replicate 19 (.int 0)), (11, [.ref 229, .ref 230]), (7, List.replicate 10 (.int 0)), (7, List.replicate 10 (.int 0)), (8, List.replicate 10 (.int 0))]
def zh_m : zi_Hp := [(6, [.ref 233, .ref 234, .ref 235, .ref 236, .ref 237, .ref 238, .ref 239, .ref 240, .ref 241, .ref 242, .int 0, .ref 243, .int 0, .ref 244, .ref 245, .ref 246, .ref 247, .ref 248, .ref 249, .ref 250, .ref 251, .ref 252, .ref 253, .ref 254, .ref 255, .ref 256, .ref 257, .ref 258, .ref 259, .ref 260, .int 0, .ref 261, .ref 262]), (7, [.int 0, .int 0, .int 0]), (7, [.int 0, .int 0, .int 0]), (7, List.replicate 10 (.int 0)), (7, List.replicate 10 (.int 0)), (7, List.replicate 10 (.int 0)), (7, List.replicate 10 (.int 0)), (7, List.replicate 10 (.int 0)), (7, List.replicate 10 (.int 0)), (7, List.replicate 10 (.int 0)), (7, List.replicate 10 (.int 0)), (7, List.replicate 10 (.int 0)), (7, List.replicate 7 (.int (-1))), (7, List.replicate 168 (.int 0)), (7, List.replicate 168 (.int 0)), (7, List.replicate 168 (.int 0)), (7, List.replicate 168 (.int 0)), (7, List.replicate 1680 (.int 0)), (7, List.replicate 168 (.int 0)), (7, List.replicate 168 (.int 0)), (8, [.int 0, .int 0, .int 0]), (8, List.replicate 30 (.int 0)), (7, List.replicate 30 (.int 0)), (7, List.replicate 30 (.int 0)), (7, List.replicate 24 (.int 0)), (7, List.replicate 24 (.int 0)), (7, List.replicate 24 (.int 0)), (7, List.replicate 24 (.int 0)), (7, List.replicate 24 (.int 0)), (8, List.replicate 10 (.int 0)), (7, List.replicate 10 (.int 0))]
def zh_2 : zi_Hp := zh_1 ++ zh_m
abbrev zm_M : Type := Nat → Nat → Int32
def zm_v (μ : zm_M) (i j : Nat) (v : Value) : Value := match v with
  | .int _ => .int (μ i j)
  | v => v
def zm_mk (μ : zm_M) : zi_Hp := zh_2.mapIdx (fun i c => (c.1, c.2.mapIdx (zm_v μ i)))
def zm_up (μ : zm_M) (i j : Nat) (x : Int32) : zm_M := fun a b => if a = i ∧ b = j then x else μ a b
theorem zm_up_eq {μ : zm_M} {i j : Nat} {x : Int32} : zm_up μ i j x i j = x := if_pos ⟨rfl, rfl⟩
theorem zm_up_ne {μ : zm_M} {i j a b : Nat} {x : Int32} (h : ¬ (a = i ∧ b = j)) : zm_up μ i j x a b = μ a b := if_neg h
theorem zm_get {μ : zm_M} {i t : Nat} {l : List Value} (h : zh_2[i]? = some (t, l)) : (zm_mk μ)[i]? = some (t, l.mapIdx (zm_v μ i)) := by
  unfold zm_mk
  rw [List.getElem?_mapIdx, h]
  rfl
theorem zm_put {μ : zm_M} {i t j : Nat} {l : List Value} {x y : Int32} (h : zh_2[i]? = some (t, l)) (hj : l[j]? = some (.int y)) : (zm_mk μ).set i (t, (l.mapIdx (zm_v μ i)).set j (.int x)) = zm_mk (zm_up μ i j x) := by
  apply List.ext_getElem?
  intro a
  have hi : i < zh_2.length := (List.getElem?_eq_some_iff.mp h).1
  rw [List.getElem?_set]
  by_cases e : i = a
  · subst e
    rw [if_pos rfl, if_pos (by unfold zm_mk; rw [List.length_mapIdx]; exact hi), zm_get h]
    congr 2
    apply List.ext_getElem?
    intro b
    rw [List.getElem?_set, List.getElem?_mapIdx]
    by_cases e2 : j = b
    · subst e2
      rw [if_pos rfl, if_pos (by rw [List.length_mapIdx]; exact (List.getElem?_eq_some_iff.mp hj).1), List.getElem?_mapIdx, hj]
      simp [zm_v, zm_up]
    · rw [if_neg e2, List.getElem?_mapIdx]
      cases l[b]? with
      | none => rfl
      | some v =>
        simp only [Option.map_some]
        congr 1
        unfold zm_v
        cases v <;> first | rfl | (rw [zm_up_ne (by omega)])
  · rw [if_neg e]
    unfold zm_mk
    rw [List.getElem?_mapIdx, List.getElem?_mapIdx]
    cases zh_2[a]? with
    | none => rfl
    | some c =>
      simp only [Option.map_some]
      congr 2
      apply List.ext_getElem?
      intro b
      rw [List.getElem?_mapIdx, List.getElem?_mapIdx]
      cases c.2[b]? with
      | none => rfl
      | some v =>
        simp only [Option.map_some]
        congr 1
        unfold zm_v
        cases v <;> first | rfl | (rw [zm_up_ne (by omega)])
/-- an array of n ints (t: 7) or of truth values (t: 8) at cell i -/
def zm_isA (t i n : Nat) : Prop := ∃ l, zh_2[i]? = some (t, l) ∧ l.length = n ∧ ∀ j, j < n → ∃ y, l[j]? = some (.int y)
def zm_isAb (t i n : Nat) : Bool := match zh_2[i]? with
  | some (t', l) => decide (t' = t) && decide (l.length = n) && l.all (fun v => match v with | .int _ => true | _ => false)
  | none => false
theorem zm_isA_of {t i n : Nat} (h : zm_isAb t i n = true) : zm_isA t i n := by
  unfold zm_isAb at h
  split at h
  · rename_i t' l e
    simp only [Bool.and_eq_true, decide_eq_true_eq] at h
    obtain ⟨⟨rfl, rfl⟩, h3⟩ := h
    refine ⟨l, e, rfl, fun j hj => ?_⟩
    have := List.all_eq_true.mp h3 l[j] (List.getElem_mem hj)
    split at this
    · rename_i y e9
      exact ⟨y, by rw [List.getElem?_eq_getElem hj, e9]⟩
    · cases this
  · cases h
section ZMM
variable {μ : zm_M}
theorem zm_iald {i n k : Nat} {d : zi_Dm} {scr : Option (List Value)} {j : Int32} (h : zm_isA 7 i n) (hj : zi_in j n = true) : zi_iald scr d (zm_mk μ) j (i + 1) = some (.int (μ i j.toNatClampNeg)) := by
  obtain ⟨l, h1, rfl, h3⟩ := h
  have hlt := (zi_in_lt hj).2
  obtain ⟨y, hy⟩ := h3 _ hlt
  unfold zi_iald
  simp only [zm_get h1, List.length_mapIdx, hj, if_true, List.getElem?_mapIdx, hy, Option.map_some, zm_v]
theorem zm_bald {i n : Nat} {j : Int32} (h : zm_isA 8 i n) (hj : zi_in j n = true) : zi_bald (zm_mk μ) j i = some (.int (μ i j.toNatClampNeg)) := by
  obtain ⟨l, h1, rfl, h3⟩ := h
  have hlt := (zi_in_lt hj).2
  obtain ⟨y, hy⟩ := h3 _ hlt
  unfold zi_bald
  simp only [zm_get h1, List.length_mapIdx, hj, if_true, List.getElem?_mapIdx, hy, Option.map_some, zm_v]
theorem zm_iast {i n : Nat} {j x : Int32} (h : zm_isA 7 i n) (hj : zi_in j n = true) : zi_iast (zm_mk μ) j i (.int x) = some (zm_mk (zm_up μ i j.toNatClampNeg x)) := by
  obtain ⟨l, h1, rfl, h3⟩ := h
  have hlt := (zi_in_lt hj).2
  obtain ⟨y, hy⟩ := h3 _ hlt
  unfold zi_iast
  simp only [zm_get h1, List.length_mapIdx, hj, zi_isI, Bool.and_self, if_true]
  rw [zm_put h1 hy]
theorem zm_bast {i n : Nat} {j x : Int32} (h : zm_isA 8 i n) (hj : zi_in j n = true) (hx : x = 0 ∨ x = 1) : zi_bast (zm_mk μ) j i x = some (zm_mk (zm_up μ i j.toNatClampNeg x)) := by
  obtain ⟨l, h1, rfl, h3⟩ := h
  have hlt := (zi_in_lt hj).2
  obtain ⟨y, hy⟩ := h3 _ hlt
  have hx2 : (decide (x = 0) || decide (x = 1)) = true := by simpa using hx
  unfold zi_bast
  simp only [zm_get h1, List.length_mapIdx, hj, hx2, Bool.and_self, if_true]
  rw [zm_put h1 hy]
/-- a field of an object: an int, or where it leads -/
theorem zm_gfi {i a b : Nat} {l : List Value} {y : Int32} (h : zh_2[i]? = some (a, l)) (ha : a < 7) (hb : l[b]? = some (.int y)) : zi_gf (zm_mk μ) a b i = some (.int (μ i b)) := by
  unfold zi_gf
  simp only [zm_get h, ha, and_self, if_true, List.getElem?_mapIdx, hb, Option.map_some, zm_v]
theorem zm_gfr {i a b q : Nat} {l : List Value} (h : zh_2[i]? = some (a, l)) (ha : a < 7) (hb : l[b]? = some (.ref q)) : zi_gf (zm_mk μ) a b i = some (.ref q) := by
  unfold zi_gf
  simp only [zm_get h, ha, and_self, if_true, List.getElem?_mapIdx, hb, Option.map_some, zm_v]
theorem zm_pfi {i a b : Nat} {l : List Value} {x y : Int32} (h : zh_2[i]? = some (a, l)) (ha : a < 7) (hb : l[b]? = some (.int y)) (hf : zi_fit (zi_ty a b) (.int x) = true) : zi_pf (zm_mk μ) a b i (.int x) = some (zm_mk (zm_up μ i b x)) := by
  have hlt := (List.getElem?_eq_some_iff.mp hb).1
  unfold zi_pf
  simp only [zm_get h, ha, hf, List.length_mapIdx, hlt, and_self, if_true]
  rw [zm_put h hb]
theorem zm_aald {i t q : Nat} {j : Int32} {l : List Value} (h : zh_2[i]? = some (t, l)) (ht : 9 ≤ t ∧ t ≤ 11) (hj : zi_in j l.length = true) (hq : l[j.toNatClampNeg]? = some (.ref (q + 1))) : zi_aald (zm_mk μ) j i = some (.ref (q + 1)) := by
  unfold zi_aald
  simp only [zm_get h, ht, List.length_mapIdx, hj, and_self, decide_true, Bool.and_self, if_true, List.getElem?_mapIdx, hq, Option.map_some, zm_v]
end ZMM
theorem zm_in {k n : Nat} (h : k < n) (hn : n < 2 ^ 31) : zi_in (nI k) n = true := by
  unfold zi_in
  exact decide_eq_true (vp_in_nI h hn)
end
section
/-! the methods by their numbers -/
abbrev A_Desk_init : Nat := 0
abbrev A_Row_init : Nat := 1
abbrev A_Tree_init : Nat := 2
abbrev A_Win_init : Nat := 3
abbrev A_Scr_init : Nat := 4
abbrev A_Kept_init : Nat := 5
abbrev A_Mod_init : Nat := 6
abbrev A_Row_clear : Nat := 7
abbrev A_Tree_clear : Nat := 8
abbrev A_Arr_fill : Nat := 9
abbrev A_Desk_screen : Nat := 10
abbrev A_Desk_gone : Nat := 11
abbrev A_Desk_open : Nat := 12
abbrev A_Desk_close : Nat := 13
abbrev A_Desk_focus : Nat := 14
abbrev A_Desk_back : Nat := 15
abbrev A_Desk_toward : Nat := 16
abbrev A_Desk_steps : Nat := 17
abbrev A_Desk_drag : Nat := 18
abbrev A_Desk_move : Nat := 19
abbrev A_Desk_share : Nat := 20
abbrev A_Desk_area : Nat := 21
abbrev A_Desk_about : Nat := 22
abbrev A_Desk_isOf : Nat := 23
abbrev A_Desk_at : Nat := 24
abbrev A_Desk_neighbour : Nat := 25
abbrev A_Desk_told : Nat := 26
abbrev A_Desk_tab : Nat := 27
abbrev A_Desk_count : Nat := 28
abbrev A_Desk_isScreen : Nat := 29
abbrev A_Desk_isScreenSize : Nat := 30
abbrev A_Desk_isWindowSize : Nat := 31
abbrev A_Desk_isSide : Nat := 32
abbrev A_Desk_isAxis : Nat := 33
abbrev A_Desk_isPlace : Nat := 34
abbrev A_Desk_isWindow : Nat := 35
abbrev A_Desk_isShownTile : Nat := 36
abbrev A_Desk_leastScreenBut : Nat := 37
abbrev A_Desk_screenAtHand : Nat := 38
abbrev A_Desk_screensThere : Nat := 39
abbrev A_Desk_screensWithKept : Nat := 40
abbrev A_Desk_windowsUnder : Nat := 41
abbrev A_Desk_leastFreeNumber : Nat := 42
abbrev A_Desk_bringBack : Nat := 43
abbrev A_Row_size : Nat := 44
abbrev A_Row_get : Nat := 45
abbrev A_Scr_setSize : Nat := 46
abbrev A_Kept_forget : Nat := 47
abbrev A_Win_fallsUnder : Nat := 48
abbrev A_Mod_screen : Nat := 49
abbrev A_Mod_gone : Nat := 50
abbrev A_Mod_open : Nat := 51
abbrev A_Mod_close : Nat := 52
abbrev A_Mod_focus : Nat := 53
abbrev A_Mod_back : Nat := 54
abbrev A_Mod_toward : Nat := 55
abbrev A_Mod_steps : Nat := 56
abbrev A_Mod_drag : Nat := 57
abbrev A_Mod_move : Nat := 58
abbrev A_Mod_share : Nat := 59
abbrev A_Mod_area : Nat := 60
abbrev A_Mod_about : Nat := 61
abbrev A_Mod_isOf : Nat := 62
abbrev A_Mod_at : Nat := 63
abbrev A_Mod_neighbour : Nat := 64
abbrev A_Mod_told : Nat := 65
abbrev A_Mod_tab : Nat := 66
abbrev A_Mod_count : Nat := 67
abbrev A_Mod_isIn : Nat := 68
abbrev A_Mod_isWindow : Nat := 69
abbrev A_Mod_spot : Nat := 70
abbrev A_Mod_clearTree : Nat := 71
abbrev A_Mod_screenAtHand : Nat := 72
abbrev A_Mod_freeNumber : Nat := 73
abbrev A_Kept_has : Nat := 74
abbrev A_Kept_keepPlace : Nat := 75
abbrev A_Row_placeOf : Nat := 76
abbrev A_Row_append : Nat := 77
abbrev A_Row_takeOut : Nat := 78
abbrev A_Row_putLast : Nat := 79
abbrev A_Row_putFirst : Nat := 80
abbrev A_Row_copyFrom : Nat := 81
abbrev A_Tree_copyFrom : Nat := 82
abbrev A_Tree_leafOf : Nat := 83
abbrev A_Tree_isShown : Nat := 84
abbrev A_Tree_leaves : Nat := 85
abbrev A_Tree_cuts : Nat := 86
abbrev A_Tree_leafNumber : Nat := 87
abbrev A_Tree_shownIn : Nat := 88
abbrev A_Tree_tabsIn : Nat := 89
abbrev A_Tree_tabIn : Nat := 90
abbrev A_Tree_leastOf : Nat := 91
abbrev A_Tree_fits : Nat := 92
abbrev A_Tree_nearestCut : Nat := 93
abbrev A_Tree_changeShare : Nat := 94
abbrev A_Tree_show : Nat := 95
abbrev A_Tree_addTab : Nat := 96
abbrev A_Tree_addAllTabs : Nat := 97
abbrev A_Tree_cutLeaf : Nat := 98
abbrev A_Tree_takeOut : Nat := 99
abbrev A_Tree_nextShown : Nat := 100
abbrev A_Tree_dropLeaf : Nat := 101
abbrev A_Tree_putInPlaceOf : Nat := 102
abbrev A_Tree_enter : Nat := 103
abbrev A_Tree_newNode : Nat := 104
abbrev A_Tree_settle : Nat := 105
abbrev A_Tree_listNodes : Nat := 106
abbrev A_Tree_measureLeaves : Nat := 107
abbrev A_Tree_measureCuts : Nat := 108
abbrev A_Tree_lay : Nat := 109
abbrev A_Tree_divide : Nat := 110
abbrev A_Tree_firstPart : Nat := 111
abbrev A_Tree_isWide : Nat := 112
abbrev A_Tree_startOf : Nat := 113
abbrev A_Tree_lengthOf : Nat := 114
abbrev A_Tree_endOf : Nat := 115
abbrev A_Tree_shownAt : Nat := 116
abbrev A_Tree_spans : Nat := 117
abbrev A_Tree_neighbourTo : Nat := 118
abbrev A_Tree_meets : Nat := 119
abbrev A_Tree_commonBorder : Nat := 120
abbrev A_Win_prepare : Nat := 121
abbrev A_Win_isTiled : Nat := 122
abbrev A_Win_isFloating : Nat := 123
abbrev A_Win_isSticky : Nat := 124
abbrev A_Win_isOn : Nat := 125
abbrev A_Win_isLooseOn : Nat := 126
abbrev A_Win_canBeWhole : Nat := 127
abbrev A_Win_nearest : Nat := 128
abbrev A_Win_putAt : Nat := 129
abbrev A_Win_sendTo : Nat := 130
abbrev A_Win_coversPoint : Nat := 131
abbrev A_Win_spans : Nat := 132
abbrev A_Desk_between : Nat := 133
abbrev A_Desk_looseOnes : Nat := 134
abbrev A_Desk_windowsOn : Nat := 135
abbrev A_Desk_looseOnesFit : Nat := 136
abbrev A_Desk_sendAll : Nat := 137
abbrev A_Desk_treeOf : Nat := 138
abbrev A_Desk_layTrees : Nat := 139
abbrev A_Desk_startOf : Nat := 140
abbrev A_Desk_lengthOf : Nat := 141
abbrev A_Desk_findRoom : Nat := 142
abbrev A_Desk_middleOf : Nat := 143
abbrev A_Desk_tile : Nat := 144
abbrev A_Desk_leafAtHand : Nat := 145
abbrev A_Desk_tryCut : Nat := 146
abbrev A_Desk_tryTab : Nat := 147
abbrev A_Desk_end : Nat := 148
abbrev A_Desk_giveFocus : Nat := 149
abbrev A_Desk_raise : Nat := 150
abbrev A_Desk_dialogsOf : Nat := 151
abbrev A_Desk_lowestDialogOf : Nat := 152
abbrev A_Desk_reachFrom : Nat := 153
abbrev A_Desk_tryDrag : Nat := 154
abbrev A_Desk_axisOf : Nat := 155
abbrev A_Desk_isAfter : Nat := 156
abbrev A_Desk_gatherWithDialogs : Nat := 157
abbrev A_Desk_gatherDialogs : Nat := 158
abbrev A_Desk_groupCanBeWhole : Nat := 159
abbrev A_Desk_sendGroup : Nat := 160
abbrev A_Desk_keepAll : Nat := 161
abbrev A_Desk_forgetKeptWith : Nat := 162
abbrev A_Desk_takeBack : Nat := 163
abbrev A_Desk_forgetKeptWithGroup : Nat := 164
abbrev A_Mod_half : Nat := 165
abbrev A_Mod_nearest : Nat := 166
abbrev A_Mod_isFloating : Nat := 167
abbrev A_Mod_copyTree : Nat := 168
abbrev A_Mod_newNode : Nat := 169
abbrev A_Mod_newLeaf : Nat := 170
abbrev A_Mod_addTab : Nat := 171
abbrev A_Mod_placeOfTab : Nat := 172
abbrev A_Mod_leafOf : Nat := 173
abbrev A_Mod_above : Nat := 174
abbrev A_Mod_stand : Nat := 175
abbrev A_Mod_leave : Nat := 176
abbrev A_Mod_cutLeaf : Nat := 177
abbrev A_Mod_least : Nat := 178
abbrev A_Mod_fits : Nat := 179
abbrev A_Mod_lay : Nat := 180
abbrev A_Mod_layAll : Nat := 181
abbrev A_Mod_canBeWhole : Nat := 182
abbrev A_Mod_putAt : Nat := 183
abbrev A_Mod_isOnScreen : Nat := 184
abbrev A_Mod_unstack : Nat := 185
abbrev A_Mod_raise : Nat := 186
abbrev A_Mod_front : Nat := 187
abbrev A_Mod_focused : Nat := 188
abbrev A_Mod_forget : Nat := 189
abbrev A_Mod_spread : Nat := 190
abbrev A_Mod_comesBack : Nat := 191
abbrev A_Mod_bring : Nat := 192
abbrev A_Mod_clearLeaves : Nat := 193
abbrev A_Mod_findLeaves : Nat := 194
abbrev A_Mod_moveTabs : Nat := 195
abbrev A_Mod_tile : Nat := 196
abbrev A_Mod_takesTrial : Nat := 197
abbrev A_Mod_closed : Nat := 198
abbrev A_Mod_isShown : Nat := 199
abbrev A_Mod_common : Nat := 200
abbrev A_Mod_neighbourOf : Nat := 201
abbrev A_Mod_areaOf : Nat := 202
abbrev A_Mod_placeIn : Nat := 203
abbrev A_Mod_lies : Nat := 204
abbrev A_Math_floorDiv : Nat := 205
abbrev A_Math_max : Nat := 206
abbrev A_Math_min : Nat := 207
/-! evaluation over the memory: a method returns; a stretch of code is gone through -/
def ze_E (D a : Nat) (vs : List Value) (h : zi_Hp) (r : Option Value) (h' : zi_Hp) : Prop := ∃ N, ∀ F, N ≤ F → zi_run zi_ms F D a vs h [] = some [([], r, h')]
section ZEV
variable {D nL : Nat} {ret : Option FieldType} {code0 : List zi_Row}
/-- from one place of the code to another, whatever fuel is left behind it -/
def ze_S (D nL : Nat) (ret : Option FieldType) (code0 : List zi_Row) (pc : Nat) (L : zi_Lc) (st : List Value) (h : zi_Hp) (pc' : Nat) (L' : zi_Lc) (st' : List Value) (h' : zi_Hp) : Prop :=
  ∃ N k, ∀ F n, N ≤ F → zi_go zi_ms none nL ret code0 0 0 (zi_run zi_ms F D) (n + k) pc L st h [] 0 0 = zi_go zi_ms none nL ret code0 0 0 (zi_run zi_ms F D) n pc' L' st' h' [] 0 0
/-- from a place of the code to the method's end -/
def ze_G (D nL : Nat) (ret : Option FieldType) (code0 : List zi_Row) (pc : Nat) (L : zi_Lc) (st : List Value) (h : zi_Hp) (r : Option Value) (h' : zi_Hp) : Prop :=
  ∃ N k, ∀ F n, N ≤ F → zi_go zi_ms none nL ret code0 0 0 (zi_run zi_ms F D) (n + k) pc L st h [] 0 0 = some [([], r, h')]
theorem ze_S.refl {pc : Nat} {L : zi_Lc} {st : List Value} {h : zi_Hp} : ze_S D nL ret code0 pc L st h pc L st h := ⟨0, 0, fun _ _ _ => rfl⟩
theorem ze_S.trans {p1 p2 p3 : Nat} {L1 L2 L3 : zi_Lc} {s1 s2 s3 : List Value} {h1 h2 h3 : zi_Hp} (a : ze_S D nL ret code0 p1 L1 s1 h1 p2 L2 s2 h2) (b : ze_S D nL ret code0 p2 L2 s2 h2 p3 L3 s3 h3) : ze_S D nL ret code0 p1 L1 s1 h1 p3 L3 s3 h3 := by
  obtain ⟨N, k, a⟩ := a
  obtain ⟨M, j, b⟩ := b
  refine ⟨N + M, j + k, fun F n hF => ?_⟩
  rw [← Nat.add_assoc, a F (n + j) (by omega), b F n (by omega)]
theorem ze_S.end {p1 p2 : Nat} {L1 L2 : zi_Lc} {s1 s2 : List Value} {h1 h2 h3 : zi_Hp} {r : Option Value} (a : ze_S D nL ret code0 p1 L1 s1 h1 p2 L2 s2 h2) (b : ze_G D nL ret code0 p2 L2 s2 h2 r h3) : ze_G D nL ret code0 p1 L1 s1 h1 r h3 := by
  obtain ⟨N, k, a⟩ := a
  obtain ⟨M, j, b⟩ := b
  refine ⟨N + M, j + k, fun F n hF => ?_⟩
  rw [← Nat.add_assoc, a F (n + j) (by omega), b F n (by omega)]
/-- a method that makes nothing -/
theorem ze_enter {a : Nat} {y : MethodName} {cc : ByteArray} {vs : List Value} {h h' : zi_Hp} {r : Option Value} (hm : zi_ms[a]? = some (y, cc, nL, ret, code0, 0, 0)) (hs : (lg_sl vs).length ≤ nL) (g : ze_G D nL ret code0 0 (lv_args 0 vs) [] h r h') : ze_E (D + 1) a vs h r h' := by
  obtain ⟨N, k, g⟩ := g
  refine ⟨N + k, fun F hF => ?_⟩
  obtain ⟨n, rfl⟩ : ∃ n, F = n + k := ⟨F - k, by omega⟩
  unfold zi_run
  rw [hm]
  dsimp only
  rw [if_pos hs]
  exact g (n + k) n (by omega)
end ZEV
end
section
/-! Row: window numbers in an order -/
/-- a Row at cell r: its ints at r + 1 -/
def zr_at (r : Nat) : Prop := zh_2[r]? = some (1, [.ref (r + 2), .int 0]) ∧ zm_isA 7 (r + 1) 10
def zr_cells : List Nat := [3, 5, 34, 8, 69, 94, 124, 149, 179, 204]
theorem zr_at_of : ∀ r ∈ zr_cells, zr_at r := by
  intro r hr
  simp only [zr_cells, List.mem_cons, List.not_mem_nil, or_false] at hr
  rcases hr with rfl | rfl | rfl | rfl | rfl | rfl | rfl | rfl | rfl | rfl <;> exact ⟨by decide +kernel, zm_isA_of (by decide +kernel)⟩
section ZR
variable {μ : zm_M} {r : Nat}
theorem zr_g0 (h : zr_at r) : zi_gf (zm_mk μ) 1 0 r = some (.ref (r + 1 + 1)) := zm_gfr h.1 (by decide) rfl
theorem zr_g1 (h : zr_at r) : zi_gf (zm_mk μ) 1 1 r = some (.int (μ r 1)) := zm_gfi h.1 (by decide) rfl
theorem zr_p1 (h : zr_at r) (x : Int32) : zi_pf (zm_mk μ) 1 1 r (.int x) = some (zm_mk (zm_up μ r 1 x)) := zm_pfi h.1 (by decide) rfl rfl
set_option maxRecDepth 100000 in
/-- size() -/
theorem ze_Row_size (D : Nat) (h : zr_at r) : ze_E (D + 1) A_Row_size [.ref (r + 1)] (zm_mk μ) (some (.int (μ r 1))) (zm_mk μ) := by
  refine ze_enter (nL := 1) (ret := some .int) (code0 := zc_X1_size) rfl (by decide) ⟨0, 10, fun F n _ => ?_⟩
  simp [zi_go, zc_X1_size, zc_X1_size_0, zi_ask, zi_new, zi_step, zi_lda, zi_get, lv_args, Value.category, zr_g1 h, zi_retOk, zi_isI]
set_option maxRecDepth 100000 in
/-- get(i) -/
theorem ze_Row_get (D : Nat) (i : Int32) (h : zr_at r) (hs : μ r 1 ≤ 10) : ze_E (D + 1) A_Row_get [.ref (r + 1), .int i] (zm_mk μ) (some (.int (if 0 ≤ i ∧ i < μ r 1 then μ (r + 1) i.toNatClampNeg else -1))) (zm_mk μ) := by
  refine ze_enter (nL := 2) (ret := some .int) (code0 := zc_X1_get) rfl (by decide) ⟨0, 20, fun F n _ => ?_⟩
  by_cases h1 : i < 0
  · have h2 : ¬ (0 : Int32) ≤ i := Int32.not_le.mpr h1
    simp [zi_go, zc_X1_get, zc_X1_get_0, zi_ask, zi_new, zi_step, zi_ld, zi_lda, zi_get, lv_args, Value.category, zr_g0 h, zr_g1 h, zi_retOk, zi_isI, zi_cmp, h1, h2]
  · have h2 : (0 : Int32) ≤ i := Int32.not_lt.mp h1
    by_cases h3 : μ r 1 ≤ i
    · have h4 : ¬ i < μ r 1 := Int32.not_lt.mpr h3
      simp [zi_go, zc_X1_get, zc_X1_get_0, zi_ask, zi_new, zi_step, zi_ld, zi_lda, zi_get, lv_args, Value.category, zr_g0 h, zr_g1 h, zi_retOk, zi_isI, zi_cmp, h1, h2, h3, h4]
    · have h4 : i < μ r 1 := Int32.not_le.mp h3
      have h5 : zi_in i 10 = true := by
        unfold zi_in
        refine decide_eq_true ?_
        have := vp_in_iff (x := i) (n := 10)
        refine this.mpr ?_
        rw [Int32.le_iff_toInt_le] at h2 hs
        rw [Int32.lt_iff_toInt_lt] at h4
        have e0 : (0 : Int32).toInt = 0 := by decide
        have e10 : (10 : Int32).toInt = 10 := by decide
        omega
      simp [zi_go, zc_X1_get, zc_X1_get_0, zi_ask, zi_new, zi_step, zi_ld, zi_lda, zi_get, lv_args, Value.category, zr_g0 h, zr_g1 h, zi_retOk, zi_isI, zi_cmp, h1, h2, h3, h4, zm_iald (k := 0) h.2 h5]
end ZR
end
