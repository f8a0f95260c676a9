-- ===== PART A: goes FIRST, ahead of the names: the tables' words, and 'selects' of the private methods out of them =====
/-- a private method of a class that the tables say can be made, by its rows of tables_1 -/
noncomputable def lw_okq (q : MethodName × Nat) : Prop := (q.1.cls ≠ "java/lang/invoke/MethodHandle" ∧ q.1.cls ≠ "java/lang/invoke/VarHandle") ∧ Cond.instantiable q.1.cls q.2 ∈ tables_1 ∧ Cond.privateMethod q.1 ∈ tables_1 ∧ Cond.instanceMethod q.1 ∈ tables_1
set_option maxRecDepth 100000 in
theorem lw_p0 : lw_okq (⟨"WindowDesk", "bringBack", "(I)I"⟩, 9) := ⟨⟨by decide +kernel, by decide +kernel⟩, List.mem_of_getElem? (i := 12) rfl, List.mem_of_getElem? (i := 231) rfl, List.mem_of_getElem? (i := 232) rfl⟩
set_option maxRecDepth 100000 in
theorem lw_p1 : lw_okq (⟨"WindowDesk", "gatherDialogs", "()V"⟩, 9) := ⟨⟨by decide +kernel, by decide +kernel⟩, List.mem_of_getElem? (i := 12) rfl, List.mem_of_getElem? (i := 251) rfl, List.mem_of_getElem? (i := 252) rfl⟩
set_option maxRecDepth 100000 in
theorem lw_p2 : lw_okq (⟨"WindowDesk", "isWindow", "(I)Z"⟩, 9) := ⟨⟨by decide +kernel, by decide +kernel⟩, List.mem_of_getElem? (i := 12) rfl, List.mem_of_getElem? (i := 255) rfl, List.mem_of_getElem? (i := 256) rfl⟩
set_option maxRecDepth 100000 in
theorem lw_p3 : lw_okq (⟨"WindowDesk", "groupCanBeWhole", "(I)Z"⟩, 9) := ⟨⟨by decide +kernel, by decide +kernel⟩, List.mem_of_getElem? (i := 12) rfl, List.mem_of_getElem? (i := 259) rfl, List.mem_of_getElem? (i := 260) rfl⟩
set_option maxRecDepth 100000 in
theorem lw_p4 : lw_okq (⟨"WindowDesk", "takeBack", "(ILWindowDesk$Kept;)V"⟩, 9) := ⟨⟨by decide +kernel, by decide +kernel⟩, List.mem_of_getElem? (i := 12) rfl, List.mem_of_getElem? (i := 271) rfl, List.mem_of_getElem? (i := 272) rfl⟩
set_option maxRecDepth 100000 in
theorem lw_p5 : lw_okq (⟨"WindowDesk", "treeOf", "(I)LWindowDesk$Tree;"⟩, 9) := ⟨⟨by decide +kernel, by decide +kernel⟩, List.mem_of_getElem? (i := 12) rfl, List.mem_of_getElem? (i := 279) rfl, List.mem_of_getElem? (i := 280) rfl⟩
set_option maxRecDepth 100000 in
theorem lw_p6 : lw_okq (⟨"WindowDesk$Tree", "nextShown", "(II)I"⟩, 16) := ⟨⟨by decide +kernel, by decide +kernel⟩, List.mem_of_getElem? (i := 38) rfl, List.mem_of_getElem? (i := 288) rfl, List.mem_of_getElem? (i := 289) rfl⟩
set_option maxRecDepth 100000 in
theorem lw_p7 : lw_okq (⟨"WindowDesk$Tree", "dropLeaf", "(I)V"⟩, 16) := ⟨⟨by decide +kernel, by decide +kernel⟩, List.mem_of_getElem? (i := 38) rfl, List.mem_of_getElem? (i := 308) rfl, List.mem_of_getElem? (i := 309) rfl⟩
set_option maxRecDepth 100000 in
theorem lw_p8 : lw_okq (⟨"WindowDesk$Tree", "putInPlaceOf", "(II)V"⟩, 16) := ⟨⟨by decide +kernel, by decide +kernel⟩, List.mem_of_getElem? (i := 38) rfl, List.mem_of_getElem? (i := 312) rfl, List.mem_of_getElem? (i := 313) rfl⟩
set_option maxRecDepth 100000 in
theorem lw_p9 : lw_okq (⟨"WindowDesk$Tree", "settle", "()V"⟩, 16) := ⟨⟨by decide +kernel, by decide +kernel⟩, List.mem_of_getElem? (i := 38) rfl, List.mem_of_getElem? (i := 316) rfl, List.mem_of_getElem? (i := 317) rfl⟩
set_option maxRecDepth 100000 in
theorem lw_p10 : lw_okq (⟨"WindowDesk$Tree", "listNodes", "()V"⟩, 16) := ⟨⟨by decide +kernel, by decide +kernel⟩, List.mem_of_getElem? (i := 38) rfl, List.mem_of_getElem? (i := 320) rfl, List.mem_of_getElem? (i := 321) rfl⟩
set_option maxRecDepth 100000 in
theorem lw_p11 : lw_okq (⟨"WindowDesk$Tree", "measureLeaves", "(I)V"⟩, 16) := ⟨⟨by decide +kernel, by decide +kernel⟩, List.mem_of_getElem? (i := 38) rfl, List.mem_of_getElem? (i := 324) rfl, List.mem_of_getElem? (i := 325) rfl⟩
set_option maxRecDepth 100000 in
theorem lw_p12 : lw_okq (⟨"WindowDesk$Tree", "measureCuts", "(I)V"⟩, 16) := ⟨⟨by decide +kernel, by decide +kernel⟩, List.mem_of_getElem? (i := 38) rfl, List.mem_of_getElem? (i := 331) rfl, List.mem_of_getElem? (i := 332) rfl⟩
set_option maxRecDepth 100000 in
theorem lw_p13 : lw_okq (⟨"WindowDesk", "sendGroup", "(I)V"⟩, 9) := ⟨⟨by decide +kernel, by decide +kernel⟩, List.mem_of_getElem? (i := 12) rfl, List.mem_of_getElem? (i := 335) rfl, List.mem_of_getElem? (i := 336) rfl⟩
set_option maxRecDepth 100000 in
theorem lw_p14 : lw_okq (⟨"WindowDesk$Window", "nearest", "(II[I)I"⟩, 6) := ⟨⟨by decide +kernel, by decide +kernel⟩, List.mem_of_getElem? (i := 107) rfl, List.mem_of_getElem? (i := 348) rfl, List.mem_of_getElem? (i := 349) rfl⟩
set_option maxRecDepth 100000 in
theorem lw_p15 : lw_okq (⟨"WindowDesk", "forgetKeptWithGroup", "()V"⟩, 9) := ⟨⟨by decide +kernel, by decide +kernel⟩, List.mem_of_getElem? (i := 12) rfl, List.mem_of_getElem? (i := 371) rfl, List.mem_of_getElem? (i := 372) rfl⟩
noncomputable def lw_privs_1 : List (MethodName × Nat) := [(⟨"WindowDesk", "bringBack", "(I)I"⟩, 9), (⟨"WindowDesk", "gatherDialogs", "()V"⟩, 9), (⟨"WindowDesk", "isWindow", "(I)Z"⟩, 9), (⟨"WindowDesk", "groupCanBeWhole", "(I)Z"⟩, 9), (⟨"WindowDesk", "takeBack", "(ILWindowDesk$Kept;)V"⟩, 9), (⟨"WindowDesk", "treeOf", "(I)LWindowDesk$Tree;"⟩, 9), (⟨"WindowDesk$Tree", "nextShown", "(II)I"⟩, 16), (⟨"WindowDesk$Tree", "dropLeaf", "(I)V"⟩, 16), (⟨"WindowDesk$Tree", "putInPlaceOf", "(II)V"⟩, 16), (⟨"WindowDesk$Tree", "settle", "()V"⟩, 16), (⟨"WindowDesk$Tree", "listNodes", "()V"⟩, 16), (⟨"WindowDesk$Tree", "measureLeaves", "(I)V"⟩, 16), (⟨"WindowDesk$Tree", "measureCuts", "(I)V"⟩, 16), (⟨"WindowDesk", "sendGroup", "(I)V"⟩, 9), (⟨"WindowDesk$Window", "nearest", "(II[I)I"⟩, 6), (⟨"WindowDesk", "forgetKeptWithGroup", "()V"⟩, 9)]
theorem lw_r1 : ∀ q ∈ lw_privs_1, lw_okq q := List.forall_mem_cons.mpr ⟨lw_p0, List.forall_mem_cons.mpr ⟨lw_p1, List.forall_mem_cons.mpr ⟨lw_p2, List.forall_mem_cons.mpr ⟨lw_p3, List.forall_mem_cons.mpr ⟨lw_p4, List.forall_mem_cons.mpr ⟨lw_p5, List.forall_mem_cons.mpr ⟨lw_p6, List.forall_mem_cons.mpr ⟨lw_p7, List.forall_mem_cons.mpr ⟨lw_p8, List.forall_mem_cons.mpr ⟨lw_p9, List.forall_mem_cons.mpr ⟨lw_p10, List.forall_mem_cons.mpr ⟨lw_p11, List.forall_mem_cons.mpr ⟨lw_p12, List.forall_mem_cons.mpr ⟨lw_p13, List.forall_mem_cons.mpr ⟨lw_p14, List.forall_mem_cons.mpr ⟨lw_p15, fun _ h => absurd h List.not_mem_nil⟩⟩⟩⟩⟩⟩⟩⟩⟩⟩⟩⟩⟩⟩⟩⟩
set_option maxRecDepth 100000 in
theorem lw_p16 : lw_okq (⟨"WindowDesk", "forgetKeptWith", "(I)V"⟩, 9) := ⟨⟨by decide +kernel, by decide +kernel⟩, List.mem_of_getElem? (i := 12) rfl, List.mem_of_getElem? (i := 375) rfl, List.mem_of_getElem? (i := 376) rfl⟩
set_option maxRecDepth 100000 in
theorem lw_p17 : lw_okq (⟨"WindowDesk", "looseOnesFit", "(I[I)Z"⟩, 9) := ⟨⟨by decide +kernel, by decide +kernel⟩, List.mem_of_getElem? (i := 12) rfl, List.mem_of_getElem? (i := 383) rfl, List.mem_of_getElem? (i := 384) rfl⟩
set_option maxRecDepth 100000 in
theorem lw_p18 : lw_okq (⟨"WindowDesk", "sendAll", "(II)V"⟩, 9) := ⟨⟨by decide +kernel, by decide +kernel⟩, List.mem_of_getElem? (i := 12) rfl, List.mem_of_getElem? (i := 396) rfl, List.mem_of_getElem? (i := 397) rfl⟩
set_option maxRecDepth 100000 in
theorem lw_p19 : lw_okq (⟨"WindowDesk", "leastScreenBut", "(I)I"⟩, 9) := ⟨⟨by decide +kernel, by decide +kernel⟩, List.mem_of_getElem? (i := 12) rfl, List.mem_of_getElem? (i := 405) rfl, List.mem_of_getElem? (i := 406) rfl⟩
set_option maxRecDepth 100000 in
theorem lw_p20 : lw_okq (⟨"WindowDesk$Tree", "newNode", "(I)I"⟩, 16) := ⟨⟨by decide +kernel, by decide +kernel⟩, List.mem_of_getElem? (i := 38) rfl, List.mem_of_getElem? (i := 434) rfl, List.mem_of_getElem? (i := 435) rfl⟩
set_option maxRecDepth 100000 in
theorem lw_p21 : lw_okq (⟨"WindowDesk$Tree", "enter", "(IIII)V"⟩, 16) := ⟨⟨by decide +kernel, by decide +kernel⟩, List.mem_of_getElem? (i := 38) rfl, List.mem_of_getElem? (i := 438) rfl, List.mem_of_getElem? (i := 439) rfl⟩
set_option maxRecDepth 100000 in
theorem lw_p22 : lw_okq (⟨"WindowDesk", "windowsOn", "(I)I"⟩, 9) := ⟨⟨by decide +kernel, by decide +kernel⟩, List.mem_of_getElem? (i := 12) rfl, List.mem_of_getElem? (i := 446) rfl, List.mem_of_getElem? (i := 447) rfl⟩
set_option maxRecDepth 100000 in
theorem lw_p23 : lw_okq (⟨"WindowDesk", "keepAll", "(I)V"⟩, 9) := ⟨⟨by decide +kernel, by decide +kernel⟩, List.mem_of_getElem? (i := 12) rfl, List.mem_of_getElem? (i := 450) rfl, List.mem_of_getElem? (i := 451) rfl⟩
set_option maxRecDepth 100000 in
theorem lw_p24 : lw_okq (⟨"WindowDesk", "leastFreeNumber", "()I"⟩, 9) := ⟨⟨by decide +kernel, by decide +kernel⟩, List.mem_of_getElem? (i := 12) rfl, List.mem_of_getElem? (i := 466) rfl, List.mem_of_getElem? (i := 467) rfl⟩
set_option maxRecDepth 100000 in
theorem lw_p25 : lw_okq (⟨"WindowDesk", "screenAtHand", "()I"⟩, 9) := ⟨⟨by decide +kernel, by decide +kernel⟩, List.mem_of_getElem? (i := 12) rfl, List.mem_of_getElem? (i := 475) rfl, List.mem_of_getElem? (i := 476) rfl⟩
set_option maxRecDepth 100000 in
theorem lw_p26 : lw_okq (⟨"WindowDesk", "layTrees", "()V"⟩, 9) := ⟨⟨by decide +kernel, by decide +kernel⟩, List.mem_of_getElem? (i := 12) rfl, List.mem_of_getElem? (i := 481) rfl, List.mem_of_getElem? (i := 482) rfl⟩
set_option maxRecDepth 100000 in
theorem lw_p27 : lw_okq (⟨"WindowDesk$Tree", "divide", "(I)V"⟩, 16) := ⟨⟨by decide +kernel, by decide +kernel⟩, List.mem_of_getElem? (i := 38) rfl, List.mem_of_getElem? (i := 489) rfl, List.mem_of_getElem? (i := 490) rfl⟩
set_option maxRecDepth 100000 in
theorem lw_p28 : lw_okq (⟨"WindowDesk$Tree", "firstPart", "(II)I"⟩, 16) := ⟨⟨by decide +kernel, by decide +kernel⟩, List.mem_of_getElem? (i := 38) rfl, List.mem_of_getElem? (i := 493) rfl, List.mem_of_getElem? (i := 494) rfl⟩
set_option maxRecDepth 100000 in
theorem lw_p29 : lw_okq (⟨"WindowDesk", "findRoom", "(II)Z"⟩, 9) := ⟨⟨by decide +kernel, by decide +kernel⟩, List.mem_of_getElem? (i := 12) rfl, List.mem_of_getElem? (i := 502) rfl, List.mem_of_getElem? (i := 503) rfl⟩
set_option maxRecDepth 100000 in
theorem lw_p30 : lw_okq (⟨"WindowDesk", "tile", "(ILWindowDesk$Screen;)Z"⟩, 9) := ⟨⟨by decide +kernel, by decide +kernel⟩, List.mem_of_getElem? (i := 12) rfl, List.mem_of_getElem? (i := 506) rfl, List.mem_of_getElem? (i := 507) rfl⟩
set_option maxRecDepth 100000 in
theorem lw_p31 : lw_okq (⟨"WindowDesk", "leafAtHand", "(LWindowDesk$Tree;)I"⟩, 9) := ⟨⟨by decide +kernel, by decide +kernel⟩, List.mem_of_getElem? (i := 12) rfl, List.mem_of_getElem? (i := 510) rfl, List.mem_of_getElem? (i := 511) rfl⟩
noncomputable def lw_privs_2 : List (MethodName × Nat) := [(⟨"WindowDesk", "forgetKeptWith", "(I)V"⟩, 9), (⟨"WindowDesk", "looseOnesFit", "(I[I)Z"⟩, 9), (⟨"WindowDesk", "sendAll", "(II)V"⟩, 9), (⟨"WindowDesk", "leastScreenBut", "(I)I"⟩, 9), (⟨"WindowDesk$Tree", "newNode", "(I)I"⟩, 16), (⟨"WindowDesk$Tree", "enter", "(IIII)V"⟩, 16), (⟨"WindowDesk", "windowsOn", "(I)I"⟩, 9), (⟨"WindowDesk", "keepAll", "(I)V"⟩, 9), (⟨"WindowDesk", "leastFreeNumber", "()I"⟩, 9), (⟨"WindowDesk", "screenAtHand", "()I"⟩, 9), (⟨"WindowDesk", "layTrees", "()V"⟩, 9), (⟨"WindowDesk$Tree", "divide", "(I)V"⟩, 16), (⟨"WindowDesk$Tree", "firstPart", "(II)I"⟩, 16), (⟨"WindowDesk", "findRoom", "(II)Z"⟩, 9), (⟨"WindowDesk", "tile", "(ILWindowDesk$Screen;)Z"⟩, 9), (⟨"WindowDesk", "leafAtHand", "(LWindowDesk$Tree;)I"⟩, 9)]
theorem lw_r2 : ∀ q ∈ lw_privs_2, lw_okq q := List.forall_mem_cons.mpr ⟨lw_p16, List.forall_mem_cons.mpr ⟨lw_p17, List.forall_mem_cons.mpr ⟨lw_p18, List.forall_mem_cons.mpr ⟨lw_p19, List.forall_mem_cons.mpr ⟨lw_p20, List.forall_mem_cons.mpr ⟨lw_p21, List.forall_mem_cons.mpr ⟨lw_p22, List.forall_mem_cons.mpr ⟨lw_p23, List.forall_mem_cons.mpr ⟨lw_p24, List.forall_mem_cons.mpr ⟨lw_p25, List.forall_mem_cons.mpr ⟨lw_p26, List.forall_mem_cons.mpr ⟨lw_p27, List.forall_mem_cons.mpr ⟨lw_p28, List.forall_mem_cons.mpr ⟨lw_p29, List.forall_mem_cons.mpr ⟨lw_p30, List.forall_mem_cons.mpr ⟨lw_p31, fun _ h => absurd h List.not_mem_nil⟩⟩⟩⟩⟩⟩⟩⟩⟩⟩⟩⟩⟩⟩⟩⟩
set_option maxRecDepth 100000 in
theorem lw_p32 : lw_okq (⟨"WindowDesk", "tryCut", "(ILWindowDesk$Screen;II)Z"⟩, 9) := ⟨⟨by decide +kernel, by decide +kernel⟩, List.mem_of_getElem? (i := 12) rfl, List.mem_of_getElem? (i := 520) rfl, List.mem_of_getElem? (i := 521) rfl⟩
set_option maxRecDepth 100000 in
theorem lw_p33 : lw_okq (⟨"WindowDesk", "tryTab", "(ILWindowDesk$Screen;I)Z"⟩, 9) := ⟨⟨by decide +kernel, by decide +kernel⟩, List.mem_of_getElem? (i := 12) rfl, List.mem_of_getElem? (i := 528) rfl, List.mem_of_getElem? (i := 529) rfl⟩
set_option maxRecDepth 100000 in
theorem lw_p34 : lw_okq (⟨"WindowDesk", "middleOf", "(LWindowDesk$Window;I)I"⟩, 9) := ⟨⟨by decide +kernel, by decide +kernel⟩, List.mem_of_getElem? (i := 12) rfl, List.mem_of_getElem? (i := 533) rfl, List.mem_of_getElem? (i := 534) rfl⟩
set_option maxRecDepth 100000 in
theorem lw_p35 : lw_okq (⟨"WindowDesk", "lengthOf", "(II)I"⟩, 9) := ⟨⟨by decide +kernel, by decide +kernel⟩, List.mem_of_getElem? (i := 12) rfl, List.mem_of_getElem? (i := 537) rfl, List.mem_of_getElem? (i := 538) rfl⟩
set_option maxRecDepth 100000 in
theorem lw_p36 : lw_okq (⟨"WindowDesk", "startOf", "(II)I"⟩, 9) := ⟨⟨by decide +kernel, by decide +kernel⟩, List.mem_of_getElem? (i := 12) rfl, List.mem_of_getElem? (i := 545) rfl, List.mem_of_getElem? (i := 546) rfl⟩
set_option maxRecDepth 100000 in
theorem lw_p37 : lw_okq (⟨"WindowDesk", "giveFocus", "(I)V"⟩, 9) := ⟨⟨by decide +kernel, by decide +kernel⟩, List.mem_of_getElem? (i := 12) rfl, List.mem_of_getElem? (i := 557) rfl, List.mem_of_getElem? (i := 558) rfl⟩
set_option maxRecDepth 100000 in
theorem lw_p38 : lw_okq (⟨"WindowDesk", "raise", "(II)V"⟩, 9) := ⟨⟨by decide +kernel, by decide +kernel⟩, List.mem_of_getElem? (i := 12) rfl, List.mem_of_getElem? (i := 575) rfl, List.mem_of_getElem? (i := 576) rfl⟩
set_option maxRecDepth 100000 in
theorem lw_p39 : lw_okq (⟨"WindowDesk", "dialogsOf", "(I)I"⟩, 9) := ⟨⟨by decide +kernel, by decide +kernel⟩, List.mem_of_getElem? (i := 12) rfl, List.mem_of_getElem? (i := 580) rfl, List.mem_of_getElem? (i := 581) rfl⟩
set_option maxRecDepth 100000 in
theorem lw_p40 : lw_okq (⟨"WindowDesk", "lowestDialogOf", "(I)I"⟩, 9) := ⟨⟨by decide +kernel, by decide +kernel⟩, List.mem_of_getElem? (i := 12) rfl, List.mem_of_getElem? (i := 584) rfl, List.mem_of_getElem? (i := 585) rfl⟩
set_option maxRecDepth 100000 in
theorem lw_p41 : lw_okq (⟨"WindowDesk", "gatherWithDialogs", "(I)V"⟩, 9) := ⟨⟨by decide +kernel, by decide +kernel⟩, List.mem_of_getElem? (i := 12) rfl, List.mem_of_getElem? (i := 592) rfl, List.mem_of_getElem? (i := 593) rfl⟩
set_option maxRecDepth 100000 in
theorem lw_p42 : lw_okq (⟨"WindowDesk", "end", "(I)V"⟩, 9) := ⟨⟨by decide +kernel, by decide +kernel⟩, List.mem_of_getElem? (i := 12) rfl, List.mem_of_getElem? (i := 596) rfl, List.mem_of_getElem? (i := 597) rfl⟩
set_option maxRecDepth 100000 in
theorem lw_p43 : lw_okq (⟨"WindowDesk", "isShownTile", "(I)Z"⟩, 9) := ⟨⟨by decide +kernel, by decide +kernel⟩, List.mem_of_getElem? (i := 12) rfl, List.mem_of_getElem? (i := 616) rfl, List.mem_of_getElem? (i := 617) rfl⟩
set_option maxRecDepth 100000 in
theorem lw_p44 : lw_okq (⟨"WindowDesk$Tree", "meets", "(III)Z"⟩, 16) := ⟨⟨by decide +kernel, by decide +kernel⟩, List.mem_of_getElem? (i := 38) rfl, List.mem_of_getElem? (i := 629) rfl, List.mem_of_getElem? (i := 630) rfl⟩
set_option maxRecDepth 100000 in
theorem lw_p45 : lw_okq (⟨"WindowDesk$Tree", "endOf", "(II)I"⟩, 16) := ⟨⟨by decide +kernel, by decide +kernel⟩, List.mem_of_getElem? (i := 38) rfl, List.mem_of_getElem? (i := 640) rfl, List.mem_of_getElem? (i := 641) rfl⟩
set_option maxRecDepth 100000 in
theorem lw_p46 : lw_okq (⟨"WindowDesk$Tree", "commonBorder", "(III)I"⟩, 16) := ⟨⟨by decide +kernel, by decide +kernel⟩, List.mem_of_getElem? (i := 38) rfl, List.mem_of_getElem? (i := 645) rfl, List.mem_of_getElem? (i := 646) rfl⟩
set_option maxRecDepth 100000 in
theorem lw_p47 : lw_okq (⟨"WindowDesk", "reachFrom", "(I)V"⟩, 9) := ⟨⟨by decide +kernel, by decide +kernel⟩, List.mem_of_getElem? (i := 12) rfl, List.mem_of_getElem? (i := 657) rfl, List.mem_of_getElem? (i := 658) rfl⟩
noncomputable def lw_privs_3 : List (MethodName × Nat) := [(⟨"WindowDesk", "tryCut", "(ILWindowDesk$Screen;II)Z"⟩, 9), (⟨"WindowDesk", "tryTab", "(ILWindowDesk$Screen;I)Z"⟩, 9), (⟨"WindowDesk", "middleOf", "(LWindowDesk$Window;I)I"⟩, 9), (⟨"WindowDesk", "lengthOf", "(II)I"⟩, 9), (⟨"WindowDesk", "startOf", "(II)I"⟩, 9), (⟨"WindowDesk", "giveFocus", "(I)V"⟩, 9), (⟨"WindowDesk", "raise", "(II)V"⟩, 9), (⟨"WindowDesk", "dialogsOf", "(I)I"⟩, 9), (⟨"WindowDesk", "lowestDialogOf", "(I)I"⟩, 9), (⟨"WindowDesk", "gatherWithDialogs", "(I)V"⟩, 9), (⟨"WindowDesk", "end", "(I)V"⟩, 9), (⟨"WindowDesk", "isShownTile", "(I)Z"⟩, 9), (⟨"WindowDesk$Tree", "meets", "(III)Z"⟩, 16), (⟨"WindowDesk$Tree", "endOf", "(II)I"⟩, 16), (⟨"WindowDesk$Tree", "commonBorder", "(III)I"⟩, 16), (⟨"WindowDesk", "reachFrom", "(I)V"⟩, 9)]
theorem lw_r3 : ∀ q ∈ lw_privs_3, lw_okq q := List.forall_mem_cons.mpr ⟨lw_p32, List.forall_mem_cons.mpr ⟨lw_p33, List.forall_mem_cons.mpr ⟨lw_p34, List.forall_mem_cons.mpr ⟨lw_p35, List.forall_mem_cons.mpr ⟨lw_p36, List.forall_mem_cons.mpr ⟨lw_p37, List.forall_mem_cons.mpr ⟨lw_p38, List.forall_mem_cons.mpr ⟨lw_p39, List.forall_mem_cons.mpr ⟨lw_p40, List.forall_mem_cons.mpr ⟨lw_p41, List.forall_mem_cons.mpr ⟨lw_p42, List.forall_mem_cons.mpr ⟨lw_p43, List.forall_mem_cons.mpr ⟨lw_p44, List.forall_mem_cons.mpr ⟨lw_p45, List.forall_mem_cons.mpr ⟨lw_p46, List.forall_mem_cons.mpr ⟨lw_p47, fun _ h => absurd h List.not_mem_nil⟩⟩⟩⟩⟩⟩⟩⟩⟩⟩⟩⟩⟩⟩⟩⟩
set_option maxRecDepth 100000 in
theorem lw_p48 : lw_okq (⟨"WindowDesk", "tryDrag", "(III)V"⟩, 9) := ⟨⟨by decide +kernel, by decide +kernel⟩, List.mem_of_getElem? (i := 12) rfl, List.mem_of_getElem? (i := 666) rfl, List.mem_of_getElem? (i := 667) rfl⟩
set_option maxRecDepth 100000 in
theorem lw_p49 : lw_okq (⟨"WindowDesk$Window", "spans", "(II[I)Z"⟩, 6) := ⟨⟨by decide +kernel, by decide +kernel⟩, List.mem_of_getElem? (i := 107) rfl, List.mem_of_getElem? (i := 723) rfl, List.mem_of_getElem? (i := 724) rfl⟩
set_option maxRecDepth 100000 in
theorem lw_p50 : lw_okq (⟨"WindowDesk$Tree", "spans", "(III)Z"⟩, 16) := ⟨⟨by decide +kernel, by decide +kernel⟩, List.mem_of_getElem? (i := 38) rfl, List.mem_of_getElem? (i := 731) rfl, List.mem_of_getElem? (i := 732) rfl⟩
set_option maxRecDepth 100000 in
theorem lw_p51 : lw_okq (⟨"WindowDesk", "looseOnes", "(I)I"⟩, 9) := ⟨⟨by decide +kernel, by decide +kernel⟩, List.mem_of_getElem? (i := 12) rfl, List.mem_of_getElem? (i := 749) rfl, List.mem_of_getElem? (i := 750) rfl⟩
set_option maxRecDepth 100000 in
theorem lw_p52 : lw_okq (⟨"WindowDesk", "screensThere", "()I"⟩, 9) := ⟨⟨by decide +kernel, by decide +kernel⟩, List.mem_of_getElem? (i := 12) rfl, List.mem_of_getElem? (i := 767) rfl, List.mem_of_getElem? (i := 768) rfl⟩
set_option maxRecDepth 100000 in
theorem lw_p53 : lw_okq (⟨"WindowDesk", "windowsUnder", "(I)I"⟩, 9) := ⟨⟨by decide +kernel, by decide +kernel⟩, List.mem_of_getElem? (i := 12) rfl, List.mem_of_getElem? (i := 771) rfl, List.mem_of_getElem? (i := 772) rfl⟩
set_option maxRecDepth 100000 in
theorem lw_p54 : lw_okq (⟨"WindowDesk", "screensWithKept", "()I"⟩, 9) := ⟨⟨by decide +kernel, by decide +kernel⟩, List.mem_of_getElem? (i := 12) rfl, List.mem_of_getElem? (i := 775) rfl, List.mem_of_getElem? (i := 776) rfl⟩
set_option maxRecDepth 100000 in
theorem lw_p55 : lw_okq (⟨"WindowDeskModel", "clearTree", "(I)V"⟩, 33) := ⟨⟨by decide +kernel, by decide +kernel⟩, List.mem_of_getElem? (i := 779) rfl, List.mem_of_getElem? (i := 893) rfl, List.mem_of_getElem? (i := 894) rfl⟩
set_option maxRecDepth 100000 in
theorem lw_p56 : lw_okq (⟨"WindowDeskModel", "comesBack", "(I)Z"⟩, 33) := ⟨⟨by decide +kernel, by decide +kernel⟩, List.mem_of_getElem? (i := 779) rfl, List.mem_of_getElem? (i := 900) rfl, List.mem_of_getElem? (i := 901) rfl⟩
set_option maxRecDepth 100000 in
theorem lw_p57 : lw_okq (⟨"WindowDeskModel", "spread", "()V"⟩, 33) := ⟨⟨by decide +kernel, by decide +kernel⟩, List.mem_of_getElem? (i := 779) rfl, List.mem_of_getElem? (i := 904) rfl, List.mem_of_getElem? (i := 905) rfl⟩
set_option maxRecDepth 100000 in
theorem lw_p58 : lw_okq (⟨"WindowDeskModel", "fits", "(III)Z"⟩, 33) := ⟨⟨by decide +kernel, by decide +kernel⟩, List.mem_of_getElem? (i := 779) rfl, List.mem_of_getElem? (i := 908) rfl, List.mem_of_getElem? (i := 909) rfl⟩
set_option maxRecDepth 100000 in
theorem lw_p59 : lw_okq (⟨"WindowDeskModel", "least", "(IIZ)I"⟩, 33) := ⟨⟨by decide +kernel, by decide +kernel⟩, List.mem_of_getElem? (i := 779) rfl, List.mem_of_getElem? (i := 912) rfl, List.mem_of_getElem? (i := 913) rfl⟩
set_option maxRecDepth 100000 in
theorem lw_p60 : lw_okq (⟨"WindowDeskModel", "canBeWhole", "(III)Z"⟩, 33) := ⟨⟨by decide +kernel, by decide +kernel⟩, List.mem_of_getElem? (i := 779) rfl, List.mem_of_getElem? (i := 916) rfl, List.mem_of_getElem? (i := 917) rfl⟩
set_option maxRecDepth 100000 in
theorem lw_p61 : lw_okq (⟨"WindowDeskModel", "bring", "(I)I"⟩, 33) := ⟨⟨by decide +kernel, by decide +kernel⟩, List.mem_of_getElem? (i := 779) rfl, List.mem_of_getElem? (i := 920) rfl, List.mem_of_getElem? (i := 921) rfl⟩
set_option maxRecDepth 100000 in
theorem lw_p62 : lw_okq (⟨"WindowDeskModel", "clearLeaves", "(I)V"⟩, 33) := ⟨⟨by decide +kernel, by decide +kernel⟩, List.mem_of_getElem? (i := 779) rfl, List.mem_of_getElem? (i := 924) rfl, List.mem_of_getElem? (i := 925) rfl⟩
set_option maxRecDepth 100000 in
theorem lw_p63 : lw_okq (⟨"WindowDeskModel", "findLeaves", "(II)V"⟩, 33) := ⟨⟨by decide +kernel, by decide +kernel⟩, List.mem_of_getElem? (i := 779) rfl, List.mem_of_getElem? (i := 928) rfl, List.mem_of_getElem? (i := 929) rfl⟩
noncomputable def lw_privs_4 : List (MethodName × Nat) := [(⟨"WindowDesk", "tryDrag", "(III)V"⟩, 9), (⟨"WindowDesk$Window", "spans", "(II[I)Z"⟩, 6), (⟨"WindowDesk$Tree", "spans", "(III)Z"⟩, 16), (⟨"WindowDesk", "looseOnes", "(I)I"⟩, 9), (⟨"WindowDesk", "screensThere", "()I"⟩, 9), (⟨"WindowDesk", "windowsUnder", "(I)I"⟩, 9), (⟨"WindowDesk", "screensWithKept", "()I"⟩, 9), (⟨"WindowDeskModel", "clearTree", "(I)V"⟩, 33), (⟨"WindowDeskModel", "comesBack", "(I)Z"⟩, 33), (⟨"WindowDeskModel", "spread", "()V"⟩, 33), (⟨"WindowDeskModel", "fits", "(III)Z"⟩, 33), (⟨"WindowDeskModel", "least", "(IIZ)I"⟩, 33), (⟨"WindowDeskModel", "canBeWhole", "(III)Z"⟩, 33), (⟨"WindowDeskModel", "bring", "(I)I"⟩, 33), (⟨"WindowDeskModel", "clearLeaves", "(I)V"⟩, 33), (⟨"WindowDeskModel", "findLeaves", "(II)V"⟩, 33)]
theorem lw_r4 : ∀ q ∈ lw_privs_4, lw_okq q := List.forall_mem_cons.mpr ⟨lw_p48, List.forall_mem_cons.mpr ⟨lw_p49, List.forall_mem_cons.mpr ⟨lw_p50, List.forall_mem_cons.mpr ⟨lw_p51, List.forall_mem_cons.mpr ⟨lw_p52, List.forall_mem_cons.mpr ⟨lw_p53, List.forall_mem_cons.mpr ⟨lw_p54, List.forall_mem_cons.mpr ⟨lw_p55, List.forall_mem_cons.mpr ⟨lw_p56, List.forall_mem_cons.mpr ⟨lw_p57, List.forall_mem_cons.mpr ⟨lw_p58, List.forall_mem_cons.mpr ⟨lw_p59, List.forall_mem_cons.mpr ⟨lw_p60, List.forall_mem_cons.mpr ⟨lw_p61, List.forall_mem_cons.mpr ⟨lw_p62, List.forall_mem_cons.mpr ⟨lw_p63, fun _ h => absurd h List.not_mem_nil⟩⟩⟩⟩⟩⟩⟩⟩⟩⟩⟩⟩⟩⟩⟩⟩
set_option maxRecDepth 100000 in
theorem lw_p64 : lw_okq (⟨"WindowDeskModel", "leave", "(II)V"⟩, 33) := ⟨⟨by decide +kernel, by decide +kernel⟩, List.mem_of_getElem? (i := 779) rfl, List.mem_of_getElem? (i := 932) rfl, List.mem_of_getElem? (i := 933) rfl⟩
set_option maxRecDepth 100000 in
theorem lw_p65 : lw_okq (⟨"WindowDeskModel", "leafOf", "(II)I"⟩, 33) := ⟨⟨by decide +kernel, by decide +kernel⟩, List.mem_of_getElem? (i := 779) rfl, List.mem_of_getElem? (i := 936) rfl, List.mem_of_getElem? (i := 937) rfl⟩
set_option maxRecDepth 100000 in
theorem lw_p66 : lw_okq (⟨"WindowDeskModel", "placeOfTab", "(III)I"⟩, 33) := ⟨⟨by decide +kernel, by decide +kernel⟩, List.mem_of_getElem? (i := 779) rfl, List.mem_of_getElem? (i := 940) rfl, List.mem_of_getElem? (i := 941) rfl⟩
set_option maxRecDepth 100000 in
theorem lw_p67 : lw_okq (⟨"WindowDeskModel", "above", "(II)I"⟩, 33) := ⟨⟨by decide +kernel, by decide +kernel⟩, List.mem_of_getElem? (i := 779) rfl, List.mem_of_getElem? (i := 944) rfl, List.mem_of_getElem? (i := 945) rfl⟩
set_option maxRecDepth 100000 in
theorem lw_p68 : lw_okq (⟨"WindowDeskModel", "stand", "(IIII)V"⟩, 33) := ⟨⟨by decide +kernel, by decide +kernel⟩, List.mem_of_getElem? (i := 779) rfl, List.mem_of_getElem? (i := 948) rfl, List.mem_of_getElem? (i := 949) rfl⟩
set_option maxRecDepth 100000 in
theorem lw_p69 : lw_okq (⟨"WindowDeskModel", "copyTree", "(II)V"⟩, 33) := ⟨⟨by decide +kernel, by decide +kernel⟩, List.mem_of_getElem? (i := 779) rfl, List.mem_of_getElem? (i := 952) rfl, List.mem_of_getElem? (i := 953) rfl⟩
set_option maxRecDepth 100000 in
theorem lw_p70 : lw_okq (⟨"WindowDeskModel", "putAt", "(IIII)V"⟩, 33) := ⟨⟨by decide +kernel, by decide +kernel⟩, List.mem_of_getElem? (i := 779) rfl, List.mem_of_getElem? (i := 956) rfl, List.mem_of_getElem? (i := 957) rfl⟩
set_option maxRecDepth 100000 in
theorem lw_p71 : lw_okq (⟨"WindowDeskModel", "isOnScreen", "(II)Z"⟩, 33) := ⟨⟨by decide +kernel, by decide +kernel⟩, List.mem_of_getElem? (i := 779) rfl, List.mem_of_getElem? (i := 963) rfl, List.mem_of_getElem? (i := 964) rfl⟩
set_option maxRecDepth 100000 in
theorem lw_p72 : lw_okq (⟨"WindowDeskModel", "moveTabs", "(II)I"⟩, 33) := ⟨⟨by decide +kernel, by decide +kernel⟩, List.mem_of_getElem? (i := 779) rfl, List.mem_of_getElem? (i := 972) rfl, List.mem_of_getElem? (i := 973) rfl⟩
set_option maxRecDepth 100000 in
theorem lw_p73 : lw_okq (⟨"WindowDeskModel", "newLeaf", "(II)I"⟩, 33) := ⟨⟨by decide +kernel, by decide +kernel⟩, List.mem_of_getElem? (i := 779) rfl, List.mem_of_getElem? (i := 976) rfl, List.mem_of_getElem? (i := 977) rfl⟩
set_option maxRecDepth 100000 in
theorem lw_p74 : lw_okq (⟨"WindowDeskModel", "newNode", "(II)I"⟩, 33) := ⟨⟨by decide +kernel, by decide +kernel⟩, List.mem_of_getElem? (i := 779) rfl, List.mem_of_getElem? (i := 980) rfl, List.mem_of_getElem? (i := 981) rfl⟩
set_option maxRecDepth 100000 in
theorem lw_p75 : lw_okq (⟨"WindowDeskModel", "addTab", "(III)V"⟩, 33) := ⟨⟨by decide +kernel, by decide +kernel⟩, List.mem_of_getElem? (i := 779) rfl, List.mem_of_getElem? (i := 984) rfl, List.mem_of_getElem? (i := 985) rfl⟩
set_option maxRecDepth 100000 in
theorem lw_p76 : lw_okq (⟨"WindowDeskModel", "isWindow", "(I)Z"⟩, 33) := ⟨⟨by decide +kernel, by decide +kernel⟩, List.mem_of_getElem? (i := 779) rfl, List.mem_of_getElem? (i := 992) rfl, List.mem_of_getElem? (i := 993) rfl⟩
set_option maxRecDepth 100000 in
theorem lw_p77 : lw_okq (⟨"WindowDeskModel", "freeNumber", "()I"⟩, 33) := ⟨⟨by decide +kernel, by decide +kernel⟩, List.mem_of_getElem? (i := 779) rfl, List.mem_of_getElem? (i := 996) rfl, List.mem_of_getElem? (i := 997) rfl⟩
set_option maxRecDepth 100000 in
theorem lw_p78 : lw_okq (⟨"WindowDeskModel", "screenAtHand", "()I"⟩, 33) := ⟨⟨by decide +kernel, by decide +kernel⟩, List.mem_of_getElem? (i := 779) rfl, List.mem_of_getElem? (i := 1001) rfl, List.mem_of_getElem? (i := 1002) rfl⟩
set_option maxRecDepth 100000 in
theorem lw_p79 : lw_okq (⟨"WindowDeskModel", "tile", "(II)Z"⟩, 33) := ⟨⟨by decide +kernel, by decide +kernel⟩, List.mem_of_getElem? (i := 779) rfl, List.mem_of_getElem? (i := 1005) rfl, List.mem_of_getElem? (i := 1006) rfl⟩
noncomputable def lw_privs_5 : List (MethodName × Nat) := [(⟨"WindowDeskModel", "leave", "(II)V"⟩, 33), (⟨"WindowDeskModel", "leafOf", "(II)I"⟩, 33), (⟨"WindowDeskModel", "placeOfTab", "(III)I"⟩, 33), (⟨"WindowDeskModel", "above", "(II)I"⟩, 33), (⟨"WindowDeskModel", "stand", "(IIII)V"⟩, 33), (⟨"WindowDeskModel", "copyTree", "(II)V"⟩, 33), (⟨"WindowDeskModel", "putAt", "(IIII)V"⟩, 33), (⟨"WindowDeskModel", "isOnScreen", "(II)Z"⟩, 33), (⟨"WindowDeskModel", "moveTabs", "(II)I"⟩, 33), (⟨"WindowDeskModel", "newLeaf", "(II)I"⟩, 33), (⟨"WindowDeskModel", "newNode", "(II)I"⟩, 33), (⟨"WindowDeskModel", "addTab", "(III)V"⟩, 33), (⟨"WindowDeskModel", "isWindow", "(I)Z"⟩, 33), (⟨"WindowDeskModel", "freeNumber", "()I"⟩, 33), (⟨"WindowDeskModel", "screenAtHand", "()I"⟩, 33), (⟨"WindowDeskModel", "tile", "(II)Z"⟩, 33)]
theorem lw_r5 : ∀ q ∈ lw_privs_5, lw_okq q := List.forall_mem_cons.mpr ⟨lw_p64, List.forall_mem_cons.mpr ⟨lw_p65, List.forall_mem_cons.mpr ⟨lw_p66, List.forall_mem_cons.mpr ⟨lw_p67, List.forall_mem_cons.mpr ⟨lw_p68, List.forall_mem_cons.mpr ⟨lw_p69, List.forall_mem_cons.mpr ⟨lw_p70, List.forall_mem_cons.mpr ⟨lw_p71, List.forall_mem_cons.mpr ⟨lw_p72, List.forall_mem_cons.mpr ⟨lw_p73, List.forall_mem_cons.mpr ⟨lw_p74, List.forall_mem_cons.mpr ⟨lw_p75, List.forall_mem_cons.mpr ⟨lw_p76, List.forall_mem_cons.mpr ⟨lw_p77, List.forall_mem_cons.mpr ⟨lw_p78, List.forall_mem_cons.mpr ⟨lw_p79, fun _ h => absurd h List.not_mem_nil⟩⟩⟩⟩⟩⟩⟩⟩⟩⟩⟩⟩⟩⟩⟩⟩
set_option maxRecDepth 100000 in
theorem lw_p80 : lw_okq (⟨"WindowDeskModel", "takesTrial", "(I)Z"⟩, 33) := ⟨⟨by decide +kernel, by decide +kernel⟩, List.mem_of_getElem? (i := 779) rfl, List.mem_of_getElem? (i := 1009) rfl, List.mem_of_getElem? (i := 1010) rfl⟩
set_option maxRecDepth 100000 in
theorem lw_p81 : lw_okq (⟨"WindowDeskModel", "layAll", "(I)V"⟩, 33) := ⟨⟨by decide +kernel, by decide +kernel⟩, List.mem_of_getElem? (i := 779) rfl, List.mem_of_getElem? (i := 1013) rfl, List.mem_of_getElem? (i := 1014) rfl⟩
set_option maxRecDepth 100000 in
theorem lw_p82 : lw_okq (⟨"WindowDeskModel", "lay", "(IIIIII)V"⟩, 33) := ⟨⟨by decide +kernel, by decide +kernel⟩, List.mem_of_getElem? (i := 779) rfl, List.mem_of_getElem? (i := 1017) rfl, List.mem_of_getElem? (i := 1018) rfl⟩
set_option maxRecDepth 100000 in
theorem lw_p83 : lw_okq (⟨"WindowDeskModel", "cutLeaf", "(IIIIZ)V"⟩, 33) := ⟨⟨by decide +kernel, by decide +kernel⟩, List.mem_of_getElem? (i := 779) rfl, List.mem_of_getElem? (i := 1021) rfl, List.mem_of_getElem? (i := 1022) rfl⟩
set_option maxRecDepth 100000 in
theorem lw_p84 : lw_okq (⟨"WindowDeskModel", "areaOf", "(II)I"⟩, 33) := ⟨⟨by decide +kernel, by decide +kernel⟩, List.mem_of_getElem? (i := 779) rfl, List.mem_of_getElem? (i := 1025) rfl, List.mem_of_getElem? (i := 1026) rfl⟩
set_option maxRecDepth 100000 in
theorem lw_p85 : lw_okq (⟨"WindowDeskModel", "isFloating", "(I)Z"⟩, 33) := ⟨⟨by decide +kernel, by decide +kernel⟩, List.mem_of_getElem? (i := 779) rfl, List.mem_of_getElem? (i := 1030) rfl, List.mem_of_getElem? (i := 1031) rfl⟩
set_option maxRecDepth 100000 in
theorem lw_p86 : lw_okq (⟨"WindowDeskModel", "focused", "(I)V"⟩, 33) := ⟨⟨by decide +kernel, by decide +kernel⟩, List.mem_of_getElem? (i := 779) rfl, List.mem_of_getElem? (i := 1037) rfl, List.mem_of_getElem? (i := 1038) rfl⟩
set_option maxRecDepth 100000 in
theorem lw_p87 : lw_okq (⟨"WindowDeskModel", "front", "(I)V"⟩, 33) := ⟨⟨by decide +kernel, by decide +kernel⟩, List.mem_of_getElem? (i := 779) rfl, List.mem_of_getElem? (i := 1041) rfl, List.mem_of_getElem? (i := 1042) rfl⟩
set_option maxRecDepth 100000 in
theorem lw_p88 : lw_okq (⟨"WindowDeskModel", "raise", "(I)V"⟩, 33) := ⟨⟨by decide +kernel, by decide +kernel⟩, List.mem_of_getElem? (i := 779) rfl, List.mem_of_getElem? (i := 1045) rfl, List.mem_of_getElem? (i := 1046) rfl⟩
set_option maxRecDepth 100000 in
theorem lw_p89 : lw_okq (⟨"WindowDeskModel", "unstack", "(I)V"⟩, 33) := ⟨⟨by decide +kernel, by decide +kernel⟩, List.mem_of_getElem? (i := 779) rfl, List.mem_of_getElem? (i := 1049) rfl, List.mem_of_getElem? (i := 1050) rfl⟩
set_option maxRecDepth 100000 in
theorem lw_p90 : lw_okq (⟨"WindowDeskModel", "closed", "(I)I"⟩, 33) := ⟨⟨by decide +kernel, by decide +kernel⟩, List.mem_of_getElem? (i := 779) rfl, List.mem_of_getElem? (i := 1058) rfl, List.mem_of_getElem? (i := 1059) rfl⟩
set_option maxRecDepth 100000 in
theorem lw_p91 : lw_okq (⟨"WindowDeskModel", "forget", "(I)V"⟩, 33) := ⟨⟨by decide +kernel, by decide +kernel⟩, List.mem_of_getElem? (i := 779) rfl, List.mem_of_getElem? (i := 1062) rfl, List.mem_of_getElem? (i := 1063) rfl⟩
set_option maxRecDepth 100000 in
theorem lw_p92 : lw_okq (⟨"WindowDeskModel", "isShown", "(I)Z"⟩, 33) := ⟨⟨by decide +kernel, by decide +kernel⟩, List.mem_of_getElem? (i := 779) rfl, List.mem_of_getElem? (i := 1078) rfl, List.mem_of_getElem? (i := 1079) rfl⟩
set_option maxRecDepth 100000 in
theorem lw_p93 : lw_okq (⟨"WindowDeskModel", "neighbourOf", "(II)I"⟩, 33) := ⟨⟨by decide +kernel, by decide +kernel⟩, List.mem_of_getElem? (i := 779) rfl, List.mem_of_getElem? (i := 1082) rfl, List.mem_of_getElem? (i := 1083) rfl⟩
set_option maxRecDepth 100000 in
theorem lw_p94 : lw_okq (⟨"WindowDeskModel", "lies", "(IIII)Z"⟩, 33) := ⟨⟨by decide +kernel, by decide +kernel⟩, List.mem_of_getElem? (i := 779) rfl, List.mem_of_getElem? (i := 1124) rfl, List.mem_of_getElem? (i := 1125) rfl⟩
noncomputable def lw_privs_6 : List (MethodName × Nat) := [(⟨"WindowDeskModel", "takesTrial", "(I)Z"⟩, 33), (⟨"WindowDeskModel", "layAll", "(I)V"⟩, 33), (⟨"WindowDeskModel", "lay", "(IIIIII)V"⟩, 33), (⟨"WindowDeskModel", "cutLeaf", "(IIIIZ)V"⟩, 33), (⟨"WindowDeskModel", "areaOf", "(II)I"⟩, 33), (⟨"WindowDeskModel", "isFloating", "(I)Z"⟩, 33), (⟨"WindowDeskModel", "focused", "(I)V"⟩, 33), (⟨"WindowDeskModel", "front", "(I)V"⟩, 33), (⟨"WindowDeskModel", "raise", "(I)V"⟩, 33), (⟨"WindowDeskModel", "unstack", "(I)V"⟩, 33), (⟨"WindowDeskModel", "closed", "(I)I"⟩, 33), (⟨"WindowDeskModel", "forget", "(I)V"⟩, 33), (⟨"WindowDeskModel", "isShown", "(I)Z"⟩, 33), (⟨"WindowDeskModel", "neighbourOf", "(II)I"⟩, 33), (⟨"WindowDeskModel", "lies", "(IIII)Z"⟩, 33)]
theorem lw_r6 : ∀ q ∈ lw_privs_6, lw_okq q := List.forall_mem_cons.mpr ⟨lw_p80, List.forall_mem_cons.mpr ⟨lw_p81, List.forall_mem_cons.mpr ⟨lw_p82, List.forall_mem_cons.mpr ⟨lw_p83, List.forall_mem_cons.mpr ⟨lw_p84, List.forall_mem_cons.mpr ⟨lw_p85, List.forall_mem_cons.mpr ⟨lw_p86, List.forall_mem_cons.mpr ⟨lw_p87, List.forall_mem_cons.mpr ⟨lw_p88, List.forall_mem_cons.mpr ⟨lw_p89, List.forall_mem_cons.mpr ⟨lw_p90, List.forall_mem_cons.mpr ⟨lw_p91, List.forall_mem_cons.mpr ⟨lw_p92, List.forall_mem_cons.mpr ⟨lw_p93, List.forall_mem_cons.mpr ⟨lw_p94, fun _ h => absurd h List.not_mem_nil⟩⟩⟩⟩⟩⟩⟩⟩⟩⟩⟩⟩⟩⟩⟩
noncomputable def lw_privs : List (MethodName × Nat) := lw_privs_1 ++ (lw_privs_2 ++ (lw_privs_3 ++ (lw_privs_4 ++ (lw_privs_5 ++ (lw_privs_6)))))
noncomputable def lw_tbl : List Cond := k2_sels lw_privs ++ tables_1
theorem lw_privs_ok : ∀ q ∈ lw_privs, lw_okq q := by
  show ∀ q ∈ lw_privs_1 ++ (lw_privs_2 ++ (lw_privs_3 ++ (lw_privs_4 ++ (lw_privs_5 ++ (lw_privs_6))))), lw_okq q
  exact List.forall_mem_append.mpr ⟨lw_r1, List.forall_mem_append.mpr ⟨lw_r2, List.forall_mem_append.mpr ⟨lw_r3, List.forall_mem_append.mpr ⟨lw_r4, List.forall_mem_append.mpr ⟨lw_r5, lw_r6⟩⟩⟩⟩⟩
noncomputable def va_AOA (ty : FieldType) (U : State) : Prop := (Cond.arrayOver (.array ty)).before #[] U = true
theorem va_AOA.use {ty : FieldType} {A : Array Value} {U : State} (h : va_AOA ty U) : (Cond.arrayOver (.array ty)).before A U = true := h
/-! ===== BEGIN words of one list among another's, by their places ===== -/
theorem goodIn_r {big : List Cond} (ws : List Cond) (ps : List Nat) (hp : ws = ps.filterMap (fun i => big[i]?)) (h : ws.all goodWord = true) : GoodIn big ws := by
  intro w hw
  have h1 := List.all_eq_true.mp h w hw
  rw [hp] at hw
  obtain ⟨i, -, hi⟩ := List.mem_filterMap.mp hw
  have hm : w ∈ big := by first | exact List.mem_of_getElem? hi | exact List.getElem?_mem hi
  exact ⟨hm, good_of_word h1⟩
theorem goodIn_app {big a b : List Cond} (ha : GoodIn big a) (hb : GoodIn big b) : GoodIn big (a ++ b) := fun w h => (List.mem_append.mp h).elim (ha w) (hb w)
theorem goodIn_ca {big a b : List Cond} {c : Cond} (ha : GoodIn big (c :: a)) (hb : GoodIn big b) : GoodIn big (c :: (a ++ b)) := fun w h => (List.mem_cons.mp h).elim (fun e => ha w (List.mem_cons.mpr (Or.inl e))) (fun h => (List.mem_append.mp h).elim (fun h => ha w (List.mem_cons.mpr (Or.inr h))) (hb w))
theorem goodIn_sub {big ws : List Cond} (hm : ∀ w ∈ ws, w ∈ big) (h : ws.all goodWord = true) : GoodIn big ws := fun w hw => ⟨hm w hw, good_of_word (List.all_eq_true.mp h w hw)⟩
/-! ===== END ===== -/

/-! ===== BEGIN new T[n][m]: the outer array a place, the inner ones among the pooled ===== -/
/-- f, but v at every address of l -/
noncomputable def vr_up {α : Type} (f : Nat → α) (l : List Nat) (v : α) : Nat → α := fun a => if a ∈ l then v else f a
theorem vr_up_in {α : Type} {f : Nat → α} {l : List Nat} {v : α} {a : Nat} (h : a ∈ l) : vr_up f l v a = v := if_pos h
theorem vr_up_ne {α : Type} {f : Nat → α} {l : List Nat} {v : α} {a : Nat} (h : a ∉ l) : vr_up f l v a = f a := if_neg h
theorem vr_rows {L l : List Nat} {f : Nat → va_E} {e : va_E} (h : ∀ a, a ∈ l → a ∉ L) : va_pl L f ++ l.map (fun a => (a, e)) = va_pl (L ++ l) (vr_up f l e) := by
  unfold va_pl
  rw [List.map_append]
  congr 1
  · apply List.map_congr_left
    intro a ha
    rw [vr_up_ne (fun q => h a q ha)]
  · apply List.map_congr_left
    intro a ha
    rw [vr_up_in ha]
theorem vr_lay {X rows : va_W} {x : Nat × va_E} {pl : va_W} {D : va_G} {cl : List vw_C} {H : Heap} (hP : va_P D cl (((X ++ pl) ++ [x]) ++ rows) H) : va_P D cl ((X ++ [x]) ++ (pl ++ rows)) H := by
  rw [List.append_assoc (X ++ pl)] at hP
  have h := va_P.swap hP
  rw [← List.append_assoc X] at h
  have h2 := va_P.swap h
  rw [List.append_assoc (X ++ [x])] at h2
  exact h2
theorem vr_layD {X rows : va_W} {x : Nat × va_E} {pl : va_W} {A : Nat → Prop} (hD : va_D A (((X ++ pl) ++ [x]) ++ rows)) : va_D A ((X ++ [x]) ++ (pl ++ rows)) := by
  rw [List.append_assoc (X ++ pl)] at hD
  have h := va_D.swap hD
  rw [← List.append_assoc X] at h
  have h2 := va_D.swap h
  rw [List.append_assoc (X ++ [x])] at h2
  exact h2
theorem vr_outer (c : ClassId) (N h0 : Nat) : ∀ i : Nat, Jvm.Free.Multi.outerC c N h0 i = arrV c N (fun j => va_rf (if j < i then some (h0 + 1 + j) else none))
  | 0 => by
    show ({ cls := c, slots := Array.replicate N .null, vm := .none } : Cell) = _
    rw [arrV_new]
    refine congrArg (arrV c N) (funext fun j => ?_)
    simp [va_rf]
  | i + 1 => by
    show (Jvm.Free.Multi.outerC c N h0 i).setSlot i (.ref (h0 + 1 + i)) = _
    rw [vr_outer c N h0 i, arrV_store]
    refine congrArg (arrV c N) (funext fun j => ?_)
    by_cases e : j = i
    · subst e
      simp [updV, va_rf]
    · by_cases h : j < i
      · simp [updV, e, h, Nat.lt_succ_of_lt h]
      · simp [updV, e, h, show ¬ j < i + 1 by omega]
section VGM
variable {p : Program} {l : Launch} {e : Env} {R : Room} {s : State} {m : MethodId} {args : Array Value} {below : List Frame} {meth : Method} {c : Code} {H : Heap} {locs : List Loc} {cells slots : Nat} {Q : State → Prop}
variable {cc : ByteArray} {pc : Nat} {ls : Array Slot} {rest : List Value} {D : va_G} {cl : List vw_C} {A : Nat → Prop} {a : Nat} {tys : List (ClassId × FieldType)} {ws : va_W} {H0 : Heap}
theorem va_mna {X : va_W} {L : List Nat} {f : Nat → va_E} {cc : ByteArray} (hexec : p.tables.exec = Jvm.exec) (hb : c.code = cc) {own : String} {index : Nat} {ty : FieldType} {cy : ClassId} (hown : s.vm.findClass own = some m.cls) (hclink : (Cond.classLink own index ("[" ++ (FieldType.array ty).toString)).before args s = true) (hover : va_AOA ty s) (harr : (Cond.arrayClass ty).before args s = true) (hcy : s.vm.findClass (FieldType.array ty).toString = some cy)
    (hK : va_K D cl tys s) (hP : va_P D cl (X ++ va_pl L f) H) (hD : va_D A (X ++ va_pl L f)) (hS : va_S A H0 H locs) (hA : ∀ q, H0.size ≤ q → A q) {n k : Int32} {N' K' : Nat} {z : vp_A} (hn : ¬ n < 0) (hk : ¬ k < 0) (hN : n.toNatClampNeg = N') (hM : k.toNatClampNeg = K')
    (hb1 : N' * 4 ≤ 536870912) (hb2 : K' * componentBytes ty ≤ 536870912) (hb3 : K' ≤ 536870912) (hdf : fits ty (defaultValue ty) = true) (hdd : (defaultValue ty).isDefault = true) (hcells : cells + (1 + N') ≤ R.cells) (hslots : slots + (N' + N' * K') ≤ R.slots) (hz : ∀ c : ClassId, Jvm.Free.Multi.innerC c K' (defaultValue ty) = vp_cell c z) (hdg : decode cc pc = .ok (.multianewarray index 2, 4))
    (kk : ∀ (q : Nat) (r : Nat → Nat) (cA : ClassId) (H1 : Heap), (∀ i j : Nat, i < N' → j < N' → r i = r j → i = j) → (∀ i : Nat, i < N' → r i ∉ L) → va_K D cl (tys ++ [(cA, .array ty)]) s →
      va_P D cl ((X ++ [(q, .inl (cA, N', .inr (.inr (.inr (.inr (fun i => if i < N' then some (r i) else none))))))]) ++ va_pl (L ++ (List.range N').map r) (vr_up f ((List.range N').map r) (.inl (cy, z)))) H1 → va_D A ((X ++ [(q, .inl (cA, N', .inr (.inr (.inr (.inr (fun i => if i < N' then some (r i) else none))))))]) ++ va_pl (L ++ (List.range N').map r) (vr_up f ((List.range N').map r) (.inl (cy, z)))) → va_S A H0 H1 locs →
      W p l e R s m args below meth c H1 locs (cells + 1 + N') (slots + N' + N' * K') Q (F0 m (pc + 4) ls (.ref q :: rest))) : W p l e R s m args below meth c H locs cells slots Q (F0 m pc ls (.int k :: .int n :: rest)) := by
  subst hN
  subst hM
  intro T hT Xs
  obtain ⟨vm₁, cA, comp, -, fA, fC, hO, -, X', step⟩ := Xs.multianewarray2F hexec hown hclink (va_AOA.use hover) harr (g := F0 m pc ls (.int k :: .int n :: rest)) rfl (by rw [hb]; exact hdg) rfl hn hk hb1 hb2 hb3 hdf hdd hcells hslots
  have ec : some cy = some comp := hcy.symm.trans fC
  cases ec
  generalize hF : Jvm.Free.Multi.fill (T.setVm vm₁) cA cy n.toNatClampNeg k.toNatClampNeg (defaultValue ty) n.toNatClampNeg = F at X' step
  have hTh : (T.setVm vm₁).heap = H := hT
  obtain ⟨f1, f2, -, -⟩ := Jvm.Free.Multi.fill_facts (T.setVm vm₁) cA cy n.toNatClampNeg k.toNatClampNeg (defaultValue ty) n.toNatClampNeg
  rw [hF, hTh] at f1 f2
  have hold : ∀ x : Nat, x < H.size → F.heap[x]? = H[x]? := fun x hx => by
    have := Jvm.Free.Multi.fill_old (T.setVm vm₁) cA cy n.toNatClampNeg k.toNatClampNeg (defaultValue ty) (a := x) (by rw [hTh]; exact hx) n.toNatClampNeg
    rw [hF, hTh] at this
    exact this
  have hrow : ∀ j : Nat, j < n.toNatClampNeg → F.heap[H.size + 1 + j]? = some (vp_cell cy z) := fun j hj => by
    have := Jvm.Free.Multi.fill_inner (T.setVm vm₁) cA cy n.toNatClampNeg k.toNatClampNeg (defaultValue ty) n.toNatClampNeg j hj
    rw [hF, hTh, hz] at this
    exact this
  have hout : Jvm.Free.Multi.outerC cA n.toNatClampNeg H.size n.toNatClampNeg = vp_cell cA (n.toNatClampNeg, .inr (.inr (.inr (.inr (fun i => if i < n.toNatClampNeg then some (H.size + 1 + i) else none))))) := by
    rw [vp_cell_q]
    exact vr_outer cA n.toNatClampNeg H.size n.toNatClampNeg
  rw [hout] at f2
  have hlt : ∀ a, a ∈ L → a < H.size := fun a ha => by
    obtain ⟨k9, hk9⟩ := va_pl_get (X := X) (f := f) ha
    exact (hP k9 _ hk9).lt
  have hnl : ∀ i : Nat, i < n.toNatClampNeg → H.size + 1 + i ∉ L := fun i _ h => by
    have := hlt _ h
    omega
  have hnm : ∀ a, a ∈ (List.range n.toNatClampNeg).map (fun i => H.size + 1 + i) → a ∉ L := fun a ha h => by
    obtain ⟨i, -, rfl⟩ := List.mem_map.mp ha
    have := hlt _ h
    omega
  have hP0 : va_P D cl (X ++ va_pl L f) F.heap := hP.kept (fun k9 x hx => hold x.1 ((hP k9 x hx).lt))
  have hP1 : va_P D cl ((X ++ va_pl L f) ++ [(H.size, .inl (cA, n.toNatClampNeg, .inr (.inr (.inr (.inr (fun i => if i < n.toNatClampNeg then some (H.size + 1 + i) else none))))))]) F.heap := hP0.app (fun k9 x hx => by
    have h0 : k9 < 1 := (List.getElem?_eq_some_iff.mp hx).1
    rw [show k9 = 0 by omega] at hx
    cases hx
    exact f2)
  have hP2 : va_P D cl (((X ++ va_pl L f) ++ [(H.size, .inl (cA, n.toNatClampNeg, .inr (.inr (.inr (.inr (fun i => if i < n.toNatClampNeg then some (H.size + 1 + i) else none))))))]) ++ ((List.range n.toNatClampNeg).map (fun i => H.size + 1 + i)).map (fun a => (a, .inl (cy, z)))) F.heap := hP1.app (fun k9 x hx => by
    obtain ⟨a, ha, rfl⟩ := List.mem_map.mp (List.mem_of_getElem? hx)
    obtain ⟨i, hi, rfl⟩ := List.mem_map.mp ha
    exact hrow i (List.mem_range.mp hi))
  have hD2 : va_D A (((X ++ va_pl L f) ++ [(H.size, .inl (cA, n.toNatClampNeg, .inr (.inr (.inr (.inr (fun i => if i < n.toNatClampNeg then some (H.size + 1 + i) else none))))))]) ++ ((List.range n.toNatClampNeg).map (fun i => H.size + 1 + i)).map (fun a => (a, .inl (cy, z)))) := by
    have hD1 := hD.push (e := .inl (cA, n.toNatClampNeg, .inr (.inr (.inr (.inr (fun i => if i < n.toNatClampNeg then some (H.size + 1 + i) else none)))))) hP rfl (hA _ hS.1)
    generalize hW1 : (X ++ va_pl L f) ++ [(H.size, .inl (cA, n.toNatClampNeg, .inr (.inr (.inr (.inr (fun i => if i < n.toNatClampNeg then some (H.size + 1 + i) else none))))))] = W1 at hD1 hP1 ⊢
    have hle : ∀ (k9 : Nat) (x : Nat × va_E), W1[k9]? = some x → x.1 ≤ H.size := fun k9 x hx => by
      rw [← hW1] at hx
      by_cases hl : k9 < (X ++ va_pl L f).length
      · rw [List.getElem?_append_left hl] at hx
        exact Nat.le_of_lt ((hP k9 x hx).lt)
      · rw [List.getElem?_append_right (by omega)] at hx
        have h0 : k9 - (X ++ va_pl L f).length < 1 := (List.getElem?_eq_some_iff.mp hx).1
        rw [show k9 - (X ++ va_pl L f).length = 0 by omega] at hx
        cases hx
        exact Nat.le_refl _
    have hr : ∀ (k9 : Nat) (x : Nat × va_E), (((List.range n.toNatClampNeg).map (fun i => H.size + 1 + i)).map (fun a => ((a, .inl (cy, z)) : Nat × va_E)))[k9]? = some x → x.1 = H.size + 1 + k9 := fun k9 x hx => by
      rw [List.getElem?_map, List.getElem?_map] at hx
      by_cases h9 : k9 < n.toNatClampNeg
      · rw [List.getElem?_range h9] at hx
        cases hx
        rfl
      · have hn0 : (List.range n.toNatClampNeg)[k9]? = none := List.getElem?_eq_none (by rw [List.length_range]; omega)
        rw [hn0] at hx
        cases hx
    refine ⟨fun i j x y hi hj hxy => ?_, fun k9 x hx => ?_⟩
    · by_cases h1 : i < W1.length <;> by_cases h2 : j < W1.length
      · rw [List.getElem?_append_left h1] at hi
        rw [List.getElem?_append_left h2] at hj
        exact hD1.1 i j x y hi hj hxy
      · rw [List.getElem?_append_left h1] at hi
        rw [List.getElem?_append_right (by omega)] at hj
        have := hle _ _ hi
        have := hr _ _ hj
        omega
      · rw [List.getElem?_append_right (by omega)] at hi
        rw [List.getElem?_append_left h2] at hj
        have := hle _ _ hj
        have := hr _ _ hi
        omega
      · rw [List.getElem?_append_right (by omega)] at hi hj
        have := hr _ _ hi
        have := hr _ _ hj
        omega
    · by_cases h1 : k9 < W1.length
      · rw [List.getElem?_append_left h1] at hx
        exact hD1.2 k9 x hx
      · rw [List.getElem?_append_right (by omega)] at hx
        have := hr _ _ hx
        exact hA _ (by have := hS.1; omega)
  have hAr : ArrOfT s cA (.array ty) := fun N9 z9 => by
    obtain ⟨-, k9, hk9, cm9, hkk9⟩ := (hO 0 0 0).1
    exact ⟨(fun q hq => by cases hq), k9, hk9, cm9, hkk9⟩
  have hK2 : va_K D cl (tys ++ [(cA, .array ty)]) s := ⟨hK.1, fun k9 x hx => by
    by_cases hl : k9 < tys.length
    · rw [List.getElem?_append_left hl] at hx
      exact hK.2 k9 x hx
    · rw [List.getElem?_append_right (by omega)] at hx
      have h0 : k9 - tys.length < 1 := (List.getElem?_eq_some_iff.mp hx).1
      rw [show k9 - tys.length = 0 by omega] at hx
      cases hx
      exact ⟨hAr, fA⟩⟩
  obtain ⟨t, a1, b1⟩ := kk H.size (fun i => H.size + 1 + i) cA F.heap (fun i j _ _ h => by have h9 : H.size + 1 + i = H.size + 1 + j := h; omega) hnl hK2 (by rw [← vr_rows hnm]; exact vr_lay hP2) (by rw [← vr_rows hnm]; exact vr_layD hD2) ⟨by rw [f1]; have := hS.1; omega, fun x h1 h2 => (hold x (Nat.lt_of_lt_of_le h1 hS.1)).trans (hS.2.1 x h1 h2), hS.2.2⟩ F rfl X'
  refine ⟨t, step t ?_, b1⟩
  have e : T.heap.size = H.size := by rw [hT]
  rw [e]
  exact a1
end VGM
/-! ===== END ===== -/

noncomputable def RX0 : String := "WindowDesk$Kept"
noncomputable def TX0 : u_T := fun k => match k with
  | 0 => ("WindowDesk$Kept", "tree", "LWindowDesk$Tree;", true)
  | 1 => ("WindowDesk$Kept", "places", "[[I", true)
  | 2 => ("WindowDesk$Kept", "placed", "[Z", true)
  | _ => ("WindowDesk$Kept", "there", "Z", false)
noncomputable def tyX0 : Nat → FieldType := fun k => match k with
  | 0 => .object "WindowDesk$Tree"
  | 1 => .array (.array .int)
  | 2 => .array .boolean
  | _ => .boolean
noncomputable abbrev wsX00 : List Cond := u_ws RX0 TX0 4
theorem nmX0 : ∀ a, a < 4 → ∀ b, b < 4 → a ≠ b → (TX0 a).2.1 ≠ (TX0 b).2.1 := by decide +kernel
theorem tyX0_ok : ∀ k, k < 4 → parseFieldDescriptor (TX0 k).2.2.1 = some (tyX0 k) := by decide +kernel
noncomputable abbrev cX0_init : ByteArray := prog_2_method_1_code
noncomputable def yX0_init : MethodName := ⟨RX0, "<init>", "()V"⟩
noncomputable abbrev cX0_has : ByteArray := prog_2_method_2_code
noncomputable def yX0_has : MethodName := ⟨RX0, "has", "(I)Z"⟩
noncomputable abbrev cX0_keepPlace : ByteArray := prog_2_method_3_code
noncomputable def yX0_keepPlace : MethodName := ⟨RX0, "keepPlace", "(IZ[I)V"⟩
noncomputable abbrev cX0_forget : ByteArray := prog_2_method_4_code
noncomputable def yX0_forget : MethodName := ⟨RX0, "forget", "()V"⟩
noncomputable def RX1 : String := "WindowDesk$Row"
noncomputable def TX1 : u_T := fun k => match k with
  | 0 => ("WindowDesk$Row", "items", "[I", true)
  | _ => ("WindowDesk$Row", "size", "I", false)
noncomputable def tyX1 : Nat → FieldType := fun k => match k with
  | 0 => .array .int
  | _ => .int
noncomputable abbrev wsX10 : List Cond := u_ws RX1 TX1 2
theorem nmX1 : ∀ a, a < 2 → ∀ b, b < 2 → a ≠ b → (TX1 a).2.1 ≠ (TX1 b).2.1 := by decide +kernel
theorem tyX1_ok : ∀ k, k < 2 → parseFieldDescriptor (TX1 k).2.2.1 = some (tyX1 k) := by decide +kernel
noncomputable abbrev cX1_init : ByteArray := prog_3_method_1_code
noncomputable def yX1_init : MethodName := ⟨RX1, "<init>", "()V"⟩
noncomputable abbrev cX1_size : ByteArray := prog_3_method_2_code
noncomputable def yX1_size : MethodName := ⟨RX1, "size", "()I"⟩
noncomputable abbrev cX1_get : ByteArray := prog_3_method_3_code
noncomputable def yX1_get : MethodName := ⟨RX1, "get", "(I)I"⟩
noncomputable abbrev cX1_placeOf : ByteArray := prog_3_method_4_code
noncomputable def yX1_placeOf : MethodName := ⟨RX1, "placeOf", "(I)I"⟩
noncomputable abbrev cX1_clear : ByteArray := prog_3_method_5_code
noncomputable def yX1_clear : MethodName := ⟨RX1, "clear", "()V"⟩
noncomputable abbrev cX1_append : ByteArray := prog_3_method_6_code
noncomputable def yX1_append : MethodName := ⟨RX1, "append", "(I)V"⟩
noncomputable abbrev cX1_takeOut : ByteArray := prog_3_method_7_code
noncomputable def yX1_takeOut : MethodName := ⟨RX1, "takeOut", "(I)V"⟩
noncomputable abbrev cX1_putLast : ByteArray := prog_3_method_8_code
noncomputable def yX1_putLast : MethodName := ⟨RX1, "putLast", "(I)V"⟩
noncomputable abbrev cX1_putFirst : ByteArray := prog_3_method_9_code
noncomputable def yX1_putFirst : MethodName := ⟨RX1, "putFirst", "(I)V"⟩
noncomputable abbrev cX1_copyFrom : ByteArray := prog_3_method_10_code
noncomputable def yX1_copyFrom : MethodName := ⟨RX1, "copyFrom", "(LWindowDesk$Row;)V"⟩
noncomputable def RX2 : String := "WindowDesk$Screen"
noncomputable def TX2 : u_T := fun k => match k with
  | 0 => ("WindowDesk$Screen", "size", "[I", true)
  | 1 => ("WindowDesk$Screen", "tree", "LWindowDesk$Tree;", true)
  | 2 => ("WindowDesk$Screen", "kept", "LWindowDesk$Kept;", true)
  | _ => ("WindowDesk$Screen", "there", "Z", false)
noncomputable def tyX2 : Nat → FieldType := fun k => match k with
  | 0 => .array .int
  | 1 => .object "WindowDesk$Tree"
  | 2 => .object "WindowDesk$Kept"
  | _ => .boolean
noncomputable abbrev wsX20 : List Cond := u_ws RX2 TX2 4
theorem nmX2 : ∀ a, a < 4 → ∀ b, b < 4 → a ≠ b → (TX2 a).2.1 ≠ (TX2 b).2.1 := by decide +kernel
theorem tyX2_ok : ∀ k, k < 4 → parseFieldDescriptor (TX2 k).2.2.1 = some (tyX2 k) := by decide +kernel
noncomputable abbrev cX2_init : ByteArray := prog_4_method_1_code
noncomputable def yX2_init : MethodName := ⟨RX2, "<init>", "()V"⟩
noncomputable abbrev cX2_setSize : ByteArray := prog_4_method_2_code
noncomputable def yX2_setSize : MethodName := ⟨RX2, "setSize", "([I)V"⟩
noncomputable def RX3 : String := "WindowDesk$Tree"
noncomputable def TX3 : u_T := fun k => match k with
  | 0 => ("WindowDesk$Tree", "tabs", "LWindowDesk$Row;", true)
  | 1 => ("WindowDesk$Tree", "homes", "[I", true)
  | 2 => ("WindowDesk$Tree", "tabLeast", "[[I", true)
  | 3 => ("WindowDesk$Tree", "forms", "[I", true)
  | 4 => ("WindowDesk$Tree", "shares", "[I", true)
  | 5 => ("WindowDesk$Tree", "firsts", "[I", true)
  | 6 => ("WindowDesk$Tree", "seconds", "[I", true)
  | 7 => ("WindowDesk$Tree", "aboves", "[I", true)
  | 8 => ("WindowDesk$Tree", "shown", "[I", true)
  | 9 => ("WindowDesk$Tree", "root", "I", false)
  | 10 => ("WindowDesk$Tree", "order", "[I", true)
  | 11 => ("WindowDesk$Tree", "waiting", "[I", true)
  | 12 => ("WindowDesk$Tree", "nodes", "I", false)
  | 13 => ("WindowDesk$Tree", "least", "[[I", true)
  | 14 => ("WindowDesk$Tree", "starts", "[[I", true)
  | _ => ("WindowDesk$Tree", "lengths", "[[I", true)
noncomputable def tyX3 : Nat → FieldType := fun k => match k with
  | 0 => .object "WindowDesk$Row"
  | 1 => .array .int
  | 2 => .array (.array .int)
  | 3 => .array .int
  | 4 => .array .int
  | 5 => .array .int
  | 6 => .array .int
  | 7 => .array .int
  | 8 => .array .int
  | 9 => .int
  | 10 => .array .int
  | 11 => .array .int
  | 12 => .int
  | 13 => .array (.array .int)
  | 14 => .array (.array .int)
  | _ => .array (.array .int)
noncomputable abbrev wsX30 : List Cond := u_ws RX3 TX3 16
theorem nmX3 : ∀ a, a < 16 → ∀ b, b < 16 → a ≠ b → (TX3 a).2.1 ≠ (TX3 b).2.1 := by decide +kernel
theorem tyX3_ok : ∀ k, k < 16 → parseFieldDescriptor (TX3 k).2.2.1 = some (tyX3 k) := by decide +kernel
noncomputable abbrev cX3_init : ByteArray := prog_5_method_1_code
noncomputable def yX3_init : MethodName := ⟨RX3, "<init>", "()V"⟩
noncomputable abbrev cX3_clear : ByteArray := prog_5_method_2_code
noncomputable def yX3_clear : MethodName := ⟨RX3, "clear", "()V"⟩
noncomputable abbrev cX3_copyFrom : ByteArray := prog_5_method_3_code
noncomputable def yX3_copyFrom : MethodName := ⟨RX3, "copyFrom", "(LWindowDesk$Tree;)V"⟩
noncomputable abbrev cX3_leafOf : ByteArray := prog_5_method_4_code
noncomputable def yX3_leafOf : MethodName := ⟨RX3, "leafOf", "(I)I"⟩
noncomputable abbrev cX3_isShown : ByteArray := prog_5_method_5_code
noncomputable def yX3_isShown : MethodName := ⟨RX3, "isShown", "(I)Z"⟩
noncomputable abbrev cX3_leaves : ByteArray := prog_5_method_6_code
noncomputable def yX3_leaves : MethodName := ⟨RX3, "leaves", "()I"⟩
noncomputable abbrev cX3_cuts : ByteArray := prog_5_method_7_code
noncomputable def yX3_cuts : MethodName := ⟨RX3, "cuts", "()I"⟩
noncomputable abbrev cX3_leafNumber : ByteArray := prog_5_method_8_code
noncomputable def yX3_leafNumber : MethodName := ⟨RX3, "leafNumber", "(I)I"⟩
noncomputable abbrev cX3_shownIn : ByteArray := prog_5_method_9_code
noncomputable def yX3_shownIn : MethodName := ⟨RX3, "shownIn", "(I)I"⟩
noncomputable abbrev cX3_tabsIn : ByteArray := prog_5_method_10_code
noncomputable def yX3_tabsIn : MethodName := ⟨RX3, "tabsIn", "(I)I"⟩
noncomputable abbrev cX3_tabIn : ByteArray := prog_5_method_11_code
noncomputable def yX3_tabIn : MethodName := ⟨RX3, "tabIn", "(II)I"⟩
noncomputable abbrev cX3_leastOf : ByteArray := prog_5_method_12_code
noncomputable def yX3_leastOf : MethodName := ⟨RX3, "leastOf", "(I)I"⟩
noncomputable abbrev cX3_fits : ByteArray := prog_5_method_13_code
noncomputable def yX3_fits : MethodName := ⟨RX3, "fits", "([I)Z"⟩
noncomputable abbrev cX3_nearestCut : ByteArray := prog_5_method_14_code
noncomputable def yX3_nearestCut : MethodName := ⟨RX3, "nearestCut", "(II)I"⟩
noncomputable abbrev cX3_changeShare : ByteArray := prog_5_method_15_code
noncomputable def yX3_changeShare : MethodName := ⟨RX3, "changeShare", "(II)I"⟩
noncomputable abbrev cX3_show : ByteArray := prog_5_method_16_code
noncomputable def yX3_show : MethodName := ⟨RX3, "show", "(I)V"⟩
noncomputable abbrev cX3_addTab : ByteArray := prog_5_method_17_code
noncomputable def yX3_addTab : MethodName := ⟨RX3, "addTab", "(IIII)V"⟩
noncomputable abbrev cX3_addAllTabs : ByteArray := prog_5_method_18_code
noncomputable def yX3_addAllTabs : MethodName := ⟨RX3, "addAllTabs", "(LWindowDesk$Tree;)V"⟩
noncomputable abbrev cX3_cutLeaf : ByteArray := prog_5_method_19_code
noncomputable def yX3_cutLeaf : MethodName := ⟨RX3, "cutLeaf", "(IIZIII)V"⟩
noncomputable abbrev cX3_takeOut : ByteArray := prog_5_method_20_code
noncomputable def yX3_takeOut : MethodName := ⟨RX3, "takeOut", "(I)V"⟩
noncomputable abbrev cX3_nextShown : ByteArray := prog_5_method_21_code
noncomputable def yX3_nextShown : MethodName := ⟨RX3, "nextShown", "(II)I"⟩
noncomputable abbrev cX3_dropLeaf : ByteArray := prog_5_method_22_code
noncomputable def yX3_dropLeaf : MethodName := ⟨RX3, "dropLeaf", "(I)V"⟩
noncomputable abbrev cX3_putInPlaceOf : ByteArray := prog_5_method_23_code
noncomputable def yX3_putInPlaceOf : MethodName := ⟨RX3, "putInPlaceOf", "(II)V"⟩
noncomputable abbrev cX3_enter : ByteArray := prog_5_method_24_code
noncomputable def yX3_enter : MethodName := ⟨RX3, "enter", "(IIII)V"⟩
noncomputable abbrev cX3_newNode : ByteArray := prog_5_method_25_code
noncomputable def yX3_newNode : MethodName := ⟨RX3, "newNode", "(I)I"⟩
noncomputable abbrev cX3_settle : ByteArray := prog_5_method_26_code
noncomputable def yX3_settle : MethodName := ⟨RX3, "settle", "()V"⟩
noncomputable abbrev cX3_listNodes : ByteArray := prog_5_method_27_code
noncomputable def yX3_listNodes : MethodName := ⟨RX3, "listNodes", "()V"⟩
noncomputable abbrev cX3_measureLeaves : ByteArray := prog_5_method_28_code
noncomputable def yX3_measureLeaves : MethodName := ⟨RX3, "measureLeaves", "(I)V"⟩
noncomputable abbrev cX3_measureCuts : ByteArray := prog_5_method_29_code
noncomputable def yX3_measureCuts : MethodName := ⟨RX3, "measureCuts", "(I)V"⟩
noncomputable abbrev cX3_lay : ByteArray := prog_5_method_30_code
noncomputable def yX3_lay : MethodName := ⟨RX3, "lay", "([I)V"⟩
noncomputable abbrev cX3_divide : ByteArray := prog_5_method_31_code
noncomputable def yX3_divide : MethodName := ⟨RX3, "divide", "(I)V"⟩
noncomputable abbrev cX3_firstPart : ByteArray := prog_5_method_32_code
noncomputable def yX3_firstPart : MethodName := ⟨RX3, "firstPart", "(II)I"⟩
noncomputable abbrev cX3_isWide : ByteArray := prog_5_method_33_code
noncomputable def yX3_isWide : MethodName := ⟨RX3, "isWide", "(I)Z"⟩
noncomputable abbrev cX3_startOf : ByteArray := prog_5_method_34_code
noncomputable def yX3_startOf : MethodName := ⟨RX3, "startOf", "(II)I"⟩
noncomputable abbrev cX3_lengthOf : ByteArray := prog_5_method_35_code
noncomputable def yX3_lengthOf : MethodName := ⟨RX3, "lengthOf", "(II)I"⟩
noncomputable abbrev cX3_endOf : ByteArray := prog_5_method_36_code
noncomputable def yX3_endOf : MethodName := ⟨RX3, "endOf", "(II)I"⟩
noncomputable abbrev cX3_shownAt : ByteArray := prog_5_method_37_code
noncomputable def yX3_shownAt : MethodName := ⟨RX3, "shownAt", "(II)I"⟩
noncomputable abbrev cX3_spans : ByteArray := prog_5_method_38_code
noncomputable def yX3_spans : MethodName := ⟨RX3, "spans", "(III)Z"⟩
noncomputable abbrev cX3_neighbourTo : ByteArray := prog_5_method_39_code
noncomputable def yX3_neighbourTo : MethodName := ⟨RX3, "neighbourTo", "(II)I"⟩
noncomputable abbrev cX3_meets : ByteArray := prog_5_method_40_code
noncomputable def yX3_meets : MethodName := ⟨RX3, "meets", "(III)Z"⟩
noncomputable abbrev cX3_commonBorder : ByteArray := prog_5_method_41_code
noncomputable def yX3_commonBorder : MethodName := ⟨RX3, "commonBorder", "(III)I"⟩
noncomputable def RX4 : String := "WindowDesk$Window"
noncomputable def TX4 : u_T := fun k => match k with
  | 0 => ("WindowDesk$Window", "least", "[I", true)
  | 1 => ("WindowDesk$Window", "place", "[I", true)
  | 2 => ("WindowDesk$Window", "there", "Z", false)
  | 3 => ("WindowDesk$Window", "kind", "I", false)
  | 4 => ("WindowDesk$Window", "owner", "I", false)
  | _ => ("WindowDesk$Window", "screen", "I", false)
noncomputable def tyX4 : Nat → FieldType := fun k => match k with
  | 0 => .array .int
  | 1 => .array .int
  | 2 => .boolean
  | 3 => .int
  | 4 => .int
  | _ => .int
noncomputable abbrev wsX40 : List Cond := u_ws RX4 TX4 6
theorem nmX4 : ∀ a, a < 6 → ∀ b, b < 6 → a ≠ b → (TX4 a).2.1 ≠ (TX4 b).2.1 := by decide +kernel
theorem tyX4_ok : ∀ k, k < 6 → parseFieldDescriptor (TX4 k).2.2.1 = some (tyX4 k) := by decide +kernel
noncomputable abbrev cX4_init : ByteArray := prog_6_method_1_code
noncomputable def yX4_init : MethodName := ⟨RX4, "<init>", "()V"⟩
noncomputable abbrev cX4_prepare : ByteArray := prog_6_method_2_code
noncomputable def yX4_prepare : MethodName := ⟨RX4, "prepare", "(IIII)V"⟩
noncomputable abbrev cX4_isTiled : ByteArray := prog_6_method_3_code
noncomputable def yX4_isTiled : MethodName := ⟨RX4, "isTiled", "()Z"⟩
noncomputable abbrev cX4_isFloating : ByteArray := prog_6_method_4_code
noncomputable def yX4_isFloating : MethodName := ⟨RX4, "isFloating", "()Z"⟩
noncomputable abbrev cX4_isSticky : ByteArray := prog_6_method_5_code
noncomputable def yX4_isSticky : MethodName := ⟨RX4, "isSticky", "()Z"⟩
noncomputable abbrev cX4_isOn : ByteArray := prog_6_method_6_code
noncomputable def yX4_isOn : MethodName := ⟨RX4, "isOn", "(I)Z"⟩
noncomputable abbrev cX4_isLooseOn : ByteArray := prog_6_method_7_code
noncomputable def yX4_isLooseOn : MethodName := ⟨RX4, "isLooseOn", "(I)Z"⟩
noncomputable abbrev cX4_fallsUnder : ByteArray := prog_6_method_8_code
noncomputable def yX4_fallsUnder : MethodName := ⟨RX4, "fallsUnder", "(I)Z"⟩
noncomputable abbrev cX4_canBeWhole : ByteArray := prog_6_method_9_code
noncomputable def yX4_canBeWhole : MethodName := ⟨RX4, "canBeWhole", "([I)Z"⟩
noncomputable abbrev cX4_nearest : ByteArray := prog_6_method_10_code
noncomputable def yX4_nearest : MethodName := ⟨RX4, "nearest", "(II[I)I"⟩
noncomputable abbrev cX4_putAt : ByteArray := prog_6_method_11_code
noncomputable def yX4_putAt : MethodName := ⟨RX4, "putAt", "(II[I)V"⟩
noncomputable abbrev cX4_sendTo : ByteArray := prog_6_method_12_code
noncomputable def yX4_sendTo : MethodName := ⟨RX4, "sendTo", "(I[I)V"⟩
noncomputable abbrev cX4_coversPoint : ByteArray := prog_6_method_13_code
noncomputable def yX4_coversPoint : MethodName := ⟨RX4, "coversPoint", "(III[I)Z"⟩
noncomputable abbrev cX4_spans : ByteArray := prog_6_method_14_code
noncomputable def yX4_spans : MethodName := ⟨RX4, "spans", "(II[I)Z"⟩
noncomputable def RX5 : String := "WindowDesk"
noncomputable def TX5 : u_T := fun k => match k with
  | 0 => ("WindowDesk", "windows", "[LWindowDesk$Window;", true)
  | 1 => ("WindowDesk", "screens", "[LWindowDesk$Screen;", true)
  | 2 => ("WindowDesk", "focusRow", "LWindowDesk$Row;", true)
  | 3 => ("WindowDesk", "stack", "LWindowDesk$Row;", true)
  | 4 => ("WindowDesk", "trial", "LWindowDesk$Tree;", true)
  | 5 => ("WindowDesk", "group", "[Z", true)
  | 6 => ("WindowDesk", "asked", "[I", true)
  | 7 => ("WindowDesk", "distances", "[I", true)
  | _ => ("WindowDesk", "reached", "LWindowDesk$Row;", true)
noncomputable def tyX5 : Nat → FieldType := fun k => match k with
  | 0 => .array (.object "WindowDesk$Window")
  | 1 => .array (.object "WindowDesk$Screen")
  | 2 => .object "WindowDesk$Row"
  | 3 => .object "WindowDesk$Row"
  | 4 => .object "WindowDesk$Tree"
  | 5 => .array .boolean
  | 6 => .array .int
  | 7 => .array .int
  | _ => .object "WindowDesk$Row"
noncomputable abbrev wsX50 : List Cond := u_ws RX5 TX5 9
theorem nmX5 : ∀ a, a < 9 → ∀ b, b < 9 → a ≠ b → (TX5 a).2.1 ≠ (TX5 b).2.1 := by decide +kernel
theorem tyX5_ok : ∀ k, k < 9 → parseFieldDescriptor (TX5 k).2.2.1 = some (tyX5 k) := by decide +kernel
noncomputable abbrev cX5_init : ByteArray := prog_1_method_1_code
noncomputable def yX5_init : MethodName := ⟨RX5, "<init>", "()V"⟩
noncomputable abbrev cX5_screen : ByteArray := prog_1_method_2_code
noncomputable def yX5_screen : MethodName := ⟨RX5, "screen", "(III)I"⟩
noncomputable abbrev cX5_gone : ByteArray := prog_1_method_3_code
noncomputable def yX5_gone : MethodName := ⟨RX5, "gone", "(I)I"⟩
noncomputable abbrev cX5_open : ByteArray := prog_1_method_4_code
noncomputable def yX5_open : MethodName := ⟨RX5, "open", "(IIII)I"⟩
noncomputable abbrev cX5_close : ByteArray := prog_1_method_5_code
noncomputable def yX5_close : MethodName := ⟨RX5, "close", "(I)I"⟩
noncomputable abbrev cX5_focus : ByteArray := prog_1_method_6_code
noncomputable def yX5_focus : MethodName := ⟨RX5, "focus", "(I)I"⟩
noncomputable abbrev cX5_back : ByteArray := prog_1_method_7_code
noncomputable def yX5_back : MethodName := ⟨RX5, "back", "()I"⟩
noncomputable abbrev cX5_toward : ByteArray := prog_1_method_8_code
noncomputable def yX5_toward : MethodName := ⟨RX5, "toward", "(I)I"⟩
noncomputable abbrev cX5_steps : ByteArray := prog_1_method_9_code
noncomputable def yX5_steps : MethodName := ⟨RX5, "steps", "(II)I"⟩
noncomputable abbrev cX5_drag : ByteArray := prog_1_method_10_code
noncomputable def yX5_drag : MethodName := ⟨RX5, "drag", "(III)I"⟩
noncomputable abbrev cX5_move : ByteArray := prog_1_method_11_code
noncomputable def yX5_move : MethodName := ⟨RX5, "move", "(III)I"⟩
noncomputable abbrev cX5_share : ByteArray := prog_1_method_12_code
noncomputable def yX5_share : MethodName := ⟨RX5, "share", "(III)I"⟩
noncomputable abbrev cX5_area : ByteArray := prog_1_method_13_code
noncomputable def yX5_area : MethodName := ⟨RX5, "area", "(II)I"⟩
noncomputable abbrev cX5_about : ByteArray := prog_1_method_14_code
noncomputable def yX5_about : MethodName := ⟨RX5, "about", "(II)I"⟩
noncomputable abbrev cX5_isOf : ByteArray := prog_1_method_15_code
noncomputable def yX5_isOf : MethodName := ⟨RX5, "isOf", "(II)I"⟩
noncomputable abbrev cX5_at : ByteArray := prog_1_method_16_code
noncomputable def yX5_at : MethodName := ⟨RX5, "at", "(III)I"⟩
noncomputable abbrev cX5_neighbour : ByteArray := prog_1_method_17_code
noncomputable def yX5_neighbour : MethodName := ⟨RX5, "neighbour", "(II)I"⟩
noncomputable abbrev cX5_told : ByteArray := prog_1_method_18_code
noncomputable def yX5_told : MethodName := ⟨RX5, "told", "(II)I"⟩
noncomputable abbrev cX5_tab : ByteArray := prog_1_method_19_code
noncomputable def yX5_tab : MethodName := ⟨RX5, "tab", "(III)I"⟩
noncomputable abbrev cX5_count : ByteArray := prog_1_method_20_code
noncomputable def yX5_count : MethodName := ⟨RX5, "count", "(I)I"⟩
noncomputable abbrev cX5_isScreen : ByteArray := prog_1_method_21_code
noncomputable def yX5_isScreen : MethodName := ⟨RX5, "isScreen", "(I)Z"⟩
noncomputable abbrev cX5_isScreenSize : ByteArray := prog_1_method_22_code
noncomputable def yX5_isScreenSize : MethodName := ⟨RX5, "isScreenSize", "(I)Z"⟩
noncomputable abbrev cX5_isWindowSize : ByteArray := prog_1_method_23_code
noncomputable def yX5_isWindowSize : MethodName := ⟨RX5, "isWindowSize", "(I)Z"⟩
noncomputable abbrev cX5_isSide : ByteArray := prog_1_method_24_code
noncomputable def yX5_isSide : MethodName := ⟨RX5, "isSide", "(I)Z"⟩
noncomputable abbrev cX5_isAxis : ByteArray := prog_1_method_25_code
noncomputable def yX5_isAxis : MethodName := ⟨RX5, "isAxis", "(I)Z"⟩
noncomputable abbrev cX5_isPlace : ByteArray := prog_1_method_26_code
noncomputable def yX5_isPlace : MethodName := ⟨RX5, "isPlace", "(I)Z"⟩
noncomputable abbrev cX5_isWindow : ByteArray := prog_1_method_27_code
noncomputable def yX5_isWindow : MethodName := ⟨RX5, "isWindow", "(I)Z"⟩
noncomputable abbrev cX5_isShownTile : ByteArray := prog_1_method_28_code
noncomputable def yX5_isShownTile : MethodName := ⟨RX5, "isShownTile", "(I)Z"⟩
noncomputable abbrev cX5_between : ByteArray := prog_1_method_29_code
noncomputable def yX5_between : MethodName := ⟨RX5, "between", "(III)I"⟩
noncomputable abbrev cX5_leastScreenBut : ByteArray := prog_1_method_30_code
noncomputable def yX5_leastScreenBut : MethodName := ⟨RX5, "leastScreenBut", "(I)I"⟩
noncomputable abbrev cX5_screenAtHand : ByteArray := prog_1_method_31_code
noncomputable def yX5_screenAtHand : MethodName := ⟨RX5, "screenAtHand", "()I"⟩
noncomputable abbrev cX5_screensThere : ByteArray := prog_1_method_32_code
noncomputable def yX5_screensThere : MethodName := ⟨RX5, "screensThere", "()I"⟩
noncomputable abbrev cX5_screensWithKept : ByteArray := prog_1_method_33_code
noncomputable def yX5_screensWithKept : MethodName := ⟨RX5, "screensWithKept", "()I"⟩
noncomputable abbrev cX5_windowsUnder : ByteArray := prog_1_method_34_code
noncomputable def yX5_windowsUnder : MethodName := ⟨RX5, "windowsUnder", "(I)I"⟩
noncomputable abbrev cX5_looseOnes : ByteArray := prog_1_method_35_code
noncomputable def yX5_looseOnes : MethodName := ⟨RX5, "looseOnes", "(I)I"⟩
noncomputable abbrev cX5_windowsOn : ByteArray := prog_1_method_36_code
noncomputable def yX5_windowsOn : MethodName := ⟨RX5, "windowsOn", "(I)I"⟩
noncomputable abbrev cX5_looseOnesFit : ByteArray := prog_1_method_37_code
noncomputable def yX5_looseOnesFit : MethodName := ⟨RX5, "looseOnesFit", "(I[I)Z"⟩
noncomputable abbrev cX5_sendAll : ByteArray := prog_1_method_38_code
noncomputable def yX5_sendAll : MethodName := ⟨RX5, "sendAll", "(II)V"⟩
noncomputable abbrev cX5_treeOf : ByteArray := prog_1_method_39_code
noncomputable def yX5_treeOf : MethodName := ⟨RX5, "treeOf", "(I)LWindowDesk$Tree;"⟩
noncomputable abbrev cX5_layTrees : ByteArray := prog_1_method_40_code
noncomputable def yX5_layTrees : MethodName := ⟨RX5, "layTrees", "()V"⟩
noncomputable abbrev cX5_startOf : ByteArray := prog_1_method_41_code
noncomputable def yX5_startOf : MethodName := ⟨RX5, "startOf", "(II)I"⟩
noncomputable abbrev cX5_lengthOf : ByteArray := prog_1_method_42_code
noncomputable def yX5_lengthOf : MethodName := ⟨RX5, "lengthOf", "(II)I"⟩
noncomputable abbrev cX5_leastFreeNumber : ByteArray := prog_1_method_43_code
noncomputable def yX5_leastFreeNumber : MethodName := ⟨RX5, "leastFreeNumber", "()I"⟩
noncomputable abbrev cX5_findRoom : ByteArray := prog_1_method_44_code
noncomputable def yX5_findRoom : MethodName := ⟨RX5, "findRoom", "(II)Z"⟩
noncomputable abbrev cX5_middleOf : ByteArray := prog_1_method_45_code
noncomputable def yX5_middleOf : MethodName := ⟨RX5, "middleOf", "(LWindowDesk$Window;I)I"⟩
noncomputable abbrev cX5_tile : ByteArray := prog_1_method_46_code
noncomputable def yX5_tile : MethodName := ⟨RX5, "tile", "(ILWindowDesk$Screen;)Z"⟩
noncomputable abbrev cX5_leafAtHand : ByteArray := prog_1_method_47_code
noncomputable def yX5_leafAtHand : MethodName := ⟨RX5, "leafAtHand", "(LWindowDesk$Tree;)I"⟩
noncomputable abbrev cX5_tryCut : ByteArray := prog_1_method_48_code
noncomputable def yX5_tryCut : MethodName := ⟨RX5, "tryCut", "(ILWindowDesk$Screen;II)Z"⟩
noncomputable abbrev cX5_tryTab : ByteArray := prog_1_method_49_code
noncomputable def yX5_tryTab : MethodName := ⟨RX5, "tryTab", "(ILWindowDesk$Screen;I)Z"⟩
noncomputable abbrev cX5_end : ByteArray := prog_1_method_50_code
noncomputable def yX5_end : MethodName := ⟨RX5, "end", "(I)V"⟩
noncomputable abbrev cX5_giveFocus : ByteArray := prog_1_method_51_code
noncomputable def yX5_giveFocus : MethodName := ⟨RX5, "giveFocus", "(I)V"⟩
noncomputable abbrev cX5_raise : ByteArray := prog_1_method_52_code
noncomputable def yX5_raise : MethodName := ⟨RX5, "raise", "(II)V"⟩
noncomputable abbrev cX5_dialogsOf : ByteArray := prog_1_method_53_code
noncomputable def yX5_dialogsOf : MethodName := ⟨RX5, "dialogsOf", "(I)I"⟩
noncomputable abbrev cX5_lowestDialogOf : ByteArray := prog_1_method_54_code
noncomputable def yX5_lowestDialogOf : MethodName := ⟨RX5, "lowestDialogOf", "(I)I"⟩
noncomputable abbrev cX5_reachFrom : ByteArray := prog_1_method_55_code
noncomputable def yX5_reachFrom : MethodName := ⟨RX5, "reachFrom", "(I)V"⟩
noncomputable abbrev cX5_tryDrag : ByteArray := prog_1_method_56_code
noncomputable def yX5_tryDrag : MethodName := ⟨RX5, "tryDrag", "(III)V"⟩
noncomputable abbrev cX5_axisOf : ByteArray := prog_1_method_57_code
noncomputable def yX5_axisOf : MethodName := ⟨RX5, "axisOf", "(I)I"⟩
noncomputable abbrev cX5_isAfter : ByteArray := prog_1_method_58_code
noncomputable def yX5_isAfter : MethodName := ⟨RX5, "isAfter", "(I)Z"⟩
noncomputable abbrev cX5_gatherWithDialogs : ByteArray := prog_1_method_59_code
noncomputable def yX5_gatherWithDialogs : MethodName := ⟨RX5, "gatherWithDialogs", "(I)V"⟩
noncomputable abbrev cX5_gatherDialogs : ByteArray := prog_1_method_60_code
noncomputable def yX5_gatherDialogs : MethodName := ⟨RX5, "gatherDialogs", "()V"⟩
noncomputable abbrev cX5_groupCanBeWhole : ByteArray := prog_1_method_61_code
noncomputable def yX5_groupCanBeWhole : MethodName := ⟨RX5, "groupCanBeWhole", "(I)Z"⟩
noncomputable abbrev cX5_sendGroup : ByteArray := prog_1_method_62_code
noncomputable def yX5_sendGroup : MethodName := ⟨RX5, "sendGroup", "(I)V"⟩
noncomputable abbrev cX5_keepAll : ByteArray := prog_1_method_63_code
noncomputable def yX5_keepAll : MethodName := ⟨RX5, "keepAll", "(I)V"⟩
noncomputable abbrev cX5_forgetKeptWith : ByteArray := prog_1_method_64_code
noncomputable def yX5_forgetKeptWith : MethodName := ⟨RX5, "forgetKeptWith", "(I)V"⟩
noncomputable abbrev cX5_bringBack : ByteArray := prog_1_method_65_code
noncomputable def yX5_bringBack : MethodName := ⟨RX5, "bringBack", "(I)I"⟩
noncomputable abbrev cX5_takeBack : ByteArray := prog_1_method_66_code
noncomputable def yX5_takeBack : MethodName := ⟨RX5, "takeBack", "(ILWindowDesk$Kept;)V"⟩
noncomputable abbrev cX5_forgetKeptWithGroup : ByteArray := prog_1_method_67_code
noncomputable def yX5_forgetKeptWithGroup : MethodName := ⟨RX5, "forgetKeptWithGroup", "()V"⟩
noncomputable def RX6 : String := "WindowDeskModel"
noncomputable def TX6 : u_T := fun k => match k with
  | 0 => ("WindowDeskModel", "wide", "[I", true)
  | 1 => ("WindowDeskModel", "high", "[I", true)
  | 2 => ("WindowDeskModel", "kind", "[I", true)
  | 3 => ("WindowDeskModel", "w", "[I", true)
  | 4 => ("WindowDeskModel", "h", "[I", true)
  | 5 => ("WindowDeskModel", "owner", "[I", true)
  | 6 => ("WindowDeskModel", "home", "[I", true)
  | 7 => ("WindowDeskModel", "x", "[I", true)
  | 8 => ("WindowDeskModel", "y", "[I", true)
  | 9 => ("WindowDeskModel", "stack", "[I", true)
  | 10 => ("WindowDeskModel", "stacked", "I", false)
  | 11 => ("WindowDeskModel", "row", "[I", true)
  | 12 => ("WindowDeskModel", "rowed", "I", false)
  | 13 => ("WindowDeskModel", "root", "[I", true)
  | 14 => ("WindowDeskModel", "type", "[I", true)
  | 15 => ("WindowDeskModel", "one", "[I", true)
  | 16 => ("WindowDeskModel", "two", "[I", true)
  | 17 => ("WindowDeskModel", "part", "[I", true)
  | 18 => ("WindowDeskModel", "tabs", "[I", true)
  | 19 => ("WindowDeskModel", "tabMany", "[I", true)
  | 20 => ("WindowDeskModel", "shown", "[I", true)
  | 21 => ("WindowDeskModel", "isKept", "[Z", true)
  | 22 => ("WindowDeskModel", "keptHas", "[Z", true)
  | 23 => ("WindowDeskModel", "keptX", "[I", true)
  | 24 => ("WindowDeskModel", "keptY", "[I", true)
  | 25 => ("WindowDeskModel", "ax", "[I", true)
  | 26 => ("WindowDeskModel", "ay", "[I", true)
  | 27 => ("WindowDeskModel", "aw", "[I", true)
  | 28 => ("WindowDeskModel", "ah", "[I", true)
  | 29 => ("WindowDeskModel", "leaves", "[I", true)
  | 30 => ("WindowDeskModel", "leafMany", "I", false)
  | 31 => ("WindowDeskModel", "comes", "[Z", true)
  | _ => ("WindowDeskModel", "far", "[I", true)
noncomputable def tyX6 : Nat → FieldType := fun k => match k with
  | 0 => .array .int
  | 1 => .array .int
  | 2 => .array .int
  | 3 => .array .int
  | 4 => .array .int
  | 5 => .array .int
  | 6 => .array .int
  | 7 => .array .int
  | 8 => .array .int
  | 9 => .array .int
  | 10 => .int
  | 11 => .array .int
  | 12 => .int
  | 13 => .array .int
  | 14 => .array .int
  | 15 => .array .int
  | 16 => .array .int
  | 17 => .array .int
  | 18 => .array .int
  | 19 => .array .int
  | 20 => .array .int
  | 21 => .array .boolean
  | 22 => .array .boolean
  | 23 => .array .int
  | 24 => .array .int
  | 25 => .array .int
  | 26 => .array .int
  | 27 => .array .int
  | 28 => .array .int
  | 29 => .array .int
  | 30 => .int
  | 31 => .array .boolean
  | _ => .array .int
noncomputable abbrev wsX60 : List Cond := u_ws RX6 TX6 33
theorem nmX6 : ∀ a, a < 33 → ∀ b, b < 33 → a ≠ b → (TX6 a).2.1 ≠ (TX6 b).2.1 := by decide +kernel
theorem tyX6_ok : ∀ k, k < 33 → parseFieldDescriptor (TX6 k).2.2.1 = some (tyX6 k) := by decide +kernel
noncomputable abbrev cX6_init : ByteArray := prog_8_method_1_code
noncomputable def yX6_init : MethodName := ⟨RX6, "<init>", "()V"⟩
noncomputable abbrev cX6_isIn : ByteArray := prog_8_method_2_code
noncomputable def yX6_isIn : MethodName := ⟨RX6, "isIn", "(III)Z"⟩
noncomputable abbrev cX6_half : ByteArray := prog_8_method_3_code
noncomputable def yX6_half : MethodName := ⟨RX6, "half", "(I)I"⟩
noncomputable abbrev cX6_nearest : ByteArray := prog_8_method_4_code
noncomputable def yX6_nearest : MethodName := ⟨RX6, "nearest", "(II)I"⟩
noncomputable abbrev cX6_isWindow : ByteArray := prog_8_method_5_code
noncomputable def yX6_isWindow : MethodName := ⟨RX6, "isWindow", "(I)Z"⟩
noncomputable abbrev cX6_isFloating : ByteArray := prog_8_method_6_code
noncomputable def yX6_isFloating : MethodName := ⟨RX6, "isFloating", "(I)Z"⟩
noncomputable abbrev cX6_spot : ByteArray := prog_8_method_8_code
noncomputable def yX6_spot : MethodName := ⟨RX6, "spot", "(II)I"⟩
noncomputable abbrev cX6_clearTree : ByteArray := prog_8_method_9_code
noncomputable def yX6_clearTree : MethodName := ⟨RX6, "clearTree", "(I)V"⟩
noncomputable abbrev cX6_copyTree : ByteArray := prog_8_method_10_code
noncomputable def yX6_copyTree : MethodName := ⟨RX6, "copyTree", "(II)V"⟩
noncomputable abbrev cX6_newNode : ByteArray := prog_8_method_11_code
noncomputable def yX6_newNode : MethodName := ⟨RX6, "newNode", "(II)I"⟩
noncomputable abbrev cX6_newLeaf : ByteArray := prog_8_method_12_code
noncomputable def yX6_newLeaf : MethodName := ⟨RX6, "newLeaf", "(II)I"⟩
noncomputable abbrev cX6_addTab : ByteArray := prog_8_method_13_code
noncomputable def yX6_addTab : MethodName := ⟨RX6, "addTab", "(III)V"⟩
noncomputable abbrev cX6_placeOfTab : ByteArray := prog_8_method_14_code
noncomputable def yX6_placeOfTab : MethodName := ⟨RX6, "placeOfTab", "(III)I"⟩
noncomputable abbrev cX6_leafOf : ByteArray := prog_8_method_15_code
noncomputable def yX6_leafOf : MethodName := ⟨RX6, "leafOf", "(II)I"⟩
noncomputable abbrev cX6_above : ByteArray := prog_8_method_16_code
noncomputable def yX6_above : MethodName := ⟨RX6, "above", "(II)I"⟩
noncomputable abbrev cX6_stand : ByteArray := prog_8_method_17_code
noncomputable def yX6_stand : MethodName := ⟨RX6, "stand", "(IIII)V"⟩
noncomputable abbrev cX6_leave : ByteArray := prog_8_method_18_code
noncomputable def yX6_leave : MethodName := ⟨RX6, "leave", "(II)V"⟩
noncomputable abbrev cX6_cutLeaf : ByteArray := prog_8_method_19_code
noncomputable def yX6_cutLeaf : MethodName := ⟨RX6, "cutLeaf", "(IIIIZ)V"⟩
noncomputable abbrev cX6_least : ByteArray := prog_8_method_20_code
noncomputable def yX6_least : MethodName := ⟨RX6, "least", "(IIZ)I"⟩
noncomputable abbrev cX6_fits : ByteArray := prog_8_method_21_code
noncomputable def yX6_fits : MethodName := ⟨RX6, "fits", "(III)Z"⟩
noncomputable abbrev cX6_lay : ByteArray := prog_8_method_22_code
noncomputable def yX6_lay : MethodName := ⟨RX6, "lay", "(IIIIII)V"⟩
noncomputable abbrev cX6_layAll : ByteArray := prog_8_method_23_code
noncomputable def yX6_layAll : MethodName := ⟨RX6, "layAll", "(I)V"⟩
noncomputable abbrev cX6_canBeWhole : ByteArray := prog_8_method_24_code
noncomputable def yX6_canBeWhole : MethodName := ⟨RX6, "canBeWhole", "(III)Z"⟩
noncomputable abbrev cX6_putAt : ByteArray := prog_8_method_25_code
noncomputable def yX6_putAt : MethodName := ⟨RX6, "putAt", "(IIII)V"⟩
noncomputable abbrev cX6_isOnScreen : ByteArray := prog_8_method_26_code
noncomputable def yX6_isOnScreen : MethodName := ⟨RX6, "isOnScreen", "(II)Z"⟩
noncomputable abbrev cX6_unstack : ByteArray := prog_8_method_27_code
noncomputable def yX6_unstack : MethodName := ⟨RX6, "unstack", "(I)V"⟩
noncomputable abbrev cX6_raise : ByteArray := prog_8_method_28_code
noncomputable def yX6_raise : MethodName := ⟨RX6, "raise", "(I)V"⟩
noncomputable abbrev cX6_front : ByteArray := prog_8_method_29_code
noncomputable def yX6_front : MethodName := ⟨RX6, "front", "(I)V"⟩
noncomputable abbrev cX6_focused : ByteArray := prog_8_method_30_code
noncomputable def yX6_focused : MethodName := ⟨RX6, "focused", "(I)V"⟩
noncomputable abbrev cX6_forget : ByteArray := prog_8_method_31_code
noncomputable def yX6_forget : MethodName := ⟨RX6, "forget", "(I)V"⟩
noncomputable abbrev cX6_screen : ByteArray := prog_8_method_32_code
noncomputable def yX6_screen : MethodName := ⟨RX6, "screen", "(III)I"⟩
noncomputable abbrev cX6_spread : ByteArray := prog_8_method_33_code
noncomputable def yX6_spread : MethodName := ⟨RX6, "spread", "()V"⟩
noncomputable abbrev cX6_comesBack : ByteArray := prog_8_method_34_code
noncomputable def yX6_comesBack : MethodName := ⟨RX6, "comesBack", "(I)Z"⟩
noncomputable abbrev cX6_bring : ByteArray := prog_8_method_35_code
noncomputable def yX6_bring : MethodName := ⟨RX6, "bring", "(I)I"⟩
noncomputable abbrev cX6_clearLeaves : ByteArray := prog_8_method_36_code
noncomputable def yX6_clearLeaves : MethodName := ⟨RX6, "clearLeaves", "(I)V"⟩
noncomputable abbrev cX6_findLeaves : ByteArray := prog_8_method_37_code
noncomputable def yX6_findLeaves : MethodName := ⟨RX6, "findLeaves", "(II)V"⟩
noncomputable abbrev cX6_gone : ByteArray := prog_8_method_38_code
noncomputable def yX6_gone : MethodName := ⟨RX6, "gone", "(I)I"⟩
noncomputable abbrev cX6_moveTabs : ByteArray := prog_8_method_39_code
noncomputable def yX6_moveTabs : MethodName := ⟨RX6, "moveTabs", "(II)I"⟩
noncomputable abbrev cX6_screenAtHand : ByteArray := prog_8_method_40_code
noncomputable def yX6_screenAtHand : MethodName := ⟨RX6, "screenAtHand", "()I"⟩
noncomputable abbrev cX6_freeNumber : ByteArray := prog_8_method_41_code
noncomputable def yX6_freeNumber : MethodName := ⟨RX6, "freeNumber", "()I"⟩
noncomputable abbrev cX6_open : ByteArray := prog_8_method_42_code
noncomputable def yX6_open : MethodName := ⟨RX6, "open", "(IIII)I"⟩
noncomputable abbrev cX6_tile : ByteArray := prog_8_method_43_code
noncomputable def yX6_tile : MethodName := ⟨RX6, "tile", "(II)Z"⟩
noncomputable abbrev cX6_takesTrial : ByteArray := prog_8_method_44_code
noncomputable def yX6_takesTrial : MethodName := ⟨RX6, "takesTrial", "(I)Z"⟩
noncomputable abbrev cX6_closed : ByteArray := prog_8_method_45_code
noncomputable def yX6_closed : MethodName := ⟨RX6, "closed", "(I)I"⟩
noncomputable abbrev cX6_close : ByteArray := prog_8_method_46_code
noncomputable def yX6_close : MethodName := ⟨RX6, "close", "(I)I"⟩
noncomputable abbrev cX6_focus : ByteArray := prog_8_method_47_code
noncomputable def yX6_focus : MethodName := ⟨RX6, "focus", "(I)I"⟩
noncomputable abbrev cX6_back : ByteArray := prog_8_method_48_code
noncomputable def yX6_back : MethodName := ⟨RX6, "back", "()I"⟩
noncomputable abbrev cX6_isShown : ByteArray := prog_8_method_49_code
noncomputable def yX6_isShown : MethodName := ⟨RX6, "isShown", "(I)Z"⟩
noncomputable abbrev cX6_common : ByteArray := prog_8_method_50_code
noncomputable def yX6_common : MethodName := ⟨RX6, "common", "(IIII)I"⟩
noncomputable abbrev cX6_neighbourOf : ByteArray := prog_8_method_51_code
noncomputable def yX6_neighbourOf : MethodName := ⟨RX6, "neighbourOf", "(II)I"⟩
noncomputable abbrev cX6_toward : ByteArray := prog_8_method_52_code
noncomputable def yX6_toward : MethodName := ⟨RX6, "toward", "(I)I"⟩
noncomputable abbrev cX6_steps : ByteArray := prog_8_method_53_code
noncomputable def yX6_steps : MethodName := ⟨RX6, "steps", "(II)I"⟩
noncomputable abbrev cX6_drag : ByteArray := prog_8_method_54_code
noncomputable def yX6_drag : MethodName := ⟨RX6, "drag", "(III)I"⟩
noncomputable abbrev cX6_move : ByteArray := prog_8_method_55_code
noncomputable def yX6_move : MethodName := ⟨RX6, "move", "(III)I"⟩
noncomputable abbrev cX6_share : ByteArray := prog_8_method_56_code
noncomputable def yX6_share : MethodName := ⟨RX6, "share", "(III)I"⟩
noncomputable abbrev cX6_areaOf : ByteArray := prog_8_method_57_code
noncomputable def yX6_areaOf : MethodName := ⟨RX6, "areaOf", "(II)I"⟩
noncomputable abbrev cX6_area : ByteArray := prog_8_method_58_code
noncomputable def yX6_area : MethodName := ⟨RX6, "area", "(II)I"⟩
noncomputable abbrev cX6_placeIn : ByteArray := prog_8_method_59_code
noncomputable def yX6_placeIn : MethodName := ⟨RX6, "placeIn", "([III)I"⟩
noncomputable abbrev cX6_about : ByteArray := prog_8_method_60_code
noncomputable def yX6_about : MethodName := ⟨RX6, "about", "(II)I"⟩
noncomputable abbrev cX6_isOf : ByteArray := prog_8_method_61_code
noncomputable def yX6_isOf : MethodName := ⟨RX6, "isOf", "(II)I"⟩
noncomputable abbrev cX6_lies : ByteArray := prog_8_method_62_code
noncomputable def yX6_lies : MethodName := ⟨RX6, "lies", "(IIII)Z"⟩
noncomputable abbrev cX6_at : ByteArray := prog_8_method_63_code
noncomputable def yX6_at : MethodName := ⟨RX6, "at", "(III)I"⟩
noncomputable abbrev cX6_neighbour : ByteArray := prog_8_method_64_code
noncomputable def yX6_neighbour : MethodName := ⟨RX6, "neighbour", "(II)I"⟩
noncomputable abbrev cX6_told : ByteArray := prog_8_method_65_code
noncomputable def yX6_told : MethodName := ⟨RX6, "told", "(II)I"⟩
noncomputable abbrev cX6_tab : ByteArray := prog_8_method_66_code
noncomputable def yX6_tab : MethodName := ⟨RX6, "tab", "(III)I"⟩
noncomputable abbrev cX6_count : ByteArray := prog_8_method_67_code
noncomputable def yX6_count : MethodName := ⟨RX6, "count", "(I)I"⟩
noncomputable def RJ9 : String := "java/lang/Math"
noncomputable abbrev cJ9_floorDiv_7cf53 : ByteArray := prog_9_method_47_code
noncomputable def yJ9_floorDiv_7cf53 : MethodName := ⟨RJ9, "floorDiv", "(II)I"⟩
noncomputable abbrev cJ9_max_7cf53 : ByteArray := prog_9_method_65_code
noncomputable def yJ9_max_7cf53 : MethodName := ⟨RJ9, "max", "(II)I"⟩
noncomputable abbrev cJ9_min_7cf53 : ByteArray := prog_9_method_69_code
noncomputable def yJ9_min_7cf53 : MethodName := ⟨RJ9, "min", "(II)I"⟩
noncomputable def RJ10 : String := "java/lang/System"
noncomputable def RJ7 : String := "java/util/Arrays"
noncomputable abbrev cJ7_fill_53178 : ByteArray := prog_11_method_103_code
noncomputable def yJ7_fill_53178 : MethodName := ⟨RJ7, "fill", "([II)V"⟩
noncomputable def RL : String := "WindowDeskLaw"
noncomputable abbrev cL_law : ByteArray := code
noncomputable def yL_law : MethodName := ⟨RL, "law", "([I)Z"⟩
noncomputable abbrev vwCl : List vw_C := [(RX0, TX0, 4), (RX1, TX1, 2), (RX2, TX2, 4), (RX3, TX3, 16), (RX4, TX4, 6), (RX5, TX5, 9), (RX6, TX6, 33)]
