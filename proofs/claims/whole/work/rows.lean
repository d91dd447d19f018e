section
-- ===== PART A: goes FIRST, ahead of the names: the tables' words, and 'selects' of the private methods out of them =====
/-- a private method of a class that the tables say can be made, by its rows of tables_1 -/
def lw_okq (q : MethodName × Nat) : Prop := (q.1.cls ≠ "java/lang/invoke/MethodHandle" ∧ q.1.cls ≠ "java/lang/invoke/VarHandle") ∧ Cond.instantiable q.1.cls q.2 ∈ tables_1 ∧ Cond.privateMethod q.1 ∈ tables_1 ∧ Cond.instanceMethod q.1 ∈ tables_1
theorem lw_p0 : lw_okq (⟨"RopeShelf", "hold", "(ILRopeShelf$Cell;)I"⟩, 11) := ⟨⟨by decide +kernel, by decide +kernel⟩, List.mem_of_getElem? (i := 11) (by decide +kernel), List.mem_of_getElem? (i := 255) (by decide +kernel), List.mem_of_getElem? (i := 256) (by decide +kernel)⟩
theorem lw_p1 : lw_okq (⟨"RopeShelf", "cellOf", "(I)LRopeShelf$Cell;"⟩, 11) := ⟨⟨by decide +kernel, by decide +kernel⟩, List.mem_of_getElem? (i := 11) (by decide +kernel), List.mem_of_getElem? (i := 263) (by decide +kernel), List.mem_of_getElem? (i := 264) (by decide +kernel)⟩
theorem lw_p2 : lw_okq (⟨"RopeShelf$Weaver", "joined", "(LRopeShelf$Cell;LRopeShelf$Cell;)LRopeShelf$Cell;"⟩, 5) := ⟨⟨by decide +kernel, by decide +kernel⟩, List.mem_of_getElem? (i := 75) (by decide +kernel), List.mem_of_getElem? (i := 275) (by decide +kernel), List.mem_of_getElem? (i := 276) (by decide +kernel)⟩
theorem lw_p3 : lw_okq (⟨"RopeShelf$Text", "addCell", "(LRopeShelf$Cell;I)V"⟩, 2) := ⟨⟨by decide +kernel, by decide +kernel⟩, List.mem_of_getElem? (i := 21) (by decide +kernel), List.mem_of_getElem? (i := 283) (by decide +kernel), List.mem_of_getElem? (i := 284) (by decide +kernel)⟩
theorem lw_p4 : lw_okq (⟨"RopeShelf$Text", "addSigns", "(LRopeShelf$Cell;II)V"⟩, 2) := ⟨⟨by decide +kernel, by decide +kernel⟩, List.mem_of_getElem? (i := 21) (by decide +kernel), List.mem_of_getElem? (i := 287) (by decide +kernel), List.mem_of_getElem? (i := 288) (by decide +kernel)⟩
theorem lw_p5 : lw_okq (⟨"RopeShelf$Weaver", "newJoin", "(LRopeShelf$Cell;LRopeShelf$Cell;)LRopeShelf$Cell;"⟩, 5) := ⟨⟨by decide +kernel, by decide +kernel⟩, List.mem_of_getElem? (i := 75) (by decide +kernel), List.mem_of_getElem? (i := 308) (by decide +kernel), List.mem_of_getElem? (i := 309) (by decide +kernel)⟩
theorem lw_p6 : lw_okq (⟨"RopeShelf$Pieces", "addPieces", "(LRopeShelf$Cell;I)V"⟩, 2) := ⟨⟨by decide +kernel, by decide +kernel⟩, List.mem_of_getElem? (i := 59) (by decide +kernel), List.mem_of_getElem? (i := 322) (by decide +kernel), List.mem_of_getElem? (i := 323) (by decide +kernel)⟩
theorem lw_p7 : lw_okq (⟨"RopeShelf$Weaver", "release", "(LRopeShelf$Cell;I)V"⟩, 5) := ⟨⟨by decide +kernel, by decide +kernel⟩, List.mem_of_getElem? (i := 75) (by decide +kernel), List.mem_of_getElem? (i := 326) (by decide +kernel), List.mem_of_getElem? (i := 327) (by decide +kernel)⟩
theorem lw_p8 : lw_okq (⟨"RopeShelf$Weaver", "balanced", "(III)LRopeShelf$Cell;"⟩, 5) := ⟨⟨by decide +kernel, by decide +kernel⟩, List.mem_of_getElem? (i := 75) (by decide +kernel), List.mem_of_getElem? (i := 330) (by decide +kernel), List.mem_of_getElem? (i := 331) (by decide +kernel)⟩
theorem lw_p9 : lw_okq (⟨"RopeShelf$Weaver", "cutOut", "(LRopeShelf$Cell;III)LRopeShelf$Cell;"⟩, 5) := ⟨⟨by decide +kernel, by decide +kernel⟩, List.mem_of_getElem? (i := 75) (by decide +kernel), List.mem_of_getElem? (i := 342) (by decide +kernel), List.mem_of_getElem? (i := 343) (by decide +kernel)⟩
theorem lw_p10 : lw_okq (⟨"RopeShelf$Weaver", "cutOutOfJoin", "(LRopeShelf$Cell;III)LRopeShelf$Cell;"⟩, 5) := ⟨⟨by decide +kernel, by decide +kernel⟩, List.mem_of_getElem? (i := 75) (by decide +kernel), List.mem_of_getElem? (i := 347) (by decide +kernel), List.mem_of_getElem? (i := 348) (by decide +kernel)⟩
theorem lw_p11 : lw_okq (⟨"RopeShelf$Weaver", "cutOutOfLeaf", "(LRopeShelf$Cell;II)LRopeShelf$Cell;"⟩, 5) := ⟨⟨by decide +kernel, by decide +kernel⟩, List.mem_of_getElem? (i := 75) (by decide +kernel), List.mem_of_getElem? (i := 353) (by decide +kernel), List.mem_of_getElem? (i := 354) (by decide +kernel)⟩
theorem lw_p12 : lw_okq (⟨"RopeShelf$Walk", "begin", "()V"⟩, 3) := ⟨⟨by decide +kernel, by decide +kernel⟩, List.mem_of_getElem? (i := 102) (by decide +kernel), List.mem_of_getElem? (i := 396) (by decide +kernel), List.mem_of_getElem? (i := 397) (by decide +kernel)⟩
theorem lw_p13 : lw_okq (⟨"RopeShelf$Walk", "visit", "(LRopeShelf$Cell;I)V"⟩, 3) := ⟨⟨by decide +kernel, by decide +kernel⟩, List.mem_of_getElem? (i := 102) (by decide +kernel), List.mem_of_getElem? (i := 400) (by decide +kernel), List.mem_of_getElem? (i := 401) (by decide +kernel)⟩
theorem lw_p14 : lw_okq (⟨"RopeShelf$Cell", "hasWideSign", "()Z"⟩, 9) := ⟨⟨by decide +kernel, by decide +kernel⟩, List.mem_of_getElem? (i := 123) (by decide +kernel), List.mem_of_getElem? (i := 412) (by decide +kernel), List.mem_of_getElem? (i := 413) (by decide +kernel)⟩
theorem lw_p15 : lw_okq (⟨"RopeShelf", "compareTexts", "(I)I"⟩, 11) := ⟨⟨by decide +kernel, by decide +kernel⟩, List.mem_of_getElem? (i := 11) (by decide +kernel), List.mem_of_getElem? (i := 438) (by decide +kernel), List.mem_of_getElem? (i := 439) (by decide +kernel)⟩
def lw_privs_1 : List (MethodName × Nat) := [(⟨"RopeShelf", "hold", "(ILRopeShelf$Cell;)I"⟩, 11), (⟨"RopeShelf", "cellOf", "(I)LRopeShelf$Cell;"⟩, 11), (⟨"RopeShelf$Weaver", "joined", "(LRopeShelf$Cell;LRopeShelf$Cell;)LRopeShelf$Cell;"⟩, 5), (⟨"RopeShelf$Text", "addCell", "(LRopeShelf$Cell;I)V"⟩, 2), (⟨"RopeShelf$Text", "addSigns", "(LRopeShelf$Cell;II)V"⟩, 2), (⟨"RopeShelf$Weaver", "newJoin", "(LRopeShelf$Cell;LRopeShelf$Cell;)LRopeShelf$Cell;"⟩, 5), (⟨"RopeShelf$Pieces", "addPieces", "(LRopeShelf$Cell;I)V"⟩, 2), (⟨"RopeShelf$Weaver", "release", "(LRopeShelf$Cell;I)V"⟩, 5), (⟨"RopeShelf$Weaver", "balanced", "(III)LRopeShelf$Cell;"⟩, 5), (⟨"RopeShelf$Weaver", "cutOut", "(LRopeShelf$Cell;III)LRopeShelf$Cell;"⟩, 5), (⟨"RopeShelf$Weaver", "cutOutOfJoin", "(LRopeShelf$Cell;III)LRopeShelf$Cell;"⟩, 5), (⟨"RopeShelf$Weaver", "cutOutOfLeaf", "(LRopeShelf$Cell;II)LRopeShelf$Cell;"⟩, 5), (⟨"RopeShelf$Walk", "begin", "()V"⟩, 3), (⟨"RopeShelf$Walk", "visit", "(LRopeShelf$Cell;I)V"⟩, 3), (⟨"RopeShelf$Cell", "hasWideSign", "()Z"⟩, 9), (⟨"RopeShelf", "compareTexts", "(I)I"⟩, 11)]
theorem lw_r1 : ∀ q ∈ lw_privs_1, lw_okq q := List.forall_mem_cons.mpr ⟨lw_p0, List.forall_mem_cons.mpr ⟨lw_p1, List.forall_mem_cons.mpr ⟨lw_p2, List.forall_mem_cons.mpr ⟨lw_p3, List.forall_mem_cons.mpr ⟨lw_p4, List.forall_mem_cons.mpr ⟨lw_p5, List.forall_mem_cons.mpr ⟨lw_p6, List.forall_mem_cons.mpr ⟨lw_p7, List.forall_mem_cons.mpr ⟨lw_p8, List.forall_mem_cons.mpr ⟨lw_p9, List.forall_mem_cons.mpr ⟨lw_p10, List.forall_mem_cons.mpr ⟨lw_p11, List.forall_mem_cons.mpr ⟨lw_p12, List.forall_mem_cons.mpr ⟨lw_p13, List.forall_mem_cons.mpr ⟨lw_p14, List.forall_mem_cons.mpr ⟨lw_p15, fun _ h => absurd h List.not_mem_nil⟩⟩⟩⟩⟩⟩⟩⟩⟩⟩⟩⟩⟩⟩⟩⟩
theorem lw_p16 : lw_okq (⟨"RopeShelf$Text", "hasAt", "(ILRopeShelf$Text;)Z"⟩, 2) := ⟨⟨by decide +kernel, by decide +kernel⟩, List.mem_of_getElem? (i := 21) (by decide +kernel), List.mem_of_getElem? (i := 458) (by decide +kernel), List.mem_of_getElem? (i := 459) (by decide +kernel)⟩
theorem lw_p17 : lw_okq (⟨"RopeShelf", "placeInTable", "(LRopeShelf$Cell;)I"⟩, 11) := ⟨⟨by decide +kernel, by decide +kernel⟩, List.mem_of_getElem? (i := 11) (by decide +kernel), List.mem_of_getElem? (i := 470) (by decide +kernel), List.mem_of_getElem? (i := 471) (by decide +kernel)⟩
theorem lw_p18 : lw_okq (⟨"RopeShelf$Table", "place", "(LRopeShelf$Cell;I)V"⟩, 4) := ⟨⟨by decide +kernel, by decide +kernel⟩, List.mem_of_getElem? (i := 37) (by decide +kernel), List.mem_of_getElem? (i := 486) (by decide +kernel), List.mem_of_getElem? (i := 487) (by decide +kernel)⟩
theorem lw_p19 : lw_okq (⟨"RopeShelf", "slotsWith", "(LRopeShelf$Cell;)I"⟩, 11) := ⟨⟨by decide +kernel, by decide +kernel⟩, List.mem_of_getElem? (i := 11) (by decide +kernel), List.mem_of_getElem? (i := 511) (by decide +kernel), List.mem_of_getElem? (i := 512) (by decide +kernel)⟩
theorem lw_p20 : lw_okq (⟨"RopeShelf", "imageRow", "(I)[LRopeShelf$Cell;"⟩, 11) := ⟨⟨by decide +kernel, by decide +kernel⟩, List.mem_of_getElem? (i := 11) (by decide +kernel), List.mem_of_getElem? (i := 526) (by decide +kernel), List.mem_of_getElem? (i := 527) (by decide +kernel)⟩
theorem lw_p21 : lw_okq (⟨"RopeShelfModel", "newLeaf", "(I)I"⟩, 39) := ⟨⟨by decide +kernel, by decide +kernel⟩, List.mem_of_getElem? (i := 537) (by decide +kernel), List.mem_of_getElem? (i := 544) (by decide +kernel), List.mem_of_getElem? (i := 545) (by decide +kernel)⟩
theorem lw_p22 : lw_okq (⟨"RopeShelfModel", "newCell", "(IIII)I"⟩, 39) := ⟨⟨by decide +kernel, by decide +kernel⟩, List.mem_of_getElem? (i := 537) (by decide +kernel), List.mem_of_getElem? (i := 548) (by decide +kernel), List.mem_of_getElem? (i := 549) (by decide +kernel)⟩
theorem lw_p23 : lw_okq (⟨"RopeShelfModel", "keepText", "(II)I"⟩, 39) := ⟨⟨by decide +kernel, by decide +kernel⟩, List.mem_of_getElem? (i := 537) (by decide +kernel), List.mem_of_getElem? (i := 552) (by decide +kernel), List.mem_of_getElem? (i := 553) (by decide +kernel)⟩
theorem lw_p24 : lw_okq (⟨"RopeShelfModel", "makeRoom", "()V"⟩, 39) := ⟨⟨by decide +kernel, by decide +kernel⟩, List.mem_of_getElem? (i := 537) (by decide +kernel), List.mem_of_getElem? (i := 693) (by decide +kernel), List.mem_of_getElem? (i := 694) (by decide +kernel)⟩
theorem lw_p25 : lw_okq (⟨"RopeShelfModel", "clearMarks", "()V"⟩, 39) := ⟨⟨by decide +kernel, by decide +kernel⟩, List.mem_of_getElem? (i := 537) (by decide +kernel), List.mem_of_getElem? (i := 698) (by decide +kernel), List.mem_of_getElem? (i := 699) (by decide +kernel)⟩
theorem lw_p26 : lw_okq (⟨"RopeShelfModel", "mark", "(I)I"⟩, 39) := ⟨⟨by decide +kernel, by decide +kernel⟩, List.mem_of_getElem? (i := 537) (by decide +kernel), List.mem_of_getElem? (i := 702) (by decide +kernel), List.mem_of_getElem? (i := 703) (by decide +kernel)⟩
theorem lw_p27 : lw_okq (⟨"RopeShelfModel", "moveUp", "()V"⟩, 39) := ⟨⟨by decide +kernel, by decide +kernel⟩, List.mem_of_getElem? (i := 537) (by decide +kernel), List.mem_of_getElem? (i := 706) (by decide +kernel), List.mem_of_getElem? (i := 707) (by decide +kernel)⟩
theorem lw_p28 : lw_okq (⟨"RopeShelfModel", "joined", "(II)I"⟩, 39) := ⟨⟨by decide +kernel, by decide +kernel⟩, List.mem_of_getElem? (i := 537) (by decide +kernel), List.mem_of_getElem? (i := 718) (by decide +kernel), List.mem_of_getElem? (i := 719) (by decide +kernel)⟩
theorem lw_p29 : lw_okq (⟨"RopeShelfModel", "layText", "(II)I"⟩, 39) := ⟨⟨by decide +kernel, by decide +kernel⟩, List.mem_of_getElem? (i := 537) (by decide +kernel), List.mem_of_getElem? (i := 722) (by decide +kernel), List.mem_of_getElem? (i := 723) (by decide +kernel)⟩
theorem lw_p30 : lw_okq (⟨"RopeShelfModel", "layPieces", "(I)I"⟩, 39) := ⟨⟨by decide +kernel, by decide +kernel⟩, List.mem_of_getElem? (i := 537) (by decide +kernel), List.mem_of_getElem? (i := 726) (by decide +kernel), List.mem_of_getElem? (i := 727) (by decide +kernel)⟩
theorem lw_p31 : lw_okq (⟨"RopeShelfModel", "signOf", "(II)I"⟩, 39) := ⟨⟨by decide +kernel, by decide +kernel⟩, List.mem_of_getElem? (i := 537) (by decide +kernel), List.mem_of_getElem? (i := 730) (by decide +kernel), List.mem_of_getElem? (i := 731) (by decide +kernel)⟩
def lw_privs_2 : List (MethodName × Nat) := [(⟨"RopeShelf$Text", "hasAt", "(ILRopeShelf$Text;)Z"⟩, 2), (⟨"RopeShelf", "placeInTable", "(LRopeShelf$Cell;)I"⟩, 11), (⟨"RopeShelf$Table", "place", "(LRopeShelf$Cell;I)V"⟩, 4), (⟨"RopeShelf", "slotsWith", "(LRopeShelf$Cell;)I"⟩, 11), (⟨"RopeShelf", "imageRow", "(I)[LRopeShelf$Cell;"⟩, 11), (⟨"RopeShelfModel", "newLeaf", "(I)I"⟩, 39), (⟨"RopeShelfModel", "newCell", "(IIII)I"⟩, 39), (⟨"RopeShelfModel", "keepText", "(II)I"⟩, 39), (⟨"RopeShelfModel", "makeRoom", "()V"⟩, 39), (⟨"RopeShelfModel", "clearMarks", "()V"⟩, 39), (⟨"RopeShelfModel", "mark", "(I)I"⟩, 39), (⟨"RopeShelfModel", "moveUp", "()V"⟩, 39), (⟨"RopeShelfModel", "joined", "(II)I"⟩, 39), (⟨"RopeShelfModel", "layText", "(II)I"⟩, 39), (⟨"RopeShelfModel", "layPieces", "(I)I"⟩, 39), (⟨"RopeShelfModel", "signOf", "(II)I"⟩, 39)]
theorem lw_r2 : ∀ q ∈ lw_privs_2, lw_okq q := List.forall_mem_cons.mpr ⟨lw_p16, List.forall_mem_cons.mpr ⟨lw_p17, List.forall_mem_cons.mpr ⟨lw_p18, List.forall_mem_cons.mpr ⟨lw_p19, List.forall_mem_cons.mpr ⟨lw_p20, List.forall_mem_cons.mpr ⟨lw_p21, List.forall_mem_cons.mpr ⟨lw_p22, List.forall_mem_cons.mpr ⟨lw_p23, List.forall_mem_cons.mpr ⟨lw_p24, List.forall_mem_cons.mpr ⟨lw_p25, List.forall_mem_cons.mpr ⟨lw_p26, List.forall_mem_cons.mpr ⟨lw_p27, List.forall_mem_cons.mpr ⟨lw_p28, List.forall_mem_cons.mpr ⟨lw_p29, List.forall_mem_cons.mpr ⟨lw_p30, List.forall_mem_cons.mpr ⟨lw_p31, fun _ h => absurd h List.not_mem_nil⟩⟩⟩⟩⟩⟩⟩⟩⟩⟩⟩⟩⟩⟩⟩⟩
theorem lw_p32 : lw_okq (⟨"RopeShelfModel", "newJoin", "(II)I"⟩, 39) := ⟨⟨by decide +kernel, by decide +kernel⟩, List.mem_of_getElem? (i := 537) (by decide +kernel), List.mem_of_getElem? (i := 734) (by decide +kernel), List.mem_of_getElem? (i := 735) (by decide +kernel)⟩
theorem lw_p33 : lw_okq (⟨"RopeShelfModel", "balanced", "()I"⟩, 39) := ⟨⟨by decide +kernel, by decide +kernel⟩, List.mem_of_getElem? (i := 537) (by decide +kernel), List.mem_of_getElem? (i := 738) (by decide +kernel), List.mem_of_getElem? (i := 739) (by decide +kernel)⟩
theorem lw_p34 : lw_okq (⟨"RopeShelfModel", "push", "(IIZ)V"⟩, 39) := ⟨⟨by decide +kernel, by decide +kernel⟩, List.mem_of_getElem? (i := 537) (by decide +kernel), List.mem_of_getElem? (i := 742) (by decide +kernel), List.mem_of_getElem? (i := 743) (by decide +kernel)⟩
theorem lw_p35 : lw_okq (⟨"RopeShelfModel", "cutOut", "(III)I"⟩, 39) := ⟨⟨by decide +kernel, by decide +kernel⟩, List.mem_of_getElem? (i := 537) (by decide +kernel), List.mem_of_getElem? (i := 750) (by decide +kernel), List.mem_of_getElem? (i := 751) (by decide +kernel)⟩
theorem lw_p36 : lw_okq (⟨"RopeShelfModel", "toCut", "(III)V"⟩, 39) := ⟨⟨by decide +kernel, by decide +kernel⟩, List.mem_of_getElem? (i := 537) (by decide +kernel), List.mem_of_getElem? (i := 754) (by decide +kernel), List.mem_of_getElem? (i := 755) (by decide +kernel)⟩
theorem lw_p37 : lw_okq (⟨"RopeShelfModel", "cutOne", "(IIII)I"⟩, 39) := ⟨⟨by decide +kernel, by decide +kernel⟩, List.mem_of_getElem? (i := 537) (by decide +kernel), List.mem_of_getElem? (i := 758) (by decide +kernel), List.mem_of_getElem? (i := 759) (by decide +kernel)⟩
theorem lw_p38 : lw_okq (⟨"RopeShelfModel", "cutLeaf", "(III)I"⟩, 39) := ⟨⟨by decide +kernel, by decide +kernel⟩, List.mem_of_getElem? (i := 537) (by decide +kernel), List.mem_of_getElem? (i := 762) (by decide +kernel), List.mem_of_getElem? (i := 763) (by decide +kernel)⟩
theorem lw_p39 : lw_okq (⟨"RopeShelfModel", "roomOfMarked", "()I"⟩, 39) := ⟨⟨by decide +kernel, by decide +kernel⟩, List.mem_of_getElem? (i := 537) (by decide +kernel), List.mem_of_getElem? (i := 782) (by decide +kernel), List.mem_of_getElem? (i := 783) (by decide +kernel)⟩
theorem lw_p40 : lw_okq (⟨"RopeShelfModel", "roomOf", "(I)I"⟩, 39) := ⟨⟨by decide +kernel, by decide +kernel⟩, List.mem_of_getElem? (i := 537) (by decide +kernel), List.mem_of_getElem? (i := 786) (by decide +kernel), List.mem_of_getElem? (i := 787) (by decide +kernel)⟩
theorem lw_p41 : lw_okq (⟨"RopeShelfModel", "isWide", "(I)Z"⟩, 39) := ⟨⟨by decide +kernel, by decide +kernel⟩, List.mem_of_getElem? (i := 537) (by decide +kernel), List.mem_of_getElem? (i := 790) (by decide +kernel), List.mem_of_getElem? (i := 791) (by decide +kernel)⟩
theorem lw_p42 : lw_okq (⟨"RopeShelfModel", "areSame", "(II)Z"⟩, 39) := ⟨⟨by decide +kernel, by decide +kernel⟩, List.mem_of_getElem? (i := 537) (by decide +kernel), List.mem_of_getElem? (i := 802) (by decide +kernel), List.mem_of_getElem? (i := 803) (by decide +kernel)⟩
theorem lw_p43 : lw_okq (⟨"RopeShelfModel", "layBoth", "(II)V"⟩, 39) := ⟨⟨by decide +kernel, by decide +kernel⟩, List.mem_of_getElem? (i := 537) (by decide +kernel), List.mem_of_getElem? (i := 806) (by decide +kernel), List.mem_of_getElem? (i := 807) (by decide +kernel)⟩
theorem lw_p44 : lw_okq (⟨"RopeShelfModel", "alikeSigns", "()I"⟩, 39) := ⟨⟨by decide +kernel, by decide +kernel⟩, List.mem_of_getElem? (i := 537) (by decide +kernel), List.mem_of_getElem? (i := 810) (by decide +kernel), List.mem_of_getElem? (i := 811) (by decide +kernel)⟩
theorem lw_p45 : lw_okq (⟨"RopeShelfModel", "placeIn", "()I"⟩, 39) := ⟨⟨by decide +kernel, by decide +kernel⟩, List.mem_of_getElem? (i := 537) (by decide +kernel), List.mem_of_getElem? (i := 814) (by decide +kernel), List.mem_of_getElem? (i := 815) (by decide +kernel)⟩
theorem lw_p46 : lw_okq (⟨"RopeShelfModel", "comesFirst", "()Z"⟩, 39) := ⟨⟨by decide +kernel, by decide +kernel⟩, List.mem_of_getElem? (i := 537) (by decide +kernel), List.mem_of_getElem? (i := 818) (by decide +kernel), List.mem_of_getElem? (i := 819) (by decide +kernel)⟩
theorem lw_p47 : lw_okq (⟨"RopeShelfModel", "markHeld", "()I"⟩, 39) := ⟨⟨by decide +kernel, by decide +kernel⟩, List.mem_of_getElem? (i := 537) (by decide +kernel), List.mem_of_getElem? (i := 830) (by decide +kernel), List.mem_of_getElem? (i := 831) (by decide +kernel)⟩
def lw_privs_3 : List (MethodName × Nat) := [(⟨"RopeShelfModel", "newJoin", "(II)I"⟩, 39), (⟨"RopeShelfModel", "balanced", "()I"⟩, 39), (⟨"RopeShelfModel", "push", "(IIZ)V"⟩, 39), (⟨"RopeShelfModel", "cutOut", "(III)I"⟩, 39), (⟨"RopeShelfModel", "toCut", "(III)V"⟩, 39), (⟨"RopeShelfModel", "cutOne", "(IIII)I"⟩, 39), (⟨"RopeShelfModel", "cutLeaf", "(III)I"⟩, 39), (⟨"RopeShelfModel", "roomOfMarked", "()I"⟩, 39), (⟨"RopeShelfModel", "roomOf", "(I)I"⟩, 39), (⟨"RopeShelfModel", "isWide", "(I)Z"⟩, 39), (⟨"RopeShelfModel", "areSame", "(II)Z"⟩, 39), (⟨"RopeShelfModel", "layBoth", "(II)V"⟩, 39), (⟨"RopeShelfModel", "alikeSigns", "()I"⟩, 39), (⟨"RopeShelfModel", "placeIn", "()I"⟩, 39), (⟨"RopeShelfModel", "comesFirst", "()Z"⟩, 39), (⟨"RopeShelfModel", "markHeld", "()I"⟩, 39)]
theorem lw_r3 : ∀ q ∈ lw_privs_3, lw_okq q := List.forall_mem_cons.mpr ⟨lw_p32, List.forall_mem_cons.mpr ⟨lw_p33, List.forall_mem_cons.mpr ⟨lw_p34, List.forall_mem_cons.mpr ⟨lw_p35, List.forall_mem_cons.mpr ⟨lw_p36, List.forall_mem_cons.mpr ⟨lw_p37, List.forall_mem_cons.mpr ⟨lw_p38, List.forall_mem_cons.mpr ⟨lw_p39, List.forall_mem_cons.mpr ⟨lw_p40, List.forall_mem_cons.mpr ⟨lw_p41, List.forall_mem_cons.mpr ⟨lw_p42, List.forall_mem_cons.mpr ⟨lw_p43, List.forall_mem_cons.mpr ⟨lw_p44, List.forall_mem_cons.mpr ⟨lw_p45, List.forall_mem_cons.mpr ⟨lw_p46, List.forall_mem_cons.mpr ⟨lw_p47, fun _ h => absurd h List.not_mem_nil⟩⟩⟩⟩⟩⟩⟩⟩⟩⟩⟩⟩⟩⟩⟩⟩
def lw_privs : List (MethodName × Nat) := lw_privs_1 ++ (lw_privs_2 ++ (lw_privs_3))
def lw_tbl : List Cond := k2_sels lw_privs ++ tables_1
theorem lw_privs_ok : ∀ q ∈ lw_privs, lw_okq q := by
  show ∀ q ∈ lw_privs_1 ++ (lw_privs_2 ++ (lw_privs_3)), lw_okq q
  exact List.forall_mem_append.mpr ⟨lw_r1, List.forall_mem_append.mpr ⟨lw_r2, lw_r3⟩⟩
end
section
/-! ===== BEGIN words of one list among another's, by their places ===== -/
theorem goodIn_r {big : List Cond} (ws : List Cond) (ps : List Nat) (hp : ws = ps.filterMap (fun i => big[i]?)) (h : ws.all goodWord = true) : GoodIn big ws := by
  intro w hw
  have h1 := List.all_eq_true.mp h w hw
  rw [hp] at hw
  obtain ⟨i, -, hi⟩ := List.mem_filterMap.mp hw
  have hm : w ∈ big := by first | exact List.mem_of_getElem? hi | exact List.getElem?_mem hi
  exact ⟨hm, good_of_word h1⟩
theorem goodIn_app {big a b : List Cond} (ha : GoodIn big a) (hb : GoodIn big b) : GoodIn big (a ++ b) := fun w h => (List.mem_append.mp h).elim (ha w) (hb w)
theorem goodIn_ca {big a b : List Cond} {c : Cond} (ha : GoodIn big (c :: a)) (hb : GoodIn big b) : GoodIn big (c :: (a ++ b)) := fun w h => (List.mem_cons.mp h).elim (fun e => ha w (List.mem_cons.mpr (Or.inl e))) (fun h => (List.mem_append.mp h).elim (fun h => ha w (List.mem_cons.mpr (Or.inr h))) (hb w))
theorem goodIn_sub {big ws : List Cond} (hm : ∀ w ∈ ws, w ∈ big) (h : ws.all goodWord = true) : GoodIn big ws := fun w hw => ⟨hm w hw, good_of_word (List.all_eq_true.mp h w hw)⟩
/-! ===== END ===== -/

/-! ===== BEGIN printed: names, fields, word lists, decode rows ===== -/
def RX0 : String := "RopeShelf$Cell"
def TX0 : u_T := fun k => match k with
  | 0 => ("RopeShelf$Cell", "kind", "I", false)
  | 1 => ("RopeShelf$Cell", "many", "I", false)
  | 2 => ("RopeShelf$Cell", "signs", "[I", false)
  | 3 => ("RopeShelf$Cell", "left", "LRopeShelf$Cell;", false)
  | 4 => ("RopeShelf$Cell", "right", "LRopeShelf$Cell;", false)
  | 5 => ("RopeShelf$Cell", "base", "LRopeShelf$Cell;", false)
  | 6 => ("RopeShelf$Cell", "from", "I", false)
  | 7 => ("RopeShelf$Cell", "madeIn", "I", false)
  | _ => ("RopeShelf$Cell", "mark", "I", false)
def tyX0 : Nat → FieldType := fun k => match k with
  | 0 => .int
  | 1 => .int
  | 2 => .array .int
  | 3 => .object "RopeShelf$Cell"
  | 4 => .object "RopeShelf$Cell"
  | 5 => .object "RopeShelf$Cell"
  | 6 => .int
  | 7 => .int
  | _ => .int
abbrev wsX00 : List Cond := u_ws RX0 TX0 9
theorem nmX0 : ∀ a, a < 9 → ∀ b, b < 9 → a ≠ b → (TX0 a).2.1 ≠ (TX0 b).2.1 := by decide +kernel
theorem tyX0_ok : ∀ k, k < 9 → parseFieldDescriptor (TX0 k).2.2.1 = some (tyX0 k) := by decide +kernel
abbrev cX0_init : ByteArray := prog_2_method_1_code
def yX0_init : MethodName := ⟨RX0, "<init>", "()V"⟩
abbrev cX0_leaf : ByteArray := prog_2_method_2_code
def yX0_leaf : MethodName := ⟨RX0, "leaf", "(LRopeShelf$Text;)LRopeShelf$Cell;"⟩
abbrev cX0_slice : ByteArray := prog_2_method_3_code
def yX0_slice : MethodName := ⟨RX0, "slice", "(LRopeShelf$Cell;II)LRopeShelf$Cell;"⟩
abbrev cX0_becomeLeaf : ByteArray := prog_2_method_4_code
def yX0_becomeLeaf : MethodName := ⟨RX0, "becomeLeaf", "(LRopeShelf$Text;)V"⟩
abbrev cX0_signAt : ByteArray := prog_2_method_5_code
def yX0_signAt : MethodName := ⟨RX0, "signAt", "(I)I"⟩
abbrev cX0_depth : ByteArray := prog_2_method_6_code
def yX0_depth : MethodName := ⟨RX0, "depth", "()I"⟩
abbrev cX0_depthOf : ByteArray := prog_2_method_7_code
def yX0_depthOf : MethodName := ⟨RX0, "depthOf", "(LRopeShelf$Cell;I)I"⟩
abbrev cX0_room : ByteArray := prog_2_method_8_code
def yX0_room : MethodName := ⟨RX0, "room", "()I"⟩
abbrev cX0_hasWideSign : ByteArray := prog_2_method_9_code
def yX0_hasWideSign : MethodName := ⟨RX0, "hasWideSign", "()Z"⟩
def RX1 : String := "RopeShelf$Pieces"
def TX1 : u_T := fun k => match k with
  | 0 => ("RopeShelf$Pieces", "row", "[LRopeShelf$Cell;", true)
  | _ => ("RopeShelf$Pieces", "many", "I", false)
def tyX1 : Nat → FieldType := fun k => match k with
  | 0 => .array (.object "RopeShelf$Cell")
  | _ => .int
abbrev wsX10 : List Cond := u_ws RX1 TX1 2
theorem nmX1 : ∀ a, a < 2 → ∀ b, b < 2 → a ≠ b → (TX1 a).2.1 ≠ (TX1 b).2.1 := by decide +kernel
theorem tyX1_ok : ∀ k, k < 2 → parseFieldDescriptor (TX1 k).2.2.1 = some (tyX1 k) := by decide +kernel
abbrev cX1_init : ByteArray := prog_3_method_1_code
def yX1_init : MethodName := ⟨RX1, "<init>", "()V"⟩
abbrev cX1_read : ByteArray := prog_3_method_2_code
def yX1_read : MethodName := ⟨RX1, "read", "(LRopeShelf$Cell;)V"⟩
abbrev cX1_readBoth : ByteArray := prog_3_method_3_code
def yX1_readBoth : MethodName := ⟨RX1, "readBoth", "(LRopeShelf$Cell;LRopeShelf$Cell;)V"⟩
abbrev cX1_addPieces : ByteArray := prog_3_method_4_code
def yX1_addPieces : MethodName := ⟨RX1, "addPieces", "(LRopeShelf$Cell;I)V"⟩
abbrev cX1_at : ByteArray := prog_3_method_5_code
def yX1_at : MethodName := ⟨RX1, "at", "(I)LRopeShelf$Cell;"⟩
abbrev cX1_firstPlaceOf : ByteArray := prog_3_method_6_code
def yX1_firstPlaceOf : MethodName := ⟨RX1, "firstPlaceOf", "(LRopeShelf$Cell;)I"⟩
def RX2 : String := "RopeShelf$Table"
def TX2 : u_T := fun k => match k with
  | 0 => ("RopeShelf$Table", "row", "[LRopeShelf$Cell;", true)
  | 1 => ("RopeShelf$Table", "numbers", "[I", true)
  | 2 => ("RopeShelf$Table", "size", "I", false)
  | _ => ("RopeShelf$Table", "ever", "I", false)
def tyX2 : Nat → FieldType := fun k => match k with
  | 0 => .array (.object "RopeShelf$Cell")
  | 1 => .array .int
  | 2 => .int
  | _ => .int
abbrev wsX20 : List Cond := u_ws RX2 TX2 4
theorem nmX2 : ∀ a, a < 4 → ∀ b, b < 4 → a ≠ b → (TX2 a).2.1 ≠ (TX2 b).2.1 := by decide +kernel
theorem tyX2_ok : ∀ k, k < 4 → parseFieldDescriptor (TX2 k).2.2.1 = some (tyX2 k) := by decide +kernel
abbrev cX2_init : ByteArray := prog_4_method_1_code
def yX2_init : MethodName := ⟨RX2, "<init>", "()V"⟩
abbrev cX2_isFull : ByteArray := prog_4_method_2_code
def yX2_isFull : MethodName := ⟨RX2, "isFull", "()Z"⟩
abbrev cX2_cellAt : ByteArray := prog_4_method_3_code
def yX2_cellAt : MethodName := ⟨RX2, "cellAt", "(I)LRopeShelf$Cell;"⟩
abbrev cX2_numberAt : ByteArray := prog_4_method_4_code
def yX2_numberAt : MethodName := ⟨RX2, "numberAt", "(I)I"⟩
abbrev cX2_enter : ByteArray := prog_4_method_5_code
def yX2_enter : MethodName := ⟨RX2, "enter", "(LRopeShelf$Cell;)I"⟩
abbrev cX2_dropUnmarked : ByteArray := prog_4_method_6_code
def yX2_dropUnmarked : MethodName := ⟨RX2, "dropUnmarked", "(LRopeShelf$Walk;)I"⟩
abbrev cX2_place : ByteArray := prog_4_method_7_code
def yX2_place : MethodName := ⟨RX2, "place", "(LRopeShelf$Cell;I)V"⟩
def RX3 : String := "RopeShelf$Text"
def TX3 : u_T := fun k => match k with
  | 0 => ("RopeShelf$Text", "row", "[I", true)
  | _ => ("RopeShelf$Text", "many", "I", false)
def tyX3 : Nat → FieldType := fun k => match k with
  | 0 => .array .int
  | _ => .int
abbrev wsX30 : List Cond := u_ws RX3 TX3 2
theorem nmX3 : ∀ a, a < 2 → ∀ b, b < 2 → a ≠ b → (TX3 a).2.1 ≠ (TX3 b).2.1 := by decide +kernel
theorem tyX3_ok : ∀ k, k < 2 → parseFieldDescriptor (TX3 k).2.2.1 = some (tyX3 k) := by decide +kernel
abbrev cX3_init : ByteArray := prog_5_method_1_code
def yX3_init : MethodName := ⟨RX3, "<init>", "()V"⟩
abbrev cX3_clear : ByteArray := prog_5_method_2_code
def yX3_clear : MethodName := ⟨RX3, "clear", "()V"⟩
abbrev cX3_addSign : ByteArray := prog_5_method_3_code
def yX3_addSign : MethodName := ⟨RX3, "addSign", "(I)V"⟩
abbrev cX3_read : ByteArray := prog_5_method_4_code
def yX3_read : MethodName := ⟨RX3, "read", "(LRopeShelf$Cell;)V"⟩
abbrev cX3_readBoth : ByteArray := prog_5_method_5_code
def yX3_readBoth : MethodName := ⟨RX3, "readBoth", "(LRopeShelf$Cell;LRopeShelf$Cell;)V"⟩
abbrev cX3_readPart : ByteArray := prog_5_method_6_code
def yX3_readPart : MethodName := ⟨RX3, "readPart", "(LRopeShelf$Cell;II)V"⟩
abbrev cX3_addCell : ByteArray := prog_5_method_7_code
def yX3_addCell : MethodName := ⟨RX3, "addCell", "(LRopeShelf$Cell;I)V"⟩
abbrev cX3_addSigns : ByteArray := prog_5_method_8_code
def yX3_addSigns : MethodName := ⟨RX3, "addSigns", "(LRopeShelf$Cell;II)V"⟩
abbrev cX3_toRow : ByteArray := prog_5_method_9_code
def yX3_toRow : MethodName := ⟨RX3, "toRow", "()[I"⟩
abbrev cX3_signAt : ByteArray := prog_5_method_10_code
def yX3_signAt : MethodName := ⟨RX3, "signAt", "(I)I"⟩
abbrev cX3_hashed : ByteArray := prog_5_method_11_code
def yX3_hashed : MethodName := ⟨RX3, "hashed", "()I"⟩
abbrev cX3_isWide : ByteArray := prog_5_method_12_code
def yX3_isWide : MethodName := ⟨RX3, "isWide", "()Z"⟩
abbrev cX3_isSameAs : ByteArray := prog_5_method_13_code
def yX3_isSameAs : MethodName := ⟨RX3, "isSameAs", "(LRopeShelf$Text;)Z"⟩
abbrev cX3_samePlaces : ByteArray := prog_5_method_14_code
def yX3_samePlaces : MethodName := ⟨RX3, "samePlaces", "(LRopeShelf$Text;)I"⟩
abbrev cX3_comesBefore : ByteArray := prog_5_method_15_code
def yX3_comesBefore : MethodName := ⟨RX3, "comesBefore", "(LRopeShelf$Text;)Z"⟩
abbrev cX3_placeOf : ByteArray := prog_5_method_16_code
def yX3_placeOf : MethodName := ⟨RX3, "placeOf", "(LRopeShelf$Text;)I"⟩
abbrev cX3_hasAt : ByteArray := prog_5_method_17_code
def yX3_hasAt : MethodName := ⟨RX3, "hasAt", "(ILRopeShelf$Text;)Z"⟩
def RX4 : String := "RopeShelf$Walk"
def TX4 : u_T := fun k => match k with
  | 0 => ("RopeShelf$Walk", "stamp", "I", false)
  | 1 => ("RopeShelf$Walk", "cells", "I", false)
  | _ => ("RopeShelf$Walk", "room", "I", false)
def tyX4 : Nat → FieldType := fun k => match k with
  | 0 => .int
  | 1 => .int
  | _ => .int
abbrev wsX40 : List Cond := u_ws RX4 TX4 3
theorem nmX4 : ∀ a, a < 3 → ∀ b, b < 3 → a ≠ b → (TX4 a).2.1 ≠ (TX4 b).2.1 := by decide +kernel
theorem tyX4_ok : ∀ k, k < 3 → parseFieldDescriptor (TX4 k).2.2.1 = some (tyX4 k) := by decide +kernel
abbrev cX4_init : ByteArray := prog_6_method_1_code
def yX4_init : MethodName := ⟨RX4, "<init>", "()V"⟩
abbrev cX4_overCell : ByteArray := prog_6_method_2_code
def yX4_overCell : MethodName := ⟨RX4, "overCell", "(LRopeShelf$Cell;)V"⟩
abbrev cX4_overAll : ByteArray := prog_6_method_3_code
def yX4_overAll : MethodName := ⟨RX4, "overAll", "([LRopeShelf$Cell;)V"⟩
abbrev cX4_cameBy : ByteArray := prog_6_method_4_code
def yX4_cameBy : MethodName := ⟨RX4, "cameBy", "(LRopeShelf$Cell;)Z"⟩
abbrev cX4_begin : ByteArray := prog_6_method_5_code
def yX4_begin : MethodName := ⟨RX4, "begin", "()V"⟩
abbrev cX4_visit : ByteArray := prog_6_method_6_code
def yX4_visit : MethodName := ⟨RX4, "visit", "(LRopeShelf$Cell;I)V"⟩
def RX5 : String := "RopeShelf$Weaver"
def TX5 : u_T := fun k => match k with
  | 0 => ("RopeShelf$Weaver", "rules", "[I", true)
  | 1 => ("RopeShelf$Weaver", "pieces", "LRopeShelf$Pieces;", true)
  | 2 => ("RopeShelf$Weaver", "text", "LRopeShelf$Text;", true)
  | 3 => ("RopeShelf$Weaver", "turn", "I", false)
  | _ => ("RopeShelf$Weaver", "spare", "LRopeShelf$Cell;", false)
def tyX5 : Nat → FieldType := fun k => match k with
  | 0 => .array .int
  | 1 => .object "RopeShelf$Pieces"
  | 2 => .object "RopeShelf$Text"
  | 3 => .int
  | _ => .object "RopeShelf$Cell"
abbrev wsX50 : List Cond := u_ws RX5 TX5 5
theorem nmX5 : ∀ a, a < 5 → ∀ b, b < 5 → a ≠ b → (TX5 a).2.1 ≠ (TX5 b).2.1 := by decide +kernel
theorem tyX5_ok : ∀ k, k < 5 → parseFieldDescriptor (TX5 k).2.2.1 = some (tyX5 k) := by decide +kernel
abbrev cX5_init : ByteArray := prog_7_method_1_code
def yX5_init : MethodName := ⟨RX5, "<init>", "()V"⟩
abbrev cX5_beginTurn : ByteArray := prog_7_method_2_code
def yX5_beginTurn : MethodName := ⟨RX5, "beginTurn", "()V"⟩
abbrev cX5_joined : ByteArray := prog_7_method_3_code
def yX5_joined : MethodName := ⟨RX5, "joined", "(LRopeShelf$Cell;LRopeShelf$Cell;)LRopeShelf$Cell;"⟩
abbrev cX5_balanced : ByteArray := prog_7_method_4_code
def yX5_balanced : MethodName := ⟨RX5, "balanced", "(III)LRopeShelf$Cell;"⟩
abbrev cX5_newJoin : ByteArray := prog_7_method_5_code
def yX5_newJoin : MethodName := ⟨RX5, "newJoin", "(LRopeShelf$Cell;LRopeShelf$Cell;)LRopeShelf$Cell;"⟩
abbrev cX5_release : ByteArray := prog_7_method_6_code
def yX5_release : MethodName := ⟨RX5, "release", "(LRopeShelf$Cell;I)V"⟩
abbrev cX5_cutOut : ByteArray := prog_7_method_7_code
def yX5_cutOut : MethodName := ⟨RX5, "cutOut", "(LRopeShelf$Cell;III)LRopeShelf$Cell;"⟩
abbrev cX5_cutOutOfLeaf : ByteArray := prog_7_method_8_code
def yX5_cutOutOfLeaf : MethodName := ⟨RX5, "cutOutOfLeaf", "(LRopeShelf$Cell;II)LRopeShelf$Cell;"⟩
abbrev cX5_cutOutOfJoin : ByteArray := prog_7_method_9_code
def yX5_cutOutOfJoin : MethodName := ⟨RX5, "cutOutOfJoin", "(LRopeShelf$Cell;III)LRopeShelf$Cell;"⟩
def RX6 : String := "RopeShelf"
def TX6 : u_T := fun k => match k with
  | 0 => ("RopeShelf", "slots", "[LRopeShelf$Cell;", true)
  | 1 => ("RopeShelf", "firstImage", "[LRopeShelf$Cell;", true)
  | 2 => ("RopeShelf", "secondImage", "[LRopeShelf$Cell;", true)
  | 3 => ("RopeShelf", "imagesKept", "I", false)
  | 4 => ("RopeShelf", "draft", "LRopeShelf$Text;", true)
  | 5 => ("RopeShelf", "table", "LRopeShelf$Table;", true)
  | 6 => ("RopeShelf", "pieces", "LRopeShelf$Pieces;", true)
  | 7 => ("RopeShelf", "weaver", "LRopeShelf$Weaver;", true)
  | 8 => ("RopeShelf", "walk", "LRopeShelf$Walk;", true)
  | 9 => ("RopeShelf", "firstText", "LRopeShelf$Text;", true)
  | _ => ("RopeShelf", "secondText", "LRopeShelf$Text;", true)
def tyX6 : Nat → FieldType := fun k => match k with
  | 0 => .array (.object "RopeShelf$Cell")
  | 1 => .array (.object "RopeShelf$Cell")
  | 2 => .array (.object "RopeShelf$Cell")
  | 3 => .int
  | 4 => .object "RopeShelf$Text"
  | 5 => .object "RopeShelf$Table"
  | 6 => .object "RopeShelf$Pieces"
  | 7 => .object "RopeShelf$Weaver"
  | 8 => .object "RopeShelf$Walk"
  | 9 => .object "RopeShelf$Text"
  | _ => .object "RopeShelf$Text"
abbrev wsX60 : List Cond := u_ws RX6 TX6 11
theorem nmX6 : ∀ a, a < 11 → ∀ b, b < 11 → a ≠ b → (TX6 a).2.1 ≠ (TX6 b).2.1 := by decide +kernel
theorem tyX6_ok : ∀ k, k < 11 → parseFieldDescriptor (TX6 k).2.2.1 = some (tyX6 k) := by decide +kernel
abbrev cX6_init : ByteArray := prog_1_method_1_code
def yX6_init : MethodName := ⟨RX6, "<init>", "()V"⟩
abbrev cX6_rule : ByteArray := prog_1_method_2_code
def yX6_rule : MethodName := ⟨RX6, "rule", "(II)I"⟩
abbrev cX6_say : ByteArray := prog_1_method_3_code
def yX6_say : MethodName := ⟨RX6, "say", "(I)I"⟩
abbrev cX6_put : ByteArray := prog_1_method_4_code
def yX6_put : MethodName := ⟨RX6, "put", "(I)I"⟩
abbrev cX6_copy : ByteArray := prog_1_method_5_code
def yX6_copy : MethodName := ⟨RX6, "copy", "(II)I"⟩
abbrev cX6_join : ByteArray := prog_1_method_6_code
def yX6_join : MethodName := ⟨RX6, "join", "(III)I"⟩
abbrev cX6_cut : ByteArray := prog_1_method_7_code
def yX6_cut : MethodName := ⟨RX6, "cut", "(IIII)I"⟩
abbrev cX6_flat : ByteArray := prog_1_method_8_code
def yX6_flat : MethodName := ⟨RX6, "flat", "(I)I"⟩
abbrev cX6_sign : ByteArray := prog_1_method_9_code
def yX6_sign : MethodName := ⟨RX6, "sign", "(II)I"⟩
abbrev cX6_hash : ByteArray := prog_1_method_10_code
def yX6_hash : MethodName := ⟨RX6, "hash", "(I)I"⟩
abbrev cX6_told : ByteArray := prog_1_method_11_code
def yX6_told : MethodName := ⟨RX6, "told", "(II)I"⟩
abbrev cX6_piece : ByteArray := prog_1_method_12_code
def yX6_piece : MethodName := ⟨RX6, "piece", "(III)I"⟩
abbrev cX6_alike : ByteArray := prog_1_method_13_code
def yX6_alike : MethodName := ⟨RX6, "alike", "(III)I"⟩
abbrev cX6_intern : ByteArray := prog_1_method_14_code
def yX6_intern : MethodName := ⟨RX6, "intern", "(I)I"⟩
abbrev cX6_sweep : ByteArray := prog_1_method_15_code
def yX6_sweep : MethodName := ⟨RX6, "sweep", "()I"⟩
abbrev cX6_entry : ByteArray := prog_1_method_16_code
def yX6_entry : MethodName := ⟨RX6, "entry", "(II)I"⟩
abbrev cX6_count : ByteArray := prog_1_method_17_code
def yX6_count : MethodName := ⟨RX6, "count", "(I)I"⟩
abbrev cX6_image : ByteArray := prog_1_method_18_code
def yX6_image : MethodName := ⟨RX6, "image", "(I)I"⟩
abbrev cX6_restore : ByteArray := prog_1_method_19_code
def yX6_restore : MethodName := ⟨RX6, "restore", "(I)I"⟩
abbrev cX6_isSlot : ByteArray := prog_1_method_20_code
def yX6_isSlot : MethodName := ⟨RX6, "isSlot", "(I)Z"⟩
abbrev cX6_isRule : ByteArray := prog_1_method_21_code
def yX6_isRule : MethodName := ⟨RX6, "isRule", "(I)Z"⟩
abbrev cX6_isImage : ByteArray := prog_1_method_22_code
def yX6_isImage : MethodName := ⟨RX6, "isImage", "(I)Z"⟩
abbrev cX6_asNumber : ByteArray := prog_1_method_23_code
def yX6_asNumber : MethodName := ⟨RX6, "asNumber", "(Z)I"⟩
abbrev cX6_cellOf : ByteArray := prog_1_method_24_code
def yX6_cellOf : MethodName := ⟨RX6, "cellOf", "(I)LRopeShelf$Cell;"⟩
abbrev cX6_hold : ByteArray := prog_1_method_25_code
def yX6_hold : MethodName := ⟨RX6, "hold", "(ILRopeShelf$Cell;)I"⟩
abbrev cX6_compareTexts : ByteArray := prog_1_method_26_code
def yX6_compareTexts : MethodName := ⟨RX6, "compareTexts", "(I)I"⟩
abbrev cX6_placeInTable : ByteArray := prog_1_method_27_code
def yX6_placeInTable : MethodName := ⟨RX6, "placeInTable", "(LRopeShelf$Cell;)I"⟩
abbrev cX6_slotsWith : ByteArray := prog_1_method_28_code
def yX6_slotsWith : MethodName := ⟨RX6, "slotsWith", "(LRopeShelf$Cell;)I"⟩
abbrev cX6_imageRow : ByteArray := prog_1_method_29_code
def yX6_imageRow : MethodName := ⟨RX6, "imageRow", "(I)[LRopeShelf$Cell;"⟩
abbrev cX6_moveCells : ByteArray := prog_1_method_30_code
def yX6_moveCells : MethodName := ⟨RX6, "moveCells", "([LRopeShelf$Cell;[LRopeShelf$Cell;)V"⟩
def RX7 : String := "RopeShelfModel"
def TX7 : u_T := fun k => match k with
  | 0 => ("RopeShelfModel", "kind", "[I", true)
  | 1 => ("RopeShelfModel", "one", "[I", true)
  | 2 => ("RopeShelfModel", "other", "[I", true)
  | 3 => ("RopeShelfModel", "size", "[I", true)
  | 4 => ("RopeShelfModel", "isMarked", "[Z", true)
  | 5 => ("RopeShelfModel", "spare", "I", false)
  | 6 => ("RopeShelfModel", "last", "I", false)
  | 7 => ("RopeShelfModel", "signs", "[I", true)
  | 8 => ("RopeShelfModel", "end", "I", false)
  | 9 => ("RopeShelfModel", "slots", "[I", true)
  | 10 => ("RopeShelfModel", "images", "[I", true)
  | 11 => ("RopeShelfModel", "isKept", "[Z", true)
  | 12 => ("RopeShelfModel", "entryCells", "[I", true)
  | 13 => ("RopeShelfModel", "entryNumbers", "[I", true)
  | 14 => ("RopeShelfModel", "entries", "I", false)
  | 15 => ("RopeShelfModel", "ever", "I", false)
  | 16 => ("RopeShelfModel", "draft", "[I", true)
  | 17 => ("RopeShelfModel", "drafted", "I", false)
  | 18 => ("RopeShelfModel", "small", "I", false)
  | 19 => ("RopeShelfModel", "deep", "I", false)
  | 20 => ("RopeShelfModel", "loose", "I", false)
  | 21 => ("RopeShelfModel", "text", "[I", true)
  | 22 => ("RopeShelfModel", "still", "[I", true)
  | 23 => ("RopeShelfModel", "pieces", "[I", true)
  | 24 => ("RopeShelfModel", "many", "I", false)
  | 25 => ("RopeShelfModel", "open", "[I", true)
  | 26 => ("RopeShelfModel", "level", "[I", true)
  | 27 => ("RopeShelfModel", "begins", "[I", true)
  | 28 => ("RopeShelfModel", "ends", "[I", true)
  | 29 => ("RopeShelfModel", "isHalved", "[Z", true)
  | 30 => ("RopeShelfModel", "done", "[I", true)
  | 31 => ("RopeShelfModel", "ranges", "I", false)
  | 32 => ("RopeShelfModel", "cutCell", "[I", true)
  | 33 => ("RopeShelfModel", "cutFrom", "[I", true)
  | 34 => ("RopeShelfModel", "cutSize", "[I", true)
  | 35 => ("RopeShelfModel", "cuts", "I", false)
  | 36 => ("RopeShelfModel", "parts", "[I", true)
  | 37 => ("RopeShelfModel", "own", "I", false)
  | _ => ("RopeShelfModel", "theirs", "I", false)
def tyX7 : Nat → FieldType := fun k => match k with
  | 0 => .array .int
  | 1 => .array .int
  | 2 => .array .int
  | 3 => .array .int
  | 4 => .array .boolean
  | 5 => .int
  | 6 => .int
  | 7 => .array .int
  | 8 => .int
  | 9 => .array .int
  | 10 => .array .int
  | 11 => .array .boolean
  | 12 => .array .int
  | 13 => .array .int
  | 14 => .int
  | 15 => .int
  | 16 => .array .int
  | 17 => .int
  | 18 => .int
  | 19 => .int
  | 20 => .int
  | 21 => .array .int
  | 22 => .array .int
  | 23 => .array .int
  | 24 => .int
  | 25 => .array .int
  | 26 => .array .int
  | 27 => .array .int
  | 28 => .array .int
  | 29 => .array .boolean
  | 30 => .array .int
  | 31 => .int
  | 32 => .array .int
  | 33 => .array .int
  | 34 => .array .int
  | 35 => .int
  | 36 => .array .int
  | 37 => .int
  | _ => .int
abbrev wsX70 : List Cond := u_ws RX7 TX7 39
theorem nmX7 : ∀ a, a < 39 → ∀ b, b < 39 → a ≠ b → (TX7 a).2.1 ≠ (TX7 b).2.1 := by decide +kernel
theorem tyX7_ok : ∀ k, k < 39 → parseFieldDescriptor (TX7 k).2.2.1 = some (tyX7 k) := by decide +kernel
abbrev cX7_init : ByteArray := prog_9_method_1_code
def yX7_init : MethodName := ⟨RX7, "<init>", "()V"⟩
abbrev cX7_in : ByteArray := prog_9_method_2_code
def yX7_in : MethodName := ⟨RX7, "in", "(III)Z"⟩
abbrev cX7_isSlot : ByteArray := prog_9_method_3_code
def yX7_isSlot : MethodName := ⟨RX7, "isSlot", "(I)Z"⟩
abbrev cX7_newCell : ByteArray := prog_9_method_4_code
def yX7_newCell : MethodName := ⟨RX7, "newCell", "(IIII)I"⟩
abbrev cX7_keepText : ByteArray := prog_9_method_5_code
def yX7_keepText : MethodName := ⟨RX7, "keepText", "(II)I"⟩
abbrev cX7_newLeaf : ByteArray := prog_9_method_6_code
def yX7_newLeaf : MethodName := ⟨RX7, "newLeaf", "(I)I"⟩
abbrev cX7_newJoin : ByteArray := prog_9_method_7_code
def yX7_newJoin : MethodName := ⟨RX7, "newJoin", "(II)I"⟩
abbrev cX7_clearMarks : ByteArray := prog_9_method_8_code
def yX7_clearMarks : MethodName := ⟨RX7, "clearMarks", "()V"⟩
abbrev cX7_mark : ByteArray := prog_9_method_9_code
def yX7_mark : MethodName := ⟨RX7, "mark", "(I)I"⟩
abbrev cX7_moveUp : ByteArray := prog_9_method_10_code
def yX7_moveUp : MethodName := ⟨RX7, "moveUp", "()V"⟩
abbrev cX7_makeRoom : ByteArray := prog_9_method_11_code
def yX7_makeRoom : MethodName := ⟨RX7, "makeRoom", "()V"⟩
abbrev cX7_layPieces : ByteArray := prog_9_method_12_code
def yX7_layPieces : MethodName := ⟨RX7, "layPieces", "(I)I"⟩
abbrev cX7_signOf : ByteArray := prog_9_method_13_code
def yX7_signOf : MethodName := ⟨RX7, "signOf", "(II)I"⟩
abbrev cX7_layText : ByteArray := prog_9_method_14_code
def yX7_layText : MethodName := ⟨RX7, "layText", "(II)I"⟩
abbrev cX7_push : ByteArray := prog_9_method_15_code
def yX7_push : MethodName := ⟨RX7, "push", "(IIZ)V"⟩
abbrev cX7_balanced : ByteArray := prog_9_method_16_code
def yX7_balanced : MethodName := ⟨RX7, "balanced", "()I"⟩
abbrev cX7_joined : ByteArray := prog_9_method_17_code
def yX7_joined : MethodName := ⟨RX7, "joined", "(II)I"⟩
abbrev cX7_toCut : ByteArray := prog_9_method_18_code
def yX7_toCut : MethodName := ⟨RX7, "toCut", "(III)V"⟩
abbrev cX7_cutLeaf : ByteArray := prog_9_method_19_code
def yX7_cutLeaf : MethodName := ⟨RX7, "cutLeaf", "(III)I"⟩
abbrev cX7_cutOne : ByteArray := prog_9_method_20_code
def yX7_cutOne : MethodName := ⟨RX7, "cutOne", "(IIII)I"⟩
abbrev cX7_cutOut : ByteArray := prog_9_method_21_code
def yX7_cutOut : MethodName := ⟨RX7, "cutOut", "(III)I"⟩
abbrev cX7_rule : ByteArray := prog_9_method_22_code
def yX7_rule : MethodName := ⟨RX7, "rule", "(II)I"⟩
abbrev cX7_say : ByteArray := prog_9_method_23_code
def yX7_say : MethodName := ⟨RX7, "say", "(I)I"⟩
abbrev cX7_put : ByteArray := prog_9_method_24_code
def yX7_put : MethodName := ⟨RX7, "put", "(I)I"⟩
abbrev cX7_copy : ByteArray := prog_9_method_25_code
def yX7_copy : MethodName := ⟨RX7, "copy", "(II)I"⟩
abbrev cX7_join : ByteArray := prog_9_method_26_code
def yX7_join : MethodName := ⟨RX7, "join", "(III)I"⟩
abbrev cX7_cut : ByteArray := prog_9_method_27_code
def yX7_cut : MethodName := ⟨RX7, "cut", "(IIII)I"⟩
abbrev cX7_flat : ByteArray := prog_9_method_28_code
def yX7_flat : MethodName := ⟨RX7, "flat", "(I)I"⟩
abbrev cX7_sign : ByteArray := prog_9_method_29_code
def yX7_sign : MethodName := ⟨RX7, "sign", "(II)I"⟩
abbrev cX7_hash : ByteArray := prog_9_method_30_code
def yX7_hash : MethodName := ⟨RX7, "hash", "(I)I"⟩
abbrev cX7_roomOf : ByteArray := prog_9_method_31_code
def yX7_roomOf : MethodName := ⟨RX7, "roomOf", "(I)I"⟩
abbrev cX7_roomOfMarked : ByteArray := prog_9_method_32_code
def yX7_roomOfMarked : MethodName := ⟨RX7, "roomOfMarked", "()I"⟩
abbrev cX7_isWide : ByteArray := prog_9_method_33_code
def yX7_isWide : MethodName := ⟨RX7, "isWide", "(I)Z"⟩
abbrev cX7_told : ByteArray := prog_9_method_34_code
def yX7_told : MethodName := ⟨RX7, "told", "(II)I"⟩
abbrev cX7_piece : ByteArray := prog_9_method_35_code
def yX7_piece : MethodName := ⟨RX7, "piece", "(III)I"⟩
abbrev cX7_layBoth : ByteArray := prog_9_method_36_code
def yX7_layBoth : MethodName := ⟨RX7, "layBoth", "(II)V"⟩
abbrev cX7_alikeSigns : ByteArray := prog_9_method_37_code
def yX7_alikeSigns : MethodName := ⟨RX7, "alikeSigns", "()I"⟩
abbrev cX7_areSame : ByteArray := prog_9_method_38_code
def yX7_areSame : MethodName := ⟨RX7, "areSame", "(II)Z"⟩
abbrev cX7_placeIn : ByteArray := prog_9_method_39_code
def yX7_placeIn : MethodName := ⟨RX7, "placeIn", "()I"⟩
abbrev cX7_comesFirst : ByteArray := prog_9_method_40_code
def yX7_comesFirst : MethodName := ⟨RX7, "comesFirst", "()Z"⟩
abbrev cX7_alike : ByteArray := prog_9_method_41_code
def yX7_alike : MethodName := ⟨RX7, "alike", "(III)I"⟩
abbrev cX7_intern : ByteArray := prog_9_method_42_code
def yX7_intern : MethodName := ⟨RX7, "intern", "(I)I"⟩
abbrev cX7_markHeld : ByteArray := prog_9_method_43_code
def yX7_markHeld : MethodName := ⟨RX7, "markHeld", "()I"⟩
abbrev cX7_sweep : ByteArray := prog_9_method_44_code
def yX7_sweep : MethodName := ⟨RX7, "sweep", "()I"⟩
abbrev cX7_entry : ByteArray := prog_9_method_45_code
def yX7_entry : MethodName := ⟨RX7, "entry", "(II)I"⟩
abbrev cX7_count : ByteArray := prog_9_method_46_code
def yX7_count : MethodName := ⟨RX7, "count", "(I)I"⟩
abbrev cX7_image : ByteArray := prog_9_method_47_code
def yX7_image : MethodName := ⟨RX7, "image", "(I)I"⟩
abbrev cX7_restore : ByteArray := prog_9_method_48_code
def yX7_restore : MethodName := ⟨RX7, "restore", "(I)I"⟩
def RJ9 : String := "java/lang/Math"
def TJ9 : u_T := fun k => match k with
  | _ => ("", "", "", false)
def tyJ9 : Nat → FieldType := fun k => match k with
  | _ => .int
abbrev wsJ90 : List Cond := u_ws RJ9 TJ9 0
theorem nmJ9 : ∀ a, a < 0 → ∀ b, b < 0 → a ≠ b → (TJ9 a).2.1 ≠ (TJ9 b).2.1 := by decide +kernel
theorem tyJ9_ok : ∀ k, k < 0 → parseFieldDescriptor (TJ9 k).2.2.1 = some (tyJ9 k) := by decide +kernel
abbrev cJ9_max_7cf53 : ByteArray := prog_10_method_65_code
def yJ9_max_7cf53 : MethodName := ⟨RJ9, "max", "(II)I"⟩
abbrev cJ9_min_7cf53 : ByteArray := prog_10_method_69_code
def yJ9_min_7cf53 : MethodName := ⟨RJ9, "min", "(II)I"⟩
def RL : String := "RopeShelfLaw"
abbrev cL_law : ByteArray := code
def yL_law : MethodName := ⟨RL, "law", "([I)Z"⟩
end
section
theorem dX7_init_0 : decode cX7_init 0 = .ok (.aload_n 0, 1) := by decide +kernel
theorem dX7_init_1 : decode cX7_init 1 = .ok (.invokespecial 1, 3) := by decide +kernel
theorem dX7_init_4 : decode cX7_init 4 = .ok (.aload_n 0, 1) := by decide +kernel
theorem dX7_init_5 : decode cX7_init 5 = .ok (.sipush 20480, 3) := by decide +kernel
theorem dX7_init_8 : decode cX7_init 8 = .ok (.newarray .int, 2) := by decide +kernel
theorem dX7_init_10 : decode cX7_init 10 = .ok (.putfield 7, 3) := by decide +kernel
theorem dX7_init_13 : decode cX7_init 13 = .ok (.aload_n 0, 1) := by decide +kernel
theorem dX7_init_14 : decode cX7_init 14 = .ok (.sipush 20480, 3) := by decide +kernel
theorem dX7_init_17 : decode cX7_init 17 = .ok (.newarray .int, 2) := by decide +kernel
theorem dX7_init_19 : decode cX7_init 19 = .ok (.putfield 13, 3) := by decide +kernel
theorem dX7_init_22 : decode cX7_init 22 = .ok (.aload_n 0, 1) := by decide +kernel
theorem dX7_init_23 : decode cX7_init 23 = .ok (.sipush 20480, 3) := by decide +kernel
theorem dX7_init_26 : decode cX7_init 26 = .ok (.newarray .int, 2) := by decide +kernel
theorem dX7_init_28 : decode cX7_init 28 = .ok (.putfield 16, 3) := by decide +kernel
theorem dX7_init_31 : decode cX7_init 31 = .ok (.aload_n 0, 1) := by decide +kernel
theorem dX7_init_32 : decode cX7_init 32 = .ok (.sipush 20480, 3) := by decide +kernel
theorem dX7_init_35 : decode cX7_init 35 = .ok (.newarray .int, 2) := by decide +kernel
theorem dX7_init_37 : decode cX7_init 37 = .ok (.putfield 19, 3) := by decide +kernel
theorem dX7_init_40 : decode cX7_init 40 = .ok (.aload_n 0, 1) := by decide +kernel
theorem dX7_init_41 : decode cX7_init 41 = .ok (.sipush 20480, 3) := by decide +kernel
theorem dX7_init_44 : decode cX7_init 44 = .ok (.newarray .boolean, 2) := by decide +kernel
theorem dX7_init_46 : decode cX7_init 46 = .ok (.putfield 22, 3) := by decide +kernel
theorem dX7_init_49 : decode cX7_init 49 = .ok (.aload_n 0, 1) := by decide +kernel
theorem dX7_init_50 : decode cX7_init 50 = .ok (.sipush 20480, 3) := by decide +kernel
theorem dX7_init_53 : decode cX7_init 53 = .ok (.putfield 26, 3) := by decide +kernel
theorem dX7_init_56 : decode cX7_init 56 = .ok (.aload_n 0, 1) := by decide +kernel
theorem dX7_init_57 : decode cX7_init 57 = .ok (.ldc 30, 2) := by decide +kernel
theorem dX7_init_59 : decode cX7_init 59 = .ok (.newarray .int, 2) := by decide +kernel
theorem dX7_init_61 : decode cX7_init 61 = .ok (.putfield 31, 3) := by decide +kernel
theorem dX7_init_64 : decode cX7_init 64 = .ok (.aload_n 0, 1) := by decide +kernel
theorem dX7_init_65 : decode cX7_init 65 = .ok (.bipush 8, 2) := by decide +kernel
theorem dX7_init_67 : decode cX7_init 67 = .ok (.newarray .int, 2) := by decide +kernel
theorem dX7_init_69 : decode cX7_init 69 = .ok (.putfield 34, 3) := by decide +kernel
theorem dX7_init_72 : decode cX7_init 72 = .ok (.aload_n 0, 1) := by decide +kernel
theorem dX7_init_73 : decode cX7_init 73 = .ok (.bipush 16, 2) := by decide +kernel
theorem dX7_init_75 : decode cX7_init 75 = .ok (.newarray .int, 2) := by decide +kernel
theorem dX7_init_77 : decode cX7_init 77 = .ok (.putfield 37, 3) := by decide +kernel
theorem dX7_init_80 : decode cX7_init 80 = .ok (.aload_n 0, 1) := by decide +kernel
theorem dX7_init_81 : decode cX7_init 81 = .ok (.iconst 2, 1) := by decide +kernel
theorem dX7_init_82 : decode cX7_init 82 = .ok (.newarray .boolean, 2) := by decide +kernel
theorem dX7_init_84 : decode cX7_init 84 = .ok (.putfield 40, 3) := by decide +kernel
theorem dX7_init_87 : decode cX7_init 87 = .ok (.aload_n 0, 1) := by decide +kernel
theorem dX7_init_88 : decode cX7_init 88 = .ok (.bipush 24, 2) := by decide +kernel
theorem dX7_init_90 : decode cX7_init 90 = .ok (.newarray .int, 2) := by decide +kernel
theorem dX7_init_92 : decode cX7_init 92 = .ok (.putfield 43, 3) := by decide +kernel
theorem dX7_init_95 : decode cX7_init 95 = .ok (.aload_n 0, 1) := by decide +kernel
theorem dX7_init_96 : decode cX7_init 96 = .ok (.bipush 24, 2) := by decide +kernel
theorem dX7_init_98 : decode cX7_init 98 = .ok (.newarray .int, 2) := by decide +kernel
theorem dX7_init_100 : decode cX7_init 100 = .ok (.putfield 46, 3) := by decide +kernel
theorem dX7_init_103 : decode cX7_init 103 = .ok (.aload_n 0, 1) := by decide +kernel
theorem dX7_init_104 : decode cX7_init 104 = .ok (.bipush 40, 2) := by decide +kernel
theorem dX7_init_106 : decode cX7_init 106 = .ok (.newarray .int, 2) := by decide +kernel
theorem dX7_init_108 : decode cX7_init 108 = .ok (.putfield 49, 3) := by decide +kernel
theorem dX7_init_111 : decode cX7_init 111 = .ok (.aload_n 0, 1) := by decide +kernel
theorem dX7_init_112 : decode cX7_init 112 = .ok (.bipush 8, 2) := by decide +kernel
theorem dX7_init_114 : decode cX7_init 114 = .ok (.putfield 52, 3) := by decide +kernel
theorem dX7_init_117 : decode cX7_init 117 = .ok (.aload_n 0, 1) := by decide +kernel
theorem dX7_init_118 : decode cX7_init 118 = .ok (.bipush 6, 2) := by decide +kernel
theorem dX7_init_120 : decode cX7_init 120 = .ok (.putfield 55, 3) := by decide +kernel
theorem dX7_init_123 : decode cX7_init 123 = .ok (.aload_n 0, 1) := by decide +kernel
theorem dX7_init_124 : decode cX7_init 124 = .ok (.iconst 4, 1) := by decide +kernel
theorem dX7_init_125 : decode cX7_init 125 = .ok (.putfield 58, 3) := by decide +kernel
theorem dX7_init_128 : decode cX7_init 128 = .ok (.aload_n 0, 1) := by decide +kernel
theorem dX7_init_129 : decode cX7_init 129 = .ok (.sipush 240, 3) := by decide +kernel
theorem dX7_init_132 : decode cX7_init 132 = .ok (.newarray .int, 2) := by decide +kernel
theorem dX7_init_134 : decode cX7_init 134 = .ok (.putfield 61, 3) := by decide +kernel
theorem dX7_init_137 : decode cX7_init 137 = .ok (.aload_n 0, 1) := by decide +kernel
theorem dX7_init_138 : decode cX7_init 138 = .ok (.sipush 20480, 3) := by decide +kernel
theorem dX7_init_141 : decode cX7_init 141 = .ok (.newarray .int, 2) := by decide +kernel
theorem dX7_init_143 : decode cX7_init 143 = .ok (.putfield 64, 3) := by decide +kernel
theorem dX7_init_146 : decode cX7_init 146 = .ok (.aload_n 0, 1) := by decide +kernel
theorem dX7_init_147 : decode cX7_init 147 = .ok (.sipush 240, 3) := by decide +kernel
theorem dX7_init_150 : decode cX7_init 150 = .ok (.newarray .int, 2) := by decide +kernel
theorem dX7_init_152 : decode cX7_init 152 = .ok (.putfield 67, 3) := by decide +kernel
theorem dX7_init_155 : decode cX7_init 155 = .ok (.aload_n 0, 1) := by decide +kernel
theorem dX7_init_156 : decode cX7_init 156 = .ok (.sipush 512, 3) := by decide +kernel
theorem dX7_init_159 : decode cX7_init 159 = .ok (.newarray .int, 2) := by decide +kernel
theorem dX7_init_161 : decode cX7_init 161 = .ok (.putfield 70, 3) := by decide +kernel
theorem dX7_init_164 : decode cX7_init 164 = .ok (.aload_n 0, 1) := by decide +kernel
theorem dX7_init_165 : decode cX7_init 165 = .ok (.sipush 512, 3) := by decide +kernel
theorem dX7_init_168 : decode cX7_init 168 = .ok (.newarray .int, 2) := by decide +kernel
theorem dX7_init_170 : decode cX7_init 170 = .ok (.putfield 73, 3) := by decide +kernel
theorem dX7_init_173 : decode cX7_init 173 = .ok (.aload_n 0, 1) := by decide +kernel
theorem dX7_init_174 : decode cX7_init 174 = .ok (.sipush 512, 3) := by decide +kernel
theorem dX7_init_177 : decode cX7_init 177 = .ok (.newarray .int, 2) := by decide +kernel
theorem dX7_init_179 : decode cX7_init 179 = .ok (.putfield 76, 3) := by decide +kernel
theorem dX7_init_182 : decode cX7_init 182 = .ok (.aload_n 0, 1) := by decide +kernel
theorem dX7_init_183 : decode cX7_init 183 = .ok (.sipush 512, 3) := by decide +kernel
theorem dX7_init_186 : decode cX7_init 186 = .ok (.newarray .int, 2) := by decide +kernel
theorem dX7_init_188 : decode cX7_init 188 = .ok (.putfield 79, 3) := by decide +kernel
theorem dX7_init_191 : decode cX7_init 191 = .ok (.aload_n 0, 1) := by decide +kernel
theorem dX7_init_192 : decode cX7_init 192 = .ok (.sipush 512, 3) := by decide +kernel
theorem dX7_init_195 : decode cX7_init 195 = .ok (.newarray .boolean, 2) := by decide +kernel
theorem dX7_init_197 : decode cX7_init 197 = .ok (.putfield 82, 3) := by decide +kernel
theorem dX7_init_200 : decode cX7_init 200 = .ok (.aload_n 0, 1) := by decide +kernel
theorem dX7_init_201 : decode cX7_init 201 = .ok (.sipush 512, 3) := by decide +kernel
theorem dX7_init_204 : decode cX7_init 204 = .ok (.newarray .int, 2) := by decide +kernel
theorem dX7_init_206 : decode cX7_init 206 = .ok (.putfield 85, 3) := by decide +kernel
theorem dX7_init_209 : decode cX7_init 209 = .ok (.aload_n 0, 1) := by decide +kernel
theorem dX7_init_210 : decode cX7_init 210 = .ok (.sipush 512, 3) := by decide +kernel
theorem dX7_init_213 : decode cX7_init 213 = .ok (.newarray .int, 2) := by decide +kernel
theorem dX7_init_215 : decode cX7_init 215 = .ok (.putfield 88, 3) := by decide +kernel
theorem dX7_init_218 : decode cX7_init 218 = .ok (.aload_n 0, 1) := by decide +kernel
theorem dX7_init_219 : decode cX7_init 219 = .ok (.sipush 512, 3) := by decide +kernel
theorem dX7_init_222 : decode cX7_init 222 = .ok (.newarray .int, 2) := by decide +kernel
theorem dX7_init_224 : decode cX7_init 224 = .ok (.putfield 91, 3) := by decide +kernel
theorem dX7_init_227 : decode cX7_init 227 = .ok (.aload_n 0, 1) := by decide +kernel
theorem dX7_init_228 : decode cX7_init 228 = .ok (.sipush 512, 3) := by decide +kernel
theorem dX7_init_231 : decode cX7_init 231 = .ok (.newarray .int, 2) := by decide +kernel
theorem dX7_init_233 : decode cX7_init 233 = .ok (.putfield 94, 3) := by decide +kernel
theorem dX7_init_236 : decode cX7_init 236 = .ok (.aload_n 0, 1) := by decide +kernel
theorem dX7_init_237 : decode cX7_init 237 = .ok (.sipush 512, 3) := by decide +kernel
theorem dX7_init_240 : decode cX7_init 240 = .ok (.newarray .int, 2) := by decide +kernel
theorem dX7_init_242 : decode cX7_init 242 = .ok (.putfield 97, 3) := by decide +kernel
theorem dX7_init_245 : decode cX7_init 245 = .ok (.iconst 0, 1) := by decide +kernel
theorem dX7_init_246 : decode cX7_init 246 = .ok (.istore_n 1, 1) := by decide +kernel
theorem dX7_init_247 : decode cX7_init 247 = .ok (.iload_n 1, 1) := by decide +kernel
theorem dX7_init_248 : decode cX7_init 248 = .ok (.bipush 8, 2) := by decide +kernel
theorem dX7_init_250 : decode cX7_init 250 = .ok (.if_icmp .ge 20, 3) := by decide +kernel
theorem dX7_init_253 : decode cX7_init 253 = .ok (.aload_n 0, 1) := by decide +kernel
theorem dX7_init_254 : decode cX7_init 254 = .ok (.getfield 34, 3) := by decide +kernel
theorem dX7_init_257 : decode cX7_init 257 = .ok (.iload_n 1, 1) := by decide +kernel
theorem dX7_init_258 : decode cX7_init 258 = .ok (.aload_n 0, 1) := by decide +kernel
theorem dX7_init_259 : decode cX7_init 259 = .ok (.iconst 0, 1) := by decide +kernel
theorem dX7_init_260 : decode cX7_init 260 = .ok (.invokevirtual 100, 3) := by decide +kernel
theorem dX7_init_263 : decode cX7_init 263 = .ok (.iastore, 1) := by decide +kernel
theorem dX7_init_264 : decode cX7_init 264 = .ok (.iinc 1 1, 3) := by decide +kernel
theorem dX7_init_267 : decode cX7_init 267 = .ok (.goto (-20), 3) := by decide +kernel
theorem dX7_init_270 : decode cX7_init 270 = .ok (.return_, 1) := by decide +kernel
theorem dX7_in_0 : decode cX7_in 0 = .ok (.iload_n 0, 1) := by decide +kernel
theorem dX7_in_1 : decode cX7_in 1 = .ok (.iload_n 1, 1) := by decide +kernel
theorem dX7_in_2 : decode cX7_in 2 = .ok (.if_icmp .lt 12, 3) := by decide +kernel
theorem dX7_in_5 : decode cX7_in 5 = .ok (.iload_n 0, 1) := by decide +kernel
theorem dX7_in_6 : decode cX7_in 6 = .ok (.iload_n 2, 1) := by decide +kernel
theorem dX7_in_7 : decode cX7_in 7 = .ok (.if_icmp .gt 7, 3) := by decide +kernel
theorem dX7_in_10 : decode cX7_in 10 = .ok (.iconst 1, 1) := by decide +kernel
theorem dX7_in_11 : decode cX7_in 11 = .ok (.goto 4, 3) := by decide +kernel
theorem dX7_in_14 : decode cX7_in 14 = .ok (.iconst 0, 1) := by decide +kernel
theorem dX7_in_15 : decode cX7_in 15 = .ok (.ireturn, 1) := by decide +kernel
theorem dX7_isSlot_0 : decode cX7_isSlot 0 = .ok (.iload_n 0, 1) := by decide +kernel
theorem dX7_isSlot_1 : decode cX7_isSlot 1 = .ok (.iconst 0, 1) := by decide +kernel
theorem dX7_isSlot_2 : decode cX7_isSlot 2 = .ok (.bipush 7, 2) := by decide +kernel
theorem dX7_isSlot_4 : decode cX7_isSlot 4 = .ok (.invokestatic 104, 3) := by decide +kernel
theorem dX7_isSlot_7 : decode cX7_isSlot 7 = .ok (.ireturn, 1) := by decide +kernel
theorem dX7_newCell_0 : decode cX7_newCell 0 = .ok (.aload_n 0, 1) := by decide +kernel
theorem dX7_newCell_1 : decode cX7_newCell 1 = .ok (.getfield 7, 3) := by decide +kernel
theorem dX7_newCell_4 : decode cX7_newCell 4 = .ok (.aload_n 0, 1) := by decide +kernel
theorem dX7_newCell_5 : decode cX7_newCell 5 = .ok (.getfield 108, 3) := by decide +kernel
theorem dX7_newCell_8 : decode cX7_newCell 8 = .ok (.iaload, 1) := by decide +kernel
theorem dX7_newCell_9 : decode cX7_newCell 9 = .ok (.ifCond .eq 20, 3) := by decide +kernel
theorem dX7_newCell_12 : decode cX7_newCell 12 = .ok (.aload_n 0, 1) := by decide +kernel
theorem dX7_newCell_13 : decode cX7_newCell 13 = .ok (.aload_n 0, 1) := by decide +kernel
theorem dX7_newCell_14 : decode cX7_newCell 14 = .ok (.getfield 108, 3) := by decide +kernel
theorem dX7_newCell_17 : decode cX7_newCell 17 = .ok (.iconst 1, 1) := by decide +kernel
theorem dX7_newCell_18 : decode cX7_newCell 18 = .ok (.iadd, 1) := by decide +kernel
theorem dX7_newCell_19 : decode cX7_newCell 19 = .ok (.sipush 20480, 3) := by decide +kernel
theorem dX7_newCell_22 : decode cX7_newCell 22 = .ok (.irem, 1) := by decide +kernel
theorem dX7_newCell_23 : decode cX7_newCell 23 = .ok (.putfield 108, 3) := by decide +kernel
theorem dX7_newCell_26 : decode cX7_newCell 26 = .ok (.goto (-26), 3) := by decide +kernel
theorem dX7_newCell_29 : decode cX7_newCell 29 = .ok (.aload_n 0, 1) := by decide +kernel
theorem dX7_newCell_30 : decode cX7_newCell 30 = .ok (.getfield 7, 3) := by decide +kernel
theorem dX7_newCell_33 : decode cX7_newCell 33 = .ok (.aload_n 0, 1) := by decide +kernel
theorem dX7_newCell_34 : decode cX7_newCell 34 = .ok (.getfield 108, 3) := by decide +kernel
theorem dX7_newCell_37 : decode cX7_newCell 37 = .ok (.iload_n 1, 1) := by decide +kernel
theorem dX7_newCell_38 : decode cX7_newCell 38 = .ok (.iastore, 1) := by decide +kernel
theorem dX7_newCell_39 : decode cX7_newCell 39 = .ok (.aload_n 0, 1) := by decide +kernel
theorem dX7_newCell_40 : decode cX7_newCell 40 = .ok (.getfield 13, 3) := by decide +kernel
theorem dX7_newCell_43 : decode cX7_newCell 43 = .ok (.aload_n 0, 1) := by decide +kernel
theorem dX7_newCell_44 : decode cX7_newCell 44 = .ok (.getfield 108, 3) := by decide +kernel
theorem dX7_newCell_47 : decode cX7_newCell 47 = .ok (.iload_n 2, 1) := by decide +kernel
theorem dX7_newCell_48 : decode cX7_newCell 48 = .ok (.iastore, 1) := by decide +kernel
theorem dX7_newCell_49 : decode cX7_newCell 49 = .ok (.aload_n 0, 1) := by decide +kernel
theorem dX7_newCell_50 : decode cX7_newCell 50 = .ok (.getfield 16, 3) := by decide +kernel
theorem dX7_newCell_53 : decode cX7_newCell 53 = .ok (.aload_n 0, 1) := by decide +kernel
theorem dX7_newCell_54 : decode cX7_newCell 54 = .ok (.getfield 108, 3) := by decide +kernel
theorem dX7_newCell_57 : decode cX7_newCell 57 = .ok (.iload_n 3, 1) := by decide +kernel
theorem dX7_newCell_58 : decode cX7_newCell 58 = .ok (.iastore, 1) := by decide +kernel
theorem dX7_newCell_59 : decode cX7_newCell 59 = .ok (.aload_n 0, 1) := by decide +kernel
theorem dX7_newCell_60 : decode cX7_newCell 60 = .ok (.getfield 19, 3) := by decide +kernel
theorem dX7_newCell_63 : decode cX7_newCell 63 = .ok (.aload_n 0, 1) := by decide +kernel
theorem dX7_newCell_64 : decode cX7_newCell 64 = .ok (.getfield 108, 3) := by decide +kernel
theorem dX7_newCell_67 : decode cX7_newCell 67 = .ok (.iload 4, 2) := by decide +kernel
theorem dX7_newCell_69 : decode cX7_newCell 69 = .ok (.iastore, 1) := by decide +kernel
theorem dX7_newCell_70 : decode cX7_newCell 70 = .ok (.aload_n 0, 1) := by decide +kernel
theorem dX7_newCell_71 : decode cX7_newCell 71 = .ok (.dup, 1) := by decide +kernel
theorem dX7_newCell_72 : decode cX7_newCell 72 = .ok (.getfield 26, 3) := by decide +kernel
theorem dX7_newCell_75 : decode cX7_newCell 75 = .ok (.iconst 1, 1) := by decide +kernel
theorem dX7_newCell_76 : decode cX7_newCell 76 = .ok (.isub, 1) := by decide +kernel
theorem dX7_newCell_77 : decode cX7_newCell 77 = .ok (.putfield 26, 3) := by decide +kernel
theorem dX7_newCell_80 : decode cX7_newCell 80 = .ok (.aload_n 0, 1) := by decide +kernel
theorem dX7_newCell_81 : decode cX7_newCell 81 = .ok (.getfield 108, 3) := by decide +kernel
theorem dX7_newCell_84 : decode cX7_newCell 84 = .ok (.ireturn, 1) := by decide +kernel
theorem dX7_keepText_0 : decode cX7_keepText 0 = .ok (.aload_n 0, 1) := by decide +kernel
theorem dX7_keepText_1 : decode cX7_keepText 1 = .ok (.getfield 31, 3) := by decide +kernel
theorem dX7_keepText_4 : decode cX7_keepText 4 = .ok (.aload_n 0, 1) := by decide +kernel
theorem dX7_keepText_5 : decode cX7_keepText 5 = .ok (.getfield 111, 3) := by decide +kernel
theorem dX7_keepText_8 : decode cX7_keepText 8 = .ok (.iload_n 1, 1) := by decide +kernel
theorem dX7_keepText_9 : decode cX7_keepText 9 = .ok (.iastore, 1) := by decide +kernel
theorem dX7_keepText_10 : decode cX7_keepText 10 = .ok (.aload_n 0, 1) := by decide +kernel
theorem dX7_keepText_11 : decode cX7_keepText 11 = .ok (.getfield 31, 3) := by decide +kernel
theorem dX7_keepText_14 : decode cX7_keepText 14 = .ok (.aload_n 0, 1) := by decide +kernel
theorem dX7_keepText_15 : decode cX7_keepText 15 = .ok (.getfield 111, 3) := by decide +kernel
theorem dX7_keepText_18 : decode cX7_keepText 18 = .ok (.iconst 1, 1) := by decide +kernel
theorem dX7_keepText_19 : decode cX7_keepText 19 = .ok (.iadd, 1) := by decide +kernel
theorem dX7_keepText_20 : decode cX7_keepText 20 = .ok (.iload_n 2, 1) := by decide +kernel
theorem dX7_keepText_21 : decode cX7_keepText 21 = .ok (.iastore, 1) := by decide +kernel
theorem dX7_keepText_22 : decode cX7_keepText 22 = .ok (.iconst 0, 1) := by decide +kernel
theorem dX7_keepText_23 : decode cX7_keepText 23 = .ok (.istore_n 3, 1) := by decide +kernel
theorem dX7_keepText_24 : decode cX7_keepText 24 = .ok (.iload_n 3, 1) := by decide +kernel
theorem dX7_keepText_25 : decode cX7_keepText 25 = .ok (.iload_n 2, 1) := by decide +kernel
theorem dX7_keepText_26 : decode cX7_keepText 26 = .ok (.if_icmp .ge 28, 3) := by decide +kernel
theorem dX7_keepText_29 : decode cX7_keepText 29 = .ok (.aload_n 0, 1) := by decide +kernel
theorem dX7_keepText_30 : decode cX7_keepText 30 = .ok (.getfield 31, 3) := by decide +kernel
theorem dX7_keepText_33 : decode cX7_keepText 33 = .ok (.aload_n 0, 1) := by decide +kernel
theorem dX7_keepText_34 : decode cX7_keepText 34 = .ok (.getfield 111, 3) := by decide +kernel
theorem dX7_keepText_37 : decode cX7_keepText 37 = .ok (.iconst 2, 1) := by decide +kernel
theorem dX7_keepText_38 : decode cX7_keepText 38 = .ok (.iadd, 1) := by decide +kernel
theorem dX7_keepText_39 : decode cX7_keepText 39 = .ok (.iload_n 3, 1) := by decide +kernel
theorem dX7_keepText_40 : decode cX7_keepText 40 = .ok (.iadd, 1) := by decide +kernel
theorem dX7_keepText_41 : decode cX7_keepText 41 = .ok (.aload_n 0, 1) := by decide +kernel
theorem dX7_keepText_42 : decode cX7_keepText 42 = .ok (.getfield 61, 3) := by decide +kernel
theorem dX7_keepText_45 : decode cX7_keepText 45 = .ok (.iload_n 3, 1) := by decide +kernel
theorem dX7_keepText_46 : decode cX7_keepText 46 = .ok (.iaload, 1) := by decide +kernel
theorem dX7_keepText_47 : decode cX7_keepText 47 = .ok (.iastore, 1) := by decide +kernel
theorem dX7_keepText_48 : decode cX7_keepText 48 = .ok (.iinc 3 1, 3) := by decide +kernel
theorem dX7_keepText_51 : decode cX7_keepText 51 = .ok (.goto (-27), 3) := by decide +kernel
theorem dX7_keepText_54 : decode cX7_keepText 54 = .ok (.aload_n 0, 1) := by decide +kernel
theorem dX7_keepText_55 : decode cX7_keepText 55 = .ok (.getfield 111, 3) := by decide +kernel
theorem dX7_keepText_58 : decode cX7_keepText 58 = .ok (.iconst 2, 1) := by decide +kernel
theorem dX7_keepText_59 : decode cX7_keepText 59 = .ok (.iadd, 1) := by decide +kernel
theorem dX7_keepText_60 : decode cX7_keepText 60 = .ok (.istore_n 3, 1) := by decide +kernel
theorem dX7_keepText_61 : decode cX7_keepText 61 = .ok (.aload_n 0, 1) := by decide +kernel
theorem dX7_keepText_62 : decode cX7_keepText 62 = .ok (.dup, 1) := by decide +kernel
theorem dX7_keepText_63 : decode cX7_keepText 63 = .ok (.getfield 111, 3) := by decide +kernel
theorem dX7_keepText_66 : decode cX7_keepText 66 = .ok (.iload_n 2, 1) := by decide +kernel
theorem dX7_keepText_67 : decode cX7_keepText 67 = .ok (.iconst 2, 1) := by decide +kernel
theorem dX7_keepText_68 : decode cX7_keepText 68 = .ok (.iadd, 1) := by decide +kernel
theorem dX7_keepText_69 : decode cX7_keepText 69 = .ok (.iadd, 1) := by decide +kernel
theorem dX7_keepText_70 : decode cX7_keepText 70 = .ok (.putfield 111, 3) := by decide +kernel
theorem dX7_keepText_73 : decode cX7_keepText 73 = .ok (.iload_n 3, 1) := by decide +kernel
theorem dX7_keepText_74 : decode cX7_keepText 74 = .ok (.ireturn, 1) := by decide +kernel
theorem dX7_newLeaf_0 : decode cX7_newLeaf 0 = .ok (.aload_n 0, 1) := by decide +kernel
theorem dX7_newLeaf_1 : decode cX7_newLeaf 1 = .ok (.iconst 1, 1) := by decide +kernel
theorem dX7_newLeaf_2 : decode cX7_newLeaf 2 = .ok (.iconst 0, 1) := by decide +kernel
theorem dX7_newLeaf_3 : decode cX7_newLeaf 3 = .ok (.iconst 0, 1) := by decide +kernel
theorem dX7_newLeaf_4 : decode cX7_newLeaf 4 = .ok (.iload_n 1, 1) := by decide +kernel
theorem dX7_newLeaf_5 : decode cX7_newLeaf 5 = .ok (.invokevirtual 114, 3) := by decide +kernel
theorem dX7_newLeaf_8 : decode cX7_newLeaf 8 = .ok (.istore_n 2, 1) := by decide +kernel
theorem dX7_newLeaf_9 : decode cX7_newLeaf 9 = .ok (.aload_n 0, 1) := by decide +kernel
theorem dX7_newLeaf_10 : decode cX7_newLeaf 10 = .ok (.getfield 13, 3) := by decide +kernel
theorem dX7_newLeaf_13 : decode cX7_newLeaf 13 = .ok (.iload_n 2, 1) := by decide +kernel
theorem dX7_newLeaf_14 : decode cX7_newLeaf 14 = .ok (.aload_n 0, 1) := by decide +kernel
theorem dX7_newLeaf_15 : decode cX7_newLeaf 15 = .ok (.iload_n 2, 1) := by decide +kernel
theorem dX7_newLeaf_16 : decode cX7_newLeaf 16 = .ok (.iload_n 1, 1) := by decide +kernel
theorem dX7_newLeaf_17 : decode cX7_newLeaf 17 = .ok (.invokevirtual 118, 3) := by decide +kernel
theorem dX7_newLeaf_20 : decode cX7_newLeaf 20 = .ok (.iastore, 1) := by decide +kernel
theorem dX7_newLeaf_21 : decode cX7_newLeaf 21 = .ok (.iload_n 2, 1) := by decide +kernel
theorem dX7_newLeaf_22 : decode cX7_newLeaf 22 = .ok (.ireturn, 1) := by decide +kernel
theorem dX7_newJoin_0 : decode cX7_newJoin 0 = .ok (.aload_n 0, 1) := by decide +kernel
theorem dX7_newJoin_1 : decode cX7_newJoin 1 = .ok (.iconst 2, 1) := by decide +kernel
theorem dX7_newJoin_2 : decode cX7_newJoin 2 = .ok (.iload_n 1, 1) := by decide +kernel
theorem dX7_newJoin_3 : decode cX7_newJoin 3 = .ok (.iload_n 2, 1) := by decide +kernel
theorem dX7_newJoin_4 : decode cX7_newJoin 4 = .ok (.aload_n 0, 1) := by decide +kernel
theorem dX7_newJoin_5 : decode cX7_newJoin 5 = .ok (.getfield 19, 3) := by decide +kernel
theorem dX7_newJoin_8 : decode cX7_newJoin 8 = .ok (.iload_n 1, 1) := by decide +kernel
theorem dX7_newJoin_9 : decode cX7_newJoin 9 = .ok (.iaload, 1) := by decide +kernel
theorem dX7_newJoin_10 : decode cX7_newJoin 10 = .ok (.aload_n 0, 1) := by decide +kernel
theorem dX7_newJoin_11 : decode cX7_newJoin 11 = .ok (.getfield 19, 3) := by decide +kernel
theorem dX7_newJoin_14 : decode cX7_newJoin 14 = .ok (.iload_n 2, 1) := by decide +kernel
theorem dX7_newJoin_15 : decode cX7_newJoin 15 = .ok (.iaload, 1) := by decide +kernel
theorem dX7_newJoin_16 : decode cX7_newJoin 16 = .ok (.iadd, 1) := by decide +kernel
theorem dX7_newJoin_17 : decode cX7_newJoin 17 = .ok (.invokevirtual 114, 3) := by decide +kernel
theorem dX7_newJoin_20 : decode cX7_newJoin 20 = .ok (.ireturn, 1) := by decide +kernel
theorem dX7_clearMarks_0 : decode cX7_clearMarks 0 = .ok (.iconst 0, 1) := by decide +kernel
theorem dX7_clearMarks_1 : decode cX7_clearMarks 1 = .ok (.istore_n 1, 1) := by decide +kernel
theorem dX7_clearMarks_2 : decode cX7_clearMarks 2 = .ok (.iload_n 1, 1) := by decide +kernel
theorem dX7_clearMarks_3 : decode cX7_clearMarks 3 = .ok (.sipush 20480, 3) := by decide +kernel
theorem dX7_clearMarks_6 : decode cX7_clearMarks 6 = .ok (.if_icmp .ge 16, 3) := by decide +kernel
theorem dX7_clearMarks_9 : decode cX7_clearMarks 9 = .ok (.aload_n 0, 1) := by decide +kernel
theorem dX7_clearMarks_10 : decode cX7_clearMarks 10 = .ok (.getfield 22, 3) := by decide +kernel
theorem dX7_clearMarks_13 : decode cX7_clearMarks 13 = .ok (.iload_n 1, 1) := by decide +kernel
theorem dX7_clearMarks_14 : decode cX7_clearMarks 14 = .ok (.iconst 0, 1) := by decide +kernel
theorem dX7_clearMarks_15 : decode cX7_clearMarks 15 = .ok (.bastore, 1) := by decide +kernel
theorem dX7_clearMarks_16 : decode cX7_clearMarks 16 = .ok (.iinc 1 1, 3) := by decide +kernel
theorem dX7_clearMarks_19 : decode cX7_clearMarks 19 = .ok (.goto (-17), 3) := by decide +kernel
theorem dX7_clearMarks_22 : decode cX7_clearMarks 22 = .ok (.return_, 1) := by decide +kernel
theorem dX7_mark_0 : decode cX7_mark 0 = .ok (.iconst 0, 1) := by decide +kernel
theorem dX7_mark_1 : decode cX7_mark 1 = .ok (.istore_n 2, 1) := by decide +kernel
theorem dX7_mark_2 : decode cX7_mark 2 = .ok (.iconst 0, 1) := by decide +kernel
theorem dX7_mark_3 : decode cX7_mark 3 = .ok (.istore_n 3, 1) := by decide +kernel
theorem dX7_mark_4 : decode cX7_mark 4 = .ok (.aload_n 0, 1) := by decide +kernel
theorem dX7_mark_5 : decode cX7_mark 5 = .ok (.getfield 22, 3) := by decide +kernel
theorem dX7_mark_8 : decode cX7_mark 8 = .ok (.iload_n 1, 1) := by decide +kernel
theorem dX7_mark_9 : decode cX7_mark 9 = .ok (.baload, 1) := by decide +kernel
theorem dX7_mark_10 : decode cX7_mark 10 = .ok (.ifCond .ne 19, 3) := by decide +kernel
theorem dX7_mark_13 : decode cX7_mark 13 = .ok (.aload_n 0, 1) := by decide +kernel
theorem dX7_mark_14 : decode cX7_mark 14 = .ok (.getfield 22, 3) := by decide +kernel
theorem dX7_mark_17 : decode cX7_mark 17 = .ok (.iload_n 1, 1) := by decide +kernel
theorem dX7_mark_18 : decode cX7_mark 18 = .ok (.iconst 1, 1) := by decide +kernel
theorem dX7_mark_19 : decode cX7_mark 19 = .ok (.bastore, 1) := by decide +kernel
theorem dX7_mark_20 : decode cX7_mark 20 = .ok (.aload_n 0, 1) := by decide +kernel
theorem dX7_mark_21 : decode cX7_mark 21 = .ok (.getfield 64, 3) := by decide +kernel
theorem dX7_mark_24 : decode cX7_mark 24 = .ok (.iconst 0, 1) := by decide +kernel
theorem dX7_mark_25 : decode cX7_mark 25 = .ok (.iload_n 1, 1) := by decide +kernel
theorem dX7_mark_26 : decode cX7_mark 26 = .ok (.iastore, 1) := by decide +kernel
theorem dX7_mark_27 : decode cX7_mark 27 = .ok (.iconst 1, 1) := by decide +kernel
theorem dX7_mark_28 : decode cX7_mark 28 = .ok (.istore_n 3, 1) := by decide +kernel
theorem dX7_mark_29 : decode cX7_mark 29 = .ok (.iload_n 3, 1) := by decide +kernel
theorem dX7_mark_30 : decode cX7_mark 30 = .ok (.ifCond .le 130, 3) := by decide +kernel
theorem dX7_mark_33 : decode cX7_mark 33 = .ok (.iinc 3 (-1), 3) := by decide +kernel
theorem dX7_mark_36 : decode cX7_mark 36 = .ok (.aload_n 0, 1) := by decide +kernel
theorem dX7_mark_37 : decode cX7_mark 37 = .ok (.getfield 64, 3) := by decide +kernel
theorem dX7_mark_40 : decode cX7_mark 40 = .ok (.iload_n 3, 1) := by decide +kernel
theorem dX7_mark_41 : decode cX7_mark 41 = .ok (.iaload, 1) := by decide +kernel
theorem dX7_mark_42 : decode cX7_mark 42 = .ok (.istore 4, 2) := by decide +kernel
theorem dX7_mark_44 : decode cX7_mark 44 = .ok (.iinc 2 1, 3) := by decide +kernel
theorem dX7_mark_47 : decode cX7_mark 47 = .ok (.aload_n 0, 1) := by decide +kernel
theorem dX7_mark_48 : decode cX7_mark 48 = .ok (.getfield 7, 3) := by decide +kernel
theorem dX7_mark_51 : decode cX7_mark 51 = .ok (.iload 4, 2) := by decide +kernel
theorem dX7_mark_53 : decode cX7_mark 53 = .ok (.iaload, 1) := by decide +kernel
theorem dX7_mark_54 : decode cX7_mark 54 = .ok (.iconst 1, 1) := by decide +kernel
theorem dX7_mark_55 : decode cX7_mark 55 = .ok (.if_icmp .eq 47, 3) := by decide +kernel
theorem dX7_mark_58 : decode cX7_mark 58 = .ok (.aload_n 0, 1) := by decide +kernel
theorem dX7_mark_59 : decode cX7_mark 59 = .ok (.getfield 22, 3) := by decide +kernel
theorem dX7_mark_62 : decode cX7_mark 62 = .ok (.aload_n 0, 1) := by decide +kernel
theorem dX7_mark_63 : decode cX7_mark 63 = .ok (.getfield 13, 3) := by decide +kernel
theorem dX7_mark_66 : decode cX7_mark 66 = .ok (.iload 4, 2) := by decide +kernel
theorem dX7_mark_68 : decode cX7_mark 68 = .ok (.iaload, 1) := by decide +kernel
theorem dX7_mark_69 : decode cX7_mark 69 = .ok (.baload, 1) := by decide +kernel
theorem dX7_mark_70 : decode cX7_mark 70 = .ok (.ifCond .ne 32, 3) := by decide +kernel
theorem dX7_mark_73 : decode cX7_mark 73 = .ok (.aload_n 0, 1) := by decide +kernel
theorem dX7_mark_74 : decode cX7_mark 74 = .ok (.getfield 22, 3) := by decide +kernel
theorem dX7_mark_77 : decode cX7_mark 77 = .ok (.aload_n 0, 1) := by decide +kernel
theorem dX7_mark_78 : decode cX7_mark 78 = .ok (.getfield 13, 3) := by decide +kernel
theorem dX7_mark_81 : decode cX7_mark 81 = .ok (.iload 4, 2) := by decide +kernel
theorem dX7_mark_83 : decode cX7_mark 83 = .ok (.iaload, 1) := by decide +kernel
theorem dX7_mark_84 : decode cX7_mark 84 = .ok (.iconst 1, 1) := by decide +kernel
theorem dX7_mark_85 : decode cX7_mark 85 = .ok (.bastore, 1) := by decide +kernel
theorem dX7_mark_86 : decode cX7_mark 86 = .ok (.aload_n 0, 1) := by decide +kernel
theorem dX7_mark_87 : decode cX7_mark 87 = .ok (.getfield 64, 3) := by decide +kernel
theorem dX7_mark_90 : decode cX7_mark 90 = .ok (.iload_n 3, 1) := by decide +kernel
theorem dX7_mark_91 : decode cX7_mark 91 = .ok (.aload_n 0, 1) := by decide +kernel
theorem dX7_mark_92 : decode cX7_mark 92 = .ok (.getfield 13, 3) := by decide +kernel
theorem dX7_mark_95 : decode cX7_mark 95 = .ok (.iload 4, 2) := by decide +kernel
theorem dX7_mark_97 : decode cX7_mark 97 = .ok (.iaload, 1) := by decide +kernel
theorem dX7_mark_98 : decode cX7_mark 98 = .ok (.iastore, 1) := by decide +kernel
theorem dX7_mark_99 : decode cX7_mark 99 = .ok (.iinc 3 1, 3) := by decide +kernel
theorem dX7_mark_102 : decode cX7_mark 102 = .ok (.aload_n 0, 1) := by decide +kernel
theorem dX7_mark_103 : decode cX7_mark 103 = .ok (.getfield 7, 3) := by decide +kernel
theorem dX7_mark_106 : decode cX7_mark 106 = .ok (.iload 4, 2) := by decide +kernel
theorem dX7_mark_108 : decode cX7_mark 108 = .ok (.iaload, 1) := by decide +kernel
theorem dX7_mark_109 : decode cX7_mark 109 = .ok (.iconst 2, 1) := by decide +kernel
theorem dX7_mark_110 : decode cX7_mark 110 = .ok (.if_icmp .ne 47, 3) := by decide +kernel
theorem dX7_mark_113 : decode cX7_mark 113 = .ok (.aload_n 0, 1) := by decide +kernel
theorem dX7_mark_114 : decode cX7_mark 114 = .ok (.getfield 22, 3) := by decide +kernel
theorem dX7_mark_117 : decode cX7_mark 117 = .ok (.aload_n 0, 1) := by decide +kernel
theorem dX7_mark_118 : decode cX7_mark 118 = .ok (.getfield 16, 3) := by decide +kernel
theorem dX7_mark_121 : decode cX7_mark 121 = .ok (.iload 4, 2) := by decide +kernel
theorem dX7_mark_123 : decode cX7_mark 123 = .ok (.iaload, 1) := by decide +kernel
theorem dX7_mark_124 : decode cX7_mark 124 = .ok (.baload, 1) := by decide +kernel
theorem dX7_mark_125 : decode cX7_mark 125 = .ok (.ifCond .ne 32, 3) := by decide +kernel
theorem dX7_mark_128 : decode cX7_mark 128 = .ok (.aload_n 0, 1) := by decide +kernel
theorem dX7_mark_129 : decode cX7_mark 129 = .ok (.getfield 22, 3) := by decide +kernel
theorem dX7_mark_132 : decode cX7_mark 132 = .ok (.aload_n 0, 1) := by decide +kernel
theorem dX7_mark_133 : decode cX7_mark 133 = .ok (.getfield 16, 3) := by decide +kernel
theorem dX7_mark_136 : decode cX7_mark 136 = .ok (.iload 4, 2) := by decide +kernel
theorem dX7_mark_138 : decode cX7_mark 138 = .ok (.iaload, 1) := by decide +kernel
theorem dX7_mark_139 : decode cX7_mark 139 = .ok (.iconst 1, 1) := by decide +kernel
theorem dX7_mark_140 : decode cX7_mark 140 = .ok (.bastore, 1) := by decide +kernel
theorem dX7_mark_141 : decode cX7_mark 141 = .ok (.aload_n 0, 1) := by decide +kernel
theorem dX7_mark_142 : decode cX7_mark 142 = .ok (.getfield 64, 3) := by decide +kernel
theorem dX7_mark_145 : decode cX7_mark 145 = .ok (.iload_n 3, 1) := by decide +kernel
theorem dX7_mark_146 : decode cX7_mark 146 = .ok (.aload_n 0, 1) := by decide +kernel
theorem dX7_mark_147 : decode cX7_mark 147 = .ok (.getfield 16, 3) := by decide +kernel
theorem dX7_mark_150 : decode cX7_mark 150 = .ok (.iload 4, 2) := by decide +kernel
theorem dX7_mark_152 : decode cX7_mark 152 = .ok (.iaload, 1) := by decide +kernel
theorem dX7_mark_153 : decode cX7_mark 153 = .ok (.iastore, 1) := by decide +kernel
theorem dX7_mark_154 : decode cX7_mark 154 = .ok (.iinc 3 1, 3) := by decide +kernel
theorem dX7_mark_157 : decode cX7_mark 157 = .ok (.goto (-128), 3) := by decide +kernel
theorem dX7_mark_160 : decode cX7_mark 160 = .ok (.iload_n 2, 1) := by decide +kernel
theorem dX7_mark_161 : decode cX7_mark 161 = .ok (.ireturn, 1) := by decide +kernel
theorem dX7_moveUp_0 : decode cX7_moveUp 0 = .ok (.iconst 0, 1) := by decide +kernel
theorem dX7_moveUp_1 : decode cX7_moveUp 1 = .ok (.istore_n 1, 1) := by decide +kernel
theorem dX7_moveUp_2 : decode cX7_moveUp 2 = .ok (.iconst 0, 1) := by decide +kernel
theorem dX7_moveUp_3 : decode cX7_moveUp 3 = .ok (.istore_n 2, 1) := by decide +kernel
theorem dX7_moveUp_4 : decode cX7_moveUp 4 = .ok (.iload_n 2, 1) := by decide +kernel
theorem dX7_moveUp_5 : decode cX7_moveUp 5 = .ok (.aload_n 0, 1) := by decide +kernel
theorem dX7_moveUp_6 : decode cX7_moveUp 6 = .ok (.getfield 111, 3) := by decide +kernel
theorem dX7_moveUp_9 : decode cX7_moveUp 9 = .ok (.if_icmp .ge 104, 3) := by decide +kernel
theorem dX7_moveUp_12 : decode cX7_moveUp 12 = .ok (.aload_n 0, 1) := by decide +kernel
theorem dX7_moveUp_13 : decode cX7_moveUp 13 = .ok (.getfield 31, 3) := by decide +kernel
theorem dX7_moveUp_16 : decode cX7_moveUp 16 = .ok (.iload_n 2, 1) := by decide +kernel
theorem dX7_moveUp_17 : decode cX7_moveUp 17 = .ok (.iaload, 1) := by decide +kernel
theorem dX7_moveUp_18 : decode cX7_moveUp 18 = .ok (.istore_n 3, 1) := by decide +kernel
theorem dX7_moveUp_19 : decode cX7_moveUp 19 = .ok (.aload_n 0, 1) := by decide +kernel
theorem dX7_moveUp_20 : decode cX7_moveUp 20 = .ok (.getfield 31, 3) := by decide +kernel
theorem dX7_moveUp_23 : decode cX7_moveUp 23 = .ok (.iload_n 2, 1) := by decide +kernel
theorem dX7_moveUp_24 : decode cX7_moveUp 24 = .ok (.iconst 1, 1) := by decide +kernel
theorem dX7_moveUp_25 : decode cX7_moveUp 25 = .ok (.iadd, 1) := by decide +kernel
theorem dX7_moveUp_26 : decode cX7_moveUp 26 = .ok (.iaload, 1) := by decide +kernel
theorem dX7_moveUp_27 : decode cX7_moveUp 27 = .ok (.istore 4, 2) := by decide +kernel
theorem dX7_moveUp_29 : decode cX7_moveUp 29 = .ok (.aload_n 0, 1) := by decide +kernel
theorem dX7_moveUp_30 : decode cX7_moveUp 30 = .ok (.getfield 7, 3) := by decide +kernel
theorem dX7_moveUp_33 : decode cX7_moveUp 33 = .ok (.iload_n 3, 1) := by decide +kernel
theorem dX7_moveUp_34 : decode cX7_moveUp 34 = .ok (.iaload, 1) := by decide +kernel
theorem dX7_moveUp_35 : decode cX7_moveUp 35 = .ok (.iconst 1, 1) := by decide +kernel
theorem dX7_moveUp_36 : decode cX7_moveUp 36 = .ok (.if_icmp .ne 67, 3) := by decide +kernel
theorem dX7_moveUp_39 : decode cX7_moveUp 39 = .ok (.aload_n 0, 1) := by decide +kernel
theorem dX7_moveUp_40 : decode cX7_moveUp 40 = .ok (.getfield 13, 3) := by decide +kernel
theorem dX7_moveUp_43 : decode cX7_moveUp 43 = .ok (.iload_n 3, 1) := by decide +kernel
theorem dX7_moveUp_44 : decode cX7_moveUp 44 = .ok (.iaload, 1) := by decide +kernel
theorem dX7_moveUp_45 : decode cX7_moveUp 45 = .ok (.iload_n 2, 1) := by decide +kernel
theorem dX7_moveUp_46 : decode cX7_moveUp 46 = .ok (.iconst 2, 1) := by decide +kernel
theorem dX7_moveUp_47 : decode cX7_moveUp 47 = .ok (.iadd, 1) := by decide +kernel
theorem dX7_moveUp_48 : decode cX7_moveUp 48 = .ok (.if_icmp .ne 55, 3) := by decide +kernel
theorem dX7_moveUp_51 : decode cX7_moveUp 51 = .ok (.iconst 0, 1) := by decide +kernel
theorem dX7_moveUp_52 : decode cX7_moveUp 52 = .ok (.istore 5, 2) := by decide +kernel
theorem dX7_moveUp_54 : decode cX7_moveUp 54 = .ok (.iload 5, 2) := by decide +kernel
theorem dX7_moveUp_56 : decode cX7_moveUp 56 = .ok (.iload 4, 2) := by decide +kernel
theorem dX7_moveUp_58 : decode cX7_moveUp 58 = .ok (.iconst 2, 1) := by decide +kernel
theorem dX7_moveUp_59 : decode cX7_moveUp 59 = .ok (.iadd, 1) := by decide +kernel
theorem dX7_moveUp_60 : decode cX7_moveUp 60 = .ok (.if_icmp .ge 27, 3) := by decide +kernel
theorem dX7_moveUp_63 : decode cX7_moveUp 63 = .ok (.aload_n 0, 1) := by decide +kernel
theorem dX7_moveUp_64 : decode cX7_moveUp 64 = .ok (.getfield 31, 3) := by decide +kernel
theorem dX7_moveUp_67 : decode cX7_moveUp 67 = .ok (.iload_n 1, 1) := by decide +kernel
theorem dX7_moveUp_68 : decode cX7_moveUp 68 = .ok (.iload 5, 2) := by decide +kernel
theorem dX7_moveUp_70 : decode cX7_moveUp 70 = .ok (.iadd, 1) := by decide +kernel
theorem dX7_moveUp_71 : decode cX7_moveUp 71 = .ok (.aload_n 0, 1) := by decide +kernel
theorem dX7_moveUp_72 : decode cX7_moveUp 72 = .ok (.getfield 31, 3) := by decide +kernel
theorem dX7_moveUp_75 : decode cX7_moveUp 75 = .ok (.iload_n 2, 1) := by decide +kernel
theorem dX7_moveUp_76 : decode cX7_moveUp 76 = .ok (.iload 5, 2) := by decide +kernel
theorem dX7_moveUp_78 : decode cX7_moveUp 78 = .ok (.iadd, 1) := by decide +kernel
theorem dX7_moveUp_79 : decode cX7_moveUp 79 = .ok (.iaload, 1) := by decide +kernel
theorem dX7_moveUp_80 : decode cX7_moveUp 80 = .ok (.iastore, 1) := by decide +kernel
theorem dX7_moveUp_81 : decode cX7_moveUp 81 = .ok (.iinc 5 1, 3) := by decide +kernel
theorem dX7_moveUp_84 : decode cX7_moveUp 84 = .ok (.goto (-30), 3) := by decide +kernel
theorem dX7_moveUp_87 : decode cX7_moveUp 87 = .ok (.aload_n 0, 1) := by decide +kernel
theorem dX7_moveUp_88 : decode cX7_moveUp 88 = .ok (.getfield 13, 3) := by decide +kernel
theorem dX7_moveUp_91 : decode cX7_moveUp 91 = .ok (.iload_n 3, 1) := by decide +kernel
theorem dX7_moveUp_92 : decode cX7_moveUp 92 = .ok (.iload_n 1, 1) := by decide +kernel
theorem dX7_moveUp_93 : decode cX7_moveUp 93 = .ok (.iconst 2, 1) := by decide +kernel
theorem dX7_moveUp_94 : decode cX7_moveUp 94 = .ok (.iadd, 1) := by decide +kernel
theorem dX7_moveUp_95 : decode cX7_moveUp 95 = .ok (.iastore, 1) := by decide +kernel
theorem dX7_moveUp_96 : decode cX7_moveUp 96 = .ok (.iload_n 1, 1) := by decide +kernel
theorem dX7_moveUp_97 : decode cX7_moveUp 97 = .ok (.iload 4, 2) := by decide +kernel
theorem dX7_moveUp_99 : decode cX7_moveUp 99 = .ok (.iconst 2, 1) := by decide +kernel
theorem dX7_moveUp_100 : decode cX7_moveUp 100 = .ok (.iadd, 1) := by decide +kernel
theorem dX7_moveUp_101 : decode cX7_moveUp 101 = .ok (.iadd, 1) := by decide +kernel
theorem dX7_moveUp_102 : decode cX7_moveUp 102 = .ok (.istore_n 1, 1) := by decide +kernel
theorem dX7_moveUp_103 : decode cX7_moveUp 103 = .ok (.iload_n 2, 1) := by decide +kernel
theorem dX7_moveUp_104 : decode cX7_moveUp 104 = .ok (.iload 4, 2) := by decide +kernel
theorem dX7_moveUp_106 : decode cX7_moveUp 106 = .ok (.iconst 2, 1) := by decide +kernel
theorem dX7_moveUp_107 : decode cX7_moveUp 107 = .ok (.iadd, 1) := by decide +kernel
theorem dX7_moveUp_108 : decode cX7_moveUp 108 = .ok (.iadd, 1) := by decide +kernel
theorem dX7_moveUp_109 : decode cX7_moveUp 109 = .ok (.istore_n 2, 1) := by decide +kernel
theorem dX7_moveUp_110 : decode cX7_moveUp 110 = .ok (.goto (-106), 3) := by decide +kernel
theorem dX7_moveUp_113 : decode cX7_moveUp 113 = .ok (.aload_n 0, 1) := by decide +kernel
theorem dX7_moveUp_114 : decode cX7_moveUp 114 = .ok (.iload_n 1, 1) := by decide +kernel
theorem dX7_moveUp_115 : decode cX7_moveUp 115 = .ok (.putfield 111, 3) := by decide +kernel
theorem dX7_moveUp_118 : decode cX7_moveUp 118 = .ok (.return_, 1) := by decide +kernel
theorem dX7_makeRoom_0 : decode cX7_makeRoom 0 = .ok (.aload_n 0, 1) := by decide +kernel
theorem dX7_makeRoom_1 : decode cX7_makeRoom 1 = .ok (.getfield 26, 3) := by decide +kernel
theorem dX7_makeRoom_4 : decode cX7_makeRoom 4 = .ok (.sipush 3200, 3) := by decide +kernel
theorem dX7_makeRoom_7 : decode cX7_makeRoom 7 = .ok (.if_icmp .lt 13, 3) := by decide +kernel
theorem dX7_makeRoom_10 : decode cX7_makeRoom 10 = .ok (.aload_n 0, 1) := by decide +kernel
theorem dX7_makeRoom_11 : decode cX7_makeRoom 11 = .ok (.getfield 111, 3) := by decide +kernel
theorem dX7_makeRoom_14 : decode cX7_makeRoom 14 = .ok (.ldc 122, 2) := by decide +kernel
theorem dX7_makeRoom_16 : decode cX7_makeRoom 16 = .ok (.if_icmp .gt 4, 3) := by decide +kernel
theorem dX7_makeRoom_19 : decode cX7_makeRoom 19 = .ok (.return_, 1) := by decide +kernel
theorem dX7_makeRoom_20 : decode cX7_makeRoom 20 = .ok (.aload_n 0, 1) := by decide +kernel
theorem dX7_makeRoom_21 : decode cX7_makeRoom 21 = .ok (.invokevirtual 123, 3) := by decide +kernel
theorem dX7_makeRoom_24 : decode cX7_makeRoom 24 = .ok (.iconst 0, 1) := by decide +kernel
theorem dX7_makeRoom_25 : decode cX7_makeRoom 25 = .ok (.istore_n 1, 1) := by decide +kernel
theorem dX7_makeRoom_26 : decode cX7_makeRoom 26 = .ok (.iload_n 1, 1) := by decide +kernel
theorem dX7_makeRoom_27 : decode cX7_makeRoom 27 = .ok (.bipush 8, 2) := by decide +kernel
theorem dX7_makeRoom_29 : decode cX7_makeRoom 29 = .ok (.if_icmp .ge 58, 3) := by decide +kernel
theorem dX7_makeRoom_32 : decode cX7_makeRoom 32 = .ok (.aload_n 0, 1) := by decide +kernel
theorem dX7_makeRoom_33 : decode cX7_makeRoom 33 = .ok (.aload_n 0, 1) := by decide +kernel
theorem dX7_makeRoom_34 : decode cX7_makeRoom 34 = .ok (.getfield 34, 3) := by decide +kernel
theorem dX7_makeRoom_37 : decode cX7_makeRoom 37 = .ok (.iload_n 1, 1) := by decide +kernel
theorem dX7_makeRoom_38 : decode cX7_makeRoom 38 = .ok (.iaload, 1) := by decide +kernel
theorem dX7_makeRoom_39 : decode cX7_makeRoom 39 = .ok (.invokevirtual 126, 3) := by decide +kernel
theorem dX7_makeRoom_42 : decode cX7_makeRoom 42 = .ok (.pop, 1) := by decide +kernel
theorem dX7_makeRoom_43 : decode cX7_makeRoom 43 = .ok (.iconst 0, 1) := by decide +kernel
theorem dX7_makeRoom_44 : decode cX7_makeRoom 44 = .ok (.istore_n 2, 1) := by decide +kernel
theorem dX7_makeRoom_45 : decode cX7_makeRoom 45 = .ok (.iload_n 2, 1) := by decide +kernel
theorem dX7_makeRoom_46 : decode cX7_makeRoom 46 = .ok (.iconst 2, 1) := by decide +kernel
theorem dX7_makeRoom_47 : decode cX7_makeRoom 47 = .ok (.if_icmp .ge 34, 3) := by decide +kernel
theorem dX7_makeRoom_50 : decode cX7_makeRoom 50 = .ok (.aload_n 0, 1) := by decide +kernel
theorem dX7_makeRoom_51 : decode cX7_makeRoom 51 = .ok (.getfield 40, 3) := by decide +kernel
theorem dX7_makeRoom_54 : decode cX7_makeRoom 54 = .ok (.iload_n 2, 1) := by decide +kernel
theorem dX7_makeRoom_55 : decode cX7_makeRoom 55 = .ok (.baload, 1) := by decide +kernel
theorem dX7_makeRoom_56 : decode cX7_makeRoom 56 = .ok (.ifCond .eq 19, 3) := by decide +kernel
theorem dX7_makeRoom_59 : decode cX7_makeRoom 59 = .ok (.aload_n 0, 1) := by decide +kernel
theorem dX7_makeRoom_60 : decode cX7_makeRoom 60 = .ok (.aload_n 0, 1) := by decide +kernel
theorem dX7_makeRoom_61 : decode cX7_makeRoom 61 = .ok (.getfield 37, 3) := by decide +kernel
theorem dX7_makeRoom_64 : decode cX7_makeRoom 64 = .ok (.bipush 8, 2) := by decide +kernel
theorem dX7_makeRoom_66 : decode cX7_makeRoom 66 = .ok (.iload_n 2, 1) := by decide +kernel
theorem dX7_makeRoom_67 : decode cX7_makeRoom 67 = .ok (.imul, 1) := by decide +kernel
theorem dX7_makeRoom_68 : decode cX7_makeRoom 68 = .ok (.iload_n 1, 1) := by decide +kernel
theorem dX7_makeRoom_69 : decode cX7_makeRoom 69 = .ok (.iadd, 1) := by decide +kernel
theorem dX7_makeRoom_70 : decode cX7_makeRoom 70 = .ok (.iaload, 1) := by decide +kernel
theorem dX7_makeRoom_71 : decode cX7_makeRoom 71 = .ok (.invokevirtual 126, 3) := by decide +kernel
theorem dX7_makeRoom_74 : decode cX7_makeRoom 74 = .ok (.pop, 1) := by decide +kernel
theorem dX7_makeRoom_75 : decode cX7_makeRoom 75 = .ok (.iinc 2 1, 3) := by decide +kernel
theorem dX7_makeRoom_78 : decode cX7_makeRoom 78 = .ok (.goto (-33), 3) := by decide +kernel
theorem dX7_makeRoom_81 : decode cX7_makeRoom 81 = .ok (.iinc 1 1, 3) := by decide +kernel
theorem dX7_makeRoom_84 : decode cX7_makeRoom 84 = .ok (.goto (-58), 3) := by decide +kernel
theorem dX7_makeRoom_87 : decode cX7_makeRoom 87 = .ok (.iconst 0, 1) := by decide +kernel
theorem dX7_makeRoom_88 : decode cX7_makeRoom 88 = .ok (.istore_n 1, 1) := by decide +kernel
theorem dX7_makeRoom_89 : decode cX7_makeRoom 89 = .ok (.iload_n 1, 1) := by decide +kernel
theorem dX7_makeRoom_90 : decode cX7_makeRoom 90 = .ok (.aload_n 0, 1) := by decide +kernel
theorem dX7_makeRoom_91 : decode cX7_makeRoom 91 = .ok (.getfield 129, 3) := by decide +kernel
theorem dX7_makeRoom_94 : decode cX7_makeRoom 94 = .ok (.if_icmp .ge 20, 3) := by decide +kernel
theorem dX7_makeRoom_97 : decode cX7_makeRoom 97 = .ok (.aload_n 0, 1) := by decide +kernel
theorem dX7_makeRoom_98 : decode cX7_makeRoom 98 = .ok (.aload_n 0, 1) := by decide +kernel
theorem dX7_makeRoom_99 : decode cX7_makeRoom 99 = .ok (.getfield 43, 3) := by decide +kernel
theorem dX7_makeRoom_102 : decode cX7_makeRoom 102 = .ok (.iload_n 1, 1) := by decide +kernel
theorem dX7_makeRoom_103 : decode cX7_makeRoom 103 = .ok (.iaload, 1) := by decide +kernel
theorem dX7_makeRoom_104 : decode cX7_makeRoom 104 = .ok (.invokevirtual 126, 3) := by decide +kernel
theorem dX7_makeRoom_107 : decode cX7_makeRoom 107 = .ok (.pop, 1) := by decide +kernel
theorem dX7_makeRoom_108 : decode cX7_makeRoom 108 = .ok (.iinc 1 1, 3) := by decide +kernel
theorem dX7_makeRoom_111 : decode cX7_makeRoom 111 = .ok (.goto (-22), 3) := by decide +kernel
theorem dX7_makeRoom_114 : decode cX7_makeRoom 114 = .ok (.aload_n 0, 1) := by decide +kernel
theorem dX7_makeRoom_115 : decode cX7_makeRoom 115 = .ok (.iconst 0, 1) := by decide +kernel
theorem dX7_makeRoom_116 : decode cX7_makeRoom 116 = .ok (.putfield 26, 3) := by decide +kernel
theorem dX7_makeRoom_119 : decode cX7_makeRoom 119 = .ok (.iconst 0, 1) := by decide +kernel
theorem dX7_makeRoom_120 : decode cX7_makeRoom 120 = .ok (.istore_n 1, 1) := by decide +kernel
theorem dX7_makeRoom_121 : decode cX7_makeRoom 121 = .ok (.iload_n 1, 1) := by decide +kernel
theorem dX7_makeRoom_122 : decode cX7_makeRoom 122 = .ok (.sipush 20480, 3) := by decide +kernel
theorem dX7_makeRoom_125 : decode cX7_makeRoom 125 = .ok (.if_icmp .ge 57, 3) := by decide +kernel
theorem dX7_makeRoom_128 : decode cX7_makeRoom 128 = .ok (.aload_n 0, 1) := by decide +kernel
theorem dX7_makeRoom_129 : decode cX7_makeRoom 129 = .ok (.getfield 7, 3) := by decide +kernel
theorem dX7_makeRoom_132 : decode cX7_makeRoom 132 = .ok (.iload_n 1, 1) := by decide +kernel
theorem dX7_makeRoom_133 : decode cX7_makeRoom 133 = .ok (.aload_n 0, 1) := by decide +kernel
theorem dX7_makeRoom_134 : decode cX7_makeRoom 134 = .ok (.getfield 22, 3) := by decide +kernel
theorem dX7_makeRoom_137 : decode cX7_makeRoom 137 = .ok (.iload_n 1, 1) := by decide +kernel
theorem dX7_makeRoom_138 : decode cX7_makeRoom 138 = .ok (.baload, 1) := by decide +kernel
theorem dX7_makeRoom_139 : decode cX7_makeRoom 139 = .ok (.ifCond .eq 12, 3) := by decide +kernel
theorem dX7_makeRoom_142 : decode cX7_makeRoom 142 = .ok (.aload_n 0, 1) := by decide +kernel
theorem dX7_makeRoom_143 : decode cX7_makeRoom 143 = .ok (.getfield 7, 3) := by decide +kernel
theorem dX7_makeRoom_146 : decode cX7_makeRoom 146 = .ok (.iload_n 1, 1) := by decide +kernel
theorem dX7_makeRoom_147 : decode cX7_makeRoom 147 = .ok (.iaload, 1) := by decide +kernel
theorem dX7_makeRoom_148 : decode cX7_makeRoom 148 = .ok (.goto 4, 3) := by decide +kernel
theorem dX7_makeRoom_151 : decode cX7_makeRoom 151 = .ok (.iconst 0, 1) := by decide +kernel
theorem dX7_makeRoom_152 : decode cX7_makeRoom 152 = .ok (.iastore, 1) := by decide +kernel
theorem dX7_makeRoom_153 : decode cX7_makeRoom 153 = .ok (.aload_n 0, 1) := by decide +kernel
theorem dX7_makeRoom_154 : decode cX7_makeRoom 154 = .ok (.dup, 1) := by decide +kernel
theorem dX7_makeRoom_155 : decode cX7_makeRoom 155 = .ok (.getfield 26, 3) := by decide +kernel
theorem dX7_makeRoom_158 : decode cX7_makeRoom 158 = .ok (.aload_n 0, 1) := by decide +kernel
theorem dX7_makeRoom_159 : decode cX7_makeRoom 159 = .ok (.getfield 22, 3) := by decide +kernel
theorem dX7_makeRoom_162 : decode cX7_makeRoom 162 = .ok (.iload_n 1, 1) := by decide +kernel
theorem dX7_makeRoom_163 : decode cX7_makeRoom 163 = .ok (.baload, 1) := by decide +kernel
theorem dX7_makeRoom_164 : decode cX7_makeRoom 164 = .ok (.ifCond .eq 7, 3) := by decide +kernel
theorem dX7_makeRoom_167 : decode cX7_makeRoom 167 = .ok (.iconst 0, 1) := by decide +kernel
theorem dX7_makeRoom_168 : decode cX7_makeRoom 168 = .ok (.goto 4, 3) := by decide +kernel
theorem dX7_makeRoom_171 : decode cX7_makeRoom 171 = .ok (.iconst 1, 1) := by decide +kernel
theorem dX7_makeRoom_172 : decode cX7_makeRoom 172 = .ok (.iadd, 1) := by decide +kernel
theorem dX7_makeRoom_173 : decode cX7_makeRoom 173 = .ok (.putfield 26, 3) := by decide +kernel
theorem dX7_makeRoom_176 : decode cX7_makeRoom 176 = .ok (.iinc 1 1, 3) := by decide +kernel
theorem dX7_makeRoom_179 : decode cX7_makeRoom 179 = .ok (.goto (-58), 3) := by decide +kernel
theorem dX7_makeRoom_182 : decode cX7_makeRoom 182 = .ok (.aload_n 0, 1) := by decide +kernel
theorem dX7_makeRoom_183 : decode cX7_makeRoom 183 = .ok (.invokevirtual 132, 3) := by decide +kernel
theorem dX7_makeRoom_186 : decode cX7_makeRoom 186 = .ok (.return_, 1) := by decide +kernel
theorem dX7_layPieces_0 : decode cX7_layPieces 0 = .ok (.aload_n 0, 1) := by decide +kernel
theorem dX7_layPieces_1 : decode cX7_layPieces 1 = .ok (.iconst 0, 1) := by decide +kernel
theorem dX7_layPieces_2 : decode cX7_layPieces 2 = .ok (.putfield 135, 3) := by decide +kernel
theorem dX7_layPieces_5 : decode cX7_layPieces 5 = .ok (.iconst 0, 1) := by decide +kernel
theorem dX7_layPieces_6 : decode cX7_layPieces 6 = .ok (.istore_n 2, 1) := by decide +kernel
theorem dX7_layPieces_7 : decode cX7_layPieces 7 = .ok (.iconst 1, 1) := by decide +kernel
theorem dX7_layPieces_8 : decode cX7_layPieces 8 = .ok (.istore_n 3, 1) := by decide +kernel
theorem dX7_layPieces_9 : decode cX7_layPieces 9 = .ok (.aload_n 0, 1) := by decide +kernel
theorem dX7_layPieces_10 : decode cX7_layPieces 10 = .ok (.getfield 70, 3) := by decide +kernel
theorem dX7_layPieces_13 : decode cX7_layPieces 13 = .ok (.iconst 0, 1) := by decide +kernel
theorem dX7_layPieces_14 : decode cX7_layPieces 14 = .ok (.iload_n 1, 1) := by decide +kernel
theorem dX7_layPieces_15 : decode cX7_layPieces 15 = .ok (.iastore, 1) := by decide +kernel
theorem dX7_layPieces_16 : decode cX7_layPieces 16 = .ok (.aload_n 0, 1) := by decide +kernel
theorem dX7_layPieces_17 : decode cX7_layPieces 17 = .ok (.getfield 73, 3) := by decide +kernel
theorem dX7_layPieces_20 : decode cX7_layPieces 20 = .ok (.iconst 0, 1) := by decide +kernel
theorem dX7_layPieces_21 : decode cX7_layPieces 21 = .ok (.iconst 0, 1) := by decide +kernel
theorem dX7_layPieces_22 : decode cX7_layPieces 22 = .ok (.iastore, 1) := by decide +kernel
theorem dX7_layPieces_23 : decode cX7_layPieces 23 = .ok (.iload_n 3, 1) := by decide +kernel
theorem dX7_layPieces_24 : decode cX7_layPieces 24 = .ok (.ifCond .le 126, 3) := by decide +kernel
theorem dX7_layPieces_27 : decode cX7_layPieces 27 = .ok (.iinc 3 (-1), 3) := by decide +kernel
theorem dX7_layPieces_30 : decode cX7_layPieces 30 = .ok (.aload_n 0, 1) := by decide +kernel
theorem dX7_layPieces_31 : decode cX7_layPieces 31 = .ok (.getfield 70, 3) := by decide +kernel
theorem dX7_layPieces_34 : decode cX7_layPieces 34 = .ok (.iload_n 3, 1) := by decide +kernel
theorem dX7_layPieces_35 : decode cX7_layPieces 35 = .ok (.iaload, 1) := by decide +kernel
theorem dX7_layPieces_36 : decode cX7_layPieces 36 = .ok (.istore 4, 2) := by decide +kernel
theorem dX7_layPieces_38 : decode cX7_layPieces 38 = .ok (.aload_n 0, 1) := by decide +kernel
theorem dX7_layPieces_39 : decode cX7_layPieces 39 = .ok (.getfield 73, 3) := by decide +kernel
theorem dX7_layPieces_42 : decode cX7_layPieces 42 = .ok (.iload_n 3, 1) := by decide +kernel
theorem dX7_layPieces_43 : decode cX7_layPieces 43 = .ok (.iaload, 1) := by decide +kernel
theorem dX7_layPieces_44 : decode cX7_layPieces 44 = .ok (.istore 5, 2) := by decide +kernel
theorem dX7_layPieces_46 : decode cX7_layPieces 46 = .ok (.iload 5, 2) := by decide +kernel
theorem dX7_layPieces_48 : decode cX7_layPieces 48 = .ok (.iload_n 2, 1) := by decide +kernel
theorem dX7_layPieces_49 : decode cX7_layPieces 49 = .ok (.if_icmp .le 8, 3) := by decide +kernel
theorem dX7_layPieces_52 : decode cX7_layPieces 52 = .ok (.iload 5, 2) := by decide +kernel
theorem dX7_layPieces_54 : decode cX7_layPieces 54 = .ok (.goto 4, 3) := by decide +kernel
theorem dX7_layPieces_57 : decode cX7_layPieces 57 = .ok (.iload_n 2, 1) := by decide +kernel
end
section
theorem dX7_layPieces_58 : decode cX7_layPieces 58 = .ok (.istore_n 2, 1) := by decide +kernel
theorem dX7_layPieces_59 : decode cX7_layPieces 59 = .ok (.aload_n 0, 1) := by decide +kernel
theorem dX7_layPieces_60 : decode cX7_layPieces 60 = .ok (.getfield 7, 3) := by decide +kernel
theorem dX7_layPieces_63 : decode cX7_layPieces 63 = .ok (.iload 4, 2) := by decide +kernel
theorem dX7_layPieces_65 : decode cX7_layPieces 65 = .ok (.iaload, 1) := by decide +kernel
theorem dX7_layPieces_66 : decode cX7_layPieces 66 = .ok (.iconst 2, 1) := by decide +kernel
theorem dX7_layPieces_67 : decode cX7_layPieces 67 = .ok (.if_icmp .ne 59, 3) := by decide +kernel
theorem dX7_layPieces_70 : decode cX7_layPieces 70 = .ok (.aload_n 0, 1) := by decide +kernel
theorem dX7_layPieces_71 : decode cX7_layPieces 71 = .ok (.getfield 70, 3) := by decide +kernel
theorem dX7_layPieces_74 : decode cX7_layPieces 74 = .ok (.iload_n 3, 1) := by decide +kernel
theorem dX7_layPieces_75 : decode cX7_layPieces 75 = .ok (.aload_n 0, 1) := by decide +kernel
theorem dX7_layPieces_76 : decode cX7_layPieces 76 = .ok (.getfield 16, 3) := by decide +kernel
theorem dX7_layPieces_79 : decode cX7_layPieces 79 = .ok (.iload 4, 2) := by decide +kernel
theorem dX7_layPieces_81 : decode cX7_layPieces 81 = .ok (.iaload, 1) := by decide +kernel
theorem dX7_layPieces_82 : decode cX7_layPieces 82 = .ok (.iastore, 1) := by decide +kernel
theorem dX7_layPieces_83 : decode cX7_layPieces 83 = .ok (.aload_n 0, 1) := by decide +kernel
theorem dX7_layPieces_84 : decode cX7_layPieces 84 = .ok (.getfield 73, 3) := by decide +kernel
theorem dX7_layPieces_87 : decode cX7_layPieces 87 = .ok (.iload_n 3, 1) := by decide +kernel
theorem dX7_layPieces_88 : decode cX7_layPieces 88 = .ok (.iload 5, 2) := by decide +kernel
theorem dX7_layPieces_90 : decode cX7_layPieces 90 = .ok (.iconst 1, 1) := by decide +kernel
theorem dX7_layPieces_91 : decode cX7_layPieces 91 = .ok (.iadd, 1) := by decide +kernel
theorem dX7_layPieces_92 : decode cX7_layPieces 92 = .ok (.iastore, 1) := by decide +kernel
theorem dX7_layPieces_93 : decode cX7_layPieces 93 = .ok (.aload_n 0, 1) := by decide +kernel
theorem dX7_layPieces_94 : decode cX7_layPieces 94 = .ok (.getfield 70, 3) := by decide +kernel
theorem dX7_layPieces_97 : decode cX7_layPieces 97 = .ok (.iload_n 3, 1) := by decide +kernel
theorem dX7_layPieces_98 : decode cX7_layPieces 98 = .ok (.iconst 1, 1) := by decide +kernel
theorem dX7_layPieces_99 : decode cX7_layPieces 99 = .ok (.iadd, 1) := by decide +kernel
theorem dX7_layPieces_100 : decode cX7_layPieces 100 = .ok (.aload_n 0, 1) := by decide +kernel
theorem dX7_layPieces_101 : decode cX7_layPieces 101 = .ok (.getfield 13, 3) := by decide +kernel
theorem dX7_layPieces_104 : decode cX7_layPieces 104 = .ok (.iload 4, 2) := by decide +kernel
theorem dX7_layPieces_106 : decode cX7_layPieces 106 = .ok (.iaload, 1) := by decide +kernel
theorem dX7_layPieces_107 : decode cX7_layPieces 107 = .ok (.iastore, 1) := by decide +kernel
theorem dX7_layPieces_108 : decode cX7_layPieces 108 = .ok (.aload_n 0, 1) := by decide +kernel
theorem dX7_layPieces_109 : decode cX7_layPieces 109 = .ok (.getfield 73, 3) := by decide +kernel
theorem dX7_layPieces_112 : decode cX7_layPieces 112 = .ok (.iload_n 3, 1) := by decide +kernel
theorem dX7_layPieces_113 : decode cX7_layPieces 113 = .ok (.iconst 1, 1) := by decide +kernel
theorem dX7_layPieces_114 : decode cX7_layPieces 114 = .ok (.iadd, 1) := by decide +kernel
theorem dX7_layPieces_115 : decode cX7_layPieces 115 = .ok (.iload 5, 2) := by decide +kernel
theorem dX7_layPieces_117 : decode cX7_layPieces 117 = .ok (.iconst 1, 1) := by decide +kernel
theorem dX7_layPieces_118 : decode cX7_layPieces 118 = .ok (.iadd, 1) := by decide +kernel
theorem dX7_layPieces_119 : decode cX7_layPieces 119 = .ok (.iastore, 1) := by decide +kernel
theorem dX7_layPieces_120 : decode cX7_layPieces 120 = .ok (.iinc 3 2, 3) := by decide +kernel
theorem dX7_layPieces_123 : decode cX7_layPieces 123 = .ok (.goto 24, 3) := by decide +kernel
theorem dX7_layPieces_126 : decode cX7_layPieces 126 = .ok (.aload_n 0, 1) := by decide +kernel
theorem dX7_layPieces_127 : decode cX7_layPieces 127 = .ok (.getfield 67, 3) := by decide +kernel
theorem dX7_layPieces_130 : decode cX7_layPieces 130 = .ok (.aload_n 0, 1) := by decide +kernel
theorem dX7_layPieces_131 : decode cX7_layPieces 131 = .ok (.getfield 135, 3) := by decide +kernel
theorem dX7_layPieces_134 : decode cX7_layPieces 134 = .ok (.iload 4, 2) := by decide +kernel
theorem dX7_layPieces_136 : decode cX7_layPieces 136 = .ok (.iastore, 1) := by decide +kernel
theorem dX7_layPieces_137 : decode cX7_layPieces 137 = .ok (.aload_n 0, 1) := by decide +kernel
theorem dX7_layPieces_138 : decode cX7_layPieces 138 = .ok (.dup, 1) := by decide +kernel
theorem dX7_layPieces_139 : decode cX7_layPieces 139 = .ok (.getfield 135, 3) := by decide +kernel
theorem dX7_layPieces_142 : decode cX7_layPieces 142 = .ok (.iconst 1, 1) := by decide +kernel
theorem dX7_layPieces_143 : decode cX7_layPieces 143 = .ok (.iadd, 1) := by decide +kernel
theorem dX7_layPieces_144 : decode cX7_layPieces 144 = .ok (.putfield 135, 3) := by decide +kernel
theorem dX7_layPieces_147 : decode cX7_layPieces 147 = .ok (.goto (-124), 3) := by decide +kernel
theorem dX7_layPieces_150 : decode cX7_layPieces 150 = .ok (.iload_n 2, 1) := by decide +kernel
theorem dX7_layPieces_151 : decode cX7_layPieces 151 = .ok (.ireturn, 1) := by decide +kernel
theorem dX7_signOf_0 : decode cX7_signOf 0 = .ok (.aload_n 0, 1) := by decide +kernel
theorem dX7_signOf_1 : decode cX7_signOf 1 = .ok (.getfield 7, 3) := by decide +kernel
theorem dX7_signOf_4 : decode cX7_signOf 4 = .ok (.iload_n 1, 1) := by decide +kernel
theorem dX7_signOf_5 : decode cX7_signOf 5 = .ok (.iaload, 1) := by decide +kernel
theorem dX7_signOf_6 : decode cX7_signOf 6 = .ok (.iconst 1, 1) := by decide +kernel
theorem dX7_signOf_7 : decode cX7_signOf 7 = .ok (.if_icmp .ne 19, 3) := by decide +kernel
theorem dX7_signOf_10 : decode cX7_signOf 10 = .ok (.aload_n 0, 1) := by decide +kernel
theorem dX7_signOf_11 : decode cX7_signOf 11 = .ok (.getfield 31, 3) := by decide +kernel
theorem dX7_signOf_14 : decode cX7_signOf 14 = .ok (.aload_n 0, 1) := by decide +kernel
theorem dX7_signOf_15 : decode cX7_signOf 15 = .ok (.getfield 13, 3) := by decide +kernel
theorem dX7_signOf_18 : decode cX7_signOf 18 = .ok (.iload_n 1, 1) := by decide +kernel
theorem dX7_signOf_19 : decode cX7_signOf 19 = .ok (.iaload, 1) := by decide +kernel
theorem dX7_signOf_20 : decode cX7_signOf 20 = .ok (.iload_n 2, 1) := by decide +kernel
theorem dX7_signOf_21 : decode cX7_signOf 21 = .ok (.iadd, 1) := by decide +kernel
theorem dX7_signOf_22 : decode cX7_signOf 22 = .ok (.iaload, 1) := by decide +kernel
theorem dX7_signOf_23 : decode cX7_signOf 23 = .ok (.goto 28, 3) := by decide +kernel
theorem dX7_signOf_26 : decode cX7_signOf 26 = .ok (.aload_n 0, 1) := by decide +kernel
theorem dX7_signOf_27 : decode cX7_signOf 27 = .ok (.getfield 31, 3) := by decide +kernel
theorem dX7_signOf_30 : decode cX7_signOf 30 = .ok (.aload_n 0, 1) := by decide +kernel
theorem dX7_signOf_31 : decode cX7_signOf 31 = .ok (.getfield 13, 3) := by decide +kernel
theorem dX7_signOf_34 : decode cX7_signOf 34 = .ok (.aload_n 0, 1) := by decide +kernel
theorem dX7_signOf_35 : decode cX7_signOf 35 = .ok (.getfield 13, 3) := by decide +kernel
theorem dX7_signOf_38 : decode cX7_signOf 38 = .ok (.iload_n 1, 1) := by decide +kernel
theorem dX7_signOf_39 : decode cX7_signOf 39 = .ok (.iaload, 1) := by decide +kernel
theorem dX7_signOf_40 : decode cX7_signOf 40 = .ok (.iaload, 1) := by decide +kernel
theorem dX7_signOf_41 : decode cX7_signOf 41 = .ok (.aload_n 0, 1) := by decide +kernel
theorem dX7_signOf_42 : decode cX7_signOf 42 = .ok (.getfield 16, 3) := by decide +kernel
theorem dX7_signOf_45 : decode cX7_signOf 45 = .ok (.iload_n 1, 1) := by decide +kernel
theorem dX7_signOf_46 : decode cX7_signOf 46 = .ok (.iaload, 1) := by decide +kernel
theorem dX7_signOf_47 : decode cX7_signOf 47 = .ok (.iadd, 1) := by decide +kernel
theorem dX7_signOf_48 : decode cX7_signOf 48 = .ok (.iload_n 2, 1) := by decide +kernel
theorem dX7_signOf_49 : decode cX7_signOf 49 = .ok (.iadd, 1) := by decide +kernel
theorem dX7_signOf_50 : decode cX7_signOf 50 = .ok (.iaload, 1) := by decide +kernel
theorem dX7_signOf_51 : decode cX7_signOf 51 = .ok (.ireturn, 1) := by decide +kernel
theorem dX7_layText_0 : decode cX7_layText 0 = .ok (.aload_n 0, 1) := by decide +kernel
theorem dX7_layText_1 : decode cX7_layText 1 = .ok (.iload_n 1, 1) := by decide +kernel
theorem dX7_layText_2 : decode cX7_layText 2 = .ok (.invokevirtual 138, 3) := by decide +kernel
theorem dX7_layText_5 : decode cX7_layText 5 = .ok (.pop, 1) := by decide +kernel
theorem dX7_layText_6 : decode cX7_layText 6 = .ok (.iload_n 2, 1) := by decide +kernel
theorem dX7_layText_7 : decode cX7_layText 7 = .ok (.istore_n 3, 1) := by decide +kernel
theorem dX7_layText_8 : decode cX7_layText 8 = .ok (.iconst 0, 1) := by decide +kernel
theorem dX7_layText_9 : decode cX7_layText 9 = .ok (.istore 4, 2) := by decide +kernel
theorem dX7_layText_11 : decode cX7_layText 11 = .ok (.iload 4, 2) := by decide +kernel
theorem dX7_layText_13 : decode cX7_layText 13 = .ok (.aload_n 0, 1) := by decide +kernel
theorem dX7_layText_14 : decode cX7_layText 14 = .ok (.getfield 135, 3) := by decide +kernel
theorem dX7_layText_17 : decode cX7_layText 17 = .ok (.if_icmp .ge 57, 3) := by decide +kernel
theorem dX7_layText_20 : decode cX7_layText 20 = .ok (.iconst 0, 1) := by decide +kernel
theorem dX7_layText_21 : decode cX7_layText 21 = .ok (.istore 5, 2) := by decide +kernel
theorem dX7_layText_23 : decode cX7_layText 23 = .ok (.iload 5, 2) := by decide +kernel
theorem dX7_layText_25 : decode cX7_layText 25 = .ok (.aload_n 0, 1) := by decide +kernel
theorem dX7_layText_26 : decode cX7_layText 26 = .ok (.getfield 19, 3) := by decide +kernel
theorem dX7_layText_29 : decode cX7_layText 29 = .ok (.aload_n 0, 1) := by decide +kernel
theorem dX7_layText_30 : decode cX7_layText 30 = .ok (.getfield 67, 3) := by decide +kernel
theorem dX7_layText_33 : decode cX7_layText 33 = .ok (.iload 4, 2) := by decide +kernel
theorem dX7_layText_35 : decode cX7_layText 35 = .ok (.iaload, 1) := by decide +kernel
theorem dX7_layText_36 : decode cX7_layText 36 = .ok (.iaload, 1) := by decide +kernel
theorem dX7_layText_37 : decode cX7_layText 37 = .ok (.if_icmp .ge 31, 3) := by decide +kernel
theorem dX7_layText_40 : decode cX7_layText 40 = .ok (.aload_n 0, 1) := by decide +kernel
theorem dX7_layText_41 : decode cX7_layText 41 = .ok (.getfield 61, 3) := by decide +kernel
theorem dX7_layText_44 : decode cX7_layText 44 = .ok (.iload_n 3, 1) := by decide +kernel
theorem dX7_layText_45 : decode cX7_layText 45 = .ok (.aload_n 0, 1) := by decide +kernel
theorem dX7_layText_46 : decode cX7_layText 46 = .ok (.aload_n 0, 1) := by decide +kernel
theorem dX7_layText_47 : decode cX7_layText 47 = .ok (.getfield 67, 3) := by decide +kernel
theorem dX7_layText_50 : decode cX7_layText 50 = .ok (.iload 4, 2) := by decide +kernel
theorem dX7_layText_52 : decode cX7_layText 52 = .ok (.iaload, 1) := by decide +kernel
theorem dX7_layText_53 : decode cX7_layText 53 = .ok (.iload 5, 2) := by decide +kernel
theorem dX7_layText_55 : decode cX7_layText 55 = .ok (.invokevirtual 141, 3) := by decide +kernel
theorem dX7_layText_58 : decode cX7_layText 58 = .ok (.iastore, 1) := by decide +kernel
theorem dX7_layText_59 : decode cX7_layText 59 = .ok (.iinc 3 1, 3) := by decide +kernel
theorem dX7_layText_62 : decode cX7_layText 62 = .ok (.iinc 5 1, 3) := by decide +kernel
theorem dX7_layText_65 : decode cX7_layText 65 = .ok (.goto (-42), 3) := by decide +kernel
theorem dX7_layText_68 : decode cX7_layText 68 = .ok (.iinc 4 1, 3) := by decide +kernel
theorem dX7_layText_71 : decode cX7_layText 71 = .ok (.goto (-60), 3) := by decide +kernel
theorem dX7_layText_74 : decode cX7_layText 74 = .ok (.iload_n 3, 1) := by decide +kernel
theorem dX7_layText_75 : decode cX7_layText 75 = .ok (.iload_n 2, 1) := by decide +kernel
theorem dX7_layText_76 : decode cX7_layText 76 = .ok (.isub, 1) := by decide +kernel
theorem dX7_layText_77 : decode cX7_layText 77 = .ok (.ireturn, 1) := by decide +kernel
theorem dX7_push_0 : decode cX7_push 0 = .ok (.aload_n 0, 1) := by decide +kernel
theorem dX7_push_1 : decode cX7_push 1 = .ok (.getfield 76, 3) := by decide +kernel
theorem dX7_push_4 : decode cX7_push 4 = .ok (.aload_n 0, 1) := by decide +kernel
theorem dX7_push_5 : decode cX7_push 5 = .ok (.getfield 144, 3) := by decide +kernel
theorem dX7_push_8 : decode cX7_push 8 = .ok (.iload_n 1, 1) := by decide +kernel
theorem dX7_push_9 : decode cX7_push 9 = .ok (.iastore, 1) := by decide +kernel
theorem dX7_push_10 : decode cX7_push 10 = .ok (.aload_n 0, 1) := by decide +kernel
theorem dX7_push_11 : decode cX7_push 11 = .ok (.getfield 79, 3) := by decide +kernel
theorem dX7_push_14 : decode cX7_push 14 = .ok (.aload_n 0, 1) := by decide +kernel
theorem dX7_push_15 : decode cX7_push 15 = .ok (.getfield 144, 3) := by decide +kernel
theorem dX7_push_18 : decode cX7_push 18 = .ok (.iload_n 2, 1) := by decide +kernel
theorem dX7_push_19 : decode cX7_push 19 = .ok (.iastore, 1) := by decide +kernel
theorem dX7_push_20 : decode cX7_push 20 = .ok (.aload_n 0, 1) := by decide +kernel
theorem dX7_push_21 : decode cX7_push 21 = .ok (.getfield 82, 3) := by decide +kernel
theorem dX7_push_24 : decode cX7_push 24 = .ok (.aload_n 0, 1) := by decide +kernel
theorem dX7_push_25 : decode cX7_push 25 = .ok (.getfield 144, 3) := by decide +kernel
theorem dX7_push_28 : decode cX7_push 28 = .ok (.iload_n 3, 1) := by decide +kernel
theorem dX7_push_29 : decode cX7_push 29 = .ok (.bastore, 1) := by decide +kernel
theorem dX7_push_30 : decode cX7_push 30 = .ok (.aload_n 0, 1) := by decide +kernel
theorem dX7_push_31 : decode cX7_push 31 = .ok (.dup, 1) := by decide +kernel
theorem dX7_push_32 : decode cX7_push 32 = .ok (.getfield 144, 3) := by decide +kernel
theorem dX7_push_35 : decode cX7_push 35 = .ok (.iconst 1, 1) := by decide +kernel
theorem dX7_push_36 : decode cX7_push 36 = .ok (.iadd, 1) := by decide +kernel
theorem dX7_push_37 : decode cX7_push 37 = .ok (.putfield 144, 3) := by decide +kernel
theorem dX7_push_40 : decode cX7_push 40 = .ok (.return_, 1) := by decide +kernel
theorem dX7_balanced_0 : decode cX7_balanced 0 = .ok (.iconst 0, 1) := by decide +kernel
theorem dX7_balanced_1 : decode cX7_balanced 1 = .ok (.istore_n 1, 1) := by decide +kernel
theorem dX7_balanced_2 : decode cX7_balanced 2 = .ok (.aload_n 0, 1) := by decide +kernel
theorem dX7_balanced_3 : decode cX7_balanced 3 = .ok (.iconst 0, 1) := by decide +kernel
theorem dX7_balanced_4 : decode cX7_balanced 4 = .ok (.putfield 144, 3) := by decide +kernel
theorem dX7_balanced_7 : decode cX7_balanced 7 = .ok (.aload_n 0, 1) := by decide +kernel
theorem dX7_balanced_8 : decode cX7_balanced 8 = .ok (.iconst 0, 1) := by decide +kernel
theorem dX7_balanced_9 : decode cX7_balanced 9 = .ok (.aload_n 0, 1) := by decide +kernel
theorem dX7_balanced_10 : decode cX7_balanced 10 = .ok (.getfield 135, 3) := by decide +kernel
theorem dX7_balanced_13 : decode cX7_balanced 13 = .ok (.iconst 0, 1) := by decide +kernel
theorem dX7_balanced_14 : decode cX7_balanced 14 = .ok (.invokevirtual 147, 3) := by decide +kernel
theorem dX7_balanced_17 : decode cX7_balanced 17 = .ok (.aload_n 0, 1) := by decide +kernel
theorem dX7_balanced_18 : decode cX7_balanced 18 = .ok (.getfield 144, 3) := by decide +kernel
theorem dX7_balanced_21 : decode cX7_balanced 21 = .ok (.ifCond .le 137, 3) := by decide +kernel
theorem dX7_balanced_24 : decode cX7_balanced 24 = .ok (.aload_n 0, 1) := by decide +kernel
theorem dX7_balanced_25 : decode cX7_balanced 25 = .ok (.dup, 1) := by decide +kernel
theorem dX7_balanced_26 : decode cX7_balanced 26 = .ok (.getfield 144, 3) := by decide +kernel
theorem dX7_balanced_29 : decode cX7_balanced 29 = .ok (.iconst 1, 1) := by decide +kernel
theorem dX7_balanced_30 : decode cX7_balanced 30 = .ok (.isub, 1) := by decide +kernel
theorem dX7_balanced_31 : decode cX7_balanced 31 = .ok (.putfield 144, 3) := by decide +kernel
theorem dX7_balanced_34 : decode cX7_balanced 34 = .ok (.aload_n 0, 1) := by decide +kernel
theorem dX7_balanced_35 : decode cX7_balanced 35 = .ok (.getfield 76, 3) := by decide +kernel
theorem dX7_balanced_38 : decode cX7_balanced 38 = .ok (.aload_n 0, 1) := by decide +kernel
theorem dX7_balanced_39 : decode cX7_balanced 39 = .ok (.getfield 144, 3) := by decide +kernel
theorem dX7_balanced_42 : decode cX7_balanced 42 = .ok (.iaload, 1) := by decide +kernel
theorem dX7_balanced_43 : decode cX7_balanced 43 = .ok (.istore_n 2, 1) := by decide +kernel
theorem dX7_balanced_44 : decode cX7_balanced 44 = .ok (.aload_n 0, 1) := by decide +kernel
theorem dX7_balanced_45 : decode cX7_balanced 45 = .ok (.getfield 79, 3) := by decide +kernel
theorem dX7_balanced_48 : decode cX7_balanced 48 = .ok (.aload_n 0, 1) := by decide +kernel
theorem dX7_balanced_49 : decode cX7_balanced 49 = .ok (.getfield 144, 3) := by decide +kernel
theorem dX7_balanced_52 : decode cX7_balanced 52 = .ok (.iaload, 1) := by decide +kernel
theorem dX7_balanced_53 : decode cX7_balanced 53 = .ok (.istore_n 3, 1) := by decide +kernel
theorem dX7_balanced_54 : decode cX7_balanced 54 = .ok (.iload_n 3, 1) := by decide +kernel
theorem dX7_balanced_55 : decode cX7_balanced 55 = .ok (.iload_n 2, 1) := by decide +kernel
theorem dX7_balanced_56 : decode cX7_balanced 56 = .ok (.isub, 1) := by decide +kernel
theorem dX7_balanced_57 : decode cX7_balanced 57 = .ok (.iconst 1, 1) := by decide +kernel
theorem dX7_balanced_58 : decode cX7_balanced 58 = .ok (.if_icmp .ne 21, 3) := by decide +kernel
theorem dX7_balanced_61 : decode cX7_balanced 61 = .ok (.aload_n 0, 1) := by decide +kernel
theorem dX7_balanced_62 : decode cX7_balanced 62 = .ok (.getfield 85, 3) := by decide +kernel
theorem dX7_balanced_65 : decode cX7_balanced 65 = .ok (.iload_n 1, 1) := by decide +kernel
theorem dX7_balanced_66 : decode cX7_balanced 66 = .ok (.aload_n 0, 1) := by decide +kernel
theorem dX7_balanced_67 : decode cX7_balanced 67 = .ok (.getfield 67, 3) := by decide +kernel
theorem dX7_balanced_70 : decode cX7_balanced 70 = .ok (.iload_n 2, 1) := by decide +kernel
theorem dX7_balanced_71 : decode cX7_balanced 71 = .ok (.iaload, 1) := by decide +kernel
theorem dX7_balanced_72 : decode cX7_balanced 72 = .ok (.iastore, 1) := by decide +kernel
theorem dX7_balanced_73 : decode cX7_balanced 73 = .ok (.iinc 1 1, 3) := by decide +kernel
theorem dX7_balanced_76 : decode cX7_balanced 76 = .ok (.goto 79, 3) := by decide +kernel
theorem dX7_balanced_79 : decode cX7_balanced 79 = .ok (.aload_n 0, 1) := by decide +kernel
theorem dX7_balanced_80 : decode cX7_balanced 80 = .ok (.getfield 82, 3) := by decide +kernel
theorem dX7_balanced_83 : decode cX7_balanced 83 = .ok (.aload_n 0, 1) := by decide +kernel
theorem dX7_balanced_84 : decode cX7_balanced 84 = .ok (.getfield 144, 3) := by decide +kernel
theorem dX7_balanced_87 : decode cX7_balanced 87 = .ok (.baload, 1) := by decide +kernel
theorem dX7_balanced_88 : decode cX7_balanced 88 = .ok (.ifCond .eq 35, 3) := by decide +kernel
theorem dX7_balanced_91 : decode cX7_balanced 91 = .ok (.iinc 1 (-1), 3) := by decide +kernel
theorem dX7_balanced_94 : decode cX7_balanced 94 = .ok (.aload_n 0, 1) := by decide +kernel
theorem dX7_balanced_95 : decode cX7_balanced 95 = .ok (.getfield 85, 3) := by decide +kernel
theorem dX7_balanced_98 : decode cX7_balanced 98 = .ok (.iload_n 1, 1) := by decide +kernel
theorem dX7_balanced_99 : decode cX7_balanced 99 = .ok (.iconst 1, 1) := by decide +kernel
theorem dX7_balanced_100 : decode cX7_balanced 100 = .ok (.isub, 1) := by decide +kernel
theorem dX7_balanced_101 : decode cX7_balanced 101 = .ok (.aload_n 0, 1) := by decide +kernel
theorem dX7_balanced_102 : decode cX7_balanced 102 = .ok (.aload_n 0, 1) := by decide +kernel
theorem dX7_balanced_103 : decode cX7_balanced 103 = .ok (.getfield 85, 3) := by decide +kernel
theorem dX7_balanced_106 : decode cX7_balanced 106 = .ok (.iload_n 1, 1) := by decide +kernel
theorem dX7_balanced_107 : decode cX7_balanced 107 = .ok (.iconst 1, 1) := by decide +kernel
theorem dX7_balanced_108 : decode cX7_balanced 108 = .ok (.isub, 1) := by decide +kernel
theorem dX7_balanced_109 : decode cX7_balanced 109 = .ok (.iaload, 1) := by decide +kernel
theorem dX7_balanced_110 : decode cX7_balanced 110 = .ok (.aload_n 0, 1) := by decide +kernel
theorem dX7_balanced_111 : decode cX7_balanced 111 = .ok (.getfield 85, 3) := by decide +kernel
theorem dX7_balanced_114 : decode cX7_balanced 114 = .ok (.iload_n 1, 1) := by decide +kernel
theorem dX7_balanced_115 : decode cX7_balanced 115 = .ok (.iaload, 1) := by decide +kernel
theorem dX7_balanced_116 : decode cX7_balanced 116 = .ok (.invokevirtual 151, 3) := by decide +kernel
theorem dX7_balanced_119 : decode cX7_balanced 119 = .ok (.iastore, 1) := by decide +kernel
theorem dX7_balanced_120 : decode cX7_balanced 120 = .ok (.goto 35, 3) := by decide +kernel
theorem dX7_balanced_123 : decode cX7_balanced 123 = .ok (.iload_n 2, 1) := by decide +kernel
theorem dX7_balanced_124 : decode cX7_balanced 124 = .ok (.iload_n 3, 1) := by decide +kernel
theorem dX7_balanced_125 : decode cX7_balanced 125 = .ok (.iload_n 2, 1) := by decide +kernel
theorem dX7_balanced_126 : decode cX7_balanced 126 = .ok (.isub, 1) := by decide +kernel
theorem dX7_balanced_127 : decode cX7_balanced 127 = .ok (.iconst 2, 1) := by decide +kernel
theorem dX7_balanced_128 : decode cX7_balanced 128 = .ok (.idiv, 1) := by decide +kernel
theorem dX7_balanced_129 : decode cX7_balanced 129 = .ok (.iadd, 1) := by decide +kernel
theorem dX7_balanced_130 : decode cX7_balanced 130 = .ok (.istore 4, 2) := by decide +kernel
theorem dX7_balanced_132 : decode cX7_balanced 132 = .ok (.aload_n 0, 1) := by decide +kernel
theorem dX7_balanced_133 : decode cX7_balanced 133 = .ok (.iload_n 2, 1) := by decide +kernel
theorem dX7_balanced_134 : decode cX7_balanced 134 = .ok (.iload_n 3, 1) := by decide +kernel
theorem dX7_balanced_135 : decode cX7_balanced 135 = .ok (.iconst 1, 1) := by decide +kernel
theorem dX7_balanced_136 : decode cX7_balanced 136 = .ok (.invokevirtual 147, 3) := by decide +kernel
theorem dX7_balanced_139 : decode cX7_balanced 139 = .ok (.aload_n 0, 1) := by decide +kernel
theorem dX7_balanced_140 : decode cX7_balanced 140 = .ok (.iload 4, 2) := by decide +kernel
theorem dX7_balanced_142 : decode cX7_balanced 142 = .ok (.iload_n 3, 1) := by decide +kernel
theorem dX7_balanced_143 : decode cX7_balanced 143 = .ok (.iconst 0, 1) := by decide +kernel
theorem dX7_balanced_144 : decode cX7_balanced 144 = .ok (.invokevirtual 147, 3) := by decide +kernel
theorem dX7_balanced_147 : decode cX7_balanced 147 = .ok (.aload_n 0, 1) := by decide +kernel
theorem dX7_balanced_148 : decode cX7_balanced 148 = .ok (.iload_n 2, 1) := by decide +kernel
theorem dX7_balanced_149 : decode cX7_balanced 149 = .ok (.iload 4, 2) := by decide +kernel
theorem dX7_balanced_151 : decode cX7_balanced 151 = .ok (.iconst 0, 1) := by decide +kernel
theorem dX7_balanced_152 : decode cX7_balanced 152 = .ok (.invokevirtual 147, 3) := by decide +kernel
theorem dX7_balanced_155 : decode cX7_balanced 155 = .ok (.goto (-138), 3) := by decide +kernel
theorem dX7_balanced_158 : decode cX7_balanced 158 = .ok (.aload_n 0, 1) := by decide +kernel
theorem dX7_balanced_159 : decode cX7_balanced 159 = .ok (.getfield 85, 3) := by decide +kernel
theorem dX7_balanced_162 : decode cX7_balanced 162 = .ok (.iconst 0, 1) := by decide +kernel
theorem dX7_balanced_163 : decode cX7_balanced 163 = .ok (.iaload, 1) := by decide +kernel
theorem dX7_balanced_164 : decode cX7_balanced 164 = .ok (.ireturn, 1) := by decide +kernel
theorem dX7_joined_0 : decode cX7_joined 0 = .ok (.aload_n 0, 1) := by decide +kernel
theorem dX7_joined_1 : decode cX7_joined 1 = .ok (.getfield 19, 3) := by decide +kernel
theorem dX7_joined_4 : decode cX7_joined 4 = .ok (.iload_n 2, 1) := by decide +kernel
theorem dX7_joined_5 : decode cX7_joined 5 = .ok (.iaload, 1) := by decide +kernel
theorem dX7_joined_6 : decode cX7_joined 6 = .ok (.ifCond .ne 5, 3) := by decide +kernel
theorem dX7_joined_9 : decode cX7_joined 9 = .ok (.iload_n 1, 1) := by decide +kernel
theorem dX7_joined_10 : decode cX7_joined 10 = .ok (.ireturn, 1) := by decide +kernel
theorem dX7_joined_11 : decode cX7_joined 11 = .ok (.aload_n 0, 1) := by decide +kernel
theorem dX7_joined_12 : decode cX7_joined 12 = .ok (.getfield 19, 3) := by decide +kernel
theorem dX7_joined_15 : decode cX7_joined 15 = .ok (.iload_n 1, 1) := by decide +kernel
theorem dX7_joined_16 : decode cX7_joined 16 = .ok (.iaload, 1) := by decide +kernel
theorem dX7_joined_17 : decode cX7_joined 17 = .ok (.ifCond .ne 5, 3) := by decide +kernel
theorem dX7_joined_20 : decode cX7_joined 20 = .ok (.iload_n 2, 1) := by decide +kernel
theorem dX7_joined_21 : decode cX7_joined 21 = .ok (.ireturn, 1) := by decide +kernel
theorem dX7_joined_22 : decode cX7_joined 22 = .ok (.aload_n 0, 1) := by decide +kernel
theorem dX7_joined_23 : decode cX7_joined 23 = .ok (.getfield 19, 3) := by decide +kernel
theorem dX7_joined_26 : decode cX7_joined 26 = .ok (.iload_n 1, 1) := by decide +kernel
theorem dX7_joined_27 : decode cX7_joined 27 = .ok (.iaload, 1) := by decide +kernel
theorem dX7_joined_28 : decode cX7_joined 28 = .ok (.aload_n 0, 1) := by decide +kernel
theorem dX7_joined_29 : decode cX7_joined 29 = .ok (.getfield 19, 3) := by decide +kernel
theorem dX7_joined_32 : decode cX7_joined 32 = .ok (.iload_n 2, 1) := by decide +kernel
theorem dX7_joined_33 : decode cX7_joined 33 = .ok (.iaload, 1) := by decide +kernel
theorem dX7_joined_34 : decode cX7_joined 34 = .ok (.iadd, 1) := by decide +kernel
theorem dX7_joined_35 : decode cX7_joined 35 = .ok (.aload_n 0, 1) := by decide +kernel
theorem dX7_joined_36 : decode cX7_joined 36 = .ok (.getfield 52, 3) := by decide +kernel
theorem dX7_joined_39 : decode cX7_joined 39 = .ok (.if_icmp .gt 23, 3) := by decide +kernel
theorem dX7_joined_42 : decode cX7_joined 42 = .ok (.aload_n 0, 1) := by decide +kernel
theorem dX7_joined_43 : decode cX7_joined 43 = .ok (.iload_n 1, 1) := by decide +kernel
theorem dX7_joined_44 : decode cX7_joined 44 = .ok (.iconst 0, 1) := by decide +kernel
theorem dX7_joined_45 : decode cX7_joined 45 = .ok (.invokevirtual 154, 3) := by decide +kernel
theorem dX7_joined_48 : decode cX7_joined 48 = .ok (.istore_n 3, 1) := by decide +kernel
theorem dX7_joined_49 : decode cX7_joined 49 = .ok (.aload_n 0, 1) := by decide +kernel
theorem dX7_joined_50 : decode cX7_joined 50 = .ok (.iload_n 3, 1) := by decide +kernel
theorem dX7_joined_51 : decode cX7_joined 51 = .ok (.aload_n 0, 1) := by decide +kernel
theorem dX7_joined_52 : decode cX7_joined 52 = .ok (.iload_n 2, 1) := by decide +kernel
theorem dX7_joined_53 : decode cX7_joined 53 = .ok (.iload_n 3, 1) := by decide +kernel
theorem dX7_joined_54 : decode cX7_joined 54 = .ok (.invokevirtual 154, 3) := by decide +kernel
theorem dX7_joined_57 : decode cX7_joined 57 = .ok (.iadd, 1) := by decide +kernel
theorem dX7_joined_58 : decode cX7_joined 58 = .ok (.invokevirtual 100, 3) := by decide +kernel
theorem dX7_joined_61 : decode cX7_joined 61 = .ok (.ireturn, 1) := by decide +kernel
theorem dX7_joined_62 : decode cX7_joined 62 = .ok (.aload_n 0, 1) := by decide +kernel
theorem dX7_joined_63 : decode cX7_joined 63 = .ok (.iload_n 1, 1) := by decide +kernel
theorem dX7_joined_64 : decode cX7_joined 64 = .ok (.iload_n 2, 1) := by decide +kernel
theorem dX7_joined_65 : decode cX7_joined 65 = .ok (.invokevirtual 151, 3) := by decide +kernel
theorem dX7_joined_68 : decode cX7_joined 68 = .ok (.istore_n 3, 1) := by decide +kernel
theorem dX7_joined_69 : decode cX7_joined 69 = .ok (.aload_n 0, 1) := by decide +kernel
theorem dX7_joined_70 : decode cX7_joined 70 = .ok (.iload_n 3, 1) := by decide +kernel
theorem dX7_joined_71 : decode cX7_joined 71 = .ok (.invokevirtual 138, 3) := by decide +kernel
theorem dX7_joined_74 : decode cX7_joined 74 = .ok (.aload_n 0, 1) := by decide +kernel
theorem dX7_joined_75 : decode cX7_joined 75 = .ok (.getfield 55, 3) := by decide +kernel
theorem dX7_joined_78 : decode cX7_joined 78 = .ok (.if_icmp .le 10, 3) := by decide +kernel
theorem dX7_joined_81 : decode cX7_joined 81 = .ok (.aload_n 0, 1) := by decide +kernel
theorem dX7_joined_82 : decode cX7_joined 82 = .ok (.invokevirtual 157, 3) := by decide +kernel
theorem dX7_joined_85 : decode cX7_joined 85 = .ok (.goto 4, 3) := by decide +kernel
theorem dX7_joined_88 : decode cX7_joined 88 = .ok (.iload_n 3, 1) := by decide +kernel
theorem dX7_joined_89 : decode cX7_joined 89 = .ok (.ireturn, 1) := by decide +kernel
theorem dX7_toCut_0 : decode cX7_toCut 0 = .ok (.aload_n 0, 1) := by decide +kernel
theorem dX7_toCut_1 : decode cX7_toCut 1 = .ok (.getfield 88, 3) := by decide +kernel
theorem dX7_toCut_4 : decode cX7_toCut 4 = .ok (.aload_n 0, 1) := by decide +kernel
theorem dX7_toCut_5 : decode cX7_toCut 5 = .ok (.getfield 161, 3) := by decide +kernel
theorem dX7_toCut_8 : decode cX7_toCut 8 = .ok (.iload_n 1, 1) := by decide +kernel
theorem dX7_toCut_9 : decode cX7_toCut 9 = .ok (.iastore, 1) := by decide +kernel
theorem dX7_toCut_10 : decode cX7_toCut 10 = .ok (.aload_n 0, 1) := by decide +kernel
theorem dX7_toCut_11 : decode cX7_toCut 11 = .ok (.getfield 91, 3) := by decide +kernel
theorem dX7_toCut_14 : decode cX7_toCut 14 = .ok (.aload_n 0, 1) := by decide +kernel
theorem dX7_toCut_15 : decode cX7_toCut 15 = .ok (.getfield 161, 3) := by decide +kernel
theorem dX7_toCut_18 : decode cX7_toCut 18 = .ok (.iload_n 2, 1) := by decide +kernel
theorem dX7_toCut_19 : decode cX7_toCut 19 = .ok (.iastore, 1) := by decide +kernel
theorem dX7_toCut_20 : decode cX7_toCut 20 = .ok (.aload_n 0, 1) := by decide +kernel
theorem dX7_toCut_21 : decode cX7_toCut 21 = .ok (.getfield 94, 3) := by decide +kernel
theorem dX7_toCut_24 : decode cX7_toCut 24 = .ok (.aload_n 0, 1) := by decide +kernel
theorem dX7_toCut_25 : decode cX7_toCut 25 = .ok (.getfield 161, 3) := by decide +kernel
theorem dX7_toCut_28 : decode cX7_toCut 28 = .ok (.iload_n 3, 1) := by decide +kernel
theorem dX7_toCut_29 : decode cX7_toCut 29 = .ok (.iastore, 1) := by decide +kernel
theorem dX7_toCut_30 : decode cX7_toCut 30 = .ok (.aload_n 0, 1) := by decide +kernel
theorem dX7_toCut_31 : decode cX7_toCut 31 = .ok (.dup, 1) := by decide +kernel
theorem dX7_toCut_32 : decode cX7_toCut 32 = .ok (.getfield 161, 3) := by decide +kernel
theorem dX7_toCut_35 : decode cX7_toCut 35 = .ok (.iconst 1, 1) := by decide +kernel
theorem dX7_toCut_36 : decode cX7_toCut 36 = .ok (.iadd, 1) := by decide +kernel
theorem dX7_toCut_37 : decode cX7_toCut 37 = .ok (.putfield 161, 3) := by decide +kernel
theorem dX7_toCut_40 : decode cX7_toCut 40 = .ok (.return_, 1) := by decide +kernel
theorem dX7_cutLeaf_0 : decode cX7_cutLeaf 0 = .ok (.iload_n 3, 1) := by decide +kernel
theorem dX7_cutLeaf_1 : decode cX7_cutLeaf 1 = .ok (.aload_n 0, 1) := by decide +kernel
theorem dX7_cutLeaf_2 : decode cX7_cutLeaf 2 = .ok (.getfield 58, 3) := by decide +kernel
theorem dX7_cutLeaf_5 : decode cX7_cutLeaf 5 = .ok (.imul, 1) := by decide +kernel
theorem dX7_cutLeaf_6 : decode cX7_cutLeaf 6 = .ok (.aload_n 0, 1) := by decide +kernel
theorem dX7_cutLeaf_7 : decode cX7_cutLeaf 7 = .ok (.getfield 19, 3) := by decide +kernel
theorem dX7_cutLeaf_10 : decode cX7_cutLeaf 10 = .ok (.iload_n 1, 1) := by decide +kernel
theorem dX7_cutLeaf_11 : decode cX7_cutLeaf 11 = .ok (.iaload, 1) := by decide +kernel
theorem dX7_cutLeaf_12 : decode cX7_cutLeaf 12 = .ok (.if_icmp .lt 12, 3) := by decide +kernel
theorem dX7_cutLeaf_15 : decode cX7_cutLeaf 15 = .ok (.aload_n 0, 1) := by decide +kernel
theorem dX7_cutLeaf_16 : decode cX7_cutLeaf 16 = .ok (.iconst 3, 1) := by decide +kernel
theorem dX7_cutLeaf_17 : decode cX7_cutLeaf 17 = .ok (.iload_n 1, 1) := by decide +kernel
theorem dX7_cutLeaf_18 : decode cX7_cutLeaf 18 = .ok (.iload_n 2, 1) := by decide +kernel
theorem dX7_cutLeaf_19 : decode cX7_cutLeaf 19 = .ok (.iload_n 3, 1) := by decide +kernel
theorem dX7_cutLeaf_20 : decode cX7_cutLeaf 20 = .ok (.invokevirtual 114, 3) := by decide +kernel
theorem dX7_cutLeaf_23 : decode cX7_cutLeaf 23 = .ok (.ireturn, 1) := by decide +kernel
theorem dX7_cutLeaf_24 : decode cX7_cutLeaf 24 = .ok (.iconst 0, 1) := by decide +kernel
theorem dX7_cutLeaf_25 : decode cX7_cutLeaf 25 = .ok (.istore 4, 2) := by decide +kernel
theorem dX7_cutLeaf_27 : decode cX7_cutLeaf 27 = .ok (.iload 4, 2) := by decide +kernel
theorem dX7_cutLeaf_29 : decode cX7_cutLeaf 29 = .ok (.iload_n 3, 1) := by decide +kernel
theorem dX7_cutLeaf_30 : decode cX7_cutLeaf 30 = .ok (.if_icmp .ge 32, 3) := by decide +kernel
theorem dX7_cutLeaf_33 : decode cX7_cutLeaf 33 = .ok (.aload_n 0, 1) := by decide +kernel
theorem dX7_cutLeaf_34 : decode cX7_cutLeaf 34 = .ok (.getfield 61, 3) := by decide +kernel
theorem dX7_cutLeaf_37 : decode cX7_cutLeaf 37 = .ok (.iload 4, 2) := by decide +kernel
theorem dX7_cutLeaf_39 : decode cX7_cutLeaf 39 = .ok (.aload_n 0, 1) := by decide +kernel
theorem dX7_cutLeaf_40 : decode cX7_cutLeaf 40 = .ok (.getfield 31, 3) := by decide +kernel
theorem dX7_cutLeaf_43 : decode cX7_cutLeaf 43 = .ok (.aload_n 0, 1) := by decide +kernel
theorem dX7_cutLeaf_44 : decode cX7_cutLeaf 44 = .ok (.getfield 13, 3) := by decide +kernel
theorem dX7_cutLeaf_47 : decode cX7_cutLeaf 47 = .ok (.iload_n 1, 1) := by decide +kernel
theorem dX7_cutLeaf_48 : decode cX7_cutLeaf 48 = .ok (.iaload, 1) := by decide +kernel
theorem dX7_cutLeaf_49 : decode cX7_cutLeaf 49 = .ok (.iload_n 2, 1) := by decide +kernel
theorem dX7_cutLeaf_50 : decode cX7_cutLeaf 50 = .ok (.iadd, 1) := by decide +kernel
theorem dX7_cutLeaf_51 : decode cX7_cutLeaf 51 = .ok (.iload 4, 2) := by decide +kernel
theorem dX7_cutLeaf_53 : decode cX7_cutLeaf 53 = .ok (.iadd, 1) := by decide +kernel
theorem dX7_cutLeaf_54 : decode cX7_cutLeaf 54 = .ok (.iaload, 1) := by decide +kernel
theorem dX7_cutLeaf_55 : decode cX7_cutLeaf 55 = .ok (.iastore, 1) := by decide +kernel
theorem dX7_cutLeaf_56 : decode cX7_cutLeaf 56 = .ok (.iinc 4 1, 3) := by decide +kernel
theorem dX7_cutLeaf_59 : decode cX7_cutLeaf 59 = .ok (.goto (-32), 3) := by decide +kernel
theorem dX7_cutLeaf_62 : decode cX7_cutLeaf 62 = .ok (.aload_n 0, 1) := by decide +kernel
theorem dX7_cutLeaf_63 : decode cX7_cutLeaf 63 = .ok (.iload_n 3, 1) := by decide +kernel
theorem dX7_cutLeaf_64 : decode cX7_cutLeaf 64 = .ok (.invokevirtual 100, 3) := by decide +kernel
theorem dX7_cutLeaf_67 : decode cX7_cutLeaf 67 = .ok (.ireturn, 1) := by decide +kernel
theorem dX7_cutOne_0 : decode cX7_cutOne 0 = .ok (.iload_n 3, 1) := by decide +kernel
theorem dX7_cutOne_1 : decode cX7_cutOne 1 = .ok (.ifCond .ne 20, 3) := by decide +kernel
theorem dX7_cutOne_4 : decode cX7_cutOne 4 = .ok (.aload_n 0, 1) := by decide +kernel
theorem dX7_cutOne_5 : decode cX7_cutOne 5 = .ok (.getfield 97, 3) := by decide +kernel
theorem dX7_cutOne_8 : decode cX7_cutOne 8 = .ok (.iload 4, 2) := by decide +kernel
theorem dX7_cutOne_10 : decode cX7_cutOne 10 = .ok (.aload_n 0, 1) := by decide +kernel
theorem dX7_cutOne_11 : decode cX7_cutOne 11 = .ok (.iconst 0, 1) := by decide +kernel
theorem dX7_cutOne_12 : decode cX7_cutOne 12 = .ok (.invokevirtual 100, 3) := by decide +kernel
theorem dX7_cutOne_15 : decode cX7_cutOne 15 = .ok (.iastore, 1) := by decide +kernel
theorem dX7_cutOne_16 : decode cX7_cutOne 16 = .ok (.iload 4, 2) := by decide +kernel
theorem dX7_cutOne_18 : decode cX7_cutOne 18 = .ok (.iconst 1, 1) := by decide +kernel
theorem dX7_cutOne_19 : decode cX7_cutOne 19 = .ok (.iadd, 1) := by decide +kernel
theorem dX7_cutOne_20 : decode cX7_cutOne 20 = .ok (.ireturn, 1) := by decide +kernel
theorem dX7_cutOne_21 : decode cX7_cutOne 21 = .ok (.iload_n 3, 1) := by decide +kernel
theorem dX7_cutOne_22 : decode cX7_cutOne 22 = .ok (.aload_n 0, 1) := by decide +kernel
theorem dX7_cutOne_23 : decode cX7_cutOne 23 = .ok (.getfield 19, 3) := by decide +kernel
theorem dX7_cutOne_26 : decode cX7_cutOne 26 = .ok (.iload_n 1, 1) := by decide +kernel
theorem dX7_cutOne_27 : decode cX7_cutOne 27 = .ok (.iaload, 1) := by decide +kernel
theorem dX7_cutOne_28 : decode cX7_cutOne 28 = .ok (.if_icmp .ne 16, 3) := by decide +kernel
theorem dX7_cutOne_31 : decode cX7_cutOne 31 = .ok (.aload_n 0, 1) := by decide +kernel
theorem dX7_cutOne_32 : decode cX7_cutOne 32 = .ok (.getfield 97, 3) := by decide +kernel
theorem dX7_cutOne_35 : decode cX7_cutOne 35 = .ok (.iload 4, 2) := by decide +kernel
theorem dX7_cutOne_37 : decode cX7_cutOne 37 = .ok (.iload_n 1, 1) := by decide +kernel
theorem dX7_cutOne_38 : decode cX7_cutOne 38 = .ok (.iastore, 1) := by decide +kernel
theorem dX7_cutOne_39 : decode cX7_cutOne 39 = .ok (.iload 4, 2) := by decide +kernel
theorem dX7_cutOne_41 : decode cX7_cutOne 41 = .ok (.iconst 1, 1) := by decide +kernel
theorem dX7_cutOne_42 : decode cX7_cutOne 42 = .ok (.iadd, 1) := by decide +kernel
theorem dX7_cutOne_43 : decode cX7_cutOne 43 = .ok (.ireturn, 1) := by decide +kernel
theorem dX7_cutOne_44 : decode cX7_cutOne 44 = .ok (.aload_n 0, 1) := by decide +kernel
theorem dX7_cutOne_45 : decode cX7_cutOne 45 = .ok (.getfield 7, 3) := by decide +kernel
theorem dX7_cutOne_48 : decode cX7_cutOne 48 = .ok (.iload_n 1, 1) := by decide +kernel
theorem dX7_cutOne_49 : decode cX7_cutOne 49 = .ok (.iaload, 1) := by decide +kernel
theorem dX7_cutOne_50 : decode cX7_cutOne 50 = .ok (.iconst 2, 1) := by decide +kernel
theorem dX7_cutOne_51 : decode cX7_cutOne 51 = .ok (.if_icmp .eq 54, 3) := by decide +kernel
theorem dX7_cutOne_54 : decode cX7_cutOne 54 = .ok (.aload_n 0, 1) := by decide +kernel
theorem dX7_cutOne_55 : decode cX7_cutOne 55 = .ok (.getfield 97, 3) := by decide +kernel
theorem dX7_cutOne_58 : decode cX7_cutOne 58 = .ok (.iload 4, 2) := by decide +kernel
theorem dX7_cutOne_60 : decode cX7_cutOne 60 = .ok (.aload_n 0, 1) := by decide +kernel
theorem dX7_cutOne_61 : decode cX7_cutOne 61 = .ok (.getfield 7, 3) := by decide +kernel
theorem dX7_cutOne_64 : decode cX7_cutOne 64 = .ok (.iload_n 1, 1) := by decide +kernel
theorem dX7_cutOne_65 : decode cX7_cutOne 65 = .ok (.iaload, 1) := by decide +kernel
theorem dX7_cutOne_66 : decode cX7_cutOne 66 = .ok (.iconst 1, 1) := by decide +kernel
theorem dX7_cutOne_67 : decode cX7_cutOne 67 = .ok (.if_icmp .ne 13, 3) := by decide +kernel
theorem dX7_cutOne_70 : decode cX7_cutOne 70 = .ok (.aload_n 0, 1) := by decide +kernel
theorem dX7_cutOne_71 : decode cX7_cutOne 71 = .ok (.iload_n 1, 1) := by decide +kernel
theorem dX7_cutOne_72 : decode cX7_cutOne 72 = .ok (.iload_n 2, 1) := by decide +kernel
theorem dX7_cutOne_73 : decode cX7_cutOne 73 = .ok (.iload_n 3, 1) := by decide +kernel
theorem dX7_cutOne_74 : decode cX7_cutOne 74 = .ok (.invokevirtual 164, 3) := by decide +kernel
theorem dX7_cutOne_77 : decode cX7_cutOne 77 = .ok (.goto 22, 3) := by decide +kernel
theorem dX7_cutOne_80 : decode cX7_cutOne 80 = .ok (.aload_n 0, 1) := by decide +kernel
theorem dX7_cutOne_81 : decode cX7_cutOne 81 = .ok (.aload_n 0, 1) := by decide +kernel
theorem dX7_cutOne_82 : decode cX7_cutOne 82 = .ok (.getfield 13, 3) := by decide +kernel
theorem dX7_cutOne_85 : decode cX7_cutOne 85 = .ok (.iload_n 1, 1) := by decide +kernel
theorem dX7_cutOne_86 : decode cX7_cutOne 86 = .ok (.iaload, 1) := by decide +kernel
theorem dX7_cutOne_87 : decode cX7_cutOne 87 = .ok (.aload_n 0, 1) := by decide +kernel
theorem dX7_cutOne_88 : decode cX7_cutOne 88 = .ok (.getfield 16, 3) := by decide +kernel
theorem dX7_cutOne_91 : decode cX7_cutOne 91 = .ok (.iload_n 1, 1) := by decide +kernel
theorem dX7_cutOne_92 : decode cX7_cutOne 92 = .ok (.iaload, 1) := by decide +kernel
theorem dX7_cutOne_93 : decode cX7_cutOne 93 = .ok (.iload_n 2, 1) := by decide +kernel
theorem dX7_cutOne_94 : decode cX7_cutOne 94 = .ok (.iadd, 1) := by decide +kernel
theorem dX7_cutOne_95 : decode cX7_cutOne 95 = .ok (.iload_n 3, 1) := by decide +kernel
theorem dX7_cutOne_96 : decode cX7_cutOne 96 = .ok (.invokevirtual 164, 3) := by decide +kernel
theorem dX7_cutOne_99 : decode cX7_cutOne 99 = .ok (.iastore, 1) := by decide +kernel
theorem dX7_cutOne_100 : decode cX7_cutOne 100 = .ok (.iload 4, 2) := by decide +kernel
theorem dX7_cutOne_102 : decode cX7_cutOne 102 = .ok (.iconst 1, 1) := by decide +kernel
theorem dX7_cutOne_103 : decode cX7_cutOne 103 = .ok (.iadd, 1) := by decide +kernel
theorem dX7_cutOne_104 : decode cX7_cutOne 104 = .ok (.ireturn, 1) := by decide +kernel
theorem dX7_cutOne_105 : decode cX7_cutOne 105 = .ok (.aload_n 0, 1) := by decide +kernel
theorem dX7_cutOne_106 : decode cX7_cutOne 106 = .ok (.getfield 19, 3) := by decide +kernel
theorem dX7_cutOne_109 : decode cX7_cutOne 109 = .ok (.aload_n 0, 1) := by decide +kernel
theorem dX7_cutOne_110 : decode cX7_cutOne 110 = .ok (.getfield 13, 3) := by decide +kernel
theorem dX7_cutOne_113 : decode cX7_cutOne 113 = .ok (.iload_n 1, 1) := by decide +kernel
theorem dX7_cutOne_114 : decode cX7_cutOne 114 = .ok (.iaload, 1) := by decide +kernel
theorem dX7_cutOne_115 : decode cX7_cutOne 115 = .ok (.iaload, 1) := by decide +kernel
theorem dX7_cutOne_116 : decode cX7_cutOne 116 = .ok (.istore 5, 2) := by decide +kernel
theorem dX7_cutOne_118 : decode cX7_cutOne 118 = .ok (.iload_n 2, 1) := by decide +kernel
theorem dX7_cutOne_119 : decode cX7_cutOne 119 = .ok (.iload_n 3, 1) := by decide +kernel
theorem dX7_cutOne_120 : decode cX7_cutOne 120 = .ok (.iadd, 1) := by decide +kernel
theorem dX7_cutOne_121 : decode cX7_cutOne 121 = .ok (.iload 5, 2) := by decide +kernel
theorem dX7_cutOne_123 : decode cX7_cutOne 123 = .ok (.if_icmp .gt 18, 3) := by decide +kernel
theorem dX7_cutOne_126 : decode cX7_cutOne 126 = .ok (.aload_n 0, 1) := by decide +kernel
theorem dX7_cutOne_127 : decode cX7_cutOne 127 = .ok (.aload_n 0, 1) := by decide +kernel
theorem dX7_cutOne_128 : decode cX7_cutOne 128 = .ok (.getfield 13, 3) := by decide +kernel
theorem dX7_cutOne_131 : decode cX7_cutOne 131 = .ok (.iload_n 1, 1) := by decide +kernel
theorem dX7_cutOne_132 : decode cX7_cutOne 132 = .ok (.iaload, 1) := by decide +kernel
theorem dX7_cutOne_133 : decode cX7_cutOne 133 = .ok (.iload_n 2, 1) := by decide +kernel
theorem dX7_cutOne_134 : decode cX7_cutOne 134 = .ok (.iload_n 3, 1) := by decide +kernel
theorem dX7_cutOne_135 : decode cX7_cutOne 135 = .ok (.invokevirtual 168, 3) := by decide +kernel
theorem dX7_cutOne_138 : decode cX7_cutOne 138 = .ok (.goto 68, 3) := by decide +kernel
theorem dX7_cutOne_141 : decode cX7_cutOne 141 = .ok (.iload_n 2, 1) := by decide +kernel
theorem dX7_cutOne_142 : decode cX7_cutOne 142 = .ok (.iload 5, 2) := by decide +kernel
theorem dX7_cutOne_144 : decode cX7_cutOne 144 = .ok (.if_icmp .lt 21, 3) := by decide +kernel
theorem dX7_cutOne_147 : decode cX7_cutOne 147 = .ok (.aload_n 0, 1) := by decide +kernel
theorem dX7_cutOne_148 : decode cX7_cutOne 148 = .ok (.aload_n 0, 1) := by decide +kernel
theorem dX7_cutOne_149 : decode cX7_cutOne 149 = .ok (.getfield 16, 3) := by decide +kernel
theorem dX7_cutOne_152 : decode cX7_cutOne 152 = .ok (.iload_n 1, 1) := by decide +kernel
theorem dX7_cutOne_153 : decode cX7_cutOne 153 = .ok (.iaload, 1) := by decide +kernel
theorem dX7_cutOne_154 : decode cX7_cutOne 154 = .ok (.iload_n 2, 1) := by decide +kernel
theorem dX7_cutOne_155 : decode cX7_cutOne 155 = .ok (.iload 5, 2) := by decide +kernel
theorem dX7_cutOne_157 : decode cX7_cutOne 157 = .ok (.isub, 1) := by decide +kernel
theorem dX7_cutOne_158 : decode cX7_cutOne 158 = .ok (.iload_n 3, 1) := by decide +kernel
theorem dX7_cutOne_159 : decode cX7_cutOne 159 = .ok (.invokevirtual 168, 3) := by decide +kernel
theorem dX7_cutOne_162 : decode cX7_cutOne 162 = .ok (.goto 44, 3) := by decide +kernel
theorem dX7_cutOne_165 : decode cX7_cutOne 165 = .ok (.aload_n 0, 1) := by decide +kernel
theorem dX7_cutOne_166 : decode cX7_cutOne 166 = .ok (.bipush (-6), 2) := by decide +kernel
theorem dX7_cutOne_168 : decode cX7_cutOne 168 = .ok (.iconst 0, 1) := by decide +kernel
theorem dX7_cutOne_169 : decode cX7_cutOne 169 = .ok (.bipush (-6), 2) := by decide +kernel
theorem dX7_cutOne_171 : decode cX7_cutOne 171 = .ok (.invokevirtual 168, 3) := by decide +kernel
theorem dX7_cutOne_174 : decode cX7_cutOne 174 = .ok (.aload_n 0, 1) := by decide +kernel
theorem dX7_cutOne_175 : decode cX7_cutOne 175 = .ok (.aload_n 0, 1) := by decide +kernel
theorem dX7_cutOne_176 : decode cX7_cutOne 176 = .ok (.getfield 16, 3) := by decide +kernel
theorem dX7_cutOne_179 : decode cX7_cutOne 179 = .ok (.iload_n 1, 1) := by decide +kernel
theorem dX7_cutOne_180 : decode cX7_cutOne 180 = .ok (.iaload, 1) := by decide +kernel
theorem dX7_cutOne_181 : decode cX7_cutOne 181 = .ok (.iconst 0, 1) := by decide +kernel
theorem dX7_cutOne_182 : decode cX7_cutOne 182 = .ok (.iload_n 2, 1) := by decide +kernel
theorem dX7_cutOne_183 : decode cX7_cutOne 183 = .ok (.iload_n 3, 1) := by decide +kernel
theorem dX7_cutOne_184 : decode cX7_cutOne 184 = .ok (.iadd, 1) := by decide +kernel
theorem dX7_cutOne_185 : decode cX7_cutOne 185 = .ok (.iload 5, 2) := by decide +kernel
theorem dX7_cutOne_187 : decode cX7_cutOne 187 = .ok (.isub, 1) := by decide +kernel
theorem dX7_cutOne_188 : decode cX7_cutOne 188 = .ok (.invokevirtual 168, 3) := by decide +kernel
theorem dX7_cutOne_191 : decode cX7_cutOne 191 = .ok (.aload_n 0, 1) := by decide +kernel
theorem dX7_cutOne_192 : decode cX7_cutOne 192 = .ok (.aload_n 0, 1) := by decide +kernel
theorem dX7_cutOne_193 : decode cX7_cutOne 193 = .ok (.getfield 13, 3) := by decide +kernel
theorem dX7_cutOne_196 : decode cX7_cutOne 196 = .ok (.iload_n 1, 1) := by decide +kernel
theorem dX7_cutOne_197 : decode cX7_cutOne 197 = .ok (.iaload, 1) := by decide +kernel
theorem dX7_cutOne_198 : decode cX7_cutOne 198 = .ok (.iload_n 2, 1) := by decide +kernel
theorem dX7_cutOne_199 : decode cX7_cutOne 199 = .ok (.iload 5, 2) := by decide +kernel
theorem dX7_cutOne_201 : decode cX7_cutOne 201 = .ok (.iload_n 2, 1) := by decide +kernel
theorem dX7_cutOne_202 : decode cX7_cutOne 202 = .ok (.isub, 1) := by decide +kernel
theorem dX7_cutOne_203 : decode cX7_cutOne 203 = .ok (.invokevirtual 168, 3) := by decide +kernel
theorem dX7_cutOne_206 : decode cX7_cutOne 206 = .ok (.iload 4, 2) := by decide +kernel
theorem dX7_cutOne_208 : decode cX7_cutOne 208 = .ok (.ireturn, 1) := by decide +kernel
theorem dX7_cutOut_0 : decode cX7_cutOut 0 = .ok (.iconst 0, 1) := by decide +kernel
theorem dX7_cutOut_1 : decode cX7_cutOut 1 = .ok (.istore 4, 2) := by decide +kernel
theorem dX7_cutOut_3 : decode cX7_cutOut 3 = .ok (.aload_n 0, 1) := by decide +kernel
theorem dX7_cutOut_4 : decode cX7_cutOut 4 = .ok (.iconst 0, 1) := by decide +kernel
theorem dX7_cutOut_5 : decode cX7_cutOut 5 = .ok (.putfield 161, 3) := by decide +kernel
theorem dX7_cutOut_8 : decode cX7_cutOut 8 = .ok (.aload_n 0, 1) := by decide +kernel
theorem dX7_cutOut_9 : decode cX7_cutOut 9 = .ok (.iload_n 1, 1) := by decide +kernel
theorem dX7_cutOut_10 : decode cX7_cutOut 10 = .ok (.iload_n 2, 1) := by decide +kernel
theorem dX7_cutOut_11 : decode cX7_cutOut 11 = .ok (.iload_n 3, 1) := by decide +kernel
theorem dX7_cutOut_12 : decode cX7_cutOut 12 = .ok (.invokevirtual 168, 3) := by decide +kernel
theorem dX7_cutOut_15 : decode cX7_cutOut 15 = .ok (.aload_n 0, 1) := by decide +kernel
theorem dX7_cutOut_16 : decode cX7_cutOut 16 = .ok (.getfield 161, 3) := by decide +kernel
theorem dX7_cutOut_19 : decode cX7_cutOut 19 = .ok (.ifCond .le 98, 3) := by decide +kernel
theorem dX7_cutOut_22 : decode cX7_cutOut 22 = .ok (.aload_n 0, 1) := by decide +kernel
theorem dX7_cutOut_23 : decode cX7_cutOut 23 = .ok (.dup, 1) := by decide +kernel
theorem dX7_cutOut_24 : decode cX7_cutOut 24 = .ok (.getfield 161, 3) := by decide +kernel
theorem dX7_cutOut_27 : decode cX7_cutOut 27 = .ok (.iconst 1, 1) := by decide +kernel
theorem dX7_cutOut_28 : decode cX7_cutOut 28 = .ok (.isub, 1) := by decide +kernel
theorem dX7_cutOut_29 : decode cX7_cutOut 29 = .ok (.putfield 161, 3) := by decide +kernel
theorem dX7_cutOut_32 : decode cX7_cutOut 32 = .ok (.aload_n 0, 1) := by decide +kernel
theorem dX7_cutOut_33 : decode cX7_cutOut 33 = .ok (.getfield 94, 3) := by decide +kernel
theorem dX7_cutOut_36 : decode cX7_cutOut 36 = .ok (.aload_n 0, 1) := by decide +kernel
theorem dX7_cutOut_37 : decode cX7_cutOut 37 = .ok (.getfield 161, 3) := by decide +kernel
theorem dX7_cutOut_40 : decode cX7_cutOut 40 = .ok (.iaload, 1) := by decide +kernel
theorem dX7_cutOut_41 : decode cX7_cutOut 41 = .ok (.ifCond .ge 38, 3) := by decide +kernel
theorem dX7_cutOut_44 : decode cX7_cutOut 44 = .ok (.iinc 4 (-1), 3) := by decide +kernel
theorem dX7_cutOut_47 : decode cX7_cutOut 47 = .ok (.aload_n 0, 1) := by decide +kernel
theorem dX7_cutOut_48 : decode cX7_cutOut 48 = .ok (.getfield 97, 3) := by decide +kernel
theorem dX7_cutOut_51 : decode cX7_cutOut 51 = .ok (.iload 4, 2) := by decide +kernel
theorem dX7_cutOut_53 : decode cX7_cutOut 53 = .ok (.iconst 1, 1) := by decide +kernel
theorem dX7_cutOut_54 : decode cX7_cutOut 54 = .ok (.isub, 1) := by decide +kernel
theorem dX7_cutOut_55 : decode cX7_cutOut 55 = .ok (.aload_n 0, 1) := by decide +kernel
theorem dX7_cutOut_56 : decode cX7_cutOut 56 = .ok (.aload_n 0, 1) := by decide +kernel
theorem dX7_cutOut_57 : decode cX7_cutOut 57 = .ok (.getfield 97, 3) := by decide +kernel
theorem dX7_cutOut_60 : decode cX7_cutOut 60 = .ok (.iload 4, 2) := by decide +kernel
theorem dX7_cutOut_62 : decode cX7_cutOut 62 = .ok (.iconst 1, 1) := by decide +kernel
theorem dX7_cutOut_63 : decode cX7_cutOut 63 = .ok (.isub, 1) := by decide +kernel
theorem dX7_cutOut_64 : decode cX7_cutOut 64 = .ok (.iaload, 1) := by decide +kernel
theorem dX7_cutOut_65 : decode cX7_cutOut 65 = .ok (.aload_n 0, 1) := by decide +kernel
theorem dX7_cutOut_66 : decode cX7_cutOut 66 = .ok (.getfield 97, 3) := by decide +kernel
theorem dX7_cutOut_69 : decode cX7_cutOut 69 = .ok (.iload 4, 2) := by decide +kernel
theorem dX7_cutOut_71 : decode cX7_cutOut 71 = .ok (.iaload, 1) := by decide +kernel
theorem dX7_cutOut_72 : decode cX7_cutOut 72 = .ok (.invokevirtual 172, 3) := by decide +kernel
theorem dX7_cutOut_75 : decode cX7_cutOut 75 = .ok (.iastore, 1) := by decide +kernel
theorem dX7_cutOut_76 : decode cX7_cutOut 76 = .ok (.goto (-61), 3) := by decide +kernel
theorem dX7_cutOut_79 : decode cX7_cutOut 79 = .ok (.aload_n 0, 1) := by decide +kernel
theorem dX7_cutOut_80 : decode cX7_cutOut 80 = .ok (.aload_n 0, 1) := by decide +kernel
theorem dX7_cutOut_81 : decode cX7_cutOut 81 = .ok (.getfield 88, 3) := by decide +kernel
theorem dX7_cutOut_84 : decode cX7_cutOut 84 = .ok (.aload_n 0, 1) := by decide +kernel
theorem dX7_cutOut_85 : decode cX7_cutOut 85 = .ok (.getfield 161, 3) := by decide +kernel
theorem dX7_cutOut_88 : decode cX7_cutOut 88 = .ok (.iaload, 1) := by decide +kernel
theorem dX7_cutOut_89 : decode cX7_cutOut 89 = .ok (.aload_n 0, 1) := by decide +kernel
theorem dX7_cutOut_90 : decode cX7_cutOut 90 = .ok (.getfield 91, 3) := by decide +kernel
theorem dX7_cutOut_93 : decode cX7_cutOut 93 = .ok (.aload_n 0, 1) := by decide +kernel
theorem dX7_cutOut_94 : decode cX7_cutOut 94 = .ok (.getfield 161, 3) := by decide +kernel
theorem dX7_cutOut_97 : decode cX7_cutOut 97 = .ok (.iaload, 1) := by decide +kernel
theorem dX7_cutOut_98 : decode cX7_cutOut 98 = .ok (.aload_n 0, 1) := by decide +kernel
theorem dX7_cutOut_99 : decode cX7_cutOut 99 = .ok (.getfield 94, 3) := by decide +kernel
theorem dX7_cutOut_102 : decode cX7_cutOut 102 = .ok (.aload_n 0, 1) := by decide +kernel
theorem dX7_cutOut_103 : decode cX7_cutOut 103 = .ok (.getfield 161, 3) := by decide +kernel
theorem dX7_cutOut_106 : decode cX7_cutOut 106 = .ok (.iaload, 1) := by decide +kernel
theorem dX7_cutOut_107 : decode cX7_cutOut 107 = .ok (.iload 4, 2) := by decide +kernel
theorem dX7_cutOut_109 : decode cX7_cutOut 109 = .ok (.invokevirtual 175, 3) := by decide +kernel
theorem dX7_cutOut_112 : decode cX7_cutOut 112 = .ok (.istore 4, 2) := by decide +kernel
theorem dX7_cutOut_114 : decode cX7_cutOut 114 = .ok (.goto (-99), 3) := by decide +kernel
theorem dX7_cutOut_117 : decode cX7_cutOut 117 = .ok (.aload_n 0, 1) := by decide +kernel
theorem dX7_cutOut_118 : decode cX7_cutOut 118 = .ok (.getfield 97, 3) := by decide +kernel
theorem dX7_cutOut_121 : decode cX7_cutOut 121 = .ok (.iconst 0, 1) := by decide +kernel
theorem dX7_cutOut_122 : decode cX7_cutOut 122 = .ok (.iaload, 1) := by decide +kernel
theorem dX7_cutOut_123 : decode cX7_cutOut 123 = .ok (.ireturn, 1) := by decide +kernel
theorem dX7_rule_0 : decode cX7_rule 0 = .ok (.iload_n 1, 1) := by decide +kernel
theorem dX7_rule_1 : decode cX7_rule 1 = .ok (.iconst 0, 1) := by decide +kernel
theorem dX7_rule_2 : decode cX7_rule 2 = .ok (.iconst 2, 1) := by decide +kernel
theorem dX7_rule_3 : decode cX7_rule 3 = .ok (.invokestatic 104, 3) := by decide +kernel
theorem dX7_rule_6 : decode cX7_rule 6 = .ok (.ifCond .eq 40, 3) := by decide +kernel
theorem dX7_rule_9 : decode cX7_rule 9 = .ok (.iload_n 2, 1) := by decide +kernel
theorem dX7_rule_10 : decode cX7_rule 10 = .ok (.iload_n 1, 1) := by decide +kernel
theorem dX7_rule_11 : decode cX7_rule 11 = .ok (.ifCond .ne 7, 3) := by decide +kernel
theorem dX7_rule_14 : decode cX7_rule 14 = .ok (.iconst 0, 1) := by decide +kernel
theorem dX7_rule_15 : decode cX7_rule 15 = .ok (.goto 4, 3) := by decide +kernel
theorem dX7_rule_18 : decode cX7_rule 18 = .ok (.iconst 1, 1) := by decide +kernel
theorem dX7_rule_19 : decode cX7_rule 19 = .ok (.iload_n 1, 1) := by decide +kernel
theorem dX7_rule_20 : decode cX7_rule 20 = .ok (.ifCond .ne 8, 3) := by decide +kernel
end
section
theorem dX7_rule_23 : decode cX7_rule 23 = .ok (.bipush 32, 2) := by decide +kernel
theorem dX7_rule_25 : decode cX7_rule 25 = .ok (.goto 15, 3) := by decide +kernel
theorem dX7_rule_28 : decode cX7_rule 28 = .ok (.iload_n 1, 1) := by decide +kernel
theorem dX7_rule_29 : decode cX7_rule 29 = .ok (.iconst 1, 1) := by decide +kernel
theorem dX7_rule_30 : decode cX7_rule 30 = .ok (.if_icmp .ne 8, 3) := by decide +kernel
theorem dX7_rule_33 : decode cX7_rule 33 = .ok (.bipush 12, 2) := by decide +kernel
theorem dX7_rule_35 : decode cX7_rule 35 = .ok (.goto 5, 3) := by decide +kernel
theorem dX7_rule_38 : decode cX7_rule 38 = .ok (.bipush 8, 2) := by decide +kernel
theorem dX7_rule_40 : decode cX7_rule 40 = .ok (.invokestatic 104, 3) := by decide +kernel
theorem dX7_rule_43 : decode cX7_rule 43 = .ok (.ifCond .ne 6, 3) := by decide +kernel
theorem dX7_rule_46 : decode cX7_rule 46 = .ok (.bipush (-2), 2) := by decide +kernel
theorem dX7_rule_48 : decode cX7_rule 48 = .ok (.ireturn, 1) := by decide +kernel
theorem dX7_rule_49 : decode cX7_rule 49 = .ok (.iload_n 1, 1) := by decide +kernel
theorem dX7_rule_50 : decode cX7_rule 50 = .ok (.ifCond .ne 10, 3) := by decide +kernel
theorem dX7_rule_53 : decode cX7_rule 53 = .ok (.aload_n 0, 1) := by decide +kernel
theorem dX7_rule_54 : decode cX7_rule 54 = .ok (.getfield 52, 3) := by decide +kernel
theorem dX7_rule_57 : decode cX7_rule 57 = .ok (.goto 19, 3) := by decide +kernel
theorem dX7_rule_60 : decode cX7_rule 60 = .ok (.iload_n 1, 1) := by decide +kernel
theorem dX7_rule_61 : decode cX7_rule 61 = .ok (.iconst 1, 1) := by decide +kernel
theorem dX7_rule_62 : decode cX7_rule 62 = .ok (.if_icmp .ne 10, 3) := by decide +kernel
theorem dX7_rule_65 : decode cX7_rule 65 = .ok (.aload_n 0, 1) := by decide +kernel
theorem dX7_rule_66 : decode cX7_rule 66 = .ok (.getfield 55, 3) := by decide +kernel
theorem dX7_rule_69 : decode cX7_rule 69 = .ok (.goto 7, 3) := by decide +kernel
theorem dX7_rule_72 : decode cX7_rule 72 = .ok (.aload_n 0, 1) := by decide +kernel
theorem dX7_rule_73 : decode cX7_rule 73 = .ok (.getfield 58, 3) := by decide +kernel
theorem dX7_rule_76 : decode cX7_rule 76 = .ok (.istore_n 3, 1) := by decide +kernel
theorem dX7_rule_77 : decode cX7_rule 77 = .ok (.aload_n 0, 1) := by decide +kernel
theorem dX7_rule_78 : decode cX7_rule 78 = .ok (.iload_n 1, 1) := by decide +kernel
theorem dX7_rule_79 : decode cX7_rule 79 = .ok (.ifCond .ne 7, 3) := by decide +kernel
theorem dX7_rule_82 : decode cX7_rule 82 = .ok (.iload_n 2, 1) := by decide +kernel
theorem dX7_rule_83 : decode cX7_rule 83 = .ok (.goto 7, 3) := by decide +kernel
theorem dX7_rule_86 : decode cX7_rule 86 = .ok (.aload_n 0, 1) := by decide +kernel
theorem dX7_rule_87 : decode cX7_rule 87 = .ok (.getfield 52, 3) := by decide +kernel
theorem dX7_rule_90 : decode cX7_rule 90 = .ok (.putfield 52, 3) := by decide +kernel
theorem dX7_rule_93 : decode cX7_rule 93 = .ok (.aload_n 0, 1) := by decide +kernel
theorem dX7_rule_94 : decode cX7_rule 94 = .ok (.iload_n 1, 1) := by decide +kernel
theorem dX7_rule_95 : decode cX7_rule 95 = .ok (.iconst 1, 1) := by decide +kernel
theorem dX7_rule_96 : decode cX7_rule 96 = .ok (.if_icmp .ne 7, 3) := by decide +kernel
theorem dX7_rule_99 : decode cX7_rule 99 = .ok (.iload_n 2, 1) := by decide +kernel
theorem dX7_rule_100 : decode cX7_rule 100 = .ok (.goto 7, 3) := by decide +kernel
theorem dX7_rule_103 : decode cX7_rule 103 = .ok (.aload_n 0, 1) := by decide +kernel
theorem dX7_rule_104 : decode cX7_rule 104 = .ok (.getfield 55, 3) := by decide +kernel
theorem dX7_rule_107 : decode cX7_rule 107 = .ok (.putfield 55, 3) := by decide +kernel
theorem dX7_rule_110 : decode cX7_rule 110 = .ok (.aload_n 0, 1) := by decide +kernel
theorem dX7_rule_111 : decode cX7_rule 111 = .ok (.iload_n 1, 1) := by decide +kernel
theorem dX7_rule_112 : decode cX7_rule 112 = .ok (.iconst 2, 1) := by decide +kernel
theorem dX7_rule_113 : decode cX7_rule 113 = .ok (.if_icmp .ne 7, 3) := by decide +kernel
theorem dX7_rule_116 : decode cX7_rule 116 = .ok (.iload_n 2, 1) := by decide +kernel
theorem dX7_rule_117 : decode cX7_rule 117 = .ok (.goto 7, 3) := by decide +kernel
theorem dX7_rule_120 : decode cX7_rule 120 = .ok (.aload_n 0, 1) := by decide +kernel
theorem dX7_rule_121 : decode cX7_rule 121 = .ok (.getfield 58, 3) := by decide +kernel
theorem dX7_rule_124 : decode cX7_rule 124 = .ok (.putfield 58, 3) := by decide +kernel
theorem dX7_rule_127 : decode cX7_rule 127 = .ok (.iload_n 3, 1) := by decide +kernel
theorem dX7_rule_128 : decode cX7_rule 128 = .ok (.ireturn, 1) := by decide +kernel
theorem dX7_say_0 : decode cX7_say 0 = .ok (.iload_n 1, 1) := by decide +kernel
theorem dX7_say_1 : decode cX7_say 1 = .ok (.iconst 1, 1) := by decide +kernel
theorem dX7_say_2 : decode cX7_say 2 = .ok (.sipush 9999, 3) := by decide +kernel
theorem dX7_say_5 : decode cX7_say 5 = .ok (.invokestatic 104, 3) := by decide +kernel
theorem dX7_say_8 : decode cX7_say 8 = .ok (.ifCond .ne 6, 3) := by decide +kernel
theorem dX7_say_11 : decode cX7_say 11 = .ok (.bipush (-2), 2) := by decide +kernel
theorem dX7_say_13 : decode cX7_say 13 = .ok (.ireturn, 1) := by decide +kernel
theorem dX7_say_14 : decode cX7_say 14 = .ok (.aload_n 0, 1) := by decide +kernel
theorem dX7_say_15 : decode cX7_say 15 = .ok (.getfield 178, 3) := by decide +kernel
theorem dX7_say_18 : decode cX7_say 18 = .ok (.bipush 40, 2) := by decide +kernel
theorem dX7_say_20 : decode cX7_say 20 = .ok (.if_icmp .ne 6, 3) := by decide +kernel
theorem dX7_say_23 : decode cX7_say 23 = .ok (.bipush (-4), 2) := by decide +kernel
theorem dX7_say_25 : decode cX7_say 25 = .ok (.ireturn, 1) := by decide +kernel
theorem dX7_say_26 : decode cX7_say 26 = .ok (.aload_n 0, 1) := by decide +kernel
theorem dX7_say_27 : decode cX7_say 27 = .ok (.getfield 49, 3) := by decide +kernel
theorem dX7_say_30 : decode cX7_say 30 = .ok (.aload_n 0, 1) := by decide +kernel
theorem dX7_say_31 : decode cX7_say 31 = .ok (.getfield 178, 3) := by decide +kernel
theorem dX7_say_34 : decode cX7_say 34 = .ok (.iload_n 1, 1) := by decide +kernel
theorem dX7_say_35 : decode cX7_say 35 = .ok (.iastore, 1) := by decide +kernel
theorem dX7_say_36 : decode cX7_say 36 = .ok (.aload_n 0, 1) := by decide +kernel
theorem dX7_say_37 : decode cX7_say 37 = .ok (.dup, 1) := by decide +kernel
theorem dX7_say_38 : decode cX7_say 38 = .ok (.getfield 178, 3) := by decide +kernel
theorem dX7_say_41 : decode cX7_say 41 = .ok (.iconst 1, 1) := by decide +kernel
theorem dX7_say_42 : decode cX7_say 42 = .ok (.iadd, 1) := by decide +kernel
theorem dX7_say_43 : decode cX7_say 43 = .ok (.putfield 178, 3) := by decide +kernel
theorem dX7_say_46 : decode cX7_say 46 = .ok (.aload_n 0, 1) := by decide +kernel
theorem dX7_say_47 : decode cX7_say 47 = .ok (.getfield 178, 3) := by decide +kernel
theorem dX7_say_50 : decode cX7_say 50 = .ok (.ireturn, 1) := by decide +kernel
theorem dX7_put_0 : decode cX7_put 0 = .ok (.iload_n 1, 1) := by decide +kernel
theorem dX7_put_1 : decode cX7_put 1 = .ok (.invokestatic 181, 3) := by decide +kernel
theorem dX7_put_4 : decode cX7_put 4 = .ok (.ifCond .ne 5, 3) := by decide +kernel
theorem dX7_put_7 : decode cX7_put 7 = .ok (.iconst (-1), 1) := by decide +kernel
theorem dX7_put_8 : decode cX7_put 8 = .ok (.ireturn, 1) := by decide +kernel
theorem dX7_put_9 : decode cX7_put 9 = .ok (.aload_n 0, 1) := by decide +kernel
theorem dX7_put_10 : decode cX7_put 10 = .ok (.invokevirtual 185, 3) := by decide +kernel
theorem dX7_put_13 : decode cX7_put 13 = .ok (.iconst 0, 1) := by decide +kernel
theorem dX7_put_14 : decode cX7_put 14 = .ok (.istore_n 2, 1) := by decide +kernel
theorem dX7_put_15 : decode cX7_put 15 = .ok (.iload_n 2, 1) := by decide +kernel
theorem dX7_put_16 : decode cX7_put 16 = .ok (.aload_n 0, 1) := by decide +kernel
theorem dX7_put_17 : decode cX7_put 17 = .ok (.getfield 178, 3) := by decide +kernel
theorem dX7_put_20 : decode cX7_put 20 = .ok (.if_icmp .ge 21, 3) := by decide +kernel
theorem dX7_put_23 : decode cX7_put 23 = .ok (.aload_n 0, 1) := by decide +kernel
theorem dX7_put_24 : decode cX7_put 24 = .ok (.getfield 61, 3) := by decide +kernel
theorem dX7_put_27 : decode cX7_put 27 = .ok (.iload_n 2, 1) := by decide +kernel
theorem dX7_put_28 : decode cX7_put 28 = .ok (.aload_n 0, 1) := by decide +kernel
theorem dX7_put_29 : decode cX7_put 29 = .ok (.getfield 49, 3) := by decide +kernel
theorem dX7_put_32 : decode cX7_put 32 = .ok (.iload_n 2, 1) := by decide +kernel
theorem dX7_put_33 : decode cX7_put 33 = .ok (.iaload, 1) := by decide +kernel
theorem dX7_put_34 : decode cX7_put 34 = .ok (.iastore, 1) := by decide +kernel
theorem dX7_put_35 : decode cX7_put 35 = .ok (.iinc 2 1, 3) := by decide +kernel
theorem dX7_put_38 : decode cX7_put 38 = .ok (.goto (-23), 3) := by decide +kernel
theorem dX7_put_41 : decode cX7_put 41 = .ok (.aload_n 0, 1) := by decide +kernel
theorem dX7_put_42 : decode cX7_put 42 = .ok (.getfield 34, 3) := by decide +kernel
theorem dX7_put_45 : decode cX7_put 45 = .ok (.iload_n 1, 1) := by decide +kernel
theorem dX7_put_46 : decode cX7_put 46 = .ok (.aload_n 0, 1) := by decide +kernel
theorem dX7_put_47 : decode cX7_put 47 = .ok (.aload_n 0, 1) := by decide +kernel
theorem dX7_put_48 : decode cX7_put 48 = .ok (.getfield 178, 3) := by decide +kernel
theorem dX7_put_51 : decode cX7_put 51 = .ok (.invokevirtual 100, 3) := by decide +kernel
theorem dX7_put_54 : decode cX7_put 54 = .ok (.iastore, 1) := by decide +kernel
theorem dX7_put_55 : decode cX7_put 55 = .ok (.aload_n 0, 1) := by decide +kernel
theorem dX7_put_56 : decode cX7_put 56 = .ok (.iconst 0, 1) := by decide +kernel
theorem dX7_put_57 : decode cX7_put 57 = .ok (.putfield 178, 3) := by decide +kernel
theorem dX7_put_60 : decode cX7_put 60 = .ok (.aload_n 0, 1) := by decide +kernel
theorem dX7_put_61 : decode cX7_put 61 = .ok (.getfield 19, 3) := by decide +kernel
theorem dX7_put_64 : decode cX7_put 64 = .ok (.aload_n 0, 1) := by decide +kernel
theorem dX7_put_65 : decode cX7_put 65 = .ok (.getfield 34, 3) := by decide +kernel
theorem dX7_put_68 : decode cX7_put 68 = .ok (.iload_n 1, 1) := by decide +kernel
theorem dX7_put_69 : decode cX7_put 69 = .ok (.iaload, 1) := by decide +kernel
theorem dX7_put_70 : decode cX7_put 70 = .ok (.iaload, 1) := by decide +kernel
theorem dX7_put_71 : decode cX7_put 71 = .ok (.ireturn, 1) := by decide +kernel
theorem dX7_copy_0 : decode cX7_copy 0 = .ok (.iload_n 1, 1) := by decide +kernel
theorem dX7_copy_1 : decode cX7_copy 1 = .ok (.invokestatic 181, 3) := by decide +kernel
theorem dX7_copy_4 : decode cX7_copy 4 = .ok (.ifCond .eq 10, 3) := by decide +kernel
theorem dX7_copy_7 : decode cX7_copy 7 = .ok (.iload_n 2, 1) := by decide +kernel
theorem dX7_copy_8 : decode cX7_copy 8 = .ok (.invokestatic 181, 3) := by decide +kernel
theorem dX7_copy_11 : decode cX7_copy 11 = .ok (.ifCond .ne 5, 3) := by decide +kernel
theorem dX7_copy_14 : decode cX7_copy 14 = .ok (.iconst (-1), 1) := by decide +kernel
theorem dX7_copy_15 : decode cX7_copy 15 = .ok (.ireturn, 1) := by decide +kernel
theorem dX7_copy_16 : decode cX7_copy 16 = .ok (.aload_n 0, 1) := by decide +kernel
theorem dX7_copy_17 : decode cX7_copy 17 = .ok (.getfield 34, 3) := by decide +kernel
theorem dX7_copy_20 : decode cX7_copy 20 = .ok (.iload_n 1, 1) := by decide +kernel
theorem dX7_copy_21 : decode cX7_copy 21 = .ok (.aload_n 0, 1) := by decide +kernel
theorem dX7_copy_22 : decode cX7_copy 22 = .ok (.getfield 34, 3) := by decide +kernel
theorem dX7_copy_25 : decode cX7_copy 25 = .ok (.iload_n 2, 1) := by decide +kernel
theorem dX7_copy_26 : decode cX7_copy 26 = .ok (.iaload, 1) := by decide +kernel
theorem dX7_copy_27 : decode cX7_copy 27 = .ok (.iastore, 1) := by decide +kernel
theorem dX7_copy_28 : decode cX7_copy 28 = .ok (.aload_n 0, 1) := by decide +kernel
theorem dX7_copy_29 : decode cX7_copy 29 = .ok (.getfield 19, 3) := by decide +kernel
theorem dX7_copy_32 : decode cX7_copy 32 = .ok (.aload_n 0, 1) := by decide +kernel
theorem dX7_copy_33 : decode cX7_copy 33 = .ok (.getfield 34, 3) := by decide +kernel
theorem dX7_copy_36 : decode cX7_copy 36 = .ok (.iload_n 1, 1) := by decide +kernel
theorem dX7_copy_37 : decode cX7_copy 37 = .ok (.iaload, 1) := by decide +kernel
theorem dX7_copy_38 : decode cX7_copy 38 = .ok (.iaload, 1) := by decide +kernel
theorem dX7_copy_39 : decode cX7_copy 39 = .ok (.ireturn, 1) := by decide +kernel
theorem dX7_join_0 : decode cX7_join 0 = .ok (.iload_n 1, 1) := by decide +kernel
theorem dX7_join_1 : decode cX7_join 1 = .ok (.invokestatic 181, 3) := by decide +kernel
theorem dX7_join_4 : decode cX7_join 4 = .ok (.ifCond .eq 17, 3) := by decide +kernel
theorem dX7_join_7 : decode cX7_join 7 = .ok (.iload_n 2, 1) := by decide +kernel
theorem dX7_join_8 : decode cX7_join 8 = .ok (.invokestatic 181, 3) := by decide +kernel
theorem dX7_join_11 : decode cX7_join 11 = .ok (.ifCond .eq 10, 3) := by decide +kernel
theorem dX7_join_14 : decode cX7_join 14 = .ok (.iload_n 3, 1) := by decide +kernel
theorem dX7_join_15 : decode cX7_join 15 = .ok (.invokestatic 181, 3) := by decide +kernel
theorem dX7_join_18 : decode cX7_join 18 = .ok (.ifCond .ne 5, 3) := by decide +kernel
theorem dX7_join_21 : decode cX7_join 21 = .ok (.iconst (-1), 1) := by decide +kernel
theorem dX7_join_22 : decode cX7_join 22 = .ok (.ireturn, 1) := by decide +kernel
theorem dX7_join_23 : decode cX7_join 23 = .ok (.aload_n 0, 1) := by decide +kernel
theorem dX7_join_24 : decode cX7_join 24 = .ok (.getfield 19, 3) := by decide +kernel
theorem dX7_join_27 : decode cX7_join 27 = .ok (.aload_n 0, 1) := by decide +kernel
theorem dX7_join_28 : decode cX7_join 28 = .ok (.getfield 34, 3) := by decide +kernel
theorem dX7_join_31 : decode cX7_join 31 = .ok (.iload_n 2, 1) := by decide +kernel
theorem dX7_join_32 : decode cX7_join 32 = .ok (.iaload, 1) := by decide +kernel
theorem dX7_join_33 : decode cX7_join 33 = .ok (.iaload, 1) := by decide +kernel
theorem dX7_join_34 : decode cX7_join 34 = .ok (.aload_n 0, 1) := by decide +kernel
theorem dX7_join_35 : decode cX7_join 35 = .ok (.getfield 19, 3) := by decide +kernel
theorem dX7_join_38 : decode cX7_join 38 = .ok (.aload_n 0, 1) := by decide +kernel
theorem dX7_join_39 : decode cX7_join 39 = .ok (.getfield 34, 3) := by decide +kernel
theorem dX7_join_42 : decode cX7_join 42 = .ok (.iload_n 3, 1) := by decide +kernel
theorem dX7_join_43 : decode cX7_join 43 = .ok (.iaload, 1) := by decide +kernel
theorem dX7_join_44 : decode cX7_join 44 = .ok (.iaload, 1) := by decide +kernel
theorem dX7_join_45 : decode cX7_join 45 = .ok (.iadd, 1) := by decide +kernel
theorem dX7_join_46 : decode cX7_join 46 = .ok (.bipush 120, 2) := by decide +kernel
theorem dX7_join_48 : decode cX7_join 48 = .ok (.if_icmp .le 6, 3) := by decide +kernel
theorem dX7_join_51 : decode cX7_join 51 = .ok (.bipush (-4), 2) := by decide +kernel
theorem dX7_join_53 : decode cX7_join 53 = .ok (.ireturn, 1) := by decide +kernel
theorem dX7_join_54 : decode cX7_join 54 = .ok (.aload_n 0, 1) := by decide +kernel
theorem dX7_join_55 : decode cX7_join 55 = .ok (.invokevirtual 185, 3) := by decide +kernel
theorem dX7_join_58 : decode cX7_join 58 = .ok (.aload_n 0, 1) := by decide +kernel
theorem dX7_join_59 : decode cX7_join 59 = .ok (.getfield 34, 3) := by decide +kernel
theorem dX7_join_62 : decode cX7_join 62 = .ok (.iload_n 1, 1) := by decide +kernel
theorem dX7_join_63 : decode cX7_join 63 = .ok (.aload_n 0, 1) := by decide +kernel
theorem dX7_join_64 : decode cX7_join 64 = .ok (.aload_n 0, 1) := by decide +kernel
theorem dX7_join_65 : decode cX7_join 65 = .ok (.getfield 34, 3) := by decide +kernel
theorem dX7_join_68 : decode cX7_join 68 = .ok (.iload_n 2, 1) := by decide +kernel
theorem dX7_join_69 : decode cX7_join 69 = .ok (.iaload, 1) := by decide +kernel
theorem dX7_join_70 : decode cX7_join 70 = .ok (.aload_n 0, 1) := by decide +kernel
theorem dX7_join_71 : decode cX7_join 71 = .ok (.getfield 34, 3) := by decide +kernel
theorem dX7_join_74 : decode cX7_join 74 = .ok (.iload_n 3, 1) := by decide +kernel
theorem dX7_join_75 : decode cX7_join 75 = .ok (.iaload, 1) := by decide +kernel
theorem dX7_join_76 : decode cX7_join 76 = .ok (.invokevirtual 172, 3) := by decide +kernel
theorem dX7_join_79 : decode cX7_join 79 = .ok (.iastore, 1) := by decide +kernel
theorem dX7_join_80 : decode cX7_join 80 = .ok (.aload_n 0, 1) := by decide +kernel
theorem dX7_join_81 : decode cX7_join 81 = .ok (.getfield 19, 3) := by decide +kernel
theorem dX7_join_84 : decode cX7_join 84 = .ok (.aload_n 0, 1) := by decide +kernel
theorem dX7_join_85 : decode cX7_join 85 = .ok (.getfield 34, 3) := by decide +kernel
theorem dX7_join_88 : decode cX7_join 88 = .ok (.iload_n 1, 1) := by decide +kernel
theorem dX7_join_89 : decode cX7_join 89 = .ok (.iaload, 1) := by decide +kernel
theorem dX7_join_90 : decode cX7_join 90 = .ok (.iaload, 1) := by decide +kernel
theorem dX7_join_91 : decode cX7_join 91 = .ok (.ireturn, 1) := by decide +kernel
theorem dX7_cut_0 : decode cX7_cut 0 = .ok (.iload_n 1, 1) := by decide +kernel
theorem dX7_cut_1 : decode cX7_cut 1 = .ok (.invokestatic 181, 3) := by decide +kernel
theorem dX7_cut_4 : decode cX7_cut 4 = .ok (.ifCond .eq 10, 3) := by decide +kernel
theorem dX7_cut_7 : decode cX7_cut 7 = .ok (.iload_n 2, 1) := by decide +kernel
theorem dX7_cut_8 : decode cX7_cut 8 = .ok (.invokestatic 181, 3) := by decide +kernel
theorem dX7_cut_11 : decode cX7_cut 11 = .ok (.ifCond .ne 5, 3) := by decide +kernel
theorem dX7_cut_14 : decode cX7_cut 14 = .ok (.iconst (-1), 1) := by decide +kernel
theorem dX7_cut_15 : decode cX7_cut 15 = .ok (.ireturn, 1) := by decide +kernel
theorem dX7_cut_16 : decode cX7_cut 16 = .ok (.aload_n 0, 1) := by decide +kernel
theorem dX7_cut_17 : decode cX7_cut 17 = .ok (.getfield 19, 3) := by decide +kernel
theorem dX7_cut_20 : decode cX7_cut 20 = .ok (.aload_n 0, 1) := by decide +kernel
theorem dX7_cut_21 : decode cX7_cut 21 = .ok (.getfield 34, 3) := by decide +kernel
theorem dX7_cut_24 : decode cX7_cut 24 = .ok (.iload_n 2, 1) := by decide +kernel
theorem dX7_cut_25 : decode cX7_cut 25 = .ok (.iaload, 1) := by decide +kernel
theorem dX7_cut_26 : decode cX7_cut 26 = .ok (.iaload, 1) := by decide +kernel
theorem dX7_cut_27 : decode cX7_cut 27 = .ok (.istore 5, 2) := by decide +kernel
theorem dX7_cut_29 : decode cX7_cut 29 = .ok (.iload_n 3, 1) := by decide +kernel
theorem dX7_cut_30 : decode cX7_cut 30 = .ok (.iconst 0, 1) := by decide +kernel
theorem dX7_cut_31 : decode cX7_cut 31 = .ok (.iload 5, 2) := by decide +kernel
theorem dX7_cut_33 : decode cX7_cut 33 = .ok (.invokestatic 104, 3) := by decide +kernel
theorem dX7_cut_36 : decode cX7_cut 36 = .ok (.ifCond .eq 16, 3) := by decide +kernel
theorem dX7_cut_39 : decode cX7_cut 39 = .ok (.iload 4, 2) := by decide +kernel
theorem dX7_cut_41 : decode cX7_cut 41 = .ok (.iconst 0, 1) := by decide +kernel
theorem dX7_cut_42 : decode cX7_cut 42 = .ok (.iload 5, 2) := by decide +kernel
theorem dX7_cut_44 : decode cX7_cut 44 = .ok (.iload_n 3, 1) := by decide +kernel
theorem dX7_cut_45 : decode cX7_cut 45 = .ok (.isub, 1) := by decide +kernel
theorem dX7_cut_46 : decode cX7_cut 46 = .ok (.invokestatic 104, 3) := by decide +kernel
theorem dX7_cut_49 : decode cX7_cut 49 = .ok (.ifCond .ne 6, 3) := by decide +kernel
theorem dX7_cut_52 : decode cX7_cut 52 = .ok (.bipush (-2), 2) := by decide +kernel
theorem dX7_cut_54 : decode cX7_cut 54 = .ok (.ireturn, 1) := by decide +kernel
theorem dX7_cut_55 : decode cX7_cut 55 = .ok (.aload_n 0, 1) := by decide +kernel
theorem dX7_cut_56 : decode cX7_cut 56 = .ok (.invokevirtual 185, 3) := by decide +kernel
theorem dX7_cut_59 : decode cX7_cut 59 = .ok (.aload_n 0, 1) := by decide +kernel
theorem dX7_cut_60 : decode cX7_cut 60 = .ok (.getfield 34, 3) := by decide +kernel
theorem dX7_cut_63 : decode cX7_cut 63 = .ok (.iload_n 1, 1) := by decide +kernel
theorem dX7_cut_64 : decode cX7_cut 64 = .ok (.aload_n 0, 1) := by decide +kernel
theorem dX7_cut_65 : decode cX7_cut 65 = .ok (.aload_n 0, 1) := by decide +kernel
theorem dX7_cut_66 : decode cX7_cut 66 = .ok (.getfield 34, 3) := by decide +kernel
theorem dX7_cut_69 : decode cX7_cut 69 = .ok (.iload_n 2, 1) := by decide +kernel
theorem dX7_cut_70 : decode cX7_cut 70 = .ok (.iaload, 1) := by decide +kernel
theorem dX7_cut_71 : decode cX7_cut 71 = .ok (.iload_n 3, 1) := by decide +kernel
theorem dX7_cut_72 : decode cX7_cut 72 = .ok (.iload 4, 2) := by decide +kernel
theorem dX7_cut_74 : decode cX7_cut 74 = .ok (.invokevirtual 188, 3) := by decide +kernel
theorem dX7_cut_77 : decode cX7_cut 77 = .ok (.iastore, 1) := by decide +kernel
theorem dX7_cut_78 : decode cX7_cut 78 = .ok (.iload 4, 2) := by decide +kernel
theorem dX7_cut_80 : decode cX7_cut 80 = .ok (.ireturn, 1) := by decide +kernel
theorem dX7_flat_0 : decode cX7_flat 0 = .ok (.iload_n 1, 1) := by decide +kernel
theorem dX7_flat_1 : decode cX7_flat 1 = .ok (.invokestatic 181, 3) := by decide +kernel
theorem dX7_flat_4 : decode cX7_flat 4 = .ok (.ifCond .ne 5, 3) := by decide +kernel
theorem dX7_flat_7 : decode cX7_flat 7 = .ok (.iconst (-1), 1) := by decide +kernel
theorem dX7_flat_8 : decode cX7_flat 8 = .ok (.ireturn, 1) := by decide +kernel
theorem dX7_flat_9 : decode cX7_flat 9 = .ok (.aload_n 0, 1) := by decide +kernel
theorem dX7_flat_10 : decode cX7_flat 10 = .ok (.invokevirtual 185, 3) := by decide +kernel
theorem dX7_flat_13 : decode cX7_flat 13 = .ok (.aload_n 0, 1) := by decide +kernel
theorem dX7_flat_14 : decode cX7_flat 14 = .ok (.getfield 34, 3) := by decide +kernel
theorem dX7_flat_17 : decode cX7_flat 17 = .ok (.iload_n 1, 1) := by decide +kernel
theorem dX7_flat_18 : decode cX7_flat 18 = .ok (.iaload, 1) := by decide +kernel
theorem dX7_flat_19 : decode cX7_flat 19 = .ok (.istore_n 2, 1) := by decide +kernel
theorem dX7_flat_20 : decode cX7_flat 20 = .ok (.aload_n 0, 1) := by decide +kernel
theorem dX7_flat_21 : decode cX7_flat 21 = .ok (.iload_n 2, 1) := by decide +kernel
theorem dX7_flat_22 : decode cX7_flat 22 = .ok (.iconst 0, 1) := by decide +kernel
theorem dX7_flat_23 : decode cX7_flat 23 = .ok (.invokevirtual 154, 3) := by decide +kernel
theorem dX7_flat_26 : decode cX7_flat 26 = .ok (.istore_n 3, 1) := by decide +kernel
theorem dX7_flat_27 : decode cX7_flat 27 = .ok (.aload_n 0, 1) := by decide +kernel
theorem dX7_flat_28 : decode cX7_flat 28 = .ok (.getfield 135, 3) := by decide +kernel
theorem dX7_flat_31 : decode cX7_flat 31 = .ok (.istore 4, 2) := by decide +kernel
theorem dX7_flat_33 : decode cX7_flat 33 = .ok (.aload_n 0, 1) := by decide +kernel
theorem dX7_flat_34 : decode cX7_flat 34 = .ok (.getfield 7, 3) := by decide +kernel
theorem dX7_flat_37 : decode cX7_flat 37 = .ok (.iload_n 2, 1) := by decide +kernel
theorem dX7_flat_38 : decode cX7_flat 38 = .ok (.iaload, 1) := by decide +kernel
theorem dX7_flat_39 : decode cX7_flat 39 = .ok (.iconst 1, 1) := by decide +kernel
theorem dX7_flat_40 : decode cX7_flat 40 = .ok (.if_icmp .eq 22, 3) := by decide +kernel
theorem dX7_flat_43 : decode cX7_flat 43 = .ok (.aload_n 0, 1) := by decide +kernel
theorem dX7_flat_44 : decode cX7_flat 44 = .ok (.getfield 7, 3) := by decide +kernel
theorem dX7_flat_47 : decode cX7_flat 47 = .ok (.iload_n 2, 1) := by decide +kernel
theorem dX7_flat_48 : decode cX7_flat 48 = .ok (.iconst 1, 1) := by decide +kernel
theorem dX7_flat_49 : decode cX7_flat 49 = .ok (.iastore, 1) := by decide +kernel
theorem dX7_flat_50 : decode cX7_flat 50 = .ok (.aload_n 0, 1) := by decide +kernel
theorem dX7_flat_51 : decode cX7_flat 51 = .ok (.getfield 13, 3) := by decide +kernel
theorem dX7_flat_54 : decode cX7_flat 54 = .ok (.iload_n 2, 1) := by decide +kernel
theorem dX7_flat_55 : decode cX7_flat 55 = .ok (.aload_n 0, 1) := by decide +kernel
theorem dX7_flat_56 : decode cX7_flat 56 = .ok (.iload_n 2, 1) := by decide +kernel
theorem dX7_flat_57 : decode cX7_flat 57 = .ok (.iload_n 3, 1) := by decide +kernel
theorem dX7_flat_58 : decode cX7_flat 58 = .ok (.invokevirtual 118, 3) := by decide +kernel
theorem dX7_flat_61 : decode cX7_flat 61 = .ok (.iastore, 1) := by decide +kernel
theorem dX7_flat_62 : decode cX7_flat 62 = .ok (.iload 4, 2) := by decide +kernel
theorem dX7_flat_64 : decode cX7_flat 64 = .ok (.ireturn, 1) := by decide +kernel
theorem dX7_sign_0 : decode cX7_sign 0 = .ok (.iload_n 1, 1) := by decide +kernel
theorem dX7_sign_1 : decode cX7_sign 1 = .ok (.invokestatic 181, 3) := by decide +kernel
theorem dX7_sign_4 : decode cX7_sign 4 = .ok (.ifCond .ne 5, 3) := by decide +kernel
theorem dX7_sign_7 : decode cX7_sign 7 = .ok (.iconst (-1), 1) := by decide +kernel
theorem dX7_sign_8 : decode cX7_sign 8 = .ok (.ireturn, 1) := by decide +kernel
theorem dX7_sign_9 : decode cX7_sign 9 = .ok (.aload_n 0, 1) := by decide +kernel
theorem dX7_sign_10 : decode cX7_sign 10 = .ok (.aload_n 0, 1) := by decide +kernel
theorem dX7_sign_11 : decode cX7_sign 11 = .ok (.getfield 34, 3) := by decide +kernel
theorem dX7_sign_14 : decode cX7_sign 14 = .ok (.iload_n 1, 1) := by decide +kernel
theorem dX7_sign_15 : decode cX7_sign 15 = .ok (.iaload, 1) := by decide +kernel
theorem dX7_sign_16 : decode cX7_sign 16 = .ok (.iconst 0, 1) := by decide +kernel
theorem dX7_sign_17 : decode cX7_sign 17 = .ok (.invokevirtual 154, 3) := by decide +kernel
theorem dX7_sign_20 : decode cX7_sign 20 = .ok (.istore_n 3, 1) := by decide +kernel
theorem dX7_sign_21 : decode cX7_sign 21 = .ok (.iload_n 2, 1) := by decide +kernel
theorem dX7_sign_22 : decode cX7_sign 22 = .ok (.iconst 0, 1) := by decide +kernel
theorem dX7_sign_23 : decode cX7_sign 23 = .ok (.iload_n 3, 1) := by decide +kernel
theorem dX7_sign_24 : decode cX7_sign 24 = .ok (.iconst 1, 1) := by decide +kernel
theorem dX7_sign_25 : decode cX7_sign 25 = .ok (.isub, 1) := by decide +kernel
theorem dX7_sign_26 : decode cX7_sign 26 = .ok (.invokestatic 104, 3) := by decide +kernel
theorem dX7_sign_29 : decode cX7_sign 29 = .ok (.ifCond .eq 12, 3) := by decide +kernel
theorem dX7_sign_32 : decode cX7_sign 32 = .ok (.aload_n 0, 1) := by decide +kernel
theorem dX7_sign_33 : decode cX7_sign 33 = .ok (.getfield 61, 3) := by decide +kernel
theorem dX7_sign_36 : decode cX7_sign 36 = .ok (.iload_n 2, 1) := by decide +kernel
theorem dX7_sign_37 : decode cX7_sign 37 = .ok (.iaload, 1) := by decide +kernel
theorem dX7_sign_38 : decode cX7_sign 38 = .ok (.goto 5, 3) := by decide +kernel
theorem dX7_sign_41 : decode cX7_sign 41 = .ok (.bipush (-6), 2) := by decide +kernel
theorem dX7_sign_43 : decode cX7_sign 43 = .ok (.ireturn, 1) := by decide +kernel
theorem dX7_hash_0 : decode cX7_hash 0 = .ok (.iload_n 1, 1) := by decide +kernel
theorem dX7_hash_1 : decode cX7_hash 1 = .ok (.invokestatic 181, 3) := by decide +kernel
theorem dX7_hash_4 : decode cX7_hash 4 = .ok (.ifCond .ne 5, 3) := by decide +kernel
theorem dX7_hash_7 : decode cX7_hash 7 = .ok (.iconst 0, 1) := by decide +kernel
theorem dX7_hash_8 : decode cX7_hash 8 = .ok (.ireturn, 1) := by decide +kernel
theorem dX7_hash_9 : decode cX7_hash 9 = .ok (.aload_n 0, 1) := by decide +kernel
theorem dX7_hash_10 : decode cX7_hash 10 = .ok (.aload_n 0, 1) := by decide +kernel
theorem dX7_hash_11 : decode cX7_hash 11 = .ok (.getfield 34, 3) := by decide +kernel
theorem dX7_hash_14 : decode cX7_hash 14 = .ok (.iload_n 1, 1) := by decide +kernel
theorem dX7_hash_15 : decode cX7_hash 15 = .ok (.iaload, 1) := by decide +kernel
theorem dX7_hash_16 : decode cX7_hash 16 = .ok (.iconst 0, 1) := by decide +kernel
theorem dX7_hash_17 : decode cX7_hash 17 = .ok (.invokevirtual 154, 3) := by decide +kernel
theorem dX7_hash_20 : decode cX7_hash 20 = .ok (.istore_n 2, 1) := by decide +kernel
theorem dX7_hash_21 : decode cX7_hash 21 = .ok (.iconst 0, 1) := by decide +kernel
theorem dX7_hash_22 : decode cX7_hash 22 = .ok (.istore_n 3, 1) := by decide +kernel
theorem dX7_hash_23 : decode cX7_hash 23 = .ok (.iconst 0, 1) := by decide +kernel
theorem dX7_hash_24 : decode cX7_hash 24 = .ok (.istore 4, 2) := by decide +kernel
theorem dX7_hash_26 : decode cX7_hash 26 = .ok (.iload 4, 2) := by decide +kernel
theorem dX7_hash_28 : decode cX7_hash 28 = .ok (.iload_n 2, 1) := by decide +kernel
theorem dX7_hash_29 : decode cX7_hash 29 = .ok (.if_icmp .ge 22, 3) := by decide +kernel
theorem dX7_hash_32 : decode cX7_hash 32 = .ok (.bipush 31, 2) := by decide +kernel
theorem dX7_hash_34 : decode cX7_hash 34 = .ok (.iload_n 3, 1) := by decide +kernel
theorem dX7_hash_35 : decode cX7_hash 35 = .ok (.imul, 1) := by decide +kernel
theorem dX7_hash_36 : decode cX7_hash 36 = .ok (.aload_n 0, 1) := by decide +kernel
theorem dX7_hash_37 : decode cX7_hash 37 = .ok (.getfield 61, 3) := by decide +kernel
theorem dX7_hash_40 : decode cX7_hash 40 = .ok (.iload 4, 2) := by decide +kernel
theorem dX7_hash_42 : decode cX7_hash 42 = .ok (.iaload, 1) := by decide +kernel
theorem dX7_hash_43 : decode cX7_hash 43 = .ok (.iadd, 1) := by decide +kernel
theorem dX7_hash_44 : decode cX7_hash 44 = .ok (.istore_n 3, 1) := by decide +kernel
theorem dX7_hash_45 : decode cX7_hash 45 = .ok (.iinc 4 1, 3) := by decide +kernel
theorem dX7_hash_48 : decode cX7_hash 48 = .ok (.goto (-22), 3) := by decide +kernel
theorem dX7_hash_51 : decode cX7_hash 51 = .ok (.iload_n 3, 1) := by decide +kernel
theorem dX7_hash_52 : decode cX7_hash 52 = .ok (.ireturn, 1) := by decide +kernel
theorem dX7_roomOf_0 : decode cX7_roomOf 0 = .ok (.aload_n 0, 1) := by decide +kernel
theorem dX7_roomOf_1 : decode cX7_roomOf 1 = .ok (.getfield 7, 3) := by decide +kernel
theorem dX7_roomOf_4 : decode cX7_roomOf 4 = .ok (.iload_n 1, 1) := by decide +kernel
theorem dX7_roomOf_5 : decode cX7_roomOf 5 = .ok (.iaload, 1) := by decide +kernel
theorem dX7_roomOf_6 : decode cX7_roomOf 6 = .ok (.iconst 1, 1) := by decide +kernel
theorem dX7_roomOf_7 : decode cX7_roomOf 7 = .ok (.if_icmp .eq 21, 3) := by decide +kernel
theorem dX7_roomOf_10 : decode cX7_roomOf 10 = .ok (.aload_n 0, 1) := by decide +kernel
theorem dX7_roomOf_11 : decode cX7_roomOf 11 = .ok (.getfield 7, 3) := by decide +kernel
theorem dX7_roomOf_14 : decode cX7_roomOf 14 = .ok (.iload_n 1, 1) := by decide +kernel
theorem dX7_roomOf_15 : decode cX7_roomOf 15 = .ok (.iaload, 1) := by decide +kernel
theorem dX7_roomOf_16 : decode cX7_roomOf 16 = .ok (.iconst 2, 1) := by decide +kernel
theorem dX7_roomOf_17 : decode cX7_roomOf 17 = .ok (.if_icmp .ne 8, 3) := by decide +kernel
theorem dX7_roomOf_20 : decode cX7_roomOf 20 = .ok (.bipush 24, 2) := by decide +kernel
theorem dX7_roomOf_22 : decode cX7_roomOf 22 = .ok (.goto 5, 3) := by decide +kernel
theorem dX7_roomOf_25 : decode cX7_roomOf 25 = .ok (.bipush 28, 2) := by decide +kernel
theorem dX7_roomOf_27 : decode cX7_roomOf 27 = .ok (.ireturn, 1) := by decide +kernel
theorem dX7_roomOf_28 : decode cX7_roomOf 28 = .ok (.iconst 1, 1) := by decide +kernel
theorem dX7_roomOf_29 : decode cX7_roomOf 29 = .ok (.istore_n 2, 1) := by decide +kernel
theorem dX7_roomOf_30 : decode cX7_roomOf 30 = .ok (.iconst 0, 1) := by decide +kernel
theorem dX7_roomOf_31 : decode cX7_roomOf 31 = .ok (.istore_n 3, 1) := by decide +kernel
theorem dX7_roomOf_32 : decode cX7_roomOf 32 = .ok (.iload_n 3, 1) := by decide +kernel
theorem dX7_roomOf_33 : decode cX7_roomOf 33 = .ok (.aload_n 0, 1) := by decide +kernel
theorem dX7_roomOf_34 : decode cX7_roomOf 34 = .ok (.getfield 19, 3) := by decide +kernel
theorem dX7_roomOf_37 : decode cX7_roomOf 37 = .ok (.iload_n 1, 1) := by decide +kernel
theorem dX7_roomOf_38 : decode cX7_roomOf 38 = .ok (.iaload, 1) := by decide +kernel
theorem dX7_roomOf_39 : decode cX7_roomOf 39 = .ok (.if_icmp .ge 34, 3) := by decide +kernel
theorem dX7_roomOf_42 : decode cX7_roomOf 42 = .ok (.aload_n 0, 1) := by decide +kernel
theorem dX7_roomOf_43 : decode cX7_roomOf 43 = .ok (.getfield 31, 3) := by decide +kernel
theorem dX7_roomOf_46 : decode cX7_roomOf 46 = .ok (.aload_n 0, 1) := by decide +kernel
theorem dX7_roomOf_47 : decode cX7_roomOf 47 = .ok (.getfield 13, 3) := by decide +kernel
theorem dX7_roomOf_50 : decode cX7_roomOf 50 = .ok (.iload_n 1, 1) := by decide +kernel
theorem dX7_roomOf_51 : decode cX7_roomOf 51 = .ok (.iaload, 1) := by decide +kernel
theorem dX7_roomOf_52 : decode cX7_roomOf 52 = .ok (.iload_n 3, 1) := by decide +kernel
theorem dX7_roomOf_53 : decode cX7_roomOf 53 = .ok (.iadd, 1) := by decide +kernel
theorem dX7_roomOf_54 : decode cX7_roomOf 54 = .ok (.iaload, 1) := by decide +kernel
theorem dX7_roomOf_55 : decode cX7_roomOf 55 = .ok (.sipush 255, 3) := by decide +kernel
theorem dX7_roomOf_58 : decode cX7_roomOf 58 = .ok (.if_icmp .le 7, 3) := by decide +kernel
theorem dX7_roomOf_61 : decode cX7_roomOf 61 = .ok (.iconst 2, 1) := by decide +kernel
theorem dX7_roomOf_62 : decode cX7_roomOf 62 = .ok (.goto 4, 3) := by decide +kernel
theorem dX7_roomOf_65 : decode cX7_roomOf 65 = .ok (.iload_n 2, 1) := by decide +kernel
theorem dX7_roomOf_66 : decode cX7_roomOf 66 = .ok (.istore_n 2, 1) := by decide +kernel
theorem dX7_roomOf_67 : decode cX7_roomOf 67 = .ok (.iinc 3 1, 3) := by decide +kernel
theorem dX7_roomOf_70 : decode cX7_roomOf 70 = .ok (.goto (-38), 3) := by decide +kernel
theorem dX7_roomOf_73 : decode cX7_roomOf 73 = .ok (.bipush 24, 2) := by decide +kernel
theorem dX7_roomOf_75 : decode cX7_roomOf 75 = .ok (.iload_n 2, 1) := by decide +kernel
theorem dX7_roomOf_76 : decode cX7_roomOf 76 = .ok (.aload_n 0, 1) := by decide +kernel
theorem dX7_roomOf_77 : decode cX7_roomOf 77 = .ok (.getfield 19, 3) := by decide +kernel
theorem dX7_roomOf_80 : decode cX7_roomOf 80 = .ok (.iload_n 1, 1) := by decide +kernel
theorem dX7_roomOf_81 : decode cX7_roomOf 81 = .ok (.iaload, 1) := by decide +kernel
theorem dX7_roomOf_82 : decode cX7_roomOf 82 = .ok (.imul, 1) := by decide +kernel
theorem dX7_roomOf_83 : decode cX7_roomOf 83 = .ok (.iadd, 1) := by decide +kernel
theorem dX7_roomOf_84 : decode cX7_roomOf 84 = .ok (.ireturn, 1) := by decide +kernel
theorem dX7_roomOfMarked_0 : decode cX7_roomOfMarked 0 = .ok (.iconst 0, 1) := by decide +kernel
theorem dX7_roomOfMarked_1 : decode cX7_roomOfMarked 1 = .ok (.istore_n 1, 1) := by decide +kernel
theorem dX7_roomOfMarked_2 : decode cX7_roomOfMarked 2 = .ok (.iconst 0, 1) := by decide +kernel
theorem dX7_roomOfMarked_3 : decode cX7_roomOfMarked 3 = .ok (.istore_n 2, 1) := by decide +kernel
theorem dX7_roomOfMarked_4 : decode cX7_roomOfMarked 4 = .ok (.iload_n 2, 1) := by decide +kernel
theorem dX7_roomOfMarked_5 : decode cX7_roomOfMarked 5 = .ok (.sipush 20480, 3) := by decide +kernel
theorem dX7_roomOfMarked_8 : decode cX7_roomOfMarked 8 = .ok (.if_icmp .ge 30, 3) := by decide +kernel
theorem dX7_roomOfMarked_11 : decode cX7_roomOfMarked 11 = .ok (.iload_n 1, 1) := by decide +kernel
theorem dX7_roomOfMarked_12 : decode cX7_roomOfMarked 12 = .ok (.aload_n 0, 1) := by decide +kernel
theorem dX7_roomOfMarked_13 : decode cX7_roomOfMarked 13 = .ok (.getfield 22, 3) := by decide +kernel
theorem dX7_roomOfMarked_16 : decode cX7_roomOfMarked 16 = .ok (.iload_n 2, 1) := by decide +kernel
theorem dX7_roomOfMarked_17 : decode cX7_roomOfMarked 17 = .ok (.baload, 1) := by decide +kernel
theorem dX7_roomOfMarked_18 : decode cX7_roomOfMarked 18 = .ok (.ifCond .eq 11, 3) := by decide +kernel
theorem dX7_roomOfMarked_21 : decode cX7_roomOfMarked 21 = .ok (.aload_n 0, 1) := by decide +kernel
theorem dX7_roomOfMarked_22 : decode cX7_roomOfMarked 22 = .ok (.iload_n 2, 1) := by decide +kernel
theorem dX7_roomOfMarked_23 : decode cX7_roomOfMarked 23 = .ok (.invokevirtual 191, 3) := by decide +kernel
theorem dX7_roomOfMarked_26 : decode cX7_roomOfMarked 26 = .ok (.goto 4, 3) := by decide +kernel
theorem dX7_roomOfMarked_29 : decode cX7_roomOfMarked 29 = .ok (.iconst 0, 1) := by decide +kernel
theorem dX7_roomOfMarked_30 : decode cX7_roomOfMarked 30 = .ok (.iadd, 1) := by decide +kernel
theorem dX7_roomOfMarked_31 : decode cX7_roomOfMarked 31 = .ok (.istore_n 1, 1) := by decide +kernel
theorem dX7_roomOfMarked_32 : decode cX7_roomOfMarked 32 = .ok (.iinc 2 1, 3) := by decide +kernel
theorem dX7_roomOfMarked_35 : decode cX7_roomOfMarked 35 = .ok (.goto (-31), 3) := by decide +kernel
theorem dX7_roomOfMarked_38 : decode cX7_roomOfMarked 38 = .ok (.iload_n 1, 1) := by decide +kernel
theorem dX7_roomOfMarked_39 : decode cX7_roomOfMarked 39 = .ok (.ireturn, 1) := by decide +kernel
theorem dX7_isWide_0 : decode cX7_isWide 0 = .ok (.aload_n 0, 1) := by decide +kernel
theorem dX7_isWide_1 : decode cX7_isWide 1 = .ok (.aload_n 0, 1) := by decide +kernel
theorem dX7_isWide_2 : decode cX7_isWide 2 = .ok (.getfield 34, 3) := by decide +kernel
theorem dX7_isWide_5 : decode cX7_isWide 5 = .ok (.iload_n 1, 1) := by decide +kernel
theorem dX7_isWide_6 : decode cX7_isWide 6 = .ok (.iaload, 1) := by decide +kernel
theorem dX7_isWide_7 : decode cX7_isWide 7 = .ok (.iconst 0, 1) := by decide +kernel
theorem dX7_isWide_8 : decode cX7_isWide 8 = .ok (.invokevirtual 154, 3) := by decide +kernel
theorem dX7_isWide_11 : decode cX7_isWide 11 = .ok (.istore_n 2, 1) := by decide +kernel
theorem dX7_isWide_12 : decode cX7_isWide 12 = .ok (.iconst 0, 1) := by decide +kernel
theorem dX7_isWide_13 : decode cX7_isWide 13 = .ok (.istore_n 3, 1) := by decide +kernel
theorem dX7_isWide_14 : decode cX7_isWide 14 = .ok (.iconst 0, 1) := by decide +kernel
theorem dX7_isWide_15 : decode cX7_isWide 15 = .ok (.istore 4, 2) := by decide +kernel
theorem dX7_isWide_17 : decode cX7_isWide 17 = .ok (.iload 4, 2) := by decide +kernel
theorem dX7_isWide_19 : decode cX7_isWide 19 = .ok (.iload_n 2, 1) := by decide +kernel
theorem dX7_isWide_20 : decode cX7_isWide 20 = .ok (.if_icmp .ge 32, 3) := by decide +kernel
theorem dX7_isWide_23 : decode cX7_isWide 23 = .ok (.iload_n 3, 1) := by decide +kernel
theorem dX7_isWide_24 : decode cX7_isWide 24 = .ok (.ifCond .ne 16, 3) := by decide +kernel
theorem dX7_isWide_27 : decode cX7_isWide 27 = .ok (.aload_n 0, 1) := by decide +kernel
theorem dX7_isWide_28 : decode cX7_isWide 28 = .ok (.getfield 61, 3) := by decide +kernel
theorem dX7_isWide_31 : decode cX7_isWide 31 = .ok (.iload 4, 2) := by decide +kernel
theorem dX7_isWide_33 : decode cX7_isWide 33 = .ok (.iaload, 1) := by decide +kernel
theorem dX7_isWide_34 : decode cX7_isWide 34 = .ok (.sipush 255, 3) := by decide +kernel
theorem dX7_isWide_37 : decode cX7_isWide 37 = .ok (.if_icmp .le 7, 3) := by decide +kernel
theorem dX7_isWide_40 : decode cX7_isWide 40 = .ok (.iconst 1, 1) := by decide +kernel
theorem dX7_isWide_41 : decode cX7_isWide 41 = .ok (.goto 4, 3) := by decide +kernel
theorem dX7_isWide_44 : decode cX7_isWide 44 = .ok (.iconst 0, 1) := by decide +kernel
theorem dX7_isWide_45 : decode cX7_isWide 45 = .ok (.istore_n 3, 1) := by decide +kernel
theorem dX7_isWide_46 : decode cX7_isWide 46 = .ok (.iinc 4 1, 3) := by decide +kernel
theorem dX7_isWide_49 : decode cX7_isWide 49 = .ok (.goto (-32), 3) := by decide +kernel
theorem dX7_isWide_52 : decode cX7_isWide 52 = .ok (.iload_n 3, 1) := by decide +kernel
theorem dX7_isWide_53 : decode cX7_isWide 53 = .ok (.ireturn, 1) := by decide +kernel
theorem dX7_told_0 : decode cX7_told 0 = .ok (.iload_n 1, 1) := by decide +kernel
theorem dX7_told_1 : decode cX7_told 1 = .ok (.invokestatic 181, 3) := by decide +kernel
theorem dX7_told_4 : decode cX7_told 4 = .ok (.ifCond .ne 5, 3) := by decide +kernel
theorem dX7_told_7 : decode cX7_told 7 = .ok (.iconst (-1), 1) := by decide +kernel
theorem dX7_told_8 : decode cX7_told 8 = .ok (.ireturn, 1) := by decide +kernel
theorem dX7_told_9 : decode cX7_told 9 = .ok (.aload_n 0, 1) := by decide +kernel
theorem dX7_told_10 : decode cX7_told 10 = .ok (.getfield 34, 3) := by decide +kernel
theorem dX7_told_13 : decode cX7_told 13 = .ok (.iload_n 1, 1) := by decide +kernel
theorem dX7_told_14 : decode cX7_told 14 = .ok (.iaload, 1) := by decide +kernel
theorem dX7_told_15 : decode cX7_told 15 = .ok (.istore_n 3, 1) := by decide +kernel
theorem dX7_told_16 : decode cX7_told 16 = .ok (.iload_n 2, 1) := by decide +kernel
theorem dX7_told_17 : decode cX7_told 17 = .ok (.tableswitch 115 0 6 #[43, 50, 59, 65, 76, 86, 101], 43) := by decide +kernel
theorem dX7_told_60 : decode cX7_told 60 = .ok (.aload_n 0, 1) := by decide +kernel
theorem dX7_told_61 : decode cX7_told 61 = .ok (.getfield 19, 3) := by decide +kernel
theorem dX7_told_64 : decode cX7_told 64 = .ok (.iload_n 3, 1) := by decide +kernel
theorem dX7_told_65 : decode cX7_told 65 = .ok (.iaload, 1) := by decide +kernel
theorem dX7_told_66 : decode cX7_told 66 = .ok (.ireturn, 1) := by decide +kernel
theorem dX7_told_67 : decode cX7_told 67 = .ok (.aload_n 0, 1) := by decide +kernel
theorem dX7_told_68 : decode cX7_told 68 = .ok (.getfield 7, 3) := by decide +kernel
theorem dX7_told_71 : decode cX7_told 71 = .ok (.iload_n 3, 1) := by decide +kernel
theorem dX7_told_72 : decode cX7_told 72 = .ok (.iaload, 1) := by decide +kernel
theorem dX7_told_73 : decode cX7_told 73 = .ok (.iconst 1, 1) := by decide +kernel
theorem dX7_told_74 : decode cX7_told 74 = .ok (.isub, 1) := by decide +kernel
theorem dX7_told_75 : decode cX7_told 75 = .ok (.ireturn, 1) := by decide +kernel
theorem dX7_told_76 : decode cX7_told 76 = .ok (.aload_n 0, 1) := by decide +kernel
theorem dX7_told_77 : decode cX7_told 77 = .ok (.iload_n 3, 1) := by decide +kernel
theorem dX7_told_78 : decode cX7_told 78 = .ok (.invokevirtual 138, 3) := by decide +kernel
theorem dX7_told_81 : decode cX7_told 81 = .ok (.ireturn, 1) := by decide +kernel
theorem dX7_told_82 : decode cX7_told 82 = .ok (.aload_n 0, 1) := by decide +kernel
theorem dX7_told_83 : decode cX7_told 83 = .ok (.iload_n 3, 1) := by decide +kernel
theorem dX7_told_84 : decode cX7_told 84 = .ok (.invokevirtual 138, 3) := by decide +kernel
theorem dX7_told_87 : decode cX7_told 87 = .ok (.pop, 1) := by decide +kernel
theorem dX7_told_88 : decode cX7_told 88 = .ok (.aload_n 0, 1) := by decide +kernel
theorem dX7_told_89 : decode cX7_told 89 = .ok (.getfield 135, 3) := by decide +kernel
theorem dX7_told_92 : decode cX7_told 92 = .ok (.ireturn, 1) := by decide +kernel
theorem dX7_told_93 : decode cX7_told 93 = .ok (.aload_n 0, 1) := by decide +kernel
theorem dX7_told_94 : decode cX7_told 94 = .ok (.invokevirtual 123, 3) := by decide +kernel
theorem dX7_told_97 : decode cX7_told 97 = .ok (.aload_n 0, 1) := by decide +kernel
theorem dX7_told_98 : decode cX7_told 98 = .ok (.iload_n 3, 1) := by decide +kernel
theorem dX7_told_99 : decode cX7_told 99 = .ok (.invokevirtual 126, 3) := by decide +kernel
theorem dX7_told_102 : decode cX7_told 102 = .ok (.ireturn, 1) := by decide +kernel
theorem dX7_told_103 : decode cX7_told 103 = .ok (.aload_n 0, 1) := by decide +kernel
theorem dX7_told_104 : decode cX7_told 104 = .ok (.invokevirtual 123, 3) := by decide +kernel
theorem dX7_told_107 : decode cX7_told 107 = .ok (.aload_n 0, 1) := by decide +kernel
theorem dX7_told_108 : decode cX7_told 108 = .ok (.iload_n 3, 1) := by decide +kernel
theorem dX7_told_109 : decode cX7_told 109 = .ok (.invokevirtual 126, 3) := by decide +kernel
theorem dX7_told_112 : decode cX7_told 112 = .ok (.pop, 1) := by decide +kernel
theorem dX7_told_113 : decode cX7_told 113 = .ok (.aload_n 0, 1) := by decide +kernel
theorem dX7_told_114 : decode cX7_told 114 = .ok (.invokevirtual 194, 3) := by decide +kernel
theorem dX7_told_117 : decode cX7_told 117 = .ok (.ireturn, 1) := by decide +kernel
theorem dX7_told_118 : decode cX7_told 118 = .ok (.aload_n 0, 1) := by decide +kernel
theorem dX7_told_119 : decode cX7_told 119 = .ok (.iload_n 1, 1) := by decide +kernel
theorem dX7_told_120 : decode cX7_told 120 = .ok (.invokevirtual 197, 3) := by decide +kernel
theorem dX7_told_123 : decode cX7_told 123 = .ok (.ifCond .eq 7, 3) := by decide +kernel
theorem dX7_told_126 : decode cX7_told 126 = .ok (.iconst 1, 1) := by decide +kernel
theorem dX7_told_127 : decode cX7_told 127 = .ok (.goto 4, 3) := by decide +kernel
theorem dX7_told_130 : decode cX7_told 130 = .ok (.iconst 0, 1) := by decide +kernel
theorem dX7_told_131 : decode cX7_told 131 = .ok (.ireturn, 1) := by decide +kernel
theorem dX7_told_132 : decode cX7_told 132 = .ok (.bipush (-2), 2) := by decide +kernel
theorem dX7_told_134 : decode cX7_told 134 = .ok (.ireturn, 1) := by decide +kernel
theorem dX7_piece_0 : decode cX7_piece 0 = .ok (.iload_n 1, 1) := by decide +kernel
theorem dX7_piece_1 : decode cX7_piece 1 = .ok (.invokestatic 181, 3) := by decide +kernel
theorem dX7_piece_4 : decode cX7_piece 4 = .ok (.ifCond .ne 5, 3) := by decide +kernel
theorem dX7_piece_7 : decode cX7_piece 7 = .ok (.iconst (-1), 1) := by decide +kernel
theorem dX7_piece_8 : decode cX7_piece 8 = .ok (.ireturn, 1) := by decide +kernel
theorem dX7_piece_9 : decode cX7_piece 9 = .ok (.iload_n 3, 1) := by decide +kernel
theorem dX7_piece_10 : decode cX7_piece 10 = .ok (.iconst 0, 1) := by decide +kernel
theorem dX7_piece_11 : decode cX7_piece 11 = .ok (.iconst 3, 1) := by decide +kernel
theorem dX7_piece_12 : decode cX7_piece 12 = .ok (.invokestatic 104, 3) := by decide +kernel
theorem dX7_piece_15 : decode cX7_piece 15 = .ok (.ifCond .ne 6, 3) := by decide +kernel
theorem dX7_piece_18 : decode cX7_piece 18 = .ok (.bipush (-2), 2) := by decide +kernel
theorem dX7_piece_20 : decode cX7_piece 20 = .ok (.ireturn, 1) := by decide +kernel
theorem dX7_piece_21 : decode cX7_piece 21 = .ok (.aload_n 0, 1) := by decide +kernel
theorem dX7_piece_22 : decode cX7_piece 22 = .ok (.aload_n 0, 1) := by decide +kernel
theorem dX7_piece_23 : decode cX7_piece 23 = .ok (.getfield 34, 3) := by decide +kernel
theorem dX7_piece_26 : decode cX7_piece 26 = .ok (.iload_n 1, 1) := by decide +kernel
theorem dX7_piece_27 : decode cX7_piece 27 = .ok (.iaload, 1) := by decide +kernel
theorem dX7_piece_28 : decode cX7_piece 28 = .ok (.invokevirtual 138, 3) := by decide +kernel
theorem dX7_piece_31 : decode cX7_piece 31 = .ok (.pop, 1) := by decide +kernel
theorem dX7_piece_32 : decode cX7_piece 32 = .ok (.iload_n 2, 1) := by decide +kernel
theorem dX7_piece_33 : decode cX7_piece 33 = .ok (.iconst 0, 1) := by decide +kernel
theorem dX7_piece_34 : decode cX7_piece 34 = .ok (.aload_n 0, 1) := by decide +kernel
theorem dX7_piece_35 : decode cX7_piece 35 = .ok (.getfield 135, 3) := by decide +kernel
theorem dX7_piece_38 : decode cX7_piece 38 = .ok (.iconst 1, 1) := by decide +kernel
theorem dX7_piece_39 : decode cX7_piece 39 = .ok (.isub, 1) := by decide +kernel
theorem dX7_piece_40 : decode cX7_piece 40 = .ok (.invokestatic 104, 3) := by decide +kernel
theorem dX7_piece_43 : decode cX7_piece 43 = .ok (.ifCond .ne 6, 3) := by decide +kernel
theorem dX7_piece_46 : decode cX7_piece 46 = .ok (.bipush (-6), 2) := by decide +kernel
theorem dX7_piece_48 : decode cX7_piece 48 = .ok (.ireturn, 1) := by decide +kernel
theorem dX7_piece_49 : decode cX7_piece 49 = .ok (.aload_n 0, 1) := by decide +kernel
theorem dX7_piece_50 : decode cX7_piece 50 = .ok (.getfield 67, 3) := by decide +kernel
theorem dX7_piece_53 : decode cX7_piece 53 = .ok (.iload_n 2, 1) := by decide +kernel
theorem dX7_piece_54 : decode cX7_piece 54 = .ok (.iaload, 1) := by decide +kernel
theorem dX7_piece_55 : decode cX7_piece 55 = .ok (.istore 4, 2) := by decide +kernel
theorem dX7_piece_57 : decode cX7_piece 57 = .ok (.aload_n 0, 1) := by decide +kernel
theorem dX7_piece_58 : decode cX7_piece 58 = .ok (.getfield 7, 3) := by decide +kernel
theorem dX7_piece_61 : decode cX7_piece 61 = .ok (.iload 4, 2) := by decide +kernel
theorem dX7_piece_63 : decode cX7_piece 63 = .ok (.iaload, 1) := by decide +kernel
theorem dX7_piece_64 : decode cX7_piece 64 = .ok (.iconst 3, 1) := by decide +kernel
theorem dX7_piece_65 : decode cX7_piece 65 = .ok (.if_icmp .ne 7, 3) := by decide +kernel
theorem dX7_piece_68 : decode cX7_piece 68 = .ok (.iconst 1, 1) := by decide +kernel
theorem dX7_piece_69 : decode cX7_piece 69 = .ok (.goto 4, 3) := by decide +kernel
theorem dX7_piece_72 : decode cX7_piece 72 = .ok (.iconst 0, 1) := by decide +kernel
theorem dX7_piece_73 : decode cX7_piece 73 = .ok (.istore 5, 2) := by decide +kernel
theorem dX7_piece_75 : decode cX7_piece 75 = .ok (.iconst 0, 1) := by decide +kernel
theorem dX7_piece_76 : decode cX7_piece 76 = .ok (.istore 6, 2) := by decide +kernel
theorem dX7_piece_78 : decode cX7_piece 78 = .ok (.aload_n 0, 1) := by decide +kernel
theorem dX7_piece_79 : decode cX7_piece 79 = .ok (.getfield 67, 3) := by decide +kernel
theorem dX7_piece_82 : decode cX7_piece 82 = .ok (.iload 6, 2) := by decide +kernel
theorem dX7_piece_84 : decode cX7_piece 84 = .ok (.iaload, 1) := by decide +kernel
theorem dX7_piece_85 : decode cX7_piece 85 = .ok (.iload 4, 2) := by decide +kernel
theorem dX7_piece_87 : decode cX7_piece 87 = .ok (.if_icmp .eq 9, 3) := by decide +kernel
theorem dX7_piece_90 : decode cX7_piece 90 = .ok (.iinc 6 1, 3) := by decide +kernel
theorem dX7_piece_93 : decode cX7_piece 93 = .ok (.goto (-15), 3) := by decide +kernel
theorem dX7_piece_96 : decode cX7_piece 96 = .ok (.iload_n 3, 1) := by decide +kernel
theorem dX7_piece_97 : decode cX7_piece 97 = .ok (.ifCond .ne 13, 3) := by decide +kernel
theorem dX7_piece_100 : decode cX7_piece 100 = .ok (.aload_n 0, 1) := by decide +kernel
theorem dX7_piece_101 : decode cX7_piece 101 = .ok (.getfield 19, 3) := by decide +kernel
theorem dX7_piece_104 : decode cX7_piece 104 = .ok (.iload 4, 2) := by decide +kernel
theorem dX7_piece_106 : decode cX7_piece 106 = .ok (.iaload, 1) := by decide +kernel
theorem dX7_piece_107 : decode cX7_piece 107 = .ok (.goto 59, 3) := by decide +kernel
theorem dX7_piece_110 : decode cX7_piece 110 = .ok (.iload_n 3, 1) := by decide +kernel
theorem dX7_piece_111 : decode cX7_piece 111 = .ok (.iconst 1, 1) := by decide +kernel
theorem dX7_piece_112 : decode cX7_piece 112 = .ok (.if_icmp .ne 22, 3) := by decide +kernel
theorem dX7_piece_115 : decode cX7_piece 115 = .ok (.iload 5, 2) := by decide +kernel
theorem dX7_piece_117 : decode cX7_piece 117 = .ok (.ifCond .eq 13, 3) := by decide +kernel
theorem dX7_piece_120 : decode cX7_piece 120 = .ok (.aload_n 0, 1) := by decide +kernel
theorem dX7_piece_121 : decode cX7_piece 121 = .ok (.getfield 16, 3) := by decide +kernel
theorem dX7_piece_124 : decode cX7_piece 124 = .ok (.iload 4, 2) := by decide +kernel
theorem dX7_piece_126 : decode cX7_piece 126 = .ok (.iaload, 1) := by decide +kernel
theorem dX7_piece_127 : decode cX7_piece 127 = .ok (.goto 39, 3) := by decide +kernel
theorem dX7_piece_130 : decode cX7_piece 130 = .ok (.iconst 0, 1) := by decide +kernel
theorem dX7_piece_131 : decode cX7_piece 131 = .ok (.goto 35, 3) := by decide +kernel
theorem dX7_piece_134 : decode cX7_piece 134 = .ok (.iload_n 3, 1) := by decide +kernel
theorem dX7_piece_135 : decode cX7_piece 135 = .ok (.iconst 2, 1) := by decide +kernel
theorem dX7_piece_136 : decode cX7_piece 136 = .ok (.if_icmp .ne 28, 3) := by decide +kernel
theorem dX7_piece_139 : decode cX7_piece 139 = .ok (.aload_n 0, 1) := by decide +kernel
theorem dX7_piece_140 : decode cX7_piece 140 = .ok (.getfield 19, 3) := by decide +kernel
theorem dX7_piece_143 : decode cX7_piece 143 = .ok (.iload 5, 2) := by decide +kernel
theorem dX7_piece_145 : decode cX7_piece 145 = .ok (.ifCond .eq 13, 3) := by decide +kernel
theorem dX7_piece_148 : decode cX7_piece 148 = .ok (.aload_n 0, 1) := by decide +kernel
theorem dX7_piece_149 : decode cX7_piece 149 = .ok (.getfield 13, 3) := by decide +kernel
theorem dX7_piece_152 : decode cX7_piece 152 = .ok (.iload 4, 2) := by decide +kernel
theorem dX7_piece_154 : decode cX7_piece 154 = .ok (.iaload, 1) := by decide +kernel
end
section
theorem dX7_piece_155 : decode cX7_piece 155 = .ok (.goto 5, 3) := by decide +kernel
theorem dX7_piece_158 : decode cX7_piece 158 = .ok (.iload 4, 2) := by decide +kernel
theorem dX7_piece_160 : decode cX7_piece 160 = .ok (.iaload, 1) := by decide +kernel
theorem dX7_piece_161 : decode cX7_piece 161 = .ok (.goto 5, 3) := by decide +kernel
theorem dX7_piece_164 : decode cX7_piece 164 = .ok (.iload 6, 2) := by decide +kernel
theorem dX7_piece_166 : decode cX7_piece 166 = .ok (.ireturn, 1) := by decide +kernel
theorem dX7_layBoth_0 : decode cX7_layBoth 0 = .ok (.aload_n 0, 1) := by decide +kernel
theorem dX7_layBoth_1 : decode cX7_layBoth 1 = .ok (.aload_n 0, 1) := by decide +kernel
theorem dX7_layBoth_2 : decode cX7_layBoth 2 = .ok (.iload_n 1, 1) := by decide +kernel
theorem dX7_layBoth_3 : decode cX7_layBoth 3 = .ok (.iconst 0, 1) := by decide +kernel
theorem dX7_layBoth_4 : decode cX7_layBoth 4 = .ok (.invokevirtual 154, 3) := by decide +kernel
theorem dX7_layBoth_7 : decode cX7_layBoth 7 = .ok (.putfield 200, 3) := by decide +kernel
theorem dX7_layBoth_10 : decode cX7_layBoth 10 = .ok (.aload_n 0, 1) := by decide +kernel
theorem dX7_layBoth_11 : decode cX7_layBoth 11 = .ok (.aload_n 0, 1) := by decide +kernel
theorem dX7_layBoth_12 : decode cX7_layBoth 12 = .ok (.iload_n 2, 1) := by decide +kernel
theorem dX7_layBoth_13 : decode cX7_layBoth 13 = .ok (.aload_n 0, 1) := by decide +kernel
theorem dX7_layBoth_14 : decode cX7_layBoth 14 = .ok (.getfield 200, 3) := by decide +kernel
theorem dX7_layBoth_17 : decode cX7_layBoth 17 = .ok (.invokevirtual 154, 3) := by decide +kernel
theorem dX7_layBoth_20 : decode cX7_layBoth 20 = .ok (.putfield 203, 3) := by decide +kernel
theorem dX7_layBoth_23 : decode cX7_layBoth 23 = .ok (.return_, 1) := by decide +kernel
theorem dX7_alikeSigns_0 : decode cX7_alikeSigns 0 = .ok (.iconst 0, 1) := by decide +kernel
theorem dX7_alikeSigns_1 : decode cX7_alikeSigns 1 = .ok (.istore_n 1, 1) := by decide +kernel
theorem dX7_alikeSigns_2 : decode cX7_alikeSigns 2 = .ok (.iload_n 1, 1) := by decide +kernel
theorem dX7_alikeSigns_3 : decode cX7_alikeSigns 3 = .ok (.aload_n 0, 1) := by decide +kernel
theorem dX7_alikeSigns_4 : decode cX7_alikeSigns 4 = .ok (.getfield 200, 3) := by decide +kernel
theorem dX7_alikeSigns_7 : decode cX7_alikeSigns 7 = .ok (.if_icmp .ge 37, 3) := by decide +kernel
theorem dX7_alikeSigns_10 : decode cX7_alikeSigns 10 = .ok (.iload_n 1, 1) := by decide +kernel
theorem dX7_alikeSigns_11 : decode cX7_alikeSigns 11 = .ok (.aload_n 0, 1) := by decide +kernel
theorem dX7_alikeSigns_12 : decode cX7_alikeSigns 12 = .ok (.getfield 203, 3) := by decide +kernel
theorem dX7_alikeSigns_15 : decode cX7_alikeSigns 15 = .ok (.if_icmp .ge 29, 3) := by decide +kernel
theorem dX7_alikeSigns_18 : decode cX7_alikeSigns 18 = .ok (.aload_n 0, 1) := by decide +kernel
theorem dX7_alikeSigns_19 : decode cX7_alikeSigns 19 = .ok (.getfield 61, 3) := by decide +kernel
theorem dX7_alikeSigns_22 : decode cX7_alikeSigns 22 = .ok (.iload_n 1, 1) := by decide +kernel
theorem dX7_alikeSigns_23 : decode cX7_alikeSigns 23 = .ok (.iaload, 1) := by decide +kernel
theorem dX7_alikeSigns_24 : decode cX7_alikeSigns 24 = .ok (.aload_n 0, 1) := by decide +kernel
theorem dX7_alikeSigns_25 : decode cX7_alikeSigns 25 = .ok (.getfield 61, 3) := by decide +kernel
theorem dX7_alikeSigns_28 : decode cX7_alikeSigns 28 = .ok (.aload_n 0, 1) := by decide +kernel
theorem dX7_alikeSigns_29 : decode cX7_alikeSigns 29 = .ok (.getfield 200, 3) := by decide +kernel
theorem dX7_alikeSigns_32 : decode cX7_alikeSigns 32 = .ok (.iload_n 1, 1) := by decide +kernel
theorem dX7_alikeSigns_33 : decode cX7_alikeSigns 33 = .ok (.iadd, 1) := by decide +kernel
theorem dX7_alikeSigns_34 : decode cX7_alikeSigns 34 = .ok (.iaload, 1) := by decide +kernel
theorem dX7_alikeSigns_35 : decode cX7_alikeSigns 35 = .ok (.if_icmp .ne 9, 3) := by decide +kernel
theorem dX7_alikeSigns_38 : decode cX7_alikeSigns 38 = .ok (.iinc 1 1, 3) := by decide +kernel
theorem dX7_alikeSigns_41 : decode cX7_alikeSigns 41 = .ok (.goto (-39), 3) := by decide +kernel
theorem dX7_alikeSigns_44 : decode cX7_alikeSigns 44 = .ok (.iload_n 1, 1) := by decide +kernel
theorem dX7_alikeSigns_45 : decode cX7_alikeSigns 45 = .ok (.ireturn, 1) := by decide +kernel
theorem dX7_areSame_0 : decode cX7_areSame 0 = .ok (.aload_n 0, 1) := by decide +kernel
theorem dX7_areSame_1 : decode cX7_areSame 1 = .ok (.iload_n 1, 1) := by decide +kernel
theorem dX7_areSame_2 : decode cX7_areSame 2 = .ok (.iload_n 2, 1) := by decide +kernel
theorem dX7_areSame_3 : decode cX7_areSame 3 = .ok (.invokevirtual 206, 3) := by decide +kernel
theorem dX7_areSame_6 : decode cX7_areSame 6 = .ok (.aload_n 0, 1) := by decide +kernel
theorem dX7_areSame_7 : decode cX7_areSame 7 = .ok (.getfield 200, 3) := by decide +kernel
theorem dX7_areSame_10 : decode cX7_areSame 10 = .ok (.aload_n 0, 1) := by decide +kernel
theorem dX7_areSame_11 : decode cX7_areSame 11 = .ok (.getfield 203, 3) := by decide +kernel
theorem dX7_areSame_14 : decode cX7_areSame 14 = .ok (.if_icmp .ne 18, 3) := by decide +kernel
theorem dX7_areSame_17 : decode cX7_areSame 17 = .ok (.aload_n 0, 1) := by decide +kernel
theorem dX7_areSame_18 : decode cX7_areSame 18 = .ok (.invokevirtual 210, 3) := by decide +kernel
theorem dX7_areSame_21 : decode cX7_areSame 21 = .ok (.aload_n 0, 1) := by decide +kernel
theorem dX7_areSame_22 : decode cX7_areSame 22 = .ok (.getfield 200, 3) := by decide +kernel
theorem dX7_areSame_25 : decode cX7_areSame 25 = .ok (.if_icmp .ne 7, 3) := by decide +kernel
theorem dX7_areSame_28 : decode cX7_areSame 28 = .ok (.iconst 1, 1) := by decide +kernel
theorem dX7_areSame_29 : decode cX7_areSame 29 = .ok (.goto 4, 3) := by decide +kernel
theorem dX7_areSame_32 : decode cX7_areSame 32 = .ok (.iconst 0, 1) := by decide +kernel
theorem dX7_areSame_33 : decode cX7_areSame 33 = .ok (.ireturn, 1) := by decide +kernel
theorem dX7_placeIn_0 : decode cX7_placeIn 0 = .ok (.iconst 0, 1) := by decide +kernel
theorem dX7_placeIn_1 : decode cX7_placeIn 1 = .ok (.istore_n 1, 1) := by decide +kernel
theorem dX7_placeIn_2 : decode cX7_placeIn 2 = .ok (.iload_n 1, 1) := by decide +kernel
theorem dX7_placeIn_3 : decode cX7_placeIn 3 = .ok (.aload_n 0, 1) := by decide +kernel
theorem dX7_placeIn_4 : decode cX7_placeIn 4 = .ok (.getfield 203, 3) := by decide +kernel
theorem dX7_placeIn_7 : decode cX7_placeIn 7 = .ok (.iadd, 1) := by decide +kernel
theorem dX7_placeIn_8 : decode cX7_placeIn 8 = .ok (.aload_n 0, 1) := by decide +kernel
theorem dX7_placeIn_9 : decode cX7_placeIn 9 = .ok (.getfield 200, 3) := by decide +kernel
theorem dX7_placeIn_12 : decode cX7_placeIn 12 = .ok (.if_icmp .gt 57, 3) := by decide +kernel
theorem dX7_placeIn_15 : decode cX7_placeIn 15 = .ok (.iconst 0, 1) := by decide +kernel
theorem dX7_placeIn_16 : decode cX7_placeIn 16 = .ok (.istore_n 2, 1) := by decide +kernel
theorem dX7_placeIn_17 : decode cX7_placeIn 17 = .ok (.iload_n 2, 1) := by decide +kernel
theorem dX7_placeIn_18 : decode cX7_placeIn 18 = .ok (.aload_n 0, 1) := by decide +kernel
theorem dX7_placeIn_19 : decode cX7_placeIn 19 = .ok (.getfield 203, 3) := by decide +kernel
theorem dX7_placeIn_22 : decode cX7_placeIn 22 = .ok (.if_icmp .ge 31, 3) := by decide +kernel
theorem dX7_placeIn_25 : decode cX7_placeIn 25 = .ok (.aload_n 0, 1) := by decide +kernel
theorem dX7_placeIn_26 : decode cX7_placeIn 26 = .ok (.getfield 61, 3) := by decide +kernel
theorem dX7_placeIn_29 : decode cX7_placeIn 29 = .ok (.iload_n 1, 1) := by decide +kernel
theorem dX7_placeIn_30 : decode cX7_placeIn 30 = .ok (.iload_n 2, 1) := by decide +kernel
theorem dX7_placeIn_31 : decode cX7_placeIn 31 = .ok (.iadd, 1) := by decide +kernel
theorem dX7_placeIn_32 : decode cX7_placeIn 32 = .ok (.iaload, 1) := by decide +kernel
theorem dX7_placeIn_33 : decode cX7_placeIn 33 = .ok (.aload_n 0, 1) := by decide +kernel
theorem dX7_placeIn_34 : decode cX7_placeIn 34 = .ok (.getfield 61, 3) := by decide +kernel
theorem dX7_placeIn_37 : decode cX7_placeIn 37 = .ok (.aload_n 0, 1) := by decide +kernel
theorem dX7_placeIn_38 : decode cX7_placeIn 38 = .ok (.getfield 200, 3) := by decide +kernel
theorem dX7_placeIn_41 : decode cX7_placeIn 41 = .ok (.iload_n 2, 1) := by decide +kernel
theorem dX7_placeIn_42 : decode cX7_placeIn 42 = .ok (.iadd, 1) := by decide +kernel
theorem dX7_placeIn_43 : decode cX7_placeIn 43 = .ok (.iaload, 1) := by decide +kernel
theorem dX7_placeIn_44 : decode cX7_placeIn 44 = .ok (.if_icmp .ne 9, 3) := by decide +kernel
theorem dX7_placeIn_47 : decode cX7_placeIn 47 = .ok (.iinc 2 1, 3) := by decide +kernel
theorem dX7_placeIn_50 : decode cX7_placeIn 50 = .ok (.goto (-33), 3) := by decide +kernel
theorem dX7_placeIn_53 : decode cX7_placeIn 53 = .ok (.iload_n 2, 1) := by decide +kernel
theorem dX7_placeIn_54 : decode cX7_placeIn 54 = .ok (.aload_n 0, 1) := by decide +kernel
theorem dX7_placeIn_55 : decode cX7_placeIn 55 = .ok (.getfield 203, 3) := by decide +kernel
theorem dX7_placeIn_58 : decode cX7_placeIn 58 = .ok (.if_icmp .ne 5, 3) := by decide +kernel
theorem dX7_placeIn_61 : decode cX7_placeIn 61 = .ok (.iload_n 1, 1) := by decide +kernel
theorem dX7_placeIn_62 : decode cX7_placeIn 62 = .ok (.ireturn, 1) := by decide +kernel
theorem dX7_placeIn_63 : decode cX7_placeIn 63 = .ok (.iinc 1 1, 3) := by decide +kernel
theorem dX7_placeIn_66 : decode cX7_placeIn 66 = .ok (.goto (-64), 3) := by decide +kernel
theorem dX7_placeIn_69 : decode cX7_placeIn 69 = .ok (.bipush (-6), 2) := by decide +kernel
theorem dX7_placeIn_71 : decode cX7_placeIn 71 = .ok (.ireturn, 1) := by decide +kernel
theorem dX7_comesFirst_0 : decode cX7_comesFirst 0 = .ok (.aload_n 0, 1) := by decide +kernel
theorem dX7_comesFirst_1 : decode cX7_comesFirst 1 = .ok (.invokevirtual 210, 3) := by decide +kernel
theorem dX7_comesFirst_4 : decode cX7_comesFirst 4 = .ok (.istore_n 1, 1) := by decide +kernel
theorem dX7_comesFirst_5 : decode cX7_comesFirst 5 = .ok (.iload_n 1, 1) := by decide +kernel
theorem dX7_comesFirst_6 : decode cX7_comesFirst 6 = .ok (.aload_n 0, 1) := by decide +kernel
theorem dX7_comesFirst_7 : decode cX7_comesFirst 7 = .ok (.getfield 200, 3) := by decide +kernel
theorem dX7_comesFirst_10 : decode cX7_comesFirst 10 = .ok (.if_icmp .eq 11, 3) := by decide +kernel
theorem dX7_comesFirst_13 : decode cX7_comesFirst 13 = .ok (.iload_n 1, 1) := by decide +kernel
theorem dX7_comesFirst_14 : decode cX7_comesFirst 14 = .ok (.aload_n 0, 1) := by decide +kernel
theorem dX7_comesFirst_15 : decode cX7_comesFirst 15 = .ok (.getfield 203, 3) := by decide +kernel
theorem dX7_comesFirst_18 : decode cX7_comesFirst 18 = .ok (.if_icmp .ne 20, 3) := by decide +kernel
theorem dX7_comesFirst_21 : decode cX7_comesFirst 21 = .ok (.aload_n 0, 1) := by decide +kernel
theorem dX7_comesFirst_22 : decode cX7_comesFirst 22 = .ok (.getfield 200, 3) := by decide +kernel
theorem dX7_comesFirst_25 : decode cX7_comesFirst 25 = .ok (.aload_n 0, 1) := by decide +kernel
theorem dX7_comesFirst_26 : decode cX7_comesFirst 26 = .ok (.getfield 203, 3) := by decide +kernel
theorem dX7_comesFirst_29 : decode cX7_comesFirst 29 = .ok (.if_icmp .ge 7, 3) := by decide +kernel
theorem dX7_comesFirst_32 : decode cX7_comesFirst 32 = .ok (.iconst 1, 1) := by decide +kernel
theorem dX7_comesFirst_33 : decode cX7_comesFirst 33 = .ok (.goto 4, 3) := by decide +kernel
theorem dX7_comesFirst_36 : decode cX7_comesFirst 36 = .ok (.iconst 0, 1) := by decide +kernel
theorem dX7_comesFirst_37 : decode cX7_comesFirst 37 = .ok (.ireturn, 1) := by decide +kernel
theorem dX7_comesFirst_38 : decode cX7_comesFirst 38 = .ok (.aload_n 0, 1) := by decide +kernel
theorem dX7_comesFirst_39 : decode cX7_comesFirst 39 = .ok (.getfield 61, 3) := by decide +kernel
theorem dX7_comesFirst_42 : decode cX7_comesFirst 42 = .ok (.iload_n 1, 1) := by decide +kernel
theorem dX7_comesFirst_43 : decode cX7_comesFirst 43 = .ok (.iaload, 1) := by decide +kernel
theorem dX7_comesFirst_44 : decode cX7_comesFirst 44 = .ok (.aload_n 0, 1) := by decide +kernel
theorem dX7_comesFirst_45 : decode cX7_comesFirst 45 = .ok (.getfield 61, 3) := by decide +kernel
theorem dX7_comesFirst_48 : decode cX7_comesFirst 48 = .ok (.aload_n 0, 1) := by decide +kernel
theorem dX7_comesFirst_49 : decode cX7_comesFirst 49 = .ok (.getfield 200, 3) := by decide +kernel
theorem dX7_comesFirst_52 : decode cX7_comesFirst 52 = .ok (.iload_n 1, 1) := by decide +kernel
theorem dX7_comesFirst_53 : decode cX7_comesFirst 53 = .ok (.iadd, 1) := by decide +kernel
theorem dX7_comesFirst_54 : decode cX7_comesFirst 54 = .ok (.iaload, 1) := by decide +kernel
theorem dX7_comesFirst_55 : decode cX7_comesFirst 55 = .ok (.if_icmp .ge 7, 3) := by decide +kernel
theorem dX7_comesFirst_58 : decode cX7_comesFirst 58 = .ok (.iconst 1, 1) := by decide +kernel
theorem dX7_comesFirst_59 : decode cX7_comesFirst 59 = .ok (.goto 4, 3) := by decide +kernel
theorem dX7_comesFirst_62 : decode cX7_comesFirst 62 = .ok (.iconst 0, 1) := by decide +kernel
theorem dX7_comesFirst_63 : decode cX7_comesFirst 63 = .ok (.ireturn, 1) := by decide +kernel
theorem dX7_alike_0 : decode cX7_alike 0 = .ok (.iload_n 1, 1) := by decide +kernel
theorem dX7_alike_1 : decode cX7_alike 1 = .ok (.invokestatic 181, 3) := by decide +kernel
theorem dX7_alike_4 : decode cX7_alike 4 = .ok (.ifCond .eq 10, 3) := by decide +kernel
theorem dX7_alike_7 : decode cX7_alike 7 = .ok (.iload_n 2, 1) := by decide +kernel
theorem dX7_alike_8 : decode cX7_alike 8 = .ok (.invokestatic 181, 3) := by decide +kernel
theorem dX7_alike_11 : decode cX7_alike 11 = .ok (.ifCond .ne 5, 3) := by decide +kernel
theorem dX7_alike_14 : decode cX7_alike 14 = .ok (.iconst (-1), 1) := by decide +kernel
theorem dX7_alike_15 : decode cX7_alike 15 = .ok (.ireturn, 1) := by decide +kernel
theorem dX7_alike_16 : decode cX7_alike 16 = .ok (.aload_n 0, 1) := by decide +kernel
theorem dX7_alike_17 : decode cX7_alike 17 = .ok (.aload_n 0, 1) := by decide +kernel
theorem dX7_alike_18 : decode cX7_alike 18 = .ok (.getfield 34, 3) := by decide +kernel
theorem dX7_alike_21 : decode cX7_alike 21 = .ok (.iload_n 1, 1) := by decide +kernel
theorem dX7_alike_22 : decode cX7_alike 22 = .ok (.iaload, 1) := by decide +kernel
theorem dX7_alike_23 : decode cX7_alike 23 = .ok (.aload_n 0, 1) := by decide +kernel
theorem dX7_alike_24 : decode cX7_alike 24 = .ok (.getfield 34, 3) := by decide +kernel
theorem dX7_alike_27 : decode cX7_alike 27 = .ok (.iload_n 2, 1) := by decide +kernel
theorem dX7_alike_28 : decode cX7_alike 28 = .ok (.iaload, 1) := by decide +kernel
theorem dX7_alike_29 : decode cX7_alike 29 = .ok (.invokevirtual 213, 3) := by decide +kernel
theorem dX7_alike_32 : decode cX7_alike 32 = .ok (.istore 4, 2) := by decide +kernel
theorem dX7_alike_34 : decode cX7_alike 34 = .ok (.iload_n 3, 1) := by decide +kernel
theorem dX7_alike_35 : decode cX7_alike 35 = .ok (.tableswitch 88 0 4 #[33, 44, 65, 70, 75], 33) := by decide +kernel
theorem dX7_alike_68 : decode cX7_alike 68 = .ok (.iload 4, 2) := by decide +kernel
theorem dX7_alike_70 : decode cX7_alike 70 = .ok (.ifCond .eq 7, 3) := by decide +kernel
theorem dX7_alike_73 : decode cX7_alike 73 = .ok (.iconst 1, 1) := by decide +kernel
theorem dX7_alike_74 : decode cX7_alike 74 = .ok (.goto 4, 3) := by decide +kernel
theorem dX7_alike_77 : decode cX7_alike 77 = .ok (.iconst 0, 1) := by decide +kernel
theorem dX7_alike_78 : decode cX7_alike 78 = .ok (.ireturn, 1) := by decide +kernel
theorem dX7_alike_79 : decode cX7_alike 79 = .ok (.aload_n 0, 1) := by decide +kernel
theorem dX7_alike_80 : decode cX7_alike 80 = .ok (.getfield 34, 3) := by decide +kernel
theorem dX7_alike_83 : decode cX7_alike 83 = .ok (.iload_n 1, 1) := by decide +kernel
theorem dX7_alike_84 : decode cX7_alike 84 = .ok (.iaload, 1) := by decide +kernel
theorem dX7_alike_85 : decode cX7_alike 85 = .ok (.aload_n 0, 1) := by decide +kernel
theorem dX7_alike_86 : decode cX7_alike 86 = .ok (.getfield 34, 3) := by decide +kernel
theorem dX7_alike_89 : decode cX7_alike 89 = .ok (.iload_n 2, 1) := by decide +kernel
theorem dX7_alike_90 : decode cX7_alike 90 = .ok (.iaload, 1) := by decide +kernel
theorem dX7_alike_91 : decode cX7_alike 91 = .ok (.if_icmp .ne 7, 3) := by decide +kernel
theorem dX7_alike_94 : decode cX7_alike 94 = .ok (.iconst 1, 1) := by decide +kernel
theorem dX7_alike_95 : decode cX7_alike 95 = .ok (.goto 4, 3) := by decide +kernel
theorem dX7_alike_98 : decode cX7_alike 98 = .ok (.iconst 0, 1) := by decide +kernel
theorem dX7_alike_99 : decode cX7_alike 99 = .ok (.ireturn, 1) := by decide +kernel
theorem dX7_alike_100 : decode cX7_alike 100 = .ok (.aload_n 0, 1) := by decide +kernel
theorem dX7_alike_101 : decode cX7_alike 101 = .ok (.invokevirtual 210, 3) := by decide +kernel
theorem dX7_alike_104 : decode cX7_alike 104 = .ok (.ireturn, 1) := by decide +kernel
theorem dX7_alike_105 : decode cX7_alike 105 = .ok (.aload_n 0, 1) := by decide +kernel
theorem dX7_alike_106 : decode cX7_alike 106 = .ok (.invokevirtual 217, 3) := by decide +kernel
theorem dX7_alike_109 : decode cX7_alike 109 = .ok (.ireturn, 1) := by decide +kernel
theorem dX7_alike_110 : decode cX7_alike 110 = .ok (.aload_n 0, 1) := by decide +kernel
theorem dX7_alike_111 : decode cX7_alike 111 = .ok (.invokevirtual 220, 3) := by decide +kernel
theorem dX7_alike_114 : decode cX7_alike 114 = .ok (.ifCond .eq 7, 3) := by decide +kernel
theorem dX7_alike_117 : decode cX7_alike 117 = .ok (.iconst 1, 1) := by decide +kernel
theorem dX7_alike_118 : decode cX7_alike 118 = .ok (.goto 4, 3) := by decide +kernel
theorem dX7_alike_121 : decode cX7_alike 121 = .ok (.iconst 0, 1) := by decide +kernel
theorem dX7_alike_122 : decode cX7_alike 122 = .ok (.ireturn, 1) := by decide +kernel
theorem dX7_alike_123 : decode cX7_alike 123 = .ok (.bipush (-2), 2) := by decide +kernel
theorem dX7_alike_125 : decode cX7_alike 125 = .ok (.ireturn, 1) := by decide +kernel
theorem dX7_intern_0 : decode cX7_intern 0 = .ok (.iload_n 1, 1) := by decide +kernel
theorem dX7_intern_1 : decode cX7_intern 1 = .ok (.invokestatic 181, 3) := by decide +kernel
theorem dX7_intern_4 : decode cX7_intern 4 = .ok (.ifCond .ne 5, 3) := by decide +kernel
theorem dX7_intern_7 : decode cX7_intern 7 = .ok (.iconst (-1), 1) := by decide +kernel
theorem dX7_intern_8 : decode cX7_intern 8 = .ok (.ireturn, 1) := by decide +kernel
theorem dX7_intern_9 : decode cX7_intern 9 = .ok (.iconst 0, 1) := by decide +kernel
theorem dX7_intern_10 : decode cX7_intern 10 = .ok (.istore_n 2, 1) := by decide +kernel
theorem dX7_intern_11 : decode cX7_intern 11 = .ok (.iload_n 2, 1) := by decide +kernel
theorem dX7_intern_12 : decode cX7_intern 12 = .ok (.aload_n 0, 1) := by decide +kernel
theorem dX7_intern_13 : decode cX7_intern 13 = .ok (.getfield 129, 3) := by decide +kernel
theorem dX7_intern_16 : decode cX7_intern 16 = .ok (.if_icmp .ge 47, 3) := by decide +kernel
theorem dX7_intern_19 : decode cX7_intern 19 = .ok (.aload_n 0, 1) := by decide +kernel
theorem dX7_intern_20 : decode cX7_intern 20 = .ok (.aload_n 0, 1) := by decide +kernel
theorem dX7_intern_21 : decode cX7_intern 21 = .ok (.getfield 34, 3) := by decide +kernel
theorem dX7_intern_24 : decode cX7_intern 24 = .ok (.iload_n 1, 1) := by decide +kernel
theorem dX7_intern_25 : decode cX7_intern 25 = .ok (.iaload, 1) := by decide +kernel
theorem dX7_intern_26 : decode cX7_intern 26 = .ok (.aload_n 0, 1) := by decide +kernel
theorem dX7_intern_27 : decode cX7_intern 27 = .ok (.getfield 43, 3) := by decide +kernel
theorem dX7_intern_30 : decode cX7_intern 30 = .ok (.iload_n 2, 1) := by decide +kernel
theorem dX7_intern_31 : decode cX7_intern 31 = .ok (.iaload, 1) := by decide +kernel
theorem dX7_intern_32 : decode cX7_intern 32 = .ok (.invokevirtual 213, 3) := by decide +kernel
theorem dX7_intern_35 : decode cX7_intern 35 = .ok (.ifCond .eq 22, 3) := by decide +kernel
theorem dX7_intern_38 : decode cX7_intern 38 = .ok (.aload_n 0, 1) := by decide +kernel
theorem dX7_intern_39 : decode cX7_intern 39 = .ok (.getfield 34, 3) := by decide +kernel
theorem dX7_intern_42 : decode cX7_intern 42 = .ok (.iload_n 1, 1) := by decide +kernel
theorem dX7_intern_43 : decode cX7_intern 43 = .ok (.aload_n 0, 1) := by decide +kernel
theorem dX7_intern_44 : decode cX7_intern 44 = .ok (.getfield 43, 3) := by decide +kernel
theorem dX7_intern_47 : decode cX7_intern 47 = .ok (.iload_n 2, 1) := by decide +kernel
theorem dX7_intern_48 : decode cX7_intern 48 = .ok (.iaload, 1) := by decide +kernel
theorem dX7_intern_49 : decode cX7_intern 49 = .ok (.iastore, 1) := by decide +kernel
theorem dX7_intern_50 : decode cX7_intern 50 = .ok (.aload_n 0, 1) := by decide +kernel
theorem dX7_intern_51 : decode cX7_intern 51 = .ok (.getfield 46, 3) := by decide +kernel
theorem dX7_intern_54 : decode cX7_intern 54 = .ok (.iload_n 2, 1) := by decide +kernel
theorem dX7_intern_55 : decode cX7_intern 55 = .ok (.iaload, 1) := by decide +kernel
theorem dX7_intern_56 : decode cX7_intern 56 = .ok (.ireturn, 1) := by decide +kernel
theorem dX7_intern_57 : decode cX7_intern 57 = .ok (.iinc 2 1, 3) := by decide +kernel
theorem dX7_intern_60 : decode cX7_intern 60 = .ok (.goto (-49), 3) := by decide +kernel
theorem dX7_intern_63 : decode cX7_intern 63 = .ok (.aload_n 0, 1) := by decide +kernel
theorem dX7_intern_64 : decode cX7_intern 64 = .ok (.getfield 129, 3) := by decide +kernel
theorem dX7_intern_67 : decode cX7_intern 67 = .ok (.bipush 24, 2) := by decide +kernel
theorem dX7_intern_69 : decode cX7_intern 69 = .ok (.if_icmp .ne 6, 3) := by decide +kernel
theorem dX7_intern_72 : decode cX7_intern 72 = .ok (.bipush (-4), 2) := by decide +kernel
theorem dX7_intern_74 : decode cX7_intern 74 = .ok (.ireturn, 1) := by decide +kernel
theorem dX7_intern_75 : decode cX7_intern 75 = .ok (.aload_n 0, 1) := by decide +kernel
theorem dX7_intern_76 : decode cX7_intern 76 = .ok (.getfield 43, 3) := by decide +kernel
theorem dX7_intern_79 : decode cX7_intern 79 = .ok (.aload_n 0, 1) := by decide +kernel
theorem dX7_intern_80 : decode cX7_intern 80 = .ok (.getfield 129, 3) := by decide +kernel
theorem dX7_intern_83 : decode cX7_intern 83 = .ok (.aload_n 0, 1) := by decide +kernel
theorem dX7_intern_84 : decode cX7_intern 84 = .ok (.getfield 34, 3) := by decide +kernel
theorem dX7_intern_87 : decode cX7_intern 87 = .ok (.iload_n 1, 1) := by decide +kernel
theorem dX7_intern_88 : decode cX7_intern 88 = .ok (.iaload, 1) := by decide +kernel
theorem dX7_intern_89 : decode cX7_intern 89 = .ok (.iastore, 1) := by decide +kernel
theorem dX7_intern_90 : decode cX7_intern 90 = .ok (.aload_n 0, 1) := by decide +kernel
theorem dX7_intern_91 : decode cX7_intern 91 = .ok (.getfield 46, 3) := by decide +kernel
theorem dX7_intern_94 : decode cX7_intern 94 = .ok (.aload_n 0, 1) := by decide +kernel
theorem dX7_intern_95 : decode cX7_intern 95 = .ok (.getfield 129, 3) := by decide +kernel
theorem dX7_intern_98 : decode cX7_intern 98 = .ok (.aload_n 0, 1) := by decide +kernel
theorem dX7_intern_99 : decode cX7_intern 99 = .ok (.getfield 224, 3) := by decide +kernel
theorem dX7_intern_102 : decode cX7_intern 102 = .ok (.iastore, 1) := by decide +kernel
theorem dX7_intern_103 : decode cX7_intern 103 = .ok (.aload_n 0, 1) := by decide +kernel
theorem dX7_intern_104 : decode cX7_intern 104 = .ok (.dup, 1) := by decide +kernel
theorem dX7_intern_105 : decode cX7_intern 105 = .ok (.getfield 129, 3) := by decide +kernel
theorem dX7_intern_108 : decode cX7_intern 108 = .ok (.iconst 1, 1) := by decide +kernel
theorem dX7_intern_109 : decode cX7_intern 109 = .ok (.iadd, 1) := by decide +kernel
theorem dX7_intern_110 : decode cX7_intern 110 = .ok (.putfield 129, 3) := by decide +kernel
theorem dX7_intern_113 : decode cX7_intern 113 = .ok (.aload_n 0, 1) := by decide +kernel
theorem dX7_intern_114 : decode cX7_intern 114 = .ok (.dup, 1) := by decide +kernel
theorem dX7_intern_115 : decode cX7_intern 115 = .ok (.getfield 224, 3) := by decide +kernel
theorem dX7_intern_118 : decode cX7_intern 118 = .ok (.iconst 1, 1) := by decide +kernel
theorem dX7_intern_119 : decode cX7_intern 119 = .ok (.iadd, 1) := by decide +kernel
theorem dX7_intern_120 : decode cX7_intern 120 = .ok (.putfield 224, 3) := by decide +kernel
theorem dX7_intern_123 : decode cX7_intern 123 = .ok (.aload_n 0, 1) := by decide +kernel
theorem dX7_intern_124 : decode cX7_intern 124 = .ok (.getfield 224, 3) := by decide +kernel
theorem dX7_intern_127 : decode cX7_intern 127 = .ok (.iconst 1, 1) := by decide +kernel
theorem dX7_intern_128 : decode cX7_intern 128 = .ok (.isub, 1) := by decide +kernel
theorem dX7_intern_129 : decode cX7_intern 129 = .ok (.ireturn, 1) := by decide +kernel
theorem dX7_markHeld_0 : decode cX7_markHeld 0 = .ok (.aload_n 0, 1) := by decide +kernel
theorem dX7_markHeld_1 : decode cX7_markHeld 1 = .ok (.invokevirtual 123, 3) := by decide +kernel
theorem dX7_markHeld_4 : decode cX7_markHeld 4 = .ok (.iconst 0, 1) := by decide +kernel
theorem dX7_markHeld_5 : decode cX7_markHeld 5 = .ok (.istore_n 1, 1) := by decide +kernel
theorem dX7_markHeld_6 : decode cX7_markHeld 6 = .ok (.iconst 0, 1) := by decide +kernel
theorem dX7_markHeld_7 : decode cX7_markHeld 7 = .ok (.istore_n 2, 1) := by decide +kernel
theorem dX7_markHeld_8 : decode cX7_markHeld 8 = .ok (.iload_n 2, 1) := by decide +kernel
theorem dX7_markHeld_9 : decode cX7_markHeld 9 = .ok (.bipush 8, 2) := by decide +kernel
theorem dX7_markHeld_11 : decode cX7_markHeld 11 = .ok (.if_icmp .ge 22, 3) := by decide +kernel
theorem dX7_markHeld_14 : decode cX7_markHeld 14 = .ok (.iload_n 1, 1) := by decide +kernel
theorem dX7_markHeld_15 : decode cX7_markHeld 15 = .ok (.aload_n 0, 1) := by decide +kernel
theorem dX7_markHeld_16 : decode cX7_markHeld 16 = .ok (.aload_n 0, 1) := by decide +kernel
theorem dX7_markHeld_17 : decode cX7_markHeld 17 = .ok (.getfield 34, 3) := by decide +kernel
theorem dX7_markHeld_20 : decode cX7_markHeld 20 = .ok (.iload_n 2, 1) := by decide +kernel
theorem dX7_markHeld_21 : decode cX7_markHeld 21 = .ok (.iaload, 1) := by decide +kernel
theorem dX7_markHeld_22 : decode cX7_markHeld 22 = .ok (.invokevirtual 126, 3) := by decide +kernel
theorem dX7_markHeld_25 : decode cX7_markHeld 25 = .ok (.iadd, 1) := by decide +kernel
theorem dX7_markHeld_26 : decode cX7_markHeld 26 = .ok (.istore_n 1, 1) := by decide +kernel
theorem dX7_markHeld_27 : decode cX7_markHeld 27 = .ok (.iinc 2 1, 3) := by decide +kernel
theorem dX7_markHeld_30 : decode cX7_markHeld 30 = .ok (.goto (-22), 3) := by decide +kernel
theorem dX7_markHeld_33 : decode cX7_markHeld 33 = .ok (.iload_n 1, 1) := by decide +kernel
theorem dX7_markHeld_34 : decode cX7_markHeld 34 = .ok (.ireturn, 1) := by decide +kernel
theorem dX7_sweep_0 : decode cX7_sweep 0 = .ok (.aload_n 0, 1) := by decide +kernel
theorem dX7_sweep_1 : decode cX7_sweep 1 = .ok (.invokevirtual 227, 3) := by decide +kernel
theorem dX7_sweep_4 : decode cX7_sweep 4 = .ok (.pop, 1) := by decide +kernel
theorem dX7_sweep_5 : decode cX7_sweep 5 = .ok (.iconst 0, 1) := by decide +kernel
theorem dX7_sweep_6 : decode cX7_sweep 6 = .ok (.istore_n 1, 1) := by decide +kernel
theorem dX7_sweep_7 : decode cX7_sweep 7 = .ok (.iconst 0, 1) := by decide +kernel
theorem dX7_sweep_8 : decode cX7_sweep 8 = .ok (.istore_n 2, 1) := by decide +kernel
theorem dX7_sweep_9 : decode cX7_sweep 9 = .ok (.iload_n 2, 1) := by decide +kernel
theorem dX7_sweep_10 : decode cX7_sweep 10 = .ok (.aload_n 0, 1) := by decide +kernel
theorem dX7_sweep_11 : decode cX7_sweep 11 = .ok (.getfield 129, 3) := by decide +kernel
theorem dX7_sweep_14 : decode cX7_sweep 14 = .ok (.if_icmp .ge 50, 3) := by decide +kernel
theorem dX7_sweep_17 : decode cX7_sweep 17 = .ok (.aload_n 0, 1) := by decide +kernel
theorem dX7_sweep_18 : decode cX7_sweep 18 = .ok (.getfield 22, 3) := by decide +kernel
theorem dX7_sweep_21 : decode cX7_sweep 21 = .ok (.aload_n 0, 1) := by decide +kernel
theorem dX7_sweep_22 : decode cX7_sweep 22 = .ok (.getfield 43, 3) := by decide +kernel
theorem dX7_sweep_25 : decode cX7_sweep 25 = .ok (.iload_n 2, 1) := by decide +kernel
theorem dX7_sweep_26 : decode cX7_sweep 26 = .ok (.iaload, 1) := by decide +kernel
theorem dX7_sweep_27 : decode cX7_sweep 27 = .ok (.baload, 1) := by decide +kernel
theorem dX7_sweep_28 : decode cX7_sweep 28 = .ok (.ifCond .eq 30, 3) := by decide +kernel
theorem dX7_sweep_31 : decode cX7_sweep 31 = .ok (.aload_n 0, 1) := by decide +kernel
theorem dX7_sweep_32 : decode cX7_sweep 32 = .ok (.getfield 43, 3) := by decide +kernel
theorem dX7_sweep_35 : decode cX7_sweep 35 = .ok (.iload_n 1, 1) := by decide +kernel
theorem dX7_sweep_36 : decode cX7_sweep 36 = .ok (.aload_n 0, 1) := by decide +kernel
theorem dX7_sweep_37 : decode cX7_sweep 37 = .ok (.getfield 43, 3) := by decide +kernel
theorem dX7_sweep_40 : decode cX7_sweep 40 = .ok (.iload_n 2, 1) := by decide +kernel
theorem dX7_sweep_41 : decode cX7_sweep 41 = .ok (.iaload, 1) := by decide +kernel
theorem dX7_sweep_42 : decode cX7_sweep 42 = .ok (.iastore, 1) := by decide +kernel
theorem dX7_sweep_43 : decode cX7_sweep 43 = .ok (.aload_n 0, 1) := by decide +kernel
theorem dX7_sweep_44 : decode cX7_sweep 44 = .ok (.getfield 46, 3) := by decide +kernel
theorem dX7_sweep_47 : decode cX7_sweep 47 = .ok (.iload_n 1, 1) := by decide +kernel
theorem dX7_sweep_48 : decode cX7_sweep 48 = .ok (.aload_n 0, 1) := by decide +kernel
theorem dX7_sweep_49 : decode cX7_sweep 49 = .ok (.getfield 46, 3) := by decide +kernel
theorem dX7_sweep_52 : decode cX7_sweep 52 = .ok (.iload_n 2, 1) := by decide +kernel
theorem dX7_sweep_53 : decode cX7_sweep 53 = .ok (.iaload, 1) := by decide +kernel
theorem dX7_sweep_54 : decode cX7_sweep 54 = .ok (.iastore, 1) := by decide +kernel
theorem dX7_sweep_55 : decode cX7_sweep 55 = .ok (.iinc 1 1, 3) := by decide +kernel
theorem dX7_sweep_58 : decode cX7_sweep 58 = .ok (.iinc 2 1, 3) := by decide +kernel
theorem dX7_sweep_61 : decode cX7_sweep 61 = .ok (.goto (-52), 3) := by decide +kernel
theorem dX7_sweep_64 : decode cX7_sweep 64 = .ok (.aload_n 0, 1) := by decide +kernel
theorem dX7_sweep_65 : decode cX7_sweep 65 = .ok (.getfield 129, 3) := by decide +kernel
theorem dX7_sweep_68 : decode cX7_sweep 68 = .ok (.iload_n 1, 1) := by decide +kernel
theorem dX7_sweep_69 : decode cX7_sweep 69 = .ok (.isub, 1) := by decide +kernel
theorem dX7_sweep_70 : decode cX7_sweep 70 = .ok (.istore_n 2, 1) := by decide +kernel
theorem dX7_sweep_71 : decode cX7_sweep 71 = .ok (.aload_n 0, 1) := by decide +kernel
theorem dX7_sweep_72 : decode cX7_sweep 72 = .ok (.iload_n 1, 1) := by decide +kernel
theorem dX7_sweep_73 : decode cX7_sweep 73 = .ok (.putfield 129, 3) := by decide +kernel
theorem dX7_sweep_76 : decode cX7_sweep 76 = .ok (.iload_n 2, 1) := by decide +kernel
theorem dX7_sweep_77 : decode cX7_sweep 77 = .ok (.ireturn, 1) := by decide +kernel
theorem dX7_entry_0 : decode cX7_entry 0 = .ok (.iload_n 2, 1) := by decide +kernel
theorem dX7_entry_1 : decode cX7_entry 1 = .ok (.iconst 0, 1) := by decide +kernel
theorem dX7_entry_2 : decode cX7_entry 2 = .ok (.iconst 2, 1) := by decide +kernel
theorem dX7_entry_3 : decode cX7_entry 3 = .ok (.invokestatic 104, 3) := by decide +kernel
theorem dX7_entry_6 : decode cX7_entry 6 = .ok (.ifCond .ne 6, 3) := by decide +kernel
theorem dX7_entry_9 : decode cX7_entry 9 = .ok (.bipush (-2), 2) := by decide +kernel
theorem dX7_entry_11 : decode cX7_entry 11 = .ok (.ireturn, 1) := by decide +kernel
theorem dX7_entry_12 : decode cX7_entry 12 = .ok (.iload_n 1, 1) := by decide +kernel
theorem dX7_entry_13 : decode cX7_entry 13 = .ok (.iconst 0, 1) := by decide +kernel
theorem dX7_entry_14 : decode cX7_entry 14 = .ok (.aload_n 0, 1) := by decide +kernel
theorem dX7_entry_15 : decode cX7_entry 15 = .ok (.getfield 129, 3) := by decide +kernel
theorem dX7_entry_18 : decode cX7_entry 18 = .ok (.iconst 1, 1) := by decide +kernel
theorem dX7_entry_19 : decode cX7_entry 19 = .ok (.isub, 1) := by decide +kernel
theorem dX7_entry_20 : decode cX7_entry 20 = .ok (.invokestatic 104, 3) := by decide +kernel
theorem dX7_entry_23 : decode cX7_entry 23 = .ok (.ifCond .ne 6, 3) := by decide +kernel
theorem dX7_entry_26 : decode cX7_entry 26 = .ok (.bipush (-6), 2) := by decide +kernel
theorem dX7_entry_28 : decode cX7_entry 28 = .ok (.ireturn, 1) := by decide +kernel
theorem dX7_entry_29 : decode cX7_entry 29 = .ok (.iconst 0, 1) := by decide +kernel
theorem dX7_entry_30 : decode cX7_entry 30 = .ok (.istore_n 3, 1) := by decide +kernel
theorem dX7_entry_31 : decode cX7_entry 31 = .ok (.iconst 0, 1) := by decide +kernel
theorem dX7_entry_32 : decode cX7_entry 32 = .ok (.istore 4, 2) := by decide +kernel
theorem dX7_entry_34 : decode cX7_entry 34 = .ok (.iload 4, 2) := by decide +kernel
theorem dX7_entry_36 : decode cX7_entry 36 = .ok (.bipush 8, 2) := by decide +kernel
theorem dX7_entry_38 : decode cX7_entry 38 = .ok (.if_icmp .ge 33, 3) := by decide +kernel
theorem dX7_entry_41 : decode cX7_entry 41 = .ok (.iload_n 3, 1) := by decide +kernel
theorem dX7_entry_42 : decode cX7_entry 42 = .ok (.aload_n 0, 1) := by decide +kernel
theorem dX7_entry_43 : decode cX7_entry 43 = .ok (.getfield 34, 3) := by decide +kernel
theorem dX7_entry_46 : decode cX7_entry 46 = .ok (.iload 4, 2) := by decide +kernel
theorem dX7_entry_48 : decode cX7_entry 48 = .ok (.iaload, 1) := by decide +kernel
theorem dX7_entry_49 : decode cX7_entry 49 = .ok (.aload_n 0, 1) := by decide +kernel
theorem dX7_entry_50 : decode cX7_entry 50 = .ok (.getfield 43, 3) := by decide +kernel
theorem dX7_entry_53 : decode cX7_entry 53 = .ok (.iload_n 1, 1) := by decide +kernel
theorem dX7_entry_54 : decode cX7_entry 54 = .ok (.iaload, 1) := by decide +kernel
theorem dX7_entry_55 : decode cX7_entry 55 = .ok (.if_icmp .ne 7, 3) := by decide +kernel
theorem dX7_entry_58 : decode cX7_entry 58 = .ok (.iconst 1, 1) := by decide +kernel
theorem dX7_entry_59 : decode cX7_entry 59 = .ok (.goto 4, 3) := by decide +kernel
theorem dX7_entry_62 : decode cX7_entry 62 = .ok (.iconst 0, 1) := by decide +kernel
theorem dX7_entry_63 : decode cX7_entry 63 = .ok (.iadd, 1) := by decide +kernel
theorem dX7_entry_64 : decode cX7_entry 64 = .ok (.istore_n 3, 1) := by decide +kernel
theorem dX7_entry_65 : decode cX7_entry 65 = .ok (.iinc 4 1, 3) := by decide +kernel
theorem dX7_entry_68 : decode cX7_entry 68 = .ok (.goto (-34), 3) := by decide +kernel
theorem dX7_entry_71 : decode cX7_entry 71 = .ok (.iload_n 2, 1) := by decide +kernel
theorem dX7_entry_72 : decode cX7_entry 72 = .ok (.ifCond .ne 12, 3) := by decide +kernel
theorem dX7_entry_75 : decode cX7_entry 75 = .ok (.aload_n 0, 1) := by decide +kernel
theorem dX7_entry_76 : decode cX7_entry 76 = .ok (.getfield 46, 3) := by decide +kernel
theorem dX7_entry_79 : decode cX7_entry 79 = .ok (.iload_n 1, 1) := by decide +kernel
theorem dX7_entry_80 : decode cX7_entry 80 = .ok (.iaload, 1) := by decide +kernel
theorem dX7_entry_81 : decode cX7_entry 81 = .ok (.goto 23, 3) := by decide +kernel
theorem dX7_entry_84 : decode cX7_entry 84 = .ok (.iload_n 2, 1) := by decide +kernel
theorem dX7_entry_85 : decode cX7_entry 85 = .ok (.iconst 1, 1) := by decide +kernel
theorem dX7_entry_86 : decode cX7_entry 86 = .ok (.if_icmp .ne 17, 3) := by decide +kernel
theorem dX7_entry_89 : decode cX7_entry 89 = .ok (.aload_n 0, 1) := by decide +kernel
theorem dX7_entry_90 : decode cX7_entry 90 = .ok (.getfield 19, 3) := by decide +kernel
theorem dX7_entry_93 : decode cX7_entry 93 = .ok (.aload_n 0, 1) := by decide +kernel
theorem dX7_entry_94 : decode cX7_entry 94 = .ok (.getfield 43, 3) := by decide +kernel
theorem dX7_entry_97 : decode cX7_entry 97 = .ok (.iload_n 1, 1) := by decide +kernel
theorem dX7_entry_98 : decode cX7_entry 98 = .ok (.iaload, 1) := by decide +kernel
theorem dX7_entry_99 : decode cX7_entry 99 = .ok (.iaload, 1) := by decide +kernel
theorem dX7_entry_100 : decode cX7_entry 100 = .ok (.goto 4, 3) := by decide +kernel
theorem dX7_entry_103 : decode cX7_entry 103 = .ok (.iload_n 3, 1) := by decide +kernel
theorem dX7_entry_104 : decode cX7_entry 104 = .ok (.ireturn, 1) := by decide +kernel
theorem dX7_count_0 : decode cX7_count 0 = .ok (.iload_n 1, 1) := by decide +kernel
theorem dX7_count_1 : decode cX7_count 1 = .ok (.tableswitch 142 0 12 #[67, 72, 82, 87, 92, 97, 142, 142, 142, 142, 127, 132, 137], 67) := by decide +kernel
theorem dX7_count_68 : decode cX7_count 68 = .ok (.aload_n 0, 1) := by decide +kernel
theorem dX7_count_69 : decode cX7_count 69 = .ok (.invokevirtual 227, 3) := by decide +kernel
theorem dX7_count_72 : decode cX7_count 72 = .ok (.ireturn, 1) := by decide +kernel
theorem dX7_count_73 : decode cX7_count 73 = .ok (.aload_n 0, 1) := by decide +kernel
theorem dX7_count_74 : decode cX7_count 74 = .ok (.invokevirtual 227, 3) := by decide +kernel
theorem dX7_count_77 : decode cX7_count 77 = .ok (.pop, 1) := by decide +kernel
theorem dX7_count_78 : decode cX7_count 78 = .ok (.aload_n 0, 1) := by decide +kernel
theorem dX7_count_79 : decode cX7_count 79 = .ok (.invokevirtual 194, 3) := by decide +kernel
theorem dX7_count_82 : decode cX7_count 82 = .ok (.ireturn, 1) := by decide +kernel
theorem dX7_count_83 : decode cX7_count 83 = .ok (.aload_n 0, 1) := by decide +kernel
theorem dX7_count_84 : decode cX7_count 84 = .ok (.getfield 129, 3) := by decide +kernel
theorem dX7_count_87 : decode cX7_count 87 = .ok (.ireturn, 1) := by decide +kernel
theorem dX7_count_88 : decode cX7_count 88 = .ok (.aload_n 0, 1) := by decide +kernel
theorem dX7_count_89 : decode cX7_count 89 = .ok (.getfield 224, 3) := by decide +kernel
theorem dX7_count_92 : decode cX7_count 92 = .ok (.ireturn, 1) := by decide +kernel
theorem dX7_count_93 : decode cX7_count 93 = .ok (.aload_n 0, 1) := by decide +kernel
theorem dX7_count_94 : decode cX7_count 94 = .ok (.getfield 178, 3) := by decide +kernel
theorem dX7_count_97 : decode cX7_count 97 = .ok (.ireturn, 1) := by decide +kernel
theorem dX7_count_98 : decode cX7_count 98 = .ok (.aload_n 0, 1) := by decide +kernel
theorem dX7_count_99 : decode cX7_count 99 = .ok (.getfield 40, 3) := by decide +kernel
theorem dX7_count_102 : decode cX7_count 102 = .ok (.iconst 0, 1) := by decide +kernel
theorem dX7_count_103 : decode cX7_count 103 = .ok (.baload, 1) := by decide +kernel
theorem dX7_count_104 : decode cX7_count 104 = .ok (.ifCond .eq 7, 3) := by decide +kernel
theorem dX7_count_107 : decode cX7_count 107 = .ok (.iconst 1, 1) := by decide +kernel
theorem dX7_count_108 : decode cX7_count 108 = .ok (.goto 4, 3) := by decide +kernel
theorem dX7_count_111 : decode cX7_count 111 = .ok (.iconst 0, 1) := by decide +kernel
theorem dX7_count_112 : decode cX7_count 112 = .ok (.aload_n 0, 1) := by decide +kernel
theorem dX7_count_113 : decode cX7_count 113 = .ok (.getfield 40, 3) := by decide +kernel
theorem dX7_count_116 : decode cX7_count 116 = .ok (.iconst 1, 1) := by decide +kernel
theorem dX7_count_117 : decode cX7_count 117 = .ok (.baload, 1) := by decide +kernel
theorem dX7_count_118 : decode cX7_count 118 = .ok (.ifCond .eq 7, 3) := by decide +kernel
theorem dX7_count_121 : decode cX7_count 121 = .ok (.iconst 2, 1) := by decide +kernel
theorem dX7_count_122 : decode cX7_count 122 = .ok (.goto 4, 3) := by decide +kernel
theorem dX7_count_125 : decode cX7_count 125 = .ok (.iconst 0, 1) := by decide +kernel
theorem dX7_count_126 : decode cX7_count 126 = .ok (.iadd, 1) := by decide +kernel
theorem dX7_count_127 : decode cX7_count 127 = .ok (.ireturn, 1) := by decide +kernel
theorem dX7_count_128 : decode cX7_count 128 = .ok (.aload_n 0, 1) := by decide +kernel
theorem dX7_count_129 : decode cX7_count 129 = .ok (.getfield 52, 3) := by decide +kernel
theorem dX7_count_132 : decode cX7_count 132 = .ok (.ireturn, 1) := by decide +kernel
theorem dX7_count_133 : decode cX7_count 133 = .ok (.aload_n 0, 1) := by decide +kernel
theorem dX7_count_134 : decode cX7_count 134 = .ok (.getfield 55, 3) := by decide +kernel
theorem dX7_count_137 : decode cX7_count 137 = .ok (.ireturn, 1) := by decide +kernel
theorem dX7_count_138 : decode cX7_count 138 = .ok (.aload_n 0, 1) := by decide +kernel
theorem dX7_count_139 : decode cX7_count 139 = .ok (.getfield 58, 3) := by decide +kernel
theorem dX7_count_142 : decode cX7_count 142 = .ok (.ireturn, 1) := by decide +kernel
theorem dX7_count_143 : decode cX7_count 143 = .ok (.bipush (-2), 2) := by decide +kernel
theorem dX7_count_145 : decode cX7_count 145 = .ok (.ireturn, 1) := by decide +kernel
theorem dX7_image_0 : decode cX7_image 0 = .ok (.iload_n 1, 1) := by decide +kernel
theorem dX7_image_1 : decode cX7_image 1 = .ok (.iconst 0, 1) := by decide +kernel
theorem dX7_image_2 : decode cX7_image 2 = .ok (.iconst 1, 1) := by decide +kernel
theorem dX7_image_3 : decode cX7_image 3 = .ok (.invokestatic 104, 3) := by decide +kernel
theorem dX7_image_6 : decode cX7_image 6 = .ok (.ifCond .ne 6, 3) := by decide +kernel
theorem dX7_image_9 : decode cX7_image 9 = .ok (.bipush (-2), 2) := by decide +kernel
theorem dX7_image_11 : decode cX7_image 11 = .ok (.ireturn, 1) := by decide +kernel
theorem dX7_image_12 : decode cX7_image 12 = .ok (.iconst 0, 1) := by decide +kernel
theorem dX7_image_13 : decode cX7_image 13 = .ok (.istore_n 2, 1) := by decide +kernel
theorem dX7_image_14 : decode cX7_image 14 = .ok (.iload_n 2, 1) := by decide +kernel
theorem dX7_image_15 : decode cX7_image 15 = .ok (.bipush 8, 2) := by decide +kernel
theorem dX7_image_17 : decode cX7_image 17 = .ok (.if_icmp .ge 26, 3) := by decide +kernel
theorem dX7_image_20 : decode cX7_image 20 = .ok (.aload_n 0, 1) := by decide +kernel
theorem dX7_image_21 : decode cX7_image 21 = .ok (.getfield 37, 3) := by decide +kernel
theorem dX7_image_24 : decode cX7_image 24 = .ok (.bipush 8, 2) := by decide +kernel
theorem dX7_image_26 : decode cX7_image 26 = .ok (.iload_n 1, 1) := by decide +kernel
theorem dX7_image_27 : decode cX7_image 27 = .ok (.imul, 1) := by decide +kernel
theorem dX7_image_28 : decode cX7_image 28 = .ok (.iload_n 2, 1) := by decide +kernel
theorem dX7_image_29 : decode cX7_image 29 = .ok (.iadd, 1) := by decide +kernel
theorem dX7_image_30 : decode cX7_image 30 = .ok (.aload_n 0, 1) := by decide +kernel
theorem dX7_image_31 : decode cX7_image 31 = .ok (.getfield 34, 3) := by decide +kernel
theorem dX7_image_34 : decode cX7_image 34 = .ok (.iload_n 2, 1) := by decide +kernel
theorem dX7_image_35 : decode cX7_image 35 = .ok (.iaload, 1) := by decide +kernel
theorem dX7_image_36 : decode cX7_image 36 = .ok (.iastore, 1) := by decide +kernel
theorem dX7_image_37 : decode cX7_image 37 = .ok (.iinc 2 1, 3) := by decide +kernel
theorem dX7_image_40 : decode cX7_image 40 = .ok (.goto (-26), 3) := by decide +kernel
theorem dX7_image_43 : decode cX7_image 43 = .ok (.aload_n 0, 1) := by decide +kernel
theorem dX7_image_44 : decode cX7_image 44 = .ok (.getfield 40, 3) := by decide +kernel
theorem dX7_image_47 : decode cX7_image 47 = .ok (.iload_n 1, 1) := by decide +kernel
theorem dX7_image_48 : decode cX7_image 48 = .ok (.iconst 1, 1) := by decide +kernel
theorem dX7_image_49 : decode cX7_image 49 = .ok (.bastore, 1) := by decide +kernel
theorem dX7_image_50 : decode cX7_image 50 = .ok (.iconst 1, 1) := by decide +kernel
theorem dX7_image_51 : decode cX7_image 51 = .ok (.ireturn, 1) := by decide +kernel
theorem dX7_restore_0 : decode cX7_restore 0 = .ok (.iload_n 1, 1) := by decide +kernel
theorem dX7_restore_1 : decode cX7_restore 1 = .ok (.iconst 0, 1) := by decide +kernel
theorem dX7_restore_2 : decode cX7_restore 2 = .ok (.iconst 1, 1) := by decide +kernel
theorem dX7_restore_3 : decode cX7_restore 3 = .ok (.invokestatic 104, 3) := by decide +kernel
theorem dX7_restore_6 : decode cX7_restore 6 = .ok (.ifCond .ne 6, 3) := by decide +kernel
theorem dX7_restore_9 : decode cX7_restore 9 = .ok (.bipush (-2), 2) := by decide +kernel
theorem dX7_restore_11 : decode cX7_restore 11 = .ok (.ireturn, 1) := by decide +kernel
theorem dX7_restore_12 : decode cX7_restore 12 = .ok (.aload_n 0, 1) := by decide +kernel
theorem dX7_restore_13 : decode cX7_restore 13 = .ok (.getfield 40, 3) := by decide +kernel
theorem dX7_restore_16 : decode cX7_restore 16 = .ok (.iload_n 1, 1) := by decide +kernel
theorem dX7_restore_17 : decode cX7_restore 17 = .ok (.baload, 1) := by decide +kernel
theorem dX7_restore_18 : decode cX7_restore 18 = .ok (.ifCond .ne 6, 3) := by decide +kernel
theorem dX7_restore_21 : decode cX7_restore 21 = .ok (.bipush (-3), 2) := by decide +kernel
theorem dX7_restore_23 : decode cX7_restore 23 = .ok (.ireturn, 1) := by decide +kernel
theorem dX7_restore_24 : decode cX7_restore 24 = .ok (.iconst 0, 1) := by decide +kernel
theorem dX7_restore_25 : decode cX7_restore 25 = .ok (.istore_n 2, 1) := by decide +kernel
theorem dX7_restore_26 : decode cX7_restore 26 = .ok (.iload_n 2, 1) := by decide +kernel
theorem dX7_restore_27 : decode cX7_restore 27 = .ok (.bipush 8, 2) := by decide +kernel
theorem dX7_restore_29 : decode cX7_restore 29 = .ok (.if_icmp .ge 26, 3) := by decide +kernel
theorem dX7_restore_32 : decode cX7_restore 32 = .ok (.aload_n 0, 1) := by decide +kernel
theorem dX7_restore_33 : decode cX7_restore 33 = .ok (.getfield 34, 3) := by decide +kernel
theorem dX7_restore_36 : decode cX7_restore 36 = .ok (.iload_n 2, 1) := by decide +kernel
theorem dX7_restore_37 : decode cX7_restore 37 = .ok (.aload_n 0, 1) := by decide +kernel
theorem dX7_restore_38 : decode cX7_restore 38 = .ok (.getfield 37, 3) := by decide +kernel
theorem dX7_restore_41 : decode cX7_restore 41 = .ok (.bipush 8, 2) := by decide +kernel
theorem dX7_restore_43 : decode cX7_restore 43 = .ok (.iload_n 1, 1) := by decide +kernel
theorem dX7_restore_44 : decode cX7_restore 44 = .ok (.imul, 1) := by decide +kernel
theorem dX7_restore_45 : decode cX7_restore 45 = .ok (.iload_n 2, 1) := by decide +kernel
theorem dX7_restore_46 : decode cX7_restore 46 = .ok (.iadd, 1) := by decide +kernel
theorem dX7_restore_47 : decode cX7_restore 47 = .ok (.iaload, 1) := by decide +kernel
theorem dX7_restore_48 : decode cX7_restore 48 = .ok (.iastore, 1) := by decide +kernel
theorem dX7_restore_49 : decode cX7_restore 49 = .ok (.iinc 2 1, 3) := by decide +kernel
theorem dX7_restore_52 : decode cX7_restore 52 = .ok (.goto (-26), 3) := by decide +kernel
theorem dX7_restore_55 : decode cX7_restore 55 = .ok (.iconst 1, 1) := by decide +kernel
theorem dX7_restore_56 : decode cX7_restore 56 = .ok (.ireturn, 1) := by decide +kernel
theorem dX0_init_0 : decode cX0_init 0 = .ok (.aload_n 0, 1) := by decide +kernel
theorem dX0_init_1 : decode cX0_init 1 = .ok (.invokespecial 3, 3) := by decide +kernel
theorem dX0_init_4 : decode cX0_init 4 = .ok (.return_, 1) := by decide +kernel
theorem dX0_leaf_0 : decode cX0_leaf 0 = .ok (.new 9, 3) := by decide +kernel
theorem dX0_leaf_3 : decode cX0_leaf 3 = .ok (.dup, 1) := by decide +kernel
theorem dX0_leaf_4 : decode cX0_leaf 4 = .ok (.invokespecial 11, 3) := by decide +kernel
theorem dX0_leaf_7 : decode cX0_leaf 7 = .ok (.astore_n 1, 1) := by decide +kernel
theorem dX0_leaf_8 : decode cX0_leaf 8 = .ok (.aload_n 1, 1) := by decide +kernel
theorem dX0_leaf_9 : decode cX0_leaf 9 = .ok (.aload_n 0, 1) := by decide +kernel
theorem dX0_leaf_10 : decode cX0_leaf 10 = .ok (.getfield 12, 3) := by decide +kernel
theorem dX0_leaf_13 : decode cX0_leaf 13 = .ok (.putfield 18, 3) := by decide +kernel
theorem dX0_leaf_16 : decode cX0_leaf 16 = .ok (.aload_n 1, 1) := by decide +kernel
theorem dX0_leaf_17 : decode cX0_leaf 17 = .ok (.aload_n 0, 1) := by decide +kernel
theorem dX0_leaf_18 : decode cX0_leaf 18 = .ok (.invokevirtual 19, 3) := by decide +kernel
theorem dX0_leaf_21 : decode cX0_leaf 21 = .ok (.aload_n 1, 1) := by decide +kernel
theorem dX0_leaf_22 : decode cX0_leaf 22 = .ok (.areturn, 1) := by decide +kernel
theorem dX0_slice_0 : decode cX0_slice 0 = .ok (.new 9, 3) := by decide +kernel
theorem dX0_slice_3 : decode cX0_slice 3 = .ok (.dup, 1) := by decide +kernel
theorem dX0_slice_4 : decode cX0_slice 4 = .ok (.invokespecial 11, 3) := by decide +kernel
theorem dX0_slice_7 : decode cX0_slice 7 = .ok (.astore_n 3, 1) := by decide +kernel
theorem dX0_slice_8 : decode cX0_slice 8 = .ok (.aload_n 3, 1) := by decide +kernel
theorem dX0_slice_9 : decode cX0_slice 9 = .ok (.iconst 2, 1) := by decide +kernel
theorem dX0_slice_10 : decode cX0_slice 10 = .ok (.putfield 23, 3) := by decide +kernel
theorem dX0_slice_13 : decode cX0_slice 13 = .ok (.aload_n 3, 1) := by decide +kernel
theorem dX0_slice_14 : decode cX0_slice 14 = .ok (.aload_n 0, 1) := by decide +kernel
theorem dX0_slice_15 : decode cX0_slice 15 = .ok (.putfield 26, 3) := by decide +kernel
theorem dX0_slice_18 : decode cX0_slice 18 = .ok (.aload_n 3, 1) := by decide +kernel
theorem dX0_slice_19 : decode cX0_slice 19 = .ok (.iload_n 1, 1) := by decide +kernel
theorem dX0_slice_20 : decode cX0_slice 20 = .ok (.putfield 30, 3) := by decide +kernel
theorem dX0_slice_23 : decode cX0_slice 23 = .ok (.aload_n 3, 1) := by decide +kernel
theorem dX0_slice_24 : decode cX0_slice 24 = .ok (.iload_n 2, 1) := by decide +kernel
theorem dX0_slice_25 : decode cX0_slice 25 = .ok (.putfield 18, 3) := by decide +kernel
theorem dX0_slice_28 : decode cX0_slice 28 = .ok (.aload_n 3, 1) := by decide +kernel
theorem dX0_slice_29 : decode cX0_slice 29 = .ok (.areturn, 1) := by decide +kernel
theorem dX0_becomeLeaf_0 : decode cX0_becomeLeaf 0 = .ok (.aload_n 0, 1) := by decide +kernel
theorem dX0_becomeLeaf_1 : decode cX0_becomeLeaf 1 = .ok (.aload_n 1, 1) := by decide +kernel
theorem dX0_becomeLeaf_2 : decode cX0_becomeLeaf 2 = .ok (.invokevirtual 33, 3) := by decide +kernel
theorem dX0_becomeLeaf_5 : decode cX0_becomeLeaf 5 = .ok (.putfield 37, 3) := by decide +kernel
theorem dX0_becomeLeaf_8 : decode cX0_becomeLeaf 8 = .ok (.aload_n 0, 1) := by decide +kernel
theorem dX0_becomeLeaf_9 : decode cX0_becomeLeaf 9 = .ok (.iconst 0, 1) := by decide +kernel
theorem dX0_becomeLeaf_10 : decode cX0_becomeLeaf 10 = .ok (.putfield 23, 3) := by decide +kernel
theorem dX0_becomeLeaf_13 : decode cX0_becomeLeaf 13 = .ok (.aload_n 0, 1) := by decide +kernel
theorem dX0_becomeLeaf_14 : decode cX0_becomeLeaf 14 = .ok (.aconst_null, 1) := by decide +kernel
theorem dX0_becomeLeaf_15 : decode cX0_becomeLeaf 15 = .ok (.putfield 41, 3) := by decide +kernel
theorem dX0_becomeLeaf_18 : decode cX0_becomeLeaf 18 = .ok (.aload_n 0, 1) := by decide +kernel
theorem dX0_becomeLeaf_19 : decode cX0_becomeLeaf 19 = .ok (.aconst_null, 1) := by decide +kernel
theorem dX0_becomeLeaf_20 : decode cX0_becomeLeaf 20 = .ok (.putfield 44, 3) := by decide +kernel
theorem dX0_becomeLeaf_23 : decode cX0_becomeLeaf 23 = .ok (.aload_n 0, 1) := by decide +kernel
theorem dX0_becomeLeaf_24 : decode cX0_becomeLeaf 24 = .ok (.aconst_null, 1) := by decide +kernel
theorem dX0_becomeLeaf_25 : decode cX0_becomeLeaf 25 = .ok (.putfield 26, 3) := by decide +kernel
theorem dX0_becomeLeaf_28 : decode cX0_becomeLeaf 28 = .ok (.aload_n 0, 1) := by decide +kernel
theorem dX0_becomeLeaf_29 : decode cX0_becomeLeaf 29 = .ok (.iconst 0, 1) := by decide +kernel
theorem dX0_becomeLeaf_30 : decode cX0_becomeLeaf 30 = .ok (.putfield 30, 3) := by decide +kernel
theorem dX0_becomeLeaf_33 : decode cX0_becomeLeaf 33 = .ok (.return_, 1) := by decide +kernel
theorem dX0_signAt_0 : decode cX0_signAt 0 = .ok (.aload_n 0, 1) := by decide +kernel
theorem dX0_signAt_1 : decode cX0_signAt 1 = .ok (.getfield 37, 3) := by decide +kernel
theorem dX0_signAt_4 : decode cX0_signAt 4 = .ok (.ifnull 25, 3) := by decide +kernel
theorem dX0_signAt_7 : decode cX0_signAt 7 = .ok (.iload_n 1, 1) := by decide +kernel
theorem dX0_signAt_8 : decode cX0_signAt 8 = .ok (.ifCond .lt 21, 3) := by decide +kernel
theorem dX0_signAt_11 : decode cX0_signAt 11 = .ok (.iload_n 1, 1) := by decide +kernel
theorem dX0_signAt_12 : decode cX0_signAt 12 = .ok (.aload_n 0, 1) := by decide +kernel
theorem dX0_signAt_13 : decode cX0_signAt 13 = .ok (.getfield 37, 3) := by decide +kernel
theorem dX0_signAt_16 : decode cX0_signAt 16 = .ok (.arraylength, 1) := by decide +kernel
theorem dX0_signAt_17 : decode cX0_signAt 17 = .ok (.if_icmp .ge 12, 3) := by decide +kernel
theorem dX0_signAt_20 : decode cX0_signAt 20 = .ok (.aload_n 0, 1) := by decide +kernel
theorem dX0_signAt_21 : decode cX0_signAt 21 = .ok (.getfield 37, 3) := by decide +kernel
theorem dX0_signAt_24 : decode cX0_signAt 24 = .ok (.iload_n 1, 1) := by decide +kernel
theorem dX0_signAt_25 : decode cX0_signAt 25 = .ok (.iaload, 1) := by decide +kernel
theorem dX0_signAt_26 : decode cX0_signAt 26 = .ok (.goto 4, 3) := by decide +kernel
theorem dX0_signAt_29 : decode cX0_signAt 29 = .ok (.iconst 0, 1) := by decide +kernel
theorem dX0_signAt_30 : decode cX0_signAt 30 = .ok (.ireturn, 1) := by decide +kernel
theorem dX0_depth_0 : decode cX0_depth 0 = .ok (.aload_n 0, 1) := by decide +kernel
theorem dX0_depth_1 : decode cX0_depth 1 = .ok (.iconst 0, 1) := by decide +kernel
theorem dX0_depth_2 : decode cX0_depth 2 = .ok (.invokestatic 47, 3) := by decide +kernel
theorem dX0_depth_5 : decode cX0_depth 5 = .ok (.ireturn, 1) := by decide +kernel
theorem dX0_depthOf_0 : decode cX0_depthOf 0 = .ok (.aload_n 0, 1) := by decide +kernel
theorem dX0_depthOf_1 : decode cX0_depthOf 1 = .ok (.ifnull 17, 3) := by decide +kernel
theorem dX0_depthOf_4 : decode cX0_depthOf 4 = .ok (.aload_n 0, 1) := by decide +kernel
theorem dX0_depthOf_5 : decode cX0_depthOf 5 = .ok (.getfield 23, 3) := by decide +kernel
theorem dX0_depthOf_8 : decode cX0_depthOf 8 = .ok (.iconst 1, 1) := by decide +kernel
end
section
theorem dX0_depthOf_9 : decode cX0_depthOf 9 = .ok (.if_icmp .ne 9, 3) := by decide +kernel
theorem dX0_depthOf_12 : decode cX0_depthOf 12 = .ok (.iload_n 1, 1) := by decide +kernel
theorem dX0_depthOf_13 : decode cX0_depthOf 13 = .ok (.bipush 40, 2) := by decide +kernel
theorem dX0_depthOf_15 : decode cX0_depthOf 15 = .ok (.if_icmp .le 5, 3) := by decide +kernel
theorem dX0_depthOf_18 : decode cX0_depthOf 18 = .ok (.iconst 0, 1) := by decide +kernel
theorem dX0_depthOf_19 : decode cX0_depthOf 19 = .ok (.ireturn, 1) := by decide +kernel
theorem dX0_depthOf_20 : decode cX0_depthOf 20 = .ok (.iconst 1, 1) := by decide +kernel
theorem dX0_depthOf_21 : decode cX0_depthOf 21 = .ok (.aload_n 0, 1) := by decide +kernel
theorem dX0_depthOf_22 : decode cX0_depthOf 22 = .ok (.getfield 41, 3) := by decide +kernel
theorem dX0_depthOf_25 : decode cX0_depthOf 25 = .ok (.iload_n 1, 1) := by decide +kernel
theorem dX0_depthOf_26 : decode cX0_depthOf 26 = .ok (.iconst 1, 1) := by decide +kernel
theorem dX0_depthOf_27 : decode cX0_depthOf 27 = .ok (.iadd, 1) := by decide +kernel
theorem dX0_depthOf_28 : decode cX0_depthOf 28 = .ok (.invokestatic 47, 3) := by decide +kernel
theorem dX0_depthOf_31 : decode cX0_depthOf 31 = .ok (.aload_n 0, 1) := by decide +kernel
theorem dX0_depthOf_32 : decode cX0_depthOf 32 = .ok (.getfield 44, 3) := by decide +kernel
theorem dX0_depthOf_35 : decode cX0_depthOf 35 = .ok (.iload_n 1, 1) := by decide +kernel
theorem dX0_depthOf_36 : decode cX0_depthOf 36 = .ok (.iconst 1, 1) := by decide +kernel
theorem dX0_depthOf_37 : decode cX0_depthOf 37 = .ok (.iadd, 1) := by decide +kernel
theorem dX0_depthOf_38 : decode cX0_depthOf 38 = .ok (.invokestatic 47, 3) := by decide +kernel
theorem dX0_depthOf_41 : decode cX0_depthOf 41 = .ok (.invokestatic 51, 3) := by decide +kernel
theorem dX0_depthOf_44 : decode cX0_depthOf 44 = .ok (.iadd, 1) := by decide +kernel
theorem dX0_depthOf_45 : decode cX0_depthOf 45 = .ok (.ireturn, 1) := by decide +kernel
theorem dX0_room_0 : decode cX0_room 0 = .ok (.aload_n 0, 1) := by decide +kernel
theorem dX0_room_1 : decode cX0_room 1 = .ok (.getfield 23, 3) := by decide +kernel
theorem dX0_room_4 : decode cX0_room 4 = .ok (.lookupswitch 34 #[(1, 28), (2, 31)], 28) := by decide +kernel
theorem dX0_room_32 : decode cX0_room 32 = .ok (.bipush 24, 2) := by decide +kernel
theorem dX0_room_34 : decode cX0_room 34 = .ok (.ireturn, 1) := by decide +kernel
theorem dX0_room_35 : decode cX0_room 35 = .ok (.bipush 28, 2) := by decide +kernel
theorem dX0_room_37 : decode cX0_room 37 = .ok (.ireturn, 1) := by decide +kernel
theorem dX0_room_38 : decode cX0_room 38 = .ok (.bipush 24, 2) := by decide +kernel
theorem dX0_room_40 : decode cX0_room 40 = .ok (.aload_n 0, 1) := by decide +kernel
theorem dX0_room_41 : decode cX0_room 41 = .ok (.invokevirtual 57, 3) := by decide +kernel
theorem dX0_room_44 : decode cX0_room 44 = .ok (.ifCond .eq 12, 3) := by decide +kernel
theorem dX0_room_47 : decode cX0_room 47 = .ok (.iconst 2, 1) := by decide +kernel
theorem dX0_room_48 : decode cX0_room 48 = .ok (.aload_n 0, 1) := by decide +kernel
theorem dX0_room_49 : decode cX0_room 49 = .ok (.getfield 18, 3) := by decide +kernel
theorem dX0_room_52 : decode cX0_room 52 = .ok (.imul, 1) := by decide +kernel
theorem dX0_room_53 : decode cX0_room 53 = .ok (.goto 7, 3) := by decide +kernel
theorem dX0_room_56 : decode cX0_room 56 = .ok (.aload_n 0, 1) := by decide +kernel
theorem dX0_room_57 : decode cX0_room 57 = .ok (.getfield 18, 3) := by decide +kernel
theorem dX0_room_60 : decode cX0_room 60 = .ok (.iadd, 1) := by decide +kernel
theorem dX0_room_61 : decode cX0_room 61 = .ok (.ireturn, 1) := by decide +kernel
theorem dX0_hasWideSign_0 : decode cX0_hasWideSign 0 = .ok (.iconst 0, 1) := by decide +kernel
theorem dX0_hasWideSign_1 : decode cX0_hasWideSign 1 = .ok (.istore_n 1, 1) := by decide +kernel
theorem dX0_hasWideSign_2 : decode cX0_hasWideSign 2 = .ok (.iload_n 1, 1) := by decide +kernel
theorem dX0_hasWideSign_3 : decode cX0_hasWideSign 3 = .ok (.aload_n 0, 1) := by decide +kernel
theorem dX0_hasWideSign_4 : decode cX0_hasWideSign 4 = .ok (.getfield 18, 3) := by decide +kernel
theorem dX0_hasWideSign_7 : decode cX0_hasWideSign 7 = .ok (.if_icmp .ge 22, 3) := by decide +kernel
theorem dX0_hasWideSign_10 : decode cX0_hasWideSign 10 = .ok (.aload_n 0, 1) := by decide +kernel
theorem dX0_hasWideSign_11 : decode cX0_hasWideSign 11 = .ok (.iload_n 1, 1) := by decide +kernel
theorem dX0_hasWideSign_12 : decode cX0_hasWideSign 12 = .ok (.invokevirtual 61, 3) := by decide +kernel
theorem dX0_hasWideSign_15 : decode cX0_hasWideSign 15 = .ok (.sipush 255, 3) := by decide +kernel
theorem dX0_hasWideSign_18 : decode cX0_hasWideSign 18 = .ok (.if_icmp .le 5, 3) := by decide +kernel
theorem dX0_hasWideSign_21 : decode cX0_hasWideSign 21 = .ok (.iconst 1, 1) := by decide +kernel
theorem dX0_hasWideSign_22 : decode cX0_hasWideSign 22 = .ok (.ireturn, 1) := by decide +kernel
theorem dX0_hasWideSign_23 : decode cX0_hasWideSign 23 = .ok (.iinc 1 1, 3) := by decide +kernel
theorem dX0_hasWideSign_26 : decode cX0_hasWideSign 26 = .ok (.goto (-24), 3) := by decide +kernel
theorem dX0_hasWideSign_29 : decode cX0_hasWideSign 29 = .ok (.iconst 0, 1) := by decide +kernel
theorem dX0_hasWideSign_30 : decode cX0_hasWideSign 30 = .ok (.ireturn, 1) := by decide +kernel
theorem dX1_init_0 : decode cX1_init 0 = .ok (.aload_n 0, 1) := by decide +kernel
theorem dX1_init_1 : decode cX1_init 1 = .ok (.invokespecial 3, 3) := by decide +kernel
theorem dX1_init_4 : decode cX1_init 4 = .ok (.aload_n 0, 1) := by decide +kernel
theorem dX1_init_5 : decode cX1_init 5 = .ok (.bipush 120, 2) := by decide +kernel
theorem dX1_init_7 : decode cX1_init 7 = .ok (.anewarray 9, 3) := by decide +kernel
theorem dX1_init_10 : decode cX1_init 10 = .ok (.putfield 11, 3) := by decide +kernel
theorem dX1_init_13 : decode cX1_init 13 = .ok (.return_, 1) := by decide +kernel
theorem dX1_read_0 : decode cX1_read 0 = .ok (.aload_n 0, 1) := by decide +kernel
theorem dX1_read_1 : decode cX1_read 1 = .ok (.iconst 0, 1) := by decide +kernel
theorem dX1_read_2 : decode cX1_read 2 = .ok (.putfield 17, 3) := by decide +kernel
theorem dX1_read_5 : decode cX1_read 5 = .ok (.aload_n 0, 1) := by decide +kernel
theorem dX1_read_6 : decode cX1_read 6 = .ok (.aload_n 1, 1) := by decide +kernel
theorem dX1_read_7 : decode cX1_read 7 = .ok (.iconst 0, 1) := by decide +kernel
theorem dX1_read_8 : decode cX1_read 8 = .ok (.invokevirtual 21, 3) := by decide +kernel
theorem dX1_read_11 : decode cX1_read 11 = .ok (.return_, 1) := by decide +kernel
theorem dX1_readBoth_0 : decode cX1_readBoth 0 = .ok (.aload_n 0, 1) := by decide +kernel
theorem dX1_readBoth_1 : decode cX1_readBoth 1 = .ok (.aload_n 1, 1) := by decide +kernel
theorem dX1_readBoth_2 : decode cX1_readBoth 2 = .ok (.invokevirtual 25, 3) := by decide +kernel
theorem dX1_readBoth_5 : decode cX1_readBoth 5 = .ok (.aload_n 0, 1) := by decide +kernel
theorem dX1_readBoth_6 : decode cX1_readBoth 6 = .ok (.aload_n 2, 1) := by decide +kernel
theorem dX1_readBoth_7 : decode cX1_readBoth 7 = .ok (.iconst 0, 1) := by decide +kernel
theorem dX1_readBoth_8 : decode cX1_readBoth 8 = .ok (.invokevirtual 21, 3) := by decide +kernel
theorem dX1_readBoth_11 : decode cX1_readBoth 11 = .ok (.return_, 1) := by decide +kernel
theorem dX1_addPieces_0 : decode cX1_addPieces 0 = .ok (.aload_n 1, 1) := by decide +kernel
theorem dX1_addPieces_1 : decode cX1_addPieces 1 = .ok (.ifnull 9, 3) := by decide +kernel
theorem dX1_addPieces_4 : decode cX1_addPieces 4 = .ok (.iload_n 2, 1) := by decide +kernel
theorem dX1_addPieces_5 : decode cX1_addPieces 5 = .ok (.bipush 40, 2) := by decide +kernel
theorem dX1_addPieces_7 : decode cX1_addPieces 7 = .ok (.if_icmp .le 4, 3) := by decide +kernel
theorem dX1_addPieces_10 : decode cX1_addPieces 10 = .ok (.return_, 1) := by decide +kernel
theorem dX1_addPieces_11 : decode cX1_addPieces 11 = .ok (.aload_n 1, 1) := by decide +kernel
theorem dX1_addPieces_12 : decode cX1_addPieces 12 = .ok (.getfield 29, 3) := by decide +kernel
theorem dX1_addPieces_15 : decode cX1_addPieces 15 = .ok (.iconst 1, 1) := by decide +kernel
theorem dX1_addPieces_16 : decode cX1_addPieces 16 = .ok (.if_icmp .ne 28, 3) := by decide +kernel
theorem dX1_addPieces_19 : decode cX1_addPieces 19 = .ok (.aload_n 0, 1) := by decide +kernel
theorem dX1_addPieces_20 : decode cX1_addPieces 20 = .ok (.aload_n 1, 1) := by decide +kernel
theorem dX1_addPieces_21 : decode cX1_addPieces 21 = .ok (.getfield 32, 3) := by decide +kernel
theorem dX1_addPieces_24 : decode cX1_addPieces 24 = .ok (.iload_n 2, 1) := by decide +kernel
theorem dX1_addPieces_25 : decode cX1_addPieces 25 = .ok (.iconst 1, 1) := by decide +kernel
theorem dX1_addPieces_26 : decode cX1_addPieces 26 = .ok (.iadd, 1) := by decide +kernel
theorem dX1_addPieces_27 : decode cX1_addPieces 27 = .ok (.invokevirtual 21, 3) := by decide +kernel
theorem dX1_addPieces_30 : decode cX1_addPieces 30 = .ok (.aload_n 0, 1) := by decide +kernel
theorem dX1_addPieces_31 : decode cX1_addPieces 31 = .ok (.aload_n 1, 1) := by decide +kernel
theorem dX1_addPieces_32 : decode cX1_addPieces 32 = .ok (.getfield 36, 3) := by decide +kernel
theorem dX1_addPieces_35 : decode cX1_addPieces 35 = .ok (.iload_n 2, 1) := by decide +kernel
theorem dX1_addPieces_36 : decode cX1_addPieces 36 = .ok (.iconst 1, 1) := by decide +kernel
theorem dX1_addPieces_37 : decode cX1_addPieces 37 = .ok (.iadd, 1) := by decide +kernel
theorem dX1_addPieces_38 : decode cX1_addPieces 38 = .ok (.invokevirtual 21, 3) := by decide +kernel
theorem dX1_addPieces_41 : decode cX1_addPieces 41 = .ok (.goto 42, 3) := by decide +kernel
theorem dX1_addPieces_44 : decode cX1_addPieces 44 = .ok (.aload_n 0, 1) := by decide +kernel
theorem dX1_addPieces_45 : decode cX1_addPieces 45 = .ok (.getfield 17, 3) := by decide +kernel
theorem dX1_addPieces_48 : decode cX1_addPieces 48 = .ok (.ifCond .lt 35, 3) := by decide +kernel
theorem dX1_addPieces_51 : decode cX1_addPieces 51 = .ok (.aload_n 0, 1) := by decide +kernel
theorem dX1_addPieces_52 : decode cX1_addPieces 52 = .ok (.getfield 17, 3) := by decide +kernel
theorem dX1_addPieces_55 : decode cX1_addPieces 55 = .ok (.aload_n 0, 1) := by decide +kernel
theorem dX1_addPieces_56 : decode cX1_addPieces 56 = .ok (.getfield 11, 3) := by decide +kernel
theorem dX1_addPieces_59 : decode cX1_addPieces 59 = .ok (.arraylength, 1) := by decide +kernel
theorem dX1_addPieces_60 : decode cX1_addPieces 60 = .ok (.if_icmp .ge 23, 3) := by decide +kernel
theorem dX1_addPieces_63 : decode cX1_addPieces 63 = .ok (.aload_n 0, 1) := by decide +kernel
theorem dX1_addPieces_64 : decode cX1_addPieces 64 = .ok (.getfield 11, 3) := by decide +kernel
theorem dX1_addPieces_67 : decode cX1_addPieces 67 = .ok (.aload_n 0, 1) := by decide +kernel
theorem dX1_addPieces_68 : decode cX1_addPieces 68 = .ok (.getfield 17, 3) := by decide +kernel
theorem dX1_addPieces_71 : decode cX1_addPieces 71 = .ok (.aload_n 1, 1) := by decide +kernel
theorem dX1_addPieces_72 : decode cX1_addPieces 72 = .ok (.aastore, 1) := by decide +kernel
theorem dX1_addPieces_73 : decode cX1_addPieces 73 = .ok (.aload_n 0, 1) := by decide +kernel
theorem dX1_addPieces_74 : decode cX1_addPieces 74 = .ok (.dup, 1) := by decide +kernel
theorem dX1_addPieces_75 : decode cX1_addPieces 75 = .ok (.getfield 17, 3) := by decide +kernel
theorem dX1_addPieces_78 : decode cX1_addPieces 78 = .ok (.iconst 1, 1) := by decide +kernel
theorem dX1_addPieces_79 : decode cX1_addPieces 79 = .ok (.iadd, 1) := by decide +kernel
theorem dX1_addPieces_80 : decode cX1_addPieces 80 = .ok (.putfield 17, 3) := by decide +kernel
theorem dX1_addPieces_83 : decode cX1_addPieces 83 = .ok (.return_, 1) := by decide +kernel
theorem dX1_at_0 : decode cX1_at 0 = .ok (.iload_n 1, 1) := by decide +kernel
theorem dX1_at_1 : decode cX1_at 1 = .ok (.ifCond .lt 29, 3) := by decide +kernel
theorem dX1_at_4 : decode cX1_at 4 = .ok (.iload_n 1, 1) := by decide +kernel
theorem dX1_at_5 : decode cX1_at 5 = .ok (.aload_n 0, 1) := by decide +kernel
theorem dX1_at_6 : decode cX1_at 6 = .ok (.getfield 17, 3) := by decide +kernel
theorem dX1_at_9 : decode cX1_at 9 = .ok (.if_icmp .ge 21, 3) := by decide +kernel
theorem dX1_at_12 : decode cX1_at 12 = .ok (.iload_n 1, 1) := by decide +kernel
theorem dX1_at_13 : decode cX1_at 13 = .ok (.aload_n 0, 1) := by decide +kernel
theorem dX1_at_14 : decode cX1_at 14 = .ok (.getfield 11, 3) := by decide +kernel
theorem dX1_at_17 : decode cX1_at 17 = .ok (.arraylength, 1) := by decide +kernel
theorem dX1_at_18 : decode cX1_at 18 = .ok (.if_icmp .ge 12, 3) := by decide +kernel
theorem dX1_at_21 : decode cX1_at 21 = .ok (.aload_n 0, 1) := by decide +kernel
theorem dX1_at_22 : decode cX1_at 22 = .ok (.getfield 11, 3) := by decide +kernel
theorem dX1_at_25 : decode cX1_at 25 = .ok (.iload_n 1, 1) := by decide +kernel
theorem dX1_at_26 : decode cX1_at 26 = .ok (.aaload, 1) := by decide +kernel
theorem dX1_at_27 : decode cX1_at 27 = .ok (.goto 4, 3) := by decide +kernel
theorem dX1_at_30 : decode cX1_at 30 = .ok (.aconst_null, 1) := by decide +kernel
theorem dX1_at_31 : decode cX1_at 31 = .ok (.areturn, 1) := by decide +kernel
theorem dX1_firstPlaceOf_0 : decode cX1_firstPlaceOf 0 = .ok (.iconst 0, 1) := by decide +kernel
theorem dX1_firstPlaceOf_1 : decode cX1_firstPlaceOf 1 = .ok (.istore_n 2, 1) := by decide +kernel
theorem dX1_firstPlaceOf_2 : decode cX1_firstPlaceOf 2 = .ok (.iload_n 2, 1) := by decide +kernel
theorem dX1_firstPlaceOf_3 : decode cX1_firstPlaceOf 3 = .ok (.aload_n 0, 1) := by decide +kernel
theorem dX1_firstPlaceOf_4 : decode cX1_firstPlaceOf 4 = .ok (.getfield 17, 3) := by decide +kernel
theorem dX1_firstPlaceOf_7 : decode cX1_firstPlaceOf 7 = .ok (.if_icmp .ge 20, 3) := by decide +kernel
theorem dX1_firstPlaceOf_10 : decode cX1_firstPlaceOf 10 = .ok (.aload_n 0, 1) := by decide +kernel
theorem dX1_firstPlaceOf_11 : decode cX1_firstPlaceOf 11 = .ok (.iload_n 2, 1) := by decide +kernel
theorem dX1_firstPlaceOf_12 : decode cX1_firstPlaceOf 12 = .ok (.invokevirtual 39, 3) := by decide +kernel
theorem dX1_firstPlaceOf_15 : decode cX1_firstPlaceOf 15 = .ok (.aload_n 1, 1) := by decide +kernel
theorem dX1_firstPlaceOf_16 : decode cX1_firstPlaceOf 16 = .ok (.if_acmp .ne 5, 3) := by decide +kernel
theorem dX1_firstPlaceOf_19 : decode cX1_firstPlaceOf 19 = .ok (.iload_n 2, 1) := by decide +kernel
theorem dX1_firstPlaceOf_20 : decode cX1_firstPlaceOf 20 = .ok (.ireturn, 1) := by decide +kernel
theorem dX1_firstPlaceOf_21 : decode cX1_firstPlaceOf 21 = .ok (.iinc 2 1, 3) := by decide +kernel
theorem dX1_firstPlaceOf_24 : decode cX1_firstPlaceOf 24 = .ok (.goto (-22), 3) := by decide +kernel
theorem dX1_firstPlaceOf_27 : decode cX1_firstPlaceOf 27 = .ok (.bipush (-6), 2) := by decide +kernel
theorem dX1_firstPlaceOf_29 : decode cX1_firstPlaceOf 29 = .ok (.ireturn, 1) := by decide +kernel
theorem dX2_init_0 : decode cX2_init 0 = .ok (.aload_n 0, 1) := by decide +kernel
theorem dX2_init_1 : decode cX2_init 1 = .ok (.invokespecial 3, 3) := by decide +kernel
theorem dX2_init_4 : decode cX2_init 4 = .ok (.aload_n 0, 1) := by decide +kernel
theorem dX2_init_5 : decode cX2_init 5 = .ok (.bipush 24, 2) := by decide +kernel
theorem dX2_init_7 : decode cX2_init 7 = .ok (.anewarray 9, 3) := by decide +kernel
theorem dX2_init_10 : decode cX2_init 10 = .ok (.putfield 11, 3) := by decide +kernel
theorem dX2_init_13 : decode cX2_init 13 = .ok (.aload_n 0, 1) := by decide +kernel
theorem dX2_init_14 : decode cX2_init 14 = .ok (.bipush 24, 2) := by decide +kernel
theorem dX2_init_16 : decode cX2_init 16 = .ok (.newarray .int, 2) := by decide +kernel
theorem dX2_init_18 : decode cX2_init 18 = .ok (.putfield 17, 3) := by decide +kernel
theorem dX2_init_21 : decode cX2_init 21 = .ok (.aload_n 0, 1) := by decide +kernel
theorem dX2_init_22 : decode cX2_init 22 = .ok (.iconst 0, 1) := by decide +kernel
theorem dX2_init_23 : decode cX2_init 23 = .ok (.putfield 21, 3) := by decide +kernel
theorem dX2_init_26 : decode cX2_init 26 = .ok (.aload_n 0, 1) := by decide +kernel
theorem dX2_init_27 : decode cX2_init 27 = .ok (.iconst 0, 1) := by decide +kernel
theorem dX2_init_28 : decode cX2_init 28 = .ok (.putfield 25, 3) := by decide +kernel
theorem dX2_init_31 : decode cX2_init 31 = .ok (.return_, 1) := by decide +kernel
theorem dX2_isFull_0 : decode cX2_isFull 0 = .ok (.aload_n 0, 1) := by decide +kernel
theorem dX2_isFull_1 : decode cX2_isFull 1 = .ok (.getfield 21, 3) := by decide +kernel
theorem dX2_isFull_4 : decode cX2_isFull 4 = .ok (.bipush 24, 2) := by decide +kernel
theorem dX2_isFull_6 : decode cX2_isFull 6 = .ok (.if_icmp .lt 7, 3) := by decide +kernel
theorem dX2_isFull_9 : decode cX2_isFull 9 = .ok (.iconst 1, 1) := by decide +kernel
theorem dX2_isFull_10 : decode cX2_isFull 10 = .ok (.goto 4, 3) := by decide +kernel
theorem dX2_isFull_13 : decode cX2_isFull 13 = .ok (.iconst 0, 1) := by decide +kernel
theorem dX2_isFull_14 : decode cX2_isFull 14 = .ok (.ireturn, 1) := by decide +kernel
theorem dX2_cellAt_0 : decode cX2_cellAt 0 = .ok (.iload_n 1, 1) := by decide +kernel
theorem dX2_cellAt_1 : decode cX2_cellAt 1 = .ok (.ifCond .lt 29, 3) := by decide +kernel
theorem dX2_cellAt_4 : decode cX2_cellAt 4 = .ok (.iload_n 1, 1) := by decide +kernel
theorem dX2_cellAt_5 : decode cX2_cellAt 5 = .ok (.aload_n 0, 1) := by decide +kernel
theorem dX2_cellAt_6 : decode cX2_cellAt 6 = .ok (.getfield 21, 3) := by decide +kernel
theorem dX2_cellAt_9 : decode cX2_cellAt 9 = .ok (.if_icmp .ge 21, 3) := by decide +kernel
theorem dX2_cellAt_12 : decode cX2_cellAt 12 = .ok (.iload_n 1, 1) := by decide +kernel
theorem dX2_cellAt_13 : decode cX2_cellAt 13 = .ok (.aload_n 0, 1) := by decide +kernel
theorem dX2_cellAt_14 : decode cX2_cellAt 14 = .ok (.getfield 11, 3) := by decide +kernel
theorem dX2_cellAt_17 : decode cX2_cellAt 17 = .ok (.arraylength, 1) := by decide +kernel
theorem dX2_cellAt_18 : decode cX2_cellAt 18 = .ok (.if_icmp .ge 12, 3) := by decide +kernel
theorem dX2_cellAt_21 : decode cX2_cellAt 21 = .ok (.aload_n 0, 1) := by decide +kernel
theorem dX2_cellAt_22 : decode cX2_cellAt 22 = .ok (.getfield 11, 3) := by decide +kernel
theorem dX2_cellAt_25 : decode cX2_cellAt 25 = .ok (.iload_n 1, 1) := by decide +kernel
theorem dX2_cellAt_26 : decode cX2_cellAt 26 = .ok (.aaload, 1) := by decide +kernel
theorem dX2_cellAt_27 : decode cX2_cellAt 27 = .ok (.goto 4, 3) := by decide +kernel
theorem dX2_cellAt_30 : decode cX2_cellAt 30 = .ok (.aconst_null, 1) := by decide +kernel
theorem dX2_cellAt_31 : decode cX2_cellAt 31 = .ok (.areturn, 1) := by decide +kernel
theorem dX2_numberAt_0 : decode cX2_numberAt 0 = .ok (.iload_n 1, 1) := by decide +kernel
theorem dX2_numberAt_1 : decode cX2_numberAt 1 = .ok (.ifCond .lt 29, 3) := by decide +kernel
theorem dX2_numberAt_4 : decode cX2_numberAt 4 = .ok (.iload_n 1, 1) := by decide +kernel
theorem dX2_numberAt_5 : decode cX2_numberAt 5 = .ok (.aload_n 0, 1) := by decide +kernel
theorem dX2_numberAt_6 : decode cX2_numberAt 6 = .ok (.getfield 21, 3) := by decide +kernel
theorem dX2_numberAt_9 : decode cX2_numberAt 9 = .ok (.if_icmp .ge 21, 3) := by decide +kernel
theorem dX2_numberAt_12 : decode cX2_numberAt 12 = .ok (.iload_n 1, 1) := by decide +kernel
theorem dX2_numberAt_13 : decode cX2_numberAt 13 = .ok (.aload_n 0, 1) := by decide +kernel
theorem dX2_numberAt_14 : decode cX2_numberAt 14 = .ok (.getfield 17, 3) := by decide +kernel
theorem dX2_numberAt_17 : decode cX2_numberAt 17 = .ok (.arraylength, 1) := by decide +kernel
theorem dX2_numberAt_18 : decode cX2_numberAt 18 = .ok (.if_icmp .ge 12, 3) := by decide +kernel
theorem dX2_numberAt_21 : decode cX2_numberAt 21 = .ok (.aload_n 0, 1) := by decide +kernel
theorem dX2_numberAt_22 : decode cX2_numberAt 22 = .ok (.getfield 17, 3) := by decide +kernel
theorem dX2_numberAt_25 : decode cX2_numberAt 25 = .ok (.iload_n 1, 1) := by decide +kernel
theorem dX2_numberAt_26 : decode cX2_numberAt 26 = .ok (.iaload, 1) := by decide +kernel
theorem dX2_numberAt_27 : decode cX2_numberAt 27 = .ok (.goto 5, 3) := by decide +kernel
theorem dX2_numberAt_30 : decode cX2_numberAt 30 = .ok (.bipush (-6), 2) := by decide +kernel
theorem dX2_numberAt_32 : decode cX2_numberAt 32 = .ok (.ireturn, 1) := by decide +kernel
theorem dX2_enter_0 : decode cX2_enter 0 = .ok (.aload_n 0, 1) := by decide +kernel
theorem dX2_enter_1 : decode cX2_enter 1 = .ok (.getfield 25, 3) := by decide +kernel
theorem dX2_enter_4 : decode cX2_enter 4 = .ok (.istore_n 2, 1) := by decide +kernel
theorem dX2_enter_5 : decode cX2_enter 5 = .ok (.aload_n 0, 1) := by decide +kernel
theorem dX2_enter_6 : decode cX2_enter 6 = .ok (.dup, 1) := by decide +kernel
theorem dX2_enter_7 : decode cX2_enter 7 = .ok (.getfield 25, 3) := by decide +kernel
theorem dX2_enter_10 : decode cX2_enter 10 = .ok (.iconst 1, 1) := by decide +kernel
theorem dX2_enter_11 : decode cX2_enter 11 = .ok (.iadd, 1) := by decide +kernel
theorem dX2_enter_12 : decode cX2_enter 12 = .ok (.putfield 25, 3) := by decide +kernel
theorem dX2_enter_15 : decode cX2_enter 15 = .ok (.aload_n 0, 1) := by decide +kernel
theorem dX2_enter_16 : decode cX2_enter 16 = .ok (.aload_n 1, 1) := by decide +kernel
theorem dX2_enter_17 : decode cX2_enter 17 = .ok (.iload_n 2, 1) := by decide +kernel
theorem dX2_enter_18 : decode cX2_enter 18 = .ok (.invokevirtual 28, 3) := by decide +kernel
theorem dX2_enter_21 : decode cX2_enter 21 = .ok (.iload_n 2, 1) := by decide +kernel
theorem dX2_enter_22 : decode cX2_enter 22 = .ok (.ireturn, 1) := by decide +kernel
theorem dX2_dropUnmarked_0 : decode cX2_dropUnmarked 0 = .ok (.aload_n 0, 1) := by decide +kernel
theorem dX2_dropUnmarked_1 : decode cX2_dropUnmarked 1 = .ok (.getfield 21, 3) := by decide +kernel
theorem dX2_dropUnmarked_4 : decode cX2_dropUnmarked 4 = .ok (.istore_n 2, 1) := by decide +kernel
theorem dX2_dropUnmarked_5 : decode cX2_dropUnmarked 5 = .ok (.aload_n 0, 1) := by decide +kernel
theorem dX2_dropUnmarked_6 : decode cX2_dropUnmarked 6 = .ok (.iconst 0, 1) := by decide +kernel
theorem dX2_dropUnmarked_7 : decode cX2_dropUnmarked 7 = .ok (.putfield 21, 3) := by decide +kernel
theorem dX2_dropUnmarked_10 : decode cX2_dropUnmarked 10 = .ok (.iconst 0, 1) := by decide +kernel
theorem dX2_dropUnmarked_11 : decode cX2_dropUnmarked 11 = .ok (.istore_n 3, 1) := by decide +kernel
theorem dX2_dropUnmarked_12 : decode cX2_dropUnmarked 12 = .ok (.iload_n 3, 1) := by decide +kernel
theorem dX2_dropUnmarked_13 : decode cX2_dropUnmarked 13 = .ok (.iload_n 2, 1) := by decide +kernel
theorem dX2_dropUnmarked_14 : decode cX2_dropUnmarked 14 = .ok (.if_icmp .ge 47, 3) := by decide +kernel
theorem dX2_dropUnmarked_17 : decode cX2_dropUnmarked 17 = .ok (.iload_n 3, 1) := by decide +kernel
theorem dX2_dropUnmarked_18 : decode cX2_dropUnmarked 18 = .ok (.aload_n 0, 1) := by decide +kernel
theorem dX2_dropUnmarked_19 : decode cX2_dropUnmarked 19 = .ok (.getfield 11, 3) := by decide +kernel
theorem dX2_dropUnmarked_22 : decode cX2_dropUnmarked 22 = .ok (.arraylength, 1) := by decide +kernel
theorem dX2_dropUnmarked_23 : decode cX2_dropUnmarked 23 = .ok (.if_icmp .ge 38, 3) := by decide +kernel
theorem dX2_dropUnmarked_26 : decode cX2_dropUnmarked 26 = .ok (.aload_n 1, 1) := by decide +kernel
theorem dX2_dropUnmarked_27 : decode cX2_dropUnmarked 27 = .ok (.aload_n 0, 1) := by decide +kernel
theorem dX2_dropUnmarked_28 : decode cX2_dropUnmarked 28 = .ok (.getfield 11, 3) := by decide +kernel
theorem dX2_dropUnmarked_31 : decode cX2_dropUnmarked 31 = .ok (.iload_n 3, 1) := by decide +kernel
theorem dX2_dropUnmarked_32 : decode cX2_dropUnmarked 32 = .ok (.aaload, 1) := by decide +kernel
theorem dX2_dropUnmarked_33 : decode cX2_dropUnmarked 33 = .ok (.invokevirtual 32, 3) := by decide +kernel
theorem dX2_dropUnmarked_36 : decode cX2_dropUnmarked 36 = .ok (.ifCond .eq 19, 3) := by decide +kernel
theorem dX2_dropUnmarked_39 : decode cX2_dropUnmarked 39 = .ok (.aload_n 0, 1) := by decide +kernel
theorem dX2_dropUnmarked_40 : decode cX2_dropUnmarked 40 = .ok (.aload_n 0, 1) := by decide +kernel
theorem dX2_dropUnmarked_41 : decode cX2_dropUnmarked 41 = .ok (.getfield 11, 3) := by decide +kernel
theorem dX2_dropUnmarked_44 : decode cX2_dropUnmarked 44 = .ok (.iload_n 3, 1) := by decide +kernel
theorem dX2_dropUnmarked_45 : decode cX2_dropUnmarked 45 = .ok (.aaload, 1) := by decide +kernel
theorem dX2_dropUnmarked_46 : decode cX2_dropUnmarked 46 = .ok (.aload_n 0, 1) := by decide +kernel
theorem dX2_dropUnmarked_47 : decode cX2_dropUnmarked 47 = .ok (.getfield 17, 3) := by decide +kernel
theorem dX2_dropUnmarked_50 : decode cX2_dropUnmarked 50 = .ok (.iload_n 3, 1) := by decide +kernel
theorem dX2_dropUnmarked_51 : decode cX2_dropUnmarked 51 = .ok (.iaload, 1) := by decide +kernel
theorem dX2_dropUnmarked_52 : decode cX2_dropUnmarked 52 = .ok (.invokevirtual 28, 3) := by decide +kernel
theorem dX2_dropUnmarked_55 : decode cX2_dropUnmarked 55 = .ok (.iinc 3 1, 3) := by decide +kernel
theorem dX2_dropUnmarked_58 : decode cX2_dropUnmarked 58 = .ok (.goto (-46), 3) := by decide +kernel
theorem dX2_dropUnmarked_61 : decode cX2_dropUnmarked 61 = .ok (.iload_n 2, 1) := by decide +kernel
theorem dX2_dropUnmarked_62 : decode cX2_dropUnmarked 62 = .ok (.aload_n 0, 1) := by decide +kernel
theorem dX2_dropUnmarked_63 : decode cX2_dropUnmarked 63 = .ok (.getfield 21, 3) := by decide +kernel
theorem dX2_dropUnmarked_66 : decode cX2_dropUnmarked 66 = .ok (.isub, 1) := by decide +kernel
theorem dX2_dropUnmarked_67 : decode cX2_dropUnmarked 67 = .ok (.ireturn, 1) := by decide +kernel
theorem dX2_place_0 : decode cX2_place 0 = .ok (.aload_n 0, 1) := by decide +kernel
theorem dX2_place_1 : decode cX2_place 1 = .ok (.getfield 21, 3) := by decide +kernel
theorem dX2_place_4 : decode cX2_place 4 = .ok (.ifCond .lt 45, 3) := by decide +kernel
theorem dX2_place_7 : decode cX2_place 7 = .ok (.aload_n 0, 1) := by decide +kernel
theorem dX2_place_8 : decode cX2_place 8 = .ok (.getfield 21, 3) := by decide +kernel
theorem dX2_place_11 : decode cX2_place 11 = .ok (.aload_n 0, 1) := by decide +kernel
theorem dX2_place_12 : decode cX2_place 12 = .ok (.getfield 11, 3) := by decide +kernel
theorem dX2_place_15 : decode cX2_place 15 = .ok (.arraylength, 1) := by decide +kernel
theorem dX2_place_16 : decode cX2_place 16 = .ok (.if_icmp .ge 33, 3) := by decide +kernel
theorem dX2_place_19 : decode cX2_place 19 = .ok (.aload_n 0, 1) := by decide +kernel
theorem dX2_place_20 : decode cX2_place 20 = .ok (.getfield 11, 3) := by decide +kernel
theorem dX2_place_23 : decode cX2_place 23 = .ok (.aload_n 0, 1) := by decide +kernel
theorem dX2_place_24 : decode cX2_place 24 = .ok (.getfield 21, 3) := by decide +kernel
theorem dX2_place_27 : decode cX2_place 27 = .ok (.aload_n 1, 1) := by decide +kernel
theorem dX2_place_28 : decode cX2_place 28 = .ok (.aastore, 1) := by decide +kernel
theorem dX2_place_29 : decode cX2_place 29 = .ok (.aload_n 0, 1) := by decide +kernel
theorem dX2_place_30 : decode cX2_place 30 = .ok (.getfield 17, 3) := by decide +kernel
theorem dX2_place_33 : decode cX2_place 33 = .ok (.aload_n 0, 1) := by decide +kernel
theorem dX2_place_34 : decode cX2_place 34 = .ok (.getfield 21, 3) := by decide +kernel
theorem dX2_place_37 : decode cX2_place 37 = .ok (.iload_n 2, 1) := by decide +kernel
theorem dX2_place_38 : decode cX2_place 38 = .ok (.iastore, 1) := by decide +kernel
theorem dX2_place_39 : decode cX2_place 39 = .ok (.aload_n 0, 1) := by decide +kernel
theorem dX2_place_40 : decode cX2_place 40 = .ok (.dup, 1) := by decide +kernel
theorem dX2_place_41 : decode cX2_place 41 = .ok (.getfield 21, 3) := by decide +kernel
theorem dX2_place_44 : decode cX2_place 44 = .ok (.iconst 1, 1) := by decide +kernel
theorem dX2_place_45 : decode cX2_place 45 = .ok (.iadd, 1) := by decide +kernel
theorem dX2_place_46 : decode cX2_place 46 = .ok (.putfield 21, 3) := by decide +kernel
theorem dX2_place_49 : decode cX2_place 49 = .ok (.return_, 1) := by decide +kernel
theorem dX3_init_0 : decode cX3_init 0 = .ok (.aload_n 0, 1) := by decide +kernel
theorem dX3_init_1 : decode cX3_init 1 = .ok (.invokespecial 3, 3) := by decide +kernel
theorem dX3_init_4 : decode cX3_init 4 = .ok (.aload_n 0, 1) := by decide +kernel
theorem dX3_init_5 : decode cX3_init 5 = .ok (.bipush 120, 2) := by decide +kernel
theorem dX3_init_7 : decode cX3_init 7 = .ok (.newarray .int, 2) := by decide +kernel
theorem dX3_init_9 : decode cX3_init 9 = .ok (.putfield 9, 3) := by decide +kernel
theorem dX3_init_12 : decode cX3_init 12 = .ok (.return_, 1) := by decide +kernel
theorem dX3_clear_0 : decode cX3_clear 0 = .ok (.aload_n 0, 1) := by decide +kernel
theorem dX3_clear_1 : decode cX3_clear 1 = .ok (.iconst 0, 1) := by decide +kernel
theorem dX3_clear_2 : decode cX3_clear 2 = .ok (.putfield 15, 3) := by decide +kernel
theorem dX3_clear_5 : decode cX3_clear 5 = .ok (.return_, 1) := by decide +kernel
theorem dX3_addSign_0 : decode cX3_addSign 0 = .ok (.aload_n 0, 1) := by decide +kernel
theorem dX3_addSign_1 : decode cX3_addSign 1 = .ok (.getfield 15, 3) := by decide +kernel
theorem dX3_addSign_4 : decode cX3_addSign 4 = .ok (.ifCond .lt 35, 3) := by decide +kernel
theorem dX3_addSign_7 : decode cX3_addSign 7 = .ok (.aload_n 0, 1) := by decide +kernel
theorem dX3_addSign_8 : decode cX3_addSign 8 = .ok (.getfield 15, 3) := by decide +kernel
theorem dX3_addSign_11 : decode cX3_addSign 11 = .ok (.aload_n 0, 1) := by decide +kernel
theorem dX3_addSign_12 : decode cX3_addSign 12 = .ok (.getfield 9, 3) := by decide +kernel
theorem dX3_addSign_15 : decode cX3_addSign 15 = .ok (.arraylength, 1) := by decide +kernel
theorem dX3_addSign_16 : decode cX3_addSign 16 = .ok (.if_icmp .ge 23, 3) := by decide +kernel
theorem dX3_addSign_19 : decode cX3_addSign 19 = .ok (.aload_n 0, 1) := by decide +kernel
theorem dX3_addSign_20 : decode cX3_addSign 20 = .ok (.getfield 9, 3) := by decide +kernel
theorem dX3_addSign_23 : decode cX3_addSign 23 = .ok (.aload_n 0, 1) := by decide +kernel
theorem dX3_addSign_24 : decode cX3_addSign 24 = .ok (.getfield 15, 3) := by decide +kernel
theorem dX3_addSign_27 : decode cX3_addSign 27 = .ok (.iload_n 1, 1) := by decide +kernel
theorem dX3_addSign_28 : decode cX3_addSign 28 = .ok (.iastore, 1) := by decide +kernel
theorem dX3_addSign_29 : decode cX3_addSign 29 = .ok (.aload_n 0, 1) := by decide +kernel
theorem dX3_addSign_30 : decode cX3_addSign 30 = .ok (.dup, 1) := by decide +kernel
theorem dX3_addSign_31 : decode cX3_addSign 31 = .ok (.getfield 15, 3) := by decide +kernel
theorem dX3_addSign_34 : decode cX3_addSign 34 = .ok (.iconst 1, 1) := by decide +kernel
theorem dX3_addSign_35 : decode cX3_addSign 35 = .ok (.iadd, 1) := by decide +kernel
theorem dX3_addSign_36 : decode cX3_addSign 36 = .ok (.putfield 15, 3) := by decide +kernel
theorem dX3_addSign_39 : decode cX3_addSign 39 = .ok (.return_, 1) := by decide +kernel
theorem dX3_read_0 : decode cX3_read 0 = .ok (.aload_n 0, 1) := by decide +kernel
theorem dX3_read_1 : decode cX3_read 1 = .ok (.iconst 0, 1) := by decide +kernel
theorem dX3_read_2 : decode cX3_read 2 = .ok (.putfield 15, 3) := by decide +kernel
theorem dX3_read_5 : decode cX3_read 5 = .ok (.aload_n 0, 1) := by decide +kernel
theorem dX3_read_6 : decode cX3_read 6 = .ok (.aload_n 1, 1) := by decide +kernel
theorem dX3_read_7 : decode cX3_read 7 = .ok (.iconst 0, 1) := by decide +kernel
theorem dX3_read_8 : decode cX3_read 8 = .ok (.invokevirtual 19, 3) := by decide +kernel
theorem dX3_read_11 : decode cX3_read 11 = .ok (.return_, 1) := by decide +kernel
theorem dX3_readBoth_0 : decode cX3_readBoth 0 = .ok (.aload_n 0, 1) := by decide +kernel
theorem dX3_readBoth_1 : decode cX3_readBoth 1 = .ok (.iconst 0, 1) := by decide +kernel
theorem dX3_readBoth_2 : decode cX3_readBoth 2 = .ok (.putfield 15, 3) := by decide +kernel
theorem dX3_readBoth_5 : decode cX3_readBoth 5 = .ok (.aload_n 0, 1) := by decide +kernel
theorem dX3_readBoth_6 : decode cX3_readBoth 6 = .ok (.aload_n 1, 1) := by decide +kernel
theorem dX3_readBoth_7 : decode cX3_readBoth 7 = .ok (.iconst 0, 1) := by decide +kernel
theorem dX3_readBoth_8 : decode cX3_readBoth 8 = .ok (.invokevirtual 19, 3) := by decide +kernel
theorem dX3_readBoth_11 : decode cX3_readBoth 11 = .ok (.aload_n 0, 1) := by decide +kernel
theorem dX3_readBoth_12 : decode cX3_readBoth 12 = .ok (.aload_n 2, 1) := by decide +kernel
theorem dX3_readBoth_13 : decode cX3_readBoth 13 = .ok (.iconst 0, 1) := by decide +kernel
theorem dX3_readBoth_14 : decode cX3_readBoth 14 = .ok (.invokevirtual 19, 3) := by decide +kernel
theorem dX3_readBoth_17 : decode cX3_readBoth 17 = .ok (.return_, 1) := by decide +kernel
theorem dX3_readPart_0 : decode cX3_readPart 0 = .ok (.aload_n 0, 1) := by decide +kernel
theorem dX3_readPart_1 : decode cX3_readPart 1 = .ok (.iconst 0, 1) := by decide +kernel
theorem dX3_readPart_2 : decode cX3_readPart 2 = .ok (.putfield 15, 3) := by decide +kernel
theorem dX3_readPart_5 : decode cX3_readPart 5 = .ok (.aload_n 0, 1) := by decide +kernel
theorem dX3_readPart_6 : decode cX3_readPart 6 = .ok (.aload_n 1, 1) := by decide +kernel
theorem dX3_readPart_7 : decode cX3_readPart 7 = .ok (.iload_n 2, 1) := by decide +kernel
theorem dX3_readPart_8 : decode cX3_readPart 8 = .ok (.iload_n 3, 1) := by decide +kernel
theorem dX3_readPart_9 : decode cX3_readPart 9 = .ok (.invokevirtual 23, 3) := by decide +kernel
theorem dX3_readPart_12 : decode cX3_readPart 12 = .ok (.return_, 1) := by decide +kernel
theorem dX3_addCell_0 : decode cX3_addCell 0 = .ok (.aload_n 1, 1) := by decide +kernel
theorem dX3_addCell_1 : decode cX3_addCell 1 = .ok (.ifnull 9, 3) := by decide +kernel
theorem dX3_addCell_4 : decode cX3_addCell 4 = .ok (.iload_n 2, 1) := by decide +kernel
theorem dX3_addCell_5 : decode cX3_addCell 5 = .ok (.bipush 40, 2) := by decide +kernel
theorem dX3_addCell_7 : decode cX3_addCell 7 = .ok (.if_icmp .le 4, 3) := by decide +kernel
theorem dX3_addCell_10 : decode cX3_addCell 10 = .ok (.return_, 1) := by decide +kernel
theorem dX3_addCell_11 : decode cX3_addCell 11 = .ok (.aload_n 1, 1) := by decide +kernel
theorem dX3_addCell_12 : decode cX3_addCell 12 = .ok (.getfield 27, 3) := by decide +kernel
theorem dX3_addCell_15 : decode cX3_addCell 15 = .ok (.iconst 1, 1) := by decide +kernel
theorem dX3_addCell_16 : decode cX3_addCell 16 = .ok (.if_icmp .ne 28, 3) := by decide +kernel
theorem dX3_addCell_19 : decode cX3_addCell 19 = .ok (.aload_n 0, 1) := by decide +kernel
theorem dX3_addCell_20 : decode cX3_addCell 20 = .ok (.aload_n 1, 1) := by decide +kernel
theorem dX3_addCell_21 : decode cX3_addCell 21 = .ok (.getfield 32, 3) := by decide +kernel
theorem dX3_addCell_24 : decode cX3_addCell 24 = .ok (.iload_n 2, 1) := by decide +kernel
theorem dX3_addCell_25 : decode cX3_addCell 25 = .ok (.iconst 1, 1) := by decide +kernel
theorem dX3_addCell_26 : decode cX3_addCell 26 = .ok (.iadd, 1) := by decide +kernel
theorem dX3_addCell_27 : decode cX3_addCell 27 = .ok (.invokevirtual 19, 3) := by decide +kernel
theorem dX3_addCell_30 : decode cX3_addCell 30 = .ok (.aload_n 0, 1) := by decide +kernel
theorem dX3_addCell_31 : decode cX3_addCell 31 = .ok (.aload_n 1, 1) := by decide +kernel
theorem dX3_addCell_32 : decode cX3_addCell 32 = .ok (.getfield 36, 3) := by decide +kernel
theorem dX3_addCell_35 : decode cX3_addCell 35 = .ok (.iload_n 2, 1) := by decide +kernel
theorem dX3_addCell_36 : decode cX3_addCell 36 = .ok (.iconst 1, 1) := by decide +kernel
theorem dX3_addCell_37 : decode cX3_addCell 37 = .ok (.iadd, 1) := by decide +kernel
theorem dX3_addCell_38 : decode cX3_addCell 38 = .ok (.invokevirtual 19, 3) := by decide +kernel
theorem dX3_addCell_41 : decode cX3_addCell 41 = .ok (.goto 40, 3) := by decide +kernel
theorem dX3_addCell_44 : decode cX3_addCell 44 = .ok (.aload_n 1, 1) := by decide +kernel
theorem dX3_addCell_45 : decode cX3_addCell 45 = .ok (.getfield 27, 3) := by decide +kernel
theorem dX3_addCell_48 : decode cX3_addCell 48 = .ok (.iconst 2, 1) := by decide +kernel
theorem dX3_addCell_49 : decode cX3_addCell 49 = .ok (.if_icmp .ne 22, 3) := by decide +kernel
theorem dX3_addCell_52 : decode cX3_addCell 52 = .ok (.aload_n 0, 1) := by decide +kernel
theorem dX3_addCell_53 : decode cX3_addCell 53 = .ok (.aload_n 1, 1) := by decide +kernel
theorem dX3_addCell_54 : decode cX3_addCell 54 = .ok (.getfield 39, 3) := by decide +kernel
theorem dX3_addCell_57 : decode cX3_addCell 57 = .ok (.aload_n 1, 1) := by decide +kernel
theorem dX3_addCell_58 : decode cX3_addCell 58 = .ok (.getfield 42, 3) := by decide +kernel
theorem dX3_addCell_61 : decode cX3_addCell 61 = .ok (.aload_n 1, 1) := by decide +kernel
theorem dX3_addCell_62 : decode cX3_addCell 62 = .ok (.getfield 45, 3) := by decide +kernel
theorem dX3_addCell_65 : decode cX3_addCell 65 = .ok (.invokevirtual 23, 3) := by decide +kernel
theorem dX3_addCell_68 : decode cX3_addCell 68 = .ok (.goto 13, 3) := by decide +kernel
theorem dX3_addCell_71 : decode cX3_addCell 71 = .ok (.aload_n 0, 1) := by decide +kernel
theorem dX3_addCell_72 : decode cX3_addCell 72 = .ok (.aload_n 1, 1) := by decide +kernel
theorem dX3_addCell_73 : decode cX3_addCell 73 = .ok (.iconst 0, 1) := by decide +kernel
theorem dX3_addCell_74 : decode cX3_addCell 74 = .ok (.aload_n 1, 1) := by decide +kernel
theorem dX3_addCell_75 : decode cX3_addCell 75 = .ok (.getfield 45, 3) := by decide +kernel
theorem dX3_addCell_78 : decode cX3_addCell 78 = .ok (.invokevirtual 23, 3) := by decide +kernel
theorem dX3_addCell_81 : decode cX3_addCell 81 = .ok (.return_, 1) := by decide +kernel
theorem dX3_addSigns_0 : decode cX3_addSigns 0 = .ok (.aload_n 1, 1) := by decide +kernel
theorem dX3_addSigns_1 : decode cX3_addSigns 1 = .ok (.ifnonnull 4, 3) := by decide +kernel
theorem dX3_addSigns_4 : decode cX3_addSigns 4 = .ok (.return_, 1) := by decide +kernel
theorem dX3_addSigns_5 : decode cX3_addSigns 5 = .ok (.iconst 0, 1) := by decide +kernel
theorem dX3_addSigns_6 : decode cX3_addSigns 6 = .ok (.istore 4, 2) := by decide +kernel
theorem dX3_addSigns_8 : decode cX3_addSigns 8 = .ok (.iload 4, 2) := by decide +kernel
theorem dX3_addSigns_10 : decode cX3_addSigns 10 = .ok (.iload_n 3, 1) := by decide +kernel
theorem dX3_addSigns_11 : decode cX3_addSigns 11 = .ok (.if_icmp .ge 21, 3) := by decide +kernel
theorem dX3_addSigns_14 : decode cX3_addSigns 14 = .ok (.aload_n 0, 1) := by decide +kernel
theorem dX3_addSigns_15 : decode cX3_addSigns 15 = .ok (.aload_n 1, 1) := by decide +kernel
theorem dX3_addSigns_16 : decode cX3_addSigns 16 = .ok (.iload_n 2, 1) := by decide +kernel
theorem dX3_addSigns_17 : decode cX3_addSigns 17 = .ok (.iload 4, 2) := by decide +kernel
theorem dX3_addSigns_19 : decode cX3_addSigns 19 = .ok (.iadd, 1) := by decide +kernel
theorem dX3_addSigns_20 : decode cX3_addSigns 20 = .ok (.invokevirtual 46, 3) := by decide +kernel
theorem dX3_addSigns_23 : decode cX3_addSigns 23 = .ok (.invokevirtual 50, 3) := by decide +kernel
theorem dX3_addSigns_26 : decode cX3_addSigns 26 = .ok (.iinc 4 1, 3) := by decide +kernel
theorem dX3_addSigns_29 : decode cX3_addSigns 29 = .ok (.goto (-21), 3) := by decide +kernel
theorem dX3_addSigns_32 : decode cX3_addSigns 32 = .ok (.return_, 1) := by decide +kernel
theorem dX3_toRow_0 : decode cX3_toRow 0 = .ok (.aload_n 0, 1) := by decide +kernel
theorem dX3_toRow_1 : decode cX3_toRow 1 = .ok (.getfield 15, 3) := by decide +kernel
theorem dX3_toRow_4 : decode cX3_toRow 4 = .ok (.ifCond .ge 7, 3) := by decide +kernel
theorem dX3_toRow_7 : decode cX3_toRow 7 = .ok (.iconst 0, 1) := by decide +kernel
theorem dX3_toRow_8 : decode cX3_toRow 8 = .ok (.goto 7, 3) := by decide +kernel
theorem dX3_toRow_11 : decode cX3_toRow 11 = .ok (.aload_n 0, 1) := by decide +kernel
theorem dX3_toRow_12 : decode cX3_toRow 12 = .ok (.getfield 15, 3) := by decide +kernel
theorem dX3_toRow_15 : decode cX3_toRow 15 = .ok (.newarray .int, 2) := by decide +kernel
theorem dX3_toRow_17 : decode cX3_toRow 17 = .ok (.astore_n 1, 1) := by decide +kernel
theorem dX3_toRow_18 : decode cX3_toRow 18 = .ok (.iconst 0, 1) := by decide +kernel
theorem dX3_toRow_19 : decode cX3_toRow 19 = .ok (.istore_n 2, 1) := by decide +kernel
theorem dX3_toRow_20 : decode cX3_toRow 20 = .ok (.iload_n 2, 1) := by decide +kernel
theorem dX3_toRow_21 : decode cX3_toRow 21 = .ok (.aload_n 1, 1) := by decide +kernel
theorem dX3_toRow_22 : decode cX3_toRow 22 = .ok (.arraylength, 1) := by decide +kernel
theorem dX3_toRow_23 : decode cX3_toRow 23 = .ok (.if_icmp .ge 17, 3) := by decide +kernel
theorem dX3_toRow_26 : decode cX3_toRow 26 = .ok (.aload_n 1, 1) := by decide +kernel
theorem dX3_toRow_27 : decode cX3_toRow 27 = .ok (.iload_n 2, 1) := by decide +kernel
theorem dX3_toRow_28 : decode cX3_toRow 28 = .ok (.aload_n 0, 1) := by decide +kernel
theorem dX3_toRow_29 : decode cX3_toRow 29 = .ok (.iload_n 2, 1) := by decide +kernel
theorem dX3_toRow_30 : decode cX3_toRow 30 = .ok (.invokevirtual 54, 3) := by decide +kernel
theorem dX3_toRow_33 : decode cX3_toRow 33 = .ok (.iastore, 1) := by decide +kernel
theorem dX3_toRow_34 : decode cX3_toRow 34 = .ok (.iinc 2 1, 3) := by decide +kernel
theorem dX3_toRow_37 : decode cX3_toRow 37 = .ok (.goto (-17), 3) := by decide +kernel
theorem dX3_toRow_40 : decode cX3_toRow 40 = .ok (.aload_n 1, 1) := by decide +kernel
theorem dX3_toRow_41 : decode cX3_toRow 41 = .ok (.areturn, 1) := by decide +kernel
theorem dX3_signAt_0 : decode cX3_signAt 0 = .ok (.iload_n 1, 1) := by decide +kernel
theorem dX3_signAt_1 : decode cX3_signAt 1 = .ok (.ifCond .lt 29, 3) := by decide +kernel
theorem dX3_signAt_4 : decode cX3_signAt 4 = .ok (.iload_n 1, 1) := by decide +kernel
theorem dX3_signAt_5 : decode cX3_signAt 5 = .ok (.aload_n 0, 1) := by decide +kernel
theorem dX3_signAt_6 : decode cX3_signAt 6 = .ok (.getfield 15, 3) := by decide +kernel
theorem dX3_signAt_9 : decode cX3_signAt 9 = .ok (.if_icmp .ge 21, 3) := by decide +kernel
theorem dX3_signAt_12 : decode cX3_signAt 12 = .ok (.iload_n 1, 1) := by decide +kernel
theorem dX3_signAt_13 : decode cX3_signAt 13 = .ok (.aload_n 0, 1) := by decide +kernel
theorem dX3_signAt_14 : decode cX3_signAt 14 = .ok (.getfield 9, 3) := by decide +kernel
theorem dX3_signAt_17 : decode cX3_signAt 17 = .ok (.arraylength, 1) := by decide +kernel
theorem dX3_signAt_18 : decode cX3_signAt 18 = .ok (.if_icmp .ge 12, 3) := by decide +kernel
theorem dX3_signAt_21 : decode cX3_signAt 21 = .ok (.aload_n 0, 1) := by decide +kernel
theorem dX3_signAt_22 : decode cX3_signAt 22 = .ok (.getfield 9, 3) := by decide +kernel
theorem dX3_signAt_25 : decode cX3_signAt 25 = .ok (.iload_n 1, 1) := by decide +kernel
theorem dX3_signAt_26 : decode cX3_signAt 26 = .ok (.iaload, 1) := by decide +kernel
theorem dX3_signAt_27 : decode cX3_signAt 27 = .ok (.goto 4, 3) := by decide +kernel
theorem dX3_signAt_30 : decode cX3_signAt 30 = .ok (.iconst 0, 1) := by decide +kernel
theorem dX3_signAt_31 : decode cX3_signAt 31 = .ok (.ireturn, 1) := by decide +kernel
theorem dX3_hashed_0 : decode cX3_hashed 0 = .ok (.iconst 0, 1) := by decide +kernel
theorem dX3_hashed_1 : decode cX3_hashed 1 = .ok (.istore_n 1, 1) := by decide +kernel
theorem dX3_hashed_2 : decode cX3_hashed 2 = .ok (.iconst 0, 1) := by decide +kernel
theorem dX3_hashed_3 : decode cX3_hashed 3 = .ok (.istore_n 2, 1) := by decide +kernel
theorem dX3_hashed_4 : decode cX3_hashed 4 = .ok (.iload_n 2, 1) := by decide +kernel
theorem dX3_hashed_5 : decode cX3_hashed 5 = .ok (.aload_n 0, 1) := by decide +kernel
theorem dX3_hashed_6 : decode cX3_hashed 6 = .ok (.getfield 15, 3) := by decide +kernel
theorem dX3_hashed_9 : decode cX3_hashed 9 = .ok (.if_icmp .ge 20, 3) := by decide +kernel
theorem dX3_hashed_12 : decode cX3_hashed 12 = .ok (.bipush 31, 2) := by decide +kernel
theorem dX3_hashed_14 : decode cX3_hashed 14 = .ok (.iload_n 1, 1) := by decide +kernel
theorem dX3_hashed_15 : decode cX3_hashed 15 = .ok (.imul, 1) := by decide +kernel
theorem dX3_hashed_16 : decode cX3_hashed 16 = .ok (.aload_n 0, 1) := by decide +kernel
theorem dX3_hashed_17 : decode cX3_hashed 17 = .ok (.iload_n 2, 1) := by decide +kernel
theorem dX3_hashed_18 : decode cX3_hashed 18 = .ok (.invokevirtual 54, 3) := by decide +kernel
theorem dX3_hashed_21 : decode cX3_hashed 21 = .ok (.iadd, 1) := by decide +kernel
theorem dX3_hashed_22 : decode cX3_hashed 22 = .ok (.istore_n 1, 1) := by decide +kernel
theorem dX3_hashed_23 : decode cX3_hashed 23 = .ok (.iinc 2 1, 3) := by decide +kernel
theorem dX3_hashed_26 : decode cX3_hashed 26 = .ok (.goto (-22), 3) := by decide +kernel
theorem dX3_hashed_29 : decode cX3_hashed 29 = .ok (.iload_n 1, 1) := by decide +kernel
theorem dX3_hashed_30 : decode cX3_hashed 30 = .ok (.ireturn, 1) := by decide +kernel
theorem dX3_isWide_0 : decode cX3_isWide 0 = .ok (.iconst 0, 1) := by decide +kernel
theorem dX3_isWide_1 : decode cX3_isWide 1 = .ok (.istore_n 1, 1) := by decide +kernel
theorem dX3_isWide_2 : decode cX3_isWide 2 = .ok (.iload_n 1, 1) := by decide +kernel
theorem dX3_isWide_3 : decode cX3_isWide 3 = .ok (.aload_n 0, 1) := by decide +kernel
theorem dX3_isWide_4 : decode cX3_isWide 4 = .ok (.getfield 15, 3) := by decide +kernel
theorem dX3_isWide_7 : decode cX3_isWide 7 = .ok (.if_icmp .ge 22, 3) := by decide +kernel
theorem dX3_isWide_10 : decode cX3_isWide 10 = .ok (.aload_n 0, 1) := by decide +kernel
theorem dX3_isWide_11 : decode cX3_isWide 11 = .ok (.iload_n 1, 1) := by decide +kernel
theorem dX3_isWide_12 : decode cX3_isWide 12 = .ok (.invokevirtual 54, 3) := by decide +kernel
theorem dX3_isWide_15 : decode cX3_isWide 15 = .ok (.sipush 255, 3) := by decide +kernel
theorem dX3_isWide_18 : decode cX3_isWide 18 = .ok (.if_icmp .le 5, 3) := by decide +kernel
theorem dX3_isWide_21 : decode cX3_isWide 21 = .ok (.iconst 1, 1) := by decide +kernel
theorem dX3_isWide_22 : decode cX3_isWide 22 = .ok (.ireturn, 1) := by decide +kernel
theorem dX3_isWide_23 : decode cX3_isWide 23 = .ok (.iinc 1 1, 3) := by decide +kernel
theorem dX3_isWide_26 : decode cX3_isWide 26 = .ok (.goto (-24), 3) := by decide +kernel
theorem dX3_isWide_29 : decode cX3_isWide 29 = .ok (.iconst 0, 1) := by decide +kernel
theorem dX3_isWide_30 : decode cX3_isWide 30 = .ok (.ireturn, 1) := by decide +kernel
theorem dX3_isSameAs_0 : decode cX3_isSameAs 0 = .ok (.aload_n 0, 1) := by decide +kernel
theorem dX3_isSameAs_1 : decode cX3_isSameAs 1 = .ok (.getfield 15, 3) := by decide +kernel
theorem dX3_isSameAs_4 : decode cX3_isSameAs 4 = .ok (.aload_n 1, 1) := by decide +kernel
theorem dX3_isSameAs_5 : decode cX3_isSameAs 5 = .ok (.getfield 15, 3) := by decide +kernel
theorem dX3_isSameAs_8 : decode cX3_isSameAs 8 = .ok (.if_icmp .ne 19, 3) := by decide +kernel
theorem dX3_isSameAs_11 : decode cX3_isSameAs 11 = .ok (.aload_n 0, 1) := by decide +kernel
theorem dX3_isSameAs_12 : decode cX3_isSameAs 12 = .ok (.aload_n 1, 1) := by decide +kernel
theorem dX3_isSameAs_13 : decode cX3_isSameAs 13 = .ok (.invokevirtual 55, 3) := by decide +kernel
theorem dX3_isSameAs_16 : decode cX3_isSameAs 16 = .ok (.aload_n 0, 1) := by decide +kernel
theorem dX3_isSameAs_17 : decode cX3_isSameAs 17 = .ok (.getfield 15, 3) := by decide +kernel
theorem dX3_isSameAs_20 : decode cX3_isSameAs 20 = .ok (.if_icmp .ne 7, 3) := by decide +kernel
theorem dX3_isSameAs_23 : decode cX3_isSameAs 23 = .ok (.iconst 1, 1) := by decide +kernel
theorem dX3_isSameAs_24 : decode cX3_isSameAs 24 = .ok (.goto 4, 3) := by decide +kernel
theorem dX3_isSameAs_27 : decode cX3_isSameAs 27 = .ok (.iconst 0, 1) := by decide +kernel
theorem dX3_isSameAs_28 : decode cX3_isSameAs 28 = .ok (.ireturn, 1) := by decide +kernel
theorem dX3_samePlaces_0 : decode cX3_samePlaces 0 = .ok (.aload_n 0, 1) := by decide +kernel
theorem dX3_samePlaces_1 : decode cX3_samePlaces 1 = .ok (.getfield 15, 3) := by decide +kernel
theorem dX3_samePlaces_4 : decode cX3_samePlaces 4 = .ok (.aload_n 1, 1) := by decide +kernel
theorem dX3_samePlaces_5 : decode cX3_samePlaces 5 = .ok (.getfield 15, 3) := by decide +kernel
theorem dX3_samePlaces_8 : decode cX3_samePlaces 8 = .ok (.invokestatic 59, 3) := by decide +kernel
theorem dX3_samePlaces_11 : decode cX3_samePlaces 11 = .ok (.istore_n 2, 1) := by decide +kernel
theorem dX3_samePlaces_12 : decode cX3_samePlaces 12 = .ok (.iconst 0, 1) := by decide +kernel
theorem dX3_samePlaces_13 : decode cX3_samePlaces 13 = .ok (.istore_n 3, 1) := by decide +kernel
theorem dX3_samePlaces_14 : decode cX3_samePlaces 14 = .ok (.iload_n 3, 1) := by decide +kernel
theorem dX3_samePlaces_15 : decode cX3_samePlaces 15 = .ok (.iload_n 2, 1) := by decide +kernel
theorem dX3_samePlaces_16 : decode cX3_samePlaces 16 = .ok (.if_icmp .ge 24, 3) := by decide +kernel
theorem dX3_samePlaces_19 : decode cX3_samePlaces 19 = .ok (.aload_n 0, 1) := by decide +kernel
theorem dX3_samePlaces_20 : decode cX3_samePlaces 20 = .ok (.iload_n 3, 1) := by decide +kernel
theorem dX3_samePlaces_21 : decode cX3_samePlaces 21 = .ok (.invokevirtual 54, 3) := by decide +kernel
theorem dX3_samePlaces_24 : decode cX3_samePlaces 24 = .ok (.aload_n 1, 1) := by decide +kernel
theorem dX3_samePlaces_25 : decode cX3_samePlaces 25 = .ok (.iload_n 3, 1) := by decide +kernel
theorem dX3_samePlaces_26 : decode cX3_samePlaces 26 = .ok (.invokevirtual 54, 3) := by decide +kernel
theorem dX3_samePlaces_29 : decode cX3_samePlaces 29 = .ok (.if_icmp .eq 5, 3) := by decide +kernel
theorem dX3_samePlaces_32 : decode cX3_samePlaces 32 = .ok (.iload_n 3, 1) := by decide +kernel
theorem dX3_samePlaces_33 : decode cX3_samePlaces 33 = .ok (.ireturn, 1) := by decide +kernel
theorem dX3_samePlaces_34 : decode cX3_samePlaces 34 = .ok (.iinc 3 1, 3) := by decide +kernel
theorem dX3_samePlaces_37 : decode cX3_samePlaces 37 = .ok (.goto (-23), 3) := by decide +kernel
theorem dX3_samePlaces_40 : decode cX3_samePlaces 40 = .ok (.iload_n 2, 1) := by decide +kernel
theorem dX3_samePlaces_41 : decode cX3_samePlaces 41 = .ok (.ireturn, 1) := by decide +kernel
theorem dX3_comesBefore_0 : decode cX3_comesBefore 0 = .ok (.aload_n 0, 1) := by decide +kernel
theorem dX3_comesBefore_1 : decode cX3_comesBefore 1 = .ok (.aload_n 1, 1) := by decide +kernel
theorem dX3_comesBefore_2 : decode cX3_comesBefore 2 = .ok (.invokevirtual 55, 3) := by decide +kernel
theorem dX3_comesBefore_5 : decode cX3_comesBefore 5 = .ok (.istore_n 2, 1) := by decide +kernel
theorem dX3_comesBefore_6 : decode cX3_comesBefore 6 = .ok (.aload_n 0, 1) := by decide +kernel
theorem dX3_comesBefore_7 : decode cX3_comesBefore 7 = .ok (.iload_n 2, 1) := by decide +kernel
theorem dX3_comesBefore_8 : decode cX3_comesBefore 8 = .ok (.invokevirtual 54, 3) := by decide +kernel
theorem dX3_comesBefore_11 : decode cX3_comesBefore 11 = .ok (.aload_n 1, 1) := by decide +kernel
theorem dX3_comesBefore_12 : decode cX3_comesBefore 12 = .ok (.iload_n 2, 1) := by decide +kernel
theorem dX3_comesBefore_13 : decode cX3_comesBefore 13 = .ok (.invokevirtual 54, 3) := by decide +kernel
theorem dX3_comesBefore_16 : decode cX3_comesBefore 16 = .ok (.if_icmp .ge 7, 3) := by decide +kernel
theorem dX3_comesBefore_19 : decode cX3_comesBefore 19 = .ok (.iconst 1, 1) := by decide +kernel
theorem dX3_comesBefore_20 : decode cX3_comesBefore 20 = .ok (.goto 4, 3) := by decide +kernel
theorem dX3_comesBefore_23 : decode cX3_comesBefore 23 = .ok (.iconst 0, 1) := by decide +kernel
theorem dX3_comesBefore_24 : decode cX3_comesBefore 24 = .ok (.ireturn, 1) := by decide +kernel
theorem dX3_placeOf_0 : decode cX3_placeOf 0 = .ok (.iconst 0, 1) := by decide +kernel
theorem dX3_placeOf_1 : decode cX3_placeOf 1 = .ok (.istore_n 2, 1) := by decide +kernel
theorem dX3_placeOf_2 : decode cX3_placeOf 2 = .ok (.iload_n 2, 1) := by decide +kernel
theorem dX3_placeOf_3 : decode cX3_placeOf 3 = .ok (.aload_n 0, 1) := by decide +kernel
theorem dX3_placeOf_4 : decode cX3_placeOf 4 = .ok (.getfield 15, 3) := by decide +kernel
theorem dX3_placeOf_7 : decode cX3_placeOf 7 = .ok (.aload_n 1, 1) := by decide +kernel
theorem dX3_placeOf_8 : decode cX3_placeOf 8 = .ok (.getfield 15, 3) := by decide +kernel
theorem dX3_placeOf_11 : decode cX3_placeOf 11 = .ok (.isub, 1) := by decide +kernel
theorem dX3_placeOf_12 : decode cX3_placeOf 12 = .ok (.if_icmp .gt 20, 3) := by decide +kernel
theorem dX3_placeOf_15 : decode cX3_placeOf 15 = .ok (.aload_n 0, 1) := by decide +kernel
theorem dX3_placeOf_16 : decode cX3_placeOf 16 = .ok (.iload_n 2, 1) := by decide +kernel
theorem dX3_placeOf_17 : decode cX3_placeOf 17 = .ok (.aload_n 1, 1) := by decide +kernel
theorem dX3_placeOf_18 : decode cX3_placeOf 18 = .ok (.invokevirtual 65, 3) := by decide +kernel
theorem dX3_placeOf_21 : decode cX3_placeOf 21 = .ok (.ifCond .eq 5, 3) := by decide +kernel
theorem dX3_placeOf_24 : decode cX3_placeOf 24 = .ok (.iload_n 2, 1) := by decide +kernel
theorem dX3_placeOf_25 : decode cX3_placeOf 25 = .ok (.ireturn, 1) := by decide +kernel
theorem dX3_placeOf_26 : decode cX3_placeOf 26 = .ok (.iinc 2 1, 3) := by decide +kernel
theorem dX3_placeOf_29 : decode cX3_placeOf 29 = .ok (.goto (-27), 3) := by decide +kernel
theorem dX3_placeOf_32 : decode cX3_placeOf 32 = .ok (.bipush (-6), 2) := by decide +kernel
theorem dX3_placeOf_34 : decode cX3_placeOf 34 = .ok (.ireturn, 1) := by decide +kernel
theorem dX3_hasAt_0 : decode cX3_hasAt 0 = .ok (.iconst 0, 1) := by decide +kernel
theorem dX3_hasAt_1 : decode cX3_hasAt 1 = .ok (.istore_n 3, 1) := by decide +kernel
theorem dX3_hasAt_2 : decode cX3_hasAt 2 = .ok (.iload_n 3, 1) := by decide +kernel
theorem dX3_hasAt_3 : decode cX3_hasAt 3 = .ok (.aload_n 2, 1) := by decide +kernel
theorem dX3_hasAt_4 : decode cX3_hasAt 4 = .ok (.getfield 15, 3) := by decide +kernel
theorem dX3_hasAt_7 : decode cX3_hasAt 7 = .ok (.if_icmp .ge 26, 3) := by decide +kernel
theorem dX3_hasAt_10 : decode cX3_hasAt 10 = .ok (.aload_n 0, 1) := by decide +kernel
theorem dX3_hasAt_11 : decode cX3_hasAt 11 = .ok (.iload_n 1, 1) := by decide +kernel
theorem dX3_hasAt_12 : decode cX3_hasAt 12 = .ok (.iload_n 3, 1) := by decide +kernel
theorem dX3_hasAt_13 : decode cX3_hasAt 13 = .ok (.iadd, 1) := by decide +kernel
theorem dX3_hasAt_14 : decode cX3_hasAt 14 = .ok (.invokevirtual 54, 3) := by decide +kernel
theorem dX3_hasAt_17 : decode cX3_hasAt 17 = .ok (.aload_n 2, 1) := by decide +kernel
theorem dX3_hasAt_18 : decode cX3_hasAt 18 = .ok (.iload_n 3, 1) := by decide +kernel
end
section
theorem dX3_hasAt_19 : decode cX3_hasAt 19 = .ok (.invokevirtual 54, 3) := by decide +kernel
theorem dX3_hasAt_22 : decode cX3_hasAt 22 = .ok (.if_icmp .eq 5, 3) := by decide +kernel
theorem dX3_hasAt_25 : decode cX3_hasAt 25 = .ok (.iconst 0, 1) := by decide +kernel
theorem dX3_hasAt_26 : decode cX3_hasAt 26 = .ok (.ireturn, 1) := by decide +kernel
theorem dX3_hasAt_27 : decode cX3_hasAt 27 = .ok (.iinc 3 1, 3) := by decide +kernel
theorem dX3_hasAt_30 : decode cX3_hasAt 30 = .ok (.goto (-28), 3) := by decide +kernel
theorem dX3_hasAt_33 : decode cX3_hasAt 33 = .ok (.iconst 1, 1) := by decide +kernel
theorem dX3_hasAt_34 : decode cX3_hasAt 34 = .ok (.ireturn, 1) := by decide +kernel
theorem dX4_init_0 : decode cX4_init 0 = .ok (.aload_n 0, 1) := by decide +kernel
theorem dX4_init_1 : decode cX4_init 1 = .ok (.invokespecial 3, 3) := by decide +kernel
theorem dX4_init_4 : decode cX4_init 4 = .ok (.aload_n 0, 1) := by decide +kernel
theorem dX4_init_5 : decode cX4_init 5 = .ok (.iconst 0, 1) := by decide +kernel
theorem dX4_init_6 : decode cX4_init 6 = .ok (.putfield 9, 3) := by decide +kernel
theorem dX4_init_9 : decode cX4_init 9 = .ok (.return_, 1) := by decide +kernel
theorem dX4_overCell_0 : decode cX4_overCell 0 = .ok (.aload_n 0, 1) := by decide +kernel
theorem dX4_overCell_1 : decode cX4_overCell 1 = .ok (.invokevirtual 15, 3) := by decide +kernel
theorem dX4_overCell_4 : decode cX4_overCell 4 = .ok (.aload_n 0, 1) := by decide +kernel
theorem dX4_overCell_5 : decode cX4_overCell 5 = .ok (.aload_n 1, 1) := by decide +kernel
theorem dX4_overCell_6 : decode cX4_overCell 6 = .ok (.iconst 0, 1) := by decide +kernel
theorem dX4_overCell_7 : decode cX4_overCell 7 = .ok (.invokevirtual 18, 3) := by decide +kernel
theorem dX4_overCell_10 : decode cX4_overCell 10 = .ok (.return_, 1) := by decide +kernel
theorem dX4_overAll_0 : decode cX4_overAll 0 = .ok (.aload_n 0, 1) := by decide +kernel
theorem dX4_overAll_1 : decode cX4_overAll 1 = .ok (.invokevirtual 15, 3) := by decide +kernel
theorem dX4_overAll_4 : decode cX4_overAll 4 = .ok (.iconst 0, 1) := by decide +kernel
theorem dX4_overAll_5 : decode cX4_overAll 5 = .ok (.istore_n 2, 1) := by decide +kernel
theorem dX4_overAll_6 : decode cX4_overAll 6 = .ok (.iload_n 2, 1) := by decide +kernel
theorem dX4_overAll_7 : decode cX4_overAll 7 = .ok (.aload_n 1, 1) := by decide +kernel
theorem dX4_overAll_8 : decode cX4_overAll 8 = .ok (.arraylength, 1) := by decide +kernel
theorem dX4_overAll_9 : decode cX4_overAll 9 = .ok (.if_icmp .ge 17, 3) := by decide +kernel
theorem dX4_overAll_12 : decode cX4_overAll 12 = .ok (.aload_n 0, 1) := by decide +kernel
theorem dX4_overAll_13 : decode cX4_overAll 13 = .ok (.aload_n 1, 1) := by decide +kernel
theorem dX4_overAll_14 : decode cX4_overAll 14 = .ok (.iload_n 2, 1) := by decide +kernel
theorem dX4_overAll_15 : decode cX4_overAll 15 = .ok (.aaload, 1) := by decide +kernel
theorem dX4_overAll_16 : decode cX4_overAll 16 = .ok (.iconst 0, 1) := by decide +kernel
theorem dX4_overAll_17 : decode cX4_overAll 17 = .ok (.invokevirtual 18, 3) := by decide +kernel
theorem dX4_overAll_20 : decode cX4_overAll 20 = .ok (.iinc 2 1, 3) := by decide +kernel
theorem dX4_overAll_23 : decode cX4_overAll 23 = .ok (.goto (-17), 3) := by decide +kernel
theorem dX4_overAll_26 : decode cX4_overAll 26 = .ok (.return_, 1) := by decide +kernel
theorem dX4_cameBy_0 : decode cX4_cameBy 0 = .ok (.aload_n 1, 1) := by decide +kernel
theorem dX4_cameBy_1 : decode cX4_cameBy 1 = .ok (.ifnull 18, 3) := by decide +kernel
theorem dX4_cameBy_4 : decode cX4_cameBy 4 = .ok (.aload_n 1, 1) := by decide +kernel
theorem dX4_cameBy_5 : decode cX4_cameBy 5 = .ok (.getfield 22, 3) := by decide +kernel
theorem dX4_cameBy_8 : decode cX4_cameBy 8 = .ok (.aload_n 0, 1) := by decide +kernel
theorem dX4_cameBy_9 : decode cX4_cameBy 9 = .ok (.getfield 9, 3) := by decide +kernel
theorem dX4_cameBy_12 : decode cX4_cameBy 12 = .ok (.if_icmp .ne 7, 3) := by decide +kernel
theorem dX4_cameBy_15 : decode cX4_cameBy 15 = .ok (.iconst 1, 1) := by decide +kernel
theorem dX4_cameBy_16 : decode cX4_cameBy 16 = .ok (.goto 4, 3) := by decide +kernel
theorem dX4_cameBy_19 : decode cX4_cameBy 19 = .ok (.iconst 0, 1) := by decide +kernel
theorem dX4_cameBy_20 : decode cX4_cameBy 20 = .ok (.ireturn, 1) := by decide +kernel
theorem dX4_begin_0 : decode cX4_begin 0 = .ok (.aload_n 0, 1) := by decide +kernel
theorem dX4_begin_1 : decode cX4_begin 1 = .ok (.dup, 1) := by decide +kernel
theorem dX4_begin_2 : decode cX4_begin 2 = .ok (.getfield 9, 3) := by decide +kernel
theorem dX4_begin_5 : decode cX4_begin 5 = .ok (.iconst 1, 1) := by decide +kernel
theorem dX4_begin_6 : decode cX4_begin 6 = .ok (.iadd, 1) := by decide +kernel
theorem dX4_begin_7 : decode cX4_begin 7 = .ok (.putfield 9, 3) := by decide +kernel
theorem dX4_begin_10 : decode cX4_begin 10 = .ok (.aload_n 0, 1) := by decide +kernel
theorem dX4_begin_11 : decode cX4_begin 11 = .ok (.iconst 0, 1) := by decide +kernel
theorem dX4_begin_12 : decode cX4_begin 12 = .ok (.putfield 27, 3) := by decide +kernel
theorem dX4_begin_15 : decode cX4_begin 15 = .ok (.aload_n 0, 1) := by decide +kernel
theorem dX4_begin_16 : decode cX4_begin 16 = .ok (.iconst 0, 1) := by decide +kernel
theorem dX4_begin_17 : decode cX4_begin 17 = .ok (.putfield 30, 3) := by decide +kernel
theorem dX4_begin_20 : decode cX4_begin 20 = .ok (.return_, 1) := by decide +kernel
theorem dX4_visit_0 : decode cX4_visit 0 = .ok (.aload_n 1, 1) := by decide +kernel
theorem dX4_visit_1 : decode cX4_visit 1 = .ok (.ifnull 17, 3) := by decide +kernel
theorem dX4_visit_4 : decode cX4_visit 4 = .ok (.aload_n 0, 1) := by decide +kernel
theorem dX4_visit_5 : decode cX4_visit 5 = .ok (.aload_n 1, 1) := by decide +kernel
theorem dX4_visit_6 : decode cX4_visit 6 = .ok (.invokevirtual 33, 3) := by decide +kernel
theorem dX4_visit_9 : decode cX4_visit 9 = .ok (.ifCond .ne 9, 3) := by decide +kernel
theorem dX4_visit_12 : decode cX4_visit 12 = .ok (.iload_n 2, 1) := by decide +kernel
theorem dX4_visit_13 : decode cX4_visit 13 = .ok (.bipush 40, 2) := by decide +kernel
theorem dX4_visit_15 : decode cX4_visit 15 = .ok (.if_icmp .le 4, 3) := by decide +kernel
theorem dX4_visit_18 : decode cX4_visit 18 = .ok (.return_, 1) := by decide +kernel
theorem dX4_visit_19 : decode cX4_visit 19 = .ok (.aload_n 1, 1) := by decide +kernel
theorem dX4_visit_20 : decode cX4_visit 20 = .ok (.aload_n 0, 1) := by decide +kernel
theorem dX4_visit_21 : decode cX4_visit 21 = .ok (.getfield 9, 3) := by decide +kernel
theorem dX4_visit_24 : decode cX4_visit 24 = .ok (.putfield 22, 3) := by decide +kernel
theorem dX4_visit_27 : decode cX4_visit 27 = .ok (.aload_n 0, 1) := by decide +kernel
theorem dX4_visit_28 : decode cX4_visit 28 = .ok (.dup, 1) := by decide +kernel
theorem dX4_visit_29 : decode cX4_visit 29 = .ok (.getfield 27, 3) := by decide +kernel
theorem dX4_visit_32 : decode cX4_visit 32 = .ok (.iconst 1, 1) := by decide +kernel
theorem dX4_visit_33 : decode cX4_visit 33 = .ok (.iadd, 1) := by decide +kernel
theorem dX4_visit_34 : decode cX4_visit 34 = .ok (.putfield 27, 3) := by decide +kernel
theorem dX4_visit_37 : decode cX4_visit 37 = .ok (.aload_n 0, 1) := by decide +kernel
theorem dX4_visit_38 : decode cX4_visit 38 = .ok (.dup, 1) := by decide +kernel
theorem dX4_visit_39 : decode cX4_visit 39 = .ok (.getfield 30, 3) := by decide +kernel
theorem dX4_visit_42 : decode cX4_visit 42 = .ok (.aload_n 1, 1) := by decide +kernel
theorem dX4_visit_43 : decode cX4_visit 43 = .ok (.invokevirtual 37, 3) := by decide +kernel
theorem dX4_visit_46 : decode cX4_visit 46 = .ok (.iadd, 1) := by decide +kernel
theorem dX4_visit_47 : decode cX4_visit 47 = .ok (.putfield 30, 3) := by decide +kernel
theorem dX4_visit_50 : decode cX4_visit 50 = .ok (.aload_n 0, 1) := by decide +kernel
theorem dX4_visit_51 : decode cX4_visit 51 = .ok (.aload_n 1, 1) := by decide +kernel
theorem dX4_visit_52 : decode cX4_visit 52 = .ok (.getfield 40, 3) := by decide +kernel
theorem dX4_visit_55 : decode cX4_visit 55 = .ok (.iload_n 2, 1) := by decide +kernel
theorem dX4_visit_56 : decode cX4_visit 56 = .ok (.iconst 1, 1) := by decide +kernel
theorem dX4_visit_57 : decode cX4_visit 57 = .ok (.iadd, 1) := by decide +kernel
theorem dX4_visit_58 : decode cX4_visit 58 = .ok (.invokevirtual 18, 3) := by decide +kernel
theorem dX4_visit_61 : decode cX4_visit 61 = .ok (.aload_n 0, 1) := by decide +kernel
theorem dX4_visit_62 : decode cX4_visit 62 = .ok (.aload_n 1, 1) := by decide +kernel
theorem dX4_visit_63 : decode cX4_visit 63 = .ok (.getfield 44, 3) := by decide +kernel
theorem dX4_visit_66 : decode cX4_visit 66 = .ok (.iload_n 2, 1) := by decide +kernel
theorem dX4_visit_67 : decode cX4_visit 67 = .ok (.iconst 1, 1) := by decide +kernel
theorem dX4_visit_68 : decode cX4_visit 68 = .ok (.iadd, 1) := by decide +kernel
theorem dX4_visit_69 : decode cX4_visit 69 = .ok (.invokevirtual 18, 3) := by decide +kernel
theorem dX4_visit_72 : decode cX4_visit 72 = .ok (.aload_n 0, 1) := by decide +kernel
theorem dX4_visit_73 : decode cX4_visit 73 = .ok (.aload_n 1, 1) := by decide +kernel
theorem dX4_visit_74 : decode cX4_visit 74 = .ok (.getfield 47, 3) := by decide +kernel
theorem dX4_visit_77 : decode cX4_visit 77 = .ok (.iload_n 2, 1) := by decide +kernel
theorem dX4_visit_78 : decode cX4_visit 78 = .ok (.iconst 1, 1) := by decide +kernel
theorem dX4_visit_79 : decode cX4_visit 79 = .ok (.iadd, 1) := by decide +kernel
theorem dX4_visit_80 : decode cX4_visit 80 = .ok (.invokevirtual 18, 3) := by decide +kernel
theorem dX4_visit_83 : decode cX4_visit 83 = .ok (.return_, 1) := by decide +kernel
theorem dX5_init_0 : decode cX5_init 0 = .ok (.aload_n 0, 1) := by decide +kernel
theorem dX5_init_1 : decode cX5_init 1 = .ok (.invokespecial 3, 3) := by decide +kernel
theorem dX5_init_4 : decode cX5_init 4 = .ok (.aload_n 0, 1) := by decide +kernel
theorem dX5_init_5 : decode cX5_init 5 = .ok (.iconst 3, 1) := by decide +kernel
theorem dX5_init_6 : decode cX5_init 6 = .ok (.newarray .int, 2) := by decide +kernel
theorem dX5_init_8 : decode cX5_init 8 = .ok (.dup, 1) := by decide +kernel
theorem dX5_init_9 : decode cX5_init 9 = .ok (.iconst 0, 1) := by decide +kernel
theorem dX5_init_10 : decode cX5_init 10 = .ok (.bipush 8, 2) := by decide +kernel
theorem dX5_init_12 : decode cX5_init 12 = .ok (.iastore, 1) := by decide +kernel
theorem dX5_init_13 : decode cX5_init 13 = .ok (.dup, 1) := by decide +kernel
theorem dX5_init_14 : decode cX5_init 14 = .ok (.iconst 1, 1) := by decide +kernel
theorem dX5_init_15 : decode cX5_init 15 = .ok (.bipush 6, 2) := by decide +kernel
theorem dX5_init_17 : decode cX5_init 17 = .ok (.iastore, 1) := by decide +kernel
theorem dX5_init_18 : decode cX5_init 18 = .ok (.dup, 1) := by decide +kernel
theorem dX5_init_19 : decode cX5_init 19 = .ok (.iconst 2, 1) := by decide +kernel
theorem dX5_init_20 : decode cX5_init 20 = .ok (.iconst 4, 1) := by decide +kernel
theorem dX5_init_21 : decode cX5_init 21 = .ok (.iastore, 1) := by decide +kernel
theorem dX5_init_22 : decode cX5_init 22 = .ok (.putfield 9, 3) := by decide +kernel
theorem dX5_init_25 : decode cX5_init 25 = .ok (.aload_n 0, 1) := by decide +kernel
theorem dX5_init_26 : decode cX5_init 26 = .ok (.new 15, 3) := by decide +kernel
theorem dX5_init_29 : decode cX5_init 29 = .ok (.dup, 1) := by decide +kernel
theorem dX5_init_30 : decode cX5_init 30 = .ok (.invokespecial 17, 3) := by decide +kernel
theorem dX5_init_33 : decode cX5_init 33 = .ok (.putfield 18, 3) := by decide +kernel
theorem dX5_init_36 : decode cX5_init 36 = .ok (.aload_n 0, 1) := by decide +kernel
theorem dX5_init_37 : decode cX5_init 37 = .ok (.new 22, 3) := by decide +kernel
theorem dX5_init_40 : decode cX5_init 40 = .ok (.dup, 1) := by decide +kernel
theorem dX5_init_41 : decode cX5_init 41 = .ok (.invokespecial 24, 3) := by decide +kernel
theorem dX5_init_44 : decode cX5_init 44 = .ok (.putfield 25, 3) := by decide +kernel
theorem dX5_init_47 : decode cX5_init 47 = .ok (.aload_n 0, 1) := by decide +kernel
theorem dX5_init_48 : decode cX5_init 48 = .ok (.iconst 0, 1) := by decide +kernel
theorem dX5_init_49 : decode cX5_init 49 = .ok (.putfield 29, 3) := by decide +kernel
theorem dX5_init_52 : decode cX5_init 52 = .ok (.aload_n 0, 1) := by decide +kernel
theorem dX5_init_53 : decode cX5_init 53 = .ok (.aconst_null, 1) := by decide +kernel
theorem dX5_init_54 : decode cX5_init 54 = .ok (.putfield 33, 3) := by decide +kernel
theorem dX5_init_57 : decode cX5_init 57 = .ok (.return_, 1) := by decide +kernel
theorem dX5_beginTurn_0 : decode cX5_beginTurn 0 = .ok (.aload_n 0, 1) := by decide +kernel
theorem dX5_beginTurn_1 : decode cX5_beginTurn 1 = .ok (.dup, 1) := by decide +kernel
theorem dX5_beginTurn_2 : decode cX5_beginTurn 2 = .ok (.getfield 29, 3) := by decide +kernel
theorem dX5_beginTurn_5 : decode cX5_beginTurn 5 = .ok (.iconst 1, 1) := by decide +kernel
theorem dX5_beginTurn_6 : decode cX5_beginTurn 6 = .ok (.iadd, 1) := by decide +kernel
theorem dX5_beginTurn_7 : decode cX5_beginTurn 7 = .ok (.putfield 29, 3) := by decide +kernel
theorem dX5_beginTurn_10 : decode cX5_beginTurn 10 = .ok (.return_, 1) := by decide +kernel
theorem dX5_joined_0 : decode cX5_joined 0 = .ok (.aload_n 2, 1) := by decide +kernel
theorem dX5_joined_1 : decode cX5_joined 1 = .ok (.ifnull 10, 3) := by decide +kernel
theorem dX5_joined_4 : decode cX5_joined 4 = .ok (.aload_n 2, 1) := by decide +kernel
theorem dX5_joined_5 : decode cX5_joined 5 = .ok (.getfield 37, 3) := by decide +kernel
theorem dX5_joined_8 : decode cX5_joined 8 = .ok (.ifCond .ne 5, 3) := by decide +kernel
theorem dX5_joined_11 : decode cX5_joined 11 = .ok (.aload_n 1, 1) := by decide +kernel
theorem dX5_joined_12 : decode cX5_joined 12 = .ok (.areturn, 1) := by decide +kernel
theorem dX5_joined_13 : decode cX5_joined 13 = .ok (.aload_n 1, 1) := by decide +kernel
theorem dX5_joined_14 : decode cX5_joined 14 = .ok (.ifnull 10, 3) := by decide +kernel
theorem dX5_joined_17 : decode cX5_joined 17 = .ok (.aload_n 1, 1) := by decide +kernel
theorem dX5_joined_18 : decode cX5_joined 18 = .ok (.getfield 37, 3) := by decide +kernel
theorem dX5_joined_21 : decode cX5_joined 21 = .ok (.ifCond .ne 5, 3) := by decide +kernel
theorem dX5_joined_24 : decode cX5_joined 24 = .ok (.aload_n 2, 1) := by decide +kernel
theorem dX5_joined_25 : decode cX5_joined 25 = .ok (.areturn, 1) := by decide +kernel
theorem dX5_joined_26 : decode cX5_joined 26 = .ok (.aload_n 1, 1) := by decide +kernel
theorem dX5_joined_27 : decode cX5_joined 27 = .ok (.getfield 37, 3) := by decide +kernel
theorem dX5_joined_30 : decode cX5_joined 30 = .ok (.aload_n 2, 1) := by decide +kernel
theorem dX5_joined_31 : decode cX5_joined 31 = .ok (.getfield 37, 3) := by decide +kernel
theorem dX5_joined_34 : decode cX5_joined 34 = .ok (.iadd, 1) := by decide +kernel
theorem dX5_joined_35 : decode cX5_joined 35 = .ok (.aload_n 0, 1) := by decide +kernel
theorem dX5_joined_36 : decode cX5_joined 36 = .ok (.getfield 9, 3) := by decide +kernel
theorem dX5_joined_39 : decode cX5_joined 39 = .ok (.iconst 0, 1) := by decide +kernel
theorem dX5_joined_40 : decode cX5_joined 40 = .ok (.iaload, 1) := by decide +kernel
theorem dX5_joined_41 : decode cX5_joined 41 = .ok (.if_icmp .gt 20, 3) := by decide +kernel
theorem dX5_joined_44 : decode cX5_joined 44 = .ok (.aload_n 0, 1) := by decide +kernel
theorem dX5_joined_45 : decode cX5_joined 45 = .ok (.getfield 25, 3) := by decide +kernel
theorem dX5_joined_48 : decode cX5_joined 48 = .ok (.aload_n 1, 1) := by decide +kernel
theorem dX5_joined_49 : decode cX5_joined 49 = .ok (.aload_n 2, 1) := by decide +kernel
theorem dX5_joined_50 : decode cX5_joined 50 = .ok (.invokevirtual 42, 3) := by decide +kernel
theorem dX5_joined_53 : decode cX5_joined 53 = .ok (.aload_n 0, 1) := by decide +kernel
theorem dX5_joined_54 : decode cX5_joined 54 = .ok (.getfield 25, 3) := by decide +kernel
theorem dX5_joined_57 : decode cX5_joined 57 = .ok (.invokestatic 46, 3) := by decide +kernel
theorem dX5_joined_60 : decode cX5_joined 60 = .ok (.areturn, 1) := by decide +kernel
theorem dX5_joined_61 : decode cX5_joined 61 = .ok (.iconst 1, 1) := by decide +kernel
theorem dX5_joined_62 : decode cX5_joined 62 = .ok (.aload_n 1, 1) := by decide +kernel
theorem dX5_joined_63 : decode cX5_joined 63 = .ok (.invokevirtual 50, 3) := by decide +kernel
theorem dX5_joined_66 : decode cX5_joined 66 = .ok (.aload_n 2, 1) := by decide +kernel
theorem dX5_joined_67 : decode cX5_joined 67 = .ok (.invokevirtual 50, 3) := by decide +kernel
theorem dX5_joined_70 : decode cX5_joined 70 = .ok (.invokestatic 54, 3) := by decide +kernel
theorem dX5_joined_73 : decode cX5_joined 73 = .ok (.iadd, 1) := by decide +kernel
theorem dX5_joined_74 : decode cX5_joined 74 = .ok (.aload_n 0, 1) := by decide +kernel
theorem dX5_joined_75 : decode cX5_joined 75 = .ok (.getfield 9, 3) := by decide +kernel
theorem dX5_joined_78 : decode cX5_joined 78 = .ok (.iconst 1, 1) := by decide +kernel
theorem dX5_joined_79 : decode cX5_joined 79 = .ok (.iaload, 1) := by decide +kernel
theorem dX5_joined_80 : decode cX5_joined 80 = .ok (.if_icmp .gt 10, 3) := by decide +kernel
theorem dX5_joined_83 : decode cX5_joined 83 = .ok (.aload_n 0, 1) := by decide +kernel
theorem dX5_joined_84 : decode cX5_joined 84 = .ok (.aload_n 1, 1) := by decide +kernel
theorem dX5_joined_85 : decode cX5_joined 85 = .ok (.aload_n 2, 1) := by decide +kernel
theorem dX5_joined_86 : decode cX5_joined 86 = .ok (.invokevirtual 60, 3) := by decide +kernel
theorem dX5_joined_89 : decode cX5_joined 89 = .ok (.areturn, 1) := by decide +kernel
theorem dX5_joined_90 : decode cX5_joined 90 = .ok (.aload_n 0, 1) := by decide +kernel
theorem dX5_joined_91 : decode cX5_joined 91 = .ok (.getfield 18, 3) := by decide +kernel
theorem dX5_joined_94 : decode cX5_joined 94 = .ok (.aload_n 1, 1) := by decide +kernel
theorem dX5_joined_95 : decode cX5_joined 95 = .ok (.aload_n 2, 1) := by decide +kernel
theorem dX5_joined_96 : decode cX5_joined 96 = .ok (.invokevirtual 64, 3) := by decide +kernel
theorem dX5_joined_99 : decode cX5_joined 99 = .ok (.aload_n 0, 1) := by decide +kernel
theorem dX5_joined_100 : decode cX5_joined 100 = .ok (.aload_n 1, 1) := by decide +kernel
theorem dX5_joined_101 : decode cX5_joined 101 = .ok (.iconst 0, 1) := by decide +kernel
theorem dX5_joined_102 : decode cX5_joined 102 = .ok (.invokevirtual 65, 3) := by decide +kernel
theorem dX5_joined_105 : decode cX5_joined 105 = .ok (.aload_n 0, 1) := by decide +kernel
theorem dX5_joined_106 : decode cX5_joined 106 = .ok (.aload_n 2, 1) := by decide +kernel
theorem dX5_joined_107 : decode cX5_joined 107 = .ok (.iconst 0, 1) := by decide +kernel
theorem dX5_joined_108 : decode cX5_joined 108 = .ok (.invokevirtual 65, 3) := by decide +kernel
theorem dX5_joined_111 : decode cX5_joined 111 = .ok (.aload_n 0, 1) := by decide +kernel
theorem dX5_joined_112 : decode cX5_joined 112 = .ok (.iconst 0, 1) := by decide +kernel
theorem dX5_joined_113 : decode cX5_joined 113 = .ok (.aload_n 0, 1) := by decide +kernel
theorem dX5_joined_114 : decode cX5_joined 114 = .ok (.getfield 18, 3) := by decide +kernel
theorem dX5_joined_117 : decode cX5_joined 117 = .ok (.getfield 69, 3) := by decide +kernel
theorem dX5_joined_120 : decode cX5_joined 120 = .ok (.iconst 0, 1) := by decide +kernel
theorem dX5_joined_121 : decode cX5_joined 121 = .ok (.invokevirtual 70, 3) := by decide +kernel
theorem dX5_joined_124 : decode cX5_joined 124 = .ok (.areturn, 1) := by decide +kernel
theorem dX5_balanced_0 : decode cX5_balanced 0 = .ok (.iload_n 2, 1) := by decide +kernel
theorem dX5_balanced_1 : decode cX5_balanced 1 = .ok (.iconst 2, 1) := by decide +kernel
theorem dX5_balanced_2 : decode cX5_balanced 2 = .ok (.if_icmp .lt 9, 3) := by decide +kernel
theorem dX5_balanced_5 : decode cX5_balanced 5 = .ok (.iload_n 3, 1) := by decide +kernel
theorem dX5_balanced_6 : decode cX5_balanced 6 = .ok (.bipush 40, 2) := by decide +kernel
theorem dX5_balanced_8 : decode cX5_balanced 8 = .ok (.if_icmp .le 12, 3) := by decide +kernel
theorem dX5_balanced_11 : decode cX5_balanced 11 = .ok (.aload_n 0, 1) := by decide +kernel
theorem dX5_balanced_12 : decode cX5_balanced 12 = .ok (.getfield 18, 3) := by decide +kernel
theorem dX5_balanced_15 : decode cX5_balanced 15 = .ok (.iload_n 1, 1) := by decide +kernel
theorem dX5_balanced_16 : decode cX5_balanced 16 = .ok (.invokevirtual 74, 3) := by decide +kernel
theorem dX5_balanced_19 : decode cX5_balanced 19 = .ok (.areturn, 1) := by decide +kernel
theorem dX5_balanced_20 : decode cX5_balanced 20 = .ok (.iload_n 2, 1) := by decide +kernel
theorem dX5_balanced_21 : decode cX5_balanced 21 = .ok (.iconst 2, 1) := by decide +kernel
theorem dX5_balanced_22 : decode cX5_balanced 22 = .ok (.idiv, 1) := by decide +kernel
theorem dX5_balanced_23 : decode cX5_balanced 23 = .ok (.istore 4, 2) := by decide +kernel
theorem dX5_balanced_25 : decode cX5_balanced 25 = .ok (.aload_n 0, 1) := by decide +kernel
theorem dX5_balanced_26 : decode cX5_balanced 26 = .ok (.aload_n 0, 1) := by decide +kernel
theorem dX5_balanced_27 : decode cX5_balanced 27 = .ok (.iload_n 1, 1) := by decide +kernel
theorem dX5_balanced_28 : decode cX5_balanced 28 = .ok (.iload 4, 2) := by decide +kernel
theorem dX5_balanced_30 : decode cX5_balanced 30 = .ok (.iload_n 3, 1) := by decide +kernel
theorem dX5_balanced_31 : decode cX5_balanced 31 = .ok (.iconst 1, 1) := by decide +kernel
theorem dX5_balanced_32 : decode cX5_balanced 32 = .ok (.iadd, 1) := by decide +kernel
theorem dX5_balanced_33 : decode cX5_balanced 33 = .ok (.invokevirtual 70, 3) := by decide +kernel
theorem dX5_balanced_36 : decode cX5_balanced 36 = .ok (.aload_n 0, 1) := by decide +kernel
theorem dX5_balanced_37 : decode cX5_balanced 37 = .ok (.iload_n 1, 1) := by decide +kernel
theorem dX5_balanced_38 : decode cX5_balanced 38 = .ok (.iload 4, 2) := by decide +kernel
theorem dX5_balanced_40 : decode cX5_balanced 40 = .ok (.iadd, 1) := by decide +kernel
theorem dX5_balanced_41 : decode cX5_balanced 41 = .ok (.iload_n 2, 1) := by decide +kernel
theorem dX5_balanced_42 : decode cX5_balanced 42 = .ok (.iload 4, 2) := by decide +kernel
theorem dX5_balanced_44 : decode cX5_balanced 44 = .ok (.isub, 1) := by decide +kernel
theorem dX5_balanced_45 : decode cX5_balanced 45 = .ok (.iload_n 3, 1) := by decide +kernel
theorem dX5_balanced_46 : decode cX5_balanced 46 = .ok (.iconst 1, 1) := by decide +kernel
theorem dX5_balanced_47 : decode cX5_balanced 47 = .ok (.iadd, 1) := by decide +kernel
theorem dX5_balanced_48 : decode cX5_balanced 48 = .ok (.invokevirtual 70, 3) := by decide +kernel
theorem dX5_balanced_51 : decode cX5_balanced 51 = .ok (.invokevirtual 60, 3) := by decide +kernel
theorem dX5_balanced_54 : decode cX5_balanced 54 = .ok (.areturn, 1) := by decide +kernel
theorem dX5_newJoin_0 : decode cX5_newJoin 0 = .ok (.aload_n 0, 1) := by decide +kernel
theorem dX5_newJoin_1 : decode cX5_newJoin 1 = .ok (.getfield 33, 3) := by decide +kernel
theorem dX5_newJoin_4 : decode cX5_newJoin 4 = .ok (.astore_n 3, 1) := by decide +kernel
theorem dX5_newJoin_5 : decode cX5_newJoin 5 = .ok (.aload_n 3, 1) := by decide +kernel
theorem dX5_newJoin_6 : decode cX5_newJoin 6 = .ok (.ifnonnull 14, 3) := by decide +kernel
theorem dX5_newJoin_9 : decode cX5_newJoin 9 = .ok (.new 38, 3) := by decide +kernel
theorem dX5_newJoin_12 : decode cX5_newJoin 12 = .ok (.dup, 1) := by decide +kernel
theorem dX5_newJoin_13 : decode cX5_newJoin 13 = .ok (.invokespecial 78, 3) := by decide +kernel
theorem dX5_newJoin_16 : decode cX5_newJoin 16 = .ok (.astore_n 3, 1) := by decide +kernel
theorem dX5_newJoin_17 : decode cX5_newJoin 17 = .ok (.goto 11, 3) := by decide +kernel
theorem dX5_newJoin_20 : decode cX5_newJoin 20 = .ok (.aload_n 0, 1) := by decide +kernel
theorem dX5_newJoin_21 : decode cX5_newJoin 21 = .ok (.aload_n 3, 1) := by decide +kernel
theorem dX5_newJoin_22 : decode cX5_newJoin 22 = .ok (.getfield 79, 3) := by decide +kernel
theorem dX5_newJoin_25 : decode cX5_newJoin 25 = .ok (.putfield 33, 3) := by decide +kernel
theorem dX5_newJoin_28 : decode cX5_newJoin 28 = .ok (.aload_n 3, 1) := by decide +kernel
theorem dX5_newJoin_29 : decode cX5_newJoin 29 = .ok (.iconst 1, 1) := by decide +kernel
theorem dX5_newJoin_30 : decode cX5_newJoin 30 = .ok (.putfield 82, 3) := by decide +kernel
theorem dX5_newJoin_33 : decode cX5_newJoin 33 = .ok (.aload_n 3, 1) := by decide +kernel
theorem dX5_newJoin_34 : decode cX5_newJoin 34 = .ok (.aload_n 1, 1) := by decide +kernel
theorem dX5_newJoin_35 : decode cX5_newJoin 35 = .ok (.putfield 79, 3) := by decide +kernel
theorem dX5_newJoin_38 : decode cX5_newJoin 38 = .ok (.aload_n 3, 1) := by decide +kernel
theorem dX5_newJoin_39 : decode cX5_newJoin 39 = .ok (.aload_n 2, 1) := by decide +kernel
theorem dX5_newJoin_40 : decode cX5_newJoin 40 = .ok (.putfield 85, 3) := by decide +kernel
theorem dX5_newJoin_43 : decode cX5_newJoin 43 = .ok (.aload_n 3, 1) := by decide +kernel
theorem dX5_newJoin_44 : decode cX5_newJoin 44 = .ok (.aload_n 1, 1) := by decide +kernel
theorem dX5_newJoin_45 : decode cX5_newJoin 45 = .ok (.ifnonnull 7, 3) := by decide +kernel
theorem dX5_newJoin_48 : decode cX5_newJoin 48 = .ok (.iconst 0, 1) := by decide +kernel
theorem dX5_newJoin_49 : decode cX5_newJoin 49 = .ok (.goto 7, 3) := by decide +kernel
theorem dX5_newJoin_52 : decode cX5_newJoin 52 = .ok (.aload_n 1, 1) := by decide +kernel
theorem dX5_newJoin_53 : decode cX5_newJoin 53 = .ok (.getfield 37, 3) := by decide +kernel
theorem dX5_newJoin_56 : decode cX5_newJoin 56 = .ok (.aload_n 2, 1) := by decide +kernel
theorem dX5_newJoin_57 : decode cX5_newJoin 57 = .ok (.ifnonnull 7, 3) := by decide +kernel
theorem dX5_newJoin_60 : decode cX5_newJoin 60 = .ok (.iconst 0, 1) := by decide +kernel
theorem dX5_newJoin_61 : decode cX5_newJoin 61 = .ok (.goto 7, 3) := by decide +kernel
theorem dX5_newJoin_64 : decode cX5_newJoin 64 = .ok (.aload_n 2, 1) := by decide +kernel
theorem dX5_newJoin_65 : decode cX5_newJoin 65 = .ok (.getfield 37, 3) := by decide +kernel
theorem dX5_newJoin_68 : decode cX5_newJoin 68 = .ok (.iadd, 1) := by decide +kernel
theorem dX5_newJoin_69 : decode cX5_newJoin 69 = .ok (.putfield 37, 3) := by decide +kernel
theorem dX5_newJoin_72 : decode cX5_newJoin 72 = .ok (.aload_n 3, 1) := by decide +kernel
theorem dX5_newJoin_73 : decode cX5_newJoin 73 = .ok (.aload_n 0, 1) := by decide +kernel
theorem dX5_newJoin_74 : decode cX5_newJoin 74 = .ok (.getfield 29, 3) := by decide +kernel
theorem dX5_newJoin_77 : decode cX5_newJoin 77 = .ok (.putfield 88, 3) := by decide +kernel
theorem dX5_newJoin_80 : decode cX5_newJoin 80 = .ok (.aload_n 3, 1) := by decide +kernel
theorem dX5_newJoin_81 : decode cX5_newJoin 81 = .ok (.areturn, 1) := by decide +kernel
theorem dX5_release_0 : decode cX5_release 0 = .ok (.aload_n 1, 1) := by decide +kernel
theorem dX5_release_1 : decode cX5_release 1 = .ok (.ifnull 28, 3) := by decide +kernel
theorem dX5_release_4 : decode cX5_release 4 = .ok (.iload_n 2, 1) := by decide +kernel
theorem dX5_release_5 : decode cX5_release 5 = .ok (.bipush 40, 2) := by decide +kernel
theorem dX5_release_7 : decode cX5_release 7 = .ok (.if_icmp .gt 22, 3) := by decide +kernel
theorem dX5_release_10 : decode cX5_release 10 = .ok (.aload_n 1, 1) := by decide +kernel
theorem dX5_release_11 : decode cX5_release 11 = .ok (.getfield 82, 3) := by decide +kernel
theorem dX5_release_14 : decode cX5_release 14 = .ok (.iconst 1, 1) := by decide +kernel
theorem dX5_release_15 : decode cX5_release 15 = .ok (.if_icmp .ne 14, 3) := by decide +kernel
theorem dX5_release_18 : decode cX5_release 18 = .ok (.aload_n 1, 1) := by decide +kernel
theorem dX5_release_19 : decode cX5_release 19 = .ok (.getfield 88, 3) := by decide +kernel
theorem dX5_release_22 : decode cX5_release 22 = .ok (.aload_n 0, 1) := by decide +kernel
theorem dX5_release_23 : decode cX5_release 23 = .ok (.getfield 29, 3) := by decide +kernel
theorem dX5_release_26 : decode cX5_release 26 = .ok (.if_icmp .eq 4, 3) := by decide +kernel
theorem dX5_release_29 : decode cX5_release 29 = .ok (.return_, 1) := by decide +kernel
theorem dX5_release_30 : decode cX5_release 30 = .ok (.aload_n 0, 1) := by decide +kernel
theorem dX5_release_31 : decode cX5_release 31 = .ok (.aload_n 1, 1) := by decide +kernel
theorem dX5_release_32 : decode cX5_release 32 = .ok (.getfield 79, 3) := by decide +kernel
theorem dX5_release_35 : decode cX5_release 35 = .ok (.iload_n 2, 1) := by decide +kernel
theorem dX5_release_36 : decode cX5_release 36 = .ok (.iconst 1, 1) := by decide +kernel
theorem dX5_release_37 : decode cX5_release 37 = .ok (.iadd, 1) := by decide +kernel
theorem dX5_release_38 : decode cX5_release 38 = .ok (.invokevirtual 65, 3) := by decide +kernel
theorem dX5_release_41 : decode cX5_release 41 = .ok (.aload_n 0, 1) := by decide +kernel
theorem dX5_release_42 : decode cX5_release 42 = .ok (.aload_n 1, 1) := by decide +kernel
theorem dX5_release_43 : decode cX5_release 43 = .ok (.getfield 85, 3) := by decide +kernel
theorem dX5_release_46 : decode cX5_release 46 = .ok (.iload_n 2, 1) := by decide +kernel
theorem dX5_release_47 : decode cX5_release 47 = .ok (.iconst 1, 1) := by decide +kernel
theorem dX5_release_48 : decode cX5_release 48 = .ok (.iadd, 1) := by decide +kernel
theorem dX5_release_49 : decode cX5_release 49 = .ok (.invokevirtual 65, 3) := by decide +kernel
theorem dX5_release_52 : decode cX5_release 52 = .ok (.aload_n 1, 1) := by decide +kernel
theorem dX5_release_53 : decode cX5_release 53 = .ok (.aload_n 0, 1) := by decide +kernel
theorem dX5_release_54 : decode cX5_release 54 = .ok (.getfield 33, 3) := by decide +kernel
theorem dX5_release_57 : decode cX5_release 57 = .ok (.putfield 79, 3) := by decide +kernel
theorem dX5_release_60 : decode cX5_release 60 = .ok (.aload_n 1, 1) := by decide +kernel
theorem dX5_release_61 : decode cX5_release 61 = .ok (.aconst_null, 1) := by decide +kernel
theorem dX5_release_62 : decode cX5_release 62 = .ok (.putfield 85, 3) := by decide +kernel
theorem dX5_release_65 : decode cX5_release 65 = .ok (.aload_n 0, 1) := by decide +kernel
theorem dX5_release_66 : decode cX5_release 66 = .ok (.aload_n 1, 1) := by decide +kernel
theorem dX5_release_67 : decode cX5_release 67 = .ok (.putfield 33, 3) := by decide +kernel
theorem dX5_release_70 : decode cX5_release 70 = .ok (.return_, 1) := by decide +kernel
theorem dX5_cutOut_0 : decode cX5_cutOut 0 = .ok (.aload_n 1, 1) := by decide +kernel
theorem dX5_cutOut_1 : decode cX5_cutOut 1 = .ok (.ifnull 14, 3) := by decide +kernel
theorem dX5_cutOut_4 : decode cX5_cutOut 4 = .ok (.iload_n 3, 1) := by decide +kernel
theorem dX5_cutOut_5 : decode cX5_cutOut 5 = .ok (.ifCond .le 10, 3) := by decide +kernel
theorem dX5_cutOut_8 : decode cX5_cutOut 8 = .ok (.iload 4, 2) := by decide +kernel
theorem dX5_cutOut_10 : decode cX5_cutOut 10 = .ok (.bipush 40, 2) := by decide +kernel
theorem dX5_cutOut_12 : decode cX5_cutOut 12 = .ok (.if_icmp .le 18, 3) := by decide +kernel
theorem dX5_cutOut_15 : decode cX5_cutOut 15 = .ok (.aload_n 0, 1) := by decide +kernel
theorem dX5_cutOut_16 : decode cX5_cutOut 16 = .ok (.getfield 25, 3) := by decide +kernel
theorem dX5_cutOut_19 : decode cX5_cutOut 19 = .ok (.invokevirtual 91, 3) := by decide +kernel
theorem dX5_cutOut_22 : decode cX5_cutOut 22 = .ok (.aload_n 0, 1) := by decide +kernel
theorem dX5_cutOut_23 : decode cX5_cutOut 23 = .ok (.getfield 25, 3) := by decide +kernel
theorem dX5_cutOut_26 : decode cX5_cutOut 26 = .ok (.invokestatic 46, 3) := by decide +kernel
theorem dX5_cutOut_29 : decode cX5_cutOut 29 = .ok (.areturn, 1) := by decide +kernel
theorem dX5_cutOut_30 : decode cX5_cutOut 30 = .ok (.iload_n 3, 1) := by decide +kernel
theorem dX5_cutOut_31 : decode cX5_cutOut 31 = .ok (.aload_n 1, 1) := by decide +kernel
theorem dX5_cutOut_32 : decode cX5_cutOut 32 = .ok (.getfield 37, 3) := by decide +kernel
theorem dX5_cutOut_35 : decode cX5_cutOut 35 = .ok (.if_icmp .ne 5, 3) := by decide +kernel
theorem dX5_cutOut_38 : decode cX5_cutOut 38 = .ok (.aload_n 1, 1) := by decide +kernel
theorem dX5_cutOut_39 : decode cX5_cutOut 39 = .ok (.areturn, 1) := by decide +kernel
theorem dX5_cutOut_40 : decode cX5_cutOut 40 = .ok (.aload_n 1, 1) := by decide +kernel
theorem dX5_cutOut_41 : decode cX5_cutOut 41 = .ok (.getfield 82, 3) := by decide +kernel
theorem dX5_cutOut_44 : decode cX5_cutOut 44 = .ok (.lookupswitch 54 #[(1, 28), (2, 38)], 28) := by decide +kernel
theorem dX5_cutOut_72 : decode cX5_cutOut 72 = .ok (.aload_n 0, 1) := by decide +kernel
theorem dX5_cutOut_73 : decode cX5_cutOut 73 = .ok (.aload_n 1, 1) := by decide +kernel
theorem dX5_cutOut_74 : decode cX5_cutOut 74 = .ok (.iload_n 2, 1) := by decide +kernel
theorem dX5_cutOut_75 : decode cX5_cutOut 75 = .ok (.iload_n 3, 1) := by decide +kernel
theorem dX5_cutOut_76 : decode cX5_cutOut 76 = .ok (.iload 4, 2) := by decide +kernel
theorem dX5_cutOut_78 : decode cX5_cutOut 78 = .ok (.invokevirtual 94, 3) := by decide +kernel
theorem dX5_cutOut_81 : decode cX5_cutOut 81 = .ok (.areturn, 1) := by decide +kernel
theorem dX5_cutOut_82 : decode cX5_cutOut 82 = .ok (.aload_n 0, 1) := by decide +kernel
theorem dX5_cutOut_83 : decode cX5_cutOut 83 = .ok (.aload_n 1, 1) := by decide +kernel
theorem dX5_cutOut_84 : decode cX5_cutOut 84 = .ok (.getfield 98, 3) := by decide +kernel
theorem dX5_cutOut_87 : decode cX5_cutOut 87 = .ok (.aload_n 1, 1) := by decide +kernel
theorem dX5_cutOut_88 : decode cX5_cutOut 88 = .ok (.getfield 101, 3) := by decide +kernel
theorem dX5_cutOut_91 : decode cX5_cutOut 91 = .ok (.iload_n 2, 1) := by decide +kernel
theorem dX5_cutOut_92 : decode cX5_cutOut 92 = .ok (.iadd, 1) := by decide +kernel
theorem dX5_cutOut_93 : decode cX5_cutOut 93 = .ok (.iload_n 3, 1) := by decide +kernel
theorem dX5_cutOut_94 : decode cX5_cutOut 94 = .ok (.invokevirtual 104, 3) := by decide +kernel
theorem dX5_cutOut_97 : decode cX5_cutOut 97 = .ok (.areturn, 1) := by decide +kernel
theorem dX5_cutOut_98 : decode cX5_cutOut 98 = .ok (.aload_n 0, 1) := by decide +kernel
theorem dX5_cutOut_99 : decode cX5_cutOut 99 = .ok (.aload_n 1, 1) := by decide +kernel
theorem dX5_cutOut_100 : decode cX5_cutOut 100 = .ok (.iload_n 2, 1) := by decide +kernel
theorem dX5_cutOut_101 : decode cX5_cutOut 101 = .ok (.iload_n 3, 1) := by decide +kernel
theorem dX5_cutOut_102 : decode cX5_cutOut 102 = .ok (.invokevirtual 104, 3) := by decide +kernel
theorem dX5_cutOut_105 : decode cX5_cutOut 105 = .ok (.areturn, 1) := by decide +kernel
theorem dX5_cutOutOfLeaf_0 : decode cX5_cutOutOfLeaf 0 = .ok (.aload_n 1, 1) := by decide +kernel
theorem dX5_cutOutOfLeaf_1 : decode cX5_cutOutOfLeaf 1 = .ok (.ifnull 25, 3) := by decide +kernel
theorem dX5_cutOutOfLeaf_4 : decode cX5_cutOutOfLeaf 4 = .ok (.iload_n 3, 1) := by decide +kernel
theorem dX5_cutOutOfLeaf_5 : decode cX5_cutOutOfLeaf 5 = .ok (.aload_n 0, 1) := by decide +kernel
theorem dX5_cutOutOfLeaf_6 : decode cX5_cutOutOfLeaf 6 = .ok (.getfield 9, 3) := by decide +kernel
theorem dX5_cutOutOfLeaf_9 : decode cX5_cutOutOfLeaf 9 = .ok (.iconst 2, 1) := by decide +kernel
theorem dX5_cutOutOfLeaf_10 : decode cX5_cutOutOfLeaf 10 = .ok (.iaload, 1) := by decide +kernel
theorem dX5_cutOutOfLeaf_11 : decode cX5_cutOutOfLeaf 11 = .ok (.imul, 1) := by decide +kernel
theorem dX5_cutOutOfLeaf_12 : decode cX5_cutOutOfLeaf 12 = .ok (.aload_n 1, 1) := by decide +kernel
theorem dX5_cutOutOfLeaf_13 : decode cX5_cutOutOfLeaf 13 = .ok (.getfield 37, 3) := by decide +kernel
theorem dX5_cutOutOfLeaf_16 : decode cX5_cutOutOfLeaf 16 = .ok (.if_icmp .lt 10, 3) := by decide +kernel
theorem dX5_cutOutOfLeaf_19 : decode cX5_cutOutOfLeaf 19 = .ok (.aload_n 1, 1) := by decide +kernel
theorem dX5_cutOutOfLeaf_20 : decode cX5_cutOutOfLeaf 20 = .ok (.iload_n 2, 1) := by decide +kernel
theorem dX5_cutOutOfLeaf_21 : decode cX5_cutOutOfLeaf 21 = .ok (.iload_n 3, 1) := by decide +kernel
theorem dX5_cutOutOfLeaf_22 : decode cX5_cutOutOfLeaf 22 = .ok (.invokestatic 108, 3) := by decide +kernel
theorem dX5_cutOutOfLeaf_25 : decode cX5_cutOutOfLeaf 25 = .ok (.areturn, 1) := by decide +kernel
theorem dX5_cutOutOfLeaf_26 : decode cX5_cutOutOfLeaf 26 = .ok (.aload_n 0, 1) := by decide +kernel
theorem dX5_cutOutOfLeaf_27 : decode cX5_cutOutOfLeaf 27 = .ok (.getfield 25, 3) := by decide +kernel
theorem dX5_cutOutOfLeaf_30 : decode cX5_cutOutOfLeaf 30 = .ok (.aload_n 1, 1) := by decide +kernel
theorem dX5_cutOutOfLeaf_31 : decode cX5_cutOutOfLeaf 31 = .ok (.iload_n 2, 1) := by decide +kernel
theorem dX5_cutOutOfLeaf_32 : decode cX5_cutOutOfLeaf 32 = .ok (.iload_n 3, 1) := by decide +kernel
theorem dX5_cutOutOfLeaf_33 : decode cX5_cutOutOfLeaf 33 = .ok (.invokevirtual 111, 3) := by decide +kernel
theorem dX5_cutOutOfLeaf_36 : decode cX5_cutOutOfLeaf 36 = .ok (.aload_n 0, 1) := by decide +kernel
theorem dX5_cutOutOfLeaf_37 : decode cX5_cutOutOfLeaf 37 = .ok (.getfield 25, 3) := by decide +kernel
theorem dX5_cutOutOfLeaf_40 : decode cX5_cutOutOfLeaf 40 = .ok (.invokestatic 46, 3) := by decide +kernel
theorem dX5_cutOutOfLeaf_43 : decode cX5_cutOutOfLeaf 43 = .ok (.areturn, 1) := by decide +kernel
theorem dX5_cutOutOfJoin_0 : decode cX5_cutOutOfJoin 0 = .ok (.aload_n 1, 1) := by decide +kernel
theorem dX5_cutOutOfJoin_1 : decode cX5_cutOutOfJoin 1 = .ok (.getfield 79, 3) := by decide +kernel
theorem dX5_cutOutOfJoin_4 : decode cX5_cutOutOfJoin 4 = .ok (.ifnonnull 7, 3) := by decide +kernel
theorem dX5_cutOutOfJoin_7 : decode cX5_cutOutOfJoin 7 = .ok (.iconst 0, 1) := by decide +kernel
theorem dX5_cutOutOfJoin_8 : decode cX5_cutOutOfJoin 8 = .ok (.goto 10, 3) := by decide +kernel
theorem dX5_cutOutOfJoin_11 : decode cX5_cutOutOfJoin 11 = .ok (.aload_n 1, 1) := by decide +kernel
theorem dX5_cutOutOfJoin_12 : decode cX5_cutOutOfJoin 12 = .ok (.getfield 79, 3) := by decide +kernel
theorem dX5_cutOutOfJoin_15 : decode cX5_cutOutOfJoin 15 = .ok (.getfield 37, 3) := by decide +kernel
theorem dX5_cutOutOfJoin_18 : decode cX5_cutOutOfJoin 18 = .ok (.istore 5, 2) := by decide +kernel
theorem dX5_cutOutOfJoin_20 : decode cX5_cutOutOfJoin 20 = .ok (.iload_n 2, 1) := by decide +kernel
theorem dX5_cutOutOfJoin_21 : decode cX5_cutOutOfJoin 21 = .ok (.iload_n 3, 1) := by decide +kernel
theorem dX5_cutOutOfJoin_22 : decode cX5_cutOutOfJoin 22 = .ok (.iadd, 1) := by decide +kernel
theorem dX5_cutOutOfJoin_23 : decode cX5_cutOutOfJoin 23 = .ok (.iload 5, 2) := by decide +kernel
theorem dX5_cutOutOfJoin_25 : decode cX5_cutOutOfJoin 25 = .ok (.if_icmp .gt 18, 3) := by decide +kernel
theorem dX5_cutOutOfJoin_28 : decode cX5_cutOutOfJoin 28 = .ok (.aload_n 0, 1) := by decide +kernel
theorem dX5_cutOutOfJoin_29 : decode cX5_cutOutOfJoin 29 = .ok (.aload_n 1, 1) := by decide +kernel
theorem dX5_cutOutOfJoin_30 : decode cX5_cutOutOfJoin 30 = .ok (.getfield 79, 3) := by decide +kernel
theorem dX5_cutOutOfJoin_33 : decode cX5_cutOutOfJoin 33 = .ok (.iload_n 2, 1) := by decide +kernel
theorem dX5_cutOutOfJoin_34 : decode cX5_cutOutOfJoin 34 = .ok (.iload_n 3, 1) := by decide +kernel
theorem dX5_cutOutOfJoin_35 : decode cX5_cutOutOfJoin 35 = .ok (.iload 4, 2) := by decide +kernel
theorem dX5_cutOutOfJoin_37 : decode cX5_cutOutOfJoin 37 = .ok (.iconst 1, 1) := by decide +kernel
theorem dX5_cutOutOfJoin_38 : decode cX5_cutOutOfJoin 38 = .ok (.iadd, 1) := by decide +kernel
theorem dX5_cutOutOfJoin_39 : decode cX5_cutOutOfJoin 39 = .ok (.invokevirtual 115, 3) := by decide +kernel
theorem dX5_cutOutOfJoin_42 : decode cX5_cutOutOfJoin 42 = .ok (.areturn, 1) := by decide +kernel
theorem dX5_cutOutOfJoin_43 : decode cX5_cutOutOfJoin 43 = .ok (.iload_n 2, 1) := by decide +kernel
theorem dX5_cutOutOfJoin_44 : decode cX5_cutOutOfJoin 44 = .ok (.iload 5, 2) := by decide +kernel
theorem dX5_cutOutOfJoin_46 : decode cX5_cutOutOfJoin 46 = .ok (.if_icmp .lt 21, 3) := by decide +kernel
theorem dX5_cutOutOfJoin_49 : decode cX5_cutOutOfJoin 49 = .ok (.aload_n 0, 1) := by decide +kernel
theorem dX5_cutOutOfJoin_50 : decode cX5_cutOutOfJoin 50 = .ok (.aload_n 1, 1) := by decide +kernel
theorem dX5_cutOutOfJoin_51 : decode cX5_cutOutOfJoin 51 = .ok (.getfield 85, 3) := by decide +kernel
theorem dX5_cutOutOfJoin_54 : decode cX5_cutOutOfJoin 54 = .ok (.iload_n 2, 1) := by decide +kernel
theorem dX5_cutOutOfJoin_55 : decode cX5_cutOutOfJoin 55 = .ok (.iload 5, 2) := by decide +kernel
theorem dX5_cutOutOfJoin_57 : decode cX5_cutOutOfJoin 57 = .ok (.isub, 1) := by decide +kernel
theorem dX5_cutOutOfJoin_58 : decode cX5_cutOutOfJoin 58 = .ok (.iload_n 3, 1) := by decide +kernel
theorem dX5_cutOutOfJoin_59 : decode cX5_cutOutOfJoin 59 = .ok (.iload 4, 2) := by decide +kernel
theorem dX5_cutOutOfJoin_61 : decode cX5_cutOutOfJoin 61 = .ok (.iconst 1, 1) := by decide +kernel
theorem dX5_cutOutOfJoin_62 : decode cX5_cutOutOfJoin 62 = .ok (.iadd, 1) := by decide +kernel
theorem dX5_cutOutOfJoin_63 : decode cX5_cutOutOfJoin 63 = .ok (.invokevirtual 115, 3) := by decide +kernel
theorem dX5_cutOutOfJoin_66 : decode cX5_cutOutOfJoin 66 = .ok (.areturn, 1) := by decide +kernel
theorem dX5_cutOutOfJoin_67 : decode cX5_cutOutOfJoin 67 = .ok (.aload_n 0, 1) := by decide +kernel
theorem dX5_cutOutOfJoin_68 : decode cX5_cutOutOfJoin 68 = .ok (.aload_n 1, 1) := by decide +kernel
theorem dX5_cutOutOfJoin_69 : decode cX5_cutOutOfJoin 69 = .ok (.getfield 79, 3) := by decide +kernel
theorem dX5_cutOutOfJoin_72 : decode cX5_cutOutOfJoin 72 = .ok (.iload_n 2, 1) := by decide +kernel
theorem dX5_cutOutOfJoin_73 : decode cX5_cutOutOfJoin 73 = .ok (.iload 5, 2) := by decide +kernel
theorem dX5_cutOutOfJoin_75 : decode cX5_cutOutOfJoin 75 = .ok (.iload_n 2, 1) := by decide +kernel
theorem dX5_cutOutOfJoin_76 : decode cX5_cutOutOfJoin 76 = .ok (.isub, 1) := by decide +kernel
theorem dX5_cutOutOfJoin_77 : decode cX5_cutOutOfJoin 77 = .ok (.iload 4, 2) := by decide +kernel
theorem dX5_cutOutOfJoin_79 : decode cX5_cutOutOfJoin 79 = .ok (.iconst 1, 1) := by decide +kernel
theorem dX5_cutOutOfJoin_80 : decode cX5_cutOutOfJoin 80 = .ok (.iadd, 1) := by decide +kernel
theorem dX5_cutOutOfJoin_81 : decode cX5_cutOutOfJoin 81 = .ok (.invokevirtual 115, 3) := by decide +kernel
theorem dX5_cutOutOfJoin_84 : decode cX5_cutOutOfJoin 84 = .ok (.astore 6, 2) := by decide +kernel
theorem dX5_cutOutOfJoin_86 : decode cX5_cutOutOfJoin 86 = .ok (.aload_n 0, 1) := by decide +kernel
theorem dX5_cutOutOfJoin_87 : decode cX5_cutOutOfJoin 87 = .ok (.aload_n 1, 1) := by decide +kernel
theorem dX5_cutOutOfJoin_88 : decode cX5_cutOutOfJoin 88 = .ok (.getfield 85, 3) := by decide +kernel
theorem dX5_cutOutOfJoin_91 : decode cX5_cutOutOfJoin 91 = .ok (.iconst 0, 1) := by decide +kernel
theorem dX5_cutOutOfJoin_92 : decode cX5_cutOutOfJoin 92 = .ok (.iload_n 2, 1) := by decide +kernel
theorem dX5_cutOutOfJoin_93 : decode cX5_cutOutOfJoin 93 = .ok (.iload_n 3, 1) := by decide +kernel
theorem dX5_cutOutOfJoin_94 : decode cX5_cutOutOfJoin 94 = .ok (.iadd, 1) := by decide +kernel
theorem dX5_cutOutOfJoin_95 : decode cX5_cutOutOfJoin 95 = .ok (.iload 5, 2) := by decide +kernel
theorem dX5_cutOutOfJoin_97 : decode cX5_cutOutOfJoin 97 = .ok (.isub, 1) := by decide +kernel
theorem dX5_cutOutOfJoin_98 : decode cX5_cutOutOfJoin 98 = .ok (.iload 4, 2) := by decide +kernel
theorem dX5_cutOutOfJoin_100 : decode cX5_cutOutOfJoin 100 = .ok (.iconst 1, 1) := by decide +kernel
theorem dX5_cutOutOfJoin_101 : decode cX5_cutOutOfJoin 101 = .ok (.iadd, 1) := by decide +kernel
theorem dX5_cutOutOfJoin_102 : decode cX5_cutOutOfJoin 102 = .ok (.invokevirtual 115, 3) := by decide +kernel
theorem dX5_cutOutOfJoin_105 : decode cX5_cutOutOfJoin 105 = .ok (.astore 7, 2) := by decide +kernel
theorem dX5_cutOutOfJoin_107 : decode cX5_cutOutOfJoin 107 = .ok (.aload_n 0, 1) := by decide +kernel
theorem dX5_cutOutOfJoin_108 : decode cX5_cutOutOfJoin 108 = .ok (.aload 6, 2) := by decide +kernel
theorem dX5_cutOutOfJoin_110 : decode cX5_cutOutOfJoin 110 = .ok (.aload 7, 2) := by decide +kernel
theorem dX5_cutOutOfJoin_112 : decode cX5_cutOutOfJoin 112 = .ok (.invokevirtual 118, 3) := by decide +kernel
theorem dX5_cutOutOfJoin_115 : decode cX5_cutOutOfJoin 115 = .ok (.areturn, 1) := by decide +kernel
theorem dX6_init_0 : decode cX6_init 0 = .ok (.aload_n 0, 1) := by decide +kernel
theorem dX6_init_1 : decode cX6_init 1 = .ok (.invokespecial 1, 3) := by decide +kernel
theorem dX6_init_4 : decode cX6_init 4 = .ok (.aload_n 0, 1) := by decide +kernel
theorem dX6_init_5 : decode cX6_init 5 = .ok (.bipush 8, 2) := by decide +kernel
theorem dX6_init_7 : decode cX6_init 7 = .ok (.anewarray 9, 3) := by decide +kernel
theorem dX6_init_10 : decode cX6_init 10 = .ok (.putfield 11, 3) := by decide +kernel
theorem dX6_init_13 : decode cX6_init 13 = .ok (.aload_n 0, 1) := by decide +kernel
theorem dX6_init_14 : decode cX6_init 14 = .ok (.bipush 8, 2) := by decide +kernel
theorem dX6_init_16 : decode cX6_init 16 = .ok (.anewarray 9, 3) := by decide +kernel
theorem dX6_init_19 : decode cX6_init 19 = .ok (.putfield 15, 3) := by decide +kernel
theorem dX6_init_22 : decode cX6_init 22 = .ok (.aload_n 0, 1) := by decide +kernel
theorem dX6_init_23 : decode cX6_init 23 = .ok (.bipush 8, 2) := by decide +kernel
theorem dX6_init_25 : decode cX6_init 25 = .ok (.anewarray 9, 3) := by decide +kernel
theorem dX6_init_28 : decode cX6_init 28 = .ok (.putfield 18, 3) := by decide +kernel
theorem dX6_init_31 : decode cX6_init 31 = .ok (.aload_n 0, 1) := by decide +kernel
theorem dX6_init_32 : decode cX6_init 32 = .ok (.iconst 0, 1) := by decide +kernel
theorem dX6_init_33 : decode cX6_init 33 = .ok (.putfield 21, 3) := by decide +kernel
theorem dX6_init_36 : decode cX6_init 36 = .ok (.aload_n 0, 1) := by decide +kernel
theorem dX6_init_37 : decode cX6_init 37 = .ok (.new 25, 3) := by decide +kernel
theorem dX6_init_40 : decode cX6_init 40 = .ok (.dup, 1) := by decide +kernel
theorem dX6_init_41 : decode cX6_init 41 = .ok (.invokespecial 27, 3) := by decide +kernel
theorem dX6_init_44 : decode cX6_init 44 = .ok (.putfield 28, 3) := by decide +kernel
theorem dX6_init_47 : decode cX6_init 47 = .ok (.aload_n 0, 1) := by decide +kernel
theorem dX6_init_48 : decode cX6_init 48 = .ok (.new 32, 3) := by decide +kernel
theorem dX6_init_51 : decode cX6_init 51 = .ok (.dup, 1) := by decide +kernel
theorem dX6_init_52 : decode cX6_init 52 = .ok (.invokespecial 34, 3) := by decide +kernel
theorem dX6_init_55 : decode cX6_init 55 = .ok (.putfield 35, 3) := by decide +kernel
theorem dX6_init_58 : decode cX6_init 58 = .ok (.aload_n 0, 1) := by decide +kernel
theorem dX6_init_59 : decode cX6_init 59 = .ok (.new 39, 3) := by decide +kernel
theorem dX6_init_62 : decode cX6_init 62 = .ok (.dup, 1) := by decide +kernel
theorem dX6_init_63 : decode cX6_init 63 = .ok (.invokespecial 41, 3) := by decide +kernel
theorem dX6_init_66 : decode cX6_init 66 = .ok (.putfield 42, 3) := by decide +kernel
theorem dX6_init_69 : decode cX6_init 69 = .ok (.aload_n 0, 1) := by decide +kernel
theorem dX6_init_70 : decode cX6_init 70 = .ok (.new 46, 3) := by decide +kernel
theorem dX6_init_73 : decode cX6_init 73 = .ok (.dup, 1) := by decide +kernel
theorem dX6_init_74 : decode cX6_init 74 = .ok (.invokespecial 48, 3) := by decide +kernel
theorem dX6_init_77 : decode cX6_init 77 = .ok (.putfield 49, 3) := by decide +kernel
theorem dX6_init_80 : decode cX6_init 80 = .ok (.aload_n 0, 1) := by decide +kernel
theorem dX6_init_81 : decode cX6_init 81 = .ok (.new 53, 3) := by decide +kernel
theorem dX6_init_84 : decode cX6_init 84 = .ok (.dup, 1) := by decide +kernel
theorem dX6_init_85 : decode cX6_init 85 = .ok (.invokespecial 55, 3) := by decide +kernel
theorem dX6_init_88 : decode cX6_init 88 = .ok (.putfield 56, 3) := by decide +kernel
theorem dX6_init_91 : decode cX6_init 91 = .ok (.aload_n 0, 1) := by decide +kernel
theorem dX6_init_92 : decode cX6_init 92 = .ok (.new 25, 3) := by decide +kernel
theorem dX6_init_95 : decode cX6_init 95 = .ok (.dup, 1) := by decide +kernel
theorem dX6_init_96 : decode cX6_init 96 = .ok (.invokespecial 27, 3) := by decide +kernel
theorem dX6_init_99 : decode cX6_init 99 = .ok (.putfield 60, 3) := by decide +kernel
theorem dX6_init_102 : decode cX6_init 102 = .ok (.aload_n 0, 1) := by decide +kernel
theorem dX6_init_103 : decode cX6_init 103 = .ok (.new 25, 3) := by decide +kernel
theorem dX6_init_106 : decode cX6_init 106 = .ok (.dup, 1) := by decide +kernel
theorem dX6_init_107 : decode cX6_init 107 = .ok (.invokespecial 27, 3) := by decide +kernel
theorem dX6_init_110 : decode cX6_init 110 = .ok (.putfield 63, 3) := by decide +kernel
theorem dX6_init_113 : decode cX6_init 113 = .ok (.iconst 0, 1) := by decide +kernel
theorem dX6_init_114 : decode cX6_init 114 = .ok (.istore_n 1, 1) := by decide +kernel
theorem dX6_init_115 : decode cX6_init 115 = .ok (.iload_n 1, 1) := by decide +kernel
theorem dX6_init_116 : decode cX6_init 116 = .ok (.aload_n 0, 1) := by decide +kernel
theorem dX6_init_117 : decode cX6_init 117 = .ok (.getfield 11, 3) := by decide +kernel
theorem dX6_init_120 : decode cX6_init 120 = .ok (.arraylength, 1) := by decide +kernel
theorem dX6_init_121 : decode cX6_init 121 = .ok (.if_icmp .ge 22, 3) := by decide +kernel
theorem dX6_init_124 : decode cX6_init 124 = .ok (.aload_n 0, 1) := by decide +kernel
theorem dX6_init_125 : decode cX6_init 125 = .ok (.getfield 11, 3) := by decide +kernel
theorem dX6_init_128 : decode cX6_init 128 = .ok (.iload_n 1, 1) := by decide +kernel
theorem dX6_init_129 : decode cX6_init 129 = .ok (.aload_n 0, 1) := by decide +kernel
theorem dX6_init_130 : decode cX6_init 130 = .ok (.getfield 28, 3) := by decide +kernel
theorem dX6_init_133 : decode cX6_init 133 = .ok (.invokestatic 66, 3) := by decide +kernel
theorem dX6_init_136 : decode cX6_init 136 = .ok (.aastore, 1) := by decide +kernel
theorem dX6_init_137 : decode cX6_init 137 = .ok (.iinc 1 1, 3) := by decide +kernel
theorem dX6_init_140 : decode cX6_init 140 = .ok (.goto (-25), 3) := by decide +kernel
theorem dX6_init_143 : decode cX6_init 143 = .ok (.return_, 1) := by decide +kernel
theorem dX6_rule_0 : decode cX6_rule 0 = .ok (.iload_n 1, 1) := by decide +kernel
theorem dX6_rule_1 : decode cX6_rule 1 = .ok (.invokestatic 70, 3) := by decide +kernel
theorem dX6_rule_4 : decode cX6_rule 4 = .ok (.ifCond .eq 21, 3) := by decide +kernel
theorem dX6_rule_7 : decode cX6_rule 7 = .ok (.iload_n 2, 1) := by decide +kernel
theorem dX6_rule_8 : decode cX6_rule 8 = .ok (.getstatic 74, 3) := by decide +kernel
theorem dX6_rule_11 : decode cX6_rule 11 = .ok (.iload_n 1, 1) := by decide +kernel
theorem dX6_rule_12 : decode cX6_rule 12 = .ok (.iaload, 1) := by decide +kernel
theorem dX6_rule_13 : decode cX6_rule 13 = .ok (.if_icmp .lt 12, 3) := by decide +kernel
theorem dX6_rule_16 : decode cX6_rule 16 = .ok (.iload_n 2, 1) := by decide +kernel
theorem dX6_rule_17 : decode cX6_rule 17 = .ok (.getstatic 78, 3) := by decide +kernel
theorem dX6_rule_20 : decode cX6_rule 20 = .ok (.iload_n 1, 1) := by decide +kernel
theorem dX6_rule_21 : decode cX6_rule 21 = .ok (.iaload, 1) := by decide +kernel
theorem dX6_rule_22 : decode cX6_rule 22 = .ok (.if_icmp .le 6, 3) := by decide +kernel
theorem dX6_rule_25 : decode cX6_rule 25 = .ok (.bipush (-2), 2) := by decide +kernel
theorem dX6_rule_27 : decode cX6_rule 27 = .ok (.ireturn, 1) := by decide +kernel
theorem dX6_rule_28 : decode cX6_rule 28 = .ok (.aload_n 0, 1) := by decide +kernel
theorem dX6_rule_29 : decode cX6_rule 29 = .ok (.getfield 49, 3) := by decide +kernel
theorem dX6_rule_32 : decode cX6_rule 32 = .ok (.getfield 81, 3) := by decide +kernel
theorem dX6_rule_35 : decode cX6_rule 35 = .ok (.iload_n 1, 1) := by decide +kernel
theorem dX6_rule_36 : decode cX6_rule 36 = .ok (.iaload, 1) := by decide +kernel
theorem dX6_rule_37 : decode cX6_rule 37 = .ok (.istore_n 3, 1) := by decide +kernel
theorem dX6_rule_38 : decode cX6_rule 38 = .ok (.aload_n 0, 1) := by decide +kernel
theorem dX6_rule_39 : decode cX6_rule 39 = .ok (.getfield 49, 3) := by decide +kernel
theorem dX6_rule_42 : decode cX6_rule 42 = .ok (.getfield 81, 3) := by decide +kernel
theorem dX6_rule_45 : decode cX6_rule 45 = .ok (.iload_n 1, 1) := by decide +kernel
theorem dX6_rule_46 : decode cX6_rule 46 = .ok (.iload_n 2, 1) := by decide +kernel
theorem dX6_rule_47 : decode cX6_rule 47 = .ok (.iastore, 1) := by decide +kernel
theorem dX6_rule_48 : decode cX6_rule 48 = .ok (.iload_n 3, 1) := by decide +kernel
theorem dX6_rule_49 : decode cX6_rule 49 = .ok (.ireturn, 1) := by decide +kernel
theorem dX6_say_0 : decode cX6_say 0 = .ok (.iload_n 1, 1) := by decide +kernel
theorem dX6_say_1 : decode cX6_say 1 = .ok (.iconst 1, 1) := by decide +kernel
theorem dX6_say_2 : decode cX6_say 2 = .ok (.if_icmp .lt 10, 3) := by decide +kernel
theorem dX6_say_5 : decode cX6_say 5 = .ok (.iload_n 1, 1) := by decide +kernel
theorem dX6_say_6 : decode cX6_say 6 = .ok (.sipush 9999, 3) := by decide +kernel
theorem dX6_say_9 : decode cX6_say 9 = .ok (.if_icmp .le 6, 3) := by decide +kernel
theorem dX6_say_12 : decode cX6_say 12 = .ok (.bipush (-2), 2) := by decide +kernel
theorem dX6_say_14 : decode cX6_say 14 = .ok (.ireturn, 1) := by decide +kernel
theorem dX6_say_15 : decode cX6_say 15 = .ok (.aload_n 0, 1) := by decide +kernel
theorem dX6_say_16 : decode cX6_say 16 = .ok (.getfield 28, 3) := by decide +kernel
theorem dX6_say_19 : decode cX6_say 19 = .ok (.getfield 84, 3) := by decide +kernel
theorem dX6_say_22 : decode cX6_say 22 = .ok (.bipush 40, 2) := by decide +kernel
theorem dX6_say_24 : decode cX6_say 24 = .ok (.if_icmp .lt 6, 3) := by decide +kernel
theorem dX6_say_27 : decode cX6_say 27 = .ok (.bipush (-4), 2) := by decide +kernel
theorem dX6_say_29 : decode cX6_say 29 = .ok (.ireturn, 1) := by decide +kernel
theorem dX6_say_30 : decode cX6_say 30 = .ok (.aload_n 0, 1) := by decide +kernel
end
section
theorem dX6_say_31 : decode cX6_say 31 = .ok (.getfield 28, 3) := by decide +kernel
theorem dX6_say_34 : decode cX6_say 34 = .ok (.iload_n 1, 1) := by decide +kernel
theorem dX6_say_35 : decode cX6_say 35 = .ok (.invokevirtual 87, 3) := by decide +kernel
theorem dX6_say_38 : decode cX6_say 38 = .ok (.aload_n 0, 1) := by decide +kernel
theorem dX6_say_39 : decode cX6_say 39 = .ok (.getfield 28, 3) := by decide +kernel
theorem dX6_say_42 : decode cX6_say 42 = .ok (.getfield 84, 3) := by decide +kernel
theorem dX6_say_45 : decode cX6_say 45 = .ok (.ireturn, 1) := by decide +kernel
theorem dX6_put_0 : decode cX6_put 0 = .ok (.iload_n 1, 1) := by decide +kernel
theorem dX6_put_1 : decode cX6_put 1 = .ok (.invokestatic 91, 3) := by decide +kernel
theorem dX6_put_4 : decode cX6_put 4 = .ok (.ifCond .ne 5, 3) := by decide +kernel
theorem dX6_put_7 : decode cX6_put 7 = .ok (.iconst (-1), 1) := by decide +kernel
theorem dX6_put_8 : decode cX6_put 8 = .ok (.ireturn, 1) := by decide +kernel
theorem dX6_put_9 : decode cX6_put 9 = .ok (.aload_n 0, 1) := by decide +kernel
theorem dX6_put_10 : decode cX6_put 10 = .ok (.getfield 28, 3) := by decide +kernel
theorem dX6_put_13 : decode cX6_put 13 = .ok (.invokestatic 66, 3) := by decide +kernel
theorem dX6_put_16 : decode cX6_put 16 = .ok (.astore_n 2, 1) := by decide +kernel
theorem dX6_put_17 : decode cX6_put 17 = .ok (.aload_n 0, 1) := by decide +kernel
theorem dX6_put_18 : decode cX6_put 18 = .ok (.getfield 28, 3) := by decide +kernel
theorem dX6_put_21 : decode cX6_put 21 = .ok (.invokevirtual 94, 3) := by decide +kernel
theorem dX6_put_24 : decode cX6_put 24 = .ok (.aload_n 0, 1) := by decide +kernel
theorem dX6_put_25 : decode cX6_put 25 = .ok (.iload_n 1, 1) := by decide +kernel
theorem dX6_put_26 : decode cX6_put 26 = .ok (.aload_n 2, 1) := by decide +kernel
theorem dX6_put_27 : decode cX6_put 27 = .ok (.invokevirtual 97, 3) := by decide +kernel
theorem dX6_put_30 : decode cX6_put 30 = .ok (.ireturn, 1) := by decide +kernel
theorem dX6_copy_0 : decode cX6_copy 0 = .ok (.aload_n 0, 1) := by decide +kernel
theorem dX6_copy_1 : decode cX6_copy 1 = .ok (.iload_n 2, 1) := by decide +kernel
theorem dX6_copy_2 : decode cX6_copy 2 = .ok (.invokevirtual 101, 3) := by decide +kernel
theorem dX6_copy_5 : decode cX6_copy 5 = .ok (.astore_n 3, 1) := by decide +kernel
theorem dX6_copy_6 : decode cX6_copy 6 = .ok (.iload_n 1, 1) := by decide +kernel
theorem dX6_copy_7 : decode cX6_copy 7 = .ok (.invokestatic 91, 3) := by decide +kernel
theorem dX6_copy_10 : decode cX6_copy 10 = .ok (.ifCond .eq 7, 3) := by decide +kernel
theorem dX6_copy_13 : decode cX6_copy 13 = .ok (.aload_n 3, 1) := by decide +kernel
theorem dX6_copy_14 : decode cX6_copy 14 = .ok (.ifnonnull 5, 3) := by decide +kernel
theorem dX6_copy_17 : decode cX6_copy 17 = .ok (.iconst (-1), 1) := by decide +kernel
theorem dX6_copy_18 : decode cX6_copy 18 = .ok (.ireturn, 1) := by decide +kernel
theorem dX6_copy_19 : decode cX6_copy 19 = .ok (.aload_n 0, 1) := by decide +kernel
theorem dX6_copy_20 : decode cX6_copy 20 = .ok (.iload_n 1, 1) := by decide +kernel
theorem dX6_copy_21 : decode cX6_copy 21 = .ok (.aload_n 3, 1) := by decide +kernel
theorem dX6_copy_22 : decode cX6_copy 22 = .ok (.invokevirtual 97, 3) := by decide +kernel
theorem dX6_copy_25 : decode cX6_copy 25 = .ok (.ireturn, 1) := by decide +kernel
theorem dX6_join_0 : decode cX6_join 0 = .ok (.aload_n 0, 1) := by decide +kernel
theorem dX6_join_1 : decode cX6_join 1 = .ok (.iload_n 2, 1) := by decide +kernel
theorem dX6_join_2 : decode cX6_join 2 = .ok (.invokevirtual 101, 3) := by decide +kernel
theorem dX6_join_5 : decode cX6_join 5 = .ok (.astore 4, 2) := by decide +kernel
theorem dX6_join_7 : decode cX6_join 7 = .ok (.aload_n 0, 1) := by decide +kernel
theorem dX6_join_8 : decode cX6_join 8 = .ok (.iload_n 3, 1) := by decide +kernel
theorem dX6_join_9 : decode cX6_join 9 = .ok (.invokevirtual 101, 3) := by decide +kernel
theorem dX6_join_12 : decode cX6_join 12 = .ok (.astore 5, 2) := by decide +kernel
theorem dX6_join_14 : decode cX6_join 14 = .ok (.iload_n 1, 1) := by decide +kernel
theorem dX6_join_15 : decode cX6_join 15 = .ok (.invokestatic 91, 3) := by decide +kernel
theorem dX6_join_18 : decode cX6_join 18 = .ok (.ifCond .eq 13, 3) := by decide +kernel
theorem dX6_join_21 : decode cX6_join 21 = .ok (.aload 4, 2) := by decide +kernel
theorem dX6_join_23 : decode cX6_join 23 = .ok (.ifnull 8, 3) := by decide +kernel
theorem dX6_join_26 : decode cX6_join 26 = .ok (.aload 5, 2) := by decide +kernel
theorem dX6_join_28 : decode cX6_join 28 = .ok (.ifnonnull 5, 3) := by decide +kernel
theorem dX6_join_31 : decode cX6_join 31 = .ok (.iconst (-1), 1) := by decide +kernel
theorem dX6_join_32 : decode cX6_join 32 = .ok (.ireturn, 1) := by decide +kernel
theorem dX6_join_33 : decode cX6_join 33 = .ok (.aload 4, 2) := by decide +kernel
theorem dX6_join_35 : decode cX6_join 35 = .ok (.getfield 105, 3) := by decide +kernel
theorem dX6_join_38 : decode cX6_join 38 = .ok (.aload 5, 2) := by decide +kernel
theorem dX6_join_40 : decode cX6_join 40 = .ok (.getfield 105, 3) := by decide +kernel
theorem dX6_join_43 : decode cX6_join 43 = .ok (.iadd, 1) := by decide +kernel
theorem dX6_join_44 : decode cX6_join 44 = .ok (.bipush 120, 2) := by decide +kernel
theorem dX6_join_46 : decode cX6_join 46 = .ok (.if_icmp .le 6, 3) := by decide +kernel
theorem dX6_join_49 : decode cX6_join 49 = .ok (.bipush (-4), 2) := by decide +kernel
theorem dX6_join_51 : decode cX6_join 51 = .ok (.ireturn, 1) := by decide +kernel
theorem dX6_join_52 : decode cX6_join 52 = .ok (.aload_n 0, 1) := by decide +kernel
theorem dX6_join_53 : decode cX6_join 53 = .ok (.getfield 49, 3) := by decide +kernel
theorem dX6_join_56 : decode cX6_join 56 = .ok (.invokevirtual 106, 3) := by decide +kernel
theorem dX6_join_59 : decode cX6_join 59 = .ok (.aload_n 0, 1) := by decide +kernel
theorem dX6_join_60 : decode cX6_join 60 = .ok (.iload_n 1, 1) := by decide +kernel
theorem dX6_join_61 : decode cX6_join 61 = .ok (.aload_n 0, 1) := by decide +kernel
theorem dX6_join_62 : decode cX6_join 62 = .ok (.getfield 49, 3) := by decide +kernel
theorem dX6_join_65 : decode cX6_join 65 = .ok (.aload 4, 2) := by decide +kernel
theorem dX6_join_67 : decode cX6_join 67 = .ok (.aload 5, 2) := by decide +kernel
theorem dX6_join_69 : decode cX6_join 69 = .ok (.invokevirtual 109, 3) := by decide +kernel
theorem dX6_join_72 : decode cX6_join 72 = .ok (.invokevirtual 97, 3) := by decide +kernel
theorem dX6_join_75 : decode cX6_join 75 = .ok (.ireturn, 1) := by decide +kernel
theorem dX6_cut_0 : decode cX6_cut 0 = .ok (.aload_n 0, 1) := by decide +kernel
theorem dX6_cut_1 : decode cX6_cut 1 = .ok (.iload_n 2, 1) := by decide +kernel
theorem dX6_cut_2 : decode cX6_cut 2 = .ok (.invokevirtual 101, 3) := by decide +kernel
theorem dX6_cut_5 : decode cX6_cut 5 = .ok (.astore 5, 2) := by decide +kernel
theorem dX6_cut_7 : decode cX6_cut 7 = .ok (.iload_n 1, 1) := by decide +kernel
theorem dX6_cut_8 : decode cX6_cut 8 = .ok (.invokestatic 91, 3) := by decide +kernel
theorem dX6_cut_11 : decode cX6_cut 11 = .ok (.ifCond .eq 8, 3) := by decide +kernel
theorem dX6_cut_14 : decode cX6_cut 14 = .ok (.aload 5, 2) := by decide +kernel
theorem dX6_cut_16 : decode cX6_cut 16 = .ok (.ifnonnull 5, 3) := by decide +kernel
theorem dX6_cut_19 : decode cX6_cut 19 = .ok (.iconst (-1), 1) := by decide +kernel
theorem dX6_cut_20 : decode cX6_cut 20 = .ok (.ireturn, 1) := by decide +kernel
theorem dX6_cut_21 : decode cX6_cut 21 = .ok (.iload_n 3, 1) := by decide +kernel
theorem dX6_cut_22 : decode cX6_cut 22 = .ok (.ifCond .lt 29, 3) := by decide +kernel
theorem dX6_cut_25 : decode cX6_cut 25 = .ok (.iload 4, 2) := by decide +kernel
theorem dX6_cut_27 : decode cX6_cut 27 = .ok (.ifCond .lt 24, 3) := by decide +kernel
theorem dX6_cut_30 : decode cX6_cut 30 = .ok (.iload_n 3, 1) := by decide +kernel
theorem dX6_cut_31 : decode cX6_cut 31 = .ok (.aload 5, 2) := by decide +kernel
theorem dX6_cut_33 : decode cX6_cut 33 = .ok (.getfield 105, 3) := by decide +kernel
theorem dX6_cut_36 : decode cX6_cut 36 = .ok (.if_icmp .gt 15, 3) := by decide +kernel
theorem dX6_cut_39 : decode cX6_cut 39 = .ok (.iload 4, 2) := by decide +kernel
theorem dX6_cut_41 : decode cX6_cut 41 = .ok (.aload 5, 2) := by decide +kernel
theorem dX6_cut_43 : decode cX6_cut 43 = .ok (.getfield 105, 3) := by decide +kernel
theorem dX6_cut_46 : decode cX6_cut 46 = .ok (.iload_n 3, 1) := by decide +kernel
theorem dX6_cut_47 : decode cX6_cut 47 = .ok (.isub, 1) := by decide +kernel
theorem dX6_cut_48 : decode cX6_cut 48 = .ok (.if_icmp .le 6, 3) := by decide +kernel
theorem dX6_cut_51 : decode cX6_cut 51 = .ok (.bipush (-2), 2) := by decide +kernel
theorem dX6_cut_53 : decode cX6_cut 53 = .ok (.ireturn, 1) := by decide +kernel
theorem dX6_cut_54 : decode cX6_cut 54 = .ok (.aload_n 0, 1) := by decide +kernel
theorem dX6_cut_55 : decode cX6_cut 55 = .ok (.getfield 49, 3) := by decide +kernel
theorem dX6_cut_58 : decode cX6_cut 58 = .ok (.invokevirtual 106, 3) := by decide +kernel
theorem dX6_cut_61 : decode cX6_cut 61 = .ok (.aload_n 0, 1) := by decide +kernel
theorem dX6_cut_62 : decode cX6_cut 62 = .ok (.iload_n 1, 1) := by decide +kernel
theorem dX6_cut_63 : decode cX6_cut 63 = .ok (.aload_n 0, 1) := by decide +kernel
theorem dX6_cut_64 : decode cX6_cut 64 = .ok (.getfield 49, 3) := by decide +kernel
theorem dX6_cut_67 : decode cX6_cut 67 = .ok (.aload 5, 2) := by decide +kernel
theorem dX6_cut_69 : decode cX6_cut 69 = .ok (.iload_n 3, 1) := by decide +kernel
theorem dX6_cut_70 : decode cX6_cut 70 = .ok (.iload 4, 2) := by decide +kernel
theorem dX6_cut_72 : decode cX6_cut 72 = .ok (.iconst 0, 1) := by decide +kernel
theorem dX6_cut_73 : decode cX6_cut 73 = .ok (.invokevirtual 113, 3) := by decide +kernel
theorem dX6_cut_76 : decode cX6_cut 76 = .ok (.invokevirtual 97, 3) := by decide +kernel
theorem dX6_cut_79 : decode cX6_cut 79 = .ok (.ireturn, 1) := by decide +kernel
theorem dX6_flat_0 : decode cX6_flat 0 = .ok (.aload_n 0, 1) := by decide +kernel
theorem dX6_flat_1 : decode cX6_flat 1 = .ok (.iload_n 1, 1) := by decide +kernel
theorem dX6_flat_2 : decode cX6_flat 2 = .ok (.invokevirtual 101, 3) := by decide +kernel
theorem dX6_flat_5 : decode cX6_flat 5 = .ok (.astore_n 2, 1) := by decide +kernel
theorem dX6_flat_6 : decode cX6_flat 6 = .ok (.aload_n 2, 1) := by decide +kernel
theorem dX6_flat_7 : decode cX6_flat 7 = .ok (.ifnonnull 5, 3) := by decide +kernel
theorem dX6_flat_10 : decode cX6_flat 10 = .ok (.iconst (-1), 1) := by decide +kernel
theorem dX6_flat_11 : decode cX6_flat 11 = .ok (.ireturn, 1) := by decide +kernel
theorem dX6_flat_12 : decode cX6_flat 12 = .ok (.aload_n 0, 1) := by decide +kernel
theorem dX6_flat_13 : decode cX6_flat 13 = .ok (.getfield 42, 3) := by decide +kernel
theorem dX6_flat_16 : decode cX6_flat 16 = .ok (.aload_n 2, 1) := by decide +kernel
theorem dX6_flat_17 : decode cX6_flat 17 = .ok (.invokevirtual 117, 3) := by decide +kernel
theorem dX6_flat_20 : decode cX6_flat 20 = .ok (.aload_n 2, 1) := by decide +kernel
theorem dX6_flat_21 : decode cX6_flat 21 = .ok (.getfield 121, 3) := by decide +kernel
theorem dX6_flat_24 : decode cX6_flat 24 = .ok (.ifCond .eq 19, 3) := by decide +kernel
theorem dX6_flat_27 : decode cX6_flat 27 = .ok (.aload_n 0, 1) := by decide +kernel
theorem dX6_flat_28 : decode cX6_flat 28 = .ok (.getfield 60, 3) := by decide +kernel
theorem dX6_flat_31 : decode cX6_flat 31 = .ok (.aload_n 2, 1) := by decide +kernel
theorem dX6_flat_32 : decode cX6_flat 32 = .ok (.invokevirtual 124, 3) := by decide +kernel
theorem dX6_flat_35 : decode cX6_flat 35 = .ok (.aload_n 2, 1) := by decide +kernel
theorem dX6_flat_36 : decode cX6_flat 36 = .ok (.aload_n 0, 1) := by decide +kernel
theorem dX6_flat_37 : decode cX6_flat 37 = .ok (.getfield 60, 3) := by decide +kernel
theorem dX6_flat_40 : decode cX6_flat 40 = .ok (.invokevirtual 125, 3) := by decide +kernel
theorem dX6_flat_43 : decode cX6_flat 43 = .ok (.aload_n 0, 1) := by decide +kernel
theorem dX6_flat_44 : decode cX6_flat 44 = .ok (.getfield 42, 3) := by decide +kernel
theorem dX6_flat_47 : decode cX6_flat 47 = .ok (.getfield 129, 3) := by decide +kernel
theorem dX6_flat_50 : decode cX6_flat 50 = .ok (.ireturn, 1) := by decide +kernel
theorem dX6_sign_0 : decode cX6_sign 0 = .ok (.aload_n 0, 1) := by decide +kernel
theorem dX6_sign_1 : decode cX6_sign 1 = .ok (.iload_n 1, 1) := by decide +kernel
theorem dX6_sign_2 : decode cX6_sign 2 = .ok (.invokevirtual 101, 3) := by decide +kernel
theorem dX6_sign_5 : decode cX6_sign 5 = .ok (.astore_n 3, 1) := by decide +kernel
theorem dX6_sign_6 : decode cX6_sign 6 = .ok (.aload_n 3, 1) := by decide +kernel
theorem dX6_sign_7 : decode cX6_sign 7 = .ok (.ifnonnull 5, 3) := by decide +kernel
theorem dX6_sign_10 : decode cX6_sign 10 = .ok (.iconst (-1), 1) := by decide +kernel
theorem dX6_sign_11 : decode cX6_sign 11 = .ok (.ireturn, 1) := by decide +kernel
theorem dX6_sign_12 : decode cX6_sign 12 = .ok (.iload_n 2, 1) := by decide +kernel
theorem dX6_sign_13 : decode cX6_sign 13 = .ok (.ifCond .lt 11, 3) := by decide +kernel
theorem dX6_sign_16 : decode cX6_sign 16 = .ok (.iload_n 2, 1) := by decide +kernel
theorem dX6_sign_17 : decode cX6_sign 17 = .ok (.aload_n 3, 1) := by decide +kernel
theorem dX6_sign_18 : decode cX6_sign 18 = .ok (.getfield 105, 3) := by decide +kernel
theorem dX6_sign_21 : decode cX6_sign 21 = .ok (.if_icmp .lt 6, 3) := by decide +kernel
theorem dX6_sign_24 : decode cX6_sign 24 = .ok (.bipush (-6), 2) := by decide +kernel
theorem dX6_sign_26 : decode cX6_sign 26 = .ok (.ireturn, 1) := by decide +kernel
theorem dX6_sign_27 : decode cX6_sign 27 = .ok (.aload_n 0, 1) := by decide +kernel
theorem dX6_sign_28 : decode cX6_sign 28 = .ok (.getfield 60, 3) := by decide +kernel
theorem dX6_sign_31 : decode cX6_sign 31 = .ok (.aload_n 3, 1) := by decide +kernel
theorem dX6_sign_32 : decode cX6_sign 32 = .ok (.invokevirtual 124, 3) := by decide +kernel
theorem dX6_sign_35 : decode cX6_sign 35 = .ok (.aload_n 0, 1) := by decide +kernel
theorem dX6_sign_36 : decode cX6_sign 36 = .ok (.getfield 60, 3) := by decide +kernel
theorem dX6_sign_39 : decode cX6_sign 39 = .ok (.iload_n 2, 1) := by decide +kernel
theorem dX6_sign_40 : decode cX6_sign 40 = .ok (.invokevirtual 130, 3) := by decide +kernel
theorem dX6_sign_43 : decode cX6_sign 43 = .ok (.ireturn, 1) := by decide +kernel
theorem dX6_hash_0 : decode cX6_hash 0 = .ok (.aload_n 0, 1) := by decide +kernel
theorem dX6_hash_1 : decode cX6_hash 1 = .ok (.iload_n 1, 1) := by decide +kernel
theorem dX6_hash_2 : decode cX6_hash 2 = .ok (.invokevirtual 101, 3) := by decide +kernel
theorem dX6_hash_5 : decode cX6_hash 5 = .ok (.astore_n 2, 1) := by decide +kernel
theorem dX6_hash_6 : decode cX6_hash 6 = .ok (.aload_n 2, 1) := by decide +kernel
theorem dX6_hash_7 : decode cX6_hash 7 = .ok (.ifnonnull 5, 3) := by decide +kernel
theorem dX6_hash_10 : decode cX6_hash 10 = .ok (.iconst 0, 1) := by decide +kernel
theorem dX6_hash_11 : decode cX6_hash 11 = .ok (.ireturn, 1) := by decide +kernel
theorem dX6_hash_12 : decode cX6_hash 12 = .ok (.aload_n 0, 1) := by decide +kernel
theorem dX6_hash_13 : decode cX6_hash 13 = .ok (.getfield 60, 3) := by decide +kernel
theorem dX6_hash_16 : decode cX6_hash 16 = .ok (.aload_n 2, 1) := by decide +kernel
theorem dX6_hash_17 : decode cX6_hash 17 = .ok (.invokevirtual 124, 3) := by decide +kernel
theorem dX6_hash_20 : decode cX6_hash 20 = .ok (.aload_n 0, 1) := by decide +kernel
theorem dX6_hash_21 : decode cX6_hash 21 = .ok (.getfield 60, 3) := by decide +kernel
theorem dX6_hash_24 : decode cX6_hash 24 = .ok (.invokevirtual 134, 3) := by decide +kernel
theorem dX6_hash_27 : decode cX6_hash 27 = .ok (.ireturn, 1) := by decide +kernel
theorem dX6_told_0 : decode cX6_told 0 = .ok (.aload_n 0, 1) := by decide +kernel
theorem dX6_told_1 : decode cX6_told 1 = .ok (.iload_n 1, 1) := by decide +kernel
theorem dX6_told_2 : decode cX6_told 2 = .ok (.invokevirtual 101, 3) := by decide +kernel
theorem dX6_told_5 : decode cX6_told 5 = .ok (.astore_n 3, 1) := by decide +kernel
theorem dX6_told_6 : decode cX6_told 6 = .ok (.aload_n 3, 1) := by decide +kernel
theorem dX6_told_7 : decode cX6_told 7 = .ok (.ifnonnull 5, 3) := by decide +kernel
theorem dX6_told_10 : decode cX6_told 10 = .ok (.iconst (-1), 1) := by decide +kernel
theorem dX6_told_11 : decode cX6_told 11 = .ok (.ireturn, 1) := by decide +kernel
theorem dX6_told_12 : decode cX6_told 12 = .ok (.iload_n 2, 1) := by decide +kernel
theorem dX6_told_13 : decode cX6_told 13 = .ok (.tableswitch 125 0 6 #[43, 48, 53, 58, 74, 90, 106], 43) := by decide +kernel
theorem dX6_told_56 : decode cX6_told 56 = .ok (.aload_n 3, 1) := by decide +kernel
theorem dX6_told_57 : decode cX6_told 57 = .ok (.getfield 105, 3) := by decide +kernel
theorem dX6_told_60 : decode cX6_told 60 = .ok (.ireturn, 1) := by decide +kernel
theorem dX6_told_61 : decode cX6_told 61 = .ok (.aload_n 3, 1) := by decide +kernel
theorem dX6_told_62 : decode cX6_told 62 = .ok (.getfield 121, 3) := by decide +kernel
theorem dX6_told_65 : decode cX6_told 65 = .ok (.ireturn, 1) := by decide +kernel
theorem dX6_told_66 : decode cX6_told 66 = .ok (.aload_n 3, 1) := by decide +kernel
theorem dX6_told_67 : decode cX6_told 67 = .ok (.invokevirtual 138, 3) := by decide +kernel
theorem dX6_told_70 : decode cX6_told 70 = .ok (.ireturn, 1) := by decide +kernel
theorem dX6_told_71 : decode cX6_told 71 = .ok (.aload_n 0, 1) := by decide +kernel
theorem dX6_told_72 : decode cX6_told 72 = .ok (.getfield 42, 3) := by decide +kernel
theorem dX6_told_75 : decode cX6_told 75 = .ok (.aload_n 3, 1) := by decide +kernel
theorem dX6_told_76 : decode cX6_told 76 = .ok (.invokevirtual 117, 3) := by decide +kernel
theorem dX6_told_79 : decode cX6_told 79 = .ok (.aload_n 0, 1) := by decide +kernel
theorem dX6_told_80 : decode cX6_told 80 = .ok (.getfield 42, 3) := by decide +kernel
theorem dX6_told_83 : decode cX6_told 83 = .ok (.getfield 129, 3) := by decide +kernel
theorem dX6_told_86 : decode cX6_told 86 = .ok (.ireturn, 1) := by decide +kernel
theorem dX6_told_87 : decode cX6_told 87 = .ok (.aload_n 0, 1) := by decide +kernel
theorem dX6_told_88 : decode cX6_told 88 = .ok (.getfield 56, 3) := by decide +kernel
theorem dX6_told_91 : decode cX6_told 91 = .ok (.aload_n 3, 1) := by decide +kernel
theorem dX6_told_92 : decode cX6_told 92 = .ok (.invokevirtual 141, 3) := by decide +kernel
theorem dX6_told_95 : decode cX6_told 95 = .ok (.aload_n 0, 1) := by decide +kernel
theorem dX6_told_96 : decode cX6_told 96 = .ok (.getfield 56, 3) := by decide +kernel
theorem dX6_told_99 : decode cX6_told 99 = .ok (.getfield 144, 3) := by decide +kernel
theorem dX6_told_102 : decode cX6_told 102 = .ok (.ireturn, 1) := by decide +kernel
theorem dX6_told_103 : decode cX6_told 103 = .ok (.aload_n 0, 1) := by decide +kernel
theorem dX6_told_104 : decode cX6_told 104 = .ok (.getfield 56, 3) := by decide +kernel
theorem dX6_told_107 : decode cX6_told 107 = .ok (.aload_n 3, 1) := by decide +kernel
theorem dX6_told_108 : decode cX6_told 108 = .ok (.invokevirtual 141, 3) := by decide +kernel
theorem dX6_told_111 : decode cX6_told 111 = .ok (.aload_n 0, 1) := by decide +kernel
theorem dX6_told_112 : decode cX6_told 112 = .ok (.getfield 56, 3) := by decide +kernel
theorem dX6_told_115 : decode cX6_told 115 = .ok (.getfield 147, 3) := by decide +kernel
theorem dX6_told_118 : decode cX6_told 118 = .ok (.ireturn, 1) := by decide +kernel
theorem dX6_told_119 : decode cX6_told 119 = .ok (.aload_n 0, 1) := by decide +kernel
theorem dX6_told_120 : decode cX6_told 120 = .ok (.getfield 60, 3) := by decide +kernel
theorem dX6_told_123 : decode cX6_told 123 = .ok (.aload_n 3, 1) := by decide +kernel
theorem dX6_told_124 : decode cX6_told 124 = .ok (.invokevirtual 124, 3) := by decide +kernel
theorem dX6_told_127 : decode cX6_told 127 = .ok (.aload_n 0, 1) := by decide +kernel
theorem dX6_told_128 : decode cX6_told 128 = .ok (.getfield 60, 3) := by decide +kernel
theorem dX6_told_131 : decode cX6_told 131 = .ok (.invokevirtual 150, 3) := by decide +kernel
theorem dX6_told_134 : decode cX6_told 134 = .ok (.invokestatic 154, 3) := by decide +kernel
theorem dX6_told_137 : decode cX6_told 137 = .ok (.ireturn, 1) := by decide +kernel
theorem dX6_told_138 : decode cX6_told 138 = .ok (.bipush (-2), 2) := by decide +kernel
theorem dX6_told_140 : decode cX6_told 140 = .ok (.ireturn, 1) := by decide +kernel
theorem dX6_piece_0 : decode cX6_piece 0 = .ok (.aload_n 0, 1) := by decide +kernel
theorem dX6_piece_1 : decode cX6_piece 1 = .ok (.iload_n 1, 1) := by decide +kernel
theorem dX6_piece_2 : decode cX6_piece 2 = .ok (.invokevirtual 101, 3) := by decide +kernel
theorem dX6_piece_5 : decode cX6_piece 5 = .ok (.astore 4, 2) := by decide +kernel
theorem dX6_piece_7 : decode cX6_piece 7 = .ok (.aload 4, 2) := by decide +kernel
theorem dX6_piece_9 : decode cX6_piece 9 = .ok (.ifnonnull 5, 3) := by decide +kernel
theorem dX6_piece_12 : decode cX6_piece 12 = .ok (.iconst (-1), 1) := by decide +kernel
theorem dX6_piece_13 : decode cX6_piece 13 = .ok (.ireturn, 1) := by decide +kernel
theorem dX6_piece_14 : decode cX6_piece 14 = .ok (.iload_n 3, 1) := by decide +kernel
theorem dX6_piece_15 : decode cX6_piece 15 = .ok (.ifCond .lt 8, 3) := by decide +kernel
theorem dX6_piece_18 : decode cX6_piece 18 = .ok (.iload_n 3, 1) := by decide +kernel
theorem dX6_piece_19 : decode cX6_piece 19 = .ok (.iconst 3, 1) := by decide +kernel
theorem dX6_piece_20 : decode cX6_piece 20 = .ok (.if_icmp .le 6, 3) := by decide +kernel
theorem dX6_piece_23 : decode cX6_piece 23 = .ok (.bipush (-2), 2) := by decide +kernel
theorem dX6_piece_25 : decode cX6_piece 25 = .ok (.ireturn, 1) := by decide +kernel
theorem dX6_piece_26 : decode cX6_piece 26 = .ok (.aload_n 0, 1) := by decide +kernel
theorem dX6_piece_27 : decode cX6_piece 27 = .ok (.getfield 42, 3) := by decide +kernel
theorem dX6_piece_30 : decode cX6_piece 30 = .ok (.aload 4, 2) := by decide +kernel
theorem dX6_piece_32 : decode cX6_piece 32 = .ok (.invokevirtual 117, 3) := by decide +kernel
theorem dX6_piece_35 : decode cX6_piece 35 = .ok (.aload_n 0, 1) := by decide +kernel
theorem dX6_piece_36 : decode cX6_piece 36 = .ok (.getfield 42, 3) := by decide +kernel
theorem dX6_piece_39 : decode cX6_piece 39 = .ok (.iload_n 2, 1) := by decide +kernel
theorem dX6_piece_40 : decode cX6_piece 40 = .ok (.invokevirtual 158, 3) := by decide +kernel
theorem dX6_piece_43 : decode cX6_piece 43 = .ok (.astore 5, 2) := by decide +kernel
theorem dX6_piece_45 : decode cX6_piece 45 = .ok (.aload 5, 2) := by decide +kernel
theorem dX6_piece_47 : decode cX6_piece 47 = .ok (.ifnonnull 6, 3) := by decide +kernel
theorem dX6_piece_50 : decode cX6_piece 50 = .ok (.bipush (-6), 2) := by decide +kernel
theorem dX6_piece_52 : decode cX6_piece 52 = .ok (.ireturn, 1) := by decide +kernel
theorem dX6_piece_53 : decode cX6_piece 53 = .ok (.iload_n 3, 1) := by decide +kernel
theorem dX6_piece_54 : decode cX6_piece 54 = .ok (.tableswitch 63 0 2 #[26, 32, 38], 26) := by decide +kernel
theorem dX6_piece_80 : decode cX6_piece 80 = .ok (.aload 5, 2) := by decide +kernel
theorem dX6_piece_82 : decode cX6_piece 82 = .ok (.getfield 105, 3) := by decide +kernel
theorem dX6_piece_85 : decode cX6_piece 85 = .ok (.ireturn, 1) := by decide +kernel
theorem dX6_piece_86 : decode cX6_piece 86 = .ok (.aload 5, 2) := by decide +kernel
theorem dX6_piece_88 : decode cX6_piece 88 = .ok (.getfield 161, 3) := by decide +kernel
theorem dX6_piece_91 : decode cX6_piece 91 = .ok (.ireturn, 1) := by decide +kernel
theorem dX6_piece_92 : decode cX6_piece 92 = .ok (.aload 5, 2) := by decide +kernel
theorem dX6_piece_94 : decode cX6_piece 94 = .ok (.getfield 164, 3) := by decide +kernel
theorem dX6_piece_97 : decode cX6_piece 97 = .ok (.ifnonnull 11, 3) := by decide +kernel
theorem dX6_piece_100 : decode cX6_piece 100 = .ok (.aload 5, 2) := by decide +kernel
theorem dX6_piece_102 : decode cX6_piece 102 = .ok (.getfield 105, 3) := by decide +kernel
theorem dX6_piece_105 : decode cX6_piece 105 = .ok (.goto 11, 3) := by decide +kernel
theorem dX6_piece_108 : decode cX6_piece 108 = .ok (.aload 5, 2) := by decide +kernel
theorem dX6_piece_110 : decode cX6_piece 110 = .ok (.getfield 164, 3) := by decide +kernel
theorem dX6_piece_113 : decode cX6_piece 113 = .ok (.getfield 105, 3) := by decide +kernel
theorem dX6_piece_116 : decode cX6_piece 116 = .ok (.ireturn, 1) := by decide +kernel
theorem dX6_piece_117 : decode cX6_piece 117 = .ok (.aload_n 0, 1) := by decide +kernel
theorem dX6_piece_118 : decode cX6_piece 118 = .ok (.getfield 42, 3) := by decide +kernel
theorem dX6_piece_121 : decode cX6_piece 121 = .ok (.aload 5, 2) := by decide +kernel
theorem dX6_piece_123 : decode cX6_piece 123 = .ok (.invokevirtual 168, 3) := by decide +kernel
theorem dX6_piece_126 : decode cX6_piece 126 = .ok (.ireturn, 1) := by decide +kernel
theorem dX6_alike_0 : decode cX6_alike 0 = .ok (.aload_n 0, 1) := by decide +kernel
theorem dX6_alike_1 : decode cX6_alike 1 = .ok (.iload_n 1, 1) := by decide +kernel
theorem dX6_alike_2 : decode cX6_alike 2 = .ok (.invokevirtual 101, 3) := by decide +kernel
theorem dX6_alike_5 : decode cX6_alike 5 = .ok (.astore 4, 2) := by decide +kernel
theorem dX6_alike_7 : decode cX6_alike 7 = .ok (.aload_n 0, 1) := by decide +kernel
theorem dX6_alike_8 : decode cX6_alike 8 = .ok (.iload_n 2, 1) := by decide +kernel
theorem dX6_alike_9 : decode cX6_alike 9 = .ok (.invokevirtual 101, 3) := by decide +kernel
theorem dX6_alike_12 : decode cX6_alike 12 = .ok (.astore 5, 2) := by decide +kernel
theorem dX6_alike_14 : decode cX6_alike 14 = .ok (.aload 4, 2) := by decide +kernel
theorem dX6_alike_16 : decode cX6_alike 16 = .ok (.ifnull 8, 3) := by decide +kernel
theorem dX6_alike_19 : decode cX6_alike 19 = .ok (.aload 5, 2) := by decide +kernel
theorem dX6_alike_21 : decode cX6_alike 21 = .ok (.ifnonnull 5, 3) := by decide +kernel
theorem dX6_alike_24 : decode cX6_alike 24 = .ok (.iconst (-1), 1) := by decide +kernel
theorem dX6_alike_25 : decode cX6_alike 25 = .ok (.ireturn, 1) := by decide +kernel
theorem dX6_alike_26 : decode cX6_alike 26 = .ok (.iload_n 3, 1) := by decide +kernel
theorem dX6_alike_27 : decode cX6_alike 27 = .ok (.ifCond .lt 8, 3) := by decide +kernel
theorem dX6_alike_30 : decode cX6_alike 30 = .ok (.iload_n 3, 1) := by decide +kernel
theorem dX6_alike_31 : decode cX6_alike 31 = .ok (.iconst 4, 1) := by decide +kernel
theorem dX6_alike_32 : decode cX6_alike 32 = .ok (.if_icmp .le 6, 3) := by decide +kernel
theorem dX6_alike_35 : decode cX6_alike 35 = .ok (.bipush (-2), 2) := by decide +kernel
theorem dX6_alike_37 : decode cX6_alike 37 = .ok (.ireturn, 1) := by decide +kernel
theorem dX6_alike_38 : decode cX6_alike 38 = .ok (.iload_n 3, 1) := by decide +kernel
theorem dX6_alike_39 : decode cX6_alike 39 = .ok (.iconst 1, 1) := by decide +kernel
theorem dX6_alike_40 : decode cX6_alike 40 = .ok (.if_icmp .ne 19, 3) := by decide +kernel
theorem dX6_alike_43 : decode cX6_alike 43 = .ok (.aload 4, 2) := by decide +kernel
theorem dX6_alike_45 : decode cX6_alike 45 = .ok (.aload 5, 2) := by decide +kernel
theorem dX6_alike_47 : decode cX6_alike 47 = .ok (.if_acmp .ne 7, 3) := by decide +kernel
theorem dX6_alike_50 : decode cX6_alike 50 = .ok (.iconst 1, 1) := by decide +kernel
theorem dX6_alike_51 : decode cX6_alike 51 = .ok (.goto 4, 3) := by decide +kernel
theorem dX6_alike_54 : decode cX6_alike 54 = .ok (.iconst 0, 1) := by decide +kernel
theorem dX6_alike_55 : decode cX6_alike 55 = .ok (.invokestatic 154, 3) := by decide +kernel
theorem dX6_alike_58 : decode cX6_alike 58 = .ok (.ireturn, 1) := by decide +kernel
theorem dX6_alike_59 : decode cX6_alike 59 = .ok (.aload_n 0, 1) := by decide +kernel
theorem dX6_alike_60 : decode cX6_alike 60 = .ok (.getfield 60, 3) := by decide +kernel
theorem dX6_alike_63 : decode cX6_alike 63 = .ok (.aload 4, 2) := by decide +kernel
theorem dX6_alike_65 : decode cX6_alike 65 = .ok (.invokevirtual 124, 3) := by decide +kernel
theorem dX6_alike_68 : decode cX6_alike 68 = .ok (.aload_n 0, 1) := by decide +kernel
theorem dX6_alike_69 : decode cX6_alike 69 = .ok (.getfield 63, 3) := by decide +kernel
theorem dX6_alike_72 : decode cX6_alike 72 = .ok (.aload 5, 2) := by decide +kernel
theorem dX6_alike_74 : decode cX6_alike 74 = .ok (.invokevirtual 124, 3) := by decide +kernel
theorem dX6_alike_77 : decode cX6_alike 77 = .ok (.aload_n 0, 1) := by decide +kernel
theorem dX6_alike_78 : decode cX6_alike 78 = .ok (.iload_n 3, 1) := by decide +kernel
theorem dX6_alike_79 : decode cX6_alike 79 = .ok (.invokevirtual 172, 3) := by decide +kernel
theorem dX6_alike_82 : decode cX6_alike 82 = .ok (.ireturn, 1) := by decide +kernel
theorem dX6_intern_0 : decode cX6_intern 0 = .ok (.aload_n 0, 1) := by decide +kernel
theorem dX6_intern_1 : decode cX6_intern 1 = .ok (.iload_n 1, 1) := by decide +kernel
theorem dX6_intern_2 : decode cX6_intern 2 = .ok (.invokevirtual 101, 3) := by decide +kernel
theorem dX6_intern_5 : decode cX6_intern 5 = .ok (.astore_n 2, 1) := by decide +kernel
theorem dX6_intern_6 : decode cX6_intern 6 = .ok (.aload_n 2, 1) := by decide +kernel
theorem dX6_intern_7 : decode cX6_intern 7 = .ok (.ifnonnull 5, 3) := by decide +kernel
theorem dX6_intern_10 : decode cX6_intern 10 = .ok (.iconst (-1), 1) := by decide +kernel
theorem dX6_intern_11 : decode cX6_intern 11 = .ok (.ireturn, 1) := by decide +kernel
theorem dX6_intern_12 : decode cX6_intern 12 = .ok (.aload_n 0, 1) := by decide +kernel
theorem dX6_intern_13 : decode cX6_intern 13 = .ok (.aload_n 2, 1) := by decide +kernel
theorem dX6_intern_14 : decode cX6_intern 14 = .ok (.invokevirtual 175, 3) := by decide +kernel
theorem dX6_intern_17 : decode cX6_intern 17 = .ok (.istore_n 3, 1) := by decide +kernel
theorem dX6_intern_18 : decode cX6_intern 18 = .ok (.iload_n 3, 1) := by decide +kernel
theorem dX6_intern_19 : decode cX6_intern 19 = .ok (.ifCond .ge 27, 3) := by decide +kernel
theorem dX6_intern_22 : decode cX6_intern 22 = .ok (.aload_n 0, 1) := by decide +kernel
theorem dX6_intern_23 : decode cX6_intern 23 = .ok (.getfield 35, 3) := by decide +kernel
theorem dX6_intern_26 : decode cX6_intern 26 = .ok (.invokevirtual 178, 3) := by decide +kernel
theorem dX6_intern_29 : decode cX6_intern 29 = .ok (.ifCond .eq 8, 3) := by decide +kernel
theorem dX6_intern_32 : decode cX6_intern 32 = .ok (.bipush (-4), 2) := by decide +kernel
theorem dX6_intern_34 : decode cX6_intern 34 = .ok (.goto 11, 3) := by decide +kernel
theorem dX6_intern_37 : decode cX6_intern 37 = .ok (.aload_n 0, 1) := by decide +kernel
theorem dX6_intern_38 : decode cX6_intern 38 = .ok (.getfield 35, 3) := by decide +kernel
theorem dX6_intern_41 : decode cX6_intern 41 = .ok (.aload_n 2, 1) := by decide +kernel
theorem dX6_intern_42 : decode cX6_intern 42 = .ok (.invokevirtual 181, 3) := by decide +kernel
theorem dX6_intern_45 : decode cX6_intern 45 = .ok (.ireturn, 1) := by decide +kernel
theorem dX6_intern_46 : decode cX6_intern 46 = .ok (.aload_n 0, 1) := by decide +kernel
theorem dX6_intern_47 : decode cX6_intern 47 = .ok (.iload_n 1, 1) := by decide +kernel
theorem dX6_intern_48 : decode cX6_intern 48 = .ok (.aload_n 0, 1) := by decide +kernel
theorem dX6_intern_49 : decode cX6_intern 49 = .ok (.getfield 35, 3) := by decide +kernel
theorem dX6_intern_52 : decode cX6_intern 52 = .ok (.iload_n 3, 1) := by decide +kernel
theorem dX6_intern_53 : decode cX6_intern 53 = .ok (.invokevirtual 184, 3) := by decide +kernel
theorem dX6_intern_56 : decode cX6_intern 56 = .ok (.invokevirtual 97, 3) := by decide +kernel
theorem dX6_intern_59 : decode cX6_intern 59 = .ok (.pop, 1) := by decide +kernel
theorem dX6_intern_60 : decode cX6_intern 60 = .ok (.aload_n 0, 1) := by decide +kernel
theorem dX6_intern_61 : decode cX6_intern 61 = .ok (.getfield 35, 3) := by decide +kernel
theorem dX6_intern_64 : decode cX6_intern 64 = .ok (.iload_n 3, 1) := by decide +kernel
theorem dX6_intern_65 : decode cX6_intern 65 = .ok (.invokevirtual 187, 3) := by decide +kernel
theorem dX6_intern_68 : decode cX6_intern 68 = .ok (.ireturn, 1) := by decide +kernel
theorem dX6_sweep_0 : decode cX6_sweep 0 = .ok (.aload_n 0, 1) := by decide +kernel
theorem dX6_sweep_1 : decode cX6_sweep 1 = .ok (.getfield 56, 3) := by decide +kernel
theorem dX6_sweep_4 : decode cX6_sweep 4 = .ok (.aload_n 0, 1) := by decide +kernel
theorem dX6_sweep_5 : decode cX6_sweep 5 = .ok (.getfield 11, 3) := by decide +kernel
theorem dX6_sweep_8 : decode cX6_sweep 8 = .ok (.invokevirtual 190, 3) := by decide +kernel
theorem dX6_sweep_11 : decode cX6_sweep 11 = .ok (.aload_n 0, 1) := by decide +kernel
theorem dX6_sweep_12 : decode cX6_sweep 12 = .ok (.getfield 35, 3) := by decide +kernel
theorem dX6_sweep_15 : decode cX6_sweep 15 = .ok (.aload_n 0, 1) := by decide +kernel
theorem dX6_sweep_16 : decode cX6_sweep 16 = .ok (.getfield 56, 3) := by decide +kernel
theorem dX6_sweep_19 : decode cX6_sweep 19 = .ok (.invokevirtual 194, 3) := by decide +kernel
theorem dX6_sweep_22 : decode cX6_sweep 22 = .ok (.ireturn, 1) := by decide +kernel
theorem dX6_entry_0 : decode cX6_entry 0 = .ok (.iload_n 2, 1) := by decide +kernel
theorem dX6_entry_1 : decode cX6_entry 1 = .ok (.ifCond .lt 8, 3) := by decide +kernel
theorem dX6_entry_4 : decode cX6_entry 4 = .ok (.iload_n 2, 1) := by decide +kernel
theorem dX6_entry_5 : decode cX6_entry 5 = .ok (.iconst 2, 1) := by decide +kernel
theorem dX6_entry_6 : decode cX6_entry 6 = .ok (.if_icmp .le 6, 3) := by decide +kernel
theorem dX6_entry_9 : decode cX6_entry 9 = .ok (.bipush (-2), 2) := by decide +kernel
theorem dX6_entry_11 : decode cX6_entry 11 = .ok (.ireturn, 1) := by decide +kernel
theorem dX6_entry_12 : decode cX6_entry 12 = .ok (.aload_n 0, 1) := by decide +kernel
theorem dX6_entry_13 : decode cX6_entry 13 = .ok (.getfield 35, 3) := by decide +kernel
theorem dX6_entry_16 : decode cX6_entry 16 = .ok (.iload_n 1, 1) := by decide +kernel
theorem dX6_entry_17 : decode cX6_entry 17 = .ok (.invokevirtual 184, 3) := by decide +kernel
theorem dX6_entry_20 : decode cX6_entry 20 = .ok (.astore_n 3, 1) := by decide +kernel
theorem dX6_entry_21 : decode cX6_entry 21 = .ok (.aload_n 3, 1) := by decide +kernel
theorem dX6_entry_22 : decode cX6_entry 22 = .ok (.ifnonnull 6, 3) := by decide +kernel
theorem dX6_entry_25 : decode cX6_entry 25 = .ok (.bipush (-6), 2) := by decide +kernel
theorem dX6_entry_27 : decode cX6_entry 27 = .ok (.ireturn, 1) := by decide +kernel
theorem dX6_entry_28 : decode cX6_entry 28 = .ok (.iload_n 2, 1) := by decide +kernel
theorem dX6_entry_29 : decode cX6_entry 29 = .ok (.lookupswitch 41 #[(0, 27), (1, 36)], 27) := by decide +kernel
theorem dX6_entry_56 : decode cX6_entry 56 = .ok (.aload_n 0, 1) := by decide +kernel
theorem dX6_entry_57 : decode cX6_entry 57 = .ok (.getfield 35, 3) := by decide +kernel
theorem dX6_entry_60 : decode cX6_entry 60 = .ok (.iload_n 1, 1) := by decide +kernel
theorem dX6_entry_61 : decode cX6_entry 61 = .ok (.invokevirtual 187, 3) := by decide +kernel
theorem dX6_entry_64 : decode cX6_entry 64 = .ok (.ireturn, 1) := by decide +kernel
theorem dX6_entry_65 : decode cX6_entry 65 = .ok (.aload_n 3, 1) := by decide +kernel
theorem dX6_entry_66 : decode cX6_entry 66 = .ok (.getfield 105, 3) := by decide +kernel
theorem dX6_entry_69 : decode cX6_entry 69 = .ok (.ireturn, 1) := by decide +kernel
theorem dX6_entry_70 : decode cX6_entry 70 = .ok (.aload_n 0, 1) := by decide +kernel
theorem dX6_entry_71 : decode cX6_entry 71 = .ok (.aload_n 3, 1) := by decide +kernel
theorem dX6_entry_72 : decode cX6_entry 72 = .ok (.invokevirtual 198, 3) := by decide +kernel
theorem dX6_entry_75 : decode cX6_entry 75 = .ok (.ireturn, 1) := by decide +kernel
theorem dX6_count_0 : decode cX6_count 0 = .ok (.iload_n 1, 1) := by decide +kernel
theorem dX6_count_1 : decode cX6_count 1 = .ok (.tableswitch 106 0 5 #[39, 58, 77, 85, 93, 101], 39) := by decide +kernel
theorem dX6_count_40 : decode cX6_count 40 = .ok (.aload_n 0, 1) := by decide +kernel
theorem dX6_count_41 : decode cX6_count 41 = .ok (.getfield 56, 3) := by decide +kernel
theorem dX6_count_44 : decode cX6_count 44 = .ok (.aload_n 0, 1) := by decide +kernel
theorem dX6_count_45 : decode cX6_count 45 = .ok (.getfield 11, 3) := by decide +kernel
theorem dX6_count_48 : decode cX6_count 48 = .ok (.invokevirtual 190, 3) := by decide +kernel
theorem dX6_count_51 : decode cX6_count 51 = .ok (.aload_n 0, 1) := by decide +kernel
theorem dX6_count_52 : decode cX6_count 52 = .ok (.getfield 56, 3) := by decide +kernel
theorem dX6_count_55 : decode cX6_count 55 = .ok (.getfield 144, 3) := by decide +kernel
theorem dX6_count_58 : decode cX6_count 58 = .ok (.ireturn, 1) := by decide +kernel
theorem dX6_count_59 : decode cX6_count 59 = .ok (.aload_n 0, 1) := by decide +kernel
theorem dX6_count_60 : decode cX6_count 60 = .ok (.getfield 56, 3) := by decide +kernel
theorem dX6_count_63 : decode cX6_count 63 = .ok (.aload_n 0, 1) := by decide +kernel
theorem dX6_count_64 : decode cX6_count 64 = .ok (.getfield 11, 3) := by decide +kernel
theorem dX6_count_67 : decode cX6_count 67 = .ok (.invokevirtual 190, 3) := by decide +kernel
theorem dX6_count_70 : decode cX6_count 70 = .ok (.aload_n 0, 1) := by decide +kernel
theorem dX6_count_71 : decode cX6_count 71 = .ok (.getfield 56, 3) := by decide +kernel
theorem dX6_count_74 : decode cX6_count 74 = .ok (.getfield 147, 3) := by decide +kernel
theorem dX6_count_77 : decode cX6_count 77 = .ok (.ireturn, 1) := by decide +kernel
theorem dX6_count_78 : decode cX6_count 78 = .ok (.aload_n 0, 1) := by decide +kernel
theorem dX6_count_79 : decode cX6_count 79 = .ok (.getfield 35, 3) := by decide +kernel
theorem dX6_count_82 : decode cX6_count 82 = .ok (.getfield 201, 3) := by decide +kernel
theorem dX6_count_85 : decode cX6_count 85 = .ok (.ireturn, 1) := by decide +kernel
theorem dX6_count_86 : decode cX6_count 86 = .ok (.aload_n 0, 1) := by decide +kernel
theorem dX6_count_87 : decode cX6_count 87 = .ok (.getfield 35, 3) := by decide +kernel
theorem dX6_count_90 : decode cX6_count 90 = .ok (.getfield 204, 3) := by decide +kernel
theorem dX6_count_93 : decode cX6_count 93 = .ok (.ireturn, 1) := by decide +kernel
theorem dX6_count_94 : decode cX6_count 94 = .ok (.aload_n 0, 1) := by decide +kernel
theorem dX6_count_95 : decode cX6_count 95 = .ok (.getfield 28, 3) := by decide +kernel
theorem dX6_count_98 : decode cX6_count 98 = .ok (.getfield 84, 3) := by decide +kernel
theorem dX6_count_101 : decode cX6_count 101 = .ok (.ireturn, 1) := by decide +kernel
theorem dX6_count_102 : decode cX6_count 102 = .ok (.aload_n 0, 1) := by decide +kernel
theorem dX6_count_103 : decode cX6_count 103 = .ok (.getfield 21, 3) := by decide +kernel
theorem dX6_count_106 : decode cX6_count 106 = .ok (.ireturn, 1) := by decide +kernel
theorem dX6_count_107 : decode cX6_count 107 = .ok (.iload_n 1, 1) := by decide +kernel
theorem dX6_count_108 : decode cX6_count 108 = .ok (.bipush 10, 2) := by decide +kernel
theorem dX6_count_110 : decode cX6_count 110 = .ok (.if_icmp .lt 28, 3) := by decide +kernel
theorem dX6_count_113 : decode cX6_count 113 = .ok (.iload_n 1, 1) := by decide +kernel
theorem dX6_count_114 : decode cX6_count 114 = .ok (.bipush 10, 2) := by decide +kernel
theorem dX6_count_116 : decode cX6_count 116 = .ok (.isub, 1) := by decide +kernel
theorem dX6_count_117 : decode cX6_count 117 = .ok (.invokestatic 70, 3) := by decide +kernel
theorem dX6_count_120 : decode cX6_count 120 = .ok (.ifCond .eq 18, 3) := by decide +kernel
theorem dX6_count_123 : decode cX6_count 123 = .ok (.aload_n 0, 1) := by decide +kernel
theorem dX6_count_124 : decode cX6_count 124 = .ok (.getfield 49, 3) := by decide +kernel
theorem dX6_count_127 : decode cX6_count 127 = .ok (.getfield 81, 3) := by decide +kernel
theorem dX6_count_130 : decode cX6_count 130 = .ok (.iload_n 1, 1) := by decide +kernel
theorem dX6_count_131 : decode cX6_count 131 = .ok (.bipush 10, 2) := by decide +kernel
theorem dX6_count_133 : decode cX6_count 133 = .ok (.isub, 1) := by decide +kernel
theorem dX6_count_134 : decode cX6_count 134 = .ok (.iaload, 1) := by decide +kernel
theorem dX6_count_135 : decode cX6_count 135 = .ok (.goto 5, 3) := by decide +kernel
theorem dX6_count_138 : decode cX6_count 138 = .ok (.bipush (-2), 2) := by decide +kernel
theorem dX6_count_140 : decode cX6_count 140 = .ok (.ireturn, 1) := by decide +kernel
theorem dX6_image_0 : decode cX6_image 0 = .ok (.iload_n 1, 1) := by decide +kernel
theorem dX6_image_1 : decode cX6_image 1 = .ok (.invokestatic 207, 3) := by decide +kernel
theorem dX6_image_4 : decode cX6_image 4 = .ok (.ifCond .ne 6, 3) := by decide +kernel
theorem dX6_image_7 : decode cX6_image 7 = .ok (.bipush (-2), 2) := by decide +kernel
theorem dX6_image_9 : decode cX6_image 9 = .ok (.ireturn, 1) := by decide +kernel
theorem dX6_image_10 : decode cX6_image 10 = .ok (.aload_n 0, 1) := by decide +kernel
theorem dX6_image_11 : decode cX6_image 11 = .ok (.getfield 11, 3) := by decide +kernel
theorem dX6_image_14 : decode cX6_image 14 = .ok (.aload_n 0, 1) := by decide +kernel
theorem dX6_image_15 : decode cX6_image 15 = .ok (.iload_n 1, 1) := by decide +kernel
theorem dX6_image_16 : decode cX6_image 16 = .ok (.invokevirtual 210, 3) := by decide +kernel
theorem dX6_image_19 : decode cX6_image 19 = .ok (.invokestatic 214, 3) := by decide +kernel
theorem dX6_image_22 : decode cX6_image 22 = .ok (.aload_n 0, 1) := by decide +kernel
theorem dX6_image_23 : decode cX6_image 23 = .ok (.dup, 1) := by decide +kernel
theorem dX6_image_24 : decode cX6_image 24 = .ok (.getfield 21, 3) := by decide +kernel
theorem dX6_image_27 : decode cX6_image 27 = .ok (.iconst 1, 1) := by decide +kernel
theorem dX6_image_28 : decode cX6_image 28 = .ok (.iload_n 1, 1) := by decide +kernel
theorem dX6_image_29 : decode cX6_image 29 = .ok (.ishl, 1) := by decide +kernel
theorem dX6_image_30 : decode cX6_image 30 = .ok (.ior, 1) := by decide +kernel
theorem dX6_image_31 : decode cX6_image 31 = .ok (.putfield 21, 3) := by decide +kernel
theorem dX6_image_34 : decode cX6_image 34 = .ok (.iconst 1, 1) := by decide +kernel
theorem dX6_image_35 : decode cX6_image 35 = .ok (.ireturn, 1) := by decide +kernel
theorem dX6_restore_0 : decode cX6_restore 0 = .ok (.iload_n 1, 1) := by decide +kernel
theorem dX6_restore_1 : decode cX6_restore 1 = .ok (.invokestatic 207, 3) := by decide +kernel
theorem dX6_restore_4 : decode cX6_restore 4 = .ok (.ifCond .ne 6, 3) := by decide +kernel
theorem dX6_restore_7 : decode cX6_restore 7 = .ok (.bipush (-2), 2) := by decide +kernel
theorem dX6_restore_9 : decode cX6_restore 9 = .ok (.ireturn, 1) := by decide +kernel
theorem dX6_restore_10 : decode cX6_restore 10 = .ok (.aload_n 0, 1) := by decide +kernel
theorem dX6_restore_11 : decode cX6_restore 11 = .ok (.getfield 21, 3) := by decide +kernel
theorem dX6_restore_14 : decode cX6_restore 14 = .ok (.iconst 1, 1) := by decide +kernel
theorem dX6_restore_15 : decode cX6_restore 15 = .ok (.iload_n 1, 1) := by decide +kernel
theorem dX6_restore_16 : decode cX6_restore 16 = .ok (.ishl, 1) := by decide +kernel
theorem dX6_restore_17 : decode cX6_restore 17 = .ok (.iand, 1) := by decide +kernel
theorem dX6_restore_18 : decode cX6_restore 18 = .ok (.ifCond .ne 6, 3) := by decide +kernel
theorem dX6_restore_21 : decode cX6_restore 21 = .ok (.bipush (-3), 2) := by decide +kernel
theorem dX6_restore_23 : decode cX6_restore 23 = .ok (.ireturn, 1) := by decide +kernel
theorem dX6_restore_24 : decode cX6_restore 24 = .ok (.aload_n 0, 1) := by decide +kernel
theorem dX6_restore_25 : decode cX6_restore 25 = .ok (.iload_n 1, 1) := by decide +kernel
theorem dX6_restore_26 : decode cX6_restore 26 = .ok (.invokevirtual 210, 3) := by decide +kernel
theorem dX6_restore_29 : decode cX6_restore 29 = .ok (.aload_n 0, 1) := by decide +kernel
theorem dX6_restore_30 : decode cX6_restore 30 = .ok (.getfield 11, 3) := by decide +kernel
theorem dX6_restore_33 : decode cX6_restore 33 = .ok (.invokestatic 214, 3) := by decide +kernel
theorem dX6_restore_36 : decode cX6_restore 36 = .ok (.iconst 1, 1) := by decide +kernel
theorem dX6_restore_37 : decode cX6_restore 37 = .ok (.ireturn, 1) := by decide +kernel
theorem dX6_isSlot_0 : decode cX6_isSlot 0 = .ok (.iload_n 0, 1) := by decide +kernel
theorem dX6_isSlot_1 : decode cX6_isSlot 1 = .ok (.ifCond .lt 13, 3) := by decide +kernel
theorem dX6_isSlot_4 : decode cX6_isSlot 4 = .ok (.iload_n 0, 1) := by decide +kernel
theorem dX6_isSlot_5 : decode cX6_isSlot 5 = .ok (.bipush 8, 2) := by decide +kernel
theorem dX6_isSlot_7 : decode cX6_isSlot 7 = .ok (.if_icmp .ge 7, 3) := by decide +kernel
theorem dX6_isSlot_10 : decode cX6_isSlot 10 = .ok (.iconst 1, 1) := by decide +kernel
theorem dX6_isSlot_11 : decode cX6_isSlot 11 = .ok (.goto 4, 3) := by decide +kernel
theorem dX6_isSlot_14 : decode cX6_isSlot 14 = .ok (.iconst 0, 1) := by decide +kernel
theorem dX6_isSlot_15 : decode cX6_isSlot 15 = .ok (.ireturn, 1) := by decide +kernel
theorem dX6_isRule_0 : decode cX6_isRule 0 = .ok (.iload_n 0, 1) := by decide +kernel
theorem dX6_isRule_1 : decode cX6_isRule 1 = .ok (.ifCond .lt 12, 3) := by decide +kernel
theorem dX6_isRule_4 : decode cX6_isRule 4 = .ok (.iload_n 0, 1) := by decide +kernel
theorem dX6_isRule_5 : decode cX6_isRule 5 = .ok (.iconst 2, 1) := by decide +kernel
theorem dX6_isRule_6 : decode cX6_isRule 6 = .ok (.if_icmp .gt 7, 3) := by decide +kernel
theorem dX6_isRule_9 : decode cX6_isRule 9 = .ok (.iconst 1, 1) := by decide +kernel
theorem dX6_isRule_10 : decode cX6_isRule 10 = .ok (.goto 4, 3) := by decide +kernel
theorem dX6_isRule_13 : decode cX6_isRule 13 = .ok (.iconst 0, 1) := by decide +kernel
theorem dX6_isRule_14 : decode cX6_isRule 14 = .ok (.ireturn, 1) := by decide +kernel
theorem dX6_isImage_0 : decode cX6_isImage 0 = .ok (.iload_n 0, 1) := by decide +kernel
theorem dX6_isImage_1 : decode cX6_isImage 1 = .ok (.ifCond .lt 12, 3) := by decide +kernel
theorem dX6_isImage_4 : decode cX6_isImage 4 = .ok (.iload_n 0, 1) := by decide +kernel
theorem dX6_isImage_5 : decode cX6_isImage 5 = .ok (.iconst 2, 1) := by decide +kernel
theorem dX6_isImage_6 : decode cX6_isImage 6 = .ok (.if_icmp .ge 7, 3) := by decide +kernel
theorem dX6_isImage_9 : decode cX6_isImage 9 = .ok (.iconst 1, 1) := by decide +kernel
theorem dX6_isImage_10 : decode cX6_isImage 10 = .ok (.goto 4, 3) := by decide +kernel
theorem dX6_isImage_13 : decode cX6_isImage 13 = .ok (.iconst 0, 1) := by decide +kernel
theorem dX6_isImage_14 : decode cX6_isImage 14 = .ok (.ireturn, 1) := by decide +kernel
theorem dX6_asNumber_0 : decode cX6_asNumber 0 = .ok (.iload_n 0, 1) := by decide +kernel
theorem dX6_asNumber_1 : decode cX6_asNumber 1 = .ok (.ifCond .eq 7, 3) := by decide +kernel
theorem dX6_asNumber_4 : decode cX6_asNumber 4 = .ok (.iconst 1, 1) := by decide +kernel
theorem dX6_asNumber_5 : decode cX6_asNumber 5 = .ok (.goto 4, 3) := by decide +kernel
theorem dX6_asNumber_8 : decode cX6_asNumber 8 = .ok (.iconst 0, 1) := by decide +kernel
theorem dX6_asNumber_9 : decode cX6_asNumber 9 = .ok (.ireturn, 1) := by decide +kernel
theorem dX6_cellOf_0 : decode cX6_cellOf 0 = .ok (.iload_n 1, 1) := by decide +kernel
theorem dX6_cellOf_1 : decode cX6_cellOf 1 = .ok (.invokestatic 91, 3) := by decide +kernel
theorem dX6_cellOf_4 : decode cX6_cellOf 4 = .ok (.ifCond .eq 12, 3) := by decide +kernel
theorem dX6_cellOf_7 : decode cX6_cellOf 7 = .ok (.aload_n 0, 1) := by decide +kernel
theorem dX6_cellOf_8 : decode cX6_cellOf 8 = .ok (.getfield 11, 3) := by decide +kernel
theorem dX6_cellOf_11 : decode cX6_cellOf 11 = .ok (.iload_n 1, 1) := by decide +kernel
theorem dX6_cellOf_12 : decode cX6_cellOf 12 = .ok (.aaload, 1) := by decide +kernel
theorem dX6_cellOf_13 : decode cX6_cellOf 13 = .ok (.goto 4, 3) := by decide +kernel
theorem dX6_cellOf_16 : decode cX6_cellOf 16 = .ok (.aconst_null, 1) := by decide +kernel
theorem dX6_cellOf_17 : decode cX6_cellOf 17 = .ok (.areturn, 1) := by decide +kernel
theorem dX6_hold_0 : decode cX6_hold 0 = .ok (.iload_n 1, 1) := by decide +kernel
theorem dX6_hold_1 : decode cX6_hold 1 = .ok (.invokestatic 91, 3) := by decide +kernel
theorem dX6_hold_4 : decode cX6_hold 4 = .ok (.ifCond .eq 7, 3) := by decide +kernel
theorem dX6_hold_7 : decode cX6_hold 7 = .ok (.aload_n 2, 1) := by decide +kernel
theorem dX6_hold_8 : decode cX6_hold 8 = .ok (.ifnonnull 5, 3) := by decide +kernel
theorem dX6_hold_11 : decode cX6_hold 11 = .ok (.iconst (-1), 1) := by decide +kernel
theorem dX6_hold_12 : decode cX6_hold 12 = .ok (.ireturn, 1) := by decide +kernel
theorem dX6_hold_13 : decode cX6_hold 13 = .ok (.aload_n 0, 1) := by decide +kernel
theorem dX6_hold_14 : decode cX6_hold 14 = .ok (.getfield 11, 3) := by decide +kernel
theorem dX6_hold_17 : decode cX6_hold 17 = .ok (.iload_n 1, 1) := by decide +kernel
theorem dX6_hold_18 : decode cX6_hold 18 = .ok (.aload_n 2, 1) := by decide +kernel
theorem dX6_hold_19 : decode cX6_hold 19 = .ok (.aastore, 1) := by decide +kernel
theorem dX6_hold_20 : decode cX6_hold 20 = .ok (.aload_n 2, 1) := by decide +kernel
theorem dX6_hold_21 : decode cX6_hold 21 = .ok (.getfield 105, 3) := by decide +kernel
theorem dX6_hold_24 : decode cX6_hold 24 = .ok (.ireturn, 1) := by decide +kernel
theorem dX6_compareTexts_0 : decode cX6_compareTexts 0 = .ok (.iload_n 1, 1) := by decide +kernel
theorem dX6_compareTexts_1 : decode cX6_compareTexts 1 = .ok (.tableswitch 70 0 3 #[31, 70, 46, 58], 31) := by decide +kernel
theorem dX6_compareTexts_32 : decode cX6_compareTexts 32 = .ok (.aload_n 0, 1) := by decide +kernel
theorem dX6_compareTexts_33 : decode cX6_compareTexts 33 = .ok (.getfield 60, 3) := by decide +kernel
theorem dX6_compareTexts_36 : decode cX6_compareTexts 36 = .ok (.aload_n 0, 1) := by decide +kernel
theorem dX6_compareTexts_37 : decode cX6_compareTexts 37 = .ok (.getfield 63, 3) := by decide +kernel
theorem dX6_compareTexts_40 : decode cX6_compareTexts 40 = .ok (.invokevirtual 218, 3) := by decide +kernel
theorem dX6_compareTexts_43 : decode cX6_compareTexts 43 = .ok (.invokestatic 154, 3) := by decide +kernel
theorem dX6_compareTexts_46 : decode cX6_compareTexts 46 = .ok (.ireturn, 1) := by decide +kernel
theorem dX6_compareTexts_47 : decode cX6_compareTexts 47 = .ok (.aload_n 0, 1) := by decide +kernel
theorem dX6_compareTexts_48 : decode cX6_compareTexts 48 = .ok (.getfield 60, 3) := by decide +kernel
theorem dX6_compareTexts_51 : decode cX6_compareTexts 51 = .ok (.aload_n 0, 1) := by decide +kernel
theorem dX6_compareTexts_52 : decode cX6_compareTexts 52 = .ok (.getfield 63, 3) := by decide +kernel
theorem dX6_compareTexts_55 : decode cX6_compareTexts 55 = .ok (.invokevirtual 222, 3) := by decide +kernel
theorem dX6_compareTexts_58 : decode cX6_compareTexts 58 = .ok (.ireturn, 1) := by decide +kernel
theorem dX6_compareTexts_59 : decode cX6_compareTexts 59 = .ok (.aload_n 0, 1) := by decide +kernel
theorem dX6_compareTexts_60 : decode cX6_compareTexts 60 = .ok (.getfield 60, 3) := by decide +kernel
theorem dX6_compareTexts_63 : decode cX6_compareTexts 63 = .ok (.aload_n 0, 1) := by decide +kernel
theorem dX6_compareTexts_64 : decode cX6_compareTexts 64 = .ok (.getfield 63, 3) := by decide +kernel
theorem dX6_compareTexts_67 : decode cX6_compareTexts 67 = .ok (.invokevirtual 226, 3) := by decide +kernel
theorem dX6_compareTexts_70 : decode cX6_compareTexts 70 = .ok (.ireturn, 1) := by decide +kernel
theorem dX6_compareTexts_71 : decode cX6_compareTexts 71 = .ok (.aload_n 0, 1) := by decide +kernel
theorem dX6_compareTexts_72 : decode cX6_compareTexts 72 = .ok (.getfield 60, 3) := by decide +kernel
theorem dX6_compareTexts_75 : decode cX6_compareTexts 75 = .ok (.aload_n 0, 1) := by decide +kernel
theorem dX6_compareTexts_76 : decode cX6_compareTexts 76 = .ok (.getfield 63, 3) := by decide +kernel
theorem dX6_compareTexts_79 : decode cX6_compareTexts 79 = .ok (.invokevirtual 229, 3) := by decide +kernel
theorem dX6_compareTexts_82 : decode cX6_compareTexts 82 = .ok (.invokestatic 154, 3) := by decide +kernel
theorem dX6_compareTexts_85 : decode cX6_compareTexts 85 = .ok (.ireturn, 1) := by decide +kernel
theorem dX6_placeInTable_0 : decode cX6_placeInTable 0 = .ok (.aload_n 0, 1) := by decide +kernel
theorem dX6_placeInTable_1 : decode cX6_placeInTable 1 = .ok (.getfield 60, 3) := by decide +kernel
theorem dX6_placeInTable_4 : decode cX6_placeInTable 4 = .ok (.aload_n 1, 1) := by decide +kernel
end
section
theorem dX6_placeInTable_5 : decode cX6_placeInTable 5 = .ok (.invokevirtual 124, 3) := by decide +kernel
theorem dX6_placeInTable_8 : decode cX6_placeInTable 8 = .ok (.iconst 0, 1) := by decide +kernel
theorem dX6_placeInTable_9 : decode cX6_placeInTable 9 = .ok (.istore_n 2, 1) := by decide +kernel
theorem dX6_placeInTable_10 : decode cX6_placeInTable 10 = .ok (.iload_n 2, 1) := by decide +kernel
theorem dX6_placeInTable_11 : decode cX6_placeInTable 11 = .ok (.aload_n 0, 1) := by decide +kernel
theorem dX6_placeInTable_12 : decode cX6_placeInTable 12 = .ok (.getfield 35, 3) := by decide +kernel
theorem dX6_placeInTable_15 : decode cX6_placeInTable 15 = .ok (.getfield 201, 3) := by decide +kernel
theorem dX6_placeInTable_18 : decode cX6_placeInTable 18 = .ok (.if_icmp .ge 40, 3) := by decide +kernel
theorem dX6_placeInTable_21 : decode cX6_placeInTable 21 = .ok (.aload_n 0, 1) := by decide +kernel
theorem dX6_placeInTable_22 : decode cX6_placeInTable 22 = .ok (.getfield 63, 3) := by decide +kernel
theorem dX6_placeInTable_25 : decode cX6_placeInTable 25 = .ok (.aload_n 0, 1) := by decide +kernel
theorem dX6_placeInTable_26 : decode cX6_placeInTable 26 = .ok (.getfield 35, 3) := by decide +kernel
theorem dX6_placeInTable_29 : decode cX6_placeInTable 29 = .ok (.iload_n 2, 1) := by decide +kernel
theorem dX6_placeInTable_30 : decode cX6_placeInTable 30 = .ok (.invokevirtual 184, 3) := by decide +kernel
theorem dX6_placeInTable_33 : decode cX6_placeInTable 33 = .ok (.invokevirtual 124, 3) := by decide +kernel
theorem dX6_placeInTable_36 : decode cX6_placeInTable 36 = .ok (.aload_n 0, 1) := by decide +kernel
theorem dX6_placeInTable_37 : decode cX6_placeInTable 37 = .ok (.getfield 60, 3) := by decide +kernel
theorem dX6_placeInTable_40 : decode cX6_placeInTable 40 = .ok (.aload_n 0, 1) := by decide +kernel
theorem dX6_placeInTable_41 : decode cX6_placeInTable 41 = .ok (.getfield 63, 3) := by decide +kernel
theorem dX6_placeInTable_44 : decode cX6_placeInTable 44 = .ok (.invokevirtual 218, 3) := by decide +kernel
theorem dX6_placeInTable_47 : decode cX6_placeInTable 47 = .ok (.ifCond .eq 5, 3) := by decide +kernel
theorem dX6_placeInTable_50 : decode cX6_placeInTable 50 = .ok (.iload_n 2, 1) := by decide +kernel
theorem dX6_placeInTable_51 : decode cX6_placeInTable 51 = .ok (.ireturn, 1) := by decide +kernel
theorem dX6_placeInTable_52 : decode cX6_placeInTable 52 = .ok (.iinc 2 1, 3) := by decide +kernel
theorem dX6_placeInTable_55 : decode cX6_placeInTable 55 = .ok (.goto (-45), 3) := by decide +kernel
theorem dX6_placeInTable_58 : decode cX6_placeInTable 58 = .ok (.bipush (-6), 2) := by decide +kernel
theorem dX6_placeInTable_60 : decode cX6_placeInTable 60 = .ok (.ireturn, 1) := by decide +kernel
theorem dX6_slotsWith_0 : decode cX6_slotsWith 0 = .ok (.iconst 0, 1) := by decide +kernel
theorem dX6_slotsWith_1 : decode cX6_slotsWith 1 = .ok (.istore_n 2, 1) := by decide +kernel
theorem dX6_slotsWith_2 : decode cX6_slotsWith 2 = .ok (.iconst 0, 1) := by decide +kernel
theorem dX6_slotsWith_3 : decode cX6_slotsWith 3 = .ok (.istore_n 3, 1) := by decide +kernel
theorem dX6_slotsWith_4 : decode cX6_slotsWith 4 = .ok (.iload_n 3, 1) := by decide +kernel
theorem dX6_slotsWith_5 : decode cX6_slotsWith 5 = .ok (.aload_n 0, 1) := by decide +kernel
theorem dX6_slotsWith_6 : decode cX6_slotsWith 6 = .ok (.getfield 11, 3) := by decide +kernel
theorem dX6_slotsWith_9 : decode cX6_slotsWith 9 = .ok (.arraylength, 1) := by decide +kernel
theorem dX6_slotsWith_10 : decode cX6_slotsWith 10 = .ok (.if_icmp .ge 22, 3) := by decide +kernel
theorem dX6_slotsWith_13 : decode cX6_slotsWith 13 = .ok (.aload_n 0, 1) := by decide +kernel
theorem dX6_slotsWith_14 : decode cX6_slotsWith 14 = .ok (.getfield 11, 3) := by decide +kernel
theorem dX6_slotsWith_17 : decode cX6_slotsWith 17 = .ok (.iload_n 3, 1) := by decide +kernel
theorem dX6_slotsWith_18 : decode cX6_slotsWith 18 = .ok (.aaload, 1) := by decide +kernel
theorem dX6_slotsWith_19 : decode cX6_slotsWith 19 = .ok (.aload_n 1, 1) := by decide +kernel
theorem dX6_slotsWith_20 : decode cX6_slotsWith 20 = .ok (.if_acmp .ne 6, 3) := by decide +kernel
theorem dX6_slotsWith_23 : decode cX6_slotsWith 23 = .ok (.iinc 2 1, 3) := by decide +kernel
theorem dX6_slotsWith_26 : decode cX6_slotsWith 26 = .ok (.iinc 3 1, 3) := by decide +kernel
theorem dX6_slotsWith_29 : decode cX6_slotsWith 29 = .ok (.goto (-25), 3) := by decide +kernel
theorem dX6_slotsWith_32 : decode cX6_slotsWith 32 = .ok (.iload_n 2, 1) := by decide +kernel
theorem dX6_slotsWith_33 : decode cX6_slotsWith 33 = .ok (.ireturn, 1) := by decide +kernel
theorem dX6_imageRow_0 : decode cX6_imageRow 0 = .ok (.iload_n 1, 1) := by decide +kernel
theorem dX6_imageRow_1 : decode cX6_imageRow 1 = .ok (.ifCond .ne 10, 3) := by decide +kernel
theorem dX6_imageRow_4 : decode cX6_imageRow 4 = .ok (.aload_n 0, 1) := by decide +kernel
theorem dX6_imageRow_5 : decode cX6_imageRow 5 = .ok (.getfield 15, 3) := by decide +kernel
theorem dX6_imageRow_8 : decode cX6_imageRow 8 = .ok (.goto 7, 3) := by decide +kernel
theorem dX6_imageRow_11 : decode cX6_imageRow 11 = .ok (.aload_n 0, 1) := by decide +kernel
theorem dX6_imageRow_12 : decode cX6_imageRow 12 = .ok (.getfield 18, 3) := by decide +kernel
theorem dX6_imageRow_15 : decode cX6_imageRow 15 = .ok (.areturn, 1) := by decide +kernel
theorem dX6_moveCells_0 : decode cX6_moveCells 0 = .ok (.iconst 0, 1) := by decide +kernel
theorem dX6_moveCells_1 : decode cX6_moveCells 1 = .ok (.istore_n 2, 1) := by decide +kernel
theorem dX6_moveCells_2 : decode cX6_moveCells 2 = .ok (.iload_n 2, 1) := by decide +kernel
theorem dX6_moveCells_3 : decode cX6_moveCells 3 = .ok (.aload_n 0, 1) := by decide +kernel
theorem dX6_moveCells_4 : decode cX6_moveCells 4 = .ok (.arraylength, 1) := by decide +kernel
theorem dX6_moveCells_5 : decode cX6_moveCells 5 = .ok (.if_icmp .ge 21, 3) := by decide +kernel
theorem dX6_moveCells_8 : decode cX6_moveCells 8 = .ok (.iload_n 2, 1) := by decide +kernel
theorem dX6_moveCells_9 : decode cX6_moveCells 9 = .ok (.aload_n 1, 1) := by decide +kernel
theorem dX6_moveCells_10 : decode cX6_moveCells 10 = .ok (.arraylength, 1) := by decide +kernel
theorem dX6_moveCells_11 : decode cX6_moveCells 11 = .ok (.if_icmp .ge 15, 3) := by decide +kernel
theorem dX6_moveCells_14 : decode cX6_moveCells 14 = .ok (.aload_n 1, 1) := by decide +kernel
theorem dX6_moveCells_15 : decode cX6_moveCells 15 = .ok (.iload_n 2, 1) := by decide +kernel
theorem dX6_moveCells_16 : decode cX6_moveCells 16 = .ok (.aload_n 0, 1) := by decide +kernel
theorem dX6_moveCells_17 : decode cX6_moveCells 17 = .ok (.iload_n 2, 1) := by decide +kernel
theorem dX6_moveCells_18 : decode cX6_moveCells 18 = .ok (.aaload, 1) := by decide +kernel
theorem dX6_moveCells_19 : decode cX6_moveCells 19 = .ok (.aastore, 1) := by decide +kernel
theorem dX6_moveCells_20 : decode cX6_moveCells 20 = .ok (.iinc 2 1, 3) := by decide +kernel
theorem dX6_moveCells_23 : decode cX6_moveCells 23 = .ok (.goto (-21), 3) := by decide +kernel
theorem dX6_moveCells_26 : decode cX6_moveCells 26 = .ok (.return_, 1) := by decide +kernel
theorem dL_law_0 : decode cL_law 0 = .ok (.new 7, 3) := by decide +kernel
theorem dL_law_3 : decode cL_law 3 = .ok (.dup, 1) := by decide +kernel
theorem dL_law_4 : decode cL_law 4 = .ok (.invokespecial 9, 3) := by decide +kernel
theorem dL_law_7 : decode cL_law 7 = .ok (.astore_n 1, 1) := by decide +kernel
theorem dL_law_8 : decode cL_law 8 = .ok (.new 10, 3) := by decide +kernel
theorem dL_law_11 : decode cL_law 11 = .ok (.dup, 1) := by decide +kernel
theorem dL_law_12 : decode cL_law 12 = .ok (.invokespecial 12, 3) := by decide +kernel
theorem dL_law_15 : decode cL_law 15 = .ok (.astore_n 2, 1) := by decide +kernel
theorem dL_law_16 : decode cL_law 16 = .ok (.iconst 0, 1) := by decide +kernel
theorem dL_law_17 : decode cL_law 17 = .ok (.istore_n 3, 1) := by decide +kernel
theorem dL_law_18 : decode cL_law 18 = .ok (.iload_n 3, 1) := by decide +kernel
theorem dL_law_19 : decode cL_law 19 = .ok (.aload_n 0, 1) := by decide +kernel
theorem dL_law_20 : decode cL_law 20 = .ok (.arraylength, 1) := by decide +kernel
theorem dL_law_21 : decode cL_law 21 = .ok (.iconst 5, 1) := by decide +kernel
theorem dL_law_22 : decode cL_law 22 = .ok (.isub, 1) := by decide +kernel
theorem dL_law_23 : decode cL_law 23 = .ok (.if_icmp .gt 647, 3) := by decide +kernel
theorem dL_law_26 : decode cL_law 26 = .ok (.aload_n 0, 1) := by decide +kernel
theorem dL_law_27 : decode cL_law 27 = .ok (.iload_n 3, 1) := by decide +kernel
theorem dL_law_28 : decode cL_law 28 = .ok (.iaload, 1) := by decide +kernel
theorem dL_law_29 : decode cL_law 29 = .ok (.bipush 31, 2) := by decide +kernel
theorem dL_law_31 : decode cL_law 31 = .ok (.iand, 1) := by decide +kernel
theorem dL_law_32 : decode cL_law 32 = .ok (.tableswitch 632 0 17 #[88, 121, 144, 167, 200, 243, 296, 319, 352, 375, 408, 451, 494, 517, 530, 563, 586, 609], 88) := by decide +kernel
theorem dL_law_120 : decode cL_law 120 = .ok (.aload_n 1, 1) := by decide +kernel
theorem dL_law_121 : decode cL_law 121 = .ok (.aload_n 0, 1) := by decide +kernel
theorem dL_law_122 : decode cL_law 122 = .ok (.iload_n 3, 1) := by decide +kernel
theorem dL_law_123 : decode cL_law 123 = .ok (.iconst 1, 1) := by decide +kernel
theorem dL_law_124 : decode cL_law 124 = .ok (.iadd, 1) := by decide +kernel
theorem dL_law_125 : decode cL_law 125 = .ok (.iaload, 1) := by decide +kernel
theorem dL_law_126 : decode cL_law 126 = .ok (.aload_n 0, 1) := by decide +kernel
theorem dL_law_127 : decode cL_law 127 = .ok (.iload_n 3, 1) := by decide +kernel
theorem dL_law_128 : decode cL_law 128 = .ok (.iconst 2, 1) := by decide +kernel
theorem dL_law_129 : decode cL_law 129 = .ok (.iadd, 1) := by decide +kernel
theorem dL_law_130 : decode cL_law 130 = .ok (.iaload, 1) := by decide +kernel
theorem dL_law_131 : decode cL_law 131 = .ok (.invokevirtual 13, 3) := by decide +kernel
theorem dL_law_134 : decode cL_law 134 = .ok (.aload_n 2, 1) := by decide +kernel
theorem dL_law_135 : decode cL_law 135 = .ok (.aload_n 0, 1) := by decide +kernel
theorem dL_law_136 : decode cL_law 136 = .ok (.iload_n 3, 1) := by decide +kernel
theorem dL_law_137 : decode cL_law 137 = .ok (.iconst 1, 1) := by decide +kernel
theorem dL_law_138 : decode cL_law 138 = .ok (.iadd, 1) := by decide +kernel
theorem dL_law_139 : decode cL_law 139 = .ok (.iaload, 1) := by decide +kernel
theorem dL_law_140 : decode cL_law 140 = .ok (.aload_n 0, 1) := by decide +kernel
theorem dL_law_141 : decode cL_law 141 = .ok (.iload_n 3, 1) := by decide +kernel
theorem dL_law_142 : decode cL_law 142 = .ok (.iconst 2, 1) := by decide +kernel
theorem dL_law_143 : decode cL_law 143 = .ok (.iadd, 1) := by decide +kernel
theorem dL_law_144 : decode cL_law 144 = .ok (.iaload, 1) := by decide +kernel
theorem dL_law_145 : decode cL_law 145 = .ok (.invokevirtual 17, 3) := by decide +kernel
theorem dL_law_148 : decode cL_law 148 = .ok (.if_icmp .eq 516, 3) := by decide +kernel
theorem dL_law_151 : decode cL_law 151 = .ok (.iconst 0, 1) := by decide +kernel
theorem dL_law_152 : decode cL_law 152 = .ok (.ireturn, 1) := by decide +kernel
theorem dL_law_153 : decode cL_law 153 = .ok (.aload_n 1, 1) := by decide +kernel
theorem dL_law_154 : decode cL_law 154 = .ok (.aload_n 0, 1) := by decide +kernel
theorem dL_law_155 : decode cL_law 155 = .ok (.iload_n 3, 1) := by decide +kernel
theorem dL_law_156 : decode cL_law 156 = .ok (.iconst 1, 1) := by decide +kernel
theorem dL_law_157 : decode cL_law 157 = .ok (.iadd, 1) := by decide +kernel
theorem dL_law_158 : decode cL_law 158 = .ok (.iaload, 1) := by decide +kernel
theorem dL_law_159 : decode cL_law 159 = .ok (.invokevirtual 18, 3) := by decide +kernel
theorem dL_law_162 : decode cL_law 162 = .ok (.aload_n 2, 1) := by decide +kernel
theorem dL_law_163 : decode cL_law 163 = .ok (.aload_n 0, 1) := by decide +kernel
theorem dL_law_164 : decode cL_law 164 = .ok (.iload_n 3, 1) := by decide +kernel
theorem dL_law_165 : decode cL_law 165 = .ok (.iconst 1, 1) := by decide +kernel
theorem dL_law_166 : decode cL_law 166 = .ok (.iadd, 1) := by decide +kernel
theorem dL_law_167 : decode cL_law 167 = .ok (.iaload, 1) := by decide +kernel
theorem dL_law_168 : decode cL_law 168 = .ok (.invokevirtual 22, 3) := by decide +kernel
theorem dL_law_171 : decode cL_law 171 = .ok (.if_icmp .eq 493, 3) := by decide +kernel
theorem dL_law_174 : decode cL_law 174 = .ok (.iconst 0, 1) := by decide +kernel
theorem dL_law_175 : decode cL_law 175 = .ok (.ireturn, 1) := by decide +kernel
theorem dL_law_176 : decode cL_law 176 = .ok (.aload_n 1, 1) := by decide +kernel
theorem dL_law_177 : decode cL_law 177 = .ok (.aload_n 0, 1) := by decide +kernel
theorem dL_law_178 : decode cL_law 178 = .ok (.iload_n 3, 1) := by decide +kernel
theorem dL_law_179 : decode cL_law 179 = .ok (.iconst 1, 1) := by decide +kernel
theorem dL_law_180 : decode cL_law 180 = .ok (.iadd, 1) := by decide +kernel
theorem dL_law_181 : decode cL_law 181 = .ok (.iaload, 1) := by decide +kernel
theorem dL_law_182 : decode cL_law 182 = .ok (.invokevirtual 23, 3) := by decide +kernel
theorem dL_law_185 : decode cL_law 185 = .ok (.aload_n 2, 1) := by decide +kernel
theorem dL_law_186 : decode cL_law 186 = .ok (.aload_n 0, 1) := by decide +kernel
theorem dL_law_187 : decode cL_law 187 = .ok (.iload_n 3, 1) := by decide +kernel
theorem dL_law_188 : decode cL_law 188 = .ok (.iconst 1, 1) := by decide +kernel
theorem dL_law_189 : decode cL_law 189 = .ok (.iadd, 1) := by decide +kernel
theorem dL_law_190 : decode cL_law 190 = .ok (.iaload, 1) := by decide +kernel
theorem dL_law_191 : decode cL_law 191 = .ok (.invokevirtual 26, 3) := by decide +kernel
theorem dL_law_194 : decode cL_law 194 = .ok (.if_icmp .eq 470, 3) := by decide +kernel
theorem dL_law_197 : decode cL_law 197 = .ok (.iconst 0, 1) := by decide +kernel
theorem dL_law_198 : decode cL_law 198 = .ok (.ireturn, 1) := by decide +kernel
theorem dL_law_199 : decode cL_law 199 = .ok (.aload_n 1, 1) := by decide +kernel
theorem dL_law_200 : decode cL_law 200 = .ok (.aload_n 0, 1) := by decide +kernel
theorem dL_law_201 : decode cL_law 201 = .ok (.iload_n 3, 1) := by decide +kernel
theorem dL_law_202 : decode cL_law 202 = .ok (.iconst 1, 1) := by decide +kernel
theorem dL_law_203 : decode cL_law 203 = .ok (.iadd, 1) := by decide +kernel
theorem dL_law_204 : decode cL_law 204 = .ok (.iaload, 1) := by decide +kernel
theorem dL_law_205 : decode cL_law 205 = .ok (.aload_n 0, 1) := by decide +kernel
theorem dL_law_206 : decode cL_law 206 = .ok (.iload_n 3, 1) := by decide +kernel
theorem dL_law_207 : decode cL_law 207 = .ok (.iconst 2, 1) := by decide +kernel
theorem dL_law_208 : decode cL_law 208 = .ok (.iadd, 1) := by decide +kernel
theorem dL_law_209 : decode cL_law 209 = .ok (.iaload, 1) := by decide +kernel
theorem dL_law_210 : decode cL_law 210 = .ok (.invokevirtual 27, 3) := by decide +kernel
theorem dL_law_213 : decode cL_law 213 = .ok (.aload_n 2, 1) := by decide +kernel
theorem dL_law_214 : decode cL_law 214 = .ok (.aload_n 0, 1) := by decide +kernel
theorem dL_law_215 : decode cL_law 215 = .ok (.iload_n 3, 1) := by decide +kernel
theorem dL_law_216 : decode cL_law 216 = .ok (.iconst 1, 1) := by decide +kernel
theorem dL_law_217 : decode cL_law 217 = .ok (.iadd, 1) := by decide +kernel
theorem dL_law_218 : decode cL_law 218 = .ok (.iaload, 1) := by decide +kernel
theorem dL_law_219 : decode cL_law 219 = .ok (.aload_n 0, 1) := by decide +kernel
theorem dL_law_220 : decode cL_law 220 = .ok (.iload_n 3, 1) := by decide +kernel
theorem dL_law_221 : decode cL_law 221 = .ok (.iconst 2, 1) := by decide +kernel
theorem dL_law_222 : decode cL_law 222 = .ok (.iadd, 1) := by decide +kernel
theorem dL_law_223 : decode cL_law 223 = .ok (.iaload, 1) := by decide +kernel
theorem dL_law_224 : decode cL_law 224 = .ok (.invokevirtual 30, 3) := by decide +kernel
theorem dL_law_227 : decode cL_law 227 = .ok (.if_icmp .eq 437, 3) := by decide +kernel
theorem dL_law_230 : decode cL_law 230 = .ok (.iconst 0, 1) := by decide +kernel
theorem dL_law_231 : decode cL_law 231 = .ok (.ireturn, 1) := by decide +kernel
theorem dL_law_232 : decode cL_law 232 = .ok (.aload_n 1, 1) := by decide +kernel
theorem dL_law_233 : decode cL_law 233 = .ok (.aload_n 0, 1) := by decide +kernel
theorem dL_law_234 : decode cL_law 234 = .ok (.iload_n 3, 1) := by decide +kernel
theorem dL_law_235 : decode cL_law 235 = .ok (.iconst 1, 1) := by decide +kernel
theorem dL_law_236 : decode cL_law 236 = .ok (.iadd, 1) := by decide +kernel
theorem dL_law_237 : decode cL_law 237 = .ok (.iaload, 1) := by decide +kernel
theorem dL_law_238 : decode cL_law 238 = .ok (.aload_n 0, 1) := by decide +kernel
theorem dL_law_239 : decode cL_law 239 = .ok (.iload_n 3, 1) := by decide +kernel
theorem dL_law_240 : decode cL_law 240 = .ok (.iconst 2, 1) := by decide +kernel
theorem dL_law_241 : decode cL_law 241 = .ok (.iadd, 1) := by decide +kernel
theorem dL_law_242 : decode cL_law 242 = .ok (.iaload, 1) := by decide +kernel
theorem dL_law_243 : decode cL_law 243 = .ok (.aload_n 0, 1) := by decide +kernel
theorem dL_law_244 : decode cL_law 244 = .ok (.iload_n 3, 1) := by decide +kernel
theorem dL_law_245 : decode cL_law 245 = .ok (.iconst 3, 1) := by decide +kernel
theorem dL_law_246 : decode cL_law 246 = .ok (.iadd, 1) := by decide +kernel
theorem dL_law_247 : decode cL_law 247 = .ok (.iaload, 1) := by decide +kernel
theorem dL_law_248 : decode cL_law 248 = .ok (.invokevirtual 31, 3) := by decide +kernel
theorem dL_law_251 : decode cL_law 251 = .ok (.aload_n 2, 1) := by decide +kernel
theorem dL_law_252 : decode cL_law 252 = .ok (.aload_n 0, 1) := by decide +kernel
theorem dL_law_253 : decode cL_law 253 = .ok (.iload_n 3, 1) := by decide +kernel
theorem dL_law_254 : decode cL_law 254 = .ok (.iconst 1, 1) := by decide +kernel
theorem dL_law_255 : decode cL_law 255 = .ok (.iadd, 1) := by decide +kernel
theorem dL_law_256 : decode cL_law 256 = .ok (.iaload, 1) := by decide +kernel
theorem dL_law_257 : decode cL_law 257 = .ok (.aload_n 0, 1) := by decide +kernel
theorem dL_law_258 : decode cL_law 258 = .ok (.iload_n 3, 1) := by decide +kernel
theorem dL_law_259 : decode cL_law 259 = .ok (.iconst 2, 1) := by decide +kernel
theorem dL_law_260 : decode cL_law 260 = .ok (.iadd, 1) := by decide +kernel
theorem dL_law_261 : decode cL_law 261 = .ok (.iaload, 1) := by decide +kernel
theorem dL_law_262 : decode cL_law 262 = .ok (.aload_n 0, 1) := by decide +kernel
theorem dL_law_263 : decode cL_law 263 = .ok (.iload_n 3, 1) := by decide +kernel
theorem dL_law_264 : decode cL_law 264 = .ok (.iconst 3, 1) := by decide +kernel
theorem dL_law_265 : decode cL_law 265 = .ok (.iadd, 1) := by decide +kernel
theorem dL_law_266 : decode cL_law 266 = .ok (.iaload, 1) := by decide +kernel
theorem dL_law_267 : decode cL_law 267 = .ok (.invokevirtual 35, 3) := by decide +kernel
theorem dL_law_270 : decode cL_law 270 = .ok (.if_icmp .eq 394, 3) := by decide +kernel
theorem dL_law_273 : decode cL_law 273 = .ok (.iconst 0, 1) := by decide +kernel
theorem dL_law_274 : decode cL_law 274 = .ok (.ireturn, 1) := by decide +kernel
theorem dL_law_275 : decode cL_law 275 = .ok (.aload_n 1, 1) := by decide +kernel
theorem dL_law_276 : decode cL_law 276 = .ok (.aload_n 0, 1) := by decide +kernel
theorem dL_law_277 : decode cL_law 277 = .ok (.iload_n 3, 1) := by decide +kernel
theorem dL_law_278 : decode cL_law 278 = .ok (.iconst 1, 1) := by decide +kernel
theorem dL_law_279 : decode cL_law 279 = .ok (.iadd, 1) := by decide +kernel
theorem dL_law_280 : decode cL_law 280 = .ok (.iaload, 1) := by decide +kernel
theorem dL_law_281 : decode cL_law 281 = .ok (.aload_n 0, 1) := by decide +kernel
theorem dL_law_282 : decode cL_law 282 = .ok (.iload_n 3, 1) := by decide +kernel
theorem dL_law_283 : decode cL_law 283 = .ok (.iconst 2, 1) := by decide +kernel
theorem dL_law_284 : decode cL_law 284 = .ok (.iadd, 1) := by decide +kernel
theorem dL_law_285 : decode cL_law 285 = .ok (.iaload, 1) := by decide +kernel
theorem dL_law_286 : decode cL_law 286 = .ok (.aload_n 0, 1) := by decide +kernel
theorem dL_law_287 : decode cL_law 287 = .ok (.iload_n 3, 1) := by decide +kernel
theorem dL_law_288 : decode cL_law 288 = .ok (.iconst 3, 1) := by decide +kernel
theorem dL_law_289 : decode cL_law 289 = .ok (.iadd, 1) := by decide +kernel
theorem dL_law_290 : decode cL_law 290 = .ok (.iaload, 1) := by decide +kernel
theorem dL_law_291 : decode cL_law 291 = .ok (.aload_n 0, 1) := by decide +kernel
theorem dL_law_292 : decode cL_law 292 = .ok (.iload_n 3, 1) := by decide +kernel
theorem dL_law_293 : decode cL_law 293 = .ok (.iconst 4, 1) := by decide +kernel
theorem dL_law_294 : decode cL_law 294 = .ok (.iadd, 1) := by decide +kernel
theorem dL_law_295 : decode cL_law 295 = .ok (.iaload, 1) := by decide +kernel
theorem dL_law_296 : decode cL_law 296 = .ok (.invokevirtual 36, 3) := by decide +kernel
theorem dL_law_299 : decode cL_law 299 = .ok (.aload_n 2, 1) := by decide +kernel
theorem dL_law_300 : decode cL_law 300 = .ok (.aload_n 0, 1) := by decide +kernel
theorem dL_law_301 : decode cL_law 301 = .ok (.iload_n 3, 1) := by decide +kernel
theorem dL_law_302 : decode cL_law 302 = .ok (.iconst 1, 1) := by decide +kernel
theorem dL_law_303 : decode cL_law 303 = .ok (.iadd, 1) := by decide +kernel
theorem dL_law_304 : decode cL_law 304 = .ok (.iaload, 1) := by decide +kernel
theorem dL_law_305 : decode cL_law 305 = .ok (.aload_n 0, 1) := by decide +kernel
theorem dL_law_306 : decode cL_law 306 = .ok (.iload_n 3, 1) := by decide +kernel
theorem dL_law_307 : decode cL_law 307 = .ok (.iconst 2, 1) := by decide +kernel
theorem dL_law_308 : decode cL_law 308 = .ok (.iadd, 1) := by decide +kernel
theorem dL_law_309 : decode cL_law 309 = .ok (.iaload, 1) := by decide +kernel
theorem dL_law_310 : decode cL_law 310 = .ok (.aload_n 0, 1) := by decide +kernel
theorem dL_law_311 : decode cL_law 311 = .ok (.iload_n 3, 1) := by decide +kernel
theorem dL_law_312 : decode cL_law 312 = .ok (.iconst 3, 1) := by decide +kernel
theorem dL_law_313 : decode cL_law 313 = .ok (.iadd, 1) := by decide +kernel
theorem dL_law_314 : decode cL_law 314 = .ok (.iaload, 1) := by decide +kernel
theorem dL_law_315 : decode cL_law 315 = .ok (.aload_n 0, 1) := by decide +kernel
theorem dL_law_316 : decode cL_law 316 = .ok (.iload_n 3, 1) := by decide +kernel
theorem dL_law_317 : decode cL_law 317 = .ok (.iconst 4, 1) := by decide +kernel
theorem dL_law_318 : decode cL_law 318 = .ok (.iadd, 1) := by decide +kernel
theorem dL_law_319 : decode cL_law 319 = .ok (.iaload, 1) := by decide +kernel
theorem dL_law_320 : decode cL_law 320 = .ok (.invokevirtual 40, 3) := by decide +kernel
theorem dL_law_323 : decode cL_law 323 = .ok (.if_icmp .eq 341, 3) := by decide +kernel
theorem dL_law_326 : decode cL_law 326 = .ok (.iconst 0, 1) := by decide +kernel
theorem dL_law_327 : decode cL_law 327 = .ok (.ireturn, 1) := by decide +kernel
theorem dL_law_328 : decode cL_law 328 = .ok (.aload_n 1, 1) := by decide +kernel
theorem dL_law_329 : decode cL_law 329 = .ok (.aload_n 0, 1) := by decide +kernel
theorem dL_law_330 : decode cL_law 330 = .ok (.iload_n 3, 1) := by decide +kernel
theorem dL_law_331 : decode cL_law 331 = .ok (.iconst 1, 1) := by decide +kernel
theorem dL_law_332 : decode cL_law 332 = .ok (.iadd, 1) := by decide +kernel
theorem dL_law_333 : decode cL_law 333 = .ok (.iaload, 1) := by decide +kernel
theorem dL_law_334 : decode cL_law 334 = .ok (.invokevirtual 41, 3) := by decide +kernel
theorem dL_law_337 : decode cL_law 337 = .ok (.aload_n 2, 1) := by decide +kernel
theorem dL_law_338 : decode cL_law 338 = .ok (.aload_n 0, 1) := by decide +kernel
theorem dL_law_339 : decode cL_law 339 = .ok (.iload_n 3, 1) := by decide +kernel
theorem dL_law_340 : decode cL_law 340 = .ok (.iconst 1, 1) := by decide +kernel
theorem dL_law_341 : decode cL_law 341 = .ok (.iadd, 1) := by decide +kernel
theorem dL_law_342 : decode cL_law 342 = .ok (.iaload, 1) := by decide +kernel
theorem dL_law_343 : decode cL_law 343 = .ok (.invokevirtual 44, 3) := by decide +kernel
theorem dL_law_346 : decode cL_law 346 = .ok (.if_icmp .eq 318, 3) := by decide +kernel
theorem dL_law_349 : decode cL_law 349 = .ok (.iconst 0, 1) := by decide +kernel
theorem dL_law_350 : decode cL_law 350 = .ok (.ireturn, 1) := by decide +kernel
theorem dL_law_351 : decode cL_law 351 = .ok (.aload_n 1, 1) := by decide +kernel
theorem dL_law_352 : decode cL_law 352 = .ok (.aload_n 0, 1) := by decide +kernel
theorem dL_law_353 : decode cL_law 353 = .ok (.iload_n 3, 1) := by decide +kernel
theorem dL_law_354 : decode cL_law 354 = .ok (.iconst 1, 1) := by decide +kernel
theorem dL_law_355 : decode cL_law 355 = .ok (.iadd, 1) := by decide +kernel
theorem dL_law_356 : decode cL_law 356 = .ok (.iaload, 1) := by decide +kernel
theorem dL_law_357 : decode cL_law 357 = .ok (.aload_n 0, 1) := by decide +kernel
theorem dL_law_358 : decode cL_law 358 = .ok (.iload_n 3, 1) := by decide +kernel
theorem dL_law_359 : decode cL_law 359 = .ok (.iconst 2, 1) := by decide +kernel
theorem dL_law_360 : decode cL_law 360 = .ok (.iadd, 1) := by decide +kernel
theorem dL_law_361 : decode cL_law 361 = .ok (.iaload, 1) := by decide +kernel
theorem dL_law_362 : decode cL_law 362 = .ok (.invokevirtual 45, 3) := by decide +kernel
theorem dL_law_365 : decode cL_law 365 = .ok (.aload_n 2, 1) := by decide +kernel
theorem dL_law_366 : decode cL_law 366 = .ok (.aload_n 0, 1) := by decide +kernel
theorem dL_law_367 : decode cL_law 367 = .ok (.iload_n 3, 1) := by decide +kernel
theorem dL_law_368 : decode cL_law 368 = .ok (.iconst 1, 1) := by decide +kernel
theorem dL_law_369 : decode cL_law 369 = .ok (.iadd, 1) := by decide +kernel
theorem dL_law_370 : decode cL_law 370 = .ok (.iaload, 1) := by decide +kernel
theorem dL_law_371 : decode cL_law 371 = .ok (.aload_n 0, 1) := by decide +kernel
theorem dL_law_372 : decode cL_law 372 = .ok (.iload_n 3, 1) := by decide +kernel
theorem dL_law_373 : decode cL_law 373 = .ok (.iconst 2, 1) := by decide +kernel
theorem dL_law_374 : decode cL_law 374 = .ok (.iadd, 1) := by decide +kernel
theorem dL_law_375 : decode cL_law 375 = .ok (.iaload, 1) := by decide +kernel
theorem dL_law_376 : decode cL_law 376 = .ok (.invokevirtual 48, 3) := by decide +kernel
theorem dL_law_379 : decode cL_law 379 = .ok (.if_icmp .eq 285, 3) := by decide +kernel
theorem dL_law_382 : decode cL_law 382 = .ok (.iconst 0, 1) := by decide +kernel
theorem dL_law_383 : decode cL_law 383 = .ok (.ireturn, 1) := by decide +kernel
theorem dL_law_384 : decode cL_law 384 = .ok (.aload_n 1, 1) := by decide +kernel
theorem dL_law_385 : decode cL_law 385 = .ok (.aload_n 0, 1) := by decide +kernel
theorem dL_law_386 : decode cL_law 386 = .ok (.iload_n 3, 1) := by decide +kernel
theorem dL_law_387 : decode cL_law 387 = .ok (.iconst 1, 1) := by decide +kernel
theorem dL_law_388 : decode cL_law 388 = .ok (.iadd, 1) := by decide +kernel
theorem dL_law_389 : decode cL_law 389 = .ok (.iaload, 1) := by decide +kernel
theorem dL_law_390 : decode cL_law 390 = .ok (.invokevirtual 49, 3) := by decide +kernel
theorem dL_law_393 : decode cL_law 393 = .ok (.aload_n 2, 1) := by decide +kernel
theorem dL_law_394 : decode cL_law 394 = .ok (.aload_n 0, 1) := by decide +kernel
theorem dL_law_395 : decode cL_law 395 = .ok (.iload_n 3, 1) := by decide +kernel
theorem dL_law_396 : decode cL_law 396 = .ok (.iconst 1, 1) := by decide +kernel
theorem dL_law_397 : decode cL_law 397 = .ok (.iadd, 1) := by decide +kernel
theorem dL_law_398 : decode cL_law 398 = .ok (.iaload, 1) := by decide +kernel
theorem dL_law_399 : decode cL_law 399 = .ok (.invokevirtual 52, 3) := by decide +kernel
theorem dL_law_402 : decode cL_law 402 = .ok (.if_icmp .eq 262, 3) := by decide +kernel
theorem dL_law_405 : decode cL_law 405 = .ok (.iconst 0, 1) := by decide +kernel
theorem dL_law_406 : decode cL_law 406 = .ok (.ireturn, 1) := by decide +kernel
theorem dL_law_407 : decode cL_law 407 = .ok (.aload_n 1, 1) := by decide +kernel
theorem dL_law_408 : decode cL_law 408 = .ok (.aload_n 0, 1) := by decide +kernel
theorem dL_law_409 : decode cL_law 409 = .ok (.iload_n 3, 1) := by decide +kernel
theorem dL_law_410 : decode cL_law 410 = .ok (.iconst 1, 1) := by decide +kernel
theorem dL_law_411 : decode cL_law 411 = .ok (.iadd, 1) := by decide +kernel
theorem dL_law_412 : decode cL_law 412 = .ok (.iaload, 1) := by decide +kernel
theorem dL_law_413 : decode cL_law 413 = .ok (.aload_n 0, 1) := by decide +kernel
theorem dL_law_414 : decode cL_law 414 = .ok (.iload_n 3, 1) := by decide +kernel
theorem dL_law_415 : decode cL_law 415 = .ok (.iconst 2, 1) := by decide +kernel
theorem dL_law_416 : decode cL_law 416 = .ok (.iadd, 1) := by decide +kernel
theorem dL_law_417 : decode cL_law 417 = .ok (.iaload, 1) := by decide +kernel
theorem dL_law_418 : decode cL_law 418 = .ok (.invokevirtual 53, 3) := by decide +kernel
theorem dL_law_421 : decode cL_law 421 = .ok (.aload_n 2, 1) := by decide +kernel
theorem dL_law_422 : decode cL_law 422 = .ok (.aload_n 0, 1) := by decide +kernel
theorem dL_law_423 : decode cL_law 423 = .ok (.iload_n 3, 1) := by decide +kernel
theorem dL_law_424 : decode cL_law 424 = .ok (.iconst 1, 1) := by decide +kernel
theorem dL_law_425 : decode cL_law 425 = .ok (.iadd, 1) := by decide +kernel
theorem dL_law_426 : decode cL_law 426 = .ok (.iaload, 1) := by decide +kernel
theorem dL_law_427 : decode cL_law 427 = .ok (.aload_n 0, 1) := by decide +kernel
theorem dL_law_428 : decode cL_law 428 = .ok (.iload_n 3, 1) := by decide +kernel
theorem dL_law_429 : decode cL_law 429 = .ok (.iconst 2, 1) := by decide +kernel
theorem dL_law_430 : decode cL_law 430 = .ok (.iadd, 1) := by decide +kernel
theorem dL_law_431 : decode cL_law 431 = .ok (.iaload, 1) := by decide +kernel
theorem dL_law_432 : decode cL_law 432 = .ok (.invokevirtual 56, 3) := by decide +kernel
theorem dL_law_435 : decode cL_law 435 = .ok (.if_icmp .eq 229, 3) := by decide +kernel
theorem dL_law_438 : decode cL_law 438 = .ok (.iconst 0, 1) := by decide +kernel
theorem dL_law_439 : decode cL_law 439 = .ok (.ireturn, 1) := by decide +kernel
theorem dL_law_440 : decode cL_law 440 = .ok (.aload_n 1, 1) := by decide +kernel
theorem dL_law_441 : decode cL_law 441 = .ok (.aload_n 0, 1) := by decide +kernel
theorem dL_law_442 : decode cL_law 442 = .ok (.iload_n 3, 1) := by decide +kernel
theorem dL_law_443 : decode cL_law 443 = .ok (.iconst 1, 1) := by decide +kernel
theorem dL_law_444 : decode cL_law 444 = .ok (.iadd, 1) := by decide +kernel
theorem dL_law_445 : decode cL_law 445 = .ok (.iaload, 1) := by decide +kernel
theorem dL_law_446 : decode cL_law 446 = .ok (.aload_n 0, 1) := by decide +kernel
theorem dL_law_447 : decode cL_law 447 = .ok (.iload_n 3, 1) := by decide +kernel
theorem dL_law_448 : decode cL_law 448 = .ok (.iconst 2, 1) := by decide +kernel
theorem dL_law_449 : decode cL_law 449 = .ok (.iadd, 1) := by decide +kernel
theorem dL_law_450 : decode cL_law 450 = .ok (.iaload, 1) := by decide +kernel
theorem dL_law_451 : decode cL_law 451 = .ok (.aload_n 0, 1) := by decide +kernel
theorem dL_law_452 : decode cL_law 452 = .ok (.iload_n 3, 1) := by decide +kernel
theorem dL_law_453 : decode cL_law 453 = .ok (.iconst 3, 1) := by decide +kernel
theorem dL_law_454 : decode cL_law 454 = .ok (.iadd, 1) := by decide +kernel
theorem dL_law_455 : decode cL_law 455 = .ok (.iaload, 1) := by decide +kernel
theorem dL_law_456 : decode cL_law 456 = .ok (.invokevirtual 57, 3) := by decide +kernel
theorem dL_law_459 : decode cL_law 459 = .ok (.aload_n 2, 1) := by decide +kernel
theorem dL_law_460 : decode cL_law 460 = .ok (.aload_n 0, 1) := by decide +kernel
theorem dL_law_461 : decode cL_law 461 = .ok (.iload_n 3, 1) := by decide +kernel
theorem dL_law_462 : decode cL_law 462 = .ok (.iconst 1, 1) := by decide +kernel
theorem dL_law_463 : decode cL_law 463 = .ok (.iadd, 1) := by decide +kernel
theorem dL_law_464 : decode cL_law 464 = .ok (.iaload, 1) := by decide +kernel
theorem dL_law_465 : decode cL_law 465 = .ok (.aload_n 0, 1) := by decide +kernel
theorem dL_law_466 : decode cL_law 466 = .ok (.iload_n 3, 1) := by decide +kernel
theorem dL_law_467 : decode cL_law 467 = .ok (.iconst 2, 1) := by decide +kernel
theorem dL_law_468 : decode cL_law 468 = .ok (.iadd, 1) := by decide +kernel
theorem dL_law_469 : decode cL_law 469 = .ok (.iaload, 1) := by decide +kernel
theorem dL_law_470 : decode cL_law 470 = .ok (.aload_n 0, 1) := by decide +kernel
theorem dL_law_471 : decode cL_law 471 = .ok (.iload_n 3, 1) := by decide +kernel
theorem dL_law_472 : decode cL_law 472 = .ok (.iconst 3, 1) := by decide +kernel
theorem dL_law_473 : decode cL_law 473 = .ok (.iadd, 1) := by decide +kernel
theorem dL_law_474 : decode cL_law 474 = .ok (.iaload, 1) := by decide +kernel
theorem dL_law_475 : decode cL_law 475 = .ok (.invokevirtual 60, 3) := by decide +kernel
theorem dL_law_478 : decode cL_law 478 = .ok (.if_icmp .eq 186, 3) := by decide +kernel
theorem dL_law_481 : decode cL_law 481 = .ok (.iconst 0, 1) := by decide +kernel
theorem dL_law_482 : decode cL_law 482 = .ok (.ireturn, 1) := by decide +kernel
theorem dL_law_483 : decode cL_law 483 = .ok (.aload_n 1, 1) := by decide +kernel
theorem dL_law_484 : decode cL_law 484 = .ok (.aload_n 0, 1) := by decide +kernel
theorem dL_law_485 : decode cL_law 485 = .ok (.iload_n 3, 1) := by decide +kernel
theorem dL_law_486 : decode cL_law 486 = .ok (.iconst 1, 1) := by decide +kernel
theorem dL_law_487 : decode cL_law 487 = .ok (.iadd, 1) := by decide +kernel
theorem dL_law_488 : decode cL_law 488 = .ok (.iaload, 1) := by decide +kernel
theorem dL_law_489 : decode cL_law 489 = .ok (.aload_n 0, 1) := by decide +kernel
theorem dL_law_490 : decode cL_law 490 = .ok (.iload_n 3, 1) := by decide +kernel
theorem dL_law_491 : decode cL_law 491 = .ok (.iconst 2, 1) := by decide +kernel
theorem dL_law_492 : decode cL_law 492 = .ok (.iadd, 1) := by decide +kernel
theorem dL_law_493 : decode cL_law 493 = .ok (.iaload, 1) := by decide +kernel
theorem dL_law_494 : decode cL_law 494 = .ok (.aload_n 0, 1) := by decide +kernel
theorem dL_law_495 : decode cL_law 495 = .ok (.iload_n 3, 1) := by decide +kernel
theorem dL_law_496 : decode cL_law 496 = .ok (.iconst 3, 1) := by decide +kernel
theorem dL_law_497 : decode cL_law 497 = .ok (.iadd, 1) := by decide +kernel
theorem dL_law_498 : decode cL_law 498 = .ok (.iaload, 1) := by decide +kernel
theorem dL_law_499 : decode cL_law 499 = .ok (.invokevirtual 61, 3) := by decide +kernel
theorem dL_law_502 : decode cL_law 502 = .ok (.aload_n 2, 1) := by decide +kernel
theorem dL_law_503 : decode cL_law 503 = .ok (.aload_n 0, 1) := by decide +kernel
theorem dL_law_504 : decode cL_law 504 = .ok (.iload_n 3, 1) := by decide +kernel
theorem dL_law_505 : decode cL_law 505 = .ok (.iconst 1, 1) := by decide +kernel
theorem dL_law_506 : decode cL_law 506 = .ok (.iadd, 1) := by decide +kernel
theorem dL_law_507 : decode cL_law 507 = .ok (.iaload, 1) := by decide +kernel
theorem dL_law_508 : decode cL_law 508 = .ok (.aload_n 0, 1) := by decide +kernel
theorem dL_law_509 : decode cL_law 509 = .ok (.iload_n 3, 1) := by decide +kernel
theorem dL_law_510 : decode cL_law 510 = .ok (.iconst 2, 1) := by decide +kernel
theorem dL_law_511 : decode cL_law 511 = .ok (.iadd, 1) := by decide +kernel
theorem dL_law_512 : decode cL_law 512 = .ok (.iaload, 1) := by decide +kernel
theorem dL_law_513 : decode cL_law 513 = .ok (.aload_n 0, 1) := by decide +kernel
theorem dL_law_514 : decode cL_law 514 = .ok (.iload_n 3, 1) := by decide +kernel
theorem dL_law_515 : decode cL_law 515 = .ok (.iconst 3, 1) := by decide +kernel
theorem dL_law_516 : decode cL_law 516 = .ok (.iadd, 1) := by decide +kernel
theorem dL_law_517 : decode cL_law 517 = .ok (.iaload, 1) := by decide +kernel
theorem dL_law_518 : decode cL_law 518 = .ok (.invokevirtual 64, 3) := by decide +kernel
theorem dL_law_521 : decode cL_law 521 = .ok (.if_icmp .eq 143, 3) := by decide +kernel
theorem dL_law_524 : decode cL_law 524 = .ok (.iconst 0, 1) := by decide +kernel
theorem dL_law_525 : decode cL_law 525 = .ok (.ireturn, 1) := by decide +kernel
theorem dL_law_526 : decode cL_law 526 = .ok (.aload_n 1, 1) := by decide +kernel
theorem dL_law_527 : decode cL_law 527 = .ok (.aload_n 0, 1) := by decide +kernel
theorem dL_law_528 : decode cL_law 528 = .ok (.iload_n 3, 1) := by decide +kernel
theorem dL_law_529 : decode cL_law 529 = .ok (.iconst 1, 1) := by decide +kernel
theorem dL_law_530 : decode cL_law 530 = .ok (.iadd, 1) := by decide +kernel
theorem dL_law_531 : decode cL_law 531 = .ok (.iaload, 1) := by decide +kernel
theorem dL_law_532 : decode cL_law 532 = .ok (.invokevirtual 65, 3) := by decide +kernel
theorem dL_law_535 : decode cL_law 535 = .ok (.aload_n 2, 1) := by decide +kernel
theorem dL_law_536 : decode cL_law 536 = .ok (.aload_n 0, 1) := by decide +kernel
theorem dL_law_537 : decode cL_law 537 = .ok (.iload_n 3, 1) := by decide +kernel
theorem dL_law_538 : decode cL_law 538 = .ok (.iconst 1, 1) := by decide +kernel
theorem dL_law_539 : decode cL_law 539 = .ok (.iadd, 1) := by decide +kernel
theorem dL_law_540 : decode cL_law 540 = .ok (.iaload, 1) := by decide +kernel
theorem dL_law_541 : decode cL_law 541 = .ok (.invokevirtual 68, 3) := by decide +kernel
theorem dL_law_544 : decode cL_law 544 = .ok (.if_icmp .eq 120, 3) := by decide +kernel
theorem dL_law_547 : decode cL_law 547 = .ok (.iconst 0, 1) := by decide +kernel
theorem dL_law_548 : decode cL_law 548 = .ok (.ireturn, 1) := by decide +kernel
theorem dL_law_549 : decode cL_law 549 = .ok (.aload_n 1, 1) := by decide +kernel
theorem dL_law_550 : decode cL_law 550 = .ok (.invokevirtual 69, 3) := by decide +kernel
theorem dL_law_553 : decode cL_law 553 = .ok (.aload_n 2, 1) := by decide +kernel
theorem dL_law_554 : decode cL_law 554 = .ok (.invokevirtual 73, 3) := by decide +kernel
theorem dL_law_557 : decode cL_law 557 = .ok (.if_icmp .eq 107, 3) := by decide +kernel
theorem dL_law_560 : decode cL_law 560 = .ok (.iconst 0, 1) := by decide +kernel
theorem dL_law_561 : decode cL_law 561 = .ok (.ireturn, 1) := by decide +kernel
theorem dL_law_562 : decode cL_law 562 = .ok (.aload_n 1, 1) := by decide +kernel
theorem dL_law_563 : decode cL_law 563 = .ok (.aload_n 0, 1) := by decide +kernel
theorem dL_law_564 : decode cL_law 564 = .ok (.iload_n 3, 1) := by decide +kernel
theorem dL_law_565 : decode cL_law 565 = .ok (.iconst 1, 1) := by decide +kernel
theorem dL_law_566 : decode cL_law 566 = .ok (.iadd, 1) := by decide +kernel
theorem dL_law_567 : decode cL_law 567 = .ok (.iaload, 1) := by decide +kernel
theorem dL_law_568 : decode cL_law 568 = .ok (.aload_n 0, 1) := by decide +kernel
theorem dL_law_569 : decode cL_law 569 = .ok (.iload_n 3, 1) := by decide +kernel
theorem dL_law_570 : decode cL_law 570 = .ok (.iconst 2, 1) := by decide +kernel
theorem dL_law_571 : decode cL_law 571 = .ok (.iadd, 1) := by decide +kernel
theorem dL_law_572 : decode cL_law 572 = .ok (.iaload, 1) := by decide +kernel
theorem dL_law_573 : decode cL_law 573 = .ok (.invokevirtual 74, 3) := by decide +kernel
theorem dL_law_576 : decode cL_law 576 = .ok (.aload_n 2, 1) := by decide +kernel
theorem dL_law_577 : decode cL_law 577 = .ok (.aload_n 0, 1) := by decide +kernel
theorem dL_law_578 : decode cL_law 578 = .ok (.iload_n 3, 1) := by decide +kernel
theorem dL_law_579 : decode cL_law 579 = .ok (.iconst 1, 1) := by decide +kernel
theorem dL_law_580 : decode cL_law 580 = .ok (.iadd, 1) := by decide +kernel
theorem dL_law_581 : decode cL_law 581 = .ok (.iaload, 1) := by decide +kernel
theorem dL_law_582 : decode cL_law 582 = .ok (.aload_n 0, 1) := by decide +kernel
theorem dL_law_583 : decode cL_law 583 = .ok (.iload_n 3, 1) := by decide +kernel
theorem dL_law_584 : decode cL_law 584 = .ok (.iconst 2, 1) := by decide +kernel
theorem dL_law_585 : decode cL_law 585 = .ok (.iadd, 1) := by decide +kernel
theorem dL_law_586 : decode cL_law 586 = .ok (.iaload, 1) := by decide +kernel
theorem dL_law_587 : decode cL_law 587 = .ok (.invokevirtual 77, 3) := by decide +kernel
theorem dL_law_590 : decode cL_law 590 = .ok (.if_icmp .eq 74, 3) := by decide +kernel
theorem dL_law_593 : decode cL_law 593 = .ok (.iconst 0, 1) := by decide +kernel
theorem dL_law_594 : decode cL_law 594 = .ok (.ireturn, 1) := by decide +kernel
theorem dL_law_595 : decode cL_law 595 = .ok (.aload_n 1, 1) := by decide +kernel
theorem dL_law_596 : decode cL_law 596 = .ok (.aload_n 0, 1) := by decide +kernel
theorem dL_law_597 : decode cL_law 597 = .ok (.iload_n 3, 1) := by decide +kernel
theorem dL_law_598 : decode cL_law 598 = .ok (.iconst 1, 1) := by decide +kernel
theorem dL_law_599 : decode cL_law 599 = .ok (.iadd, 1) := by decide +kernel
theorem dL_law_600 : decode cL_law 600 = .ok (.iaload, 1) := by decide +kernel
theorem dL_law_601 : decode cL_law 601 = .ok (.invokevirtual 78, 3) := by decide +kernel
theorem dL_law_604 : decode cL_law 604 = .ok (.aload_n 2, 1) := by decide +kernel
theorem dL_law_605 : decode cL_law 605 = .ok (.aload_n 0, 1) := by decide +kernel
theorem dL_law_606 : decode cL_law 606 = .ok (.iload_n 3, 1) := by decide +kernel
theorem dL_law_607 : decode cL_law 607 = .ok (.iconst 1, 1) := by decide +kernel
theorem dL_law_608 : decode cL_law 608 = .ok (.iadd, 1) := by decide +kernel
theorem dL_law_609 : decode cL_law 609 = .ok (.iaload, 1) := by decide +kernel
theorem dL_law_610 : decode cL_law 610 = .ok (.invokevirtual 81, 3) := by decide +kernel
theorem dL_law_613 : decode cL_law 613 = .ok (.if_icmp .eq 51, 3) := by decide +kernel
theorem dL_law_616 : decode cL_law 616 = .ok (.iconst 0, 1) := by decide +kernel
theorem dL_law_617 : decode cL_law 617 = .ok (.ireturn, 1) := by decide +kernel
theorem dL_law_618 : decode cL_law 618 = .ok (.aload_n 1, 1) := by decide +kernel
theorem dL_law_619 : decode cL_law 619 = .ok (.aload_n 0, 1) := by decide +kernel
theorem dL_law_620 : decode cL_law 620 = .ok (.iload_n 3, 1) := by decide +kernel
theorem dL_law_621 : decode cL_law 621 = .ok (.iconst 1, 1) := by decide +kernel
theorem dL_law_622 : decode cL_law 622 = .ok (.iadd, 1) := by decide +kernel
theorem dL_law_623 : decode cL_law 623 = .ok (.iaload, 1) := by decide +kernel
theorem dL_law_624 : decode cL_law 624 = .ok (.invokevirtual 82, 3) := by decide +kernel
theorem dL_law_627 : decode cL_law 627 = .ok (.aload_n 2, 1) := by decide +kernel
theorem dL_law_628 : decode cL_law 628 = .ok (.aload_n 0, 1) := by decide +kernel
theorem dL_law_629 : decode cL_law 629 = .ok (.iload_n 3, 1) := by decide +kernel
theorem dL_law_630 : decode cL_law 630 = .ok (.iconst 1, 1) := by decide +kernel
theorem dL_law_631 : decode cL_law 631 = .ok (.iadd, 1) := by decide +kernel
theorem dL_law_632 : decode cL_law 632 = .ok (.iaload, 1) := by decide +kernel
theorem dL_law_633 : decode cL_law 633 = .ok (.invokevirtual 85, 3) := by decide +kernel
theorem dL_law_636 : decode cL_law 636 = .ok (.if_icmp .eq 28, 3) := by decide +kernel
theorem dL_law_639 : decode cL_law 639 = .ok (.iconst 0, 1) := by decide +kernel
theorem dL_law_640 : decode cL_law 640 = .ok (.ireturn, 1) := by decide +kernel
theorem dL_law_641 : decode cL_law 641 = .ok (.aload_n 1, 1) := by decide +kernel
theorem dL_law_642 : decode cL_law 642 = .ok (.aload_n 0, 1) := by decide +kernel
theorem dL_law_643 : decode cL_law 643 = .ok (.iload_n 3, 1) := by decide +kernel
theorem dL_law_644 : decode cL_law 644 = .ok (.iconst 1, 1) := by decide +kernel
theorem dL_law_645 : decode cL_law 645 = .ok (.iadd, 1) := by decide +kernel
theorem dL_law_646 : decode cL_law 646 = .ok (.iaload, 1) := by decide +kernel
theorem dL_law_647 : decode cL_law 647 = .ok (.invokevirtual 86, 3) := by decide +kernel
theorem dL_law_650 : decode cL_law 650 = .ok (.aload_n 2, 1) := by decide +kernel
theorem dL_law_651 : decode cL_law 651 = .ok (.aload_n 0, 1) := by decide +kernel
theorem dL_law_652 : decode cL_law 652 = .ok (.iload_n 3, 1) := by decide +kernel
theorem dL_law_653 : decode cL_law 653 = .ok (.iconst 1, 1) := by decide +kernel
theorem dL_law_654 : decode cL_law 654 = .ok (.iadd, 1) := by decide +kernel
theorem dL_law_655 : decode cL_law 655 = .ok (.iaload, 1) := by decide +kernel
theorem dL_law_656 : decode cL_law 656 = .ok (.invokevirtual 89, 3) := by decide +kernel
theorem dL_law_659 : decode cL_law 659 = .ok (.if_icmp .eq 5, 3) := by decide +kernel
theorem dL_law_662 : decode cL_law 662 = .ok (.iconst 0, 1) := by decide +kernel
theorem dL_law_663 : decode cL_law 663 = .ok (.ireturn, 1) := by decide +kernel
theorem dL_law_664 : decode cL_law 664 = .ok (.iinc 3 5, 3) := by decide +kernel
theorem dL_law_667 : decode cL_law 667 = .ok (.goto (-649), 3) := by decide +kernel
theorem dL_law_670 : decode cL_law 670 = .ok (.iconst 1, 1) := by decide +kernel
theorem dL_law_671 : decode cL_law 671 = .ok (.ireturn, 1) := by decide +kernel
theorem dJ9_max_7cf53_0 : decode cJ9_max_7cf53 0 = .ok (.iload_n 0, 1) := by decide +kernel
theorem dJ9_max_7cf53_1 : decode cJ9_max_7cf53 1 = .ok (.iload_n 1, 1) := by decide +kernel
theorem dJ9_max_7cf53_2 : decode cJ9_max_7cf53 2 = .ok (.if_icmp .lt 7, 3) := by decide +kernel
theorem dJ9_max_7cf53_5 : decode cJ9_max_7cf53 5 = .ok (.iload_n 0, 1) := by decide +kernel
theorem dJ9_max_7cf53_6 : decode cJ9_max_7cf53 6 = .ok (.goto 4, 3) := by decide +kernel
theorem dJ9_max_7cf53_9 : decode cJ9_max_7cf53 9 = .ok (.iload_n 1, 1) := by decide +kernel
theorem dJ9_max_7cf53_10 : decode cJ9_max_7cf53 10 = .ok (.ireturn, 1) := by decide +kernel
theorem dJ9_min_7cf53_0 : decode cJ9_min_7cf53 0 = .ok (.iload_n 0, 1) := by decide +kernel
theorem dJ9_min_7cf53_1 : decode cJ9_min_7cf53 1 = .ok (.iload_n 1, 1) := by decide +kernel
theorem dJ9_min_7cf53_2 : decode cJ9_min_7cf53 2 = .ok (.if_icmp .gt 7, 3) := by decide +kernel
theorem dJ9_min_7cf53_5 : decode cJ9_min_7cf53 5 = .ok (.iload_n 0, 1) := by decide +kernel
theorem dJ9_min_7cf53_6 : decode cJ9_min_7cf53 6 = .ok (.goto 4, 3) := by decide +kernel
theorem dJ9_min_7cf53_9 : decode cJ9_min_7cf53 9 = .ok (.iload_n 1, 1) := by decide +kernel
theorem dJ9_min_7cf53_10 : decode cJ9_min_7cf53 10 = .ok (.ireturn, 1) := by decide +kernel
end
section
def tb : List Cond := lw_tbl.filter goodWord
theorem tb_in {w : Cond} (i : Nat) (h : lw_tbl[i]? = some w) (g : goodWord w = true) : w ∈ tb := List.mem_filter.mpr ⟨List.mem_of_getElem? h, g⟩
theorem wd_48 : (Jvm.Cond.initialized "RopeShelfLaw") ∈ tb := tb_in 48 (by decide +kernel) rfl
theorem wd_49 : (Jvm.Cond.initialized "RopeShelf") ∈ tb := tb_in 49 (by decide +kernel) rfl
theorem wd_50 : (Jvm.Cond.initialized "RopeShelf$Text") ∈ tb := tb_in 50 (by decide +kernel) rfl
theorem wd_51 : (Jvm.Cond.initialized "RopeShelf$Table") ∈ tb := tb_in 51 (by decide +kernel) rfl
theorem wd_52 : (Jvm.Cond.initialized "RopeShelf$Pieces") ∈ tb := tb_in 52 (by decide +kernel) rfl
theorem wd_53 : (Jvm.Cond.initialized "RopeShelf$Weaver") ∈ tb := tb_in 53 (by decide +kernel) rfl
theorem wd_54 : (Jvm.Cond.initialized "RopeShelf$Walk") ∈ tb := tb_in 54 (by decide +kernel) rfl
theorem wd_55 : (Jvm.Cond.initialized "RopeShelf$Cell") ∈ tb := tb_in 55 (by decide +kernel) rfl
theorem wd_56 : (Jvm.Cond.initialized "RopeShelfModel") ∈ tb := tb_in 56 (by decide +kernel) rfl
theorem wd_57 : (Jvm.Cond.initialized "java/lang/Math") ∈ tb := tb_in 57 (by decide +kernel) rfl
theorem wd_58 : (Jvm.Cond.classLink "RopeShelfLaw" (7 : Nat) "RopeShelf") ∈ tb := tb_in 58 (by decide +kernel) rfl
theorem wd_59 : (Jvm.Cond.instantiable "RopeShelf" (11 : Nat)) ∈ tb := tb_in 59 (by decide +kernel) rfl
theorem wd_60 : (Jvm.Cond.methodLink "RopeShelfLaw" (9 : Nat) ({ cls := "RopeShelf", name := "<init>", desc := "()V" } : Jvm.MethodName)) ∈ tb := tb_in 60 (by decide +kernel) rfl
theorem wd_61 : (Jvm.Cond.instanceMethod ({ cls := "RopeShelf", name := "<init>", desc := "()V" } : Jvm.MethodName)) ∈ tb := tb_in 61 (by decide +kernel) rfl
theorem wd_62 : (Jvm.Cond.code ({ cls := "RopeShelf", name := "<init>", desc := "()V" } : Jvm.MethodName) prog_1_method_1_code (2 : Nat) (Option.none : Option Jvm.ClassFile.FieldType)) ∈ tb := tb_in 62 (by decide +kernel) rfl
theorem wd_63 : (Jvm.Cond.methodLink "RopeShelf" (1 : Nat) ({ cls := "java/lang/Object", name := "<init>", desc := "()V" } : Jvm.MethodName)) ∈ tb := tb_in 63 (by decide +kernel) rfl
theorem wd_64 : (Jvm.Cond.instanceMethod ({ cls := "java/lang/Object", name := "<init>", desc := "()V" } : Jvm.MethodName)) ∈ tb := tb_in 64 (by decide +kernel) rfl
theorem wd_65 : (Jvm.Cond.code ({ cls := "java/lang/Object", name := "<init>", desc := "()V" } : Jvm.MethodName) object_method_1_code (1 : Nat) (Option.none : Option Jvm.ClassFile.FieldType)) ∈ tb := tb_in 65 (by decide +kernel) rfl
theorem wd_66 : (Jvm.Cond.classLink "RopeShelf" (9 : Nat) "RopeShelf$Cell") ∈ tb := tb_in 66 (by decide +kernel) rfl
theorem wn_67 : (Jvm.Cond.arrayOver (Jvm.ClassFile.FieldType.object "RopeShelf$Cell")) ∈ lw_tbl := List.mem_of_getElem? (i := 67) (by decide +kernel)
theorem wd_68 : (Jvm.Cond.classLink "RopeShelf" (25 : Nat) "RopeShelf$Text") ∈ tb := tb_in 68 (by decide +kernel) rfl
theorem wd_69 : (Jvm.Cond.instantiable "RopeShelf$Text" (2 : Nat)) ∈ tb := tb_in 69 (by decide +kernel) rfl
theorem wn_70 : (Jvm.Cond.methodLinkNest "RopeShelf" (27 : Nat) ({ cls := "RopeShelf$Text", name := "<init>", desc := "()V" } : Jvm.MethodName) "RopeShelf") ∈ lw_tbl := List.mem_of_getElem? (i := 70) (by decide +kernel)
theorem wd_71 : (Jvm.Cond.instanceMethod ({ cls := "RopeShelf$Text", name := "<init>", desc := "()V" } : Jvm.MethodName)) ∈ tb := tb_in 71 (by decide +kernel) rfl
theorem wd_72 : (Jvm.Cond.code ({ cls := "RopeShelf$Text", name := "<init>", desc := "()V" } : Jvm.MethodName) prog_5_method_1_code (1 : Nat) (Option.none : Option Jvm.ClassFile.FieldType)) ∈ tb := tb_in 72 (by decide +kernel) rfl
theorem wd_73 : (Jvm.Cond.methodLink "RopeShelf$Text" (3 : Nat) ({ cls := "java/lang/Object", name := "<init>", desc := "()V" } : Jvm.MethodName)) ∈ tb := tb_in 73 (by decide +kernel) rfl
theorem wd_74 : (Jvm.Cond.fieldLink "RopeShelf$Text" (9 : Nat) "RopeShelf$Text" "row" "[I") ∈ tb := tb_in 74 (by decide +kernel) rfl
theorem wd_75 : (Jvm.Cond.fieldLink "RopeShelf$Text" (15 : Nat) "RopeShelf$Text" "many" "I") ∈ tb := tb_in 75 (by decide +kernel) rfl
theorem wd_76 : (Jvm.Cond.fieldLink "RopeShelf$Cell" (12 : Nat) "RopeShelf$Text" "many" "I") ∈ tb := tb_in 76 (by decide +kernel) rfl
theorem wd_77 : (Jvm.Cond.fieldLink "RopeShelf" (84 : Nat) "RopeShelf$Text" "many" "I") ∈ tb := tb_in 77 (by decide +kernel) rfl
theorem wd_78 : (Jvm.Cond.laysFinal "RopeShelf$Text" "RopeShelf$Text" "row" "[I") ∈ tb := tb_in 78 (by decide +kernel) rfl
theorem wd_79 : (Jvm.Cond.soleField "RopeShelf$Text" "row") ∈ tb := tb_in 79 (by decide +kernel) rfl
theorem wd_80 : (Jvm.Cond.lays "RopeShelf$Text" "RopeShelf$Text" "many" "I") ∈ tb := tb_in 80 (by decide +kernel) rfl
theorem wd_81 : (Jvm.Cond.soleField "RopeShelf$Text" "many") ∈ tb := tb_in 81 (by decide +kernel) rfl
theorem wd_83 : (Jvm.Cond.arrayClass Jvm.ClassFile.FieldType.int) ∈ tb := tb_in 83 (by decide +kernel) rfl
theorem wd_84 : (Jvm.Cond.classLink "RopeShelf" (32 : Nat) "RopeShelf$Table") ∈ tb := tb_in 84 (by decide +kernel) rfl
theorem wd_85 : (Jvm.Cond.instantiable "RopeShelf$Table" (4 : Nat)) ∈ tb := tb_in 85 (by decide +kernel) rfl
theorem wn_86 : (Jvm.Cond.methodLinkNest "RopeShelf" (34 : Nat) ({ cls := "RopeShelf$Table", name := "<init>", desc := "()V" } : Jvm.MethodName) "RopeShelf") ∈ lw_tbl := List.mem_of_getElem? (i := 86) (by decide +kernel)
theorem wd_87 : (Jvm.Cond.instanceMethod ({ cls := "RopeShelf$Table", name := "<init>", desc := "()V" } : Jvm.MethodName)) ∈ tb := tb_in 87 (by decide +kernel) rfl
theorem wd_88 : (Jvm.Cond.code ({ cls := "RopeShelf$Table", name := "<init>", desc := "()V" } : Jvm.MethodName) prog_4_method_1_code (1 : Nat) (Option.none : Option Jvm.ClassFile.FieldType)) ∈ tb := tb_in 88 (by decide +kernel) rfl
theorem wd_89 : (Jvm.Cond.methodLink "RopeShelf$Table" (3 : Nat) ({ cls := "java/lang/Object", name := "<init>", desc := "()V" } : Jvm.MethodName)) ∈ tb := tb_in 89 (by decide +kernel) rfl
theorem wd_90 : (Jvm.Cond.classLink "RopeShelf$Table" (9 : Nat) "RopeShelf$Cell") ∈ tb := tb_in 90 (by decide +kernel) rfl
theorem wd_91 : (Jvm.Cond.fieldLink "RopeShelf$Table" (11 : Nat) "RopeShelf$Table" "row" "[LRopeShelf$Cell;") ∈ tb := tb_in 91 (by decide +kernel) rfl
theorem wd_92 : (Jvm.Cond.fieldLink "RopeShelf$Table" (17 : Nat) "RopeShelf$Table" "numbers" "[I") ∈ tb := tb_in 92 (by decide +kernel) rfl
theorem wd_93 : (Jvm.Cond.fieldLink "RopeShelf$Table" (21 : Nat) "RopeShelf$Table" "size" "I") ∈ tb := tb_in 93 (by decide +kernel) rfl
theorem wd_94 : (Jvm.Cond.fieldLink "RopeShelf" (201 : Nat) "RopeShelf$Table" "size" "I") ∈ tb := tb_in 94 (by decide +kernel) rfl
theorem wd_95 : (Jvm.Cond.fieldLink "RopeShelf$Table" (25 : Nat) "RopeShelf$Table" "ever" "I") ∈ tb := tb_in 95 (by decide +kernel) rfl
theorem wd_96 : (Jvm.Cond.fieldLink "RopeShelf" (204 : Nat) "RopeShelf$Table" "ever" "I") ∈ tb := tb_in 96 (by decide +kernel) rfl
theorem wd_97 : (Jvm.Cond.laysFinal "RopeShelf$Table" "RopeShelf$Table" "row" "[LRopeShelf$Cell;") ∈ tb := tb_in 97 (by decide +kernel) rfl
theorem wd_98 : (Jvm.Cond.soleField "RopeShelf$Table" "row") ∈ tb := tb_in 98 (by decide +kernel) rfl
theorem wd_99 : (Jvm.Cond.laysFinal "RopeShelf$Table" "RopeShelf$Table" "numbers" "[I") ∈ tb := tb_in 99 (by decide +kernel) rfl
theorem wd_100 : (Jvm.Cond.soleField "RopeShelf$Table" "numbers") ∈ tb := tb_in 100 (by decide +kernel) rfl
theorem wd_101 : (Jvm.Cond.lays "RopeShelf$Table" "RopeShelf$Table" "size" "I") ∈ tb := tb_in 101 (by decide +kernel) rfl
theorem wd_102 : (Jvm.Cond.soleField "RopeShelf$Table" "size") ∈ tb := tb_in 102 (by decide +kernel) rfl
theorem wd_103 : (Jvm.Cond.lays "RopeShelf$Table" "RopeShelf$Table" "ever" "I") ∈ tb := tb_in 103 (by decide +kernel) rfl
theorem wd_104 : (Jvm.Cond.soleField "RopeShelf$Table" "ever") ∈ tb := tb_in 104 (by decide +kernel) rfl
theorem wd_106 : (Jvm.Cond.classLink "RopeShelf" (39 : Nat) "RopeShelf$Pieces") ∈ tb := tb_in 106 (by decide +kernel) rfl
theorem wd_107 : (Jvm.Cond.instantiable "RopeShelf$Pieces" (2 : Nat)) ∈ tb := tb_in 107 (by decide +kernel) rfl
theorem wn_108 : (Jvm.Cond.methodLinkNest "RopeShelf" (41 : Nat) ({ cls := "RopeShelf$Pieces", name := "<init>", desc := "()V" } : Jvm.MethodName) "RopeShelf") ∈ lw_tbl := List.mem_of_getElem? (i := 108) (by decide +kernel)
theorem wd_109 : (Jvm.Cond.instanceMethod ({ cls := "RopeShelf$Pieces", name := "<init>", desc := "()V" } : Jvm.MethodName)) ∈ tb := tb_in 109 (by decide +kernel) rfl
theorem wd_110 : (Jvm.Cond.code ({ cls := "RopeShelf$Pieces", name := "<init>", desc := "()V" } : Jvm.MethodName) prog_3_method_1_code (1 : Nat) (Option.none : Option Jvm.ClassFile.FieldType)) ∈ tb := tb_in 110 (by decide +kernel) rfl
theorem wd_111 : (Jvm.Cond.methodLink "RopeShelf$Pieces" (3 : Nat) ({ cls := "java/lang/Object", name := "<init>", desc := "()V" } : Jvm.MethodName)) ∈ tb := tb_in 111 (by decide +kernel) rfl
theorem wd_112 : (Jvm.Cond.classLink "RopeShelf$Pieces" (9 : Nat) "RopeShelf$Cell") ∈ tb := tb_in 112 (by decide +kernel) rfl
theorem wd_113 : (Jvm.Cond.fieldLink "RopeShelf$Pieces" (11 : Nat) "RopeShelf$Pieces" "row" "[LRopeShelf$Cell;") ∈ tb := tb_in 113 (by decide +kernel) rfl
theorem wd_114 : (Jvm.Cond.fieldLink "RopeShelf$Pieces" (17 : Nat) "RopeShelf$Pieces" "many" "I") ∈ tb := tb_in 114 (by decide +kernel) rfl
theorem wd_115 : (Jvm.Cond.fieldLink "RopeShelf$Weaver" (69 : Nat) "RopeShelf$Pieces" "many" "I") ∈ tb := tb_in 115 (by decide +kernel) rfl
theorem wd_116 : (Jvm.Cond.fieldLink "RopeShelf" (129 : Nat) "RopeShelf$Pieces" "many" "I") ∈ tb := tb_in 116 (by decide +kernel) rfl
theorem wd_117 : (Jvm.Cond.laysFinal "RopeShelf$Pieces" "RopeShelf$Pieces" "row" "[LRopeShelf$Cell;") ∈ tb := tb_in 117 (by decide +kernel) rfl
theorem wd_118 : (Jvm.Cond.soleField "RopeShelf$Pieces" "row") ∈ tb := tb_in 118 (by decide +kernel) rfl
theorem wd_119 : (Jvm.Cond.lays "RopeShelf$Pieces" "RopeShelf$Pieces" "many" "I") ∈ tb := tb_in 119 (by decide +kernel) rfl
theorem wd_120 : (Jvm.Cond.soleField "RopeShelf$Pieces" "many") ∈ tb := tb_in 120 (by decide +kernel) rfl
theorem wd_122 : (Jvm.Cond.classLink "RopeShelf" (46 : Nat) "RopeShelf$Weaver") ∈ tb := tb_in 122 (by decide +kernel) rfl
theorem wd_123 : (Jvm.Cond.instantiable "RopeShelf$Weaver" (5 : Nat)) ∈ tb := tb_in 123 (by decide +kernel) rfl
theorem wn_124 : (Jvm.Cond.methodLinkNest "RopeShelf" (48 : Nat) ({ cls := "RopeShelf$Weaver", name := "<init>", desc := "()V" } : Jvm.MethodName) "RopeShelf") ∈ lw_tbl := List.mem_of_getElem? (i := 124) (by decide +kernel)
theorem wd_125 : (Jvm.Cond.instanceMethod ({ cls := "RopeShelf$Weaver", name := "<init>", desc := "()V" } : Jvm.MethodName)) ∈ tb := tb_in 125 (by decide +kernel) rfl
theorem wd_126 : (Jvm.Cond.code ({ cls := "RopeShelf$Weaver", name := "<init>", desc := "()V" } : Jvm.MethodName) prog_7_method_1_code (1 : Nat) (Option.none : Option Jvm.ClassFile.FieldType)) ∈ tb := tb_in 126 (by decide +kernel) rfl
theorem wd_127 : (Jvm.Cond.methodLink "RopeShelf$Weaver" (3 : Nat) ({ cls := "java/lang/Object", name := "<init>", desc := "()V" } : Jvm.MethodName)) ∈ tb := tb_in 127 (by decide +kernel) rfl
theorem wd_128 : (Jvm.Cond.classLink "RopeShelf$Weaver" (15 : Nat) "RopeShelf$Pieces") ∈ tb := tb_in 128 (by decide +kernel) rfl
theorem wn_129 : (Jvm.Cond.methodLinkNest "RopeShelf$Weaver" (17 : Nat) ({ cls := "RopeShelf$Pieces", name := "<init>", desc := "()V" } : Jvm.MethodName) "RopeShelf") ∈ lw_tbl := List.mem_of_getElem? (i := 129) (by decide +kernel)
theorem wd_130 : (Jvm.Cond.classLink "RopeShelf$Weaver" (22 : Nat) "RopeShelf$Text") ∈ tb := tb_in 130 (by decide +kernel) rfl
theorem wn_131 : (Jvm.Cond.methodLinkNest "RopeShelf$Weaver" (24 : Nat) ({ cls := "RopeShelf$Text", name := "<init>", desc := "()V" } : Jvm.MethodName) "RopeShelf") ∈ lw_tbl := List.mem_of_getElem? (i := 131) (by decide +kernel)
theorem wd_132 : (Jvm.Cond.fieldLink "RopeShelf$Weaver" (9 : Nat) "RopeShelf$Weaver" "rules" "[I") ∈ tb := tb_in 132 (by decide +kernel) rfl
theorem wd_133 : (Jvm.Cond.fieldLink "RopeShelf" (81 : Nat) "RopeShelf$Weaver" "rules" "[I") ∈ tb := tb_in 133 (by decide +kernel) rfl
theorem wd_134 : (Jvm.Cond.fieldLink "RopeShelf$Weaver" (18 : Nat) "RopeShelf$Weaver" "pieces" "LRopeShelf$Pieces;") ∈ tb := tb_in 134 (by decide +kernel) rfl
theorem wd_135 : (Jvm.Cond.fieldLink "RopeShelf$Weaver" (25 : Nat) "RopeShelf$Weaver" "text" "LRopeShelf$Text;") ∈ tb := tb_in 135 (by decide +kernel) rfl
theorem wd_136 : (Jvm.Cond.fieldLink "RopeShelf$Weaver" (29 : Nat) "RopeShelf$Weaver" "turn" "I") ∈ tb := tb_in 136 (by decide +kernel) rfl
theorem wd_137 : (Jvm.Cond.fieldLink "RopeShelf$Weaver" (33 : Nat) "RopeShelf$Weaver" "spare" "LRopeShelf$Cell;") ∈ tb := tb_in 137 (by decide +kernel) rfl
theorem wd_138 : (Jvm.Cond.laysFinal "RopeShelf$Weaver" "RopeShelf$Weaver" "rules" "[I") ∈ tb := tb_in 138 (by decide +kernel) rfl
theorem wd_139 : (Jvm.Cond.soleField "RopeShelf$Weaver" "rules") ∈ tb := tb_in 139 (by decide +kernel) rfl
theorem wd_140 : (Jvm.Cond.laysFinal "RopeShelf$Weaver" "RopeShelf$Weaver" "pieces" "LRopeShelf$Pieces;") ∈ tb := tb_in 140 (by decide +kernel) rfl
theorem wd_141 : (Jvm.Cond.soleField "RopeShelf$Weaver" "pieces") ∈ tb := tb_in 141 (by decide +kernel) rfl
theorem wd_142 : (Jvm.Cond.laysFinal "RopeShelf$Weaver" "RopeShelf$Weaver" "text" "LRopeShelf$Text;") ∈ tb := tb_in 142 (by decide +kernel) rfl
theorem wd_143 : (Jvm.Cond.soleField "RopeShelf$Weaver" "text") ∈ tb := tb_in 143 (by decide +kernel) rfl
theorem wd_144 : (Jvm.Cond.lays "RopeShelf$Weaver" "RopeShelf$Weaver" "turn" "I") ∈ tb := tb_in 144 (by decide +kernel) rfl
theorem wd_145 : (Jvm.Cond.soleField "RopeShelf$Weaver" "turn") ∈ tb := tb_in 145 (by decide +kernel) rfl
theorem wd_146 : (Jvm.Cond.lays "RopeShelf$Weaver" "RopeShelf$Weaver" "spare" "LRopeShelf$Cell;") ∈ tb := tb_in 146 (by decide +kernel) rfl
theorem wd_147 : (Jvm.Cond.soleField "RopeShelf$Weaver" "spare") ∈ tb := tb_in 147 (by decide +kernel) rfl
theorem wd_149 : (Jvm.Cond.classLink "RopeShelf" (53 : Nat) "RopeShelf$Walk") ∈ tb := tb_in 149 (by decide +kernel) rfl
theorem wd_150 : (Jvm.Cond.instantiable "RopeShelf$Walk" (3 : Nat)) ∈ tb := tb_in 150 (by decide +kernel) rfl
theorem wn_151 : (Jvm.Cond.methodLinkNest "RopeShelf" (55 : Nat) ({ cls := "RopeShelf$Walk", name := "<init>", desc := "()V" } : Jvm.MethodName) "RopeShelf") ∈ lw_tbl := List.mem_of_getElem? (i := 151) (by decide +kernel)
theorem wd_152 : (Jvm.Cond.instanceMethod ({ cls := "RopeShelf$Walk", name := "<init>", desc := "()V" } : Jvm.MethodName)) ∈ tb := tb_in 152 (by decide +kernel) rfl
theorem wd_153 : (Jvm.Cond.code ({ cls := "RopeShelf$Walk", name := "<init>", desc := "()V" } : Jvm.MethodName) prog_6_method_1_code (1 : Nat) (Option.none : Option Jvm.ClassFile.FieldType)) ∈ tb := tb_in 153 (by decide +kernel) rfl
theorem wd_154 : (Jvm.Cond.methodLink "RopeShelf$Walk" (3 : Nat) ({ cls := "java/lang/Object", name := "<init>", desc := "()V" } : Jvm.MethodName)) ∈ tb := tb_in 154 (by decide +kernel) rfl
theorem wd_155 : (Jvm.Cond.fieldLink "RopeShelf$Walk" (9 : Nat) "RopeShelf$Walk" "stamp" "I") ∈ tb := tb_in 155 (by decide +kernel) rfl
theorem wd_156 : (Jvm.Cond.fieldLink "RopeShelf$Walk" (27 : Nat) "RopeShelf$Walk" "cells" "I") ∈ tb := tb_in 156 (by decide +kernel) rfl
theorem wd_157 : (Jvm.Cond.fieldLink "RopeShelf" (144 : Nat) "RopeShelf$Walk" "cells" "I") ∈ tb := tb_in 157 (by decide +kernel) rfl
theorem wd_158 : (Jvm.Cond.fieldLink "RopeShelf$Walk" (30 : Nat) "RopeShelf$Walk" "room" "I") ∈ tb := tb_in 158 (by decide +kernel) rfl
theorem wd_159 : (Jvm.Cond.fieldLink "RopeShelf" (147 : Nat) "RopeShelf$Walk" "room" "I") ∈ tb := tb_in 159 (by decide +kernel) rfl
theorem wd_160 : (Jvm.Cond.lays "RopeShelf$Walk" "RopeShelf$Walk" "stamp" "I") ∈ tb := tb_in 160 (by decide +kernel) rfl
theorem wd_161 : (Jvm.Cond.soleField "RopeShelf$Walk" "stamp") ∈ tb := tb_in 161 (by decide +kernel) rfl
theorem wd_162 : (Jvm.Cond.lays "RopeShelf$Walk" "RopeShelf$Walk" "cells" "I") ∈ tb := tb_in 162 (by decide +kernel) rfl
theorem wd_163 : (Jvm.Cond.soleField "RopeShelf$Walk" "cells") ∈ tb := tb_in 163 (by decide +kernel) rfl
theorem wd_164 : (Jvm.Cond.lays "RopeShelf$Walk" "RopeShelf$Walk" "room" "I") ∈ tb := tb_in 164 (by decide +kernel) rfl
theorem wd_165 : (Jvm.Cond.soleField "RopeShelf$Walk" "room") ∈ tb := tb_in 165 (by decide +kernel) rfl
theorem wd_167 : (Jvm.Cond.methodLink "RopeShelf" (66 : Nat) ({ cls := "RopeShelf$Cell", name := "leaf", desc := "(LRopeShelf$Text;)LRopeShelf$Cell;" } : Jvm.MethodName)) ∈ tb := tb_in 167 (by decide +kernel) rfl
theorem wd_168 : (Jvm.Cond.static ({ cls := "RopeShelf$Cell", name := "leaf", desc := "(LRopeShelf$Text;)LRopeShelf$Cell;" } : Jvm.MethodName)) ∈ tb := tb_in 168 (by decide +kernel) rfl
theorem wd_169 : (Jvm.Cond.code ({ cls := "RopeShelf$Cell", name := "leaf", desc := "(LRopeShelf$Text;)LRopeShelf$Cell;" } : Jvm.MethodName) prog_2_method_2_code (2 : Nat) (Option.some (Jvm.ClassFile.FieldType.object "RopeShelf$Cell"))) ∈ tb := tb_in 169 (by decide +kernel) rfl
theorem wd_170 : (Jvm.Cond.classLink "RopeShelf$Cell" (9 : Nat) "RopeShelf$Cell") ∈ tb := tb_in 170 (by decide +kernel) rfl
theorem wd_171 : (Jvm.Cond.instantiable "RopeShelf$Cell" (9 : Nat)) ∈ tb := tb_in 171 (by decide +kernel) rfl
theorem wd_172 : (Jvm.Cond.methodLink "RopeShelf$Cell" (11 : Nat) ({ cls := "RopeShelf$Cell", name := "<init>", desc := "()V" } : Jvm.MethodName)) ∈ tb := tb_in 172 (by decide +kernel) rfl
theorem wd_173 : (Jvm.Cond.instanceMethod ({ cls := "RopeShelf$Cell", name := "<init>", desc := "()V" } : Jvm.MethodName)) ∈ tb := tb_in 173 (by decide +kernel) rfl
theorem wd_174 : (Jvm.Cond.code ({ cls := "RopeShelf$Cell", name := "<init>", desc := "()V" } : Jvm.MethodName) prog_2_method_1_code (1 : Nat) (Option.none : Option Jvm.ClassFile.FieldType)) ∈ tb := tb_in 174 (by decide +kernel) rfl
theorem wd_175 : (Jvm.Cond.methodLink "RopeShelf$Cell" (3 : Nat) ({ cls := "java/lang/Object", name := "<init>", desc := "()V" } : Jvm.MethodName)) ∈ tb := tb_in 175 (by decide +kernel) rfl
theorem wd_176 : (Jvm.Cond.fieldLink "RopeShelf$Cell" (23 : Nat) "RopeShelf$Cell" "kind" "I") ∈ tb := tb_in 176 (by decide +kernel) rfl
theorem wd_177 : (Jvm.Cond.fieldLink "RopeShelf$Pieces" (29 : Nat) "RopeShelf$Cell" "kind" "I") ∈ tb := tb_in 177 (by decide +kernel) rfl
theorem wd_178 : (Jvm.Cond.fieldLink "RopeShelf$Weaver" (82 : Nat) "RopeShelf$Cell" "kind" "I") ∈ tb := tb_in 178 (by decide +kernel) rfl
theorem wd_179 : (Jvm.Cond.fieldLink "RopeShelf$Text" (27 : Nat) "RopeShelf$Cell" "kind" "I") ∈ tb := tb_in 179 (by decide +kernel) rfl
theorem wd_180 : (Jvm.Cond.fieldLink "RopeShelf" (121 : Nat) "RopeShelf$Cell" "kind" "I") ∈ tb := tb_in 180 (by decide +kernel) rfl
theorem wd_181 : (Jvm.Cond.fieldLink "RopeShelf$Cell" (18 : Nat) "RopeShelf$Cell" "many" "I") ∈ tb := tb_in 181 (by decide +kernel) rfl
theorem wd_182 : (Jvm.Cond.fieldLink "RopeShelf$Weaver" (37 : Nat) "RopeShelf$Cell" "many" "I") ∈ tb := tb_in 182 (by decide +kernel) rfl
theorem wd_183 : (Jvm.Cond.fieldLink "RopeShelf" (105 : Nat) "RopeShelf$Cell" "many" "I") ∈ tb := tb_in 183 (by decide +kernel) rfl
theorem wd_184 : (Jvm.Cond.fieldLink "RopeShelf$Text" (45 : Nat) "RopeShelf$Cell" "many" "I") ∈ tb := tb_in 184 (by decide +kernel) rfl
theorem wd_185 : (Jvm.Cond.fieldLink "RopeShelf$Cell" (37 : Nat) "RopeShelf$Cell" "signs" "[I") ∈ tb := tb_in 185 (by decide +kernel) rfl
theorem wd_186 : (Jvm.Cond.fieldLink "RopeShelf$Cell" (41 : Nat) "RopeShelf$Cell" "left" "LRopeShelf$Cell;") ∈ tb := tb_in 186 (by decide +kernel) rfl
theorem wd_187 : (Jvm.Cond.fieldLink "RopeShelf$Pieces" (32 : Nat) "RopeShelf$Cell" "left" "LRopeShelf$Cell;") ∈ tb := tb_in 187 (by decide +kernel) rfl
theorem wd_188 : (Jvm.Cond.fieldLink "RopeShelf$Weaver" (79 : Nat) "RopeShelf$Cell" "left" "LRopeShelf$Cell;") ∈ tb := tb_in 188 (by decide +kernel) rfl
theorem wd_189 : (Jvm.Cond.fieldLink "RopeShelf$Walk" (40 : Nat) "RopeShelf$Cell" "left" "LRopeShelf$Cell;") ∈ tb := tb_in 189 (by decide +kernel) rfl
theorem wd_190 : (Jvm.Cond.fieldLink "RopeShelf$Text" (32 : Nat) "RopeShelf$Cell" "left" "LRopeShelf$Cell;") ∈ tb := tb_in 190 (by decide +kernel) rfl
theorem wd_191 : (Jvm.Cond.fieldLink "RopeShelf$Cell" (44 : Nat) "RopeShelf$Cell" "right" "LRopeShelf$Cell;") ∈ tb := tb_in 191 (by decide +kernel) rfl
theorem wd_192 : (Jvm.Cond.fieldLink "RopeShelf$Pieces" (36 : Nat) "RopeShelf$Cell" "right" "LRopeShelf$Cell;") ∈ tb := tb_in 192 (by decide +kernel) rfl
theorem wd_193 : (Jvm.Cond.fieldLink "RopeShelf$Weaver" (85 : Nat) "RopeShelf$Cell" "right" "LRopeShelf$Cell;") ∈ tb := tb_in 193 (by decide +kernel) rfl
theorem wd_194 : (Jvm.Cond.fieldLink "RopeShelf$Walk" (44 : Nat) "RopeShelf$Cell" "right" "LRopeShelf$Cell;") ∈ tb := tb_in 194 (by decide +kernel) rfl
theorem wd_195 : (Jvm.Cond.fieldLink "RopeShelf$Text" (36 : Nat) "RopeShelf$Cell" "right" "LRopeShelf$Cell;") ∈ tb := tb_in 195 (by decide +kernel) rfl
theorem wd_196 : (Jvm.Cond.fieldLink "RopeShelf$Cell" (26 : Nat) "RopeShelf$Cell" "base" "LRopeShelf$Cell;") ∈ tb := tb_in 196 (by decide +kernel) rfl
theorem wd_197 : (Jvm.Cond.fieldLink "RopeShelf$Walk" (47 : Nat) "RopeShelf$Cell" "base" "LRopeShelf$Cell;") ∈ tb := tb_in 197 (by decide +kernel) rfl
theorem wd_198 : (Jvm.Cond.fieldLink "RopeShelf$Text" (39 : Nat) "RopeShelf$Cell" "base" "LRopeShelf$Cell;") ∈ tb := tb_in 198 (by decide +kernel) rfl
theorem wd_199 : (Jvm.Cond.fieldLink "RopeShelf$Weaver" (98 : Nat) "RopeShelf$Cell" "base" "LRopeShelf$Cell;") ∈ tb := tb_in 199 (by decide +kernel) rfl
theorem wd_200 : (Jvm.Cond.fieldLink "RopeShelf" (164 : Nat) "RopeShelf$Cell" "base" "LRopeShelf$Cell;") ∈ tb := tb_in 200 (by decide +kernel) rfl
theorem wd_201 : (Jvm.Cond.fieldLink "RopeShelf$Cell" (30 : Nat) "RopeShelf$Cell" "from" "I") ∈ tb := tb_in 201 (by decide +kernel) rfl
theorem wd_202 : (Jvm.Cond.fieldLink "RopeShelf$Text" (42 : Nat) "RopeShelf$Cell" "from" "I") ∈ tb := tb_in 202 (by decide +kernel) rfl
theorem wd_203 : (Jvm.Cond.fieldLink "RopeShelf$Weaver" (101 : Nat) "RopeShelf$Cell" "from" "I") ∈ tb := tb_in 203 (by decide +kernel) rfl
theorem wd_204 : (Jvm.Cond.fieldLink "RopeShelf" (161 : Nat) "RopeShelf$Cell" "from" "I") ∈ tb := tb_in 204 (by decide +kernel) rfl
theorem wd_205 : (Jvm.Cond.fieldLink "RopeShelf$Weaver" (88 : Nat) "RopeShelf$Cell" "madeIn" "I") ∈ tb := tb_in 205 (by decide +kernel) rfl
theorem wd_206 : (Jvm.Cond.fieldLink "RopeShelf$Walk" (22 : Nat) "RopeShelf$Cell" "mark" "I") ∈ tb := tb_in 206 (by decide +kernel) rfl
theorem wd_207 : (Jvm.Cond.lays "RopeShelf$Cell" "RopeShelf$Cell" "kind" "I") ∈ tb := tb_in 207 (by decide +kernel) rfl
theorem wd_208 : (Jvm.Cond.soleField "RopeShelf$Cell" "kind") ∈ tb := tb_in 208 (by decide +kernel) rfl
theorem wd_209 : (Jvm.Cond.lays "RopeShelf$Cell" "RopeShelf$Cell" "many" "I") ∈ tb := tb_in 209 (by decide +kernel) rfl
theorem wd_210 : (Jvm.Cond.soleField "RopeShelf$Cell" "many") ∈ tb := tb_in 210 (by decide +kernel) rfl
theorem wd_211 : (Jvm.Cond.lays "RopeShelf$Cell" "RopeShelf$Cell" "signs" "[I") ∈ tb := tb_in 211 (by decide +kernel) rfl
theorem wd_212 : (Jvm.Cond.soleField "RopeShelf$Cell" "signs") ∈ tb := tb_in 212 (by decide +kernel) rfl
theorem wd_213 : (Jvm.Cond.lays "RopeShelf$Cell" "RopeShelf$Cell" "left" "LRopeShelf$Cell;") ∈ tb := tb_in 213 (by decide +kernel) rfl
theorem wd_214 : (Jvm.Cond.soleField "RopeShelf$Cell" "left") ∈ tb := tb_in 214 (by decide +kernel) rfl
theorem wd_215 : (Jvm.Cond.lays "RopeShelf$Cell" "RopeShelf$Cell" "right" "LRopeShelf$Cell;") ∈ tb := tb_in 215 (by decide +kernel) rfl
theorem wd_216 : (Jvm.Cond.soleField "RopeShelf$Cell" "right") ∈ tb := tb_in 216 (by decide +kernel) rfl
theorem wd_217 : (Jvm.Cond.lays "RopeShelf$Cell" "RopeShelf$Cell" "base" "LRopeShelf$Cell;") ∈ tb := tb_in 217 (by decide +kernel) rfl
theorem wd_218 : (Jvm.Cond.soleField "RopeShelf$Cell" "base") ∈ tb := tb_in 218 (by decide +kernel) rfl
theorem wd_219 : (Jvm.Cond.lays "RopeShelf$Cell" "RopeShelf$Cell" "from" "I") ∈ tb := tb_in 219 (by decide +kernel) rfl
theorem wd_220 : (Jvm.Cond.soleField "RopeShelf$Cell" "from") ∈ tb := tb_in 220 (by decide +kernel) rfl
theorem wd_221 : (Jvm.Cond.lays "RopeShelf$Cell" "RopeShelf$Cell" "madeIn" "I") ∈ tb := tb_in 221 (by decide +kernel) rfl
theorem wd_222 : (Jvm.Cond.soleField "RopeShelf$Cell" "madeIn") ∈ tb := tb_in 222 (by decide +kernel) rfl
theorem wd_223 : (Jvm.Cond.lays "RopeShelf$Cell" "RopeShelf$Cell" "mark" "I") ∈ tb := tb_in 223 (by decide +kernel) rfl
theorem wd_224 : (Jvm.Cond.soleField "RopeShelf$Cell" "mark") ∈ tb := tb_in 224 (by decide +kernel) rfl
theorem wd_226 : (Jvm.Cond.methodLink "RopeShelf$Cell" (19 : Nat) ({ cls := "RopeShelf$Cell", name := "becomeLeaf", desc := "(LRopeShelf$Text;)V" } : Jvm.MethodName)) ∈ tb := tb_in 226 (by decide +kernel) rfl
theorem wd_227 : (Jvm.Cond.instanceMethod ({ cls := "RopeShelf$Cell", name := "becomeLeaf", desc := "(LRopeShelf$Text;)V" } : Jvm.MethodName)) ∈ tb := tb_in 227 (by decide +kernel) rfl
theorem wd_228 : (Jvm.Cond.selects "RopeShelf$Cell" ({ cls := "RopeShelf$Cell", name := "becomeLeaf", desc := "(LRopeShelf$Text;)V" } : Jvm.MethodName) ({ cls := "RopeShelf$Cell", name := "becomeLeaf", desc := "(LRopeShelf$Text;)V" } : Jvm.MethodName)) ∈ tb := tb_in 228 (by decide +kernel) rfl
theorem wd_229 : (Jvm.Cond.code ({ cls := "RopeShelf$Cell", name := "becomeLeaf", desc := "(LRopeShelf$Text;)V" } : Jvm.MethodName) prog_2_method_4_code (2 : Nat) (Option.none : Option Jvm.ClassFile.FieldType)) ∈ tb := tb_in 229 (by decide +kernel) rfl
theorem wd_230 : (Jvm.Cond.methodLink "RopeShelf$Cell" (33 : Nat) ({ cls := "RopeShelf$Text", name := "toRow", desc := "()[I" } : Jvm.MethodName)) ∈ tb := tb_in 230 (by decide +kernel) rfl
theorem wd_231 : (Jvm.Cond.instanceMethod ({ cls := "RopeShelf$Text", name := "toRow", desc := "()[I" } : Jvm.MethodName)) ∈ tb := tb_in 231 (by decide +kernel) rfl
theorem wd_232 : (Jvm.Cond.selects "RopeShelf$Text" ({ cls := "RopeShelf$Text", name := "toRow", desc := "()[I" } : Jvm.MethodName) ({ cls := "RopeShelf$Text", name := "toRow", desc := "()[I" } : Jvm.MethodName)) ∈ tb := tb_in 232 (by decide +kernel) rfl
theorem wd_233 : (Jvm.Cond.code ({ cls := "RopeShelf$Text", name := "toRow", desc := "()[I" } : Jvm.MethodName) prog_5_method_9_code (3 : Nat) (Option.some (Jvm.ClassFile.FieldType.array Jvm.ClassFile.FieldType.int))) ∈ tb := tb_in 233 (by decide +kernel) rfl
theorem wd_234 : (Jvm.Cond.methodLink "RopeShelf$Text" (54 : Nat) ({ cls := "RopeShelf$Text", name := "signAt", desc := "(I)I" } : Jvm.MethodName)) ∈ tb := tb_in 234 (by decide +kernel) rfl
theorem wd_235 : (Jvm.Cond.instanceMethod ({ cls := "RopeShelf$Text", name := "signAt", desc := "(I)I" } : Jvm.MethodName)) ∈ tb := tb_in 235 (by decide +kernel) rfl
theorem wd_236 : (Jvm.Cond.selects "RopeShelf$Text" ({ cls := "RopeShelf$Text", name := "signAt", desc := "(I)I" } : Jvm.MethodName) ({ cls := "RopeShelf$Text", name := "signAt", desc := "(I)I" } : Jvm.MethodName)) ∈ tb := tb_in 236 (by decide +kernel) rfl
theorem wd_237 : (Jvm.Cond.code ({ cls := "RopeShelf$Text", name := "signAt", desc := "(I)I" } : Jvm.MethodName) prog_5_method_10_code (2 : Nat) (Option.some Jvm.ClassFile.FieldType.int)) ∈ tb := tb_in 237 (by decide +kernel) rfl
theorem wd_238 : (Jvm.Cond.fieldLink "RopeShelf" (11 : Nat) "RopeShelf" "slots" "[LRopeShelf$Cell;") ∈ tb := tb_in 238 (by decide +kernel) rfl
theorem wd_239 : (Jvm.Cond.fieldLink "RopeShelf" (15 : Nat) "RopeShelf" "firstImage" "[LRopeShelf$Cell;") ∈ tb := tb_in 239 (by decide +kernel) rfl
theorem wd_240 : (Jvm.Cond.fieldLink "RopeShelf" (18 : Nat) "RopeShelf" "secondImage" "[LRopeShelf$Cell;") ∈ tb := tb_in 240 (by decide +kernel) rfl
theorem wd_241 : (Jvm.Cond.fieldLink "RopeShelf" (21 : Nat) "RopeShelf" "imagesKept" "I") ∈ tb := tb_in 241 (by decide +kernel) rfl
theorem wd_242 : (Jvm.Cond.fieldLink "RopeShelf" (28 : Nat) "RopeShelf" "draft" "LRopeShelf$Text;") ∈ tb := tb_in 242 (by decide +kernel) rfl
theorem wd_243 : (Jvm.Cond.fieldLink "RopeShelf" (35 : Nat) "RopeShelf" "table" "LRopeShelf$Table;") ∈ tb := tb_in 243 (by decide +kernel) rfl
theorem wd_244 : (Jvm.Cond.fieldLink "RopeShelf" (42 : Nat) "RopeShelf" "pieces" "LRopeShelf$Pieces;") ∈ tb := tb_in 244 (by decide +kernel) rfl
theorem wd_245 : (Jvm.Cond.fieldLink "RopeShelf" (49 : Nat) "RopeShelf" "weaver" "LRopeShelf$Weaver;") ∈ tb := tb_in 245 (by decide +kernel) rfl
theorem wd_246 : (Jvm.Cond.fieldLink "RopeShelf" (56 : Nat) "RopeShelf" "walk" "LRopeShelf$Walk;") ∈ tb := tb_in 246 (by decide +kernel) rfl
theorem wd_247 : (Jvm.Cond.fieldLink "RopeShelf" (60 : Nat) "RopeShelf" "firstText" "LRopeShelf$Text;") ∈ tb := tb_in 247 (by decide +kernel) rfl
theorem wd_248 : (Jvm.Cond.fieldLink "RopeShelf" (63 : Nat) "RopeShelf" "secondText" "LRopeShelf$Text;") ∈ tb := tb_in 248 (by decide +kernel) rfl
theorem wd_249 : (Jvm.Cond.laysFinal "RopeShelf" "RopeShelf" "slots" "[LRopeShelf$Cell;") ∈ tb := tb_in 249 (by decide +kernel) rfl
theorem wd_250 : (Jvm.Cond.soleField "RopeShelf" "slots") ∈ tb := tb_in 250 (by decide +kernel) rfl
theorem wd_251 : (Jvm.Cond.laysFinal "RopeShelf" "RopeShelf" "firstImage" "[LRopeShelf$Cell;") ∈ tb := tb_in 251 (by decide +kernel) rfl
theorem wd_252 : (Jvm.Cond.soleField "RopeShelf" "firstImage") ∈ tb := tb_in 252 (by decide +kernel) rfl
theorem wd_253 : (Jvm.Cond.laysFinal "RopeShelf" "RopeShelf" "secondImage" "[LRopeShelf$Cell;") ∈ tb := tb_in 253 (by decide +kernel) rfl
theorem wd_254 : (Jvm.Cond.soleField "RopeShelf" "secondImage") ∈ tb := tb_in 254 (by decide +kernel) rfl
theorem wd_255 : (Jvm.Cond.lays "RopeShelf" "RopeShelf" "imagesKept" "I") ∈ tb := tb_in 255 (by decide +kernel) rfl
theorem wd_256 : (Jvm.Cond.soleField "RopeShelf" "imagesKept") ∈ tb := tb_in 256 (by decide +kernel) rfl
theorem wd_257 : (Jvm.Cond.laysFinal "RopeShelf" "RopeShelf" "draft" "LRopeShelf$Text;") ∈ tb := tb_in 257 (by decide +kernel) rfl
theorem wd_258 : (Jvm.Cond.soleField "RopeShelf" "draft") ∈ tb := tb_in 258 (by decide +kernel) rfl
theorem wd_259 : (Jvm.Cond.laysFinal "RopeShelf" "RopeShelf" "table" "LRopeShelf$Table;") ∈ tb := tb_in 259 (by decide +kernel) rfl
theorem wd_260 : (Jvm.Cond.soleField "RopeShelf" "table") ∈ tb := tb_in 260 (by decide +kernel) rfl
theorem wd_261 : (Jvm.Cond.laysFinal "RopeShelf" "RopeShelf" "pieces" "LRopeShelf$Pieces;") ∈ tb := tb_in 261 (by decide +kernel) rfl
theorem wd_262 : (Jvm.Cond.soleField "RopeShelf" "pieces") ∈ tb := tb_in 262 (by decide +kernel) rfl
theorem wd_263 : (Jvm.Cond.laysFinal "RopeShelf" "RopeShelf" "weaver" "LRopeShelf$Weaver;") ∈ tb := tb_in 263 (by decide +kernel) rfl
theorem wd_264 : (Jvm.Cond.soleField "RopeShelf" "weaver") ∈ tb := tb_in 264 (by decide +kernel) rfl
theorem wd_265 : (Jvm.Cond.laysFinal "RopeShelf" "RopeShelf" "walk" "LRopeShelf$Walk;") ∈ tb := tb_in 265 (by decide +kernel) rfl
theorem wd_266 : (Jvm.Cond.soleField "RopeShelf" "walk") ∈ tb := tb_in 266 (by decide +kernel) rfl
theorem wd_267 : (Jvm.Cond.laysFinal "RopeShelf" "RopeShelf" "firstText" "LRopeShelf$Text;") ∈ tb := tb_in 267 (by decide +kernel) rfl
theorem wd_268 : (Jvm.Cond.soleField "RopeShelf" "firstText") ∈ tb := tb_in 268 (by decide +kernel) rfl
theorem wd_269 : (Jvm.Cond.laysFinal "RopeShelf" "RopeShelf" "secondText" "LRopeShelf$Text;") ∈ tb := tb_in 269 (by decide +kernel) rfl
theorem wd_270 : (Jvm.Cond.soleField "RopeShelf" "secondText") ∈ tb := tb_in 270 (by decide +kernel) rfl
theorem wd_272 : (Jvm.Cond.methodLink "RopeShelfLaw" (13 : Nat) ({ cls := "RopeShelf", name := "rule", desc := "(II)I" } : Jvm.MethodName)) ∈ tb := tb_in 272 (by decide +kernel) rfl
theorem wd_273 : (Jvm.Cond.instanceMethod ({ cls := "RopeShelf", name := "rule", desc := "(II)I" } : Jvm.MethodName)) ∈ tb := tb_in 273 (by decide +kernel) rfl
theorem wd_274 : (Jvm.Cond.selects "RopeShelf" ({ cls := "RopeShelf", name := "rule", desc := "(II)I" } : Jvm.MethodName) ({ cls := "RopeShelf", name := "rule", desc := "(II)I" } : Jvm.MethodName)) ∈ tb := tb_in 274 (by decide +kernel) rfl
theorem wd_275 : (Jvm.Cond.code ({ cls := "RopeShelf", name := "rule", desc := "(II)I" } : Jvm.MethodName) prog_1_method_2_code (4 : Nat) (Option.some Jvm.ClassFile.FieldType.int)) ∈ tb := tb_in 275 (by decide +kernel) rfl
theorem wd_276 : (Jvm.Cond.methodLink "RopeShelf" (70 : Nat) ({ cls := "RopeShelf", name := "isRule", desc := "(I)Z" } : Jvm.MethodName)) ∈ tb := tb_in 276 (by decide +kernel) rfl
theorem wd_277 : (Jvm.Cond.static ({ cls := "RopeShelf", name := "isRule", desc := "(I)Z" } : Jvm.MethodName)) ∈ tb := tb_in 277 (by decide +kernel) rfl
theorem wd_278 : (Jvm.Cond.code ({ cls := "RopeShelf", name := "isRule", desc := "(I)Z" } : Jvm.MethodName) prog_1_method_21_code (1 : Nat) (Option.some Jvm.ClassFile.FieldType.boolean)) ∈ tb := tb_in 278 (by decide +kernel) rfl
theorem wd_279 : (Jvm.Cond.fieldLink "RopeShelf" (74 : Nat) "RopeShelf" "LEAST_RULES" "[I") ∈ tb := tb_in 279 (by decide +kernel) rfl
theorem wn_280 : (Jvm.Cond.laysStatic "RopeShelf" "LEAST_RULES" "[I") ∈ lw_tbl := List.mem_of_getElem? (i := 280) (by decide +kernel)
theorem wd_281 : (Jvm.Cond.fieldLink "RopeShelf" (78 : Nat) "RopeShelf" "GREATEST_RULES" "[I") ∈ tb := tb_in 281 (by decide +kernel) rfl
theorem wn_282 : (Jvm.Cond.laysStatic "RopeShelf" "GREATEST_RULES" "[I") ∈ lw_tbl := List.mem_of_getElem? (i := 282) (by decide +kernel)
theorem wd_283 : (Jvm.Cond.methodLink "RopeShelfLaw" (18 : Nat) ({ cls := "RopeShelf", name := "say", desc := "(I)I" } : Jvm.MethodName)) ∈ tb := tb_in 283 (by decide +kernel) rfl
theorem wd_284 : (Jvm.Cond.instanceMethod ({ cls := "RopeShelf", name := "say", desc := "(I)I" } : Jvm.MethodName)) ∈ tb := tb_in 284 (by decide +kernel) rfl
theorem wd_285 : (Jvm.Cond.selects "RopeShelf" ({ cls := "RopeShelf", name := "say", desc := "(I)I" } : Jvm.MethodName) ({ cls := "RopeShelf", name := "say", desc := "(I)I" } : Jvm.MethodName)) ∈ tb := tb_in 285 (by decide +kernel) rfl
theorem wd_286 : (Jvm.Cond.code ({ cls := "RopeShelf", name := "say", desc := "(I)I" } : Jvm.MethodName) prog_1_method_3_code (2 : Nat) (Option.some Jvm.ClassFile.FieldType.int)) ∈ tb := tb_in 286 (by decide +kernel) rfl
theorem wd_287 : (Jvm.Cond.methodLink "RopeShelf" (87 : Nat) ({ cls := "RopeShelf$Text", name := "addSign", desc := "(I)V" } : Jvm.MethodName)) ∈ tb := tb_in 287 (by decide +kernel) rfl
theorem wd_288 : (Jvm.Cond.instanceMethod ({ cls := "RopeShelf$Text", name := "addSign", desc := "(I)V" } : Jvm.MethodName)) ∈ tb := tb_in 288 (by decide +kernel) rfl
theorem wd_289 : (Jvm.Cond.selects "RopeShelf$Text" ({ cls := "RopeShelf$Text", name := "addSign", desc := "(I)V" } : Jvm.MethodName) ({ cls := "RopeShelf$Text", name := "addSign", desc := "(I)V" } : Jvm.MethodName)) ∈ tb := tb_in 289 (by decide +kernel) rfl
theorem wd_290 : (Jvm.Cond.code ({ cls := "RopeShelf$Text", name := "addSign", desc := "(I)V" } : Jvm.MethodName) prog_5_method_3_code (2 : Nat) (Option.none : Option Jvm.ClassFile.FieldType)) ∈ tb := tb_in 290 (by decide +kernel) rfl
theorem wd_291 : (Jvm.Cond.methodLink "RopeShelfLaw" (23 : Nat) ({ cls := "RopeShelf", name := "put", desc := "(I)I" } : Jvm.MethodName)) ∈ tb := tb_in 291 (by decide +kernel) rfl
theorem wd_292 : (Jvm.Cond.instanceMethod ({ cls := "RopeShelf", name := "put", desc := "(I)I" } : Jvm.MethodName)) ∈ tb := tb_in 292 (by decide +kernel) rfl
theorem wd_293 : (Jvm.Cond.selects "RopeShelf" ({ cls := "RopeShelf", name := "put", desc := "(I)I" } : Jvm.MethodName) ({ cls := "RopeShelf", name := "put", desc := "(I)I" } : Jvm.MethodName)) ∈ tb := tb_in 293 (by decide +kernel) rfl
theorem wd_294 : (Jvm.Cond.code ({ cls := "RopeShelf", name := "put", desc := "(I)I" } : Jvm.MethodName) prog_1_method_4_code (3 : Nat) (Option.some Jvm.ClassFile.FieldType.int)) ∈ tb := tb_in 294 (by decide +kernel) rfl
theorem wd_295 : (Jvm.Cond.methodLink "RopeShelf" (91 : Nat) ({ cls := "RopeShelf", name := "isSlot", desc := "(I)Z" } : Jvm.MethodName)) ∈ tb := tb_in 295 (by decide +kernel) rfl
theorem wd_296 : (Jvm.Cond.static ({ cls := "RopeShelf", name := "isSlot", desc := "(I)Z" } : Jvm.MethodName)) ∈ tb := tb_in 296 (by decide +kernel) rfl
theorem wd_297 : (Jvm.Cond.code ({ cls := "RopeShelf", name := "isSlot", desc := "(I)Z" } : Jvm.MethodName) prog_1_method_20_code (1 : Nat) (Option.some Jvm.ClassFile.FieldType.boolean)) ∈ tb := tb_in 297 (by decide +kernel) rfl
theorem wd_298 : (Jvm.Cond.methodLink "RopeShelf" (94 : Nat) ({ cls := "RopeShelf$Text", name := "clear", desc := "()V" } : Jvm.MethodName)) ∈ tb := tb_in 298 (by decide +kernel) rfl
theorem wd_299 : (Jvm.Cond.instanceMethod ({ cls := "RopeShelf$Text", name := "clear", desc := "()V" } : Jvm.MethodName)) ∈ tb := tb_in 299 (by decide +kernel) rfl
theorem wd_300 : (Jvm.Cond.selects "RopeShelf$Text" ({ cls := "RopeShelf$Text", name := "clear", desc := "()V" } : Jvm.MethodName) ({ cls := "RopeShelf$Text", name := "clear", desc := "()V" } : Jvm.MethodName)) ∈ tb := tb_in 300 (by decide +kernel) rfl
theorem wd_301 : (Jvm.Cond.code ({ cls := "RopeShelf$Text", name := "clear", desc := "()V" } : Jvm.MethodName) prog_5_method_2_code (1 : Nat) (Option.none : Option Jvm.ClassFile.FieldType)) ∈ tb := tb_in 301 (by decide +kernel) rfl
theorem wd_302 : (Jvm.Cond.methodLink "RopeShelf" (97 : Nat) ({ cls := "RopeShelf", name := "hold", desc := "(ILRopeShelf$Cell;)I" } : Jvm.MethodName)) ∈ tb := tb_in 302 (by decide +kernel) rfl
theorem wd_304 : (Jvm.Cond.instanceMethod ({ cls := "RopeShelf", name := "hold", desc := "(ILRopeShelf$Cell;)I" } : Jvm.MethodName)) ∈ tb := tb_in 304 (by decide +kernel) rfl
theorem wd_305 : (Jvm.Cond.code ({ cls := "RopeShelf", name := "hold", desc := "(ILRopeShelf$Cell;)I" } : Jvm.MethodName) prog_1_method_25_code (3 : Nat) (Option.some Jvm.ClassFile.FieldType.int)) ∈ tb := tb_in 305 (by decide +kernel) rfl
theorem wd_306 : (Jvm.Cond.methodLink "RopeShelfLaw" (27 : Nat) ({ cls := "RopeShelf", name := "copy", desc := "(II)I" } : Jvm.MethodName)) ∈ tb := tb_in 306 (by decide +kernel) rfl
theorem wd_307 : (Jvm.Cond.instanceMethod ({ cls := "RopeShelf", name := "copy", desc := "(II)I" } : Jvm.MethodName)) ∈ tb := tb_in 307 (by decide +kernel) rfl
theorem wd_308 : (Jvm.Cond.selects "RopeShelf" ({ cls := "RopeShelf", name := "copy", desc := "(II)I" } : Jvm.MethodName) ({ cls := "RopeShelf", name := "copy", desc := "(II)I" } : Jvm.MethodName)) ∈ tb := tb_in 308 (by decide +kernel) rfl
theorem wd_309 : (Jvm.Cond.code ({ cls := "RopeShelf", name := "copy", desc := "(II)I" } : Jvm.MethodName) prog_1_method_5_code (4 : Nat) (Option.some Jvm.ClassFile.FieldType.int)) ∈ tb := tb_in 309 (by decide +kernel) rfl
theorem wd_310 : (Jvm.Cond.methodLink "RopeShelf" (101 : Nat) ({ cls := "RopeShelf", name := "cellOf", desc := "(I)LRopeShelf$Cell;" } : Jvm.MethodName)) ∈ tb := tb_in 310 (by decide +kernel) rfl
theorem wd_312 : (Jvm.Cond.instanceMethod ({ cls := "RopeShelf", name := "cellOf", desc := "(I)LRopeShelf$Cell;" } : Jvm.MethodName)) ∈ tb := tb_in 312 (by decide +kernel) rfl
theorem wd_313 : (Jvm.Cond.code ({ cls := "RopeShelf", name := "cellOf", desc := "(I)LRopeShelf$Cell;" } : Jvm.MethodName) prog_1_method_24_code (2 : Nat) (Option.some (Jvm.ClassFile.FieldType.object "RopeShelf$Cell"))) ∈ tb := tb_in 313 (by decide +kernel) rfl
theorem wd_314 : (Jvm.Cond.methodLink "RopeShelfLaw" (31 : Nat) ({ cls := "RopeShelf", name := "join", desc := "(III)I" } : Jvm.MethodName)) ∈ tb := tb_in 314 (by decide +kernel) rfl
theorem wd_315 : (Jvm.Cond.instanceMethod ({ cls := "RopeShelf", name := "join", desc := "(III)I" } : Jvm.MethodName)) ∈ tb := tb_in 315 (by decide +kernel) rfl
theorem wd_316 : (Jvm.Cond.selects "RopeShelf" ({ cls := "RopeShelf", name := "join", desc := "(III)I" } : Jvm.MethodName) ({ cls := "RopeShelf", name := "join", desc := "(III)I" } : Jvm.MethodName)) ∈ tb := tb_in 316 (by decide +kernel) rfl
theorem wd_317 : (Jvm.Cond.code ({ cls := "RopeShelf", name := "join", desc := "(III)I" } : Jvm.MethodName) prog_1_method_6_code (6 : Nat) (Option.some Jvm.ClassFile.FieldType.int)) ∈ tb := tb_in 317 (by decide +kernel) rfl
theorem wd_318 : (Jvm.Cond.methodLink "RopeShelf" (106 : Nat) ({ cls := "RopeShelf$Weaver", name := "beginTurn", desc := "()V" } : Jvm.MethodName)) ∈ tb := tb_in 318 (by decide +kernel) rfl
theorem wd_319 : (Jvm.Cond.instanceMethod ({ cls := "RopeShelf$Weaver", name := "beginTurn", desc := "()V" } : Jvm.MethodName)) ∈ tb := tb_in 319 (by decide +kernel) rfl
theorem wd_320 : (Jvm.Cond.selects "RopeShelf$Weaver" ({ cls := "RopeShelf$Weaver", name := "beginTurn", desc := "()V" } : Jvm.MethodName) ({ cls := "RopeShelf$Weaver", name := "beginTurn", desc := "()V" } : Jvm.MethodName)) ∈ tb := tb_in 320 (by decide +kernel) rfl
theorem wd_321 : (Jvm.Cond.code ({ cls := "RopeShelf$Weaver", name := "beginTurn", desc := "()V" } : Jvm.MethodName) prog_7_method_2_code (1 : Nat) (Option.none : Option Jvm.ClassFile.FieldType)) ∈ tb := tb_in 321 (by decide +kernel) rfl
theorem wn_322 : (Jvm.Cond.methodLinkNest "RopeShelf" (109 : Nat) ({ cls := "RopeShelf$Weaver", name := "joined", desc := "(LRopeShelf$Cell;LRopeShelf$Cell;)LRopeShelf$Cell;" } : Jvm.MethodName) "RopeShelf") ∈ lw_tbl := List.mem_of_getElem? (i := 322) (by decide +kernel)
theorem wd_324 : (Jvm.Cond.instanceMethod ({ cls := "RopeShelf$Weaver", name := "joined", desc := "(LRopeShelf$Cell;LRopeShelf$Cell;)LRopeShelf$Cell;" } : Jvm.MethodName)) ∈ tb := tb_in 324 (by decide +kernel) rfl
theorem wd_325 : (Jvm.Cond.code ({ cls := "RopeShelf$Weaver", name := "joined", desc := "(LRopeShelf$Cell;LRopeShelf$Cell;)LRopeShelf$Cell;" } : Jvm.MethodName) prog_7_method_3_code (3 : Nat) (Option.some (Jvm.ClassFile.FieldType.object "RopeShelf$Cell"))) ∈ tb := tb_in 325 (by decide +kernel) rfl
theorem wd_326 : (Jvm.Cond.methodLink "RopeShelf$Weaver" (42 : Nat) ({ cls := "RopeShelf$Text", name := "readBoth", desc := "(LRopeShelf$Cell;LRopeShelf$Cell;)V" } : Jvm.MethodName)) ∈ tb := tb_in 326 (by decide +kernel) rfl
theorem wd_327 : (Jvm.Cond.instanceMethod ({ cls := "RopeShelf$Text", name := "readBoth", desc := "(LRopeShelf$Cell;LRopeShelf$Cell;)V" } : Jvm.MethodName)) ∈ tb := tb_in 327 (by decide +kernel) rfl
theorem wd_328 : (Jvm.Cond.selects "RopeShelf$Text" ({ cls := "RopeShelf$Text", name := "readBoth", desc := "(LRopeShelf$Cell;LRopeShelf$Cell;)V" } : Jvm.MethodName) ({ cls := "RopeShelf$Text", name := "readBoth", desc := "(LRopeShelf$Cell;LRopeShelf$Cell;)V" } : Jvm.MethodName)) ∈ tb := tb_in 328 (by decide +kernel) rfl
theorem wd_329 : (Jvm.Cond.code ({ cls := "RopeShelf$Text", name := "readBoth", desc := "(LRopeShelf$Cell;LRopeShelf$Cell;)V" } : Jvm.MethodName) prog_5_method_5_code (3 : Nat) (Option.none : Option Jvm.ClassFile.FieldType)) ∈ tb := tb_in 329 (by decide +kernel) rfl
theorem wd_330 : (Jvm.Cond.methodLink "RopeShelf$Text" (19 : Nat) ({ cls := "RopeShelf$Text", name := "addCell", desc := "(LRopeShelf$Cell;I)V" } : Jvm.MethodName)) ∈ tb := tb_in 330 (by decide +kernel) rfl
theorem wd_332 : (Jvm.Cond.instanceMethod ({ cls := "RopeShelf$Text", name := "addCell", desc := "(LRopeShelf$Cell;I)V" } : Jvm.MethodName)) ∈ tb := tb_in 332 (by decide +kernel) rfl
theorem wd_333 : (Jvm.Cond.code ({ cls := "RopeShelf$Text", name := "addCell", desc := "(LRopeShelf$Cell;I)V" } : Jvm.MethodName) prog_5_method_7_code (3 : Nat) (Option.none : Option Jvm.ClassFile.FieldType)) ∈ tb := tb_in 333 (by decide +kernel) rfl
theorem wd_334 : (Jvm.Cond.methodLink "RopeShelf$Text" (23 : Nat) ({ cls := "RopeShelf$Text", name := "addSigns", desc := "(LRopeShelf$Cell;II)V" } : Jvm.MethodName)) ∈ tb := tb_in 334 (by decide +kernel) rfl
theorem wd_336 : (Jvm.Cond.instanceMethod ({ cls := "RopeShelf$Text", name := "addSigns", desc := "(LRopeShelf$Cell;II)V" } : Jvm.MethodName)) ∈ tb := tb_in 336 (by decide +kernel) rfl
theorem wd_337 : (Jvm.Cond.code ({ cls := "RopeShelf$Text", name := "addSigns", desc := "(LRopeShelf$Cell;II)V" } : Jvm.MethodName) prog_5_method_8_code (5 : Nat) (Option.none : Option Jvm.ClassFile.FieldType)) ∈ tb := tb_in 337 (by decide +kernel) rfl
theorem wd_338 : (Jvm.Cond.methodLink "RopeShelf$Text" (46 : Nat) ({ cls := "RopeShelf$Cell", name := "signAt", desc := "(I)I" } : Jvm.MethodName)) ∈ tb := tb_in 338 (by decide +kernel) rfl
theorem wd_339 : (Jvm.Cond.instanceMethod ({ cls := "RopeShelf$Cell", name := "signAt", desc := "(I)I" } : Jvm.MethodName)) ∈ tb := tb_in 339 (by decide +kernel) rfl
theorem wd_340 : (Jvm.Cond.selects "RopeShelf$Cell" ({ cls := "RopeShelf$Cell", name := "signAt", desc := "(I)I" } : Jvm.MethodName) ({ cls := "RopeShelf$Cell", name := "signAt", desc := "(I)I" } : Jvm.MethodName)) ∈ tb := tb_in 340 (by decide +kernel) rfl
theorem wd_341 : (Jvm.Cond.code ({ cls := "RopeShelf$Cell", name := "signAt", desc := "(I)I" } : Jvm.MethodName) prog_2_method_5_code (2 : Nat) (Option.some Jvm.ClassFile.FieldType.int)) ∈ tb := tb_in 341 (by decide +kernel) rfl
theorem wd_342 : (Jvm.Cond.methodLink "RopeShelf$Text" (50 : Nat) ({ cls := "RopeShelf$Text", name := "addSign", desc := "(I)V" } : Jvm.MethodName)) ∈ tb := tb_in 342 (by decide +kernel) rfl
theorem wd_343 : (Jvm.Cond.methodLink "RopeShelf$Weaver" (46 : Nat) ({ cls := "RopeShelf$Cell", name := "leaf", desc := "(LRopeShelf$Text;)LRopeShelf$Cell;" } : Jvm.MethodName)) ∈ tb := tb_in 343 (by decide +kernel) rfl
theorem wd_344 : (Jvm.Cond.methodLink "RopeShelf$Weaver" (50 : Nat) ({ cls := "RopeShelf$Cell", name := "depth", desc := "()I" } : Jvm.MethodName)) ∈ tb := tb_in 344 (by decide +kernel) rfl
theorem wd_345 : (Jvm.Cond.instanceMethod ({ cls := "RopeShelf$Cell", name := "depth", desc := "()I" } : Jvm.MethodName)) ∈ tb := tb_in 345 (by decide +kernel) rfl
theorem wd_346 : (Jvm.Cond.selects "RopeShelf$Cell" ({ cls := "RopeShelf$Cell", name := "depth", desc := "()I" } : Jvm.MethodName) ({ cls := "RopeShelf$Cell", name := "depth", desc := "()I" } : Jvm.MethodName)) ∈ tb := tb_in 346 (by decide +kernel) rfl
theorem wd_347 : (Jvm.Cond.code ({ cls := "RopeShelf$Cell", name := "depth", desc := "()I" } : Jvm.MethodName) prog_2_method_6_code (1 : Nat) (Option.some Jvm.ClassFile.FieldType.int)) ∈ tb := tb_in 347 (by decide +kernel) rfl
theorem wd_348 : (Jvm.Cond.methodLink "RopeShelf$Cell" (47 : Nat) ({ cls := "RopeShelf$Cell", name := "depthOf", desc := "(LRopeShelf$Cell;I)I" } : Jvm.MethodName)) ∈ tb := tb_in 348 (by decide +kernel) rfl
theorem wd_349 : (Jvm.Cond.static ({ cls := "RopeShelf$Cell", name := "depthOf", desc := "(LRopeShelf$Cell;I)I" } : Jvm.MethodName)) ∈ tb := tb_in 349 (by decide +kernel) rfl
theorem wd_350 : (Jvm.Cond.code ({ cls := "RopeShelf$Cell", name := "depthOf", desc := "(LRopeShelf$Cell;I)I" } : Jvm.MethodName) prog_2_method_7_code (2 : Nat) (Option.some Jvm.ClassFile.FieldType.int)) ∈ tb := tb_in 350 (by decide +kernel) rfl
theorem wd_351 : (Jvm.Cond.methodLink "RopeShelf$Cell" (51 : Nat) ({ cls := "java/lang/Math", name := "max", desc := "(II)I" } : Jvm.MethodName)) ∈ tb := tb_in 351 (by decide +kernel) rfl
theorem wd_352 : (Jvm.Cond.static ({ cls := "java/lang/Math", name := "max", desc := "(II)I" } : Jvm.MethodName)) ∈ tb := tb_in 352 (by decide +kernel) rfl
theorem wd_353 : (Jvm.Cond.code ({ cls := "java/lang/Math", name := "max", desc := "(II)I" } : Jvm.MethodName) prog_10_method_65_code (2 : Nat) (Option.some Jvm.ClassFile.FieldType.int)) ∈ tb := tb_in 353 (by decide +kernel) rfl
theorem wd_354 : (Jvm.Cond.methodLink "RopeShelf$Weaver" (54 : Nat) ({ cls := "java/lang/Math", name := "max", desc := "(II)I" } : Jvm.MethodName)) ∈ tb := tb_in 354 (by decide +kernel) rfl
theorem wd_355 : (Jvm.Cond.methodLink "RopeShelf$Weaver" (60 : Nat) ({ cls := "RopeShelf$Weaver", name := "newJoin", desc := "(LRopeShelf$Cell;LRopeShelf$Cell;)LRopeShelf$Cell;" } : Jvm.MethodName)) ∈ tb := tb_in 355 (by decide +kernel) rfl
theorem wd_357 : (Jvm.Cond.instanceMethod ({ cls := "RopeShelf$Weaver", name := "newJoin", desc := "(LRopeShelf$Cell;LRopeShelf$Cell;)LRopeShelf$Cell;" } : Jvm.MethodName)) ∈ tb := tb_in 357 (by decide +kernel) rfl
theorem wd_358 : (Jvm.Cond.code ({ cls := "RopeShelf$Weaver", name := "newJoin", desc := "(LRopeShelf$Cell;LRopeShelf$Cell;)LRopeShelf$Cell;" } : Jvm.MethodName) prog_7_method_5_code (4 : Nat) (Option.some (Jvm.ClassFile.FieldType.object "RopeShelf$Cell"))) ∈ tb := tb_in 358 (by decide +kernel) rfl
theorem wd_359 : (Jvm.Cond.classLink "RopeShelf$Weaver" (38 : Nat) "RopeShelf$Cell") ∈ tb := tb_in 359 (by decide +kernel) rfl
theorem wn_360 : (Jvm.Cond.methodLinkNest "RopeShelf$Weaver" (78 : Nat) ({ cls := "RopeShelf$Cell", name := "<init>", desc := "()V" } : Jvm.MethodName) "RopeShelf") ∈ lw_tbl := List.mem_of_getElem? (i := 360) (by decide +kernel)
theorem wd_361 : (Jvm.Cond.methodLink "RopeShelf$Weaver" (64 : Nat) ({ cls := "RopeShelf$Pieces", name := "readBoth", desc := "(LRopeShelf$Cell;LRopeShelf$Cell;)V" } : Jvm.MethodName)) ∈ tb := tb_in 361 (by decide +kernel) rfl
theorem wd_362 : (Jvm.Cond.instanceMethod ({ cls := "RopeShelf$Pieces", name := "readBoth", desc := "(LRopeShelf$Cell;LRopeShelf$Cell;)V" } : Jvm.MethodName)) ∈ tb := tb_in 362 (by decide +kernel) rfl
theorem wd_363 : (Jvm.Cond.selects "RopeShelf$Pieces" ({ cls := "RopeShelf$Pieces", name := "readBoth", desc := "(LRopeShelf$Cell;LRopeShelf$Cell;)V" } : Jvm.MethodName) ({ cls := "RopeShelf$Pieces", name := "readBoth", desc := "(LRopeShelf$Cell;LRopeShelf$Cell;)V" } : Jvm.MethodName)) ∈ tb := tb_in 363 (by decide +kernel) rfl
theorem wd_364 : (Jvm.Cond.code ({ cls := "RopeShelf$Pieces", name := "readBoth", desc := "(LRopeShelf$Cell;LRopeShelf$Cell;)V" } : Jvm.MethodName) prog_3_method_3_code (3 : Nat) (Option.none : Option Jvm.ClassFile.FieldType)) ∈ tb := tb_in 364 (by decide +kernel) rfl
theorem wd_365 : (Jvm.Cond.methodLink "RopeShelf$Pieces" (25 : Nat) ({ cls := "RopeShelf$Pieces", name := "read", desc := "(LRopeShelf$Cell;)V" } : Jvm.MethodName)) ∈ tb := tb_in 365 (by decide +kernel) rfl
theorem wd_366 : (Jvm.Cond.instanceMethod ({ cls := "RopeShelf$Pieces", name := "read", desc := "(LRopeShelf$Cell;)V" } : Jvm.MethodName)) ∈ tb := tb_in 366 (by decide +kernel) rfl
theorem wd_367 : (Jvm.Cond.selects "RopeShelf$Pieces" ({ cls := "RopeShelf$Pieces", name := "read", desc := "(LRopeShelf$Cell;)V" } : Jvm.MethodName) ({ cls := "RopeShelf$Pieces", name := "read", desc := "(LRopeShelf$Cell;)V" } : Jvm.MethodName)) ∈ tb := tb_in 367 (by decide +kernel) rfl
theorem wd_368 : (Jvm.Cond.code ({ cls := "RopeShelf$Pieces", name := "read", desc := "(LRopeShelf$Cell;)V" } : Jvm.MethodName) prog_3_method_2_code (2 : Nat) (Option.none : Option Jvm.ClassFile.FieldType)) ∈ tb := tb_in 368 (by decide +kernel) rfl
theorem wd_369 : (Jvm.Cond.methodLink "RopeShelf$Pieces" (21 : Nat) ({ cls := "RopeShelf$Pieces", name := "addPieces", desc := "(LRopeShelf$Cell;I)V" } : Jvm.MethodName)) ∈ tb := tb_in 369 (by decide +kernel) rfl
theorem wd_371 : (Jvm.Cond.instanceMethod ({ cls := "RopeShelf$Pieces", name := "addPieces", desc := "(LRopeShelf$Cell;I)V" } : Jvm.MethodName)) ∈ tb := tb_in 371 (by decide +kernel) rfl
theorem wd_372 : (Jvm.Cond.code ({ cls := "RopeShelf$Pieces", name := "addPieces", desc := "(LRopeShelf$Cell;I)V" } : Jvm.MethodName) prog_3_method_4_code (3 : Nat) (Option.none : Option Jvm.ClassFile.FieldType)) ∈ tb := tb_in 372 (by decide +kernel) rfl
theorem wd_373 : (Jvm.Cond.methodLink "RopeShelf$Weaver" (65 : Nat) ({ cls := "RopeShelf$Weaver", name := "release", desc := "(LRopeShelf$Cell;I)V" } : Jvm.MethodName)) ∈ tb := tb_in 373 (by decide +kernel) rfl
theorem wd_375 : (Jvm.Cond.instanceMethod ({ cls := "RopeShelf$Weaver", name := "release", desc := "(LRopeShelf$Cell;I)V" } : Jvm.MethodName)) ∈ tb := tb_in 375 (by decide +kernel) rfl
theorem wd_376 : (Jvm.Cond.code ({ cls := "RopeShelf$Weaver", name := "release", desc := "(LRopeShelf$Cell;I)V" } : Jvm.MethodName) prog_7_method_6_code (3 : Nat) (Option.none : Option Jvm.ClassFile.FieldType)) ∈ tb := tb_in 376 (by decide +kernel) rfl
theorem wd_377 : (Jvm.Cond.methodLink "RopeShelf$Weaver" (70 : Nat) ({ cls := "RopeShelf$Weaver", name := "balanced", desc := "(III)LRopeShelf$Cell;" } : Jvm.MethodName)) ∈ tb := tb_in 377 (by decide +kernel) rfl
theorem wd_379 : (Jvm.Cond.instanceMethod ({ cls := "RopeShelf$Weaver", name := "balanced", desc := "(III)LRopeShelf$Cell;" } : Jvm.MethodName)) ∈ tb := tb_in 379 (by decide +kernel) rfl
theorem wd_380 : (Jvm.Cond.code ({ cls := "RopeShelf$Weaver", name := "balanced", desc := "(III)LRopeShelf$Cell;" } : Jvm.MethodName) prog_7_method_4_code (5 : Nat) (Option.some (Jvm.ClassFile.FieldType.object "RopeShelf$Cell"))) ∈ tb := tb_in 380 (by decide +kernel) rfl
theorem wd_381 : (Jvm.Cond.methodLink "RopeShelf$Weaver" (74 : Nat) ({ cls := "RopeShelf$Pieces", name := "at", desc := "(I)LRopeShelf$Cell;" } : Jvm.MethodName)) ∈ tb := tb_in 381 (by decide +kernel) rfl
theorem wd_382 : (Jvm.Cond.instanceMethod ({ cls := "RopeShelf$Pieces", name := "at", desc := "(I)LRopeShelf$Cell;" } : Jvm.MethodName)) ∈ tb := tb_in 382 (by decide +kernel) rfl
theorem wd_383 : (Jvm.Cond.selects "RopeShelf$Pieces" ({ cls := "RopeShelf$Pieces", name := "at", desc := "(I)LRopeShelf$Cell;" } : Jvm.MethodName) ({ cls := "RopeShelf$Pieces", name := "at", desc := "(I)LRopeShelf$Cell;" } : Jvm.MethodName)) ∈ tb := tb_in 383 (by decide +kernel) rfl
theorem wd_384 : (Jvm.Cond.code ({ cls := "RopeShelf$Pieces", name := "at", desc := "(I)LRopeShelf$Cell;" } : Jvm.MethodName) prog_3_method_5_code (2 : Nat) (Option.some (Jvm.ClassFile.FieldType.object "RopeShelf$Cell"))) ∈ tb := tb_in 384 (by decide +kernel) rfl
theorem wd_385 : (Jvm.Cond.methodLink "RopeShelfLaw" (36 : Nat) ({ cls := "RopeShelf", name := "cut", desc := "(IIII)I" } : Jvm.MethodName)) ∈ tb := tb_in 385 (by decide +kernel) rfl
theorem wd_386 : (Jvm.Cond.instanceMethod ({ cls := "RopeShelf", name := "cut", desc := "(IIII)I" } : Jvm.MethodName)) ∈ tb := tb_in 386 (by decide +kernel) rfl
theorem wd_387 : (Jvm.Cond.selects "RopeShelf" ({ cls := "RopeShelf", name := "cut", desc := "(IIII)I" } : Jvm.MethodName) ({ cls := "RopeShelf", name := "cut", desc := "(IIII)I" } : Jvm.MethodName)) ∈ tb := tb_in 387 (by decide +kernel) rfl
theorem wd_388 : (Jvm.Cond.code ({ cls := "RopeShelf", name := "cut", desc := "(IIII)I" } : Jvm.MethodName) prog_1_method_7_code (6 : Nat) (Option.some Jvm.ClassFile.FieldType.int)) ∈ tb := tb_in 388 (by decide +kernel) rfl
theorem wn_389 : (Jvm.Cond.methodLinkNest "RopeShelf" (113 : Nat) ({ cls := "RopeShelf$Weaver", name := "cutOut", desc := "(LRopeShelf$Cell;III)LRopeShelf$Cell;" } : Jvm.MethodName) "RopeShelf") ∈ lw_tbl := List.mem_of_getElem? (i := 389) (by decide +kernel)
theorem wd_391 : (Jvm.Cond.instanceMethod ({ cls := "RopeShelf$Weaver", name := "cutOut", desc := "(LRopeShelf$Cell;III)LRopeShelf$Cell;" } : Jvm.MethodName)) ∈ tb := tb_in 391 (by decide +kernel) rfl
theorem wd_392 : (Jvm.Cond.code ({ cls := "RopeShelf$Weaver", name := "cutOut", desc := "(LRopeShelf$Cell;III)LRopeShelf$Cell;" } : Jvm.MethodName) prog_7_method_7_code (5 : Nat) (Option.some (Jvm.ClassFile.FieldType.object "RopeShelf$Cell"))) ∈ tb := tb_in 392 (by decide +kernel) rfl
theorem wd_393 : (Jvm.Cond.methodLink "RopeShelf$Weaver" (91 : Nat) ({ cls := "RopeShelf$Text", name := "clear", desc := "()V" } : Jvm.MethodName)) ∈ tb := tb_in 393 (by decide +kernel) rfl
theorem wd_394 : (Jvm.Cond.methodLink "RopeShelf$Weaver" (94 : Nat) ({ cls := "RopeShelf$Weaver", name := "cutOutOfJoin", desc := "(LRopeShelf$Cell;III)LRopeShelf$Cell;" } : Jvm.MethodName)) ∈ tb := tb_in 394 (by decide +kernel) rfl
theorem wd_396 : (Jvm.Cond.instanceMethod ({ cls := "RopeShelf$Weaver", name := "cutOutOfJoin", desc := "(LRopeShelf$Cell;III)LRopeShelf$Cell;" } : Jvm.MethodName)) ∈ tb := tb_in 396 (by decide +kernel) rfl
theorem wd_397 : (Jvm.Cond.code ({ cls := "RopeShelf$Weaver", name := "cutOutOfJoin", desc := "(LRopeShelf$Cell;III)LRopeShelf$Cell;" } : Jvm.MethodName) prog_7_method_9_code (8 : Nat) (Option.some (Jvm.ClassFile.FieldType.object "RopeShelf$Cell"))) ∈ tb := tb_in 397 (by decide +kernel) rfl
theorem wd_398 : (Jvm.Cond.methodLink "RopeShelf$Weaver" (115 : Nat) ({ cls := "RopeShelf$Weaver", name := "cutOut", desc := "(LRopeShelf$Cell;III)LRopeShelf$Cell;" } : Jvm.MethodName)) ∈ tb := tb_in 398 (by decide +kernel) rfl
theorem wd_399 : (Jvm.Cond.methodLink "RopeShelf$Weaver" (118 : Nat) ({ cls := "RopeShelf$Weaver", name := "joined", desc := "(LRopeShelf$Cell;LRopeShelf$Cell;)LRopeShelf$Cell;" } : Jvm.MethodName)) ∈ tb := tb_in 399 (by decide +kernel) rfl
theorem wd_400 : (Jvm.Cond.methodLink "RopeShelf$Weaver" (104 : Nat) ({ cls := "RopeShelf$Weaver", name := "cutOutOfLeaf", desc := "(LRopeShelf$Cell;II)LRopeShelf$Cell;" } : Jvm.MethodName)) ∈ tb := tb_in 400 (by decide +kernel) rfl
theorem wd_402 : (Jvm.Cond.instanceMethod ({ cls := "RopeShelf$Weaver", name := "cutOutOfLeaf", desc := "(LRopeShelf$Cell;II)LRopeShelf$Cell;" } : Jvm.MethodName)) ∈ tb := tb_in 402 (by decide +kernel) rfl
theorem wd_403 : (Jvm.Cond.code ({ cls := "RopeShelf$Weaver", name := "cutOutOfLeaf", desc := "(LRopeShelf$Cell;II)LRopeShelf$Cell;" } : Jvm.MethodName) prog_7_method_8_code (4 : Nat) (Option.some (Jvm.ClassFile.FieldType.object "RopeShelf$Cell"))) ∈ tb := tb_in 403 (by decide +kernel) rfl
theorem wd_404 : (Jvm.Cond.methodLink "RopeShelf$Weaver" (108 : Nat) ({ cls := "RopeShelf$Cell", name := "slice", desc := "(LRopeShelf$Cell;II)LRopeShelf$Cell;" } : Jvm.MethodName)) ∈ tb := tb_in 404 (by decide +kernel) rfl
theorem wd_405 : (Jvm.Cond.static ({ cls := "RopeShelf$Cell", name := "slice", desc := "(LRopeShelf$Cell;II)LRopeShelf$Cell;" } : Jvm.MethodName)) ∈ tb := tb_in 405 (by decide +kernel) rfl
theorem wd_406 : (Jvm.Cond.code ({ cls := "RopeShelf$Cell", name := "slice", desc := "(LRopeShelf$Cell;II)LRopeShelf$Cell;" } : Jvm.MethodName) prog_2_method_3_code (4 : Nat) (Option.some (Jvm.ClassFile.FieldType.object "RopeShelf$Cell"))) ∈ tb := tb_in 406 (by decide +kernel) rfl
theorem wd_407 : (Jvm.Cond.methodLink "RopeShelf$Weaver" (111 : Nat) ({ cls := "RopeShelf$Text", name := "readPart", desc := "(LRopeShelf$Cell;II)V" } : Jvm.MethodName)) ∈ tb := tb_in 407 (by decide +kernel) rfl
theorem wd_408 : (Jvm.Cond.instanceMethod ({ cls := "RopeShelf$Text", name := "readPart", desc := "(LRopeShelf$Cell;II)V" } : Jvm.MethodName)) ∈ tb := tb_in 408 (by decide +kernel) rfl
theorem wd_409 : (Jvm.Cond.selects "RopeShelf$Text" ({ cls := "RopeShelf$Text", name := "readPart", desc := "(LRopeShelf$Cell;II)V" } : Jvm.MethodName) ({ cls := "RopeShelf$Text", name := "readPart", desc := "(LRopeShelf$Cell;II)V" } : Jvm.MethodName)) ∈ tb := tb_in 409 (by decide +kernel) rfl
theorem wd_410 : (Jvm.Cond.code ({ cls := "RopeShelf$Text", name := "readPart", desc := "(LRopeShelf$Cell;II)V" } : Jvm.MethodName) prog_5_method_6_code (4 : Nat) (Option.none : Option Jvm.ClassFile.FieldType)) ∈ tb := tb_in 410 (by decide +kernel) rfl
theorem wd_411 : (Jvm.Cond.methodLink "RopeShelfLaw" (41 : Nat) ({ cls := "RopeShelf", name := "flat", desc := "(I)I" } : Jvm.MethodName)) ∈ tb := tb_in 411 (by decide +kernel) rfl
theorem wd_412 : (Jvm.Cond.instanceMethod ({ cls := "RopeShelf", name := "flat", desc := "(I)I" } : Jvm.MethodName)) ∈ tb := tb_in 412 (by decide +kernel) rfl
theorem wd_413 : (Jvm.Cond.selects "RopeShelf" ({ cls := "RopeShelf", name := "flat", desc := "(I)I" } : Jvm.MethodName) ({ cls := "RopeShelf", name := "flat", desc := "(I)I" } : Jvm.MethodName)) ∈ tb := tb_in 413 (by decide +kernel) rfl
theorem wd_414 : (Jvm.Cond.code ({ cls := "RopeShelf", name := "flat", desc := "(I)I" } : Jvm.MethodName) prog_1_method_8_code (3 : Nat) (Option.some Jvm.ClassFile.FieldType.int)) ∈ tb := tb_in 414 (by decide +kernel) rfl
theorem wd_415 : (Jvm.Cond.methodLink "RopeShelf" (117 : Nat) ({ cls := "RopeShelf$Pieces", name := "read", desc := "(LRopeShelf$Cell;)V" } : Jvm.MethodName)) ∈ tb := tb_in 415 (by decide +kernel) rfl
theorem wd_416 : (Jvm.Cond.methodLink "RopeShelf" (124 : Nat) ({ cls := "RopeShelf$Text", name := "read", desc := "(LRopeShelf$Cell;)V" } : Jvm.MethodName)) ∈ tb := tb_in 416 (by decide +kernel) rfl
theorem wd_417 : (Jvm.Cond.instanceMethod ({ cls := "RopeShelf$Text", name := "read", desc := "(LRopeShelf$Cell;)V" } : Jvm.MethodName)) ∈ tb := tb_in 417 (by decide +kernel) rfl
theorem wd_418 : (Jvm.Cond.selects "RopeShelf$Text" ({ cls := "RopeShelf$Text", name := "read", desc := "(LRopeShelf$Cell;)V" } : Jvm.MethodName) ({ cls := "RopeShelf$Text", name := "read", desc := "(LRopeShelf$Cell;)V" } : Jvm.MethodName)) ∈ tb := tb_in 418 (by decide +kernel) rfl
theorem wd_419 : (Jvm.Cond.code ({ cls := "RopeShelf$Text", name := "read", desc := "(LRopeShelf$Cell;)V" } : Jvm.MethodName) prog_5_method_4_code (2 : Nat) (Option.none : Option Jvm.ClassFile.FieldType)) ∈ tb := tb_in 419 (by decide +kernel) rfl
theorem wd_420 : (Jvm.Cond.methodLink "RopeShelf" (125 : Nat) ({ cls := "RopeShelf$Cell", name := "becomeLeaf", desc := "(LRopeShelf$Text;)V" } : Jvm.MethodName)) ∈ tb := tb_in 420 (by decide +kernel) rfl
theorem wd_421 : (Jvm.Cond.methodLink "RopeShelfLaw" (45 : Nat) ({ cls := "RopeShelf", name := "sign", desc := "(II)I" } : Jvm.MethodName)) ∈ tb := tb_in 421 (by decide +kernel) rfl
theorem wd_422 : (Jvm.Cond.instanceMethod ({ cls := "RopeShelf", name := "sign", desc := "(II)I" } : Jvm.MethodName)) ∈ tb := tb_in 422 (by decide +kernel) rfl
theorem wd_423 : (Jvm.Cond.selects "RopeShelf" ({ cls := "RopeShelf", name := "sign", desc := "(II)I" } : Jvm.MethodName) ({ cls := "RopeShelf", name := "sign", desc := "(II)I" } : Jvm.MethodName)) ∈ tb := tb_in 423 (by decide +kernel) rfl
theorem wd_424 : (Jvm.Cond.code ({ cls := "RopeShelf", name := "sign", desc := "(II)I" } : Jvm.MethodName) prog_1_method_9_code (4 : Nat) (Option.some Jvm.ClassFile.FieldType.int)) ∈ tb := tb_in 424 (by decide +kernel) rfl
theorem wd_425 : (Jvm.Cond.methodLink "RopeShelf" (130 : Nat) ({ cls := "RopeShelf$Text", name := "signAt", desc := "(I)I" } : Jvm.MethodName)) ∈ tb := tb_in 425 (by decide +kernel) rfl
theorem wd_426 : (Jvm.Cond.methodLink "RopeShelfLaw" (49 : Nat) ({ cls := "RopeShelf", name := "hash", desc := "(I)I" } : Jvm.MethodName)) ∈ tb := tb_in 426 (by decide +kernel) rfl
theorem wd_427 : (Jvm.Cond.instanceMethod ({ cls := "RopeShelf", name := "hash", desc := "(I)I" } : Jvm.MethodName)) ∈ tb := tb_in 427 (by decide +kernel) rfl
theorem wd_428 : (Jvm.Cond.selects "RopeShelf" ({ cls := "RopeShelf", name := "hash", desc := "(I)I" } : Jvm.MethodName) ({ cls := "RopeShelf", name := "hash", desc := "(I)I" } : Jvm.MethodName)) ∈ tb := tb_in 428 (by decide +kernel) rfl
theorem wd_429 : (Jvm.Cond.code ({ cls := "RopeShelf", name := "hash", desc := "(I)I" } : Jvm.MethodName) prog_1_method_10_code (3 : Nat) (Option.some Jvm.ClassFile.FieldType.int)) ∈ tb := tb_in 429 (by decide +kernel) rfl
theorem wd_430 : (Jvm.Cond.methodLink "RopeShelf" (134 : Nat) ({ cls := "RopeShelf$Text", name := "hashed", desc := "()I" } : Jvm.MethodName)) ∈ tb := tb_in 430 (by decide +kernel) rfl
theorem wd_431 : (Jvm.Cond.instanceMethod ({ cls := "RopeShelf$Text", name := "hashed", desc := "()I" } : Jvm.MethodName)) ∈ tb := tb_in 431 (by decide +kernel) rfl
theorem wd_432 : (Jvm.Cond.selects "RopeShelf$Text" ({ cls := "RopeShelf$Text", name := "hashed", desc := "()I" } : Jvm.MethodName) ({ cls := "RopeShelf$Text", name := "hashed", desc := "()I" } : Jvm.MethodName)) ∈ tb := tb_in 432 (by decide +kernel) rfl
theorem wd_433 : (Jvm.Cond.code ({ cls := "RopeShelf$Text", name := "hashed", desc := "()I" } : Jvm.MethodName) prog_5_method_11_code (3 : Nat) (Option.some Jvm.ClassFile.FieldType.int)) ∈ tb := tb_in 433 (by decide +kernel) rfl
theorem wd_434 : (Jvm.Cond.methodLink "RopeShelfLaw" (53 : Nat) ({ cls := "RopeShelf", name := "told", desc := "(II)I" } : Jvm.MethodName)) ∈ tb := tb_in 434 (by decide +kernel) rfl
theorem wd_435 : (Jvm.Cond.instanceMethod ({ cls := "RopeShelf", name := "told", desc := "(II)I" } : Jvm.MethodName)) ∈ tb := tb_in 435 (by decide +kernel) rfl
theorem wd_436 : (Jvm.Cond.selects "RopeShelf" ({ cls := "RopeShelf", name := "told", desc := "(II)I" } : Jvm.MethodName) ({ cls := "RopeShelf", name := "told", desc := "(II)I" } : Jvm.MethodName)) ∈ tb := tb_in 436 (by decide +kernel) rfl
theorem wd_437 : (Jvm.Cond.code ({ cls := "RopeShelf", name := "told", desc := "(II)I" } : Jvm.MethodName) prog_1_method_11_code (4 : Nat) (Option.some Jvm.ClassFile.FieldType.int)) ∈ tb := tb_in 437 (by decide +kernel) rfl
theorem wd_438 : (Jvm.Cond.methodLink "RopeShelf" (138 : Nat) ({ cls := "RopeShelf$Cell", name := "depth", desc := "()I" } : Jvm.MethodName)) ∈ tb := tb_in 438 (by decide +kernel) rfl
theorem wd_439 : (Jvm.Cond.methodLink "RopeShelf" (141 : Nat) ({ cls := "RopeShelf$Walk", name := "overCell", desc := "(LRopeShelf$Cell;)V" } : Jvm.MethodName)) ∈ tb := tb_in 439 (by decide +kernel) rfl
theorem wd_440 : (Jvm.Cond.instanceMethod ({ cls := "RopeShelf$Walk", name := "overCell", desc := "(LRopeShelf$Cell;)V" } : Jvm.MethodName)) ∈ tb := tb_in 440 (by decide +kernel) rfl
theorem wd_441 : (Jvm.Cond.selects "RopeShelf$Walk" ({ cls := "RopeShelf$Walk", name := "overCell", desc := "(LRopeShelf$Cell;)V" } : Jvm.MethodName) ({ cls := "RopeShelf$Walk", name := "overCell", desc := "(LRopeShelf$Cell;)V" } : Jvm.MethodName)) ∈ tb := tb_in 441 (by decide +kernel) rfl
theorem wd_442 : (Jvm.Cond.code ({ cls := "RopeShelf$Walk", name := "overCell", desc := "(LRopeShelf$Cell;)V" } : Jvm.MethodName) prog_6_method_2_code (2 : Nat) (Option.none : Option Jvm.ClassFile.FieldType)) ∈ tb := tb_in 442 (by decide +kernel) rfl
theorem wd_443 : (Jvm.Cond.methodLink "RopeShelf$Walk" (15 : Nat) ({ cls := "RopeShelf$Walk", name := "begin", desc := "()V" } : Jvm.MethodName)) ∈ tb := tb_in 443 (by decide +kernel) rfl
theorem wd_445 : (Jvm.Cond.instanceMethod ({ cls := "RopeShelf$Walk", name := "begin", desc := "()V" } : Jvm.MethodName)) ∈ tb := tb_in 445 (by decide +kernel) rfl
theorem wd_446 : (Jvm.Cond.code ({ cls := "RopeShelf$Walk", name := "begin", desc := "()V" } : Jvm.MethodName) prog_6_method_5_code (1 : Nat) (Option.none : Option Jvm.ClassFile.FieldType)) ∈ tb := tb_in 446 (by decide +kernel) rfl
theorem wd_447 : (Jvm.Cond.methodLink "RopeShelf$Walk" (18 : Nat) ({ cls := "RopeShelf$Walk", name := "visit", desc := "(LRopeShelf$Cell;I)V" } : Jvm.MethodName)) ∈ tb := tb_in 447 (by decide +kernel) rfl
theorem wd_449 : (Jvm.Cond.instanceMethod ({ cls := "RopeShelf$Walk", name := "visit", desc := "(LRopeShelf$Cell;I)V" } : Jvm.MethodName)) ∈ tb := tb_in 449 (by decide +kernel) rfl
theorem wd_450 : (Jvm.Cond.code ({ cls := "RopeShelf$Walk", name := "visit", desc := "(LRopeShelf$Cell;I)V" } : Jvm.MethodName) prog_6_method_6_code (3 : Nat) (Option.none : Option Jvm.ClassFile.FieldType)) ∈ tb := tb_in 450 (by decide +kernel) rfl
theorem wd_451 : (Jvm.Cond.methodLink "RopeShelf$Walk" (33 : Nat) ({ cls := "RopeShelf$Walk", name := "cameBy", desc := "(LRopeShelf$Cell;)Z" } : Jvm.MethodName)) ∈ tb := tb_in 451 (by decide +kernel) rfl
theorem wd_452 : (Jvm.Cond.instanceMethod ({ cls := "RopeShelf$Walk", name := "cameBy", desc := "(LRopeShelf$Cell;)Z" } : Jvm.MethodName)) ∈ tb := tb_in 452 (by decide +kernel) rfl
theorem wd_453 : (Jvm.Cond.selects "RopeShelf$Walk" ({ cls := "RopeShelf$Walk", name := "cameBy", desc := "(LRopeShelf$Cell;)Z" } : Jvm.MethodName) ({ cls := "RopeShelf$Walk", name := "cameBy", desc := "(LRopeShelf$Cell;)Z" } : Jvm.MethodName)) ∈ tb := tb_in 453 (by decide +kernel) rfl
theorem wd_454 : (Jvm.Cond.code ({ cls := "RopeShelf$Walk", name := "cameBy", desc := "(LRopeShelf$Cell;)Z" } : Jvm.MethodName) prog_6_method_4_code (2 : Nat) (Option.some Jvm.ClassFile.FieldType.boolean)) ∈ tb := tb_in 454 (by decide +kernel) rfl
theorem wd_455 : (Jvm.Cond.methodLink "RopeShelf$Walk" (37 : Nat) ({ cls := "RopeShelf$Cell", name := "room", desc := "()I" } : Jvm.MethodName)) ∈ tb := tb_in 455 (by decide +kernel) rfl
theorem wd_456 : (Jvm.Cond.instanceMethod ({ cls := "RopeShelf$Cell", name := "room", desc := "()I" } : Jvm.MethodName)) ∈ tb := tb_in 456 (by decide +kernel) rfl
theorem wd_457 : (Jvm.Cond.selects "RopeShelf$Cell" ({ cls := "RopeShelf$Cell", name := "room", desc := "()I" } : Jvm.MethodName) ({ cls := "RopeShelf$Cell", name := "room", desc := "()I" } : Jvm.MethodName)) ∈ tb := tb_in 457 (by decide +kernel) rfl
theorem wd_458 : (Jvm.Cond.code ({ cls := "RopeShelf$Cell", name := "room", desc := "()I" } : Jvm.MethodName) prog_2_method_8_code (1 : Nat) (Option.some Jvm.ClassFile.FieldType.int)) ∈ tb := tb_in 458 (by decide +kernel) rfl
theorem wd_459 : (Jvm.Cond.methodLink "RopeShelf$Cell" (57 : Nat) ({ cls := "RopeShelf$Cell", name := "hasWideSign", desc := "()Z" } : Jvm.MethodName)) ∈ tb := tb_in 459 (by decide +kernel) rfl
theorem wd_461 : (Jvm.Cond.instanceMethod ({ cls := "RopeShelf$Cell", name := "hasWideSign", desc := "()Z" } : Jvm.MethodName)) ∈ tb := tb_in 461 (by decide +kernel) rfl
theorem wd_462 : (Jvm.Cond.code ({ cls := "RopeShelf$Cell", name := "hasWideSign", desc := "()Z" } : Jvm.MethodName) prog_2_method_9_code (2 : Nat) (Option.some Jvm.ClassFile.FieldType.boolean)) ∈ tb := tb_in 462 (by decide +kernel) rfl
theorem wd_463 : (Jvm.Cond.methodLink "RopeShelf$Cell" (61 : Nat) ({ cls := "RopeShelf$Cell", name := "signAt", desc := "(I)I" } : Jvm.MethodName)) ∈ tb := tb_in 463 (by decide +kernel) rfl
theorem wd_464 : (Jvm.Cond.methodLink "RopeShelf" (150 : Nat) ({ cls := "RopeShelf$Text", name := "isWide", desc := "()Z" } : Jvm.MethodName)) ∈ tb := tb_in 464 (by decide +kernel) rfl
theorem wd_465 : (Jvm.Cond.instanceMethod ({ cls := "RopeShelf$Text", name := "isWide", desc := "()Z" } : Jvm.MethodName)) ∈ tb := tb_in 465 (by decide +kernel) rfl
theorem wd_466 : (Jvm.Cond.selects "RopeShelf$Text" ({ cls := "RopeShelf$Text", name := "isWide", desc := "()Z" } : Jvm.MethodName) ({ cls := "RopeShelf$Text", name := "isWide", desc := "()Z" } : Jvm.MethodName)) ∈ tb := tb_in 466 (by decide +kernel) rfl
theorem wd_467 : (Jvm.Cond.code ({ cls := "RopeShelf$Text", name := "isWide", desc := "()Z" } : Jvm.MethodName) prog_5_method_12_code (2 : Nat) (Option.some Jvm.ClassFile.FieldType.boolean)) ∈ tb := tb_in 467 (by decide +kernel) rfl
theorem wd_468 : (Jvm.Cond.methodLink "RopeShelf" (154 : Nat) ({ cls := "RopeShelf", name := "asNumber", desc := "(Z)I" } : Jvm.MethodName)) ∈ tb := tb_in 468 (by decide +kernel) rfl
theorem wd_469 : (Jvm.Cond.static ({ cls := "RopeShelf", name := "asNumber", desc := "(Z)I" } : Jvm.MethodName)) ∈ tb := tb_in 469 (by decide +kernel) rfl
theorem wd_470 : (Jvm.Cond.code ({ cls := "RopeShelf", name := "asNumber", desc := "(Z)I" } : Jvm.MethodName) prog_1_method_23_code (1 : Nat) (Option.some Jvm.ClassFile.FieldType.int)) ∈ tb := tb_in 470 (by decide +kernel) rfl
theorem wd_471 : (Jvm.Cond.methodLink "RopeShelfLaw" (57 : Nat) ({ cls := "RopeShelf", name := "piece", desc := "(III)I" } : Jvm.MethodName)) ∈ tb := tb_in 471 (by decide +kernel) rfl
theorem wd_472 : (Jvm.Cond.instanceMethod ({ cls := "RopeShelf", name := "piece", desc := "(III)I" } : Jvm.MethodName)) ∈ tb := tb_in 472 (by decide +kernel) rfl
theorem wd_473 : (Jvm.Cond.selects "RopeShelf" ({ cls := "RopeShelf", name := "piece", desc := "(III)I" } : Jvm.MethodName) ({ cls := "RopeShelf", name := "piece", desc := "(III)I" } : Jvm.MethodName)) ∈ tb := tb_in 473 (by decide +kernel) rfl
theorem wd_474 : (Jvm.Cond.code ({ cls := "RopeShelf", name := "piece", desc := "(III)I" } : Jvm.MethodName) prog_1_method_12_code (6 : Nat) (Option.some Jvm.ClassFile.FieldType.int)) ∈ tb := tb_in 474 (by decide +kernel) rfl
theorem wd_475 : (Jvm.Cond.methodLink "RopeShelf" (158 : Nat) ({ cls := "RopeShelf$Pieces", name := "at", desc := "(I)LRopeShelf$Cell;" } : Jvm.MethodName)) ∈ tb := tb_in 475 (by decide +kernel) rfl
theorem wd_476 : (Jvm.Cond.methodLink "RopeShelf" (168 : Nat) ({ cls := "RopeShelf$Pieces", name := "firstPlaceOf", desc := "(LRopeShelf$Cell;)I" } : Jvm.MethodName)) ∈ tb := tb_in 476 (by decide +kernel) rfl
theorem wd_477 : (Jvm.Cond.instanceMethod ({ cls := "RopeShelf$Pieces", name := "firstPlaceOf", desc := "(LRopeShelf$Cell;)I" } : Jvm.MethodName)) ∈ tb := tb_in 477 (by decide +kernel) rfl
theorem wd_478 : (Jvm.Cond.selects "RopeShelf$Pieces" ({ cls := "RopeShelf$Pieces", name := "firstPlaceOf", desc := "(LRopeShelf$Cell;)I" } : Jvm.MethodName) ({ cls := "RopeShelf$Pieces", name := "firstPlaceOf", desc := "(LRopeShelf$Cell;)I" } : Jvm.MethodName)) ∈ tb := tb_in 478 (by decide +kernel) rfl
theorem wd_479 : (Jvm.Cond.code ({ cls := "RopeShelf$Pieces", name := "firstPlaceOf", desc := "(LRopeShelf$Cell;)I" } : Jvm.MethodName) prog_3_method_6_code (3 : Nat) (Option.some Jvm.ClassFile.FieldType.int)) ∈ tb := tb_in 479 (by decide +kernel) rfl
theorem wd_480 : (Jvm.Cond.methodLink "RopeShelf$Pieces" (39 : Nat) ({ cls := "RopeShelf$Pieces", name := "at", desc := "(I)LRopeShelf$Cell;" } : Jvm.MethodName)) ∈ tb := tb_in 480 (by decide +kernel) rfl
theorem wd_481 : (Jvm.Cond.methodLink "RopeShelfLaw" (61 : Nat) ({ cls := "RopeShelf", name := "alike", desc := "(III)I" } : Jvm.MethodName)) ∈ tb := tb_in 481 (by decide +kernel) rfl
theorem wd_482 : (Jvm.Cond.instanceMethod ({ cls := "RopeShelf", name := "alike", desc := "(III)I" } : Jvm.MethodName)) ∈ tb := tb_in 482 (by decide +kernel) rfl
theorem wd_483 : (Jvm.Cond.selects "RopeShelf" ({ cls := "RopeShelf", name := "alike", desc := "(III)I" } : Jvm.MethodName) ({ cls := "RopeShelf", name := "alike", desc := "(III)I" } : Jvm.MethodName)) ∈ tb := tb_in 483 (by decide +kernel) rfl
theorem wd_484 : (Jvm.Cond.code ({ cls := "RopeShelf", name := "alike", desc := "(III)I" } : Jvm.MethodName) prog_1_method_13_code (6 : Nat) (Option.some Jvm.ClassFile.FieldType.int)) ∈ tb := tb_in 484 (by decide +kernel) rfl
theorem wd_485 : (Jvm.Cond.methodLink "RopeShelf" (172 : Nat) ({ cls := "RopeShelf", name := "compareTexts", desc := "(I)I" } : Jvm.MethodName)) ∈ tb := tb_in 485 (by decide +kernel) rfl
theorem wd_487 : (Jvm.Cond.instanceMethod ({ cls := "RopeShelf", name := "compareTexts", desc := "(I)I" } : Jvm.MethodName)) ∈ tb := tb_in 487 (by decide +kernel) rfl
theorem wd_488 : (Jvm.Cond.code ({ cls := "RopeShelf", name := "compareTexts", desc := "(I)I" } : Jvm.MethodName) prog_1_method_26_code (2 : Nat) (Option.some Jvm.ClassFile.FieldType.int)) ∈ tb := tb_in 488 (by decide +kernel) rfl
theorem wd_489 : (Jvm.Cond.methodLink "RopeShelf" (218 : Nat) ({ cls := "RopeShelf$Text", name := "isSameAs", desc := "(LRopeShelf$Text;)Z" } : Jvm.MethodName)) ∈ tb := tb_in 489 (by decide +kernel) rfl
theorem wd_490 : (Jvm.Cond.instanceMethod ({ cls := "RopeShelf$Text", name := "isSameAs", desc := "(LRopeShelf$Text;)Z" } : Jvm.MethodName)) ∈ tb := tb_in 490 (by decide +kernel) rfl
theorem wd_491 : (Jvm.Cond.selects "RopeShelf$Text" ({ cls := "RopeShelf$Text", name := "isSameAs", desc := "(LRopeShelf$Text;)Z" } : Jvm.MethodName) ({ cls := "RopeShelf$Text", name := "isSameAs", desc := "(LRopeShelf$Text;)Z" } : Jvm.MethodName)) ∈ tb := tb_in 491 (by decide +kernel) rfl
theorem wd_492 : (Jvm.Cond.code ({ cls := "RopeShelf$Text", name := "isSameAs", desc := "(LRopeShelf$Text;)Z" } : Jvm.MethodName) prog_5_method_13_code (2 : Nat) (Option.some Jvm.ClassFile.FieldType.boolean)) ∈ tb := tb_in 492 (by decide +kernel) rfl
theorem wd_493 : (Jvm.Cond.methodLink "RopeShelf$Text" (55 : Nat) ({ cls := "RopeShelf$Text", name := "samePlaces", desc := "(LRopeShelf$Text;)I" } : Jvm.MethodName)) ∈ tb := tb_in 493 (by decide +kernel) rfl
theorem wd_494 : (Jvm.Cond.instanceMethod ({ cls := "RopeShelf$Text", name := "samePlaces", desc := "(LRopeShelf$Text;)I" } : Jvm.MethodName)) ∈ tb := tb_in 494 (by decide +kernel) rfl
theorem wd_495 : (Jvm.Cond.selects "RopeShelf$Text" ({ cls := "RopeShelf$Text", name := "samePlaces", desc := "(LRopeShelf$Text;)I" } : Jvm.MethodName) ({ cls := "RopeShelf$Text", name := "samePlaces", desc := "(LRopeShelf$Text;)I" } : Jvm.MethodName)) ∈ tb := tb_in 495 (by decide +kernel) rfl
theorem wd_496 : (Jvm.Cond.code ({ cls := "RopeShelf$Text", name := "samePlaces", desc := "(LRopeShelf$Text;)I" } : Jvm.MethodName) prog_5_method_14_code (4 : Nat) (Option.some Jvm.ClassFile.FieldType.int)) ∈ tb := tb_in 496 (by decide +kernel) rfl
theorem wd_497 : (Jvm.Cond.methodLink "RopeShelf$Text" (59 : Nat) ({ cls := "java/lang/Math", name := "min", desc := "(II)I" } : Jvm.MethodName)) ∈ tb := tb_in 497 (by decide +kernel) rfl
theorem wd_498 : (Jvm.Cond.static ({ cls := "java/lang/Math", name := "min", desc := "(II)I" } : Jvm.MethodName)) ∈ tb := tb_in 498 (by decide +kernel) rfl
theorem wd_499 : (Jvm.Cond.code ({ cls := "java/lang/Math", name := "min", desc := "(II)I" } : Jvm.MethodName) prog_10_method_69_code (2 : Nat) (Option.some Jvm.ClassFile.FieldType.int)) ∈ tb := tb_in 499 (by decide +kernel) rfl
theorem wd_500 : (Jvm.Cond.methodLink "RopeShelf" (222 : Nat) ({ cls := "RopeShelf$Text", name := "samePlaces", desc := "(LRopeShelf$Text;)I" } : Jvm.MethodName)) ∈ tb := tb_in 500 (by decide +kernel) rfl
theorem wd_501 : (Jvm.Cond.methodLink "RopeShelf" (226 : Nat) ({ cls := "RopeShelf$Text", name := "placeOf", desc := "(LRopeShelf$Text;)I" } : Jvm.MethodName)) ∈ tb := tb_in 501 (by decide +kernel) rfl
theorem wd_502 : (Jvm.Cond.instanceMethod ({ cls := "RopeShelf$Text", name := "placeOf", desc := "(LRopeShelf$Text;)I" } : Jvm.MethodName)) ∈ tb := tb_in 502 (by decide +kernel) rfl
theorem wd_503 : (Jvm.Cond.selects "RopeShelf$Text" ({ cls := "RopeShelf$Text", name := "placeOf", desc := "(LRopeShelf$Text;)I" } : Jvm.MethodName) ({ cls := "RopeShelf$Text", name := "placeOf", desc := "(LRopeShelf$Text;)I" } : Jvm.MethodName)) ∈ tb := tb_in 503 (by decide +kernel) rfl
theorem wd_504 : (Jvm.Cond.code ({ cls := "RopeShelf$Text", name := "placeOf", desc := "(LRopeShelf$Text;)I" } : Jvm.MethodName) prog_5_method_16_code (3 : Nat) (Option.some Jvm.ClassFile.FieldType.int)) ∈ tb := tb_in 504 (by decide +kernel) rfl
theorem wd_505 : (Jvm.Cond.methodLink "RopeShelf$Text" (65 : Nat) ({ cls := "RopeShelf$Text", name := "hasAt", desc := "(ILRopeShelf$Text;)Z" } : Jvm.MethodName)) ∈ tb := tb_in 505 (by decide +kernel) rfl
theorem wd_507 : (Jvm.Cond.instanceMethod ({ cls := "RopeShelf$Text", name := "hasAt", desc := "(ILRopeShelf$Text;)Z" } : Jvm.MethodName)) ∈ tb := tb_in 507 (by decide +kernel) rfl
theorem wd_508 : (Jvm.Cond.code ({ cls := "RopeShelf$Text", name := "hasAt", desc := "(ILRopeShelf$Text;)Z" } : Jvm.MethodName) prog_5_method_17_code (4 : Nat) (Option.some Jvm.ClassFile.FieldType.boolean)) ∈ tb := tb_in 508 (by decide +kernel) rfl
theorem wd_509 : (Jvm.Cond.methodLink "RopeShelf" (229 : Nat) ({ cls := "RopeShelf$Text", name := "comesBefore", desc := "(LRopeShelf$Text;)Z" } : Jvm.MethodName)) ∈ tb := tb_in 509 (by decide +kernel) rfl
theorem wd_510 : (Jvm.Cond.instanceMethod ({ cls := "RopeShelf$Text", name := "comesBefore", desc := "(LRopeShelf$Text;)Z" } : Jvm.MethodName)) ∈ tb := tb_in 510 (by decide +kernel) rfl
theorem wd_511 : (Jvm.Cond.selects "RopeShelf$Text" ({ cls := "RopeShelf$Text", name := "comesBefore", desc := "(LRopeShelf$Text;)Z" } : Jvm.MethodName) ({ cls := "RopeShelf$Text", name := "comesBefore", desc := "(LRopeShelf$Text;)Z" } : Jvm.MethodName)) ∈ tb := tb_in 511 (by decide +kernel) rfl
theorem wd_512 : (Jvm.Cond.code ({ cls := "RopeShelf$Text", name := "comesBefore", desc := "(LRopeShelf$Text;)Z" } : Jvm.MethodName) prog_5_method_15_code (3 : Nat) (Option.some Jvm.ClassFile.FieldType.boolean)) ∈ tb := tb_in 512 (by decide +kernel) rfl
theorem wd_513 : (Jvm.Cond.methodLink "RopeShelfLaw" (65 : Nat) ({ cls := "RopeShelf", name := "intern", desc := "(I)I" } : Jvm.MethodName)) ∈ tb := tb_in 513 (by decide +kernel) rfl
theorem wd_514 : (Jvm.Cond.instanceMethod ({ cls := "RopeShelf", name := "intern", desc := "(I)I" } : Jvm.MethodName)) ∈ tb := tb_in 514 (by decide +kernel) rfl
theorem wd_515 : (Jvm.Cond.selects "RopeShelf" ({ cls := "RopeShelf", name := "intern", desc := "(I)I" } : Jvm.MethodName) ({ cls := "RopeShelf", name := "intern", desc := "(I)I" } : Jvm.MethodName)) ∈ tb := tb_in 515 (by decide +kernel) rfl
theorem wd_516 : (Jvm.Cond.code ({ cls := "RopeShelf", name := "intern", desc := "(I)I" } : Jvm.MethodName) prog_1_method_14_code (4 : Nat) (Option.some Jvm.ClassFile.FieldType.int)) ∈ tb := tb_in 516 (by decide +kernel) rfl
theorem wd_517 : (Jvm.Cond.methodLink "RopeShelf" (175 : Nat) ({ cls := "RopeShelf", name := "placeInTable", desc := "(LRopeShelf$Cell;)I" } : Jvm.MethodName)) ∈ tb := tb_in 517 (by decide +kernel) rfl
theorem wd_519 : (Jvm.Cond.instanceMethod ({ cls := "RopeShelf", name := "placeInTable", desc := "(LRopeShelf$Cell;)I" } : Jvm.MethodName)) ∈ tb := tb_in 519 (by decide +kernel) rfl
theorem wd_520 : (Jvm.Cond.code ({ cls := "RopeShelf", name := "placeInTable", desc := "(LRopeShelf$Cell;)I" } : Jvm.MethodName) prog_1_method_27_code (3 : Nat) (Option.some Jvm.ClassFile.FieldType.int)) ∈ tb := tb_in 520 (by decide +kernel) rfl
theorem wd_521 : (Jvm.Cond.methodLink "RopeShelf" (184 : Nat) ({ cls := "RopeShelf$Table", name := "cellAt", desc := "(I)LRopeShelf$Cell;" } : Jvm.MethodName)) ∈ tb := tb_in 521 (by decide +kernel) rfl
theorem wd_522 : (Jvm.Cond.instanceMethod ({ cls := "RopeShelf$Table", name := "cellAt", desc := "(I)LRopeShelf$Cell;" } : Jvm.MethodName)) ∈ tb := tb_in 522 (by decide +kernel) rfl
theorem wd_523 : (Jvm.Cond.selects "RopeShelf$Table" ({ cls := "RopeShelf$Table", name := "cellAt", desc := "(I)LRopeShelf$Cell;" } : Jvm.MethodName) ({ cls := "RopeShelf$Table", name := "cellAt", desc := "(I)LRopeShelf$Cell;" } : Jvm.MethodName)) ∈ tb := tb_in 523 (by decide +kernel) rfl
theorem wd_524 : (Jvm.Cond.code ({ cls := "RopeShelf$Table", name := "cellAt", desc := "(I)LRopeShelf$Cell;" } : Jvm.MethodName) prog_4_method_3_code (2 : Nat) (Option.some (Jvm.ClassFile.FieldType.object "RopeShelf$Cell"))) ∈ tb := tb_in 524 (by decide +kernel) rfl
theorem wd_525 : (Jvm.Cond.methodLink "RopeShelf" (178 : Nat) ({ cls := "RopeShelf$Table", name := "isFull", desc := "()Z" } : Jvm.MethodName)) ∈ tb := tb_in 525 (by decide +kernel) rfl
theorem wd_526 : (Jvm.Cond.instanceMethod ({ cls := "RopeShelf$Table", name := "isFull", desc := "()Z" } : Jvm.MethodName)) ∈ tb := tb_in 526 (by decide +kernel) rfl
theorem wd_527 : (Jvm.Cond.selects "RopeShelf$Table" ({ cls := "RopeShelf$Table", name := "isFull", desc := "()Z" } : Jvm.MethodName) ({ cls := "RopeShelf$Table", name := "isFull", desc := "()Z" } : Jvm.MethodName)) ∈ tb := tb_in 527 (by decide +kernel) rfl
theorem wd_528 : (Jvm.Cond.code ({ cls := "RopeShelf$Table", name := "isFull", desc := "()Z" } : Jvm.MethodName) prog_4_method_2_code (1 : Nat) (Option.some Jvm.ClassFile.FieldType.boolean)) ∈ tb := tb_in 528 (by decide +kernel) rfl
theorem wd_529 : (Jvm.Cond.methodLink "RopeShelf" (181 : Nat) ({ cls := "RopeShelf$Table", name := "enter", desc := "(LRopeShelf$Cell;)I" } : Jvm.MethodName)) ∈ tb := tb_in 529 (by decide +kernel) rfl
theorem wd_530 : (Jvm.Cond.instanceMethod ({ cls := "RopeShelf$Table", name := "enter", desc := "(LRopeShelf$Cell;)I" } : Jvm.MethodName)) ∈ tb := tb_in 530 (by decide +kernel) rfl
theorem wd_531 : (Jvm.Cond.selects "RopeShelf$Table" ({ cls := "RopeShelf$Table", name := "enter", desc := "(LRopeShelf$Cell;)I" } : Jvm.MethodName) ({ cls := "RopeShelf$Table", name := "enter", desc := "(LRopeShelf$Cell;)I" } : Jvm.MethodName)) ∈ tb := tb_in 531 (by decide +kernel) rfl
theorem wd_532 : (Jvm.Cond.code ({ cls := "RopeShelf$Table", name := "enter", desc := "(LRopeShelf$Cell;)I" } : Jvm.MethodName) prog_4_method_5_code (3 : Nat) (Option.some Jvm.ClassFile.FieldType.int)) ∈ tb := tb_in 532 (by decide +kernel) rfl
theorem wd_533 : (Jvm.Cond.methodLink "RopeShelf$Table" (28 : Nat) ({ cls := "RopeShelf$Table", name := "place", desc := "(LRopeShelf$Cell;I)V" } : Jvm.MethodName)) ∈ tb := tb_in 533 (by decide +kernel) rfl
theorem wd_535 : (Jvm.Cond.instanceMethod ({ cls := "RopeShelf$Table", name := "place", desc := "(LRopeShelf$Cell;I)V" } : Jvm.MethodName)) ∈ tb := tb_in 535 (by decide +kernel) rfl
theorem wd_536 : (Jvm.Cond.code ({ cls := "RopeShelf$Table", name := "place", desc := "(LRopeShelf$Cell;I)V" } : Jvm.MethodName) prog_4_method_7_code (3 : Nat) (Option.none : Option Jvm.ClassFile.FieldType)) ∈ tb := tb_in 536 (by decide +kernel) rfl
theorem wd_537 : (Jvm.Cond.methodLink "RopeShelf" (187 : Nat) ({ cls := "RopeShelf$Table", name := "numberAt", desc := "(I)I" } : Jvm.MethodName)) ∈ tb := tb_in 537 (by decide +kernel) rfl
theorem wd_538 : (Jvm.Cond.instanceMethod ({ cls := "RopeShelf$Table", name := "numberAt", desc := "(I)I" } : Jvm.MethodName)) ∈ tb := tb_in 538 (by decide +kernel) rfl
theorem wd_539 : (Jvm.Cond.selects "RopeShelf$Table" ({ cls := "RopeShelf$Table", name := "numberAt", desc := "(I)I" } : Jvm.MethodName) ({ cls := "RopeShelf$Table", name := "numberAt", desc := "(I)I" } : Jvm.MethodName)) ∈ tb := tb_in 539 (by decide +kernel) rfl
theorem wd_540 : (Jvm.Cond.code ({ cls := "RopeShelf$Table", name := "numberAt", desc := "(I)I" } : Jvm.MethodName) prog_4_method_4_code (2 : Nat) (Option.some Jvm.ClassFile.FieldType.int)) ∈ tb := tb_in 540 (by decide +kernel) rfl
theorem wd_541 : (Jvm.Cond.methodLink "RopeShelfLaw" (69 : Nat) ({ cls := "RopeShelf", name := "sweep", desc := "()I" } : Jvm.MethodName)) ∈ tb := tb_in 541 (by decide +kernel) rfl
theorem wd_542 : (Jvm.Cond.instanceMethod ({ cls := "RopeShelf", name := "sweep", desc := "()I" } : Jvm.MethodName)) ∈ tb := tb_in 542 (by decide +kernel) rfl
theorem wd_543 : (Jvm.Cond.selects "RopeShelf" ({ cls := "RopeShelf", name := "sweep", desc := "()I" } : Jvm.MethodName) ({ cls := "RopeShelf", name := "sweep", desc := "()I" } : Jvm.MethodName)) ∈ tb := tb_in 543 (by decide +kernel) rfl
theorem wd_544 : (Jvm.Cond.code ({ cls := "RopeShelf", name := "sweep", desc := "()I" } : Jvm.MethodName) prog_1_method_15_code (1 : Nat) (Option.some Jvm.ClassFile.FieldType.int)) ∈ tb := tb_in 544 (by decide +kernel) rfl
theorem wd_545 : (Jvm.Cond.methodLink "RopeShelf" (190 : Nat) ({ cls := "RopeShelf$Walk", name := "overAll", desc := "([LRopeShelf$Cell;)V" } : Jvm.MethodName)) ∈ tb := tb_in 545 (by decide +kernel) rfl
theorem wd_546 : (Jvm.Cond.instanceMethod ({ cls := "RopeShelf$Walk", name := "overAll", desc := "([LRopeShelf$Cell;)V" } : Jvm.MethodName)) ∈ tb := tb_in 546 (by decide +kernel) rfl
theorem wd_547 : (Jvm.Cond.selects "RopeShelf$Walk" ({ cls := "RopeShelf$Walk", name := "overAll", desc := "([LRopeShelf$Cell;)V" } : Jvm.MethodName) ({ cls := "RopeShelf$Walk", name := "overAll", desc := "([LRopeShelf$Cell;)V" } : Jvm.MethodName)) ∈ tb := tb_in 547 (by decide +kernel) rfl
theorem wd_548 : (Jvm.Cond.code ({ cls := "RopeShelf$Walk", name := "overAll", desc := "([LRopeShelf$Cell;)V" } : Jvm.MethodName) prog_6_method_3_code (3 : Nat) (Option.none : Option Jvm.ClassFile.FieldType)) ∈ tb := tb_in 548 (by decide +kernel) rfl
theorem wd_549 : (Jvm.Cond.methodLink "RopeShelf" (194 : Nat) ({ cls := "RopeShelf$Table", name := "dropUnmarked", desc := "(LRopeShelf$Walk;)I" } : Jvm.MethodName)) ∈ tb := tb_in 549 (by decide +kernel) rfl
theorem wd_550 : (Jvm.Cond.instanceMethod ({ cls := "RopeShelf$Table", name := "dropUnmarked", desc := "(LRopeShelf$Walk;)I" } : Jvm.MethodName)) ∈ tb := tb_in 550 (by decide +kernel) rfl
theorem wd_551 : (Jvm.Cond.selects "RopeShelf$Table" ({ cls := "RopeShelf$Table", name := "dropUnmarked", desc := "(LRopeShelf$Walk;)I" } : Jvm.MethodName) ({ cls := "RopeShelf$Table", name := "dropUnmarked", desc := "(LRopeShelf$Walk;)I" } : Jvm.MethodName)) ∈ tb := tb_in 551 (by decide +kernel) rfl
theorem wd_552 : (Jvm.Cond.code ({ cls := "RopeShelf$Table", name := "dropUnmarked", desc := "(LRopeShelf$Walk;)I" } : Jvm.MethodName) prog_4_method_6_code (4 : Nat) (Option.some Jvm.ClassFile.FieldType.int)) ∈ tb := tb_in 552 (by decide +kernel) rfl
theorem wd_553 : (Jvm.Cond.methodLink "RopeShelf$Table" (32 : Nat) ({ cls := "RopeShelf$Walk", name := "cameBy", desc := "(LRopeShelf$Cell;)Z" } : Jvm.MethodName)) ∈ tb := tb_in 553 (by decide +kernel) rfl
theorem wd_554 : (Jvm.Cond.methodLink "RopeShelfLaw" (74 : Nat) ({ cls := "RopeShelf", name := "entry", desc := "(II)I" } : Jvm.MethodName)) ∈ tb := tb_in 554 (by decide +kernel) rfl
theorem wd_555 : (Jvm.Cond.instanceMethod ({ cls := "RopeShelf", name := "entry", desc := "(II)I" } : Jvm.MethodName)) ∈ tb := tb_in 555 (by decide +kernel) rfl
theorem wd_556 : (Jvm.Cond.selects "RopeShelf" ({ cls := "RopeShelf", name := "entry", desc := "(II)I" } : Jvm.MethodName) ({ cls := "RopeShelf", name := "entry", desc := "(II)I" } : Jvm.MethodName)) ∈ tb := tb_in 556 (by decide +kernel) rfl
theorem wd_557 : (Jvm.Cond.code ({ cls := "RopeShelf", name := "entry", desc := "(II)I" } : Jvm.MethodName) prog_1_method_16_code (4 : Nat) (Option.some Jvm.ClassFile.FieldType.int)) ∈ tb := tb_in 557 (by decide +kernel) rfl
theorem wd_558 : (Jvm.Cond.methodLink "RopeShelf" (198 : Nat) ({ cls := "RopeShelf", name := "slotsWith", desc := "(LRopeShelf$Cell;)I" } : Jvm.MethodName)) ∈ tb := tb_in 558 (by decide +kernel) rfl
theorem wd_560 : (Jvm.Cond.instanceMethod ({ cls := "RopeShelf", name := "slotsWith", desc := "(LRopeShelf$Cell;)I" } : Jvm.MethodName)) ∈ tb := tb_in 560 (by decide +kernel) rfl
theorem wd_561 : (Jvm.Cond.code ({ cls := "RopeShelf", name := "slotsWith", desc := "(LRopeShelf$Cell;)I" } : Jvm.MethodName) prog_1_method_28_code (4 : Nat) (Option.some Jvm.ClassFile.FieldType.int)) ∈ tb := tb_in 561 (by decide +kernel) rfl
theorem wd_562 : (Jvm.Cond.methodLink "RopeShelfLaw" (78 : Nat) ({ cls := "RopeShelf", name := "count", desc := "(I)I" } : Jvm.MethodName)) ∈ tb := tb_in 562 (by decide +kernel) rfl
theorem wd_563 : (Jvm.Cond.instanceMethod ({ cls := "RopeShelf", name := "count", desc := "(I)I" } : Jvm.MethodName)) ∈ tb := tb_in 563 (by decide +kernel) rfl
theorem wd_564 : (Jvm.Cond.selects "RopeShelf" ({ cls := "RopeShelf", name := "count", desc := "(I)I" } : Jvm.MethodName) ({ cls := "RopeShelf", name := "count", desc := "(I)I" } : Jvm.MethodName)) ∈ tb := tb_in 564 (by decide +kernel) rfl
theorem wd_565 : (Jvm.Cond.code ({ cls := "RopeShelf", name := "count", desc := "(I)I" } : Jvm.MethodName) prog_1_method_17_code (2 : Nat) (Option.some Jvm.ClassFile.FieldType.int)) ∈ tb := tb_in 565 (by decide +kernel) rfl
theorem wd_566 : (Jvm.Cond.methodLink "RopeShelfLaw" (82 : Nat) ({ cls := "RopeShelf", name := "image", desc := "(I)I" } : Jvm.MethodName)) ∈ tb := tb_in 566 (by decide +kernel) rfl
theorem wd_567 : (Jvm.Cond.instanceMethod ({ cls := "RopeShelf", name := "image", desc := "(I)I" } : Jvm.MethodName)) ∈ tb := tb_in 567 (by decide +kernel) rfl
theorem wd_568 : (Jvm.Cond.selects "RopeShelf" ({ cls := "RopeShelf", name := "image", desc := "(I)I" } : Jvm.MethodName) ({ cls := "RopeShelf", name := "image", desc := "(I)I" } : Jvm.MethodName)) ∈ tb := tb_in 568 (by decide +kernel) rfl
theorem wd_569 : (Jvm.Cond.code ({ cls := "RopeShelf", name := "image", desc := "(I)I" } : Jvm.MethodName) prog_1_method_18_code (2 : Nat) (Option.some Jvm.ClassFile.FieldType.int)) ∈ tb := tb_in 569 (by decide +kernel) rfl
theorem wd_570 : (Jvm.Cond.methodLink "RopeShelf" (207 : Nat) ({ cls := "RopeShelf", name := "isImage", desc := "(I)Z" } : Jvm.MethodName)) ∈ tb := tb_in 570 (by decide +kernel) rfl
theorem wd_571 : (Jvm.Cond.static ({ cls := "RopeShelf", name := "isImage", desc := "(I)Z" } : Jvm.MethodName)) ∈ tb := tb_in 571 (by decide +kernel) rfl
theorem wd_572 : (Jvm.Cond.code ({ cls := "RopeShelf", name := "isImage", desc := "(I)Z" } : Jvm.MethodName) prog_1_method_22_code (1 : Nat) (Option.some Jvm.ClassFile.FieldType.boolean)) ∈ tb := tb_in 572 (by decide +kernel) rfl
theorem wd_573 : (Jvm.Cond.methodLink "RopeShelf" (210 : Nat) ({ cls := "RopeShelf", name := "imageRow", desc := "(I)[LRopeShelf$Cell;" } : Jvm.MethodName)) ∈ tb := tb_in 573 (by decide +kernel) rfl
theorem wd_575 : (Jvm.Cond.instanceMethod ({ cls := "RopeShelf", name := "imageRow", desc := "(I)[LRopeShelf$Cell;" } : Jvm.MethodName)) ∈ tb := tb_in 575 (by decide +kernel) rfl
theorem wd_576 : (Jvm.Cond.code ({ cls := "RopeShelf", name := "imageRow", desc := "(I)[LRopeShelf$Cell;" } : Jvm.MethodName) prog_1_method_29_code (2 : Nat) (Option.some (Jvm.ClassFile.FieldType.array (Jvm.ClassFile.FieldType.object "RopeShelf$Cell")))) ∈ tb := tb_in 576 (by decide +kernel) rfl
theorem wd_577 : (Jvm.Cond.methodLink "RopeShelf" (214 : Nat) ({ cls := "RopeShelf", name := "moveCells", desc := "([LRopeShelf$Cell;[LRopeShelf$Cell;)V" } : Jvm.MethodName)) ∈ tb := tb_in 577 (by decide +kernel) rfl
theorem wd_578 : (Jvm.Cond.static ({ cls := "RopeShelf", name := "moveCells", desc := "([LRopeShelf$Cell;[LRopeShelf$Cell;)V" } : Jvm.MethodName)) ∈ tb := tb_in 578 (by decide +kernel) rfl
theorem wd_579 : (Jvm.Cond.code ({ cls := "RopeShelf", name := "moveCells", desc := "([LRopeShelf$Cell;[LRopeShelf$Cell;)V" } : Jvm.MethodName) prog_1_method_30_code (3 : Nat) (Option.none : Option Jvm.ClassFile.FieldType)) ∈ tb := tb_in 579 (by decide +kernel) rfl
theorem wd_580 : (Jvm.Cond.methodLink "RopeShelfLaw" (86 : Nat) ({ cls := "RopeShelf", name := "restore", desc := "(I)I" } : Jvm.MethodName)) ∈ tb := tb_in 580 (by decide +kernel) rfl
theorem wd_581 : (Jvm.Cond.instanceMethod ({ cls := "RopeShelf", name := "restore", desc := "(I)I" } : Jvm.MethodName)) ∈ tb := tb_in 581 (by decide +kernel) rfl
theorem wd_582 : (Jvm.Cond.selects "RopeShelf" ({ cls := "RopeShelf", name := "restore", desc := "(I)I" } : Jvm.MethodName) ({ cls := "RopeShelf", name := "restore", desc := "(I)I" } : Jvm.MethodName)) ∈ tb := tb_in 582 (by decide +kernel) rfl
theorem wd_583 : (Jvm.Cond.code ({ cls := "RopeShelf", name := "restore", desc := "(I)I" } : Jvm.MethodName) prog_1_method_19_code (2 : Nat) (Option.some Jvm.ClassFile.FieldType.int)) ∈ tb := tb_in 583 (by decide +kernel) rfl
theorem wd_584 : (Jvm.Cond.classLink "RopeShelfLaw" (10 : Nat) "RopeShelfModel") ∈ tb := tb_in 584 (by decide +kernel) rfl
theorem wd_585 : (Jvm.Cond.instantiable "RopeShelfModel" (39 : Nat)) ∈ tb := tb_in 585 (by decide +kernel) rfl
theorem wd_586 : (Jvm.Cond.methodLink "RopeShelfLaw" (12 : Nat) ({ cls := "RopeShelfModel", name := "<init>", desc := "()V" } : Jvm.MethodName)) ∈ tb := tb_in 586 (by decide +kernel) rfl
theorem wd_587 : (Jvm.Cond.instanceMethod ({ cls := "RopeShelfModel", name := "<init>", desc := "()V" } : Jvm.MethodName)) ∈ tb := tb_in 587 (by decide +kernel) rfl
theorem wd_588 : (Jvm.Cond.code ({ cls := "RopeShelfModel", name := "<init>", desc := "()V" } : Jvm.MethodName) prog_9_method_1_code (2 : Nat) (Option.none : Option Jvm.ClassFile.FieldType)) ∈ tb := tb_in 588 (by decide +kernel) rfl
theorem wd_589 : (Jvm.Cond.methodLink "RopeShelfModel" (1 : Nat) ({ cls := "java/lang/Object", name := "<init>", desc := "()V" } : Jvm.MethodName)) ∈ tb := tb_in 589 (by decide +kernel) rfl
theorem wd_590 : (Jvm.Cond.constant "RopeShelfModel" (30 : Nat) (81920 : Int32)) ∈ tb := tb_in 590 (by decide +kernel) rfl
theorem wd_591 : (Jvm.Cond.methodLink "RopeShelfModel" (100 : Nat) ({ cls := "RopeShelfModel", name := "newLeaf", desc := "(I)I" } : Jvm.MethodName)) ∈ tb := tb_in 591 (by decide +kernel) rfl
theorem wd_593 : (Jvm.Cond.instanceMethod ({ cls := "RopeShelfModel", name := "newLeaf", desc := "(I)I" } : Jvm.MethodName)) ∈ tb := tb_in 593 (by decide +kernel) rfl
theorem wd_594 : (Jvm.Cond.code ({ cls := "RopeShelfModel", name := "newLeaf", desc := "(I)I" } : Jvm.MethodName) prog_9_method_6_code (3 : Nat) (Option.some Jvm.ClassFile.FieldType.int)) ∈ tb := tb_in 594 (by decide +kernel) rfl
theorem wd_595 : (Jvm.Cond.methodLink "RopeShelfModel" (114 : Nat) ({ cls := "RopeShelfModel", name := "newCell", desc := "(IIII)I" } : Jvm.MethodName)) ∈ tb := tb_in 595 (by decide +kernel) rfl
theorem wd_597 : (Jvm.Cond.instanceMethod ({ cls := "RopeShelfModel", name := "newCell", desc := "(IIII)I" } : Jvm.MethodName)) ∈ tb := tb_in 597 (by decide +kernel) rfl
theorem wd_598 : (Jvm.Cond.code ({ cls := "RopeShelfModel", name := "newCell", desc := "(IIII)I" } : Jvm.MethodName) prog_9_method_4_code (5 : Nat) (Option.some Jvm.ClassFile.FieldType.int)) ∈ tb := tb_in 598 (by decide +kernel) rfl
theorem wd_599 : (Jvm.Cond.methodLink "RopeShelfModel" (118 : Nat) ({ cls := "RopeShelfModel", name := "keepText", desc := "(II)I" } : Jvm.MethodName)) ∈ tb := tb_in 599 (by decide +kernel) rfl
theorem wd_601 : (Jvm.Cond.instanceMethod ({ cls := "RopeShelfModel", name := "keepText", desc := "(II)I" } : Jvm.MethodName)) ∈ tb := tb_in 601 (by decide +kernel) rfl
theorem wd_602 : (Jvm.Cond.code ({ cls := "RopeShelfModel", name := "keepText", desc := "(II)I" } : Jvm.MethodName) prog_9_method_5_code (4 : Nat) (Option.some Jvm.ClassFile.FieldType.int)) ∈ tb := tb_in 602 (by decide +kernel) rfl
theorem wd_603 : (Jvm.Cond.fieldLink "RopeShelfModel" (7 : Nat) "RopeShelfModel" "kind" "[I") ∈ tb := tb_in 603 (by decide +kernel) rfl
theorem wd_604 : (Jvm.Cond.fieldLink "RopeShelfModel" (13 : Nat) "RopeShelfModel" "one" "[I") ∈ tb := tb_in 604 (by decide +kernel) rfl
theorem wd_605 : (Jvm.Cond.fieldLink "RopeShelfModel" (16 : Nat) "RopeShelfModel" "other" "[I") ∈ tb := tb_in 605 (by decide +kernel) rfl
theorem wd_606 : (Jvm.Cond.fieldLink "RopeShelfModel" (19 : Nat) "RopeShelfModel" "size" "[I") ∈ tb := tb_in 606 (by decide +kernel) rfl
theorem wd_607 : (Jvm.Cond.fieldLink "RopeShelfModel" (22 : Nat) "RopeShelfModel" "isMarked" "[Z") ∈ tb := tb_in 607 (by decide +kernel) rfl
theorem wd_608 : (Jvm.Cond.fieldLink "RopeShelfModel" (26 : Nat) "RopeShelfModel" "spare" "I") ∈ tb := tb_in 608 (by decide +kernel) rfl
theorem wd_609 : (Jvm.Cond.fieldLink "RopeShelfModel" (108 : Nat) "RopeShelfModel" "last" "I") ∈ tb := tb_in 609 (by decide +kernel) rfl
theorem wd_610 : (Jvm.Cond.fieldLink "RopeShelfModel" (31 : Nat) "RopeShelfModel" "signs" "[I") ∈ tb := tb_in 610 (by decide +kernel) rfl
theorem wd_611 : (Jvm.Cond.fieldLink "RopeShelfModel" (111 : Nat) "RopeShelfModel" "end" "I") ∈ tb := tb_in 611 (by decide +kernel) rfl
theorem wd_612 : (Jvm.Cond.fieldLink "RopeShelfModel" (34 : Nat) "RopeShelfModel" "slots" "[I") ∈ tb := tb_in 612 (by decide +kernel) rfl
theorem wd_613 : (Jvm.Cond.fieldLink "RopeShelfModel" (37 : Nat) "RopeShelfModel" "images" "[I") ∈ tb := tb_in 613 (by decide +kernel) rfl
theorem wd_614 : (Jvm.Cond.fieldLink "RopeShelfModel" (40 : Nat) "RopeShelfModel" "isKept" "[Z") ∈ tb := tb_in 614 (by decide +kernel) rfl
theorem wd_615 : (Jvm.Cond.fieldLink "RopeShelfModel" (43 : Nat) "RopeShelfModel" "entryCells" "[I") ∈ tb := tb_in 615 (by decide +kernel) rfl
theorem wd_616 : (Jvm.Cond.fieldLink "RopeShelfModel" (46 : Nat) "RopeShelfModel" "entryNumbers" "[I") ∈ tb := tb_in 616 (by decide +kernel) rfl
theorem wd_617 : (Jvm.Cond.fieldLink "RopeShelfModel" (129 : Nat) "RopeShelfModel" "entries" "I") ∈ tb := tb_in 617 (by decide +kernel) rfl
theorem wd_618 : (Jvm.Cond.fieldLink "RopeShelfModel" (224 : Nat) "RopeShelfModel" "ever" "I") ∈ tb := tb_in 618 (by decide +kernel) rfl
theorem wd_619 : (Jvm.Cond.fieldLink "RopeShelfModel" (49 : Nat) "RopeShelfModel" "draft" "[I") ∈ tb := tb_in 619 (by decide +kernel) rfl
theorem wd_620 : (Jvm.Cond.fieldLink "RopeShelfModel" (178 : Nat) "RopeShelfModel" "drafted" "I") ∈ tb := tb_in 620 (by decide +kernel) rfl
theorem wd_621 : (Jvm.Cond.fieldLink "RopeShelfModel" (52 : Nat) "RopeShelfModel" "small" "I") ∈ tb := tb_in 621 (by decide +kernel) rfl
theorem wd_622 : (Jvm.Cond.fieldLink "RopeShelfModel" (55 : Nat) "RopeShelfModel" "deep" "I") ∈ tb := tb_in 622 (by decide +kernel) rfl
theorem wd_623 : (Jvm.Cond.fieldLink "RopeShelfModel" (58 : Nat) "RopeShelfModel" "loose" "I") ∈ tb := tb_in 623 (by decide +kernel) rfl
theorem wd_624 : (Jvm.Cond.fieldLink "RopeShelfModel" (61 : Nat) "RopeShelfModel" "text" "[I") ∈ tb := tb_in 624 (by decide +kernel) rfl
theorem wd_625 : (Jvm.Cond.fieldLink "RopeShelfModel" (64 : Nat) "RopeShelfModel" "still" "[I") ∈ tb := tb_in 625 (by decide +kernel) rfl
theorem wd_626 : (Jvm.Cond.fieldLink "RopeShelfModel" (67 : Nat) "RopeShelfModel" "pieces" "[I") ∈ tb := tb_in 626 (by decide +kernel) rfl
theorem wd_627 : (Jvm.Cond.fieldLink "RopeShelfModel" (135 : Nat) "RopeShelfModel" "many" "I") ∈ tb := tb_in 627 (by decide +kernel) rfl
theorem wd_628 : (Jvm.Cond.fieldLink "RopeShelfModel" (70 : Nat) "RopeShelfModel" "open" "[I") ∈ tb := tb_in 628 (by decide +kernel) rfl
theorem wd_629 : (Jvm.Cond.fieldLink "RopeShelfModel" (73 : Nat) "RopeShelfModel" "level" "[I") ∈ tb := tb_in 629 (by decide +kernel) rfl
theorem wd_630 : (Jvm.Cond.fieldLink "RopeShelfModel" (76 : Nat) "RopeShelfModel" "begins" "[I") ∈ tb := tb_in 630 (by decide +kernel) rfl
theorem wd_631 : (Jvm.Cond.fieldLink "RopeShelfModel" (79 : Nat) "RopeShelfModel" "ends" "[I") ∈ tb := tb_in 631 (by decide +kernel) rfl
theorem wd_632 : (Jvm.Cond.fieldLink "RopeShelfModel" (82 : Nat) "RopeShelfModel" "isHalved" "[Z") ∈ tb := tb_in 632 (by decide +kernel) rfl
theorem wd_633 : (Jvm.Cond.fieldLink "RopeShelfModel" (85 : Nat) "RopeShelfModel" "done" "[I") ∈ tb := tb_in 633 (by decide +kernel) rfl
theorem wd_634 : (Jvm.Cond.fieldLink "RopeShelfModel" (144 : Nat) "RopeShelfModel" "ranges" "I") ∈ tb := tb_in 634 (by decide +kernel) rfl
theorem wd_635 : (Jvm.Cond.fieldLink "RopeShelfModel" (88 : Nat) "RopeShelfModel" "cutCell" "[I") ∈ tb := tb_in 635 (by decide +kernel) rfl
theorem wd_636 : (Jvm.Cond.fieldLink "RopeShelfModel" (91 : Nat) "RopeShelfModel" "cutFrom" "[I") ∈ tb := tb_in 636 (by decide +kernel) rfl
theorem wd_637 : (Jvm.Cond.fieldLink "RopeShelfModel" (94 : Nat) "RopeShelfModel" "cutSize" "[I") ∈ tb := tb_in 637 (by decide +kernel) rfl
theorem wd_638 : (Jvm.Cond.fieldLink "RopeShelfModel" (161 : Nat) "RopeShelfModel" "cuts" "I") ∈ tb := tb_in 638 (by decide +kernel) rfl
theorem wd_639 : (Jvm.Cond.fieldLink "RopeShelfModel" (97 : Nat) "RopeShelfModel" "parts" "[I") ∈ tb := tb_in 639 (by decide +kernel) rfl
theorem wd_640 : (Jvm.Cond.fieldLink "RopeShelfModel" (200 : Nat) "RopeShelfModel" "own" "I") ∈ tb := tb_in 640 (by decide +kernel) rfl
theorem wd_641 : (Jvm.Cond.fieldLink "RopeShelfModel" (203 : Nat) "RopeShelfModel" "theirs" "I") ∈ tb := tb_in 641 (by decide +kernel) rfl
theorem wd_642 : (Jvm.Cond.laysFinal "RopeShelfModel" "RopeShelfModel" "kind" "[I") ∈ tb := tb_in 642 (by decide +kernel) rfl
theorem wd_643 : (Jvm.Cond.soleField "RopeShelfModel" "kind") ∈ tb := tb_in 643 (by decide +kernel) rfl
theorem wd_644 : (Jvm.Cond.laysFinal "RopeShelfModel" "RopeShelfModel" "one" "[I") ∈ tb := tb_in 644 (by decide +kernel) rfl
theorem wd_645 : (Jvm.Cond.soleField "RopeShelfModel" "one") ∈ tb := tb_in 645 (by decide +kernel) rfl
theorem wd_646 : (Jvm.Cond.laysFinal "RopeShelfModel" "RopeShelfModel" "other" "[I") ∈ tb := tb_in 646 (by decide +kernel) rfl
theorem wd_647 : (Jvm.Cond.soleField "RopeShelfModel" "other") ∈ tb := tb_in 647 (by decide +kernel) rfl
theorem wd_648 : (Jvm.Cond.laysFinal "RopeShelfModel" "RopeShelfModel" "size" "[I") ∈ tb := tb_in 648 (by decide +kernel) rfl
theorem wd_649 : (Jvm.Cond.soleField "RopeShelfModel" "size") ∈ tb := tb_in 649 (by decide +kernel) rfl
theorem wd_650 : (Jvm.Cond.laysFinal "RopeShelfModel" "RopeShelfModel" "isMarked" "[Z") ∈ tb := tb_in 650 (by decide +kernel) rfl
theorem wd_651 : (Jvm.Cond.soleField "RopeShelfModel" "isMarked") ∈ tb := tb_in 651 (by decide +kernel) rfl
theorem wd_652 : (Jvm.Cond.lays "RopeShelfModel" "RopeShelfModel" "spare" "I") ∈ tb := tb_in 652 (by decide +kernel) rfl
theorem wd_653 : (Jvm.Cond.soleField "RopeShelfModel" "spare") ∈ tb := tb_in 653 (by decide +kernel) rfl
theorem wd_654 : (Jvm.Cond.lays "RopeShelfModel" "RopeShelfModel" "last" "I") ∈ tb := tb_in 654 (by decide +kernel) rfl
theorem wd_655 : (Jvm.Cond.soleField "RopeShelfModel" "last") ∈ tb := tb_in 655 (by decide +kernel) rfl
theorem wd_656 : (Jvm.Cond.laysFinal "RopeShelfModel" "RopeShelfModel" "signs" "[I") ∈ tb := tb_in 656 (by decide +kernel) rfl
theorem wd_657 : (Jvm.Cond.soleField "RopeShelfModel" "signs") ∈ tb := tb_in 657 (by decide +kernel) rfl
theorem wd_658 : (Jvm.Cond.lays "RopeShelfModel" "RopeShelfModel" "end" "I") ∈ tb := tb_in 658 (by decide +kernel) rfl
theorem wd_659 : (Jvm.Cond.soleField "RopeShelfModel" "end") ∈ tb := tb_in 659 (by decide +kernel) rfl
theorem wd_660 : (Jvm.Cond.laysFinal "RopeShelfModel" "RopeShelfModel" "slots" "[I") ∈ tb := tb_in 660 (by decide +kernel) rfl
theorem wd_661 : (Jvm.Cond.soleField "RopeShelfModel" "slots") ∈ tb := tb_in 661 (by decide +kernel) rfl
theorem wd_662 : (Jvm.Cond.laysFinal "RopeShelfModel" "RopeShelfModel" "images" "[I") ∈ tb := tb_in 662 (by decide +kernel) rfl
theorem wd_663 : (Jvm.Cond.soleField "RopeShelfModel" "images") ∈ tb := tb_in 663 (by decide +kernel) rfl
theorem wd_664 : (Jvm.Cond.laysFinal "RopeShelfModel" "RopeShelfModel" "isKept" "[Z") ∈ tb := tb_in 664 (by decide +kernel) rfl
theorem wd_665 : (Jvm.Cond.soleField "RopeShelfModel" "isKept") ∈ tb := tb_in 665 (by decide +kernel) rfl
theorem wd_666 : (Jvm.Cond.laysFinal "RopeShelfModel" "RopeShelfModel" "entryCells" "[I") ∈ tb := tb_in 666 (by decide +kernel) rfl
theorem wd_667 : (Jvm.Cond.soleField "RopeShelfModel" "entryCells") ∈ tb := tb_in 667 (by decide +kernel) rfl
theorem wd_668 : (Jvm.Cond.laysFinal "RopeShelfModel" "RopeShelfModel" "entryNumbers" "[I") ∈ tb := tb_in 668 (by decide +kernel) rfl
theorem wd_669 : (Jvm.Cond.soleField "RopeShelfModel" "entryNumbers") ∈ tb := tb_in 669 (by decide +kernel) rfl
theorem wd_670 : (Jvm.Cond.lays "RopeShelfModel" "RopeShelfModel" "entries" "I") ∈ tb := tb_in 670 (by decide +kernel) rfl
theorem wd_671 : (Jvm.Cond.soleField "RopeShelfModel" "entries") ∈ tb := tb_in 671 (by decide +kernel) rfl
theorem wd_672 : (Jvm.Cond.lays "RopeShelfModel" "RopeShelfModel" "ever" "I") ∈ tb := tb_in 672 (by decide +kernel) rfl
theorem wd_673 : (Jvm.Cond.soleField "RopeShelfModel" "ever") ∈ tb := tb_in 673 (by decide +kernel) rfl
theorem wd_674 : (Jvm.Cond.laysFinal "RopeShelfModel" "RopeShelfModel" "draft" "[I") ∈ tb := tb_in 674 (by decide +kernel) rfl
theorem wd_675 : (Jvm.Cond.soleField "RopeShelfModel" "draft") ∈ tb := tb_in 675 (by decide +kernel) rfl
theorem wd_676 : (Jvm.Cond.lays "RopeShelfModel" "RopeShelfModel" "drafted" "I") ∈ tb := tb_in 676 (by decide +kernel) rfl
theorem wd_677 : (Jvm.Cond.soleField "RopeShelfModel" "drafted") ∈ tb := tb_in 677 (by decide +kernel) rfl
theorem wd_678 : (Jvm.Cond.lays "RopeShelfModel" "RopeShelfModel" "small" "I") ∈ tb := tb_in 678 (by decide +kernel) rfl
theorem wd_679 : (Jvm.Cond.soleField "RopeShelfModel" "small") ∈ tb := tb_in 679 (by decide +kernel) rfl
theorem wd_680 : (Jvm.Cond.lays "RopeShelfModel" "RopeShelfModel" "deep" "I") ∈ tb := tb_in 680 (by decide +kernel) rfl
theorem wd_681 : (Jvm.Cond.soleField "RopeShelfModel" "deep") ∈ tb := tb_in 681 (by decide +kernel) rfl
theorem wd_682 : (Jvm.Cond.lays "RopeShelfModel" "RopeShelfModel" "loose" "I") ∈ tb := tb_in 682 (by decide +kernel) rfl
theorem wd_683 : (Jvm.Cond.soleField "RopeShelfModel" "loose") ∈ tb := tb_in 683 (by decide +kernel) rfl
theorem wd_684 : (Jvm.Cond.laysFinal "RopeShelfModel" "RopeShelfModel" "text" "[I") ∈ tb := tb_in 684 (by decide +kernel) rfl
theorem wd_685 : (Jvm.Cond.soleField "RopeShelfModel" "text") ∈ tb := tb_in 685 (by decide +kernel) rfl
theorem wd_686 : (Jvm.Cond.laysFinal "RopeShelfModel" "RopeShelfModel" "still" "[I") ∈ tb := tb_in 686 (by decide +kernel) rfl
theorem wd_687 : (Jvm.Cond.soleField "RopeShelfModel" "still") ∈ tb := tb_in 687 (by decide +kernel) rfl
theorem wd_688 : (Jvm.Cond.laysFinal "RopeShelfModel" "RopeShelfModel" "pieces" "[I") ∈ tb := tb_in 688 (by decide +kernel) rfl
theorem wd_689 : (Jvm.Cond.soleField "RopeShelfModel" "pieces") ∈ tb := tb_in 689 (by decide +kernel) rfl
theorem wd_690 : (Jvm.Cond.lays "RopeShelfModel" "RopeShelfModel" "many" "I") ∈ tb := tb_in 690 (by decide +kernel) rfl
theorem wd_691 : (Jvm.Cond.soleField "RopeShelfModel" "many") ∈ tb := tb_in 691 (by decide +kernel) rfl
theorem wd_692 : (Jvm.Cond.laysFinal "RopeShelfModel" "RopeShelfModel" "open" "[I") ∈ tb := tb_in 692 (by decide +kernel) rfl
theorem wd_693 : (Jvm.Cond.soleField "RopeShelfModel" "open") ∈ tb := tb_in 693 (by decide +kernel) rfl
theorem wd_694 : (Jvm.Cond.laysFinal "RopeShelfModel" "RopeShelfModel" "level" "[I") ∈ tb := tb_in 694 (by decide +kernel) rfl
theorem wd_695 : (Jvm.Cond.soleField "RopeShelfModel" "level") ∈ tb := tb_in 695 (by decide +kernel) rfl
theorem wd_696 : (Jvm.Cond.laysFinal "RopeShelfModel" "RopeShelfModel" "begins" "[I") ∈ tb := tb_in 696 (by decide +kernel) rfl
theorem wd_697 : (Jvm.Cond.soleField "RopeShelfModel" "begins") ∈ tb := tb_in 697 (by decide +kernel) rfl
theorem wd_698 : (Jvm.Cond.laysFinal "RopeShelfModel" "RopeShelfModel" "ends" "[I") ∈ tb := tb_in 698 (by decide +kernel) rfl
theorem wd_699 : (Jvm.Cond.soleField "RopeShelfModel" "ends") ∈ tb := tb_in 699 (by decide +kernel) rfl
theorem wd_700 : (Jvm.Cond.laysFinal "RopeShelfModel" "RopeShelfModel" "isHalved" "[Z") ∈ tb := tb_in 700 (by decide +kernel) rfl
theorem wd_701 : (Jvm.Cond.soleField "RopeShelfModel" "isHalved") ∈ tb := tb_in 701 (by decide +kernel) rfl
theorem wd_702 : (Jvm.Cond.laysFinal "RopeShelfModel" "RopeShelfModel" "done" "[I") ∈ tb := tb_in 702 (by decide +kernel) rfl
theorem wd_703 : (Jvm.Cond.soleField "RopeShelfModel" "done") ∈ tb := tb_in 703 (by decide +kernel) rfl
theorem wd_704 : (Jvm.Cond.lays "RopeShelfModel" "RopeShelfModel" "ranges" "I") ∈ tb := tb_in 704 (by decide +kernel) rfl
theorem wd_705 : (Jvm.Cond.soleField "RopeShelfModel" "ranges") ∈ tb := tb_in 705 (by decide +kernel) rfl
theorem wd_706 : (Jvm.Cond.laysFinal "RopeShelfModel" "RopeShelfModel" "cutCell" "[I") ∈ tb := tb_in 706 (by decide +kernel) rfl
theorem wd_707 : (Jvm.Cond.soleField "RopeShelfModel" "cutCell") ∈ tb := tb_in 707 (by decide +kernel) rfl
theorem wd_708 : (Jvm.Cond.laysFinal "RopeShelfModel" "RopeShelfModel" "cutFrom" "[I") ∈ tb := tb_in 708 (by decide +kernel) rfl
theorem wd_709 : (Jvm.Cond.soleField "RopeShelfModel" "cutFrom") ∈ tb := tb_in 709 (by decide +kernel) rfl
theorem wd_710 : (Jvm.Cond.laysFinal "RopeShelfModel" "RopeShelfModel" "cutSize" "[I") ∈ tb := tb_in 710 (by decide +kernel) rfl
theorem wd_711 : (Jvm.Cond.soleField "RopeShelfModel" "cutSize") ∈ tb := tb_in 711 (by decide +kernel) rfl
theorem wd_712 : (Jvm.Cond.lays "RopeShelfModel" "RopeShelfModel" "cuts" "I") ∈ tb := tb_in 712 (by decide +kernel) rfl
theorem wd_713 : (Jvm.Cond.soleField "RopeShelfModel" "cuts") ∈ tb := tb_in 713 (by decide +kernel) rfl
theorem wd_714 : (Jvm.Cond.laysFinal "RopeShelfModel" "RopeShelfModel" "parts" "[I") ∈ tb := tb_in 714 (by decide +kernel) rfl
theorem wd_715 : (Jvm.Cond.soleField "RopeShelfModel" "parts") ∈ tb := tb_in 715 (by decide +kernel) rfl
theorem wd_716 : (Jvm.Cond.lays "RopeShelfModel" "RopeShelfModel" "own" "I") ∈ tb := tb_in 716 (by decide +kernel) rfl
theorem wd_717 : (Jvm.Cond.soleField "RopeShelfModel" "own") ∈ tb := tb_in 717 (by decide +kernel) rfl
theorem wd_718 : (Jvm.Cond.lays "RopeShelfModel" "RopeShelfModel" "theirs" "I") ∈ tb := tb_in 718 (by decide +kernel) rfl
theorem wd_719 : (Jvm.Cond.soleField "RopeShelfModel" "theirs") ∈ tb := tb_in 719 (by decide +kernel) rfl
theorem wd_721 : (Jvm.Cond.arrayClass Jvm.ClassFile.FieldType.boolean) ∈ tb := tb_in 721 (by decide +kernel) rfl
theorem wd_722 : (Jvm.Cond.methodLink "RopeShelfLaw" (17 : Nat) ({ cls := "RopeShelfModel", name := "rule", desc := "(II)I" } : Jvm.MethodName)) ∈ tb := tb_in 722 (by decide +kernel) rfl
theorem wd_723 : (Jvm.Cond.instanceMethod ({ cls := "RopeShelfModel", name := "rule", desc := "(II)I" } : Jvm.MethodName)) ∈ tb := tb_in 723 (by decide +kernel) rfl
theorem wd_724 : (Jvm.Cond.selects "RopeShelfModel" ({ cls := "RopeShelfModel", name := "rule", desc := "(II)I" } : Jvm.MethodName) ({ cls := "RopeShelfModel", name := "rule", desc := "(II)I" } : Jvm.MethodName)) ∈ tb := tb_in 724 (by decide +kernel) rfl
theorem wd_725 : (Jvm.Cond.code ({ cls := "RopeShelfModel", name := "rule", desc := "(II)I" } : Jvm.MethodName) prog_9_method_22_code (4 : Nat) (Option.some Jvm.ClassFile.FieldType.int)) ∈ tb := tb_in 725 (by decide +kernel) rfl
theorem wd_726 : (Jvm.Cond.methodLink "RopeShelfModel" (104 : Nat) ({ cls := "RopeShelfModel", name := "in", desc := "(III)Z" } : Jvm.MethodName)) ∈ tb := tb_in 726 (by decide +kernel) rfl
theorem wd_727 : (Jvm.Cond.static ({ cls := "RopeShelfModel", name := "in", desc := "(III)Z" } : Jvm.MethodName)) ∈ tb := tb_in 727 (by decide +kernel) rfl
theorem wd_728 : (Jvm.Cond.code ({ cls := "RopeShelfModel", name := "in", desc := "(III)Z" } : Jvm.MethodName) prog_9_method_2_code (3 : Nat) (Option.some Jvm.ClassFile.FieldType.boolean)) ∈ tb := tb_in 728 (by decide +kernel) rfl
theorem wd_729 : (Jvm.Cond.methodLink "RopeShelfLaw" (22 : Nat) ({ cls := "RopeShelfModel", name := "say", desc := "(I)I" } : Jvm.MethodName)) ∈ tb := tb_in 729 (by decide +kernel) rfl
theorem wd_730 : (Jvm.Cond.instanceMethod ({ cls := "RopeShelfModel", name := "say", desc := "(I)I" } : Jvm.MethodName)) ∈ tb := tb_in 730 (by decide +kernel) rfl
theorem wd_731 : (Jvm.Cond.selects "RopeShelfModel" ({ cls := "RopeShelfModel", name := "say", desc := "(I)I" } : Jvm.MethodName) ({ cls := "RopeShelfModel", name := "say", desc := "(I)I" } : Jvm.MethodName)) ∈ tb := tb_in 731 (by decide +kernel) rfl
theorem wd_732 : (Jvm.Cond.code ({ cls := "RopeShelfModel", name := "say", desc := "(I)I" } : Jvm.MethodName) prog_9_method_23_code (2 : Nat) (Option.some Jvm.ClassFile.FieldType.int)) ∈ tb := tb_in 732 (by decide +kernel) rfl
theorem wd_733 : (Jvm.Cond.methodLink "RopeShelfLaw" (26 : Nat) ({ cls := "RopeShelfModel", name := "put", desc := "(I)I" } : Jvm.MethodName)) ∈ tb := tb_in 733 (by decide +kernel) rfl
theorem wd_734 : (Jvm.Cond.instanceMethod ({ cls := "RopeShelfModel", name := "put", desc := "(I)I" } : Jvm.MethodName)) ∈ tb := tb_in 734 (by decide +kernel) rfl
theorem wd_735 : (Jvm.Cond.selects "RopeShelfModel" ({ cls := "RopeShelfModel", name := "put", desc := "(I)I" } : Jvm.MethodName) ({ cls := "RopeShelfModel", name := "put", desc := "(I)I" } : Jvm.MethodName)) ∈ tb := tb_in 735 (by decide +kernel) rfl
theorem wd_736 : (Jvm.Cond.code ({ cls := "RopeShelfModel", name := "put", desc := "(I)I" } : Jvm.MethodName) prog_9_method_24_code (3 : Nat) (Option.some Jvm.ClassFile.FieldType.int)) ∈ tb := tb_in 736 (by decide +kernel) rfl
theorem wd_737 : (Jvm.Cond.methodLink "RopeShelfModel" (181 : Nat) ({ cls := "RopeShelfModel", name := "isSlot", desc := "(I)Z" } : Jvm.MethodName)) ∈ tb := tb_in 737 (by decide +kernel) rfl
theorem wd_738 : (Jvm.Cond.static ({ cls := "RopeShelfModel", name := "isSlot", desc := "(I)Z" } : Jvm.MethodName)) ∈ tb := tb_in 738 (by decide +kernel) rfl
theorem wd_739 : (Jvm.Cond.code ({ cls := "RopeShelfModel", name := "isSlot", desc := "(I)Z" } : Jvm.MethodName) prog_9_method_3_code (1 : Nat) (Option.some Jvm.ClassFile.FieldType.boolean)) ∈ tb := tb_in 739 (by decide +kernel) rfl
theorem wd_740 : (Jvm.Cond.methodLink "RopeShelfModel" (185 : Nat) ({ cls := "RopeShelfModel", name := "makeRoom", desc := "()V" } : Jvm.MethodName)) ∈ tb := tb_in 740 (by decide +kernel) rfl
theorem wd_742 : (Jvm.Cond.instanceMethod ({ cls := "RopeShelfModel", name := "makeRoom", desc := "()V" } : Jvm.MethodName)) ∈ tb := tb_in 742 (by decide +kernel) rfl
theorem wd_743 : (Jvm.Cond.code ({ cls := "RopeShelfModel", name := "makeRoom", desc := "()V" } : Jvm.MethodName) prog_9_method_11_code (3 : Nat) (Option.none : Option Jvm.ClassFile.FieldType)) ∈ tb := tb_in 743 (by decide +kernel) rfl
theorem wd_744 : (Jvm.Cond.constant "RopeShelfModel" (122 : Nat) (76720 : Int32)) ∈ tb := tb_in 744 (by decide +kernel) rfl
theorem wd_745 : (Jvm.Cond.methodLink "RopeShelfModel" (123 : Nat) ({ cls := "RopeShelfModel", name := "clearMarks", desc := "()V" } : Jvm.MethodName)) ∈ tb := tb_in 745 (by decide +kernel) rfl
theorem wd_747 : (Jvm.Cond.instanceMethod ({ cls := "RopeShelfModel", name := "clearMarks", desc := "()V" } : Jvm.MethodName)) ∈ tb := tb_in 747 (by decide +kernel) rfl
theorem wd_748 : (Jvm.Cond.code ({ cls := "RopeShelfModel", name := "clearMarks", desc := "()V" } : Jvm.MethodName) prog_9_method_8_code (2 : Nat) (Option.none : Option Jvm.ClassFile.FieldType)) ∈ tb := tb_in 748 (by decide +kernel) rfl
theorem wd_749 : (Jvm.Cond.methodLink "RopeShelfModel" (126 : Nat) ({ cls := "RopeShelfModel", name := "mark", desc := "(I)I" } : Jvm.MethodName)) ∈ tb := tb_in 749 (by decide +kernel) rfl
theorem wd_751 : (Jvm.Cond.instanceMethod ({ cls := "RopeShelfModel", name := "mark", desc := "(I)I" } : Jvm.MethodName)) ∈ tb := tb_in 751 (by decide +kernel) rfl
theorem wd_752 : (Jvm.Cond.code ({ cls := "RopeShelfModel", name := "mark", desc := "(I)I" } : Jvm.MethodName) prog_9_method_9_code (5 : Nat) (Option.some Jvm.ClassFile.FieldType.int)) ∈ tb := tb_in 752 (by decide +kernel) rfl
theorem wd_753 : (Jvm.Cond.methodLink "RopeShelfModel" (132 : Nat) ({ cls := "RopeShelfModel", name := "moveUp", desc := "()V" } : Jvm.MethodName)) ∈ tb := tb_in 753 (by decide +kernel) rfl
theorem wd_755 : (Jvm.Cond.instanceMethod ({ cls := "RopeShelfModel", name := "moveUp", desc := "()V" } : Jvm.MethodName)) ∈ tb := tb_in 755 (by decide +kernel) rfl
theorem wd_756 : (Jvm.Cond.code ({ cls := "RopeShelfModel", name := "moveUp", desc := "()V" } : Jvm.MethodName) prog_9_method_10_code (6 : Nat) (Option.none : Option Jvm.ClassFile.FieldType)) ∈ tb := tb_in 756 (by decide +kernel) rfl
theorem wd_757 : (Jvm.Cond.methodLink "RopeShelfLaw" (30 : Nat) ({ cls := "RopeShelfModel", name := "copy", desc := "(II)I" } : Jvm.MethodName)) ∈ tb := tb_in 757 (by decide +kernel) rfl
theorem wd_758 : (Jvm.Cond.instanceMethod ({ cls := "RopeShelfModel", name := "copy", desc := "(II)I" } : Jvm.MethodName)) ∈ tb := tb_in 758 (by decide +kernel) rfl
theorem wd_759 : (Jvm.Cond.selects "RopeShelfModel" ({ cls := "RopeShelfModel", name := "copy", desc := "(II)I" } : Jvm.MethodName) ({ cls := "RopeShelfModel", name := "copy", desc := "(II)I" } : Jvm.MethodName)) ∈ tb := tb_in 759 (by decide +kernel) rfl
theorem wd_760 : (Jvm.Cond.code ({ cls := "RopeShelfModel", name := "copy", desc := "(II)I" } : Jvm.MethodName) prog_9_method_25_code (3 : Nat) (Option.some Jvm.ClassFile.FieldType.int)) ∈ tb := tb_in 760 (by decide +kernel) rfl
theorem wd_761 : (Jvm.Cond.methodLink "RopeShelfLaw" (35 : Nat) ({ cls := "RopeShelfModel", name := "join", desc := "(III)I" } : Jvm.MethodName)) ∈ tb := tb_in 761 (by decide +kernel) rfl
theorem wd_762 : (Jvm.Cond.instanceMethod ({ cls := "RopeShelfModel", name := "join", desc := "(III)I" } : Jvm.MethodName)) ∈ tb := tb_in 762 (by decide +kernel) rfl
theorem wd_763 : (Jvm.Cond.selects "RopeShelfModel" ({ cls := "RopeShelfModel", name := "join", desc := "(III)I" } : Jvm.MethodName) ({ cls := "RopeShelfModel", name := "join", desc := "(III)I" } : Jvm.MethodName)) ∈ tb := tb_in 763 (by decide +kernel) rfl
theorem wd_764 : (Jvm.Cond.code ({ cls := "RopeShelfModel", name := "join", desc := "(III)I" } : Jvm.MethodName) prog_9_method_26_code (4 : Nat) (Option.some Jvm.ClassFile.FieldType.int)) ∈ tb := tb_in 764 (by decide +kernel) rfl
theorem wd_765 : (Jvm.Cond.methodLink "RopeShelfModel" (172 : Nat) ({ cls := "RopeShelfModel", name := "joined", desc := "(II)I" } : Jvm.MethodName)) ∈ tb := tb_in 765 (by decide +kernel) rfl
theorem wd_767 : (Jvm.Cond.instanceMethod ({ cls := "RopeShelfModel", name := "joined", desc := "(II)I" } : Jvm.MethodName)) ∈ tb := tb_in 767 (by decide +kernel) rfl
theorem wd_768 : (Jvm.Cond.code ({ cls := "RopeShelfModel", name := "joined", desc := "(II)I" } : Jvm.MethodName) prog_9_method_17_code (4 : Nat) (Option.some Jvm.ClassFile.FieldType.int)) ∈ tb := tb_in 768 (by decide +kernel) rfl
theorem wd_769 : (Jvm.Cond.methodLink "RopeShelfModel" (154 : Nat) ({ cls := "RopeShelfModel", name := "layText", desc := "(II)I" } : Jvm.MethodName)) ∈ tb := tb_in 769 (by decide +kernel) rfl
theorem wd_771 : (Jvm.Cond.instanceMethod ({ cls := "RopeShelfModel", name := "layText", desc := "(II)I" } : Jvm.MethodName)) ∈ tb := tb_in 771 (by decide +kernel) rfl
theorem wd_772 : (Jvm.Cond.code ({ cls := "RopeShelfModel", name := "layText", desc := "(II)I" } : Jvm.MethodName) prog_9_method_14_code (6 : Nat) (Option.some Jvm.ClassFile.FieldType.int)) ∈ tb := tb_in 772 (by decide +kernel) rfl
theorem wd_773 : (Jvm.Cond.methodLink "RopeShelfModel" (138 : Nat) ({ cls := "RopeShelfModel", name := "layPieces", desc := "(I)I" } : Jvm.MethodName)) ∈ tb := tb_in 773 (by decide +kernel) rfl
theorem wd_775 : (Jvm.Cond.instanceMethod ({ cls := "RopeShelfModel", name := "layPieces", desc := "(I)I" } : Jvm.MethodName)) ∈ tb := tb_in 775 (by decide +kernel) rfl
theorem wd_776 : (Jvm.Cond.code ({ cls := "RopeShelfModel", name := "layPieces", desc := "(I)I" } : Jvm.MethodName) prog_9_method_12_code (6 : Nat) (Option.some Jvm.ClassFile.FieldType.int)) ∈ tb := tb_in 776 (by decide +kernel) rfl
theorem wd_777 : (Jvm.Cond.methodLink "RopeShelfModel" (141 : Nat) ({ cls := "RopeShelfModel", name := "signOf", desc := "(II)I" } : Jvm.MethodName)) ∈ tb := tb_in 777 (by decide +kernel) rfl
theorem wd_779 : (Jvm.Cond.instanceMethod ({ cls := "RopeShelfModel", name := "signOf", desc := "(II)I" } : Jvm.MethodName)) ∈ tb := tb_in 779 (by decide +kernel) rfl
theorem wd_780 : (Jvm.Cond.code ({ cls := "RopeShelfModel", name := "signOf", desc := "(II)I" } : Jvm.MethodName) prog_9_method_13_code (3 : Nat) (Option.some Jvm.ClassFile.FieldType.int)) ∈ tb := tb_in 780 (by decide +kernel) rfl
theorem wd_781 : (Jvm.Cond.methodLink "RopeShelfModel" (151 : Nat) ({ cls := "RopeShelfModel", name := "newJoin", desc := "(II)I" } : Jvm.MethodName)) ∈ tb := tb_in 781 (by decide +kernel) rfl
theorem wd_783 : (Jvm.Cond.instanceMethod ({ cls := "RopeShelfModel", name := "newJoin", desc := "(II)I" } : Jvm.MethodName)) ∈ tb := tb_in 783 (by decide +kernel) rfl
theorem wd_784 : (Jvm.Cond.code ({ cls := "RopeShelfModel", name := "newJoin", desc := "(II)I" } : Jvm.MethodName) prog_9_method_7_code (3 : Nat) (Option.some Jvm.ClassFile.FieldType.int)) ∈ tb := tb_in 784 (by decide +kernel) rfl
theorem wd_785 : (Jvm.Cond.methodLink "RopeShelfModel" (157 : Nat) ({ cls := "RopeShelfModel", name := "balanced", desc := "()I" } : Jvm.MethodName)) ∈ tb := tb_in 785 (by decide +kernel) rfl
theorem wd_787 : (Jvm.Cond.instanceMethod ({ cls := "RopeShelfModel", name := "balanced", desc := "()I" } : Jvm.MethodName)) ∈ tb := tb_in 787 (by decide +kernel) rfl
theorem wd_788 : (Jvm.Cond.code ({ cls := "RopeShelfModel", name := "balanced", desc := "()I" } : Jvm.MethodName) prog_9_method_16_code (5 : Nat) (Option.some Jvm.ClassFile.FieldType.int)) ∈ tb := tb_in 788 (by decide +kernel) rfl
theorem wd_789 : (Jvm.Cond.methodLink "RopeShelfModel" (147 : Nat) ({ cls := "RopeShelfModel", name := "push", desc := "(IIZ)V" } : Jvm.MethodName)) ∈ tb := tb_in 789 (by decide +kernel) rfl
theorem wd_791 : (Jvm.Cond.instanceMethod ({ cls := "RopeShelfModel", name := "push", desc := "(IIZ)V" } : Jvm.MethodName)) ∈ tb := tb_in 791 (by decide +kernel) rfl
theorem wd_792 : (Jvm.Cond.code ({ cls := "RopeShelfModel", name := "push", desc := "(IIZ)V" } : Jvm.MethodName) prog_9_method_15_code (4 : Nat) (Option.none : Option Jvm.ClassFile.FieldType)) ∈ tb := tb_in 792 (by decide +kernel) rfl
theorem wd_793 : (Jvm.Cond.methodLink "RopeShelfLaw" (40 : Nat) ({ cls := "RopeShelfModel", name := "cut", desc := "(IIII)I" } : Jvm.MethodName)) ∈ tb := tb_in 793 (by decide +kernel) rfl
theorem wd_794 : (Jvm.Cond.instanceMethod ({ cls := "RopeShelfModel", name := "cut", desc := "(IIII)I" } : Jvm.MethodName)) ∈ tb := tb_in 794 (by decide +kernel) rfl
theorem wd_795 : (Jvm.Cond.selects "RopeShelfModel" ({ cls := "RopeShelfModel", name := "cut", desc := "(IIII)I" } : Jvm.MethodName) ({ cls := "RopeShelfModel", name := "cut", desc := "(IIII)I" } : Jvm.MethodName)) ∈ tb := tb_in 795 (by decide +kernel) rfl
theorem wd_796 : (Jvm.Cond.code ({ cls := "RopeShelfModel", name := "cut", desc := "(IIII)I" } : Jvm.MethodName) prog_9_method_27_code (6 : Nat) (Option.some Jvm.ClassFile.FieldType.int)) ∈ tb := tb_in 796 (by decide +kernel) rfl
theorem wd_797 : (Jvm.Cond.methodLink "RopeShelfModel" (188 : Nat) ({ cls := "RopeShelfModel", name := "cutOut", desc := "(III)I" } : Jvm.MethodName)) ∈ tb := tb_in 797 (by decide +kernel) rfl
theorem wd_799 : (Jvm.Cond.instanceMethod ({ cls := "RopeShelfModel", name := "cutOut", desc := "(III)I" } : Jvm.MethodName)) ∈ tb := tb_in 799 (by decide +kernel) rfl
theorem wd_800 : (Jvm.Cond.code ({ cls := "RopeShelfModel", name := "cutOut", desc := "(III)I" } : Jvm.MethodName) prog_9_method_21_code (5 : Nat) (Option.some Jvm.ClassFile.FieldType.int)) ∈ tb := tb_in 800 (by decide +kernel) rfl
theorem wd_801 : (Jvm.Cond.methodLink "RopeShelfModel" (168 : Nat) ({ cls := "RopeShelfModel", name := "toCut", desc := "(III)V" } : Jvm.MethodName)) ∈ tb := tb_in 801 (by decide +kernel) rfl
theorem wd_803 : (Jvm.Cond.instanceMethod ({ cls := "RopeShelfModel", name := "toCut", desc := "(III)V" } : Jvm.MethodName)) ∈ tb := tb_in 803 (by decide +kernel) rfl
theorem wd_804 : (Jvm.Cond.code ({ cls := "RopeShelfModel", name := "toCut", desc := "(III)V" } : Jvm.MethodName) prog_9_method_18_code (4 : Nat) (Option.none : Option Jvm.ClassFile.FieldType)) ∈ tb := tb_in 804 (by decide +kernel) rfl
theorem wd_805 : (Jvm.Cond.methodLink "RopeShelfModel" (175 : Nat) ({ cls := "RopeShelfModel", name := "cutOne", desc := "(IIII)I" } : Jvm.MethodName)) ∈ tb := tb_in 805 (by decide +kernel) rfl
theorem wd_807 : (Jvm.Cond.instanceMethod ({ cls := "RopeShelfModel", name := "cutOne", desc := "(IIII)I" } : Jvm.MethodName)) ∈ tb := tb_in 807 (by decide +kernel) rfl
theorem wd_808 : (Jvm.Cond.code ({ cls := "RopeShelfModel", name := "cutOne", desc := "(IIII)I" } : Jvm.MethodName) prog_9_method_20_code (6 : Nat) (Option.some Jvm.ClassFile.FieldType.int)) ∈ tb := tb_in 808 (by decide +kernel) rfl
theorem wd_809 : (Jvm.Cond.methodLink "RopeShelfModel" (164 : Nat) ({ cls := "RopeShelfModel", name := "cutLeaf", desc := "(III)I" } : Jvm.MethodName)) ∈ tb := tb_in 809 (by decide +kernel) rfl
theorem wd_811 : (Jvm.Cond.instanceMethod ({ cls := "RopeShelfModel", name := "cutLeaf", desc := "(III)I" } : Jvm.MethodName)) ∈ tb := tb_in 811 (by decide +kernel) rfl
theorem wd_812 : (Jvm.Cond.code ({ cls := "RopeShelfModel", name := "cutLeaf", desc := "(III)I" } : Jvm.MethodName) prog_9_method_19_code (5 : Nat) (Option.some Jvm.ClassFile.FieldType.int)) ∈ tb := tb_in 812 (by decide +kernel) rfl
theorem wd_813 : (Jvm.Cond.methodLink "RopeShelfLaw" (44 : Nat) ({ cls := "RopeShelfModel", name := "flat", desc := "(I)I" } : Jvm.MethodName)) ∈ tb := tb_in 813 (by decide +kernel) rfl
theorem wd_814 : (Jvm.Cond.instanceMethod ({ cls := "RopeShelfModel", name := "flat", desc := "(I)I" } : Jvm.MethodName)) ∈ tb := tb_in 814 (by decide +kernel) rfl
theorem wd_815 : (Jvm.Cond.selects "RopeShelfModel" ({ cls := "RopeShelfModel", name := "flat", desc := "(I)I" } : Jvm.MethodName) ({ cls := "RopeShelfModel", name := "flat", desc := "(I)I" } : Jvm.MethodName)) ∈ tb := tb_in 815 (by decide +kernel) rfl
theorem wd_816 : (Jvm.Cond.code ({ cls := "RopeShelfModel", name := "flat", desc := "(I)I" } : Jvm.MethodName) prog_9_method_28_code (5 : Nat) (Option.some Jvm.ClassFile.FieldType.int)) ∈ tb := tb_in 816 (by decide +kernel) rfl
theorem wd_817 : (Jvm.Cond.methodLink "RopeShelfLaw" (48 : Nat) ({ cls := "RopeShelfModel", name := "sign", desc := "(II)I" } : Jvm.MethodName)) ∈ tb := tb_in 817 (by decide +kernel) rfl
theorem wd_818 : (Jvm.Cond.instanceMethod ({ cls := "RopeShelfModel", name := "sign", desc := "(II)I" } : Jvm.MethodName)) ∈ tb := tb_in 818 (by decide +kernel) rfl
theorem wd_819 : (Jvm.Cond.selects "RopeShelfModel" ({ cls := "RopeShelfModel", name := "sign", desc := "(II)I" } : Jvm.MethodName) ({ cls := "RopeShelfModel", name := "sign", desc := "(II)I" } : Jvm.MethodName)) ∈ tb := tb_in 819 (by decide +kernel) rfl
theorem wd_820 : (Jvm.Cond.code ({ cls := "RopeShelfModel", name := "sign", desc := "(II)I" } : Jvm.MethodName) prog_9_method_29_code (4 : Nat) (Option.some Jvm.ClassFile.FieldType.int)) ∈ tb := tb_in 820 (by decide +kernel) rfl
theorem wd_821 : (Jvm.Cond.methodLink "RopeShelfLaw" (52 : Nat) ({ cls := "RopeShelfModel", name := "hash", desc := "(I)I" } : Jvm.MethodName)) ∈ tb := tb_in 821 (by decide +kernel) rfl
theorem wd_822 : (Jvm.Cond.instanceMethod ({ cls := "RopeShelfModel", name := "hash", desc := "(I)I" } : Jvm.MethodName)) ∈ tb := tb_in 822 (by decide +kernel) rfl
theorem wd_823 : (Jvm.Cond.selects "RopeShelfModel" ({ cls := "RopeShelfModel", name := "hash", desc := "(I)I" } : Jvm.MethodName) ({ cls := "RopeShelfModel", name := "hash", desc := "(I)I" } : Jvm.MethodName)) ∈ tb := tb_in 823 (by decide +kernel) rfl
theorem wd_824 : (Jvm.Cond.code ({ cls := "RopeShelfModel", name := "hash", desc := "(I)I" } : Jvm.MethodName) prog_9_method_30_code (5 : Nat) (Option.some Jvm.ClassFile.FieldType.int)) ∈ tb := tb_in 824 (by decide +kernel) rfl
theorem wd_825 : (Jvm.Cond.methodLink "RopeShelfLaw" (56 : Nat) ({ cls := "RopeShelfModel", name := "told", desc := "(II)I" } : Jvm.MethodName)) ∈ tb := tb_in 825 (by decide +kernel) rfl
theorem wd_826 : (Jvm.Cond.instanceMethod ({ cls := "RopeShelfModel", name := "told", desc := "(II)I" } : Jvm.MethodName)) ∈ tb := tb_in 826 (by decide +kernel) rfl
theorem wd_827 : (Jvm.Cond.selects "RopeShelfModel" ({ cls := "RopeShelfModel", name := "told", desc := "(II)I" } : Jvm.MethodName) ({ cls := "RopeShelfModel", name := "told", desc := "(II)I" } : Jvm.MethodName)) ∈ tb := tb_in 827 (by decide +kernel) rfl
theorem wd_828 : (Jvm.Cond.code ({ cls := "RopeShelfModel", name := "told", desc := "(II)I" } : Jvm.MethodName) prog_9_method_34_code (4 : Nat) (Option.some Jvm.ClassFile.FieldType.int)) ∈ tb := tb_in 828 (by decide +kernel) rfl
theorem wd_829 : (Jvm.Cond.methodLink "RopeShelfModel" (194 : Nat) ({ cls := "RopeShelfModel", name := "roomOfMarked", desc := "()I" } : Jvm.MethodName)) ∈ tb := tb_in 829 (by decide +kernel) rfl
theorem wd_831 : (Jvm.Cond.instanceMethod ({ cls := "RopeShelfModel", name := "roomOfMarked", desc := "()I" } : Jvm.MethodName)) ∈ tb := tb_in 831 (by decide +kernel) rfl
theorem wd_832 : (Jvm.Cond.code ({ cls := "RopeShelfModel", name := "roomOfMarked", desc := "()I" } : Jvm.MethodName) prog_9_method_32_code (3 : Nat) (Option.some Jvm.ClassFile.FieldType.int)) ∈ tb := tb_in 832 (by decide +kernel) rfl
theorem wd_833 : (Jvm.Cond.methodLink "RopeShelfModel" (191 : Nat) ({ cls := "RopeShelfModel", name := "roomOf", desc := "(I)I" } : Jvm.MethodName)) ∈ tb := tb_in 833 (by decide +kernel) rfl
theorem wd_835 : (Jvm.Cond.instanceMethod ({ cls := "RopeShelfModel", name := "roomOf", desc := "(I)I" } : Jvm.MethodName)) ∈ tb := tb_in 835 (by decide +kernel) rfl
theorem wd_836 : (Jvm.Cond.code ({ cls := "RopeShelfModel", name := "roomOf", desc := "(I)I" } : Jvm.MethodName) prog_9_method_31_code (4 : Nat) (Option.some Jvm.ClassFile.FieldType.int)) ∈ tb := tb_in 836 (by decide +kernel) rfl
theorem wd_837 : (Jvm.Cond.methodLink "RopeShelfModel" (197 : Nat) ({ cls := "RopeShelfModel", name := "isWide", desc := "(I)Z" } : Jvm.MethodName)) ∈ tb := tb_in 837 (by decide +kernel) rfl
theorem wd_839 : (Jvm.Cond.instanceMethod ({ cls := "RopeShelfModel", name := "isWide", desc := "(I)Z" } : Jvm.MethodName)) ∈ tb := tb_in 839 (by decide +kernel) rfl
theorem wd_840 : (Jvm.Cond.code ({ cls := "RopeShelfModel", name := "isWide", desc := "(I)Z" } : Jvm.MethodName) prog_9_method_33_code (5 : Nat) (Option.some Jvm.ClassFile.FieldType.boolean)) ∈ tb := tb_in 840 (by decide +kernel) rfl
theorem wd_841 : (Jvm.Cond.methodLink "RopeShelfLaw" (60 : Nat) ({ cls := "RopeShelfModel", name := "piece", desc := "(III)I" } : Jvm.MethodName)) ∈ tb := tb_in 841 (by decide +kernel) rfl
theorem wd_842 : (Jvm.Cond.instanceMethod ({ cls := "RopeShelfModel", name := "piece", desc := "(III)I" } : Jvm.MethodName)) ∈ tb := tb_in 842 (by decide +kernel) rfl
theorem wd_843 : (Jvm.Cond.selects "RopeShelfModel" ({ cls := "RopeShelfModel", name := "piece", desc := "(III)I" } : Jvm.MethodName) ({ cls := "RopeShelfModel", name := "piece", desc := "(III)I" } : Jvm.MethodName)) ∈ tb := tb_in 843 (by decide +kernel) rfl
theorem wd_844 : (Jvm.Cond.code ({ cls := "RopeShelfModel", name := "piece", desc := "(III)I" } : Jvm.MethodName) prog_9_method_35_code (7 : Nat) (Option.some Jvm.ClassFile.FieldType.int)) ∈ tb := tb_in 844 (by decide +kernel) rfl
theorem wd_845 : (Jvm.Cond.methodLink "RopeShelfLaw" (64 : Nat) ({ cls := "RopeShelfModel", name := "alike", desc := "(III)I" } : Jvm.MethodName)) ∈ tb := tb_in 845 (by decide +kernel) rfl
theorem wd_846 : (Jvm.Cond.instanceMethod ({ cls := "RopeShelfModel", name := "alike", desc := "(III)I" } : Jvm.MethodName)) ∈ tb := tb_in 846 (by decide +kernel) rfl
theorem wd_847 : (Jvm.Cond.selects "RopeShelfModel" ({ cls := "RopeShelfModel", name := "alike", desc := "(III)I" } : Jvm.MethodName) ({ cls := "RopeShelfModel", name := "alike", desc := "(III)I" } : Jvm.MethodName)) ∈ tb := tb_in 847 (by decide +kernel) rfl
theorem wd_848 : (Jvm.Cond.code ({ cls := "RopeShelfModel", name := "alike", desc := "(III)I" } : Jvm.MethodName) prog_9_method_41_code (5 : Nat) (Option.some Jvm.ClassFile.FieldType.int)) ∈ tb := tb_in 848 (by decide +kernel) rfl
theorem wd_849 : (Jvm.Cond.methodLink "RopeShelfModel" (213 : Nat) ({ cls := "RopeShelfModel", name := "areSame", desc := "(II)Z" } : Jvm.MethodName)) ∈ tb := tb_in 849 (by decide +kernel) rfl
theorem wd_851 : (Jvm.Cond.instanceMethod ({ cls := "RopeShelfModel", name := "areSame", desc := "(II)Z" } : Jvm.MethodName)) ∈ tb := tb_in 851 (by decide +kernel) rfl
theorem wd_852 : (Jvm.Cond.code ({ cls := "RopeShelfModel", name := "areSame", desc := "(II)Z" } : Jvm.MethodName) prog_9_method_38_code (3 : Nat) (Option.some Jvm.ClassFile.FieldType.boolean)) ∈ tb := tb_in 852 (by decide +kernel) rfl
theorem wd_853 : (Jvm.Cond.methodLink "RopeShelfModel" (206 : Nat) ({ cls := "RopeShelfModel", name := "layBoth", desc := "(II)V" } : Jvm.MethodName)) ∈ tb := tb_in 853 (by decide +kernel) rfl
theorem wd_855 : (Jvm.Cond.instanceMethod ({ cls := "RopeShelfModel", name := "layBoth", desc := "(II)V" } : Jvm.MethodName)) ∈ tb := tb_in 855 (by decide +kernel) rfl
theorem wd_856 : (Jvm.Cond.code ({ cls := "RopeShelfModel", name := "layBoth", desc := "(II)V" } : Jvm.MethodName) prog_9_method_36_code (3 : Nat) (Option.none : Option Jvm.ClassFile.FieldType)) ∈ tb := tb_in 856 (by decide +kernel) rfl
theorem wd_857 : (Jvm.Cond.methodLink "RopeShelfModel" (210 : Nat) ({ cls := "RopeShelfModel", name := "alikeSigns", desc := "()I" } : Jvm.MethodName)) ∈ tb := tb_in 857 (by decide +kernel) rfl
theorem wd_859 : (Jvm.Cond.instanceMethod ({ cls := "RopeShelfModel", name := "alikeSigns", desc := "()I" } : Jvm.MethodName)) ∈ tb := tb_in 859 (by decide +kernel) rfl
theorem wd_860 : (Jvm.Cond.code ({ cls := "RopeShelfModel", name := "alikeSigns", desc := "()I" } : Jvm.MethodName) prog_9_method_37_code (2 : Nat) (Option.some Jvm.ClassFile.FieldType.int)) ∈ tb := tb_in 860 (by decide +kernel) rfl
theorem wd_861 : (Jvm.Cond.methodLink "RopeShelfModel" (217 : Nat) ({ cls := "RopeShelfModel", name := "placeIn", desc := "()I" } : Jvm.MethodName)) ∈ tb := tb_in 861 (by decide +kernel) rfl
theorem wd_863 : (Jvm.Cond.instanceMethod ({ cls := "RopeShelfModel", name := "placeIn", desc := "()I" } : Jvm.MethodName)) ∈ tb := tb_in 863 (by decide +kernel) rfl
theorem wd_864 : (Jvm.Cond.code ({ cls := "RopeShelfModel", name := "placeIn", desc := "()I" } : Jvm.MethodName) prog_9_method_39_code (3 : Nat) (Option.some Jvm.ClassFile.FieldType.int)) ∈ tb := tb_in 864 (by decide +kernel) rfl
theorem wd_865 : (Jvm.Cond.methodLink "RopeShelfModel" (220 : Nat) ({ cls := "RopeShelfModel", name := "comesFirst", desc := "()Z" } : Jvm.MethodName)) ∈ tb := tb_in 865 (by decide +kernel) rfl
theorem wd_867 : (Jvm.Cond.instanceMethod ({ cls := "RopeShelfModel", name := "comesFirst", desc := "()Z" } : Jvm.MethodName)) ∈ tb := tb_in 867 (by decide +kernel) rfl
theorem wd_868 : (Jvm.Cond.code ({ cls := "RopeShelfModel", name := "comesFirst", desc := "()Z" } : Jvm.MethodName) prog_9_method_40_code (2 : Nat) (Option.some Jvm.ClassFile.FieldType.boolean)) ∈ tb := tb_in 868 (by decide +kernel) rfl
theorem wd_869 : (Jvm.Cond.methodLink "RopeShelfLaw" (68 : Nat) ({ cls := "RopeShelfModel", name := "intern", desc := "(I)I" } : Jvm.MethodName)) ∈ tb := tb_in 869 (by decide +kernel) rfl
theorem wd_870 : (Jvm.Cond.instanceMethod ({ cls := "RopeShelfModel", name := "intern", desc := "(I)I" } : Jvm.MethodName)) ∈ tb := tb_in 870 (by decide +kernel) rfl
theorem wd_871 : (Jvm.Cond.selects "RopeShelfModel" ({ cls := "RopeShelfModel", name := "intern", desc := "(I)I" } : Jvm.MethodName) ({ cls := "RopeShelfModel", name := "intern", desc := "(I)I" } : Jvm.MethodName)) ∈ tb := tb_in 871 (by decide +kernel) rfl
theorem wd_872 : (Jvm.Cond.code ({ cls := "RopeShelfModel", name := "intern", desc := "(I)I" } : Jvm.MethodName) prog_9_method_42_code (3 : Nat) (Option.some Jvm.ClassFile.FieldType.int)) ∈ tb := tb_in 872 (by decide +kernel) rfl
theorem wd_873 : (Jvm.Cond.methodLink "RopeShelfLaw" (73 : Nat) ({ cls := "RopeShelfModel", name := "sweep", desc := "()I" } : Jvm.MethodName)) ∈ tb := tb_in 873 (by decide +kernel) rfl
theorem wd_874 : (Jvm.Cond.instanceMethod ({ cls := "RopeShelfModel", name := "sweep", desc := "()I" } : Jvm.MethodName)) ∈ tb := tb_in 874 (by decide +kernel) rfl
theorem wd_875 : (Jvm.Cond.selects "RopeShelfModel" ({ cls := "RopeShelfModel", name := "sweep", desc := "()I" } : Jvm.MethodName) ({ cls := "RopeShelfModel", name := "sweep", desc := "()I" } : Jvm.MethodName)) ∈ tb := tb_in 875 (by decide +kernel) rfl
theorem wd_876 : (Jvm.Cond.code ({ cls := "RopeShelfModel", name := "sweep", desc := "()I" } : Jvm.MethodName) prog_9_method_44_code (3 : Nat) (Option.some Jvm.ClassFile.FieldType.int)) ∈ tb := tb_in 876 (by decide +kernel) rfl
theorem wd_877 : (Jvm.Cond.methodLink "RopeShelfModel" (227 : Nat) ({ cls := "RopeShelfModel", name := "markHeld", desc := "()I" } : Jvm.MethodName)) ∈ tb := tb_in 877 (by decide +kernel) rfl
theorem wd_879 : (Jvm.Cond.instanceMethod ({ cls := "RopeShelfModel", name := "markHeld", desc := "()I" } : Jvm.MethodName)) ∈ tb := tb_in 879 (by decide +kernel) rfl
theorem wd_880 : (Jvm.Cond.code ({ cls := "RopeShelfModel", name := "markHeld", desc := "()I" } : Jvm.MethodName) prog_9_method_43_code (3 : Nat) (Option.some Jvm.ClassFile.FieldType.int)) ∈ tb := tb_in 880 (by decide +kernel) rfl
theorem wd_881 : (Jvm.Cond.methodLink "RopeShelfLaw" (77 : Nat) ({ cls := "RopeShelfModel", name := "entry", desc := "(II)I" } : Jvm.MethodName)) ∈ tb := tb_in 881 (by decide +kernel) rfl
theorem wd_882 : (Jvm.Cond.instanceMethod ({ cls := "RopeShelfModel", name := "entry", desc := "(II)I" } : Jvm.MethodName)) ∈ tb := tb_in 882 (by decide +kernel) rfl
theorem wd_883 : (Jvm.Cond.selects "RopeShelfModel" ({ cls := "RopeShelfModel", name := "entry", desc := "(II)I" } : Jvm.MethodName) ({ cls := "RopeShelfModel", name := "entry", desc := "(II)I" } : Jvm.MethodName)) ∈ tb := tb_in 883 (by decide +kernel) rfl
theorem wd_884 : (Jvm.Cond.code ({ cls := "RopeShelfModel", name := "entry", desc := "(II)I" } : Jvm.MethodName) prog_9_method_45_code (5 : Nat) (Option.some Jvm.ClassFile.FieldType.int)) ∈ tb := tb_in 884 (by decide +kernel) rfl
theorem wd_885 : (Jvm.Cond.methodLink "RopeShelfLaw" (81 : Nat) ({ cls := "RopeShelfModel", name := "count", desc := "(I)I" } : Jvm.MethodName)) ∈ tb := tb_in 885 (by decide +kernel) rfl
theorem wd_886 : (Jvm.Cond.instanceMethod ({ cls := "RopeShelfModel", name := "count", desc := "(I)I" } : Jvm.MethodName)) ∈ tb := tb_in 886 (by decide +kernel) rfl
theorem wd_887 : (Jvm.Cond.selects "RopeShelfModel" ({ cls := "RopeShelfModel", name := "count", desc := "(I)I" } : Jvm.MethodName) ({ cls := "RopeShelfModel", name := "count", desc := "(I)I" } : Jvm.MethodName)) ∈ tb := tb_in 887 (by decide +kernel) rfl
theorem wd_888 : (Jvm.Cond.code ({ cls := "RopeShelfModel", name := "count", desc := "(I)I" } : Jvm.MethodName) prog_9_method_46_code (2 : Nat) (Option.some Jvm.ClassFile.FieldType.int)) ∈ tb := tb_in 888 (by decide +kernel) rfl
theorem wd_889 : (Jvm.Cond.methodLink "RopeShelfLaw" (85 : Nat) ({ cls := "RopeShelfModel", name := "image", desc := "(I)I" } : Jvm.MethodName)) ∈ tb := tb_in 889 (by decide +kernel) rfl
theorem wd_890 : (Jvm.Cond.instanceMethod ({ cls := "RopeShelfModel", name := "image", desc := "(I)I" } : Jvm.MethodName)) ∈ tb := tb_in 890 (by decide +kernel) rfl
theorem wd_891 : (Jvm.Cond.selects "RopeShelfModel" ({ cls := "RopeShelfModel", name := "image", desc := "(I)I" } : Jvm.MethodName) ({ cls := "RopeShelfModel", name := "image", desc := "(I)I" } : Jvm.MethodName)) ∈ tb := tb_in 891 (by decide +kernel) rfl
theorem wd_892 : (Jvm.Cond.code ({ cls := "RopeShelfModel", name := "image", desc := "(I)I" } : Jvm.MethodName) prog_9_method_47_code (3 : Nat) (Option.some Jvm.ClassFile.FieldType.int)) ∈ tb := tb_in 892 (by decide +kernel) rfl
theorem wd_893 : (Jvm.Cond.methodLink "RopeShelfLaw" (89 : Nat) ({ cls := "RopeShelfModel", name := "restore", desc := "(I)I" } : Jvm.MethodName)) ∈ tb := tb_in 893 (by decide +kernel) rfl
theorem wd_894 : (Jvm.Cond.instanceMethod ({ cls := "RopeShelfModel", name := "restore", desc := "(I)I" } : Jvm.MethodName)) ∈ tb := tb_in 894 (by decide +kernel) rfl
theorem wd_895 : (Jvm.Cond.selects "RopeShelfModel" ({ cls := "RopeShelfModel", name := "restore", desc := "(I)I" } : Jvm.MethodName) ({ cls := "RopeShelfModel", name := "restore", desc := "(I)I" } : Jvm.MethodName)) ∈ tb := tb_in 895 (by decide +kernel) rfl
theorem wd_896 : (Jvm.Cond.code ({ cls := "RopeShelfModel", name := "restore", desc := "(I)I" } : Jvm.MethodName) prog_9_method_48_code (3 : Nat) (Option.some Jvm.ClassFile.FieldType.int)) ∈ tb := tb_in 896 (by decide +kernel) rfl
theorem wd_0 : Cond.selects "RopeShelf" ⟨"RopeShelf", "hold", "(ILRopeShelf$Cell;)I"⟩ ⟨"RopeShelf", "hold", "(ILRopeShelf$Cell;)I"⟩ ∈ tb := tb_in 0 (by decide +kernel) rfl
theorem wd_1 : Cond.selects "RopeShelf" ⟨"RopeShelf", "cellOf", "(I)LRopeShelf$Cell;"⟩ ⟨"RopeShelf", "cellOf", "(I)LRopeShelf$Cell;"⟩ ∈ tb := tb_in 1 (by decide +kernel) rfl
theorem wd_2 : Cond.selects "RopeShelf$Weaver" ⟨"RopeShelf$Weaver", "joined", "(LRopeShelf$Cell;LRopeShelf$Cell;)LRopeShelf$Cell;"⟩ ⟨"RopeShelf$Weaver", "joined", "(LRopeShelf$Cell;LRopeShelf$Cell;)LRopeShelf$Cell;"⟩ ∈ tb := tb_in 2 (by decide +kernel) rfl
theorem wd_3 : Cond.selects "RopeShelf$Text" ⟨"RopeShelf$Text", "addCell", "(LRopeShelf$Cell;I)V"⟩ ⟨"RopeShelf$Text", "addCell", "(LRopeShelf$Cell;I)V"⟩ ∈ tb := tb_in 3 (by decide +kernel) rfl
theorem wd_4 : Cond.selects "RopeShelf$Text" ⟨"RopeShelf$Text", "addSigns", "(LRopeShelf$Cell;II)V"⟩ ⟨"RopeShelf$Text", "addSigns", "(LRopeShelf$Cell;II)V"⟩ ∈ tb := tb_in 4 (by decide +kernel) rfl
theorem wd_5 : Cond.selects "RopeShelf$Weaver" ⟨"RopeShelf$Weaver", "newJoin", "(LRopeShelf$Cell;LRopeShelf$Cell;)LRopeShelf$Cell;"⟩ ⟨"RopeShelf$Weaver", "newJoin", "(LRopeShelf$Cell;LRopeShelf$Cell;)LRopeShelf$Cell;"⟩ ∈ tb := tb_in 5 (by decide +kernel) rfl
theorem wd_6 : Cond.selects "RopeShelf$Pieces" ⟨"RopeShelf$Pieces", "addPieces", "(LRopeShelf$Cell;I)V"⟩ ⟨"RopeShelf$Pieces", "addPieces", "(LRopeShelf$Cell;I)V"⟩ ∈ tb := tb_in 6 (by decide +kernel) rfl
theorem wd_7 : Cond.selects "RopeShelf$Weaver" ⟨"RopeShelf$Weaver", "release", "(LRopeShelf$Cell;I)V"⟩ ⟨"RopeShelf$Weaver", "release", "(LRopeShelf$Cell;I)V"⟩ ∈ tb := tb_in 7 (by decide +kernel) rfl
theorem wd_8 : Cond.selects "RopeShelf$Weaver" ⟨"RopeShelf$Weaver", "balanced", "(III)LRopeShelf$Cell;"⟩ ⟨"RopeShelf$Weaver", "balanced", "(III)LRopeShelf$Cell;"⟩ ∈ tb := tb_in 8 (by decide +kernel) rfl
theorem wd_9 : Cond.selects "RopeShelf$Weaver" ⟨"RopeShelf$Weaver", "cutOut", "(LRopeShelf$Cell;III)LRopeShelf$Cell;"⟩ ⟨"RopeShelf$Weaver", "cutOut", "(LRopeShelf$Cell;III)LRopeShelf$Cell;"⟩ ∈ tb := tb_in 9 (by decide +kernel) rfl
theorem wd_10 : Cond.selects "RopeShelf$Weaver" ⟨"RopeShelf$Weaver", "cutOutOfJoin", "(LRopeShelf$Cell;III)LRopeShelf$Cell;"⟩ ⟨"RopeShelf$Weaver", "cutOutOfJoin", "(LRopeShelf$Cell;III)LRopeShelf$Cell;"⟩ ∈ tb := tb_in 10 (by decide +kernel) rfl
theorem wd_11 : Cond.selects "RopeShelf$Weaver" ⟨"RopeShelf$Weaver", "cutOutOfLeaf", "(LRopeShelf$Cell;II)LRopeShelf$Cell;"⟩ ⟨"RopeShelf$Weaver", "cutOutOfLeaf", "(LRopeShelf$Cell;II)LRopeShelf$Cell;"⟩ ∈ tb := tb_in 11 (by decide +kernel) rfl
theorem wd_12 : Cond.selects "RopeShelf$Walk" ⟨"RopeShelf$Walk", "begin", "()V"⟩ ⟨"RopeShelf$Walk", "begin", "()V"⟩ ∈ tb := tb_in 12 (by decide +kernel) rfl
theorem wd_13 : Cond.selects "RopeShelf$Walk" ⟨"RopeShelf$Walk", "visit", "(LRopeShelf$Cell;I)V"⟩ ⟨"RopeShelf$Walk", "visit", "(LRopeShelf$Cell;I)V"⟩ ∈ tb := tb_in 13 (by decide +kernel) rfl
theorem wd_14 : Cond.selects "RopeShelf$Cell" ⟨"RopeShelf$Cell", "hasWideSign", "()Z"⟩ ⟨"RopeShelf$Cell", "hasWideSign", "()Z"⟩ ∈ tb := tb_in 14 (by decide +kernel) rfl
theorem wd_15 : Cond.selects "RopeShelf" ⟨"RopeShelf", "compareTexts", "(I)I"⟩ ⟨"RopeShelf", "compareTexts", "(I)I"⟩ ∈ tb := tb_in 15 (by decide +kernel) rfl
theorem wd_16 : Cond.selects "RopeShelf$Text" ⟨"RopeShelf$Text", "hasAt", "(ILRopeShelf$Text;)Z"⟩ ⟨"RopeShelf$Text", "hasAt", "(ILRopeShelf$Text;)Z"⟩ ∈ tb := tb_in 16 (by decide +kernel) rfl
theorem wd_17 : Cond.selects "RopeShelf" ⟨"RopeShelf", "placeInTable", "(LRopeShelf$Cell;)I"⟩ ⟨"RopeShelf", "placeInTable", "(LRopeShelf$Cell;)I"⟩ ∈ tb := tb_in 17 (by decide +kernel) rfl
theorem wd_18 : Cond.selects "RopeShelf$Table" ⟨"RopeShelf$Table", "place", "(LRopeShelf$Cell;I)V"⟩ ⟨"RopeShelf$Table", "place", "(LRopeShelf$Cell;I)V"⟩ ∈ tb := tb_in 18 (by decide +kernel) rfl
theorem wd_19 : Cond.selects "RopeShelf" ⟨"RopeShelf", "slotsWith", "(LRopeShelf$Cell;)I"⟩ ⟨"RopeShelf", "slotsWith", "(LRopeShelf$Cell;)I"⟩ ∈ tb := tb_in 19 (by decide +kernel) rfl
theorem wd_20 : Cond.selects "RopeShelf" ⟨"RopeShelf", "imageRow", "(I)[LRopeShelf$Cell;"⟩ ⟨"RopeShelf", "imageRow", "(I)[LRopeShelf$Cell;"⟩ ∈ tb := tb_in 20 (by decide +kernel) rfl
theorem wd_21 : Cond.selects "RopeShelfModel" ⟨"RopeShelfModel", "newLeaf", "(I)I"⟩ ⟨"RopeShelfModel", "newLeaf", "(I)I"⟩ ∈ tb := tb_in 21 (by decide +kernel) rfl
theorem wd_22 : Cond.selects "RopeShelfModel" ⟨"RopeShelfModel", "newCell", "(IIII)I"⟩ ⟨"RopeShelfModel", "newCell", "(IIII)I"⟩ ∈ tb := tb_in 22 (by decide +kernel) rfl
theorem wd_23 : Cond.selects "RopeShelfModel" ⟨"RopeShelfModel", "keepText", "(II)I"⟩ ⟨"RopeShelfModel", "keepText", "(II)I"⟩ ∈ tb := tb_in 23 (by decide +kernel) rfl
theorem wd_24 : Cond.selects "RopeShelfModel" ⟨"RopeShelfModel", "makeRoom", "()V"⟩ ⟨"RopeShelfModel", "makeRoom", "()V"⟩ ∈ tb := tb_in 24 (by decide +kernel) rfl
theorem wd_25 : Cond.selects "RopeShelfModel" ⟨"RopeShelfModel", "clearMarks", "()V"⟩ ⟨"RopeShelfModel", "clearMarks", "()V"⟩ ∈ tb := tb_in 25 (by decide +kernel) rfl
theorem wd_26 : Cond.selects "RopeShelfModel" ⟨"RopeShelfModel", "mark", "(I)I"⟩ ⟨"RopeShelfModel", "mark", "(I)I"⟩ ∈ tb := tb_in 26 (by decide +kernel) rfl
theorem wd_27 : Cond.selects "RopeShelfModel" ⟨"RopeShelfModel", "moveUp", "()V"⟩ ⟨"RopeShelfModel", "moveUp", "()V"⟩ ∈ tb := tb_in 27 (by decide +kernel) rfl
theorem wd_28 : Cond.selects "RopeShelfModel" ⟨"RopeShelfModel", "joined", "(II)I"⟩ ⟨"RopeShelfModel", "joined", "(II)I"⟩ ∈ tb := tb_in 28 (by decide +kernel) rfl
theorem wd_29 : Cond.selects "RopeShelfModel" ⟨"RopeShelfModel", "layText", "(II)I"⟩ ⟨"RopeShelfModel", "layText", "(II)I"⟩ ∈ tb := tb_in 29 (by decide +kernel) rfl
theorem wd_30 : Cond.selects "RopeShelfModel" ⟨"RopeShelfModel", "layPieces", "(I)I"⟩ ⟨"RopeShelfModel", "layPieces", "(I)I"⟩ ∈ tb := tb_in 30 (by decide +kernel) rfl
theorem wd_31 : Cond.selects "RopeShelfModel" ⟨"RopeShelfModel", "signOf", "(II)I"⟩ ⟨"RopeShelfModel", "signOf", "(II)I"⟩ ∈ tb := tb_in 31 (by decide +kernel) rfl
theorem wd_32 : Cond.selects "RopeShelfModel" ⟨"RopeShelfModel", "newJoin", "(II)I"⟩ ⟨"RopeShelfModel", "newJoin", "(II)I"⟩ ∈ tb := tb_in 32 (by decide +kernel) rfl
theorem wd_33 : Cond.selects "RopeShelfModel" ⟨"RopeShelfModel", "balanced", "()I"⟩ ⟨"RopeShelfModel", "balanced", "()I"⟩ ∈ tb := tb_in 33 (by decide +kernel) rfl
theorem wd_34 : Cond.selects "RopeShelfModel" ⟨"RopeShelfModel", "push", "(IIZ)V"⟩ ⟨"RopeShelfModel", "push", "(IIZ)V"⟩ ∈ tb := tb_in 34 (by decide +kernel) rfl
theorem wd_35 : Cond.selects "RopeShelfModel" ⟨"RopeShelfModel", "cutOut", "(III)I"⟩ ⟨"RopeShelfModel", "cutOut", "(III)I"⟩ ∈ tb := tb_in 35 (by decide +kernel) rfl
theorem wd_36 : Cond.selects "RopeShelfModel" ⟨"RopeShelfModel", "toCut", "(III)V"⟩ ⟨"RopeShelfModel", "toCut", "(III)V"⟩ ∈ tb := tb_in 36 (by decide +kernel) rfl
theorem wd_37 : Cond.selects "RopeShelfModel" ⟨"RopeShelfModel", "cutOne", "(IIII)I"⟩ ⟨"RopeShelfModel", "cutOne", "(IIII)I"⟩ ∈ tb := tb_in 37 (by decide +kernel) rfl
theorem wd_38 : Cond.selects "RopeShelfModel" ⟨"RopeShelfModel", "cutLeaf", "(III)I"⟩ ⟨"RopeShelfModel", "cutLeaf", "(III)I"⟩ ∈ tb := tb_in 38 (by decide +kernel) rfl
theorem wd_39 : Cond.selects "RopeShelfModel" ⟨"RopeShelfModel", "roomOfMarked", "()I"⟩ ⟨"RopeShelfModel", "roomOfMarked", "()I"⟩ ∈ tb := tb_in 39 (by decide +kernel) rfl
theorem wd_40 : Cond.selects "RopeShelfModel" ⟨"RopeShelfModel", "roomOf", "(I)I"⟩ ⟨"RopeShelfModel", "roomOf", "(I)I"⟩ ∈ tb := tb_in 40 (by decide +kernel) rfl
theorem wd_41 : Cond.selects "RopeShelfModel" ⟨"RopeShelfModel", "isWide", "(I)Z"⟩ ⟨"RopeShelfModel", "isWide", "(I)Z"⟩ ∈ tb := tb_in 41 (by decide +kernel) rfl
theorem wd_42 : Cond.selects "RopeShelfModel" ⟨"RopeShelfModel", "areSame", "(II)Z"⟩ ⟨"RopeShelfModel", "areSame", "(II)Z"⟩ ∈ tb := tb_in 42 (by decide +kernel) rfl
theorem wd_43 : Cond.selects "RopeShelfModel" ⟨"RopeShelfModel", "layBoth", "(II)V"⟩ ⟨"RopeShelfModel", "layBoth", "(II)V"⟩ ∈ tb := tb_in 43 (by decide +kernel) rfl
theorem wd_44 : Cond.selects "RopeShelfModel" ⟨"RopeShelfModel", "alikeSigns", "()I"⟩ ⟨"RopeShelfModel", "alikeSigns", "()I"⟩ ∈ tb := tb_in 44 (by decide +kernel) rfl
theorem wd_45 : Cond.selects "RopeShelfModel" ⟨"RopeShelfModel", "placeIn", "()I"⟩ ⟨"RopeShelfModel", "placeIn", "()I"⟩ ∈ tb := tb_in 45 (by decide +kernel) rfl
theorem wd_46 : Cond.selects "RopeShelfModel" ⟨"RopeShelfModel", "comesFirst", "()Z"⟩ ⟨"RopeShelfModel", "comesFirst", "()Z"⟩ ∈ tb := tb_in 46 (by decide +kernel) rfl
theorem wd_47 : Cond.selects "RopeShelfModel" ⟨"RopeShelfModel", "markHeld", "()I"⟩ ⟨"RopeShelfModel", "markHeld", "()I"⟩ ∈ tb := tb_in 47 (by decide +kernel) rfl
theorem tb_goodIn {y : MethodName} {cc : ByteArray} {n : Nat} {r : Option FieldType} {Ts : List Cond} (hm : Cond.code y cc n r ∈ tb) (hT : ∀ w ∈ tb, w ∈ Ts) : GoodIn Ts (Cond.code y cc n r :: tb) := fun w hw => (List.mem_cons.mp hw).elim (fun e => by subst e; exact ⟨hT _ hm, good_of_word (List.mem_filter.mp hm).2⟩) (fun h => ⟨hT _ h, good_of_word (List.mem_filter.mp h).2⟩)
end
section
/-! ===== a small machine over a picture of the heap: each instruction a predicate transformer ===== -/
abbrev mV : Type := Int32 ⊕ Option Nat
def mE (rho : Nat → Nat) (v : mV) : Value := match v with
  | .inl x => .int x
  | .inr none => .null
  | .inr (some k) => .ref (rho k)
theorem mE_cat (rho : Nat → Nat) (v : mV) : (mE rho v).category = 1 := by
  rcases v with x | (_ | k) <;> rfl
abbrev mX (S : Type) : Type := Nat × List (Option mV) × List mV × S × Nat × Nat
abbrev mP (S : Type) : Type := List mV → S → Nat → Nat → (Option mV → S → Prop) → Prop
abbrev mH (S : Type) : Type := Instr → List mV → S → Nat → Nat → (List mV → S → Nat → Nat → Prop) → Prop
abbrev mC : Type := List (Nat × Instr × Nat)
/-- callees: kind of call, index, how many arguments (the receiver counts), kind of answer, the callee -/
abbrev mQ (S : Type) : Type := List ((Nat × Nat) × Nat × Nat × mP S)
def mm_lk (cd : mC) (pc : Nat) : Option (Instr × Nat) := (cd.find? (fun q => q.1 == pc)).map (fun q => q.2)
def mm_cl {S : Type} (sp : mQ S) (j i : Nat) : Option (Nat × Nat × mP S) := (sp.find? (fun q => q.1.1 == j && q.1.2 == i)).map (fun q => q.2)
def mm_cmp (c : Jvm.ClassFile.Cond) (x y : Int32) : Prop := match c with
  | .eq => x = y
  | .ne => ¬ x = y
  | .lt => x < y
  | .ge => y ≤ x
  | .gt => y < x
  | .le => x ≤ y
def mm_go (pc : Nat) (off : Int) (k : Nat → Prop) : Prop := if 0 ≤ (pc : Int) + off then k ((pc : Int) + off).toNat else False
def mm_tab (pc : Nat) (x : Int) (k : Nat → Prop) : Int → List Int → Prop
  | _, [] => True
  | v, o :: r => (x = v → mm_go pc o k) ∧ mm_tab pc x k (v + 1) r
def mm_lks (pc : Nat) (x : Int) (k : Nat → Prop) (d : Int) : List (Int × Int) → Prop
  | [] => mm_go pc d k
  | q :: r => (x = q.1 → mm_go pc q.2 k) ∧ (¬ x = q.1 → mm_lks pc x k d r)
/-- what a method hands back: nothing, an int, a reference -/
def mN {S : Type} (post : S → Prop) : Option mV → S → Prop := fun r s => r = none ∧ post s
def mI {S : Type} (post : Int32 → S → Prop) : Option mV → S → Prop := fun r s => ∃ v, r = some (.inl v) ∧ post v s
def mR {S : Type} (post : Option Nat → S → Prop) : Option mV → S → Prop := fun r s => ∃ v, r = some (.inr v) ∧ post v s
theorem mN_e {S : Type} (post : S → Prop) (s : S) : mN post none s = post s := propext ⟨fun h => h.2, fun h => ⟨rfl, h⟩⟩
theorem mI_e {S : Type} (post : Int32 → S → Prop) (v : Int32) (s : S) : mI post (some (.inl v)) s = post v s := propext ⟨fun ⟨w, h1, h2⟩ => by cases h1; exact h2, fun h => ⟨v, rfl, h⟩⟩
theorem mR_e {S : Type} (post : Option Nat → S → Prop) (v : Option Nat) (s : S) : mR post (some (.inr v)) s = post v s := propext ⟨fun ⟨w, h1, h2⟩ => by cases h1; exact h2, fun h => ⟨v, rfl, h⟩⟩
def mm_call {S : Type} (sp : mQ S) (j i pc : Nat) (ls : List (Option mV)) (st : List mV) (s : S) (a b : Nat) (k : mX S → Prop) : Prop :=
  match mm_cl sp j i with
  | none => False
  | some (n, kd, P) =>
    if n ≤ st.length ∧ st.length ≤ n + 8 then
      match kd with
      | 0 => ∃ Q0 : S → Prop, P (st.take n).reverse s 0 0 (mN Q0) ∧ ∀ s', Q0 s' → k (pc + 3, ls, st.drop n, s', a, b)
      | 1 => ∃ Q0 : Int32 → S → Prop, P (st.take n).reverse s 0 0 (mI Q0) ∧ ∀ r s', Q0 r s' → k (pc + 3, ls, .inl r :: st.drop n, s', a, b)
      | 2 => ∃ Q0 : Option Nat → S → Prop, P (st.take n).reverse s 0 0 (mR Q0) ∧ ∀ r s', Q0 r s' → k (pc + 3, ls, .inr r :: st.drop n, s', a, b)
      | 3 => ∃ (ca cb : Nat) (Q0 : S → Prop), ca ≤ a ∧ cb ≤ b ∧ P (st.take n).reverse s ca cb (mN Q0) ∧ ∀ s', Q0 s' → k (pc + 3, ls, st.drop n, s', a - ca, b - cb)
      | 4 => ∃ (ca cb : Nat) (Q0 : Int32 → S → Prop), ca ≤ a ∧ cb ≤ b ∧ P (st.take n).reverse s ca cb (mI Q0) ∧ ∀ r s', Q0 r s' → k (pc + 3, ls, .inl r :: st.drop n, s', a - ca, b - cb)
      | _ => ∃ (ca cb : Nat) (Q0 : Option Nat → S → Prop), ca ≤ a ∧ cb ≤ b ∧ P (st.take n).reverse s ca cb (mR Q0) ∧ ∀ r s', Q0 r s' → k (pc + 3, ls, .inr r :: st.drop n, s', a - ca, b - cb)
    else False
def mm_in {S : Type} (rk : Nat) (hk : mH S) (sp : mQ S) (ret : Option mV → S → Prop) (ins : Instr) (len pc : Nat) (ls : List (Option mV)) (st : List mV) (s : S) (a b : Nat) (k : mX S → Prop) : Prop :=
  match ins with
  | .iconst n => k (pc + len, ls, .inl (Int32.ofInt n) :: st, s, a, b)
  | .bipush n => k (pc + len, ls, .inl (Int8.ofInt n).toInt32 :: st, s, a, b)
  | .sipush n => k (pc + len, ls, .inl (Int16.ofInt n).toInt32 :: st, s, a, b)
  | .aconst_null => k (pc + len, ls, .inr none :: st, s, a, b)
  | .iload_n n => match ls[n.1]? with
    | some (some (.inl v)) => k (pc + len, ls, .inl v :: st, s, a, b)
    | _ => False
  | .iload n => match ls[n]? with
    | some (some (.inl v)) => k (pc + len, ls, .inl v :: st, s, a, b)
    | _ => False
  | .aload_n n => match ls[n.1]? with
    | some (some (.inr v)) => k (pc + len, ls, .inr v :: st, s, a, b)
    | _ => False
  | .aload n => match ls[n]? with
    | some (some (.inr v)) => k (pc + len, ls, .inr v :: st, s, a, b)
    | _ => False
  | .istore_n n => match st with
    | .inl v :: st' => if n.1 < ls.length then k (pc + len, ls.set n.1 (some (.inl v)), st', s, a, b) else False
    | _ => False
  | .istore n => match st with
    | .inl v :: st' => if n < ls.length then k (pc + len, ls.set n (some (.inl v)), st', s, a, b) else False
    | _ => False
  | .astore_n n => match st with
    | .inr v :: st' => if n.1 < ls.length then k (pc + len, ls.set n.1 (some (.inr v)), st', s, a, b) else False
    | _ => False
  | .astore n => match st with
    | .inr v :: st' => if n < ls.length then k (pc + len, ls.set n (some (.inr v)), st', s, a, b) else False
    | _ => False
  | .iinc n d => match ls[n]? with
    | some (some (.inl v)) => k (pc + len, ls.set n (some (.inl (v + Int32.ofInt d))), st, s, a, b)
    | _ => False
  | .iadd => match st with
    | .inl y :: .inl x :: st' => k (pc + len, ls, .inl (x + y) :: st', s, a, b)
    | _ => False
  | .isub => match st with
    | .inl y :: .inl x :: st' => k (pc + len, ls, .inl (x - y) :: st', s, a, b)
    | _ => False
  | .imul => match st with
    | .inl y :: .inl x :: st' => k (pc + len, ls, .inl (x * y) :: st', s, a, b)
    | _ => False
  | .iand => match st with
    | .inl y :: .inl x :: st' => k (pc + len, ls, .inl (x &&& y) :: st', s, a, b)
    | _ => False
  | .ior => match st with
    | .inl y :: .inl x :: st' => k (pc + len, ls, .inl (x ||| y) :: st', s, a, b)
    | _ => False
  | .ishl => match st with
    | .inl y :: .inl x :: st' => k (pc + len, ls, .inl (x <<< (y &&& 31)) :: st', s, a, b)
    | _ => False
  | .idiv => match st with
    | .inl y :: .inl x :: st' => ¬ y = 0 ∧ k (pc + len, ls, .inl (x / y) :: st', s, a, b)
    | _ => False
  | .irem => match st with
    | .inl y :: .inl x :: st' => ¬ y = 0 ∧ k (pc + len, ls, .inl (x - x / y * y) :: st', s, a, b)
    | _ => False
  | .dup => match st with
    | v :: st' => k (pc + len, ls, v :: v :: st', s, a, b)
    | _ => False
  | .pop => match st with
    | _ :: st' => k (pc + len, ls, st', s, a, b)
    | _ => False
  | .goto o => mm_go pc o (fun t => k (t, ls, st, s, a, b))
  | .ifCond c o => match st with
    | .inl x :: st' => mm_go pc o (fun t => (mm_cmp c x 0 → k (t, ls, st', s, a, b)) ∧ (¬ mm_cmp c x 0 → k (pc + len, ls, st', s, a, b)))
    | _ => False
  | .if_icmp c o => match st with
    | .inl y :: .inl x :: st' => mm_go pc o (fun t => (mm_cmp c x y → k (t, ls, st', s, a, b)) ∧ (¬ mm_cmp c x y → k (pc + len, ls, st', s, a, b)))
    | _ => False
  | .ifnull o => match st with
    | .inr x :: st' => mm_go pc o (fun t => (x = none → k (t, ls, st', s, a, b)) ∧ (∀ q, x = some q → k (pc + len, ls, st', s, a, b)))
    | _ => False
  | .ifnonnull o => match st with
    | .inr x :: st' => mm_go pc o (fun t => (∀ q, x = some q → k (t, ls, st', s, a, b)) ∧ (x = none → k (pc + len, ls, st', s, a, b)))
    | _ => False
  | .if_acmp c o => match st with
    | .inr y :: .inr x :: st' => (∀ q, x = some q → 24 ≤ q) ∧ (∀ q, y = some q → 24 ≤ q) ∧ (match c with
      | .eq => mm_go pc o (fun t => (x = y → k (t, ls, st', s, a, b)) ∧ (¬ x = y → k (pc + len, ls, st', s, a, b)))
      | .ne => mm_go pc o (fun t => (¬ x = y → k (t, ls, st', s, a, b)) ∧ (x = y → k (pc + len, ls, st', s, a, b))))
    | _ => False
  | .tableswitch d lo hi offs => match st with
    | .inl x :: st' => if offs.toList.length = (hi - lo + 1).toNat then
        ((x.toInt < lo ∨ hi < x.toInt) → mm_go pc d (fun t => k (t, ls, st', s, a, b))) ∧ mm_tab pc x.toInt (fun t => k (t, ls, st', s, a, b)) lo offs.toList else False
    | _ => False
  | .lookupswitch d ps => match st with
    | .inl x :: st' => if (ps.toList.zip (ps.toList.drop 1)).all (fun (a, next) => a.1 < next.1) = true then mm_lks pc x.toInt (fun t => k (t, ls, st', s, a, b)) d ps.toList else False
    | _ => False
  | .ireturn => match st with
    | [.inl v] => (match rk with
      | 1 => ret (some (.inl v)) s
      | 2 => (v = 0 ∨ v = 1) ∧ ret (some (.inl v)) s
      | _ => False)
    | _ => False
  | .areturn => match st with
    | [.inr v] => (match rk with
      | 3 => ret (some (.inr v)) s
      | _ => False)
    | _ => False
  | .return_ => match st with
    | [] => (match rk with
      | 0 => ret none s
      | _ => False)
    | _ => False
  | .invokevirtual i => mm_call sp 0 i pc ls st s a b k
  | .invokestatic i => mm_call sp 1 i pc ls st s a b k
  | .invokespecial i => mm_call sp 2 i pc ls st s a b k
  | ins => hk ins st s a b (fun st' s' a' b' => k (pc + len, ls, st', s', a', b'))
def mm_st {S : Type} (rk : Nat) (cd : mC) (hk : mH S) (sp : mQ S) (ret : Option mV → S → Prop) (x : mX S) (k : mX S → Prop) : Prop :=
  match mm_lk cd x.1 with
  | none => False
  | some q => mm_in rk hk sp ret q.1 q.2 x.1 x.2.1 x.2.2.1 x.2.2.2.1 x.2.2.2.2.1 x.2.2.2.2.2 k
/-- from here the method comes to an end with 'ret' -/
def mm_W {S : Type} (rk : Nat) (cd : mC) (hk : mH S) (sp : mQ S) (ret : Option mV → S → Prop) (x : mX S) : Prop := ∀ P : mX S → Prop, (∀ y, mm_st rk cd hk sp ret y P → P y) → P x
def mH_mono {S : Type} (hk : mH S) : Prop := ∀ (ins : Instr) (st : List mV) (s : S) (a b : Nat) (k k' : List mV → S → Nat → Nat → Prop), (∀ st' s' a' b', k st' s' a' b' → k' st' s' a' b') → hk ins st s a b k → hk ins st s a b k'
theorem mm_go_mono {pc : Nat} {o : Int} {k k' : Nat → Prop} (h : ∀ t, k t → k' t) (h1 : mm_go pc o k) : mm_go pc o k' := by
  unfold mm_go at *
  split at h1
  · rename_i hc
    rw [if_pos hc]
    exact h _ h1
  · exact h1.elim
theorem mm_tab_mono {pc : Nat} {x : Int} {k k' : Nat → Prop} (h : ∀ t, k t → k' t) : ∀ (l : List Int) (v : Int), mm_tab pc x k v l → mm_tab pc x k' v l
  | [], _, _ => trivial
  | _ :: r, v, h1 => ⟨fun q => mm_go_mono h (h1.1 q), mm_tab_mono h r (v + 1) h1.2⟩
theorem mm_lks_mono {pc : Nat} {x d : Int} {k k' : Nat → Prop} (h : ∀ t, k t → k' t) : ∀ (l : List (Int × Int)), mm_lks pc x k d l → mm_lks pc x k' d l
  | [], h1 => mm_go_mono h h1
  | _ :: r, h1 => ⟨fun q => mm_go_mono h (h1.1 q), fun q => mm_lks_mono h r (h1.2 q)⟩
theorem mm_call_mono {S : Type} {sp : mQ S} {j i pc : Nat} {ls : List (Option mV)} {st : List mV} {s : S} {a b : Nat} {k k' : mX S → Prop} (h : ∀ z, k z → k' z) (h1 : mm_call sp j i pc ls st s a b k) : mm_call sp j i pc ls st s a b k' := by
  unfold mm_call at *
  split at h1
  · exact h1.elim
  · split at h1
    · rename_i hc
      rw [if_pos hc]
      split at h1
      · obtain ⟨Q0, h2, h3⟩ := h1; exact ⟨Q0, h2, fun s' q => h _ (h3 s' q)⟩
      · obtain ⟨Q0, h2, h3⟩ := h1; exact ⟨Q0, h2, fun r s' q => h _ (h3 r s' q)⟩
      · obtain ⟨Q0, h2, h3⟩ := h1; exact ⟨Q0, h2, fun r s' q => h _ (h3 r s' q)⟩
      · obtain ⟨ca, cb, Q0, h4, h5, h2, h3⟩ := h1; exact ⟨ca, cb, Q0, h4, h5, h2, fun s' q => h _ (h3 s' q)⟩
      · obtain ⟨ca, cb, Q0, h4, h5, h2, h3⟩ := h1; exact ⟨ca, cb, Q0, h4, h5, h2, fun r s' q => h _ (h3 r s' q)⟩
      · obtain ⟨ca, cb, Q0, h4, h5, h2, h3⟩ := h1; exact ⟨ca, cb, Q0, h4, h5, h2, fun r s' q => h _ (h3 r s' q)⟩
    · exact h1.elim
set_option maxHeartbeats 4000000 in
theorem mm_in_mono {S : Type} {rk : Nat} {hk : mH S} (hm : mH_mono hk) {sp : mQ S} {ret : Option mV → S → Prop} {ins : Instr} {len pc : Nat} {ls : List (Option mV)} {st : List mV} {s : S} {a b : Nat} {k k' : mX S → Prop} (h : ∀ z, k z → k' z) (h1 : mm_in rk hk sp ret ins len pc ls st s a b k) : mm_in rk hk sp ret ins len pc ls st s a b k' := by
  unfold mm_in at *
  split at h1 <;> (try exact h _ h1) <;> (try exact mm_call_mono h h1) <;> (try exact hm _ _ _ _ _ _ _ (fun _ _ _ _ q => h _ q) h1) <;> (try exact mm_go_mono (fun t q => h _ q) h1)
  all_goals (split at h1 <;> (try exact h1.elim) <;> (try exact h _ h1) <;> (try exact h1) <;> (try exact ⟨h1.1, h _ h1.2⟩))
  all_goals first
    | (split at h1 <;> first | exact h1 | exact h1.elim | exact ⟨h1.1, h1.2⟩)
    | (split at h1; rename_i hc; rw [if_pos hc]; exact h _ h1; exact h1.elim)
    | exact mm_go_mono (fun t h1 => ⟨fun q => h _ (h1.1 q), fun q => h _ (h1.2 q)⟩) h1
    | exact mm_go_mono (fun t h1 => ⟨fun q => h _ (h1.1 q), fun q e => h _ (h1.2 q e)⟩) h1
    | exact mm_go_mono (fun t h1 => ⟨fun q e => h _ (h1.1 q e), fun q => h _ (h1.2 q)⟩) h1
    | (obtain ⟨g1, g2, h1⟩ := h1
       refine ⟨g1, g2, ?_⟩
       split at h1 <;> exact mm_go_mono (fun t h1 => ⟨fun q => h _ (h1.1 q), fun q => h _ (h1.2 q)⟩) h1)
    | (split at h1
       · rename_i hc; rw [if_pos hc]; exact ⟨fun q => mm_go_mono (fun t q => h _ q) (h1.1 q), mm_tab_mono (fun t q => h _ q) _ _ h1.2⟩
       · exact h1.elim)
    | (split at h1
       · rename_i hc; rw [if_pos hc]; exact mm_lks_mono (fun t q => h _ q) _ h1
       · exact h1.elim)
theorem mm_st_mono {S : Type} {rk : Nat} {cd : mC} {hk : mH S} (hm : mH_mono hk) {sp : mQ S} {ret : Option mV → S → Prop} {x : mX S} {k k' : mX S → Prop} (h : ∀ z, k z → k' z) (h1 : mm_st rk cd hk sp ret x k) : mm_st rk cd hk sp ret x k' := by
  unfold mm_st at *
  split at h1
  · exact h1.elim
  · exact mm_in_mono hm h h1
theorem mm_W_eq {S : Type} {rk : Nat} {cd : mC} {hk : mH S} (hm : mH_mono hk) {sp : mQ S} {ret : Option mV → S → Prop} (x : mX S) : mm_W rk cd hk sp ret x = mm_st rk cd hk sp ret x (mm_W rk cd hk sp ret) := by
  apply propext
  constructor
  · intro h
    exact h _ (fun y hy => mm_st_mono hm (fun z hz P hP => hP z (mm_st_mono hm (fun w hw => hw P hP) hz)) hy)
  · intro h P hP
    exact hP x (mm_st_mono hm (fun z hz => hz P hP) h)
/-! a loop: a measure that falls -/
theorem mm_loop {α : Type} (G : α → Prop) (Inv : α → Prop) (mu : α → Nat) (h : ∀ x, Inv x → (∀ y, Inv y → mu y < mu x → G y) → G x) : ∀ x, Inv x → G x := by
  have key : ∀ (n : Nat) (x : α), mu x < n → Inv x → G x := by
    intro n
    induction n with
    | zero => intro x hx; omega
    | succ n ih => intro x hx hi; exact h x hi (fun y hy hl => ih y (by omega) hy)
  exact fun x hi => key (mu x + 1) x (by omega) hi
end
section
/-! ===== the small machine is sound: what it says, the machine does ===== -/
def mm_okl (ins : Instr) (len : Nat) : Bool := match ins with
  | .iconst _ => len == 1
  | .bipush _ => len == 2
  | .sipush _ => len == 3
  | .aconst_null => len == 1
  | .iload_n _ => len == 1
  | .iload _ => len == 2
  | .aload_n _ => len == 1
  | .aload _ => len == 2
  | .istore_n _ => len == 1
  | .istore _ => len == 2
  | .astore_n _ => len == 1
  | .astore _ => len == 2
  | .iinc _ _ => len == 3
  | .iadd => len == 1
  | .isub => len == 1
  | .imul => len == 1
  | .iand => len == 1
  | .ior => len == 1
  | .ishl => len == 1
  | .idiv => len == 1
  | .irem => len == 1
  | .dup => len == 1
  | .pop => len == 1
  | .goto _ => len == 3
  | .ifCond _ _ => len == 3
  | .if_icmp _ _ => len == 3
  | .ifnull _ => len == 3
  | .ifnonnull _ => len == 3
  | .ireturn => len == 1
  | .areturn => len == 1
  | .return_ => len == 1
  | .invokevirtual _ => len == 3
  | .invokestatic _ => len == 3
  | .invokespecial _ => len == 3
  | .getfield _ => len == 3
  | .putfield _ => len == 3
  | .getstatic _ => len == 3
  | .iaload => len == 1
  | .iastore => len == 1
  | .baload => len == 1
  | .bastore => len == 1
  | .aaload => len == 1
  | .aastore => len == 1
  | .arraylength => len == 1
  | .ldc _ => len == 2
  | .new _ => len == 3
  | .anewarray _ => len == 3
  | .newarray _ => len == 2
  | .if_acmp _ _ => len == 3
  | _ => true
def mm_L (rho : Nat → Nat) (ls : Array Slot) (l : List (Option mV)) : Prop := ls.size = l.length ∧ lv_wf ls ∧ ∀ (i : Nat) (v : mV), l[i]? = some (some v) → ls[i]? = some (.val (mE rho v))
def mm_pairs (rho : Nat → Nat) (l : List (Option mV)) : List (Nat × Value) := (List.range l.length).filterMap (fun i => match l[i]? with
  | some (some v) => some (i, mE rho v)
  | _ => none)
theorem mm_L_has {rho : Nat → Nat} {ls : Array Slot} {l : List (Option mV)} (h : mm_L rho ls l) : lv_has ls l.length (mm_pairs rho l) := by
  refine ⟨h.1, h.2.1, fun q hq => ?_⟩
  obtain ⟨i, -, hi⟩ := List.mem_filterMap.mp hq
  split at hi
  · rename_i v hv
    cases hi
    exact h.2.2 i v hv
  · cases hi
theorem mm_pairs_mem {rho : Nat → Nat} {l : List (Option mV)} {i : Nat} {v : mV} (h : l[i]? = some (some v)) : (i, mE rho v) ∈ mm_pairs rho l := by
  refine List.mem_filterMap.mpr ⟨i, List.mem_range.mpr (List.getElem?_eq_some_iff.mp h).1, ?_⟩
  rw [h]
theorem mm_L_set {rho : Nat → Nat} {ls : Array Slot} {l : List (Option mV)} {i : Nat} {v : mV} (hi : i < l.length) (h : lv_has ls l.length ((i, mE rho v) :: (mm_pairs rho l).filter (fun q => !(q.1 == i) && !(q.1 + 1 == i && q.2.category == 2)))) : mm_L rho ls (l.set i (some v)) := by
  refine ⟨by rw [List.length_set]; exact h.1, h.2.1, fun j w hj => ?_⟩
  by_cases hji : j = i
  · subst hji
    rw [List.getElem?_set_self hi] at hj
    cases hj
    exact h.2.2 _ List.mem_cons_self
  · rw [List.getElem?_set_ne (Ne.symm hji)] at hj
    refine h.2.2 (j, mE rho w) (List.mem_cons_of_mem _ (List.mem_filter.mpr ⟨mm_pairs_mem hj, ?_⟩))
    simp [hji, mE_cat]
theorem mm_sl (rho : Nat → Nat) : ∀ as : List mV, lg_sl (as.map (mE rho)) = as.map (fun v => Slot.val (mE rho v))
  | [] => rfl
  | v :: r => by
    have h := mm_sl rho r
    unfold lg_sl at h ⊢
    rw [List.map_cons, List.flatMap_cons, h, mE_cat]
    rfl
theorem mm_L_entry (rho : Nat → Nat) (as : List mV) {nL : Nat} (h : as.length ≤ nL) : mm_L rho ((lg_sl (as.map (mE rho)) ++ List.replicate (nL - (lg_sl (as.map (mE rho))).length) Slot.unset).toArray) (as.map some ++ List.replicate (nL - as.length) none) := by
  have hl : (lg_sl (as.map (mE rho))).length = as.length := by rw [mm_sl, List.length_map]
  have h0 := lv_entry (as.map (mE rho)) (n := nL) (by rw [hl]; exact h)
  refine ⟨?_, h0.2.1, fun i v hv => ?_⟩
  · rw [h0.1]
    simp
    omega
  · have hi : i < as.length := by
      rcases Nat.lt_or_ge i as.length with q | q
      · exact q
      · rw [List.getElem?_append_right (by simpa using q), List.getElem?_replicate] at hv
        split at hv <;> cases hv
    rw [List.getElem?_append_left (by simpa using hi), List.getElem?_map, List.getElem?_eq_getElem hi] at hv
    cases hv
    rw [mm_sl]
    simp only [List.getElem?_toArray]
    rw [List.getElem?_append_left (by simpa using hi)]
    simp [hi]
section MMS
variable {S : Type}
def mm_Q (Wd : S → Heap → Prop) (rho : Nat → Nat) (A : Nat → Prop) (ret : Option mV → S → Prop) : Array Value → State → Outcome → State → Prop := fun _ st oc t => (∃ (r : Option mV) (s' : S), oc = .returned (r.map (mE rho)) ∧ ret r s' ∧ Wd s' t.heap) ∧ va_F A st t
def mm_R (p : Program) (l : Launch) (e : Env) (R : Room) (s0 : State) (m : MethodId) (args : Array Value) (below : List Frame) (meth : Method) (c : Code) (nL : Nat) (Wd : S → Heap → Prop) (rho : Nat → Nat) (A : Nat → Prop) (Q : State → Prop) (x : mX S) : Prop :=
  ∀ (H : Heap) (locs : List Loc) (cells slots : Nat) (ls : Array Slot), Wd x.2.2.2.1 H → va_S A s0.heap H locs → mm_L rho ls x.2.1 → x.2.1.length = nL → cells + x.2.2.2.2.1 ≤ R.cells → slots + x.2.2.2.2.2 ≤ R.slots → W p l e R s0 m args below meth c H locs cells slots Q (F0 m x.1 ls (x.2.2.1.map (mE rho)))
def mm_HS (p : Program) (l : Launch) (e : Env) (R : Room) (s0 : State) (m : MethodId) (args : Array Value) (below : List Frame) (meth : Method) (c : Code) (cc : ByteArray) (Wd : S → Heap → Prop) (rho : Nat → Nat) (A : Nat → Prop) (hk : mH S) (Q : State → Prop) : Prop :=
  ∀ (ins : Instr) (len pc : Nat) (st : List mV) (s : S) (a b : Nat) (k : List mV → S → Nat → Nat → Prop), hk ins st s a b k → decode cc pc = .ok (ins, len) → mm_okl ins len = true → ∀ (H : Heap) (locs : List Loc) (cells slots : Nat) (ls : Array Slot), Wd s H → va_S A s0.heap H locs → cells + a ≤ R.cells → slots + b ≤ R.slots →
    (∀ (st' : List mV) (s' : S) (a' b' : Nat) (H' : Heap) (locs' : List Loc) (cells' slots' : Nat), k st' s' a' b' → Wd s' H' → va_S A s0.heap H' locs' → cells' + a' ≤ R.cells → slots' + b' ≤ R.slots → W p l e R s0 m args below meth c H' locs' cells' slots' Q (F0 m (pc + len) ls (st'.map (mE rho)))) →
    W p l e R s0 m args below meth c H locs cells slots Q (F0 m pc ls (st.map (mE rho)))
def mm_iv (j i : Nat) : Instr := match j with
  | 0 => .invokevirtual i
  | 1 => .invokestatic i
  | _ => .invokespecial i
def mm_CS (p : Program) (l : Launch) (e : Env) (R : Room) (s0 : State) (m : MethodId) (args : Array Value) (below : List Frame) (meth : Method) (c : Code) (cc : ByteArray) (nL : Nat) (Wd : S → Heap → Prop) (rho : Nat → Nat) (A : Nat → Prop) (q : (Nat × Nat) × Nat × Nat × mP S) : Prop :=
  ∀ (as : List mV) (s : S) (mc ms : Nat) (ret : Option mV → S → Prop), q.2.2.2 as s mc ms ret → as.length = q.2.1 → ∀ (H : Heap) (locs : List Loc) (cells slots pc : Nat) (ls : Array Slot) (rest : List mV), decode cc pc = .ok (mm_iv q.1.1 q.1.2, 3) → Wd s H → va_S A s0.heap H locs → cells + mc ≤ R.cells → slots + ms ≤ R.slots → ls.size = nL → rest.length ≤ 8 →
    va_Run p l e R s0 m args below meth c H locs cells slots mc ms (F0 m pc ls (as.reverse.map (mE rho) ++ rest.map (mE rho))) (rest.map (mE rho)) (mm_Q Wd rho A ret #[]) A
def mm_rk (rk : Nat) (rt : Option FieldType) : Prop := match rk with
  | 0 => rt = none
  | 1 => rt = some .int
  | 2 => rt = some .boolean
  | _ => ∃ ty, rt = some ty ∧ ((∃ n, ty = .object n) ∨ ∃ t, ty = .array t)
theorem mm_go_get {pc : Nat} {o : Int} {k : Nat → Prop} (h : mm_go pc o k) : ∃ t : Nat, (pc : Int) + o = (t : Int) ∧ k t := by
  unfold mm_go at h
  split at h
  · rename_i h0
    exact ⟨_, (Int.toNat_of_nonneg h0).symm, h⟩
  · exact h.elim
theorem mm_tab_get {pc : Nat} {x : Int} {k : Nat → Prop} : ∀ (l : List Int) (v : Int), mm_tab pc x k v l → ∀ (j : Nat), j < l.length → x = v + j → ∃ (o : Int) (t : Nat), l[j]? = some o ∧ (pc : Int) + o = (t : Int) ∧ k t
  | [], _, _, j, hj, _ => by simp at hj
  | o :: r, v, h, 0, _, hx => by
    obtain ⟨t, h1, h2⟩ := mm_go_get (h.1 (by simpa using hx))
    exact ⟨o, t, rfl, h1, h2⟩
  | o :: r, v, h, j + 1, hj, hx => by
    obtain ⟨o', t, h1, h2, h3⟩ := mm_tab_get r (v + 1) h.2 j (by simpa using hj) (by rw [hx]; push_cast; omega)
    exact ⟨o', t, by simpa using h1, h2, h3⟩
theorem mm_lks_get {pc : Nat} {x d : Int} {k : Nat → Prop} : ∀ (l : List (Int × Int)), mm_lks pc x k d l → ∃ (o : Int) (t : Nat), Op.lookupswitch.offset l d x = o ∧ (pc : Int) + o = (t : Int) ∧ k t
  | [], h => by
    obtain ⟨t, h1, h2⟩ := mm_go_get h
    exact ⟨d, t, rfl, h1, h2⟩
  | q :: r, h => by
    by_cases hx : x = q.1
    · obtain ⟨t, h1, h2⟩ := mm_go_get (h.1 hx)
      refine ⟨q.2, t, ?_, h1, h2⟩
      obtain ⟨q1, q2⟩ := q
      rw [Op.lookupswitch.offset_cons, if_pos hx.symm]
    · obtain ⟨o, t, h1, h2, h3⟩ := mm_lks_get r (h.2 hx)
      refine ⟨o, t, ?_, h2, h3⟩
      obtain ⟨q1, q2⟩ := q
      rw [Op.lookupswitch.offset_cons, if_neg (fun e => hx e.symm)]
      exact h1
end MMS
end
section
section MMT
variable {S : Type} {p : Program} {l : Launch} {e : Env} {R : Room} {s0 : State} {m : MethodId} {args : Array Value} {below : List Frame} {meth : Method} {c : Code} {cc : ByteArray} {nL : Nat} {Wd : S → Heap → Prop} {rho : Nat → Nat} {A : Nat → Prop} {hk : mH S} {sp : mQ S} {cd : mC} {rk : Nat} {ret : Option mV → S → Prop} {Q : State → Prop}
theorem mm_cl_mem {j i n kd : Nat} {P : mP S} (h : mm_cl sp j i = some (n, kd, P)) : ((j, i), n, kd, P) ∈ sp := by
  unfold mm_cl at h
  cases hf : sp.find? (fun q => q.1.1 == j && q.1.2 == i) with
  | none => rw [hf] at h; cases h
  | some q =>
    rw [hf] at h
    have h1 := List.find?_some hf
    have h2 := List.mem_of_find?_eq_some hf
    simp only [Bool.and_eq_true, beq_iff_eq] at h1
    obtain ⟨⟨q1, q2⟩, q3⟩ := q
    have h3 : q3 = (n, kd, P) := Option.some.inj h
    subst h3
    obtain ⟨h4, h5⟩ := h1
    dsimp only at h4 h5
    subst h4; subst h5
    exact h2
theorem mm_call_sound (hx : p.tables.exec = Jvm.exec) (CS : ∀ q ∈ sp, mm_CS p l e R s0 m args below meth c cc nL Wd rho A q) {j i pc : Nat} (hd : decode cc pc = .ok (mm_iv j i, 3)) {l0 : List (Option mV)} {st : List mV} {s : S} {a b : Nat} (h : mm_call sp j i pc l0 st s a b (mm_R p l e R s0 m args below meth c nL Wd rho A Q)) : mm_R p l e R s0 m args below meth c nL Wd rho A Q (pc, l0, st, s, a, b) := by
  unfold mm_call at h
  split at h
  · exact h.elim
  · rename_i n kd P hq
    have hC := CS _ (mm_cl_mem hq)
    split at h
    · rename_i hn
      have hlen : (st.take n).reverse.length = n := by rw [List.length_reverse, List.length_take]; omega
      have hst : st.map (mE rho) = (st.take n).reverse.reverse.map (mE rho) ++ (st.drop n).map (mE rho) := by rw [List.reverse_reverse, ← List.map_append, List.take_append_drop]
      intro H locs cells slots ls hW hS hL hll hc hs
      dsimp only at hW hS hL hll hc hs ⊢
      have hsz : ls.size = nL := hL.1.trans hll
      have hrl : (st.drop n).length ≤ 8 := by rw [List.length_drop]; omega
      rw [hst]
      split at h
      · obtain ⟨Q0, h1, h2⟩ := h
        have hr := hC _ _ _ _ _ h1 hlen H locs cells slots pc ls (st.drop n) hd hW hS (by omega) (by omega) hsz hrl
        intro T hT X
        obtain ⟨v, st₀, t, T', L, h0, X', hL', e1, e2, ⟨⟨r, s', hv, hp, hb⟩, hz, hk⟩, stp⟩ := hr T hT X
        obtain ⟨rfl, hp⟩ := hp
        cases hv
        rw [h0] at hz hk
        obtain ⟨t2, a1, b1⟩ := h2 s' hp T'.heap (locs ++ L) (cells + 0) (slots + 0) ls (by rw [e1]; exact hb) ⟨Nat.le_trans hS.1 (by rw [e1]; exact hz), fun q q1 q2 => by rw [e1, hk q (Nat.lt_of_lt_of_le q1 hS.1) q2]; exact hS.2.1 q q1 q2, fun q hq => by
          rcases List.mem_append.mp hq with h | h
          · exact hS.2.2 q h
          · exact hL' q h⟩ hL hll (by dsimp only; omega) (by dsimp only; omega) T' rfl X'
        exact ⟨t2, stp t2 a1, b1⟩
      · obtain ⟨Q0, h1, h2⟩ := h
        have hr := hC _ _ _ _ _ h1 hlen H locs cells slots pc ls (st.drop n) hd hW hS (by omega) (by omega) hsz hrl
        intro T hT X
        obtain ⟨v, st₀, t, T', L, h0, X', hL', e1, e2, ⟨⟨r, s', hv, hp, hb⟩, hz, hk⟩, stp⟩ := hr T hT X
        obtain ⟨r0, rfl, hp⟩ := hp
        cases hv
        rw [h0] at hz hk
        obtain ⟨t2, a1, b1⟩ := h2 r0 s' hp T'.heap (locs ++ L) (cells + 0) (slots + 0) ls (by rw [e1]; exact hb) ⟨Nat.le_trans hS.1 (by rw [e1]; exact hz), fun q q1 q2 => by rw [e1, hk q (Nat.lt_of_lt_of_le q1 hS.1) q2]; exact hS.2.1 q q1 q2, fun q hq => by
          rcases List.mem_append.mp hq with h | h
          · exact hS.2.2 q h
          · exact hL' q h⟩ hL hll (by dsimp only; omega) (by dsimp only; omega) T' rfl X'
        exact ⟨t2, stp t2 a1, b1⟩
      · obtain ⟨Q0, h1, h2⟩ := h
        have hr := hC _ _ _ _ _ h1 hlen H locs cells slots pc ls (st.drop n) hd hW hS (by omega) (by omega) hsz hrl
        intro T hT X
        obtain ⟨v, st₀, t, T', L, h0, X', hL', e1, e2, ⟨⟨r, s', hv, hp, hb⟩, hz, hk⟩, stp⟩ := hr T hT X
        obtain ⟨r0, rfl, hp⟩ := hp
        cases hv
        rw [h0] at hz hk
        obtain ⟨t2, a1, b1⟩ := h2 r0 s' hp T'.heap (locs ++ L) (cells + 0) (slots + 0) ls (by rw [e1]; exact hb) ⟨Nat.le_trans hS.1 (by rw [e1]; exact hz), fun q q1 q2 => by rw [e1, hk q (Nat.lt_of_lt_of_le q1 hS.1) q2]; exact hS.2.1 q q1 q2, fun q hq => by
          rcases List.mem_append.mp hq with h | h
          · exact hS.2.2 q h
          · exact hL' q h⟩ hL hll (by dsimp only; omega) (by dsimp only; omega) T' rfl X'
        exact ⟨t2, stp t2 a1, b1⟩
      · obtain ⟨ca, cb, Q0, g1, g2, h1, h2⟩ := h
        have hr := hC _ _ _ _ _ h1 hlen H locs cells slots pc ls (st.drop n) hd hW hS (by omega) (by omega) hsz hrl
        intro T hT X
        obtain ⟨v, st₀, t, T', L, h0, X', hL', e1, e2, ⟨⟨r, s', hv, hp, hb⟩, hz, hk⟩, stp⟩ := hr T hT X
        obtain ⟨rfl, hp⟩ := hp
        cases hv
        rw [h0] at hz hk
        obtain ⟨t2, a1, b1⟩ := h2 s' hp T'.heap (locs ++ L) (cells + ca) (slots + cb) ls (by rw [e1]; exact hb) ⟨Nat.le_trans hS.1 (by rw [e1]; exact hz), fun q q1 q2 => by rw [e1, hk q (Nat.lt_of_lt_of_le q1 hS.1) q2]; exact hS.2.1 q q1 q2, fun q hq => by
          rcases List.mem_append.mp hq with h | h
          · exact hS.2.2 q h
          · exact hL' q h⟩ hL hll (by dsimp only; omega) (by dsimp only; omega) T' rfl X'
        exact ⟨t2, stp t2 a1, b1⟩
      · obtain ⟨ca, cb, Q0, g1, g2, h1, h2⟩ := h
        have hr := hC _ _ _ _ _ h1 hlen H locs cells slots pc ls (st.drop n) hd hW hS (by omega) (by omega) hsz hrl
        intro T hT X
        obtain ⟨v, st₀, t, T', L, h0, X', hL', e1, e2, ⟨⟨r, s', hv, hp, hb⟩, hz, hk⟩, stp⟩ := hr T hT X
        obtain ⟨r0, rfl, hp⟩ := hp
        cases hv
        rw [h0] at hz hk
        obtain ⟨t2, a1, b1⟩ := h2 r0 s' hp T'.heap (locs ++ L) (cells + ca) (slots + cb) ls (by rw [e1]; exact hb) ⟨Nat.le_trans hS.1 (by rw [e1]; exact hz), fun q q1 q2 => by rw [e1, hk q (Nat.lt_of_lt_of_le q1 hS.1) q2]; exact hS.2.1 q q1 q2, fun q hq => by
          rcases List.mem_append.mp hq with h | h
          · exact hS.2.2 q h
          · exact hL' q h⟩ hL hll (by dsimp only; omega) (by dsimp only; omega) T' rfl X'
        exact ⟨t2, stp t2 a1, b1⟩
      · obtain ⟨ca, cb, Q0, g1, g2, h1, h2⟩ := h
        have hr := hC _ _ _ _ _ h1 hlen H locs cells slots pc ls (st.drop n) hd hW hS (by omega) (by omega) hsz hrl
        intro T hT X
        obtain ⟨v, st₀, t, T', L, h0, X', hL', e1, e2, ⟨⟨r, s', hv, hp, hb⟩, hz, hk⟩, stp⟩ := hr T hT X
        obtain ⟨r0, rfl, hp⟩ := hp
        cases hv
        rw [h0] at hz hk
        obtain ⟨t2, a1, b1⟩ := h2 r0 s' hp T'.heap (locs ++ L) (cells + ca) (slots + cb) ls (by rw [e1]; exact hb) ⟨Nat.le_trans hS.1 (by rw [e1]; exact hz), fun q q1 q2 => by rw [e1, hk q (Nat.lt_of_lt_of_le q1 hS.1) q2]; exact hS.2.1 q q1 q2, fun q hq => by
          rcases List.mem_append.mp hq with h | h
          · exact hS.2.2 q h
          · exact hL' q h⟩ hL hll (by dsimp only; omega) (by dsimp only; omega) T' rfl X'
        exact ⟨t2, stp t2 a1, b1⟩
    · exact h.elim
end MMT
end
section
section MMU
variable {S : Type} {p : Program} {l : Launch} {e : Env} {R : Room} {s0 : State} {m : MethodId} {args : Array Value} {below : List Frame} {meth : Method} {c : Code} {cc : ByteArray} {nL : Nat} {Wd : S → Heap → Prop} {rho : Nat → Nat} {A : Nat → Prop} {hk : mH S} {sp : mQ S} {cd : mC} {rk : Nat} {ret : Option mV → S → Prop}
set_option maxHeartbeats 4000000 in
theorem mm_step (hx : p.tables.exec = Jvm.exec) (hb : c.code = cc) (hcd : ∀ pc ins len, mm_lk cd pc = some (ins, len) → decode cc pc = .ok (ins, len)) (hln : ∀ pc ins len, mm_lk cd pc = some (ins, len) → mm_okl ins len = true) (hac : (∀ x y, 24 ≤ x → 24 ≤ y → rho x = rho y → x = y) ∨ ∀ pc d o len, mm_lk cd pc ≠ some (.if_acmp d o, len)) (hlocks : meth.locks = false) (hrt : mm_rk rk meth.sig.returnType)
    (HS : mm_HS p l e R s0 m args below meth c cc Wd rho A hk (MQ below (mm_Q Wd rho A ret) args s0 R.cells R.slots A)) (CS : ∀ q ∈ sp, mm_CS p l e R s0 m args below meth c cc nL Wd rho A q) (y : mX S)
    (hy : mm_st rk cd hk sp ret y (mm_R p l e R s0 m args below meth c nL Wd rho A (MQ below (mm_Q Wd rho A ret) args s0 R.cells R.slots A))) : mm_R p l e R s0 m args below meth c nL Wd rho A (MQ below (mm_Q Wd rho A ret) args s0 R.cells R.slots A) y := by
  obtain ⟨pc, l0, st, s, a, b⟩ := y
  unfold mm_st at hy
  dsimp only at hy
  split at hy
  · exact hy.elim
  rename_i q hq
  obtain ⟨ins, len⟩ := q
  have hd := hcd pc ins len hq
  have hn := hln pc ins len hq
  dsimp only at hy
  unfold mm_in at hy
  split at hy
  -- iconst
  · obtain rfl : len = 1 := by simpa [mm_okl] using hn
    intro H locs cells slots ls hW hS hL hlen hc hs
    exact lv_iconst hx hb hd rfl (hy H locs cells slots ls hW hS hL hlen hc hs)
  -- bipush
  · obtain rfl : len = 2 := by simpa [mm_okl] using hn
    intro H locs cells slots ls hW hS hL hlen hc hs
    exact lv_bipush hx hb hd rfl (hy H locs cells slots ls hW hS hL hlen hc hs)
  -- sipush
  · obtain rfl : len = 3 := by simpa [mm_okl] using hn
    intro H locs cells slots ls hW hS hL hlen hc hs
    exact lv_sipush hx hb hd rfl (hy H locs cells slots ls hW hS hL hlen hc hs)
  -- aconst_null
  · obtain rfl : len = 1 := by simpa [mm_okl] using hn
    intro H locs cells slots ls hW hS hL hlen hc hs
    exact lv_null hx hb hd (hy H locs cells slots ls hW hS hL hlen hc hs)
  -- iload_n
  · obtain rfl : len = 1 := by simpa [mm_okl] using hn
    split at hy
    · rename_i v hv
      intro H locs cells slots ls hW hS hL hlen hc hs
      exact lv_iload_n hx hb hd rfl (hL.2.2 _ _ hv) (hy H locs cells slots ls hW hS hL hlen hc hs)
    · exact hy.elim
  -- iload
  · obtain rfl : len = 2 := by simpa [mm_okl] using hn
    split at hy
    · rename_i v hv
      intro H locs cells slots ls hW hS hL hlen hc hs
      exact lv_iload hx hb hd (hL.2.2 _ _ hv) (hy H locs cells slots ls hW hS hL hlen hc hs)
    · exact hy.elim
  -- aload_n
  · obtain rfl : len = 1 := by simpa [mm_okl] using hn
    split at hy
    · rename_i v hv
      intro H locs cells slots ls hW hS hL hlen hc hs
      rcases v with _ | v
      · exact lv_aload_nN hx hb hd rfl (hL.2.2 _ _ hv) (hy H locs cells slots ls hW hS hL hlen hc hs)
      · exact lv_aload_n hx hb hd rfl (hL.2.2 _ _ hv) (hy H locs cells slots ls hW hS hL hlen hc hs)
    · exact hy.elim
  -- aload
  · obtain rfl : len = 2 := by simpa [mm_okl] using hn
    split at hy
    · rename_i v hv
      intro H locs cells slots ls hW hS hL hlen hc hs
      rcases v with _ | v
      · exact lv_aloadN hx hb hd (hL.2.2 _ _ hv) (hy H locs cells slots ls hW hS hL hlen hc hs)
      · exact lv_aload hx hb hd (hL.2.2 _ _ hv) (hy H locs cells slots ls hW hS hL hlen hc hs)
    · exact hy.elim
  -- istore_n
  · obtain rfl : len = 1 := by simpa [mm_okl] using hn
    split at hy
    · split at hy
      · rename_i hi
        intro H locs cells slots ls hW hS hL hlen hc hs
        exact lv_istore_n hx hb hd rfl (mm_L_has hL) hi rfl (fun ls' hl' => hy H locs cells slots ls' hW hS (mm_L_set hi hl') (by dsimp only; rw [List.length_set]; exact hlen) hc hs)
      · exact hy.elim
    · exact hy.elim
  -- istore
  · obtain rfl : len = 2 := by simpa [mm_okl] using hn
    split at hy
    · split at hy
      · rename_i hi
        intro H locs cells slots ls hW hS hL hlen hc hs
        exact lv_istore hx hb hd (mm_L_has hL) hi rfl (fun ls' hl' => hy H locs cells slots ls' hW hS (mm_L_set hi hl') (by dsimp only; rw [List.length_set]; exact hlen) hc hs)
      · exact hy.elim
    · exact hy.elim
  -- astore_n
  · obtain rfl : len = 1 := by simpa [mm_okl] using hn
    split at hy
    · rename_i v st'
      split at hy
      · rename_i hi
        intro H locs cells slots ls hW hS hL hlen hc hs
        rcases v with _ | v
        · exact lv_astore_nN hx hb hd rfl (mm_L_has hL) hi rfl (fun ls' hl' => hy H locs cells slots ls' hW hS (mm_L_set (v := .inr none) hi hl') (by dsimp only; rw [List.length_set]; exact hlen) hc hs)
        · exact lv_astore_n hx hb hd rfl (mm_L_has hL) hi rfl (fun ls' hl' => hy H locs cells slots ls' hW hS (mm_L_set (v := .inr (some v)) hi hl') (by dsimp only; rw [List.length_set]; exact hlen) hc hs)
      · exact hy.elim
    · exact hy.elim
  -- astore
  · obtain rfl : len = 2 := by simpa [mm_okl] using hn
    split at hy
    · rename_i v st'
      split at hy
      · rename_i hi
        intro H locs cells slots ls hW hS hL hlen hc hs
        rcases v with _ | v
        · exact lv_astoreN hx hb hd (mm_L_has hL) hi rfl (fun ls' hl' => hy H locs cells slots ls' hW hS (mm_L_set (v := .inr none) hi hl') (by dsimp only; rw [List.length_set]; exact hlen) hc hs)
        · exact lv_astore hx hb hd (mm_L_has hL) hi rfl (fun ls' hl' => hy H locs cells slots ls' hW hS (mm_L_set (v := .inr (some v)) hi hl') (by dsimp only; rw [List.length_set]; exact hlen) hc hs)
      · exact hy.elim
    · exact hy.elim
  -- iinc
  · obtain rfl : len = 3 := by simpa [mm_okl] using hn
    split at hy
    · rename_i v hv
      intro H locs cells slots ls hW hS hL hlen hc hs
      have hi := (List.getElem?_eq_some_iff.mp hv).1
      obtain ⟨kk, hkk⟩ := List.getElem?_of_mem (mm_pairs_mem (rho := rho) hv)
      exact lv_iinc hx hb hd (mm_L_has hL) hkk rfl hi rfl (fun ls' hl' => hy H locs cells slots ls' hW hS (mm_L_set hi hl') (by dsimp only; rw [List.length_set]; exact hlen) hc hs)
    · exact hy.elim
  -- iadd
  · obtain rfl : len = 1 := by simpa [mm_okl] using hn
    split at hy
    · intro H locs cells slots ls hW hS hL hlen hc hs
      exact lv_iadd hx hb hd (hy H locs cells slots ls hW hS hL hlen hc hs)
    · exact hy.elim
  -- isub
  · obtain rfl : len = 1 := by simpa [mm_okl] using hn
    split at hy
    · intro H locs cells slots ls hW hS hL hlen hc hs
      exact lv_isub hx hb hd (hy H locs cells slots ls hW hS hL hlen hc hs)
    · exact hy.elim
  -- imul
  · obtain rfl : len = 1 := by simpa [mm_okl] using hn
    split at hy
    · intro H locs cells slots ls hW hS hL hlen hc hs
      exact lv_imul hx hb hd (hy H locs cells slots ls hW hS hL hlen hc hs)
    · exact hy.elim
  -- iand
  · obtain rfl : len = 1 := by simpa [mm_okl] using hn
    split at hy
    · intro H locs cells slots ls hW hS hL hlen hc hs
      exact lv_iand hx hb hd (hy H locs cells slots ls hW hS hL hlen hc hs)
    · exact hy.elim
  -- ior
  · obtain rfl : len = 1 := by simpa [mm_okl] using hn
    split at hy
    · intro H locs cells slots ls hW hS hL hlen hc hs
      exact lv_ior hx hb hd (hy H locs cells slots ls hW hS hL hlen hc hs)
    · exact hy.elim
  -- ishl
  · obtain rfl : len = 1 := by simpa [mm_okl] using hn
    split at hy
    · intro H locs cells slots ls hW hS hL hlen hc hs
      exact lv_ishl hx hb hd (hy H locs cells slots ls hW hS hL hlen hc hs)
    · exact hy.elim
  -- idiv
  · obtain rfl : len = 1 := by simpa [mm_okl] using hn
    split at hy
    · intro H locs cells slots ls hW hS hL hlen hc hs
      exact lv_idiv hx hb hd hy.1 (hy.2 H locs cells slots ls hW hS hL hlen hc hs)
    · exact hy.elim
  -- irem
  · obtain rfl : len = 1 := by simpa [mm_okl] using hn
    split at hy
    · intro H locs cells slots ls hW hS hL hlen hc hs
      exact lv_irem hx hb hd hy.1 (hy.2 H locs cells slots ls hW hS hL hlen hc hs)
    · exact hy.elim
  -- dup
  · obtain rfl : len = 1 := by simpa [mm_okl] using hn
    split at hy
    · intro H locs cells slots ls hW hS hL hlen hc hs
      exact lv_dup hx hb hd (mE_cat _ _) (hy H locs cells slots ls hW hS hL hlen hc hs)
    · exact hy.elim
  -- pop
  · obtain rfl : len = 1 := by simpa [mm_okl] using hn
    split at hy
    · intro H locs cells slots ls hW hS hL hlen hc hs
      exact lv_pop hx hb hd (mE_cat _ _) (hy H locs cells slots ls hW hS hL hlen hc hs)
    · exact hy.elim
  -- goto
  · obtain rfl : len = 3 := by simpa [mm_okl] using hn
    obtain ⟨t, ht, hy⟩ := mm_go_get hy
    intro H locs cells slots ls hW hS hL hlen hc hs
    exact lv_goto hx hb hd ht (hy H locs cells slots ls hW hS hL hlen hc hs)
  -- ifCond
  · rename_i d o
    obtain rfl : len = 3 := by simpa [mm_okl] using hn
    split at hy
    · obtain ⟨t, ht, h1, h2⟩ := mm_go_get hy
      intro H locs cells slots ls hW hS hL hlen hc hs
      cases d
      · exact lv_if_eq hx hb hd ht (fun q => h1 q H locs cells slots ls hW hS hL hlen hc hs) (fun q => h2 q H locs cells slots ls hW hS hL hlen hc hs)
      · exact lv_if_ne hx hb hd ht (fun q => h1 q H locs cells slots ls hW hS hL hlen hc hs) (fun q => h2 (fun z => z q) H locs cells slots ls hW hS hL hlen hc hs)
      · exact lv_if_lt hx hb hd ht (fun q => h1 q H locs cells slots ls hW hS hL hlen hc hs) (fun q => h2 q H locs cells slots ls hW hS hL hlen hc hs)
      · exact lv_if_ge hx hb hd ht (fun q => h1 q H locs cells slots ls hW hS hL hlen hc hs) (fun q => h2 q H locs cells slots ls hW hS hL hlen hc hs)
      · exact lv_if_gt hx hb hd ht (fun q => h1 q H locs cells slots ls hW hS hL hlen hc hs) (fun q => h2 q H locs cells slots ls hW hS hL hlen hc hs)
      · exact lv_if_le hx hb hd ht (fun q => h1 q H locs cells slots ls hW hS hL hlen hc hs) (fun q => h2 q H locs cells slots ls hW hS hL hlen hc hs)
    · exact hy.elim
  -- if_icmp
  · rename_i d o
    obtain rfl : len = 3 := by simpa [mm_okl] using hn
    split at hy
    · obtain ⟨t, ht, h1, h2⟩ := mm_go_get hy
      intro H locs cells slots ls hW hS hL hlen hc hs
      cases d
      · exact lv_icmp_eq hx hb hd ht (fun q => h1 q H locs cells slots ls hW hS hL hlen hc hs) (fun q => h2 q H locs cells slots ls hW hS hL hlen hc hs)
      · exact lv_icmp_ne hx hb hd ht (fun q => h1 q H locs cells slots ls hW hS hL hlen hc hs) (fun q => h2 (fun z => z q) H locs cells slots ls hW hS hL hlen hc hs)
      · exact lv_icmp_lt hx hb hd ht (fun q => h1 q H locs cells slots ls hW hS hL hlen hc hs) (fun q => h2 q H locs cells slots ls hW hS hL hlen hc hs)
      · exact lv_icmp_ge hx hb hd ht (fun q => h1 q H locs cells slots ls hW hS hL hlen hc hs) (fun q => h2 q H locs cells slots ls hW hS hL hlen hc hs)
      · exact lv_icmp_gt hx hb hd ht (fun q => h1 q H locs cells slots ls hW hS hL hlen hc hs) (fun q => h2 q H locs cells slots ls hW hS hL hlen hc hs)
      · exact lv_icmp_le hx hb hd ht (fun q => h1 q H locs cells slots ls hW hS hL hlen hc hs) (fun q => h2 q H locs cells slots ls hW hS hL hlen hc hs)
    · exact hy.elim
  -- ifnull
  · obtain rfl : len = 3 := by simpa [mm_okl] using hn
    split at hy
    · rename_i x st'
      obtain ⟨t, ht, h1, h2⟩ := mm_go_get hy
      intro H locs cells slots ls hW hS hL hlen hc hs
      rcases x with _ | x
      · exact lv_ifnullN hx hb hd ht (h1 rfl H locs cells slots ls hW hS hL hlen hc hs)
      · exact lv_ifnull hx hb hd (h2 x rfl H locs cells slots ls hW hS hL hlen hc hs)
    · exact hy.elim
  -- ifnonnull
  · obtain rfl : len = 3 := by simpa [mm_okl] using hn
    split at hy
    · rename_i x st'
      obtain ⟨t, ht, h1, h2⟩ := mm_go_get hy
      intro H locs cells slots ls hW hS hL hlen hc hs
      rcases x with _ | x
      · exact lv_ifnonnullN hx hb hd (h2 rfl H locs cells slots ls hW hS hL hlen hc hs)
      · exact lv_ifnonnull hx hb hd ht (h1 x rfl H locs cells slots ls hW hS hL hlen hc hs)
    · exact hy.elim
  -- if_acmp
  · rename_i d o
    obtain rfl : len = 3 := by simpa [mm_okl] using hn
    have hinj := hac.resolve_right (fun z => z _ _ _ _ hq)
    have hrf : ∀ x : Option Nat, mE rho (.inr x) = va_rf (x.map rho) := fun x => by cases x <;> rfl
    split at hy
    · rename_i y x st'
      obtain ⟨g1, g2, hy⟩ := hy
      have heq : x.map rho = y.map rho → x = y := fun h => by
        cases x <;> cases y
        · rfl
        · cases h
        · cases h
        · rw [hinj _ _ (g1 _ rfl) (g2 _ rfl) (Option.some.inj h)]
      split at hy
      · obtain ⟨t, ht, h1, h2⟩ := mm_go_get hy
        intro H locs cells slots ls hW hS hL hlen hc hs
        show W p l e R s0 m args below meth c H locs cells slots (MQ below (mm_Q Wd rho A ret) args s0 R.cells R.slots A) (F0 m pc ls (mE rho (.inr y) :: mE rho (.inr x) :: st'.map (mE rho)))
        rw [hrf, hrf]
        exact lv_acmp_eq hx hb hd ht (fun q => h1 (heq q) H locs cells slots ls hW hS hL hlen hc hs) (fun q => h2 (fun z => q (by rw [z])) H locs cells slots ls hW hS hL hlen hc hs)
      · obtain ⟨t, ht, h1, h2⟩ := mm_go_get hy
        intro H locs cells slots ls hW hS hL hlen hc hs
        show W p l e R s0 m args below meth c H locs cells slots (MQ below (mm_Q Wd rho A ret) args s0 R.cells R.slots A) (F0 m pc ls (mE rho (.inr y) :: mE rho (.inr x) :: st'.map (mE rho)))
        rw [hrf, hrf]
        exact lv_acmp_ne hx hb hd ht (fun q => h1 (fun z => q (by rw [z])) H locs cells slots ls hW hS hL hlen hc hs) (fun q => h2 (heq q) H locs cells slots ls hW hS hL hlen hc hs)
    · exact hy.elim
  -- tableswitch
  · rename_i d lo hi offs
    split at hy
    · rename_i x st'
      split at hy
      · rename_i hlo
        intro H locs cells slots ls hW hS hL hlen hc hs
        by_cases ho : x.toInt < lo ∨ hi < x.toInt
        · obtain ⟨t, ht, h1⟩ := mm_go_get (hy.1 ho)
          exact lv_tableOut hx hb hd ho ht (h1 H locs cells slots ls hW hS hL hlen hc hs)
        · obtain ⟨o, t, ho1, ht, h1⟩ := mm_tab_get _ _ hy.2 (x.toInt - lo).toNat (by rw [hlo]; omega) (by omega)
          exact lv_tableIn hx hb hd (fun z => ho (Or.inl z)) (fun z => ho (Or.inr z)) (by rw [← Array.getElem?_toList]; exact ho1) ht (h1 H locs cells slots ls hW hS hL hlen hc hs)
      · exact hy.elim
    · exact hy.elim
  -- lookupswitch
  · rename_i d ps
    split at hy
    · rename_i x st'
      split at hy
      · rename_i hso
        obtain ⟨o, t, ho1, ht, h1⟩ := mm_lks_get _ hy
        intro H locs cells slots ls hW hS hL hlen hc hs
        exact lv_lookup hx hb hd hso ho1 ht (h1 H locs cells slots ls hW hS hL hlen hc hs)
      · exact hy.elim
    · exact hy.elim
  -- ireturn
  · obtain rfl : len = 1 := by simpa [mm_okl] using hn
    split at hy
    · rename_i v
      split at hy
      · intro H locs cells slots ls hW hS hL hlen hc hs
        refine W.widen (k := R.cells) (n := R.slots) (by dsimp only at hc; omega) (by dsimp only at hs; omega) ?_
        exact W.zret (v := v) hx hb hrt rfl (fun t ht hWa => ⟨⟨some (.inl v), s, rfl, hy, by rw [ht]; exact hW⟩, hS.F ht⟩) hS.2.2 hd hlocks
      · obtain ⟨hv, hy⟩ := hy
        intro H locs cells slots ls hW hS hL hlen hc hs
        refine W.widen (k := R.cells) (n := R.slots) (by dsimp only at hc; omega) (by dsimp only at hs; omega) ?_
        exact W.zret (v := v) hx hb hrt (by rcases hv with rfl | rfl <;> rfl) (fun t ht hWa => ⟨⟨some (.inl v), s, rfl, hy, by rw [ht]; exact hW⟩, hS.F ht⟩) hS.2.2 hd hlocks
      · exact hy.elim
    · exact hy.elim
  -- areturn
  · obtain rfl : len = 1 := by simpa [mm_okl] using hn
    split at hy
    · rename_i v
      split at hy
      · intro H locs cells slots ls hW hS hL hlen hc hs
        obtain ⟨ty, hr1, hr2⟩ := hrt
        refine W.widen (k := R.cells) (n := R.slots) (by dsimp only at hc; omega) (by dsimp only at hs; omega) ?_
        exact W.aret (v := mE rho (.inr v)) hx hb hr1 hr2 (by rcases v with _ | v; exact Or.inl rfl; exact Or.inr ⟨_, rfl⟩) (fun t ht hWa => ⟨⟨some (.inr v), s, rfl, hy, by rw [ht]; exact hW⟩, hS.F ht⟩) hS.2.2 hd hlocks
      · exact hy.elim
    · exact hy.elim
  -- return
  · obtain rfl : len = 1 := by simpa [mm_okl] using hn
    split at hy
    · split at hy
      · intro H locs cells slots ls hW hS hL hlen hc hs
        refine W.widen (k := R.cells) (n := R.slots) (by dsimp only at hc; omega) (by dsimp only at hs; omega) ?_
        exact W.vret hx hb hrt (fun t ht hWa => ⟨⟨none, s, rfl, hy, by rw [ht]; exact hW⟩, hS.F ht⟩) hS.2.2 hd hlocks
      · exact hy.elim
    · exact hy.elim
  -- calls
  · obtain rfl : len = 3 := by simpa [mm_okl] using hn
    exact mm_call_sound (j := 0) hx CS hd hy
  · obtain rfl : len = 3 := by simpa [mm_okl] using hn
    exact mm_call_sound (j := 1) hx CS hd hy
  · obtain rfl : len = 3 := by simpa [mm_okl] using hn
    exact mm_call_sound (j := 2) hx CS hd hy
  -- the heap
  · intro H locs cells slots ls hW hS hL hlen hc hs
    exact HS _ _ _ _ _ _ _ _ hy hd hn H locs cells slots ls hW hS hc hs (fun st' s' a' b' H' locs' cells' slots' hk' hW' hS' hc' hs' => hk' H' locs' cells' slots' ls hW' hS' hL hlen hc' hs')
end MMU
end
section
/-! ===== methods and calls ===== -/
def mm_rm (n mc ms : Nat) : Room := { frames := n, cells := mc, slots := ms, locals := 40 * n }
theorem tb_gd {w : Cond} (h : w ∈ tb) : w ∈ tb ∧ ((w.onTables && w.keeps) = true ∨ ∃ ty, w = .arrayClass ty) := ⟨h, good_of_word (List.mem_filter.mp h).2⟩
theorem mm_cats (rho : Nat → Nat) : ∀ r : List mV, ((r.map (mE rho)).map fun v => v.category).sum = r.length
  | [] => rfl
  | v :: r => by
    have h := mm_cats rho r
    rw [List.map_cons, List.map_cons, List.sum_cons, h, mE_cat, List.length_cons]
    omega
section MMV
variable {S : Type}
def mm_Pc (Wd : S → Heap → Prop) (KK : State → Prop) (A : Nat → Prop) (vs : List Value) (s : S) : Array Value → State → Prop := va_Pc vs (fun U => KK U ∧ Wd s U.heap ∧ ∀ q : Nat, U.heap.size ≤ q → A q)
/-- a method does what P says, at level n of the room -/
def mm_So (l : Launch) (Wd : S → Heap → Prop) (KK : State → Prop) (rho : Nat → Nat) (A : Nat → Prop) (y : MethodName) (cc : ByteArray) (nL : Nat) (rt : Option FieldType) (n : Nat) (P : mP S) : Prop :=
  ∀ (as : List mV) (s : S) (mc ms : Nat) (ret : Option mV → S → Prop), P as s mc ms ret → Met l y (Cond.code y cc nL rt :: tb) (mm_rm n mc ms) (mm_Pc Wd KK A (as.map (mE rho)) s) (mm_Q Wd rho A ret) mc ms A
/-- a method by its code -/
def mm_Pm (rk : Nat) (cd : mC) (hk : mH S) (sp : mQ S) (nL : Nat) : mP S := fun as s mc ms ret => as.length ≤ nL ∧ mm_W rk cd hk sp ret (0, as.map some ++ List.replicate (nL - as.length) none, [], s, mc, ms)
def mm_KW (KK : State → Prop) (A : Nat → Prop) : Prop := (∀ u U : State, u.WarmedH U.vm → va_F A u U → KK u → KK U) ∧ ∀ u U : State, u.vm = U.vm → u.heap = U.heap → KK u → KK U
variable {l : Launch} {Wd : S → Heap → Prop} {KK : State → Prop} {rho : Nat → Nat} {A : Nat → Prop} {hk : mH S} {sp : mQ S} {cd : mC} {rk nL n : Nat} {y : MethodName} {cc : ByteArray} {rt : Option FieldType}
theorem mm_sound (hy : plainName y.cls = true) (hcd : ∀ pc ins len, mm_lk cd pc = some (ins, len) → decode cc pc = .ok (ins, len)) (hln : ∀ pc ins len, mm_lk cd pc = some (ins, len) → mm_okl ins len = true) (hac : (∀ x y, 24 ≤ x → 24 ≤ y → rho x = rho y → x = y) ∨ ∀ pc d o len, mm_lk cd pc ≠ some (.if_acmp d o, len)) (hrt : mm_rk rk rt)
    (HS : ∀ (p : Program) (e : Env) (R : Room) (s0 : State) (m : MethodId) (args : Array Value) (below : List Frame) (meth : Method) (c : Code) (Q : State → Prop), CallFix p m c cc nL s0 args tb y.cls → meth.name = y.name → KK s0 → (∀ q : Nat, s0.heap.size ≤ q → A q) → mm_HS p l e R s0 m args below meth c cc Wd rho A hk Q)
    (CS : ∀ (p : Program) (e : Env) (mc ms : Nat) (s0 : State) (m : MethodId) (args : Array Value) (below : List Frame) (meth : Method) (c : Code), CallFix p m c cc nL s0 args tb y.cls → KK s0 → (∀ q : Nat, s0.heap.size ≤ q → A q) → ∀ q ∈ sp, mm_CS p l e (mm_rm n mc ms) s0 m args below meth c cc nL Wd rho A q) :
    mm_So l Wd KK rho A y cc nL rt n (mm_Pm rk cd hk sp nL) := by
  intro as s mc ms ret hP
  obtain ⟨hl, hw⟩ := hP
  refine Met.ofW (cc := cc) (maxL := nL) (ret := rt) hy rfl ?_
  intro p e s0 m args below meth c s₁ B hml hv
  obtain ⟨rfl, hK, hW, hA⟩ := hv
  have hts0 := atoms_spec (ws := Cond.code y cc nL rt :: tb) B.pre
  have F : CallFix p m c cc nL s0 (as.map (mE rho)).toArray tb y.cls := ⟨B.exec, B.bytes, hml, findClass_of_methodNamed B.named, fun w h => hts0 w (List.mem_cons_of_mem _ h)⟩
  have hr : mm_rk rk meth.sig.returnType := by rw [B.returns]; exact hrt
  have key := hw _ (fun z hz => mm_step (nL := nL) (R := mm_rm n mc ms) (below := below) F.1 F.2.1 hcd hln hac B.notSynchronized hr (HS p e (mm_rm n mc ms) s0 m _ below meth c _ F (name_of_methodNamed B.named B.method).1 hK hA) (CS p e mc ms s0 m _ below meth c F hK hA) z hz)
  rw [lg_entry_eq]
  exact key s0.heap [] 0 0 _ hW va_S.rf (mm_L_entry rho as hl) (by simp; omega) (Nat.le_of_eq (Nat.zero_add _)) (Nat.le_of_eq (Nat.zero_add _))
variable {p : Program} {e : Env} {mc ms : Nat} {s0 : State} {m : MethodId} {args : Array Value} {below : List Frame} {meth : Method} {c : Code} {own C : String} {i na kd n' nLy : Nat} {cy : ByteArray} {rty : Option FieldType} {P : mP S}
theorem mm_blind (hKW : mm_KW KK A) {vs : List Value} {s : S} : FrameBlind (mm_Pc Wd KK A vs s) := fun a U g mk q => ⟨q.1, hKW.2 U (U.calling g mk a) rfl rfl q.2.1, q.2.2.1, q.2.2.2⟩
/-- a virtual call of a method of ours -/
theorem mm_CSV (F : CallFix p m c cc nL s0 args tb own) (hK : KK s0) (hKW : mm_KW KK A) (hA : ∀ q : Nat, s0.heap.size ≤ q → A q) (So : mm_So l Wd KK rho A y cy nLy rty n' P) (hn : n' + 1 ≤ n) (hL : nLy ≤ 21) (w1 : Cond.methodLink own i y ∈ tb) (w2 : Cond.instanceMethod y ∈ tb) (w3 : Cond.selects C y y ∈ tb) (w4 : Cond.initialized C ∈ tb) (w5 : Cond.code y cy nLy rty ∈ tb)
    (hd : y.cls = C ∧ y.cls ≠ "java/lang/invoke/MethodHandle" ∧ y.cls ≠ "java/lang/invoke/VarHandle" ∧ (parseMethodDescriptor y.desc).map (fun d => d.parameters.length) = some na)
    (recv : ∀ (as : List mV) (s : S) (mc ms : Nat) (ret : Option mV → S → Prop), P as s mc ms ret → as.length = na + 1 → ∃ (b : Nat) (as' : List mV), as = .inr (some b) :: as' ∧ ∀ H : Heap, Wd s H → ∃ cellB : Cell, H[rho b]? = some cellB ∧ cellB.vm.isStatics = false ∧ s0.vm.findClass C = some cellB.cls) :
    mm_CS p l e (mm_rm n mc ms) s0 m args below meth c cc nL Wd rho A ((0, i), na + 1, kd, P) := by
  intro as s mc' ms' ret hP hlen H locs cells slots pc ls rest hdg hW hS hc hs hsz hrl
  obtain ⟨b, as', rfl, hrc⟩ := recv _ _ _ _ _ hP hlen
  have hG : GoodIn tb (wsV own i C y (Cond.code y cy nLy rty :: tb)) := by
    intro w hw
    unfold wsV at hw
    rcases List.mem_append.mp hw with h | h
    · simp only [List.mem_cons, List.not_mem_nil, or_false] at h
      rcases h with rfl | rfl | rfl | rfl
      · exact tb_gd w1
      · exact tb_gd w2
      · exact tb_gd w3
      · exact tb_gd w4
    · exact tb_goodIn w5 (fun _ h => h) w h
  have hRR : (mm_rm n' mc' ms').frames + 1 ≤ (mm_rm n mc ms).frames ∧ 8 + (nLy + 11) + (mm_rm n' mc' ms').locals ≤ (mm_rm n mc ms).locals := ⟨hn, by show 8 + (nLy + 11) + 40 * n' ≤ 40 * n; omega⟩
  have e1 : ((Sum.inr (some b) :: as').reverse.map (mE rho) ++ rest.map (mE rho)) = (as'.map (mE rho)).reverse ++ .ref (rho b) :: rest.map (mE rho) := by
    simp [mE]
  rw [e1]
  exact va_runV (As := as'.map (mE rho)) F (So _ _ _ _ _ hP) (cwV na F.2.2.2.2 hG rfl rfl rfl hd hRR) ⟨mm_blind hKW, hrc H hW, fun U hU hWm => ⟨rfl, hKW.1 s0 U hWm (hS.F hU) hK, by rw [hU]; exact hW, by rw [hU]; exact fun q h => hA q (Nat.le_trans hS.1 h)⟩⟩ rfl (by simpa using hlen) hsz rfl (lv_room (by rw [mm_cats]; exact hrl)) hdg ⟨hc, hs⟩
/-- a static call of a method of ours -/
theorem mm_CSS (F : CallFix p m c cc nL s0 args tb own) (hK : KK s0) (hKW : mm_KW KK A) (hA : ∀ q : Nat, s0.heap.size ≤ q → A q) (So : mm_So l Wd KK rho A y cy nLy rty n' P) (hn : n' + 1 ≤ n) (hL : nLy ≤ 21) (w1 : Cond.methodLink own i y ∈ tb) (w2 : Cond.static y ∈ tb) (w4 : Cond.initialized y.cls ∈ tb) (w5 : Cond.code y cy nLy rty ∈ tb)
    (hd : y.cls ≠ "java/lang/invoke/MethodHandle" ∧ y.cls ≠ "java/lang/invoke/VarHandle" ∧ (parseMethodDescriptor y.desc).map (fun d => d.parameters.length) = some na) :
    mm_CS p l e (mm_rm n mc ms) s0 m args below meth c cc nL Wd rho A ((1, i), na, kd, P) := by
  intro as s mc' ms' ret hP hlen H locs cells slots pc ls rest hdg hW hS hc hs hsz hrl
  have hG : GoodIn tb (va_wsS own i y (Cond.code y cy nLy rty :: tb)) := by
    intro w hw
    unfold va_wsS at hw
    rcases List.mem_append.mp hw with h | h
    · simp only [List.mem_cons, List.not_mem_nil, or_false] at h
      rcases h with rfl | rfl | rfl
      · exact tb_gd w1
      · exact tb_gd w2
      · exact tb_gd w4
    · exact tb_goodIn w5 (fun _ h => h) w h
  have hRR : (mm_rm n' mc' ms').frames + 1 ≤ (mm_rm n mc ms).frames ∧ 8 + (nLy + 11) + (mm_rm n' mc' ms').locals ≤ (mm_rm n mc ms).locals := ⟨hn, by show 8 + (nLy + 11) + 40 * n' ≤ 40 * n; omega⟩
  have e1 : (as.reverse.map (mE rho) ++ rest.map (mE rho)) = (as.map (mE rho)).reverse ++ rest.map (mE rho) := by
    rw [List.map_reverse]
  rw [e1]
  exact va_runS (As := as.map (mE rho)) F (So _ _ _ _ _ hP) (va_cwS na F.2.2.2.2 hG rfl rfl rfl hd hRR) ⟨mm_blind hKW, fun U hU hWm => ⟨rfl, hKW.1 s0 U hWm (hS.F hU) hK, by rw [hU]; exact hW, by rw [hU]; exact fun q h => hA q (Nat.le_trans hS.1 h)⟩⟩ rfl (by simpa using hlen) hsz rfl (lv_room (by rw [mm_cats]; exact hrl)) hdg ⟨hc, hs⟩
end MMV
end
section
/-! ===== the reference: its picture, its world, its instructions ===== -/
abbrev rf_M : Type := (Nat → Int32) × (Nat → Nat → Int32)
def classes : List vw_C := [(RX0, TX0, 9), (RX1, TX1, 2), (RX2, TX2, 4), (RX3, TX3, 2), (RX4, TX4, 3), (RX5, TX5, 5), (RX6, TX6, 11), (RX7, TX7, 39)]
def tys (cs : Nat → ClassId) : List (ClassId × FieldType) := [(cs 0, .int), (cs 1, .boolean), (cs 2, .object RX0)]
theorem in_X0 : ∀ w ∈ u_ws RX0 TX0 9, w ∈ tb := by decide +kernel
theorem in_X1 : ∀ w ∈ u_ws RX1 TX1 2, w ∈ tb := by decide +kernel
theorem in_X2 : ∀ w ∈ u_ws RX2 TX2 4, w ∈ tb := by decide +kernel
theorem in_X3 : ∀ w ∈ u_ws RX3 TX3 2, w ∈ tb := by decide +kernel
theorem in_X4 : ∀ w ∈ u_ws RX4 TX4 3, w ∈ tb := by decide +kernel
theorem in_X5 : ∀ w ∈ u_ws RX5 TX5 5, w ∈ tb := by decide +kernel
theorem in_X6 : ∀ w ∈ u_ws RX6 TX6 11, w ∈ tb := by decide +kernel
theorem in_X7 : ∀ w ∈ u_ws RX7 TX7 39, w ∈ tb := by decide +kernel
def nests : List (String × Nat × MethodName × String) := [("RopeShelf", (27 : Nat), ({ cls := "RopeShelf$Text", name := "<init>", desc := "()V" } : Jvm.MethodName), "RopeShelf"), ("RopeShelf", (34 : Nat), ({ cls := "RopeShelf$Table", name := "<init>", desc := "()V" } : Jvm.MethodName), "RopeShelf"), ("RopeShelf", (41 : Nat), ({ cls := "RopeShelf$Pieces", name := "<init>", desc := "()V" } : Jvm.MethodName), "RopeShelf"), ("RopeShelf", (48 : Nat), ({ cls := "RopeShelf$Weaver", name := "<init>", desc := "()V" } : Jvm.MethodName), "RopeShelf"), ("RopeShelf$Weaver", (17 : Nat), ({ cls := "RopeShelf$Pieces", name := "<init>", desc := "()V" } : Jvm.MethodName), "RopeShelf"), ("RopeShelf$Weaver", (24 : Nat), ({ cls := "RopeShelf$Text", name := "<init>", desc := "()V" } : Jvm.MethodName), "RopeShelf"), ("RopeShelf", (55 : Nat), ({ cls := "RopeShelf$Walk", name := "<init>", desc := "()V" } : Jvm.MethodName), "RopeShelf"), ("RopeShelf", (109 : Nat), ({ cls := "RopeShelf$Weaver", name := "joined", desc := "(LRopeShelf$Cell;LRopeShelf$Cell;)LRopeShelf$Cell;" } : Jvm.MethodName), "RopeShelf"), ("RopeShelf$Weaver", (78 : Nat), ({ cls := "RopeShelf$Cell", name := "<init>", desc := "()V" } : Jvm.MethodName), "RopeShelf"), ("RopeShelf", (113 : Nat), ({ cls := "RopeShelf$Weaver", name := "cutOut", desc := "(LRopeShelf$Cell;III)LRopeShelf$Cell;" } : Jvm.MethodName), "RopeShelf")]
def kk (D : va_G) (cs sa : Nat → Nat) (A : Nat → Prop) (U : State) : Prop := va_K D classes (tys cs) U ∧ (∀ q ∈ nests, va_Nw (.methodLinkNest q.1 q.2.1 q.2.2.1 q.2.2.2) U) ∧ va_AO RX0 U ∧ va_Z RX6 "LEAST_RULES" "[I" (.ref (sa 0)) A U U.heap ∧ va_Z RX6 "GREATEST_RULES" "[I" (.ref (sa 1)) A U U.heap
theorem kk_KW (D : va_G) (cs sa : Nat → Nat) (A : Nat → Prop) : mm_KW (kk D cs sa A) A := by
  refine ⟨fun u U h hF hk => ⟨va_K.moved h.alike hk.1, fun q hq => va_Nw.warmM h (hk.2.1 q hq), va_AO.moved h.alike hk.2.2.1, (va_Z.moved h.alike hk.2.2.2.1).kept hF.2, (va_Z.moved h.alike hk.2.2.2.2).kept hF.2⟩, fun u U h hH hk => ?_⟩
  have ha : u.vm.Alike U.vm := h ▸ Vm.Alike.refl u.vm
  exact ⟨va_K.moved ha hk.1, fun q hq => va_Nw.same rfl h (hk.2.1 q hq), va_AO.moved ha hk.2.2.1, hH ▸ va_Z.moved ha hk.2.2.2.1, hH ▸ va_Z.moved ha hk.2.2.2.2⟩
def rf_len (k : Nat) : Nat := match k with
  | 0 => 20480
  | 1 => 20480
  | 2 => 20480
  | 3 => 20480
  | 4 => 20480
  | 7 => 81920
  | 9 => 8
  | 10 => 16
  | 11 => 2
  | 12 => 24
  | 13 => 24
  | 16 => 40
  | 21 => 240
  | 22 => 20480
  | 23 => 240
  | 25 => 512
  | 26 => 512
  | 27 => 512
  | 28 => 512
  | 29 => 512
  | 30 => 512
  | 32 => 512
  | 33 => 512
  | 34 => 512
  | 36 => 512
  | _ => 0
def rf_ty (k : Nat) : Nat := match k with
  | 0 => 1
  | 1 => 1
  | 2 => 1
  | 3 => 1
  | 4 => 2
  | 7 => 1
  | 9 => 1
  | 10 => 1
  | 11 => 2
  | 12 => 1
  | 13 => 1
  | 16 => 1
  | 21 => 1
  | 22 => 1
  | 23 => 1
  | 25 => 1
  | 26 => 1
  | 27 => 1
  | 28 => 1
  | 29 => 2
  | 30 => 1
  | 32 => 1
  | 33 => 1
  | 34 => 1
  | 36 => 1
  | _ => 0
def rf_fm (i : Nat) : Option Nat := match i with
  | 7 => some 0
  | 13 => some 1
  | 16 => some 2
  | 19 => some 3
  | 22 => some 4
  | 26 => some 5
  | 31 => some 7
  | 34 => some 9
  | 37 => some 10
  | 40 => some 11
  | 43 => some 12
  | 46 => some 13
  | 49 => some 16
  | 52 => some 18
  | 55 => some 19
  | 58 => some 20
  | 61 => some 21
  | 64 => some 22
  | 67 => some 23
  | 70 => some 25
  | 73 => some 26
  | 76 => some 27
  | 79 => some 28
  | 82 => some 29
  | 85 => some 30
  | 88 => some 32
  | 91 => some 33
  | 94 => some 34
  | 97 => some 36
  | 108 => some 6
  | 111 => some 8
  | 129 => some 14
  | 135 => some 24
  | 144 => some 31
  | 161 => some 35
  | 178 => some 17
  | 200 => some 37
  | 203 => some 38
  | 224 => some 15
  | _ => none
def rf_cst (i : Nat) : Option Int32 := match i with
  | 30 => some (nI 81920)
  | 122 => some (nI 76720)
  | _ => none
def rf_up (g : Nat → Nat → Int32) (f i : Nat) (v : Int32) : Nat → Nat → Int32 := fun j => if j = f then upd (g f) i v else g j
def rf_fs (ad : Nat → Nat) (μ : rf_M) : List Value := [.ref (ad 0), .ref (ad 1), .ref (ad 2), .ref (ad 3), .ref (ad 4), .int (μ.1 5), .int (μ.1 6), .ref (ad 7), .int (μ.1 8), .ref (ad 9), .ref (ad 10), .ref (ad 11), .ref (ad 12), .ref (ad 13), .int (μ.1 14), .int (μ.1 15), .ref (ad 16), .int (μ.1 17), .int (μ.1 18), .int (μ.1 19), .int (μ.1 20), .ref (ad 21), .ref (ad 22), .ref (ad 23), .int (μ.1 24), .ref (ad 25), .ref (ad 26), .ref (ad 27), .ref (ad 28), .ref (ad 29), .ref (ad 30), .int (μ.1 31), .ref (ad 32), .ref (ad 33), .ref (ad 34), .int (μ.1 35), .ref (ad 36), .int (μ.1 37), .int (μ.1 38)]
def rf_ws (cs ad : Nat → Nat) (μ : rf_M) : va_W := (ad 39, .inr (7, rf_fs ad μ)) :: [(ad 0, .inl (cs 0, 20480, .inl (μ.2 0))), (ad 1, .inl (cs 0, 20480, .inl (μ.2 1))), (ad 2, .inl (cs 0, 20480, .inl (μ.2 2))), (ad 3, .inl (cs 0, 20480, .inl (μ.2 3))), (ad 4, .inl (cs 1, 20480, .inl (μ.2 4))), (ad 7, .inl (cs 0, 81920, .inl (μ.2 7))), (ad 9, .inl (cs 0, 8, .inl (μ.2 9))), (ad 10, .inl (cs 0, 16, .inl (μ.2 10))), (ad 11, .inl (cs 1, 2, .inl (μ.2 11))), (ad 12, .inl (cs 0, 24, .inl (μ.2 12))), (ad 13, .inl (cs 0, 24, .inl (μ.2 13))), (ad 16, .inl (cs 0, 40, .inl (μ.2 16))), (ad 21, .inl (cs 0, 240, .inl (μ.2 21))), (ad 22, .inl (cs 0, 20480, .inl (μ.2 22))), (ad 23, .inl (cs 0, 240, .inl (μ.2 23))), (ad 25, .inl (cs 0, 512, .inl (μ.2 25))), (ad 26, .inl (cs 0, 512, .inl (μ.2 26))), (ad 27, .inl (cs 0, 512, .inl (μ.2 27))), (ad 28, .inl (cs 0, 512, .inl (μ.2 28))), (ad 29, .inl (cs 1, 512, .inl (μ.2 29))), (ad 30, .inl (cs 0, 512, .inl (μ.2 30))), (ad 32, .inl (cs 0, 512, .inl (μ.2 32))), (ad 33, .inl (cs 0, 512, .inl (μ.2 33))), (ad 34, .inl (cs 0, 512, .inl (μ.2 34))), (ad 36, .inl (cs 0, 512, .inl (μ.2 36)))]
def rf_W (D : va_G) (cs ad : Nat → Nat) (A : Nat → Prop) (μ : rf_M) (H : Heap) : Prop := va_P D classes (rf_ws cs ad μ) H ∧ va_D A (rf_ws cs ad μ)
def rf_hk : mH rf_M := fun ins st μ a b k => match ins with
  | .getfield i => (match st with
    | .inr (some 39) :: st' => (match rf_fm i with
      | some f => (match rf_ty f with
        | 0 => k (.inl (μ.1 f) :: st') μ a b
        | _ => k (.inr (some f) :: st') μ a b)
      | none => False)
    | _ => False)
  | .putfield i => (match st with
    | .inl v :: .inr (some 39) :: st' => (match rf_fm i with
      | some f => (match rf_ty f with
        | 0 => k st' (upd μ.1 f v, μ.2) a b
        | _ => False)
      | none => False)
    | _ => False)
  | .iaload => (match st with
    | .inl i :: .inr (some f) :: st' => (match rf_ty f with
      | 1 => vp_in i (rf_len f) ∧ k (.inl (μ.2 f i.toNatClampNeg) :: st') μ a b
      | _ => False)
    | _ => False)
  | .baload => (match st with
    | .inl i :: .inr (some f) :: st' => (match rf_ty f with
      | 2 => vp_in i (rf_len f) ∧ k (.inl (μ.2 f i.toNatClampNeg) :: st') μ a b
      | _ => False)
    | _ => False)
  | .iastore => (match st with
    | .inl v :: .inl i :: .inr (some f) :: st' => (match rf_ty f with
      | 1 => vp_in i (rf_len f) ∧ k st' (μ.1, rf_up μ.2 f i.toNatClampNeg v) a b
      | _ => False)
    | _ => False)
  | .bastore => (match st with
    | .inl v :: .inl i :: .inr (some f) :: st' => (match rf_ty f with
      | 2 => vp_in i (rf_len f) ∧ (v = 0 ∨ v = 1) ∧ k st' (μ.1, rf_up μ.2 f i.toNatClampNeg v) a b
      | _ => False)
    | _ => False)
  | .ldc i => (match rf_cst i with
    | some v => k (.inl v :: st) μ a b
    | none => False)
  | _ => False
set_option maxHeartbeats 4000000 in
theorem rf_hk_mono : mH_mono rf_hk := by
  intro ins st s a b k k' h h1
  unfold rf_hk at *
  split at h1
  all_goals (try exact h1.elim)
  · split at h1 <;> (try exact h1.elim)
    split at h1 <;> (try exact h1.elim)
    split at h1 <;> exact h _ _ _ _ h1
  · split at h1 <;> (try exact h1.elim)
    split at h1 <;> (try exact h1.elim)
    split at h1 <;> (first | exact h _ _ _ _ h1 | exact h1.elim)
  · split at h1 <;> (try exact h1.elim)
    split at h1 <;> (first | exact ⟨h1.1, h _ _ _ _ h1.2⟩ | exact h1.elim)
  · split at h1 <;> (try exact h1.elim)
    split at h1 <;> (first | exact ⟨h1.1, h _ _ _ _ h1.2⟩ | exact h1.elim)
  · split at h1 <;> (try exact h1.elim)
    split at h1 <;> (first | exact ⟨h1.1, h _ _ _ _ h1.2⟩ | exact h1.elim)
  · split at h1 <;> (try exact h1.elim)
    split at h1 <;> (first | exact ⟨h1.1, h1.2.1, h _ _ _ _ h1.2.2⟩ | exact h1.elim)
  · split at h1 <;> (first | exact h _ _ _ _ h1 | exact h1.elim)
end
section
theorem rf_pos {cs ad : Nat → Nat} {μ : rf_M} {f : Nat} (h : rf_ty f = 1) : ∃ q0 : Nat, (rf_ws cs ad μ)[q0]? = some (ad f, .inl (cs 0, rf_len f, .inl (μ.2 f))) ∧ ∀ (i : Nat) (v : Int32), (rf_ws cs ad μ).set q0 (ad f, .inl (cs 0, rf_len f, .inl (upd (μ.2 f) i v))) = rf_ws cs ad (μ.1, rf_up μ.2 f i v) := by
  unfold rf_ty at h
  split at h
  all_goals (try (exact absurd h (by decide)))
  · exact ⟨1, rfl, fun _ _ => rfl⟩
  · exact ⟨2, rfl, fun _ _ => rfl⟩
  · exact ⟨3, rfl, fun _ _ => rfl⟩
  · exact ⟨4, rfl, fun _ _ => rfl⟩
  · exact ⟨6, rfl, fun _ _ => rfl⟩
  · exact ⟨7, rfl, fun _ _ => rfl⟩
  · exact ⟨8, rfl, fun _ _ => rfl⟩
  · exact ⟨10, rfl, fun _ _ => rfl⟩
  · exact ⟨11, rfl, fun _ _ => rfl⟩
  · exact ⟨12, rfl, fun _ _ => rfl⟩
  · exact ⟨13, rfl, fun _ _ => rfl⟩
  · exact ⟨14, rfl, fun _ _ => rfl⟩
  · exact ⟨15, rfl, fun _ _ => rfl⟩
  · exact ⟨16, rfl, fun _ _ => rfl⟩
  · exact ⟨17, rfl, fun _ _ => rfl⟩
  · exact ⟨18, rfl, fun _ _ => rfl⟩
  · exact ⟨19, rfl, fun _ _ => rfl⟩
  · exact ⟨21, rfl, fun _ _ => rfl⟩
  · exact ⟨22, rfl, fun _ _ => rfl⟩
  · exact ⟨23, rfl, fun _ _ => rfl⟩
  · exact ⟨24, rfl, fun _ _ => rfl⟩
  · exact ⟨25, rfl, fun _ _ => rfl⟩
theorem rf_posZ {cs ad : Nat → Nat} {μ : rf_M} {f : Nat} (h : rf_ty f = 2) : ∃ q0 : Nat, (rf_ws cs ad μ)[q0]? = some (ad f, .inl (cs 1, rf_len f, .inl (μ.2 f))) ∧ ∀ (i : Nat) (v : Int32), (rf_ws cs ad μ).set q0 (ad f, .inl (cs 1, rf_len f, .inl (upd (μ.2 f) i v))) = rf_ws cs ad (μ.1, rf_up μ.2 f i v) := by
  unfold rf_ty at h
  split at h
  all_goals (try (exact absurd h (by decide)))
  · exact ⟨5, rfl, fun _ _ => rfl⟩
  · exact ⟨9, rfl, fun _ _ => rfl⟩
  · exact ⟨20, rfl, fun _ _ => rfl⟩
section RFS
variable {p : Program} {l : Launch} {e : Env} {R : Room} {s0 : State} {m : MethodId} {args : Array Value} {below : List Frame} {meth : Method} {c : Code} {cc : ByteArray} {nL : Nat} {D : va_G} {cs ad : Nat → Nat} {A : Nat → Prop} {Q : State → Prop}
set_option maxHeartbeats 4000000 in
set_option maxRecDepth 20000 in
theorem rf_HS (F : CallFix p m c cc nL s0 args tb RX7) {sa : Nat → Nat} (hK : kk D cs sa A s0) : mm_HS p l e R s0 m args below meth c cc (rf_W D cs ad A) ad A rf_hk Q := by
  obtain ⟨hx, hb, hml, hown, hts⟩ := F
  intro ins len pc st s a b k h hd hn H locs cells slots ls hW hS hc hs kk
  unfold rf_hk at h
  split at h
  all_goals (try exact h.elim)
  -- getfield
  · obtain rfl : len = 3 := by simpa [mm_okl] using hn
    split at h <;> (try exact h.elim)
    rename_i st'
    split at h <;> (try exact h.elim)
    rename_i f hf
    unfold rf_fm at hf
    split at hf
    · cases hf; exact va_get (D := D) (ci := 7) (v := .ref (ad 0)) (C := RX7) (T := TX7) (N := 39) (own := RX7) (ref := RX7) hx hb hts in_X7 hown hK.1 hW.1 0 rfl rfl 0 (by decide) (hts _ wd_603) (fun _ h9 => h9) rfl hd (kk _ _ _ _ _ _ _ _ h hW hS hc hs)
    · cases hf; exact va_get (D := D) (ci := 7) (v := .ref (ad 1)) (C := RX7) (T := TX7) (N := 39) (own := RX7) (ref := RX7) hx hb hts in_X7 hown hK.1 hW.1 0 rfl rfl 1 (by decide) (hts _ wd_604) (fun _ h9 => h9) rfl hd (kk _ _ _ _ _ _ _ _ h hW hS hc hs)
    · cases hf; exact va_get (D := D) (ci := 7) (v := .ref (ad 2)) (C := RX7) (T := TX7) (N := 39) (own := RX7) (ref := RX7) hx hb hts in_X7 hown hK.1 hW.1 0 rfl rfl 2 (by decide) (hts _ wd_605) (fun _ h9 => h9) rfl hd (kk _ _ _ _ _ _ _ _ h hW hS hc hs)
    · cases hf; exact va_get (D := D) (ci := 7) (v := .ref (ad 3)) (C := RX7) (T := TX7) (N := 39) (own := RX7) (ref := RX7) hx hb hts in_X7 hown hK.1 hW.1 0 rfl rfl 3 (by decide) (hts _ wd_606) (fun _ h9 => h9) rfl hd (kk _ _ _ _ _ _ _ _ h hW hS hc hs)
    · cases hf; exact va_get (D := D) (ci := 7) (v := .ref (ad 4)) (C := RX7) (T := TX7) (N := 39) (own := RX7) (ref := RX7) hx hb hts in_X7 hown hK.1 hW.1 0 rfl rfl 4 (by decide) (hts _ wd_607) (fun _ h9 => h9) rfl hd (kk _ _ _ _ _ _ _ _ h hW hS hc hs)
    · cases hf; exact va_get (D := D) (ci := 7) (v := .int (s.1 5)) (C := RX7) (T := TX7) (N := 39) (own := RX7) (ref := RX7) hx hb hts in_X7 hown hK.1 hW.1 0 rfl rfl 5 (by decide) (hts _ wd_608) (fun _ h9 => h9) rfl hd (kk _ _ _ _ _ _ _ _ h hW hS hc hs)
    · cases hf; exact va_get (D := D) (ci := 7) (v := .ref (ad 7)) (C := RX7) (T := TX7) (N := 39) (own := RX7) (ref := RX7) hx hb hts in_X7 hown hK.1 hW.1 0 rfl rfl 7 (by decide) (hts _ wd_610) (fun _ h9 => h9) rfl hd (kk _ _ _ _ _ _ _ _ h hW hS hc hs)
    · cases hf; exact va_get (D := D) (ci := 7) (v := .ref (ad 9)) (C := RX7) (T := TX7) (N := 39) (own := RX7) (ref := RX7) hx hb hts in_X7 hown hK.1 hW.1 0 rfl rfl 9 (by decide) (hts _ wd_612) (fun _ h9 => h9) rfl hd (kk _ _ _ _ _ _ _ _ h hW hS hc hs)
    · cases hf; exact va_get (D := D) (ci := 7) (v := .ref (ad 10)) (C := RX7) (T := TX7) (N := 39) (own := RX7) (ref := RX7) hx hb hts in_X7 hown hK.1 hW.1 0 rfl rfl 10 (by decide) (hts _ wd_613) (fun _ h9 => h9) rfl hd (kk _ _ _ _ _ _ _ _ h hW hS hc hs)
    · cases hf; exact va_get (D := D) (ci := 7) (v := .ref (ad 11)) (C := RX7) (T := TX7) (N := 39) (own := RX7) (ref := RX7) hx hb hts in_X7 hown hK.1 hW.1 0 rfl rfl 11 (by decide) (hts _ wd_614) (fun _ h9 => h9) rfl hd (kk _ _ _ _ _ _ _ _ h hW hS hc hs)
    · cases hf; exact va_get (D := D) (ci := 7) (v := .ref (ad 12)) (C := RX7) (T := TX7) (N := 39) (own := RX7) (ref := RX7) hx hb hts in_X7 hown hK.1 hW.1 0 rfl rfl 12 (by decide) (hts _ wd_615) (fun _ h9 => h9) rfl hd (kk _ _ _ _ _ _ _ _ h hW hS hc hs)
    · cases hf; exact va_get (D := D) (ci := 7) (v := .ref (ad 13)) (C := RX7) (T := TX7) (N := 39) (own := RX7) (ref := RX7) hx hb hts in_X7 hown hK.1 hW.1 0 rfl rfl 13 (by decide) (hts _ wd_616) (fun _ h9 => h9) rfl hd (kk _ _ _ _ _ _ _ _ h hW hS hc hs)
    · cases hf; exact va_get (D := D) (ci := 7) (v := .ref (ad 16)) (C := RX7) (T := TX7) (N := 39) (own := RX7) (ref := RX7) hx hb hts in_X7 hown hK.1 hW.1 0 rfl rfl 16 (by decide) (hts _ wd_619) (fun _ h9 => h9) rfl hd (kk _ _ _ _ _ _ _ _ h hW hS hc hs)
    · cases hf; exact va_get (D := D) (ci := 7) (v := .int (s.1 18)) (C := RX7) (T := TX7) (N := 39) (own := RX7) (ref := RX7) hx hb hts in_X7 hown hK.1 hW.1 0 rfl rfl 18 (by decide) (hts _ wd_621) (fun _ h9 => h9) rfl hd (kk _ _ _ _ _ _ _ _ h hW hS hc hs)
    · cases hf; exact va_get (D := D) (ci := 7) (v := .int (s.1 19)) (C := RX7) (T := TX7) (N := 39) (own := RX7) (ref := RX7) hx hb hts in_X7 hown hK.1 hW.1 0 rfl rfl 19 (by decide) (hts _ wd_622) (fun _ h9 => h9) rfl hd (kk _ _ _ _ _ _ _ _ h hW hS hc hs)
    · cases hf; exact va_get (D := D) (ci := 7) (v := .int (s.1 20)) (C := RX7) (T := TX7) (N := 39) (own := RX7) (ref := RX7) hx hb hts in_X7 hown hK.1 hW.1 0 rfl rfl 20 (by decide) (hts _ wd_623) (fun _ h9 => h9) rfl hd (kk _ _ _ _ _ _ _ _ h hW hS hc hs)
    · cases hf; exact va_get (D := D) (ci := 7) (v := .ref (ad 21)) (C := RX7) (T := TX7) (N := 39) (own := RX7) (ref := RX7) hx hb hts in_X7 hown hK.1 hW.1 0 rfl rfl 21 (by decide) (hts _ wd_624) (fun _ h9 => h9) rfl hd (kk _ _ _ _ _ _ _ _ h hW hS hc hs)
    · cases hf; exact va_get (D := D) (ci := 7) (v := .ref (ad 22)) (C := RX7) (T := TX7) (N := 39) (own := RX7) (ref := RX7) hx hb hts in_X7 hown hK.1 hW.1 0 rfl rfl 22 (by decide) (hts _ wd_625) (fun _ h9 => h9) rfl hd (kk _ _ _ _ _ _ _ _ h hW hS hc hs)
    · cases hf; exact va_get (D := D) (ci := 7) (v := .ref (ad 23)) (C := RX7) (T := TX7) (N := 39) (own := RX7) (ref := RX7) hx hb hts in_X7 hown hK.1 hW.1 0 rfl rfl 23 (by decide) (hts _ wd_626) (fun _ h9 => h9) rfl hd (kk _ _ _ _ _ _ _ _ h hW hS hc hs)
    · cases hf; exact va_get (D := D) (ci := 7) (v := .ref (ad 25)) (C := RX7) (T := TX7) (N := 39) (own := RX7) (ref := RX7) hx hb hts in_X7 hown hK.1 hW.1 0 rfl rfl 25 (by decide) (hts _ wd_628) (fun _ h9 => h9) rfl hd (kk _ _ _ _ _ _ _ _ h hW hS hc hs)
    · cases hf; exact va_get (D := D) (ci := 7) (v := .ref (ad 26)) (C := RX7) (T := TX7) (N := 39) (own := RX7) (ref := RX7) hx hb hts in_X7 hown hK.1 hW.1 0 rfl rfl 26 (by decide) (hts _ wd_629) (fun _ h9 => h9) rfl hd (kk _ _ _ _ _ _ _ _ h hW hS hc hs)
    · cases hf; exact va_get (D := D) (ci := 7) (v := .ref (ad 27)) (C := RX7) (T := TX7) (N := 39) (own := RX7) (ref := RX7) hx hb hts in_X7 hown hK.1 hW.1 0 rfl rfl 27 (by decide) (hts _ wd_630) (fun _ h9 => h9) rfl hd (kk _ _ _ _ _ _ _ _ h hW hS hc hs)
    · cases hf; exact va_get (D := D) (ci := 7) (v := .ref (ad 28)) (C := RX7) (T := TX7) (N := 39) (own := RX7) (ref := RX7) hx hb hts in_X7 hown hK.1 hW.1 0 rfl rfl 28 (by decide) (hts _ wd_631) (fun _ h9 => h9) rfl hd (kk _ _ _ _ _ _ _ _ h hW hS hc hs)
    · cases hf; exact va_get (D := D) (ci := 7) (v := .ref (ad 29)) (C := RX7) (T := TX7) (N := 39) (own := RX7) (ref := RX7) hx hb hts in_X7 hown hK.1 hW.1 0 rfl rfl 29 (by decide) (hts _ wd_632) (fun _ h9 => h9) rfl hd (kk _ _ _ _ _ _ _ _ h hW hS hc hs)
    · cases hf; exact va_get (D := D) (ci := 7) (v := .ref (ad 30)) (C := RX7) (T := TX7) (N := 39) (own := RX7) (ref := RX7) hx hb hts in_X7 hown hK.1 hW.1 0 rfl rfl 30 (by decide) (hts _ wd_633) (fun _ h9 => h9) rfl hd (kk _ _ _ _ _ _ _ _ h hW hS hc hs)
    · cases hf; exact va_get (D := D) (ci := 7) (v := .ref (ad 32)) (C := RX7) (T := TX7) (N := 39) (own := RX7) (ref := RX7) hx hb hts in_X7 hown hK.1 hW.1 0 rfl rfl 32 (by decide) (hts _ wd_635) (fun _ h9 => h9) rfl hd (kk _ _ _ _ _ _ _ _ h hW hS hc hs)
    · cases hf; exact va_get (D := D) (ci := 7) (v := .ref (ad 33)) (C := RX7) (T := TX7) (N := 39) (own := RX7) (ref := RX7) hx hb hts in_X7 hown hK.1 hW.1 0 rfl rfl 33 (by decide) (hts _ wd_636) (fun _ h9 => h9) rfl hd (kk _ _ _ _ _ _ _ _ h hW hS hc hs)
    · cases hf; exact va_get (D := D) (ci := 7) (v := .ref (ad 34)) (C := RX7) (T := TX7) (N := 39) (own := RX7) (ref := RX7) hx hb hts in_X7 hown hK.1 hW.1 0 rfl rfl 34 (by decide) (hts _ wd_637) (fun _ h9 => h9) rfl hd (kk _ _ _ _ _ _ _ _ h hW hS hc hs)
    · cases hf; exact va_get (D := D) (ci := 7) (v := .ref (ad 36)) (C := RX7) (T := TX7) (N := 39) (own := RX7) (ref := RX7) hx hb hts in_X7 hown hK.1 hW.1 0 rfl rfl 36 (by decide) (hts _ wd_639) (fun _ h9 => h9) rfl hd (kk _ _ _ _ _ _ _ _ h hW hS hc hs)
    · cases hf; exact va_get (D := D) (ci := 7) (v := .int (s.1 6)) (C := RX7) (T := TX7) (N := 39) (own := RX7) (ref := RX7) hx hb hts in_X7 hown hK.1 hW.1 0 rfl rfl 6 (by decide) (hts _ wd_609) (fun _ h9 => h9) rfl hd (kk _ _ _ _ _ _ _ _ h hW hS hc hs)
    · cases hf; exact va_get (D := D) (ci := 7) (v := .int (s.1 8)) (C := RX7) (T := TX7) (N := 39) (own := RX7) (ref := RX7) hx hb hts in_X7 hown hK.1 hW.1 0 rfl rfl 8 (by decide) (hts _ wd_611) (fun _ h9 => h9) rfl hd (kk _ _ _ _ _ _ _ _ h hW hS hc hs)
    · cases hf; exact va_get (D := D) (ci := 7) (v := .int (s.1 14)) (C := RX7) (T := TX7) (N := 39) (own := RX7) (ref := RX7) hx hb hts in_X7 hown hK.1 hW.1 0 rfl rfl 14 (by decide) (hts _ wd_617) (fun _ h9 => h9) rfl hd (kk _ _ _ _ _ _ _ _ h hW hS hc hs)
    · cases hf; exact va_get (D := D) (ci := 7) (v := .int (s.1 24)) (C := RX7) (T := TX7) (N := 39) (own := RX7) (ref := RX7) hx hb hts in_X7 hown hK.1 hW.1 0 rfl rfl 24 (by decide) (hts _ wd_627) (fun _ h9 => h9) rfl hd (kk _ _ _ _ _ _ _ _ h hW hS hc hs)
    · cases hf; exact va_get (D := D) (ci := 7) (v := .int (s.1 31)) (C := RX7) (T := TX7) (N := 39) (own := RX7) (ref := RX7) hx hb hts in_X7 hown hK.1 hW.1 0 rfl rfl 31 (by decide) (hts _ wd_634) (fun _ h9 => h9) rfl hd (kk _ _ _ _ _ _ _ _ h hW hS hc hs)
    · cases hf; exact va_get (D := D) (ci := 7) (v := .int (s.1 35)) (C := RX7) (T := TX7) (N := 39) (own := RX7) (ref := RX7) hx hb hts in_X7 hown hK.1 hW.1 0 rfl rfl 35 (by decide) (hts _ wd_638) (fun _ h9 => h9) rfl hd (kk _ _ _ _ _ _ _ _ h hW hS hc hs)
    · cases hf; exact va_get (D := D) (ci := 7) (v := .int (s.1 17)) (C := RX7) (T := TX7) (N := 39) (own := RX7) (ref := RX7) hx hb hts in_X7 hown hK.1 hW.1 0 rfl rfl 17 (by decide) (hts _ wd_620) (fun _ h9 => h9) rfl hd (kk _ _ _ _ _ _ _ _ h hW hS hc hs)
    · cases hf; exact va_get (D := D) (ci := 7) (v := .int (s.1 37)) (C := RX7) (T := TX7) (N := 39) (own := RX7) (ref := RX7) hx hb hts in_X7 hown hK.1 hW.1 0 rfl rfl 37 (by decide) (hts _ wd_640) (fun _ h9 => h9) rfl hd (kk _ _ _ _ _ _ _ _ h hW hS hc hs)
    · cases hf; exact va_get (D := D) (ci := 7) (v := .int (s.1 38)) (C := RX7) (T := TX7) (N := 39) (own := RX7) (ref := RX7) hx hb hts in_X7 hown hK.1 hW.1 0 rfl rfl 38 (by decide) (hts _ wd_641) (fun _ h9 => h9) rfl hd (kk _ _ _ _ _ _ _ _ h hW hS hc hs)
    · cases hf; exact va_get (D := D) (ci := 7) (v := .int (s.1 15)) (C := RX7) (T := TX7) (N := 39) (own := RX7) (ref := RX7) hx hb hts in_X7 hown hK.1 hW.1 0 rfl rfl 15 (by decide) (hts _ wd_618) (fun _ h9 => h9) rfl hd (kk _ _ _ _ _ _ _ _ h hW hS hc hs)
    · cases hf
  -- putfield
  · obtain rfl : len = 3 := by simpa [mm_okl] using hn
    split at h <;> (try exact h.elim)
    rename_i v st'
    split at h <;> (try exact h.elim)
    rename_i f hf
    unfold rf_fm at hf
    split at hf
    · cases hf; exact h.elim
    · cases hf; exact h.elim
    · cases hf; exact h.elim
    · cases hf; exact h.elim
    · cases hf; exact h.elim
    · cases hf; exact va_put (D := D) (ci := 7) (v := .int v) (ty := .int) (C := RX7) (T := TX7) (N := 39) (own := RX7) (ref := RX7) hx hb hts in_X7 tyX7 tyX7_ok nmX7 hown hK.1 hW.1 hW.2 hS 0 rfl rfl 5 (by decide) (hts _ wd_608) (fun _ h9 => h9) rfl rfl rfl rfl (Nat.le_of_ble_eq_true rfl) hd (fun H1 locs1 hP hD hS1 => kk _ _ _ _ _ _ _ _ h ⟨hP, hD⟩ hS1 hc hs)
    · cases hf; exact h.elim
    · cases hf; exact h.elim
    · cases hf; exact h.elim
    · cases hf; exact h.elim
    · cases hf; exact h.elim
    · cases hf; exact h.elim
    · cases hf; exact h.elim
    · cases hf; exact va_put (D := D) (ci := 7) (v := .int v) (ty := .int) (C := RX7) (T := TX7) (N := 39) (own := RX7) (ref := RX7) hx hb hts in_X7 tyX7 tyX7_ok nmX7 hown hK.1 hW.1 hW.2 hS 0 rfl rfl 18 (by decide) (hts _ wd_621) (fun _ h9 => h9) rfl rfl rfl rfl (Nat.le_of_ble_eq_true rfl) hd (fun H1 locs1 hP hD hS1 => kk _ _ _ _ _ _ _ _ h ⟨hP, hD⟩ hS1 hc hs)
    · cases hf; exact va_put (D := D) (ci := 7) (v := .int v) (ty := .int) (C := RX7) (T := TX7) (N := 39) (own := RX7) (ref := RX7) hx hb hts in_X7 tyX7 tyX7_ok nmX7 hown hK.1 hW.1 hW.2 hS 0 rfl rfl 19 (by decide) (hts _ wd_622) (fun _ h9 => h9) rfl rfl rfl rfl (Nat.le_of_ble_eq_true rfl) hd (fun H1 locs1 hP hD hS1 => kk _ _ _ _ _ _ _ _ h ⟨hP, hD⟩ hS1 hc hs)
    · cases hf; exact va_put (D := D) (ci := 7) (v := .int v) (ty := .int) (C := RX7) (T := TX7) (N := 39) (own := RX7) (ref := RX7) hx hb hts in_X7 tyX7 tyX7_ok nmX7 hown hK.1 hW.1 hW.2 hS 0 rfl rfl 20 (by decide) (hts _ wd_623) (fun _ h9 => h9) rfl rfl rfl rfl (Nat.le_of_ble_eq_true rfl) hd (fun H1 locs1 hP hD hS1 => kk _ _ _ _ _ _ _ _ h ⟨hP, hD⟩ hS1 hc hs)
    · cases hf; exact h.elim
    · cases hf; exact h.elim
    · cases hf; exact h.elim
    · cases hf; exact h.elim
    · cases hf; exact h.elim
    · cases hf; exact h.elim
    · cases hf; exact h.elim
    · cases hf; exact h.elim
    · cases hf; exact h.elim
    · cases hf; exact h.elim
    · cases hf; exact h.elim
    · cases hf; exact h.elim
    · cases hf; exact h.elim
    · cases hf; exact va_put (D := D) (ci := 7) (v := .int v) (ty := .int) (C := RX7) (T := TX7) (N := 39) (own := RX7) (ref := RX7) hx hb hts in_X7 tyX7 tyX7_ok nmX7 hown hK.1 hW.1 hW.2 hS 0 rfl rfl 6 (by decide) (hts _ wd_609) (fun _ h9 => h9) rfl rfl rfl rfl (Nat.le_of_ble_eq_true rfl) hd (fun H1 locs1 hP hD hS1 => kk _ _ _ _ _ _ _ _ h ⟨hP, hD⟩ hS1 hc hs)
    · cases hf; exact va_put (D := D) (ci := 7) (v := .int v) (ty := .int) (C := RX7) (T := TX7) (N := 39) (own := RX7) (ref := RX7) hx hb hts in_X7 tyX7 tyX7_ok nmX7 hown hK.1 hW.1 hW.2 hS 0 rfl rfl 8 (by decide) (hts _ wd_611) (fun _ h9 => h9) rfl rfl rfl rfl (Nat.le_of_ble_eq_true rfl) hd (fun H1 locs1 hP hD hS1 => kk _ _ _ _ _ _ _ _ h ⟨hP, hD⟩ hS1 hc hs)
    · cases hf; exact va_put (D := D) (ci := 7) (v := .int v) (ty := .int) (C := RX7) (T := TX7) (N := 39) (own := RX7) (ref := RX7) hx hb hts in_X7 tyX7 tyX7_ok nmX7 hown hK.1 hW.1 hW.2 hS 0 rfl rfl 14 (by decide) (hts _ wd_617) (fun _ h9 => h9) rfl rfl rfl rfl (Nat.le_of_ble_eq_true rfl) hd (fun H1 locs1 hP hD hS1 => kk _ _ _ _ _ _ _ _ h ⟨hP, hD⟩ hS1 hc hs)
    · cases hf; exact va_put (D := D) (ci := 7) (v := .int v) (ty := .int) (C := RX7) (T := TX7) (N := 39) (own := RX7) (ref := RX7) hx hb hts in_X7 tyX7 tyX7_ok nmX7 hown hK.1 hW.1 hW.2 hS 0 rfl rfl 24 (by decide) (hts _ wd_627) (fun _ h9 => h9) rfl rfl rfl rfl (Nat.le_of_ble_eq_true rfl) hd (fun H1 locs1 hP hD hS1 => kk _ _ _ _ _ _ _ _ h ⟨hP, hD⟩ hS1 hc hs)
    · cases hf; exact va_put (D := D) (ci := 7) (v := .int v) (ty := .int) (C := RX7) (T := TX7) (N := 39) (own := RX7) (ref := RX7) hx hb hts in_X7 tyX7 tyX7_ok nmX7 hown hK.1 hW.1 hW.2 hS 0 rfl rfl 31 (by decide) (hts _ wd_634) (fun _ h9 => h9) rfl rfl rfl rfl (Nat.le_of_ble_eq_true rfl) hd (fun H1 locs1 hP hD hS1 => kk _ _ _ _ _ _ _ _ h ⟨hP, hD⟩ hS1 hc hs)
    · cases hf; exact va_put (D := D) (ci := 7) (v := .int v) (ty := .int) (C := RX7) (T := TX7) (N := 39) (own := RX7) (ref := RX7) hx hb hts in_X7 tyX7 tyX7_ok nmX7 hown hK.1 hW.1 hW.2 hS 0 rfl rfl 35 (by decide) (hts _ wd_638) (fun _ h9 => h9) rfl rfl rfl rfl (Nat.le_of_ble_eq_true rfl) hd (fun H1 locs1 hP hD hS1 => kk _ _ _ _ _ _ _ _ h ⟨hP, hD⟩ hS1 hc hs)
    · cases hf; exact va_put (D := D) (ci := 7) (v := .int v) (ty := .int) (C := RX7) (T := TX7) (N := 39) (own := RX7) (ref := RX7) hx hb hts in_X7 tyX7 tyX7_ok nmX7 hown hK.1 hW.1 hW.2 hS 0 rfl rfl 17 (by decide) (hts _ wd_620) (fun _ h9 => h9) rfl rfl rfl rfl (Nat.le_of_ble_eq_true rfl) hd (fun H1 locs1 hP hD hS1 => kk _ _ _ _ _ _ _ _ h ⟨hP, hD⟩ hS1 hc hs)
    · cases hf; exact va_put (D := D) (ci := 7) (v := .int v) (ty := .int) (C := RX7) (T := TX7) (N := 39) (own := RX7) (ref := RX7) hx hb hts in_X7 tyX7 tyX7_ok nmX7 hown hK.1 hW.1 hW.2 hS 0 rfl rfl 37 (by decide) (hts _ wd_640) (fun _ h9 => h9) rfl rfl rfl rfl (Nat.le_of_ble_eq_true rfl) hd (fun H1 locs1 hP hD hS1 => kk _ _ _ _ _ _ _ _ h ⟨hP, hD⟩ hS1 hc hs)
    · cases hf; exact va_put (D := D) (ci := 7) (v := .int v) (ty := .int) (C := RX7) (T := TX7) (N := 39) (own := RX7) (ref := RX7) hx hb hts in_X7 tyX7 tyX7_ok nmX7 hown hK.1 hW.1 hW.2 hS 0 rfl rfl 38 (by decide) (hts _ wd_641) (fun _ h9 => h9) rfl rfl rfl rfl (Nat.le_of_ble_eq_true rfl) hd (fun H1 locs1 hP hD hS1 => kk _ _ _ _ _ _ _ _ h ⟨hP, hD⟩ hS1 hc hs)
    · cases hf; exact va_put (D := D) (ci := 7) (v := .int v) (ty := .int) (C := RX7) (T := TX7) (N := 39) (own := RX7) (ref := RX7) hx hb hts in_X7 tyX7 tyX7_ok nmX7 hown hK.1 hW.1 hW.2 hS 0 rfl rfl 15 (by decide) (hts _ wd_618) (fun _ h9 => h9) rfl rfl rfl rfl (Nat.le_of_ble_eq_true rfl) hd (fun H1 locs1 hP hD hS1 => kk _ _ _ _ _ _ _ _ h ⟨hP, hD⟩ hS1 hc hs)
    · cases hf
  -- iaload
  · obtain rfl : len = 1 := by simpa [mm_okl] using hn
    split at h <;> (try exact h.elim)
    rename_i i f st'
    split at h <;> (try exact h.elim)
    rename_i hty
    obtain ⟨q0, h1, -⟩ := rf_pos (cs := cs) (ad := ad) (μ := s) hty
    exact va_iald hx hb hK.1 hW.1 q0 0 h1 rfl h.1 hd (kk _ _ _ _ _ _ _ _ h.2 hW hS hc hs)
  -- baload
  · obtain rfl : len = 1 := by simpa [mm_okl] using hn
    split at h <;> (try exact h.elim)
    rename_i i f st'
    split at h <;> (try exact h.elim)
    rename_i hty
    obtain ⟨q0, h1, -⟩ := rf_posZ (cs := cs) (ad := ad) (μ := s) hty
    exact va_zald hx hb hK.1 hW.1 q0 1 h1 rfl h.1 hd (kk _ _ _ _ _ _ _ _ h.2 hW hS hc hs)
  -- iastore
  · obtain rfl : len = 1 := by simpa [mm_okl] using hn
    split at h <;> (try exact h.elim)
    rename_i v i f st'
    split at h <;> (try exact h.elim)
    rename_i hty
    obtain ⟨q0, h1, h2⟩ := rf_pos (cs := cs) (ad := ad) (μ := s) hty
    exact va_iast hx hb hK.1 hW.1 hW.2 hS q0 0 h1 rfl h.1 hd (fun H1 locs1 hP hD hS1 => by
      rw [h2] at hP hD
      exact kk _ _ _ _ _ _ _ _ h.2 ⟨hP, hD⟩ hS1 hc hs)
  -- bastore
  · obtain rfl : len = 1 := by simpa [mm_okl] using hn
    split at h <;> (try exact h.elim)
    rename_i v i f st'
    split at h <;> (try exact h.elim)
    rename_i hty
    obtain ⟨q0, h1, h2⟩ := rf_posZ (cs := cs) (ad := ad) (μ := s) hty
    have hv : vp_nar .boolean v = v := by rcases h.2.1 with rfl | rfl <;> rfl
    exact va_zast hx hb hK.1 hW.1 hW.2 hS q0 1 h1 rfl h.1 hd (fun H1 locs1 hP hD hS1 => by
      rw [hv, h2] at hP hD
      exact kk _ _ _ _ _ _ _ _ h.2.2 ⟨hP, hD⟩ hS1 hc hs)
  -- ldc
  · obtain rfl : len = 2 := by simpa [mm_okl] using hn
    split at h <;> (try exact h.elim)
    rename_i v hv
    unfold rf_cst at hv
    split at hv
    · cases hv; exact lv_ldc (own := RX7) hx hb hown (hts _ wd_590) hd (kk _ _ _ _ _ _ _ _ h hW hS hc hs)
    · cases hv; exact lv_ldc (own := RX7) hx hb hown (hts _ wd_744) hd (kk _ _ _ _ _ _ _ _ h hW hS hc hs)
    · cases hv
end RFS
end
section
/-! ===== the class: its picture, its world, its instructions ===== -/
abbrev xO : Type := Nat × (Nat → Int32) × (Nat → Option Nat)
abbrev xS : Type := (Nat → Option xO) × (Nat → Option (Nat × (Nat → Int32))) × (Nat → Option (Nat × (Nat → Option Nat)))
def x_rho (ad : Nat → Nat) (k : Nat) : Nat := if k < 24 then ad k else k - 24
def x_fs (ad : Nat → Nat) (o : xO) : List Value := match o.1 with
  | 0 => [.int (o.2.1 0), .int (o.2.1 1), mE (x_rho ad) (.inr (o.2.2 2)), mE (x_rho ad) (.inr (o.2.2 3)), mE (x_rho ad) (.inr (o.2.2 4)), mE (x_rho ad) (.inr (o.2.2 5)), .int (o.2.1 6), .int (o.2.1 7), .int (o.2.1 8)]
  | 1 => [mE (x_rho ad) (.inr (o.2.2 0)), .int (o.2.1 1)]
  | 2 => [mE (x_rho ad) (.inr (o.2.2 0)), mE (x_rho ad) (.inr (o.2.2 1)), .int (o.2.1 2), .int (o.2.1 3)]
  | 3 => [mE (x_rho ad) (.inr (o.2.2 0)), .int (o.2.1 1)]
  | 4 => [.int (o.2.1 0), .int (o.2.1 1), .int (o.2.1 2)]
  | 5 => [mE (x_rho ad) (.inr (o.2.2 0)), mE (x_rho ad) (.inr (o.2.2 1)), mE (x_rho ad) (.inr (o.2.2 2)), .int (o.2.1 3), mE (x_rho ad) (.inr (o.2.2 4))]
  | 6 => [mE (x_rho ad) (.inr (o.2.2 0)), mE (x_rho ad) (.inr (o.2.2 1)), mE (x_rho ad) (.inr (o.2.2 2)), .int (o.2.1 3), mE (x_rho ad) (.inr (o.2.2 4)), mE (x_rho ad) (.inr (o.2.2 5)), mE (x_rho ad) (.inr (o.2.2 6)), mE (x_rho ad) (.inr (o.2.2 7)), mE (x_rho ad) (.inr (o.2.2 8)), mE (x_rho ad) (.inr (o.2.2 9)), mE (x_rho ad) (.inr (o.2.2 10))]
  | _ => []
def x_e (cs ad : Nat → Nat) (σ : xS) (k : Nat) : Option va_E := match σ.1 k with
  | some o => some (.inr (o.1, x_fs ad o))
  | none => (match σ.2.1 k with
    | some t => some (.inl (cs 0, t.1, .inl t.2))
    | none => (match σ.2.2 k with
      | some t => some (.inl (cs 2, t.1, .inr (.inr (.inr (.inr (fun j => (t.2 j).map (x_rho ad)))))))
      | none => none))
def x_X (σ : xS) : Prop := ∀ k, (σ.1 k ≠ none → σ.2.1 k = none ∧ σ.2.2 k = none) ∧ (σ.2.1 k ≠ none → σ.2.2 k = none)
def x_W (D : va_G) (cs ad : Nat → Nat) (A : Nat → Prop) (σ : xS) (H : Heap) : Prop :=
  (∀ k e, x_e cs ad σ k = some e → va_at D classes (x_rho ad k, e) H ∧ (A (x_rho ad k) ∨ (σ.1 k = none ∧ (k = 22 ∨ k = 23)))) ∧
  (∀ j k, x_e cs ad σ j ≠ none → x_e cs ad σ k ≠ none → x_rho ad j = x_rho ad k → j = k) ∧ x_X σ
theorem x_eO {cs ad : Nat → Nat} {σ : xS} {k : Nat} {o : xO} (h : σ.1 k = some o) : x_e cs ad σ k = some (.inr (o.1, x_fs ad o)) := by unfold x_e; rw [h]
theorem x_eG {cs ad : Nat → Nat} {σ : xS} {k : Nat} {t : Nat × (Nat → Int32)} (hX : x_X σ) (h : σ.2.1 k = some t) : x_e cs ad σ k = some (.inl (cs 0, t.1, .inl t.2)) := by
  have h0 : σ.1 k = none := by
    cases h1 : σ.1 k with
    | none => rfl
    | some o => have := ((hX k).1 (by rw [h1]; exact fun z => by cases z)).1; rw [h] at this; cases this
  unfold x_e; rw [h0, h]
theorem x_eR {cs ad : Nat → Nat} {σ : xS} {k : Nat} {t : Nat × (Nat → Option Nat)} (hX : x_X σ) (h : σ.2.2 k = some t) : x_e cs ad σ k = some (.inl (cs 2, t.1, .inr (.inr (.inr (.inr (fun j => (t.2 j).map (x_rho ad))))))) := by
  have h0 : σ.1 k = none := by
    cases h1 : σ.1 k with
    | none => rfl
    | some o => have := ((hX k).1 (by rw [h1]; exact fun z => by cases z)).2; rw [h] at this; cases this
  have h2 : σ.2.1 k = none := by
    cases h1 : σ.2.1 k with
    | none => rfl
    | some o => have := (hX k).2 (by rw [h1]; exact fun z => by cases z); rw [h] at this; cases this
  unfold x_e; rw [h0, h2, h]
theorem x_W_upd {D : va_G} {cs ad : Nat → Nat} {A : Nat → Prop} {σ σ' : xS} {H H1 : Heap} {k : Nat} {e e' : va_E} (hW : x_W D cs ad A σ H) (hk : x_e cs ad σ k = some e) (hk' : x_e cs ad σ' k = some e') (ho : ∀ j, j ≠ k → x_e cs ad σ' j = x_e cs ad σ j) (h1 : ∀ j, j ≠ k → σ'.1 j = σ.1 j) (hx : x_X σ') (hat : va_at D classes (x_rho ad k, e') H1) (hq : ∀ q : Nat, q ≠ x_rho ad k → H1[q]? = H[q]?) (hA : A (x_rho ad k)) : x_W D cs ad A σ' H1 := by
  have key : ∀ j, x_e cs ad σ' j ≠ none → x_e cs ad σ j ≠ none := fun j hj => by
    by_cases hjk : j = k
    · subst hjk; rw [hk]; exact fun z => by cases z
    · rw [← ho j hjk]; exact hj
  refine ⟨fun j e0 hj => ?_, fun i j hi hj => hW.2.1 i j (key i hi) (key j hj), hx⟩
  by_cases hjk : j = k
  · subst hjk
    rw [hk'] at hj
    cases hj
    exact ⟨hat, Or.inl hA⟩
  · rw [ho j hjk] at hj
    obtain ⟨g1, g2⟩ := hW.1 j e0 hj
    refine ⟨g1.kept (hq _ (fun z => hjk (hW.2.1 j k (by rw [hj]; exact fun z => by cases z) (by rw [hk]; exact fun z => by cases z) z))), ?_⟩
    rw [h1 j hjk]
    exact g2
theorem x_lt {D : va_G} {cs ad : Nat → Nat} {A : Nat → Prop} {σ : xS} {H : Heap} {k : Nat} (hW : x_W D cs ad A σ H) (h : x_e cs ad σ k ≠ none) : x_rho ad k < H.size := by
  cases he : x_e cs ad σ k with
  | none => exact absurd he h
  | some e => exact (hW.1 k e he).1.lt
theorem x_rho_new (ad : Nat → Nat) (n : Nat) : x_rho ad (n + 24) = n := by
  unfold x_rho
  rw [if_neg (by omega)]
  omega
theorem x_fresh {D : va_G} {cs ad : Nat → Nat} {A : Nat → Prop} {σ : xS} {H : Heap} (hW : x_W D cs ad A σ H) : x_e cs ad σ (H.size + 24) = none := by
  cases he : x_e cs ad σ (H.size + 24) with
  | none => rfl
  | some e =>
    have := x_lt hW (k := H.size + 24) (by rw [he]; exact fun z => by cases z)
    rw [x_rho_new] at this
    omega
theorem x_none {cs ad : Nat → Nat} {σ : xS} {k : Nat} (h : x_e cs ad σ k = none) : σ.1 k = none ∧ σ.2.1 k = none ∧ σ.2.2 k = none := by
  unfold x_e at h
  split at h
  · cases h
  · rename_i h1
    split at h
    · cases h
    · rename_i h2
      split at h
      · cases h
      · rename_i h3
        exact ⟨h1, h2, h3⟩
theorem x_W_new {D : va_G} {cs ad : Nat → Nat} {A : Nat → Prop} {σ σ' : xS} {H H1 : Heap} {e' : va_E} (hW : x_W D cs ad A σ H) (hk' : x_e cs ad σ' (H.size + 24) = some e') (ho : ∀ j, j ≠ H.size + 24 → x_e cs ad σ' j = x_e cs ad σ j) (h1 : ∀ j, j ≠ H.size + 24 → σ'.1 j = σ.1 j) (hx : x_X σ') (hat : va_at D classes (H.size, e') H1) (hq : ∀ q : Nat, q < H.size → H1[q]? = H[q]?) (hA : A H.size) : x_W D cs ad A σ' H1 := by
  have key : ∀ j, j ≠ H.size + 24 → x_e cs ad σ' j ≠ none → x_rho ad j < H.size := fun j hjk hj => x_lt hW (by rw [← ho j hjk]; exact hj)
  refine ⟨fun j e0 hj => ?_, fun i j hi hj hij => ?_, hx⟩
  · by_cases hjk : j = H.size + 24
    · subst hjk
      rw [hk'] at hj
      cases hj
      rw [x_rho_new]
      exact ⟨hat, Or.inl hA⟩
    · have hlt := key j hjk (by rw [hj]; exact fun z => by cases z)
      rw [ho j hjk] at hj
      obtain ⟨g1, g2⟩ := hW.1 j e0 hj
      refine ⟨g1.kept (hq _ hlt), ?_⟩
      rw [h1 j hjk]
      exact g2
  · by_cases hik : i = H.size + 24
    · by_cases hjk : j = H.size + 24
      · rw [hik, hjk]
      · have := key j hjk hj
        rw [← hij, hik, x_rho_new] at this
        omega
    · by_cases hjk : j = H.size + 24
      · have := key i hik hi
        rw [hij, hjk, x_rho_new] at this
        omega
      · exact hW.2.1 i j (by rw [← ho i hik]; exact hi) (by rw [← ho j hjk]; exact hj) hij
def x_fm0 (i : Nat) : Option (Nat × Nat) := match i with
  | 12 => some (3, 1)
  | 18 => some (0, 1)
  | 23 => some (0, 0)
  | 26 => some (0, 5)
  | 30 => some (0, 6)
  | 37 => some (0, 2)
  | 41 => some (0, 3)
  | 44 => some (0, 4)
  | _ => none
def x_fm1 (i : Nat) : Option (Nat × Nat) := match i with
  | 11 => some (1, 0)
  | 17 => some (1, 1)
  | 29 => some (0, 0)
  | 32 => some (0, 3)
  | 36 => some (0, 4)
  | _ => none
def x_fm2 (i : Nat) : Option (Nat × Nat) := match i with
  | 11 => some (2, 0)
  | 17 => some (2, 1)
  | 21 => some (2, 2)
  | 25 => some (2, 3)
  | _ => none
def x_fm3 (i : Nat) : Option (Nat × Nat) := match i with
  | 9 => some (3, 0)
  | 15 => some (3, 1)
  | 27 => some (0, 0)
  | 32 => some (0, 3)
  | 36 => some (0, 4)
  | 39 => some (0, 5)
  | 42 => some (0, 6)
  | 45 => some (0, 1)
  | _ => none
def x_fm4 (i : Nat) : Option (Nat × Nat) := match i with
  | 9 => some (4, 0)
  | 22 => some (0, 8)
  | 27 => some (4, 1)
  | 30 => some (4, 2)
  | 40 => some (0, 3)
  | 44 => some (0, 4)
  | 47 => some (0, 5)
  | _ => none
def x_fm5 (i : Nat) : Option (Nat × Nat) := match i with
  | 9 => some (5, 0)
  | 18 => some (5, 1)
  | 25 => some (5, 2)
  | 29 => some (5, 3)
  | 33 => some (5, 4)
  | 37 => some (0, 1)
  | 69 => some (1, 1)
  | 79 => some (0, 3)
  | 82 => some (0, 0)
  | 85 => some (0, 4)
  | 88 => some (0, 7)
  | 98 => some (0, 5)
  | 101 => some (0, 6)
  | _ => none
def x_fm6 (i : Nat) : Option (Nat × Nat) := match i with
  | 11 => some (6, 0)
  | 15 => some (6, 1)
  | 18 => some (6, 2)
  | 21 => some (6, 3)
  | 28 => some (6, 4)
  | 35 => some (6, 5)
  | 42 => some (6, 6)
  | 49 => some (6, 7)
  | 56 => some (6, 8)
  | 60 => some (6, 9)
  | 63 => some (6, 10)
  | 81 => some (5, 0)
  | 84 => some (3, 1)
  | 105 => some (0, 1)
  | 121 => some (0, 0)
  | 129 => some (1, 1)
  | 144 => some (4, 1)
  | 147 => some (4, 2)
  | 161 => some (0, 6)
  | 164 => some (0, 5)
  | 201 => some (2, 2)
  | 204 => some (2, 3)
  | _ => none
def x_fm (o i : Nat) : Option (Nat × Nat) := match o with
  | 0 => x_fm0 i
  | 1 => x_fm1 i
  | 2 => x_fm2 i
  | 3 => x_fm3 i
  | 4 => x_fm4 i
  | 5 => x_fm5 i
  | 6 => x_fm6 i
  | _ => none
def x_kd (ci f : Nat) : Nat := match ci, f with
  | 0, 0 => 0
  | 0, 1 => 0
  | 0, 2 => 1
  | 0, 3 => 1
  | 0, 4 => 1
  | 0, 5 => 1
  | 0, 6 => 0
  | 0, 7 => 0
  | 0, 8 => 0
  | 1, 0 => 3
  | 1, 1 => 0
  | 2, 0 => 3
  | 2, 1 => 3
  | 2, 2 => 0
  | 2, 3 => 0
  | 3, 0 => 3
  | 3, 1 => 0
  | 4, 0 => 0
  | 4, 1 => 0
  | 4, 2 => 0
  | 5, 0 => 3
  | 5, 1 => 3
  | 5, 2 => 3
  | 5, 3 => 0
  | 5, 4 => 1
  | 6, 0 => 3
  | 6, 1 => 3
  | 6, 2 => 3
  | 6, 3 => 0
  | 6, 4 => 3
  | 6, 5 => 3
  | 6, 6 => 3
  | 6, 7 => 3
  | 6, 8 => 3
  | 6, 9 => 3
  | 6, 10 => 3
  | _, _ => 9
def x_cl0 (i : Nat) : Option Nat := match i with
  | 9 => some 0
  | _ => none
def x_cl1 (i : Nat) : Option Nat := match i with
  | 9 => some 0
  | _ => none
def x_cl2 (i : Nat) : Option Nat := match i with
  | 9 => some 0
  | _ => none
def x_cl3 (i : Nat) : Option Nat := match i with
  | _ => none
def x_cl4 (i : Nat) : Option Nat := match i with
  | _ => none
def x_cl5 (i : Nat) : Option Nat := match i with
  | 15 => some 1
  | 22 => some 3
  | 38 => some 0
  | _ => none
def x_cl6 (i : Nat) : Option Nat := match i with
  | 9 => some 0
  | 25 => some 3
  | 32 => some 2
  | 39 => some 1
  | 46 => some 5
  | 53 => some 4
  | _ => none
def x_cl (o i : Nat) : Option Nat := match o with
  | 0 => x_cl0 i
  | 1 => x_cl1 i
  | 2 => x_cl2 i
  | 3 => x_cl3 i
  | 4 => x_cl4 i
  | 5 => x_cl5 i
  | 6 => x_cl6 i
  | _ => none
def x_nf (c : Nat) : Nat := match c with
  | 0 => 9
  | 1 => 2
  | 2 => 4
  | 3 => 2
  | 4 => 3
  | 5 => 5
  | 6 => 11
  | _ => 0
def x_sm0 (i : Nat) : Option Nat := match i with
  | _ => none
def x_sm1 (i : Nat) : Option Nat := match i with
  | _ => none
def x_sm2 (i : Nat) : Option Nat := match i with
  | _ => none
def x_sm3 (i : Nat) : Option Nat := match i with
  | _ => none
def x_sm4 (i : Nat) : Option Nat := match i with
  | _ => none
def x_sm5 (i : Nat) : Option Nat := match i with
  | _ => none
def x_sm6 (i : Nat) : Option Nat := match i with
  | 74 => some 22
  | 78 => some 23
  | _ => none
def x_sm (o i : Nat) : Option Nat := match o with
  | 0 => x_sm0 i
  | 1 => x_sm1 i
  | 2 => x_sm2 i
  | 3 => x_sm3 i
  | 4 => x_sm4 i
  | 5 => x_sm5 i
  | 6 => x_sm6 i
  | _ => none
def x_len (σ : xS) (r : Nat) : Option Nat := match σ.2.1 r with
  | some t => some t.1
  | none => (σ.2.2 r).map (fun t => t.1)
/-- ini: a constructor, which may put final fields of its own class -/
def x_hk (ini : Bool) (o : Nat) : mH xS := fun ins st σ a b k => match ins with
  | .getfield i => (match st with
    | .inr (some r) :: st' => (match x_fm o i with
      | some q => ∃ c, σ.1 r = some c ∧ c.1 = q.1 ∧ (match x_kd q.1 q.2 % 2 with
        | 0 => k (.inl (c.2.1 q.2) :: st') σ a b
        | _ => k (.inr (c.2.2 q.2) :: st') σ a b)
      | none => False)
    | _ => False)
  | .putfield i => (match st with
    | v :: .inr (some r) :: st' => (match x_fm o i with
      | some q => ∃ c, σ.1 r = some c ∧ c.1 = q.1 ∧ (match v, x_kd q.1 q.2 with
        | .inl x, 0 => k st' (va_up σ.1 r (some (c.1, upd c.2.1 q.2 x, c.2.2)), σ.2) a b
        | .inr x, 1 => k st' (va_up σ.1 r (some (c.1, c.2.1, va_up c.2.2 q.2 x)), σ.2) a b
        | .inr x, 3 => (match ini && (q.1 == o) with
          | true => k st' (va_up σ.1 r (some (c.1, c.2.1, va_up c.2.2 q.2 x)), σ.2) a b
          | false => False)
        | _, _ => False)
      | none => False)
    | _ => False)
  | .iaload => (match st with
    | .inl i :: .inr (some r) :: st' => ∃ t, σ.2.1 r = some t ∧ vp_in i t.1 ∧ k (.inl (t.2 i.toNatClampNeg) :: st') σ a b
    | _ => False)
  | .iastore => (match st with
    | .inl v :: .inl i :: .inr (some r) :: st' => ∃ t, σ.2.1 r = some t ∧ r ≠ 22 ∧ r ≠ 23 ∧ vp_in i t.1 ∧ k st' (σ.1, va_up σ.2.1 r (some (t.1, upd t.2 i.toNatClampNeg v)), σ.2.2) a b
    | _ => False)
  | .aaload => (match st with
    | .inl i :: .inr (some r) :: st' => ∃ t, σ.2.2 r = some t ∧ vp_in i t.1 ∧ k (.inr (t.2 i.toNatClampNeg) :: st') σ a b
    | _ => False)
  | .aastore => (match st with
    | .inr v :: .inl i :: .inr (some r) :: st' => ∃ t, σ.2.2 r = some t ∧ r ≠ 22 ∧ r ≠ 23 ∧ vp_in i t.1 ∧ (∀ q, v = some q → ∃ c, σ.1 q = some c ∧ c.1 = 0) ∧ k st' (σ.1, σ.2.1, va_up σ.2.2 r (some (t.1, va_up t.2 i.toNatClampNeg v))) a b
    | _ => False)
  | .arraylength => (match st with
    | .inr (some r) :: st' => ∃ n, x_len σ r = some n ∧ k (.inl (nI n) :: st') σ a b
    | _ => False)
  | .new i => (match x_cl o i with
    | some ci => 1 ≤ a ∧ x_nf ci ≤ b ∧ ∀ q, 24 ≤ q → σ.1 q = none → σ.2.1 q = none → σ.2.2 q = none → k (.inr (some q) :: st) (va_up σ.1 q (some (ci, fun _ => 0, fun _ => none)), σ.2) (a - 1) (b - x_nf ci)
    | none => False)
  | .newarray .int => (match st with
    | .inl n :: st' => ¬ n < 0 ∧ 1 ≤ a ∧ n.toNatClampNeg ≤ b ∧ n.toNatClampNeg ≤ 100000 ∧ ∀ q, 24 ≤ q → σ.1 q = none → σ.2.1 q = none → σ.2.2 q = none → k (.inr (some q) :: st') (σ.1, va_up σ.2.1 q (some (n.toNatClampNeg, fun _ => 0)), σ.2.2) (a - 1) (b - n.toNatClampNeg)
    | _ => False)
  | .anewarray i => (match st with
    | .inl n :: st' => (match x_cl o i with
      | some 0 => ¬ n < 0 ∧ 1 ≤ a ∧ n.toNatClampNeg ≤ b ∧ n.toNatClampNeg ≤ 100000 ∧ ∀ q, 24 ≤ q → σ.1 q = none → σ.2.1 q = none → σ.2.2 q = none → k (.inr (some q) :: st') (σ.1, σ.2.1, va_up σ.2.2 q (some (n.toNatClampNeg, fun _ => none))) (a - 1) (b - n.toNatClampNeg)
      | _ => False)
    | _ => False)
  | .getstatic i => (match x_sm o i with
    | some r => k (.inr (some r) :: st) σ a b
    | none => False)
  | _ => False
set_option maxHeartbeats 4000000 in
theorem x_hk_mono (ini : Bool) (o : Nat) : mH_mono (x_hk ini o) := by
  intro ins st s a b k k' h h1
  unfold x_hk at *
  split at h1
  all_goals (try exact h1.elim)
  · split at h1 <;> (try exact h1.elim)
    split at h1 <;> (try exact h1.elim)
    obtain ⟨c, g1, g2, h1⟩ := h1
    refine ⟨c, g1, g2, ?_⟩
    split at h1 <;> exact h _ _ _ _ h1
  · split at h1 <;> (try exact h1.elim)
    split at h1 <;> (try exact h1.elim)
    obtain ⟨c, g1, g2, h1⟩ := h1
    refine ⟨c, g1, g2, ?_⟩
    split at h1 <;> (try exact h _ _ _ _ h1) <;> (try exact h1.elim)
    split at h1 <;> (first | exact h _ _ _ _ h1 | exact h1.elim)
  · split at h1 <;> (try exact h1.elim)
    obtain ⟨t, g1, g2, h1⟩ := h1
    exact ⟨t, g1, g2, h _ _ _ _ h1⟩
  · split at h1 <;> (try exact h1.elim)
    obtain ⟨t, g1, g2, g3, g4, h1⟩ := h1
    exact ⟨t, g1, g2, g3, g4, h _ _ _ _ h1⟩
  · split at h1 <;> (try exact h1.elim)
    obtain ⟨t, g1, g2, h1⟩ := h1
    exact ⟨t, g1, g2, h _ _ _ _ h1⟩
  · split at h1 <;> (try exact h1.elim)
    obtain ⟨t, g1, g2, g3, g4, g5, h1⟩ := h1
    exact ⟨t, g1, g2, g3, g4, g5, h _ _ _ _ h1⟩
  · split at h1 <;> (try exact h1.elim)
    obtain ⟨t, g1, h1⟩ := h1
    exact ⟨t, g1, h _ _ _ _ h1⟩
  · split at h1 <;> (try exact h1.elim)
    exact ⟨h1.1, h1.2.1, fun q g1 g2 g3 g4 => h _ _ _ _ (h1.2.2 q g1 g2 g3 g4)⟩
  · split at h1 <;> (try exact h1.elim)
    exact ⟨h1.1, h1.2.1, h1.2.2.1, h1.2.2.2.1, fun q g1 g2 g3 g4 => h _ _ _ _ (h1.2.2.2.2 q g1 g2 g3 g4)⟩
  · split at h1 <;> (try exact h1.elim)
    split at h1 <;> (try exact h1.elim)
    exact ⟨h1.1, h1.2.1, h1.2.2.1, h1.2.2.2.1, fun q g1 g2 g3 g4 => h _ _ _ _ (h1.2.2.2.2 q g1 g2 g3 g4)⟩
  · split at h1 <;> (first | exact h _ _ _ _ h1 | exact h1.elim)
end
section
section VX
variable {p : Program} {l : Launch} {e : Env} {R : Room} {s : State} {m : MethodId} {args : Array Value} {below : List Frame} {meth : Method} {c : Code} {H : Heap} {locs : List Loc} {cells slots : Nat} {Q : State → Prop}
variable {cc : ByteArray} {pc : Nat} {ls : Array Slot} {rest : List Value} {D : va_G} {cl : List vw_C} {a : Nat} {tys : List (ClassId × FieldType)}
theorem vx_P1 {q : Nat × va_E} (h : va_at D cl q H) : va_P D cl [q] H := fun k x hx => by
  have hz : k < 1 := (List.getElem?_eq_some_iff.mp hx).1
  rw [show k = 0 by omega] at hx
  cases hx
  exact h
theorem vx_put (hexec : p.tables.exec = Jvm.exec) (hb : c.code = cc) {own C : String} {T : u_T} {N ci index : Nat} {Ts : List Cond} (hts : ∀ w ∈ Ts, w.before args s = true) (hin : ∀ w ∈ u_ws C T N, w ∈ Ts) (ty0 : Nat → FieldType) (hty : ∀ k, k < N → parseFieldDescriptor (T k).2.2.1 = some (ty0 k)) (hnm : ∀ a, a < N → ∀ b, b < N → a ≠ b → (T a).2.1 ≠ (T b).2.1) (hown : s.vm.findClass own = some m.cls) (hK : va_K D cl tys s) {fs : List Value} (hat : va_at D cl (a, .inr (ci, fs)) H) (hc : cl[ci]? = some (C, T, N)) (k : Nat) (hk : k < N) (hlink : (Cond.fieldLink own index (T k).1 (T k).2.1 (T k).2.2.1).before args s = true) (hfin : (T k).2.2.2 = false ∨ ((T k).2.2.2 = true ∧ meth.name = "<init>" ∧ (T k).1 = own)) {ty : FieldType} {v : Value} (hd : parseFieldDescriptor (T k).2.2.1 = some ty) (hn : narrow ty v = v) (hfit : fits ty v = true) (hl : k < fs.length) (hdg : decode cc pc = .ok (.putfield index, 3))
    (kk : ∀ (H1 : Heap) (sl : Nat), va_at D cl (a, .inr (ci, fs.set k v)) H1 → H1.size = H.size → (∀ q, q ≠ a → H1[q]? = H[q]?) → W p l e R s m args below meth c H1 (locs ++ [⟨a, sl⟩]) cells slots Q (F0 m (pc + 3) ls rest)) : W p l e R s m args below meth c H locs cells slots Q (F0 m pc ls (v :: .ref a :: rest)) := by
  have hap := va_apart (own := own) hts hin ty0 hty hnm hK hc
  obtain ⟨r, h1, cell, q1, q2, q3, q4⟩ := hat
  have hr : r = (C, T, N) := Option.some.inj (h1.symm.trans hc)
  subst hr
  obtain ⟨hS, hfc, kC, hkC, hkind⟩ := hK.1 ci _ hc
  obtain ⟨cf, kf, fi, f, hi, hsl⟩ := hS k hk
  have hlay := hts _ (hin _ (u_in_lay hk))
  have hst := (u_facts hfc hkC (u_lays hts hin hk) hi).1
  unfold u_lay at hlay
  rcases hfin with hfin | ⟨hfin, hin2, hdecl⟩
  · rw [if_neg (by rw [hfin]; decide)] at hlay
    have h6 := u_store hfc hkC hkind hlay hi hd hn hfit
    refine W.putK hexec hb (f := f) ⟨hown, hlink, ⟨_, _, _, hi⟩, hst⟩ (by rw [q2]; exact h6) q1 q3 (by rw [hsl]; exact k2_hasslot (q4 k hk)) rfl rfl hdg fun H' e1 e2 e3 => ?_
    rw [hsl] at e1 ⊢
    exact kk H' _ ⟨_, hc, t_OB.to (V := updV (vp_V fs) k v) ⟨_, e1, q2, q3, t_set q4 hap hk v⟩ (fun j _ => vp_updV_set hl v j)⟩ e2 e3
  · rw [if_pos hfin] at hlay
    have hcf : m.cls = cf := by
      obtain ⟨_, _, c', _, _, _, -, -, hf', -, -, -, hown2, -⟩ := Cond.laysFinal_spec hlay
      have e1 : c' = cf := by have := hi.symm.trans hf'; simp at this; exact this.1.symm
      rw [hdecl] at hown2
      rw [← e1]; exact Option.some.inj (hown.symm.trans hown2)
    have h6 := u_fits hfc hkC hkind (Or.inr hlay) hi hd hn hfit
    refine W.putFinK hexec hb hown hlink hi hst hcf hin2 (by rw [q2]; exact h6) q1 q3 (by rw [hsl]; exact k2_hasslot (q4 k hk)) rfl rfl hdg fun H' e1 e2 e3 => ?_
    rw [hsl] at e1 ⊢
    exact kk H' _ ⟨_, hc, t_OB.to (V := updV (vp_V fs) k v) ⟨_, e1, q2, q3, t_set q4 hap hk v⟩ (fun j _ => vp_updV_set hl v j)⟩ e2 e3
theorem vx_iast (hexec : p.tables.exec = Jvm.exec) (hb : c.code = cc) (hK : va_K D cl tys s) (t0 : Nat) {cA : ClassId} {n : Nat} {f : Nat → Int32} (hat : va_at D cl (a, .inl (cA, n, .inl f)) H) (ht : tys[t0]? = some (cA, .int)) {i x : Int32} (hin : vp_in i n) (hdg : decode cc pc = .ok (.iastore, 1))
    (kk : ∀ (H1 : Heap) (sl : Nat), va_at D cl (a, .inl (cA, n, .inl (upd f i.toNatClampNeg x))) H1 → H1.size = H.size → (∀ q, q ≠ a → H1[q]? = H[q]?) → W p l e R s m args below meth c H1 (locs ++ [⟨a, sl⟩]) cells slots Q (F0 m (pc + 1) ls rest)) : W p l e R s m args below meth c H locs cells slots Q (F0 m pc ls (.int x :: .int i :: .ref a :: rest)) := by
  refine W.iast hexec hb hat ((hK.2 t0 _ ht).1 n (fun j => .int (f j))) (fun q => by cases q) (by show ¬ (i < 0 ∨ (arrV _ _ _).slots.size ≤ _); rw [arrV_size]; exact hin) rfl rfl hdg fun H1 e z oq => ?_
  refine kk H1 _ ?_ z oq
  show H1[a]? = some (vp_cell _ _)
  rw [e, vp_cell_i, vp_cell_i, arrV_store]
  congr 2
  funext q
  by_cases hq : q = i.toNatClampNeg
  · subst hq
    simp [updV, upd]
  · simp [updV, upd, hq]
theorem vx_astq (hexec : p.tables.exec = Jvm.exec) (hb : c.code = cc) (hK : va_K D cl tys s) (t0 ci : Nat) {cA : ClassId} {r : vw_C} {n v : Nat} {vs : List Value} {f : Nat → Option Nat} (hat : va_at D cl (a, .inl (cA, n, .inr (.inr (.inr (.inr f))))) H) (ht : tys[t0]? = some (cA, .object r.1)) (hv : va_at D cl (v, .inr (ci, vs)) H) (hc : cl[ci]? = some r) {i : Int32} (hin : vp_in i n) (hdg : decode cc pc = .ok (.aastore, 1))
    (kk : ∀ (H1 : Heap) (sl : Nat), va_at D cl (a, .inl (cA, n, .inr (.inr (.inr (.inr (va_up f i.toNatClampNeg (some v))))))) H1 → H1.size = H.size → (∀ q, q ≠ a → H1[q]? = H[q]?) → W p l e R s m args below meth c H1 (locs ++ [⟨a, sl⟩]) cells slots Q (F0 m (pc + 1) ls rest)) : W p l e R s m args below meth c H locs cells slots Q (F0 m pc ls (.ref v :: .int i :: .ref a :: rest)) := by
  have hlt : i.toNatClampNeg < n := Nat.not_le.mp fun q => hin (Or.inr q)
  have h0 : ¬ i < 0 := fun q => hin (Or.inl q)
  obtain ⟨r', hr', cellV, g1, g2, g3, -⟩ := hv
  have hcls := (hK.1 ci r hc).2
  obtain ⟨kA, comp, k1, k2, k3, -⟩ := (hK.2 t0 _ ht).2
  have hcomp : comp = D.1 ci := Option.some.inj (k3.symm.trans hcls.1)
  subst hcomp
  obtain ⟨kC, hkC, -⟩ := hcls.2
  refine W.aast hexec hb hat (fun q h => by cases h) (fun h => by cases h) k1 k2 rfl hkC ⟨h0, by show _ < (arrV _ _ _).slots.size; rw [arrV_size]; exact hlt⟩ g1 (fun q h => by rw [g3] at h; cases h) (by rw [g2]; exact hkC) (by rw [g2]; exact va_assign hcls) rfl rfl hdg fun H1 e z oq => ?_
  refine kk H1 _ ?_ z oq
  show H1[a]? = some (vp_cell _ _)
  rw [e, vp_cell_q, vp_cell_q, arrV_store]
  congr 2
  funext q
  by_cases hq : q = i.toNatClampNeg
  · subst hq
    simp [updV, va_up, va_rf]
  · simp [updV, va_up, hq]
theorem vx_astqN (hexec : p.tables.exec = Jvm.exec) (hb : c.code = cc) (hK : va_K D cl tys s) (t0 : Nat) {cA : ClassId} {C : String} {n : Nat} {f : Nat → Option Nat} (hat : va_at D cl (a, .inl (cA, n, .inr (.inr (.inr (.inr f))))) H) (ht : tys[t0]? = some (cA, .object C)) {i : Int32} (hin : vp_in i n) (hdg : decode cc pc = .ok (.aastore, 1))
    (kk : ∀ (H1 : Heap) (sl : Nat), va_at D cl (a, .inl (cA, n, .inr (.inr (.inr (.inr (va_up f i.toNatClampNeg none)))))) H1 → H1.size = H.size → (∀ q, q ≠ a → H1[q]? = H[q]?) → W p l e R s m args below meth c H1 (locs ++ [⟨a, sl⟩]) cells slots Q (F0 m (pc + 1) ls rest)) : W p l e R s m args below meth c H locs cells slots Q (F0 m pc ls (.null :: .int i :: .ref a :: rest)) := by
  refine va_WaastN (C := C) hexec hb hat ((hK.2 t0 _ ht).1 n (fun j => va_rf (f j))) (fun h => by cases h) (by show ¬ (i < 0 ∨ (arrV _ _ _).slots.size ≤ _); rw [arrV_size]; exact hin) rfl rfl hdg fun H1 e z oq => ?_
  refine kk H1 _ ?_ z oq
  show H1[a]? = some (vp_cell _ _)
  rw [e, vp_cell_q, vp_cell_q, arrV_store]
  congr 2
  funext q
  by_cases hq : q = i.toNatClampNeg
  · subst hq
    simp [updV, va_up, va_rf]
  · simp [updV, va_up, hq]
end VX
theorem x_X_O {σ : xS} {k : Nat} {o o' : xO} (hX : x_X σ) (h : σ.1 k = some o) : x_X (va_up σ.1 k (some o'), σ.2) := by
  intro j
  by_cases hj : j = k
  · subst hj
    have h1 := (hX j).1 (by rw [h]; exact fun z => by cases z)
    exact ⟨fun _ => h1, (hX j).2⟩
  · refine ⟨fun z => (hX j).1 (by rw [← va_up_ne σ.1 (some o') hj]; exact z), (hX j).2⟩
theorem x_eq_O {cs ad : Nat → Nat} {σ : xS} {k j : Nat} {o : Option xO} (hj : j ≠ k) : x_e cs ad (va_up σ.1 k o, σ.2) j = x_e cs ad σ j := by
  unfold x_e
  dsimp only
  rw [va_up_ne _ _ hj]
theorem x_eq_G {cs ad : Nat → Nat} {σ : xS} {k j : Nat} {o : Option (Nat × (Nat → Int32))} (hj : j ≠ k) : x_e cs ad (σ.1, va_up σ.2.1 k o, σ.2.2) j = x_e cs ad σ j := by
  unfold x_e
  dsimp only
  rw [va_up_ne _ _ hj]
theorem x_eq_R {cs ad : Nat → Nat} {σ : xS} {k j : Nat} {o : Option (Nat × (Nat → Option Nat))} (hj : j ≠ k) : x_e cs ad (σ.1, σ.2.1, va_up σ.2.2 k o) j = x_e cs ad σ j := by
  unfold x_e
  dsimp only
  rw [va_up_ne _ _ hj]
theorem x_X_G {σ : xS} {k : Nat} {t t' : Nat × (Nat → Int32)} (hX : x_X σ) (h : σ.2.1 k = some t) : x_X (σ.1, va_up σ.2.1 k (some t'), σ.2.2) := by
  intro j
  by_cases hj : j = k
  · subst hj
    refine ⟨fun z => ?_, fun _ => (hX j).2 (by rw [h]; exact fun z => by cases z)⟩
    have := ((hX j).1 z).1
    rw [h] at this
    cases this
  · refine ⟨fun z => ⟨?_, ((hX j).1 z).2⟩, fun z => (hX j).2 (by rw [← va_up_ne σ.2.1 (some t') hj]; exact z)⟩
    show va_up σ.2.1 k (some t') j = none
    rw [va_up_ne _ _ hj]
    exact ((hX j).1 z).1
theorem x_X_R {σ : xS} {k : Nat} {t t' : Nat × (Nat → Option Nat)} (hX : x_X σ) (h : σ.2.2 k = some t) : x_X (σ.1, σ.2.1, va_up σ.2.2 k (some t')) := by
  intro j
  by_cases hj : j = k
  · subst hj
    refine ⟨fun z => ?_, fun z => ?_⟩
    · have := ((hX j).1 z).2
      rw [h] at this
      cases this
    · have := (hX j).2 z
      rw [h] at this
      cases this
  · refine ⟨fun z => ⟨((hX j).1 z).1, ?_⟩, fun z => ?_⟩
    · show va_up σ.2.2 k (some t') j = none
      rw [va_up_ne _ _ hj]
      exact ((hX j).1 z).2
    · show va_up σ.2.2 k (some t') j = none
      rw [va_up_ne _ _ hj]
      exact (hX j).2 z
theorem x_X_nO {σ : xS} {k : Nat} {o' : xO} (hX : x_X σ) (h1 : σ.2.1 k = none) (h2 : σ.2.2 k = none) : x_X (va_up σ.1 k (some o'), σ.2) := by
  intro j
  by_cases hj : j = k
  · subst hj
    exact ⟨fun _ => ⟨h1, h2⟩, (hX j).2⟩
  · exact ⟨fun z => (hX j).1 (by rw [← va_up_ne σ.1 (some o') hj]; exact z), (hX j).2⟩
theorem x_X_nG {σ : xS} {k : Nat} {t' : Nat × (Nat → Int32)} (hX : x_X σ) (h1 : σ.1 k = none) (h2 : σ.2.2 k = none) : x_X (σ.1, va_up σ.2.1 k (some t'), σ.2.2) := by
  intro j
  by_cases hj : j = k
  · subst hj
    exact ⟨fun z => absurd h1 z, fun _ => h2⟩
  · refine ⟨fun z => ⟨?_, ((hX j).1 z).2⟩, fun z => (hX j).2 (by rw [← va_up_ne σ.2.1 (some t') hj]; exact z)⟩
    show va_up σ.2.1 k (some t') j = none
    rw [va_up_ne _ _ hj]
    exact ((hX j).1 z).1
theorem x_X_nR {σ : xS} {k : Nat} {t' : Nat × (Nat → Option Nat)} (hX : x_X σ) (h1 : σ.1 k = none) (h2 : σ.2.1 k = none) : x_X (σ.1, σ.2.1, va_up σ.2.2 k (some t')) := by
  intro j
  by_cases hj : j = k
  · subst hj
    exact ⟨fun z => absurd h1 z, fun z => absurd h2 z⟩
  · refine ⟨fun z => ⟨((hX j).1 z).1, ?_⟩, fun z => ?_⟩
    · show va_up σ.2.2 k (some t') j = none
      rw [va_up_ne _ _ hj]
      exact ((hX j).1 z).2
    · show va_up σ.2.2 k (some t') j = none
      rw [va_up_ne _ _ hj]
      exact (hX j).2 z
theorem mE_rf (rho : Nat → Nat) (x : Option Nat) : mE rho (.inr x) = va_rf (x.map rho) := by cases x <;> rfl
theorem x_fitsO {rho : Nat → Nat} {x : Option Nat} {C : String} : narrow (.object C) (mE rho (.inr x)) = mE rho (.inr x) ∧ fits (.object C) (mE rho (.inr x)) = true := by cases x <;> exact ⟨rfl, rfl⟩
theorem x_fitsA {rho : Nat → Nat} {x : Option Nat} {t : FieldType} : narrow (.array t) (mE rho (.inr x)) = mE rho (.inr x) ∧ fits (.array t) (mE rho (.inr x)) = true := by cases x <;> exact ⟨rfl, rfl⟩
section XS
variable {p : Program} {l : Launch} {e : Env} {R : Room} {s0 : State} {m : MethodId} {args : Array Value} {below : List Frame} {meth : Method} {c : Code} {cc : ByteArray} {nL : Nat} {D : va_G} {cs ad : Nat → Nat} {A : Nat → Prop} {Q : State → Prop}
/-- what a putfield leaves: the picture, the frame -/
theorem x_putO {σ : xS} {H H1 : Heap} {locs : List Loc} {r sl : Nat} {o o' : xO} (hW : x_W D cs ad A σ H) (hS : va_S A s0.heap H locs) (ho : σ.1 r = some o) (hat : va_at D classes (x_rho ad r, .inr (o'.1, x_fs ad o')) H1) (hz : H1.size = H.size) (hq : ∀ q, q ≠ x_rho ad r → H1[q]? = H[q]?) : x_W D cs ad A (va_up σ.1 r (some o'), σ.2) H1 ∧ va_S A s0.heap H1 (locs ++ [⟨x_rho ad r, sl⟩]) := by
  have he := x_eO (cs := cs) (ad := ad) ho
  have hA : A (x_rho ad r) := by
    rcases (hW.1 r _ he).2 with h | h
    · exact h
    · rw [ho] at h; cases h.1
  have he' : x_e cs ad (va_up σ.1 r (some o'), σ.2) r = some (.inr (o'.1, x_fs ad o')) := x_eO (show va_up σ.1 r (some o') r = some o' from va_up_self _ _ _)
  exact ⟨x_W_upd hW he he' (fun j hj => x_eq_O hj) (fun j hj => va_up_ne _ _ hj) (x_X_O hW.2.2 ho) hat hq hA, hS.put hz hq hA⟩

set_option maxHeartbeats 8000000 in
set_option maxRecDepth 20000 in
theorem x_get_0 (F : CallFix p m c cc nL s0 args tb RX0) (hK : kk D cs (fun i => ad (22 + i)) A s0) {i len pc : Nat} {st : List mV} {s : xS} {a b : Nat} {k : List mV → xS → Nat → Nat → Prop} {ini : Bool} (h : x_hk ini 0 (.getfield i) st s a b k) (hd : decode cc pc = .ok (.getfield i, 3)) {H : Heap} {locs : List Loc} {cells slots : Nat} {ls : Array Slot} (hW : x_W D cs ad A s H) (hS : va_S A s0.heap H locs) (hc : cells + a ≤ R.cells) (hs : slots + b ≤ R.slots)
    (kk : ∀ (st' : List mV) (s' : xS) (a' b' : Nat) (H' : Heap) (locs' : List Loc) (cells' slots' : Nat), k st' s' a' b' → x_W D cs ad A s' H' → va_S A s0.heap H' locs' → cells' + a' ≤ R.cells → slots' + b' ≤ R.slots → W p l e R s0 m args below meth c H' locs' cells' slots' Q (F0 m (pc + 3) ls (st'.map (mE (x_rho ad))))) :
    W p l e R s0 m args below meth c H locs cells slots Q (F0 m pc ls (st.map (mE (x_rho ad)))) := by
  obtain ⟨hx, hb, hml, hown, hts⟩ := F
  unfold x_hk at h
  dsimp only at h
  split at h <;> (try exact h.elim)
  rename_i r st'
  split at h <;> (try exact h.elim)
  rename_i q hf
  obtain ⟨⟨ci, oi, or⟩, ho, hci, h⟩ := h
  have hat := (hW.1 r _ (x_eO ho)).1
  replace hf : x_fm0 i = some q := hf
  unfold x_fm0 at hf
  split at hf
  · cases hf; cases hci; exact va_get (D := D) (ci := 3) (v := mE (x_rho ad) (.inl (oi 1))) (C := RX3) (T := TX3) (N := 2) (own := RX0) (ref := RX3) hx hb hts in_X3 hown hK.1 (vx_P1 hat) 0 rfl rfl 1 (by decide) (hts _ wd_76) (fun _ h9 => h9) rfl hd (kk _ _ _ _ _ _ _ _ h hW hS hc hs)
  · cases hf; cases hci; exact va_get (D := D) (ci := 0) (v := mE (x_rho ad) (.inl (oi 1))) (C := RX0) (T := TX0) (N := 9) (own := RX0) (ref := RX0) hx hb hts in_X0 hown hK.1 (vx_P1 hat) 0 rfl rfl 1 (by decide) (hts _ wd_181) (fun _ h9 => h9) rfl hd (kk _ _ _ _ _ _ _ _ h hW hS hc hs)
  · cases hf; cases hci; exact va_get (D := D) (ci := 0) (v := mE (x_rho ad) (.inl (oi 0))) (C := RX0) (T := TX0) (N := 9) (own := RX0) (ref := RX0) hx hb hts in_X0 hown hK.1 (vx_P1 hat) 0 rfl rfl 0 (by decide) (hts _ wd_176) (fun _ h9 => h9) rfl hd (kk _ _ _ _ _ _ _ _ h hW hS hc hs)
  · cases hf; cases hci; exact va_get (D := D) (ci := 0) (v := mE (x_rho ad) (.inr (or 5))) (C := RX0) (T := TX0) (N := 9) (own := RX0) (ref := RX0) hx hb hts in_X0 hown hK.1 (vx_P1 hat) 0 rfl rfl 5 (by decide) (hts _ wd_196) (fun _ h9 => h9) rfl hd (kk _ _ _ _ _ _ _ _ h hW hS hc hs)
  · cases hf; cases hci; exact va_get (D := D) (ci := 0) (v := mE (x_rho ad) (.inl (oi 6))) (C := RX0) (T := TX0) (N := 9) (own := RX0) (ref := RX0) hx hb hts in_X0 hown hK.1 (vx_P1 hat) 0 rfl rfl 6 (by decide) (hts _ wd_201) (fun _ h9 => h9) rfl hd (kk _ _ _ _ _ _ _ _ h hW hS hc hs)
  · cases hf; cases hci; exact va_get (D := D) (ci := 0) (v := mE (x_rho ad) (.inr (or 2))) (C := RX0) (T := TX0) (N := 9) (own := RX0) (ref := RX0) hx hb hts in_X0 hown hK.1 (vx_P1 hat) 0 rfl rfl 2 (by decide) (hts _ wd_185) (fun _ h9 => h9) rfl hd (kk _ _ _ _ _ _ _ _ h hW hS hc hs)
  · cases hf; cases hci; exact va_get (D := D) (ci := 0) (v := mE (x_rho ad) (.inr (or 3))) (C := RX0) (T := TX0) (N := 9) (own := RX0) (ref := RX0) hx hb hts in_X0 hown hK.1 (vx_P1 hat) 0 rfl rfl 3 (by decide) (hts _ wd_186) (fun _ h9 => h9) rfl hd (kk _ _ _ _ _ _ _ _ h hW hS hc hs)
  · cases hf; cases hci; exact va_get (D := D) (ci := 0) (v := mE (x_rho ad) (.inr (or 4))) (C := RX0) (T := TX0) (N := 9) (own := RX0) (ref := RX0) hx hb hts in_X0 hown hK.1 (vx_P1 hat) 0 rfl rfl 4 (by decide) (hts _ wd_191) (fun _ h9 => h9) rfl hd (kk _ _ _ _ _ _ _ _ h hW hS hc hs)
  · cases hf
set_option maxHeartbeats 8000000 in
set_option maxRecDepth 20000 in
theorem x_put_0 (F : CallFix p m c cc nL s0 args tb RX0) (hK : kk D cs (fun i => ad (22 + i)) A s0) {i len pc : Nat} {st : List mV} {s : xS} {a b : Nat} {k : List mV → xS → Nat → Nat → Prop} {ini : Bool} (hini : ini = true → meth.name = "<init>") (h : x_hk ini 0 (.putfield i) st s a b k) (hd : decode cc pc = .ok (.putfield i, 3)) {H : Heap} {locs : List Loc} {cells slots : Nat} {ls : Array Slot} (hW : x_W D cs ad A s H) (hS : va_S A s0.heap H locs) (hc : cells + a ≤ R.cells) (hs : slots + b ≤ R.slots)
    (kk : ∀ (st' : List mV) (s' : xS) (a' b' : Nat) (H' : Heap) (locs' : List Loc) (cells' slots' : Nat), k st' s' a' b' → x_W D cs ad A s' H' → va_S A s0.heap H' locs' → cells' + a' ≤ R.cells → slots' + b' ≤ R.slots → W p l e R s0 m args below meth c H' locs' cells' slots' Q (F0 m (pc + 3) ls (st'.map (mE (x_rho ad))))) :
    W p l e R s0 m args below meth c H locs cells slots Q (F0 m pc ls (st.map (mE (x_rho ad)))) := by
  obtain ⟨hx, hb, hml, hown, hts⟩ := F
  unfold x_hk at h
  dsimp only at h
  split at h <;> (try exact h.elim)
  rename_i v r st'
  split at h <;> (try exact h.elim)
  rename_i q hf
  obtain ⟨⟨ci, oi, or⟩, ho, hci, h⟩ := h
  have hat := (hW.1 r _ (x_eO ho)).1
  replace hf : x_fm0 i = some q := hf
  unfold x_fm0 at hf
  split at hf
  · cases hf; cases hci
    rcases v with x | x
    · exact vx_put (D := D) (ci := 3) (v := .int x) (ty := .int) (C := RX3) (T := TX3) (N := 2) (own := RX0) hx hb hts in_X3 tyX3 tyX3_ok nmX3 hown hK.1 hat rfl 1 (by decide) (hts _ wd_76) (Or.inl rfl) rfl rfl rfl (Nat.le_of_ble_eq_true rfl) hd (fun H1 sl ha hz hq => kk _ _ _ _ _ _ _ _ h (x_putO (s0 := s0) (locs := locs) (sl := sl) (o' := (3, upd oi 1 x, or)) hW hS ho ha hz hq).1 (x_putO (s0 := s0) (locs := locs) (sl := sl) (o' := (3, upd oi 1 x, or)) hW hS ho ha hz hq).2 hc hs)
    · exact h.elim
  · cases hf; cases hci
    rcases v with x | x
    · exact vx_put (D := D) (ci := 0) (v := .int x) (ty := .int) (C := RX0) (T := TX0) (N := 9) (own := RX0) hx hb hts in_X0 tyX0 tyX0_ok nmX0 hown hK.1 hat rfl 1 (by decide) (hts _ wd_181) (Or.inl rfl) rfl rfl rfl (Nat.le_of_ble_eq_true rfl) hd (fun H1 sl ha hz hq => kk _ _ _ _ _ _ _ _ h (x_putO (s0 := s0) (locs := locs) (sl := sl) (o' := (0, upd oi 1 x, or)) hW hS ho ha hz hq).1 (x_putO (s0 := s0) (locs := locs) (sl := sl) (o' := (0, upd oi 1 x, or)) hW hS ho ha hz hq).2 hc hs)
    · exact h.elim
  · cases hf; cases hci
    rcases v with x | x
    · exact vx_put (D := D) (ci := 0) (v := .int x) (ty := .int) (C := RX0) (T := TX0) (N := 9) (own := RX0) hx hb hts in_X0 tyX0 tyX0_ok nmX0 hown hK.1 hat rfl 0 (by decide) (hts _ wd_176) (Or.inl rfl) rfl rfl rfl (Nat.le_of_ble_eq_true rfl) hd (fun H1 sl ha hz hq => kk _ _ _ _ _ _ _ _ h (x_putO (s0 := s0) (locs := locs) (sl := sl) (o' := (0, upd oi 0 x, or)) hW hS ho ha hz hq).1 (x_putO (s0 := s0) (locs := locs) (sl := sl) (o' := (0, upd oi 0 x, or)) hW hS ho ha hz hq).2 hc hs)
    · exact h.elim
  · cases hf; cases hci
    rcases v with x | x
    · exact h.elim
    · exact vx_put (D := D) (ci := 0) (v := mE (x_rho ad) (.inr x)) (ty := (.object RX0)) (C := RX0) (T := TX0) (N := 9) (own := RX0) hx hb hts in_X0 tyX0 tyX0_ok nmX0 hown hK.1 hat rfl 5 (by decide) (hts _ wd_196) (Or.inl rfl) rfl x_fitsO.1 x_fitsO.2 (Nat.le_of_ble_eq_true rfl) hd (fun H1 sl ha hz hq => kk _ _ _ _ _ _ _ _ h (x_putO (s0 := s0) (locs := locs) (sl := sl) (o' := (0, oi, va_up or 5 x)) hW hS ho ha hz hq).1 (x_putO (s0 := s0) (locs := locs) (sl := sl) (o' := (0, oi, va_up or 5 x)) hW hS ho ha hz hq).2 hc hs)
  · cases hf; cases hci
    rcases v with x | x
    · exact vx_put (D := D) (ci := 0) (v := .int x) (ty := .int) (C := RX0) (T := TX0) (N := 9) (own := RX0) hx hb hts in_X0 tyX0 tyX0_ok nmX0 hown hK.1 hat rfl 6 (by decide) (hts _ wd_201) (Or.inl rfl) rfl rfl rfl (Nat.le_of_ble_eq_true rfl) hd (fun H1 sl ha hz hq => kk _ _ _ _ _ _ _ _ h (x_putO (s0 := s0) (locs := locs) (sl := sl) (o' := (0, upd oi 6 x, or)) hW hS ho ha hz hq).1 (x_putO (s0 := s0) (locs := locs) (sl := sl) (o' := (0, upd oi 6 x, or)) hW hS ho ha hz hq).2 hc hs)
    · exact h.elim
  · cases hf; cases hci
    rcases v with x | x
    · exact h.elim
    · exact vx_put (D := D) (ci := 0) (v := mE (x_rho ad) (.inr x)) (ty := (.array .int)) (C := RX0) (T := TX0) (N := 9) (own := RX0) hx hb hts in_X0 tyX0 tyX0_ok nmX0 hown hK.1 hat rfl 2 (by decide) (hts _ wd_185) (Or.inl rfl) rfl x_fitsA.1 x_fitsA.2 (Nat.le_of_ble_eq_true rfl) hd (fun H1 sl ha hz hq => kk _ _ _ _ _ _ _ _ h (x_putO (s0 := s0) (locs := locs) (sl := sl) (o' := (0, oi, va_up or 2 x)) hW hS ho ha hz hq).1 (x_putO (s0 := s0) (locs := locs) (sl := sl) (o' := (0, oi, va_up or 2 x)) hW hS ho ha hz hq).2 hc hs)
  · cases hf; cases hci
    rcases v with x | x
    · exact h.elim
    · exact vx_put (D := D) (ci := 0) (v := mE (x_rho ad) (.inr x)) (ty := (.object RX0)) (C := RX0) (T := TX0) (N := 9) (own := RX0) hx hb hts in_X0 tyX0 tyX0_ok nmX0 hown hK.1 hat rfl 3 (by decide) (hts _ wd_186) (Or.inl rfl) rfl x_fitsO.1 x_fitsO.2 (Nat.le_of_ble_eq_true rfl) hd (fun H1 sl ha hz hq => kk _ _ _ _ _ _ _ _ h (x_putO (s0 := s0) (locs := locs) (sl := sl) (o' := (0, oi, va_up or 3 x)) hW hS ho ha hz hq).1 (x_putO (s0 := s0) (locs := locs) (sl := sl) (o' := (0, oi, va_up or 3 x)) hW hS ho ha hz hq).2 hc hs)
  · cases hf; cases hci
    rcases v with x | x
    · exact h.elim
    · exact vx_put (D := D) (ci := 0) (v := mE (x_rho ad) (.inr x)) (ty := (.object RX0)) (C := RX0) (T := TX0) (N := 9) (own := RX0) hx hb hts in_X0 tyX0 tyX0_ok nmX0 hown hK.1 hat rfl 4 (by decide) (hts _ wd_191) (Or.inl rfl) rfl x_fitsO.1 x_fitsO.2 (Nat.le_of_ble_eq_true rfl) hd (fun H1 sl ha hz hq => kk _ _ _ _ _ _ _ _ h (x_putO (s0 := s0) (locs := locs) (sl := sl) (o' := (0, oi, va_up or 4 x)) hW hS ho ha hz hq).1 (x_putO (s0 := s0) (locs := locs) (sl := sl) (o' := (0, oi, va_up or 4 x)) hW hS ho ha hz hq).2 hc hs)
  · cases hf
set_option maxHeartbeats 8000000 in
set_option maxRecDepth 20000 in
theorem x_get_1 (F : CallFix p m c cc nL s0 args tb RX1) (hK : kk D cs (fun i => ad (22 + i)) A s0) {i len pc : Nat} {st : List mV} {s : xS} {a b : Nat} {k : List mV → xS → Nat → Nat → Prop} {ini : Bool} (h : x_hk ini 1 (.getfield i) st s a b k) (hd : decode cc pc = .ok (.getfield i, 3)) {H : Heap} {locs : List Loc} {cells slots : Nat} {ls : Array Slot} (hW : x_W D cs ad A s H) (hS : va_S A s0.heap H locs) (hc : cells + a ≤ R.cells) (hs : slots + b ≤ R.slots)
    (kk : ∀ (st' : List mV) (s' : xS) (a' b' : Nat) (H' : Heap) (locs' : List Loc) (cells' slots' : Nat), k st' s' a' b' → x_W D cs ad A s' H' → va_S A s0.heap H' locs' → cells' + a' ≤ R.cells → slots' + b' ≤ R.slots → W p l e R s0 m args below meth c H' locs' cells' slots' Q (F0 m (pc + 3) ls (st'.map (mE (x_rho ad))))) :
    W p l e R s0 m args below meth c H locs cells slots Q (F0 m pc ls (st.map (mE (x_rho ad)))) := by
  obtain ⟨hx, hb, hml, hown, hts⟩ := F
  unfold x_hk at h
  dsimp only at h
  split at h <;> (try exact h.elim)
  rename_i r st'
  split at h <;> (try exact h.elim)
  rename_i q hf
  obtain ⟨⟨ci, oi, or⟩, ho, hci, h⟩ := h
  have hat := (hW.1 r _ (x_eO ho)).1
  replace hf : x_fm1 i = some q := hf
  unfold x_fm1 at hf
  split at hf
  · cases hf; cases hci; exact va_get (D := D) (ci := 1) (v := mE (x_rho ad) (.inr (or 0))) (C := RX1) (T := TX1) (N := 2) (own := RX1) (ref := RX1) hx hb hts in_X1 hown hK.1 (vx_P1 hat) 0 rfl rfl 0 (by decide) (hts _ wd_113) (fun _ h9 => h9) rfl hd (kk _ _ _ _ _ _ _ _ h hW hS hc hs)
  · cases hf; cases hci; exact va_get (D := D) (ci := 1) (v := mE (x_rho ad) (.inl (oi 1))) (C := RX1) (T := TX1) (N := 2) (own := RX1) (ref := RX1) hx hb hts in_X1 hown hK.1 (vx_P1 hat) 0 rfl rfl 1 (by decide) (hts _ wd_114) (fun _ h9 => h9) rfl hd (kk _ _ _ _ _ _ _ _ h hW hS hc hs)
  · cases hf; cases hci; exact va_get (D := D) (ci := 0) (v := mE (x_rho ad) (.inl (oi 0))) (C := RX0) (T := TX0) (N := 9) (own := RX1) (ref := RX0) hx hb hts in_X0 hown hK.1 (vx_P1 hat) 0 rfl rfl 0 (by decide) (hts _ wd_177) (fun _ h9 => h9) rfl hd (kk _ _ _ _ _ _ _ _ h hW hS hc hs)
  · cases hf; cases hci; exact va_get (D := D) (ci := 0) (v := mE (x_rho ad) (.inr (or 3))) (C := RX0) (T := TX0) (N := 9) (own := RX1) (ref := RX0) hx hb hts in_X0 hown hK.1 (vx_P1 hat) 0 rfl rfl 3 (by decide) (hts _ wd_187) (fun _ h9 => h9) rfl hd (kk _ _ _ _ _ _ _ _ h hW hS hc hs)
  · cases hf; cases hci; exact va_get (D := D) (ci := 0) (v := mE (x_rho ad) (.inr (or 4))) (C := RX0) (T := TX0) (N := 9) (own := RX1) (ref := RX0) hx hb hts in_X0 hown hK.1 (vx_P1 hat) 0 rfl rfl 4 (by decide) (hts _ wd_192) (fun _ h9 => h9) rfl hd (kk _ _ _ _ _ _ _ _ h hW hS hc hs)
  · cases hf
set_option maxHeartbeats 8000000 in
set_option maxRecDepth 20000 in
theorem x_put_1 (F : CallFix p m c cc nL s0 args tb RX1) (hK : kk D cs (fun i => ad (22 + i)) A s0) {i len pc : Nat} {st : List mV} {s : xS} {a b : Nat} {k : List mV → xS → Nat → Nat → Prop} {ini : Bool} (hini : ini = true → meth.name = "<init>") (h : x_hk ini 1 (.putfield i) st s a b k) (hd : decode cc pc = .ok (.putfield i, 3)) {H : Heap} {locs : List Loc} {cells slots : Nat} {ls : Array Slot} (hW : x_W D cs ad A s H) (hS : va_S A s0.heap H locs) (hc : cells + a ≤ R.cells) (hs : slots + b ≤ R.slots)
    (kk : ∀ (st' : List mV) (s' : xS) (a' b' : Nat) (H' : Heap) (locs' : List Loc) (cells' slots' : Nat), k st' s' a' b' → x_W D cs ad A s' H' → va_S A s0.heap H' locs' → cells' + a' ≤ R.cells → slots' + b' ≤ R.slots → W p l e R s0 m args below meth c H' locs' cells' slots' Q (F0 m (pc + 3) ls (st'.map (mE (x_rho ad))))) :
    W p l e R s0 m args below meth c H locs cells slots Q (F0 m pc ls (st.map (mE (x_rho ad)))) := by
  obtain ⟨hx, hb, hml, hown, hts⟩ := F
  unfold x_hk at h
  dsimp only at h
  split at h <;> (try exact h.elim)
  rename_i v r st'
  split at h <;> (try exact h.elim)
  rename_i q hf
  obtain ⟨⟨ci, oi, or⟩, ho, hci, h⟩ := h
  have hat := (hW.1 r _ (x_eO ho)).1
  replace hf : x_fm1 i = some q := hf
  unfold x_fm1 at hf
  split at hf
  · cases hf; cases hci
    rcases v with x | x
    · exact h.elim
    · cases ini
      · exact h.elim
      · exact vx_put (D := D) (ci := 1) (v := mE (x_rho ad) (.inr x)) (ty := (.array (.object RX0))) (C := RX1) (T := TX1) (N := 2) (own := RX1) hx hb hts in_X1 tyX1 tyX1_ok nmX1 hown hK.1 hat rfl 0 (by decide) (hts _ wd_113) (Or.inr ⟨rfl, hini rfl, rfl⟩) rfl x_fitsA.1 x_fitsA.2 (Nat.le_of_ble_eq_true rfl) hd (fun H1 sl ha hz hq => kk _ _ _ _ _ _ _ _ h (x_putO (s0 := s0) (locs := locs) (sl := sl) (o' := (1, oi, va_up or 0 x)) hW hS ho ha hz hq).1 (x_putO (s0 := s0) (locs := locs) (sl := sl) (o' := (1, oi, va_up or 0 x)) hW hS ho ha hz hq).2 hc hs)
  · cases hf; cases hci
    rcases v with x | x
    · exact vx_put (D := D) (ci := 1) (v := .int x) (ty := .int) (C := RX1) (T := TX1) (N := 2) (own := RX1) hx hb hts in_X1 tyX1 tyX1_ok nmX1 hown hK.1 hat rfl 1 (by decide) (hts _ wd_114) (Or.inl rfl) rfl rfl rfl (Nat.le_of_ble_eq_true rfl) hd (fun H1 sl ha hz hq => kk _ _ _ _ _ _ _ _ h (x_putO (s0 := s0) (locs := locs) (sl := sl) (o' := (1, upd oi 1 x, or)) hW hS ho ha hz hq).1 (x_putO (s0 := s0) (locs := locs) (sl := sl) (o' := (1, upd oi 1 x, or)) hW hS ho ha hz hq).2 hc hs)
    · exact h.elim
  · cases hf; cases hci
    rcases v with x | x
    · exact vx_put (D := D) (ci := 0) (v := .int x) (ty := .int) (C := RX0) (T := TX0) (N := 9) (own := RX1) hx hb hts in_X0 tyX0 tyX0_ok nmX0 hown hK.1 hat rfl 0 (by decide) (hts _ wd_177) (Or.inl rfl) rfl rfl rfl (Nat.le_of_ble_eq_true rfl) hd (fun H1 sl ha hz hq => kk _ _ _ _ _ _ _ _ h (x_putO (s0 := s0) (locs := locs) (sl := sl) (o' := (0, upd oi 0 x, or)) hW hS ho ha hz hq).1 (x_putO (s0 := s0) (locs := locs) (sl := sl) (o' := (0, upd oi 0 x, or)) hW hS ho ha hz hq).2 hc hs)
    · exact h.elim
  · cases hf; cases hci
    rcases v with x | x
    · exact h.elim
    · exact vx_put (D := D) (ci := 0) (v := mE (x_rho ad) (.inr x)) (ty := (.object RX0)) (C := RX0) (T := TX0) (N := 9) (own := RX1) hx hb hts in_X0 tyX0 tyX0_ok nmX0 hown hK.1 hat rfl 3 (by decide) (hts _ wd_187) (Or.inl rfl) rfl x_fitsO.1 x_fitsO.2 (Nat.le_of_ble_eq_true rfl) hd (fun H1 sl ha hz hq => kk _ _ _ _ _ _ _ _ h (x_putO (s0 := s0) (locs := locs) (sl := sl) (o' := (0, oi, va_up or 3 x)) hW hS ho ha hz hq).1 (x_putO (s0 := s0) (locs := locs) (sl := sl) (o' := (0, oi, va_up or 3 x)) hW hS ho ha hz hq).2 hc hs)
  · cases hf; cases hci
    rcases v with x | x
    · exact h.elim
    · exact vx_put (D := D) (ci := 0) (v := mE (x_rho ad) (.inr x)) (ty := (.object RX0)) (C := RX0) (T := TX0) (N := 9) (own := RX1) hx hb hts in_X0 tyX0 tyX0_ok nmX0 hown hK.1 hat rfl 4 (by decide) (hts _ wd_192) (Or.inl rfl) rfl x_fitsO.1 x_fitsO.2 (Nat.le_of_ble_eq_true rfl) hd (fun H1 sl ha hz hq => kk _ _ _ _ _ _ _ _ h (x_putO (s0 := s0) (locs := locs) (sl := sl) (o' := (0, oi, va_up or 4 x)) hW hS ho ha hz hq).1 (x_putO (s0 := s0) (locs := locs) (sl := sl) (o' := (0, oi, va_up or 4 x)) hW hS ho ha hz hq).2 hc hs)
  · cases hf
set_option maxHeartbeats 8000000 in
set_option maxRecDepth 20000 in
theorem x_get_2 (F : CallFix p m c cc nL s0 args tb RX2) (hK : kk D cs (fun i => ad (22 + i)) A s0) {i len pc : Nat} {st : List mV} {s : xS} {a b : Nat} {k : List mV → xS → Nat → Nat → Prop} {ini : Bool} (h : x_hk ini 2 (.getfield i) st s a b k) (hd : decode cc pc = .ok (.getfield i, 3)) {H : Heap} {locs : List Loc} {cells slots : Nat} {ls : Array Slot} (hW : x_W D cs ad A s H) (hS : va_S A s0.heap H locs) (hc : cells + a ≤ R.cells) (hs : slots + b ≤ R.slots)
    (kk : ∀ (st' : List mV) (s' : xS) (a' b' : Nat) (H' : Heap) (locs' : List Loc) (cells' slots' : Nat), k st' s' a' b' → x_W D cs ad A s' H' → va_S A s0.heap H' locs' → cells' + a' ≤ R.cells → slots' + b' ≤ R.slots → W p l e R s0 m args below meth c H' locs' cells' slots' Q (F0 m (pc + 3) ls (st'.map (mE (x_rho ad))))) :
    W p l e R s0 m args below meth c H locs cells slots Q (F0 m pc ls (st.map (mE (x_rho ad)))) := by
  obtain ⟨hx, hb, hml, hown, hts⟩ := F
  unfold x_hk at h
  dsimp only at h
  split at h <;> (try exact h.elim)
  rename_i r st'
  split at h <;> (try exact h.elim)
  rename_i q hf
  obtain ⟨⟨ci, oi, or⟩, ho, hci, h⟩ := h
  have hat := (hW.1 r _ (x_eO ho)).1
  replace hf : x_fm2 i = some q := hf
  unfold x_fm2 at hf
  split at hf
  · cases hf; cases hci; exact va_get (D := D) (ci := 2) (v := mE (x_rho ad) (.inr (or 0))) (C := RX2) (T := TX2) (N := 4) (own := RX2) (ref := RX2) hx hb hts in_X2 hown hK.1 (vx_P1 hat) 0 rfl rfl 0 (by decide) (hts _ wd_91) (fun _ h9 => h9) rfl hd (kk _ _ _ _ _ _ _ _ h hW hS hc hs)
  · cases hf; cases hci; exact va_get (D := D) (ci := 2) (v := mE (x_rho ad) (.inr (or 1))) (C := RX2) (T := TX2) (N := 4) (own := RX2) (ref := RX2) hx hb hts in_X2 hown hK.1 (vx_P1 hat) 0 rfl rfl 1 (by decide) (hts _ wd_92) (fun _ h9 => h9) rfl hd (kk _ _ _ _ _ _ _ _ h hW hS hc hs)
  · cases hf; cases hci; exact va_get (D := D) (ci := 2) (v := mE (x_rho ad) (.inl (oi 2))) (C := RX2) (T := TX2) (N := 4) (own := RX2) (ref := RX2) hx hb hts in_X2 hown hK.1 (vx_P1 hat) 0 rfl rfl 2 (by decide) (hts _ wd_93) (fun _ h9 => h9) rfl hd (kk _ _ _ _ _ _ _ _ h hW hS hc hs)
  · cases hf; cases hci; exact va_get (D := D) (ci := 2) (v := mE (x_rho ad) (.inl (oi 3))) (C := RX2) (T := TX2) (N := 4) (own := RX2) (ref := RX2) hx hb hts in_X2 hown hK.1 (vx_P1 hat) 0 rfl rfl 3 (by decide) (hts _ wd_95) (fun _ h9 => h9) rfl hd (kk _ _ _ _ _ _ _ _ h hW hS hc hs)
  · cases hf
set_option maxHeartbeats 8000000 in
set_option maxRecDepth 20000 in
theorem x_put_2 (F : CallFix p m c cc nL s0 args tb RX2) (hK : kk D cs (fun i => ad (22 + i)) A s0) {i len pc : Nat} {st : List mV} {s : xS} {a b : Nat} {k : List mV → xS → Nat → Nat → Prop} {ini : Bool} (hini : ini = true → meth.name = "<init>") (h : x_hk ini 2 (.putfield i) st s a b k) (hd : decode cc pc = .ok (.putfield i, 3)) {H : Heap} {locs : List Loc} {cells slots : Nat} {ls : Array Slot} (hW : x_W D cs ad A s H) (hS : va_S A s0.heap H locs) (hc : cells + a ≤ R.cells) (hs : slots + b ≤ R.slots)
    (kk : ∀ (st' : List mV) (s' : xS) (a' b' : Nat) (H' : Heap) (locs' : List Loc) (cells' slots' : Nat), k st' s' a' b' → x_W D cs ad A s' H' → va_S A s0.heap H' locs' → cells' + a' ≤ R.cells → slots' + b' ≤ R.slots → W p l e R s0 m args below meth c H' locs' cells' slots' Q (F0 m (pc + 3) ls (st'.map (mE (x_rho ad))))) :
    W p l e R s0 m args below meth c H locs cells slots Q (F0 m pc ls (st.map (mE (x_rho ad)))) := by
  obtain ⟨hx, hb, hml, hown, hts⟩ := F
  unfold x_hk at h
  dsimp only at h
  split at h <;> (try exact h.elim)
  rename_i v r st'
  split at h <;> (try exact h.elim)
  rename_i q hf
  obtain ⟨⟨ci, oi, or⟩, ho, hci, h⟩ := h
  have hat := (hW.1 r _ (x_eO ho)).1
  replace hf : x_fm2 i = some q := hf
  unfold x_fm2 at hf
  split at hf
  · cases hf; cases hci
    rcases v with x | x
    · exact h.elim
    · cases ini
      · exact h.elim
      · exact vx_put (D := D) (ci := 2) (v := mE (x_rho ad) (.inr x)) (ty := (.array (.object RX0))) (C := RX2) (T := TX2) (N := 4) (own := RX2) hx hb hts in_X2 tyX2 tyX2_ok nmX2 hown hK.1 hat rfl 0 (by decide) (hts _ wd_91) (Or.inr ⟨rfl, hini rfl, rfl⟩) rfl x_fitsA.1 x_fitsA.2 (Nat.le_of_ble_eq_true rfl) hd (fun H1 sl ha hz hq => kk _ _ _ _ _ _ _ _ h (x_putO (s0 := s0) (locs := locs) (sl := sl) (o' := (2, oi, va_up or 0 x)) hW hS ho ha hz hq).1 (x_putO (s0 := s0) (locs := locs) (sl := sl) (o' := (2, oi, va_up or 0 x)) hW hS ho ha hz hq).2 hc hs)
  · cases hf; cases hci
    rcases v with x | x
    · exact h.elim
    · cases ini
      · exact h.elim
      · exact vx_put (D := D) (ci := 2) (v := mE (x_rho ad) (.inr x)) (ty := (.array .int)) (C := RX2) (T := TX2) (N := 4) (own := RX2) hx hb hts in_X2 tyX2 tyX2_ok nmX2 hown hK.1 hat rfl 1 (by decide) (hts _ wd_92) (Or.inr ⟨rfl, hini rfl, rfl⟩) rfl x_fitsA.1 x_fitsA.2 (Nat.le_of_ble_eq_true rfl) hd (fun H1 sl ha hz hq => kk _ _ _ _ _ _ _ _ h (x_putO (s0 := s0) (locs := locs) (sl := sl) (o' := (2, oi, va_up or 1 x)) hW hS ho ha hz hq).1 (x_putO (s0 := s0) (locs := locs) (sl := sl) (o' := (2, oi, va_up or 1 x)) hW hS ho ha hz hq).2 hc hs)
  · cases hf; cases hci
    rcases v with x | x
    · exact vx_put (D := D) (ci := 2) (v := .int x) (ty := .int) (C := RX2) (T := TX2) (N := 4) (own := RX2) hx hb hts in_X2 tyX2 tyX2_ok nmX2 hown hK.1 hat rfl 2 (by decide) (hts _ wd_93) (Or.inl rfl) rfl rfl rfl (Nat.le_of_ble_eq_true rfl) hd (fun H1 sl ha hz hq => kk _ _ _ _ _ _ _ _ h (x_putO (s0 := s0) (locs := locs) (sl := sl) (o' := (2, upd oi 2 x, or)) hW hS ho ha hz hq).1 (x_putO (s0 := s0) (locs := locs) (sl := sl) (o' := (2, upd oi 2 x, or)) hW hS ho ha hz hq).2 hc hs)
    · exact h.elim
  · cases hf; cases hci
    rcases v with x | x
    · exact vx_put (D := D) (ci := 2) (v := .int x) (ty := .int) (C := RX2) (T := TX2) (N := 4) (own := RX2) hx hb hts in_X2 tyX2 tyX2_ok nmX2 hown hK.1 hat rfl 3 (by decide) (hts _ wd_95) (Or.inl rfl) rfl rfl rfl (Nat.le_of_ble_eq_true rfl) hd (fun H1 sl ha hz hq => kk _ _ _ _ _ _ _ _ h (x_putO (s0 := s0) (locs := locs) (sl := sl) (o' := (2, upd oi 3 x, or)) hW hS ho ha hz hq).1 (x_putO (s0 := s0) (locs := locs) (sl := sl) (o' := (2, upd oi 3 x, or)) hW hS ho ha hz hq).2 hc hs)
    · exact h.elim
  · cases hf
set_option maxHeartbeats 8000000 in
set_option maxRecDepth 20000 in
theorem x_get_3 (F : CallFix p m c cc nL s0 args tb RX3) (hK : kk D cs (fun i => ad (22 + i)) A s0) {i len pc : Nat} {st : List mV} {s : xS} {a b : Nat} {k : List mV → xS → Nat → Nat → Prop} {ini : Bool} (h : x_hk ini 3 (.getfield i) st s a b k) (hd : decode cc pc = .ok (.getfield i, 3)) {H : Heap} {locs : List Loc} {cells slots : Nat} {ls : Array Slot} (hW : x_W D cs ad A s H) (hS : va_S A s0.heap H locs) (hc : cells + a ≤ R.cells) (hs : slots + b ≤ R.slots)
    (kk : ∀ (st' : List mV) (s' : xS) (a' b' : Nat) (H' : Heap) (locs' : List Loc) (cells' slots' : Nat), k st' s' a' b' → x_W D cs ad A s' H' → va_S A s0.heap H' locs' → cells' + a' ≤ R.cells → slots' + b' ≤ R.slots → W p l e R s0 m args below meth c H' locs' cells' slots' Q (F0 m (pc + 3) ls (st'.map (mE (x_rho ad))))) :
    W p l e R s0 m args below meth c H locs cells slots Q (F0 m pc ls (st.map (mE (x_rho ad)))) := by
  obtain ⟨hx, hb, hml, hown, hts⟩ := F
  unfold x_hk at h
  dsimp only at h
  split at h <;> (try exact h.elim)
  rename_i r st'
  split at h <;> (try exact h.elim)
  rename_i q hf
  obtain ⟨⟨ci, oi, or⟩, ho, hci, h⟩ := h
  have hat := (hW.1 r _ (x_eO ho)).1
  replace hf : x_fm3 i = some q := hf
  unfold x_fm3 at hf
  split at hf
  · cases hf; cases hci; exact va_get (D := D) (ci := 3) (v := mE (x_rho ad) (.inr (or 0))) (C := RX3) (T := TX3) (N := 2) (own := RX3) (ref := RX3) hx hb hts in_X3 hown hK.1 (vx_P1 hat) 0 rfl rfl 0 (by decide) (hts _ wd_74) (fun _ h9 => h9) rfl hd (kk _ _ _ _ _ _ _ _ h hW hS hc hs)
  · cases hf; cases hci; exact va_get (D := D) (ci := 3) (v := mE (x_rho ad) (.inl (oi 1))) (C := RX3) (T := TX3) (N := 2) (own := RX3) (ref := RX3) hx hb hts in_X3 hown hK.1 (vx_P1 hat) 0 rfl rfl 1 (by decide) (hts _ wd_75) (fun _ h9 => h9) rfl hd (kk _ _ _ _ _ _ _ _ h hW hS hc hs)
  · cases hf; cases hci; exact va_get (D := D) (ci := 0) (v := mE (x_rho ad) (.inl (oi 0))) (C := RX0) (T := TX0) (N := 9) (own := RX3) (ref := RX0) hx hb hts in_X0 hown hK.1 (vx_P1 hat) 0 rfl rfl 0 (by decide) (hts _ wd_179) (fun _ h9 => h9) rfl hd (kk _ _ _ _ _ _ _ _ h hW hS hc hs)
  · cases hf; cases hci; exact va_get (D := D) (ci := 0) (v := mE (x_rho ad) (.inr (or 3))) (C := RX0) (T := TX0) (N := 9) (own := RX3) (ref := RX0) hx hb hts in_X0 hown hK.1 (vx_P1 hat) 0 rfl rfl 3 (by decide) (hts _ wd_190) (fun _ h9 => h9) rfl hd (kk _ _ _ _ _ _ _ _ h hW hS hc hs)
  · cases hf; cases hci; exact va_get (D := D) (ci := 0) (v := mE (x_rho ad) (.inr (or 4))) (C := RX0) (T := TX0) (N := 9) (own := RX3) (ref := RX0) hx hb hts in_X0 hown hK.1 (vx_P1 hat) 0 rfl rfl 4 (by decide) (hts _ wd_195) (fun _ h9 => h9) rfl hd (kk _ _ _ _ _ _ _ _ h hW hS hc hs)
  · cases hf; cases hci; exact va_get (D := D) (ci := 0) (v := mE (x_rho ad) (.inr (or 5))) (C := RX0) (T := TX0) (N := 9) (own := RX3) (ref := RX0) hx hb hts in_X0 hown hK.1 (vx_P1 hat) 0 rfl rfl 5 (by decide) (hts _ wd_198) (fun _ h9 => h9) rfl hd (kk _ _ _ _ _ _ _ _ h hW hS hc hs)
  · cases hf; cases hci; exact va_get (D := D) (ci := 0) (v := mE (x_rho ad) (.inl (oi 6))) (C := RX0) (T := TX0) (N := 9) (own := RX3) (ref := RX0) hx hb hts in_X0 hown hK.1 (vx_P1 hat) 0 rfl rfl 6 (by decide) (hts _ wd_202) (fun _ h9 => h9) rfl hd (kk _ _ _ _ _ _ _ _ h hW hS hc hs)
  · cases hf; cases hci; exact va_get (D := D) (ci := 0) (v := mE (x_rho ad) (.inl (oi 1))) (C := RX0) (T := TX0) (N := 9) (own := RX3) (ref := RX0) hx hb hts in_X0 hown hK.1 (vx_P1 hat) 0 rfl rfl 1 (by decide) (hts _ wd_184) (fun _ h9 => h9) rfl hd (kk _ _ _ _ _ _ _ _ h hW hS hc hs)
  · cases hf
set_option maxHeartbeats 8000000 in
set_option maxRecDepth 20000 in
theorem x_put_3 (F : CallFix p m c cc nL s0 args tb RX3) (hK : kk D cs (fun i => ad (22 + i)) A s0) {i len pc : Nat} {st : List mV} {s : xS} {a b : Nat} {k : List mV → xS → Nat → Nat → Prop} {ini : Bool} (hini : ini = true → meth.name = "<init>") (h : x_hk ini 3 (.putfield i) st s a b k) (hd : decode cc pc = .ok (.putfield i, 3)) {H : Heap} {locs : List Loc} {cells slots : Nat} {ls : Array Slot} (hW : x_W D cs ad A s H) (hS : va_S A s0.heap H locs) (hc : cells + a ≤ R.cells) (hs : slots + b ≤ R.slots)
    (kk : ∀ (st' : List mV) (s' : xS) (a' b' : Nat) (H' : Heap) (locs' : List Loc) (cells' slots' : Nat), k st' s' a' b' → x_W D cs ad A s' H' → va_S A s0.heap H' locs' → cells' + a' ≤ R.cells → slots' + b' ≤ R.slots → W p l e R s0 m args below meth c H' locs' cells' slots' Q (F0 m (pc + 3) ls (st'.map (mE (x_rho ad))))) :
    W p l e R s0 m args below meth c H locs cells slots Q (F0 m pc ls (st.map (mE (x_rho ad)))) := by
  obtain ⟨hx, hb, hml, hown, hts⟩ := F
  unfold x_hk at h
  dsimp only at h
  split at h <;> (try exact h.elim)
  rename_i v r st'
  split at h <;> (try exact h.elim)
  rename_i q hf
  obtain ⟨⟨ci, oi, or⟩, ho, hci, h⟩ := h
  have hat := (hW.1 r _ (x_eO ho)).1
  replace hf : x_fm3 i = some q := hf
  unfold x_fm3 at hf
  split at hf
  · cases hf; cases hci
    rcases v with x | x
    · exact h.elim
    · cases ini
      · exact h.elim
      · exact vx_put (D := D) (ci := 3) (v := mE (x_rho ad) (.inr x)) (ty := (.array .int)) (C := RX3) (T := TX3) (N := 2) (own := RX3) hx hb hts in_X3 tyX3 tyX3_ok nmX3 hown hK.1 hat rfl 0 (by decide) (hts _ wd_74) (Or.inr ⟨rfl, hini rfl, rfl⟩) rfl x_fitsA.1 x_fitsA.2 (Nat.le_of_ble_eq_true rfl) hd (fun H1 sl ha hz hq => kk _ _ _ _ _ _ _ _ h (x_putO (s0 := s0) (locs := locs) (sl := sl) (o' := (3, oi, va_up or 0 x)) hW hS ho ha hz hq).1 (x_putO (s0 := s0) (locs := locs) (sl := sl) (o' := (3, oi, va_up or 0 x)) hW hS ho ha hz hq).2 hc hs)
  · cases hf; cases hci
    rcases v with x | x
    · exact vx_put (D := D) (ci := 3) (v := .int x) (ty := .int) (C := RX3) (T := TX3) (N := 2) (own := RX3) hx hb hts in_X3 tyX3 tyX3_ok nmX3 hown hK.1 hat rfl 1 (by decide) (hts _ wd_75) (Or.inl rfl) rfl rfl rfl (Nat.le_of_ble_eq_true rfl) hd (fun H1 sl ha hz hq => kk _ _ _ _ _ _ _ _ h (x_putO (s0 := s0) (locs := locs) (sl := sl) (o' := (3, upd oi 1 x, or)) hW hS ho ha hz hq).1 (x_putO (s0 := s0) (locs := locs) (sl := sl) (o' := (3, upd oi 1 x, or)) hW hS ho ha hz hq).2 hc hs)
    · exact h.elim
  · cases hf; cases hci
    rcases v with x | x
    · exact vx_put (D := D) (ci := 0) (v := .int x) (ty := .int) (C := RX0) (T := TX0) (N := 9) (own := RX3) hx hb hts in_X0 tyX0 tyX0_ok nmX0 hown hK.1 hat rfl 0 (by decide) (hts _ wd_179) (Or.inl rfl) rfl rfl rfl (Nat.le_of_ble_eq_true rfl) hd (fun H1 sl ha hz hq => kk _ _ _ _ _ _ _ _ h (x_putO (s0 := s0) (locs := locs) (sl := sl) (o' := (0, upd oi 0 x, or)) hW hS ho ha hz hq).1 (x_putO (s0 := s0) (locs := locs) (sl := sl) (o' := (0, upd oi 0 x, or)) hW hS ho ha hz hq).2 hc hs)
    · exact h.elim
  · cases hf; cases hci
    rcases v with x | x
    · exact h.elim
    · exact vx_put (D := D) (ci := 0) (v := mE (x_rho ad) (.inr x)) (ty := (.object RX0)) (C := RX0) (T := TX0) (N := 9) (own := RX3) hx hb hts in_X0 tyX0 tyX0_ok nmX0 hown hK.1 hat rfl 3 (by decide) (hts _ wd_190) (Or.inl rfl) rfl x_fitsO.1 x_fitsO.2 (Nat.le_of_ble_eq_true rfl) hd (fun H1 sl ha hz hq => kk _ _ _ _ _ _ _ _ h (x_putO (s0 := s0) (locs := locs) (sl := sl) (o' := (0, oi, va_up or 3 x)) hW hS ho ha hz hq).1 (x_putO (s0 := s0) (locs := locs) (sl := sl) (o' := (0, oi, va_up or 3 x)) hW hS ho ha hz hq).2 hc hs)
  · cases hf; cases hci
    rcases v with x | x
    · exact h.elim
    · exact vx_put (D := D) (ci := 0) (v := mE (x_rho ad) (.inr x)) (ty := (.object RX0)) (C := RX0) (T := TX0) (N := 9) (own := RX3) hx hb hts in_X0 tyX0 tyX0_ok nmX0 hown hK.1 hat rfl 4 (by decide) (hts _ wd_195) (Or.inl rfl) rfl x_fitsO.1 x_fitsO.2 (Nat.le_of_ble_eq_true rfl) hd (fun H1 sl ha hz hq => kk _ _ _ _ _ _ _ _ h (x_putO (s0 := s0) (locs := locs) (sl := sl) (o' := (0, oi, va_up or 4 x)) hW hS ho ha hz hq).1 (x_putO (s0 := s0) (locs := locs) (sl := sl) (o' := (0, oi, va_up or 4 x)) hW hS ho ha hz hq).2 hc hs)
  · cases hf; cases hci
    rcases v with x | x
    · exact h.elim
    · exact vx_put (D := D) (ci := 0) (v := mE (x_rho ad) (.inr x)) (ty := (.object RX0)) (C := RX0) (T := TX0) (N := 9) (own := RX3) hx hb hts in_X0 tyX0 tyX0_ok nmX0 hown hK.1 hat rfl 5 (by decide) (hts _ wd_198) (Or.inl rfl) rfl x_fitsO.1 x_fitsO.2 (Nat.le_of_ble_eq_true rfl) hd (fun H1 sl ha hz hq => kk _ _ _ _ _ _ _ _ h (x_putO (s0 := s0) (locs := locs) (sl := sl) (o' := (0, oi, va_up or 5 x)) hW hS ho ha hz hq).1 (x_putO (s0 := s0) (locs := locs) (sl := sl) (o' := (0, oi, va_up or 5 x)) hW hS ho ha hz hq).2 hc hs)
  · cases hf; cases hci
    rcases v with x | x
    · exact vx_put (D := D) (ci := 0) (v := .int x) (ty := .int) (C := RX0) (T := TX0) (N := 9) (own := RX3) hx hb hts in_X0 tyX0 tyX0_ok nmX0 hown hK.1 hat rfl 6 (by decide) (hts _ wd_202) (Or.inl rfl) rfl rfl rfl (Nat.le_of_ble_eq_true rfl) hd (fun H1 sl ha hz hq => kk _ _ _ _ _ _ _ _ h (x_putO (s0 := s0) (locs := locs) (sl := sl) (o' := (0, upd oi 6 x, or)) hW hS ho ha hz hq).1 (x_putO (s0 := s0) (locs := locs) (sl := sl) (o' := (0, upd oi 6 x, or)) hW hS ho ha hz hq).2 hc hs)
    · exact h.elim
  · cases hf; cases hci
    rcases v with x | x
    · exact vx_put (D := D) (ci := 0) (v := .int x) (ty := .int) (C := RX0) (T := TX0) (N := 9) (own := RX3) hx hb hts in_X0 tyX0 tyX0_ok nmX0 hown hK.1 hat rfl 1 (by decide) (hts _ wd_184) (Or.inl rfl) rfl rfl rfl (Nat.le_of_ble_eq_true rfl) hd (fun H1 sl ha hz hq => kk _ _ _ _ _ _ _ _ h (x_putO (s0 := s0) (locs := locs) (sl := sl) (o' := (0, upd oi 1 x, or)) hW hS ho ha hz hq).1 (x_putO (s0 := s0) (locs := locs) (sl := sl) (o' := (0, upd oi 1 x, or)) hW hS ho ha hz hq).2 hc hs)
    · exact h.elim
  · cases hf
set_option maxHeartbeats 8000000 in
set_option maxRecDepth 20000 in
theorem x_get_4 (F : CallFix p m c cc nL s0 args tb RX4) (hK : kk D cs (fun i => ad (22 + i)) A s0) {i len pc : Nat} {st : List mV} {s : xS} {a b : Nat} {k : List mV → xS → Nat → Nat → Prop} {ini : Bool} (h : x_hk ini 4 (.getfield i) st s a b k) (hd : decode cc pc = .ok (.getfield i, 3)) {H : Heap} {locs : List Loc} {cells slots : Nat} {ls : Array Slot} (hW : x_W D cs ad A s H) (hS : va_S A s0.heap H locs) (hc : cells + a ≤ R.cells) (hs : slots + b ≤ R.slots)
    (kk : ∀ (st' : List mV) (s' : xS) (a' b' : Nat) (H' : Heap) (locs' : List Loc) (cells' slots' : Nat), k st' s' a' b' → x_W D cs ad A s' H' → va_S A s0.heap H' locs' → cells' + a' ≤ R.cells → slots' + b' ≤ R.slots → W p l e R s0 m args below meth c H' locs' cells' slots' Q (F0 m (pc + 3) ls (st'.map (mE (x_rho ad))))) :
    W p l e R s0 m args below meth c H locs cells slots Q (F0 m pc ls (st.map (mE (x_rho ad)))) := by
  obtain ⟨hx, hb, hml, hown, hts⟩ := F
  unfold x_hk at h
  dsimp only at h
  split at h <;> (try exact h.elim)
  rename_i r st'
  split at h <;> (try exact h.elim)
  rename_i q hf
  obtain ⟨⟨ci, oi, or⟩, ho, hci, h⟩ := h
  have hat := (hW.1 r _ (x_eO ho)).1
  replace hf : x_fm4 i = some q := hf
  unfold x_fm4 at hf
  split at hf
  · cases hf; cases hci; exact va_get (D := D) (ci := 4) (v := mE (x_rho ad) (.inl (oi 0))) (C := RX4) (T := TX4) (N := 3) (own := RX4) (ref := RX4) hx hb hts in_X4 hown hK.1 (vx_P1 hat) 0 rfl rfl 0 (by decide) (hts _ wd_155) (fun _ h9 => h9) rfl hd (kk _ _ _ _ _ _ _ _ h hW hS hc hs)
  · cases hf; cases hci; exact va_get (D := D) (ci := 0) (v := mE (x_rho ad) (.inl (oi 8))) (C := RX0) (T := TX0) (N := 9) (own := RX4) (ref := RX0) hx hb hts in_X0 hown hK.1 (vx_P1 hat) 0 rfl rfl 8 (by decide) (hts _ wd_206) (fun _ h9 => h9) rfl hd (kk _ _ _ _ _ _ _ _ h hW hS hc hs)
  · cases hf; cases hci; exact va_get (D := D) (ci := 4) (v := mE (x_rho ad) (.inl (oi 1))) (C := RX4) (T := TX4) (N := 3) (own := RX4) (ref := RX4) hx hb hts in_X4 hown hK.1 (vx_P1 hat) 0 rfl rfl 1 (by decide) (hts _ wd_156) (fun _ h9 => h9) rfl hd (kk _ _ _ _ _ _ _ _ h hW hS hc hs)
  · cases hf; cases hci; exact va_get (D := D) (ci := 4) (v := mE (x_rho ad) (.inl (oi 2))) (C := RX4) (T := TX4) (N := 3) (own := RX4) (ref := RX4) hx hb hts in_X4 hown hK.1 (vx_P1 hat) 0 rfl rfl 2 (by decide) (hts _ wd_158) (fun _ h9 => h9) rfl hd (kk _ _ _ _ _ _ _ _ h hW hS hc hs)
  · cases hf; cases hci; exact va_get (D := D) (ci := 0) (v := mE (x_rho ad) (.inr (or 3))) (C := RX0) (T := TX0) (N := 9) (own := RX4) (ref := RX0) hx hb hts in_X0 hown hK.1 (vx_P1 hat) 0 rfl rfl 3 (by decide) (hts _ wd_189) (fun _ h9 => h9) rfl hd (kk _ _ _ _ _ _ _ _ h hW hS hc hs)
  · cases hf; cases hci; exact va_get (D := D) (ci := 0) (v := mE (x_rho ad) (.inr (or 4))) (C := RX0) (T := TX0) (N := 9) (own := RX4) (ref := RX0) hx hb hts in_X0 hown hK.1 (vx_P1 hat) 0 rfl rfl 4 (by decide) (hts _ wd_194) (fun _ h9 => h9) rfl hd (kk _ _ _ _ _ _ _ _ h hW hS hc hs)
  · cases hf; cases hci; exact va_get (D := D) (ci := 0) (v := mE (x_rho ad) (.inr (or 5))) (C := RX0) (T := TX0) (N := 9) (own := RX4) (ref := RX0) hx hb hts in_X0 hown hK.1 (vx_P1 hat) 0 rfl rfl 5 (by decide) (hts _ wd_197) (fun _ h9 => h9) rfl hd (kk _ _ _ _ _ _ _ _ h hW hS hc hs)
  · cases hf
set_option maxHeartbeats 8000000 in
set_option maxRecDepth 20000 in
theorem x_put_4 (F : CallFix p m c cc nL s0 args tb RX4) (hK : kk D cs (fun i => ad (22 + i)) A s0) {i len pc : Nat} {st : List mV} {s : xS} {a b : Nat} {k : List mV → xS → Nat → Nat → Prop} {ini : Bool} (hini : ini = true → meth.name = "<init>") (h : x_hk ini 4 (.putfield i) st s a b k) (hd : decode cc pc = .ok (.putfield i, 3)) {H : Heap} {locs : List Loc} {cells slots : Nat} {ls : Array Slot} (hW : x_W D cs ad A s H) (hS : va_S A s0.heap H locs) (hc : cells + a ≤ R.cells) (hs : slots + b ≤ R.slots)
    (kk : ∀ (st' : List mV) (s' : xS) (a' b' : Nat) (H' : Heap) (locs' : List Loc) (cells' slots' : Nat), k st' s' a' b' → x_W D cs ad A s' H' → va_S A s0.heap H' locs' → cells' + a' ≤ R.cells → slots' + b' ≤ R.slots → W p l e R s0 m args below meth c H' locs' cells' slots' Q (F0 m (pc + 3) ls (st'.map (mE (x_rho ad))))) :
    W p l e R s0 m args below meth c H locs cells slots Q (F0 m pc ls (st.map (mE (x_rho ad)))) := by
  obtain ⟨hx, hb, hml, hown, hts⟩ := F
  unfold x_hk at h
  dsimp only at h
  split at h <;> (try exact h.elim)
  rename_i v r st'
  split at h <;> (try exact h.elim)
  rename_i q hf
  obtain ⟨⟨ci, oi, or⟩, ho, hci, h⟩ := h
  have hat := (hW.1 r _ (x_eO ho)).1
  replace hf : x_fm4 i = some q := hf
  unfold x_fm4 at hf
  split at hf
  · cases hf; cases hci
    rcases v with x | x
    · exact vx_put (D := D) (ci := 4) (v := .int x) (ty := .int) (C := RX4) (T := TX4) (N := 3) (own := RX4) hx hb hts in_X4 tyX4 tyX4_ok nmX4 hown hK.1 hat rfl 0 (by decide) (hts _ wd_155) (Or.inl rfl) rfl rfl rfl (Nat.le_of_ble_eq_true rfl) hd (fun H1 sl ha hz hq => kk _ _ _ _ _ _ _ _ h (x_putO (s0 := s0) (locs := locs) (sl := sl) (o' := (4, upd oi 0 x, or)) hW hS ho ha hz hq).1 (x_putO (s0 := s0) (locs := locs) (sl := sl) (o' := (4, upd oi 0 x, or)) hW hS ho ha hz hq).2 hc hs)
    · exact h.elim
  · cases hf; cases hci
    rcases v with x | x
    · exact vx_put (D := D) (ci := 0) (v := .int x) (ty := .int) (C := RX0) (T := TX0) (N := 9) (own := RX4) hx hb hts in_X0 tyX0 tyX0_ok nmX0 hown hK.1 hat rfl 8 (by decide) (hts _ wd_206) (Or.inl rfl) rfl rfl rfl (Nat.le_of_ble_eq_true rfl) hd (fun H1 sl ha hz hq => kk _ _ _ _ _ _ _ _ h (x_putO (s0 := s0) (locs := locs) (sl := sl) (o' := (0, upd oi 8 x, or)) hW hS ho ha hz hq).1 (x_putO (s0 := s0) (locs := locs) (sl := sl) (o' := (0, upd oi 8 x, or)) hW hS ho ha hz hq).2 hc hs)
    · exact h.elim
  · cases hf; cases hci
    rcases v with x | x
    · exact vx_put (D := D) (ci := 4) (v := .int x) (ty := .int) (C := RX4) (T := TX4) (N := 3) (own := RX4) hx hb hts in_X4 tyX4 tyX4_ok nmX4 hown hK.1 hat rfl 1 (by decide) (hts _ wd_156) (Or.inl rfl) rfl rfl rfl (Nat.le_of_ble_eq_true rfl) hd (fun H1 sl ha hz hq => kk _ _ _ _ _ _ _ _ h (x_putO (s0 := s0) (locs := locs) (sl := sl) (o' := (4, upd oi 1 x, or)) hW hS ho ha hz hq).1 (x_putO (s0 := s0) (locs := locs) (sl := sl) (o' := (4, upd oi 1 x, or)) hW hS ho ha hz hq).2 hc hs)
    · exact h.elim
  · cases hf; cases hci
    rcases v with x | x
    · exact vx_put (D := D) (ci := 4) (v := .int x) (ty := .int) (C := RX4) (T := TX4) (N := 3) (own := RX4) hx hb hts in_X4 tyX4 tyX4_ok nmX4 hown hK.1 hat rfl 2 (by decide) (hts _ wd_158) (Or.inl rfl) rfl rfl rfl (Nat.le_of_ble_eq_true rfl) hd (fun H1 sl ha hz hq => kk _ _ _ _ _ _ _ _ h (x_putO (s0 := s0) (locs := locs) (sl := sl) (o' := (4, upd oi 2 x, or)) hW hS ho ha hz hq).1 (x_putO (s0 := s0) (locs := locs) (sl := sl) (o' := (4, upd oi 2 x, or)) hW hS ho ha hz hq).2 hc hs)
    · exact h.elim
  · cases hf; cases hci
    rcases v with x | x
    · exact h.elim
    · exact vx_put (D := D) (ci := 0) (v := mE (x_rho ad) (.inr x)) (ty := (.object RX0)) (C := RX0) (T := TX0) (N := 9) (own := RX4) hx hb hts in_X0 tyX0 tyX0_ok nmX0 hown hK.1 hat rfl 3 (by decide) (hts _ wd_189) (Or.inl rfl) rfl x_fitsO.1 x_fitsO.2 (Nat.le_of_ble_eq_true rfl) hd (fun H1 sl ha hz hq => kk _ _ _ _ _ _ _ _ h (x_putO (s0 := s0) (locs := locs) (sl := sl) (o' := (0, oi, va_up or 3 x)) hW hS ho ha hz hq).1 (x_putO (s0 := s0) (locs := locs) (sl := sl) (o' := (0, oi, va_up or 3 x)) hW hS ho ha hz hq).2 hc hs)
  · cases hf; cases hci
    rcases v with x | x
    · exact h.elim
    · exact vx_put (D := D) (ci := 0) (v := mE (x_rho ad) (.inr x)) (ty := (.object RX0)) (C := RX0) (T := TX0) (N := 9) (own := RX4) hx hb hts in_X0 tyX0 tyX0_ok nmX0 hown hK.1 hat rfl 4 (by decide) (hts _ wd_194) (Or.inl rfl) rfl x_fitsO.1 x_fitsO.2 (Nat.le_of_ble_eq_true rfl) hd (fun H1 sl ha hz hq => kk _ _ _ _ _ _ _ _ h (x_putO (s0 := s0) (locs := locs) (sl := sl) (o' := (0, oi, va_up or 4 x)) hW hS ho ha hz hq).1 (x_putO (s0 := s0) (locs := locs) (sl := sl) (o' := (0, oi, va_up or 4 x)) hW hS ho ha hz hq).2 hc hs)
  · cases hf; cases hci
    rcases v with x | x
    · exact h.elim
    · exact vx_put (D := D) (ci := 0) (v := mE (x_rho ad) (.inr x)) (ty := (.object RX0)) (C := RX0) (T := TX0) (N := 9) (own := RX4) hx hb hts in_X0 tyX0 tyX0_ok nmX0 hown hK.1 hat rfl 5 (by decide) (hts _ wd_197) (Or.inl rfl) rfl x_fitsO.1 x_fitsO.2 (Nat.le_of_ble_eq_true rfl) hd (fun H1 sl ha hz hq => kk _ _ _ _ _ _ _ _ h (x_putO (s0 := s0) (locs := locs) (sl := sl) (o' := (0, oi, va_up or 5 x)) hW hS ho ha hz hq).1 (x_putO (s0 := s0) (locs := locs) (sl := sl) (o' := (0, oi, va_up or 5 x)) hW hS ho ha hz hq).2 hc hs)
  · cases hf
set_option maxHeartbeats 8000000 in
set_option maxRecDepth 20000 in
theorem x_get_5 (F : CallFix p m c cc nL s0 args tb RX5) (hK : kk D cs (fun i => ad (22 + i)) A s0) {i len pc : Nat} {st : List mV} {s : xS} {a b : Nat} {k : List mV → xS → Nat → Nat → Prop} {ini : Bool} (h : x_hk ini 5 (.getfield i) st s a b k) (hd : decode cc pc = .ok (.getfield i, 3)) {H : Heap} {locs : List Loc} {cells slots : Nat} {ls : Array Slot} (hW : x_W D cs ad A s H) (hS : va_S A s0.heap H locs) (hc : cells + a ≤ R.cells) (hs : slots + b ≤ R.slots)
    (kk : ∀ (st' : List mV) (s' : xS) (a' b' : Nat) (H' : Heap) (locs' : List Loc) (cells' slots' : Nat), k st' s' a' b' → x_W D cs ad A s' H' → va_S A s0.heap H' locs' → cells' + a' ≤ R.cells → slots' + b' ≤ R.slots → W p l e R s0 m args below meth c H' locs' cells' slots' Q (F0 m (pc + 3) ls (st'.map (mE (x_rho ad))))) :
    W p l e R s0 m args below meth c H locs cells slots Q (F0 m pc ls (st.map (mE (x_rho ad)))) := by
  obtain ⟨hx, hb, hml, hown, hts⟩ := F
  unfold x_hk at h
  dsimp only at h
  split at h <;> (try exact h.elim)
  rename_i r st'
  split at h <;> (try exact h.elim)
  rename_i q hf
  obtain ⟨⟨ci, oi, or⟩, ho, hci, h⟩ := h
  have hat := (hW.1 r _ (x_eO ho)).1
  replace hf : x_fm5 i = some q := hf
  unfold x_fm5 at hf
  split at hf
  · cases hf; cases hci; exact va_get (D := D) (ci := 5) (v := mE (x_rho ad) (.inr (or 0))) (C := RX5) (T := TX5) (N := 5) (own := RX5) (ref := RX5) hx hb hts in_X5 hown hK.1 (vx_P1 hat) 0 rfl rfl 0 (by decide) (hts _ wd_132) (fun _ h9 => h9) rfl hd (kk _ _ _ _ _ _ _ _ h hW hS hc hs)
  · cases hf; cases hci; exact va_get (D := D) (ci := 5) (v := mE (x_rho ad) (.inr (or 1))) (C := RX5) (T := TX5) (N := 5) (own := RX5) (ref := RX5) hx hb hts in_X5 hown hK.1 (vx_P1 hat) 0 rfl rfl 1 (by decide) (hts _ wd_134) (fun _ h9 => h9) rfl hd (kk _ _ _ _ _ _ _ _ h hW hS hc hs)
  · cases hf; cases hci; exact va_get (D := D) (ci := 5) (v := mE (x_rho ad) (.inr (or 2))) (C := RX5) (T := TX5) (N := 5) (own := RX5) (ref := RX5) hx hb hts in_X5 hown hK.1 (vx_P1 hat) 0 rfl rfl 2 (by decide) (hts _ wd_135) (fun _ h9 => h9) rfl hd (kk _ _ _ _ _ _ _ _ h hW hS hc hs)
  · cases hf; cases hci; exact va_get (D := D) (ci := 5) (v := mE (x_rho ad) (.inl (oi 3))) (C := RX5) (T := TX5) (N := 5) (own := RX5) (ref := RX5) hx hb hts in_X5 hown hK.1 (vx_P1 hat) 0 rfl rfl 3 (by decide) (hts _ wd_136) (fun _ h9 => h9) rfl hd (kk _ _ _ _ _ _ _ _ h hW hS hc hs)
  · cases hf; cases hci; exact va_get (D := D) (ci := 5) (v := mE (x_rho ad) (.inr (or 4))) (C := RX5) (T := TX5) (N := 5) (own := RX5) (ref := RX5) hx hb hts in_X5 hown hK.1 (vx_P1 hat) 0 rfl rfl 4 (by decide) (hts _ wd_137) (fun _ h9 => h9) rfl hd (kk _ _ _ _ _ _ _ _ h hW hS hc hs)
  · cases hf; cases hci; exact va_get (D := D) (ci := 0) (v := mE (x_rho ad) (.inl (oi 1))) (C := RX0) (T := TX0) (N := 9) (own := RX5) (ref := RX0) hx hb hts in_X0 hown hK.1 (vx_P1 hat) 0 rfl rfl 1 (by decide) (hts _ wd_182) (fun _ h9 => h9) rfl hd (kk _ _ _ _ _ _ _ _ h hW hS hc hs)
  · cases hf; cases hci; exact va_get (D := D) (ci := 1) (v := mE (x_rho ad) (.inl (oi 1))) (C := RX1) (T := TX1) (N := 2) (own := RX5) (ref := RX1) hx hb hts in_X1 hown hK.1 (vx_P1 hat) 0 rfl rfl 1 (by decide) (hts _ wd_115) (fun _ h9 => h9) rfl hd (kk _ _ _ _ _ _ _ _ h hW hS hc hs)
  · cases hf; cases hci; exact va_get (D := D) (ci := 0) (v := mE (x_rho ad) (.inr (or 3))) (C := RX0) (T := TX0) (N := 9) (own := RX5) (ref := RX0) hx hb hts in_X0 hown hK.1 (vx_P1 hat) 0 rfl rfl 3 (by decide) (hts _ wd_188) (fun _ h9 => h9) rfl hd (kk _ _ _ _ _ _ _ _ h hW hS hc hs)
  · cases hf; cases hci; exact va_get (D := D) (ci := 0) (v := mE (x_rho ad) (.inl (oi 0))) (C := RX0) (T := TX0) (N := 9) (own := RX5) (ref := RX0) hx hb hts in_X0 hown hK.1 (vx_P1 hat) 0 rfl rfl 0 (by decide) (hts _ wd_178) (fun _ h9 => h9) rfl hd (kk _ _ _ _ _ _ _ _ h hW hS hc hs)
  · cases hf; cases hci; exact va_get (D := D) (ci := 0) (v := mE (x_rho ad) (.inr (or 4))) (C := RX0) (T := TX0) (N := 9) (own := RX5) (ref := RX0) hx hb hts in_X0 hown hK.1 (vx_P1 hat) 0 rfl rfl 4 (by decide) (hts _ wd_193) (fun _ h9 => h9) rfl hd (kk _ _ _ _ _ _ _ _ h hW hS hc hs)
  · cases hf; cases hci; exact va_get (D := D) (ci := 0) (v := mE (x_rho ad) (.inl (oi 7))) (C := RX0) (T := TX0) (N := 9) (own := RX5) (ref := RX0) hx hb hts in_X0 hown hK.1 (vx_P1 hat) 0 rfl rfl 7 (by decide) (hts _ wd_205) (fun _ h9 => h9) rfl hd (kk _ _ _ _ _ _ _ _ h hW hS hc hs)
  · cases hf; cases hci; exact va_get (D := D) (ci := 0) (v := mE (x_rho ad) (.inr (or 5))) (C := RX0) (T := TX0) (N := 9) (own := RX5) (ref := RX0) hx hb hts in_X0 hown hK.1 (vx_P1 hat) 0 rfl rfl 5 (by decide) (hts _ wd_199) (fun _ h9 => h9) rfl hd (kk _ _ _ _ _ _ _ _ h hW hS hc hs)
  · cases hf; cases hci; exact va_get (D := D) (ci := 0) (v := mE (x_rho ad) (.inl (oi 6))) (C := RX0) (T := TX0) (N := 9) (own := RX5) (ref := RX0) hx hb hts in_X0 hown hK.1 (vx_P1 hat) 0 rfl rfl 6 (by decide) (hts _ wd_203) (fun _ h9 => h9) rfl hd (kk _ _ _ _ _ _ _ _ h hW hS hc hs)
  · cases hf
set_option maxHeartbeats 8000000 in
set_option maxRecDepth 20000 in
theorem x_put_5 (F : CallFix p m c cc nL s0 args tb RX5) (hK : kk D cs (fun i => ad (22 + i)) A s0) {i len pc : Nat} {st : List mV} {s : xS} {a b : Nat} {k : List mV → xS → Nat → Nat → Prop} {ini : Bool} (hini : ini = true → meth.name = "<init>") (h : x_hk ini 5 (.putfield i) st s a b k) (hd : decode cc pc = .ok (.putfield i, 3)) {H : Heap} {locs : List Loc} {cells slots : Nat} {ls : Array Slot} (hW : x_W D cs ad A s H) (hS : va_S A s0.heap H locs) (hc : cells + a ≤ R.cells) (hs : slots + b ≤ R.slots)
    (kk : ∀ (st' : List mV) (s' : xS) (a' b' : Nat) (H' : Heap) (locs' : List Loc) (cells' slots' : Nat), k st' s' a' b' → x_W D cs ad A s' H' → va_S A s0.heap H' locs' → cells' + a' ≤ R.cells → slots' + b' ≤ R.slots → W p l e R s0 m args below meth c H' locs' cells' slots' Q (F0 m (pc + 3) ls (st'.map (mE (x_rho ad))))) :
    W p l e R s0 m args below meth c H locs cells slots Q (F0 m pc ls (st.map (mE (x_rho ad)))) := by
  obtain ⟨hx, hb, hml, hown, hts⟩ := F
  unfold x_hk at h
  dsimp only at h
  split at h <;> (try exact h.elim)
  rename_i v r st'
  split at h <;> (try exact h.elim)
  rename_i q hf
  obtain ⟨⟨ci, oi, or⟩, ho, hci, h⟩ := h
  have hat := (hW.1 r _ (x_eO ho)).1
  replace hf : x_fm5 i = some q := hf
  unfold x_fm5 at hf
  split at hf
  · cases hf; cases hci
    rcases v with x | x
    · exact h.elim
    · cases ini
      · exact h.elim
      · exact vx_put (D := D) (ci := 5) (v := mE (x_rho ad) (.inr x)) (ty := (.array .int)) (C := RX5) (T := TX5) (N := 5) (own := RX5) hx hb hts in_X5 tyX5 tyX5_ok nmX5 hown hK.1 hat rfl 0 (by decide) (hts _ wd_132) (Or.inr ⟨rfl, hini rfl, rfl⟩) rfl x_fitsA.1 x_fitsA.2 (Nat.le_of_ble_eq_true rfl) hd (fun H1 sl ha hz hq => kk _ _ _ _ _ _ _ _ h (x_putO (s0 := s0) (locs := locs) (sl := sl) (o' := (5, oi, va_up or 0 x)) hW hS ho ha hz hq).1 (x_putO (s0 := s0) (locs := locs) (sl := sl) (o' := (5, oi, va_up or 0 x)) hW hS ho ha hz hq).2 hc hs)
  · cases hf; cases hci
    rcases v with x | x
    · exact h.elim
    · cases ini
      · exact h.elim
      · exact vx_put (D := D) (ci := 5) (v := mE (x_rho ad) (.inr x)) (ty := (.object RX1)) (C := RX5) (T := TX5) (N := 5) (own := RX5) hx hb hts in_X5 tyX5 tyX5_ok nmX5 hown hK.1 hat rfl 1 (by decide) (hts _ wd_134) (Or.inr ⟨rfl, hini rfl, rfl⟩) rfl x_fitsO.1 x_fitsO.2 (Nat.le_of_ble_eq_true rfl) hd (fun H1 sl ha hz hq => kk _ _ _ _ _ _ _ _ h (x_putO (s0 := s0) (locs := locs) (sl := sl) (o' := (5, oi, va_up or 1 x)) hW hS ho ha hz hq).1 (x_putO (s0 := s0) (locs := locs) (sl := sl) (o' := (5, oi, va_up or 1 x)) hW hS ho ha hz hq).2 hc hs)
  · cases hf; cases hci
    rcases v with x | x
    · exact h.elim
    · cases ini
      · exact h.elim
      · exact vx_put (D := D) (ci := 5) (v := mE (x_rho ad) (.inr x)) (ty := (.object RX3)) (C := RX5) (T := TX5) (N := 5) (own := RX5) hx hb hts in_X5 tyX5 tyX5_ok nmX5 hown hK.1 hat rfl 2 (by decide) (hts _ wd_135) (Or.inr ⟨rfl, hini rfl, rfl⟩) rfl x_fitsO.1 x_fitsO.2 (Nat.le_of_ble_eq_true rfl) hd (fun H1 sl ha hz hq => kk _ _ _ _ _ _ _ _ h (x_putO (s0 := s0) (locs := locs) (sl := sl) (o' := (5, oi, va_up or 2 x)) hW hS ho ha hz hq).1 (x_putO (s0 := s0) (locs := locs) (sl := sl) (o' := (5, oi, va_up or 2 x)) hW hS ho ha hz hq).2 hc hs)
  · cases hf; cases hci
    rcases v with x | x
    · exact vx_put (D := D) (ci := 5) (v := .int x) (ty := .int) (C := RX5) (T := TX5) (N := 5) (own := RX5) hx hb hts in_X5 tyX5 tyX5_ok nmX5 hown hK.1 hat rfl 3 (by decide) (hts _ wd_136) (Or.inl rfl) rfl rfl rfl (Nat.le_of_ble_eq_true rfl) hd (fun H1 sl ha hz hq => kk _ _ _ _ _ _ _ _ h (x_putO (s0 := s0) (locs := locs) (sl := sl) (o' := (5, upd oi 3 x, or)) hW hS ho ha hz hq).1 (x_putO (s0 := s0) (locs := locs) (sl := sl) (o' := (5, upd oi 3 x, or)) hW hS ho ha hz hq).2 hc hs)
    · exact h.elim
  · cases hf; cases hci
    rcases v with x | x
    · exact h.elim
    · exact vx_put (D := D) (ci := 5) (v := mE (x_rho ad) (.inr x)) (ty := (.object RX0)) (C := RX5) (T := TX5) (N := 5) (own := RX5) hx hb hts in_X5 tyX5 tyX5_ok nmX5 hown hK.1 hat rfl 4 (by decide) (hts _ wd_137) (Or.inl rfl) rfl x_fitsO.1 x_fitsO.2 (Nat.le_of_ble_eq_true rfl) hd (fun H1 sl ha hz hq => kk _ _ _ _ _ _ _ _ h (x_putO (s0 := s0) (locs := locs) (sl := sl) (o' := (5, oi, va_up or 4 x)) hW hS ho ha hz hq).1 (x_putO (s0 := s0) (locs := locs) (sl := sl) (o' := (5, oi, va_up or 4 x)) hW hS ho ha hz hq).2 hc hs)
  · cases hf; cases hci
    rcases v with x | x
    · exact vx_put (D := D) (ci := 0) (v := .int x) (ty := .int) (C := RX0) (T := TX0) (N := 9) (own := RX5) hx hb hts in_X0 tyX0 tyX0_ok nmX0 hown hK.1 hat rfl 1 (by decide) (hts _ wd_182) (Or.inl rfl) rfl rfl rfl (Nat.le_of_ble_eq_true rfl) hd (fun H1 sl ha hz hq => kk _ _ _ _ _ _ _ _ h (x_putO (s0 := s0) (locs := locs) (sl := sl) (o' := (0, upd oi 1 x, or)) hW hS ho ha hz hq).1 (x_putO (s0 := s0) (locs := locs) (sl := sl) (o' := (0, upd oi 1 x, or)) hW hS ho ha hz hq).2 hc hs)
    · exact h.elim
  · cases hf; cases hci
    rcases v with x | x
    · exact vx_put (D := D) (ci := 1) (v := .int x) (ty := .int) (C := RX1) (T := TX1) (N := 2) (own := RX5) hx hb hts in_X1 tyX1 tyX1_ok nmX1 hown hK.1 hat rfl 1 (by decide) (hts _ wd_115) (Or.inl rfl) rfl rfl rfl (Nat.le_of_ble_eq_true rfl) hd (fun H1 sl ha hz hq => kk _ _ _ _ _ _ _ _ h (x_putO (s0 := s0) (locs := locs) (sl := sl) (o' := (1, upd oi 1 x, or)) hW hS ho ha hz hq).1 (x_putO (s0 := s0) (locs := locs) (sl := sl) (o' := (1, upd oi 1 x, or)) hW hS ho ha hz hq).2 hc hs)
    · exact h.elim
  · cases hf; cases hci
    rcases v with x | x
    · exact h.elim
    · exact vx_put (D := D) (ci := 0) (v := mE (x_rho ad) (.inr x)) (ty := (.object RX0)) (C := RX0) (T := TX0) (N := 9) (own := RX5) hx hb hts in_X0 tyX0 tyX0_ok nmX0 hown hK.1 hat rfl 3 (by decide) (hts _ wd_188) (Or.inl rfl) rfl x_fitsO.1 x_fitsO.2 (Nat.le_of_ble_eq_true rfl) hd (fun H1 sl ha hz hq => kk _ _ _ _ _ _ _ _ h (x_putO (s0 := s0) (locs := locs) (sl := sl) (o' := (0, oi, va_up or 3 x)) hW hS ho ha hz hq).1 (x_putO (s0 := s0) (locs := locs) (sl := sl) (o' := (0, oi, va_up or 3 x)) hW hS ho ha hz hq).2 hc hs)
  · cases hf; cases hci
    rcases v with x | x
    · exact vx_put (D := D) (ci := 0) (v := .int x) (ty := .int) (C := RX0) (T := TX0) (N := 9) (own := RX5) hx hb hts in_X0 tyX0 tyX0_ok nmX0 hown hK.1 hat rfl 0 (by decide) (hts _ wd_178) (Or.inl rfl) rfl rfl rfl (Nat.le_of_ble_eq_true rfl) hd (fun H1 sl ha hz hq => kk _ _ _ _ _ _ _ _ h (x_putO (s0 := s0) (locs := locs) (sl := sl) (o' := (0, upd oi 0 x, or)) hW hS ho ha hz hq).1 (x_putO (s0 := s0) (locs := locs) (sl := sl) (o' := (0, upd oi 0 x, or)) hW hS ho ha hz hq).2 hc hs)
    · exact h.elim
  · cases hf; cases hci
    rcases v with x | x
    · exact h.elim
    · exact vx_put (D := D) (ci := 0) (v := mE (x_rho ad) (.inr x)) (ty := (.object RX0)) (C := RX0) (T := TX0) (N := 9) (own := RX5) hx hb hts in_X0 tyX0 tyX0_ok nmX0 hown hK.1 hat rfl 4 (by decide) (hts _ wd_193) (Or.inl rfl) rfl x_fitsO.1 x_fitsO.2 (Nat.le_of_ble_eq_true rfl) hd (fun H1 sl ha hz hq => kk _ _ _ _ _ _ _ _ h (x_putO (s0 := s0) (locs := locs) (sl := sl) (o' := (0, oi, va_up or 4 x)) hW hS ho ha hz hq).1 (x_putO (s0 := s0) (locs := locs) (sl := sl) (o' := (0, oi, va_up or 4 x)) hW hS ho ha hz hq).2 hc hs)
  · cases hf; cases hci
    rcases v with x | x
    · exact vx_put (D := D) (ci := 0) (v := .int x) (ty := .int) (C := RX0) (T := TX0) (N := 9) (own := RX5) hx hb hts in_X0 tyX0 tyX0_ok nmX0 hown hK.1 hat rfl 7 (by decide) (hts _ wd_205) (Or.inl rfl) rfl rfl rfl (Nat.le_of_ble_eq_true rfl) hd (fun H1 sl ha hz hq => kk _ _ _ _ _ _ _ _ h (x_putO (s0 := s0) (locs := locs) (sl := sl) (o' := (0, upd oi 7 x, or)) hW hS ho ha hz hq).1 (x_putO (s0 := s0) (locs := locs) (sl := sl) (o' := (0, upd oi 7 x, or)) hW hS ho ha hz hq).2 hc hs)
    · exact h.elim
  · cases hf; cases hci
    rcases v with x | x
    · exact h.elim
    · exact vx_put (D := D) (ci := 0) (v := mE (x_rho ad) (.inr x)) (ty := (.object RX0)) (C := RX0) (T := TX0) (N := 9) (own := RX5) hx hb hts in_X0 tyX0 tyX0_ok nmX0 hown hK.1 hat rfl 5 (by decide) (hts _ wd_199) (Or.inl rfl) rfl x_fitsO.1 x_fitsO.2 (Nat.le_of_ble_eq_true rfl) hd (fun H1 sl ha hz hq => kk _ _ _ _ _ _ _ _ h (x_putO (s0 := s0) (locs := locs) (sl := sl) (o' := (0, oi, va_up or 5 x)) hW hS ho ha hz hq).1 (x_putO (s0 := s0) (locs := locs) (sl := sl) (o' := (0, oi, va_up or 5 x)) hW hS ho ha hz hq).2 hc hs)
  · cases hf; cases hci
    rcases v with x | x
    · exact vx_put (D := D) (ci := 0) (v := .int x) (ty := .int) (C := RX0) (T := TX0) (N := 9) (own := RX5) hx hb hts in_X0 tyX0 tyX0_ok nmX0 hown hK.1 hat rfl 6 (by decide) (hts _ wd_203) (Or.inl rfl) rfl rfl rfl (Nat.le_of_ble_eq_true rfl) hd (fun H1 sl ha hz hq => kk _ _ _ _ _ _ _ _ h (x_putO (s0 := s0) (locs := locs) (sl := sl) (o' := (0, upd oi 6 x, or)) hW hS ho ha hz hq).1 (x_putO (s0 := s0) (locs := locs) (sl := sl) (o' := (0, upd oi 6 x, or)) hW hS ho ha hz hq).2 hc hs)
    · exact h.elim
  · cases hf
set_option maxHeartbeats 8000000 in
set_option maxRecDepth 20000 in
theorem x_get_6 (F : CallFix p m c cc nL s0 args tb RX6) (hK : kk D cs (fun i => ad (22 + i)) A s0) {i len pc : Nat} {st : List mV} {s : xS} {a b : Nat} {k : List mV → xS → Nat → Nat → Prop} {ini : Bool} (h : x_hk ini 6 (.getfield i) st s a b k) (hd : decode cc pc = .ok (.getfield i, 3)) {H : Heap} {locs : List Loc} {cells slots : Nat} {ls : Array Slot} (hW : x_W D cs ad A s H) (hS : va_S A s0.heap H locs) (hc : cells + a ≤ R.cells) (hs : slots + b ≤ R.slots)
    (kk : ∀ (st' : List mV) (s' : xS) (a' b' : Nat) (H' : Heap) (locs' : List Loc) (cells' slots' : Nat), k st' s' a' b' → x_W D cs ad A s' H' → va_S A s0.heap H' locs' → cells' + a' ≤ R.cells → slots' + b' ≤ R.slots → W p l e R s0 m args below meth c H' locs' cells' slots' Q (F0 m (pc + 3) ls (st'.map (mE (x_rho ad))))) :
    W p l e R s0 m args below meth c H locs cells slots Q (F0 m pc ls (st.map (mE (x_rho ad)))) := by
  obtain ⟨hx, hb, hml, hown, hts⟩ := F
  unfold x_hk at h
  dsimp only at h
  split at h <;> (try exact h.elim)
  rename_i r st'
  split at h <;> (try exact h.elim)
  rename_i q hf
  obtain ⟨⟨ci, oi, or⟩, ho, hci, h⟩ := h
  have hat := (hW.1 r _ (x_eO ho)).1
  replace hf : x_fm6 i = some q := hf
  unfold x_fm6 at hf
  split at hf
  · cases hf; cases hci; exact va_get (D := D) (ci := 6) (v := mE (x_rho ad) (.inr (or 0))) (C := RX6) (T := TX6) (N := 11) (own := RX6) (ref := RX6) hx hb hts in_X6 hown hK.1 (vx_P1 hat) 0 rfl rfl 0 (by decide) (hts _ wd_238) (fun _ h9 => h9) rfl hd (kk _ _ _ _ _ _ _ _ h hW hS hc hs)
  · cases hf; cases hci; exact va_get (D := D) (ci := 6) (v := mE (x_rho ad) (.inr (or 1))) (C := RX6) (T := TX6) (N := 11) (own := RX6) (ref := RX6) hx hb hts in_X6 hown hK.1 (vx_P1 hat) 0 rfl rfl 1 (by decide) (hts _ wd_239) (fun _ h9 => h9) rfl hd (kk _ _ _ _ _ _ _ _ h hW hS hc hs)
  · cases hf; cases hci; exact va_get (D := D) (ci := 6) (v := mE (x_rho ad) (.inr (or 2))) (C := RX6) (T := TX6) (N := 11) (own := RX6) (ref := RX6) hx hb hts in_X6 hown hK.1 (vx_P1 hat) 0 rfl rfl 2 (by decide) (hts _ wd_240) (fun _ h9 => h9) rfl hd (kk _ _ _ _ _ _ _ _ h hW hS hc hs)
  · cases hf; cases hci; exact va_get (D := D) (ci := 6) (v := mE (x_rho ad) (.inl (oi 3))) (C := RX6) (T := TX6) (N := 11) (own := RX6) (ref := RX6) hx hb hts in_X6 hown hK.1 (vx_P1 hat) 0 rfl rfl 3 (by decide) (hts _ wd_241) (fun _ h9 => h9) rfl hd (kk _ _ _ _ _ _ _ _ h hW hS hc hs)
  · cases hf; cases hci; exact va_get (D := D) (ci := 6) (v := mE (x_rho ad) (.inr (or 4))) (C := RX6) (T := TX6) (N := 11) (own := RX6) (ref := RX6) hx hb hts in_X6 hown hK.1 (vx_P1 hat) 0 rfl rfl 4 (by decide) (hts _ wd_242) (fun _ h9 => h9) rfl hd (kk _ _ _ _ _ _ _ _ h hW hS hc hs)
  · cases hf; cases hci; exact va_get (D := D) (ci := 6) (v := mE (x_rho ad) (.inr (or 5))) (C := RX6) (T := TX6) (N := 11) (own := RX6) (ref := RX6) hx hb hts in_X6 hown hK.1 (vx_P1 hat) 0 rfl rfl 5 (by decide) (hts _ wd_243) (fun _ h9 => h9) rfl hd (kk _ _ _ _ _ _ _ _ h hW hS hc hs)
  · cases hf; cases hci; exact va_get (D := D) (ci := 6) (v := mE (x_rho ad) (.inr (or 6))) (C := RX6) (T := TX6) (N := 11) (own := RX6) (ref := RX6) hx hb hts in_X6 hown hK.1 (vx_P1 hat) 0 rfl rfl 6 (by decide) (hts _ wd_244) (fun _ h9 => h9) rfl hd (kk _ _ _ _ _ _ _ _ h hW hS hc hs)
  · cases hf; cases hci; exact va_get (D := D) (ci := 6) (v := mE (x_rho ad) (.inr (or 7))) (C := RX6) (T := TX6) (N := 11) (own := RX6) (ref := RX6) hx hb hts in_X6 hown hK.1 (vx_P1 hat) 0 rfl rfl 7 (by decide) (hts _ wd_245) (fun _ h9 => h9) rfl hd (kk _ _ _ _ _ _ _ _ h hW hS hc hs)
  · cases hf; cases hci; exact va_get (D := D) (ci := 6) (v := mE (x_rho ad) (.inr (or 8))) (C := RX6) (T := TX6) (N := 11) (own := RX6) (ref := RX6) hx hb hts in_X6 hown hK.1 (vx_P1 hat) 0 rfl rfl 8 (by decide) (hts _ wd_246) (fun _ h9 => h9) rfl hd (kk _ _ _ _ _ _ _ _ h hW hS hc hs)
  · cases hf; cases hci; exact va_get (D := D) (ci := 6) (v := mE (x_rho ad) (.inr (or 9))) (C := RX6) (T := TX6) (N := 11) (own := RX6) (ref := RX6) hx hb hts in_X6 hown hK.1 (vx_P1 hat) 0 rfl rfl 9 (by decide) (hts _ wd_247) (fun _ h9 => h9) rfl hd (kk _ _ _ _ _ _ _ _ h hW hS hc hs)
  · cases hf; cases hci; exact va_get (D := D) (ci := 6) (v := mE (x_rho ad) (.inr (or 10))) (C := RX6) (T := TX6) (N := 11) (own := RX6) (ref := RX6) hx hb hts in_X6 hown hK.1 (vx_P1 hat) 0 rfl rfl 10 (by decide) (hts _ wd_248) (fun _ h9 => h9) rfl hd (kk _ _ _ _ _ _ _ _ h hW hS hc hs)
  · cases hf; cases hci; exact va_get (D := D) (ci := 5) (v := mE (x_rho ad) (.inr (or 0))) (C := RX5) (T := TX5) (N := 5) (own := RX6) (ref := RX5) hx hb hts in_X5 hown hK.1 (vx_P1 hat) 0 rfl rfl 0 (by decide) (hts _ wd_133) (fun _ h9 => h9) rfl hd (kk _ _ _ _ _ _ _ _ h hW hS hc hs)
  · cases hf; cases hci; exact va_get (D := D) (ci := 3) (v := mE (x_rho ad) (.inl (oi 1))) (C := RX3) (T := TX3) (N := 2) (own := RX6) (ref := RX3) hx hb hts in_X3 hown hK.1 (vx_P1 hat) 0 rfl rfl 1 (by decide) (hts _ wd_77) (fun _ h9 => h9) rfl hd (kk _ _ _ _ _ _ _ _ h hW hS hc hs)
  · cases hf; cases hci; exact va_get (D := D) (ci := 0) (v := mE (x_rho ad) (.inl (oi 1))) (C := RX0) (T := TX0) (N := 9) (own := RX6) (ref := RX0) hx hb hts in_X0 hown hK.1 (vx_P1 hat) 0 rfl rfl 1 (by decide) (hts _ wd_183) (fun _ h9 => h9) rfl hd (kk _ _ _ _ _ _ _ _ h hW hS hc hs)
  · cases hf; cases hci; exact va_get (D := D) (ci := 0) (v := mE (x_rho ad) (.inl (oi 0))) (C := RX0) (T := TX0) (N := 9) (own := RX6) (ref := RX0) hx hb hts in_X0 hown hK.1 (vx_P1 hat) 0 rfl rfl 0 (by decide) (hts _ wd_180) (fun _ h9 => h9) rfl hd (kk _ _ _ _ _ _ _ _ h hW hS hc hs)
  · cases hf; cases hci; exact va_get (D := D) (ci := 1) (v := mE (x_rho ad) (.inl (oi 1))) (C := RX1) (T := TX1) (N := 2) (own := RX6) (ref := RX1) hx hb hts in_X1 hown hK.1 (vx_P1 hat) 0 rfl rfl 1 (by decide) (hts _ wd_116) (fun _ h9 => h9) rfl hd (kk _ _ _ _ _ _ _ _ h hW hS hc hs)
  · cases hf; cases hci; exact va_get (D := D) (ci := 4) (v := mE (x_rho ad) (.inl (oi 1))) (C := RX4) (T := TX4) (N := 3) (own := RX6) (ref := RX4) hx hb hts in_X4 hown hK.1 (vx_P1 hat) 0 rfl rfl 1 (by decide) (hts _ wd_157) (fun _ h9 => h9) rfl hd (kk _ _ _ _ _ _ _ _ h hW hS hc hs)
  · cases hf; cases hci; exact va_get (D := D) (ci := 4) (v := mE (x_rho ad) (.inl (oi 2))) (C := RX4) (T := TX4) (N := 3) (own := RX6) (ref := RX4) hx hb hts in_X4 hown hK.1 (vx_P1 hat) 0 rfl rfl 2 (by decide) (hts _ wd_159) (fun _ h9 => h9) rfl hd (kk _ _ _ _ _ _ _ _ h hW hS hc hs)
  · cases hf; cases hci; exact va_get (D := D) (ci := 0) (v := mE (x_rho ad) (.inl (oi 6))) (C := RX0) (T := TX0) (N := 9) (own := RX6) (ref := RX0) hx hb hts in_X0 hown hK.1 (vx_P1 hat) 0 rfl rfl 6 (by decide) (hts _ wd_204) (fun _ h9 => h9) rfl hd (kk _ _ _ _ _ _ _ _ h hW hS hc hs)
  · cases hf; cases hci; exact va_get (D := D) (ci := 0) (v := mE (x_rho ad) (.inr (or 5))) (C := RX0) (T := TX0) (N := 9) (own := RX6) (ref := RX0) hx hb hts in_X0 hown hK.1 (vx_P1 hat) 0 rfl rfl 5 (by decide) (hts _ wd_200) (fun _ h9 => h9) rfl hd (kk _ _ _ _ _ _ _ _ h hW hS hc hs)
  · cases hf; cases hci; exact va_get (D := D) (ci := 2) (v := mE (x_rho ad) (.inl (oi 2))) (C := RX2) (T := TX2) (N := 4) (own := RX6) (ref := RX2) hx hb hts in_X2 hown hK.1 (vx_P1 hat) 0 rfl rfl 2 (by decide) (hts _ wd_94) (fun _ h9 => h9) rfl hd (kk _ _ _ _ _ _ _ _ h hW hS hc hs)
  · cases hf; cases hci; exact va_get (D := D) (ci := 2) (v := mE (x_rho ad) (.inl (oi 3))) (C := RX2) (T := TX2) (N := 4) (own := RX6) (ref := RX2) hx hb hts in_X2 hown hK.1 (vx_P1 hat) 0 rfl rfl 3 (by decide) (hts _ wd_96) (fun _ h9 => h9) rfl hd (kk _ _ _ _ _ _ _ _ h hW hS hc hs)
  · cases hf
set_option maxHeartbeats 8000000 in
set_option maxRecDepth 20000 in
theorem x_put_6 (F : CallFix p m c cc nL s0 args tb RX6) (hK : kk D cs (fun i => ad (22 + i)) A s0) {i len pc : Nat} {st : List mV} {s : xS} {a b : Nat} {k : List mV → xS → Nat → Nat → Prop} {ini : Bool} (hini : ini = true → meth.name = "<init>") (h : x_hk ini 6 (.putfield i) st s a b k) (hd : decode cc pc = .ok (.putfield i, 3)) {H : Heap} {locs : List Loc} {cells slots : Nat} {ls : Array Slot} (hW : x_W D cs ad A s H) (hS : va_S A s0.heap H locs) (hc : cells + a ≤ R.cells) (hs : slots + b ≤ R.slots)
    (kk : ∀ (st' : List mV) (s' : xS) (a' b' : Nat) (H' : Heap) (locs' : List Loc) (cells' slots' : Nat), k st' s' a' b' → x_W D cs ad A s' H' → va_S A s0.heap H' locs' → cells' + a' ≤ R.cells → slots' + b' ≤ R.slots → W p l e R s0 m args below meth c H' locs' cells' slots' Q (F0 m (pc + 3) ls (st'.map (mE (x_rho ad))))) :
    W p l e R s0 m args below meth c H locs cells slots Q (F0 m pc ls (st.map (mE (x_rho ad)))) := by
  obtain ⟨hx, hb, hml, hown, hts⟩ := F
  unfold x_hk at h
  dsimp only at h
  split at h <;> (try exact h.elim)
  rename_i v r st'
  split at h <;> (try exact h.elim)
  rename_i q hf
  obtain ⟨⟨ci, oi, or⟩, ho, hci, h⟩ := h
  have hat := (hW.1 r _ (x_eO ho)).1
  replace hf : x_fm6 i = some q := hf
  unfold x_fm6 at hf
  split at hf
  · cases hf; cases hci
    rcases v with x | x
    · exact h.elim
    · cases ini
      · exact h.elim
      · exact vx_put (D := D) (ci := 6) (v := mE (x_rho ad) (.inr x)) (ty := (.array (.object RX0))) (C := RX6) (T := TX6) (N := 11) (own := RX6) hx hb hts in_X6 tyX6 tyX6_ok nmX6 hown hK.1 hat rfl 0 (by decide) (hts _ wd_238) (Or.inr ⟨rfl, hini rfl, rfl⟩) rfl x_fitsA.1 x_fitsA.2 (Nat.le_of_ble_eq_true rfl) hd (fun H1 sl ha hz hq => kk _ _ _ _ _ _ _ _ h (x_putO (s0 := s0) (locs := locs) (sl := sl) (o' := (6, oi, va_up or 0 x)) hW hS ho ha hz hq).1 (x_putO (s0 := s0) (locs := locs) (sl := sl) (o' := (6, oi, va_up or 0 x)) hW hS ho ha hz hq).2 hc hs)
  · cases hf; cases hci
    rcases v with x | x
    · exact h.elim
    · cases ini
      · exact h.elim
      · exact vx_put (D := D) (ci := 6) (v := mE (x_rho ad) (.inr x)) (ty := (.array (.object RX0))) (C := RX6) (T := TX6) (N := 11) (own := RX6) hx hb hts in_X6 tyX6 tyX6_ok nmX6 hown hK.1 hat rfl 1 (by decide) (hts _ wd_239) (Or.inr ⟨rfl, hini rfl, rfl⟩) rfl x_fitsA.1 x_fitsA.2 (Nat.le_of_ble_eq_true rfl) hd (fun H1 sl ha hz hq => kk _ _ _ _ _ _ _ _ h (x_putO (s0 := s0) (locs := locs) (sl := sl) (o' := (6, oi, va_up or 1 x)) hW hS ho ha hz hq).1 (x_putO (s0 := s0) (locs := locs) (sl := sl) (o' := (6, oi, va_up or 1 x)) hW hS ho ha hz hq).2 hc hs)
  · cases hf; cases hci
    rcases v with x | x
    · exact h.elim
    · cases ini
      · exact h.elim
      · exact vx_put (D := D) (ci := 6) (v := mE (x_rho ad) (.inr x)) (ty := (.array (.object RX0))) (C := RX6) (T := TX6) (N := 11) (own := RX6) hx hb hts in_X6 tyX6 tyX6_ok nmX6 hown hK.1 hat rfl 2 (by decide) (hts _ wd_240) (Or.inr ⟨rfl, hini rfl, rfl⟩) rfl x_fitsA.1 x_fitsA.2 (Nat.le_of_ble_eq_true rfl) hd (fun H1 sl ha hz hq => kk _ _ _ _ _ _ _ _ h (x_putO (s0 := s0) (locs := locs) (sl := sl) (o' := (6, oi, va_up or 2 x)) hW hS ho ha hz hq).1 (x_putO (s0 := s0) (locs := locs) (sl := sl) (o' := (6, oi, va_up or 2 x)) hW hS ho ha hz hq).2 hc hs)
  · cases hf; cases hci
    rcases v with x | x
    · exact vx_put (D := D) (ci := 6) (v := .int x) (ty := .int) (C := RX6) (T := TX6) (N := 11) (own := RX6) hx hb hts in_X6 tyX6 tyX6_ok nmX6 hown hK.1 hat rfl 3 (by decide) (hts _ wd_241) (Or.inl rfl) rfl rfl rfl (Nat.le_of_ble_eq_true rfl) hd (fun H1 sl ha hz hq => kk _ _ _ _ _ _ _ _ h (x_putO (s0 := s0) (locs := locs) (sl := sl) (o' := (6, upd oi 3 x, or)) hW hS ho ha hz hq).1 (x_putO (s0 := s0) (locs := locs) (sl := sl) (o' := (6, upd oi 3 x, or)) hW hS ho ha hz hq).2 hc hs)
    · exact h.elim
  · cases hf; cases hci
    rcases v with x | x
    · exact h.elim
    · cases ini
      · exact h.elim
      · exact vx_put (D := D) (ci := 6) (v := mE (x_rho ad) (.inr x)) (ty := (.object RX3)) (C := RX6) (T := TX6) (N := 11) (own := RX6) hx hb hts in_X6 tyX6 tyX6_ok nmX6 hown hK.1 hat rfl 4 (by decide) (hts _ wd_242) (Or.inr ⟨rfl, hini rfl, rfl⟩) rfl x_fitsO.1 x_fitsO.2 (Nat.le_of_ble_eq_true rfl) hd (fun H1 sl ha hz hq => kk _ _ _ _ _ _ _ _ h (x_putO (s0 := s0) (locs := locs) (sl := sl) (o' := (6, oi, va_up or 4 x)) hW hS ho ha hz hq).1 (x_putO (s0 := s0) (locs := locs) (sl := sl) (o' := (6, oi, va_up or 4 x)) hW hS ho ha hz hq).2 hc hs)
  · cases hf; cases hci
    rcases v with x | x
    · exact h.elim
    · cases ini
      · exact h.elim
      · exact vx_put (D := D) (ci := 6) (v := mE (x_rho ad) (.inr x)) (ty := (.object RX2)) (C := RX6) (T := TX6) (N := 11) (own := RX6) hx hb hts in_X6 tyX6 tyX6_ok nmX6 hown hK.1 hat rfl 5 (by decide) (hts _ wd_243) (Or.inr ⟨rfl, hini rfl, rfl⟩) rfl x_fitsO.1 x_fitsO.2 (Nat.le_of_ble_eq_true rfl) hd (fun H1 sl ha hz hq => kk _ _ _ _ _ _ _ _ h (x_putO (s0 := s0) (locs := locs) (sl := sl) (o' := (6, oi, va_up or 5 x)) hW hS ho ha hz hq).1 (x_putO (s0 := s0) (locs := locs) (sl := sl) (o' := (6, oi, va_up or 5 x)) hW hS ho ha hz hq).2 hc hs)
  · cases hf; cases hci
    rcases v with x | x
    · exact h.elim
    · cases ini
      · exact h.elim
      · exact vx_put (D := D) (ci := 6) (v := mE (x_rho ad) (.inr x)) (ty := (.object RX1)) (C := RX6) (T := TX6) (N := 11) (own := RX6) hx hb hts in_X6 tyX6 tyX6_ok nmX6 hown hK.1 hat rfl 6 (by decide) (hts _ wd_244) (Or.inr ⟨rfl, hini rfl, rfl⟩) rfl x_fitsO.1 x_fitsO.2 (Nat.le_of_ble_eq_true rfl) hd (fun H1 sl ha hz hq => kk _ _ _ _ _ _ _ _ h (x_putO (s0 := s0) (locs := locs) (sl := sl) (o' := (6, oi, va_up or 6 x)) hW hS ho ha hz hq).1 (x_putO (s0 := s0) (locs := locs) (sl := sl) (o' := (6, oi, va_up or 6 x)) hW hS ho ha hz hq).2 hc hs)
  · cases hf; cases hci
    rcases v with x | x
    · exact h.elim
    · cases ini
      · exact h.elim
      · exact vx_put (D := D) (ci := 6) (v := mE (x_rho ad) (.inr x)) (ty := (.object RX5)) (C := RX6) (T := TX6) (N := 11) (own := RX6) hx hb hts in_X6 tyX6 tyX6_ok nmX6 hown hK.1 hat rfl 7 (by decide) (hts _ wd_245) (Or.inr ⟨rfl, hini rfl, rfl⟩) rfl x_fitsO.1 x_fitsO.2 (Nat.le_of_ble_eq_true rfl) hd (fun H1 sl ha hz hq => kk _ _ _ _ _ _ _ _ h (x_putO (s0 := s0) (locs := locs) (sl := sl) (o' := (6, oi, va_up or 7 x)) hW hS ho ha hz hq).1 (x_putO (s0 := s0) (locs := locs) (sl := sl) (o' := (6, oi, va_up or 7 x)) hW hS ho ha hz hq).2 hc hs)
  · cases hf; cases hci
    rcases v with x | x
    · exact h.elim
    · cases ini
      · exact h.elim
      · exact vx_put (D := D) (ci := 6) (v := mE (x_rho ad) (.inr x)) (ty := (.object RX4)) (C := RX6) (T := TX6) (N := 11) (own := RX6) hx hb hts in_X6 tyX6 tyX6_ok nmX6 hown hK.1 hat rfl 8 (by decide) (hts _ wd_246) (Or.inr ⟨rfl, hini rfl, rfl⟩) rfl x_fitsO.1 x_fitsO.2 (Nat.le_of_ble_eq_true rfl) hd (fun H1 sl ha hz hq => kk _ _ _ _ _ _ _ _ h (x_putO (s0 := s0) (locs := locs) (sl := sl) (o' := (6, oi, va_up or 8 x)) hW hS ho ha hz hq).1 (x_putO (s0 := s0) (locs := locs) (sl := sl) (o' := (6, oi, va_up or 8 x)) hW hS ho ha hz hq).2 hc hs)
  · cases hf; cases hci
    rcases v with x | x
    · exact h.elim
    · cases ini
      · exact h.elim
      · exact vx_put (D := D) (ci := 6) (v := mE (x_rho ad) (.inr x)) (ty := (.object RX3)) (C := RX6) (T := TX6) (N := 11) (own := RX6) hx hb hts in_X6 tyX6 tyX6_ok nmX6 hown hK.1 hat rfl 9 (by decide) (hts _ wd_247) (Or.inr ⟨rfl, hini rfl, rfl⟩) rfl x_fitsO.1 x_fitsO.2 (Nat.le_of_ble_eq_true rfl) hd (fun H1 sl ha hz hq => kk _ _ _ _ _ _ _ _ h (x_putO (s0 := s0) (locs := locs) (sl := sl) (o' := (6, oi, va_up or 9 x)) hW hS ho ha hz hq).1 (x_putO (s0 := s0) (locs := locs) (sl := sl) (o' := (6, oi, va_up or 9 x)) hW hS ho ha hz hq).2 hc hs)
  · cases hf; cases hci
    rcases v with x | x
    · exact h.elim
    · cases ini
      · exact h.elim
      · exact vx_put (D := D) (ci := 6) (v := mE (x_rho ad) (.inr x)) (ty := (.object RX3)) (C := RX6) (T := TX6) (N := 11) (own := RX6) hx hb hts in_X6 tyX6 tyX6_ok nmX6 hown hK.1 hat rfl 10 (by decide) (hts _ wd_248) (Or.inr ⟨rfl, hini rfl, rfl⟩) rfl x_fitsO.1 x_fitsO.2 (Nat.le_of_ble_eq_true rfl) hd (fun H1 sl ha hz hq => kk _ _ _ _ _ _ _ _ h (x_putO (s0 := s0) (locs := locs) (sl := sl) (o' := (6, oi, va_up or 10 x)) hW hS ho ha hz hq).1 (x_putO (s0 := s0) (locs := locs) (sl := sl) (o' := (6, oi, va_up or 10 x)) hW hS ho ha hz hq).2 hc hs)
  · cases hf; cases hci
    rcases v with x | x
    · exact h.elim
    · cases ini
      · exact h.elim
      · exact h.elim
  · cases hf; cases hci
    rcases v with x | x
    · exact vx_put (D := D) (ci := 3) (v := .int x) (ty := .int) (C := RX3) (T := TX3) (N := 2) (own := RX6) hx hb hts in_X3 tyX3 tyX3_ok nmX3 hown hK.1 hat rfl 1 (by decide) (hts _ wd_77) (Or.inl rfl) rfl rfl rfl (Nat.le_of_ble_eq_true rfl) hd (fun H1 sl ha hz hq => kk _ _ _ _ _ _ _ _ h (x_putO (s0 := s0) (locs := locs) (sl := sl) (o' := (3, upd oi 1 x, or)) hW hS ho ha hz hq).1 (x_putO (s0 := s0) (locs := locs) (sl := sl) (o' := (3, upd oi 1 x, or)) hW hS ho ha hz hq).2 hc hs)
    · exact h.elim
  · cases hf; cases hci
    rcases v with x | x
    · exact vx_put (D := D) (ci := 0) (v := .int x) (ty := .int) (C := RX0) (T := TX0) (N := 9) (own := RX6) hx hb hts in_X0 tyX0 tyX0_ok nmX0 hown hK.1 hat rfl 1 (by decide) (hts _ wd_183) (Or.inl rfl) rfl rfl rfl (Nat.le_of_ble_eq_true rfl) hd (fun H1 sl ha hz hq => kk _ _ _ _ _ _ _ _ h (x_putO (s0 := s0) (locs := locs) (sl := sl) (o' := (0, upd oi 1 x, or)) hW hS ho ha hz hq).1 (x_putO (s0 := s0) (locs := locs) (sl := sl) (o' := (0, upd oi 1 x, or)) hW hS ho ha hz hq).2 hc hs)
    · exact h.elim
  · cases hf; cases hci
    rcases v with x | x
    · exact vx_put (D := D) (ci := 0) (v := .int x) (ty := .int) (C := RX0) (T := TX0) (N := 9) (own := RX6) hx hb hts in_X0 tyX0 tyX0_ok nmX0 hown hK.1 hat rfl 0 (by decide) (hts _ wd_180) (Or.inl rfl) rfl rfl rfl (Nat.le_of_ble_eq_true rfl) hd (fun H1 sl ha hz hq => kk _ _ _ _ _ _ _ _ h (x_putO (s0 := s0) (locs := locs) (sl := sl) (o' := (0, upd oi 0 x, or)) hW hS ho ha hz hq).1 (x_putO (s0 := s0) (locs := locs) (sl := sl) (o' := (0, upd oi 0 x, or)) hW hS ho ha hz hq).2 hc hs)
    · exact h.elim
  · cases hf; cases hci
    rcases v with x | x
    · exact vx_put (D := D) (ci := 1) (v := .int x) (ty := .int) (C := RX1) (T := TX1) (N := 2) (own := RX6) hx hb hts in_X1 tyX1 tyX1_ok nmX1 hown hK.1 hat rfl 1 (by decide) (hts _ wd_116) (Or.inl rfl) rfl rfl rfl (Nat.le_of_ble_eq_true rfl) hd (fun H1 sl ha hz hq => kk _ _ _ _ _ _ _ _ h (x_putO (s0 := s0) (locs := locs) (sl := sl) (o' := (1, upd oi 1 x, or)) hW hS ho ha hz hq).1 (x_putO (s0 := s0) (locs := locs) (sl := sl) (o' := (1, upd oi 1 x, or)) hW hS ho ha hz hq).2 hc hs)
    · exact h.elim
  · cases hf; cases hci
    rcases v with x | x
    · exact vx_put (D := D) (ci := 4) (v := .int x) (ty := .int) (C := RX4) (T := TX4) (N := 3) (own := RX6) hx hb hts in_X4 tyX4 tyX4_ok nmX4 hown hK.1 hat rfl 1 (by decide) (hts _ wd_157) (Or.inl rfl) rfl rfl rfl (Nat.le_of_ble_eq_true rfl) hd (fun H1 sl ha hz hq => kk _ _ _ _ _ _ _ _ h (x_putO (s0 := s0) (locs := locs) (sl := sl) (o' := (4, upd oi 1 x, or)) hW hS ho ha hz hq).1 (x_putO (s0 := s0) (locs := locs) (sl := sl) (o' := (4, upd oi 1 x, or)) hW hS ho ha hz hq).2 hc hs)
    · exact h.elim
  · cases hf; cases hci
    rcases v with x | x
    · exact vx_put (D := D) (ci := 4) (v := .int x) (ty := .int) (C := RX4) (T := TX4) (N := 3) (own := RX6) hx hb hts in_X4 tyX4 tyX4_ok nmX4 hown hK.1 hat rfl 2 (by decide) (hts _ wd_159) (Or.inl rfl) rfl rfl rfl (Nat.le_of_ble_eq_true rfl) hd (fun H1 sl ha hz hq => kk _ _ _ _ _ _ _ _ h (x_putO (s0 := s0) (locs := locs) (sl := sl) (o' := (4, upd oi 2 x, or)) hW hS ho ha hz hq).1 (x_putO (s0 := s0) (locs := locs) (sl := sl) (o' := (4, upd oi 2 x, or)) hW hS ho ha hz hq).2 hc hs)
    · exact h.elim
  · cases hf; cases hci
    rcases v with x | x
    · exact vx_put (D := D) (ci := 0) (v := .int x) (ty := .int) (C := RX0) (T := TX0) (N := 9) (own := RX6) hx hb hts in_X0 tyX0 tyX0_ok nmX0 hown hK.1 hat rfl 6 (by decide) (hts _ wd_204) (Or.inl rfl) rfl rfl rfl (Nat.le_of_ble_eq_true rfl) hd (fun H1 sl ha hz hq => kk _ _ _ _ _ _ _ _ h (x_putO (s0 := s0) (locs := locs) (sl := sl) (o' := (0, upd oi 6 x, or)) hW hS ho ha hz hq).1 (x_putO (s0 := s0) (locs := locs) (sl := sl) (o' := (0, upd oi 6 x, or)) hW hS ho ha hz hq).2 hc hs)
    · exact h.elim
  · cases hf; cases hci
    rcases v with x | x
    · exact h.elim
    · exact vx_put (D := D) (ci := 0) (v := mE (x_rho ad) (.inr x)) (ty := (.object RX0)) (C := RX0) (T := TX0) (N := 9) (own := RX6) hx hb hts in_X0 tyX0 tyX0_ok nmX0 hown hK.1 hat rfl 5 (by decide) (hts _ wd_200) (Or.inl rfl) rfl x_fitsO.1 x_fitsO.2 (Nat.le_of_ble_eq_true rfl) hd (fun H1 sl ha hz hq => kk _ _ _ _ _ _ _ _ h (x_putO (s0 := s0) (locs := locs) (sl := sl) (o' := (0, oi, va_up or 5 x)) hW hS ho ha hz hq).1 (x_putO (s0 := s0) (locs := locs) (sl := sl) (o' := (0, oi, va_up or 5 x)) hW hS ho ha hz hq).2 hc hs)
  · cases hf; cases hci
    rcases v with x | x
    · exact vx_put (D := D) (ci := 2) (v := .int x) (ty := .int) (C := RX2) (T := TX2) (N := 4) (own := RX6) hx hb hts in_X2 tyX2 tyX2_ok nmX2 hown hK.1 hat rfl 2 (by decide) (hts _ wd_94) (Or.inl rfl) rfl rfl rfl (Nat.le_of_ble_eq_true rfl) hd (fun H1 sl ha hz hq => kk _ _ _ _ _ _ _ _ h (x_putO (s0 := s0) (locs := locs) (sl := sl) (o' := (2, upd oi 2 x, or)) hW hS ho ha hz hq).1 (x_putO (s0 := s0) (locs := locs) (sl := sl) (o' := (2, upd oi 2 x, or)) hW hS ho ha hz hq).2 hc hs)
    · exact h.elim
  · cases hf; cases hci
    rcases v with x | x
    · exact vx_put (D := D) (ci := 2) (v := .int x) (ty := .int) (C := RX2) (T := TX2) (N := 4) (own := RX6) hx hb hts in_X2 tyX2 tyX2_ok nmX2 hown hK.1 hat rfl 3 (by decide) (hts _ wd_96) (Or.inl rfl) rfl rfl rfl (Nat.le_of_ble_eq_true rfl) hd (fun H1 sl ha hz hq => kk _ _ _ _ _ _ _ _ h (x_putO (s0 := s0) (locs := locs) (sl := sl) (o' := (2, upd oi 3 x, or)) hW hS ho ha hz hq).1 (x_putO (s0 := s0) (locs := locs) (sl := sl) (o' := (2, upd oi 3 x, or)) hW hS ho ha hz hq).2 hc hs)
    · exact h.elim
  · cases hf
end XS
end
section
section VY
variable {p : Program} {l : Launch} {e : Env} {R : Room} {s : State} {m : MethodId} {args : Array Value} {below : List Frame} {meth : Method} {c : Code} {H : Heap} {locs : List Loc} {cells slots : Nat} {Q : State → Prop}
variable {cc : ByteArray} {pc : Nat} {ls : Array Slot} {rest : List Value} {D : va_G} {cl : List vw_C} {a : Nat} {tys : List (ClassId × FieldType)}
theorem vx_new (hexec : p.tables.exec = Jvm.exec) (hb : c.code = cc) {own C : String} {T : u_T} {N ci index : Nat} {Ts : List Cond} (hts : ∀ w ∈ Ts, w.before args s = true) (hin : ∀ w ∈ u_ws C T N, w ∈ Ts) (ty : Nat → FieldType) (hty : ∀ k, k < N → parseFieldDescriptor (T k).2.2.1 = some (ty k)) (hown : s.vm.findClass own = some m.cls) (hcl : (Cond.classLink own index C).before args s = true) (hinst : (Cond.instantiable C N).before args s = true) (hini : (Cond.initialized C).before args s = true)
    (hK : va_K D cl tys s) (hc : cl[ci]? = some (C, T, N)) {fs : List Value} (hfs : ∀ j, j < N → defaultValue (ty j) = vp_V fs j) (hcells : cells + 1 ≤ R.cells) (hslots : slots + N ≤ R.slots) (hdg : decode cc pc = .ok (.new index, 3))
    (kk : ∀ (H1 : Heap), va_at D cl (H.size, .inr (ci, fs)) H1 → H1.size = H.size + 1 → (∀ q, q < H.size → H1[q]? = H[q]?) → W p l e R s m args below meth c H1 locs (cells + 1) (slots + N) Q (F0 m (pc + 3) ls (.ref H.size :: rest))) : W p l e R s m args below meth c H locs cells slots Q (F0 m pc ls rest) := by
  have hKn := hK.1 ci _ hc
  refine W.newcK hexec hb hown hcl hinst hini rfl hdg hcells hslots hKn.2.1 rfl fun H1 kC hkC e1 z1 o1 => ?_
  exact kk H1 ⟨_, hc, (u_born ty hts hin hKn hkC e1 hty).to hfs⟩ z1 o1
theorem vx_newi (hexec : p.tables.exec = Jvm.exec) (hb : c.code = cc) (harr : (Cond.arrayClass .int).before args s = true) (hK : va_K D cl tys s) (t0 : Nat) {cA : ClassId} (ht : tys[t0]? = some (cA, .int)) {n : Int32} (hn : ¬ n < 0) (hbytes : n.toNatClampNeg ≤ 100000) (hcells : cells + 1 ≤ R.cells) (hslots : slots + n.toNatClampNeg ≤ R.slots) (hdg : decode cc pc = .ok (.newarray .int, 2))
    (kk : ∀ (H1 : Heap), va_at D cl (H.size, .inl (cA, n.toNatClampNeg, .inl (fun _ => 0))) H1 → H1.size = H.size + 1 → (∀ q, q < H.size → H1[q]? = H[q]?) → W p l e R s m args below meth c H1 locs (cells + 1) (slots + n.toNatClampNeg) Q (F0 m (pc + 2) ls (.ref H.size :: rest))) : W p l e R s m args below meth c H locs cells slots Q (F0 m pc ls (.int n :: rest)) := by
  refine va_newaK (atype := .int) hexec hb harr rfl hdg rfl hn rfl (by show n.toNatClampNeg * 4 ≤ 536870912; omega) hcells hslots rfl fun H1 cA' e1 z1 o1 hAr hNm => ?_
  have h2 : s.vm.findClass ("[" ++ (FieldType.int).toString) = some cA := (hK.2 t0 _ ht).2
  have h3 : cA' = cA := Option.some.inj (hNm.symm.trans h2)
  subst h3
  exact kk H1 e1 z1 o1
theorem vx_newq (hexec : p.tables.exec = Jvm.exec) (hb : c.code = cc) {own C : String} {index : Nat} (hown : s.vm.findClass own = some m.cls) (hclink : (Cond.classLink own index C).before args s = true) (hover : va_AO C s) (hK : va_K D cl tys s) (t0 : Nat) {cA : ClassId} (ht : tys[t0]? = some (cA, .object C)) {n : Int32} (hn : ¬ n < 0) (hbytes : n.toNatClampNeg ≤ 100000) (hcells : cells + 1 ≤ R.cells) (hslots : slots + n.toNatClampNeg ≤ R.slots) (hdg : decode cc pc = .ok (.anewarray index, 3))
    (kk : ∀ (H1 : Heap), va_at D cl (H.size, .inl (cA, n.toNatClampNeg, .inr (.inr (.inr (.inr (fun _ => none)))))) H1 → H1.size = H.size + 1 → (∀ q, q < H.size → H1[q]? = H[q]?) → W p l e R s m args below meth c H1 locs (cells + 1) (slots + n.toNatClampNeg) Q (F0 m (pc + 3) ls (.ref H.size :: rest))) : W p l e R s m args below meth c H locs cells slots Q (F0 m pc ls (.int n :: rest)) := by
  refine W.anew hexec hb hown hclink (va_AO.use hover) rfl hdg rfl hn (by omega) hcells hslots fun cA' kA comp f1 f2 f3 f4 => ?_
  obtain ⟨kA2, comp2, -, -, -, h2⟩ := (hK.2 t0 _ ht).2
  have h3 : cA' = cA := Option.some.inj (f1.symm.trans h2)
  subst h3
  refine kk _ ?_ (by rw [Array.size_push]) (fun q hq => by rw [Array.getElem?_push, if_neg (Nat.ne_of_lt hq)])
  show _ = some (vp_cell _ _)
  rw [vp_cell_q, Array.getElem?_push_size, ← arrV_new]
  rfl
end VY
section XT
variable {p : Program} {l : Launch} {e : Env} {R : Room} {s0 : State} {m : MethodId} {args : Array Value} {below : List Frame} {meth : Method} {c : Code} {cc : ByteArray} {nL : Nat} {D : va_G} {cs ad : Nat → Nat} {A : Nat → Prop} {Q : State → Prop}
theorem x_grow {H H1 : Heap} {locs : List Loc} (hS : va_S A s0.heap H locs) (hz : H1.size = H.size + 1) (hq : ∀ q, q < H.size → H1[q]? = H[q]?) : va_S A s0.heap H1 locs := ⟨Nat.le_trans hS.1 (by omega), fun x h1 h2 => (hq x (Nat.lt_of_lt_of_le h1 hS.1)).trans (hS.2.1 x h1 h2), hS.2.2⟩
theorem x_setG {σ : xS} {H H1 : Heap} {locs : List Loc} {r sl : Nat} {t t' : Nat × (Nat → Int32)} (hW : x_W D cs ad A σ H) (hS : va_S A s0.heap H locs) (ht : σ.2.1 r = some t) (h22 : r ≠ 22) (h23 : r ≠ 23) (hat : va_at D classes (x_rho ad r, .inl (cs 0, t'.1, .inl t'.2)) H1) (hz : H1.size = H.size) (hq : ∀ q, q ≠ x_rho ad r → H1[q]? = H[q]?) : x_W D cs ad A (σ.1, va_up σ.2.1 r (some t'), σ.2.2) H1 ∧ va_S A s0.heap H1 (locs ++ [⟨x_rho ad r, sl⟩]) := by
  have he := x_eG (cs := cs) (ad := ad) hW.2.2 ht
  have hA : A (x_rho ad r) := by
    rcases (hW.1 r _ he).2 with h | ⟨-, h | h⟩
    · exact h
    · exact absurd h h22
    · exact absurd h h23
  have hX := x_X_G (t' := t') hW.2.2 ht
  have he' : x_e cs ad (σ.1, va_up σ.2.1 r (some t'), σ.2.2) r = some (.inl (cs 0, t'.1, .inl t'.2)) := x_eG hX (show va_up σ.2.1 r (some t') r = some t' from va_up_self _ _ _)
  exact ⟨x_W_upd hW he he' (fun j hj => x_eq_G hj) (fun j hj => rfl) hX hat hq hA, hS.put hz hq hA⟩
theorem x_setR {σ : xS} {H H1 : Heap} {locs : List Loc} {r sl : Nat} {t t' : Nat × (Nat → Option Nat)} (hW : x_W D cs ad A σ H) (hS : va_S A s0.heap H locs) (ht : σ.2.2 r = some t) (h22 : r ≠ 22) (h23 : r ≠ 23) (hat : va_at D classes (x_rho ad r, .inl (cs 2, t'.1, .inr (.inr (.inr (.inr (fun j => (t'.2 j).map (x_rho ad))))))) H1) (hz : H1.size = H.size) (hq : ∀ q, q ≠ x_rho ad r → H1[q]? = H[q]?) : x_W D cs ad A (σ.1, σ.2.1, va_up σ.2.2 r (some t')) H1 ∧ va_S A s0.heap H1 (locs ++ [⟨x_rho ad r, sl⟩]) := by
  have he := x_eR (cs := cs) (ad := ad) hW.2.2 ht
  have hA : A (x_rho ad r) := by
    rcases (hW.1 r _ he).2 with h | ⟨-, h | h⟩
    · exact h
    · exact absurd h h22
    · exact absurd h h23
  have hX := x_X_R (t' := t') hW.2.2 ht
  have he' : x_e cs ad (σ.1, σ.2.1, va_up σ.2.2 r (some t')) r = some (.inl (cs 2, t'.1, .inr (.inr (.inr (.inr (fun j => (t'.2 j).map (x_rho ad))))))) := x_eR hX (show va_up σ.2.2 r (some t') r = some t' from va_up_self _ _ _)
  exact ⟨x_W_upd hW he he' (fun j hj => x_eq_R hj) (fun j hj => rfl) hX hat hq hA, hS.put hz hq hA⟩
theorem x_upR (ad : Nat → Nat) (f : Nat → Option Nat) (i : Nat) (v : Option Nat) : va_up (fun j => (f j).map (x_rho ad)) i (v.map (x_rho ad)) = fun j => (va_up f i v j).map (x_rho ad) := by
  funext j
  by_cases hj : j = i
  · subst hj; rw [va_up_self, va_up_self]
  · rw [va_up_ne _ _ hj, va_up_ne _ _ hj]

set_option maxHeartbeats 8000000 in
set_option maxRecDepth 20000 in
theorem x_HS_0 {ini : Bool} (hini : ini = true → meth.name = "<init>") (F : CallFix p m c cc nL s0 args tb RX0) (hK : kk D cs (fun i => ad (22 + i)) A s0) (hA : ∀ q : Nat, s0.heap.size ≤ q → A q) : mm_HS p l e R s0 m args below meth c cc (x_W D cs ad A) (x_rho ad) A (x_hk ini 0) Q := by
  intro ins len pc st s a b k h hd hn H locs cells slots ls hW hS hc hs kk
  have hAn : A H.size := hA _ hS.1
  by_cases h1 : ∃ i, ins = .getfield i
  · obtain ⟨i, rfl⟩ := h1
    obtain rfl : len = 3 := by simpa [mm_okl] using hn
    exact x_get_0 (len := 3) F hK h hd hW hS hc hs kk
  by_cases h2 : ∃ i, ins = .putfield i
  · obtain ⟨i, rfl⟩ := h2
    obtain rfl : len = 3 := by simpa [mm_okl] using hn
    exact x_put_0 (len := 3) F hK hini h hd hW hS hc hs kk
  obtain ⟨hx, hb, hml, hown, hts⟩ := F
  unfold x_hk at h
  split at h
  all_goals (try exact h.elim)
  · exact absurd ⟨_, rfl⟩ h1
  · exact absurd ⟨_, rfl⟩ h2
  -- iaload
  · obtain rfl : len = 1 := by simpa [mm_okl] using hn
    split at h <;> (try exact h.elim)
    obtain ⟨t, ht, hi, h⟩ := h
    exact va_iald hx hb hK.1 (vx_P1 (hW.1 _ _ (x_eG hW.2.2 ht)).1) 0 0 rfl rfl hi hd (kk _ _ _ _ _ _ _ _ h hW hS hc hs)
  -- iastore
  · obtain rfl : len = 1 := by simpa [mm_okl] using hn
    split at h <;> (try exact h.elim)
    rename_i v i r st'
    obtain ⟨t, ht, g1, g2, hi, h⟩ := h
    exact vx_iast hx hb hK.1 0 (hW.1 _ _ (x_eG hW.2.2 ht)).1 rfl hi hd (fun H1 sl ha hz hq => kk _ _ _ _ _ _ _ _ h (x_setG (s0 := s0) (locs := locs) (sl := sl) (t' := (t.1, upd t.2 i.toNatClampNeg v)) hW hS ht g1 g2 ha hz hq).1 (x_setG (s0 := s0) (locs := locs) (sl := sl) (t' := (t.1, upd t.2 i.toNatClampNeg v)) hW hS ht g1 g2 ha hz hq).2 hc hs)
  -- aaload
  · obtain rfl : len = 1 := by simpa [mm_okl] using hn
    split at h <;> (try exact h.elim)
    rename_i i r st'
    obtain ⟨t, ht, hi, h⟩ := h
    refine va_aldq hx hb hK.1 (vx_P1 (hW.1 _ _ (x_eR hW.2.2 ht)).1) 0 2 rfl rfl hi hd ?_
    rw [← mE_rf]
    exact kk _ _ _ _ _ _ _ _ h hW hS hc hs
  -- aastore
  · obtain rfl : len = 1 := by simpa [mm_okl] using hn
    split at h <;> (try exact h.elim)
    rename_i v i r st'
    obtain ⟨t, ht, g1, g2, hi, g3, h⟩ := h
    have hat := (hW.1 _ _ (x_eR hW.2.2 ht)).1
    rcases v with _ | v
    · refine vx_astqN (C := RX0) hx hb hK.1 2 hat rfl hi hd (fun H1 sl ha hz hq => ?_)
      have ha' := ha
      rw [show (none : Option Nat) = (none : Option Nat).map (x_rho ad) from rfl, x_upR] at ha'
      exact kk _ _ _ _ _ _ _ _ h (x_setR (s0 := s0) (locs := locs) (sl := sl) (t' := (t.1, va_up t.2 i.toNatClampNeg none)) hW hS ht g1 g2 ha' hz hq).1 (x_setR (s0 := s0) (locs := locs) (sl := sl) (t' := (t.1, va_up t.2 i.toNatClampNeg none)) hW hS ht g1 g2 ha' hz hq).2 hc hs
    · obtain ⟨⟨ci, oi, or⟩, ho, hci⟩ := g3 v rfl
      cases hci
      refine vx_astq (r := (RX0, TX0, 9)) hx hb hK.1 2 0 hat rfl (hW.1 _ _ (x_eO ho)).1 rfl hi hd (fun H1 sl ha hz hq => ?_)
      have ha' := ha
      rw [show some (x_rho ad v) = (some v).map (x_rho ad) from rfl, x_upR] at ha'
      exact kk _ _ _ _ _ _ _ _ h (x_setR (s0 := s0) (locs := locs) (sl := sl) (t' := (t.1, va_up t.2 i.toNatClampNeg (some v))) hW hS ht g1 g2 ha' hz hq).1 (x_setR (s0 := s0) (locs := locs) (sl := sl) (t' := (t.1, va_up t.2 i.toNatClampNeg (some v))) hW hS ht g1 g2 ha' hz hq).2 hc hs
  -- arraylength
  · obtain rfl : len = 1 := by simpa [mm_okl] using hn
    split at h <;> (try exact h.elim)
    rename_i r st'
    obtain ⟨n, hl, h⟩ := h
    unfold x_len at hl
    split at hl
    · rename_i t ht
      cases hl
      exact va_alen hx hb hK.1 (vx_P1 (hW.1 _ _ (x_eG hW.2.2 ht)).1) 0 0 rfl rfl rfl hd (kk _ _ _ _ _ _ _ _ h hW hS hc hs)
    · obtain ⟨t, ht, hl⟩ := Option.map_eq_some_iff.mp hl
      cases hl
      exact va_alen hx hb hK.1 (vx_P1 (hW.1 _ _ (x_eR hW.2.2 ht)).1) 0 2 rfl rfl rfl hd (kk _ _ _ _ _ _ _ _ h hW hS hc hs)
  -- new
  · rename_i i
    obtain rfl : len = 3 := by simpa [mm_okl] using hn
    split at h <;> (try exact h.elim)
    rename_i ci hci
    obtain ⟨ga, gb, h⟩ := h
    have hfr := x_none (x_fresh hW)
    have h' := h (H.size + 24) (by omega) hfr.1 hfr.2.1 hfr.2.2
    replace hci : x_cl0 i = some ci := hci
    unfold x_cl0 at hci
    split at hci
    · cases hci
      refine vx_new (ci := 0) (fs := [.int 0, .int 0, .null, .null, .null, .null, .int 0, .int 0, .int 0]) (C := RX0) (T := TX0) (N := 9) (own := RX0) hx hb hts in_X0 tyX0 tyX0_ok hown (hts _ wd_170) (hts _ wd_171) (hts _ wd_55) hK.1 rfl (fun j hj => by rcases (show j = 0 ∨ j = 1 ∨ j = 2 ∨ j = 3 ∨ j = 4 ∨ j = 5 ∨ j = 6 ∨ j = 7 ∨ j = 8 by omega) with rfl | rfl | rfl | rfl | rfl | rfl | rfl | rfl | rfl <;> rfl) (by omega) (by have hb : x_nf 0 = 9 := rfl; omega) hd (fun H1 ha hz hq => ?_)
      have hX := x_X_nO (o' := (0, fun _ => 0, fun _ => none)) hW.2.2 hfr.2.1 hfr.2.2
      have he : x_e cs ad (va_up s.1 (H.size + 24) (some (0, fun _ => 0, fun _ => none)), s.2) (H.size + 24) = some (.inr (0, x_fs ad (0, fun _ => 0, fun _ => none))) := x_eO (o := (0, fun _ => 0, fun _ => none)) (va_up_self _ _ _)
      have hw := x_W_new hW he (fun j hj => x_eq_O hj) (fun j hj => va_up_ne _ _ hj) hX ha hq hAn
      have hk := kk _ _ _ _ H1 locs (cells + 1) (slots + 9) h' hw (x_grow hS hz hq) (by omega) (by have hb : x_nf 0 = 9 := rfl; omega)
      rw [List.map_cons, show mE (x_rho ad) (.inr (some (H.size + 24))) = .ref H.size from by rw [mE, x_rho_new]] at hk
      exact hk
    · cases hci
  -- newarray
  · obtain rfl : len = 2 := by simpa [mm_okl] using hn
    split at h <;> (try exact h.elim)
    rename_i n st'
    obtain ⟨gn, ga, gb, gl, h⟩ := h
    have hfr := x_none (x_fresh hW)
    have h' := h (H.size + 24) (by omega) hfr.1 hfr.2.1 hfr.2.2
    refine vx_newi hx hb (hts _ wd_83) hK.1 0 rfl gn gl (by omega) (by omega) hd (fun H1 ha hz hq => ?_)
    have hX := x_X_nG (t' := (n.toNatClampNeg, fun _ => 0)) hW.2.2 hfr.1 hfr.2.2
    have he : x_e cs ad (s.1, va_up s.2.1 (H.size + 24) (some (n.toNatClampNeg, fun _ => 0)), s.2.2) (H.size + 24) = some (.inl (cs 0, n.toNatClampNeg, .inl (fun _ => 0))) := x_eG (t := (n.toNatClampNeg, fun _ => 0)) hX (va_up_self _ _ _)
    have hw := x_W_new hW he (fun j hj => x_eq_G hj) (fun j hj => rfl) hX ha hq hAn
    have hk := kk _ _ _ _ H1 locs (cells + 1) (slots + n.toNatClampNeg) h' hw (x_grow hS hz hq) (by omega) (by omega)
    rw [List.map_cons, show mE (x_rho ad) (.inr (some (H.size + 24))) = .ref H.size from by rw [mE, x_rho_new]] at hk
    exact hk
  -- anewarray
  · rename_i i
    split at h <;> (try exact h.elim)
    rename_i n st'
    split at h <;> (try exact h.elim)
    rename_i hci
    obtain ⟨gn, ga, gb, gl, h⟩ := h
    have hfr := x_none (x_fresh hW)
    have h' := h (H.size + 24) (by omega) hfr.1 hfr.2.1 hfr.2.2
    obtain rfl : len = 3 := by simpa [mm_okl] using hn
    have hlk : (Cond.classLink RX0 i RX0).before args s0 = true := by
      replace hci : x_cl0 i = some 0 := hci
      unfold x_cl0 at hci
      split at hci
      · exact hts _ wd_170
      · cases hci
    refine vx_newq hx hb hown hlk hK.2.2.1 hK.1 2 rfl gn gl (by omega) (by omega) hd (fun H1 ha hz hq => ?_)
    have hX := x_X_nR (t' := (n.toNatClampNeg, fun _ => none)) hW.2.2 hfr.1 hfr.2.1
    have he : x_e cs ad (s.1, s.2.1, va_up s.2.2 (H.size + 24) (some (n.toNatClampNeg, fun _ => none))) (H.size + 24) = some (.inl (cs 2, n.toNatClampNeg, .inr (.inr (.inr (.inr (fun j => ((fun _ => none : Nat → Option Nat) j).map (x_rho ad))))))) := x_eR (t := (n.toNatClampNeg, fun _ => none)) hX (va_up_self _ _ _)
    have hw := x_W_new hW he (fun j hj => x_eq_R hj) (fun j hj => rfl) hX ha hq hAn
    have hk := kk _ _ _ _ H1 locs (cells + 1) (slots + n.toNatClampNeg) h' hw (x_grow hS hz hq) (by omega) (by omega)
    rw [List.map_cons, show mE (x_rho ad) (.inr (some (H.size + 24))) = .ref H.size from by rw [mE, x_rho_new]] at hk
    exact hk
set_option maxHeartbeats 8000000 in
set_option maxRecDepth 20000 in
theorem x_HS_1 {ini : Bool} (hini : ini = true → meth.name = "<init>") (F : CallFix p m c cc nL s0 args tb RX1) (hK : kk D cs (fun i => ad (22 + i)) A s0) (hA : ∀ q : Nat, s0.heap.size ≤ q → A q) : mm_HS p l e R s0 m args below meth c cc (x_W D cs ad A) (x_rho ad) A (x_hk ini 1) Q := by
  intro ins len pc st s a b k h hd hn H locs cells slots ls hW hS hc hs kk
  have hAn : A H.size := hA _ hS.1
  by_cases h1 : ∃ i, ins = .getfield i
  · obtain ⟨i, rfl⟩ := h1
    obtain rfl : len = 3 := by simpa [mm_okl] using hn
    exact x_get_1 (len := 3) F hK h hd hW hS hc hs kk
  by_cases h2 : ∃ i, ins = .putfield i
  · obtain ⟨i, rfl⟩ := h2
    obtain rfl : len = 3 := by simpa [mm_okl] using hn
    exact x_put_1 (len := 3) F hK hini h hd hW hS hc hs kk
  obtain ⟨hx, hb, hml, hown, hts⟩ := F
  unfold x_hk at h
  split at h
  all_goals (try exact h.elim)
  · exact absurd ⟨_, rfl⟩ h1
  · exact absurd ⟨_, rfl⟩ h2
  -- iaload
  · obtain rfl : len = 1 := by simpa [mm_okl] using hn
    split at h <;> (try exact h.elim)
    obtain ⟨t, ht, hi, h⟩ := h
    exact va_iald hx hb hK.1 (vx_P1 (hW.1 _ _ (x_eG hW.2.2 ht)).1) 0 0 rfl rfl hi hd (kk _ _ _ _ _ _ _ _ h hW hS hc hs)
  -- iastore
  · obtain rfl : len = 1 := by simpa [mm_okl] using hn
    split at h <;> (try exact h.elim)
    rename_i v i r st'
    obtain ⟨t, ht, g1, g2, hi, h⟩ := h
    exact vx_iast hx hb hK.1 0 (hW.1 _ _ (x_eG hW.2.2 ht)).1 rfl hi hd (fun H1 sl ha hz hq => kk _ _ _ _ _ _ _ _ h (x_setG (s0 := s0) (locs := locs) (sl := sl) (t' := (t.1, upd t.2 i.toNatClampNeg v)) hW hS ht g1 g2 ha hz hq).1 (x_setG (s0 := s0) (locs := locs) (sl := sl) (t' := (t.1, upd t.2 i.toNatClampNeg v)) hW hS ht g1 g2 ha hz hq).2 hc hs)
  -- aaload
  · obtain rfl : len = 1 := by simpa [mm_okl] using hn
    split at h <;> (try exact h.elim)
    rename_i i r st'
    obtain ⟨t, ht, hi, h⟩ := h
    refine va_aldq hx hb hK.1 (vx_P1 (hW.1 _ _ (x_eR hW.2.2 ht)).1) 0 2 rfl rfl hi hd ?_
    rw [← mE_rf]
    exact kk _ _ _ _ _ _ _ _ h hW hS hc hs
  -- aastore
  · obtain rfl : len = 1 := by simpa [mm_okl] using hn
    split at h <;> (try exact h.elim)
    rename_i v i r st'
    obtain ⟨t, ht, g1, g2, hi, g3, h⟩ := h
    have hat := (hW.1 _ _ (x_eR hW.2.2 ht)).1
    rcases v with _ | v
    · refine vx_astqN (C := RX0) hx hb hK.1 2 hat rfl hi hd (fun H1 sl ha hz hq => ?_)
      have ha' := ha
      rw [show (none : Option Nat) = (none : Option Nat).map (x_rho ad) from rfl, x_upR] at ha'
      exact kk _ _ _ _ _ _ _ _ h (x_setR (s0 := s0) (locs := locs) (sl := sl) (t' := (t.1, va_up t.2 i.toNatClampNeg none)) hW hS ht g1 g2 ha' hz hq).1 (x_setR (s0 := s0) (locs := locs) (sl := sl) (t' := (t.1, va_up t.2 i.toNatClampNeg none)) hW hS ht g1 g2 ha' hz hq).2 hc hs
    · obtain ⟨⟨ci, oi, or⟩, ho, hci⟩ := g3 v rfl
      cases hci
      refine vx_astq (r := (RX0, TX0, 9)) hx hb hK.1 2 0 hat rfl (hW.1 _ _ (x_eO ho)).1 rfl hi hd (fun H1 sl ha hz hq => ?_)
      have ha' := ha
      rw [show some (x_rho ad v) = (some v).map (x_rho ad) from rfl, x_upR] at ha'
      exact kk _ _ _ _ _ _ _ _ h (x_setR (s0 := s0) (locs := locs) (sl := sl) (t' := (t.1, va_up t.2 i.toNatClampNeg (some v))) hW hS ht g1 g2 ha' hz hq).1 (x_setR (s0 := s0) (locs := locs) (sl := sl) (t' := (t.1, va_up t.2 i.toNatClampNeg (some v))) hW hS ht g1 g2 ha' hz hq).2 hc hs
  -- arraylength
  · obtain rfl : len = 1 := by simpa [mm_okl] using hn
    split at h <;> (try exact h.elim)
    rename_i r st'
    obtain ⟨n, hl, h⟩ := h
    unfold x_len at hl
    split at hl
    · rename_i t ht
      cases hl
      exact va_alen hx hb hK.1 (vx_P1 (hW.1 _ _ (x_eG hW.2.2 ht)).1) 0 0 rfl rfl rfl hd (kk _ _ _ _ _ _ _ _ h hW hS hc hs)
    · obtain ⟨t, ht, hl⟩ := Option.map_eq_some_iff.mp hl
      cases hl
      exact va_alen hx hb hK.1 (vx_P1 (hW.1 _ _ (x_eR hW.2.2 ht)).1) 0 2 rfl rfl rfl hd (kk _ _ _ _ _ _ _ _ h hW hS hc hs)
  -- new
  · rename_i i
    obtain rfl : len = 3 := by simpa [mm_okl] using hn
    split at h <;> (try exact h.elim)
    rename_i ci hci
    obtain ⟨ga, gb, h⟩ := h
    have hfr := x_none (x_fresh hW)
    have h' := h (H.size + 24) (by omega) hfr.1 hfr.2.1 hfr.2.2
    replace hci : x_cl1 i = some ci := hci
    unfold x_cl1 at hci
    split at hci
    · cases hci
      refine vx_new (ci := 0) (fs := [.int 0, .int 0, .null, .null, .null, .null, .int 0, .int 0, .int 0]) (C := RX0) (T := TX0) (N := 9) (own := RX1) hx hb hts in_X0 tyX0 tyX0_ok hown (hts _ wd_112) (hts _ wd_171) (hts _ wd_55) hK.1 rfl (fun j hj => by rcases (show j = 0 ∨ j = 1 ∨ j = 2 ∨ j = 3 ∨ j = 4 ∨ j = 5 ∨ j = 6 ∨ j = 7 ∨ j = 8 by omega) with rfl | rfl | rfl | rfl | rfl | rfl | rfl | rfl | rfl <;> rfl) (by omega) (by have hb : x_nf 0 = 9 := rfl; omega) hd (fun H1 ha hz hq => ?_)
      have hX := x_X_nO (o' := (0, fun _ => 0, fun _ => none)) hW.2.2 hfr.2.1 hfr.2.2
      have he : x_e cs ad (va_up s.1 (H.size + 24) (some (0, fun _ => 0, fun _ => none)), s.2) (H.size + 24) = some (.inr (0, x_fs ad (0, fun _ => 0, fun _ => none))) := x_eO (o := (0, fun _ => 0, fun _ => none)) (va_up_self _ _ _)
      have hw := x_W_new hW he (fun j hj => x_eq_O hj) (fun j hj => va_up_ne _ _ hj) hX ha hq hAn
      have hk := kk _ _ _ _ H1 locs (cells + 1) (slots + 9) h' hw (x_grow hS hz hq) (by omega) (by have hb : x_nf 0 = 9 := rfl; omega)
      rw [List.map_cons, show mE (x_rho ad) (.inr (some (H.size + 24))) = .ref H.size from by rw [mE, x_rho_new]] at hk
      exact hk
    · cases hci
  -- newarray
  · obtain rfl : len = 2 := by simpa [mm_okl] using hn
    split at h <;> (try exact h.elim)
    rename_i n st'
    obtain ⟨gn, ga, gb, gl, h⟩ := h
    have hfr := x_none (x_fresh hW)
    have h' := h (H.size + 24) (by omega) hfr.1 hfr.2.1 hfr.2.2
    refine vx_newi hx hb (hts _ wd_83) hK.1 0 rfl gn gl (by omega) (by omega) hd (fun H1 ha hz hq => ?_)
    have hX := x_X_nG (t' := (n.toNatClampNeg, fun _ => 0)) hW.2.2 hfr.1 hfr.2.2
    have he : x_e cs ad (s.1, va_up s.2.1 (H.size + 24) (some (n.toNatClampNeg, fun _ => 0)), s.2.2) (H.size + 24) = some (.inl (cs 0, n.toNatClampNeg, .inl (fun _ => 0))) := x_eG (t := (n.toNatClampNeg, fun _ => 0)) hX (va_up_self _ _ _)
    have hw := x_W_new hW he (fun j hj => x_eq_G hj) (fun j hj => rfl) hX ha hq hAn
    have hk := kk _ _ _ _ H1 locs (cells + 1) (slots + n.toNatClampNeg) h' hw (x_grow hS hz hq) (by omega) (by omega)
    rw [List.map_cons, show mE (x_rho ad) (.inr (some (H.size + 24))) = .ref H.size from by rw [mE, x_rho_new]] at hk
    exact hk
  -- anewarray
  · rename_i i
    split at h <;> (try exact h.elim)
    rename_i n st'
    split at h <;> (try exact h.elim)
    rename_i hci
    obtain ⟨gn, ga, gb, gl, h⟩ := h
    have hfr := x_none (x_fresh hW)
    have h' := h (H.size + 24) (by omega) hfr.1 hfr.2.1 hfr.2.2
    obtain rfl : len = 3 := by simpa [mm_okl] using hn
    have hlk : (Cond.classLink RX1 i RX0).before args s0 = true := by
      replace hci : x_cl1 i = some 0 := hci
      unfold x_cl1 at hci
      split at hci
      · exact hts _ wd_112
      · cases hci
    refine vx_newq hx hb hown hlk hK.2.2.1 hK.1 2 rfl gn gl (by omega) (by omega) hd (fun H1 ha hz hq => ?_)
    have hX := x_X_nR (t' := (n.toNatClampNeg, fun _ => none)) hW.2.2 hfr.1 hfr.2.1
    have he : x_e cs ad (s.1, s.2.1, va_up s.2.2 (H.size + 24) (some (n.toNatClampNeg, fun _ => none))) (H.size + 24) = some (.inl (cs 2, n.toNatClampNeg, .inr (.inr (.inr (.inr (fun j => ((fun _ => none : Nat → Option Nat) j).map (x_rho ad))))))) := x_eR (t := (n.toNatClampNeg, fun _ => none)) hX (va_up_self _ _ _)
    have hw := x_W_new hW he (fun j hj => x_eq_R hj) (fun j hj => rfl) hX ha hq hAn
    have hk := kk _ _ _ _ H1 locs (cells + 1) (slots + n.toNatClampNeg) h' hw (x_grow hS hz hq) (by omega) (by omega)
    rw [List.map_cons, show mE (x_rho ad) (.inr (some (H.size + 24))) = .ref H.size from by rw [mE, x_rho_new]] at hk
    exact hk
set_option maxHeartbeats 8000000 in
set_option maxRecDepth 20000 in
theorem x_HS_2 {ini : Bool} (hini : ini = true → meth.name = "<init>") (F : CallFix p m c cc nL s0 args tb RX2) (hK : kk D cs (fun i => ad (22 + i)) A s0) (hA : ∀ q : Nat, s0.heap.size ≤ q → A q) : mm_HS p l e R s0 m args below meth c cc (x_W D cs ad A) (x_rho ad) A (x_hk ini 2) Q := by
  intro ins len pc st s a b k h hd hn H locs cells slots ls hW hS hc hs kk
  have hAn : A H.size := hA _ hS.1
  by_cases h1 : ∃ i, ins = .getfield i
  · obtain ⟨i, rfl⟩ := h1
    obtain rfl : len = 3 := by simpa [mm_okl] using hn
    exact x_get_2 (len := 3) F hK h hd hW hS hc hs kk
  by_cases h2 : ∃ i, ins = .putfield i
  · obtain ⟨i, rfl⟩ := h2
    obtain rfl : len = 3 := by simpa [mm_okl] using hn
    exact x_put_2 (len := 3) F hK hini h hd hW hS hc hs kk
  obtain ⟨hx, hb, hml, hown, hts⟩ := F
  unfold x_hk at h
  split at h
  all_goals (try exact h.elim)
  · exact absurd ⟨_, rfl⟩ h1
  · exact absurd ⟨_, rfl⟩ h2
  -- iaload
  · obtain rfl : len = 1 := by simpa [mm_okl] using hn
    split at h <;> (try exact h.elim)
    obtain ⟨t, ht, hi, h⟩ := h
    exact va_iald hx hb hK.1 (vx_P1 (hW.1 _ _ (x_eG hW.2.2 ht)).1) 0 0 rfl rfl hi hd (kk _ _ _ _ _ _ _ _ h hW hS hc hs)
  -- iastore
  · obtain rfl : len = 1 := by simpa [mm_okl] using hn
    split at h <;> (try exact h.elim)
    rename_i v i r st'
    obtain ⟨t, ht, g1, g2, hi, h⟩ := h
    exact vx_iast hx hb hK.1 0 (hW.1 _ _ (x_eG hW.2.2 ht)).1 rfl hi hd (fun H1 sl ha hz hq => kk _ _ _ _ _ _ _ _ h (x_setG (s0 := s0) (locs := locs) (sl := sl) (t' := (t.1, upd t.2 i.toNatClampNeg v)) hW hS ht g1 g2 ha hz hq).1 (x_setG (s0 := s0) (locs := locs) (sl := sl) (t' := (t.1, upd t.2 i.toNatClampNeg v)) hW hS ht g1 g2 ha hz hq).2 hc hs)
  -- aaload
  · obtain rfl : len = 1 := by simpa [mm_okl] using hn
    split at h <;> (try exact h.elim)
    rename_i i r st'
    obtain ⟨t, ht, hi, h⟩ := h
    refine va_aldq hx hb hK.1 (vx_P1 (hW.1 _ _ (x_eR hW.2.2 ht)).1) 0 2 rfl rfl hi hd ?_
    rw [← mE_rf]
    exact kk _ _ _ _ _ _ _ _ h hW hS hc hs
  -- aastore
  · obtain rfl : len = 1 := by simpa [mm_okl] using hn
    split at h <;> (try exact h.elim)
    rename_i v i r st'
    obtain ⟨t, ht, g1, g2, hi, g3, h⟩ := h
    have hat := (hW.1 _ _ (x_eR hW.2.2 ht)).1
    rcases v with _ | v
    · refine vx_astqN (C := RX0) hx hb hK.1 2 hat rfl hi hd (fun H1 sl ha hz hq => ?_)
      have ha' := ha
      rw [show (none : Option Nat) = (none : Option Nat).map (x_rho ad) from rfl, x_upR] at ha'
      exact kk _ _ _ _ _ _ _ _ h (x_setR (s0 := s0) (locs := locs) (sl := sl) (t' := (t.1, va_up t.2 i.toNatClampNeg none)) hW hS ht g1 g2 ha' hz hq).1 (x_setR (s0 := s0) (locs := locs) (sl := sl) (t' := (t.1, va_up t.2 i.toNatClampNeg none)) hW hS ht g1 g2 ha' hz hq).2 hc hs
    · obtain ⟨⟨ci, oi, or⟩, ho, hci⟩ := g3 v rfl
      cases hci
      refine vx_astq (r := (RX0, TX0, 9)) hx hb hK.1 2 0 hat rfl (hW.1 _ _ (x_eO ho)).1 rfl hi hd (fun H1 sl ha hz hq => ?_)
      have ha' := ha
      rw [show some (x_rho ad v) = (some v).map (x_rho ad) from rfl, x_upR] at ha'
      exact kk _ _ _ _ _ _ _ _ h (x_setR (s0 := s0) (locs := locs) (sl := sl) (t' := (t.1, va_up t.2 i.toNatClampNeg (some v))) hW hS ht g1 g2 ha' hz hq).1 (x_setR (s0 := s0) (locs := locs) (sl := sl) (t' := (t.1, va_up t.2 i.toNatClampNeg (some v))) hW hS ht g1 g2 ha' hz hq).2 hc hs
  -- arraylength
  · obtain rfl : len = 1 := by simpa [mm_okl] using hn
    split at h <;> (try exact h.elim)
    rename_i r st'
    obtain ⟨n, hl, h⟩ := h
    unfold x_len at hl
    split at hl
    · rename_i t ht
      cases hl
      exact va_alen hx hb hK.1 (vx_P1 (hW.1 _ _ (x_eG hW.2.2 ht)).1) 0 0 rfl rfl rfl hd (kk _ _ _ _ _ _ _ _ h hW hS hc hs)
    · obtain ⟨t, ht, hl⟩ := Option.map_eq_some_iff.mp hl
      cases hl
      exact va_alen hx hb hK.1 (vx_P1 (hW.1 _ _ (x_eR hW.2.2 ht)).1) 0 2 rfl rfl rfl hd (kk _ _ _ _ _ _ _ _ h hW hS hc hs)
  -- new
  · rename_i i
    obtain rfl : len = 3 := by simpa [mm_okl] using hn
    split at h <;> (try exact h.elim)
    rename_i ci hci
    obtain ⟨ga, gb, h⟩ := h
    have hfr := x_none (x_fresh hW)
    have h' := h (H.size + 24) (by omega) hfr.1 hfr.2.1 hfr.2.2
    replace hci : x_cl2 i = some ci := hci
    unfold x_cl2 at hci
    split at hci
    · cases hci
      refine vx_new (ci := 0) (fs := [.int 0, .int 0, .null, .null, .null, .null, .int 0, .int 0, .int 0]) (C := RX0) (T := TX0) (N := 9) (own := RX2) hx hb hts in_X0 tyX0 tyX0_ok hown (hts _ wd_90) (hts _ wd_171) (hts _ wd_55) hK.1 rfl (fun j hj => by rcases (show j = 0 ∨ j = 1 ∨ j = 2 ∨ j = 3 ∨ j = 4 ∨ j = 5 ∨ j = 6 ∨ j = 7 ∨ j = 8 by omega) with rfl | rfl | rfl | rfl | rfl | rfl | rfl | rfl | rfl <;> rfl) (by omega) (by have hb : x_nf 0 = 9 := rfl; omega) hd (fun H1 ha hz hq => ?_)
      have hX := x_X_nO (o' := (0, fun _ => 0, fun _ => none)) hW.2.2 hfr.2.1 hfr.2.2
      have he : x_e cs ad (va_up s.1 (H.size + 24) (some (0, fun _ => 0, fun _ => none)), s.2) (H.size + 24) = some (.inr (0, x_fs ad (0, fun _ => 0, fun _ => none))) := x_eO (o := (0, fun _ => 0, fun _ => none)) (va_up_self _ _ _)
      have hw := x_W_new hW he (fun j hj => x_eq_O hj) (fun j hj => va_up_ne _ _ hj) hX ha hq hAn
      have hk := kk _ _ _ _ H1 locs (cells + 1) (slots + 9) h' hw (x_grow hS hz hq) (by omega) (by have hb : x_nf 0 = 9 := rfl; omega)
      rw [List.map_cons, show mE (x_rho ad) (.inr (some (H.size + 24))) = .ref H.size from by rw [mE, x_rho_new]] at hk
      exact hk
    · cases hci
  -- newarray
  · obtain rfl : len = 2 := by simpa [mm_okl] using hn
    split at h <;> (try exact h.elim)
    rename_i n st'
    obtain ⟨gn, ga, gb, gl, h⟩ := h
    have hfr := x_none (x_fresh hW)
    have h' := h (H.size + 24) (by omega) hfr.1 hfr.2.1 hfr.2.2
    refine vx_newi hx hb (hts _ wd_83) hK.1 0 rfl gn gl (by omega) (by omega) hd (fun H1 ha hz hq => ?_)
    have hX := x_X_nG (t' := (n.toNatClampNeg, fun _ => 0)) hW.2.2 hfr.1 hfr.2.2
    have he : x_e cs ad (s.1, va_up s.2.1 (H.size + 24) (some (n.toNatClampNeg, fun _ => 0)), s.2.2) (H.size + 24) = some (.inl (cs 0, n.toNatClampNeg, .inl (fun _ => 0))) := x_eG (t := (n.toNatClampNeg, fun _ => 0)) hX (va_up_self _ _ _)
    have hw := x_W_new hW he (fun j hj => x_eq_G hj) (fun j hj => rfl) hX ha hq hAn
    have hk := kk _ _ _ _ H1 locs (cells + 1) (slots + n.toNatClampNeg) h' hw (x_grow hS hz hq) (by omega) (by omega)
    rw [List.map_cons, show mE (x_rho ad) (.inr (some (H.size + 24))) = .ref H.size from by rw [mE, x_rho_new]] at hk
    exact hk
  -- anewarray
  · rename_i i
    split at h <;> (try exact h.elim)
    rename_i n st'
    split at h <;> (try exact h.elim)
    rename_i hci
    obtain ⟨gn, ga, gb, gl, h⟩ := h
    have hfr := x_none (x_fresh hW)
    have h' := h (H.size + 24) (by omega) hfr.1 hfr.2.1 hfr.2.2
    obtain rfl : len = 3 := by simpa [mm_okl] using hn
    have hlk : (Cond.classLink RX2 i RX0).before args s0 = true := by
      replace hci : x_cl2 i = some 0 := hci
      unfold x_cl2 at hci
      split at hci
      · exact hts _ wd_90
      · cases hci
    refine vx_newq hx hb hown hlk hK.2.2.1 hK.1 2 rfl gn gl (by omega) (by omega) hd (fun H1 ha hz hq => ?_)
    have hX := x_X_nR (t' := (n.toNatClampNeg, fun _ => none)) hW.2.2 hfr.1 hfr.2.1
    have he : x_e cs ad (s.1, s.2.1, va_up s.2.2 (H.size + 24) (some (n.toNatClampNeg, fun _ => none))) (H.size + 24) = some (.inl (cs 2, n.toNatClampNeg, .inr (.inr (.inr (.inr (fun j => ((fun _ => none : Nat → Option Nat) j).map (x_rho ad))))))) := x_eR (t := (n.toNatClampNeg, fun _ => none)) hX (va_up_self _ _ _)
    have hw := x_W_new hW he (fun j hj => x_eq_R hj) (fun j hj => rfl) hX ha hq hAn
    have hk := kk _ _ _ _ H1 locs (cells + 1) (slots + n.toNatClampNeg) h' hw (x_grow hS hz hq) (by omega) (by omega)
    rw [List.map_cons, show mE (x_rho ad) (.inr (some (H.size + 24))) = .ref H.size from by rw [mE, x_rho_new]] at hk
    exact hk
set_option maxHeartbeats 8000000 in
set_option maxRecDepth 20000 in
theorem x_HS_3 {ini : Bool} (hini : ini = true → meth.name = "<init>") (F : CallFix p m c cc nL s0 args tb RX3) (hK : kk D cs (fun i => ad (22 + i)) A s0) (hA : ∀ q : Nat, s0.heap.size ≤ q → A q) : mm_HS p l e R s0 m args below meth c cc (x_W D cs ad A) (x_rho ad) A (x_hk ini 3) Q := by
  intro ins len pc st s a b k h hd hn H locs cells slots ls hW hS hc hs kk
  have hAn : A H.size := hA _ hS.1
  by_cases h1 : ∃ i, ins = .getfield i
  · obtain ⟨i, rfl⟩ := h1
    obtain rfl : len = 3 := by simpa [mm_okl] using hn
    exact x_get_3 (len := 3) F hK h hd hW hS hc hs kk
  by_cases h2 : ∃ i, ins = .putfield i
  · obtain ⟨i, rfl⟩ := h2
    obtain rfl : len = 3 := by simpa [mm_okl] using hn
    exact x_put_3 (len := 3) F hK hini h hd hW hS hc hs kk
  obtain ⟨hx, hb, hml, hown, hts⟩ := F
  unfold x_hk at h
  split at h
  all_goals (try exact h.elim)
  · exact absurd ⟨_, rfl⟩ h1
  · exact absurd ⟨_, rfl⟩ h2
  -- iaload
  · obtain rfl : len = 1 := by simpa [mm_okl] using hn
    split at h <;> (try exact h.elim)
    obtain ⟨t, ht, hi, h⟩ := h
    exact va_iald hx hb hK.1 (vx_P1 (hW.1 _ _ (x_eG hW.2.2 ht)).1) 0 0 rfl rfl hi hd (kk _ _ _ _ _ _ _ _ h hW hS hc hs)
  -- iastore
  · obtain rfl : len = 1 := by simpa [mm_okl] using hn
    split at h <;> (try exact h.elim)
    rename_i v i r st'
    obtain ⟨t, ht, g1, g2, hi, h⟩ := h
    exact vx_iast hx hb hK.1 0 (hW.1 _ _ (x_eG hW.2.2 ht)).1 rfl hi hd (fun H1 sl ha hz hq => kk _ _ _ _ _ _ _ _ h (x_setG (s0 := s0) (locs := locs) (sl := sl) (t' := (t.1, upd t.2 i.toNatClampNeg v)) hW hS ht g1 g2 ha hz hq).1 (x_setG (s0 := s0) (locs := locs) (sl := sl) (t' := (t.1, upd t.2 i.toNatClampNeg v)) hW hS ht g1 g2 ha hz hq).2 hc hs)
  -- aaload
  · obtain rfl : len = 1 := by simpa [mm_okl] using hn
    split at h <;> (try exact h.elim)
    rename_i i r st'
    obtain ⟨t, ht, hi, h⟩ := h
    refine va_aldq hx hb hK.1 (vx_P1 (hW.1 _ _ (x_eR hW.2.2 ht)).1) 0 2 rfl rfl hi hd ?_
    rw [← mE_rf]
    exact kk _ _ _ _ _ _ _ _ h hW hS hc hs
  -- aastore
  · obtain rfl : len = 1 := by simpa [mm_okl] using hn
    split at h <;> (try exact h.elim)
    rename_i v i r st'
    obtain ⟨t, ht, g1, g2, hi, g3, h⟩ := h
    have hat := (hW.1 _ _ (x_eR hW.2.2 ht)).1
    rcases v with _ | v
    · refine vx_astqN (C := RX0) hx hb hK.1 2 hat rfl hi hd (fun H1 sl ha hz hq => ?_)
      have ha' := ha
      rw [show (none : Option Nat) = (none : Option Nat).map (x_rho ad) from rfl, x_upR] at ha'
      exact kk _ _ _ _ _ _ _ _ h (x_setR (s0 := s0) (locs := locs) (sl := sl) (t' := (t.1, va_up t.2 i.toNatClampNeg none)) hW hS ht g1 g2 ha' hz hq).1 (x_setR (s0 := s0) (locs := locs) (sl := sl) (t' := (t.1, va_up t.2 i.toNatClampNeg none)) hW hS ht g1 g2 ha' hz hq).2 hc hs
    · obtain ⟨⟨ci, oi, or⟩, ho, hci⟩ := g3 v rfl
      cases hci
      refine vx_astq (r := (RX0, TX0, 9)) hx hb hK.1 2 0 hat rfl (hW.1 _ _ (x_eO ho)).1 rfl hi hd (fun H1 sl ha hz hq => ?_)
      have ha' := ha
      rw [show some (x_rho ad v) = (some v).map (x_rho ad) from rfl, x_upR] at ha'
      exact kk _ _ _ _ _ _ _ _ h (x_setR (s0 := s0) (locs := locs) (sl := sl) (t' := (t.1, va_up t.2 i.toNatClampNeg (some v))) hW hS ht g1 g2 ha' hz hq).1 (x_setR (s0 := s0) (locs := locs) (sl := sl) (t' := (t.1, va_up t.2 i.toNatClampNeg (some v))) hW hS ht g1 g2 ha' hz hq).2 hc hs
  -- arraylength
  · obtain rfl : len = 1 := by simpa [mm_okl] using hn
    split at h <;> (try exact h.elim)
    rename_i r st'
    obtain ⟨n, hl, h⟩ := h
    unfold x_len at hl
    split at hl
    · rename_i t ht
      cases hl
      exact va_alen hx hb hK.1 (vx_P1 (hW.1 _ _ (x_eG hW.2.2 ht)).1) 0 0 rfl rfl rfl hd (kk _ _ _ _ _ _ _ _ h hW hS hc hs)
    · obtain ⟨t, ht, hl⟩ := Option.map_eq_some_iff.mp hl
      cases hl
      exact va_alen hx hb hK.1 (vx_P1 (hW.1 _ _ (x_eR hW.2.2 ht)).1) 0 2 rfl rfl rfl hd (kk _ _ _ _ _ _ _ _ h hW hS hc hs)
  -- newarray
  · obtain rfl : len = 2 := by simpa [mm_okl] using hn
    split at h <;> (try exact h.elim)
    rename_i n st'
    obtain ⟨gn, ga, gb, gl, h⟩ := h
    have hfr := x_none (x_fresh hW)
    have h' := h (H.size + 24) (by omega) hfr.1 hfr.2.1 hfr.2.2
    refine vx_newi hx hb (hts _ wd_83) hK.1 0 rfl gn gl (by omega) (by omega) hd (fun H1 ha hz hq => ?_)
    have hX := x_X_nG (t' := (n.toNatClampNeg, fun _ => 0)) hW.2.2 hfr.1 hfr.2.2
    have he : x_e cs ad (s.1, va_up s.2.1 (H.size + 24) (some (n.toNatClampNeg, fun _ => 0)), s.2.2) (H.size + 24) = some (.inl (cs 0, n.toNatClampNeg, .inl (fun _ => 0))) := x_eG (t := (n.toNatClampNeg, fun _ => 0)) hX (va_up_self _ _ _)
    have hw := x_W_new hW he (fun j hj => x_eq_G hj) (fun j hj => rfl) hX ha hq hAn
    have hk := kk _ _ _ _ H1 locs (cells + 1) (slots + n.toNatClampNeg) h' hw (x_grow hS hz hq) (by omega) (by omega)
    rw [List.map_cons, show mE (x_rho ad) (.inr (some (H.size + 24))) = .ref H.size from by rw [mE, x_rho_new]] at hk
    exact hk
  · split at h <;> exact h.elim
set_option maxHeartbeats 8000000 in
set_option maxRecDepth 20000 in
theorem x_HS_4 {ini : Bool} (hini : ini = true → meth.name = "<init>") (F : CallFix p m c cc nL s0 args tb RX4) (hK : kk D cs (fun i => ad (22 + i)) A s0) (hA : ∀ q : Nat, s0.heap.size ≤ q → A q) : mm_HS p l e R s0 m args below meth c cc (x_W D cs ad A) (x_rho ad) A (x_hk ini 4) Q := by
  intro ins len pc st s a b k h hd hn H locs cells slots ls hW hS hc hs kk
  have hAn : A H.size := hA _ hS.1
  by_cases h1 : ∃ i, ins = .getfield i
  · obtain ⟨i, rfl⟩ := h1
    obtain rfl : len = 3 := by simpa [mm_okl] using hn
    exact x_get_4 (len := 3) F hK h hd hW hS hc hs kk
  by_cases h2 : ∃ i, ins = .putfield i
  · obtain ⟨i, rfl⟩ := h2
    obtain rfl : len = 3 := by simpa [mm_okl] using hn
    exact x_put_4 (len := 3) F hK hini h hd hW hS hc hs kk
  obtain ⟨hx, hb, hml, hown, hts⟩ := F
  unfold x_hk at h
  split at h
  all_goals (try exact h.elim)
  · exact absurd ⟨_, rfl⟩ h1
  · exact absurd ⟨_, rfl⟩ h2
  -- iaload
  · obtain rfl : len = 1 := by simpa [mm_okl] using hn
    split at h <;> (try exact h.elim)
    obtain ⟨t, ht, hi, h⟩ := h
    exact va_iald hx hb hK.1 (vx_P1 (hW.1 _ _ (x_eG hW.2.2 ht)).1) 0 0 rfl rfl hi hd (kk _ _ _ _ _ _ _ _ h hW hS hc hs)
  -- iastore
  · obtain rfl : len = 1 := by simpa [mm_okl] using hn
    split at h <;> (try exact h.elim)
    rename_i v i r st'
    obtain ⟨t, ht, g1, g2, hi, h⟩ := h
    exact vx_iast hx hb hK.1 0 (hW.1 _ _ (x_eG hW.2.2 ht)).1 rfl hi hd (fun H1 sl ha hz hq => kk _ _ _ _ _ _ _ _ h (x_setG (s0 := s0) (locs := locs) (sl := sl) (t' := (t.1, upd t.2 i.toNatClampNeg v)) hW hS ht g1 g2 ha hz hq).1 (x_setG (s0 := s0) (locs := locs) (sl := sl) (t' := (t.1, upd t.2 i.toNatClampNeg v)) hW hS ht g1 g2 ha hz hq).2 hc hs)
  -- aaload
  · obtain rfl : len = 1 := by simpa [mm_okl] using hn
    split at h <;> (try exact h.elim)
    rename_i i r st'
    obtain ⟨t, ht, hi, h⟩ := h
    refine va_aldq hx hb hK.1 (vx_P1 (hW.1 _ _ (x_eR hW.2.2 ht)).1) 0 2 rfl rfl hi hd ?_
    rw [← mE_rf]
    exact kk _ _ _ _ _ _ _ _ h hW hS hc hs
  -- aastore
  · obtain rfl : len = 1 := by simpa [mm_okl] using hn
    split at h <;> (try exact h.elim)
    rename_i v i r st'
    obtain ⟨t, ht, g1, g2, hi, g3, h⟩ := h
    have hat := (hW.1 _ _ (x_eR hW.2.2 ht)).1
    rcases v with _ | v
    · refine vx_astqN (C := RX0) hx hb hK.1 2 hat rfl hi hd (fun H1 sl ha hz hq => ?_)
      have ha' := ha
      rw [show (none : Option Nat) = (none : Option Nat).map (x_rho ad) from rfl, x_upR] at ha'
      exact kk _ _ _ _ _ _ _ _ h (x_setR (s0 := s0) (locs := locs) (sl := sl) (t' := (t.1, va_up t.2 i.toNatClampNeg none)) hW hS ht g1 g2 ha' hz hq).1 (x_setR (s0 := s0) (locs := locs) (sl := sl) (t' := (t.1, va_up t.2 i.toNatClampNeg none)) hW hS ht g1 g2 ha' hz hq).2 hc hs
    · obtain ⟨⟨ci, oi, or⟩, ho, hci⟩ := g3 v rfl
      cases hci
      refine vx_astq (r := (RX0, TX0, 9)) hx hb hK.1 2 0 hat rfl (hW.1 _ _ (x_eO ho)).1 rfl hi hd (fun H1 sl ha hz hq => ?_)
      have ha' := ha
      rw [show some (x_rho ad v) = (some v).map (x_rho ad) from rfl, x_upR] at ha'
      exact kk _ _ _ _ _ _ _ _ h (x_setR (s0 := s0) (locs := locs) (sl := sl) (t' := (t.1, va_up t.2 i.toNatClampNeg (some v))) hW hS ht g1 g2 ha' hz hq).1 (x_setR (s0 := s0) (locs := locs) (sl := sl) (t' := (t.1, va_up t.2 i.toNatClampNeg (some v))) hW hS ht g1 g2 ha' hz hq).2 hc hs
  -- arraylength
  · obtain rfl : len = 1 := by simpa [mm_okl] using hn
    split at h <;> (try exact h.elim)
    rename_i r st'
    obtain ⟨n, hl, h⟩ := h
    unfold x_len at hl
    split at hl
    · rename_i t ht
      cases hl
      exact va_alen hx hb hK.1 (vx_P1 (hW.1 _ _ (x_eG hW.2.2 ht)).1) 0 0 rfl rfl rfl hd (kk _ _ _ _ _ _ _ _ h hW hS hc hs)
    · obtain ⟨t, ht, hl⟩ := Option.map_eq_some_iff.mp hl
      cases hl
      exact va_alen hx hb hK.1 (vx_P1 (hW.1 _ _ (x_eR hW.2.2 ht)).1) 0 2 rfl rfl rfl hd (kk _ _ _ _ _ _ _ _ h hW hS hc hs)
  -- newarray
  · obtain rfl : len = 2 := by simpa [mm_okl] using hn
    split at h <;> (try exact h.elim)
    rename_i n st'
    obtain ⟨gn, ga, gb, gl, h⟩ := h
    have hfr := x_none (x_fresh hW)
    have h' := h (H.size + 24) (by omega) hfr.1 hfr.2.1 hfr.2.2
    refine vx_newi hx hb (hts _ wd_83) hK.1 0 rfl gn gl (by omega) (by omega) hd (fun H1 ha hz hq => ?_)
    have hX := x_X_nG (t' := (n.toNatClampNeg, fun _ => 0)) hW.2.2 hfr.1 hfr.2.2
    have he : x_e cs ad (s.1, va_up s.2.1 (H.size + 24) (some (n.toNatClampNeg, fun _ => 0)), s.2.2) (H.size + 24) = some (.inl (cs 0, n.toNatClampNeg, .inl (fun _ => 0))) := x_eG (t := (n.toNatClampNeg, fun _ => 0)) hX (va_up_self _ _ _)
    have hw := x_W_new hW he (fun j hj => x_eq_G hj) (fun j hj => rfl) hX ha hq hAn
    have hk := kk _ _ _ _ H1 locs (cells + 1) (slots + n.toNatClampNeg) h' hw (x_grow hS hz hq) (by omega) (by omega)
    rw [List.map_cons, show mE (x_rho ad) (.inr (some (H.size + 24))) = .ref H.size from by rw [mE, x_rho_new]] at hk
    exact hk
  · split at h <;> exact h.elim
set_option maxHeartbeats 8000000 in
set_option maxRecDepth 20000 in
theorem x_HS_5 {ini : Bool} (hini : ini = true → meth.name = "<init>") (F : CallFix p m c cc nL s0 args tb RX5) (hK : kk D cs (fun i => ad (22 + i)) A s0) (hA : ∀ q : Nat, s0.heap.size ≤ q → A q) : mm_HS p l e R s0 m args below meth c cc (x_W D cs ad A) (x_rho ad) A (x_hk ini 5) Q := by
  intro ins len pc st s a b k h hd hn H locs cells slots ls hW hS hc hs kk
  have hAn : A H.size := hA _ hS.1
  by_cases h1 : ∃ i, ins = .getfield i
  · obtain ⟨i, rfl⟩ := h1
    obtain rfl : len = 3 := by simpa [mm_okl] using hn
    exact x_get_5 (len := 3) F hK h hd hW hS hc hs kk
  by_cases h2 : ∃ i, ins = .putfield i
  · obtain ⟨i, rfl⟩ := h2
    obtain rfl : len = 3 := by simpa [mm_okl] using hn
    exact x_put_5 (len := 3) F hK hini h hd hW hS hc hs kk
  obtain ⟨hx, hb, hml, hown, hts⟩ := F
  unfold x_hk at h
  split at h
  all_goals (try exact h.elim)
  · exact absurd ⟨_, rfl⟩ h1
  · exact absurd ⟨_, rfl⟩ h2
  -- iaload
  · obtain rfl : len = 1 := by simpa [mm_okl] using hn
    split at h <;> (try exact h.elim)
    obtain ⟨t, ht, hi, h⟩ := h
    exact va_iald hx hb hK.1 (vx_P1 (hW.1 _ _ (x_eG hW.2.2 ht)).1) 0 0 rfl rfl hi hd (kk _ _ _ _ _ _ _ _ h hW hS hc hs)
  -- iastore
  · obtain rfl : len = 1 := by simpa [mm_okl] using hn
    split at h <;> (try exact h.elim)
    rename_i v i r st'
    obtain ⟨t, ht, g1, g2, hi, h⟩ := h
    exact vx_iast hx hb hK.1 0 (hW.1 _ _ (x_eG hW.2.2 ht)).1 rfl hi hd (fun H1 sl ha hz hq => kk _ _ _ _ _ _ _ _ h (x_setG (s0 := s0) (locs := locs) (sl := sl) (t' := (t.1, upd t.2 i.toNatClampNeg v)) hW hS ht g1 g2 ha hz hq).1 (x_setG (s0 := s0) (locs := locs) (sl := sl) (t' := (t.1, upd t.2 i.toNatClampNeg v)) hW hS ht g1 g2 ha hz hq).2 hc hs)
  -- aaload
  · obtain rfl : len = 1 := by simpa [mm_okl] using hn
    split at h <;> (try exact h.elim)
    rename_i i r st'
    obtain ⟨t, ht, hi, h⟩ := h
    refine va_aldq hx hb hK.1 (vx_P1 (hW.1 _ _ (x_eR hW.2.2 ht)).1) 0 2 rfl rfl hi hd ?_
    rw [← mE_rf]
    exact kk _ _ _ _ _ _ _ _ h hW hS hc hs
  -- aastore
  · obtain rfl : len = 1 := by simpa [mm_okl] using hn
    split at h <;> (try exact h.elim)
    rename_i v i r st'
    obtain ⟨t, ht, g1, g2, hi, g3, h⟩ := h
    have hat := (hW.1 _ _ (x_eR hW.2.2 ht)).1
    rcases v with _ | v
    · refine vx_astqN (C := RX0) hx hb hK.1 2 hat rfl hi hd (fun H1 sl ha hz hq => ?_)
      have ha' := ha
      rw [show (none : Option Nat) = (none : Option Nat).map (x_rho ad) from rfl, x_upR] at ha'
      exact kk _ _ _ _ _ _ _ _ h (x_setR (s0 := s0) (locs := locs) (sl := sl) (t' := (t.1, va_up t.2 i.toNatClampNeg none)) hW hS ht g1 g2 ha' hz hq).1 (x_setR (s0 := s0) (locs := locs) (sl := sl) (t' := (t.1, va_up t.2 i.toNatClampNeg none)) hW hS ht g1 g2 ha' hz hq).2 hc hs
    · obtain ⟨⟨ci, oi, or⟩, ho, hci⟩ := g3 v rfl
      cases hci
      refine vx_astq (r := (RX0, TX0, 9)) hx hb hK.1 2 0 hat rfl (hW.1 _ _ (x_eO ho)).1 rfl hi hd (fun H1 sl ha hz hq => ?_)
      have ha' := ha
      rw [show some (x_rho ad v) = (some v).map (x_rho ad) from rfl, x_upR] at ha'
      exact kk _ _ _ _ _ _ _ _ h (x_setR (s0 := s0) (locs := locs) (sl := sl) (t' := (t.1, va_up t.2 i.toNatClampNeg (some v))) hW hS ht g1 g2 ha' hz hq).1 (x_setR (s0 := s0) (locs := locs) (sl := sl) (t' := (t.1, va_up t.2 i.toNatClampNeg (some v))) hW hS ht g1 g2 ha' hz hq).2 hc hs
  -- arraylength
  · obtain rfl : len = 1 := by simpa [mm_okl] using hn
    split at h <;> (try exact h.elim)
    rename_i r st'
    obtain ⟨n, hl, h⟩ := h
    unfold x_len at hl
    split at hl
    · rename_i t ht
      cases hl
      exact va_alen hx hb hK.1 (vx_P1 (hW.1 _ _ (x_eG hW.2.2 ht)).1) 0 0 rfl rfl rfl hd (kk _ _ _ _ _ _ _ _ h hW hS hc hs)
    · obtain ⟨t, ht, hl⟩ := Option.map_eq_some_iff.mp hl
      cases hl
      exact va_alen hx hb hK.1 (vx_P1 (hW.1 _ _ (x_eR hW.2.2 ht)).1) 0 2 rfl rfl rfl hd (kk _ _ _ _ _ _ _ _ h hW hS hc hs)
  -- new
  · rename_i i
    obtain rfl : len = 3 := by simpa [mm_okl] using hn
    split at h <;> (try exact h.elim)
    rename_i ci hci
    obtain ⟨ga, gb, h⟩ := h
    have hfr := x_none (x_fresh hW)
    have h' := h (H.size + 24) (by omega) hfr.1 hfr.2.1 hfr.2.2
    replace hci : x_cl5 i = some ci := hci
    unfold x_cl5 at hci
    split at hci
    · cases hci
      refine vx_new (ci := 1) (fs := [.null, .int 0]) (C := RX1) (T := TX1) (N := 2) (own := RX5) hx hb hts in_X1 tyX1 tyX1_ok hown (hts _ wd_128) (hts _ wd_107) (hts _ wd_52) hK.1 rfl (fun j hj => by rcases (show j = 0 ∨ j = 1 by omega) with rfl | rfl <;> rfl) (by omega) (by have hb : x_nf 1 = 2 := rfl; omega) hd (fun H1 ha hz hq => ?_)
      have hX := x_X_nO (o' := (1, fun _ => 0, fun _ => none)) hW.2.2 hfr.2.1 hfr.2.2
      have he : x_e cs ad (va_up s.1 (H.size + 24) (some (1, fun _ => 0, fun _ => none)), s.2) (H.size + 24) = some (.inr (1, x_fs ad (1, fun _ => 0, fun _ => none))) := x_eO (o := (1, fun _ => 0, fun _ => none)) (va_up_self _ _ _)
      have hw := x_W_new hW he (fun j hj => x_eq_O hj) (fun j hj => va_up_ne _ _ hj) hX ha hq hAn
      have hk := kk _ _ _ _ H1 locs (cells + 1) (slots + 2) h' hw (x_grow hS hz hq) (by omega) (by have hb : x_nf 1 = 2 := rfl; omega)
      rw [List.map_cons, show mE (x_rho ad) (.inr (some (H.size + 24))) = .ref H.size from by rw [mE, x_rho_new]] at hk
      exact hk
    · cases hci
      refine vx_new (ci := 3) (fs := [.null, .int 0]) (C := RX3) (T := TX3) (N := 2) (own := RX5) hx hb hts in_X3 tyX3 tyX3_ok hown (hts _ wd_130) (hts _ wd_69) (hts _ wd_50) hK.1 rfl (fun j hj => by rcases (show j = 0 ∨ j = 1 by omega) with rfl | rfl <;> rfl) (by omega) (by have hb : x_nf 3 = 2 := rfl; omega) hd (fun H1 ha hz hq => ?_)
      have hX := x_X_nO (o' := (3, fun _ => 0, fun _ => none)) hW.2.2 hfr.2.1 hfr.2.2
      have he : x_e cs ad (va_up s.1 (H.size + 24) (some (3, fun _ => 0, fun _ => none)), s.2) (H.size + 24) = some (.inr (3, x_fs ad (3, fun _ => 0, fun _ => none))) := x_eO (o := (3, fun _ => 0, fun _ => none)) (va_up_self _ _ _)
      have hw := x_W_new hW he (fun j hj => x_eq_O hj) (fun j hj => va_up_ne _ _ hj) hX ha hq hAn
      have hk := kk _ _ _ _ H1 locs (cells + 1) (slots + 2) h' hw (x_grow hS hz hq) (by omega) (by have hb : x_nf 3 = 2 := rfl; omega)
      rw [List.map_cons, show mE (x_rho ad) (.inr (some (H.size + 24))) = .ref H.size from by rw [mE, x_rho_new]] at hk
      exact hk
    · cases hci
      refine vx_new (ci := 0) (fs := [.int 0, .int 0, .null, .null, .null, .null, .int 0, .int 0, .int 0]) (C := RX0) (T := TX0) (N := 9) (own := RX5) hx hb hts in_X0 tyX0 tyX0_ok hown (hts _ wd_359) (hts _ wd_171) (hts _ wd_55) hK.1 rfl (fun j hj => by rcases (show j = 0 ∨ j = 1 ∨ j = 2 ∨ j = 3 ∨ j = 4 ∨ j = 5 ∨ j = 6 ∨ j = 7 ∨ j = 8 by omega) with rfl | rfl | rfl | rfl | rfl | rfl | rfl | rfl | rfl <;> rfl) (by omega) (by have hb : x_nf 0 = 9 := rfl; omega) hd (fun H1 ha hz hq => ?_)
      have hX := x_X_nO (o' := (0, fun _ => 0, fun _ => none)) hW.2.2 hfr.2.1 hfr.2.2
      have he : x_e cs ad (va_up s.1 (H.size + 24) (some (0, fun _ => 0, fun _ => none)), s.2) (H.size + 24) = some (.inr (0, x_fs ad (0, fun _ => 0, fun _ => none))) := x_eO (o := (0, fun _ => 0, fun _ => none)) (va_up_self _ _ _)
      have hw := x_W_new hW he (fun j hj => x_eq_O hj) (fun j hj => va_up_ne _ _ hj) hX ha hq hAn
      have hk := kk _ _ _ _ H1 locs (cells + 1) (slots + 9) h' hw (x_grow hS hz hq) (by omega) (by have hb : x_nf 0 = 9 := rfl; omega)
      rw [List.map_cons, show mE (x_rho ad) (.inr (some (H.size + 24))) = .ref H.size from by rw [mE, x_rho_new]] at hk
      exact hk
    · cases hci
  -- newarray
  · obtain rfl : len = 2 := by simpa [mm_okl] using hn
    split at h <;> (try exact h.elim)
    rename_i n st'
    obtain ⟨gn, ga, gb, gl, h⟩ := h
    have hfr := x_none (x_fresh hW)
    have h' := h (H.size + 24) (by omega) hfr.1 hfr.2.1 hfr.2.2
    refine vx_newi hx hb (hts _ wd_83) hK.1 0 rfl gn gl (by omega) (by omega) hd (fun H1 ha hz hq => ?_)
    have hX := x_X_nG (t' := (n.toNatClampNeg, fun _ => 0)) hW.2.2 hfr.1 hfr.2.2
    have he : x_e cs ad (s.1, va_up s.2.1 (H.size + 24) (some (n.toNatClampNeg, fun _ => 0)), s.2.2) (H.size + 24) = some (.inl (cs 0, n.toNatClampNeg, .inl (fun _ => 0))) := x_eG (t := (n.toNatClampNeg, fun _ => 0)) hX (va_up_self _ _ _)
    have hw := x_W_new hW he (fun j hj => x_eq_G hj) (fun j hj => rfl) hX ha hq hAn
    have hk := kk _ _ _ _ H1 locs (cells + 1) (slots + n.toNatClampNeg) h' hw (x_grow hS hz hq) (by omega) (by omega)
    rw [List.map_cons, show mE (x_rho ad) (.inr (some (H.size + 24))) = .ref H.size from by rw [mE, x_rho_new]] at hk
    exact hk
  -- anewarray
  · rename_i i
    split at h <;> (try exact h.elim)
    rename_i n st'
    split at h <;> (try exact h.elim)
    rename_i hci
    obtain ⟨gn, ga, gb, gl, h⟩ := h
    have hfr := x_none (x_fresh hW)
    have h' := h (H.size + 24) (by omega) hfr.1 hfr.2.1 hfr.2.2
    obtain rfl : len = 3 := by simpa [mm_okl] using hn
    have hlk : (Cond.classLink RX5 i RX0).before args s0 = true := by
      replace hci : x_cl5 i = some 0 := hci
      unfold x_cl5 at hci
      split at hci
      · cases hci
      · cases hci
      · exact hts _ wd_359
      · cases hci
    refine vx_newq hx hb hown hlk hK.2.2.1 hK.1 2 rfl gn gl (by omega) (by omega) hd (fun H1 ha hz hq => ?_)
    have hX := x_X_nR (t' := (n.toNatClampNeg, fun _ => none)) hW.2.2 hfr.1 hfr.2.1
    have he : x_e cs ad (s.1, s.2.1, va_up s.2.2 (H.size + 24) (some (n.toNatClampNeg, fun _ => none))) (H.size + 24) = some (.inl (cs 2, n.toNatClampNeg, .inr (.inr (.inr (.inr (fun j => ((fun _ => none : Nat → Option Nat) j).map (x_rho ad))))))) := x_eR (t := (n.toNatClampNeg, fun _ => none)) hX (va_up_self _ _ _)
    have hw := x_W_new hW he (fun j hj => x_eq_R hj) (fun j hj => rfl) hX ha hq hAn
    have hk := kk _ _ _ _ H1 locs (cells + 1) (slots + n.toNatClampNeg) h' hw (x_grow hS hz hq) (by omega) (by omega)
    rw [List.map_cons, show mE (x_rho ad) (.inr (some (H.size + 24))) = .ref H.size from by rw [mE, x_rho_new]] at hk
    exact hk
set_option maxHeartbeats 8000000 in
set_option maxRecDepth 20000 in
theorem x_HS_6 {ini : Bool} (hini : ini = true → meth.name = "<init>") (F : CallFix p m c cc nL s0 args tb RX6) (hK : kk D cs (fun i => ad (22 + i)) A s0) (hA : ∀ q : Nat, s0.heap.size ≤ q → A q) : mm_HS p l e R s0 m args below meth c cc (x_W D cs ad A) (x_rho ad) A (x_hk ini 6) Q := by
  intro ins len pc st s a b k h hd hn H locs cells slots ls hW hS hc hs kk
  have hAn : A H.size := hA _ hS.1
  by_cases h1 : ∃ i, ins = .getfield i
  · obtain ⟨i, rfl⟩ := h1
    obtain rfl : len = 3 := by simpa [mm_okl] using hn
    exact x_get_6 (len := 3) F hK h hd hW hS hc hs kk
  by_cases h2 : ∃ i, ins = .putfield i
  · obtain ⟨i, rfl⟩ := h2
    obtain rfl : len = 3 := by simpa [mm_okl] using hn
    exact x_put_6 (len := 3) F hK hini h hd hW hS hc hs kk
  obtain ⟨hx, hb, hml, hown, hts⟩ := F
  unfold x_hk at h
  split at h
  all_goals (try exact h.elim)
  · exact absurd ⟨_, rfl⟩ h1
  · exact absurd ⟨_, rfl⟩ h2
  -- iaload
  · obtain rfl : len = 1 := by simpa [mm_okl] using hn
    split at h <;> (try exact h.elim)
    obtain ⟨t, ht, hi, h⟩ := h
    exact va_iald hx hb hK.1 (vx_P1 (hW.1 _ _ (x_eG hW.2.2 ht)).1) 0 0 rfl rfl hi hd (kk _ _ _ _ _ _ _ _ h hW hS hc hs)
  -- iastore
  · obtain rfl : len = 1 := by simpa [mm_okl] using hn
    split at h <;> (try exact h.elim)
    rename_i v i r st'
    obtain ⟨t, ht, g1, g2, hi, h⟩ := h
    exact vx_iast hx hb hK.1 0 (hW.1 _ _ (x_eG hW.2.2 ht)).1 rfl hi hd (fun H1 sl ha hz hq => kk _ _ _ _ _ _ _ _ h (x_setG (s0 := s0) (locs := locs) (sl := sl) (t' := (t.1, upd t.2 i.toNatClampNeg v)) hW hS ht g1 g2 ha hz hq).1 (x_setG (s0 := s0) (locs := locs) (sl := sl) (t' := (t.1, upd t.2 i.toNatClampNeg v)) hW hS ht g1 g2 ha hz hq).2 hc hs)
  -- aaload
  · obtain rfl : len = 1 := by simpa [mm_okl] using hn
    split at h <;> (try exact h.elim)
    rename_i i r st'
    obtain ⟨t, ht, hi, h⟩ := h
    refine va_aldq hx hb hK.1 (vx_P1 (hW.1 _ _ (x_eR hW.2.2 ht)).1) 0 2 rfl rfl hi hd ?_
    rw [← mE_rf]
    exact kk _ _ _ _ _ _ _ _ h hW hS hc hs
  -- aastore
  · obtain rfl : len = 1 := by simpa [mm_okl] using hn
    split at h <;> (try exact h.elim)
    rename_i v i r st'
    obtain ⟨t, ht, g1, g2, hi, g3, h⟩ := h
    have hat := (hW.1 _ _ (x_eR hW.2.2 ht)).1
    rcases v with _ | v
    · refine vx_astqN (C := RX0) hx hb hK.1 2 hat rfl hi hd (fun H1 sl ha hz hq => ?_)
      have ha' := ha
      rw [show (none : Option Nat) = (none : Option Nat).map (x_rho ad) from rfl, x_upR] at ha'
      exact kk _ _ _ _ _ _ _ _ h (x_setR (s0 := s0) (locs := locs) (sl := sl) (t' := (t.1, va_up t.2 i.toNatClampNeg none)) hW hS ht g1 g2 ha' hz hq).1 (x_setR (s0 := s0) (locs := locs) (sl := sl) (t' := (t.1, va_up t.2 i.toNatClampNeg none)) hW hS ht g1 g2 ha' hz hq).2 hc hs
    · obtain ⟨⟨ci, oi, or⟩, ho, hci⟩ := g3 v rfl
      cases hci
      refine vx_astq (r := (RX0, TX0, 9)) hx hb hK.1 2 0 hat rfl (hW.1 _ _ (x_eO ho)).1 rfl hi hd (fun H1 sl ha hz hq => ?_)
      have ha' := ha
      rw [show some (x_rho ad v) = (some v).map (x_rho ad) from rfl, x_upR] at ha'
      exact kk _ _ _ _ _ _ _ _ h (x_setR (s0 := s0) (locs := locs) (sl := sl) (t' := (t.1, va_up t.2 i.toNatClampNeg (some v))) hW hS ht g1 g2 ha' hz hq).1 (x_setR (s0 := s0) (locs := locs) (sl := sl) (t' := (t.1, va_up t.2 i.toNatClampNeg (some v))) hW hS ht g1 g2 ha' hz hq).2 hc hs
  -- arraylength
  · obtain rfl : len = 1 := by simpa [mm_okl] using hn
    split at h <;> (try exact h.elim)
    rename_i r st'
    obtain ⟨n, hl, h⟩ := h
    unfold x_len at hl
    split at hl
    · rename_i t ht
      cases hl
      exact va_alen hx hb hK.1 (vx_P1 (hW.1 _ _ (x_eG hW.2.2 ht)).1) 0 0 rfl rfl rfl hd (kk _ _ _ _ _ _ _ _ h hW hS hc hs)
    · obtain ⟨t, ht, hl⟩ := Option.map_eq_some_iff.mp hl
      cases hl
      exact va_alen hx hb hK.1 (vx_P1 (hW.1 _ _ (x_eR hW.2.2 ht)).1) 0 2 rfl rfl rfl hd (kk _ _ _ _ _ _ _ _ h hW hS hc hs)
  -- new
  · rename_i i
    obtain rfl : len = 3 := by simpa [mm_okl] using hn
    split at h <;> (try exact h.elim)
    rename_i ci hci
    obtain ⟨ga, gb, h⟩ := h
    have hfr := x_none (x_fresh hW)
    have h' := h (H.size + 24) (by omega) hfr.1 hfr.2.1 hfr.2.2
    replace hci : x_cl6 i = some ci := hci
    unfold x_cl6 at hci
    split at hci
    · cases hci
      refine vx_new (ci := 0) (fs := [.int 0, .int 0, .null, .null, .null, .null, .int 0, .int 0, .int 0]) (C := RX0) (T := TX0) (N := 9) (own := RX6) hx hb hts in_X0 tyX0 tyX0_ok hown (hts _ wd_66) (hts _ wd_171) (hts _ wd_55) hK.1 rfl (fun j hj => by rcases (show j = 0 ∨ j = 1 ∨ j = 2 ∨ j = 3 ∨ j = 4 ∨ j = 5 ∨ j = 6 ∨ j = 7 ∨ j = 8 by omega) with rfl | rfl | rfl | rfl | rfl | rfl | rfl | rfl | rfl <;> rfl) (by omega) (by have hb : x_nf 0 = 9 := rfl; omega) hd (fun H1 ha hz hq => ?_)
      have hX := x_X_nO (o' := (0, fun _ => 0, fun _ => none)) hW.2.2 hfr.2.1 hfr.2.2
      have he : x_e cs ad (va_up s.1 (H.size + 24) (some (0, fun _ => 0, fun _ => none)), s.2) (H.size + 24) = some (.inr (0, x_fs ad (0, fun _ => 0, fun _ => none))) := x_eO (o := (0, fun _ => 0, fun _ => none)) (va_up_self _ _ _)
      have hw := x_W_new hW he (fun j hj => x_eq_O hj) (fun j hj => va_up_ne _ _ hj) hX ha hq hAn
      have hk := kk _ _ _ _ H1 locs (cells + 1) (slots + 9) h' hw (x_grow hS hz hq) (by omega) (by have hb : x_nf 0 = 9 := rfl; omega)
      rw [List.map_cons, show mE (x_rho ad) (.inr (some (H.size + 24))) = .ref H.size from by rw [mE, x_rho_new]] at hk
      exact hk
    · cases hci
      refine vx_new (ci := 3) (fs := [.null, .int 0]) (C := RX3) (T := TX3) (N := 2) (own := RX6) hx hb hts in_X3 tyX3 tyX3_ok hown (hts _ wd_68) (hts _ wd_69) (hts _ wd_50) hK.1 rfl (fun j hj => by rcases (show j = 0 ∨ j = 1 by omega) with rfl | rfl <;> rfl) (by omega) (by have hb : x_nf 3 = 2 := rfl; omega) hd (fun H1 ha hz hq => ?_)
      have hX := x_X_nO (o' := (3, fun _ => 0, fun _ => none)) hW.2.2 hfr.2.1 hfr.2.2
      have he : x_e cs ad (va_up s.1 (H.size + 24) (some (3, fun _ => 0, fun _ => none)), s.2) (H.size + 24) = some (.inr (3, x_fs ad (3, fun _ => 0, fun _ => none))) := x_eO (o := (3, fun _ => 0, fun _ => none)) (va_up_self _ _ _)
      have hw := x_W_new hW he (fun j hj => x_eq_O hj) (fun j hj => va_up_ne _ _ hj) hX ha hq hAn
      have hk := kk _ _ _ _ H1 locs (cells + 1) (slots + 2) h' hw (x_grow hS hz hq) (by omega) (by have hb : x_nf 3 = 2 := rfl; omega)
      rw [List.map_cons, show mE (x_rho ad) (.inr (some (H.size + 24))) = .ref H.size from by rw [mE, x_rho_new]] at hk
      exact hk
    · cases hci
      refine vx_new (ci := 2) (fs := [.null, .null, .int 0, .int 0]) (C := RX2) (T := TX2) (N := 4) (own := RX6) hx hb hts in_X2 tyX2 tyX2_ok hown (hts _ wd_84) (hts _ wd_85) (hts _ wd_51) hK.1 rfl (fun j hj => by rcases (show j = 0 ∨ j = 1 ∨ j = 2 ∨ j = 3 by omega) with rfl | rfl | rfl | rfl <;> rfl) (by omega) (by have hb : x_nf 2 = 4 := rfl; omega) hd (fun H1 ha hz hq => ?_)
      have hX := x_X_nO (o' := (2, fun _ => 0, fun _ => none)) hW.2.2 hfr.2.1 hfr.2.2
      have he : x_e cs ad (va_up s.1 (H.size + 24) (some (2, fun _ => 0, fun _ => none)), s.2) (H.size + 24) = some (.inr (2, x_fs ad (2, fun _ => 0, fun _ => none))) := x_eO (o := (2, fun _ => 0, fun _ => none)) (va_up_self _ _ _)
      have hw := x_W_new hW he (fun j hj => x_eq_O hj) (fun j hj => va_up_ne _ _ hj) hX ha hq hAn
      have hk := kk _ _ _ _ H1 locs (cells + 1) (slots + 4) h' hw (x_grow hS hz hq) (by omega) (by have hb : x_nf 2 = 4 := rfl; omega)
      rw [List.map_cons, show mE (x_rho ad) (.inr (some (H.size + 24))) = .ref H.size from by rw [mE, x_rho_new]] at hk
      exact hk
    · cases hci
      refine vx_new (ci := 1) (fs := [.null, .int 0]) (C := RX1) (T := TX1) (N := 2) (own := RX6) hx hb hts in_X1 tyX1 tyX1_ok hown (hts _ wd_106) (hts _ wd_107) (hts _ wd_52) hK.1 rfl (fun j hj => by rcases (show j = 0 ∨ j = 1 by omega) with rfl | rfl <;> rfl) (by omega) (by have hb : x_nf 1 = 2 := rfl; omega) hd (fun H1 ha hz hq => ?_)
      have hX := x_X_nO (o' := (1, fun _ => 0, fun _ => none)) hW.2.2 hfr.2.1 hfr.2.2
      have he : x_e cs ad (va_up s.1 (H.size + 24) (some (1, fun _ => 0, fun _ => none)), s.2) (H.size + 24) = some (.inr (1, x_fs ad (1, fun _ => 0, fun _ => none))) := x_eO (o := (1, fun _ => 0, fun _ => none)) (va_up_self _ _ _)
      have hw := x_W_new hW he (fun j hj => x_eq_O hj) (fun j hj => va_up_ne _ _ hj) hX ha hq hAn
      have hk := kk _ _ _ _ H1 locs (cells + 1) (slots + 2) h' hw (x_grow hS hz hq) (by omega) (by have hb : x_nf 1 = 2 := rfl; omega)
      rw [List.map_cons, show mE (x_rho ad) (.inr (some (H.size + 24))) = .ref H.size from by rw [mE, x_rho_new]] at hk
      exact hk
    · cases hci
      refine vx_new (ci := 5) (fs := [.null, .null, .null, .int 0, .null]) (C := RX5) (T := TX5) (N := 5) (own := RX6) hx hb hts in_X5 tyX5 tyX5_ok hown (hts _ wd_122) (hts _ wd_123) (hts _ wd_53) hK.1 rfl (fun j hj => by rcases (show j = 0 ∨ j = 1 ∨ j = 2 ∨ j = 3 ∨ j = 4 by omega) with rfl | rfl | rfl | rfl | rfl <;> rfl) (by omega) (by have hb : x_nf 5 = 5 := rfl; omega) hd (fun H1 ha hz hq => ?_)
      have hX := x_X_nO (o' := (5, fun _ => 0, fun _ => none)) hW.2.2 hfr.2.1 hfr.2.2
      have he : x_e cs ad (va_up s.1 (H.size + 24) (some (5, fun _ => 0, fun _ => none)), s.2) (H.size + 24) = some (.inr (5, x_fs ad (5, fun _ => 0, fun _ => none))) := x_eO (o := (5, fun _ => 0, fun _ => none)) (va_up_self _ _ _)
      have hw := x_W_new hW he (fun j hj => x_eq_O hj) (fun j hj => va_up_ne _ _ hj) hX ha hq hAn
      have hk := kk _ _ _ _ H1 locs (cells + 1) (slots + 5) h' hw (x_grow hS hz hq) (by omega) (by have hb : x_nf 5 = 5 := rfl; omega)
      rw [List.map_cons, show mE (x_rho ad) (.inr (some (H.size + 24))) = .ref H.size from by rw [mE, x_rho_new]] at hk
      exact hk
    · cases hci
      refine vx_new (ci := 4) (fs := [.int 0, .int 0, .int 0]) (C := RX4) (T := TX4) (N := 3) (own := RX6) hx hb hts in_X4 tyX4 tyX4_ok hown (hts _ wd_149) (hts _ wd_150) (hts _ wd_54) hK.1 rfl (fun j hj => by rcases (show j = 0 ∨ j = 1 ∨ j = 2 by omega) with rfl | rfl | rfl <;> rfl) (by omega) (by have hb : x_nf 4 = 3 := rfl; omega) hd (fun H1 ha hz hq => ?_)
      have hX := x_X_nO (o' := (4, fun _ => 0, fun _ => none)) hW.2.2 hfr.2.1 hfr.2.2
      have he : x_e cs ad (va_up s.1 (H.size + 24) (some (4, fun _ => 0, fun _ => none)), s.2) (H.size + 24) = some (.inr (4, x_fs ad (4, fun _ => 0, fun _ => none))) := x_eO (o := (4, fun _ => 0, fun _ => none)) (va_up_self _ _ _)
      have hw := x_W_new hW he (fun j hj => x_eq_O hj) (fun j hj => va_up_ne _ _ hj) hX ha hq hAn
      have hk := kk _ _ _ _ H1 locs (cells + 1) (slots + 3) h' hw (x_grow hS hz hq) (by omega) (by have hb : x_nf 4 = 3 := rfl; omega)
      rw [List.map_cons, show mE (x_rho ad) (.inr (some (H.size + 24))) = .ref H.size from by rw [mE, x_rho_new]] at hk
      exact hk
    · cases hci
  -- newarray
  · obtain rfl : len = 2 := by simpa [mm_okl] using hn
    split at h <;> (try exact h.elim)
    rename_i n st'
    obtain ⟨gn, ga, gb, gl, h⟩ := h
    have hfr := x_none (x_fresh hW)
    have h' := h (H.size + 24) (by omega) hfr.1 hfr.2.1 hfr.2.2
    refine vx_newi hx hb (hts _ wd_83) hK.1 0 rfl gn gl (by omega) (by omega) hd (fun H1 ha hz hq => ?_)
    have hX := x_X_nG (t' := (n.toNatClampNeg, fun _ => 0)) hW.2.2 hfr.1 hfr.2.2
    have he : x_e cs ad (s.1, va_up s.2.1 (H.size + 24) (some (n.toNatClampNeg, fun _ => 0)), s.2.2) (H.size + 24) = some (.inl (cs 0, n.toNatClampNeg, .inl (fun _ => 0))) := x_eG (t := (n.toNatClampNeg, fun _ => 0)) hX (va_up_self _ _ _)
    have hw := x_W_new hW he (fun j hj => x_eq_G hj) (fun j hj => rfl) hX ha hq hAn
    have hk := kk _ _ _ _ H1 locs (cells + 1) (slots + n.toNatClampNeg) h' hw (x_grow hS hz hq) (by omega) (by omega)
    rw [List.map_cons, show mE (x_rho ad) (.inr (some (H.size + 24))) = .ref H.size from by rw [mE, x_rho_new]] at hk
    exact hk
  -- anewarray
  · rename_i i
    split at h <;> (try exact h.elim)
    rename_i n st'
    split at h <;> (try exact h.elim)
    rename_i hci
    obtain ⟨gn, ga, gb, gl, h⟩ := h
    have hfr := x_none (x_fresh hW)
    have h' := h (H.size + 24) (by omega) hfr.1 hfr.2.1 hfr.2.2
    obtain rfl : len = 3 := by simpa [mm_okl] using hn
    have hlk : (Cond.classLink RX6 i RX0).before args s0 = true := by
      replace hci : x_cl6 i = some 0 := hci
      unfold x_cl6 at hci
      split at hci
      · exact hts _ wd_66
      · cases hci
      · cases hci
      · cases hci
      · cases hci
      · cases hci
      · cases hci
    refine vx_newq hx hb hown hlk hK.2.2.1 hK.1 2 rfl gn gl (by omega) (by omega) hd (fun H1 ha hz hq => ?_)
    have hX := x_X_nR (t' := (n.toNatClampNeg, fun _ => none)) hW.2.2 hfr.1 hfr.2.1
    have he : x_e cs ad (s.1, s.2.1, va_up s.2.2 (H.size + 24) (some (n.toNatClampNeg, fun _ => none))) (H.size + 24) = some (.inl (cs 2, n.toNatClampNeg, .inr (.inr (.inr (.inr (fun j => ((fun _ => none : Nat → Option Nat) j).map (x_rho ad))))))) := x_eR (t := (n.toNatClampNeg, fun _ => none)) hX (va_up_self _ _ _)
    have hw := x_W_new hW he (fun j hj => x_eq_R hj) (fun j hj => rfl) hX ha hq hAn
    have hk := kk _ _ _ _ H1 locs (cells + 1) (slots + n.toNatClampNeg) h' hw (x_grow hS hz hq) (by omega) (by omega)
    rw [List.map_cons, show mE (x_rho ad) (.inr (some (H.size + 24))) = .ref H.size from by rw [mE, x_rho_new]] at hk
    exact hk
  -- getstatic
  · rename_i i
    obtain rfl : len = 3 := by simpa [mm_okl] using hn
    split at h <;> (try exact h.elim)
    rename_i r hr
    replace hr : x_sm6 i = some r := hr
    unfold x_sm6 at hr
    split at hr
    · cases hr; exact va_gets (own := RX6) (ref := RX6) hx hb hK.2.2.2.1 hS hown (hts _ wd_279) (fun _ h9 => h9) hd (kk _ _ _ _ _ _ _ _ h hW hS hc hs)
    · cases hr; exact va_gets (own := RX6) (ref := RX6) hx hb hK.2.2.2.2 hS hown (hts _ wd_281) (fun _ h9 => h9) hd (kk _ _ _ _ _ _ _ _ h hW hS hc hs)
    · cases hr
end XT
end
section
/-! ===== further calls: nest mates, constructors, Object.<init>, Math ===== -/
section MMX
variable {S : Type} {l : Launch} {Wd : S → Heap → Prop} {KK : State → Prop} {rho : Nat → Nat} {A : Nat → Prop} {nL n : Nat} {y : MethodName} {cc : ByteArray}
variable {p : Program} {e : Env} {mc ms : Nat} {s0 : State} {m : MethodId} {args : Array Value} {below : List Frame} {meth : Method} {c : Code} {own C host : String} {i na kd n' nLy : Nat} {cy : ByteArray} {rty : Option FieldType} {P : mP S}
/-- a virtual call of a nest mate's private method -/
theorem mm_CSVN (F : CallFix p m c cc nL s0 args tb own) (hK : KK s0) (hKW : mm_KW KK A) (hA : ∀ q : Nat, s0.heap.size ≤ q → A q) (So : mm_So l Wd KK rho A y cy nLy rty n' P) (hn : n' + 1 ≤ n) (hL : nLy ≤ 21) (w1 : va_Nw (.methodLinkNest own i y host) s0) (w2 : Cond.instanceMethod y ∈ tb) (w3 : Cond.selects C y y ∈ tb) (w4 : Cond.initialized y.cls ∈ tb) (w5 : Cond.code y cy nLy rty ∈ tb)
    (hd : y.cls ≠ "java/lang/invoke/MethodHandle" ∧ y.cls ≠ "java/lang/invoke/VarHandle" ∧ (parseMethodDescriptor y.desc).map (fun d => d.parameters.length) = some na)
    (recv : ∀ (as : List mV) (s : S) (mc ms : Nat) (ret : Option mV → S → Prop), P as s mc ms ret → as.length = na + 1 → ∃ (b : Nat) (as' : List mV), as = .inr (some b) :: as' ∧ ∀ H : Heap, Wd s H → ∃ cellB : Cell, H[rho b]? = some cellB ∧ cellB.vm.isStatics = false ∧ s0.vm.findClass C = some cellB.cls) :
    mm_CS p l e (mm_rm n mc ms) s0 m args below meth c cc nL Wd rho A ((0, i), na + 1, kd, P) := by
  intro as s mc' ms' ret hP hlen H locs cells slots pc ls rest hdg hW hS hc hs hsz hrl
  obtain ⟨b, as', rfl, hrc⟩ := recv _ _ _ _ _ hP hlen
  have hRR : (mm_rm n' mc' ms').frames + 1 ≤ (mm_rm n mc ms).frames ∧ 8 + (nLy + 11) + (mm_rm n' mc' ms').locals ≤ (mm_rm n mc ms).locals := ⟨hn, by show 8 + (nLy + 11) + 40 * n' ≤ 40 * n; omega⟩
  have e1 : ((Sum.inr (some b) :: as').reverse.map (mE rho) ++ rest.map (mE rho)) = (as'.map (mE rho)).reverse ++ .ref (rho b) :: rest.map (mE rho) := by
    simp [mE]
  rw [e1]
  exact va_runVN (As := as'.map (mE rho)) F (So _ _ _ _ _ hP) ⟨va_cnB na F.2.2.2.2 (tb_goodIn w5 (fun _ h => h)) rfl rfl rfl w1 (F.2.2.2.2 _ w4) hd hRR, F.2.2.2.2 _ w2, F.2.2.2.2 _ w3⟩ ⟨mm_blind hKW, hrc H hW, fun U hU hWm => ⟨rfl, hKW.1 s0 U hWm (hS.F hU) hK, by rw [hU]; exact hW, by rw [hU]; exact fun q h => hA q (Nat.le_trans hS.1 h)⟩⟩ rfl (by simpa using hlen) hsz rfl (lv_room (by rw [mm_cats]; exact hrl)) hdg ⟨hc, hs⟩
/-- a constructor's call: the receiver is a reference -/
theorem mm_CSI (F : CallFix p m c cc nL s0 args tb own) (hK : KK s0) (hKW : mm_KW KK A) (hA : ∀ q : Nat, s0.heap.size ≤ q → A q) (So : mm_So l Wd KK rho A y cy nLy none n' P) (hn : n' + 1 ≤ n) (hL : nLy ≤ 21) (w1 : Cond.methodLink own i y ∈ tb) (w2 : Cond.instanceMethod y ∈ tb) (w4 : Cond.initialized y.cls ∈ tb) (w5 : Cond.code y cy nLy none ∈ tb) (hy1 : y.name = "<init>")
    (hd : y.cls ≠ "java/lang/invoke/MethodHandle" ∧ y.cls ≠ "java/lang/invoke/VarHandle" ∧ (parseMethodDescriptor y.desc).map (fun d => d.parameters.length) = some na)
    (recv : ∀ (as : List mV) (s : S) (mc ms : Nat) (ret : Option mV → S → Prop), P as s mc ms ret → as.length = na + 1 → ∃ (b : Nat) (as' : List mV), as = .inr (some b) :: as') :
    mm_CS p l e (mm_rm n mc ms) s0 m args below meth c cc nL Wd rho A ((2, i), na + 1, kd, P) := by
  intro as s mc' ms' ret hP hlen H locs cells slots pc ls rest hdg hW hS hc hs hsz hrl
  obtain ⟨b, as', rfl⟩ := recv _ _ _ _ _ hP hlen
  have hRR : (mm_rm n' mc' ms').frames + 1 ≤ (mm_rm n mc ms).frames ∧ 8 + (nLy + 11) + (mm_rm n' mc' ms').locals ≤ (mm_rm n mc ms).locals := ⟨hn, by show 8 + (nLy + 11) + 40 * n' ≤ 40 * n; omega⟩
  have e1 : ((Sum.inr (some b) :: as').reverse.map (mE rho) ++ rest.map (mE rho)) = (as'.map (mE rho)).reverse ++ .ref (rho b) :: rest.map (mE rho) := by
    simp [mE]
  rw [e1]
  exact va_runI (As := as'.map (mE rho)) F (So _ _ _ _ _ hP) (cwI na F.2.2.2.2 (tb_goodIn w5 (fun _ h => h)) rfl rfl rfl (F.2.2.2.2 _ w4) (F.2.2.2.2 _ w1) (F.2.2.2.2 _ w2) hy1 hd hRR) ⟨mm_blind hKW, fun U hU hWm => ⟨rfl, hKW.1 s0 U hWm (hS.F hU) hK, by rw [hU]; exact hW, by rw [hU]; exact fun q h => hA q (Nat.le_trans hS.1 h)⟩⟩ rfl (by simpa using hlen) hsz rfl (lv_room (by rw [mm_cats]; exact hrl)) hdg ⟨hc, hs⟩
/-- a nest mate's private constructor -/
theorem mm_CSIN (F : CallFix p m c cc nL s0 args tb own) (hK : KK s0) (hKW : mm_KW KK A) (hA : ∀ q : Nat, s0.heap.size ≤ q → A q) (So : mm_So l Wd KK rho A y cy nLy none n' P) (hn : n' + 1 ≤ n) (hL : nLy ≤ 21) (w1 : va_Nw (.methodLinkNest own i y host) s0) (w2 : Cond.instanceMethod y ∈ tb) (w4 : Cond.initialized y.cls ∈ tb) (w5 : Cond.code y cy nLy none ∈ tb) (hy1 : y.name = "<init>")
    (hd : y.cls ≠ "java/lang/invoke/MethodHandle" ∧ y.cls ≠ "java/lang/invoke/VarHandle" ∧ (parseMethodDescriptor y.desc).map (fun d => d.parameters.length) = some na)
    (recv : ∀ (as : List mV) (s : S) (mc ms : Nat) (ret : Option mV → S → Prop), P as s mc ms ret → as.length = na + 1 → ∃ (b : Nat) (as' : List mV), as = .inr (some b) :: as') :
    mm_CS p l e (mm_rm n mc ms) s0 m args below meth c cc nL Wd rho A ((2, i), na + 1, kd, P) := by
  intro as s mc' ms' ret hP hlen H locs cells slots pc ls rest hdg hW hS hc hs hsz hrl
  obtain ⟨b, as', rfl⟩ := recv _ _ _ _ _ hP hlen
  have hRR : (mm_rm n' mc' ms').frames + 1 ≤ (mm_rm n mc ms).frames ∧ 8 + (nLy + 11) + (mm_rm n' mc' ms').locals ≤ (mm_rm n mc ms).locals := ⟨hn, by show 8 + (nLy + 11) + 40 * n' ≤ 40 * n; omega⟩
  have e1 : ((Sum.inr (some b) :: as').reverse.map (mE rho) ++ rest.map (mE rho)) = (as'.map (mE rho)).reverse ++ .ref (rho b) :: rest.map (mE rho) := by
    simp [mE]
  rw [e1]
  exact va_runIN (As := as'.map (mE rho)) F (So _ _ _ _ _ hP) ⟨va_cnB na F.2.2.2.2 (tb_goodIn w5 (fun _ h => h)) rfl rfl rfl w1 (F.2.2.2.2 _ w4) hd hRR, hy1, F.2.2.2.2 _ w2⟩ ⟨mm_blind hKW, fun U hU hWm => ⟨rfl, hKW.1 s0 U hWm (hS.F hU) hK, by rw [hU]; exact hW, by rw [hU]; exact fun q h => hA q (Nat.le_trans hS.1 h)⟩⟩ rfl (by simpa using hlen) hsz rfl (lv_room (by rw [mm_cats]; exact hrl)) hdg ⟨hc, hs⟩
def mm_Pobj : mP S := fun as s mc ms ret => mc = 0 ∧ ms = 0 ∧ (∃ r, as = [.inr (some r)]) ∧ ret none s
def mm_Pmax : mP S := fun as s mc ms ret => mc = 0 ∧ ms = 0 ∧ ∃ x y, as = [.inl x, .inl y] ∧ ret (some (.inl (if x < y then y else x))) s
def mm_Pmin : mP S := fun as s mc ms ret => mc = 0 ∧ ms = 0 ∧ ∃ x y, as = [.inl x, .inl y] ∧ ret (some (.inl (if y < x then y else x))) s
theorem va_F_rf (A : Nat → Prop) (T : State) : va_F A T T := ⟨Nat.le_refl _, fun _ _ _ => rfl⟩
theorem mm_CSO (F : CallFix p m c cc nL s0 args tb own) (hn : 1 ≤ n) (w1 : Cond.methodLink own i objectInit ∈ tb) : mm_CS p l e (mm_rm n mc ms) s0 m args below meth c cc nL Wd rho A ((2, i), 1, 0, mm_Pobj) := by
  intro as s mc' ms' ret hP hlen H locs cells slots pc ls rest hdg hW hS hc hs hsz hrl
  obtain ⟨rfl, rfl, ⟨r, rfl⟩, hret⟩ := hP
  intro T hT X
  refine W.toGoes (g := F0 m pc ls (.ref (rho r) :: rest.map (mE rho))) hT X ?_
  refine W.objInit F.1 F.2.1 F.2.2.2.1 (F.2.2.2.2 _ w1) (F.2.2.2.2 _ wd_64) (F.2.2.2.2 _ wd_65) rfl (by rw [F.2.2.1]; exact hsz) rfl hdg hn (by show 2 * 0 + ((rest.map (mE rho)).map fun v => v.category).sum + 12 ≤ 40 * n; rw [mm_cats]; omega) ?_
  refine W.here (fun T' hT' X' hgo => ⟨none, T', T', T', [], hT', ?_, fun q hq => by simp at hq, rfl, rfl, ⟨⟨none, s, rfl, hret, by rw [hT']; exact hW⟩, va_F_rf _ _⟩, hgo⟩)
  rw [List.append_nil]
  exact X'
theorem mm_CSmax (F : CallFix p m c cc nL s0 args tb own) (hn : 1 ≤ n) (w1 : Cond.methodLink own i Lib.Math.max.name ∈ tb) : mm_CS p l e (mm_rm n mc ms) s0 m args below meth c cc nL Wd rho A ((1, i), 2, 1, mm_Pmax) := by
  intro as s mc' ms' ret hP hlen H locs cells slots pc ls rest hdg hW hS hc hs hsz hrl
  obtain ⟨rfl, rfl, x, y, rfl, hret⟩ := hP
  intro T hT X
  refine W.toGoes (g := F0 m pc ls (.int y :: .int x :: rest.map (mE rho))) hT X ?_
  refine va_mmax F.1 F.2.1 (F.2.2.1.trans hsz.symm) F.2.2.2.1 (F.2.2.2.2 _ w1) (F.2.2.2.2 _ wd_352) (F.2.2.2.2 _ wd_57) (F.2.2.2.2 _ wd_353) hn (by show ((rest.map (mE rho)).map fun v => v.category).sum + 13 ≤ 40 * n; rw [mm_cats]; omega) hc hs hdg ?_
  refine W.here (fun T' hT' X' hgo => ⟨some (.int _), T', T', T', [], hT', ?_, fun q hq => by simp at hq, rfl, rfl, ⟨⟨some (.inl _), s, rfl, hret, by rw [hT']; exact hW⟩, va_F_rf _ _⟩, hgo⟩)
  rw [List.append_nil]
  exact X'
theorem mm_CSmin (F : CallFix p m c cc nL s0 args tb own) (hn : 1 ≤ n) (w1 : Cond.methodLink own i Lib.Math.min.name ∈ tb) : mm_CS p l e (mm_rm n mc ms) s0 m args below meth c cc nL Wd rho A ((1, i), 2, 1, mm_Pmin) := by
  intro as s mc' ms' ret hP hlen H locs cells slots pc ls rest hdg hW hS hc hs hsz hrl
  obtain ⟨rfl, rfl, x, y, rfl, hret⟩ := hP
  intro T hT X
  refine W.toGoes (g := F0 m pc ls (.int y :: .int x :: rest.map (mE rho))) hT X ?_
  refine va_mmin F.1 F.2.1 (F.2.2.1.trans hsz.symm) F.2.2.2.1 (F.2.2.2.2 _ w1) (F.2.2.2.2 _ wd_498) (F.2.2.2.2 _ wd_57) (F.2.2.2.2 _ wd_499) hn (by show ((rest.map (mE rho)).map fun v => v.category).sum + 13 ≤ 40 * n; rw [mm_cats]; omega) hc hs hdg ?_
  refine W.here (fun T' hT' X' hgo => ⟨some (.int _), T', T', T', [], hT', ?_, fun q hq => by simp at hq, rfl, rfl, ⟨⟨some (.inl _), s, rfl, hret, by rw [hT']; exact hW⟩, va_F_rf _ _⟩, hgo⟩)
  rw [List.append_nil]
  exact X'
end MMX
end
