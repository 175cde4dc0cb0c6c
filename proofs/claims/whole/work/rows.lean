section
-- ===== PART A: goes FIRST, ahead of the names: the tables' words, and 'selects' of the private methods out of them =====
/-- a private method of a class that the tables say can be made, by its rows of tables_1 -/
def lw_okq (q : MethodName × Nat) : Prop := (q.1.cls ≠ "java/lang/invoke/MethodHandle" ∧ q.1.cls ≠ "java/lang/invoke/VarHandle") ∧ Cond.instantiable q.1.cls q.2 ∈ tables_1 ∧ Cond.privateMethod q.1 ∈ tables_1 ∧ Cond.instanceMethod q.1 ∈ tables_1
theorem lw_p0 : lw_okq (⟨"WallpaperGroups", "refresh", "()V"⟩, 6) := ⟨⟨by decide +kernel, by decide +kernel⟩, List.mem_of_getElem? (i := 11) (by decide +kernel), List.mem_of_getElem? (i := 161) (by decide +kernel), List.mem_of_getElem? (i := 162) (by decide +kernel)⟩
theorem lw_p1 : lw_okq (⟨"WallpaperGroups$Group", "admit", "(I)V"⟩, 8) := ⟨⟨by decide +kernel, by decide +kernel⟩, List.mem_of_getElem? (i := 70) (by decide +kernel), List.mem_of_getElem? (i := 172) (by decide +kernel), List.mem_of_getElem? (i := 173) (by decide +kernel)⟩
theorem lw_p2 : lw_okq (⟨"WallpaperGroups$Lattice", "timesPart", "(II)I"⟩, 2) := ⟨⟨by decide +kernel, by decide +kernel⟩, List.mem_of_getElem? (i := 19) (by decide +kernel), List.mem_of_getElem? (i := 234) (by decide +kernel), List.mem_of_getElem? (i := 235) (by decide +kernel)⟩
theorem lw_p3 : lw_okq (⟨"WallpaperGroups$Group", "listByCode", "()V"⟩, 8) := ⟨⟨by decide +kernel, by decide +kernel⟩, List.mem_of_getElem? (i := 70) (by decide +kernel), List.mem_of_getElem? (i := 250) (by decide +kernel), List.mem_of_getElem? (i := 251) (by decide +kernel)⟩
theorem lw_p4 : lw_okq (⟨"WallpaperGroups$Features", "note", "(I)V"⟩, 5) := ⟨⟨by decide +kernel, by decide +kernel⟩, List.mem_of_getElem? (i := 102) (by decide +kernel), List.mem_of_getElem? (i := 267) (by decide +kernel), List.mem_of_getElem? (i := 268) (by decide +kernel)⟩
theorem lw_p5 : lw_okq (⟨"WallpaperGroups$Lattice", "isReflection", "(I)Z"⟩, 2) := ⟨⟨by decide +kernel, by decide +kernel⟩, List.mem_of_getElem? (i := 19) (by decide +kernel), List.mem_of_getElem? (i := 276) (by decide +kernel), List.mem_of_getElem? (i := 277) (by decide +kernel)⟩
theorem lw_p6 : lw_okq (⟨"WallpaperGroups$Cells", "findOrbit", "(I)V"⟩, 10) := ⟨⟨by decide +kernel, by decide +kernel⟩, List.mem_of_getElem? (i := 124) (by decide +kernel), List.mem_of_getElem? (i := 287) (by decide +kernel), List.mem_of_getElem? (i := 288) (by decide +kernel)⟩
theorem lw_p7 : lw_okq (⟨"WallpaperGroups$Cells", "reach", "(I)V"⟩, 10) := ⟨⟨by decide +kernel, by decide +kernel⟩, List.mem_of_getElem? (i := 124) (by decide +kernel), List.mem_of_getElem? (i := 291) (by decide +kernel), List.mem_of_getElem? (i := 292) (by decide +kernel)⟩
theorem lw_p8 : lw_okq (⟨"WallpaperGroups$History", "forgetOldest", "()V"⟩, 2) := ⟨⟨by decide +kernel, by decide +kernel⟩, List.mem_of_getElem? (i := 54) (by decide +kernel), List.mem_of_getElem? (i := 328) (by decide +kernel), List.mem_of_getElem? (i := 329) (by decide +kernel)⟩
theorem lw_p9 : lw_okq (⟨"WallpaperGroups$Group", "classify", "(I)V"⟩, 8) := ⟨⟨by decide +kernel, by decide +kernel⟩, List.mem_of_getElem? (i := 70) (by decide +kernel), List.mem_of_getElem? (i := 488) (by decide +kernel), List.mem_of_getElem? (i := 489) (by decide +kernel)⟩
theorem lw_p10 : lw_okq (⟨"WallpaperGroups$Group", "admitToClass", "(I)V"⟩, 8) := ⟨⟨by decide +kernel, by decide +kernel⟩, List.mem_of_getElem? (i := 70) (by decide +kernel), List.mem_of_getElem? (i := 492) (by decide +kernel), List.mem_of_getElem? (i := 493) (by decide +kernel)⟩
theorem lw_p11 : lw_okq (⟨"WallpaperGroups$Lattice", "inversePart", "(I)I"⟩, 2) := ⟨⟨by decide +kernel, by decide +kernel⟩, List.mem_of_getElem? (i := 19) (by decide +kernel), List.mem_of_getElem? (i := 500) (by decide +kernel), List.mem_of_getElem? (i := 501) (by decide +kernel)⟩
theorem lw_p12 : lw_okq (⟨"WallpaperGroups$Features", "occurs", "(I)Z"⟩, 5) := ⟨⟨by decide +kernel, by decide +kernel⟩, List.mem_of_getElem? (i := 102) (by decide +kernel), List.mem_of_getElem? (i := 524) (by decide +kernel), List.mem_of_getElem? (i := 525) (by decide +kernel)⟩
theorem lw_p13 : lw_okq (⟨"WallpaperGroups$Features", "keepsHalfSums", "(I)Z"⟩, 5) := ⟨⟨by decide +kernel, by decide +kernel⟩, List.mem_of_getElem? (i := 102) (by decide +kernel), List.mem_of_getElem? (i := 551) (by decide +kernel), List.mem_of_getElem? (i := 552) (by decide +kernel)⟩
theorem lw_p14 : lw_okq (⟨"WallpaperGroups$Features", "keepsHalfSum", "(III)Z"⟩, 5) := ⟨⟨by decide +kernel, by decide +kernel⟩, List.mem_of_getElem? (i := 102) (by decide +kernel), List.mem_of_getElem? (i := 555) (by decide +kernel), List.mem_of_getElem? (i := 556) (by decide +kernel)⟩
theorem lw_p15 : lw_okq (⟨"WallpaperGroups$Features", "typeWithoutTurns", "(I)I"⟩, 5) := ⟨⟨by decide +kernel, by decide +kernel⟩, List.mem_of_getElem? (i := 102) (by decide +kernel), List.mem_of_getElem? (i := 578) (by decide +kernel), List.mem_of_getElem? (i := 579) (by decide +kernel)⟩
def lw_privs_1 : List (MethodName × Nat) := [(⟨"WallpaperGroups", "refresh", "()V"⟩, 6), (⟨"WallpaperGroups$Group", "admit", "(I)V"⟩, 8), (⟨"WallpaperGroups$Lattice", "timesPart", "(II)I"⟩, 2), (⟨"WallpaperGroups$Group", "listByCode", "()V"⟩, 8), (⟨"WallpaperGroups$Features", "note", "(I)V"⟩, 5), (⟨"WallpaperGroups$Lattice", "isReflection", "(I)Z"⟩, 2), (⟨"WallpaperGroups$Cells", "findOrbit", "(I)V"⟩, 10), (⟨"WallpaperGroups$Cells", "reach", "(I)V"⟩, 10), (⟨"WallpaperGroups$History", "forgetOldest", "()V"⟩, 2), (⟨"WallpaperGroups$Group", "classify", "(I)V"⟩, 8), (⟨"WallpaperGroups$Group", "admitToClass", "(I)V"⟩, 8), (⟨"WallpaperGroups$Lattice", "inversePart", "(I)I"⟩, 2), (⟨"WallpaperGroups$Features", "occurs", "(I)Z"⟩, 5), (⟨"WallpaperGroups$Features", "keepsHalfSums", "(I)Z"⟩, 5), (⟨"WallpaperGroups$Features", "keepsHalfSum", "(III)Z"⟩, 5), (⟨"WallpaperGroups$Features", "typeWithoutTurns", "(I)I"⟩, 5)]
theorem lw_r1 : ∀ q ∈ lw_privs_1, lw_okq q := List.forall_mem_cons.mpr ⟨lw_p0, List.forall_mem_cons.mpr ⟨lw_p1, List.forall_mem_cons.mpr ⟨lw_p2, List.forall_mem_cons.mpr ⟨lw_p3, List.forall_mem_cons.mpr ⟨lw_p4, List.forall_mem_cons.mpr ⟨lw_p5, List.forall_mem_cons.mpr ⟨lw_p6, List.forall_mem_cons.mpr ⟨lw_p7, List.forall_mem_cons.mpr ⟨lw_p8, List.forall_mem_cons.mpr ⟨lw_p9, List.forall_mem_cons.mpr ⟨lw_p10, List.forall_mem_cons.mpr ⟨lw_p11, List.forall_mem_cons.mpr ⟨lw_p12, List.forall_mem_cons.mpr ⟨lw_p13, List.forall_mem_cons.mpr ⟨lw_p14, List.forall_mem_cons.mpr ⟨lw_p15, fun _ h => absurd h List.not_mem_nil⟩⟩⟩⟩⟩⟩⟩⟩⟩⟩⟩⟩⟩⟩⟩⟩
theorem lw_p16 : lw_okq (⟨"WallpaperGroups$Features", "hasReversal", "()Z"⟩, 5) := ⟨⟨by decide +kernel, by decide +kernel⟩, List.mem_of_getElem? (i := 102) (by decide +kernel), List.mem_of_getElem? (i := 582) (by decide +kernel), List.mem_of_getElem? (i := 583) (by decide +kernel)⟩
theorem lw_p17 : lw_okq (⟨"WallpaperGroups$Features", "typeWithHalfTurns", "(I)I"⟩, 5) := ⟨⟨by decide +kernel, by decide +kernel⟩, List.mem_of_getElem? (i := 102) (by decide +kernel), List.mem_of_getElem? (i := 588) (by decide +kernel), List.mem_of_getElem? (i := 589) (by decide +kernel)⟩
theorem lw_p18 : lw_okq (⟨"WallpaperGroups$Features", "typeWithThirdTurns", "()I"⟩, 5) := ⟨⟨by decide +kernel, by decide +kernel⟩, List.mem_of_getElem? (i := 102) (by decide +kernel), List.mem_of_getElem? (i := 592) (by decide +kernel), List.mem_of_getElem? (i := 593) (by decide +kernel)⟩
theorem lw_p19 : lw_okq (⟨"WallpaperGroups$Features", "fixesShortestVector", "()Z"⟩, 5) := ⟨⟨by decide +kernel, by decide +kernel⟩, List.mem_of_getElem? (i := 102) (by decide +kernel), List.mem_of_getElem? (i := 596) (by decide +kernel), List.mem_of_getElem? (i := 597) (by decide +kernel)⟩
theorem lw_p20 : lw_okq (⟨"WallpaperGroups$Features", "leastSquaredLength", "()I"⟩, 5) := ⟨⟨by decide +kernel, by decide +kernel⟩, List.mem_of_getElem? (i := 102) (by decide +kernel), List.mem_of_getElem? (i := 600) (by decide +kernel), List.mem_of_getElem? (i := 601) (by decide +kernel)⟩
theorem lw_p21 : lw_okq (⟨"WallpaperGroups$Features", "isFixedByReversal", "(II)Z"⟩, 5) := ⟨⟨by decide +kernel, by decide +kernel⟩, List.mem_of_getElem? (i := 102) (by decide +kernel), List.mem_of_getElem? (i := 607) (by decide +kernel), List.mem_of_getElem? (i := 608) (by decide +kernel)⟩
theorem lw_p22 : lw_okq (⟨"WallpaperGroups$Features", "typeWithQuarterTurns", "(I)I"⟩, 5) := ⟨⟨by decide +kernel, by decide +kernel⟩, List.mem_of_getElem? (i := 102) (by decide +kernel), List.mem_of_getElem? (i := 611) (by decide +kernel), List.mem_of_getElem? (i := 612) (by decide +kernel)⟩
theorem lw_p23 : lw_okq (⟨"WallpaperGroups$Cells", "countCycles", "(I)I"⟩, 10) := ⟨⟨by decide +kernel, by decide +kernel⟩, List.mem_of_getElem? (i := 124) (by decide +kernel), List.mem_of_getElem? (i := 678) (by decide +kernel), List.mem_of_getElem? (i := 679) (by decide +kernel)⟩
theorem lw_p24 : lw_okq (⟨"WallpaperGroups$Cells", "fillImages", "(I)V"⟩, 10) := ⟨⟨by decide +kernel, by decide +kernel⟩, List.mem_of_getElem? (i := 124) (by decide +kernel), List.mem_of_getElem? (i := 682) (by decide +kernel), List.mem_of_getElem? (i := 683) (by decide +kernel)⟩
theorem lw_p25 : lw_okq (⟨"WallpaperGroups$Cells", "walkCycle", "(I)V"⟩, 10) := ⟨⟨by decide +kernel, by decide +kernel⟩, List.mem_of_getElem? (i := 124) (by decide +kernel), List.mem_of_getElem? (i := 692) (by decide +kernel), List.mem_of_getElem? (i := 693) (by decide +kernel)⟩
theorem lw_p26 : lw_okq (⟨"WallpaperGroupsModel", "derive", "()V"⟩, 9) := ⟨⟨by decide +kernel, by decide +kernel⟩, List.mem_of_getElem? (i := 697) (by decide +kernel), List.mem_of_getElem? (i := 703) (by decide +kernel), List.mem_of_getElem? (i := 704) (by decide +kernel)⟩
theorem lw_p27 : lw_okq (⟨"WallpaperGroupsModel", "makeParts", "()V"⟩, 9) := ⟨⟨by decide +kernel, by decide +kernel⟩, List.mem_of_getElem? (i := 697) (by decide +kernel), List.mem_of_getElem? (i := 707) (by decide +kernel), List.mem_of_getElem? (i := 708) (by decide +kernel)⟩
theorem lw_p28 : lw_okq (⟨"WallpaperGroupsModel", "putPart", "(IIIII)V"⟩, 9) := ⟨⟨by decide +kernel, by decide +kernel⟩, List.mem_of_getElem? (i := 697) (by decide +kernel), List.mem_of_getElem? (i := 711) (by decide +kernel), List.mem_of_getElem? (i := 712) (by decide +kernel)⟩
theorem lw_p29 : lw_okq (⟨"WallpaperGroupsModel", "putProduct", "(III)V"⟩, 9) := ⟨⟨by decide +kernel, by decide +kernel⟩, List.mem_of_getElem? (i := 697) (by decide +kernel), List.mem_of_getElem? (i := 715) (by decide +kernel), List.mem_of_getElem? (i := 716) (by decide +kernel)⟩
theorem lw_p30 : lw_okq (⟨"WallpaperGroupsModel", "entry", "(II)I"⟩, 9) := ⟨⟨by decide +kernel, by decide +kernel⟩, List.mem_of_getElem? (i := 697) (by decide +kernel), List.mem_of_getElem? (i := 719) (by decide +kernel), List.mem_of_getElem? (i := 720) (by decide +kernel)⟩
theorem lw_p31 : lw_okq (⟨"WallpaperGroupsModel", "numberOfProduct", "(II)I"⟩, 9) := ⟨⟨by decide +kernel, by decide +kernel⟩, List.mem_of_getElem? (i := 697) (by decide +kernel), List.mem_of_getElem? (i := 723) (by decide +kernel), List.mem_of_getElem? (i := 724) (by decide +kernel)⟩
def lw_privs_2 : List (MethodName × Nat) := [(⟨"WallpaperGroups$Features", "hasReversal", "()Z"⟩, 5), (⟨"WallpaperGroups$Features", "typeWithHalfTurns", "(I)I"⟩, 5), (⟨"WallpaperGroups$Features", "typeWithThirdTurns", "()I"⟩, 5), (⟨"WallpaperGroups$Features", "fixesShortestVector", "()Z"⟩, 5), (⟨"WallpaperGroups$Features", "leastSquaredLength", "()I"⟩, 5), (⟨"WallpaperGroups$Features", "isFixedByReversal", "(II)Z"⟩, 5), (⟨"WallpaperGroups$Features", "typeWithQuarterTurns", "(I)I"⟩, 5), (⟨"WallpaperGroups$Cells", "countCycles", "(I)I"⟩, 10), (⟨"WallpaperGroups$Cells", "fillImages", "(I)V"⟩, 10), (⟨"WallpaperGroups$Cells", "walkCycle", "(I)V"⟩, 10), (⟨"WallpaperGroupsModel", "derive", "()V"⟩, 9), (⟨"WallpaperGroupsModel", "makeParts", "()V"⟩, 9), (⟨"WallpaperGroupsModel", "putPart", "(IIIII)V"⟩, 9), (⟨"WallpaperGroupsModel", "putProduct", "(III)V"⟩, 9), (⟨"WallpaperGroupsModel", "entry", "(II)I"⟩, 9), (⟨"WallpaperGroupsModel", "numberOfProduct", "(II)I"⟩, 9)]
theorem lw_r2 : ∀ q ∈ lw_privs_2, lw_okq q := List.forall_mem_cons.mpr ⟨lw_p16, List.forall_mem_cons.mpr ⟨lw_p17, List.forall_mem_cons.mpr ⟨lw_p18, List.forall_mem_cons.mpr ⟨lw_p19, List.forall_mem_cons.mpr ⟨lw_p20, List.forall_mem_cons.mpr ⟨lw_p21, List.forall_mem_cons.mpr ⟨lw_p22, List.forall_mem_cons.mpr ⟨lw_p23, List.forall_mem_cons.mpr ⟨lw_p24, List.forall_mem_cons.mpr ⟨lw_p25, List.forall_mem_cons.mpr ⟨lw_p26, List.forall_mem_cons.mpr ⟨lw_p27, List.forall_mem_cons.mpr ⟨lw_p28, List.forall_mem_cons.mpr ⟨lw_p29, List.forall_mem_cons.mpr ⟨lw_p30, List.forall_mem_cons.mpr ⟨lw_p31, fun _ h => absurd h List.not_mem_nil⟩⟩⟩⟩⟩⟩⟩⟩⟩⟩⟩⟩⟩⟩⟩⟩
theorem lw_p32 : lw_okq (⟨"WallpaperGroupsModel", "addElement", "(I)V"⟩, 9) := ⟨⟨by decide +kernel, by decide +kernel⟩, List.mem_of_getElem? (i := 697) (by decide +kernel), List.mem_of_getElem? (i := 727) (by decide +kernel), List.mem_of_getElem? (i := 728) (by decide +kernel)⟩
theorem lw_p33 : lw_okq (⟨"WallpaperGroupsModel", "times", "(II)I"⟩, 9) := ⟨⟨by decide +kernel, by decide +kernel⟩, List.mem_of_getElem? (i := 697) (by decide +kernel), List.mem_of_getElem? (i := 731) (by decide +kernel), List.mem_of_getElem? (i := 732) (by decide +kernel)⟩
theorem lw_p34 : lw_okq (⟨"WallpaperGroupsModel", "partOf", "(I)I"⟩, 9) := ⟨⟨by decide +kernel, by decide +kernel⟩, List.mem_of_getElem? (i := 697) (by decide +kernel), List.mem_of_getElem? (i := 735) (by decide +kernel), List.mem_of_getElem? (i := 736) (by decide +kernel)⟩
theorem lw_p35 : lw_okq (⟨"WallpaperGroupsModel", "cells", "()I"⟩, 9) := ⟨⟨by decide +kernel, by decide +kernel⟩, List.mem_of_getElem? (i := 697) (by decide +kernel), List.mem_of_getElem? (i := 739) (by decide +kernel), List.mem_of_getElem? (i := 740) (by decide +kernel)⟩
theorem lw_p36 : lw_okq (⟨"WallpaperGroupsModel", "uOf", "(I)I"⟩, 9) := ⟨⟨by decide +kernel, by decide +kernel⟩, List.mem_of_getElem? (i := 697) (by decide +kernel), List.mem_of_getElem? (i := 743) (by decide +kernel), List.mem_of_getElem? (i := 744) (by decide +kernel)⟩
theorem lw_p37 : lw_okq (⟨"WallpaperGroupsModel", "vOf", "(I)I"⟩, 9) := ⟨⟨by decide +kernel, by decide +kernel⟩, List.mem_of_getElem? (i := 697) (by decide +kernel), List.mem_of_getElem? (i := 747) (by decide +kernel), List.mem_of_getElem? (i := 748) (by decide +kernel)⟩
theorem lw_p38 : lw_okq (⟨"WallpaperGroupsModel", "imageX", "(III)I"⟩, 9) := ⟨⟨by decide +kernel, by decide +kernel⟩, List.mem_of_getElem? (i := 697) (by decide +kernel), List.mem_of_getElem? (i := 751) (by decide +kernel), List.mem_of_getElem? (i := 752) (by decide +kernel)⟩
theorem lw_p39 : lw_okq (⟨"WallpaperGroupsModel", "imageY", "(III)I"⟩, 9) := ⟨⟨by decide +kernel, by decide +kernel⟩, List.mem_of_getElem? (i := 697) (by decide +kernel), List.mem_of_getElem? (i := 755) (by decide +kernel), List.mem_of_getElem? (i := 756) (by decide +kernel)⟩
theorem lw_p40 : lw_okq (⟨"WallpaperGroupsModel", "codeOf", "(III)I"⟩, 9) := ⟨⟨by decide +kernel, by decide +kernel⟩, List.mem_of_getElem? (i := 697) (by decide +kernel), List.mem_of_getElem? (i := 759) (by decide +kernel), List.mem_of_getElem? (i := 760) (by decide +kernel)⟩
theorem lw_p41 : lw_okq (⟨"WallpaperGroupsModel", "modulo", "(I)I"⟩, 9) := ⟨⟨by decide +kernel, by decide +kernel⟩, List.mem_of_getElem? (i := 697) (by decide +kernel), List.mem_of_getElem? (i := 763) (by decide +kernel), List.mem_of_getElem? (i := 764) (by decide +kernel)⟩
theorem lw_p42 : lw_okq (⟨"WallpaperGroupsModel", "save", "()V"⟩, 9) := ⟨⟨by decide +kernel, by decide +kernel⟩, List.mem_of_getElem? (i := 697) (by decide +kernel), List.mem_of_getElem? (i := 806) (by decide +kernel), List.mem_of_getElem? (i := 807) (by decide +kernel)⟩
theorem lw_p43 : lw_okq (⟨"WallpaperGroupsModel", "isMovement", "(III)Z"⟩, 9) := ⟨⟨by decide +kernel, by decide +kernel⟩, List.mem_of_getElem? (i := 697) (by decide +kernel), List.mem_of_getElem? (i := 814) (by decide +kernel), List.mem_of_getElem? (i := 815) (by decide +kernel)⟩
theorem lw_p44 : lw_okq (⟨"WallpaperGroupsModel", "isGenerator", "(I)Z"⟩, 9) := ⟨⟨by decide +kernel, by decide +kernel⟩, List.mem_of_getElem? (i := 697) (by decide +kernel), List.mem_of_getElem? (i := 822) (by decide +kernel), List.mem_of_getElem? (i := 823) (by decide +kernel)⟩
theorem lw_p45 : lw_okq (⟨"WallpaperGroupsModel", "isCode", "(I)Z"⟩, 9) := ⟨⟨by decide +kernel, by decide +kernel⟩, List.mem_of_getElem? (i := 697) (by decide +kernel), List.mem_of_getElem? (i := 846) (by decide +kernel), List.mem_of_getElem? (i := 847) (by decide +kernel)⟩
theorem lw_p46 : lw_okq (⟨"WallpaperGroupsModel", "kindOfCode", "(I)I"⟩, 9) := ⟨⟨by decide +kernel, by decide +kernel⟩, List.mem_of_getElem? (i := 697) (by decide +kernel), List.mem_of_getElem? (i := 862) (by decide +kernel), List.mem_of_getElem? (i := 863) (by decide +kernel)⟩
theorem lw_p47 : lw_okq (⟨"WallpaperGroupsModel", "isTurn", "(I)Z"⟩, 9) := ⟨⟨by decide +kernel, by decide +kernel⟩, List.mem_of_getElem? (i := 697) (by decide +kernel), List.mem_of_getElem? (i := 866) (by decide +kernel), List.mem_of_getElem? (i := 867) (by decide +kernel)⟩
def lw_privs_3 : List (MethodName × Nat) := [(⟨"WallpaperGroupsModel", "addElement", "(I)V"⟩, 9), (⟨"WallpaperGroupsModel", "times", "(II)I"⟩, 9), (⟨"WallpaperGroupsModel", "partOf", "(I)I"⟩, 9), (⟨"WallpaperGroupsModel", "cells", "()I"⟩, 9), (⟨"WallpaperGroupsModel", "uOf", "(I)I"⟩, 9), (⟨"WallpaperGroupsModel", "vOf", "(I)I"⟩, 9), (⟨"WallpaperGroupsModel", "imageX", "(III)I"⟩, 9), (⟨"WallpaperGroupsModel", "imageY", "(III)I"⟩, 9), (⟨"WallpaperGroupsModel", "codeOf", "(III)I"⟩, 9), (⟨"WallpaperGroupsModel", "modulo", "(I)I"⟩, 9), (⟨"WallpaperGroupsModel", "save", "()V"⟩, 9), (⟨"WallpaperGroupsModel", "isMovement", "(III)Z"⟩, 9), (⟨"WallpaperGroupsModel", "isGenerator", "(I)Z"⟩, 9), (⟨"WallpaperGroupsModel", "isCode", "(I)Z"⟩, 9), (⟨"WallpaperGroupsModel", "kindOfCode", "(I)I"⟩, 9), (⟨"WallpaperGroupsModel", "isTurn", "(I)Z"⟩, 9)]
theorem lw_r3 : ∀ q ∈ lw_privs_3, lw_okq q := List.forall_mem_cons.mpr ⟨lw_p32, List.forall_mem_cons.mpr ⟨lw_p33, List.forall_mem_cons.mpr ⟨lw_p34, List.forall_mem_cons.mpr ⟨lw_p35, List.forall_mem_cons.mpr ⟨lw_p36, List.forall_mem_cons.mpr ⟨lw_p37, List.forall_mem_cons.mpr ⟨lw_p38, List.forall_mem_cons.mpr ⟨lw_p39, List.forall_mem_cons.mpr ⟨lw_p40, List.forall_mem_cons.mpr ⟨lw_p41, List.forall_mem_cons.mpr ⟨lw_p42, List.forall_mem_cons.mpr ⟨lw_p43, List.forall_mem_cons.mpr ⟨lw_p44, List.forall_mem_cons.mpr ⟨lw_p45, List.forall_mem_cons.mpr ⟨lw_p46, List.forall_mem_cons.mpr ⟨lw_p47, fun _ h => absurd h List.not_mem_nil⟩⟩⟩⟩⟩⟩⟩⟩⟩⟩⟩⟩⟩⟩⟩⟩
theorem lw_p48 : lw_okq (⟨"WallpaperGroupsModel", "isReflection", "(I)Z"⟩, 9) := ⟨⟨by decide +kernel, by decide +kernel⟩, List.mem_of_getElem? (i := 697) (by decide +kernel), List.mem_of_getElem? (i := 870) (by decide +kernel), List.mem_of_getElem? (i := 871) (by decide +kernel)⟩
theorem lw_p49 : lw_okq (⟨"WallpaperGroupsModel", "commutingPairs", "()I"⟩, 9) := ⟨⟨by decide +kernel, by decide +kernel⟩, List.mem_of_getElem? (i := 697) (by decide +kernel), List.mem_of_getElem? (i := 885) (by decide +kernel), List.mem_of_getElem? (i := 886) (by decide +kernel)⟩
theorem lw_p50 : lw_okq (⟨"WallpaperGroupsModel", "partSet", "(Z)I"⟩, 9) := ⟨⟨by decide +kernel, by decide +kernel⟩, List.mem_of_getElem? (i := 697) (by decide +kernel), List.mem_of_getElem? (i := 897) (by decide +kernel), List.mem_of_getElem? (i := 898) (by decide +kernel)⟩
theorem lw_p51 : lw_okq (⟨"WallpaperGroupsModel", "greatestTurn", "()I"⟩, 9) := ⟨⟨by decide +kernel, by decide +kernel⟩, List.mem_of_getElem? (i := 697) (by decide +kernel), List.mem_of_getElem? (i := 908) (by decide +kernel), List.mem_of_getElem? (i := 909) (by decide +kernel)⟩
theorem lw_p52 : lw_okq (⟨"WallpaperGroupsModel", "orderOfPart", "(I)I"⟩, 9) := ⟨⟨by decide +kernel, by decide +kernel⟩, List.mem_of_getElem? (i := 697) (by decide +kernel), List.mem_of_getElem? (i := 912) (by decide +kernel), List.mem_of_getElem? (i := 913) (by decide +kernel)⟩
theorem lw_p53 : lw_okq (⟨"WallpaperGroupsModel", "directions", "()I"⟩, 9) := ⟨⟨by decide +kernel, by decide +kernel⟩, List.mem_of_getElem? (i := 697) (by decide +kernel), List.mem_of_getElem? (i := 920) (by decide +kernel), List.mem_of_getElem? (i := 921) (by decide +kernel)⟩
theorem lw_p54 : lw_okq (⟨"WallpaperGroupsModel", "isCenteredNow", "()Z"⟩, 9) := ⟨⟨by decide +kernel, by decide +kernel⟩, List.mem_of_getElem? (i := 697) (by decide +kernel), List.mem_of_getElem? (i := 928) (by decide +kernel), List.mem_of_getElem? (i := 929) (by decide +kernel)⟩
theorem lw_p55 : lw_okq (⟨"WallpaperGroupsModel", "isCenteredBy", "(I)Z"⟩, 9) := ⟨⟨by decide +kernel, by decide +kernel⟩, List.mem_of_getElem? (i := 697) (by decide +kernel), List.mem_of_getElem? (i := 932) (by decide +kernel), List.mem_of_getElem? (i := 933) (by decide +kernel)⟩
theorem lw_p56 : lw_okq (⟨"WallpaperGroupsModel", "isHalved", "(III)Z"⟩, 9) := ⟨⟨by decide +kernel, by decide +kernel⟩, List.mem_of_getElem? (i := 697) (by decide +kernel), List.mem_of_getElem? (i := 936) (by decide +kernel), List.mem_of_getElem? (i := 937) (by decide +kernel)⟩
theorem lw_p57 : lw_okq (⟨"WallpaperGroupsModel", "isLatticeVector", "(II)Z"⟩, 9) := ⟨⟨by decide +kernel, by decide +kernel⟩, List.mem_of_getElem? (i := 697) (by decide +kernel), List.mem_of_getElem? (i := 940) (by decide +kernel), List.mem_of_getElem? (i := 941) (by decide +kernel)⟩
theorem lw_p58 : lw_okq (⟨"WallpaperGroupsModel", "isShortestFixed", "()Z"⟩, 9) := ⟨⟨by decide +kernel, by decide +kernel⟩, List.mem_of_getElem? (i := 697) (by decide +kernel), List.mem_of_getElem? (i := 948) (by decide +kernel), List.mem_of_getElem? (i := 949) (by decide +kernel)⟩
theorem lw_p59 : lw_okq (⟨"WallpaperGroupsModel", "leastSquared", "()I"⟩, 9) := ⟨⟨by decide +kernel, by decide +kernel⟩, List.mem_of_getElem? (i := 697) (by decide +kernel), List.mem_of_getElem? (i := 952) (by decide +kernel), List.mem_of_getElem? (i := 953) (by decide +kernel)⟩
theorem lw_p60 : lw_okq (⟨"WallpaperGroupsModel", "squared", "(II)I"⟩, 9) := ⟨⟨by decide +kernel, by decide +kernel⟩, List.mem_of_getElem? (i := 697) (by decide +kernel), List.mem_of_getElem? (i := 956) (by decide +kernel), List.mem_of_getElem? (i := 957) (by decide +kernel)⟩
theorem lw_p61 : lw_okq (⟨"WallpaperGroupsModel", "isCell", "(II)Z"⟩, 9) := ⟨⟨by decide +kernel, by decide +kernel⟩, List.mem_of_getElem? (i := 697) (by decide +kernel), List.mem_of_getElem? (i := 964) (by decide +kernel), List.mem_of_getElem? (i := 965) (by decide +kernel)⟩
theorem lw_p62 : lw_okq (⟨"WallpaperGroupsModel", "orbit", "(I)I"⟩, 9) := ⟨⟨by decide +kernel, by decide +kernel⟩, List.mem_of_getElem? (i := 697) (by decide +kernel), List.mem_of_getElem? (i := 968) (by decide +kernel), List.mem_of_getElem? (i := 969) (by decide +kernel)⟩
theorem lw_p63 : lw_okq (⟨"WallpaperGroupsModel", "sends", "(II)I"⟩, 9) := ⟨⟨by decide +kernel, by decide +kernel⟩, List.mem_of_getElem? (i := 697) (by decide +kernel), List.mem_of_getElem? (i := 972) (by decide +kernel), List.mem_of_getElem? (i := 973) (by decide +kernel)⟩
def lw_privs_4 : List (MethodName × Nat) := [(⟨"WallpaperGroupsModel", "isReflection", "(I)Z"⟩, 9), (⟨"WallpaperGroupsModel", "commutingPairs", "()I"⟩, 9), (⟨"WallpaperGroupsModel", "partSet", "(Z)I"⟩, 9), (⟨"WallpaperGroupsModel", "greatestTurn", "()I"⟩, 9), (⟨"WallpaperGroupsModel", "orderOfPart", "(I)I"⟩, 9), (⟨"WallpaperGroupsModel", "directions", "()I"⟩, 9), (⟨"WallpaperGroupsModel", "isCenteredNow", "()Z"⟩, 9), (⟨"WallpaperGroupsModel", "isCenteredBy", "(I)Z"⟩, 9), (⟨"WallpaperGroupsModel", "isHalved", "(III)Z"⟩, 9), (⟨"WallpaperGroupsModel", "isLatticeVector", "(II)Z"⟩, 9), (⟨"WallpaperGroupsModel", "isShortestFixed", "()Z"⟩, 9), (⟨"WallpaperGroupsModel", "leastSquared", "()I"⟩, 9), (⟨"WallpaperGroupsModel", "squared", "(II)I"⟩, 9), (⟨"WallpaperGroupsModel", "isCell", "(II)Z"⟩, 9), (⟨"WallpaperGroupsModel", "orbit", "(I)I"⟩, 9), (⟨"WallpaperGroupsModel", "sends", "(II)I"⟩, 9)]
theorem lw_r4 : ∀ q ∈ lw_privs_4, lw_okq q := List.forall_mem_cons.mpr ⟨lw_p48, List.forall_mem_cons.mpr ⟨lw_p49, List.forall_mem_cons.mpr ⟨lw_p50, List.forall_mem_cons.mpr ⟨lw_p51, List.forall_mem_cons.mpr ⟨lw_p52, List.forall_mem_cons.mpr ⟨lw_p53, List.forall_mem_cons.mpr ⟨lw_p54, List.forall_mem_cons.mpr ⟨lw_p55, List.forall_mem_cons.mpr ⟨lw_p56, List.forall_mem_cons.mpr ⟨lw_p57, List.forall_mem_cons.mpr ⟨lw_p58, List.forall_mem_cons.mpr ⟨lw_p59, List.forall_mem_cons.mpr ⟨lw_p60, List.forall_mem_cons.mpr ⟨lw_p61, List.forall_mem_cons.mpr ⟨lw_p62, List.forall_mem_cons.mpr ⟨lw_p63, fun _ h => absurd h List.not_mem_nil⟩⟩⟩⟩⟩⟩⟩⟩⟩⟩⟩⟩⟩⟩⟩⟩
theorem lw_p64 : lw_okq (⟨"WallpaperGroupsModel", "stabilizer", "(I)I"⟩, 9) := ⟨⟨by decide +kernel, by decide +kernel⟩, List.mem_of_getElem? (i := 697) (by decide +kernel), List.mem_of_getElem? (i := 990) (by decide +kernel), List.mem_of_getElem? (i := 991) (by decide +kernel)⟩
theorem lw_p65 : lw_okq (⟨"WallpaperGroupsModel", "orbits", "()I"⟩, 9) := ⟨⟨by decide +kernel, by decide +kernel⟩, List.mem_of_getElem? (i := 697) (by decide +kernel), List.mem_of_getElem? (i := 998) (by decide +kernel), List.mem_of_getElem? (i := 999) (by decide +kernel)⟩
theorem lw_p66 : lw_okq (⟨"WallpaperGroupsModel", "cycles", "(I)I"⟩, 9) := ⟨⟨by decide +kernel, by decide +kernel⟩, List.mem_of_getElem? (i := 697) (by decide +kernel), List.mem_of_getElem? (i := 1018) (by decide +kernel), List.mem_of_getElem? (i := 1019) (by decide +kernel)⟩
def lw_privs_5 : List (MethodName × Nat) := [(⟨"WallpaperGroupsModel", "stabilizer", "(I)I"⟩, 9), (⟨"WallpaperGroupsModel", "orbits", "()I"⟩, 9), (⟨"WallpaperGroupsModel", "cycles", "(I)I"⟩, 9)]
theorem lw_r5 : ∀ q ∈ lw_privs_5, lw_okq q := List.forall_mem_cons.mpr ⟨lw_p64, List.forall_mem_cons.mpr ⟨lw_p65, List.forall_mem_cons.mpr ⟨lw_p66, fun _ h => absurd h List.not_mem_nil⟩⟩⟩
def lw_privs : List (MethodName × Nat) := lw_privs_1 ++ (lw_privs_2 ++ (lw_privs_3 ++ (lw_privs_4 ++ (lw_privs_5))))
def lw_tbl : List Cond := k2_sels lw_privs ++ tables_1
theorem lw_privs_ok : ∀ q ∈ lw_privs, lw_okq q := by
  show ∀ q ∈ lw_privs_1 ++ (lw_privs_2 ++ (lw_privs_3 ++ (lw_privs_4 ++ (lw_privs_5)))), lw_okq q
  exact List.forall_mem_append.mpr ⟨lw_r1, List.forall_mem_append.mpr ⟨lw_r2, List.forall_mem_append.mpr ⟨lw_r3, List.forall_mem_append.mpr ⟨lw_r4, lw_r5⟩⟩⟩⟩
end
section
def RX0 : String := "WallpaperGroups$Cells"
def TX0 : u_T := fun k => match k with
  | 0 => ("WallpaperGroups$Cells", "lattice", "LWallpaperGroups$Lattice;", true)
  | 1 => ("WallpaperGroups$Cells", "generators", "LWallpaperGroups$Generators;", true)
  | 2 => ("WallpaperGroups$Cells", "group", "LWallpaperGroups$Group;", true)
  | 3 => ("WallpaperGroups$Cells", "leasts", "[I", true)
  | 4 => ("WallpaperGroups$Cells", "sizes", "[I", true)
  | 5 => ("WallpaperGroups$Cells", "reached", "[Z", true)
  | 6 => ("WallpaperGroups$Cells", "waiting", "[I", true)
  | 7 => ("WallpaperGroups$Cells", "images", "[I", true)
  | 8 => ("WallpaperGroups$Cells", "waitingCount", "I", false)
  | _ => ("WallpaperGroups$Cells", "orbitTotal", "I", false)
def tyX0 : Nat → FieldType := fun k => match k with
  | 0 => .object "WallpaperGroups$Lattice"
  | 1 => .object "WallpaperGroups$Generators"
  | 2 => .object "WallpaperGroups$Group"
  | 3 => .array .int
  | 4 => .array .int
  | 5 => .array .boolean
  | 6 => .array .int
  | 7 => .array .int
  | 8 => .int
  | _ => .int
abbrev wsX00 : List Cond := u_ws RX0 TX0 10
theorem nmX0 : ∀ a, a < 10 → ∀ b, b < 10 → a ≠ b → (TX0 a).2.1 ≠ (TX0 b).2.1 := by decide +kernel
theorem tyX0_ok : ∀ k, k < 10 → parseFieldDescriptor (TX0 k).2.2.1 = some (tyX0 k) := by decide +kernel
abbrev cX0_init : ByteArray := prog_2_method_1_code
def yX0_init : MethodName := ⟨RX0, "<init>", "(LWallpaperGroups$Lattice;LWallpaperGroups$Generators;LWallpaperGroups$Group;)V"⟩
abbrev cX0_findOrbits : ByteArray := prog_2_method_2_code
def yX0_findOrbits : MethodName := ⟨RX0, "findOrbits", "()V"⟩
abbrev cX0_findOrbit : ByteArray := prog_2_method_3_code
def yX0_findOrbit : MethodName := ⟨RX0, "findOrbit", "(I)V"⟩
abbrev cX0_reach : ByteArray := prog_2_method_4_code
def yX0_reach : MethodName := ⟨RX0, "reach", "(I)V"⟩
abbrev cX0_orbits : ByteArray := prog_2_method_5_code
def yX0_orbits : MethodName := ⟨RX0, "orbits", "()I"⟩
abbrev cX0_leastOfOrbit : ByteArray := prog_2_method_6_code
def yX0_leastOfOrbit : MethodName := ⟨RX0, "leastOfOrbit", "(I)I"⟩
abbrev cX0_sizeOfOrbit : ByteArray := prog_2_method_7_code
def yX0_sizeOfOrbit : MethodName := ⟨RX0, "sizeOfOrbit", "(I)I"⟩
abbrev cX0_sizeOfStabilizer : ByteArray := prog_2_method_8_code
def yX0_sizeOfStabilizer : MethodName := ⟨RX0, "sizeOfStabilizer", "(I)I"⟩
abbrev cX0_hasStabilizerOf : ByteArray := prog_2_method_9_code
def yX0_hasStabilizerOf : MethodName := ⟨RX0, "hasStabilizerOf", "(I)Z"⟩
abbrev cX0_countColoringClasses : ByteArray := prog_2_method_10_code
def yX0_countColoringClasses : MethodName := ⟨RX0, "countColoringClasses", "(I)J"⟩
abbrev cX0_countCycles : ByteArray := prog_2_method_11_code
def yX0_countCycles : MethodName := ⟨RX0, "countCycles", "(I)I"⟩
abbrev cX0_walkCycle : ByteArray := prog_2_method_12_code
def yX0_walkCycle : MethodName := ⟨RX0, "walkCycle", "(I)V"⟩
abbrev cX0_fillImages : ByteArray := prog_2_method_13_code
def yX0_fillImages : MethodName := ⟨RX0, "fillImages", "(I)V"⟩
def RX1 : String := "WallpaperGroups$Features"
def TX1 : u_T := fun k => match k with
  | 0 => ("WallpaperGroups$Features", "lattice", "LWallpaperGroups$Lattice;", true)
  | 1 => ("WallpaperGroups$Features", "group", "LWallpaperGroups$Group;", true)
  | 2 => ("WallpaperGroups$Features", "occurring", "[Z", true)
  | 3 => ("WallpaperGroups$Features", "mirrors", "[Z", true)
  | _ => ("WallpaperGroups$Features", "kindCounts", "[I", true)
def tyX1 : Nat → FieldType := fun k => match k with
  | 0 => .object "WallpaperGroups$Lattice"
  | 1 => .object "WallpaperGroups$Group"
  | 2 => .array .boolean
  | 3 => .array .boolean
  | _ => .array .int
abbrev wsX10 : List Cond := u_ws RX1 TX1 5
theorem nmX1 : ∀ a, a < 5 → ∀ b, b < 5 → a ≠ b → (TX1 a).2.1 ≠ (TX1 b).2.1 := by decide +kernel
theorem tyX1_ok : ∀ k, k < 5 → parseFieldDescriptor (TX1 k).2.2.1 = some (tyX1 k) := by decide +kernel
abbrev cX1_init : ByteArray := prog_3_method_1_code
def yX1_init : MethodName := ⟨RX1, "<init>", "(LWallpaperGroups$Lattice;LWallpaperGroups$Group;)V"⟩
abbrev cX1_survey : ByteArray := prog_3_method_2_code
def yX1_survey : MethodName := ⟨RX1, "survey", "()V"⟩
abbrev cX1_note : ByteArray := prog_3_method_3_code
def yX1_note : MethodName := ⟨RX1, "note", "(I)V"⟩
abbrev cX1_elementsOfKind : ByteArray := prog_3_method_4_code
def yX1_elementsOfKind : MethodName := ⟨RX1, "elementsOfKind", "(I)I"⟩
abbrev cX1_countParts : ByteArray := prog_3_method_5_code
def yX1_countParts : MethodName := ⟨RX1, "countParts", "()I"⟩
abbrev cX1_countMirrorParts : ByteArray := prog_3_method_6_code
def yX1_countMirrorParts : MethodName := ⟨RX1, "countMirrorParts", "()I"⟩
abbrev cX1_greatestTurnOrder : ByteArray := prog_3_method_7_code
def yX1_greatestTurnOrder : MethodName := ⟨RX1, "greatestTurnOrder", "()I"⟩
abbrev cX1_occurs : ByteArray := prog_3_method_8_code
def yX1_occurs : MethodName := ⟨RX1, "occurs", "(I)Z"⟩
abbrev cX1_hasReversal : ByteArray := prog_3_method_9_code
def yX1_hasReversal : MethodName := ⟨RX1, "hasReversal", "()Z"⟩
abbrev cX1_hasCentering : ByteArray := prog_3_method_10_code
def yX1_hasCentering : MethodName := ⟨RX1, "hasCentering", "()Z"⟩
abbrev cX1_keepsHalfSums : ByteArray := prog_3_method_11_code
def yX1_keepsHalfSums : MethodName := ⟨RX1, "keepsHalfSums", "(I)Z"⟩
abbrev cX1_keepsHalfSum : ByteArray := prog_3_method_12_code
def yX1_keepsHalfSum : MethodName := ⟨RX1, "keepsHalfSum", "(III)Z"⟩
abbrev cX1_typeNumber : ByteArray := prog_3_method_13_code
def yX1_typeNumber : MethodName := ⟨RX1, "typeNumber", "()I"⟩
abbrev cX1_typeWithoutTurns : ByteArray := prog_3_method_14_code
def yX1_typeWithoutTurns : MethodName := ⟨RX1, "typeWithoutTurns", "(I)I"⟩
abbrev cX1_typeWithHalfTurns : ByteArray := prog_3_method_15_code
def yX1_typeWithHalfTurns : MethodName := ⟨RX1, "typeWithHalfTurns", "(I)I"⟩
abbrev cX1_typeWithThirdTurns : ByteArray := prog_3_method_16_code
def yX1_typeWithThirdTurns : MethodName := ⟨RX1, "typeWithThirdTurns", "()I"⟩
abbrev cX1_typeWithQuarterTurns : ByteArray := prog_3_method_17_code
def yX1_typeWithQuarterTurns : MethodName := ⟨RX1, "typeWithQuarterTurns", "(I)I"⟩
abbrev cX1_fixesShortestVector : ByteArray := prog_3_method_18_code
def yX1_fixesShortestVector : MethodName := ⟨RX1, "fixesShortestVector", "()Z"⟩
abbrev cX1_leastSquaredLength : ByteArray := prog_3_method_19_code
def yX1_leastSquaredLength : MethodName := ⟨RX1, "leastSquaredLength", "()I"⟩
abbrev cX1_squaredLength : ByteArray := prog_3_method_20_code
def yX1_squaredLength : MethodName := ⟨RX1, "squaredLength", "(II)I"⟩
abbrev cX1_isFixedByReversal : ByteArray := prog_3_method_21_code
def yX1_isFixedByReversal : MethodName := ⟨RX1, "isFixedByReversal", "(II)Z"⟩
def RX2 : String := "WallpaperGroups$Generators"
def TX2 : u_T := fun k => match k with
  | 0 => ("WallpaperGroups$Generators", "codes", "[I", true)
  | _ => ("WallpaperGroups$Generators", "size", "I", false)
def tyX2 : Nat → FieldType := fun k => match k with
  | 0 => .array .int
  | _ => .int
abbrev wsX20 : List Cond := u_ws RX2 TX2 2
theorem nmX2 : ∀ a, a < 2 → ∀ b, b < 2 → a ≠ b → (TX2 a).2.1 ≠ (TX2 b).2.1 := by decide +kernel
theorem tyX2_ok : ∀ k, k < 2 → parseFieldDescriptor (TX2 k).2.2.1 = some (tyX2 k) := by decide +kernel
abbrev cX2_init : ByteArray := prog_4_method_1_code
def yX2_init : MethodName := ⟨RX2, "<init>", "()V"⟩
abbrev cX2_has : ByteArray := prog_4_method_2_code
def yX2_has : MethodName := ⟨RX2, "has", "(I)Z"⟩
abbrev cX2_isFull : ByteArray := prog_4_method_3_code
def yX2_isFull : MethodName := ⟨RX2, "isFull", "()Z"⟩
abbrev cX2_codeAt : ByteArray := prog_4_method_4_code
def yX2_codeAt : MethodName := ⟨RX2, "codeAt", "(I)I"⟩
abbrev cX2_replace : ByteArray := prog_4_method_5_code
def yX2_replace : MethodName := ⟨RX2, "replace", "(II)V"⟩
abbrev cX2_append : ByteArray := prog_4_method_6_code
def yX2_append : MethodName := ⟨RX2, "append", "(I)V"⟩
abbrev cX2_removeAt : ByteArray := prog_4_method_7_code
def yX2_removeAt : MethodName := ⟨RX2, "removeAt", "(I)V"⟩
abbrev cX2_clear : ByteArray := prog_4_method_8_code
def yX2_clear : MethodName := ⟨RX2, "clear", "()V"⟩
def RX3 : String := "WallpaperGroups$Group"
def TX3 : u_T := fun k => match k with
  | 0 => ("WallpaperGroups$Group", "lattice", "LWallpaperGroups$Lattice;", true)
  | 1 => ("WallpaperGroups$Group", "generators", "LWallpaperGroups$Generators;", true)
  | 2 => ("WallpaperGroups$Group", "members", "[Z", true)
  | 3 => ("WallpaperGroups$Group", "elements", "[I", true)
  | 4 => ("WallpaperGroups$Group", "classified", "[Z", true)
  | 5 => ("WallpaperGroups$Group", "waiting", "[I", true)
  | 6 => ("WallpaperGroups$Group", "elementCount", "I", false)
  | _ => ("WallpaperGroups$Group", "waitingCount", "I", false)
def tyX3 : Nat → FieldType := fun k => match k with
  | 0 => .object "WallpaperGroups$Lattice"
  | 1 => .object "WallpaperGroups$Generators"
  | 2 => .array .boolean
  | 3 => .array .int
  | 4 => .array .boolean
  | 5 => .array .int
  | 6 => .int
  | _ => .int
abbrev wsX30 : List Cond := u_ws RX3 TX3 8
theorem nmX3 : ∀ a, a < 8 → ∀ b, b < 8 → a ≠ b → (TX3 a).2.1 ≠ (TX3 b).2.1 := by decide +kernel
theorem tyX3_ok : ∀ k, k < 8 → parseFieldDescriptor (TX3 k).2.2.1 = some (tyX3 k) := by decide +kernel
abbrev cX3_init : ByteArray := prog_5_method_1_code
def yX3_init : MethodName := ⟨RX3, "<init>", "(LWallpaperGroups$Lattice;LWallpaperGroups$Generators;)V"⟩
abbrev cX3_size : ByteArray := prog_5_method_2_code
def yX3_size : MethodName := ⟨RX3, "size", "()I"⟩
abbrev cX3_elementAt : ByteArray := prog_5_method_3_code
def yX3_elementAt : MethodName := ⟨RX3, "elementAt", "(I)I"⟩
abbrev cX3_has : ByteArray := prog_5_method_4_code
def yX3_has : MethodName := ⟨RX3, "has", "(I)Z"⟩
abbrev cX3_hasTranslation : ByteArray := prog_5_method_5_code
def yX3_hasTranslation : MethodName := ⟨RX3, "hasTranslation", "(II)Z"⟩
abbrev cX3_rebuild : ByteArray := prog_5_method_6_code
def yX3_rebuild : MethodName := ⟨RX3, "rebuild", "()V"⟩
abbrev cX3_admit : ByteArray := prog_5_method_7_code
def yX3_admit : MethodName := ⟨RX3, "admit", "(I)V"⟩
abbrev cX3_listByCode : ByteArray := prog_5_method_8_code
def yX3_listByCode : MethodName := ⟨RX3, "listByCode", "()V"⟩
abbrev cX3_commutes : ByteArray := prog_5_method_9_code
def yX3_commutes : MethodName := ⟨RX3, "commutes", "()Z"⟩
abbrev cX3_countConjugacyClasses : ByteArray := prog_5_method_10_code
def yX3_countConjugacyClasses : MethodName := ⟨RX3, "countConjugacyClasses", "()I"⟩
abbrev cX3_classify : ByteArray := prog_5_method_11_code
def yX3_classify : MethodName := ⟨RX3, "classify", "(I)V"⟩
abbrev cX3_admitToClass : ByteArray := prog_5_method_12_code
def yX3_admitToClass : MethodName := ⟨RX3, "admitToClass", "(I)V"⟩
def RX4 : String := "WallpaperGroups$History"
def TX4 : u_T := fun k => match k with
  | 0 => ("WallpaperGroups$History", "rows", "[[I", true)
  | _ => ("WallpaperGroups$History", "depth", "I", false)
def tyX4 : Nat → FieldType := fun k => match k with
  | 0 => .array (.array .int)
  | _ => .int
abbrev wsX40 : List Cond := u_ws RX4 TX4 2
theorem nmX4 : ∀ a, a < 2 → ∀ b, b < 2 → a ≠ b → (TX4 a).2.1 ≠ (TX4 b).2.1 := by decide +kernel
theorem tyX4_ok : ∀ k, k < 2 → parseFieldDescriptor (TX4 k).2.2.1 = some (tyX4 k) := by decide +kernel
abbrev cX4_init : ByteArray := prog_6_method_1_code
def yX4_init : MethodName := ⟨RX4, "<init>", "()V"⟩
abbrev cX4_isEmpty : ByteArray := prog_6_method_2_code
def yX4_isEmpty : MethodName := ⟨RX4, "isEmpty", "()Z"⟩
abbrev cX4_save : ByteArray := prog_6_method_3_code
def yX4_save : MethodName := ⟨RX4, "save", "(LWallpaperGroups$Lattice;LWallpaperGroups$Generators;)V"⟩
abbrev cX4_restore : ByteArray := prog_6_method_4_code
def yX4_restore : MethodName := ⟨RX4, "restore", "(LWallpaperGroups$Lattice;LWallpaperGroups$Generators;)V"⟩
abbrev cX4_forgetOldest : ByteArray := prog_6_method_5_code
def yX4_forgetOldest : MethodName := ⟨RX4, "forgetOldest", "()V"⟩
abbrev cX4_write : ByteArray := prog_6_method_6_code
def yX4_write : MethodName := ⟨RX4, "write", "([ILWallpaperGroups$Lattice;LWallpaperGroups$Generators;)V"⟩
abbrev cX4_read : ByteArray := prog_6_method_7_code
def yX4_read : MethodName := ⟨RX4, "read", "([ILWallpaperGroups$Lattice;LWallpaperGroups$Generators;)V"⟩
def RX5 : String := "WallpaperGroups$Lattice"
def TX5 : u_T := fun k => match k with
  | 0 => ("WallpaperGroups$Lattice", "kind", "I", false)
  | _ => ("WallpaperGroups$Lattice", "n", "I", false)
def tyX5 : Nat → FieldType := fun k => match k with
  | 0 => .int
  | _ => .int
abbrev wsX50 : List Cond := u_ws RX5 TX5 2
theorem nmX5 : ∀ a, a < 2 → ∀ b, b < 2 → a ≠ b → (TX5 a).2.1 ≠ (TX5 b).2.1 := by decide +kernel
theorem tyX5_ok : ∀ k, k < 2 → parseFieldDescriptor (TX5 k).2.2.1 = some (tyX5 k) := by decide +kernel
abbrev cX5_init : ByteArray := prog_7_method_1_code
def yX5_init : MethodName := ⟨RX5, "<init>", "()V"⟩
abbrev cX5_choose : ByteArray := prog_7_method_2_code
def yX5_choose : MethodName := ⟨RX5, "choose", "(II)V"⟩
abbrev cX5_turns : ByteArray := prog_7_method_3_code
def yX5_turns : MethodName := ⟨RX5, "turns", "()I"⟩
abbrev cX5_parts : ByteArray := prog_7_method_4_code
def yX5_parts : MethodName := ⟨RX5, "parts", "()I"⟩
abbrev cX5_cellCount : ByteArray := prog_7_method_5_code
def yX5_cellCount : MethodName := ⟨RX5, "cellCount", "()I"⟩
abbrev cX5_codes : ByteArray := prog_7_method_6_code
def yX5_codes : MethodName := ⟨RX5, "codes", "()I"⟩
abbrev cX5_hasCell : ByteArray := prog_7_method_7_code
def yX5_hasCell : MethodName := ⟨RX5, "hasCell", "(II)Z"⟩
abbrev cX5_hasMovement : ByteArray := prog_7_method_8_code
def yX5_hasMovement : MethodName := ⟨RX5, "hasMovement", "(III)Z"⟩
abbrev cX5_hasCode : ByteArray := prog_7_method_9_code
def yX5_hasCode : MethodName := ⟨RX5, "hasCode", "(I)Z"⟩
abbrev cX5_cellOf : ByteArray := prog_7_method_10_code
def yX5_cellOf : MethodName := ⟨RX5, "cellOf", "(II)I"⟩
abbrev cX5_codeOf : ByteArray := prog_7_method_11_code
def yX5_codeOf : MethodName := ⟨RX5, "codeOf", "(III)I"⟩
abbrev cX5_partOf : ByteArray := prog_7_method_12_code
def yX5_partOf : MethodName := ⟨RX5, "partOf", "(I)I"⟩
abbrev cX5_shiftX : ByteArray := prog_7_method_13_code
def yX5_shiftX : MethodName := ⟨RX5, "shiftX", "(I)I"⟩
abbrev cX5_shiftY : ByteArray := prog_7_method_14_code
def yX5_shiftY : MethodName := ⟨RX5, "shiftY", "(I)I"⟩
abbrev cX5_wrap : ByteArray := prog_7_method_15_code
def yX5_wrap : MethodName := ⟨RX5, "wrap", "(I)I"⟩
abbrev cX5_entry : ByteArray := prog_7_method_16_code
def yX5_entry : MethodName := ⟨RX5, "entry", "(II)I"⟩
abbrev cX5_imageX : ByteArray := prog_7_method_17_code
def yX5_imageX : MethodName := ⟨RX5, "imageX", "(III)I"⟩
abbrev cX5_imageY : ByteArray := prog_7_method_18_code
def yX5_imageY : MethodName := ⟨RX5, "imageY", "(III)I"⟩
abbrev cX5_imageOfCell : ByteArray := prog_7_method_19_code
def yX5_imageOfCell : MethodName := ⟨RX5, "imageOfCell", "(II)I"⟩
abbrev cX5_times : ByteArray := prog_7_method_20_code
def yX5_times : MethodName := ⟨RX5, "times", "(II)I"⟩
abbrev cX5_timesPart : ByteArray := prog_7_method_21_code
def yX5_timesPart : MethodName := ⟨RX5, "timesPart", "(II)I"⟩
abbrev cX5_inverseOf : ByteArray := prog_7_method_22_code
def yX5_inverseOf : MethodName := ⟨RX5, "inverseOf", "(I)I"⟩
abbrev cX5_inversePart : ByteArray := prog_7_method_23_code
def yX5_inversePart : MethodName := ⟨RX5, "inversePart", "(I)I"⟩
abbrev cX5_factorsToIdentity : ByteArray := prog_7_method_24_code
def yX5_factorsToIdentity : MethodName := ⟨RX5, "factorsToIdentity", "(I)I"⟩
abbrev cX5_turnOrder : ByteArray := prog_7_method_25_code
def yX5_turnOrder : MethodName := ⟨RX5, "turnOrder", "(I)I"⟩
abbrev cX5_kindNumber : ByteArray := prog_7_method_26_code
def yX5_kindNumber : MethodName := ⟨RX5, "kindNumber", "(I)I"⟩
abbrev cX5_isReflection : ByteArray := prog_7_method_27_code
def yX5_isReflection : MethodName := ⟨RX5, "isReflection", "(I)Z"⟩
def RX6 : String := "WallpaperGroups"
def TX6 : u_T := fun k => match k with
  | 0 => ("WallpaperGroups", "lattice", "LWallpaperGroups$Lattice;", true)
  | 1 => ("WallpaperGroups", "generators", "LWallpaperGroups$Generators;", true)
  | 2 => ("WallpaperGroups", "history", "LWallpaperGroups$History;", true)
  | 3 => ("WallpaperGroups", "group", "LWallpaperGroups$Group;", true)
  | 4 => ("WallpaperGroups", "features", "LWallpaperGroups$Features;", true)
  | _ => ("WallpaperGroups", "cells", "LWallpaperGroups$Cells;", true)
def tyX6 : Nat → FieldType := fun k => match k with
  | 0 => .object "WallpaperGroups$Lattice"
  | 1 => .object "WallpaperGroups$Generators"
  | 2 => .object "WallpaperGroups$History"
  | 3 => .object "WallpaperGroups$Group"
  | 4 => .object "WallpaperGroups$Features"
  | _ => .object "WallpaperGroups$Cells"
abbrev wsX60 : List Cond := u_ws RX6 TX6 6
theorem nmX6 : ∀ a, a < 6 → ∀ b, b < 6 → a ≠ b → (TX6 a).2.1 ≠ (TX6 b).2.1 := by decide +kernel
theorem tyX6_ok : ∀ k, k < 6 → parseFieldDescriptor (TX6 k).2.2.1 = some (tyX6 k) := by decide +kernel
abbrev cX6_init : ByteArray := prog_1_method_1_code
def yX6_init : MethodName := ⟨RX6, "<init>", "()V"⟩
abbrev cX6_setLattice : ByteArray := prog_1_method_2_code
def yX6_setLattice : MethodName := ⟨RX6, "setLattice", "(II)I"⟩
abbrev cX6_addGenerator : ByteArray := prog_1_method_3_code
def yX6_addGenerator : MethodName := ⟨RX6, "addGenerator", "(III)I"⟩
abbrev cX6_removeGenerator : ByteArray := prog_1_method_4_code
def yX6_removeGenerator : MethodName := ⟨RX6, "removeGenerator", "(I)I"⟩
abbrev cX6_setGenerator : ByteArray := prog_1_method_5_code
def yX6_setGenerator : MethodName := ⟨RX6, "setGenerator", "(IIII)I"⟩
abbrev cX6_undo : ByteArray := prog_1_method_6_code
def yX6_undo : MethodName := ⟨RX6, "undo", "()I"⟩
abbrev cX6_generator : ByteArray := prog_1_method_7_code
def yX6_generator : MethodName := ⟨RX6, "generator", "(I)I"⟩
abbrev cX6_order : ByteArray := prog_1_method_8_code
def yX6_order : MethodName := ⟨RX6, "order", "()I"⟩
abbrev cX6_element : ByteArray := prog_1_method_9_code
def yX6_element : MethodName := ⟨RX6, "element", "(I)I"⟩
abbrev cX6_contains : ByteArray := prog_1_method_10_code
def yX6_contains : MethodName := ⟨RX6, "contains", "(I)I"⟩
abbrev cX6_product : ByteArray := prog_1_method_11_code
def yX6_product : MethodName := ⟨RX6, "product", "(II)I"⟩
abbrev cX6_orderOf : ByteArray := prog_1_method_12_code
def yX6_orderOf : MethodName := ⟨RX6, "orderOf", "(I)I"⟩
abbrev cX6_kindOf : ByteArray := prog_1_method_13_code
def yX6_kindOf : MethodName := ⟨RX6, "kindOf", "(I)I"⟩
abbrev cX6_count : ByteArray := prog_1_method_14_code
def yX6_count : MethodName := ⟨RX6, "count", "(I)I"⟩
abbrev cX6_isAbelian : ByteArray := prog_1_method_15_code
def yX6_isAbelian : MethodName := ⟨RX6, "isAbelian", "()I"⟩
abbrev cX6_conjugacyClasses : ByteArray := prog_1_method_16_code
def yX6_conjugacyClasses : MethodName := ⟨RX6, "conjugacyClasses", "()I"⟩
abbrev cX6_linearParts : ByteArray := prog_1_method_17_code
def yX6_linearParts : MethodName := ⟨RX6, "linearParts", "()I"⟩
abbrev cX6_rotationOrder : ByteArray := prog_1_method_18_code
def yX6_rotationOrder : MethodName := ⟨RX6, "rotationOrder", "()I"⟩
abbrev cX6_mirrorDirections : ByteArray := prog_1_method_19_code
def yX6_mirrorDirections : MethodName := ⟨RX6, "mirrorDirections", "()I"⟩
abbrev cX6_isCentered : ByteArray := prog_1_method_20_code
def yX6_isCentered : MethodName := ⟨RX6, "isCentered", "()I"⟩
abbrev cX6_type : ByteArray := prog_1_method_21_code
def yX6_type : MethodName := ⟨RX6, "type", "()I"⟩
abbrev cX6_orbitSize : ByteArray := prog_1_method_22_code
def yX6_orbitSize : MethodName := ⟨RX6, "orbitSize", "(II)I"⟩
abbrev cX6_orbitFirst : ByteArray := prog_1_method_23_code
def yX6_orbitFirst : MethodName := ⟨RX6, "orbitFirst", "(II)I"⟩
abbrev cX6_stabilizerOrder : ByteArray := prog_1_method_24_code
def yX6_stabilizerOrder : MethodName := ⟨RX6, "stabilizerOrder", "(II)I"⟩
abbrev cX6_orbitCount : ByteArray := prog_1_method_25_code
def yX6_orbitCount : MethodName := ⟨RX6, "orbitCount", "()I"⟩
abbrev cX6_isSymmorphic : ByteArray := prog_1_method_26_code
def yX6_isSymmorphic : MethodName := ⟨RX6, "isSymmorphic", "()I"⟩
abbrev cX6_invariantColorings : ByteArray := prog_1_method_27_code
def yX6_invariantColorings : MethodName := ⟨RX6, "invariantColorings", "(I)J"⟩
abbrev cX6_coloringClasses : ByteArray := prog_1_method_28_code
def yX6_coloringClasses : MethodName := ⟨RX6, "coloringClasses", "(I)J"⟩
abbrev cX6_refresh : ByteArray := prog_1_method_29_code
def yX6_refresh : MethodName := ⟨RX6, "refresh", "()V"⟩
abbrev cX6_oneIf : ByteArray := prog_1_method_30_code
def yX6_oneIf : MethodName := ⟨RX6, "oneIf", "(Z)I"⟩
abbrev cX6_quotient : ByteArray := prog_1_method_31_code
def yX6_quotient : MethodName := ⟨RX6, "quotient", "(II)I"⟩
abbrev cX6_remainder : ByteArray := prog_1_method_32_code
def yX6_remainder : MethodName := ⟨RX6, "remainder", "(II)I"⟩
abbrev cX6_isInside : ByteArray := prog_1_method_33_code
def yX6_isInside : MethodName := ⟨RX6, "isInside", "(II)Z"⟩
abbrev cX6_clearMarks : ByteArray := prog_1_method_34_code
def yX6_clearMarks : MethodName := ⟨RX6, "clearMarks", "([Z)V"⟩
abbrev cX6_countMarks : ByteArray := prog_1_method_35_code
def yX6_countMarks : MethodName := ⟨RX6, "countMarks", "([Z)I"⟩
abbrev cX6_power : ByteArray := prog_1_method_36_code
def yX6_power : MethodName := ⟨RX6, "power", "(II)J"⟩
def RX7 : String := "WallpaperGroupsModel"
def TX7 : u_T := fun k => match k with
  | 0 => ("WallpaperGroupsModel", "now", "[I", true)
  | 1 => ("WallpaperGroupsModel", "history", "[I", true)
  | 2 => ("WallpaperGroupsModel", "edits", "I", false)
  | 3 => ("WallpaperGroupsModel", "parts", "I", false)
  | 4 => ("WallpaperGroupsModel", "entries", "[I", true)
  | 5 => ("WallpaperGroupsModel", "products", "[I", true)
  | 6 => ("WallpaperGroupsModel", "member", "[Z", true)
  | 7 => ("WallpaperGroupsModel", "elements", "[I", true)
  | _ => ("WallpaperGroupsModel", "order", "I", false)
def tyX7 : Nat → FieldType := fun k => match k with
  | 0 => .array .int
  | 1 => .array .int
  | 2 => .int
  | 3 => .int
  | 4 => .array .int
  | 5 => .array .int
  | 6 => .array .boolean
  | 7 => .array .int
  | _ => .int
abbrev wsX70 : List Cond := u_ws RX7 TX7 9
theorem nmX7 : ∀ a, a < 9 → ∀ b, b < 9 → a ≠ b → (TX7 a).2.1 ≠ (TX7 b).2.1 := by decide +kernel
theorem tyX7_ok : ∀ k, k < 9 → parseFieldDescriptor (TX7 k).2.2.1 = some (tyX7 k) := by decide +kernel
abbrev cX7_init : ByteArray := prog_9_method_1_code
def yX7_init : MethodName := ⟨RX7, "<init>", "()V"⟩
abbrev cX7_in : ByteArray := prog_9_method_2_code
def yX7_in : MethodName := ⟨RX7, "in", "(III)Z"⟩
abbrev cX7_entry : ByteArray := prog_9_method_3_code
def yX7_entry : MethodName := ⟨RX7, "entry", "(II)I"⟩
abbrev cX7_putProduct : ByteArray := prog_9_method_4_code
def yX7_putProduct : MethodName := ⟨RX7, "putProduct", "(III)V"⟩
abbrev cX7_putPart : ByteArray := prog_9_method_5_code
def yX7_putPart : MethodName := ⟨RX7, "putPart", "(IIIII)V"⟩
abbrev cX7_numberOfProduct : ByteArray := prog_9_method_6_code
def yX7_numberOfProduct : MethodName := ⟨RX7, "numberOfProduct", "(II)I"⟩
abbrev cX7_makeParts : ByteArray := prog_9_method_7_code
def yX7_makeParts : MethodName := ⟨RX7, "makeParts", "()V"⟩
abbrev cX7_isTurn : ByteArray := prog_9_method_8_code
def yX7_isTurn : MethodName := ⟨RX7, "isTurn", "(I)Z"⟩
abbrev cX7_orderOfPart : ByteArray := prog_9_method_9_code
def yX7_orderOfPart : MethodName := ⟨RX7, "orderOfPart", "(I)I"⟩
abbrev cX7_imageX : ByteArray := prog_9_method_10_code
def yX7_imageX : MethodName := ⟨RX7, "imageX", "(III)I"⟩
abbrev cX7_imageY : ByteArray := prog_9_method_11_code
def yX7_imageY : MethodName := ⟨RX7, "imageY", "(III)I"⟩
abbrev cX7_cells : ByteArray := prog_9_method_12_code
def yX7_cells : MethodName := ⟨RX7, "cells", "()I"⟩
abbrev cX7_partOf : ByteArray := prog_9_method_13_code
def yX7_partOf : MethodName := ⟨RX7, "partOf", "(I)I"⟩
abbrev cX7_uOf : ByteArray := prog_9_method_14_code
def yX7_uOf : MethodName := ⟨RX7, "uOf", "(I)I"⟩
abbrev cX7_vOf : ByteArray := prog_9_method_15_code
def yX7_vOf : MethodName := ⟨RX7, "vOf", "(I)I"⟩
abbrev cX7_modulo : ByteArray := prog_9_method_16_code
def yX7_modulo : MethodName := ⟨RX7, "modulo", "(I)I"⟩
abbrev cX7_codeOf : ByteArray := prog_9_method_17_code
def yX7_codeOf : MethodName := ⟨RX7, "codeOf", "(III)I"⟩
abbrev cX7_times : ByteArray := prog_9_method_18_code
def yX7_times : MethodName := ⟨RX7, "times", "(II)I"⟩
abbrev cX7_sends : ByteArray := prog_9_method_19_code
def yX7_sends : MethodName := ⟨RX7, "sends", "(II)I"⟩
abbrev cX7_isCode : ByteArray := prog_9_method_20_code
def yX7_isCode : MethodName := ⟨RX7, "isCode", "(I)Z"⟩
abbrev cX7_divisor : ByteArray := prog_9_method_21_code
def yX7_divisor : MethodName := ⟨RX7, "divisor", "(II)I"⟩
abbrev cX7_isReflection : ByteArray := prog_9_method_22_code
def yX7_isReflection : MethodName := ⟨RX7, "isReflection", "(I)Z"⟩
abbrev cX7_kindOfCode : ByteArray := prog_9_method_23_code
def yX7_kindOfCode : MethodName := ⟨RX7, "kindOfCode", "(I)I"⟩
abbrev cX7_addElement : ByteArray := prog_9_method_24_code
def yX7_addElement : MethodName := ⟨RX7, "addElement", "(I)V"⟩
abbrev cX7_derive : ByteArray := prog_9_method_25_code
def yX7_derive : MethodName := ⟨RX7, "derive", "()V"⟩
abbrev cX7_save : ByteArray := prog_9_method_26_code
def yX7_save : MethodName := ⟨RX7, "save", "()V"⟩
abbrev cX7_undo : ByteArray := prog_9_method_27_code
def yX7_undo : MethodName := ⟨RX7, "undo", "()I"⟩
abbrev cX7_setLattice : ByteArray := prog_9_method_28_code
def yX7_setLattice : MethodName := ⟨RX7, "setLattice", "(II)I"⟩
abbrev cX7_isMovement : ByteArray := prog_9_method_29_code
def yX7_isMovement : MethodName := ⟨RX7, "isMovement", "(III)Z"⟩
abbrev cX7_isGenerator : ByteArray := prog_9_method_30_code
def yX7_isGenerator : MethodName := ⟨RX7, "isGenerator", "(I)Z"⟩
abbrev cX7_addGenerator : ByteArray := prog_9_method_31_code
def yX7_addGenerator : MethodName := ⟨RX7, "addGenerator", "(III)I"⟩
abbrev cX7_removeGenerator : ByteArray := prog_9_method_32_code
def yX7_removeGenerator : MethodName := ⟨RX7, "removeGenerator", "(I)I"⟩
abbrev cX7_setGenerator : ByteArray := prog_9_method_33_code
def yX7_setGenerator : MethodName := ⟨RX7, "setGenerator", "(IIII)I"⟩
abbrev cX7_generator : ByteArray := prog_9_method_34_code
def yX7_generator : MethodName := ⟨RX7, "generator", "(I)I"⟩
abbrev cX7_order : ByteArray := prog_9_method_35_code
def yX7_order : MethodName := ⟨RX7, "order", "()I"⟩
abbrev cX7_element : ByteArray := prog_9_method_36_code
def yX7_element : MethodName := ⟨RX7, "element", "(I)I"⟩
abbrev cX7_contains : ByteArray := prog_9_method_37_code
def yX7_contains : MethodName := ⟨RX7, "contains", "(I)I"⟩
abbrev cX7_product : ByteArray := prog_9_method_38_code
def yX7_product : MethodName := ⟨RX7, "product", "(II)I"⟩
abbrev cX7_orderOf : ByteArray := prog_9_method_39_code
def yX7_orderOf : MethodName := ⟨RX7, "orderOf", "(I)I"⟩
abbrev cX7_kindOf : ByteArray := prog_9_method_40_code
def yX7_kindOf : MethodName := ⟨RX7, "kindOf", "(I)I"⟩
abbrev cX7_count : ByteArray := prog_9_method_41_code
def yX7_count : MethodName := ⟨RX7, "count", "(I)I"⟩
abbrev cX7_commutingPairs : ByteArray := prog_9_method_42_code
def yX7_commutingPairs : MethodName := ⟨RX7, "commutingPairs", "()I"⟩
abbrev cX7_isAbelian : ByteArray := prog_9_method_43_code
def yX7_isAbelian : MethodName := ⟨RX7, "isAbelian", "()I"⟩
abbrev cX7_conjugacyClasses : ByteArray := prog_9_method_44_code
def yX7_conjugacyClasses : MethodName := ⟨RX7, "conjugacyClasses", "()I"⟩
abbrev cX7_partSet : ByteArray := prog_9_method_45_code
def yX7_partSet : MethodName := ⟨RX7, "partSet", "(Z)I"⟩
abbrev cX7_ones : ByteArray := prog_9_method_46_code
def yX7_ones : MethodName := ⟨RX7, "ones", "(I)I"⟩
abbrev cX7_linearParts : ByteArray := prog_9_method_47_code
def yX7_linearParts : MethodName := ⟨RX7, "linearParts", "()I"⟩
abbrev cX7_greatestTurn : ByteArray := prog_9_method_48_code
def yX7_greatestTurn : MethodName := ⟨RX7, "greatestTurn", "()I"⟩
abbrev cX7_rotationOrder : ByteArray := prog_9_method_49_code
def yX7_rotationOrder : MethodName := ⟨RX7, "rotationOrder", "()I"⟩
abbrev cX7_directions : ByteArray := prog_9_method_50_code
def yX7_directions : MethodName := ⟨RX7, "directions", "()I"⟩
abbrev cX7_mirrorDirections : ByteArray := prog_9_method_51_code
def yX7_mirrorDirections : MethodName := ⟨RX7, "mirrorDirections", "()I"⟩
abbrev cX7_isLatticeVector : ByteArray := prog_9_method_52_code
def yX7_isLatticeVector : MethodName := ⟨RX7, "isLatticeVector", "(II)Z"⟩
abbrev cX7_isHalved : ByteArray := prog_9_method_53_code
def yX7_isHalved : MethodName := ⟨RX7, "isHalved", "(III)Z"⟩
abbrev cX7_isCenteredBy : ByteArray := prog_9_method_54_code
def yX7_isCenteredBy : MethodName := ⟨RX7, "isCenteredBy", "(I)Z"⟩
abbrev cX7_isCenteredNow : ByteArray := prog_9_method_55_code
def yX7_isCenteredNow : MethodName := ⟨RX7, "isCenteredNow", "()Z"⟩
abbrev cX7_isCentered : ByteArray := prog_9_method_56_code
def yX7_isCentered : MethodName := ⟨RX7, "isCentered", "()I"⟩
abbrev cX7_squared : ByteArray := prog_9_method_57_code
def yX7_squared : MethodName := ⟨RX7, "squared", "(II)I"⟩
abbrev cX7_leastSquared : ByteArray := prog_9_method_58_code
def yX7_leastSquared : MethodName := ⟨RX7, "leastSquared", "()I"⟩
abbrev cX7_isShortestFixed : ByteArray := prog_9_method_59_code
def yX7_isShortestFixed : MethodName := ⟨RX7, "isShortestFixed", "()Z"⟩
abbrev cX7_type : ByteArray := prog_9_method_60_code
def yX7_type : MethodName := ⟨RX7, "type", "()I"⟩
abbrev cX7_isCell : ByteArray := prog_9_method_61_code
def yX7_isCell : MethodName := ⟨RX7, "isCell", "(II)Z"⟩
abbrev cX7_orbit : ByteArray := prog_9_method_62_code
def yX7_orbit : MethodName := ⟨RX7, "orbit", "(I)I"⟩
abbrev cX7_many : ByteArray := prog_9_method_63_code
def yX7_many : MethodName := ⟨RX7, "many", "(I)I"⟩
abbrev cX7_first : ByteArray := prog_9_method_64_code
def yX7_first : MethodName := ⟨RX7, "first", "(I)I"⟩
abbrev cX7_orbitSize : ByteArray := prog_9_method_65_code
def yX7_orbitSize : MethodName := ⟨RX7, "orbitSize", "(II)I"⟩
abbrev cX7_orbitFirst : ByteArray := prog_9_method_66_code
def yX7_orbitFirst : MethodName := ⟨RX7, "orbitFirst", "(II)I"⟩
abbrev cX7_stabilizer : ByteArray := prog_9_method_67_code
def yX7_stabilizer : MethodName := ⟨RX7, "stabilizer", "(I)I"⟩
abbrev cX7_stabilizerOrder : ByteArray := prog_9_method_68_code
def yX7_stabilizerOrder : MethodName := ⟨RX7, "stabilizerOrder", "(II)I"⟩
abbrev cX7_orbits : ByteArray := prog_9_method_69_code
def yX7_orbits : MethodName := ⟨RX7, "orbits", "()I"⟩
abbrev cX7_orbitCount : ByteArray := prog_9_method_70_code
def yX7_orbitCount : MethodName := ⟨RX7, "orbitCount", "()I"⟩
abbrev cX7_isSymmorphic : ByteArray := prog_9_method_71_code
def yX7_isSymmorphic : MethodName := ⟨RX7, "isSymmorphic", "()I"⟩
abbrev cX7_power : ByteArray := prog_9_method_72_code
def yX7_power : MethodName := ⟨RX7, "power", "(II)J"⟩
abbrev cX7_invariantColorings : ByteArray := prog_9_method_73_code
def yX7_invariantColorings : MethodName := ⟨RX7, "invariantColorings", "(I)J"⟩
abbrev cX7_cycles : ByteArray := prog_9_method_74_code
def yX7_cycles : MethodName := ⟨RX7, "cycles", "(I)I"⟩
abbrev cX7_coloringClasses : ByteArray := prog_9_method_75_code
def yX7_coloringClasses : MethodName := ⟨RX7, "coloringClasses", "(I)J"⟩
def RJ9 : String := "java/lang/Math"
abbrev cJ9_floorMod_7cf53 : ByteArray := prog_10_method_50_code
def yJ9_floorMod_7cf53 : MethodName := ⟨RJ9, "floorMod", "(II)I"⟩
abbrev cJ9_max_7cf53 : ByteArray := prog_10_method_65_code
def yJ9_max_7cf53 : MethodName := ⟨RJ9, "max", "(II)I"⟩
end
section
/-! THE ENGINE: a judgement J over pure cells (ints as Int at abstract addresses), derived from the kit's rows; its rows need no world, no room, no frame. -/
-- whole numbers and the machine's
def i3 (z : Int) : Int32 := Int32.ofInt z
def i6 (z : Int) : Int64 := Int64.ofInt z
def inR (z : Int) : Prop := -2147483648 ≤ z ∧ z < 2147483648
theorem i3_toInt {z : Int} (h : inR z) : (i3 z).toInt = z := by
  unfold i3
  rw [Int32.toInt_ofInt]
  have h1 := h.1
  have h2 := h.2
  have hs : (Int32.size : Int) = 4294967296 := rfl
  rw [Int.bmod_def, hs]
  omega
theorem i3_add (a b : Int) : i3 a + i3 b = i3 (a + b) := (Int32.ofInt_add ..).symm
theorem i3_sub (a b : Int) : i3 a - i3 b = i3 (a - b) := (Int32.ofInt_sub ..).symm
theorem i3_mul (a b : Int) : i3 a * i3 b = i3 (a * b) := (Int32.ofInt_mul ..).symm
theorem i3_neg (a : Int) : - i3 a = i3 (- a) := (Int32.ofInt_neg ..).symm
theorem i6_add (a b : Int) : i6 a + i6 b = i6 (a + b) := (Int64.ofInt_add ..).symm
theorem i6_mul (a b : Int) : i6 a * i6 b = i6 (a * b) := (Int64.ofInt_mul ..).symm
theorem i3_inj {a b : Int} (ha : inR a) (hb : inR b) : i3 a = i3 b ↔ a = b := by
  constructor
  · intro h
    have := congrArg Int32.toInt h
    rwa [i3_toInt ha, i3_toInt hb] at this
  · intro h; rw [h]
theorem i3_lt {a b : Int} (ha : inR a) (hb : inR b) : i3 a < i3 b ↔ a < b := by
  rw [Int32.lt_iff_toInt_lt, i3_toInt ha, i3_toInt hb]
theorem i3_le {a b : Int} (ha : inR a) (hb : inR b) : i3 a ≤ i3 b ↔ a ≤ b := by
  rw [Int32.le_iff_toInt_le, i3_toInt ha, i3_toInt hb]
theorem i3_zero : i3 0 = 0 := rfl
theorem inR0 : inR 0 := ⟨by decide, by decide⟩
theorem i3_eq0 {a : Int} (ha : inR a) : i3 a = 0 ↔ a = 0 := i3_inj ha inR0
theorem i3_of (x : Int32) : i3 x.toInt = x := by
  unfold i3
  exact Int32.ofInt_toInt x
theorem inR_of (x : Int32) : inR x.toInt := ⟨Int32.le_toInt x, Int32.toInt_lt x⟩
theorem i3_clamp {z : Int} (h : inR z) (h0 : 0 ≤ z) : (i3 z).toNatClampNeg = z.toNat := by
  rw [← Int32.toNat_toInt, i3_toInt h]
theorem i3_div {a b : Int} (ha : inR a) (hb : inR b) (hb0 : 0 < b) : i3 a / i3 b = i3 (a.tdiv b) := by
  apply Int32.toInt_inj.mp
  have h1 : inR (a.tdiv b) := by
    have := Int.natAbs_tdiv_le_natAbs a b
    have := ha.1
    have := ha.2
    rcases Int.le_total 0 a with h | h
    · have := Int.tdiv_nonneg h (Int.le_of_lt hb0)
      constructor <;> omega
    · have h4 := Int.tdiv_nonneg (show 0 ≤ -a by omega) (Int.le_of_lt hb0)
      rw [Int.neg_tdiv] at h4
      constructor <;> omega
  rw [Int32.toInt_div, i3_toInt ha, i3_toInt hb, i3_toInt h1, Int.bmod_def]
  have := h1.1
  have := h1.2
  omega
theorem i3_mod {a b : Int} (ha : inR a) (hb : inR b) (hb0 : 0 < b) : i3 a - i3 a / i3 b * i3 b = i3 (a.tmod b) := by
  rw [i3_div ha hb hb0, i3_mul, i3_sub]
  congr 1
  have := Int.tmod_add_tdiv_mul a b
  omega
theorem i3_ne0 {b : Int} (hb : inR b) (hb0 : 0 < b) : ¬ i3 b = 0 := by
  rw [i3_eq0 hb]; omega
-- values
abbrev PV : Type := Int ⊕ Int ⊕ Nat
abbrev vI (z : Int) : PV := .inl z
abbrev vL (z : Int) : PV := .inr (.inl z)
abbrev vR (k : Nat) : PV := .inr (.inr k)
abbrev Mem : Type := Nat → Int → Int
def rv (ad : Nat → Nat) : PV → Value
  | .inl z => .int (i3 z)
  | .inr (.inl z) => .long (i6 z)
  | .inr (.inr k) => .ref (ad k)
def wr (M : Mem) (a : Nat) (i x : Int) : Mem := fun b j => if b = a ∧ j = i then x else M b j
theorem wr_self (M : Mem) (a : Nat) (i x : Int) : wr M a i x a i = x := by simp [wr]
theorem wr_ne (M : Mem) {a b : Nat} {i j : Int} (x : Int) (h : ¬ (b = a ∧ j = i)) : wr M a i x b j = M b j := by simp [wr, h]
-- shapes: tag 0 int[], 1 boolean[], 2 int[][] (its rows), t+3 an object of class t (none: an int, some: a reference that stays)
abbrev Shp : Type := Nat × Nat × List (Option Nat)
def wF (ad : Nat → Nat) (SH : List Shp) : Nat → Prop := fun q => ∃ k, k < SH.length ∧ ad k = q
def clW : List vw_C := [(RX0, TX0, 10), (RX1, TX1, 5), (RX2, TX2, 2), (RX3, TX3, 8), (RX4, TX4, 2), (RX5, TX5, 2), (RX6, TX6, 6), (RX7, TX7, 9)]
def wfld (ad : Nat → Nat) (M : Mem) (a : Nat) (k : Nat) (r : Option Nat) : Value := match r with
  | none => .int (i3 (M a k))
  | some q => .ref (ad q)
def wE (ad : Nat → Nat) (cI cZ cA : ClassId) (M : Mem) (a : Nat) (s : Shp) : va_E := match s.1 with
  | 0 => .inl (cI, s.2.1, .inl (fun j => i3 (M a j)))
  | 1 => .inl (cZ, s.2.1, .inl (fun j => i3 (M a j)))
  | 2 => .inl (cA, s.2.1, .inr (.inr (.inr (.inr (fun j => (s.2.2.getD j none).map ad)))))
  | t + 3 => .inr (t, s.2.2.mapIdx (fun k r => wfld ad M a k r))
def wW (ad : Nat → Nat) (cI cZ cA : ClassId) (SH : List Shp) (M : Mem) : va_W := SH.mapIdx (fun a s => (ad a, wE ad cI cZ cA M a s))
theorem wW_get {ad : Nat → Nat} {cI cZ cA : ClassId} {SH : List Shp} {M : Mem} {a : Nat} {s : Shp} (h : SH[a]? = some s) : (wW ad cI cZ cA SH M)[a]? = some (ad a, wE ad cI cZ cA M a s) := by
  simp [wW, h]
theorem wW_get' {ad : Nat → Nat} {cI cZ cA : ClassId} {SH : List Shp} {M : Mem} {a : Nat} {q : Nat × va_E} (h : (wW ad cI cZ cA SH M)[a]? = some q) : ∃ s, SH[a]? = some s ∧ q = (ad a, wE ad cI cZ cA M a s) := by
  simp only [wW, List.getElem?_mapIdx, Option.map_eq_some_iff] at h
  obtain ⟨s, h1, h2⟩ := h
  exact ⟨s, h1, h2.symm⟩
theorem wW_D {ad : Nat → Nat} {cI cZ cA : ClassId} {SH : List Shp} {M : Mem} (hi : ∀ i j, i < SH.length → j < SH.length → ad i = ad j → i = j) : va_D (wF ad SH) (wW ad cI cZ cA SH M) := by
  constructor
  · intro i j p q h1 h2 h3
    obtain ⟨s1, a1, rfl⟩ := wW_get' h1
    obtain ⟨s2, a2, rfl⟩ := wW_get' h2
    exact hi i j (List.getElem?_eq_some_iff.mp a1).1 (List.getElem?_eq_some_iff.mp a2).1 h3
  · intro k q h
    obtain ⟨s, a1, rfl⟩ := wW_get' h
    exact ⟨k, (List.getElem?_eq_some_iff.mp a1).1, rfl⟩
/-- one cell is set: the others' entries don't look at it -/
theorem wW_set {ad : Nat → Nat} {cI cZ cA : ClassId} {SH : List Shp} {M : Mem} {a : Nat} {s : Shp} {i x : Int} (h : SH[a]? = some s) : (wW ad cI cZ cA SH M).set a (ad a, wE ad cI cZ cA (wr M a i x) a s) = wW ad cI cZ cA SH (wr M a i x) := by
  apply List.ext_getElem?
  intro k
  by_cases hk : k = a
  · subst hk
    rw [List.getElem?_set_self (by rw [wW, List.length_mapIdx]; exact (List.getElem?_eq_some_iff.mp h).1), wW_get h]
  · rw [List.getElem?_set_ne (Ne.symm hk)]
    simp only [wW, List.getElem?_mapIdx]
    cases hs : SH[k]? with
    | none => rfl
    | some t =>
      simp only [Option.map_some]
      congr 2
      obtain ⟨t1, t2, t3⟩ := t
      match t1 with
      | 0 => simp [wE, wr, hk]
      | 1 => simp [wE, wr, hk]
      | 2 => simp [wE]
      | u + 3 =>
        simp only [wE]
        congr 3
        funext k2 r
        cases r <;> simp [wfld, wr, hk]
-- static tables of the lattice
def tSQ : List Int := [1, 0, 0, 1, 0, -1, 1, 0, -1, 0, 0, -1, 0, 1, -1, 0, 1, 0, 0, -1, 0, 1, 1, 0, -1, 0, 0, 1, 0, -1, -1, 0]
def tHX : List Int := [1, 0, 0, 1, 0, -1, 1, 1, -1, -1, 1, 0, -1, 0, 0, -1, 0, 1, -1, -1, 1, 1, -1, 0, 0, 1, 1, 0, -1, 0, 1, 1, -1, -1, 0, 1, 0, -1, -1, 0, 1, 0, -1, -1, 1, 1, 0, -1]
def wT (ad : Nat → Nat) (A : Nat → Prop) (U : State) (H : Heap) : Prop :=
  va_Z RX5 "SQUARE_PARTS" "[I" (.ref (ad 1000)) A U H ∧ va_T .int (ad 1000) 32 (fun j => .int (i3 (tSQ.getD j 0))) A U H ∧
  va_Z RX5 "HEXAGONAL_PARTS" "[I" (.ref (ad 1001)) A U H ∧ va_T .int (ad 1001) 48 (fun j => .int (i3 (tHX.getD j 0))) A U H
/-- the tables' words that any later state keeps -/
def wTbl : List Cond := lw_tbl.filter goodWord
theorem wTbl_p {w : Cond} (i : Nat) (h : tables_1[i]? = some w) (hg : goodWord w = true) : w ∈ wTbl := List.mem_filter.mpr ⟨List.mem_append_right _ (List.mem_of_getElem? h), hg⟩
theorem wTbl_s {y : MethodName} (i : Nat) {n : Nat} (h : lw_privs[i]? = some (y, n)) : Cond.selects y.cls y y ∈ wTbl := List.mem_filter.mpr ⟨List.mem_append_left _ (List.mem_map.mpr ⟨(y, n), List.mem_of_getElem? h, rfl⟩), rfl⟩
abbrev MI : Type := MethodName × ByteArray × Nat × Option FieldType × Nat
def mW (mi : MI) : List Cond := .code mi.1 mi.2.1 mi.2.2.1 mi.2.2.2.1 :: wTbl
def mRm (mi : MI) : Room := { frames := mi.2.2.2.2, cells := 0, slots := 0, locals := 32 * mi.2.2.2.2 }
abbrev wTy (cI cZ cA : ClassId) : List (ClassId × FieldType) := [(cI, .int), (cZ, .boolean), (cA, .array .int)]
def wC (ad : Nat → Nat) (D : va_G) (cI cZ cA : ClassId) (SH : List Shp) (U : State) : Prop :=
  (∀ i j, i < SH.length → j < SH.length → ad i = ad j → i = j) ∧ va_K D clW (wTy cI cZ cA) U ∧ wT ad (wF ad SH) U U.heap
def wL (ad : Nat → Nat) (ls : Array Slot) (nL : Nat) (L : List (Option PV)) : Prop := ls.size = nL ∧ lv_wf ls ∧ L.length = nL ∧ ∀ (i : Nat) (v : PV), L[i]? = some (some v) → ls[i]? = some (.val (rv ad v))
def jQ (ad : Nat → Nat) (D : va_G) (cI cZ cA : ClassId) (SH : List Shp) (Q : Option PV → Mem → Prop) : Array Value → State → Outcome → State → Prop := fun _ st oc t =>
  (∃ (v : Option PV) (M : Mem), oc = .returned (v.map (rv ad)) ∧ Q v M ∧ va_P D clW (wW ad cI cZ cA SH M) t.heap) ∧ va_F (wF ad SH) st t
def jX (mi : MI) (ad : Nat → Nat) (D : va_G) (cI cZ cA : ClassId) (SH : List Shp) (p : Program) (s : State) (m : MethodId) (args : Array Value) (meth : Method) (c : Code) : Prop :=
  p.tables.exec = Jvm.exec ∧ c.code = mi.2.1 ∧ meth.sig.returnType = mi.2.2.2.1 ∧ c.maxLocals = mi.2.2.1 ∧ s.vm.findClass mi.1.cls = some m.cls ∧ meth.locks = false ∧ (∀ w ∈ mW mi, w.before args s = true) ∧ wC ad D cI cZ cA SH s
/-- from here the method comes to its end: with an answer v and cells M that Q allows -/
def J (SH : List Shp) (mi : MI) (pc : Nat) (L : List (Option PV)) (st : List PV) (M : Mem) (Q : Option PV → Mem → Prop) : Prop :=
  ∀ (ad : Nat → Nat) (D : va_G) (cI cZ cA : ClassId) (l : Launch) (p : Program) (e : Env) (s : State) (m : MethodId) (args : Array Value) (below : List Frame) (meth : Method) (c : Code), jX mi ad D cI cZ cA SH p s m args meth c →
    ∀ (H : Heap) (locs : List Loc) (ls : Array Slot), wL ad ls mi.2.2.1 L → va_P D clW (wW ad cI cZ cA SH M) H → va_S (wF ad SH) s.heap H locs →
    W p l e (mRm mi) s m args below meth c H locs 0 0 (MQ below (jQ ad D cI cZ cA SH Q) args s 0 0 (wF ad SH)) (F0 m pc ls (st.map (rv ad)))
section JR
variable {SH : List Shp} {mi : MI} {pc : Nat} {L : List (Option PV)} {st : List PV} {M : Mem} {Q : Option PV → Mem → Prop} {a b : Int}
theorem j_iadd (hd : decode mi.2.1 pc = .ok (.iadd, 1)) (k : J SH mi (pc + 1) L (vI (a + b) :: st) M Q) : J SH mi pc L (vI b :: vI a :: st) M Q := by
  intro ad D cI cZ cA l p e s m args below meth c h H locs ls hl hP hS
  have K := k ad D cI cZ cA l p e s m args below meth c h H locs ls hl hP hS
  refine lv_iadd (x := i3 a) (y := i3 b) h.1 h.2.1 hd ?_
  rw [i3_add]
  exact K
theorem j_isub (hd : decode mi.2.1 pc = .ok (.isub, 1)) (k : J SH mi (pc + 1) L (vI (a - b) :: st) M Q) : J SH mi pc L (vI b :: vI a :: st) M Q := by
  intro ad D cI cZ cA l p e s m args below meth c h H locs ls hl hP hS
  have K := k ad D cI cZ cA l p e s m args below meth c h H locs ls hl hP hS
  refine lv_isub (x := i3 a) (y := i3 b) h.1 h.2.1 hd ?_
  rw [i3_sub]
  exact K
theorem j_imul (hd : decode mi.2.1 pc = .ok (.imul, 1)) (k : J SH mi (pc + 1) L (vI (a * b) :: st) M Q) : J SH mi pc L (vI b :: vI a :: st) M Q := by
  intro ad D cI cZ cA l p e s m args below meth c h H locs ls hl hP hS
  have K := k ad D cI cZ cA l p e s m args below meth c h H locs ls hl hP hS
  refine lv_imul (x := i3 a) (y := i3 b) h.1 h.2.1 hd ?_
  rw [i3_mul]
  exact K
theorem j_ineg (hd : decode mi.2.1 pc = .ok (.ineg, 1)) (k : J SH mi (pc + 1) L (vI (-a) :: st) M Q) : J SH mi pc L (vI a :: st) M Q := by
  intro ad D cI cZ cA l p e s m args below meth c h H locs ls hl hP hS
  have K := k ad D cI cZ cA l p e s m args below meth c h H locs ls hl hP hS
  refine lv_ineg (x := i3 a) h.1 h.2.1 hd ?_
  rw [i3_neg]
  exact K
theorem j_idiv (hd : decode mi.2.1 pc = .ok (.idiv, 1)) (ha : inR a) (hb : inR b) (hb0 : 0 < b) (k : J SH mi (pc + 1) L (vI (a.tdiv b) :: st) M Q) : J SH mi pc L (vI b :: vI a :: st) M Q := by
  intro ad D cI cZ cA l p e s m args below meth c h H locs ls hl hP hS
  have K := k ad D cI cZ cA l p e s m args below meth c h H locs ls hl hP hS
  refine lv_idiv (x := i3 a) (y := i3 b) h.1 h.2.1 hd (i3_ne0 hb hb0) ?_
  rw [i3_div ha hb hb0]
  exact K
theorem j_irem (hd : decode mi.2.1 pc = .ok (.irem, 1)) (ha : inR a) (hb : inR b) (hb0 : 0 < b) (k : J SH mi (pc + 1) L (vI (a.tmod b) :: st) M Q) : J SH mi pc L (vI b :: vI a :: st) M Q := by
  intro ad D cI cZ cA l p e s m args below meth c h H locs ls hl hP hS
  have K := k ad D cI cZ cA l p e s m args below meth c h H locs ls hl hP hS
  refine lv_irem (x := i3 a) (y := i3 b) h.1 h.2.1 hd (i3_ne0 hb hb0) ?_
  rw [i3_mod ha hb hb0]
  exact K
/-- a row whose answer is any int32: bits -/
theorem j_iand (hd : decode mi.2.1 pc = .ok (.iand, 1)) {z : Int} (hz : i3 a &&& i3 b = i3 z) (k : J SH mi (pc + 1) L (vI z :: st) M Q) : J SH mi pc L (vI b :: vI a :: st) M Q := by
  intro ad D cI cZ cA l p e s m args below meth c h H locs ls hl hP hS
  have K := k ad D cI cZ cA l p e s m args below meth c h H locs ls hl hP hS
  refine lv_iand (x := i3 a) (y := i3 b) h.1 h.2.1 hd ?_
  rw [hz]
  exact K
theorem j_ior (hd : decode mi.2.1 pc = .ok (.ior, 1)) {z : Int} (hz : i3 a ||| i3 b = i3 z) (k : J SH mi (pc + 1) L (vI z :: st) M Q) : J SH mi pc L (vI b :: vI a :: st) M Q := by
  intro ad D cI cZ cA l p e s m args below meth c h H locs ls hl hP hS
  have K := k ad D cI cZ cA l p e s m args below meth c h H locs ls hl hP hS
  refine lv_ior (x := i3 a) (y := i3 b) h.1 h.2.1 hd ?_
  rw [hz]
  exact K
theorem j_ixor (hd : decode mi.2.1 pc = .ok (.ixor, 1)) {z : Int} (hz : i3 a ^^^ i3 b = i3 z) (k : J SH mi (pc + 1) L (vI z :: st) M Q) : J SH mi pc L (vI b :: vI a :: st) M Q := by
  intro ad D cI cZ cA l p e s m args below meth c h H locs ls hl hP hS
  have K := k ad D cI cZ cA l p e s m args below meth c h H locs ls hl hP hS
  refine lv_ixor (x := i3 a) (y := i3 b) h.1 h.2.1 hd ?_
  rw [hz]
  exact K
theorem j_ishl (hd : decode mi.2.1 pc = .ok (.ishl, 1)) {z : Int} (hz : i3 a <<< (i3 b &&& 31) = i3 z) (k : J SH mi (pc + 1) L (vI z :: st) M Q) : J SH mi pc L (vI b :: vI a :: st) M Q := by
  intro ad D cI cZ cA l p e s m args below meth c h H locs ls hl hP hS
  have K := k ad D cI cZ cA l p e s m args below meth c h H locs ls hl hP hS
  refine lv_ishl (x := i3 a) (y := i3 b) h.1 h.2.1 hd ?_
  rw [hz]
  exact K
theorem j_ishr (hd : decode mi.2.1 pc = .ok (.ishr, 1)) {z : Int} (hz : i3 a >>> (i3 b &&& 31) = i3 z) (k : J SH mi (pc + 1) L (vI z :: st) M Q) : J SH mi pc L (vI b :: vI a :: st) M Q := by
  intro ad D cI cZ cA l p e s m args below meth c h H locs ls hl hP hS
  have K := k ad D cI cZ cA l p e s m args below meth c h H locs ls hl hP hS
  refine lv_ishr (x := i3 a) (y := i3 b) h.1 h.2.1 hd ?_
  rw [hz]
  exact K
theorem j_ladd (hd : decode mi.2.1 pc = .ok (.ladd, 1)) (k : J SH mi (pc + 1) L (vL (a + b) :: st) M Q) : J SH mi pc L (vL b :: vL a :: st) M Q := by
  intro ad D cI cZ cA l p e s m args below meth c h H locs ls hl hP hS
  have K := k ad D cI cZ cA l p e s m args below meth c h H locs ls hl hP hS
  refine lv_ladd (x := i6 a) (y := i6 b) h.1 h.2.1 hd ?_
  rw [i6_add]
  exact K
theorem j_lmul (hd : decode mi.2.1 pc = .ok (.lmul, 1)) (k : J SH mi (pc + 1) L (vL (a * b) :: st) M Q) : J SH mi pc L (vL b :: vL a :: st) M Q := by
  intro ad D cI cZ cA l p e s m args below meth c h H locs ls hl hP hS
  have K := k ad D cI cZ cA l p e s m args below meth c h H locs ls hl hP hS
  refine lv_lmul (x := i6 a) (y := i6 b) h.1 h.2.1 hd ?_
  rw [i6_mul]
  exact K
theorem j_ldiv (hd : decode mi.2.1 pc = .ok (.ldiv, 1)) (hb : ¬ i6 b = 0) {z : Int} (hz : i6 a / i6 b = i6 z) (k : J SH mi (pc + 1) L (vL z :: st) M Q) : J SH mi pc L (vL b :: vL a :: st) M Q := by
  intro ad D cI cZ cA l p e s m args below meth c h H locs ls hl hP hS
  have K := k ad D cI cZ cA l p e s m args below meth c h H locs ls hl hP hS
  refine lv_ldiv (x := i6 a) (y := i6 b) h.1 h.2.1 hd hb ?_
  rw [hz]
  exact K
theorem j_i2l (hd : decode mi.2.1 pc = .ok (.i2l, 1)) (ha : inR a) (k : J SH mi (pc + 1) L (vL a :: st) M Q) : J SH mi pc L (vI a :: st) M Q := by
  intro ad D cI cZ cA l p e s m args below meth c h H locs ls hl hP hS
  have K := k ad D cI cZ cA l p e s m args below meth c h H locs ls hl hP hS
  refine lv_i2l (x := i3 a) (v := i6 a) h.1 h.2.1 hd ?_ K
  show Int64.ofInt (i3 a).toInt = i6 a
  rw [i3_toInt ha]
  rfl
theorem j_iconst {n : Int} (hd : decode mi.2.1 pc = .ok (.iconst n, 1)) (k : J SH mi (pc + 1) L (vI n :: st) M Q) : J SH mi pc L st M Q := by
  intro ad D cI cZ cA l p e s m args below meth c h H locs ls hl hP hS
  exact lv_iconst (v := i3 n) h.1 h.2.1 hd rfl (k ad D cI cZ cA l p e s m args below meth c h H locs ls hl hP hS)
theorem j_bipush {n : Int} (hd : decode mi.2.1 pc = .ok (.bipush n, 2)) (hn : (Int8.ofInt n).toInt32 = i3 n) (k : J SH mi (pc + 2) L (vI n :: st) M Q) : J SH mi pc L st M Q := by
  intro ad D cI cZ cA l p e s m args below meth c h H locs ls hl hP hS
  exact lv_bipush (v := i3 n) h.1 h.2.1 hd hn (k ad D cI cZ cA l p e s m args below meth c h H locs ls hl hP hS)
theorem j_sipush {n : Int} (hd : decode mi.2.1 pc = .ok (.sipush n, 3)) (hn : (Int16.ofInt n).toInt32 = i3 n) (k : J SH mi (pc + 3) L (vI n :: st) M Q) : J SH mi pc L st M Q := by
  intro ad D cI cZ cA l p e s m args below meth c h H locs ls hl hP hS
  exact lv_sipush (v := i3 n) h.1 h.2.1 hd hn (k ad D cI cZ cA l p e s m args below meth c h H locs ls hl hP hS)
theorem j_lconst {n : Fin 2} (hd : decode mi.2.1 pc = .ok (.lconst n, 1)) {z : Int} (hz : Int64.ofNat (n : Nat) = i6 z) (k : J SH mi (pc + 1) L (vL z :: st) M Q) : J SH mi pc L st M Q := by
  intro ad D cI cZ cA l p e s m args below meth c h H locs ls hl hP hS
  exact lv_lconst (v := i6 z) h.1 h.2.1 hd hz (k ad D cI cZ cA l p e s m args below meth c h H locs ls hl hP hS)
theorem j_ldc2 {index : Nat} {z : Int} {v : Int64} (hw : Cond.constantLong mi.1.cls index v ∈ wTbl) (hz : v = i6 z) (hd : decode mi.2.1 pc = .ok (.ldc2_w index, 3)) (k : J SH mi (pc + 3) L (vL z :: st) M Q) : J SH mi pc L st M Q := by
  intro ad D cI cZ cA l p e s m args below meth c h H locs ls hl hP hS
  subst hz
  exact lv_ldc2 h.1 h.2.1 h.2.2.2.2.1 (h.2.2.2.2.2.2.1 _ (List.mem_cons_of_mem _ hw)) hd (k ad D cI cZ cA l p e s m args below meth c h H locs ls hl hP hS)
theorem j_iload_n {i : Fin 4} (hd : decode mi.2.1 pc = .ok (.iload_n i, 1)) (hL : L[(i : Nat)]? = some (some (vI a))) (k : J SH mi (pc + 1) L (vI a :: st) M Q) : J SH mi pc L st M Q := by
  intro ad D cI cZ cA l p e s m args below meth c h H locs ls hl hP hS
  exact lv_iload_n (x := i3 a) h.1 h.2.1 hd rfl (hl.2.2.2 _ _ hL) (k ad D cI cZ cA l p e s m args below meth c h H locs ls hl hP hS)
theorem j_iload {i : Nat} (hd : decode mi.2.1 pc = .ok (.iload i, 2)) (hL : L[i]? = some (some (vI a))) (k : J SH mi (pc + 2) L (vI a :: st) M Q) : J SH mi pc L st M Q := by
  intro ad D cI cZ cA l p e s m args below meth c h H locs ls hl hP hS
  exact lv_iload (x := i3 a) h.1 h.2.1 hd (hl.2.2.2 _ _ hL) (k ad D cI cZ cA l p e s m args below meth c h H locs ls hl hP hS)
theorem j_lload_n {i : Fin 4} (hd : decode mi.2.1 pc = .ok (.lload_n i, 1)) (hL : L[(i : Nat)]? = some (some (vL a))) (k : J SH mi (pc + 1) L (vL a :: st) M Q) : J SH mi pc L st M Q := by
  intro ad D cI cZ cA l p e s m args below meth c h H locs ls hl hP hS
  exact lv_lload_n (x := i6 a) h.1 h.2.1 hd rfl (hl.2.2.2 _ _ hL) (k ad D cI cZ cA l p e s m args below meth c h H locs ls hl hP hS)
theorem j_aload_n {i : Fin 4} {r : Nat} (hd : decode mi.2.1 pc = .ok (.aload_n i, 1)) (hL : L[(i : Nat)]? = some (some (vR r))) (k : J SH mi (pc + 1) L (vR r :: st) M Q) : J SH mi pc L st M Q := by
  intro ad D cI cZ cA l p e s m args below meth c h H locs ls hl hP hS
  exact lv_aload_n (x := ad r) h.1 h.2.1 hd rfl (hl.2.2.2 _ _ hL) (k ad D cI cZ cA l p e s m args below meth c h H locs ls hl hP hS)
-- stores
def wPairs (ad : Nat → Nat) (L : List (Option PV)) : List (Nat × Value) := (List.range L.length).filterMap (fun i => ((L[i]?).join).map (fun v => (i, rv ad v)))
theorem wPairs_mem {ad : Nat → Nat} {L : List (Option PV)} {q : Nat × Value} : q ∈ wPairs ad L ↔ ∃ v, L[q.1]? = some (some v) ∧ q.2 = rv ad v := by
  unfold wPairs
  rw [List.mem_filterMap]
  constructor
  · rintro ⟨i, -, h⟩
    rw [Option.map_eq_some_iff] at h
    obtain ⟨v, h1, rfl⟩ := h
    exact ⟨v, by cases h2 : L[i]? with
      | none => rw [h2] at h1; cases h1
      | some o => rw [h2] at h1; simp at h1; rw [h1], rfl⟩
  · rintro ⟨v, h1, h2⟩
    refine ⟨q.1, List.mem_range.mpr (List.getElem?_eq_some_iff.mp h1).1, ?_⟩
    rw [h1]
    simp [← h2]
theorem wL_has {ad : Nat → Nat} {ls : Array Slot} {nL : Nat} (h : wL ad ls nL L) : lv_has ls nL (wPairs ad L) := by
  refine ⟨h.1, h.2.1, fun q hq => ?_⟩
  obtain ⟨v, h1, h2⟩ := wPairs_mem.mp hq
  rw [h2]
  exact h.2.2.2 _ _ h1
/-- no long stands just below place i -/
def noL (L : List (Option PV)) (i : Nat) : Prop := ∀ j z, j + 1 = i → L[j]? ≠ some (some (vL z))
theorem rv_cat2 {ad : Nat → Nat} {v : PV} (h : ¬ ∃ z, v = vL z) : (rv ad v).category = 1 := by
  match v, h with
  | .inl z, _ => rfl
  | .inr (.inl z), h => exact absurd ⟨z, rfl⟩ h
  | .inr (.inr z), _ => rfl
theorem wL_set1 {ad : Nat → Nat} {ls ls' : Array Slot} {nL i : Nat} {v : PV} (h : wL ad ls nL L) (hi : i < nL) (hn : noL L i) (h2 : lv_has ls' nL ((i, rv ad v) :: (wPairs ad L).filter (fun q => !(q.1 == i) && !(q.1 + 1 == i && q.2.category == 2)))) : wL ad ls' nL (L.set i (some v)) := by
  refine ⟨h2.1, h2.2.1, by rw [List.length_set]; exact h.2.2.1, fun j w hj => ?_⟩
  by_cases e : j = i
  · subst e
    rw [List.getElem?_set_self (by rw [h.2.2.1]; exact hi)] at hj
    cases hj
    exact h2.2.2 _ List.mem_cons_self
  · rw [List.getElem?_set_ne (Ne.symm e)] at hj
    refine h2.2.2 (j, rv ad w) (List.mem_cons_of_mem _ (List.mem_filter.mpr ⟨wPairs_mem.mpr ⟨w, hj, rfl⟩, ?_⟩))
    have e2 : ¬ (j + 1 = i ∧ (rv ad w).category = 2) := by
      rintro ⟨e3, e4⟩
      rw [rv_cat2 (fun ⟨z, hz⟩ => hn j z e3 (by rw [hj, hz]))] at e4
      exact absurd e4 (by decide)
    simp only [Bool.and_eq_true, Bool.not_eq_true', beq_eq_false_iff_ne, ne_eq, Bool.and_eq_false_iff]
    refine ⟨e, ?_⟩
    by_cases e3 : j + 1 = i
    · right; exact fun e4 => e2 ⟨e3, e4⟩
    · left; exact e3
theorem j_istore_n {i : Fin 4} {L' : List (Option PV)} (hd : decode mi.2.1 pc = .ok (.istore_n i, 1)) (hi : (i : Nat) < mi.2.2.1) (hn : noL L i) (hL : L.set i (some (vI a)) = L') (k : J SH mi (pc + 1) L' st M Q) : J SH mi pc L (vI a :: st) M Q := by
  intro ad D cI cZ cA l p e s m args below meth c h H locs ls hl hP hS
  subst hL
  exact lv_istore_n (x := i3 a) h.1 h.2.1 hd rfl (wL_has hl) hi rfl (fun ls' h2 => k ad D cI cZ cA l p e s m args below meth c h H locs ls' (wL_set1 (v := vI a) hl hi hn h2) hP hS)
theorem j_istore {i : Nat} {L' : List (Option PV)} (hd : decode mi.2.1 pc = .ok (.istore i, 2)) (hi : i < mi.2.2.1) (hn : noL L i) (hL : L.set i (some (vI a)) = L') (k : J SH mi (pc + 2) L' st M Q) : J SH mi pc L (vI a :: st) M Q := by
  intro ad D cI cZ cA l p e s m args below meth c h H locs ls hl hP hS
  subst hL
  exact lv_istore (x := i3 a) h.1 h.2.1 hd (wL_has hl) hi rfl (fun ls' h2 => k ad D cI cZ cA l p e s m args below meth c h H locs ls' (wL_set1 (v := vI a) hl hi hn h2) hP hS)
theorem j_astore_n {i : Fin 4} {r : Nat} {L' : List (Option PV)} (hd : decode mi.2.1 pc = .ok (.astore_n i, 1)) (hi : (i : Nat) < mi.2.2.1) (hn : noL L i) (hL : L.set i (some (vR r)) = L') (k : J SH mi (pc + 1) L' st M Q) : J SH mi pc L (vR r :: st) M Q := by
  intro ad D cI cZ cA l p e s m args below meth c h H locs ls hl hP hS
  subst hL
  exact lv_astore_n (x := ad r) h.1 h.2.1 hd rfl (wL_has hl) hi rfl (fun ls' h2 => k ad D cI cZ cA l p e s m args below meth c h H locs ls' (wL_set1 (v := vR r) hl hi hn h2) hP hS)
theorem j_iinc {i : Nat} {n : Int} {L' : List (Option PV)} (hd : decode mi.2.1 pc = .ok (.iinc i n, 3)) (hg : L[i]? = some (some (vI a))) (hi : i < mi.2.2.1) (hn : noL L i) (hL : L.set i (some (vI (a + n))) = L') (k : J SH mi (pc + 3) L' st M Q) : J SH mi pc L st M Q := by
  intro ad D cI cZ cA l p e s m args below meth c h H locs ls hl hP hS
  subst hL
  obtain ⟨k0, hk0⟩ := List.getElem?_of_mem (wPairs_mem (ad := ad) (q := (i, rv ad (vI a))).mpr ⟨vI a, hg, rfl⟩)
  exact lv_iinc (x := i3 a) (v := i3 (a + n)) h.1 h.2.1 hd (wL_has hl) hk0 (i3_add a n) hi rfl (fun ls' h2 => k ad D cI cZ cA l p e s m args below meth c h H locs ls' (wL_set1 (v := vI (a + n)) hl hi hn h2) hP hS)
theorem j_lstore_n {i : Fin 4} {L' : List (Option PV)} (hd : decode mi.2.1 pc = .ok (.lstore_n i, 1)) (hi : (i : Nat) + 1 < mi.2.2.1) (hn : noL L i) (hL : (L.set i (some (vL a))).set ((i : Nat) + 1) none = L') (k : J SH mi (pc + 1) L' st M Q) : J SH mi pc L (vL a :: st) M Q := by
  intro ad D cI cZ cA l p e s m args below meth c h H locs ls hl hP hS
  subst hL
  refine lv_lstore_n (x := i6 a) h.1 h.2.1 hd rfl (wL_has hl) hi rfl (fun ls' h2 => k ad D cI cZ cA l p e s m args below meth c h H locs ls' ?_ hP hS)
  refine ⟨h2.1, h2.2.1, by rw [List.length_set, List.length_set]; exact hl.2.2.1, fun j w hj => ?_⟩
  by_cases e2 : j = (i : Nat) + 1
  · subst e2
    rw [List.getElem?_set_self (by rw [List.length_set, hl.2.2.1]; exact hi)] at hj
    cases hj
  · rw [List.getElem?_set_ne (Ne.symm e2)] at hj
    by_cases e : j = i
    · subst e
      rw [List.getElem?_set_self (by rw [hl.2.2.1]; omega)] at hj
      cases hj
      exact h2.2.2 _ List.mem_cons_self
    · rw [List.getElem?_set_ne (Ne.symm e)] at hj
      refine h2.2.2 (j, rv ad w) (List.mem_cons_of_mem _ (List.mem_filter.mpr ⟨wPairs_mem.mpr ⟨w, hj, rfl⟩, ?_⟩))
      have e5 : ¬ (j + 1 = i ∧ (rv ad w).category = 2) := by
        rintro ⟨e3, e4⟩
        rw [rv_cat2 (fun ⟨z, hz⟩ => hn j z e3 (by rw [hj, hz]))] at e4
        exact absurd e4 (by decide)
      simp only [Bool.and_eq_true, Bool.not_eq_true', beq_eq_false_iff_ne, ne_eq, Bool.and_eq_false_iff]
      refine ⟨e, e2, ?_⟩
      by_cases e3 : j + 1 = i
      · right; exact fun e4 => e5 ⟨e3, e4⟩
      · left; exact e3
theorem j_dup {v : PV} (hd : decode mi.2.1 pc = .ok (.dup, 1)) (hv : ∀ z, v ≠ vL z) (k : J SH mi (pc + 1) L (v :: v :: st) M Q) : J SH mi pc L (v :: st) M Q := by
  intro ad D cI cZ cA l p e s m args below meth c h H locs ls hl hP hS
  exact lv_dup h.1 h.2.1 hd (rv_cat2 (fun ⟨z, hz⟩ => hv z hz)) (k ad D cI cZ cA l p e s m args below meth c h H locs ls hl hP hS)
theorem j_pop {v : PV} (hd : decode mi.2.1 pc = .ok (.pop, 1)) (hv : ∀ z, v ≠ vL z) (k : J SH mi (pc + 1) L st M Q) : J SH mi pc L (v :: st) M Q := by
  intro ad D cI cZ cA l p e s m args below meth c h H locs ls hl hP hS
  exact lv_pop h.1 h.2.1 hd (rv_cat2 (fun ⟨z, hz⟩ => hv z hz)) (k ad D cI cZ cA l p e s m args below meth c h H locs ls hl hP hS)
theorem j_dup2 {v w : PV} (hd : decode mi.2.1 pc = .ok (.dup2, 1)) (hv : ∀ z, v ≠ vL z) (hw : ∀ z, w ≠ vL z) (k : J SH mi (pc + 1) L (v :: w :: v :: w :: st) M Q) : J SH mi pc L (v :: w :: st) M Q := by
  intro ad D cI cZ cA l p e s m args below meth c h H locs ls hl hP hS
  exact lv_dup2_11 h.1 h.2.1 hd (rv_cat2 (fun ⟨z, hz⟩ => hv z hz)) (rv_cat2 (fun ⟨z, hz⟩ => hw z hz)) (k ad D cI cZ cA l p e s m args below meth c h H locs ls hl hP hS)
theorem j_goto {off : Int} (tgt : Nat) (hd : decode mi.2.1 pc = .ok (.goto off, 3)) (ht : (pc : Int) + off = (tgt : Int)) (k : J SH mi tgt L st M Q) : J SH mi pc L st M Q := by
  intro ad D cI cZ cA l p e s m args below meth c h H locs ls hl hP hS
  exact lv_goto h.1 h.2.1 hd ht (k ad D cI cZ cA l p e s m args below meth c h H locs ls hl hP hS)
theorem j_if_eq {off : Int} (tgt : Nat) (hd : decode mi.2.1 pc = .ok (.ifCond .eq off, 3)) (ht : (pc : Int) + off = (tgt : Int)) (ha : inR a) (kt : a = 0 → J SH mi tgt L st M Q) (kf : ¬ a = 0 → J SH mi (pc + 3) L st M Q) : J SH mi pc L (vI a :: st) M Q := by
  intro ad D cI cZ cA l p e s m args below meth c h H locs ls hl hP hS
  refine lv_if_eq (x := i3 a) (tgt := tgt) h.1 h.2.1 hd ht (fun q => kt ?_ ad D cI cZ cA l p e s m args below meth c h H locs ls hl hP hS) (fun q => kf ?_ ad D cI cZ cA l p e s m args below meth c h H locs ls hl hP hS)
  all_goals (rw [← i3_zero] at q; simp only [ge_iff_le, gt_iff_lt, ne_eq, i3_inj ha inR0, i3_lt ha inR0, i3_lt inR0 ha, i3_le ha inR0, i3_le inR0 ha] at q; omega)
theorem j_icmp_eq {off : Int} (tgt : Nat) (hd : decode mi.2.1 pc = .ok (.if_icmp .eq off, 3)) (ht : (pc : Int) + off = (tgt : Int)) (ha : inR a) (hb : inR b) (kt : a = b → J SH mi tgt L st M Q) (kf : ¬ a = b → J SH mi (pc + 3) L st M Q) : J SH mi pc L (vI b :: vI a :: st) M Q := by
  intro ad D cI cZ cA l p e s m args below meth c h H locs ls hl hP hS
  refine lv_icmp_eq (x := i3 a) (y := i3 b) (tgt := tgt) h.1 h.2.1 hd ht (fun q => kt ?_ ad D cI cZ cA l p e s m args below meth c h H locs ls hl hP hS) (fun q => kf ?_ ad D cI cZ cA l p e s m args below meth c h H locs ls hl hP hS)
  all_goals (simp only [ge_iff_le, gt_iff_lt, ne_eq, i3_inj ha hb, i3_lt ha hb, i3_lt hb ha, i3_le ha hb, i3_le hb ha] at q; omega)
theorem j_if_ne {off : Int} (tgt : Nat) (hd : decode mi.2.1 pc = .ok (.ifCond .ne off, 3)) (ht : (pc : Int) + off = (tgt : Int)) (ha : inR a) (kt : ¬ a = 0 → J SH mi tgt L st M Q) (kf : a = 0 → J SH mi (pc + 3) L st M Q) : J SH mi pc L (vI a :: st) M Q := by
  intro ad D cI cZ cA l p e s m args below meth c h H locs ls hl hP hS
  refine lv_if_ne (x := i3 a) (tgt := tgt) h.1 h.2.1 hd ht (fun q => kt ?_ ad D cI cZ cA l p e s m args below meth c h H locs ls hl hP hS) (fun q => kf ?_ ad D cI cZ cA l p e s m args below meth c h H locs ls hl hP hS)
  all_goals (rw [← i3_zero] at q; simp only [ge_iff_le, gt_iff_lt, ne_eq, i3_inj ha inR0, i3_lt ha inR0, i3_lt inR0 ha, i3_le ha inR0, i3_le inR0 ha] at q; omega)
theorem j_icmp_ne {off : Int} (tgt : Nat) (hd : decode mi.2.1 pc = .ok (.if_icmp .ne off, 3)) (ht : (pc : Int) + off = (tgt : Int)) (ha : inR a) (hb : inR b) (kt : ¬ a = b → J SH mi tgt L st M Q) (kf : a = b → J SH mi (pc + 3) L st M Q) : J SH mi pc L (vI b :: vI a :: st) M Q := by
  intro ad D cI cZ cA l p e s m args below meth c h H locs ls hl hP hS
  refine lv_icmp_ne (x := i3 a) (y := i3 b) (tgt := tgt) h.1 h.2.1 hd ht (fun q => kt ?_ ad D cI cZ cA l p e s m args below meth c h H locs ls hl hP hS) (fun q => kf ?_ ad D cI cZ cA l p e s m args below meth c h H locs ls hl hP hS)
  all_goals (simp only [ge_iff_le, gt_iff_lt, ne_eq, i3_inj ha hb, i3_lt ha hb, i3_lt hb ha, i3_le ha hb, i3_le hb ha] at q; omega)
theorem j_if_lt {off : Int} (tgt : Nat) (hd : decode mi.2.1 pc = .ok (.ifCond .lt off, 3)) (ht : (pc : Int) + off = (tgt : Int)) (ha : inR a) (kt : a < 0 → J SH mi tgt L st M Q) (kf : 0 ≤ a → J SH mi (pc + 3) L st M Q) : J SH mi pc L (vI a :: st) M Q := by
  intro ad D cI cZ cA l p e s m args below meth c h H locs ls hl hP hS
  refine lv_if_lt (x := i3 a) (tgt := tgt) h.1 h.2.1 hd ht (fun q => kt ?_ ad D cI cZ cA l p e s m args below meth c h H locs ls hl hP hS) (fun q => kf ?_ ad D cI cZ cA l p e s m args below meth c h H locs ls hl hP hS)
  all_goals (rw [← i3_zero] at q; simp only [ge_iff_le, gt_iff_lt, ne_eq, i3_inj ha inR0, i3_lt ha inR0, i3_lt inR0 ha, i3_le ha inR0, i3_le inR0 ha] at q; omega)
theorem j_icmp_lt {off : Int} (tgt : Nat) (hd : decode mi.2.1 pc = .ok (.if_icmp .lt off, 3)) (ht : (pc : Int) + off = (tgt : Int)) (ha : inR a) (hb : inR b) (kt : a < b → J SH mi tgt L st M Q) (kf : b ≤ a → J SH mi (pc + 3) L st M Q) : J SH mi pc L (vI b :: vI a :: st) M Q := by
  intro ad D cI cZ cA l p e s m args below meth c h H locs ls hl hP hS
  refine lv_icmp_lt (x := i3 a) (y := i3 b) (tgt := tgt) h.1 h.2.1 hd ht (fun q => kt ?_ ad D cI cZ cA l p e s m args below meth c h H locs ls hl hP hS) (fun q => kf ?_ ad D cI cZ cA l p e s m args below meth c h H locs ls hl hP hS)
  all_goals (simp only [ge_iff_le, gt_iff_lt, ne_eq, i3_inj ha hb, i3_lt ha hb, i3_lt hb ha, i3_le ha hb, i3_le hb ha] at q; omega)
theorem j_if_ge {off : Int} (tgt : Nat) (hd : decode mi.2.1 pc = .ok (.ifCond .ge off, 3)) (ht : (pc : Int) + off = (tgt : Int)) (ha : inR a) (kt : 0 ≤ a → J SH mi tgt L st M Q) (kf : a < 0 → J SH mi (pc + 3) L st M Q) : J SH mi pc L (vI a :: st) M Q := by
  intro ad D cI cZ cA l p e s m args below meth c h H locs ls hl hP hS
  refine lv_if_ge (x := i3 a) (tgt := tgt) h.1 h.2.1 hd ht (fun q => kt ?_ ad D cI cZ cA l p e s m args below meth c h H locs ls hl hP hS) (fun q => kf ?_ ad D cI cZ cA l p e s m args below meth c h H locs ls hl hP hS)
  all_goals (rw [← i3_zero] at q; simp only [ge_iff_le, gt_iff_lt, ne_eq, i3_inj ha inR0, i3_lt ha inR0, i3_lt inR0 ha, i3_le ha inR0, i3_le inR0 ha] at q; omega)
theorem j_icmp_ge {off : Int} (tgt : Nat) (hd : decode mi.2.1 pc = .ok (.if_icmp .ge off, 3)) (ht : (pc : Int) + off = (tgt : Int)) (ha : inR a) (hb : inR b) (kt : b ≤ a → J SH mi tgt L st M Q) (kf : a < b → J SH mi (pc + 3) L st M Q) : J SH mi pc L (vI b :: vI a :: st) M Q := by
  intro ad D cI cZ cA l p e s m args below meth c h H locs ls hl hP hS
  refine lv_icmp_ge (x := i3 a) (y := i3 b) (tgt := tgt) h.1 h.2.1 hd ht (fun q => kt ?_ ad D cI cZ cA l p e s m args below meth c h H locs ls hl hP hS) (fun q => kf ?_ ad D cI cZ cA l p e s m args below meth c h H locs ls hl hP hS)
  all_goals (simp only [ge_iff_le, gt_iff_lt, ne_eq, i3_inj ha hb, i3_lt ha hb, i3_lt hb ha, i3_le ha hb, i3_le hb ha] at q; omega)
theorem j_if_gt {off : Int} (tgt : Nat) (hd : decode mi.2.1 pc = .ok (.ifCond .gt off, 3)) (ht : (pc : Int) + off = (tgt : Int)) (ha : inR a) (kt : 0 < a → J SH mi tgt L st M Q) (kf : a ≤ 0 → J SH mi (pc + 3) L st M Q) : J SH mi pc L (vI a :: st) M Q := by
  intro ad D cI cZ cA l p e s m args below meth c h H locs ls hl hP hS
  refine lv_if_gt (x := i3 a) (tgt := tgt) h.1 h.2.1 hd ht (fun q => kt ?_ ad D cI cZ cA l p e s m args below meth c h H locs ls hl hP hS) (fun q => kf ?_ ad D cI cZ cA l p e s m args below meth c h H locs ls hl hP hS)
  all_goals (rw [← i3_zero] at q; simp only [ge_iff_le, gt_iff_lt, ne_eq, i3_inj ha inR0, i3_lt ha inR0, i3_lt inR0 ha, i3_le ha inR0, i3_le inR0 ha] at q; omega)
theorem j_icmp_gt {off : Int} (tgt : Nat) (hd : decode mi.2.1 pc = .ok (.if_icmp .gt off, 3)) (ht : (pc : Int) + off = (tgt : Int)) (ha : inR a) (hb : inR b) (kt : b < a → J SH mi tgt L st M Q) (kf : a ≤ b → J SH mi (pc + 3) L st M Q) : J SH mi pc L (vI b :: vI a :: st) M Q := by
  intro ad D cI cZ cA l p e s m args below meth c h H locs ls hl hP hS
  refine lv_icmp_gt (x := i3 a) (y := i3 b) (tgt := tgt) h.1 h.2.1 hd ht (fun q => kt ?_ ad D cI cZ cA l p e s m args below meth c h H locs ls hl hP hS) (fun q => kf ?_ ad D cI cZ cA l p e s m args below meth c h H locs ls hl hP hS)
  all_goals (simp only [ge_iff_le, gt_iff_lt, ne_eq, i3_inj ha hb, i3_lt ha hb, i3_lt hb ha, i3_le ha hb, i3_le hb ha] at q; omega)
theorem j_if_le {off : Int} (tgt : Nat) (hd : decode mi.2.1 pc = .ok (.ifCond .le off, 3)) (ht : (pc : Int) + off = (tgt : Int)) (ha : inR a) (kt : a ≤ 0 → J SH mi tgt L st M Q) (kf : 0 < a → J SH mi (pc + 3) L st M Q) : J SH mi pc L (vI a :: st) M Q := by
  intro ad D cI cZ cA l p e s m args below meth c h H locs ls hl hP hS
  refine lv_if_le (x := i3 a) (tgt := tgt) h.1 h.2.1 hd ht (fun q => kt ?_ ad D cI cZ cA l p e s m args below meth c h H locs ls hl hP hS) (fun q => kf ?_ ad D cI cZ cA l p e s m args below meth c h H locs ls hl hP hS)
  all_goals (rw [← i3_zero] at q; simp only [ge_iff_le, gt_iff_lt, ne_eq, i3_inj ha inR0, i3_lt ha inR0, i3_lt inR0 ha, i3_le ha inR0, i3_le inR0 ha] at q; omega)
theorem j_icmp_le {off : Int} (tgt : Nat) (hd : decode mi.2.1 pc = .ok (.if_icmp .le off, 3)) (ht : (pc : Int) + off = (tgt : Int)) (ha : inR a) (hb : inR b) (kt : a ≤ b → J SH mi tgt L st M Q) (kf : b < a → J SH mi (pc + 3) L st M Q) : J SH mi pc L (vI b :: vI a :: st) M Q := by
  intro ad D cI cZ cA l p e s m args below meth c h H locs ls hl hP hS
  refine lv_icmp_le (x := i3 a) (y := i3 b) (tgt := tgt) h.1 h.2.1 hd ht (fun q => kt ?_ ad D cI cZ cA l p e s m args below meth c h H locs ls hl hP hS) (fun q => kf ?_ ad D cI cZ cA l p e s m args below meth c h H locs ls hl hP hS)
  all_goals (simp only [ge_iff_le, gt_iff_lt, ne_eq, i3_inj ha hb, i3_lt ha hb, i3_lt hb ha, i3_le ha hb, i3_le hb ha] at q; omega)
end JR
end
section
/-! THE ENGINE, second part: fields, arrays, the static tables, returns, switches -/
section JM
variable {SH : List Shp} {mi : MI} {pc : Nat} {L : List (Option PV)} {st : List PV} {M : Mem} {Q : Option PV → Mem → Prop} {a b : Int}
def fOK (own : String) (idx ci k : Nat) : Prop := ∃ (C : String) (T : u_T) (N : Nat), clW[ci]? = some (C, T, N) ∧ k < N ∧ Cond.fieldLink own idx (T k).1 (T k).2.1 (T k).2.2.1 ∈ wTbl ∧ ∀ w ∈ u_ws C T N, w ∈ wTbl
def gOK (own : String) (idx ci k : Nat) : Prop := ∃ (C : String) (T : u_T) (N : Nat) (ty0 : Nat → FieldType), clW[ci]? = some (C, T, N) ∧ k < N ∧ Cond.fieldLink own idx (T k).1 (T k).2.1 (T k).2.2.1 ∈ wTbl ∧ (∀ w ∈ u_ws C T N, w ∈ wTbl) ∧ (∀ k, k < N → parseFieldDescriptor (T k).2.2.1 = some (ty0 k)) ∧ (∀ a, a < N → ∀ b, b < N → a ≠ b → (T a).2.1 ≠ (T b).2.1) ∧ (T k).2.2.2 = false ∧ parseFieldDescriptor (T k).2.2.1 = some .int
theorem j_getI {r ci k idx len : Nat} {refs : List (Option Nat)} (hd : decode mi.2.1 pc = .ok (.getfield idx, 3)) (hf : fOK mi.1.cls idx ci k) (hs : SH[r]? = some (ci + 3, len, refs)) (hr : refs[k]? = some none) (K : J SH mi (pc + 3) L (vI (M r k) :: st) M Q) : J SH mi pc L (vR r :: st) M Q := by
  intro ad D cI cZ cA l p e s m args below meth c h H locs ls hl hP hS
  obtain ⟨C, T, N, f1, f2, f3, f4⟩ := hf
  obtain ⟨hx, hb, hret, hml, hown, hlk, hts, hC⟩ := id h
  exact va_get (v := .int (i3 (M r k))) hx hb hts (fun w hw => List.mem_cons_of_mem _ (f4 w hw)) hown hC.2.1 hP r (wW_get hs) f1 k f2 (hts _ (List.mem_cons_of_mem _ f3)) (fun _ z => z) (by simp [hr, wfld]) hd (K ad D cI cZ cA l p e s m args below meth c h H locs ls hl hP hS)
theorem j_getR {r ci k idx len q : Nat} {refs : List (Option Nat)} (hd : decode mi.2.1 pc = .ok (.getfield idx, 3)) (hf : fOK mi.1.cls idx ci k) (hs : SH[r]? = some (ci + 3, len, refs)) (hr : refs[k]? = some (some q)) (K : J SH mi (pc + 3) L (vR q :: st) M Q) : J SH mi pc L (vR r :: st) M Q := by
  intro ad D cI cZ cA l p e s m args below meth c h H locs ls hl hP hS
  obtain ⟨C, T, N, f1, f2, f3, f4⟩ := hf
  obtain ⟨hx, hb, hret, hml, hown, hlk, hts, hC⟩ := id h
  exact va_get (v := .ref (ad q)) hx hb hts (fun w hw => List.mem_cons_of_mem _ (f4 w hw)) hown hC.2.1 hP r (wW_get hs) f1 k f2 (hts _ (List.mem_cons_of_mem _ f3)) (fun _ z => z) (by simp [hr, wfld]) hd (K ad D cI cZ cA l p e s m args below meth c h H locs ls hl hP hS)
theorem wE_put {ad : Nat → Nat} {M : Mem} {r k : Nat} {x : Int} {refs : List (Option Nat)} (hr : refs[k]? = some none) : (refs.mapIdx (fun j q => wfld ad M r j q)).set k (.int (i3 x)) = refs.mapIdx (fun j q => wfld ad (wr M r k x) r j q) := by
  apply List.ext_getElem?
  intro j
  by_cases e : j = k
  · subst e
    rw [List.getElem?_set_self (by rw [List.length_mapIdx]; exact (List.getElem?_eq_some_iff.mp hr).1), List.getElem?_mapIdx, hr]
    simp [wfld, wr]
  · rw [List.getElem?_set_ne (Ne.symm e), List.getElem?_mapIdx, List.getElem?_mapIdx]
    cases refs[j]? with
    | none => rfl
    | some o =>
      have e2 : ¬ (j : Int) = (k : Int) := by omega
      cases o <;> simp [wfld, wr, e2]
theorem j_putI {r ci k idx len : Nat} {refs : List (Option Nat)} (hd : decode mi.2.1 pc = .ok (.putfield idx, 3)) (hf : gOK mi.1.cls idx ci k) (hs : SH[r]? = some (ci + 3, len, refs)) (hr : refs[k]? = some none) (K : J SH mi (pc + 3) L st (wr M r k a) Q) : J SH mi pc L (vI a :: vR r :: st) M Q := by
  intro ad D cI cZ cA l p e s m args below meth c h H locs ls hl hP hS
  obtain ⟨C, T, N, ty0, f1, f2, f3, f4, f5, f6, f7, f8⟩ := hf
  obtain ⟨hx, hb, hret, hml, hown, hlk, hts, hC⟩ := id h
  refine va_put (v := .int (i3 a)) (ty := .int) hx hb hts (fun w hw => List.mem_cons_of_mem _ (f4 w hw)) ty0 f5 f6 hown hC.2.1 hP (wW_D hC.1) hS r (wW_get hs) f1 k f2 (hts _ (List.mem_cons_of_mem _ f3)) (fun _ z => z) f7 f8 rfl rfl (by rw [List.length_mapIdx]; exact (List.getElem?_eq_some_iff.mp hr).1) hd (fun H1 locs1 hP1 _ hS1 => ?_)
  refine K ad D cI cZ cA l p e s m args below meth c h H1 locs1 ls hl ?_ hS1
  rw [← wW_set (s := (ci + 3, len, refs)) hs]
  rw [wE_put hr] at hP1
  exact hP1
theorem inR_lt {i : Int} {n : Nat} (h0 : 0 ≤ i) (h1 : i < n) (hn : n ≤ 100000) : inR i := ⟨by omega, by omega⟩
theorem vp_in_i3 {i : Int} {n : Nat} (h0 : 0 ≤ i) (h1 : i < n) (hn : n ≤ 100000) : vp_in (i3 i) n := by
  have hi := inR_lt h0 h1 hn
  intro q
  rcases q with q | q
  · rw [← i3_zero, i3_lt hi inR0] at q; omega
  · rw [i3_clamp hi h0] at q; omega
theorem j_iald {r n : Nat} {refs : List (Option Nat)} (hd : decode mi.2.1 pc = .ok (.iaload, 1)) (hs : SH[r]? = some (0, n, refs)) (hn : n ≤ 100000) (h0 : 0 ≤ a) (h1 : a < n) (K : J SH mi (pc + 1) L (vI (M r a) :: st) M Q) : J SH mi pc L (vI a :: vR r :: st) M Q := by
  intro ad D cI cZ cA l p e s m args below meth c h H locs ls hl hP hS
  obtain ⟨hx, hb, hret, hml, hown, hlk, hts, hC⟩ := id h
  refine va_iald (i := i3 a) hx hb hC.2.1 hP r 0 (wW_get hs) rfl (vp_in_i3 h0 h1 hn) hd ?_
  have e1 : (((i3 a).toNatClampNeg : Nat) : Int) = a := by rw [i3_clamp (inR_lt h0 h1 hn) h0]; exact Int.toNat_of_nonneg h0
  simp only [e1]
  exact K ad D cI cZ cA l p e s m args below meth c h H locs ls hl hP hS
theorem j_bald {r n : Nat} {refs : List (Option Nat)} (hd : decode mi.2.1 pc = .ok (.baload, 1)) (hs : SH[r]? = some (1, n, refs)) (hn : n ≤ 100000) (h0 : 0 ≤ a) (h1 : a < n) (K : J SH mi (pc + 1) L (vI (M r a) :: st) M Q) : J SH mi pc L (vI a :: vR r :: st) M Q := by
  intro ad D cI cZ cA l p e s m args below meth c h H locs ls hl hP hS
  obtain ⟨hx, hb, hret, hml, hown, hlk, hts, hC⟩ := id h
  refine va_zald (i := i3 a) hx hb hC.2.1 hP r 1 (wW_get hs) rfl (vp_in_i3 h0 h1 hn) hd ?_
  have e1 : (((i3 a).toNatClampNeg : Nat) : Int) = a := by rw [i3_clamp (inR_lt h0 h1 hn) h0]; exact Int.toNat_of_nonneg h0
  simp only [e1]
  exact K ad D cI cZ cA l p e s m args below meth c h H locs ls hl hP hS
theorem wr_upd {r : Nat} (h0 : 0 ≤ a) (hi : inR a) : upd (fun j : Nat => i3 (M r j)) (i3 a).toNatClampNeg (i3 b) = fun j : Nat => i3 (wr M r a b r j) := by
  funext j
  rw [i3_clamp hi h0]
  by_cases e : j = a.toNat
  · subst e
    simp [upd, wr, Int.toNat_of_nonneg h0]
  · have e2 : ¬ (j : Int) = a := by omega
    simp [upd, wr, e, e2]
theorem j_iast {r n : Nat} {refs : List (Option Nat)} (hd : decode mi.2.1 pc = .ok (.iastore, 1)) (hs : SH[r]? = some (0, n, refs)) (hn : n ≤ 100000) (h0 : 0 ≤ a) (h1 : a < n) (K : J SH mi (pc + 1) L st (wr M r a b) Q) : J SH mi pc L (vI b :: vI a :: vR r :: st) M Q := by
  intro ad D cI cZ cA l p e s m args below meth c h H locs ls hl hP hS
  obtain ⟨hx, hb, hret, hml, hown, hlk, hts, hC⟩ := id h
  refine va_iast (i := i3 a) (x := i3 b) hx hb hC.2.1 hP (wW_D hC.1) hS r 0 (wW_get hs) rfl (vp_in_i3 h0 h1 hn) hd (fun H1 locs1 hP1 _ hS1 => ?_)
  refine K ad D cI cZ cA l p e s m args below meth c h H1 locs1 ls hl ?_ hS1
  rw [← wW_set (s := (0, n, refs)) hs]
  rw [wr_upd h0 (inR_lt h0 h1 hn)] at hP1
  exact hP1
theorem nar01 (hb : b = 0 ∨ b = 1) : vp_nar .boolean (i3 b) = i3 b := by
  rcases hb with rfl | rfl <;> decide +kernel
theorem j_bast {r n : Nat} {refs : List (Option Nat)} (hd : decode mi.2.1 pc = .ok (.bastore, 1)) (hs : SH[r]? = some (1, n, refs)) (hn : n ≤ 100000) (h0 : 0 ≤ a) (h1 : a < n) (hb01 : b = 0 ∨ b = 1) (K : J SH mi (pc + 1) L st (wr M r a b) Q) : J SH mi pc L (vI b :: vI a :: vR r :: st) M Q := by
  intro ad D cI cZ cA l p e s m args below meth c h H locs ls hl hP hS
  obtain ⟨hx, hb, hret, hml, hown, hlk, hts, hC⟩ := id h
  refine va_zast (i := i3 a) (x := i3 b) hx hb hC.2.1 hP (wW_D hC.1) hS r 1 (wW_get hs) rfl (vp_in_i3 h0 h1 hn) hd (fun H1 locs1 hP1 _ hS1 => ?_)
  refine K ad D cI cZ cA l p e s m args below meth c h H1 locs1 ls hl ?_ hS1
  rw [← wW_set (s := (1, n, refs)) hs]
  rw [nar01 hb01, wr_upd h0 (inR_lt h0 h1 hn)] at hP1
  exact hP1
theorem j_aald {r n q : Nat} {refs : List (Option Nat)} (hd : decode mi.2.1 pc = .ok (.aaload, 1)) (hs : SH[r]? = some (2, n, refs)) (hn : n ≤ 100000) (h0 : 0 ≤ a) (h1 : a < n) (hq : refs[a.toNat]? = some (some q)) (K : J SH mi (pc + 1) L (vR q :: st) M Q) : J SH mi pc L (vI a :: vR r :: st) M Q := by
  intro ad D cI cZ cA l p e s m args below meth c h H locs ls hl hP hS
  obtain ⟨hx, hb, hret, hml, hown, hlk, hts, hC⟩ := id h
  have hin := vp_in_i3 h0 h1 hn
  have hlt : (i3 a).toNatClampNeg < n := Nat.not_le.mp fun q => hin (Or.inr q)
  have e1 : (i3 a).toNatClampNeg = a.toNat := i3_clamp (inR_lt h0 h1 hn) h0
  have e2 : va_rf ((refs.getD (i3 a).toNatClampNeg none).map ad) = .ref (ad q) := by
    rw [e1, List.getD_eq_getElem?_getD, hq]; rfl
  refine W.aald (v := .ref (ad q)) (ty := .array .int) hx hb (hP r _ (wW_get hs)) ((hC.2.1.2 2 _ rfl).1 n (fun j => va_rf ((refs.getD j none).map ad))) rfl (fun q => by cases q) (by show ¬ (i3 a < 0 ∨ (arrV _ _ _).slots.size ≤ _); rw [arrV_size]; exact hin) (by show (arrV _ _ _).slots[_]? = _; rw [arrV_read _ _ hlt, e2]) rfl rfl hd (K ad D cI cZ cA l p e s m args below meth c h H locs ls hl hP hS)
theorem j_alen {r t n : Nat} {refs : List (Option Nat)} (hd : decode mi.2.1 pc = .ok (.arraylength, 1)) (hs : SH[r]? = some (t, n, refs)) (ht : t ≤ 2) (K : J SH mi (pc + 1) L (vI n :: st) M Q) : J SH mi pc L (vR r :: st) M Q := by
  intro ad D cI cZ cA l p e s m args below meth c h H locs ls hl hP hS
  obtain ⟨hx, hb, hret, hml, hown, hlk, hts, hC⟩ := id h
  have K1 := K ad D cI cZ cA l p e s m args below meth c h H locs ls hl hP hS
  match t, ht with
  | 0, _ => exact va_alen (v := i3 n) hx hb hC.2.1 hP r 0 (wW_get hs) rfl rfl hd K1
  | 1, _ => exact va_alen (v := i3 n) hx hb hC.2.1 hP r 1 (wW_get hs) rfl rfl hd K1
  | 2, _ => exact va_alen (v := i3 n) hx hb hC.2.1 hP r 2 (wW_get hs) rfl rfl hd K1
-- static tables
theorem j_getSQ {idx : Nat} (hd : decode mi.2.1 pc = .ok (.getstatic idx, 3)) (hw : Cond.fieldLink mi.1.cls idx RX5 "SQUARE_PARTS" "[I" ∈ wTbl) (K : J SH mi (pc + 3) L (vR 1000 :: st) M Q) : J SH mi pc L st M Q := by
  intro ad D cI cZ cA l p e s m args below meth c h H locs ls hl hP hS
  obtain ⟨hx, hb, hret, hml, hown, hlk, hts, hC⟩ := id h
  exact va_gets hx hb hC.2.2.1 hS hown (hts _ (List.mem_cons_of_mem _ hw)) (fun _ z => z) hd (K ad D cI cZ cA l p e s m args below meth c h H locs ls hl hP hS)
theorem j_getHX {idx : Nat} (hd : decode mi.2.1 pc = .ok (.getstatic idx, 3)) (hw : Cond.fieldLink mi.1.cls idx RX5 "HEXAGONAL_PARTS" "[I" ∈ wTbl) (K : J SH mi (pc + 3) L (vR 1001 :: st) M Q) : J SH mi pc L st M Q := by
  intro ad D cI cZ cA l p e s m args below meth c h H locs ls hl hP hS
  obtain ⟨hx, hb, hret, hml, hown, hlk, hts, hC⟩ := id h
  exact va_gets hx hb hC.2.2.2.2.1 hS hown (hts _ (List.mem_cons_of_mem _ hw)) (fun _ z => z) hd (K ad D cI cZ cA l p e s m args below meth c h H locs ls hl hP hS)
theorem j_ldSQ (hd : decode mi.2.1 pc = .ok (.iaload, 1)) (h0 : 0 ≤ a) (h1 : a < 32) (K : J SH mi (pc + 1) L (vI (tSQ.getD a.toNat 0) :: st) M Q) : J SH mi pc L (vI a :: vR 1000 :: st) M Q := by
  intro ad D cI cZ cA l p e s m args below meth c h H locs ls hl hP hS
  obtain ⟨hx, hb, hret, hml, hown, hlk, hts, hC⟩ := id h
  exact va_ti (i := i3 a) (v := .int (i3 (tSQ.getD a.toNat 0))) hx hb hC.2.2.2.1 hS (vp_in_i3 (n := 32) h0 h1 (by decide)) (by rw [i3_clamp (inR_lt (n := 32) h0 h1 (by decide)) h0]) hd (K ad D cI cZ cA l p e s m args below meth c h H locs ls hl hP hS)
theorem j_ldHX (hd : decode mi.2.1 pc = .ok (.iaload, 1)) (h0 : 0 ≤ a) (h1 : a < 48) (K : J SH mi (pc + 1) L (vI (tHX.getD a.toNat 0) :: st) M Q) : J SH mi pc L (vI a :: vR 1001 :: st) M Q := by
  intro ad D cI cZ cA l p e s m args below meth c h H locs ls hl hP hS
  obtain ⟨hx, hb, hret, hml, hown, hlk, hts, hC⟩ := id h
  exact va_ti (i := i3 a) (v := .int (i3 (tHX.getD a.toNat 0))) hx hb hC.2.2.2.2.2 hS (vp_in_i3 (n := 48) h0 h1 (by decide)) (by rw [i3_clamp (inR_lt (n := 48) h0 h1 (by decide)) h0]) hd (K ad D cI cZ cA l p e s m args below meth c h H locs ls hl hP hS)
theorem j_lenSQ (hd : decode mi.2.1 pc = .ok (.arraylength, 1)) (K : J SH mi (pc + 1) L (vI 32 :: st) M Q) : J SH mi pc L (vR 1000 :: st) M Q := by
  intro ad D cI cZ cA l p e s m args below meth c h H locs ls hl hP hS
  obtain ⟨hx, hb, hret, hml, hown, hlk, hts, hC⟩ := id h
  exact va_tlen (v := i3 32) hx hb hC.2.2.2.1 hS rfl hd (K ad D cI cZ cA l p e s m args below meth c h H locs ls hl hP hS)
theorem j_lenHX (hd : decode mi.2.1 pc = .ok (.arraylength, 1)) (K : J SH mi (pc + 1) L (vI 48 :: st) M Q) : J SH mi pc L (vR 1001 :: st) M Q := by
  intro ad D cI cZ cA l p e s m args below meth c h H locs ls hl hP hS
  obtain ⟨hx, hb, hret, hml, hown, hlk, hts, hC⟩ := id h
  exact va_tlen (v := i3 48) hx hb hC.2.2.2.2.2 hS rfl hd (K ad D cI cZ cA l p e s m args below meth c h H locs ls hl hP hS)
-- returns
theorem j_iret (hd : decode mi.2.1 pc = .ok (.ireturn, 1)) (hr : mi.2.2.2.1 = some .int) (hq : Q (some (vI a)) M) : J SH mi pc L [vI a] M Q := by
  intro ad D cI cZ cA l p e s m args below meth c h H locs ls hl hP hS
  obtain ⟨hx, hb, hret, hml, hown, hlk, hts, hC⟩ := id h
  exact W.iret (v := i3 a) hx hb (hret.trans hr) (fun t ht _ => ⟨⟨some (vI a), M, rfl, hq, by rw [ht]; exact hP⟩, hS.F ht⟩) hS.2.2 hd hlk
theorem nar01' (hb : b = 0 ∨ b = 1) : narrow .boolean (.int (i3 b)) = .int (i3 b) := by
  rcases hb with rfl | rfl <;> decide +kernel
theorem j_zret (hd : decode mi.2.1 pc = .ok (.ireturn, 1)) (hr : mi.2.2.2.1 = some .boolean) (h01 : a = 0 ∨ a = 1) (hq : Q (some (vI a)) M) : J SH mi pc L [vI a] M Q := by
  intro ad D cI cZ cA l p e s m args below meth c h H locs ls hl hP hS
  obtain ⟨hx, hb, hret, hml, hown, hlk, hts, hC⟩ := id h
  exact W.zret (v := i3 a) hx hb (hret.trans hr) (nar01' h01) (fun t ht _ => ⟨⟨some (vI a), M, rfl, hq, by rw [ht]; exact hP⟩, hS.F ht⟩) hS.2.2 hd hlk
theorem j_lret (hd : decode mi.2.1 pc = .ok (.lreturn, 1)) (hr : mi.2.2.2.1 = some .long) (hq : Q (some (vL a)) M) : J SH mi pc L [vL a] M Q := by
  intro ad D cI cZ cA l p e s m args below meth c h H locs ls hl hP hS
  obtain ⟨hx, hb, hret, hml, hown, hlk, hts, hC⟩ := id h
  exact W.lret (v := i6 a) hx hb (hret.trans hr) (fun t ht _ => ⟨⟨some (vL a), M, rfl, hq, by rw [ht]; exact hP⟩, hS.F ht⟩) hS.2.2 hd hlk
theorem j_vret (hd : decode mi.2.1 pc = .ok (.return_, 1)) (hr : mi.2.2.2.1 = none) (hq : Q none M) : J SH mi pc L [] M Q := by
  intro ad D cI cZ cA l p e s m args below meth c h H locs ls hl hP hS
  obtain ⟨hx, hb, hret, hml, hown, hlk, hts, hC⟩ := id h
  exact W.vret hx hb (hret.trans hr) (fun t ht _ => ⟨⟨none, M, rfl, hq, by rw [ht]; exact hP⟩, hS.F ht⟩) hS.2.2 hd hlk
-- switches
theorem j_tsIn {dflt lo hi off : Int} {offs : Array Int} {len : Nat} (tgt : Nat) (hd : decode mi.2.1 pc = .ok (.tableswitch dflt lo hi offs, len)) (ha : inR a) (h1 : lo ≤ a) (h2 : a ≤ hi) (ho : offs[(a - lo).toNat]? = some off) (ht : (pc : Int) + off = (tgt : Int)) (K : J SH mi tgt L st M Q) : J SH mi pc L (vI a :: st) M Q := by
  intro ad D cI cZ cA l p e s m args below meth c h H locs ls hl hP hS
  exact lv_tableIn (x := i3 a) (off := off) (tgt := tgt) h.1 h.2.1 hd (by rw [i3_toInt ha]; omega) (by rw [i3_toInt ha]; omega) (by rw [i3_toInt ha]; exact ho) ht (K ad D cI cZ cA l p e s m args below meth c h H locs ls hl hP hS)
theorem j_tsOut {dflt lo hi : Int} {offs : Array Int} {len : Nat} (tgt : Nat) (hd : decode mi.2.1 pc = .ok (.tableswitch dflt lo hi offs, len)) (ha : inR a) (h1 : a < lo ∨ hi < a) (ht : (pc : Int) + dflt = (tgt : Int)) (K : J SH mi tgt L st M Q) : J SH mi pc L (vI a :: st) M Q := by
  intro ad D cI cZ cA l p e s m args below meth c h H locs ls hl hP hS
  exact lv_tableOut (x := i3 a) (tgt := tgt) h.1 h.2.1 hd (by rw [i3_toInt ha]; exact h1) ht (K ad D cI cZ cA l p e s m args below meth c h H locs ls hl hP hS)
/-- a weaker end -/
theorem j_mono {Q' : Option PV → Mem → Prop} (hq : ∀ v M1, Q v M1 → Q' v M1) (K : J SH mi pc L st M Q) : J SH mi pc L st M Q' := by
  intro ad D cI cZ cA l p e s m args below meth c h H locs ls hl hP hS T hT X
  obtain ⟨t, h1, o, h2, h3, ⟨⟨v, M1, h4, h5, h6⟩, h7⟩, h8⟩ := K ad D cI cZ cA l p e s m args below meth c h H locs ls hl hP hS T hT X
  exact ⟨t, h1, o, h2, h3, ⟨⟨v, M1, h4, hq _ _ h5, h6⟩, h7⟩, h8⟩
end JM
end
section
/-! THE ENGINE, third part: a method's contract out of J at its entry; calls -/
def mOK (mi : MI) : Prop := plainName mi.1.cls = true ∧ Cond.code mi.1 mi.2.1 mi.2.2.1 mi.2.2.2.1 ∈ wTbl ∧ mi.2.2.1 ≤ 13 ∧ (mi.1.cls ≠ "java/lang/invoke/MethodHandle" ∧ mi.1.cls ≠ "java/lang/invoke/VarHandle") ∧ Cond.initialized mi.1.cls ∈ wTbl
def ent (vs : List PV) (nL : Nat) : List (Option PV) := vs.map some ++ List.replicate (nL - vs.length) none
def noLongs (vs : List PV) : Bool := vs.all (fun v => match v with
  | .inr (.inl _) => false
  | _ => true)
theorem noLongs_mem {vs : List PV} (h : noLongs vs = true) {v : PV} (hv : v ∈ vs) : ¬ ∃ z, v = vL z := by
  rintro ⟨z, rfl⟩
  have := List.all_eq_true.mp h _ hv
  cases this
theorem ent_sl {ad : Nat → Nat} : ∀ {vs : List PV}, noLongs vs = true → (lg_sl (vs.map (rv ad))).length = vs.length
  | [], _ => rfl
  | v :: vs, h => by
    have h1 : ¬ (rv ad v).category = 2 := by rw [rv_cat2 (noLongs_mem h List.mem_cons_self)]; decide
    have h2 : noLongs vs = true := by
      simp only [noLongs, List.all_cons, Bool.and_eq_true] at h
      exact h.2
    have := ent_sl (ad := ad) h2
    simp only [lg_sl, List.map_cons, List.flatMap_cons, h1, if_false, List.length_append, List.length_cons, List.length_nil] at this ⊢
    omega
theorem ent_args {ad : Nat → Nat} : ∀ {vs : List PV}, noLongs vs = true → ∀ (o i : Nat) (v : PV), vs[i]? = some v → (o + i, rv ad v) ∈ lv_args o (vs.map (rv ad))
  | [], _, o, i, v, hi => by simp at hi
  | w :: vs, h, o, i, v, hi => by
    have h1 : ¬ (rv ad w).category = 2 := by rw [rv_cat2 (noLongs_mem h List.mem_cons_self)]; decide
    have h2 : noLongs vs = true := by
      simp only [noLongs, List.all_cons, Bool.and_eq_true] at h
      exact h.2
    simp only [List.map_cons, lv_args, h1, if_false]
    cases i with
    | zero =>
      simp at hi
      subst hi
      exact List.mem_cons_self
    | succ i =>
      rw [List.getElem?_cons_succ] at hi
      have := ent_args (ad := ad) h2 (o + 1) i v hi
      refine List.mem_cons_of_mem _ ?_
      rw [show o + (i + 1) = o + 1 + i by omega]
      exact this
section JC
variable {SH : List Shp} {mi mj : MI} {pc : Nat} {L : List (Option PV)} {st : List PV} {M : Mem} {Q Q1 : Option PV → Mem → Prop}
theorem wC_frame {ad : Nat → Nat} {D : va_G} {cI cZ cA : ClassId} {U : State} {g : JFrame} {mk : MethodId} {a : Array Value} (h : wC ad D cI cZ cA SH U) : wC ad D cI cZ cA SH (U.calling g mk a) := by
  obtain ⟨h1, h2, h3, h4, h5, h6⟩ := h
  exact ⟨h1, va_K.moved (u := U) (U := U.calling g mk a) (Vm.Alike.refl U.vm) h2, va_Z.moved (u := U) (U := U.calling g mk a) (Vm.Alike.refl U.vm) h3, va_T.moved (u := U) (U := U.calling g mk a) (Vm.Alike.refl U.vm) h4, va_Z.moved (u := U) (U := U.calling g mk a) (Vm.Alike.refl U.vm) h5, va_T.moved (u := U) (U := U.calling g mk a) (Vm.Alike.refl U.vm) h6⟩
theorem wC_moved {ad : Nat → Nat} {D : va_G} {cI cZ cA : ClassId} {s U : State} {H : Heap} {locs : List Loc} (h : wC ad D cI cZ cA SH s) (hS : va_S (wF ad SH) s.heap H locs) (hU : U.heap = H) (hvm : s.vm.Alike U.vm) : wC ad D cI cZ cA SH U := by
  obtain ⟨h1, h2, h3, h4, h5, h6⟩ := h
  subst hU
  exact ⟨h1, h2.moved hvm, (h3.kept hS.2.1).moved hvm, (h4.kept hS.2.1).moved hvm, (h5.kept hS.2.1).moved hvm, (h6.kept hS.2.1).moved hvm⟩
abbrev jP (ad : Nat → Nat) (D : va_G) (cI cZ cA : ClassId) (SH : List Shp) (M : Mem) (vs : List PV) : Array Value → State → Prop := va_Pc (vs.map (rv ad)) (fun U => wC ad D cI cZ cA SH U ∧ va_P D clW (wW ad cI cZ cA SH M) U.heap)
theorem jP_blind {ad : Nat → Nat} {D : va_G} {cI cZ cA : ClassId} {vs : List PV} : FrameBlind (jP ad D cI cZ cA SH M vs) := by
  intro a U g mk h
  exact ⟨h.1, wC_frame h.2.1, h.2.2⟩
theorem j_met (hok : mOK mi) {vs : List PV} (hv : noLongs vs = true) (hn : vs.length ≤ mi.2.2.1) (h : J SH mi 0 (ent vs mi.2.2.1) [] M Q) (ad : Nat → Nat) (D : va_G) (cI cZ cA : ClassId) (l : Launch) :
    Met l mi.1 (mW mi) (mRm mi) (jP ad D cI cZ cA SH M vs) (jQ ad D cI cZ cA SH Q) 0 0 (wF ad SH) := by
  refine Met.ofW (cc := mi.2.1) (maxL := mi.2.2.1) (ret := mi.2.2.2.1) hok.1 rfl ?_
  intro p e s m args below meth c s₁ B hml hP
  obtain ⟨rfl, hC, hP⟩ := hP
  have hl := lv_entry (vs.map (rv ad)) (n := mi.2.2.1) (by rw [ent_sl hv]; exact hn)
  rw [lg_entry_eq]
  refine h ad D cI cZ cA l p e s m _ below meth c ⟨B.exec, B.bytes, B.returns, hml, findClass_of_methodNamed B.named, B.notSynchronized, atoms_spec (ws := mW mi) B.pre, hC⟩ s.heap [] _ ⟨hl.1, hl.2.1, by simp [ent]; omega, fun i v hi => ?_⟩ hP va_S.rf
  refine hl.2.2 (i, rv ad v) ?_
  have : vs[i]? = some v := by
    unfold ent at hi
    by_cases hlt : i < vs.length
    · rw [List.getElem?_append_left (by simpa using hlt), List.getElem?_map] at hi
      cases h9 : vs[i]? with
      | none => rw [h9] at hi; cases hi
      | some w => rw [h9] at hi; simpa using hi
    · rw [List.getElem?_append_right (by simpa using hlt), List.getElem?_replicate] at hi
      split at hi <;> cases hi
  have := ent_args (ad := ad) hv 0 i v this
  rwa [Nat.zero_add] at this
/-- behind a call -/
theorem j_back {st0 rest : List PV} {a : Array Value} {ad : Nat → Nat} {D : va_G} {cI cZ cA : ClassId} {l : Launch} {p : Program} {e : Env} {s : State} {m : MethodId} {args : Array Value} {below : List Frame} {meth : Method} {c : Code} {H : Heap} {locs : List Loc} {ls : Array Slot} (h : jX mi ad D cI cZ cA SH p s m args meth c) (hl : wL ad ls mi.2.2.1 L) (hS : va_S (wF ad SH) s.heap H locs)
    (hr : va_Run p l e (mRm mi) s m args below meth c H locs 0 0 0 0 (F0 m pc ls (st0.map (rv ad))) (rest.map (rv ad)) (jQ ad D cI cZ cA SH Q1 a) (wF ad SH))
    (k : ∀ v M1, Q1 v M1 → J SH mi (pc + 3) L (v.toList ++ rest) M1 Q) :
    W p l e (mRm mi) s m args below meth c H locs 0 0 (MQ below (jQ ad D cI cZ cA SH Q) args s 0 0 (wF ad SH)) (F0 m pc ls (st0.map (rv ad))) := by
  intro T hT X
  obtain ⟨v, st₀, t, T', L', h0, X', hL, e1, e2, ⟨⟨v', M1, hv, hq, hp⟩, hz, hk⟩, st⟩ := hr T hT X
  cases hv
  rw [h0] at hz hk
  obtain ⟨t2, a1, b1⟩ := k v' M1 hq ad D cI cZ cA l p e s m args below meth c h T'.heap (locs ++ L') ls hl (by rw [e1]; exact hp)
    ⟨Nat.le_trans hS.1 (by rw [e1]; exact hz), fun q h1 h2 => by rw [e1, hk q (Nat.lt_of_lt_of_le h1 hS.1) h2]; exact hS.2.1 q h1 h2, fun q hq => by
      rcases List.mem_append.mp hq with h | h
      · exact hS.2.2 q h
      · exact hL q h⟩ T' rfl X'
  refine ⟨t2, st t2 ?_, b1⟩
  cases v' with
  | none => exact a1
  | some w => exact a1
theorem in_good (hg : ∀ w ∈ wTbl, (w.onTables && w.keeps) = true ∨ ∃ ty, w = .arrayClass ty) (hok : mOK mj) : ∀ w ∈ mW mj, w ∈ mW mi ∧ ((w.onTables && w.keeps) = true ∨ ∃ ty, w = .arrayClass ty) := by
  intro w hw
  rcases List.mem_cons.mp hw with rfl | hw
  · exact ⟨List.mem_cons_of_mem _ hok.2.1, hg _ hok.2.1⟩
  · exact ⟨List.mem_cons_of_mem _ hw, hg _ hw⟩
theorem lev_room (hok : mOK mj) (hlev : mj.2.2.2.2 < mi.2.2.2.2) : (mRm mj).frames + 1 ≤ (mRm mi).frames ∧ 8 + (mj.2.2.1 + 11) + (mRm mj).locals ≤ (mRm mi).locals := by
  have := hok.2.2.1
  simp only [mRm]
  omega
/-- instance call: the words that it needs -/
def vOK (own : String) (idx n : Nat) (mj : MI) : Prop := Cond.methodLink own idx mj.1 ∈ wTbl ∧ Cond.instanceMethod mj.1 ∈ wTbl ∧ Cond.selects mj.1.cls mj.1 mj.1 ∈ wTbl ∧ (parseMethodDescriptor mj.1.desc).map (fun d => d.parameters.length) = some n
def sOK (own : String) (idx n : Nat) (mj : MI) : Prop := Cond.methodLink own idx mj.1 ∈ wTbl ∧ Cond.static mj.1 ∈ wTbl ∧ (parseMethodDescriptor mj.1.desc).map (fun d => d.parameters.length) = some n
def nOK (own : String) (idx n : Nat) (host : String) (mj : MI) : Prop := Cond.methodLinkNest own idx mj.1 host ∈ wTbl ∧ Cond.static mj.1 ∈ wTbl ∧ (parseMethodDescriptor mj.1.desc).map (fun d => d.parameters.length) = some n
def cOK (ci : Nat) (mj : MI) : Prop := ∃ q : vw_C, clW[ci]? = some q ∧ q.1 = mj.1.cls
theorem tbl_good : ∀ w ∈ wTbl, (w.onTables && w.keeps) = true ∨ ∃ ty, w = .arrayClass ty := by
  intro w hw
  exact good_of_word (List.mem_filter.mp hw).2
theorem rest8 {ad : Nat → Nat} {rest : List PV} (h : rest.length ≤ 4) : ((rest.map (rv ad)).map fun v => v.category).sum ≤ 8 := by
  have key : ∀ (r : List PV), ((r.map (rv ad)).map fun v => v.category).sum ≤ 2 * r.length := by
    intro r
    induction r with
    | nil => exact Nat.le_refl _
    | cons v r ih =>
      have : (rv ad v).category ≤ 2 := by
        rcases lv_cat (rv ad v) with q | q <;> omega
      simp only [List.map_cons, List.sum_cons, List.length_cons] at ih ⊢
      omega
  have := key rest
  omega
theorem j_V {idx ci r n len : Nat} {refs : List (Option Nat)} {As rest st0 : List PV} (hd : decode mi.2.1 pc = .ok (.invokevirtual idx, 3)) (hok : mOK mj) (hw : vOK mi.1.cls idx n mj) (hlev : mj.2.2.2.2 < mi.2.2.2.2) (hc : cOK ci mj) (hs : SH[r]? = some (ci + 3, len, refs)) (hn : As.length = n) (hnl : noLongs As = true) (hnL : n + 1 ≤ mj.2.2.1) (hr4 : rest.length ≤ 4) (hst : st0 = As.reverse ++ vR r :: rest)
    (h1 : J SH mj 0 (ent (vR r :: As) mj.2.2.1) [] M Q1) (k : ∀ v M1, Q1 v M1 → J SH mi (pc + 3) L (v.toList ++ rest) M1 Q) : J SH mi pc L st0 M Q := by
  intro ad D cI cZ cA l p e s m args below meth c h H locs ls hl hP hS
  obtain ⟨hx, hb, hret, hml, hown, hlk, hts, hC⟩ := id h
  obtain ⟨q, hq1, hq2⟩ := hc
  refine j_back (a := (Value.ref (ad r) :: As.map (rv ad)).toArray) h hl hS ?_ k
  refine va_runV (Ts := mW mi) (own := mi.1.cls) (C := mj.1.cls) (b := ad r) (As := As.map (rv ad)) (rest := rest.map (rv ad)) ⟨hx, hb, hml, hown, hts⟩ (j_met hok (vs := vR r :: As) (by simpa [noLongs] using hnl) (by simp [hn]; omega) h1 ad D cI cZ cA l) (cwV n hts ?_ rfl rfl rfl ⟨rfl, hok.2.2.2.1.1, hok.2.2.2.1.2, hw.2.2.2⟩ (lev_room hok hlev)) ⟨jP_blind, by rw [← hq2]; exact va_recv hC.2.1 hP hq1 (wW_get hs), fun U hU hW => ⟨rfl, wC_moved hC hS hU hW.alike, by rw [hU]; exact hP⟩⟩ rfl (by simp [hn]) (hl.1) ?_ (lv_room (rest8 hr4)) hd ⟨Nat.le_refl _, Nat.le_refl _⟩
  · intro w hw0
    rcases List.mem_append.mp hw0 with h9 | h9
    · have hm : w ∈ wTbl := by
        simp only [List.mem_cons, List.not_mem_nil, or_false] at h9
        rcases h9 with rfl | rfl | rfl | rfl
        · exact hw.1
        · exact hw.2.1
        · exact hw.2.2.1
        · exact hok.2.2.2.2
      exact ⟨List.mem_cons_of_mem _ hm, tbl_good _ hm⟩
    · exact in_good tbl_good hok w h9
  · subst hst
    simp [rv]
theorem j_S {idx n : Nat} {As rest st0 : List PV} (hd : decode mi.2.1 pc = .ok (.invokestatic idx, 3)) (hok : mOK mj) (hw : sOK mi.1.cls idx n mj) (hlev : mj.2.2.2.2 < mi.2.2.2.2) (hn : As.length = n) (hnl : noLongs As = true) (hnL : n ≤ mj.2.2.1) (hr4 : rest.length ≤ 4) (hst : st0 = As.reverse ++ rest)
    (h1 : J SH mj 0 (ent As mj.2.2.1) [] M Q1) (k : ∀ v M1, Q1 v M1 → J SH mi (pc + 3) L (v.toList ++ rest) M1 Q) : J SH mi pc L st0 M Q := by
  intro ad D cI cZ cA l p e s m args below meth c h H locs ls hl hP hS
  obtain ⟨hx, hb, hret, hml, hown, hlk, hts, hC⟩ := id h
  refine j_back (a := (As.map (rv ad)).toArray) h hl hS ?_ k
  refine va_runS (Ts := mW mi) (own := mi.1.cls) (As := As.map (rv ad)) (rest := rest.map (rv ad)) ⟨hx, hb, hml, hown, hts⟩ (j_met hok (vs := As) hnl (by omega) h1 ad D cI cZ cA l) (va_cwS n hts ?_ rfl rfl rfl ⟨hok.2.2.2.1.1, hok.2.2.2.1.2, hw.2.2⟩ (lev_room hok hlev)) ⟨jP_blind, fun U hU hW => ⟨rfl, wC_moved hC hS hU hW.alike, by rw [hU]; exact hP⟩⟩ rfl (by simp [hn]) (hl.1) ?_ (lv_room (rest8 hr4)) hd ⟨Nat.le_refl _, Nat.le_refl _⟩
  · intro w hw0
    rcases List.mem_append.mp hw0 with h9 | h9
    · have hm : w ∈ wTbl := by
        simp only [List.mem_cons, List.not_mem_nil, or_false] at h9
        rcases h9 with rfl | rfl | rfl
        · exact hw.1
        · exact hw.2.1
        · exact hok.2.2.2.2
      exact ⟨List.mem_cons_of_mem _ hm, tbl_good _ hm⟩
    · exact in_good tbl_good hok w h9
  · subst hst
    simp
theorem j_N {idx n : Nat} {host : String} {As rest st0 : List PV} (hd : decode mi.2.1 pc = .ok (.invokestatic idx, 3)) (hok : mOK mj) (hw : nOK mi.1.cls idx n host mj) (hlev : mj.2.2.2.2 < mi.2.2.2.2) (hn : As.length = n) (hnl : noLongs As = true) (hnL : n ≤ mj.2.2.1) (hr4 : rest.length ≤ 4) (hst : st0 = As.reverse ++ rest)
    (h1 : J SH mj 0 (ent As mj.2.2.1) [] M Q1) (k : ∀ v M1, Q1 v M1 → J SH mi (pc + 3) L (v.toList ++ rest) M1 Q) : J SH mi pc L st0 M Q := by
  intro ad D cI cZ cA l p e s m args below meth c h H locs ls hl hP hS
  obtain ⟨hx, hb, hret, hml, hown, hlk, hts, hC⟩ := id h
  refine j_back (a := (As.map (rv ad)).toArray) h hl hS ?_ k
  refine va_runSN (Ts := mW mi) (own := mi.1.cls) (host := host) (As := As.map (rv ad)) (rest := rest.map (rv ad)) ⟨hx, hb, hml, hown, hts⟩ (j_met hok (vs := As) hnl (by omega) h1 ad D cI cZ cA l) ⟨va_cnB n hts (in_good tbl_good hok) rfl rfl rfl (va_Nw.of rfl (hts _ (List.mem_cons_of_mem _ hw.1))) (hts _ (List.mem_cons_of_mem _ hok.2.2.2.2)) ⟨hok.2.2.2.1.1, hok.2.2.2.1.2, hw.2.2⟩ (lev_room hok hlev), hts _ (List.mem_cons_of_mem _ hw.2.1), trivial⟩ ⟨jP_blind, fun U hU hW => ⟨rfl, wC_moved hC hS hU hW.alike, by rw [hU]; exact hP⟩⟩ rfl (by simp [hn]) (hl.1) ?_ (lv_room (rest8 hr4)) hd ⟨Nat.le_refl _, Nat.le_refl _⟩
  subst hst
  simp
end JC
end
