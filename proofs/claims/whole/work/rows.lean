section
-- ===== PART A: goes FIRST, ahead of the names: the tables' words, and 'selects' of the private methods out of them =====
/-- a private method of a class that the tables say can be made, by its rows of tables_1 -/
def lw_okq (q : MethodName × Nat) : Prop := (q.1.cls ≠ "java/lang/invoke/MethodHandle" ∧ q.1.cls ≠ "java/lang/invoke/VarHandle") ∧ Cond.instantiable q.1.cls q.2 ∈ tables_1 ∧ Cond.privateMethod q.1 ∈ tables_1 ∧ Cond.instanceMethod q.1 ∈ tables_1
theorem lw_p0 : lw_okq (⟨"WallpaperGroups", "refresh", "()V"⟩, 6) := ⟨⟨by decide +kernel, by decide +kernel⟩, List.mem_of_getElem? (i := 11) (by decide +kernel), List.mem_of_getElem? (i := 161) (by decide +kernel), List.mem_of_getElem? (i := 162) (by decide +kernel)⟩
theorem lw_p1 : lw_okq (⟨"WallpaperGroups$Group", "admit", "(I)V"⟩, 8) := ⟨⟨by decide +kernel, by decide +kernel⟩, List.mem_of_getElem? (i := 70) (by decide +kernel), List.mem_of_getElem? (i := 172) (by decide +kernel), List.mem_of_getElem? (i := 173) (by decide +kernel)⟩
theorem lw_p2 : lw_okq (⟨"WallpaperGroups$Lattice", "timesPart", "(II)I"⟩, 2) := ⟨⟨by decide +kernel, by decide +kernel⟩, List.mem_of_getElem? (i := 19) (by decide +kernel), List.mem_of_getElem? (i := 234) (by decide +kernel), List.mem_of_getElem? (i := 235) (by decide +kernel)⟩
theorem lw_p3 : lw_okq (⟨"WallpaperGroups$Group", "listByCode", "()V"⟩, 8) := ⟨⟨by decide +kernel, by decide +kernel⟩, List.mem_of_getElem? (i := 70) (by decide +kernel), List.mem_of_getElem? (i := 250) (by decide +kernel), List.mem_of_getElem? (i := 251) (by decide +kernel)⟩
theorem lw_p4 : lw_okq (⟨"WallpaperGroups$Features", "note", "(I)V"⟩, 5) := ⟨⟨by decide +kernel, by decide +kernel⟩, List.mem_of_getElem? (i := 102) (by decide +kernel), List.mem_of_getElem? (i := 267) (by decide +kernel), List.mem_of_getElem? (i := 268) (by decide +kernel)⟩
theorem lw_p5 : lw_okq (⟨"WallpaperGroups$Lattice", "isReflection", "(I)Z"⟩, 2) := ⟨⟨by decide +kernel, by decide +kernel⟩, List.mem_of_getElem? (i := 19) (by decide +kernel), List.mem_of_getElem? (i := 276) (by decide +kernel), List.mem_of_getElem? (i := 277) (by decide +kernel)⟩
theorem lw_p6 : lw_okq (⟨"WallpaperGroups$Cells", "findOrbit", "(I)V"⟩, 10) := ⟨⟨by decide +kernel, by decide +kernel⟩, List.mem_of_getElem? (i := 124) (by decide +kernel), List.mem_of_getElem? (i := 287) (by decide +kernel), List.mem_of_getElem? (i := 288) (by decide +kernel)⟩
theorem lw_p7 : lw_okq (⟨"WallpaperGroups$Cells", "reach", "(I)V"⟩, 10) := ⟨⟨by decide +kernel, by decide +kernel⟩, List.mem_of_getElem? (i := 124) (by decide +kernel), List.mem_of_getElem? (i := 291) (by decide +kernel), List.mem_of_getElem? (i := 292) (by decide +kernel)⟩
theorem lw_p8 : lw_okq (⟨"WallpaperGroups$History", "forgetOldest", "()V"⟩, 2) := ⟨⟨by decide +kernel, by decide +kernel⟩, List.mem_of_getElem? (i := 54) (by decide +kernel), List.mem_of_getElem? (i := 328) (by decide +kernel), List.mem_of_getElem? (i := 329) (by decide +kernel)⟩
theorem lw_p9 : lw_okq (⟨"WallpaperGroups$Group", "classify", "(I)V"⟩, 8) := ⟨⟨by decide +kernel, by decide +kernel⟩, List.mem_of_getElem? (i := 70) (by decide +kernel), List.mem_of_getElem? (i := 488) (by decide +kernel), List.mem_of_getElem? (i := 489) (by decide +kernel)⟩
theorem lw_p10 : lw_okq (⟨"WallpaperGroups$Group", "admitToClass", "(I)V"⟩, 8) := ⟨⟨by decide +kernel, by decide +kernel⟩, List.mem_of_getElem? (i := 70) (by decide +kernel), List.mem_of_getElem? (i := 492) (by decide +kernel), List.mem_of_getElem? (i := 493) (by decide +kernel)⟩
theorem lw_p11 : lw_okq (⟨"WallpaperGroups$Lattice", "inversePart", "(I)I"⟩, 2) := ⟨⟨by decide +kernel, by decide +kernel⟩, List.mem_of_getElem? (i := 19) (by decide +kernel), List.mem_of_getElem? (i := 500) (by decide +kernel), List.mem_of_getElem? (i := 501) (by decide +kernel)⟩
theorem lw_p12 : lw_okq (⟨"WallpaperGroups$Features", "occurs", "(I)Z"⟩, 5) := ⟨⟨by decide +kernel, by decide +kernel⟩, List.mem_of_getElem? (i := 102) (by decide +kernel), List.mem_of_getElem? (i := 524) (by decide +kernel), List.mem_of_getElem? (i := 525) (by decide +kernel)⟩
theorem lw_p13 : lw_okq (⟨"WallpaperGroups$Features", "keepsHalfSums", "(I)Z"⟩, 5) := ⟨⟨by decide +kernel, by decide +kernel⟩, List.mem_of_getElem? (i := 102) (by decide +kernel), List.mem_of_getElem? (i := 551) (by decide +kernel), List.mem_of_getElem? (i := 552) (by decide +kernel)⟩
theorem lw_p14 : lw_okq (⟨"WallpaperGroups$Features", "keepsHalfSum", "(III)Z"⟩, 5) := ⟨⟨by decide +kernel, by decide +kernel⟩, List.mem_of_getElem? (i := 102) (by decide +kernel), List.mem_of_getElem? (i := 555) (by decide +kernel), List.mem_of_getElem? (i := 556) (by decide +kernel)⟩
theorem lw_p15 : lw_okq (⟨"WallpaperGroups$Features", "typeWithoutTurns", "(I)I"⟩, 5) := ⟨⟨by decide +kernel, by decide +kernel⟩, List.mem_of_getElem? (i := 102) (by decide +kernel), List.mem_of_getElem? (i := 578) (by decide +kernel), List.mem_of_getElem? (i := 579) (by decide +kernel)⟩
def lw_privs_1 : List (MethodName × Nat) := [(⟨"WallpaperGroups", "refresh", "()V"⟩, 6), (⟨"WallpaperGroups$Group", "admit", "(I)V"⟩, 8), (⟨"WallpaperGroups$Lattice", "timesPart", "(II)I"⟩, 2), (⟨"WallpaperGroups$Group", "listByCode", "()V"⟩, 8), (⟨"WallpaperGroups$Features", "note", "(I)V"⟩, 5), (⟨"WallpaperGroups$Lattice", "isReflection", "(I)Z"⟩, 2), (⟨"WallpaperGroups$Cells", "findOrbit", "(I)V"⟩, 10), (⟨"WallpaperGroups$Cells", "reach", "(I)V"⟩, 10), (⟨"WallpaperGroups$History", "forgetOldest", "()V"⟩, 2), (⟨"WallpaperGroups$Group", "classify", "(I)V"⟩, 8), (⟨"WallpaperGroups$Group", "admitToClass", "(I)V"⟩, 8), (⟨"WallpaperGroups$Lattice", "inversePart", "(I)I"⟩, 2), (⟨"WallpaperGroups$Features", "occurs", "(I)Z"⟩, 5), (⟨"WallpaperGroups$Features", "keepsHalfSums", "(I)Z"⟩, 5), (⟨"WallpaperGroups$Features", "keepsHalfSum", "(III)Z"⟩, 5), (⟨"WallpaperGroups$Features", "typeWithoutTurns", "(I)I"⟩, 5)]
theorem lw_r1 : ∀ q ∈ lw_privs_1, lw_okq q := List.forall_mem_cons.mpr ⟨lw_p0, List.forall_mem_cons.mpr ⟨lw_p1, List.forall_mem_cons.mpr ⟨lw_p2, List.forall_mem_cons.mpr ⟨lw_p3, List.forall_mem_cons.mpr ⟨lw_p4, List.forall_mem_cons.mpr ⟨lw_p5, List.forall_mem_cons.mpr ⟨lw_p6, List.forall_mem_cons.mpr ⟨lw_p7, List.forall_mem_cons.mpr ⟨lw_p8, List.forall_mem_cons.mpr ⟨lw_p9, List.forall_mem_cons.mpr ⟨lw_p10, List.forall_mem_cons.mpr ⟨lw_p11, List.forall_mem_cons.mpr ⟨lw_p12, List.forall_mem_cons.mpr ⟨lw_p13, List.forall_mem_cons.mpr ⟨lw_p14, List.forall_mem_cons.mpr ⟨lw_p15, fun _ h => absurd h List.not_mem_nil⟩⟩⟩⟩⟩⟩⟩⟩⟩⟩⟩⟩⟩⟩⟩⟩
theorem lw_p16 : lw_okq (⟨"WallpaperGroups$Features", "hasReversal", "()Z"⟩, 5) := ⟨⟨by decide +kernel, by decide +kernel⟩, List.mem_of_getElem? (i := 102) (by decide +kernel), List.mem_of_getElem? (i := 582) (by decide +kernel), List.mem_of_getElem? (i := 583) (by decide +kernel)⟩
theorem lw_p17 : lw_okq (⟨"WallpaperGroups$Features", "typeWithHalfTurns", "(I)I"⟩, 5) := ⟨⟨by decide +kernel, by decide +kernel⟩, List.mem_of_getElem? (i := 102) (by decide +kernel), List.mem_of_getElem? (i := 588) (by decide +kernel), List.mem_of_getElem? (i := 589) (by decide +kernel)⟩
theorem lw_p18 : lw_okq (⟨"WallpaperGroups$Features", "typeWithThirdTurns", "()I"⟩, 5) := ⟨⟨by decide +kernel, by decide +kernel⟩, List.mem_of_getElem? (i := 102) (by decide +kernel), List.mem_of_getElem? (i := 592) (by decide +kernel), List.mem_of_getElem? (i := 593) (by decide +kernel)⟩
theorem lw_p19 : lw_okq (⟨"WallpaperGroups$Features", "fixesShortestVector", "()Z"⟩, 5) := ⟨⟨by decide +kernel, by decide +kernel⟩, List.mem_of_getElem? (i := 102) (by decide +kernel), List.mem_of_getElem? (i := 596) (by decide +kernel), List.mem_of_getElem? (i := 597) (by decide +kernel)⟩
theorem lw_p20 : lw_okq (⟨"WallpaperGroups$Features", "leastSquaredLength", "()I"⟩, 5) := ⟨⟨by decide +kernel, by decide +kernel⟩, List.mem_of_getElem? (i := 102) (by decide +kernel), List.mem_of_getElem? (i := 600) (by decide +kernel), List.mem_of_getElem? (i := 601) (by decide +kernel)⟩
theorem lw_p21 : lw_okq (⟨"WallpaperGroups$Features", "isFixedByReversal", "(II)Z"⟩, 5) := ⟨⟨by decide +kernel, by decide +kernel⟩, List.mem_of_getElem? (i := 102) (by decide +kernel), List.mem_of_getElem? (i := 607) (by decide +kernel), List.mem_of_getElem? (i := 608) (by decide +kernel)⟩
theorem lw_p22 : lw_okq (⟨"WallpaperGroups$Features", "typeWithQuarterTurns", "(I)I"⟩, 5) := ⟨⟨by decide +kernel, by decide +kernel⟩, List.mem_of_getElem? (i := 102) (by decide +kernel), List.mem_of_getElem? (i := 611) (by decide +kernel), List.mem_of_getElem? (i := 612) (by decide +kernel)⟩
theorem lw_p23 : lw_okq (⟨"WallpaperGroups$Cells", "countCycles", "(I)I"⟩, 10) := ⟨⟨by decide +kernel, by decide +kernel⟩, List.mem_of_getElem? (i := 124) (by decide +kernel), List.mem_of_getElem? (i := 678) (by decide +kernel), List.mem_of_getElem? (i := 679) (by decide +kernel)⟩
theorem lw_p24 : lw_okq (⟨"WallpaperGroups$Cells", "fillImages", "(I)V"⟩, 10) := ⟨⟨by decide +kernel, by decide +kernel⟩, List.mem_of_getElem? (i := 124) (by decide +kernel), List.mem_of_getElem? (i := 682) (by decide +kernel), List.mem_of_getElem? (i := 683) (by decide +kernel)⟩
theorem lw_p25 : lw_okq (⟨"WallpaperGroups$Cells", "walkCycle", "(I)V"⟩, 10) := ⟨⟨by decide +kernel, by decide +kernel⟩, List.mem_of_getElem? (i := 124) (by decide +kernel), List.mem_of_getElem? (i := 692) (by decide +kernel), List.mem_of_getElem? (i := 693) (by decide +kernel)⟩
theorem lw_p26 : lw_okq (⟨"WallpaperGroupsModel", "derive", "()V"⟩, 9) := ⟨⟨by decide +kernel, by decide +kernel⟩, List.mem_of_getElem? (i := 697) (by decide +kernel), List.mem_of_getElem? (i := 703) (by decide +kernel), List.mem_of_getElem? (i := 704) (by decide +kernel)⟩
theorem lw_p27 : lw_okq (⟨"WallpaperGroupsModel", "makeParts", "()V"⟩, 9) := ⟨⟨by decide +kernel, by decide +kernel⟩, List.mem_of_getElem? (i := 697) (by decide +kernel), List.mem_of_getElem? (i := 707) (by decide +kernel), List.mem_of_getElem? (i := 708) (by decide +kernel)⟩
theorem lw_p28 : lw_okq (⟨"WallpaperGroupsModel", "putPart", "(IIIII)V"⟩, 9) := ⟨⟨by decide +kernel, by decide +kernel⟩, List.mem_of_getElem? (i := 697) (by decide +kernel), List.mem_of_getElem? (i := 711) (by decide +kernel), List.mem_of_getElem? (i := 712) (by decide +kernel)⟩
theorem lw_p29 : lw_okq (⟨"WallpaperGroupsModel", "putProduct", "(III)V"⟩, 9) := ⟨⟨by decide +kernel, by decide +kernel⟩, List.mem_of_getElem? (i := 697) (by decide +kernel), List.mem_of_getElem? (i := 715) (by decide +kernel), List.mem_of_getElem? (i := 716) (by decide +kernel)⟩
theorem lw_p30 : lw_okq (⟨"WallpaperGroupsModel", "entry", "(II)I"⟩, 9) := ⟨⟨by decide +kernel, by decide +kernel⟩, List.mem_of_getElem? (i := 697) (by decide +kernel), List.mem_of_getElem? (i := 719) (by decide +kernel), List.mem_of_getElem? (i := 720) (by decide +kernel)⟩
theorem lw_p31 : lw_okq (⟨"WallpaperGroupsModel", "numberOfProduct", "(II)I"⟩, 9) := ⟨⟨by decide +kernel, by decide +kernel⟩, List.mem_of_getElem? (i := 697) (by decide +kernel), List.mem_of_getElem? (i := 723) (by decide +kernel), List.mem_of_getElem? (i := 724) (by decide +kernel)⟩
def lw_privs_2 : List (MethodName × Nat) := [(⟨"WallpaperGroups$Features", "hasReversal", "()Z"⟩, 5), (⟨"WallpaperGroups$Features", "typeWithHalfTurns", "(I)I"⟩, 5), (⟨"WallpaperGroups$Features", "typeWithThirdTurns", "()I"⟩, 5), (⟨"WallpaperGroups$Features", "fixesShortestVector", "()Z"⟩, 5), (⟨"WallpaperGroups$Features", "leastSquaredLength", "()I"⟩, 5), (⟨"WallpaperGroups$Features", "isFixedByReversal", "(II)Z"⟩, 5), (⟨"WallpaperGroups$Features", "typeWithQuarterTurns", "(I)I"⟩, 5), (⟨"WallpaperGroups$Cells", "countCycles", "(I)I"⟩, 10), (⟨"WallpaperGroups$Cells", "fillImages", "(I)V"⟩, 10), (⟨"WallpaperGroups$Cells", "walkCycle", "(I)V"⟩, 10), (⟨"WallpaperGroupsModel", "derive", "()V"⟩, 9), (⟨"WallpaperGroupsModel", "makeParts", "()V"⟩, 9), (⟨"WallpaperGroupsModel", "putPart", "(IIIII)V"⟩, 9), (⟨"WallpaperGroupsModel", "putProduct", "(III)V"⟩, 9), (⟨"WallpaperGroupsModel", "entry", "(II)I"⟩, 9), (⟨"WallpaperGroupsModel", "numberOfProduct", "(II)I"⟩, 9)]
theorem lw_r2 : ∀ q ∈ lw_privs_2, lw_okq q := List.forall_mem_cons.mpr ⟨lw_p16, List.forall_mem_cons.mpr ⟨lw_p17, List.forall_mem_cons.mpr ⟨lw_p18, List.forall_mem_cons.mpr ⟨lw_p19, List.forall_mem_cons.mpr ⟨lw_p20, List.forall_mem_cons.mpr ⟨lw_p21, List.forall_mem_cons.mpr ⟨lw_p22, List.forall_mem_cons.mpr ⟨lw_p23, List.forall_mem_cons.mpr ⟨lw_p24, List.forall_mem_cons.mpr ⟨lw_p25, List.forall_mem_cons.mpr ⟨lw_p26, List.forall_mem_cons.mpr ⟨lw_p27, List.forall_mem_cons.mpr ⟨lw_p28, List.forall_mem_cons.mpr ⟨lw_p29, List.forall_mem_cons.mpr ⟨lw_p30, List.forall_mem_cons.mpr ⟨lw_p31, fun _ h => absurd h List.not_mem_nil⟩⟩⟩⟩⟩⟩⟩⟩⟩⟩⟩⟩⟩⟩⟩⟩
theorem lw_p32 : lw_okq (⟨"WallpaperGroupsModel", "addElement", "(I)V"⟩, 9) := ⟨⟨by decide +kernel, by decide +kernel⟩, List.mem_of_getElem? (i := 697) (by decide +kernel), List.mem_of_getElem? (i := 727) (by decide +kernel), List.mem_of_getElem? (i := 728) (by decide +kernel)⟩
theorem lw_p33 : lw_okq (⟨"WallpaperGroupsModel", "times", "(II)I"⟩, 9) := ⟨⟨by decide +kernel, by decide +kernel⟩, List.mem_of_getElem? (i := 697) (by decide +kernel), List.mem_of_getElem? (i := 731) (by decide +kernel), List.mem_of_getElem? (i := 732) (by decide +kernel)⟩
theorem lw_p34 : lw_okq (⟨"WallpaperGroupsModel", "partOf", "(I)I"⟩, 9) := ⟨⟨by decide +kernel, by decide +kernel⟩, List.mem_of_getElem? (i := 697) (by decide +kernel), List.mem_of_getElem? (i := 735) (by decide +kernel), List.mem_of_getElem? (i := 736) (by decide +kernel)⟩
theorem lw_p35 : lw_okq (⟨"WallpaperGroupsModel", "cells", "()I"⟩, 9) := ⟨⟨by decide +kernel, by decide +kernel⟩, List.mem_of_getElem? (i := 697) (by decide +kernel), List.mem_of_getElem? (i := 739) (by decide +kernel), List.mem_of_getElem? (i := 740) (by decide +kernel)⟩
theorem lw_p36 : lw_okq (⟨"WallpaperGroupsModel", "uOf", "(I)I"⟩, 9) := ⟨⟨by decide +kernel, by decide +kernel⟩, List.mem_of_getElem? (i := 697) (by decide +kernel), List.mem_of_getElem? (i := 743) (by decide +kernel), List.mem_of_getElem? (i := 744) (by decide +kernel)⟩
theorem lw_p37 : lw_okq (⟨"WallpaperGroupsModel", "vOf", "(I)I"⟩, 9) := ⟨⟨by decide +kernel, by decide +kernel⟩, List.mem_of_getElem? (i := 697) (by decide +kernel), List.mem_of_getElem? (i := 747) (by decide +kernel), List.mem_of_getElem? (i := 748) (by decide +kernel)⟩
theorem lw_p38 : lw_okq (⟨"WallpaperGroupsModel", "imageX", "(III)I"⟩, 9) := ⟨⟨by decide +kernel, by decide +kernel⟩, List.mem_of_getElem? (i := 697) (by decide +kernel), List.mem_of_getElem? (i := 751) (by decide +kernel), List.mem_of_getElem? (i := 752) (by decide +kernel)⟩
theorem lw_p39 : lw_okq (⟨"WallpaperGroupsModel", "imageY", "(III)I"⟩, 9) := ⟨⟨by decide +kernel, by decide +kernel⟩, List.mem_of_getElem? (i := 697) (by decide +kernel), List.mem_of_getElem? (i := 755) (by decide +kernel), List.mem_of_getElem? (i := 756) (by decide +kernel)⟩
theorem lw_p40 : lw_okq (⟨"WallpaperGroupsModel", "codeOf", "(III)I"⟩, 9) := ⟨⟨by decide +kernel, by decide +kernel⟩, List.mem_of_getElem? (i := 697) (by decide +kernel), List.mem_of_getElem? (i := 759) (by decide +kernel), List.mem_of_getElem? (i := 760) (by decide +kernel)⟩
theorem lw_p41 : lw_okq (⟨"WallpaperGroupsModel", "modulo", "(I)I"⟩, 9) := ⟨⟨by decide +kernel, by decide +kernel⟩, List.mem_of_getElem? (i := 697) (by decide +kernel), List.mem_of_getElem? (i := 763) (by decide +kernel), List.mem_of_getElem? (i := 764) (by decide +kernel)⟩
theorem lw_p42 : lw_okq (⟨"WallpaperGroupsModel", "save", "()V"⟩, 9) := ⟨⟨by decide +kernel, by decide +kernel⟩, List.mem_of_getElem? (i := 697) (by decide +kernel), List.mem_of_getElem? (i := 806) (by decide +kernel), List.mem_of_getElem? (i := 807) (by decide +kernel)⟩
theorem lw_p43 : lw_okq (⟨"WallpaperGroupsModel", "isMovement", "(III)Z"⟩, 9) := ⟨⟨by decide +kernel, by decide +kernel⟩, List.mem_of_getElem? (i := 697) (by decide +kernel), List.mem_of_getElem? (i := 814) (by decide +kernel), List.mem_of_getElem? (i := 815) (by decide +kernel)⟩
theorem lw_p44 : lw_okq (⟨"WallpaperGroupsModel", "isGenerator", "(I)Z"⟩, 9) := ⟨⟨by decide +kernel, by decide +kernel⟩, List.mem_of_getElem? (i := 697) (by decide +kernel), List.mem_of_getElem? (i := 822) (by decide +kernel), List.mem_of_getElem? (i := 823) (by decide +kernel)⟩
theorem lw_p45 : lw_okq (⟨"WallpaperGroupsModel", "isCode", "(I)Z"⟩, 9) := ⟨⟨by decide +kernel, by decide +kernel⟩, List.mem_of_getElem? (i := 697) (by decide +kernel), List.mem_of_getElem? (i := 846) (by decide +kernel), List.mem_of_getElem? (i := 847) (by decide +kernel)⟩
theorem lw_p46 : lw_okq (⟨"WallpaperGroupsModel", "kindOfCode", "(I)I"⟩, 9) := ⟨⟨by decide +kernel, by decide +kernel⟩, List.mem_of_getElem? (i := 697) (by decide +kernel), List.mem_of_getElem? (i := 862) (by decide +kernel), List.mem_of_getElem? (i := 863) (by decide +kernel)⟩
theorem lw_p47 : lw_okq (⟨"WallpaperGroupsModel", "isTurn", "(I)Z"⟩, 9) := ⟨⟨by decide +kernel, by decide +kernel⟩, List.mem_of_getElem? (i := 697) (by decide +kernel), List.mem_of_getElem? (i := 866) (by decide +kernel), List.mem_of_getElem? (i := 867) (by decide +kernel)⟩
def lw_privs_3 : List (MethodName × Nat) := [(⟨"WallpaperGroupsModel", "addElement", "(I)V"⟩, 9), (⟨"WallpaperGroupsModel", "times", "(II)I"⟩, 9), (⟨"WallpaperGroupsModel", "partOf", "(I)I"⟩, 9), (⟨"WallpaperGroupsModel", "cells", "()I"⟩, 9), (⟨"WallpaperGroupsModel", "uOf", "(I)I"⟩, 9), (⟨"WallpaperGroupsModel", "vOf", "(I)I"⟩, 9), (⟨"WallpaperGroupsModel", "imageX", "(III)I"⟩, 9), (⟨"WallpaperGroupsModel", "imageY", "(III)I"⟩, 9), (⟨"WallpaperGroupsModel", "codeOf", "(III)I"⟩, 9), (⟨"WallpaperGroupsModel", "modulo", "(I)I"⟩, 9), (⟨"WallpaperGroupsModel", "save", "()V"⟩, 9), (⟨"WallpaperGroupsModel", "isMovement", "(III)Z"⟩, 9), (⟨"WallpaperGroupsModel", "isGenerator", "(I)Z"⟩, 9), (⟨"WallpaperGroupsModel", "isCode", "(I)Z"⟩, 9), (⟨"WallpaperGroupsModel", "kindOfCode", "(I)I"⟩, 9), (⟨"WallpaperGroupsModel", "isTurn", "(I)Z"⟩, 9)]
theorem lw_r3 : ∀ q ∈ lw_privs_3, lw_okq q := List.forall_mem_cons.mpr ⟨lw_p32, List.forall_mem_cons.mpr ⟨lw_p33, List.forall_mem_cons.mpr ⟨lw_p34, List.forall_mem_cons.mpr ⟨lw_p35, List.forall_mem_cons.mpr ⟨lw_p36, List.forall_mem_cons.mpr ⟨lw_p37, List.forall_mem_cons.mpr ⟨lw_p38, List.forall_mem_cons.mpr ⟨lw_p39, List.forall_mem_cons.mpr ⟨lw_p40, List.forall_mem_cons.mpr ⟨lw_p41, List.forall_mem_cons.mpr ⟨lw_p42, List.forall_mem_cons.mpr ⟨lw_p43, List.forall_mem_cons.mpr ⟨lw_p44, List.forall_mem_cons.mpr ⟨lw_p45, List.forall_mem_cons.mpr ⟨lw_p46, List.forall_mem_cons.mpr ⟨lw_p47, fun _ h => absurd h List.not_mem_nil⟩⟩⟩⟩⟩⟩⟩⟩⟩⟩⟩⟩⟩⟩⟩⟩
theorem lw_p48 : lw_okq (⟨"WallpaperGroupsModel", "isReflection", "(I)Z"⟩, 9) := ⟨⟨by decide +kernel, by decide +kernel⟩, List.mem_of_getElem? (i := 697) (by decide +kernel), List.mem_of_getElem? (i := 870) (by decide +kernel), List.mem_of_getElem? (i := 871) (by decide +kernel)⟩
theorem lw_p49 : lw_okq (⟨"WallpaperGroupsModel", "commutingPairs", "()I"⟩, 9) := ⟨⟨by decide +kernel, by decide +kernel⟩, List.mem_of_getElem? (i := 697) (by decide +kernel), List.mem_of_getElem? (i := 885) (by decide +kernel), List.mem_of_getElem? (i := 886) (by decide +kernel)⟩
theorem lw_p50 : lw_okq (⟨"WallpaperGroupsModel", "partSet", "(Z)I"⟩, 9) := ⟨⟨by decide +kernel, by decide +kernel⟩, List.mem_of_getElem? (i := 697) (by decide +kernel), List.mem_of_getElem? (i := 897) (by decide +kernel), List.mem_of_getElem? (i := 898) (by decide +kernel)⟩
theorem lw_p51 : lw_okq (⟨"WallpaperGroupsModel", "greatestTurn", "()I"⟩, 9) := ⟨⟨by decide +kernel, by decide +kernel⟩, List.mem_of_getElem? (i := 697) (by decide +kernel), List.mem_of_getElem? (i := 908) (by decide +kernel), List.mem_of_getElem? (i := 909) (by decide +kernel)⟩
theorem lw_p52 : lw_okq (⟨"WallpaperGroupsModel", "orderOfPart", "(I)I"⟩, 9) := ⟨⟨by decide +kernel, by decide +kernel⟩, List.mem_of_getElem? (i := 697) (by decide +kernel), List.mem_of_getElem? (i := 912) (by decide +kernel), List.mem_of_getElem? (i := 913) (by decide +kernel)⟩
theorem lw_p53 : lw_okq (⟨"WallpaperGroupsModel", "directions", "()I"⟩, 9) := ⟨⟨by decide +kernel, by decide +kernel⟩, List.mem_of_getElem? (i := 697) (by decide +kernel), List.mem_of_getElem? (i := 920) (by decide +kernel), List.mem_of_getElem? (i := 921) (by decide +kernel)⟩
theorem lw_p54 : lw_okq (⟨"WallpaperGroupsModel", "isCenteredNow", "()Z"⟩, 9) := ⟨⟨by decide +kernel, by decide +kernel⟩, List.mem_of_getElem? (i := 697) (by decide +kernel), List.mem_of_getElem? (i := 928) (by decide +kernel), List.mem_of_getElem? (i := 929) (by decide +kernel)⟩
theorem lw_p55 : lw_okq (⟨"WallpaperGroupsModel", "isCenteredBy", "(I)Z"⟩, 9) := ⟨⟨by decide +kernel, by decide +kernel⟩, List.mem_of_getElem? (i := 697) (by decide +kernel), List.mem_of_getElem? (i := 932) (by decide +kernel), List.mem_of_getElem? (i := 933) (by decide +kernel)⟩
theorem lw_p56 : lw_okq (⟨"WallpaperGroupsModel", "isHalved", "(III)Z"⟩, 9) := ⟨⟨by decide +kernel, by decide +kernel⟩, List.mem_of_getElem? (i := 697) (by decide +kernel), List.mem_of_getElem? (i := 936) (by decide +kernel), List.mem_of_getElem? (i := 937) (by decide +kernel)⟩
theorem lw_p57 : lw_okq (⟨"WallpaperGroupsModel", "isLatticeVector", "(II)Z"⟩, 9) := ⟨⟨by decide +kernel, by decide +kernel⟩, List.mem_of_getElem? (i := 697) (by decide +kernel), List.mem_of_getElem? (i := 940) (by decide +kernel), List.mem_of_getElem? (i := 941) (by decide +kernel)⟩
theorem lw_p58 : lw_okq (⟨"WallpaperGroupsModel", "isShortestFixed", "()Z"⟩, 9) := ⟨⟨by decide +kernel, by decide +kernel⟩, List.mem_of_getElem? (i := 697) (by decide +kernel), List.mem_of_getElem? (i := 948) (by decide +kernel), List.mem_of_getElem? (i := 949) (by decide +kernel)⟩
theorem lw_p59 : lw_okq (⟨"WallpaperGroupsModel", "leastSquared", "()I"⟩, 9) := ⟨⟨by decide +kernel, by decide +kernel⟩, List.mem_of_getElem? (i := 697) (by decide +kernel), List.mem_of_getElem? (i := 952) (by decide +kernel), List.mem_of_getElem? (i := 953) (by decide +kernel)⟩
theorem lw_p60 : lw_okq (⟨"WallpaperGroupsModel", "squared", "(II)I"⟩, 9) := ⟨⟨by decide +kernel, by decide +kernel⟩, List.mem_of_getElem? (i := 697) (by decide +kernel), List.mem_of_getElem? (i := 956) (by decide +kernel), List.mem_of_getElem? (i := 957) (by decide +kernel)⟩
theorem lw_p61 : lw_okq (⟨"WallpaperGroupsModel", "isCell", "(II)Z"⟩, 9) := ⟨⟨by decide +kernel, by decide +kernel⟩, List.mem_of_getElem? (i := 697) (by decide +kernel), List.mem_of_getElem? (i := 964) (by decide +kernel), List.mem_of_getElem? (i := 965) (by decide +kernel)⟩
theorem lw_p62 : lw_okq (⟨"WallpaperGroupsModel", "orbit", "(I)I"⟩, 9) := ⟨⟨by decide +kernel, by decide +kernel⟩, List.mem_of_getElem? (i := 697) (by decide +kernel), List.mem_of_getElem? (i := 968) (by decide +kernel), List.mem_of_getElem? (i := 969) (by decide +kernel)⟩
theorem lw_p63 : lw_okq (⟨"WallpaperGroupsModel", "sends", "(II)I"⟩, 9) := ⟨⟨by decide +kernel, by decide +kernel⟩, List.mem_of_getElem? (i := 697) (by decide +kernel), List.mem_of_getElem? (i := 972) (by decide +kernel), List.mem_of_getElem? (i := 973) (by decide +kernel)⟩
def lw_privs_4 : List (MethodName × Nat) := [(⟨"WallpaperGroupsModel", "isReflection", "(I)Z"⟩, 9), (⟨"WallpaperGroupsModel", "commutingPairs", "()I"⟩, 9), (⟨"WallpaperGroupsModel", "partSet", "(Z)I"⟩, 9), (⟨"WallpaperGroupsModel", "greatestTurn", "()I"⟩, 9), (⟨"WallpaperGroupsModel", "orderOfPart", "(I)I"⟩, 9), (⟨"WallpaperGroupsModel", "directions", "()I"⟩, 9), (⟨"WallpaperGroupsModel", "isCenteredNow", "()Z"⟩, 9), (⟨"WallpaperGroupsModel", "isCenteredBy", "(I)Z"⟩, 9), (⟨"WallpaperGroupsModel", "isHalved", "(III)Z"⟩, 9), (⟨"WallpaperGroupsModel", "isLatticeVector", "(II)Z"⟩, 9), (⟨"WallpaperGroupsModel", "isShortestFixed", "()Z"⟩, 9), (⟨"WallpaperGroupsModel", "leastSquared", "()I"⟩, 9), (⟨"WallpaperGroupsModel", "squared", "(II)I"⟩, 9), (⟨"WallpaperGroupsModel", "isCell", "(II)Z"⟩, 9), (⟨"WallpaperGroupsModel", "orbit", "(I)I"⟩, 9), (⟨"WallpaperGroupsModel", "sends", "(II)I"⟩, 9)]
theorem lw_r4 : ∀ q ∈ lw_privs_4, lw_okq q := List.forall_mem_cons.mpr ⟨lw_p48, List.forall_mem_cons.mpr ⟨lw_p49, List.forall_mem_cons.mpr ⟨lw_p50, List.forall_mem_cons.mpr ⟨lw_p51, List.forall_mem_cons.mpr ⟨lw_p52, List.forall_mem_cons.mpr ⟨lw_p53, List.forall_mem_cons.mpr ⟨lw_p54, List.forall_mem_cons.mpr ⟨lw_p55, List.forall_mem_cons.mpr ⟨lw_p56, List.forall_mem_cons.mpr ⟨lw_p57, List.forall_mem_cons.mpr ⟨lw_p58, List.forall_mem_cons.mpr ⟨lw_p59, List.forall_mem_cons.mpr ⟨lw_p60, List.forall_mem_cons.mpr ⟨lw_p61, List.forall_mem_cons.mpr ⟨lw_p62, List.forall_mem_cons.mpr ⟨lw_p63, fun _ h => absurd h List.not_mem_nil⟩⟩⟩⟩⟩⟩⟩⟩⟩⟩⟩⟩⟩⟩⟩⟩
theorem lw_p64 : lw_okq (⟨"WallpaperGroupsModel", "stabilizer", "(I)I"⟩, 9) := ⟨⟨by decide +kernel, by decide +kernel⟩, List.mem_of_getElem? (i := 697) (by decide +kernel), List.mem_of_getElem? (i := 990) (by decide +kernel), List.mem_of_getElem? (i := 991) (by decide +kernel)⟩
theorem lw_p65 : lw_okq (⟨"WallpaperGroupsModel", "orbits", "()I"⟩, 9) := ⟨⟨by decide +kernel, by decide +kernel⟩, List.mem_of_getElem? (i := 697) (by decide +kernel), List.mem_of_getElem? (i := 998) (by decide +kernel), List.mem_of_getElem? (i := 999) (by decide +kernel)⟩
theorem lw_p66 : lw_okq (⟨"WallpaperGroupsModel", "cycles", "(I)I"⟩, 9) := ⟨⟨by decide +kernel, by decide +kernel⟩, List.mem_of_getElem? (i := 697) (by decide +kernel), List.mem_of_getElem? (i := 1018) (by decide +kernel), List.mem_of_getElem? (i := 1019) (by decide +kernel)⟩
def lw_privs_5 : List (MethodName × Nat) := [(⟨"WallpaperGroupsModel", "stabilizer", "(I)I"⟩, 9), (⟨"WallpaperGroupsModel", "orbits", "()I"⟩, 9), (⟨"WallpaperGroupsModel", "cycles", "(I)I"⟩, 9)]
theorem lw_r5 : ∀ q ∈ lw_privs_5, lw_okq q := List.forall_mem_cons.mpr ⟨lw_p64, List.forall_mem_cons.mpr ⟨lw_p65, List.forall_mem_cons.mpr ⟨lw_p66, fun _ h => absurd h List.not_mem_nil⟩⟩⟩
def lw_privs : List (MethodName × Nat) := lw_privs_1 ++ (lw_privs_2 ++ (lw_privs_3 ++ (lw_privs_4 ++ (lw_privs_5))))
def lw_tbl : List Cond := k2_sels lw_privs ++ tables_1
theorem lw_privs_ok : ∀ q ∈ lw_privs, lw_okq q := by
  show ∀ q ∈ lw_privs_1 ++ (lw_privs_2 ++ (lw_privs_3 ++ (lw_privs_4 ++ (lw_privs_5)))), lw_okq q
  exact List.forall_mem_append.mpr ⟨lw_r1, List.forall_mem_append.mpr ⟨lw_r2, List.forall_mem_append.mpr ⟨lw_r3, List.forall_mem_append.mpr ⟨lw_r4, lw_r5⟩⟩⟩⟩
end
section
def RX0 : String := "WallpaperGroups$Cells"
def TX0 : u_T := fun k => match k with
  | 0 => ("WallpaperGroups$Cells", "lattice", "LWallpaperGroups$Lattice;", true)
  | 1 => ("WallpaperGroups$Cells", "generators", "LWallpaperGroups$Generators;", true)
  | 2 => ("WallpaperGroups$Cells", "group", "LWallpaperGroups$Group;", true)
  | 3 => ("WallpaperGroups$Cells", "leasts", "[I", true)
  | 4 => ("WallpaperGroups$Cells", "sizes", "[I", true)
  | 5 => ("WallpaperGroups$Cells", "reached", "[Z", true)
  | 6 => ("WallpaperGroups$Cells", "waiting", "[I", true)
  | 7 => ("WallpaperGroups$Cells", "images", "[I", true)
  | 8 => ("WallpaperGroups$Cells", "waitingCount", "I", false)
  | _ => ("WallpaperGroups$Cells", "orbitTotal", "I", false)
def tyX0 : Nat → FieldType := fun k => match k with
  | 0 => .object "WallpaperGroups$Lattice"
  | 1 => .object "WallpaperGroups$Generators"
  | 2 => .object "WallpaperGroups$Group"
  | 3 => .array .int
  | 4 => .array .int
  | 5 => .array .boolean
  | 6 => .array .int
  | 7 => .array .int
  | 8 => .int
  | _ => .int
abbrev wsX00 : List Cond := u_ws RX0 TX0 10
theorem nmX0 : ∀ a, a < 10 → ∀ b, b < 10 → a ≠ b → (TX0 a).2.1 ≠ (TX0 b).2.1 := by decide +kernel
theorem tyX0_ok : ∀ k, k < 10 → parseFieldDescriptor (TX0 k).2.2.1 = some (tyX0 k) := by decide +kernel
abbrev cX0_init : ByteArray := prog_2_method_1_code
def yX0_init : MethodName := ⟨RX0, "<init>", "(LWallpaperGroups$Lattice;LWallpaperGroups$Generators;LWallpaperGroups$Group;)V"⟩
abbrev cX0_findOrbits : ByteArray := prog_2_method_2_code
def yX0_findOrbits : MethodName := ⟨RX0, "findOrbits", "()V"⟩
abbrev cX0_findOrbit : ByteArray := prog_2_method_3_code
def yX0_findOrbit : MethodName := ⟨RX0, "findOrbit", "(I)V"⟩
abbrev cX0_reach : ByteArray := prog_2_method_4_code
def yX0_reach : MethodName := ⟨RX0, "reach", "(I)V"⟩
abbrev cX0_orbits : ByteArray := prog_2_method_5_code
def yX0_orbits : MethodName := ⟨RX0, "orbits", "()I"⟩
abbrev cX0_leastOfOrbit : ByteArray := prog_2_method_6_code
def yX0_leastOfOrbit : MethodName := ⟨RX0, "leastOfOrbit", "(I)I"⟩
abbrev cX0_sizeOfOrbit : ByteArray := prog_2_method_7_code
def yX0_sizeOfOrbit : MethodName := ⟨RX0, "sizeOfOrbit", "(I)I"⟩
abbrev cX0_sizeOfStabilizer : ByteArray := prog_2_method_8_code
def yX0_sizeOfStabilizer : MethodName := ⟨RX0, "sizeOfStabilizer", "(I)I"⟩
abbrev cX0_hasStabilizerOf : ByteArray := prog_2_method_9_code
def yX0_hasStabilizerOf : MethodName := ⟨RX0, "hasStabilizerOf", "(I)Z"⟩
abbrev cX0_countColoringClasses : ByteArray := prog_2_method_10_code
def yX0_countColoringClasses : MethodName := ⟨RX0, "countColoringClasses", "(I)J"⟩
abbrev cX0_countCycles : ByteArray := prog_2_method_11_code
def yX0_countCycles : MethodName := ⟨RX0, "countCycles", "(I)I"⟩
abbrev cX0_walkCycle : ByteArray := prog_2_method_12_code
def yX0_walkCycle : MethodName := ⟨RX0, "walkCycle", "(I)V"⟩
abbrev cX0_fillImages : ByteArray := prog_2_method_13_code
def yX0_fillImages : MethodName := ⟨RX0, "fillImages", "(I)V"⟩
def RX1 : String := "WallpaperGroups$Features"
def TX1 : u_T := fun k => match k with
  | 0 => ("WallpaperGroups$Features", "lattice", "LWallpaperGroups$Lattice;", true)
  | 1 => ("WallpaperGroups$Features", "group", "LWallpaperGroups$Group;", true)
  | 2 => ("WallpaperGroups$Features", "occurring", "[Z", true)
  | 3 => ("WallpaperGroups$Features", "mirrors", "[Z", true)
  | _ => ("WallpaperGroups$Features", "kindCounts", "[I", true)
def tyX1 : Nat → FieldType := fun k => match k with
  | 0 => .object "WallpaperGroups$Lattice"
  | 1 => .object "WallpaperGroups$Group"
  | 2 => .array .boolean
  | 3 => .array .boolean
  | _ => .array .int
abbrev wsX10 : List Cond := u_ws RX1 TX1 5
theorem nmX1 : ∀ a, a < 5 → ∀ b, b < 5 → a ≠ b → (TX1 a).2.1 ≠ (TX1 b).2.1 := by decide +kernel
theorem tyX1_ok : ∀ k, k < 5 → parseFieldDescriptor (TX1 k).2.2.1 = some (tyX1 k) := by decide +kernel
abbrev cX1_init : ByteArray := prog_3_method_1_code
def yX1_init : MethodName := ⟨RX1, "<init>", "(LWallpaperGroups$Lattice;LWallpaperGroups$Group;)V"⟩
abbrev cX1_survey : ByteArray := prog_3_method_2_code
def yX1_survey : MethodName := ⟨RX1, "survey", "()V"⟩
abbrev cX1_note : ByteArray := prog_3_method_3_code
def yX1_note : MethodName := ⟨RX1, "note", "(I)V"⟩
abbrev cX1_elementsOfKind : ByteArray := prog_3_method_4_code
def yX1_elementsOfKind : MethodName := ⟨RX1, "elementsOfKind", "(I)I"⟩
abbrev cX1_countParts : ByteArray := prog_3_method_5_code
def yX1_countParts : MethodName := ⟨RX1, "countParts", "()I"⟩
abbrev cX1_countMirrorParts : ByteArray := prog_3_method_6_code
def yX1_countMirrorParts : MethodName := ⟨RX1, "countMirrorParts", "()I"⟩
abbrev cX1_greatestTurnOrder : ByteArray := prog_3_method_7_code
def yX1_greatestTurnOrder : MethodName := ⟨RX1, "greatestTurnOrder", "()I"⟩
abbrev cX1_occurs : ByteArray := prog_3_method_8_code
def yX1_occurs : MethodName := ⟨RX1, "occurs", "(I)Z"⟩
abbrev cX1_hasReversal : ByteArray := prog_3_method_9_code
def yX1_hasReversal : MethodName := ⟨RX1, "hasReversal", "()Z"⟩
abbrev cX1_hasCentering : ByteArray := prog_3_method_10_code
def yX1_hasCentering : MethodName := ⟨RX1, "hasCentering", "()Z"⟩
abbrev cX1_keepsHalfSums : ByteArray := prog_3_method_11_code
def yX1_keepsHalfSums : MethodName := ⟨RX1, "keepsHalfSums", "(I)Z"⟩
abbrev cX1_keepsHalfSum : ByteArray := prog_3_method_12_code
def yX1_keepsHalfSum : MethodName := ⟨RX1, "keepsHalfSum", "(III)Z"⟩
abbrev cX1_typeNumber : ByteArray := prog_3_method_13_code
def yX1_typeNumber : MethodName := ⟨RX1, "typeNumber", "()I"⟩
abbrev cX1_typeWithoutTurns : ByteArray := prog_3_method_14_code
def yX1_typeWithoutTurns : MethodName := ⟨RX1, "typeWithoutTurns", "(I)I"⟩
abbrev cX1_typeWithHalfTurns : ByteArray := prog_3_method_15_code
def yX1_typeWithHalfTurns : MethodName := ⟨RX1, "typeWithHalfTurns", "(I)I"⟩
abbrev cX1_typeWithThirdTurns : ByteArray := prog_3_method_16_code
def yX1_typeWithThirdTurns : MethodName := ⟨RX1, "typeWithThirdTurns", "()I"⟩
abbrev cX1_typeWithQuarterTurns : ByteArray := prog_3_method_17_code
def yX1_typeWithQuarterTurns : MethodName := ⟨RX1, "typeWithQuarterTurns", "(I)I"⟩
abbrev cX1_fixesShortestVector : ByteArray := prog_3_method_18_code
def yX1_fixesShortestVector : MethodName := ⟨RX1, "fixesShortestVector", "()Z"⟩
abbrev cX1_leastSquaredLength : ByteArray := prog_3_method_19_code
def yX1_leastSquaredLength : MethodName := ⟨RX1, "leastSquaredLength", "()I"⟩
abbrev cX1_squaredLength : ByteArray := prog_3_method_20_code
def yX1_squaredLength : MethodName := ⟨RX1, "squaredLength", "(II)I"⟩
abbrev cX1_isFixedByReversal : ByteArray := prog_3_method_21_code
def yX1_isFixedByReversal : MethodName := ⟨RX1, "isFixedByReversal", "(II)Z"⟩
def RX2 : String := "WallpaperGroups$Generators"
def TX2 : u_T := fun k => match k with
  | 0 => ("WallpaperGroups$Generators", "codes", "[I", true)
  | _ => ("WallpaperGroups$Generators", "size", "I", false)
def tyX2 : Nat → FieldType := fun k => match k with
  | 0 => .array .int
  | _ => .int
abbrev wsX20 : List Cond := u_ws RX2 TX2 2
theorem nmX2 : ∀ a, a < 2 → ∀ b, b < 2 → a ≠ b → (TX2 a).2.1 ≠ (TX2 b).2.1 := by decide +kernel
theorem tyX2_ok : ∀ k, k < 2 → parseFieldDescriptor (TX2 k).2.2.1 = some (tyX2 k) := by decide +kernel
abbrev cX2_init : ByteArray := prog_4_method_1_code
def yX2_init : MethodName := ⟨RX2, "<init>", "()V"⟩
abbrev cX2_has : ByteArray := prog_4_method_2_code
def yX2_has : MethodName := ⟨RX2, "has", "(I)Z"⟩
abbrev cX2_isFull : ByteArray := prog_4_method_3_code
def yX2_isFull : MethodName := ⟨RX2, "isFull", "()Z"⟩
abbrev cX2_codeAt : ByteArray := prog_4_method_4_code
def yX2_codeAt : MethodName := ⟨RX2, "codeAt", "(I)I"⟩
abbrev cX2_replace : ByteArray := prog_4_method_5_code
def yX2_replace : MethodName := ⟨RX2, "replace", "(II)V"⟩
abbrev cX2_append : ByteArray := prog_4_method_6_code
def yX2_append : MethodName := ⟨RX2, "append", "(I)V"⟩
abbrev cX2_removeAt : ByteArray := prog_4_method_7_code
def yX2_removeAt : MethodName := ⟨RX2, "removeAt", "(I)V"⟩
abbrev cX2_clear : ByteArray := prog_4_method_8_code
def yX2_clear : MethodName := ⟨RX2, "clear", "()V"⟩
def RX3 : String := "WallpaperGroups$Group"
def TX3 : u_T := fun k => match k with
  | 0 => ("WallpaperGroups$Group", "lattice", "LWallpaperGroups$Lattice;", true)
  | 1 => ("WallpaperGroups$Group", "generators", "LWallpaperGroups$Generators;", true)
  | 2 => ("WallpaperGroups$Group", "members", "[Z", true)
  | 3 => ("WallpaperGroups$Group", "elements", "[I", true)
  | 4 => ("WallpaperGroups$Group", "classified", "[Z", true)
  | 5 => ("WallpaperGroups$Group", "waiting", "[I", true)
  | 6 => ("WallpaperGroups$Group", "elementCount", "I", false)
  | _ => ("WallpaperGroups$Group", "waitingCount", "I", false)
def tyX3 : Nat → FieldType := fun k => match k with
  | 0 => .object "WallpaperGroups$Lattice"
  | 1 => .object "WallpaperGroups$Generators"
  | 2 => .array .boolean
  | 3 => .array .int
  | 4 => .array .boolean
  | 5 => .array .int
  | 6 => .int
  | _ => .int
abbrev wsX30 : List Cond := u_ws RX3 TX3 8
theorem nmX3 : ∀ a, a < 8 → ∀ b, b < 8 → a ≠ b → (TX3 a).2.1 ≠ (TX3 b).2.1 := by decide +kernel
theorem tyX3_ok : ∀ k, k < 8 → parseFieldDescriptor (TX3 k).2.2.1 = some (tyX3 k) := by decide +kernel
abbrev cX3_init : ByteArray := prog_5_method_1_code
def yX3_init : MethodName := ⟨RX3, "<init>", "(LWallpaperGroups$Lattice;LWallpaperGroups$Generators;)V"⟩
abbrev cX3_size : ByteArray := prog_5_method_2_code
def yX3_size : MethodName := ⟨RX3, "size", "()I"⟩
abbrev cX3_elementAt : ByteArray := prog_5_method_3_code
def yX3_elementAt : MethodName := ⟨RX3, "elementAt", "(I)I"⟩
abbrev cX3_has : ByteArray := prog_5_method_4_code
def yX3_has : MethodName := ⟨RX3, "has", "(I)Z"⟩
abbrev cX3_hasTranslation : ByteArray := prog_5_method_5_code
def yX3_hasTranslation : MethodName := ⟨RX3, "hasTranslation", "(II)Z"⟩
abbrev cX3_rebuild : ByteArray := prog_5_method_6_code
def yX3_rebuild : MethodName := ⟨RX3, "rebuild", "()V"⟩
abbrev cX3_admit : ByteArray := prog_5_method_7_code
def yX3_admit : MethodName := ⟨RX3, "admit", "(I)V"⟩
abbrev cX3_listByCode : ByteArray := prog_5_method_8_code
def yX3_listByCode : MethodName := ⟨RX3, "listByCode", "()V"⟩
abbrev cX3_commutes : ByteArray := prog_5_method_9_code
def yX3_commutes : MethodName := ⟨RX3, "commutes", "()Z"⟩
abbrev cX3_countConjugacyClasses : ByteArray := prog_5_method_10_code
def yX3_countConjugacyClasses : MethodName := ⟨RX3, "countConjugacyClasses", "()I"⟩
abbrev cX3_classify : ByteArray := prog_5_method_11_code
def yX3_classify : MethodName := ⟨RX3, "classify", "(I)V"⟩
abbrev cX3_admitToClass : ByteArray := prog_5_method_12_code
def yX3_admitToClass : MethodName := ⟨RX3, "admitToClass", "(I)V"⟩
def RX4 : String := "WallpaperGroups$History"
def TX4 : u_T := fun k => match k with
  | 0 => ("WallpaperGroups$History", "rows", "[[I", true)
  | _ => ("WallpaperGroups$History", "depth", "I", false)
def tyX4 : Nat → FieldType := fun k => match k with
  | 0 => .array (.array .int)
  | _ => .int
abbrev wsX40 : List Cond := u_ws RX4 TX4 2
theorem nmX4 : ∀ a, a < 2 → ∀ b, b < 2 → a ≠ b → (TX4 a).2.1 ≠ (TX4 b).2.1 := by decide +kernel
theorem tyX4_ok : ∀ k, k < 2 → parseFieldDescriptor (TX4 k).2.2.1 = some (tyX4 k) := by decide +kernel
abbrev cX4_init : ByteArray := prog_6_method_1_code
def yX4_init : MethodName := ⟨RX4, "<init>", "()V"⟩
abbrev cX4_isEmpty : ByteArray := prog_6_method_2_code
def yX4_isEmpty : MethodName := ⟨RX4, "isEmpty", "()Z"⟩
abbrev cX4_save : ByteArray := prog_6_method_3_code
def yX4_save : MethodName := ⟨RX4, "save", "(LWallpaperGroups$Lattice;LWallpaperGroups$Generators;)V"⟩
abbrev cX4_restore : ByteArray := prog_6_method_4_code
def yX4_restore : MethodName := ⟨RX4, "restore", "(LWallpaperGroups$Lattice;LWallpaperGroups$Generators;)V"⟩
abbrev cX4_forgetOldest : ByteArray := prog_6_method_5_code
def yX4_forgetOldest : MethodName := ⟨RX4, "forgetOldest", "()V"⟩
abbrev cX4_write : ByteArray := prog_6_method_6_code
def yX4_write : MethodName := ⟨RX4, "write", "([ILWallpaperGroups$Lattice;LWallpaperGroups$Generators;)V"⟩
abbrev cX4_read : ByteArray := prog_6_method_7_code
def yX4_read : MethodName := ⟨RX4, "read", "([ILWallpaperGroups$Lattice;LWallpaperGroups$Generators;)V"⟩
def RX5 : String := "WallpaperGroups$Lattice"
def TX5 : u_T := fun k => match k with
  | 0 => ("WallpaperGroups$Lattice", "kind", "I", false)
  | _ => ("WallpaperGroups$Lattice", "n", "I", false)
def tyX5 : Nat → FieldType := fun k => match k with
  | 0 => .int
  | _ => .int
abbrev wsX50 : List Cond := u_ws RX5 TX5 2
theorem nmX5 : ∀ a, a < 2 → ∀ b, b < 2 → a ≠ b → (TX5 a).2.1 ≠ (TX5 b).2.1 := by decide +kernel
theorem tyX5_ok : ∀ k, k < 2 → parseFieldDescriptor (TX5 k).2.2.1 = some (tyX5 k) := by decide +kernel
abbrev cX5_init : ByteArray := prog_7_method_1_code
def yX5_init : MethodName := ⟨RX5, "<init>", "()V"⟩
abbrev cX5_choose : ByteArray := prog_7_method_2_code
def yX5_choose : MethodName := ⟨RX5, "choose", "(II)V"⟩
abbrev cX5_turns : ByteArray := prog_7_method_3_code
def yX5_turns : MethodName := ⟨RX5, "turns", "()I"⟩
abbrev cX5_parts : ByteArray := prog_7_method_4_code
def yX5_parts : MethodName := ⟨RX5, "parts", "()I"⟩
abbrev cX5_cellCount : ByteArray := prog_7_method_5_code
def yX5_cellCount : MethodName := ⟨RX5, "cellCount", "()I"⟩
abbrev cX5_codes : ByteArray := prog_7_method_6_code
def yX5_codes : MethodName := ⟨RX5, "codes", "()I"⟩
abbrev cX5_hasCell : ByteArray := prog_7_method_7_code
def yX5_hasCell : MethodName := ⟨RX5, "hasCell", "(II)Z"⟩
abbrev cX5_hasMovement : ByteArray := prog_7_method_8_code
def yX5_hasMovement : MethodName := ⟨RX5, "hasMovement", "(III)Z"⟩
abbrev cX5_hasCode : ByteArray := prog_7_method_9_code
def yX5_hasCode : MethodName := ⟨RX5, "hasCode", "(I)Z"⟩
abbrev cX5_cellOf : ByteArray := prog_7_method_10_code
def yX5_cellOf : MethodName := ⟨RX5, "cellOf", "(II)I"⟩
abbrev cX5_codeOf : ByteArray := prog_7_method_11_code
def yX5_codeOf : MethodName := ⟨RX5, "codeOf", "(III)I"⟩
abbrev cX5_partOf : ByteArray := prog_7_method_12_code
def yX5_partOf : MethodName := ⟨RX5, "partOf", "(I)I"⟩
abbrev cX5_shiftX : ByteArray := prog_7_method_13_code
def yX5_shiftX : MethodName := ⟨RX5, "shiftX", "(I)I"⟩
abbrev cX5_shiftY : ByteArray := prog_7_method_14_code
def yX5_shiftY : MethodName := ⟨RX5, "shiftY", "(I)I"⟩
abbrev cX5_wrap : ByteArray := prog_7_method_15_code
def yX5_wrap : MethodName := ⟨RX5, "wrap", "(I)I"⟩
abbrev cX5_entry : ByteArray := prog_7_method_16_code
def yX5_entry : MethodName := ⟨RX5, "entry", "(II)I"⟩
abbrev cX5_imageX : ByteArray := prog_7_method_17_code
def yX5_imageX : MethodName := ⟨RX5, "imageX", "(III)I"⟩
abbrev cX5_imageY : ByteArray := prog_7_method_18_code
def yX5_imageY : MethodName := ⟨RX5, "imageY", "(III)I"⟩
abbrev cX5_imageOfCell : ByteArray := prog_7_method_19_code
def yX5_imageOfCell : MethodName := ⟨RX5, "imageOfCell", "(II)I"⟩
abbrev cX5_times : ByteArray := prog_7_method_20_code
def yX5_times : MethodName := ⟨RX5, "times", "(II)I"⟩
abbrev cX5_timesPart : ByteArray := prog_7_method_21_code
def yX5_timesPart : MethodName := ⟨RX5, "timesPart", "(II)I"⟩
abbrev cX5_inverseOf : ByteArray := prog_7_method_22_code
def yX5_inverseOf : MethodName := ⟨RX5, "inverseOf", "(I)I"⟩
abbrev cX5_inversePart : ByteArray := prog_7_method_23_code
def yX5_inversePart : MethodName := ⟨RX5, "inversePart", "(I)I"⟩
abbrev cX5_factorsToIdentity : ByteArray := prog_7_method_24_code
def yX5_factorsToIdentity : MethodName := ⟨RX5, "factorsToIdentity", "(I)I"⟩
abbrev cX5_turnOrder : ByteArray := prog_7_method_25_code
def yX5_turnOrder : MethodName := ⟨RX5, "turnOrder", "(I)I"⟩
abbrev cX5_kindNumber : ByteArray := prog_7_method_26_code
def yX5_kindNumber : MethodName := ⟨RX5, "kindNumber", "(I)I"⟩
abbrev cX5_isReflection : ByteArray := prog_7_method_27_code
def yX5_isReflection : MethodName := ⟨RX5, "isReflection", "(I)Z"⟩
def RX6 : String := "WallpaperGroups"
def TX6 : u_T := fun k => match k with
  | 0 => ("WallpaperGroups", "lattice", "LWallpaperGroups$Lattice;", true)
  | 1 => ("WallpaperGroups", "generators", "LWallpaperGroups$Generators;", true)
  | 2 => ("WallpaperGroups", "history", "LWallpaperGroups$History;", true)
  | 3 => ("WallpaperGroups", "group", "LWallpaperGroups$Group;", true)
  | 4 => ("WallpaperGroups", "features", "LWallpaperGroups$Features;", true)
  | _ => ("WallpaperGroups", "cells", "LWallpaperGroups$Cells;", true)
def tyX6 : Nat → FieldType := fun k => match k with
  | 0 => .object "WallpaperGroups$Lattice"
  | 1 => .object "WallpaperGroups$Generators"
  | 2 => .object "WallpaperGroups$History"
  | 3 => .object "WallpaperGroups$Group"
  | 4 => .object "WallpaperGroups$Features"
  | _ => .object "WallpaperGroups$Cells"
abbrev wsX60 : List Cond := u_ws RX6 TX6 6
theorem nmX6 : ∀ a, a < 6 → ∀ b, b < 6 → a ≠ b → (TX6 a).2.1 ≠ (TX6 b).2.1 := by decide +kernel
theorem tyX6_ok : ∀ k, k < 6 → parseFieldDescriptor (TX6 k).2.2.1 = some (tyX6 k) := by decide +kernel
abbrev cX6_init : ByteArray := prog_1_method_1_code
def yX6_init : MethodName := ⟨RX6, "<init>", "()V"⟩
abbrev cX6_setLattice : ByteArray := prog_1_method_2_code
def yX6_setLattice : MethodName := ⟨RX6, "setLattice", "(II)I"⟩
abbrev cX6_addGenerator : ByteArray := prog_1_method_3_code
def yX6_addGenerator : MethodName := ⟨RX6, "addGenerator", "(III)I"⟩
abbrev cX6_removeGenerator : ByteArray := prog_1_method_4_code
def yX6_removeGenerator : MethodName := ⟨RX6, "removeGenerator", "(I)I"⟩
abbrev cX6_setGenerator : ByteArray := prog_1_method_5_code
def yX6_setGenerator : MethodName := ⟨RX6, "setGenerator", "(IIII)I"⟩
abbrev cX6_undo : ByteArray := prog_1_method_6_code
def yX6_undo : MethodName := ⟨RX6, "undo", "()I"⟩
abbrev cX6_generator : ByteArray := prog_1_method_7_code
def yX6_generator : MethodName := ⟨RX6, "generator", "(I)I"⟩
abbrev cX6_order : ByteArray := prog_1_method_8_code
def yX6_order : MethodName := ⟨RX6, "order", "()I"⟩
abbrev cX6_element : ByteArray := prog_1_method_9_code
def yX6_element : MethodName := ⟨RX6, "element", "(I)I"⟩
abbrev cX6_contains : ByteArray := prog_1_method_10_code
def yX6_contains : MethodName := ⟨RX6, "contains", "(I)I"⟩
abbrev cX6_product : ByteArray := prog_1_method_11_code
def yX6_product : MethodName := ⟨RX6, "product", "(II)I"⟩
abbrev cX6_orderOf : ByteArray := prog_1_method_12_code
def yX6_orderOf : MethodName := ⟨RX6, "orderOf", "(I)I"⟩
abbrev cX6_kindOf : ByteArray := prog_1_method_13_code
def yX6_kindOf : MethodName := ⟨RX6, "kindOf", "(I)I"⟩
abbrev cX6_count : ByteArray := prog_1_method_14_code
def yX6_count : MethodName := ⟨RX6, "count", "(I)I"⟩
abbrev cX6_isAbelian : ByteArray := prog_1_method_15_code
def yX6_isAbelian : MethodName := ⟨RX6, "isAbelian", "()I"⟩
abbrev cX6_conjugacyClasses : ByteArray := prog_1_method_16_code
def yX6_conjugacyClasses : MethodName := ⟨RX6, "conjugacyClasses", "()I"⟩
abbrev cX6_linearParts : ByteArray := prog_1_method_17_code
def yX6_linearParts : MethodName := ⟨RX6, "linearParts", "()I"⟩
abbrev cX6_rotationOrder : ByteArray := prog_1_method_18_code
def yX6_rotationOrder : MethodName := ⟨RX6, "rotationOrder", "()I"⟩
abbrev cX6_mirrorDirections : ByteArray := prog_1_method_19_code
def yX6_mirrorDirections : MethodName := ⟨RX6, "mirrorDirections", "()I"⟩
abbrev cX6_isCentered : ByteArray := prog_1_method_20_code
def yX6_isCentered : MethodName := ⟨RX6, "isCentered", "()I"⟩
abbrev cX6_type : ByteArray := prog_1_method_21_code
def yX6_type : MethodName := ⟨RX6, "type", "()I"⟩
abbrev cX6_orbitSize : ByteArray := prog_1_method_22_code
def yX6_orbitSize : MethodName := ⟨RX6, "orbitSize", "(II)I"⟩
abbrev cX6_orbitFirst : ByteArray := prog_1_method_23_code
def yX6_orbitFirst : MethodName := ⟨RX6, "orbitFirst", "(II)I"⟩
abbrev cX6_stabilizerOrder : ByteArray := prog_1_method_24_code
def yX6_stabilizerOrder : MethodName := ⟨RX6, "stabilizerOrder", "(II)I"⟩
abbrev cX6_orbitCount : ByteArray := prog_1_method_25_code
def yX6_orbitCount : MethodName := ⟨RX6, "orbitCount", "()I"⟩
abbrev cX6_isSymmorphic : ByteArray := prog_1_method_26_code
def yX6_isSymmorphic : MethodName := ⟨RX6, "isSymmorphic", "()I"⟩
abbrev cX6_invariantColorings : ByteArray := prog_1_method_27_code
def yX6_invariantColorings : MethodName := ⟨RX6, "invariantColorings", "(I)J"⟩
abbrev cX6_coloringClasses : ByteArray := prog_1_method_28_code
def yX6_coloringClasses : MethodName := ⟨RX6, "coloringClasses", "(I)J"⟩
abbrev cX6_refresh : ByteArray := prog_1_method_29_code
def yX6_refresh : MethodName := ⟨RX6, "refresh", "()V"⟩
abbrev cX6_oneIf : ByteArray := prog_1_method_30_code
def yX6_oneIf : MethodName := ⟨RX6, "oneIf", "(Z)I"⟩
abbrev cX6_quotient : ByteArray := prog_1_method_31_code
def yX6_quotient : MethodName := ⟨RX6, "quotient", "(II)I"⟩
abbrev cX6_remainder : ByteArray := prog_1_method_32_code
def yX6_remainder : MethodName := ⟨RX6, "remainder", "(II)I"⟩
abbrev cX6_isInside : ByteArray := prog_1_method_33_code
def yX6_isInside : MethodName := ⟨RX6, "isInside", "(II)Z"⟩
abbrev cX6_clearMarks : ByteArray := prog_1_method_34_code
def yX6_clearMarks : MethodName := ⟨RX6, "clearMarks", "([Z)V"⟩
abbrev cX6_countMarks : ByteArray := prog_1_method_35_code
def yX6_countMarks : MethodName := ⟨RX6, "countMarks", "([Z)I"⟩
abbrev cX6_power : ByteArray := prog_1_method_36_code
def yX6_power : MethodName := ⟨RX6, "power", "(II)J"⟩
def RX7 : String := "WallpaperGroupsModel"
def TX7 : u_T := fun k => match k with
  | 0 => ("WallpaperGroupsModel", "now", "[I", true)
  | 1 => ("WallpaperGroupsModel", "history", "[I", true)
  | 2 => ("WallpaperGroupsModel", "edits", "I", false)
  | 3 => ("WallpaperGroupsModel", "parts", "I", false)
  | 4 => ("WallpaperGroupsModel", "entries", "[I", true)
  | 5 => ("WallpaperGroupsModel", "products", "[I", true)
  | 6 => ("WallpaperGroupsModel", "member", "[Z", true)
  | 7 => ("WallpaperGroupsModel", "elements", "[I", true)
  | _ => ("WallpaperGroupsModel", "order", "I", false)
def tyX7 : Nat → FieldType := fun k => match k with
  | 0 => .array .int
  | 1 => .array .int
  | 2 => .int
  | 3 => .int
  | 4 => .array .int
  | 5 => .array .int
  | 6 => .array .boolean
  | 7 => .array .int
  | _ => .int
abbrev wsX70 : List Cond := u_ws RX7 TX7 9
theorem nmX7 : ∀ a, a < 9 → ∀ b, b < 9 → a ≠ b → (TX7 a).2.1 ≠ (TX7 b).2.1 := by decide +kernel
theorem tyX7_ok : ∀ k, k < 9 → parseFieldDescriptor (TX7 k).2.2.1 = some (tyX7 k) := by decide +kernel
abbrev cX7_init : ByteArray := prog_9_method_1_code
def yX7_init : MethodName := ⟨RX7, "<init>", "()V"⟩
abbrev cX7_in : ByteArray := prog_9_method_2_code
def yX7_in : MethodName := ⟨RX7, "in", "(III)Z"⟩
abbrev cX7_entry : ByteArray := prog_9_method_3_code
def yX7_entry : MethodName := ⟨RX7, "entry", "(II)I"⟩
abbrev cX7_putProduct : ByteArray := prog_9_method_4_code
def yX7_putProduct : MethodName := ⟨RX7, "putProduct", "(III)V"⟩
abbrev cX7_putPart : ByteArray := prog_9_method_5_code
def yX7_putPart : MethodName := ⟨RX7, "putPart", "(IIIII)V"⟩
abbrev cX7_numberOfProduct : ByteArray := prog_9_method_6_code
def yX7_numberOfProduct : MethodName := ⟨RX7, "numberOfProduct", "(II)I"⟩
abbrev cX7_makeParts : ByteArray := prog_9_method_7_code
def yX7_makeParts : MethodName := ⟨RX7, "makeParts", "()V"⟩
abbrev cX7_isTurn : ByteArray := prog_9_method_8_code
def yX7_isTurn : MethodName := ⟨RX7, "isTurn", "(I)Z"⟩
abbrev cX7_orderOfPart : ByteArray := prog_9_method_9_code
def yX7_orderOfPart : MethodName := ⟨RX7, "orderOfPart", "(I)I"⟩
abbrev cX7_imageX : ByteArray := prog_9_method_10_code
def yX7_imageX : MethodName := ⟨RX7, "imageX", "(III)I"⟩
abbrev cX7_imageY : ByteArray := prog_9_method_11_code
def yX7_imageY : MethodName := ⟨RX7, "imageY", "(III)I"⟩
abbrev cX7_cells : ByteArray := prog_9_method_12_code
def yX7_cells : MethodName := ⟨RX7, "cells", "()I"⟩
abbrev cX7_partOf : ByteArray := prog_9_method_13_code
def yX7_partOf : MethodName := ⟨RX7, "partOf", "(I)I"⟩
abbrev cX7_uOf : ByteArray := prog_9_method_14_code
def yX7_uOf : MethodName := ⟨RX7, "uOf", "(I)I"⟩
abbrev cX7_vOf : ByteArray := prog_9_method_15_code
def yX7_vOf : MethodName := ⟨RX7, "vOf", "(I)I"⟩
abbrev cX7_modulo : ByteArray := prog_9_method_16_code
def yX7_modulo : MethodName := ⟨RX7, "modulo", "(I)I"⟩
abbrev cX7_codeOf : ByteArray := prog_9_method_17_code
def yX7_codeOf : MethodName := ⟨RX7, "codeOf", "(III)I"⟩
abbrev cX7_times : ByteArray := prog_9_method_18_code
def yX7_times : MethodName := ⟨RX7, "times", "(II)I"⟩
abbrev cX7_sends : ByteArray := prog_9_method_19_code
def yX7_sends : MethodName := ⟨RX7, "sends", "(II)I"⟩
abbrev cX7_isCode : ByteArray := prog_9_method_20_code
def yX7_isCode : MethodName := ⟨RX7, "isCode", "(I)Z"⟩
abbrev cX7_divisor : ByteArray := prog_9_method_21_code
def yX7_divisor : MethodName := ⟨RX7, "divisor", "(II)I"⟩
abbrev cX7_isReflection : ByteArray := prog_9_method_22_code
def yX7_isReflection : MethodName := ⟨RX7, "isReflection", "(I)Z"⟩
abbrev cX7_kindOfCode : ByteArray := prog_9_method_23_code
def yX7_kindOfCode : MethodName := ⟨RX7, "kindOfCode", "(I)I"⟩
abbrev cX7_addElement : ByteArray := prog_9_method_24_code
def yX7_addElement : MethodName := ⟨RX7, "addElement", "(I)V"⟩
abbrev cX7_derive : ByteArray := prog_9_method_25_code
def yX7_derive : MethodName := ⟨RX7, "derive", "()V"⟩
abbrev cX7_save : ByteArray := prog_9_method_26_code
def yX7_save : MethodName := ⟨RX7, "save", "()V"⟩
abbrev cX7_undo : ByteArray := prog_9_method_27_code
def yX7_undo : MethodName := ⟨RX7, "undo", "()I"⟩
abbrev cX7_setLattice : ByteArray := prog_9_method_28_code
def yX7_setLattice : MethodName := ⟨RX7, "setLattice", "(II)I"⟩
abbrev cX7_isMovement : ByteArray := prog_9_method_29_code
def yX7_isMovement : MethodName := ⟨RX7, "isMovement", "(III)Z"⟩
abbrev cX7_isGenerator : ByteArray := prog_9_method_30_code
def yX7_isGenerator : MethodName := ⟨RX7, "isGenerator", "(I)Z"⟩
abbrev cX7_addGenerator : ByteArray := prog_9_method_31_code
def yX7_addGenerator : MethodName := ⟨RX7, "addGenerator", "(III)I"⟩
abbrev cX7_removeGenerator : ByteArray := prog_9_method_32_code
def yX7_removeGenerator : MethodName := ⟨RX7, "removeGenerator", "(I)I"⟩
abbrev cX7_setGenerator : ByteArray := prog_9_method_33_code
def yX7_setGenerator : MethodName := ⟨RX7, "setGenerator", "(IIII)I"⟩
abbrev cX7_generator : ByteArray := prog_9_method_34_code
def yX7_generator : MethodName := ⟨RX7, "generator", "(I)I"⟩
abbrev cX7_order : ByteArray := prog_9_method_35_code
def yX7_order : MethodName := ⟨RX7, "order", "()I"⟩
abbrev cX7_element : ByteArray := prog_9_method_36_code
def yX7_element : MethodName := ⟨RX7, "element", "(I)I"⟩
abbrev cX7_contains : ByteArray := prog_9_method_37_code
def yX7_contains : MethodName := ⟨RX7, "contains", "(I)I"⟩
abbrev cX7_product : ByteArray := prog_9_method_38_code
def yX7_product : MethodName := ⟨RX7, "product", "(II)I"⟩
abbrev cX7_orderOf : ByteArray := prog_9_method_39_code
def yX7_orderOf : MethodName := ⟨RX7, "orderOf", "(I)I"⟩
abbrev cX7_kindOf : ByteArray := prog_9_method_40_code
def yX7_kindOf : MethodName := ⟨RX7, "kindOf", "(I)I"⟩
abbrev cX7_count : ByteArray := prog_9_method_41_code
def yX7_count : MethodName := ⟨RX7, "count", "(I)I"⟩
abbrev cX7_commutingPairs : ByteArray := prog_9_method_42_code
def yX7_commutingPairs : MethodName := ⟨RX7, "commutingPairs", "()I"⟩
abbrev cX7_isAbelian : ByteArray := prog_9_method_43_code
def yX7_isAbelian : MethodName := ⟨RX7, "isAbelian", "()I"⟩
abbrev cX7_conjugacyClasses : ByteArray := prog_9_method_44_code
def yX7_conjugacyClasses : MethodName := ⟨RX7, "conjugacyClasses", "()I"⟩
abbrev cX7_partSet : ByteArray := prog_9_method_45_code
def yX7_partSet : MethodName := ⟨RX7, "partSet", "(Z)I"⟩
abbrev cX7_ones : ByteArray := prog_9_method_46_code
def yX7_ones : MethodName := ⟨RX7, "ones", "(I)I"⟩
abbrev cX7_linearParts : ByteArray := prog_9_method_47_code
def yX7_linearParts : MethodName := ⟨RX7, "linearParts", "()I"⟩
abbrev cX7_greatestTurn : ByteArray := prog_9_method_48_code
def yX7_greatestTurn : MethodName := ⟨RX7, "greatestTurn", "()I"⟩
abbrev cX7_rotationOrder : ByteArray := prog_9_method_49_code
def yX7_rotationOrder : MethodName := ⟨RX7, "rotationOrder", "()I"⟩
abbrev cX7_directions : ByteArray := prog_9_method_50_code
def yX7_directions : MethodName := ⟨RX7, "directions", "()I"⟩
abbrev cX7_mirrorDirections : ByteArray := prog_9_method_51_code
def yX7_mirrorDirections : MethodName := ⟨RX7, "mirrorDirections", "()I"⟩
abbrev cX7_isLatticeVector : ByteArray := prog_9_method_52_code
def yX7_isLatticeVector : MethodName := ⟨RX7, "isLatticeVector", "(II)Z"⟩
abbrev cX7_isHalved : ByteArray := prog_9_method_53_code
def yX7_isHalved : MethodName := ⟨RX7, "isHalved", "(III)Z"⟩
abbrev cX7_isCenteredBy : ByteArray := prog_9_method_54_code
def yX7_isCenteredBy : MethodName := ⟨RX7, "isCenteredBy", "(I)Z"⟩
abbrev cX7_isCenteredNow : ByteArray := prog_9_method_55_code
def yX7_isCenteredNow : MethodName := ⟨RX7, "isCenteredNow", "()Z"⟩
abbrev cX7_isCentered : ByteArray := prog_9_method_56_code
def yX7_isCentered : MethodName := ⟨RX7, "isCentered", "()I"⟩
abbrev cX7_squared : ByteArray := prog_9_method_57_code
def yX7_squared : MethodName := ⟨RX7, "squared", "(II)I"⟩
abbrev cX7_leastSquared : ByteArray := prog_9_method_58_code
def yX7_leastSquared : MethodName := ⟨RX7, "leastSquared", "()I"⟩
abbrev cX7_isShortestFixed : ByteArray := prog_9_method_59_code
def yX7_isShortestFixed : MethodName := ⟨RX7, "isShortestFixed", "()Z"⟩
abbrev cX7_type : ByteArray := prog_9_method_60_code
def yX7_type : MethodName := ⟨RX7, "type", "()I"⟩
abbrev cX7_isCell : ByteArray := prog_9_method_61_code
def yX7_isCell : MethodName := ⟨RX7, "isCell", "(II)Z"⟩
abbrev cX7_orbit : ByteArray := prog_9_method_62_code
def yX7_orbit : MethodName := ⟨RX7, "orbit", "(I)I"⟩
abbrev cX7_many : ByteArray := prog_9_method_63_code
def yX7_many : MethodName := ⟨RX7, "many", "(I)I"⟩
abbrev cX7_first : ByteArray := prog_9_method_64_code
def yX7_first : MethodName := ⟨RX7, "first", "(I)I"⟩
abbrev cX7_orbitSize : ByteArray := prog_9_method_65_code
def yX7_orbitSize : MethodName := ⟨RX7, "orbitSize", "(II)I"⟩
abbrev cX7_orbitFirst : ByteArray := prog_9_method_66_code
def yX7_orbitFirst : MethodName := ⟨RX7, "orbitFirst", "(II)I"⟩
abbrev cX7_stabilizer : ByteArray := prog_9_method_67_code
def yX7_stabilizer : MethodName := ⟨RX7, "stabilizer", "(I)I"⟩
abbrev cX7_stabilizerOrder : ByteArray := prog_9_method_68_code
def yX7_stabilizerOrder : MethodName := ⟨RX7, "stabilizerOrder", "(II)I"⟩
abbrev cX7_orbits : ByteArray := prog_9_method_69_code
def yX7_orbits : MethodName := ⟨RX7, "orbits", "()I"⟩
abbrev cX7_orbitCount : ByteArray := prog_9_method_70_code
def yX7_orbitCount : MethodName := ⟨RX7, "orbitCount", "()I"⟩
abbrev cX7_isSymmorphic : ByteArray := prog_9_method_71_code
def yX7_isSymmorphic : MethodName := ⟨RX7, "isSymmorphic", "()I"⟩
abbrev cX7_power : ByteArray := prog_9_method_72_code
def yX7_power : MethodName := ⟨RX7, "power", "(II)J"⟩
abbrev cX7_invariantColorings : ByteArray := prog_9_method_73_code
def yX7_invariantColorings : MethodName := ⟨RX7, "invariantColorings", "(I)J"⟩
abbrev cX7_cycles : ByteArray := prog_9_method_74_code
def yX7_cycles : MethodName := ⟨RX7, "cycles", "(I)I"⟩
abbrev cX7_coloringClasses : ByteArray := prog_9_method_75_code
def yX7_coloringClasses : MethodName := ⟨RX7, "coloringClasses", "(I)J"⟩
def RJ9 : String := "java/lang/Math"
abbrev cJ9_floorMod_7cf53 : ByteArray := prog_10_method_50_code
def yJ9_floorMod_7cf53 : MethodName := ⟨RJ9, "floorMod", "(II)I"⟩
abbrev cJ9_max_7cf53 : ByteArray := prog_10_method_65_code
def yJ9_max_7cf53 : MethodName := ⟨RJ9, "max", "(II)I"⟩
end
section
/-! THE ENGINE: a judgement J over pure cells (ints as Int at abstract addresses), derived from the kit's rows; its rows need no world, no room, no frame. -/
-- whole numbers and the machine's
def i3 (z : Int) : Int32 := Int32.ofInt z
def i6 (z : Int) : Int64 := Int64.ofInt z
def inR (z : Int) : Prop := -2147483648 ≤ z ∧ z < 2147483648
theorem i3_toInt {z : Int} (h : inR z) : (i3 z).toInt = z := by
  unfold i3
  rw [Int32.toInt_ofInt]
  have h1 := h.1
  have h2 := h.2
  have hs : (Int32.size : Int) = 4294967296 := rfl
  rw [Int.bmod_def, hs]
  omega
theorem i3_add (a b : Int) : i3 a + i3 b = i3 (a + b) := (Int32.ofInt_add ..).symm
theorem i3_sub (a b : Int) : i3 a - i3 b = i3 (a - b) := (Int32.ofInt_sub ..).symm
theorem i3_mul (a b : Int) : i3 a * i3 b = i3 (a * b) := (Int32.ofInt_mul ..).symm
theorem i3_neg (a : Int) : - i3 a = i3 (- a) := (Int32.ofInt_neg ..).symm
theorem i6_add (a b : Int) : i6 a + i6 b = i6 (a + b) := (Int64.ofInt_add ..).symm
theorem i6_mul (a b : Int) : i6 a * i6 b = i6 (a * b) := (Int64.ofInt_mul ..).symm
theorem i3_inj {a b : Int} (ha : inR a) (hb : inR b) : i3 a = i3 b ↔ a = b := by
  constructor
  · intro h
    have := congrArg Int32.toInt h
    rwa [i3_toInt ha, i3_toInt hb] at this
  · intro h; rw [h]
theorem i3_lt {a b : Int} (ha : inR a) (hb : inR b) : i3 a < i3 b ↔ a < b := by
  rw [Int32.lt_iff_toInt_lt, i3_toInt ha, i3_toInt hb]
theorem i3_le {a b : Int} (ha : inR a) (hb : inR b) : i3 a ≤ i3 b ↔ a ≤ b := by
  rw [Int32.le_iff_toInt_le, i3_toInt ha, i3_toInt hb]
theorem i3_zero : i3 0 = 0 := rfl
theorem inR0 : inR 0 := ⟨by decide, by decide⟩
theorem i3_eq0 {a : Int} (ha : inR a) : i3 a = 0 ↔ a = 0 := i3_inj ha inR0
theorem i3_of (x : Int32) : i3 x.toInt = x := by
  unfold i3
  exact Int32.ofInt_toInt x
theorem inR_of (x : Int32) : inR x.toInt := ⟨Int32.le_toInt x, Int32.toInt_lt x⟩
theorem i3_clamp {z : Int} (h : inR z) (h0 : 0 ≤ z) : (i3 z).toNatClampNeg = z.toNat := by
  rw [← Int32.toNat_toInt, i3_toInt h]
theorem i3_div {a b : Int} (ha : inR a) (hb : inR b) (hb0 : 0 < b) : i3 a / i3 b = i3 (a.tdiv b) := by
  apply Int32.toInt_inj.mp
  have h1 : inR (a.tdiv b) := by
    have := Int.natAbs_tdiv_le_natAbs a b
    have := ha.1
    have := ha.2
    rcases Int.le_total 0 a with h | h
    · have := Int.tdiv_nonneg h (Int.le_of_lt hb0)
      constructor <;> omega
    · have h4 := Int.tdiv_nonneg (show 0 ≤ -a by omega) (Int.le_of_lt hb0)
      rw [Int.neg_tdiv] at h4
      constructor <;> omega
  rw [Int32.toInt_div, i3_toInt ha, i3_toInt hb, i3_toInt h1, Int.bmod_def]
  have := h1.1
  have := h1.2
  omega
theorem i3_mod {a b : Int} (ha : inR a) (hb : inR b) (hb0 : 0 < b) : i3 a - i3 a / i3 b * i3 b = i3 (a.tmod b) := by
  rw [i3_div ha hb hb0, i3_mul, i3_sub]
  congr 1
  have := Int.tmod_add_tdiv_mul a b
  omega
theorem i3_ne0 {b : Int} (hb : inR b) (hb0 : 0 < b) : ¬ i3 b = 0 := by
  rw [i3_eq0 hb]; omega
-- values
abbrev PV : Type := Int ⊕ Int ⊕ Nat
abbrev vI (z : Int) : PV := .inl z
abbrev vL (z : Int) : PV := .inr (.inl z)
abbrev vR (k : Nat) : PV := .inr (.inr k)
abbrev Mem : Type := Nat → Int → Int
def rv (ad : Nat → Nat) : PV → Value
  | .inl z => .int (i3 z)
  | .inr (.inl z) => .long (i6 z)
  | .inr (.inr k) => .ref (ad k)
def wr (M : Mem) (a : Nat) (i x : Int) : Mem := fun b j => if b = a ∧ j = i then x else M b j
theorem wr_self (M : Mem) (a : Nat) (i x : Int) : wr M a i x a i = x := by simp [wr]
theorem wr_ne (M : Mem) {a b : Nat} {i j : Int} (x : Int) (h : ¬ (b = a ∧ j = i)) : wr M a i x b j = M b j := by simp [wr, h]
-- shapes: tag 0 int[], 1 boolean[], 2 int[][] (its rows), t+3 an object of class t (none: an int, some: a reference that stays)
abbrev Shp : Type := Nat × Nat × List (Option Nat)
def wF (ad : Nat → Nat) (SH : List Shp) : Nat → Prop := fun q => ∃ k, k < SH.length ∧ ad k = q
def clW : List vw_C := [(RX0, TX0, 10), (RX1, TX1, 5), (RX2, TX2, 2), (RX3, TX3, 8), (RX4, TX4, 2), (RX5, TX5, 2), (RX6, TX6, 6), (RX7, TX7, 9)]
def wfld (ad : Nat → Nat) (M : Mem) (a : Nat) (k : Nat) (r : Option Nat) : Value := match r with
  | none => .int (i3 (M a k))
  | some q => .ref (ad q)
def wE (ad : Nat → Nat) (cI cZ cA : ClassId) (M : Mem) (a : Nat) (s : Shp) : va_E := match s.1 with
  | 0 => .inl (cI, s.2.1, .inl (fun j => i3 (M a j)))
  | 1 => .inl (cZ, s.2.1, .inl (fun j => i3 (M a j)))
  | 2 => .inl (cA, s.2.1, .inr (.inr (.inr (.inr (fun j => (s.2.2.getD j none).map ad)))))
  | t + 3 => .inr (t, s.2.2.mapIdx (fun k r => wfld ad M a k r))
def wW (ad : Nat → Nat) (cI cZ cA : ClassId) (SH : List Shp) (M : Mem) : va_W := SH.mapIdx (fun a s => (ad a, wE ad cI cZ cA M a s))
theorem wW_get {ad : Nat → Nat} {cI cZ cA : ClassId} {SH : List Shp} {M : Mem} {a : Nat} {s : Shp} (h : SH[a]? = some s) : (wW ad cI cZ cA SH M)[a]? = some (ad a, wE ad cI cZ cA M a s) := by
  simp [wW, h]
theorem wW_get' {ad : Nat → Nat} {cI cZ cA : ClassId} {SH : List Shp} {M : Mem} {a : Nat} {q : Nat × va_E} (h : (wW ad cI cZ cA SH M)[a]? = some q) : ∃ s, SH[a]? = some s ∧ q = (ad a, wE ad cI cZ cA M a s) := by
  simp only [wW, List.getElem?_mapIdx, Option.map_eq_some_iff] at h
  obtain ⟨s, h1, h2⟩ := h
  exact ⟨s, h1, h2.symm⟩
theorem wW_D {ad : Nat → Nat} {cI cZ cA : ClassId} {SH : List Shp} {M : Mem} (hi : ∀ i j, i < SH.length → j < SH.length → ad i = ad j → i = j) : va_D (wF ad SH) (wW ad cI cZ cA SH M) := by
  constructor
  · intro i j p q h1 h2 h3
    obtain ⟨s1, a1, rfl⟩ := wW_get' h1
    obtain ⟨s2, a2, rfl⟩ := wW_get' h2
    exact hi i j (List.getElem?_eq_some_iff.mp a1).1 (List.getElem?_eq_some_iff.mp a2).1 h3
  · intro k q h
    obtain ⟨s, a1, rfl⟩ := wW_get' h
    exact ⟨k, (List.getElem?_eq_some_iff.mp a1).1, rfl⟩
/-- one cell is set: the others' entries don't look at it -/
theorem wW_set {ad : Nat → Nat} {cI cZ cA : ClassId} {SH : List Shp} {M : Mem} {a : Nat} {s : Shp} {i x : Int} (h : SH[a]? = some s) : (wW ad cI cZ cA SH M).set a (ad a, wE ad cI cZ cA (wr M a i x) a s) = wW ad cI cZ cA SH (wr M a i x) := by
  apply List.ext_getElem?
  intro k
  by_cases hk : k = a
  · subst hk
    rw [List.getElem?_set_self (by rw [wW, List.length_mapIdx]; exact (List.getElem?_eq_some_iff.mp h).1), wW_get h]
  · rw [List.getElem?_set_ne (Ne.symm hk)]
    simp only [wW, List.getElem?_mapIdx]
    cases hs : SH[k]? with
    | none => rfl
    | some t =>
      simp only [Option.map_some]
      congr 2
      obtain ⟨t1, t2, t3⟩ := t
      match t1 with
      | 0 => simp [wE, wr, hk]
      | 1 => simp [wE, wr, hk]
      | 2 => simp [wE]
      | u + 3 =>
        simp only [wE]
        congr 3
        funext k2 r
        cases r <;> simp [wfld, wr, hk]
-- static tables of the lattice
def tSQ : List Int := [1, 0, 0, 1, 0, -1, 1, 0, -1, 0, 0, -1, 0, 1, -1, 0, 1, 0, 0, -1, 0, 1, 1, 0, -1, 0, 0, 1, 0, -1, -1, 0]
def tHX : List Int := [1, 0, 0, 1, 0, -1, 1, 1, -1, -1, 1, 0, -1, 0, 0, -1, 0, 1, -1, -1, 1, 1, -1, 0, 0, 1, 1, 0, -1, 0, 1, 1, -1, -1, 0, 1, 0, -1, -1, 0, 1, 0, -1, -1, 1, 1, 0, -1]
/-- calls of nest mates' private static methods: their link words are carried with the cells -/
def nestL : List (String × Nat × MethodName) := [(RX3, 55, yX6_clearMarks), (RX3, 37, yX6_isInside), (RX2, 19, yX6_isInside), (RX5, 42, yX6_quotient), (RX5, 45, yX6_remainder), (RX5, 28, yX6_isInside), (RX1, 30, yX6_clearMarks), (RX1, 56, yX6_isInside), (RX0, 40, yX6_clearMarks), (RX0, 77, yX6_isInside), (RX4, 23, yX6_isInside), (RX1, 60, yX6_countMarks), (RX0, 88, yX6_quotient), (RX0, 100, yX6_power)]
def wN (U : State) : Prop := ∀ q ∈ nestL, va_Nw (.methodLinkNest q.1 q.2.1 q.2.2 "WallpaperGroups") U
def wT (ad : Nat → Nat) (A : Nat → Prop) (U : State) (H : Heap) : Prop :=
  va_Z RX5 "SQUARE_PARTS" "[I" (.ref (ad 1000)) A U H ∧ va_T .int (ad 1000) 32 (fun j => .int (i3 (tSQ.getD j 0))) A U H ∧
  va_Z RX5 "HEXAGONAL_PARTS" "[I" (.ref (ad 1001)) A U H ∧ va_T .int (ad 1001) 48 (fun j => .int (i3 (tHX.getD j 0))) A U H ∧ wN U
/-- the tables' words that any later state keeps -/
def wTbl : List Cond := lw_tbl.filter goodWord
theorem wTbl_p {w : Cond} (h : w ∈ tables_1) (hg : goodWord w = true) : w ∈ wTbl := List.mem_filter.mpr ⟨List.mem_append_right _ h, hg⟩
theorem wTbl_1 {w : Cond} (i : Nat) (h0 : tables_1_1[i]? = some w) (hg : goodWord w = true) : w ∈ wTbl := wTbl_p (by have h := List.mem_of_getElem? h0; exact List.mem_append_left _ h) hg
theorem wTbl_2 {w : Cond} (i : Nat) (h0 : tables_1_2[i]? = some w) (hg : goodWord w = true) : w ∈ wTbl := wTbl_p (by have h := List.mem_of_getElem? h0; exact List.mem_append_right _ (List.mem_append_left _ h)) hg
theorem wTbl_3 {w : Cond} (i : Nat) (h0 : tables_1_3[i]? = some w) (hg : goodWord w = true) : w ∈ wTbl := wTbl_p (by have h := List.mem_of_getElem? h0; exact List.mem_append_right _ (List.mem_append_right _ (List.mem_append_left _ h))) hg
theorem wTbl_4 {w : Cond} (i : Nat) (h0 : tables_1_4[i]? = some w) (hg : goodWord w = true) : w ∈ wTbl := wTbl_p (by have h := List.mem_of_getElem? h0; exact List.mem_append_right _ (List.mem_append_right _ (List.mem_append_right _ (List.mem_append_left _ h)))) hg
theorem wTbl_5 {w : Cond} (i : Nat) (h0 : tables_1_5[i]? = some w) (hg : goodWord w = true) : w ∈ wTbl := wTbl_p (by have h := List.mem_of_getElem? h0; exact List.mem_append_right _ (List.mem_append_right _ (List.mem_append_right _ (List.mem_append_right _ h)))) hg
theorem wTbl_s {y : MethodName} (i : Nat) {n : Nat} (h : lw_privs[i]? = some (y, n)) : Cond.selects y.cls y y ∈ wTbl := List.mem_filter.mpr ⟨List.mem_append_left _ (List.mem_map.mpr ⟨(y, n), List.mem_of_getElem? h, rfl⟩), rfl⟩
abbrev MI : Type := MethodName × ByteArray × Nat × Option FieldType × Nat
def mW (mi : MI) : List Cond := .code mi.1 mi.2.1 mi.2.2.1 mi.2.2.2.1 :: wTbl
def mRm (mi : MI) : Room := { frames := mi.2.2.2.2, cells := 0, slots := 0, locals := 32 * mi.2.2.2.2 }
abbrev wTy (cI cZ cA : ClassId) : List (ClassId × FieldType) := [(cI, .int), (cZ, .boolean), (cA, .array .int)]
def wC (ad : Nat → Nat) (D : va_G) (cI cZ cA : ClassId) (SH : List Shp) (U : State) : Prop :=
  (∀ i j, i < SH.length → j < SH.length → ad i = ad j → i = j) ∧ va_K D clW (wTy cI cZ cA) U ∧ wT ad (wF ad SH) U U.heap
def wL (ad : Nat → Nat) (ls : Array Slot) (nL : Nat) (L : List (Option PV)) : Prop := ls.size = nL ∧ lv_wf ls ∧ L.length = nL ∧ ∀ (i : Nat) (v : PV), L[i]? = some (some v) → ls[i]? = some (.val (rv ad v))
def jQ (ad : Nat → Nat) (D : va_G) (cI cZ cA : ClassId) (SH : List Shp) (Q : Option PV → Mem → Prop) : Array Value → State → Outcome → State → Prop := fun _ st oc t =>
  (∃ (v : Option PV) (M : Mem), oc = .returned (v.map (rv ad)) ∧ Q v M ∧ va_P D clW (wW ad cI cZ cA SH M) t.heap) ∧ va_F (wF ad SH) st t
def jX (mi : MI) (ad : Nat → Nat) (D : va_G) (cI cZ cA : ClassId) (SH : List Shp) (p : Program) (s : State) (m : MethodId) (args : Array Value) (meth : Method) (c : Code) : Prop :=
  p.tables.exec = Jvm.exec ∧ c.code = mi.2.1 ∧ meth.sig.returnType = mi.2.2.2.1 ∧ c.maxLocals = mi.2.2.1 ∧ s.vm.findClass mi.1.cls = some m.cls ∧ meth.locks = false ∧ (∀ w ∈ mW mi, w.before args s = true) ∧ wC ad D cI cZ cA SH s
/-- from here the method comes to its end: with an answer v and cells M that Q allows -/
def J (SH : List Shp) (mi : MI) (pc : Nat) (L : List (Option PV)) (st : List PV) (M : Mem) (Q : Option PV → Mem → Prop) : Prop :=
  ∀ (ad : Nat → Nat) (D : va_G) (cI cZ cA : ClassId) (l : Launch) (p : Program) (e : Env) (s : State) (m : MethodId) (args : Array Value) (below : List Frame) (meth : Method) (c : Code), jX mi ad D cI cZ cA SH p s m args meth c →
    ∀ (H : Heap) (locs : List Loc) (ls : Array Slot), wL ad ls mi.2.2.1 L → va_P D clW (wW ad cI cZ cA SH M) H → va_S (wF ad SH) s.heap H locs →
    W p l e (mRm mi) s m args below meth c H locs 0 0 (MQ below (jQ ad D cI cZ cA SH Q) args s 0 0 (wF ad SH)) (F0 m pc ls (st.map (rv ad)))
section JR
variable {SH : List Shp} {mi : MI} {pc : Nat} {L : List (Option PV)} {st : List PV} {M : Mem} {Q : Option PV → Mem → Prop} {a b : Int}
theorem j_iadd (hd : decode mi.2.1 pc = .ok (.iadd, 1)) (k : J SH mi (pc + 1) L (vI (a + b) :: st) M Q) : J SH mi pc L (vI b :: vI a :: st) M Q := by
  intro ad D cI cZ cA l p e s m args below meth c h H locs ls hl hP hS
  have K := k ad D cI cZ cA l p e s m args below meth c h H locs ls hl hP hS
  refine lv_iadd (x := i3 a) (y := i3 b) h.1 h.2.1 hd ?_
  rw [i3_add]
  exact K
theorem j_isub (hd : decode mi.2.1 pc = .ok (.isub, 1)) (k : J SH mi (pc + 1) L (vI (a - b) :: st) M Q) : J SH mi pc L (vI b :: vI a :: st) M Q := by
  intro ad D cI cZ cA l p e s m args below meth c h H locs ls hl hP hS
  have K := k ad D cI cZ cA l p e s m args below meth c h H locs ls hl hP hS
  refine lv_isub (x := i3 a) (y := i3 b) h.1 h.2.1 hd ?_
  rw [i3_sub]
  exact K
theorem j_imul (hd : decode mi.2.1 pc = .ok (.imul, 1)) (k : J SH mi (pc + 1) L (vI (a * b) :: st) M Q) : J SH mi pc L (vI b :: vI a :: st) M Q := by
  intro ad D cI cZ cA l p e s m args below meth c h H locs ls hl hP hS
  have K := k ad D cI cZ cA l p e s m args below meth c h H locs ls hl hP hS
  refine lv_imul (x := i3 a) (y := i3 b) h.1 h.2.1 hd ?_
  rw [i3_mul]
  exact K
theorem j_ineg (hd : decode mi.2.1 pc = .ok (.ineg, 1)) (k : J SH mi (pc + 1) L (vI (-a) :: st) M Q) : J SH mi pc L (vI a :: st) M Q := by
  intro ad D cI cZ cA l p e s m args below meth c h H locs ls hl hP hS
  have K := k ad D cI cZ cA l p e s m args below meth c h H locs ls hl hP hS
  refine lv_ineg (x := i3 a) h.1 h.2.1 hd ?_
  rw [i3_neg]
  exact K
theorem j_idiv (hd : decode mi.2.1 pc = .ok (.idiv, 1)) (ha : inR a) (hb : inR b) (hb0 : 0 < b) (k : J SH mi (pc + 1) L (vI (a.tdiv b) :: st) M Q) : J SH mi pc L (vI b :: vI a :: st) M Q := by
  intro ad D cI cZ cA l p e s m args below meth c h H locs ls hl hP hS
  have K := k ad D cI cZ cA l p e s m args below meth c h H locs ls hl hP hS
  refine lv_idiv (x := i3 a) (y := i3 b) h.1 h.2.1 hd (i3_ne0 hb hb0) ?_
  rw [i3_div ha hb hb0]
  exact K
theorem j_irem (hd : decode mi.2.1 pc = .ok (.irem, 1)) (ha : inR a) (hb : inR b) (hb0 : 0 < b) (k : J SH mi (pc + 1) L (vI (a.tmod b) :: st) M Q) : J SH mi pc L (vI b :: vI a :: st) M Q := by
  intro ad D cI cZ cA l p e s m args below meth c h H locs ls hl hP hS
  have K := k ad D cI cZ cA l p e s m args below meth c h H locs ls hl hP hS
  refine lv_irem (x := i3 a) (y := i3 b) h.1 h.2.1 hd (i3_ne0 hb hb0) ?_
  rw [i3_mod ha hb hb0]
  exact K
/-- a row whose answer is any int32: bits -/
theorem j_iand (hd : decode mi.2.1 pc = .ok (.iand, 1)) {z : Int} (hz : i3 a &&& i3 b = i3 z) (k : J SH mi (pc + 1) L (vI z :: st) M Q) : J SH mi pc L (vI b :: vI a :: st) M Q := by
  intro ad D cI cZ cA l p e s m args below meth c h H locs ls hl hP hS
  have K := k ad D cI cZ cA l p e s m args below meth c h H locs ls hl hP hS
  refine lv_iand (x := i3 a) (y := i3 b) h.1 h.2.1 hd ?_
  rw [hz]
  exact K
theorem j_ior (hd : decode mi.2.1 pc = .ok (.ior, 1)) {z : Int} (hz : i3 a ||| i3 b = i3 z) (k : J SH mi (pc + 1) L (vI z :: st) M Q) : J SH mi pc L (vI b :: vI a :: st) M Q := by
  intro ad D cI cZ cA l p e s m args below meth c h H locs ls hl hP hS
  have K := k ad D cI cZ cA l p e s m args below meth c h H locs ls hl hP hS
  refine lv_ior (x := i3 a) (y := i3 b) h.1 h.2.1 hd ?_
  rw [hz]
  exact K
theorem j_ixor (hd : decode mi.2.1 pc = .ok (.ixor, 1)) {z : Int} (hz : i3 a ^^^ i3 b = i3 z) (k : J SH mi (pc + 1) L (vI z :: st) M Q) : J SH mi pc L (vI b :: vI a :: st) M Q := by
  intro ad D cI cZ cA l p e s m args below meth c h H locs ls hl hP hS
  have K := k ad D cI cZ cA l p e s m args below meth c h H locs ls hl hP hS
  refine lv_ixor (x := i3 a) (y := i3 b) h.1 h.2.1 hd ?_
  rw [hz]
  exact K
theorem j_ishl (hd : decode mi.2.1 pc = .ok (.ishl, 1)) {z : Int} (hz : i3 a <<< (i3 b &&& 31) = i3 z) (k : J SH mi (pc + 1) L (vI z :: st) M Q) : J SH mi pc L (vI b :: vI a :: st) M Q := by
  intro ad D cI cZ cA l p e s m args below meth c h H locs ls hl hP hS
  have K := k ad D cI cZ cA l p e s m args below meth c h H locs ls hl hP hS
  refine lv_ishl (x := i3 a) (y := i3 b) h.1 h.2.1 hd ?_
  rw [hz]
  exact K
theorem j_ishr (hd : decode mi.2.1 pc = .ok (.ishr, 1)) {z : Int} (hz : i3 a >>> (i3 b &&& 31) = i3 z) (k : J SH mi (pc + 1) L (vI z :: st) M Q) : J SH mi pc L (vI b :: vI a :: st) M Q := by
  intro ad D cI cZ cA l p e s m args below meth c h H locs ls hl hP hS
  have K := k ad D cI cZ cA l p e s m args below meth c h H locs ls hl hP hS
  refine lv_ishr (x := i3 a) (y := i3 b) h.1 h.2.1 hd ?_
  rw [hz]
  exact K
theorem j_ladd (hd : decode mi.2.1 pc = .ok (.ladd, 1)) (k : J SH mi (pc + 1) L (vL (a + b) :: st) M Q) : J SH mi pc L (vL b :: vL a :: st) M Q := by
  intro ad D cI cZ cA l p e s m args below meth c h H locs ls hl hP hS
  have K := k ad D cI cZ cA l p e s m args below meth c h H locs ls hl hP hS
  refine lv_ladd (x := i6 a) (y := i6 b) h.1 h.2.1 hd ?_
  rw [i6_add]
  exact K
theorem j_lmul (hd : decode mi.2.1 pc = .ok (.lmul, 1)) (k : J SH mi (pc + 1) L (vL (a * b) :: st) M Q) : J SH mi pc L (vL b :: vL a :: st) M Q := by
  intro ad D cI cZ cA l p e s m args below meth c h H locs ls hl hP hS
  have K := k ad D cI cZ cA l p e s m args below meth c h H locs ls hl hP hS
  refine lv_lmul (x := i6 a) (y := i6 b) h.1 h.2.1 hd ?_
  rw [i6_mul]
  exact K
theorem j_ldiv (hd : decode mi.2.1 pc = .ok (.ldiv, 1)) (hb : ¬ i6 b = 0) {z : Int} (hz : i6 a / i6 b = i6 z) (k : J SH mi (pc + 1) L (vL z :: st) M Q) : J SH mi pc L (vL b :: vL a :: st) M Q := by
  intro ad D cI cZ cA l p e s m args below meth c h H locs ls hl hP hS
  have K := k ad D cI cZ cA l p e s m args below meth c h H locs ls hl hP hS
  refine lv_ldiv (x := i6 a) (y := i6 b) h.1 h.2.1 hd hb ?_
  rw [hz]
  exact K
theorem j_i2l (hd : decode mi.2.1 pc = .ok (.i2l, 1)) (ha : inR a) (k : J SH mi (pc + 1) L (vL a :: st) M Q) : J SH mi pc L (vI a :: st) M Q := by
  intro ad D cI cZ cA l p e s m args below meth c h H locs ls hl hP hS
  have K := k ad D cI cZ cA l p e s m args below meth c h H locs ls hl hP hS
  refine lv_i2l (x := i3 a) (v := i6 a) h.1 h.2.1 hd ?_ K
  show Int64.ofInt (i3 a).toInt = i6 a
  rw [i3_toInt ha]
  rfl
theorem j_iconst {n : Int} (hd : decode mi.2.1 pc = .ok (.iconst n, 1)) (k : J SH mi (pc + 1) L (vI n :: st) M Q) : J SH mi pc L st M Q := by
  intro ad D cI cZ cA l p e s m args below meth c h H locs ls hl hP hS
  exact lv_iconst (v := i3 n) h.1 h.2.1 hd rfl (k ad D cI cZ cA l p e s m args below meth c h H locs ls hl hP hS)
theorem j_bipush {n : Int} (hd : decode mi.2.1 pc = .ok (.bipush n, 2)) (hn : (Int8.ofInt n).toInt32 = i3 n) (k : J SH mi (pc + 2) L (vI n :: st) M Q) : J SH mi pc L st M Q := by
  intro ad D cI cZ cA l p e s m args below meth c h H locs ls hl hP hS
  exact lv_bipush (v := i3 n) h.1 h.2.1 hd hn (k ad D cI cZ cA l p e s m args below meth c h H locs ls hl hP hS)
theorem j_sipush {n : Int} (hd : decode mi.2.1 pc = .ok (.sipush n, 3)) (hn : (Int16.ofInt n).toInt32 = i3 n) (k : J SH mi (pc + 3) L (vI n :: st) M Q) : J SH mi pc L st M Q := by
  intro ad D cI cZ cA l p e s m args below meth c h H locs ls hl hP hS
  exact lv_sipush (v := i3 n) h.1 h.2.1 hd hn (k ad D cI cZ cA l p e s m args below meth c h H locs ls hl hP hS)
theorem j_lconst {n : Fin 2} (hd : decode mi.2.1 pc = .ok (.lconst n, 1)) {z : Int} (hz : Int64.ofNat (n : Nat) = i6 z) (k : J SH mi (pc + 1) L (vL z :: st) M Q) : J SH mi pc L st M Q := by
  intro ad D cI cZ cA l p e s m args below meth c h H locs ls hl hP hS
  exact lv_lconst (v := i6 z) h.1 h.2.1 hd hz (k ad D cI cZ cA l p e s m args below meth c h H locs ls hl hP hS)
theorem j_ldc2 {index : Nat} {z : Int} {v : Int64} (hw : Cond.constantLong mi.1.cls index v ∈ wTbl) (hz : v = i6 z) (hd : decode mi.2.1 pc = .ok (.ldc2_w index, 3)) (k : J SH mi (pc + 3) L (vL z :: st) M Q) : J SH mi pc L st M Q := by
  intro ad D cI cZ cA l p e s m args below meth c h H locs ls hl hP hS
  subst hz
  exact lv_ldc2 h.1 h.2.1 h.2.2.2.2.1 (h.2.2.2.2.2.2.1 _ (List.mem_cons_of_mem _ hw)) hd (k ad D cI cZ cA l p e s m args below meth c h H locs ls hl hP hS)
theorem j_iload_n {i : Fin 4} (hd : decode mi.2.1 pc = .ok (.iload_n i, 1)) (hL : L[(i : Nat)]? = some (some (vI a))) (k : J SH mi (pc + 1) L (vI a :: st) M Q) : J SH mi pc L st M Q := by
  intro ad D cI cZ cA l p e s m args below meth c h H locs ls hl hP hS
  exact lv_iload_n (x := i3 a) h.1 h.2.1 hd rfl (hl.2.2.2 _ _ hL) (k ad D cI cZ cA l p e s m args below meth c h H locs ls hl hP hS)
theorem j_iload {i : Nat} (hd : decode mi.2.1 pc = .ok (.iload i, 2)) (hL : L[i]? = some (some (vI a))) (k : J SH mi (pc + 2) L (vI a :: st) M Q) : J SH mi pc L st M Q := by
  intro ad D cI cZ cA l p e s m args below meth c h H locs ls hl hP hS
  exact lv_iload (x := i3 a) h.1 h.2.1 hd (hl.2.2.2 _ _ hL) (k ad D cI cZ cA l p e s m args below meth c h H locs ls hl hP hS)
theorem j_lload_n {i : Fin 4} (hd : decode mi.2.1 pc = .ok (.lload_n i, 1)) (hL : L[(i : Nat)]? = some (some (vL a))) (k : J SH mi (pc + 1) L (vL a :: st) M Q) : J SH mi pc L st M Q := by
  intro ad D cI cZ cA l p e s m args below meth c h H locs ls hl hP hS
  exact lv_lload_n (x := i6 a) h.1 h.2.1 hd rfl (hl.2.2.2 _ _ hL) (k ad D cI cZ cA l p e s m args below meth c h H locs ls hl hP hS)
theorem j_aload_n {i : Fin 4} {r : Nat} (hd : decode mi.2.1 pc = .ok (.aload_n i, 1)) (hL : L[(i : Nat)]? = some (some (vR r))) (k : J SH mi (pc + 1) L (vR r :: st) M Q) : J SH mi pc L st M Q := by
  intro ad D cI cZ cA l p e s m args below meth c h H locs ls hl hP hS
  exact lv_aload_n (x := ad r) h.1 h.2.1 hd rfl (hl.2.2.2 _ _ hL) (k ad D cI cZ cA l p e s m args below meth c h H locs ls hl hP hS)
-- stores
def wPairs (ad : Nat → Nat) (L : List (Option PV)) : List (Nat × Value) := (List.range L.length).filterMap (fun i => ((L[i]?).join).map (fun v => (i, rv ad v)))
theorem wPairs_mem {ad : Nat → Nat} {L : List (Option PV)} {q : Nat × Value} : q ∈ wPairs ad L ↔ ∃ v, L[q.1]? = some (some v) ∧ q.2 = rv ad v := by
  unfold wPairs
  rw [List.mem_filterMap]
  constructor
  · rintro ⟨i, -, h⟩
    rw [Option.map_eq_some_iff] at h
    obtain ⟨v, h1, rfl⟩ := h
    exact ⟨v, by cases h2 : L[i]? with
      | none => rw [h2] at h1; cases h1
      | some o => rw [h2] at h1; simp at h1; rw [h1], rfl⟩
  · rintro ⟨v, h1, h2⟩
    refine ⟨q.1, List.mem_range.mpr (List.getElem?_eq_some_iff.mp h1).1, ?_⟩
    rw [h1]
    simp [← h2]
theorem wL_has {ad : Nat → Nat} {ls : Array Slot} {nL : Nat} (h : wL ad ls nL L) : lv_has ls nL (wPairs ad L) := by
  refine ⟨h.1, h.2.1, fun q hq => ?_⟩
  obtain ⟨v, h1, h2⟩ := wPairs_mem.mp hq
  rw [h2]
  exact h.2.2.2 _ _ h1
/-- no long stands just below place i -/
def noL (L : List (Option PV)) (i : Nat) : Prop := ∀ j z, j + 1 = i → L[j]? ≠ some (some (vL z))
theorem rv_cat2 {ad : Nat → Nat} {v : PV} (h : ¬ ∃ z, v = vL z) : (rv ad v).category = 1 := by
  match v, h with
  | .inl z, _ => rfl
  | .inr (.inl z), h => exact absurd ⟨z, rfl⟩ h
  | .inr (.inr z), _ => rfl
theorem wL_set1 {ad : Nat → Nat} {ls ls' : Array Slot} {nL i : Nat} {v : PV} (h : wL ad ls nL L) (hi : i < nL) (hn : noL L i) (h2 : lv_has ls' nL ((i, rv ad v) :: (wPairs ad L).filter (fun q => !(q.1 == i) && !(q.1 + 1 == i && q.2.category == 2)))) : wL ad ls' nL (L.set i (some v)) := by
  refine ⟨h2.1, h2.2.1, by rw [List.length_set]; exact h.2.2.1, fun j w hj => ?_⟩
  by_cases e : j = i
  · subst e
    rw [List.getElem?_set_self (by rw [h.2.2.1]; exact hi)] at hj
    cases hj
    exact h2.2.2 _ List.mem_cons_self
  · rw [List.getElem?_set_ne (Ne.symm e)] at hj
    refine h2.2.2 (j, rv ad w) (List.mem_cons_of_mem _ (List.mem_filter.mpr ⟨wPairs_mem.mpr ⟨w, hj, rfl⟩, ?_⟩))
    have e2 : ¬ (j + 1 = i ∧ (rv ad w).category = 2) := by
      rintro ⟨e3, e4⟩
      rw [rv_cat2 (fun ⟨z, hz⟩ => hn j z e3 (by rw [hj, hz]))] at e4
      exact absurd e4 (by decide)
    simp only [Bool.and_eq_true, Bool.not_eq_true', beq_eq_false_iff_ne, ne_eq, Bool.and_eq_false_iff]
    refine ⟨e, ?_⟩
    by_cases e3 : j + 1 = i
    · right; exact fun e4 => e2 ⟨e3, e4⟩
    · left; exact e3
theorem j_istore_n {i : Fin 4} {L' : List (Option PV)} (hd : decode mi.2.1 pc = .ok (.istore_n i, 1)) (hi : (i : Nat) < mi.2.2.1) (hn : noL L i) (hL : L.set i (some (vI a)) = L') (k : J SH mi (pc + 1) L' st M Q) : J SH mi pc L (vI a :: st) M Q := by
  intro ad D cI cZ cA l p e s m args below meth c h H locs ls hl hP hS
  subst hL
  exact lv_istore_n (x := i3 a) h.1 h.2.1 hd rfl (wL_has hl) hi rfl (fun ls' h2 => k ad D cI cZ cA l p e s m args below meth c h H locs ls' (wL_set1 (v := vI a) hl hi hn h2) hP hS)
theorem j_istore {i : Nat} {L' : List (Option PV)} (hd : decode mi.2.1 pc = .ok (.istore i, 2)) (hi : i < mi.2.2.1) (hn : noL L i) (hL : L.set i (some (vI a)) = L') (k : J SH mi (pc + 2) L' st M Q) : J SH mi pc L (vI a :: st) M Q := by
  intro ad D cI cZ cA l p e s m args below meth c h H locs ls hl hP hS
  subst hL
  exact lv_istore (x := i3 a) h.1 h.2.1 hd (wL_has hl) hi rfl (fun ls' h2 => k ad D cI cZ cA l p e s m args below meth c h H locs ls' (wL_set1 (v := vI a) hl hi hn h2) hP hS)
theorem j_astore_n {i : Fin 4} {r : Nat} {L' : List (Option PV)} (hd : decode mi.2.1 pc = .ok (.astore_n i, 1)) (hi : (i : Nat) < mi.2.2.1) (hn : noL L i) (hL : L.set i (some (vR r)) = L') (k : J SH mi (pc + 1) L' st M Q) : J SH mi pc L (vR r :: st) M Q := by
  intro ad D cI cZ cA l p e s m args below meth c h H locs ls hl hP hS
  subst hL
  exact lv_astore_n (x := ad r) h.1 h.2.1 hd rfl (wL_has hl) hi rfl (fun ls' h2 => k ad D cI cZ cA l p e s m args below meth c h H locs ls' (wL_set1 (v := vR r) hl hi hn h2) hP hS)
theorem j_iinc {i : Nat} {n : Int} {L' : List (Option PV)} (hd : decode mi.2.1 pc = .ok (.iinc i n, 3)) (hg : L[i]? = some (some (vI a))) (hi : i < mi.2.2.1) (hn : noL L i) (hL : L.set i (some (vI (a + n))) = L') (k : J SH mi (pc + 3) L' st M Q) : J SH mi pc L st M Q := by
  intro ad D cI cZ cA l p e s m args below meth c h H locs ls hl hP hS
  subst hL
  obtain ⟨k0, hk0⟩ := List.getElem?_of_mem (wPairs_mem (ad := ad) (q := (i, rv ad (vI a))).mpr ⟨vI a, hg, rfl⟩)
  exact lv_iinc (x := i3 a) (v := i3 (a + n)) h.1 h.2.1 hd (wL_has hl) hk0 (i3_add a n) hi rfl (fun ls' h2 => k ad D cI cZ cA l p e s m args below meth c h H locs ls' (wL_set1 (v := vI (a + n)) hl hi hn h2) hP hS)
theorem j_lstore_n {i : Fin 4} {L' : List (Option PV)} (hd : decode mi.2.1 pc = .ok (.lstore_n i, 1)) (hi : (i : Nat) + 1 < mi.2.2.1) (hn : noL L i) (hL : (L.set i (some (vL a))).set ((i : Nat) + 1) none = L') (k : J SH mi (pc + 1) L' st M Q) : J SH mi pc L (vL a :: st) M Q := by
  intro ad D cI cZ cA l p e s m args below meth c h H locs ls hl hP hS
  subst hL
  refine lv_lstore_n (x := i6 a) h.1 h.2.1 hd rfl (wL_has hl) hi rfl (fun ls' h2 => k ad D cI cZ cA l p e s m args below meth c h H locs ls' ?_ hP hS)
  refine ⟨h2.1, h2.2.1, by rw [List.length_set, List.length_set]; exact hl.2.2.1, fun j w hj => ?_⟩
  by_cases e2 : j = (i : Nat) + 1
  · subst e2
    rw [List.getElem?_set_self (by rw [List.length_set, hl.2.2.1]; exact hi)] at hj
    cases hj
  · rw [List.getElem?_set_ne (Ne.symm e2)] at hj
    by_cases e : j = i
    · subst e
      rw [List.getElem?_set_self (by rw [hl.2.2.1]; omega)] at hj
      cases hj
      exact h2.2.2 _ List.mem_cons_self
    · rw [List.getElem?_set_ne (Ne.symm e)] at hj
      refine h2.2.2 (j, rv ad w) (List.mem_cons_of_mem _ (List.mem_filter.mpr ⟨wPairs_mem.mpr ⟨w, hj, rfl⟩, ?_⟩))
      have e5 : ¬ (j + 1 = i ∧ (rv ad w).category = 2) := by
        rintro ⟨e3, e4⟩
        rw [rv_cat2 (fun ⟨z, hz⟩ => hn j z e3 (by rw [hj, hz]))] at e4
        exact absurd e4 (by decide)
      simp only [Bool.and_eq_true, Bool.not_eq_true', beq_eq_false_iff_ne, ne_eq, Bool.and_eq_false_iff]
      refine ⟨e, e2, ?_⟩
      by_cases e3 : j + 1 = i
      · right; exact fun e4 => e5 ⟨e3, e4⟩
      · left; exact e3
theorem j_dup {v : PV} (hd : decode mi.2.1 pc = .ok (.dup, 1)) (hv : ∀ z, v ≠ vL z) (k : J SH mi (pc + 1) L (v :: v :: st) M Q) : J SH mi pc L (v :: st) M Q := by
  intro ad D cI cZ cA l p e s m args below meth c h H locs ls hl hP hS
  exact lv_dup h.1 h.2.1 hd (rv_cat2 (fun ⟨z, hz⟩ => hv z hz)) (k ad D cI cZ cA l p e s m args below meth c h H locs ls hl hP hS)
theorem j_pop {v : PV} (hd : decode mi.2.1 pc = .ok (.pop, 1)) (hv : ∀ z, v ≠ vL z) (k : J SH mi (pc + 1) L st M Q) : J SH mi pc L (v :: st) M Q := by
  intro ad D cI cZ cA l p e s m args below meth c h H locs ls hl hP hS
  exact lv_pop h.1 h.2.1 hd (rv_cat2 (fun ⟨z, hz⟩ => hv z hz)) (k ad D cI cZ cA l p e s m args below meth c h H locs ls hl hP hS)
theorem j_dup2 {v w : PV} (hd : decode mi.2.1 pc = .ok (.dup2, 1)) (hv : ∀ z, v ≠ vL z) (hw : ∀ z, w ≠ vL z) (k : J SH mi (pc + 1) L (v :: w :: v :: w :: st) M Q) : J SH mi pc L (v :: w :: st) M Q := by
  intro ad D cI cZ cA l p e s m args below meth c h H locs ls hl hP hS
  exact lv_dup2_11 h.1 h.2.1 hd (rv_cat2 (fun ⟨z, hz⟩ => hv z hz)) (rv_cat2 (fun ⟨z, hz⟩ => hw z hz)) (k ad D cI cZ cA l p e s m args below meth c h H locs ls hl hP hS)
theorem j_goto {off : Int} (tgt : Nat) (hd : decode mi.2.1 pc = .ok (.goto off, 3)) (ht : (pc : Int) + off = (tgt : Int)) (k : J SH mi tgt L st M Q) : J SH mi pc L st M Q := by
  intro ad D cI cZ cA l p e s m args below meth c h H locs ls hl hP hS
  exact lv_goto h.1 h.2.1 hd ht (k ad D cI cZ cA l p e s m args below meth c h H locs ls hl hP hS)
theorem j_if_eq {off : Int} (tgt : Nat) (hd : decode mi.2.1 pc = .ok (.ifCond .eq off, 3)) (ht : (pc : Int) + off = (tgt : Int)) (ha : inR a) (kt : a = 0 → J SH mi tgt L st M Q) (kf : ¬ a = 0 → J SH mi (pc + 3) L st M Q) : J SH mi pc L (vI a :: st) M Q := by
  intro ad D cI cZ cA l p e s m args below meth c h H locs ls hl hP hS
  refine lv_if_eq (x := i3 a) (tgt := tgt) h.1 h.2.1 hd ht (fun q => kt ?_ ad D cI cZ cA l p e s m args below meth c h H locs ls hl hP hS) (fun q => kf ?_ ad D cI cZ cA l p e s m args below meth c h H locs ls hl hP hS)
  all_goals (rw [← i3_zero] at q; simp only [ge_iff_le, gt_iff_lt, ne_eq, i3_inj ha inR0, i3_lt ha inR0, i3_lt inR0 ha, i3_le ha inR0, i3_le inR0 ha] at q; omega)
theorem j_icmp_eq {off : Int} (tgt : Nat) (hd : decode mi.2.1 pc = .ok (.if_icmp .eq off, 3)) (ht : (pc : Int) + off = (tgt : Int)) (ha : inR a) (hb : inR b) (kt : a = b → J SH mi tgt L st M Q) (kf : ¬ a = b → J SH mi (pc + 3) L st M Q) : J SH mi pc L (vI b :: vI a :: st) M Q := by
  intro ad D cI cZ cA l p e s m args below meth c h H locs ls hl hP hS
  refine lv_icmp_eq (x := i3 a) (y := i3 b) (tgt := tgt) h.1 h.2.1 hd ht (fun q => kt ?_ ad D cI cZ cA l p e s m args below meth c h H locs ls hl hP hS) (fun q => kf ?_ ad D cI cZ cA l p e s m args below meth c h H locs ls hl hP hS)
  all_goals (simp only [ge_iff_le, gt_iff_lt, ne_eq, i3_inj ha hb, i3_lt ha hb, i3_lt hb ha, i3_le ha hb, i3_le hb ha] at q; omega)
theorem j_if_ne {off : Int} (tgt : Nat) (hd : decode mi.2.1 pc = .ok (.ifCond .ne off, 3)) (ht : (pc : Int) + off = (tgt : Int)) (ha : inR a) (kt : ¬ a = 0 → J SH mi tgt L st M Q) (kf : a = 0 → J SH mi (pc + 3) L st M Q) : J SH mi pc L (vI a :: st) M Q := by
  intro ad D cI cZ cA l p e s m args below meth c h H locs ls hl hP hS
  refine lv_if_ne (x := i3 a) (tgt := tgt) h.1 h.2.1 hd ht (fun q => kt ?_ ad D cI cZ cA l p e s m args below meth c h H locs ls hl hP hS) (fun q => kf ?_ ad D cI cZ cA l p e s m args below meth c h H locs ls hl hP hS)
  all_goals (rw [← i3_zero] at q; simp only [ge_iff_le, gt_iff_lt, ne_eq, i3_inj ha inR0, i3_lt ha inR0, i3_lt inR0 ha, i3_le ha inR0, i3_le inR0 ha] at q; omega)
theorem j_icmp_ne {off : Int} (tgt : Nat) (hd : decode mi.2.1 pc = .ok (.if_icmp .ne off, 3)) (ht : (pc : Int) + off = (tgt : Int)) (ha : inR a) (hb : inR b) (kt : ¬ a = b → J SH mi tgt L st M Q) (kf : a = b → J SH mi (pc + 3) L st M Q) : J SH mi pc L (vI b :: vI a :: st) M Q := by
  intro ad D cI cZ cA l p e s m args below meth c h H locs ls hl hP hS
  refine lv_icmp_ne (x := i3 a) (y := i3 b) (tgt := tgt) h.1 h.2.1 hd ht (fun q => kt ?_ ad D cI cZ cA l p e s m args below meth c h H locs ls hl hP hS) (fun q => kf ?_ ad D cI cZ cA l p e s m args below meth c h H locs ls hl hP hS)
  all_goals (simp only [ge_iff_le, gt_iff_lt, ne_eq, i3_inj ha hb, i3_lt ha hb, i3_lt hb ha, i3_le ha hb, i3_le hb ha] at q; omega)
theorem j_if_lt {off : Int} (tgt : Nat) (hd : decode mi.2.1 pc = .ok (.ifCond .lt off, 3)) (ht : (pc : Int) + off = (tgt : Int)) (ha : inR a) (kt : a < 0 → J SH mi tgt L st M Q) (kf : 0 ≤ a → J SH mi (pc + 3) L st M Q) : J SH mi pc L (vI a :: st) M Q := by
  intro ad D cI cZ cA l p e s m args below meth c h H locs ls hl hP hS
  refine lv_if_lt (x := i3 a) (tgt := tgt) h.1 h.2.1 hd ht (fun q => kt ?_ ad D cI cZ cA l p e s m args below meth c h H locs ls hl hP hS) (fun q => kf ?_ ad D cI cZ cA l p e s m args below meth c h H locs ls hl hP hS)
  all_goals (rw [← i3_zero] at q; simp only [ge_iff_le, gt_iff_lt, ne_eq, i3_inj ha inR0, i3_lt ha inR0, i3_lt inR0 ha, i3_le ha inR0, i3_le inR0 ha] at q; omega)
theorem j_icmp_lt {off : Int} (tgt : Nat) (hd : decode mi.2.1 pc = .ok (.if_icmp .lt off, 3)) (ht : (pc : Int) + off = (tgt : Int)) (ha : inR a) (hb : inR b) (kt : a < b → J SH mi tgt L st M Q) (kf : b ≤ a → J SH mi (pc + 3) L st M Q) : J SH mi pc L (vI b :: vI a :: st) M Q := by
  intro ad D cI cZ cA l p e s m args below meth c h H locs ls hl hP hS
  refine lv_icmp_lt (x := i3 a) (y := i3 b) (tgt := tgt) h.1 h.2.1 hd ht (fun q => kt ?_ ad D cI cZ cA l p e s m args below meth c h H locs ls hl hP hS) (fun q => kf ?_ ad D cI cZ cA l p e s m args below meth c h H locs ls hl hP hS)
  all_goals (simp only [ge_iff_le, gt_iff_lt, ne_eq, i3_inj ha hb, i3_lt ha hb, i3_lt hb ha, i3_le ha hb, i3_le hb ha] at q; omega)
theorem j_if_ge {off : Int} (tgt : Nat) (hd : decode mi.2.1 pc = .ok (.ifCond .ge off, 3)) (ht : (pc : Int) + off = (tgt : Int)) (ha : inR a) (kt : 0 ≤ a → J SH mi tgt L st M Q) (kf : a < 0 → J SH mi (pc + 3) L st M Q) : J SH mi pc L (vI a :: st) M Q := by
  intro ad D cI cZ cA l p e s m args below meth c h H locs ls hl hP hS
  refine lv_if_ge (x := i3 a) (tgt := tgt) h.1 h.2.1 hd ht (fun q => kt ?_ ad D cI cZ cA l p e s m args below meth c h H locs ls hl hP hS) (fun q => kf ?_ ad D cI cZ cA l p e s m args below meth c h H locs ls hl hP hS)
  all_goals (rw [← i3_zero] at q; simp only [ge_iff_le, gt_iff_lt, ne_eq, i3_inj ha inR0, i3_lt ha inR0, i3_lt inR0 ha, i3_le ha inR0, i3_le inR0 ha] at q; omega)
theorem j_icmp_ge {off : Int} (tgt : Nat) (hd : decode mi.2.1 pc = .ok (.if_icmp .ge off, 3)) (ht : (pc : Int) + off = (tgt : Int)) (ha : inR a) (hb : inR b) (kt : b ≤ a → J SH mi tgt L st M Q) (kf : a < b → J SH mi (pc + 3) L st M Q) : J SH mi pc L (vI b :: vI a :: st) M Q := by
  intro ad D cI cZ cA l p e s m args below meth c h H locs ls hl hP hS
  refine lv_icmp_ge (x := i3 a) (y := i3 b) (tgt := tgt) h.1 h.2.1 hd ht (fun q => kt ?_ ad D cI cZ cA l p e s m args below meth c h H locs ls hl hP hS) (fun q => kf ?_ ad D cI cZ cA l p e s m args below meth c h H locs ls hl hP hS)
  all_goals (simp only [ge_iff_le, gt_iff_lt, ne_eq, i3_inj ha hb, i3_lt ha hb, i3_lt hb ha, i3_le ha hb, i3_le hb ha] at q; omega)
theorem j_if_gt {off : Int} (tgt : Nat) (hd : decode mi.2.1 pc = .ok (.ifCond .gt off, 3)) (ht : (pc : Int) + off = (tgt : Int)) (ha : inR a) (kt : 0 < a → J SH mi tgt L st M Q) (kf : a ≤ 0 → J SH mi (pc + 3) L st M Q) : J SH mi pc L (vI a :: st) M Q := by
  intro ad D cI cZ cA l p e s m args below meth c h H locs ls hl hP hS
  refine lv_if_gt (x := i3 a) (tgt := tgt) h.1 h.2.1 hd ht (fun q => kt ?_ ad D cI cZ cA l p e s m args below meth c h H locs ls hl hP hS) (fun q => kf ?_ ad D cI cZ cA l p e s m args below meth c h H locs ls hl hP hS)
  all_goals (rw [← i3_zero] at q; simp only [ge_iff_le, gt_iff_lt, ne_eq, i3_inj ha inR0, i3_lt ha inR0, i3_lt inR0 ha, i3_le ha inR0, i3_le inR0 ha] at q; omega)
theorem j_icmp_gt {off : Int} (tgt : Nat) (hd : decode mi.2.1 pc = .ok (.if_icmp .gt off, 3)) (ht : (pc : Int) + off = (tgt : Int)) (ha : inR a) (hb : inR b) (kt : b < a → J SH mi tgt L st M Q) (kf : a ≤ b → J SH mi (pc + 3) L st M Q) : J SH mi pc L (vI b :: vI a :: st) M Q := by
  intro ad D cI cZ cA l p e s m args below meth c h H locs ls hl hP hS
  refine lv_icmp_gt (x := i3 a) (y := i3 b) (tgt := tgt) h.1 h.2.1 hd ht (fun q => kt ?_ ad D cI cZ cA l p e s m args below meth c h H locs ls hl hP hS) (fun q => kf ?_ ad D cI cZ cA l p e s m args below meth c h H locs ls hl hP hS)
  all_goals (simp only [ge_iff_le, gt_iff_lt, ne_eq, i3_inj ha hb, i3_lt ha hb, i3_lt hb ha, i3_le ha hb, i3_le hb ha] at q; omega)
theorem j_if_le {off : Int} (tgt : Nat) (hd : decode mi.2.1 pc = .ok (.ifCond .le off, 3)) (ht : (pc : Int) + off = (tgt : Int)) (ha : inR a) (kt : a ≤ 0 → J SH mi tgt L st M Q) (kf : 0 < a → J SH mi (pc + 3) L st M Q) : J SH mi pc L (vI a :: st) M Q := by
  intro ad D cI cZ cA l p e s m args below meth c h H locs ls hl hP hS
  refine lv_if_le (x := i3 a) (tgt := tgt) h.1 h.2.1 hd ht (fun q => kt ?_ ad D cI cZ cA l p e s m args below meth c h H locs ls hl hP hS) (fun q => kf ?_ ad D cI cZ cA l p e s m args below meth c h H locs ls hl hP hS)
  all_goals (rw [← i3_zero] at q; simp only [ge_iff_le, gt_iff_lt, ne_eq, i3_inj ha inR0, i3_lt ha inR0, i3_lt inR0 ha, i3_le ha inR0, i3_le inR0 ha] at q; omega)
theorem j_icmp_le {off : Int} (tgt : Nat) (hd : decode mi.2.1 pc = .ok (.if_icmp .le off, 3)) (ht : (pc : Int) + off = (tgt : Int)) (ha : inR a) (hb : inR b) (kt : a ≤ b → J SH mi tgt L st M Q) (kf : b < a → J SH mi (pc + 3) L st M Q) : J SH mi pc L (vI b :: vI a :: st) M Q := by
  intro ad D cI cZ cA l p e s m args below meth c h H locs ls hl hP hS
  refine lv_icmp_le (x := i3 a) (y := i3 b) (tgt := tgt) h.1 h.2.1 hd ht (fun q => kt ?_ ad D cI cZ cA l p e s m args below meth c h H locs ls hl hP hS) (fun q => kf ?_ ad D cI cZ cA l p e s m args below meth c h H locs ls hl hP hS)
  all_goals (simp only [ge_iff_le, gt_iff_lt, ne_eq, i3_inj ha hb, i3_lt ha hb, i3_lt hb ha, i3_le ha hb, i3_le hb ha] at q; omega)
end JR
end
section
/-! THE ENGINE, second part: fields, arrays, the static tables, returns, switches -/
section JM
variable {SH : List Shp} {mi : MI} {pc : Nat} {L : List (Option PV)} {st : List PV} {M : Mem} {Q : Option PV → Mem → Prop} {a b : Int}
def fOK (own : String) (idx ci k : Nat) : Prop := ∃ (C : String) (T : u_T) (N : Nat), clW[ci]? = some (C, T, N) ∧ k < N ∧ Cond.fieldLink own idx (T k).1 (T k).2.1 (T k).2.2.1 ∈ wTbl ∧ ∀ w ∈ u_ws C T N, w ∈ wTbl
def gOK (own : String) (idx ci k : Nat) : Prop := ∃ (C : String) (T : u_T) (N : Nat) (ty0 : Nat → FieldType), clW[ci]? = some (C, T, N) ∧ k < N ∧ Cond.fieldLink own idx (T k).1 (T k).2.1 (T k).2.2.1 ∈ wTbl ∧ (∀ w ∈ u_ws C T N, w ∈ wTbl) ∧ (∀ k, k < N → parseFieldDescriptor (T k).2.2.1 = some (ty0 k)) ∧ (∀ a, a < N → ∀ b, b < N → a ≠ b → (T a).2.1 ≠ (T b).2.1) ∧ (T k).2.2.2 = false ∧ parseFieldDescriptor (T k).2.2.1 = some .int
theorem j_getI {r ci k idx len : Nat} {kz : Int} {refs : List (Option Nat)} (hkz : kz = (k : Int)) (hd : decode mi.2.1 pc = .ok (.getfield idx, 3)) (hf : fOK mi.1.cls idx ci k) (hs : SH[r]? = some (ci + 3, len, refs)) (hr : refs[k]? = some none) (K : J SH mi (pc + 3) L (vI (M r kz) :: st) M Q) : J SH mi pc L (vR r :: st) M Q := by
  subst hkz
  intro ad D cI cZ cA l p e s m args below meth c h H locs ls hl hP hS
  obtain ⟨C, T, N, f1, f2, f3, f4⟩ := hf
  obtain ⟨hx, hb, hret, hml, hown, hlk, hts, hC⟩ := id h
  exact va_get (v := .int (i3 (M r k))) hx hb hts (fun w hw => List.mem_cons_of_mem _ (f4 w hw)) hown hC.2.1 hP r (wW_get hs) f1 k f2 (hts _ (List.mem_cons_of_mem _ f3)) (fun _ z => z) (by simp [hr, wfld]) hd (K ad D cI cZ cA l p e s m args below meth c h H locs ls hl hP hS)
theorem j_getR {r ci k idx len q : Nat} {refs : List (Option Nat)} (hd : decode mi.2.1 pc = .ok (.getfield idx, 3)) (hf : fOK mi.1.cls idx ci k) (hs : SH[r]? = some (ci + 3, len, refs)) (hr : refs[k]? = some (some q)) (K : J SH mi (pc + 3) L (vR q :: st) M Q) : J SH mi pc L (vR r :: st) M Q := by
  intro ad D cI cZ cA l p e s m args below meth c h H locs ls hl hP hS
  obtain ⟨C, T, N, f1, f2, f3, f4⟩ := hf
  obtain ⟨hx, hb, hret, hml, hown, hlk, hts, hC⟩ := id h
  exact va_get (v := .ref (ad q)) hx hb hts (fun w hw => List.mem_cons_of_mem _ (f4 w hw)) hown hC.2.1 hP r (wW_get hs) f1 k f2 (hts _ (List.mem_cons_of_mem _ f3)) (fun _ z => z) (by simp [hr, wfld]) hd (K ad D cI cZ cA l p e s m args below meth c h H locs ls hl hP hS)
theorem wE_put {ad : Nat → Nat} {M : Mem} {r k : Nat} {x : Int} {refs : List (Option Nat)} (hr : refs[k]? = some none) : (refs.mapIdx (fun j q => wfld ad M r j q)).set k (.int (i3 x)) = refs.mapIdx (fun j q => wfld ad (wr M r k x) r j q) := by
  apply List.ext_getElem?
  intro j
  by_cases e : j = k
  · subst e
    rw [List.getElem?_set_self (by rw [List.length_mapIdx]; exact (List.getElem?_eq_some_iff.mp hr).1), List.getElem?_mapIdx, hr]
    simp [wfld, wr]
  · rw [List.getElem?_set_ne (Ne.symm e), List.getElem?_mapIdx, List.getElem?_mapIdx]
    cases refs[j]? with
    | none => rfl
    | some o =>
      have e2 : ¬ (j : Int) = (k : Int) := by omega
      cases o <;> simp [wfld, wr, e2]
theorem j_putI {r ci k idx len : Nat} {kz : Int} {refs : List (Option Nat)} (hkz : kz = (k : Int)) (hd : decode mi.2.1 pc = .ok (.putfield idx, 3)) (hf : gOK mi.1.cls idx ci k) (hs : SH[r]? = some (ci + 3, len, refs)) (hr : refs[k]? = some none) (K : J SH mi (pc + 3) L st (wr M r kz a) Q) : J SH mi pc L (vI a :: vR r :: st) M Q := by
  subst hkz
  intro ad D cI cZ cA l p e s m args below meth c h H locs ls hl hP hS
  obtain ⟨C, T, N, ty0, f1, f2, f3, f4, f5, f6, f7, f8⟩ := hf
  obtain ⟨hx, hb, hret, hml, hown, hlk, hts, hC⟩ := id h
  refine va_put (v := .int (i3 a)) (ty := .int) hx hb hts (fun w hw => List.mem_cons_of_mem _ (f4 w hw)) ty0 f5 f6 hown hC.2.1 hP (wW_D hC.1) hS r (wW_get hs) f1 k f2 (hts _ (List.mem_cons_of_mem _ f3)) (fun _ z => z) f7 f8 rfl rfl (by rw [List.length_mapIdx]; exact (List.getElem?_eq_some_iff.mp hr).1) hd (fun H1 locs1 hP1 _ hS1 => ?_)
  refine K ad D cI cZ cA l p e s m args below meth c h H1 locs1 ls hl ?_ hS1
  rw [← wW_set (s := (ci + 3, len, refs)) hs]
  rw [wE_put hr] at hP1
  exact hP1
theorem inR_lt {i : Int} {n : Nat} (h0 : 0 ≤ i) (h1 : i < n) (hn : n ≤ 100000) : inR i := ⟨by omega, by omega⟩
theorem vp_in_i3 {i : Int} {n : Nat} (h0 : 0 ≤ i) (h1 : i < n) (hn : n ≤ 100000) : vp_in (i3 i) n := by
  have hi := inR_lt h0 h1 hn
  intro q
  rcases q with q | q
  · rw [← i3_zero, i3_lt hi inR0] at q; omega
  · rw [i3_clamp hi h0] at q; omega
theorem j_iald {r n : Nat} {refs : List (Option Nat)} (hd : decode mi.2.1 pc = .ok (.iaload, 1)) (hs : SH[r]? = some (0, n, refs)) (hn : n ≤ 100000) (h0 : 0 ≤ a) (h1 : a < n) (K : J SH mi (pc + 1) L (vI (M r a) :: st) M Q) : J SH mi pc L (vI a :: vR r :: st) M Q := by
  intro ad D cI cZ cA l p e s m args below meth c h H locs ls hl hP hS
  obtain ⟨hx, hb, hret, hml, hown, hlk, hts, hC⟩ := id h
  refine va_iald (i := i3 a) hx hb hC.2.1 hP r 0 (wW_get hs) rfl (vp_in_i3 h0 h1 hn) hd ?_
  have e1 : (((i3 a).toNatClampNeg : Nat) : Int) = a := by rw [i3_clamp (inR_lt h0 h1 hn) h0]; exact Int.toNat_of_nonneg h0
  simp only [e1]
  exact K ad D cI cZ cA l p e s m args below meth c h H locs ls hl hP hS
theorem j_bald {r n : Nat} {refs : List (Option Nat)} (hd : decode mi.2.1 pc = .ok (.baload, 1)) (hs : SH[r]? = some (1, n, refs)) (hn : n ≤ 100000) (h0 : 0 ≤ a) (h1 : a < n) (K : J SH mi (pc + 1) L (vI (M r a) :: st) M Q) : J SH mi pc L (vI a :: vR r :: st) M Q := by
  intro ad D cI cZ cA l p e s m args below meth c h H locs ls hl hP hS
  obtain ⟨hx, hb, hret, hml, hown, hlk, hts, hC⟩ := id h
  refine va_zald (i := i3 a) hx hb hC.2.1 hP r 1 (wW_get hs) rfl (vp_in_i3 h0 h1 hn) hd ?_
  have e1 : (((i3 a).toNatClampNeg : Nat) : Int) = a := by rw [i3_clamp (inR_lt h0 h1 hn) h0]; exact Int.toNat_of_nonneg h0
  simp only [e1]
  exact K ad D cI cZ cA l p e s m args below meth c h H locs ls hl hP hS
theorem wr_upd {r : Nat} (h0 : 0 ≤ a) (hi : inR a) : upd (fun j : Nat => i3 (M r j)) (i3 a).toNatClampNeg (i3 b) = fun j : Nat => i3 (wr M r a b r j) := by
  funext j
  rw [i3_clamp hi h0]
  by_cases e : j = a.toNat
  · subst e
    simp [upd, wr, Int.toNat_of_nonneg h0]
  · have e2 : ¬ (j : Int) = a := by omega
    simp [upd, wr, e, e2]
theorem j_iast {r n : Nat} {refs : List (Option Nat)} (hd : decode mi.2.1 pc = .ok (.iastore, 1)) (hs : SH[r]? = some (0, n, refs)) (hn : n ≤ 100000) (h0 : 0 ≤ a) (h1 : a < n) (K : J SH mi (pc + 1) L st (wr M r a b) Q) : J SH mi pc L (vI b :: vI a :: vR r :: st) M Q := by
  intro ad D cI cZ cA l p e s m args below meth c h H locs ls hl hP hS
  obtain ⟨hx, hb, hret, hml, hown, hlk, hts, hC⟩ := id h
  refine va_iast (i := i3 a) (x := i3 b) hx hb hC.2.1 hP (wW_D hC.1) hS r 0 (wW_get hs) rfl (vp_in_i3 h0 h1 hn) hd (fun H1 locs1 hP1 _ hS1 => ?_)
  refine K ad D cI cZ cA l p e s m args below meth c h H1 locs1 ls hl ?_ hS1
  rw [← wW_set (s := (0, n, refs)) hs]
  rw [wr_upd h0 (inR_lt h0 h1 hn)] at hP1
  exact hP1
theorem nar01 (hb : b = 0 ∨ b = 1) : vp_nar .boolean (i3 b) = i3 b := by
  rcases hb with rfl | rfl <;> decide +kernel
theorem j_bast {r n : Nat} {refs : List (Option Nat)} (hd : decode mi.2.1 pc = .ok (.bastore, 1)) (hs : SH[r]? = some (1, n, refs)) (hn : n ≤ 100000) (h0 : 0 ≤ a) (h1 : a < n) (hb01 : b = 0 ∨ b = 1) (K : J SH mi (pc + 1) L st (wr M r a b) Q) : J SH mi pc L (vI b :: vI a :: vR r :: st) M Q := by
  intro ad D cI cZ cA l p e s m args below meth c h H locs ls hl hP hS
  obtain ⟨hx, hb, hret, hml, hown, hlk, hts, hC⟩ := id h
  refine va_zast (i := i3 a) (x := i3 b) hx hb hC.2.1 hP (wW_D hC.1) hS r 1 (wW_get hs) rfl (vp_in_i3 h0 h1 hn) hd (fun H1 locs1 hP1 _ hS1 => ?_)
  refine K ad D cI cZ cA l p e s m args below meth c h H1 locs1 ls hl ?_ hS1
  rw [← wW_set (s := (1, n, refs)) hs]
  rw [nar01 hb01, wr_upd h0 (inR_lt h0 h1 hn)] at hP1
  exact hP1
theorem j_aald {r n q : Nat} {refs : List (Option Nat)} (hd : decode mi.2.1 pc = .ok (.aaload, 1)) (hs : SH[r]? = some (2, n, refs)) (hn : n ≤ 100000) (h0 : 0 ≤ a) (h1 : a < n) (hq : refs[a.toNat]? = some (some q)) (K : J SH mi (pc + 1) L (vR q :: st) M Q) : J SH mi pc L (vI a :: vR r :: st) M Q := by
  intro ad D cI cZ cA l p e s m args below meth c h H locs ls hl hP hS
  obtain ⟨hx, hb, hret, hml, hown, hlk, hts, hC⟩ := id h
  have hin := vp_in_i3 h0 h1 hn
  have hlt : (i3 a).toNatClampNeg < n := Nat.not_le.mp fun q => hin (Or.inr q)
  have e1 : (i3 a).toNatClampNeg = a.toNat := i3_clamp (inR_lt h0 h1 hn) h0
  have e2 : va_rf ((refs.getD (i3 a).toNatClampNeg none).map ad) = .ref (ad q) := by
    rw [e1, List.getD_eq_getElem?_getD, hq]; rfl
  refine W.aald (v := .ref (ad q)) (ty := .array .int) hx hb (hP r _ (wW_get hs)) ((hC.2.1.2 2 _ rfl).1 n (fun j => va_rf ((refs.getD j none).map ad))) rfl (fun q => by cases q) (by show ¬ (i3 a < 0 ∨ (arrV _ _ _).slots.size ≤ _); rw [arrV_size]; exact hin) (by show (arrV _ _ _).slots[_]? = _; rw [arrV_read _ _ hlt, e2]) rfl rfl hd (K ad D cI cZ cA l p e s m args below meth c h H locs ls hl hP hS)
theorem j_alen {r t n : Nat} {refs : List (Option Nat)} (hd : decode mi.2.1 pc = .ok (.arraylength, 1)) (hs : SH[r]? = some (t, n, refs)) (ht : t ≤ 2) (K : J SH mi (pc + 1) L (vI n :: st) M Q) : J SH mi pc L (vR r :: st) M Q := by
  intro ad D cI cZ cA l p e s m args below meth c h H locs ls hl hP hS
  obtain ⟨hx, hb, hret, hml, hown, hlk, hts, hC⟩ := id h
  have K1 := K ad D cI cZ cA l p e s m args below meth c h H locs ls hl hP hS
  match t, ht with
  | 0, _ => exact va_alen (v := i3 n) hx hb hC.2.1 hP r 0 (wW_get hs) rfl rfl hd K1
  | 1, _ => exact va_alen (v := i3 n) hx hb hC.2.1 hP r 1 (wW_get hs) rfl rfl hd K1
  | 2, _ => exact va_alen (v := i3 n) hx hb hC.2.1 hP r 2 (wW_get hs) rfl rfl hd K1
-- static tables
theorem j_getSQ {idx : Nat} (hd : decode mi.2.1 pc = .ok (.getstatic idx, 3)) (hw : Cond.fieldLink mi.1.cls idx RX5 "SQUARE_PARTS" "[I" ∈ wTbl) (K : J SH mi (pc + 3) L (vR 1000 :: st) M Q) : J SH mi pc L st M Q := by
  intro ad D cI cZ cA l p e s m args below meth c h H locs ls hl hP hS
  obtain ⟨hx, hb, hret, hml, hown, hlk, hts, hC⟩ := id h
  exact va_gets hx hb hC.2.2.1 hS hown (hts _ (List.mem_cons_of_mem _ hw)) (fun _ z => z) hd (K ad D cI cZ cA l p e s m args below meth c h H locs ls hl hP hS)
theorem j_getHX {idx : Nat} (hd : decode mi.2.1 pc = .ok (.getstatic idx, 3)) (hw : Cond.fieldLink mi.1.cls idx RX5 "HEXAGONAL_PARTS" "[I" ∈ wTbl) (K : J SH mi (pc + 3) L (vR 1001 :: st) M Q) : J SH mi pc L st M Q := by
  intro ad D cI cZ cA l p e s m args below meth c h H locs ls hl hP hS
  obtain ⟨hx, hb, hret, hml, hown, hlk, hts, hC⟩ := id h
  exact va_gets hx hb hC.2.2.2.2.1 hS hown (hts _ (List.mem_cons_of_mem _ hw)) (fun _ z => z) hd (K ad D cI cZ cA l p e s m args below meth c h H locs ls hl hP hS)
theorem j_ldSQ (hd : decode mi.2.1 pc = .ok (.iaload, 1)) (h0 : 0 ≤ a) (h1 : a < 32) (K : J SH mi (pc + 1) L (vI (tSQ.getD a.toNat 0) :: st) M Q) : J SH mi pc L (vI a :: vR 1000 :: st) M Q := by
  intro ad D cI cZ cA l p e s m args below meth c h H locs ls hl hP hS
  obtain ⟨hx, hb, hret, hml, hown, hlk, hts, hC⟩ := id h
  exact va_ti (i := i3 a) (v := .int (i3 (tSQ.getD a.toNat 0))) hx hb hC.2.2.2.1 hS (vp_in_i3 (n := 32) h0 h1 (by decide)) (by rw [i3_clamp (inR_lt (n := 32) h0 h1 (by decide)) h0]) hd (K ad D cI cZ cA l p e s m args below meth c h H locs ls hl hP hS)
theorem j_ldHX (hd : decode mi.2.1 pc = .ok (.iaload, 1)) (h0 : 0 ≤ a) (h1 : a < 48) (K : J SH mi (pc + 1) L (vI (tHX.getD a.toNat 0) :: st) M Q) : J SH mi pc L (vI a :: vR 1001 :: st) M Q := by
  intro ad D cI cZ cA l p e s m args below meth c h H locs ls hl hP hS
  obtain ⟨hx, hb, hret, hml, hown, hlk, hts, hC⟩ := id h
  exact va_ti (i := i3 a) (v := .int (i3 (tHX.getD a.toNat 0))) hx hb hC.2.2.2.2.2.1 hS (vp_in_i3 (n := 48) h0 h1 (by decide)) (by rw [i3_clamp (inR_lt (n := 48) h0 h1 (by decide)) h0]) hd (K ad D cI cZ cA l p e s m args below meth c h H locs ls hl hP hS)
theorem j_lenSQ (hd : decode mi.2.1 pc = .ok (.arraylength, 1)) (K : J SH mi (pc + 1) L (vI 32 :: st) M Q) : J SH mi pc L (vR 1000 :: st) M Q := by
  intro ad D cI cZ cA l p e s m args below meth c h H locs ls hl hP hS
  obtain ⟨hx, hb, hret, hml, hown, hlk, hts, hC⟩ := id h
  exact va_tlen (v := i3 32) hx hb hC.2.2.2.1 hS rfl hd (K ad D cI cZ cA l p e s m args below meth c h H locs ls hl hP hS)
theorem j_lenHX (hd : decode mi.2.1 pc = .ok (.arraylength, 1)) (K : J SH mi (pc + 1) L (vI 48 :: st) M Q) : J SH mi pc L (vR 1001 :: st) M Q := by
  intro ad D cI cZ cA l p e s m args below meth c h H locs ls hl hP hS
  obtain ⟨hx, hb, hret, hml, hown, hlk, hts, hC⟩ := id h
  exact va_tlen (v := i3 48) hx hb hC.2.2.2.2.2.1 hS rfl hd (K ad D cI cZ cA l p e s m args below meth c h H locs ls hl hP hS)
-- returns
theorem j_iret (hd : decode mi.2.1 pc = .ok (.ireturn, 1)) (hr : mi.2.2.2.1 = some .int) (hq : Q (some (vI a)) M) : J SH mi pc L [vI a] M Q := by
  intro ad D cI cZ cA l p e s m args below meth c h H locs ls hl hP hS
  obtain ⟨hx, hb, hret, hml, hown, hlk, hts, hC⟩ := id h
  exact W.iret (v := i3 a) hx hb (hret.trans hr) (fun t ht _ => ⟨⟨some (vI a), M, rfl, hq, by rw [ht]; exact hP⟩, hS.F ht⟩) hS.2.2 hd hlk
theorem nar01' (hb : b = 0 ∨ b = 1) : narrow .boolean (.int (i3 b)) = .int (i3 b) := by
  rcases hb with rfl | rfl <;> decide +kernel
theorem j_zret (hd : decode mi.2.1 pc = .ok (.ireturn, 1)) (hr : mi.2.2.2.1 = some .boolean) (h01 : a = 0 ∨ a = 1) (hq : Q (some (vI a)) M) : J SH mi pc L [vI a] M Q := by
  intro ad D cI cZ cA l p e s m args below meth c h H locs ls hl hP hS
  obtain ⟨hx, hb, hret, hml, hown, hlk, hts, hC⟩ := id h
  exact W.zret (v := i3 a) hx hb (hret.trans hr) (nar01' h01) (fun t ht _ => ⟨⟨some (vI a), M, rfl, hq, by rw [ht]; exact hP⟩, hS.F ht⟩) hS.2.2 hd hlk
theorem j_lret (hd : decode mi.2.1 pc = .ok (.lreturn, 1)) (hr : mi.2.2.2.1 = some .long) (hq : Q (some (vL a)) M) : J SH mi pc L [vL a] M Q := by
  intro ad D cI cZ cA l p e s m args below meth c h H locs ls hl hP hS
  obtain ⟨hx, hb, hret, hml, hown, hlk, hts, hC⟩ := id h
  exact W.lret (v := i6 a) hx hb (hret.trans hr) (fun t ht _ => ⟨⟨some (vL a), M, rfl, hq, by rw [ht]; exact hP⟩, hS.F ht⟩) hS.2.2 hd hlk
theorem j_vret (hd : decode mi.2.1 pc = .ok (.return_, 1)) (hr : mi.2.2.2.1 = none) (hq : Q none M) : J SH mi pc L [] M Q := by
  intro ad D cI cZ cA l p e s m args below meth c h H locs ls hl hP hS
  obtain ⟨hx, hb, hret, hml, hown, hlk, hts, hC⟩ := id h
  exact W.vret hx hb (hret.trans hr) (fun t ht _ => ⟨⟨none, M, rfl, hq, by rw [ht]; exact hP⟩, hS.F ht⟩) hS.2.2 hd hlk
-- switches
theorem j_tsIn {dflt lo hi off : Int} {offs : Array Int} {len : Nat} (tgt : Nat) (hd : decode mi.2.1 pc = .ok (.tableswitch dflt lo hi offs, len)) (ha : inR a) (h1 : lo ≤ a) (h2 : a ≤ hi) (ho : offs[(a - lo).toNat]? = some off) (ht : (pc : Int) + off = (tgt : Int)) (K : J SH mi tgt L st M Q) : J SH mi pc L (vI a :: st) M Q := by
  intro ad D cI cZ cA l p e s m args below meth c h H locs ls hl hP hS
  exact lv_tableIn (x := i3 a) (off := off) (tgt := tgt) h.1 h.2.1 hd (by rw [i3_toInt ha]; omega) (by rw [i3_toInt ha]; omega) (by rw [i3_toInt ha]; exact ho) ht (K ad D cI cZ cA l p e s m args below meth c h H locs ls hl hP hS)
theorem j_tsOut {dflt lo hi : Int} {offs : Array Int} {len : Nat} (tgt : Nat) (hd : decode mi.2.1 pc = .ok (.tableswitch dflt lo hi offs, len)) (ha : inR a) (h1 : a < lo ∨ hi < a) (ht : (pc : Int) + dflt = (tgt : Int)) (K : J SH mi tgt L st M Q) : J SH mi pc L (vI a :: st) M Q := by
  intro ad D cI cZ cA l p e s m args below meth c h H locs ls hl hP hS
  exact lv_tableOut (x := i3 a) (tgt := tgt) h.1 h.2.1 hd (by rw [i3_toInt ha]; exact h1) ht (K ad D cI cZ cA l p e s m args below meth c h H locs ls hl hP hS)
/-- a weaker end -/
theorem j_mono {Q' : Option PV → Mem → Prop} (hq : ∀ v M1, Q v M1 → Q' v M1) (K : J SH mi pc L st M Q) : J SH mi pc L st M Q' := by
  intro ad D cI cZ cA l p e s m args below meth c h H locs ls hl hP hS T hT X
  obtain ⟨t, h1, o, h2, h3, ⟨⟨v, M1, h4, h5, h6⟩, h7⟩, h8⟩ := K ad D cI cZ cA l p e s m args below meth c h H locs ls hl hP hS T hT X
  exact ⟨t, h1, o, h2, h3, ⟨⟨v, M1, h4, hq _ _ h5, h6⟩, h7⟩, h8⟩
end JM
end
section
/-! THE ENGINE, third part: a method's contract out of J at its entry; calls -/
def mOK (mi : MI) : Prop := plainFor mi.1 = true ∧ Cond.code mi.1 mi.2.1 mi.2.2.1 mi.2.2.2.1 ∈ wTbl ∧ mi.2.2.1 ≤ 13 ∧ (mi.1.cls ≠ "java/lang/invoke/MethodHandle" ∧ mi.1.cls ≠ "java/lang/invoke/VarHandle") ∧ Cond.initialized mi.1.cls ∈ wTbl
def ent (vs : List PV) (nL : Nat) : List (Option PV) := vs.map some ++ List.replicate (nL - vs.length) none
def noLongs (vs : List PV) : Bool := vs.all (fun v => match v with
  | .inr (.inl _) => false
  | _ => true)
theorem noLongs_mem {vs : List PV} (h : noLongs vs = true) {v : PV} (hv : v ∈ vs) : ¬ ∃ z, v = vL z := by
  rintro ⟨z, rfl⟩
  have := List.all_eq_true.mp h _ hv
  cases this
theorem ent_sl {ad : Nat → Nat} : ∀ {vs : List PV}, noLongs vs = true → (lg_sl (vs.map (rv ad))).length = vs.length
  | [], _ => rfl
  | v :: vs, h => by
    have h1 : ¬ (rv ad v).category = 2 := by rw [rv_cat2 (noLongs_mem h List.mem_cons_self)]; decide
    have h2 : noLongs vs = true := by
      simp only [noLongs, List.all_cons, Bool.and_eq_true] at h
      exact h.2
    have := ent_sl (ad := ad) h2
    simp only [lg_sl, List.map_cons, List.flatMap_cons, h1, if_false, List.length_append, List.length_cons, List.length_nil] at this ⊢
    omega
theorem ent_args {ad : Nat → Nat} : ∀ {vs : List PV}, noLongs vs = true → ∀ (o i : Nat) (v : PV), vs[i]? = some v → (o + i, rv ad v) ∈ lv_args o (vs.map (rv ad))
  | [], _, o, i, v, hi => by simp at hi
  | w :: vs, h, o, i, v, hi => by
    have h1 : ¬ (rv ad w).category = 2 := by rw [rv_cat2 (noLongs_mem h List.mem_cons_self)]; decide
    have h2 : noLongs vs = true := by
      simp only [noLongs, List.all_cons, Bool.and_eq_true] at h
      exact h.2
    simp only [List.map_cons, lv_args, h1, if_false]
    cases i with
    | zero =>
      simp at hi
      subst hi
      exact List.mem_cons_self
    | succ i =>
      rw [List.getElem?_cons_succ] at hi
      have := ent_args (ad := ad) h2 (o + 1) i v hi
      refine List.mem_cons_of_mem _ ?_
      rw [show o + (i + 1) = o + 1 + i by omega]
      exact this
section JC
variable {SH : List Shp} {mi mj : MI} {pc : Nat} {L : List (Option PV)} {st : List PV} {M : Mem} {Q Q1 : Option PV → Mem → Prop}
theorem wC_frame {ad : Nat → Nat} {D : va_G} {cI cZ cA : ClassId} {U : State} {g : JFrame} {mk : MethodId} {a : Array Value} (h : wC ad D cI cZ cA SH U) : wC ad D cI cZ cA SH (U.calling g mk a) := by
  obtain ⟨h1, h2, h3, h4, h5, h6, h7⟩ := h
  exact ⟨h1, va_K.moved (u := U) (U := U.calling g mk a) (Vm.Alike.refl U.vm) h2, va_Z.moved (u := U) (U := U.calling g mk a) (Vm.Alike.refl U.vm) h3, va_T.moved (u := U) (U := U.calling g mk a) (Vm.Alike.refl U.vm) h4, va_Z.moved (u := U) (U := U.calling g mk a) (Vm.Alike.refl U.vm) h5, va_T.moved (u := U) (U := U.calling g mk a) (Vm.Alike.refl U.vm) h6, fun q hq => va_Nw.same rfl (u := U) (U := U.calling g mk a) rfl (h7 q hq)⟩
theorem wC_moved {ad : Nat → Nat} {D : va_G} {cI cZ cA : ClassId} {s U : State} {H : Heap} {locs : List Loc} (h : wC ad D cI cZ cA SH s) (hS : va_S (wF ad SH) s.heap H locs) (hU : U.heap = H) (hW : s.WarmedH U.vm) : wC ad D cI cZ cA SH U := by
  obtain ⟨h1, h2, h3, h4, h5, h6, h7⟩ := h
  subst hU
  have hvm := hW.alike
  exact ⟨h1, h2.moved hvm, (h3.kept hS.2.1).moved hvm, (h4.kept hS.2.1).moved hvm, (h5.kept hS.2.1).moved hvm, (h6.kept hS.2.1).moved hvm, fun q hq => va_Nw.warmM hW (h7 q hq)⟩
abbrev jP (ad : Nat → Nat) (D : va_G) (cI cZ cA : ClassId) (SH : List Shp) (M : Mem) (vs : List PV) : Array Value → State → Prop := va_Pc (vs.map (rv ad)) (fun U => wC ad D cI cZ cA SH U ∧ va_P D clW (wW ad cI cZ cA SH M) U.heap)
theorem jP_blind {ad : Nat → Nat} {D : va_G} {cI cZ cA : ClassId} {vs : List PV} : FrameBlind (jP ad D cI cZ cA SH M vs) := by
  intro a U g mk h
  exact ⟨h.1, wC_frame h.2.1, h.2.2⟩
theorem j_met (hok : mOK mi) {vs : List PV} (hv : noLongs vs = true) (hn : vs.length ≤ mi.2.2.1) (h : J SH mi 0 (ent vs mi.2.2.1) [] M Q) (ad : Nat → Nat) (D : va_G) (cI cZ cA : ClassId) (l : Launch) :
    Met l mi.1 (mW mi) (mRm mi) (jP ad D cI cZ cA SH M vs) (jQ ad D cI cZ cA SH Q) 0 0 (wF ad SH) := by
  refine va_MetF (cc := mi.2.1) (maxL := mi.2.2.1) (ret := mi.2.2.2.1) hok.1 rfl ?_
  intro p e s m args below meth c s₁ B hml hP
  obtain ⟨rfl, hC, hP⟩ := hP
  have hl := lv_entry (vs.map (rv ad)) (n := mi.2.2.1) (by rw [ent_sl hv]; exact hn)
  rw [lg_entry_eq]
  refine h ad D cI cZ cA l p e s m _ below meth c ⟨B.exec, B.bytes, B.returns, hml, findClass_of_methodNamed B.named, B.notSynchronized, atoms_spec (ws := mW mi) B.pre, hC⟩ s.heap [] _ ⟨hl.1, hl.2.1, by simp [ent]; omega, fun i v hi => ?_⟩ hP va_S.rf
  refine hl.2.2 (i, rv ad v) ?_
  have : vs[i]? = some v := by
    unfold ent at hi
    by_cases hlt : i < vs.length
    · rw [List.getElem?_append_left (by simpa using hlt), List.getElem?_map] at hi
      cases h9 : vs[i]? with
      | none => rw [h9] at hi; cases hi
      | some w => rw [h9] at hi; simpa using hi
    · rw [List.getElem?_append_right (by simpa using hlt), List.getElem?_replicate] at hi
      split at hi <;> cases hi
  have := ent_args (ad := ad) hv 0 i v this
  rwa [Nat.zero_add] at this
/-- behind a call -/
theorem j_back {st0 rest : List PV} {a : Array Value} {ad : Nat → Nat} {D : va_G} {cI cZ cA : ClassId} {l : Launch} {p : Program} {e : Env} {s : State} {m : MethodId} {args : Array Value} {below : List Frame} {meth : Method} {c : Code} {H : Heap} {locs : List Loc} {ls : Array Slot} (h : jX mi ad D cI cZ cA SH p s m args meth c) (hl : wL ad ls mi.2.2.1 L) (hS : va_S (wF ad SH) s.heap H locs)
    (hr : va_Run p l e (mRm mi) s m args below meth c H locs 0 0 0 0 (F0 m pc ls (st0.map (rv ad))) (rest.map (rv ad)) (jQ ad D cI cZ cA SH Q1 a) (wF ad SH))
    (k : ∀ v M1, Q1 v M1 → J SH mi (pc + 3) L (v.toList ++ rest) M1 Q) :
    W p l e (mRm mi) s m args below meth c H locs 0 0 (MQ below (jQ ad D cI cZ cA SH Q) args s 0 0 (wF ad SH)) (F0 m pc ls (st0.map (rv ad))) := by
  intro T hT X
  obtain ⟨v, st₀, t, T', L', h0, X', hL, e1, e2, ⟨⟨v', M1, hv, hq, hp⟩, hz, hk⟩, st⟩ := hr T hT X
  cases hv
  rw [h0] at hz hk
  obtain ⟨t2, a1, b1⟩ := k v' M1 hq ad D cI cZ cA l p e s m args below meth c h T'.heap (locs ++ L') ls hl (by rw [e1]; exact hp)
    ⟨Nat.le_trans hS.1 (by rw [e1]; exact hz), fun q h1 h2 => by rw [e1, hk q (Nat.lt_of_lt_of_le h1 hS.1) h2]; exact hS.2.1 q h1 h2, fun q hq => by
      rcases List.mem_append.mp hq with h | h
      · exact hS.2.2 q h
      · exact hL q h⟩ T' rfl X'
  refine ⟨t2, st t2 ?_, b1⟩
  cases v' with
  | none => exact a1
  | some w => exact a1
theorem in_good (hg : ∀ w ∈ wTbl, (w.onTables && w.keeps) = true ∨ ∃ ty, w = .arrayClass ty) (hok : mOK mj) : ∀ w ∈ mW mj, w ∈ mW mi ∧ ((w.onTables && w.keeps) = true ∨ ∃ ty, w = .arrayClass ty) := by
  intro w hw
  rcases List.mem_cons.mp hw with rfl | hw
  · exact ⟨List.mem_cons_of_mem _ hok.2.1, hg _ hok.2.1⟩
  · exact ⟨List.mem_cons_of_mem _ hw, hg _ hw⟩
theorem lev_room (hok : mOK mj) (hlev : mj.2.2.2.2 < mi.2.2.2.2) : (mRm mj).frames + 1 ≤ (mRm mi).frames ∧ 8 + (mj.2.2.1 + 11) + (mRm mj).locals ≤ (mRm mi).locals := by
  have := hok.2.2.1
  simp only [mRm]
  omega
/-- instance call: the words that it needs -/
def vOK (own : String) (idx n : Nat) (mj : MI) : Prop := Cond.methodLink own idx mj.1 ∈ wTbl ∧ Cond.instanceMethod mj.1 ∈ wTbl ∧ Cond.selects mj.1.cls mj.1 mj.1 ∈ wTbl ∧ (parseMethodDescriptor mj.1.desc).map (fun d => d.parameters.length) = some n
def sOK (own : String) (idx n : Nat) (mj : MI) : Prop := Cond.methodLink own idx mj.1 ∈ wTbl ∧ Cond.static mj.1 ∈ wTbl ∧ (parseMethodDescriptor mj.1.desc).map (fun d => d.parameters.length) = some n
def nOK (own : String) (idx n : Nat) (mj : MI) : Prop := (own, idx, mj.1) ∈ nestL ∧ Cond.static mj.1 ∈ wTbl ∧ (parseMethodDescriptor mj.1.desc).map (fun d => d.parameters.length) = some n
def cOK (ci : Nat) (mj : MI) : Prop := ∃ q : vw_C, clW[ci]? = some q ∧ q.1 = mj.1.cls
theorem tbl_good : ∀ w ∈ wTbl, (w.onTables && w.keeps) = true ∨ ∃ ty, w = .arrayClass ty := by
  intro w hw
  exact good_of_word (List.mem_filter.mp hw).2
theorem rest8 {ad : Nat → Nat} {rest : List PV} (h : rest.length ≤ 4) : ((rest.map (rv ad)).map fun v => v.category).sum ≤ 8 := by
  have key : ∀ (r : List PV), ((r.map (rv ad)).map fun v => v.category).sum ≤ 2 * r.length := by
    intro r
    induction r with
    | nil => exact Nat.le_refl _
    | cons v r ih =>
      have : (rv ad v).category ≤ 2 := by
        rcases lv_cat (rv ad v) with q | q <;> omega
      simp only [List.map_cons, List.sum_cons, List.length_cons] at ih ⊢
      omega
  have := key rest
  omega
theorem j_V {idx ci r n len : Nat} {refs : List (Option Nat)} {As rest st0 : List PV} (hd : decode mi.2.1 pc = .ok (.invokevirtual idx, 3)) (hok : mOK mj) (hw : vOK mi.1.cls idx n mj) (hlev : mj.2.2.2.2 < mi.2.2.2.2) (hc : cOK ci mj) (hs : SH[r]? = some (ci + 3, len, refs)) (hn : As.length = n) (hnl : noLongs As = true) (hnL : n + 1 ≤ mj.2.2.1) (hr4 : rest.length ≤ 4) (hst : st0 = As.reverse ++ vR r :: rest)
    (h1 : J SH mj 0 (ent (vR r :: As) mj.2.2.1) [] M Q1) (k : ∀ v M1, Q1 v M1 → J SH mi (pc + 3) L (v.toList ++ rest) M1 Q) : J SH mi pc L st0 M Q := by
  intro ad D cI cZ cA l p e s m args below meth c h H locs ls hl hP hS
  obtain ⟨hx, hb, hret, hml, hown, hlk, hts, hC⟩ := id h
  obtain ⟨q, hq1, hq2⟩ := hc
  refine j_back (a := (Value.ref (ad r) :: As.map (rv ad)).toArray) h hl hS ?_ k
  refine va_runV (Ts := mW mi) (own := mi.1.cls) (C := mj.1.cls) (b := ad r) (As := As.map (rv ad)) (rest := rest.map (rv ad)) ⟨hx, hb, hml, hown, hts⟩ (j_met hok (vs := vR r :: As) (by simpa [noLongs] using hnl) (by simp [hn]; omega) h1 ad D cI cZ cA l) (cwV n hts ?_ rfl rfl rfl ⟨rfl, hok.2.2.2.1.1, hok.2.2.2.1.2, hw.2.2.2⟩ (lev_room hok hlev)) ⟨jP_blind, by rw [← hq2]; exact va_recv hC.2.1 hP hq1 (wW_get hs), fun U hU hW => ⟨rfl, wC_moved hC hS hU hW, by rw [hU]; exact hP⟩⟩ rfl (by simp [hn]) (hl.1) ?_ (lv_room (rest8 hr4)) hd ⟨Nat.le_refl _, Nat.le_refl _⟩
  · intro w hw0
    rcases List.mem_append.mp hw0 with h9 | h9
    · have hm : w ∈ wTbl := by
        simp only [List.mem_cons, List.not_mem_nil, or_false] at h9
        rcases h9 with rfl | rfl | rfl | rfl
        · exact hw.1
        · exact hw.2.1
        · exact hw.2.2.1
        · exact hok.2.2.2.2
      exact ⟨List.mem_cons_of_mem _ hm, tbl_good _ hm⟩
    · exact in_good tbl_good hok w h9
  · subst hst
    simp [rv]
theorem j_S {idx n : Nat} {As rest st0 : List PV} (hd : decode mi.2.1 pc = .ok (.invokestatic idx, 3)) (hok : mOK mj) (hw : sOK mi.1.cls idx n mj) (hlev : mj.2.2.2.2 < mi.2.2.2.2) (hn : As.length = n) (hnl : noLongs As = true) (hnL : n ≤ mj.2.2.1) (hr4 : rest.length ≤ 4) (hst : st0 = As.reverse ++ rest)
    (h1 : J SH mj 0 (ent As mj.2.2.1) [] M Q1) (k : ∀ v M1, Q1 v M1 → J SH mi (pc + 3) L (v.toList ++ rest) M1 Q) : J SH mi pc L st0 M Q := by
  intro ad D cI cZ cA l p e s m args below meth c h H locs ls hl hP hS
  obtain ⟨hx, hb, hret, hml, hown, hlk, hts, hC⟩ := id h
  refine j_back (a := (As.map (rv ad)).toArray) h hl hS ?_ k
  refine va_runS (Ts := mW mi) (own := mi.1.cls) (As := As.map (rv ad)) (rest := rest.map (rv ad)) ⟨hx, hb, hml, hown, hts⟩ (j_met hok (vs := As) hnl (by omega) h1 ad D cI cZ cA l) (va_cwS n hts ?_ rfl rfl rfl ⟨hok.2.2.2.1.1, hok.2.2.2.1.2, hw.2.2⟩ (lev_room hok hlev)) ⟨jP_blind, fun U hU hW => ⟨rfl, wC_moved hC hS hU hW, by rw [hU]; exact hP⟩⟩ rfl (by simp [hn]) (hl.1) ?_ (lv_room (rest8 hr4)) hd ⟨Nat.le_refl _, Nat.le_refl _⟩
  · intro w hw0
    rcases List.mem_append.mp hw0 with h9 | h9
    · have hm : w ∈ wTbl := by
        simp only [List.mem_cons, List.not_mem_nil, or_false] at h9
        rcases h9 with rfl | rfl | rfl
        · exact hw.1
        · exact hw.2.1
        · exact hok.2.2.2.2
      exact ⟨List.mem_cons_of_mem _ hm, tbl_good _ hm⟩
    · exact in_good tbl_good hok w h9
  · subst hst
    simp
theorem j_N {idx n : Nat} {As rest st0 : List PV} (hd : decode mi.2.1 pc = .ok (.invokestatic idx, 3)) (hok : mOK mj) (hw : nOK mi.1.cls idx n mj) (hlev : mj.2.2.2.2 < mi.2.2.2.2) (hn : As.length = n) (hnl : noLongs As = true) (hnL : n ≤ mj.2.2.1) (hr4 : rest.length ≤ 4) (hst : st0 = As.reverse ++ rest)
    (h1 : J SH mj 0 (ent As mj.2.2.1) [] M Q1) (k : ∀ v M1, Q1 v M1 → J SH mi (pc + 3) L (v.toList ++ rest) M1 Q) : J SH mi pc L st0 M Q := by
  intro ad D cI cZ cA l p e s m args below meth c h H locs ls hl hP hS
  obtain ⟨hx, hb, hret, hml, hown, hlk, hts, hC⟩ := id h
  refine j_back (a := (As.map (rv ad)).toArray) h hl hS ?_ k
  refine va_runSN (Ts := mW mi) (own := mi.1.cls) (host := "WallpaperGroups") (As := As.map (rv ad)) (rest := rest.map (rv ad)) ⟨hx, hb, hml, hown, hts⟩ (j_met hok (vs := As) hnl (by omega) h1 ad D cI cZ cA l) ⟨va_cnB n hts (in_good tbl_good hok) rfl rfl rfl (hC.2.2.2.2.2.2 _ hw.1) (hts _ (List.mem_cons_of_mem _ hok.2.2.2.2)) ⟨hok.2.2.2.1.1, hok.2.2.2.1.2, hw.2.2⟩ (lev_room hok hlev), hts _ (List.mem_cons_of_mem _ hw.2.1), trivial⟩ ⟨jP_blind, fun U hU hW => ⟨rfl, wC_moved hC hS hU hW, by rw [hU]; exact hP⟩⟩ rfl (by simp [hn]) (hl.1) ?_ (lv_room (rest8 hr4)) hd ⟨Nat.le_refl _, Nat.le_refl _⟩
  subst hst
  simp
end JC
end
section
set_option maxRecDepth 20000
theorem uX0 : ∀ w ∈ u_ws RX0 TX0 10, w ∈ wTbl := List.forall_mem_cons.mpr ⟨wTbl_1 139 (by rfl) (by decide +kernel), List.forall_mem_cons.mpr ⟨wTbl_1 141 (by rfl) (by decide +kernel), List.forall_mem_cons.mpr ⟨wTbl_1 143 (by rfl) (by decide +kernel), List.forall_mem_cons.mpr ⟨wTbl_1 145 (by rfl) (by decide +kernel), List.forall_mem_cons.mpr ⟨wTbl_1 147 (by rfl) (by decide +kernel), List.forall_mem_cons.mpr ⟨wTbl_1 149 (by rfl) (by decide +kernel), List.forall_mem_cons.mpr ⟨wTbl_1 151 (by rfl) (by decide +kernel), List.forall_mem_cons.mpr ⟨wTbl_1 153 (by rfl) (by decide +kernel), List.forall_mem_cons.mpr ⟨wTbl_1 155 (by rfl) (by decide +kernel), List.forall_mem_cons.mpr ⟨wTbl_1 157 (by rfl) (by decide +kernel), fun _ h => absurd h List.not_mem_nil⟩⟩⟩⟩⟩⟩⟩⟩⟩⟩
theorem uX1 : ∀ w ∈ u_ws RX1 TX1 5, w ∈ wTbl := List.forall_mem_cons.mpr ⟨wTbl_1 112 (by rfl) (by decide +kernel), List.forall_mem_cons.mpr ⟨wTbl_1 114 (by rfl) (by decide +kernel), List.forall_mem_cons.mpr ⟨wTbl_1 116 (by rfl) (by decide +kernel), List.forall_mem_cons.mpr ⟨wTbl_1 118 (by rfl) (by decide +kernel), List.forall_mem_cons.mpr ⟨wTbl_1 120 (by rfl) (by decide +kernel), fun _ h => absurd h List.not_mem_nil⟩⟩⟩⟩⟩
theorem uX2 : ∀ w ∈ u_ws RX2 TX2 2, w ∈ wTbl := List.forall_mem_cons.mpr ⟨wTbl_1 47 (by rfl) (by decide +kernel), List.forall_mem_cons.mpr ⟨wTbl_1 49 (by rfl) (by decide +kernel), fun _ h => absurd h List.not_mem_nil⟩⟩
theorem uX3 : ∀ w ∈ u_ws RX3 TX3 8, w ∈ wTbl := List.forall_mem_cons.mpr ⟨wTbl_1 83 (by rfl) (by decide +kernel), List.forall_mem_cons.mpr ⟨wTbl_1 85 (by rfl) (by decide +kernel), List.forall_mem_cons.mpr ⟨wTbl_1 87 (by rfl) (by decide +kernel), List.forall_mem_cons.mpr ⟨wTbl_1 89 (by rfl) (by decide +kernel), List.forall_mem_cons.mpr ⟨wTbl_1 91 (by rfl) (by decide +kernel), List.forall_mem_cons.mpr ⟨wTbl_1 93 (by rfl) (by decide +kernel), List.forall_mem_cons.mpr ⟨wTbl_1 95 (by rfl) (by decide +kernel), List.forall_mem_cons.mpr ⟨wTbl_1 97 (by rfl) (by decide +kernel), fun _ h => absurd h List.not_mem_nil⟩⟩⟩⟩⟩⟩⟩⟩
theorem uX4 : ∀ w ∈ u_ws RX4 TX4 2, w ∈ wTbl := List.forall_mem_cons.mpr ⟨wTbl_1 64 (by rfl) (by decide +kernel), List.forall_mem_cons.mpr ⟨wTbl_1 66 (by rfl) (by decide +kernel), fun _ h => absurd h List.not_mem_nil⟩⟩
theorem uX5 : ∀ w ∈ u_ws RX5 TX5 2, w ∈ wTbl := List.forall_mem_cons.mpr ⟨wTbl_1 31 (by rfl) (by decide +kernel), List.forall_mem_cons.mpr ⟨wTbl_1 33 (by rfl) (by decide +kernel), fun _ h => absurd h List.not_mem_nil⟩⟩
theorem uX6 : ∀ w ∈ u_ws RX6 TX6 6, w ∈ wTbl := List.forall_mem_cons.mpr ⟨wTbl_2 66 (by rfl) (by decide +kernel), List.forall_mem_cons.mpr ⟨wTbl_2 68 (by rfl) (by decide +kernel), List.forall_mem_cons.mpr ⟨wTbl_2 70 (by rfl) (by decide +kernel), List.forall_mem_cons.mpr ⟨wTbl_2 72 (by rfl) (by decide +kernel), List.forall_mem_cons.mpr ⟨wTbl_2 74 (by rfl) (by decide +kernel), List.forall_mem_cons.mpr ⟨wTbl_2 76 (by rfl) (by decide +kernel), fun _ h => absurd h List.not_mem_nil⟩⟩⟩⟩⟩⟩
theorem uX7 : ∀ w ∈ u_ws RX7 TX7 9, w ∈ wTbl := List.forall_mem_cons.mpr ⟨wTbl_4 55 (by rfl) (by decide +kernel), List.forall_mem_cons.mpr ⟨wTbl_4 57 (by rfl) (by decide +kernel), List.forall_mem_cons.mpr ⟨wTbl_4 59 (by rfl) (by decide +kernel), List.forall_mem_cons.mpr ⟨wTbl_4 61 (by rfl) (by decide +kernel), List.forall_mem_cons.mpr ⟨wTbl_4 63 (by rfl) (by decide +kernel), List.forall_mem_cons.mpr ⟨wTbl_4 65 (by rfl) (by decide +kernel), List.forall_mem_cons.mpr ⟨wTbl_4 67 (by rfl) (by decide +kernel), List.forall_mem_cons.mpr ⟨wTbl_4 69 (by rfl) (by decide +kernel), List.forall_mem_cons.mpr ⟨wTbl_4 71 (by rfl) (by decide +kernel), fun _ h => absurd h List.not_mem_nil⟩⟩⟩⟩⟩⟩⟩⟩⟩
abbrev mi_X6_refresh : MI := (yX6_refresh, cX6_refresh, 1, none, 7)
theorem ok_X6_refresh : mOK mi_X6_refresh := ⟨by decide +kernel, wTbl_1 163 (by rfl) (by decide +kernel), by decide, ⟨by decide +kernel, by decide +kernel⟩, wTbl_1 1 (by rfl) (by decide +kernel)⟩
abbrev mi_X3_rebuild : MI := (yX3_rebuild, cX3_rebuild, 3, none, 4)
theorem ok_X3_rebuild : mOK mi_X3_rebuild := ⟨by decide +kernel, wTbl_1 167 (by rfl) (by decide +kernel), by decide, ⟨by decide +kernel, by decide +kernel⟩, wTbl_1 5 (by rfl) (by decide +kernel)⟩
abbrev mi_X6_clearMarks : MI := (yX6_clearMarks, cX6_clearMarks, 2, none, 0)
theorem ok_X6_clearMarks : mOK mi_X6_clearMarks := ⟨by decide +kernel, wTbl_1 170 (by rfl) (by decide +kernel), by decide, ⟨by decide +kernel, by decide +kernel⟩, wTbl_1 1 (by rfl) (by decide +kernel)⟩
abbrev mi_X3_admit : MI := (yX3_admit, cX3_admit, 2, none, 1)
theorem ok_X3_admit : mOK mi_X3_admit := ⟨by decide +kernel, wTbl_1 174 (by rfl) (by decide +kernel), by decide, ⟨by decide +kernel, by decide +kernel⟩, wTbl_1 5 (by rfl) (by decide +kernel)⟩
abbrev mi_X6_isInside : MI := (yX6_isInside, cX6_isInside, 2, some .boolean, 0)
theorem ok_X6_isInside : mOK mi_X6_isInside := ⟨by decide +kernel, wTbl_1 177 (by rfl) (by decide +kernel), by decide, ⟨by decide +kernel, by decide +kernel⟩, wTbl_1 1 (by rfl) (by decide +kernel)⟩
abbrev mi_X2_codeAt : MI := (yX2_codeAt, cX2_codeAt, 2, some .int, 1)
theorem ok_X2_codeAt : mOK mi_X2_codeAt := ⟨by decide +kernel, wTbl_1 181 (by rfl) (by decide +kernel), by decide, ⟨by decide +kernel, by decide +kernel⟩, wTbl_1 3 (by rfl) (by decide +kernel)⟩
abbrev mi_X5_times : MI := (yX5_times, cX5_times, 6, some .int, 3)
theorem ok_X5_times : mOK mi_X5_times := ⟨by decide +kernel, wTbl_1 186 (by rfl) (by decide +kernel), by decide, ⟨by decide +kernel, by decide +kernel⟩, wTbl_1 2 (by rfl) (by decide +kernel)⟩
abbrev mi_X5_partOf : MI := (yX5_partOf, cX5_partOf, 2, some .int, 1)
theorem ok_X5_partOf : mOK mi_X5_partOf := ⟨by decide +kernel, wTbl_1 190 (by rfl) (by decide +kernel), by decide, ⟨by decide +kernel, by decide +kernel⟩, wTbl_1 2 (by rfl) (by decide +kernel)⟩
abbrev mi_X5_cellCount : MI := (yX5_cellCount, cX5_cellCount, 1, some .int, 0)
theorem ok_X5_cellCount : mOK mi_X5_cellCount := ⟨by decide +kernel, wTbl_1 194 (by rfl) (by decide +kernel), by decide, ⟨by decide +kernel, by decide +kernel⟩, wTbl_1 2 (by rfl) (by decide +kernel)⟩
abbrev mi_X6_quotient : MI := (yX6_quotient, cX6_quotient, 2, some .int, 0)
theorem ok_X6_quotient : mOK mi_X6_quotient := ⟨by decide +kernel, wTbl_1 197 (by rfl) (by decide +kernel), by decide, ⟨by decide +kernel, by decide +kernel⟩, wTbl_1 1 (by rfl) (by decide +kernel)⟩
abbrev mi_X5_shiftX : MI := (yX5_shiftX, cX5_shiftX, 2, some .int, 2)
theorem ok_X5_shiftX : mOK mi_X5_shiftX := ⟨by decide +kernel, wTbl_1 201 (by rfl) (by decide +kernel), by decide, ⟨by decide +kernel, by decide +kernel⟩, wTbl_1 2 (by rfl) (by decide +kernel)⟩
abbrev mi_X6_remainder : MI := (yX6_remainder, cX6_remainder, 2, some .int, 1)
theorem ok_X6_remainder : mOK mi_X6_remainder := ⟨by decide +kernel, wTbl_1 204 (by rfl) (by decide +kernel), by decide, ⟨by decide +kernel, by decide +kernel⟩, wTbl_1 1 (by rfl) (by decide +kernel)⟩
abbrev mi_J9_floorMod_7cf53 : MI := (yJ9_floorMod_7cf53, cJ9_floorMod_7cf53, 3, some .int, 0)
theorem ok_J9_floorMod_7cf53 : mOK mi_J9_floorMod_7cf53 := ⟨by decide +kernel, wTbl_1 207 (by rfl) (by decide +kernel), by decide, ⟨by decide +kernel, by decide +kernel⟩, wTbl_1 8 (by rfl) (by decide +kernel)⟩
abbrev mi_X5_shiftY : MI := (yX5_shiftY, cX5_shiftY, 2, some .int, 2)
theorem ok_X5_shiftY : mOK mi_X5_shiftY := ⟨by decide +kernel, wTbl_1 211 (by rfl) (by decide +kernel), by decide, ⟨by decide +kernel, by decide +kernel⟩, wTbl_1 2 (by rfl) (by decide +kernel)⟩
abbrev mi_X5_imageX : MI := (yX5_imageX, cX5_imageX, 4, some .int, 2)
theorem ok_X5_imageX : mOK mi_X5_imageX := ⟨by decide +kernel, wTbl_1 215 (by rfl) (by decide +kernel), by decide, ⟨by decide +kernel, by decide +kernel⟩, wTbl_1 2 (by rfl) (by decide +kernel)⟩
abbrev mi_X5_entry : MI := (yX5_entry, cX5_entry, 5, some .int, 1)
theorem ok_X5_entry : mOK mi_X5_entry := ⟨by decide +kernel, wTbl_1 219 (by rfl) (by decide +kernel), by decide, ⟨by decide +kernel, by decide +kernel⟩, wTbl_1 2 (by rfl) (by decide +kernel)⟩
abbrev mi_X5_wrap : MI := (yX5_wrap, cX5_wrap, 2, some .int, 2)
theorem ok_X5_wrap : mOK mi_X5_wrap := ⟨by decide +kernel, wTbl_1 228 (by rfl) (by decide +kernel), by decide, ⟨by decide +kernel, by decide +kernel⟩, wTbl_1 2 (by rfl) (by decide +kernel)⟩
abbrev mi_X5_imageY : MI := (yX5_imageY, cX5_imageY, 4, some .int, 2)
theorem ok_X5_imageY : mOK mi_X5_imageY := ⟨by decide +kernel, wTbl_1 232 (by rfl) (by decide +kernel), by decide, ⟨by decide +kernel, by decide +kernel⟩, wTbl_1 2 (by rfl) (by decide +kernel)⟩
abbrev mi_X5_timesPart : MI := (yX5_timesPart, cX5_timesPart, 7, some .int, 2)
theorem ok_X5_timesPart : mOK mi_X5_timesPart := ⟨by decide +kernel, wTbl_1 236 (by rfl) (by decide +kernel), by decide, ⟨by decide +kernel, by decide +kernel⟩, wTbl_1 2 (by rfl) (by decide +kernel)⟩
abbrev mi_X5_turns : MI := (yX5_turns, cX5_turns, 1, some .int, 0)
theorem ok_X5_turns : mOK mi_X5_turns := ⟨by decide +kernel, wTbl_2 0 (by rfl) (by decide +kernel), by decide, ⟨by decide +kernel, by decide +kernel⟩, wTbl_1 2 (by rfl) (by decide +kernel)⟩
abbrev mi_X5_codeOf : MI := (yX5_codeOf, cX5_codeOf, 4, some .int, 1)
theorem ok_X5_codeOf : mOK mi_X5_codeOf := ⟨by decide +kernel, wTbl_2 4 (by rfl) (by decide +kernel), by decide, ⟨by decide +kernel, by decide +kernel⟩, wTbl_1 2 (by rfl) (by decide +kernel)⟩
abbrev mi_X5_cellOf : MI := (yX5_cellOf, cX5_cellOf, 3, some .int, 0)
theorem ok_X5_cellOf : mOK mi_X5_cellOf := ⟨by decide +kernel, wTbl_2 8 (by rfl) (by decide +kernel), by decide, ⟨by decide +kernel, by decide +kernel⟩, wTbl_1 2 (by rfl) (by decide +kernel)⟩
abbrev mi_X3_listByCode : MI := (yX3_listByCode, cX3_listByCode, 3, none, 0)
theorem ok_X3_listByCode : mOK mi_X3_listByCode := ⟨by decide +kernel, wTbl_2 12 (by rfl) (by decide +kernel), by decide, ⟨by decide +kernel, by decide +kernel⟩, wTbl_1 5 (by rfl) (by decide +kernel)⟩
abbrev mi_X1_survey : MI := (yX1_survey, cX1_survey, 2, none, 6)
theorem ok_X1_survey : mOK mi_X1_survey := ⟨by decide +kernel, wTbl_2 16 (by rfl) (by decide +kernel), by decide, ⟨by decide +kernel, by decide +kernel⟩, wTbl_1 6 (by rfl) (by decide +kernel)⟩
abbrev mi_X3_size : MI := (yX3_size, cX3_size, 1, some .int, 0)
theorem ok_X3_size : mOK mi_X3_size := ⟨by decide +kernel, wTbl_2 21 (by rfl) (by decide +kernel), by decide, ⟨by decide +kernel, by decide +kernel⟩, wTbl_1 5 (by rfl) (by decide +kernel)⟩
abbrev mi_X3_elementAt : MI := (yX3_elementAt, cX3_elementAt, 2, some .int, 1)
theorem ok_X3_elementAt : mOK mi_X3_elementAt := ⟨by decide +kernel, wTbl_2 25 (by rfl) (by decide +kernel), by decide, ⟨by decide +kernel, by decide +kernel⟩, wTbl_1 5 (by rfl) (by decide +kernel)⟩
abbrev mi_X1_note : MI := (yX1_note, cX1_note, 4, none, 5)
theorem ok_X1_note : mOK mi_X1_note := ⟨by decide +kernel, wTbl_2 29 (by rfl) (by decide +kernel), by decide, ⟨by decide +kernel, by decide +kernel⟩, wTbl_1 6 (by rfl) (by decide +kernel)⟩
abbrev mi_X5_kindNumber : MI := (yX5_kindNumber, cX5_kindNumber, 3, some .int, 4)
theorem ok_X5_kindNumber : mOK mi_X5_kindNumber := ⟨by decide +kernel, wTbl_2 34 (by rfl) (by decide +kernel), by decide, ⟨by decide +kernel, by decide +kernel⟩, wTbl_1 2 (by rfl) (by decide +kernel)⟩
abbrev mi_X5_isReflection : MI := (yX5_isReflection, cX5_isReflection, 5, some .boolean, 3)
theorem ok_X5_isReflection : mOK mi_X5_isReflection := ⟨by decide +kernel, wTbl_2 38 (by rfl) (by decide +kernel), by decide, ⟨by decide +kernel, by decide +kernel⟩, wTbl_1 2 (by rfl) (by decide +kernel)⟩
abbrev mi_X0_findOrbits : MI := (yX0_findOrbits, cX0_findOrbits, 2, none, 5)
theorem ok_X0_findOrbits : mOK mi_X0_findOrbits := ⟨by decide +kernel, wTbl_2 43 (by rfl) (by decide +kernel), by decide, ⟨by decide +kernel, by decide +kernel⟩, wTbl_1 7 (by rfl) (by decide +kernel)⟩
abbrev mi_X0_findOrbit : MI := (yX0_findOrbit, cX0_findOrbit, 4, none, 4)
theorem ok_X0_findOrbit : mOK mi_X0_findOrbit := ⟨by decide +kernel, wTbl_2 49 (by rfl) (by decide +kernel), by decide, ⟨by decide +kernel, by decide +kernel⟩, wTbl_1 7 (by rfl) (by decide +kernel)⟩
abbrev mi_X0_reach : MI := (yX0_reach, cX0_reach, 2, none, 1)
theorem ok_X0_reach : mOK mi_X0_reach := ⟨by decide +kernel, wTbl_2 53 (by rfl) (by decide +kernel), by decide, ⟨by decide +kernel, by decide +kernel⟩, wTbl_1 7 (by rfl) (by decide +kernel)⟩
abbrev mi_X5_imageOfCell : MI := (yX5_imageOfCell, cX5_imageOfCell, 6, some .int, 3)
theorem ok_X5_imageOfCell : mOK mi_X5_imageOfCell := ⟨by decide +kernel, wTbl_2 59 (by rfl) (by decide +kernel), by decide, ⟨by decide +kernel, by decide +kernel⟩, wTbl_1 2 (by rfl) (by decide +kernel)⟩
abbrev mi_X6_setLattice : MI := (yX6_setLattice, cX6_setLattice, 4, some .int, 8)
theorem ok_X6_setLattice : mOK mi_X6_setLattice := ⟨by decide +kernel, wTbl_2 82 (by rfl) (by decide +kernel), by decide, ⟨by decide +kernel, by decide +kernel⟩, wTbl_1 1 (by rfl) (by decide +kernel)⟩
abbrev mi_X4_save : MI := (yX4_save, cX4_save, 3, none, 3)
theorem ok_X4_save : mOK mi_X4_save := ⟨by decide +kernel, wTbl_2 86 (by rfl) (by decide +kernel), by decide, ⟨by decide +kernel, by decide +kernel⟩, wTbl_1 4 (by rfl) (by decide +kernel)⟩
abbrev mi_X4_forgetOldest : MI := (yX4_forgetOldest, cX4_forgetOldest, 3, none, 0)
theorem ok_X4_forgetOldest : mOK mi_X4_forgetOldest := ⟨by decide +kernel, wTbl_2 90 (by rfl) (by decide +kernel), by decide, ⟨by decide +kernel, by decide +kernel⟩, wTbl_1 4 (by rfl) (by decide +kernel)⟩
abbrev mi_X4_write : MI := (yX4_write, cX4_write, 4, none, 2)
theorem ok_X4_write : mOK mi_X4_write := ⟨by decide +kernel, wTbl_2 94 (by rfl) (by decide +kernel), by decide, ⟨by decide +kernel, by decide +kernel⟩, wTbl_1 4 (by rfl) (by decide +kernel)⟩
abbrev mi_X5_choose : MI := (yX5_choose, cX5_choose, 3, none, 0)
theorem ok_X5_choose : mOK mi_X5_choose := ⟨by decide +kernel, wTbl_2 99 (by rfl) (by decide +kernel), by decide, ⟨by decide +kernel, by decide +kernel⟩, wTbl_1 2 (by rfl) (by decide +kernel)⟩
abbrev mi_X2_clear : MI := (yX2_clear, cX2_clear, 1, none, 0)
theorem ok_X2_clear : mOK mi_X2_clear := ⟨by decide +kernel, wTbl_2 103 (by rfl) (by decide +kernel), by decide, ⟨by decide +kernel, by decide +kernel⟩, wTbl_1 3 (by rfl) (by decide +kernel)⟩
abbrev mi_X6_addGenerator : MI := (yX6_addGenerator, cX6_addGenerator, 4, some .int, 8)
theorem ok_X6_addGenerator : mOK mi_X6_addGenerator := ⟨by decide +kernel, wTbl_2 107 (by rfl) (by decide +kernel), by decide, ⟨by decide +kernel, by decide +kernel⟩, wTbl_1 1 (by rfl) (by decide +kernel)⟩
abbrev mi_X5_hasMovement : MI := (yX5_hasMovement, cX5_hasMovement, 4, some .boolean, 2)
theorem ok_X5_hasMovement : mOK mi_X5_hasMovement := ⟨by decide +kernel, wTbl_2 111 (by rfl) (by decide +kernel), by decide, ⟨by decide +kernel, by decide +kernel⟩, wTbl_1 2 (by rfl) (by decide +kernel)⟩
abbrev mi_X5_parts : MI := (yX5_parts, cX5_parts, 1, some .int, 1)
theorem ok_X5_parts : mOK mi_X5_parts := ⟨by decide +kernel, wTbl_2 115 (by rfl) (by decide +kernel), by decide, ⟨by decide +kernel, by decide +kernel⟩, wTbl_1 2 (by rfl) (by decide +kernel)⟩
abbrev mi_X5_hasCell : MI := (yX5_hasCell, cX5_hasCell, 3, some .boolean, 1)
theorem ok_X5_hasCell : mOK mi_X5_hasCell := ⟨by decide +kernel, wTbl_2 119 (by rfl) (by decide +kernel), by decide, ⟨by decide +kernel, by decide +kernel⟩, wTbl_1 2 (by rfl) (by decide +kernel)⟩
abbrev mi_X2_isFull : MI := (yX2_isFull, cX2_isFull, 1, some .boolean, 0)
theorem ok_X2_isFull : mOK mi_X2_isFull := ⟨by decide +kernel, wTbl_2 123 (by rfl) (by decide +kernel), by decide, ⟨by decide +kernel, by decide +kernel⟩, wTbl_1 3 (by rfl) (by decide +kernel)⟩
abbrev mi_X2_append : MI := (yX2_append, cX2_append, 2, none, 2)
theorem ok_X2_append : mOK mi_X2_append := ⟨by decide +kernel, wTbl_2 128 (by rfl) (by decide +kernel), by decide, ⟨by decide +kernel, by decide +kernel⟩, wTbl_1 3 (by rfl) (by decide +kernel)⟩
abbrev mi_X2_replace : MI := (yX2_replace, cX2_replace, 3, none, 1)
theorem ok_X2_replace : mOK mi_X2_replace := ⟨by decide +kernel, wTbl_2 133 (by rfl) (by decide +kernel), by decide, ⟨by decide +kernel, by decide +kernel⟩, wTbl_1 3 (by rfl) (by decide +kernel)⟩
abbrev mi_X6_removeGenerator : MI := (yX6_removeGenerator, cX6_removeGenerator, 2, some .int, 8)
theorem ok_X6_removeGenerator : mOK mi_X6_removeGenerator := ⟨by decide +kernel, wTbl_2 138 (by rfl) (by decide +kernel), by decide, ⟨by decide +kernel, by decide +kernel⟩, wTbl_1 1 (by rfl) (by decide +kernel)⟩
abbrev mi_X2_has : MI := (yX2_has, cX2_has, 2, some .boolean, 1)
theorem ok_X2_has : mOK mi_X2_has := ⟨by decide +kernel, wTbl_2 142 (by rfl) (by decide +kernel), by decide, ⟨by decide +kernel, by decide +kernel⟩, wTbl_1 3 (by rfl) (by decide +kernel)⟩
abbrev mi_X2_removeAt : MI := (yX2_removeAt, cX2_removeAt, 3, none, 2)
theorem ok_X2_removeAt : mOK mi_X2_removeAt := ⟨by decide +kernel, wTbl_2 146 (by rfl) (by decide +kernel), by decide, ⟨by decide +kernel, by decide +kernel⟩, wTbl_1 3 (by rfl) (by decide +kernel)⟩
abbrev mi_X6_setGenerator : MI := (yX6_setGenerator, cX6_setGenerator, 6, some .int, 8)
theorem ok_X6_setGenerator : mOK mi_X6_setGenerator := ⟨by decide +kernel, wTbl_2 152 (by rfl) (by decide +kernel), by decide, ⟨by decide +kernel, by decide +kernel⟩, wTbl_1 1 (by rfl) (by decide +kernel)⟩
abbrev mi_X6_undo : MI := (yX6_undo, cX6_undo, 1, some .int, 8)
theorem ok_X6_undo : mOK mi_X6_undo := ⟨by decide +kernel, wTbl_2 158 (by rfl) (by decide +kernel), by decide, ⟨by decide +kernel, by decide +kernel⟩, wTbl_1 1 (by rfl) (by decide +kernel)⟩
abbrev mi_X4_isEmpty : MI := (yX4_isEmpty, cX4_isEmpty, 1, some .boolean, 0)
theorem ok_X4_isEmpty : mOK mi_X4_isEmpty := ⟨by decide +kernel, wTbl_2 162 (by rfl) (by decide +kernel), by decide, ⟨by decide +kernel, by decide +kernel⟩, wTbl_1 4 (by rfl) (by decide +kernel)⟩
abbrev mi_X4_restore : MI := (yX4_restore, cX4_restore, 3, none, 3)
theorem ok_X4_restore : mOK mi_X4_restore := ⟨by decide +kernel, wTbl_2 166 (by rfl) (by decide +kernel), by decide, ⟨by decide +kernel, by decide +kernel⟩, wTbl_1 4 (by rfl) (by decide +kernel)⟩
abbrev mi_X4_read : MI := (yX4_read, cX4_read, 4, none, 2)
theorem ok_X4_read : mOK mi_X4_read := ⟨by decide +kernel, wTbl_2 169 (by rfl) (by decide +kernel), by decide, ⟨by decide +kernel, by decide +kernel⟩, wTbl_1 4 (by rfl) (by decide +kernel)⟩
abbrev mi_X6_generator : MI := (yX6_generator, cX6_generator, 2, some .int, 2)
theorem ok_X6_generator : mOK mi_X6_generator := ⟨by decide +kernel, wTbl_2 175 (by rfl) (by decide +kernel), by decide, ⟨by decide +kernel, by decide +kernel⟩, wTbl_1 1 (by rfl) (by decide +kernel)⟩
abbrev mi_X6_order : MI := (yX6_order, cX6_order, 1, some .int, 1)
theorem ok_X6_order : mOK mi_X6_order := ⟨by decide +kernel, wTbl_2 179 (by rfl) (by decide +kernel), by decide, ⟨by decide +kernel, by decide +kernel⟩, wTbl_1 1 (by rfl) (by decide +kernel)⟩
abbrev mi_X6_element : MI := (yX6_element, cX6_element, 2, some .int, 2)
theorem ok_X6_element : mOK mi_X6_element := ⟨by decide +kernel, wTbl_2 183 (by rfl) (by decide +kernel), by decide, ⟨by decide +kernel, by decide +kernel⟩, wTbl_1 1 (by rfl) (by decide +kernel)⟩
abbrev mi_X6_contains : MI := (yX6_contains, cX6_contains, 2, some .int, 4)
theorem ok_X6_contains : mOK mi_X6_contains := ⟨by decide +kernel, wTbl_2 188 (by rfl) (by decide +kernel), by decide, ⟨by decide +kernel, by decide +kernel⟩, wTbl_1 1 (by rfl) (by decide +kernel)⟩
abbrev mi_X5_hasCode : MI := (yX5_hasCode, cX5_hasCode, 2, some .boolean, 3)
theorem ok_X5_hasCode : mOK mi_X5_hasCode := ⟨by decide +kernel, wTbl_2 192 (by rfl) (by decide +kernel), by decide, ⟨by decide +kernel, by decide +kernel⟩, wTbl_1 2 (by rfl) (by decide +kernel)⟩
abbrev mi_X5_codes : MI := (yX5_codes, cX5_codes, 1, some .int, 2)
theorem ok_X5_codes : mOK mi_X5_codes := ⟨by decide +kernel, wTbl_2 196 (by rfl) (by decide +kernel), by decide, ⟨by decide +kernel, by decide +kernel⟩, wTbl_1 2 (by rfl) (by decide +kernel)⟩
abbrev mi_X3_has : MI := (yX3_has, cX3_has, 2, some .boolean, 1)
theorem ok_X3_has : mOK mi_X3_has := ⟨by decide +kernel, wTbl_2 200 (by rfl) (by decide +kernel), by decide, ⟨by decide +kernel, by decide +kernel⟩, wTbl_1 5 (by rfl) (by decide +kernel)⟩
abbrev mi_X6_oneIf : MI := (yX6_oneIf, cX6_oneIf, 1, some .int, 0)
theorem ok_X6_oneIf : mOK mi_X6_oneIf := ⟨by decide +kernel, wTbl_2 203 (by rfl) (by decide +kernel), by decide, ⟨by decide +kernel, by decide +kernel⟩, wTbl_1 1 (by rfl) (by decide +kernel)⟩
abbrev mi_X6_product : MI := (yX6_product, cX6_product, 3, some .int, 4)
theorem ok_X6_product : mOK mi_X6_product := ⟨by decide +kernel, wTbl_2 207 (by rfl) (by decide +kernel), by decide, ⟨by decide +kernel, by decide +kernel⟩, wTbl_1 1 (by rfl) (by decide +kernel)⟩
abbrev mi_X6_orderOf : MI := (yX6_orderOf, cX6_orderOf, 2, some .int, 5)
theorem ok_X6_orderOf : mOK mi_X6_orderOf := ⟨by decide +kernel, wTbl_2 212 (by rfl) (by decide +kernel), by decide, ⟨by decide +kernel, by decide +kernel⟩, wTbl_1 1 (by rfl) (by decide +kernel)⟩
abbrev mi_X5_factorsToIdentity : MI := (yX5_factorsToIdentity, cX5_factorsToIdentity, 4, some .int, 4)
theorem ok_X5_factorsToIdentity : mOK mi_X5_factorsToIdentity := ⟨by decide +kernel, wTbl_2 216 (by rfl) (by decide +kernel), by decide, ⟨by decide +kernel, by decide +kernel⟩, wTbl_1 2 (by rfl) (by decide +kernel)⟩
abbrev mi_X6_kindOf : MI := (yX6_kindOf, cX6_kindOf, 2, some .int, 5)
theorem ok_X6_kindOf : mOK mi_X6_kindOf := ⟨by decide +kernel, wTbl_2 221 (by rfl) (by decide +kernel), by decide, ⟨by decide +kernel, by decide +kernel⟩, wTbl_1 1 (by rfl) (by decide +kernel)⟩
abbrev mi_X6_count : MI := (yX6_count, cX6_count, 2, some .int, 2)
theorem ok_X6_count : mOK mi_X6_count := ⟨by decide +kernel, wTbl_2 226 (by rfl) (by decide +kernel), by decide, ⟨by decide +kernel, by decide +kernel⟩, wTbl_1 1 (by rfl) (by decide +kernel)⟩
abbrev mi_X1_elementsOfKind : MI := (yX1_elementsOfKind, cX1_elementsOfKind, 2, some .int, 1)
theorem ok_X1_elementsOfKind : mOK mi_X1_elementsOfKind := ⟨by decide +kernel, wTbl_2 230 (by rfl) (by decide +kernel), by decide, ⟨by decide +kernel, by decide +kernel⟩, wTbl_1 6 (by rfl) (by decide +kernel)⟩
abbrev mi_X6_isAbelian : MI := (yX6_isAbelian, cX6_isAbelian, 1, some .int, 5)
theorem ok_X6_isAbelian : mOK mi_X6_isAbelian := ⟨by decide +kernel, wTbl_2 234 (by rfl) (by decide +kernel), by decide, ⟨by decide +kernel, by decide +kernel⟩, wTbl_1 1 (by rfl) (by decide +kernel)⟩
abbrev mi_X3_commutes : MI := (yX3_commutes, cX3_commutes, 5, some .boolean, 4)
theorem ok_X3_commutes : mOK mi_X3_commutes := ⟨by decide +kernel, wTbl_2 238 (by rfl) (by decide +kernel), by decide, ⟨by decide +kernel, by decide +kernel⟩, wTbl_1 5 (by rfl) (by decide +kernel)⟩
abbrev mi_X6_conjugacyClasses : MI := (yX6_conjugacyClasses, cX6_conjugacyClasses, 1, some .int, 6)
theorem ok_X6_conjugacyClasses : mOK mi_X6_conjugacyClasses := ⟨by decide +kernel, wTbl_3 2 (by rfl) (by decide +kernel), by decide, ⟨by decide +kernel, by decide +kernel⟩, wTbl_1 1 (by rfl) (by decide +kernel)⟩
abbrev mi_X3_countConjugacyClasses : MI := (yX3_countConjugacyClasses, cX3_countConjugacyClasses, 4, some .int, 5)
theorem ok_X3_countConjugacyClasses : mOK mi_X3_countConjugacyClasses := ⟨by decide +kernel, wTbl_3 6 (by rfl) (by decide +kernel), by decide, ⟨by decide +kernel, by decide +kernel⟩, wTbl_1 5 (by rfl) (by decide +kernel)⟩
abbrev mi_X3_classify : MI := (yX3_classify, cX3_classify, 5, none, 4)
theorem ok_X3_classify : mOK mi_X3_classify := ⟨by decide +kernel, wTbl_3 10 (by rfl) (by decide +kernel), by decide, ⟨by decide +kernel, by decide +kernel⟩, wTbl_1 5 (by rfl) (by decide +kernel)⟩
abbrev mi_X3_admitToClass : MI := (yX3_admitToClass, cX3_admitToClass, 2, none, 1)
theorem ok_X3_admitToClass : mOK mi_X3_admitToClass := ⟨by decide +kernel, wTbl_3 14 (by rfl) (by decide +kernel), by decide, ⟨by decide +kernel, by decide +kernel⟩, wTbl_1 5 (by rfl) (by decide +kernel)⟩
abbrev mi_X5_inverseOf : MI := (yX5_inverseOf, cX5_inverseOf, 5, some .int, 3)
theorem ok_X5_inverseOf : mOK mi_X5_inverseOf := ⟨by decide +kernel, wTbl_3 18 (by rfl) (by decide +kernel), by decide, ⟨by decide +kernel, by decide +kernel⟩, wTbl_1 2 (by rfl) (by decide +kernel)⟩
abbrev mi_X5_inversePart : MI := (yX5_inversePart, cX5_inversePart, 2, some .int, 2)
theorem ok_X5_inversePart : mOK mi_X5_inversePart := ⟨by decide +kernel, wTbl_3 22 (by rfl) (by decide +kernel), by decide, ⟨by decide +kernel, by decide +kernel⟩, wTbl_1 2 (by rfl) (by decide +kernel)⟩
abbrev mi_X6_linearParts : MI := (yX6_linearParts, cX6_linearParts, 1, some .int, 2)
theorem ok_X6_linearParts : mOK mi_X6_linearParts := ⟨by decide +kernel, wTbl_3 26 (by rfl) (by decide +kernel), by decide, ⟨by decide +kernel, by decide +kernel⟩, wTbl_1 1 (by rfl) (by decide +kernel)⟩
abbrev mi_X1_countParts : MI := (yX1_countParts, cX1_countParts, 1, some .int, 1)
theorem ok_X1_countParts : mOK mi_X1_countParts := ⟨by decide +kernel, wTbl_3 30 (by rfl) (by decide +kernel), by decide, ⟨by decide +kernel, by decide +kernel⟩, wTbl_1 6 (by rfl) (by decide +kernel)⟩
abbrev mi_X6_countMarks : MI := (yX6_countMarks, cX6_countMarks, 3, some .int, 0)
theorem ok_X6_countMarks : mOK mi_X6_countMarks := ⟨by decide +kernel, wTbl_3 33 (by rfl) (by decide +kernel), by decide, ⟨by decide +kernel, by decide +kernel⟩, wTbl_1 1 (by rfl) (by decide +kernel)⟩
abbrev mi_X6_rotationOrder : MI := (yX6_rotationOrder, cX6_rotationOrder, 1, some .int, 4)
theorem ok_X6_rotationOrder : mOK mi_X6_rotationOrder := ⟨by decide +kernel, wTbl_3 37 (by rfl) (by decide +kernel), by decide, ⟨by decide +kernel, by decide +kernel⟩, wTbl_1 1 (by rfl) (by decide +kernel)⟩
abbrev mi_X1_greatestTurnOrder : MI := (yX1_greatestTurnOrder, cX1_greatestTurnOrder, 3, some .int, 3)
theorem ok_X1_greatestTurnOrder : mOK mi_X1_greatestTurnOrder := ⟨by decide +kernel, wTbl_3 41 (by rfl) (by decide +kernel), by decide, ⟨by decide +kernel, by decide +kernel⟩, wTbl_1 6 (by rfl) (by decide +kernel)⟩
abbrev mi_X1_occurs : MI := (yX1_occurs, cX1_occurs, 2, some .boolean, 1)
theorem ok_X1_occurs : mOK mi_X1_occurs := ⟨by decide +kernel, wTbl_3 46 (by rfl) (by decide +kernel), by decide, ⟨by decide +kernel, by decide +kernel⟩, wTbl_1 6 (by rfl) (by decide +kernel)⟩
abbrev mi_X5_turnOrder : MI := (yX5_turnOrder, cX5_turnOrder, 3, some .int, 2)
theorem ok_X5_turnOrder : mOK mi_X5_turnOrder := ⟨by decide +kernel, wTbl_3 50 (by rfl) (by decide +kernel), by decide, ⟨by decide +kernel, by decide +kernel⟩, wTbl_1 2 (by rfl) (by decide +kernel)⟩
abbrev mi_J9_max_7cf53 : MI := (yJ9_max_7cf53, cJ9_max_7cf53, 2, some .int, 0)
theorem ok_J9_max_7cf53 : mOK mi_J9_max_7cf53 := ⟨by decide +kernel, wTbl_3 53 (by rfl) (by decide +kernel), by decide, ⟨by decide +kernel, by decide +kernel⟩, wTbl_1 8 (by rfl) (by decide +kernel)⟩
abbrev mi_X6_mirrorDirections : MI := (yX6_mirrorDirections, cX6_mirrorDirections, 1, some .int, 2)
theorem ok_X6_mirrorDirections : mOK mi_X6_mirrorDirections := ⟨by decide +kernel, wTbl_3 57 (by rfl) (by decide +kernel), by decide, ⟨by decide +kernel, by decide +kernel⟩, wTbl_1 1 (by rfl) (by decide +kernel)⟩
abbrev mi_X1_countMirrorParts : MI := (yX1_countMirrorParts, cX1_countMirrorParts, 1, some .int, 1)
theorem ok_X1_countMirrorParts : mOK mi_X1_countMirrorParts := ⟨by decide +kernel, wTbl_3 61 (by rfl) (by decide +kernel), by decide, ⟨by decide +kernel, by decide +kernel⟩, wTbl_1 6 (by rfl) (by decide +kernel)⟩
abbrev mi_X6_isCentered : MI := (yX6_isCentered, cX6_isCentered, 1, some .int, 7)
theorem ok_X6_isCentered : mOK mi_X6_isCentered := ⟨by decide +kernel, wTbl_3 65 (by rfl) (by decide +kernel), by decide, ⟨by decide +kernel, by decide +kernel⟩, wTbl_1 1 (by rfl) (by decide +kernel)⟩
abbrev mi_X1_hasCentering : MI := (yX1_hasCentering, cX1_hasCentering, 2, some .boolean, 6)
theorem ok_X1_hasCentering : mOK mi_X1_hasCentering := ⟨by decide +kernel, wTbl_3 69 (by rfl) (by decide +kernel), by decide, ⟨by decide +kernel, by decide +kernel⟩, wTbl_1 6 (by rfl) (by decide +kernel)⟩
abbrev mi_X1_keepsHalfSums : MI := (yX1_keepsHalfSums, cX1_keepsHalfSums, 4, some .boolean, 5)
theorem ok_X1_keepsHalfSums : mOK mi_X1_keepsHalfSums := ⟨by decide +kernel, wTbl_3 73 (by rfl) (by decide +kernel), by decide, ⟨by decide +kernel, by decide +kernel⟩, wTbl_1 6 (by rfl) (by decide +kernel)⟩
abbrev mi_X1_keepsHalfSum : MI := (yX1_keepsHalfSum, cX1_keepsHalfSum, 6, some .boolean, 4)
theorem ok_X1_keepsHalfSum : mOK mi_X1_keepsHalfSum := ⟨by decide +kernel, wTbl_3 77 (by rfl) (by decide +kernel), by decide, ⟨by decide +kernel, by decide +kernel⟩, wTbl_1 6 (by rfl) (by decide +kernel)⟩
abbrev mi_X3_hasTranslation : MI := (yX3_hasTranslation, cX3_hasTranslation, 3, some .boolean, 3)
theorem ok_X3_hasTranslation : mOK mi_X3_hasTranslation := ⟨by decide +kernel, wTbl_3 83 (by rfl) (by decide +kernel), by decide, ⟨by decide +kernel, by decide +kernel⟩, wTbl_1 5 (by rfl) (by decide +kernel)⟩
abbrev mi_X6_type : MI := (yX6_type, cX6_type, 1, some .int, 9)
theorem ok_X6_type : mOK mi_X6_type := ⟨by decide +kernel, wTbl_3 90 (by rfl) (by decide +kernel), by decide, ⟨by decide +kernel, by decide +kernel⟩, wTbl_1 1 (by rfl) (by decide +kernel)⟩
abbrev mi_X1_typeNumber : MI := (yX1_typeNumber, cX1_typeNumber, 2, some .int, 8)
theorem ok_X1_typeNumber : mOK mi_X1_typeNumber := ⟨by decide +kernel, wTbl_3 94 (by rfl) (by decide +kernel), by decide, ⟨by decide +kernel, by decide +kernel⟩, wTbl_1 6 (by rfl) (by decide +kernel)⟩
abbrev mi_X1_typeWithoutTurns : MI := (yX1_typeWithoutTurns, cX1_typeWithoutTurns, 2, some .int, 7)
theorem ok_X1_typeWithoutTurns : mOK mi_X1_typeWithoutTurns := ⟨by decide +kernel, wTbl_3 100 (by rfl) (by decide +kernel), by decide, ⟨by decide +kernel, by decide +kernel⟩, wTbl_1 6 (by rfl) (by decide +kernel)⟩
abbrev mi_X1_hasReversal : MI := (yX1_hasReversal, cX1_hasReversal, 2, some .boolean, 2)
theorem ok_X1_hasReversal : mOK mi_X1_hasReversal := ⟨by decide +kernel, wTbl_3 104 (by rfl) (by decide +kernel), by decide, ⟨by decide +kernel, by decide +kernel⟩, wTbl_1 6 (by rfl) (by decide +kernel)⟩
abbrev mi_X1_typeWithHalfTurns : MI := (yX1_typeWithHalfTurns, cX1_typeWithHalfTurns, 2, some .int, 7)
theorem ok_X1_typeWithHalfTurns : mOK mi_X1_typeWithHalfTurns := ⟨by decide +kernel, wTbl_3 110 (by rfl) (by decide +kernel), by decide, ⟨by decide +kernel, by decide +kernel⟩, wTbl_1 6 (by rfl) (by decide +kernel)⟩
abbrev mi_X1_typeWithThirdTurns : MI := (yX1_typeWithThirdTurns, cX1_typeWithThirdTurns, 1, some .int, 6)
theorem ok_X1_typeWithThirdTurns : mOK mi_X1_typeWithThirdTurns := ⟨by decide +kernel, wTbl_3 114 (by rfl) (by decide +kernel), by decide, ⟨by decide +kernel, by decide +kernel⟩, wTbl_1 6 (by rfl) (by decide +kernel)⟩
abbrev mi_X1_fixesShortestVector : MI := (yX1_fixesShortestVector, cX1_fixesShortestVector, 5, some .boolean, 5)
theorem ok_X1_fixesShortestVector : mOK mi_X1_fixesShortestVector := ⟨by decide +kernel, wTbl_3 118 (by rfl) (by decide +kernel), by decide, ⟨by decide +kernel, by decide +kernel⟩, wTbl_1 6 (by rfl) (by decide +kernel)⟩
abbrev mi_X1_leastSquaredLength : MI := (yX1_leastSquaredLength, cX1_leastSquaredLength, 6, some .int, 4)
theorem ok_X1_leastSquaredLength : mOK mi_X1_leastSquaredLength := ⟨by decide +kernel, wTbl_3 122 (by rfl) (by decide +kernel), by decide, ⟨by decide +kernel, by decide +kernel⟩, wTbl_1 6 (by rfl) (by decide +kernel)⟩
abbrev mi_X1_squaredLength : MI := (yX1_squaredLength, cX1_squaredLength, 2, some .int, 0)
theorem ok_X1_squaredLength : mOK mi_X1_squaredLength := ⟨by decide +kernel, wTbl_3 125 (by rfl) (by decide +kernel), by decide, ⟨by decide +kernel, by decide +kernel⟩, wTbl_1 6 (by rfl) (by decide +kernel)⟩
abbrev mi_X1_isFixedByReversal : MI := (yX1_isFixedByReversal, cX1_isFixedByReversal, 4, some .boolean, 3)
theorem ok_X1_isFixedByReversal : mOK mi_X1_isFixedByReversal := ⟨by decide +kernel, wTbl_3 129 (by rfl) (by decide +kernel), by decide, ⟨by decide +kernel, by decide +kernel⟩, wTbl_1 6 (by rfl) (by decide +kernel)⟩
abbrev mi_X1_typeWithQuarterTurns : MI := (yX1_typeWithQuarterTurns, cX1_typeWithQuarterTurns, 2, some .int, 3)
theorem ok_X1_typeWithQuarterTurns : mOK mi_X1_typeWithQuarterTurns := ⟨by decide +kernel, wTbl_3 133 (by rfl) (by decide +kernel), by decide, ⟨by decide +kernel, by decide +kernel⟩, wTbl_1 6 (by rfl) (by decide +kernel)⟩
abbrev mi_X6_orbitSize : MI := (yX6_orbitSize, cX6_orbitSize, 3, some .int, 2)
theorem ok_X6_orbitSize : mOK mi_X6_orbitSize := ⟨by decide +kernel, wTbl_3 137 (by rfl) (by decide +kernel), by decide, ⟨by decide +kernel, by decide +kernel⟩, wTbl_1 1 (by rfl) (by decide +kernel)⟩
abbrev mi_X0_sizeOfOrbit : MI := (yX0_sizeOfOrbit, cX0_sizeOfOrbit, 2, some .int, 1)
theorem ok_X0_sizeOfOrbit : mOK mi_X0_sizeOfOrbit := ⟨by decide +kernel, wTbl_3 143 (by rfl) (by decide +kernel), by decide, ⟨by decide +kernel, by decide +kernel⟩, wTbl_1 7 (by rfl) (by decide +kernel)⟩
abbrev mi_X6_orbitFirst : MI := (yX6_orbitFirst, cX6_orbitFirst, 3, some .int, 2)
theorem ok_X6_orbitFirst : mOK mi_X6_orbitFirst := ⟨by decide +kernel, wTbl_3 147 (by rfl) (by decide +kernel), by decide, ⟨by decide +kernel, by decide +kernel⟩, wTbl_1 1 (by rfl) (by decide +kernel)⟩
abbrev mi_X0_leastOfOrbit : MI := (yX0_leastOfOrbit, cX0_leastOfOrbit, 2, some .int, 1)
theorem ok_X0_leastOfOrbit : mOK mi_X0_leastOfOrbit := ⟨by decide +kernel, wTbl_3 151 (by rfl) (by decide +kernel), by decide, ⟨by decide +kernel, by decide +kernel⟩, wTbl_1 7 (by rfl) (by decide +kernel)⟩
abbrev mi_X6_stabilizerOrder : MI := (yX6_stabilizerOrder, cX6_stabilizerOrder, 3, some .int, 3)
theorem ok_X6_stabilizerOrder : mOK mi_X6_stabilizerOrder := ⟨by decide +kernel, wTbl_3 155 (by rfl) (by decide +kernel), by decide, ⟨by decide +kernel, by decide +kernel⟩, wTbl_1 1 (by rfl) (by decide +kernel)⟩
abbrev mi_X0_sizeOfStabilizer : MI := (yX0_sizeOfStabilizer, cX0_sizeOfStabilizer, 2, some .int, 2)
theorem ok_X0_sizeOfStabilizer : mOK mi_X0_sizeOfStabilizer := ⟨by decide +kernel, wTbl_3 159 (by rfl) (by decide +kernel), by decide, ⟨by decide +kernel, by decide +kernel⟩, wTbl_1 7 (by rfl) (by decide +kernel)⟩
abbrev mi_X6_orbitCount : MI := (yX6_orbitCount, cX6_orbitCount, 1, some .int, 1)
theorem ok_X6_orbitCount : mOK mi_X6_orbitCount := ⟨by decide +kernel, wTbl_3 166 (by rfl) (by decide +kernel), by decide, ⟨by decide +kernel, by decide +kernel⟩, wTbl_1 1 (by rfl) (by decide +kernel)⟩
abbrev mi_X0_orbits : MI := (yX0_orbits, cX0_orbits, 1, some .int, 0)
theorem ok_X0_orbits : mOK mi_X0_orbits := ⟨by decide +kernel, wTbl_3 170 (by rfl) (by decide +kernel), by decide, ⟨by decide +kernel, by decide +kernel⟩, wTbl_1 7 (by rfl) (by decide +kernel)⟩
abbrev mi_X6_isSymmorphic : MI := (yX6_isSymmorphic, cX6_isSymmorphic, 1, some .int, 4)
theorem ok_X6_isSymmorphic : mOK mi_X6_isSymmorphic := ⟨by decide +kernel, wTbl_3 174 (by rfl) (by decide +kernel), by decide, ⟨by decide +kernel, by decide +kernel⟩, wTbl_1 1 (by rfl) (by decide +kernel)⟩
abbrev mi_X0_hasStabilizerOf : MI := (yX0_hasStabilizerOf, cX0_hasStabilizerOf, 3, some .boolean, 3)
theorem ok_X0_hasStabilizerOf : mOK mi_X0_hasStabilizerOf := ⟨by decide +kernel, wTbl_3 178 (by rfl) (by decide +kernel), by decide, ⟨by decide +kernel, by decide +kernel⟩, wTbl_1 7 (by rfl) (by decide +kernel)⟩
abbrev mi_X6_invariantColorings : MI := (yX6_invariantColorings, cX6_invariantColorings, 2, some .long, 1)
theorem ok_X6_invariantColorings : mOK mi_X6_invariantColorings := ⟨by decide +kernel, wTbl_3 183 (by rfl) (by decide +kernel), by decide, ⟨by decide +kernel, by decide +kernel⟩, wTbl_1 1 (by rfl) (by decide +kernel)⟩
abbrev mi_X6_power : MI := (yX6_power, cX6_power, 5, some .long, 0)
theorem ok_X6_power : mOK mi_X6_power := ⟨by decide +kernel, wTbl_3 187 (by rfl) (by decide +kernel), by decide, ⟨by decide +kernel, by decide +kernel⟩, wTbl_1 1 (by rfl) (by decide +kernel)⟩
abbrev mi_X6_coloringClasses : MI := (yX6_coloringClasses, cX6_coloringClasses, 2, some .long, 6)
theorem ok_X6_coloringClasses : mOK mi_X6_coloringClasses := ⟨by decide +kernel, wTbl_3 191 (by rfl) (by decide +kernel), by decide, ⟨by decide +kernel, by decide +kernel⟩, wTbl_1 1 (by rfl) (by decide +kernel)⟩
abbrev mi_X0_countColoringClasses : MI := (yX0_countColoringClasses, cX0_countColoringClasses, 6, some .long, 5)
theorem ok_X0_countColoringClasses : mOK mi_X0_countColoringClasses := ⟨by decide +kernel, wTbl_3 195 (by rfl) (by decide +kernel), by decide, ⟨by decide +kernel, by decide +kernel⟩, wTbl_1 7 (by rfl) (by decide +kernel)⟩
abbrev mi_X0_countCycles : MI := (yX0_countCycles, cX0_countCycles, 4, some .int, 4)
theorem ok_X0_countCycles : mOK mi_X0_countCycles := ⟨by decide +kernel, wTbl_3 200 (by rfl) (by decide +kernel), by decide, ⟨by decide +kernel, by decide +kernel⟩, wTbl_1 7 (by rfl) (by decide +kernel)⟩
abbrev mi_X0_fillImages : MI := (yX0_fillImages, cX0_fillImages, 12, none, 3)
theorem ok_X0_fillImages : mOK mi_X0_fillImages := ⟨by decide +kernel, wTbl_3 204 (by rfl) (by decide +kernel), by decide, ⟨by decide +kernel, by decide +kernel⟩, wTbl_1 7 (by rfl) (by decide +kernel)⟩
abbrev mi_X0_walkCycle : MI := (yX0_walkCycle, cX0_walkCycle, 4, none, 1)
theorem ok_X0_walkCycle : mOK mi_X0_walkCycle := ⟨by decide +kernel, wTbl_3 214 (by rfl) (by decide +kernel), by decide, ⟨by decide +kernel, by decide +kernel⟩, wTbl_1 7 (by rfl) (by decide +kernel)⟩
abbrev mi_X7_derive : MI := (yX7_derive, cX7_derive, 3, none, 3)
theorem ok_X7_derive : mOK mi_X7_derive := ⟨by decide +kernel, wTbl_3 225 (by rfl) (by decide +kernel), by decide, ⟨by decide +kernel, by decide +kernel⟩, wTbl_1 9 (by rfl) (by decide +kernel)⟩
abbrev mi_X7_makeParts : MI := (yX7_makeParts, cX7_makeParts, 5, none, 2)
theorem ok_X7_makeParts : mOK mi_X7_makeParts := ⟨by decide +kernel, wTbl_3 229 (by rfl) (by decide +kernel), by decide, ⟨by decide +kernel, by decide +kernel⟩, wTbl_1 9 (by rfl) (by decide +kernel)⟩
abbrev mi_X7_putPart : MI := (yX7_putPart, cX7_putPart, 6, none, 0)
theorem ok_X7_putPart : mOK mi_X7_putPart := ⟨by decide +kernel, wTbl_3 233 (by rfl) (by decide +kernel), by decide, ⟨by decide +kernel, by decide +kernel⟩, wTbl_1 9 (by rfl) (by decide +kernel)⟩
abbrev mi_X7_putProduct : MI := (yX7_putProduct, cX7_putProduct, 6, none, 1)
theorem ok_X7_putProduct : mOK mi_X7_putProduct := ⟨by decide +kernel, wTbl_3 237 (by rfl) (by decide +kernel), by decide, ⟨by decide +kernel, by decide +kernel⟩, wTbl_1 9 (by rfl) (by decide +kernel)⟩
abbrev mi_X7_entry : MI := (yX7_entry, cX7_entry, 3, some .int, 0)
theorem ok_X7_entry : mOK mi_X7_entry := ⟨by decide +kernel, wTbl_4 1 (by rfl) (by decide +kernel), by decide, ⟨by decide +kernel, by decide +kernel⟩, wTbl_1 9 (by rfl) (by decide +kernel)⟩
abbrev mi_X7_numberOfProduct : MI := (yX7_numberOfProduct, cX7_numberOfProduct, 8, some .int, 1)
theorem ok_X7_numberOfProduct : mOK mi_X7_numberOfProduct := ⟨by decide +kernel, wTbl_4 5 (by rfl) (by decide +kernel), by decide, ⟨by decide +kernel, by decide +kernel⟩, wTbl_1 9 (by rfl) (by decide +kernel)⟩
abbrev mi_X7_addElement : MI := (yX7_addElement, cX7_addElement, 2, none, 0)
theorem ok_X7_addElement : mOK mi_X7_addElement := ⟨by decide +kernel, wTbl_4 9 (by rfl) (by decide +kernel), by decide, ⟨by decide +kernel, by decide +kernel⟩, wTbl_1 9 (by rfl) (by decide +kernel)⟩
abbrev mi_X7_times : MI := (yX7_times, cX7_times, 6, some .int, 2)
theorem ok_X7_times : mOK mi_X7_times := ⟨by decide +kernel, wTbl_4 13 (by rfl) (by decide +kernel), by decide, ⟨by decide +kernel, by decide +kernel⟩, wTbl_1 9 (by rfl) (by decide +kernel)⟩
abbrev mi_X7_partOf : MI := (yX7_partOf, cX7_partOf, 2, some .int, 1)
theorem ok_X7_partOf : mOK mi_X7_partOf := ⟨by decide +kernel, wTbl_4 17 (by rfl) (by decide +kernel), by decide, ⟨by decide +kernel, by decide +kernel⟩, wTbl_1 9 (by rfl) (by decide +kernel)⟩
abbrev mi_X7_cells : MI := (yX7_cells, cX7_cells, 1, some .int, 0)
theorem ok_X7_cells : mOK mi_X7_cells := ⟨by decide +kernel, wTbl_4 21 (by rfl) (by decide +kernel), by decide, ⟨by decide +kernel, by decide +kernel⟩, wTbl_1 9 (by rfl) (by decide +kernel)⟩
abbrev mi_X7_uOf : MI := (yX7_uOf, cX7_uOf, 2, some .int, 1)
theorem ok_X7_uOf : mOK mi_X7_uOf := ⟨by decide +kernel, wTbl_4 25 (by rfl) (by decide +kernel), by decide, ⟨by decide +kernel, by decide +kernel⟩, wTbl_1 9 (by rfl) (by decide +kernel)⟩
abbrev mi_X7_vOf : MI := (yX7_vOf, cX7_vOf, 2, some .int, 0)
theorem ok_X7_vOf : mOK mi_X7_vOf := ⟨by decide +kernel, wTbl_4 29 (by rfl) (by decide +kernel), by decide, ⟨by decide +kernel, by decide +kernel⟩, wTbl_1 9 (by rfl) (by decide +kernel)⟩
abbrev mi_X7_imageX : MI := (yX7_imageX, cX7_imageX, 4, some .int, 1)
theorem ok_X7_imageX : mOK mi_X7_imageX := ⟨by decide +kernel, wTbl_4 33 (by rfl) (by decide +kernel), by decide, ⟨by decide +kernel, by decide +kernel⟩, wTbl_1 9 (by rfl) (by decide +kernel)⟩
abbrev mi_X7_imageY : MI := (yX7_imageY, cX7_imageY, 4, some .int, 1)
theorem ok_X7_imageY : mOK mi_X7_imageY := ⟨by decide +kernel, wTbl_4 37 (by rfl) (by decide +kernel), by decide, ⟨by decide +kernel, by decide +kernel⟩, wTbl_1 9 (by rfl) (by decide +kernel)⟩
abbrev mi_X7_codeOf : MI := (yX7_codeOf, cX7_codeOf, 4, some .int, 1)
theorem ok_X7_codeOf : mOK mi_X7_codeOf := ⟨by decide +kernel, wTbl_4 41 (by rfl) (by decide +kernel), by decide, ⟨by decide +kernel, by decide +kernel⟩, wTbl_1 9 (by rfl) (by decide +kernel)⟩
abbrev mi_X7_modulo : MI := (yX7_modulo, cX7_modulo, 3, some .int, 0)
end
section
set_option maxRecDepth 20000
theorem ok_X7_modulo : mOK mi_X7_modulo := ⟨by decide +kernel, wTbl_4 45 (by rfl) (by decide +kernel), by decide, ⟨by decide +kernel, by decide +kernel⟩, wTbl_1 9 (by rfl) (by decide +kernel)⟩
abbrev mi_X7_undo : MI := (yX7_undo, cX7_undo, 2, some .int, 4)
theorem ok_X7_undo : mOK mi_X7_undo := ⟨by decide +kernel, wTbl_4 77 (by rfl) (by decide +kernel), by decide, ⟨by decide +kernel, by decide +kernel⟩, wTbl_1 9 (by rfl) (by decide +kernel)⟩
abbrev mi_X7_setLattice : MI := (yX7_setLattice, cX7_setLattice, 4, some .int, 4)
theorem ok_X7_setLattice : mOK mi_X7_setLattice := ⟨by decide +kernel, wTbl_4 81 (by rfl) (by decide +kernel), by decide, ⟨by decide +kernel, by decide +kernel⟩, wTbl_1 9 (by rfl) (by decide +kernel)⟩
abbrev mi_X7_in : MI := (yX7_in, cX7_in, 3, some .boolean, 0)
theorem ok_X7_in : mOK mi_X7_in := ⟨by decide +kernel, wTbl_4 84 (by rfl) (by decide +kernel), by decide, ⟨by decide +kernel, by decide +kernel⟩, wTbl_1 9 (by rfl) (by decide +kernel)⟩
abbrev mi_X7_save : MI := (yX7_save, cX7_save, 2, none, 0)
theorem ok_X7_save : mOK mi_X7_save := ⟨by decide +kernel, wTbl_4 88 (by rfl) (by decide +kernel), by decide, ⟨by decide +kernel, by decide +kernel⟩, wTbl_1 9 (by rfl) (by decide +kernel)⟩
abbrev mi_X7_addGenerator : MI := (yX7_addGenerator, cX7_addGenerator, 4, some .int, 4)
theorem ok_X7_addGenerator : mOK mi_X7_addGenerator := ⟨by decide +kernel, wTbl_4 92 (by rfl) (by decide +kernel), by decide, ⟨by decide +kernel, by decide +kernel⟩, wTbl_1 9 (by rfl) (by decide +kernel)⟩
abbrev mi_X7_isMovement : MI := (yX7_isMovement, cX7_isMovement, 4, some .boolean, 1)
theorem ok_X7_isMovement : mOK mi_X7_isMovement := ⟨by decide +kernel, wTbl_4 96 (by rfl) (by decide +kernel), by decide, ⟨by decide +kernel, by decide +kernel⟩, wTbl_1 9 (by rfl) (by decide +kernel)⟩
abbrev mi_X7_removeGenerator : MI := (yX7_removeGenerator, cX7_removeGenerator, 3, some .int, 4)
theorem ok_X7_removeGenerator : mOK mi_X7_removeGenerator := ⟨by decide +kernel, wTbl_4 100 (by rfl) (by decide +kernel), by decide, ⟨by decide +kernel, by decide +kernel⟩, wTbl_1 9 (by rfl) (by decide +kernel)⟩
abbrev mi_X7_isGenerator : MI := (yX7_isGenerator, cX7_isGenerator, 2, some .boolean, 1)
theorem ok_X7_isGenerator : mOK mi_X7_isGenerator := ⟨by decide +kernel, wTbl_4 104 (by rfl) (by decide +kernel), by decide, ⟨by decide +kernel, by decide +kernel⟩, wTbl_1 9 (by rfl) (by decide +kernel)⟩
abbrev mi_X7_setGenerator : MI := (yX7_setGenerator, cX7_setGenerator, 6, some .int, 4)
theorem ok_X7_setGenerator : mOK mi_X7_setGenerator := ⟨by decide +kernel, wTbl_4 108 (by rfl) (by decide +kernel), by decide, ⟨by decide +kernel, by decide +kernel⟩, wTbl_1 9 (by rfl) (by decide +kernel)⟩
abbrev mi_X7_generator : MI := (yX7_generator, cX7_generator, 2, some .int, 0)
theorem ok_X7_generator : mOK mi_X7_generator := ⟨by decide +kernel, wTbl_4 112 (by rfl) (by decide +kernel), by decide, ⟨by decide +kernel, by decide +kernel⟩, wTbl_1 9 (by rfl) (by decide +kernel)⟩
abbrev mi_X7_order : MI := (yX7_order, cX7_order, 1, some .int, 0)
theorem ok_X7_order : mOK mi_X7_order := ⟨by decide +kernel, wTbl_4 116 (by rfl) (by decide +kernel), by decide, ⟨by decide +kernel, by decide +kernel⟩, wTbl_1 9 (by rfl) (by decide +kernel)⟩
abbrev mi_X7_element : MI := (yX7_element, cX7_element, 4, some .int, 1)
theorem ok_X7_element : mOK mi_X7_element := ⟨by decide +kernel, wTbl_4 120 (by rfl) (by decide +kernel), by decide, ⟨by decide +kernel, by decide +kernel⟩, wTbl_1 9 (by rfl) (by decide +kernel)⟩
abbrev mi_X7_contains : MI := (yX7_contains, cX7_contains, 2, some .int, 2)
theorem ok_X7_contains : mOK mi_X7_contains := ⟨by decide +kernel, wTbl_4 124 (by rfl) (by decide +kernel), by decide, ⟨by decide +kernel, by decide +kernel⟩, wTbl_1 9 (by rfl) (by decide +kernel)⟩
abbrev mi_X7_isCode : MI := (yX7_isCode, cX7_isCode, 2, some .boolean, 1)
theorem ok_X7_isCode : mOK mi_X7_isCode := ⟨by decide +kernel, wTbl_4 128 (by rfl) (by decide +kernel), by decide, ⟨by decide +kernel, by decide +kernel⟩, wTbl_1 9 (by rfl) (by decide +kernel)⟩
abbrev mi_X7_product : MI := (yX7_product, cX7_product, 3, some .int, 3)
theorem ok_X7_product : mOK mi_X7_product := ⟨by decide +kernel, wTbl_4 132 (by rfl) (by decide +kernel), by decide, ⟨by decide +kernel, by decide +kernel⟩, wTbl_1 9 (by rfl) (by decide +kernel)⟩
abbrev mi_X7_orderOf : MI := (yX7_orderOf, cX7_orderOf, 4, some .int, 3)
theorem ok_X7_orderOf : mOK mi_X7_orderOf := ⟨by decide +kernel, wTbl_4 136 (by rfl) (by decide +kernel), by decide, ⟨by decide +kernel, by decide +kernel⟩, wTbl_1 9 (by rfl) (by decide +kernel)⟩
abbrev mi_X7_kindOf : MI := (yX7_kindOf, cX7_kindOf, 2, some .int, 4)
theorem ok_X7_kindOf : mOK mi_X7_kindOf := ⟨by decide +kernel, wTbl_4 140 (by rfl) (by decide +kernel), by decide, ⟨by decide +kernel, by decide +kernel⟩, wTbl_1 9 (by rfl) (by decide +kernel)⟩
abbrev mi_X7_kindOfCode : MI := (yX7_kindOfCode, cX7_kindOfCode, 3, some .int, 3)
theorem ok_X7_kindOfCode : mOK mi_X7_kindOfCode := ⟨by decide +kernel, wTbl_4 144 (by rfl) (by decide +kernel), by decide, ⟨by decide +kernel, by decide +kernel⟩, wTbl_1 9 (by rfl) (by decide +kernel)⟩
abbrev mi_X7_isTurn : MI := (yX7_isTurn, cX7_isTurn, 2, some .boolean, 0)
theorem ok_X7_isTurn : mOK mi_X7_isTurn := ⟨by decide +kernel, wTbl_4 148 (by rfl) (by decide +kernel), by decide, ⟨by decide +kernel, by decide +kernel⟩, wTbl_1 9 (by rfl) (by decide +kernel)⟩
abbrev mi_X7_isReflection : MI := (yX7_isReflection, cX7_isReflection, 8, some .boolean, 2)
theorem ok_X7_isReflection : mOK mi_X7_isReflection := ⟨by decide +kernel, wTbl_4 152 (by rfl) (by decide +kernel), by decide, ⟨by decide +kernel, by decide +kernel⟩, wTbl_1 9 (by rfl) (by decide +kernel)⟩
abbrev mi_X7_divisor : MI := (yX7_divisor, cX7_divisor, 5, some .int, 0)
theorem ok_X7_divisor : mOK mi_X7_divisor := ⟨by decide +kernel, wTbl_4 155 (by rfl) (by decide +kernel), by decide, ⟨by decide +kernel, by decide +kernel⟩, wTbl_1 9 (by rfl) (by decide +kernel)⟩
abbrev mi_X7_count : MI := (yX7_count, cX7_count, 4, some .int, 4)
theorem ok_X7_count : mOK mi_X7_count := ⟨by decide +kernel, wTbl_4 159 (by rfl) (by decide +kernel), by decide, ⟨by decide +kernel, by decide +kernel⟩, wTbl_1 9 (by rfl) (by decide +kernel)⟩
abbrev mi_X7_isAbelian : MI := (yX7_isAbelian, cX7_isAbelian, 1, some .int, 4)
theorem ok_X7_isAbelian : mOK mi_X7_isAbelian := ⟨by decide +kernel, wTbl_4 163 (by rfl) (by decide +kernel), by decide, ⟨by decide +kernel, by decide +kernel⟩, wTbl_1 9 (by rfl) (by decide +kernel)⟩
abbrev mi_X7_commutingPairs : MI := (yX7_commutingPairs, cX7_commutingPairs, 4, some .int, 3)
theorem ok_X7_commutingPairs : mOK mi_X7_commutingPairs := ⟨by decide +kernel, wTbl_4 167 (by rfl) (by decide +kernel), by decide, ⟨by decide +kernel, by decide +kernel⟩, wTbl_1 9 (by rfl) (by decide +kernel)⟩
abbrev mi_X7_conjugacyClasses : MI := (yX7_conjugacyClasses, cX7_conjugacyClasses, 1, some .int, 4)
theorem ok_X7_conjugacyClasses : mOK mi_X7_conjugacyClasses := ⟨by decide +kernel, wTbl_4 171 (by rfl) (by decide +kernel), by decide, ⟨by decide +kernel, by decide +kernel⟩, wTbl_1 9 (by rfl) (by decide +kernel)⟩
abbrev mi_X7_linearParts : MI := (yX7_linearParts, cX7_linearParts, 1, some .int, 5)
theorem ok_X7_linearParts : mOK mi_X7_linearParts := ⟨by decide +kernel, wTbl_4 175 (by rfl) (by decide +kernel), by decide, ⟨by decide +kernel, by decide +kernel⟩, wTbl_1 9 (by rfl) (by decide +kernel)⟩
abbrev mi_X7_partSet : MI := (yX7_partSet, cX7_partSet, 5, some .int, 4)
theorem ok_X7_partSet : mOK mi_X7_partSet := ⟨by decide +kernel, wTbl_4 179 (by rfl) (by decide +kernel), by decide, ⟨by decide +kernel, by decide +kernel⟩, wTbl_1 9 (by rfl) (by decide +kernel)⟩
abbrev mi_X7_ones : MI := (yX7_ones, cX7_ones, 3, some .int, 0)
theorem ok_X7_ones : mOK mi_X7_ones := ⟨by decide +kernel, wTbl_4 182 (by rfl) (by decide +kernel), by decide, ⟨by decide +kernel, by decide +kernel⟩, wTbl_1 9 (by rfl) (by decide +kernel)⟩
abbrev mi_X7_rotationOrder : MI := (yX7_rotationOrder, cX7_rotationOrder, 1, some .int, 6)
theorem ok_X7_rotationOrder : mOK mi_X7_rotationOrder := ⟨by decide +kernel, wTbl_4 186 (by rfl) (by decide +kernel), by decide, ⟨by decide +kernel, by decide +kernel⟩, wTbl_1 9 (by rfl) (by decide +kernel)⟩
abbrev mi_X7_greatestTurn : MI := (yX7_greatestTurn, cX7_greatestTurn, 5, some .int, 5)
theorem ok_X7_greatestTurn : mOK mi_X7_greatestTurn := ⟨by decide +kernel, wTbl_4 190 (by rfl) (by decide +kernel), by decide, ⟨by decide +kernel, by decide +kernel⟩, wTbl_1 9 (by rfl) (by decide +kernel)⟩
abbrev mi_X7_orderOfPart : MI := (yX7_orderOfPart, cX7_orderOfPart, 4, some .int, 0)
theorem ok_X7_orderOfPart : mOK mi_X7_orderOfPart := ⟨by decide +kernel, wTbl_4 194 (by rfl) (by decide +kernel), by decide, ⟨by decide +kernel, by decide +kernel⟩, wTbl_1 9 (by rfl) (by decide +kernel)⟩
abbrev mi_X7_mirrorDirections : MI := (yX7_mirrorDirections, cX7_mirrorDirections, 1, some .int, 6)
theorem ok_X7_mirrorDirections : mOK mi_X7_mirrorDirections := ⟨by decide +kernel, wTbl_4 198 (by rfl) (by decide +kernel), by decide, ⟨by decide +kernel, by decide +kernel⟩, wTbl_1 9 (by rfl) (by decide +kernel)⟩
abbrev mi_X7_directions : MI := (yX7_directions, cX7_directions, 1, some .int, 5)
theorem ok_X7_directions : mOK mi_X7_directions := ⟨by decide +kernel, wTbl_4 202 (by rfl) (by decide +kernel), by decide, ⟨by decide +kernel, by decide +kernel⟩, wTbl_1 9 (by rfl) (by decide +kernel)⟩
abbrev mi_X7_isCentered : MI := (yX7_isCentered, cX7_isCentered, 1, some .int, 6)
theorem ok_X7_isCentered : mOK mi_X7_isCentered := ⟨by decide +kernel, wTbl_4 206 (by rfl) (by decide +kernel), by decide, ⟨by decide +kernel, by decide +kernel⟩, wTbl_1 9 (by rfl) (by decide +kernel)⟩
abbrev mi_X7_isCenteredNow : MI := (yX7_isCenteredNow, cX7_isCenteredNow, 4, some .boolean, 5)
theorem ok_X7_isCenteredNow : mOK mi_X7_isCenteredNow := ⟨by decide +kernel, wTbl_4 210 (by rfl) (by decide +kernel), by decide, ⟨by decide +kernel, by decide +kernel⟩, wTbl_1 9 (by rfl) (by decide +kernel)⟩
abbrev mi_X7_isCenteredBy : MI := (yX7_isCenteredBy, cX7_isCenteredBy, 4, some .boolean, 4)
theorem ok_X7_isCenteredBy : mOK mi_X7_isCenteredBy := ⟨by decide +kernel, wTbl_4 214 (by rfl) (by decide +kernel), by decide, ⟨by decide +kernel, by decide +kernel⟩, wTbl_1 9 (by rfl) (by decide +kernel)⟩
abbrev mi_X7_isHalved : MI := (yX7_isHalved, cX7_isHalved, 6, some .boolean, 3)
theorem ok_X7_isHalved : mOK mi_X7_isHalved := ⟨by decide +kernel, wTbl_4 218 (by rfl) (by decide +kernel), by decide, ⟨by decide +kernel, by decide +kernel⟩, wTbl_1 9 (by rfl) (by decide +kernel)⟩
abbrev mi_X7_isLatticeVector : MI := (yX7_isLatticeVector, cX7_isLatticeVector, 3, some .boolean, 2)
theorem ok_X7_isLatticeVector : mOK mi_X7_isLatticeVector := ⟨by decide +kernel, wTbl_4 222 (by rfl) (by decide +kernel), by decide, ⟨by decide +kernel, by decide +kernel⟩, wTbl_1 9 (by rfl) (by decide +kernel)⟩
abbrev mi_X7_type : MI := (yX7_type, cX7_type, 4, some .int, 6)
theorem ok_X7_type : mOK mi_X7_type := ⟨by decide +kernel, wTbl_4 226 (by rfl) (by decide +kernel), by decide, ⟨by decide +kernel, by decide +kernel⟩, wTbl_1 9 (by rfl) (by decide +kernel)⟩
abbrev mi_X7_isShortestFixed : MI := (yX7_isShortestFixed, cX7_isShortestFixed, 9, some .boolean, 5)
theorem ok_X7_isShortestFixed : mOK mi_X7_isShortestFixed := ⟨by decide +kernel, wTbl_4 230 (by rfl) (by decide +kernel), by decide, ⟨by decide +kernel, by decide +kernel⟩, wTbl_1 9 (by rfl) (by decide +kernel)⟩
abbrev mi_X7_leastSquared : MI := (yX7_leastSquared, cX7_leastSquared, 6, some .int, 3)
theorem ok_X7_leastSquared : mOK mi_X7_leastSquared := ⟨by decide +kernel, wTbl_4 234 (by rfl) (by decide +kernel), by decide, ⟨by decide +kernel, by decide +kernel⟩, wTbl_1 9 (by rfl) (by decide +kernel)⟩
abbrev mi_X7_squared : MI := (yX7_squared, cX7_squared, 3, some .int, 0)
theorem ok_X7_squared : mOK mi_X7_squared := ⟨by decide +kernel, wTbl_4 238 (by rfl) (by decide +kernel), by decide, ⟨by decide +kernel, by decide +kernel⟩, wTbl_1 9 (by rfl) (by decide +kernel)⟩
abbrev mi_X7_orbitSize : MI := (yX7_orbitSize, cX7_orbitSize, 3, some .int, 4)
theorem ok_X7_orbitSize : mOK mi_X7_orbitSize := ⟨by decide +kernel, wTbl_5 2 (by rfl) (by decide +kernel), by decide, ⟨by decide +kernel, by decide +kernel⟩, wTbl_1 9 (by rfl) (by decide +kernel)⟩
abbrev mi_X7_isCell : MI := (yX7_isCell, cX7_isCell, 3, some .boolean, 1)
theorem ok_X7_isCell : mOK mi_X7_isCell := ⟨by decide +kernel, wTbl_5 6 (by rfl) (by decide +kernel), by decide, ⟨by decide +kernel, by decide +kernel⟩, wTbl_1 9 (by rfl) (by decide +kernel)⟩
abbrev mi_X7_orbit : MI := (yX7_orbit, cX7_orbit, 4, some .int, 3)
theorem ok_X7_orbit : mOK mi_X7_orbit := ⟨by decide +kernel, wTbl_5 10 (by rfl) (by decide +kernel), by decide, ⟨by decide +kernel, by decide +kernel⟩, wTbl_1 9 (by rfl) (by decide +kernel)⟩
abbrev mi_X7_sends : MI := (yX7_sends, cX7_sends, 6, some .int, 2)
theorem ok_X7_sends : mOK mi_X7_sends := ⟨by decide +kernel, wTbl_5 14 (by rfl) (by decide +kernel), by decide, ⟨by decide +kernel, by decide +kernel⟩, wTbl_1 9 (by rfl) (by decide +kernel)⟩
abbrev mi_X7_many : MI := (yX7_many, cX7_many, 3, some .int, 0)
theorem ok_X7_many : mOK mi_X7_many := ⟨by decide +kernel, wTbl_5 17 (by rfl) (by decide +kernel), by decide, ⟨by decide +kernel, by decide +kernel⟩, wTbl_1 9 (by rfl) (by decide +kernel)⟩
abbrev mi_X7_orbitFirst : MI := (yX7_orbitFirst, cX7_orbitFirst, 3, some .int, 4)
theorem ok_X7_orbitFirst : mOK mi_X7_orbitFirst := ⟨by decide +kernel, wTbl_5 21 (by rfl) (by decide +kernel), by decide, ⟨by decide +kernel, by decide +kernel⟩, wTbl_1 9 (by rfl) (by decide +kernel)⟩
abbrev mi_X7_first : MI := (yX7_first, cX7_first, 2, some .int, 0)
theorem ok_X7_first : mOK mi_X7_first := ⟨by decide +kernel, wTbl_5 24 (by rfl) (by decide +kernel), by decide, ⟨by decide +kernel, by decide +kernel⟩, wTbl_1 9 (by rfl) (by decide +kernel)⟩
abbrev mi_X7_stabilizerOrder : MI := (yX7_stabilizerOrder, cX7_stabilizerOrder, 3, some .int, 4)
theorem ok_X7_stabilizerOrder : mOK mi_X7_stabilizerOrder := ⟨by decide +kernel, wTbl_5 28 (by rfl) (by decide +kernel), by decide, ⟨by decide +kernel, by decide +kernel⟩, wTbl_1 9 (by rfl) (by decide +kernel)⟩
abbrev mi_X7_stabilizer : MI := (yX7_stabilizer, cX7_stabilizer, 4, some .int, 3)
theorem ok_X7_stabilizer : mOK mi_X7_stabilizer := ⟨by decide +kernel, wTbl_5 32 (by rfl) (by decide +kernel), by decide, ⟨by decide +kernel, by decide +kernel⟩, wTbl_1 9 (by rfl) (by decide +kernel)⟩
abbrev mi_X7_orbitCount : MI := (yX7_orbitCount, cX7_orbitCount, 1, some .int, 5)
theorem ok_X7_orbitCount : mOK mi_X7_orbitCount := ⟨by decide +kernel, wTbl_5 36 (by rfl) (by decide +kernel), by decide, ⟨by decide +kernel, by decide +kernel⟩, wTbl_1 9 (by rfl) (by decide +kernel)⟩
abbrev mi_X7_orbits : MI := (yX7_orbits, cX7_orbits, 3, some .int, 4)
theorem ok_X7_orbits : mOK mi_X7_orbits := ⟨by decide +kernel, wTbl_5 40 (by rfl) (by decide +kernel), by decide, ⟨by decide +kernel, by decide +kernel⟩, wTbl_1 9 (by rfl) (by decide +kernel)⟩
abbrev mi_X7_isSymmorphic : MI := (yX7_isSymmorphic, cX7_isSymmorphic, 4, some .int, 5)
theorem ok_X7_isSymmorphic : mOK mi_X7_isSymmorphic := ⟨by decide +kernel, wTbl_5 44 (by rfl) (by decide +kernel), by decide, ⟨by decide +kernel, by decide +kernel⟩, wTbl_1 9 (by rfl) (by decide +kernel)⟩
abbrev mi_X7_invariantColorings : MI := (yX7_invariantColorings, cX7_invariantColorings, 2, some .long, 5)
theorem ok_X7_invariantColorings : mOK mi_X7_invariantColorings := ⟨by decide +kernel, wTbl_5 48 (by rfl) (by decide +kernel), by decide, ⟨by decide +kernel, by decide +kernel⟩, wTbl_1 9 (by rfl) (by decide +kernel)⟩
abbrev mi_X7_power : MI := (yX7_power, cX7_power, 5, some .long, 0)
theorem ok_X7_power : mOK mi_X7_power := ⟨by decide +kernel, wTbl_5 51 (by rfl) (by decide +kernel), by decide, ⟨by decide +kernel, by decide +kernel⟩, wTbl_1 9 (by rfl) (by decide +kernel)⟩
abbrev mi_X7_coloringClasses : MI := (yX7_coloringClasses, cX7_coloringClasses, 5, some .long, 4)
theorem ok_X7_coloringClasses : mOK mi_X7_coloringClasses := ⟨by decide +kernel, wTbl_5 56 (by rfl) (by decide +kernel), by decide, ⟨by decide +kernel, by decide +kernel⟩, wTbl_1 9 (by rfl) (by decide +kernel)⟩
abbrev mi_X7_cycles : MI := (yX7_cycles, cX7_cycles, 6, some .int, 3)
theorem ok_X7_cycles : mOK mi_X7_cycles := ⟨by decide +kernel, wTbl_5 60 (by rfl) (by decide +kernel), by decide, ⟨by decide +kernel, by decide +kernel⟩, wTbl_1 9 (by rfl) (by decide +kernel)⟩
theorem v_X6_57 : vOK RX6 57 0 mi_X6_refresh := ⟨wTbl_1 160 (by rfl) (by decide +kernel), wTbl_1 162 (by rfl) (by decide +kernel), wTbl_s 0 (n := 6) (by rfl), by decide +kernel⟩
theorem v_X6_64 : vOK RX6 64 2 mi_X4_save := ⟨wTbl_2 83 (by rfl) (by decide +kernel), wTbl_2 84 (by rfl) (by decide +kernel), wTbl_2 85 (by rfl) (by decide +kernel), by decide +kernel⟩
theorem v_X6_67 : vOK RX6 67 2 mi_X5_choose := ⟨wTbl_2 96 (by rfl) (by decide +kernel), wTbl_2 97 (by rfl) (by decide +kernel), wTbl_2 98 (by rfl) (by decide +kernel), by decide +kernel⟩
theorem v_X6_71 : vOK RX6 71 0 mi_X2_clear := ⟨wTbl_2 100 (by rfl) (by decide +kernel), wTbl_2 101 (by rfl) (by decide +kernel), wTbl_2 102 (by rfl) (by decide +kernel), by decide +kernel⟩
theorem v_X6_74 : vOK RX6 74 3 mi_X5_hasMovement := ⟨wTbl_2 108 (by rfl) (by decide +kernel), wTbl_2 109 (by rfl) (by decide +kernel), wTbl_2 110 (by rfl) (by decide +kernel), by decide +kernel⟩
theorem v_X6_78 : vOK RX6 78 0 mi_X2_isFull := ⟨wTbl_2 120 (by rfl) (by decide +kernel), wTbl_2 121 (by rfl) (by decide +kernel), wTbl_2 122 (by rfl) (by decide +kernel), by decide +kernel⟩
theorem v_X6_82 : vOK RX6 82 3 mi_X5_codeOf := ⟨wTbl_2 124 (by rfl) (by decide +kernel), wTbl_2 2 (by rfl) (by decide +kernel), wTbl_2 3 (by rfl) (by decide +kernel), by decide +kernel⟩
theorem v_X6_86 : vOK RX6 86 1 mi_X2_append := ⟨wTbl_2 125 (by rfl) (by decide +kernel), wTbl_2 126 (by rfl) (by decide +kernel), wTbl_2 127 (by rfl) (by decide +kernel), by decide +kernel⟩
theorem v_X6_90 : vOK RX6 90 0 mi_X3_size := ⟨wTbl_2 134 (by rfl) (by decide +kernel), wTbl_2 19 (by rfl) (by decide +kernel), wTbl_2 20 (by rfl) (by decide +kernel), by decide +kernel⟩
theorem v_X6_94 : vOK RX6 94 1 mi_X2_has := ⟨wTbl_2 139 (by rfl) (by decide +kernel), wTbl_2 140 (by rfl) (by decide +kernel), wTbl_2 141 (by rfl) (by decide +kernel), by decide +kernel⟩
theorem v_X6_98 : vOK RX6 98 1 mi_X2_removeAt := ⟨wTbl_2 143 (by rfl) (by decide +kernel), wTbl_2 144 (by rfl) (by decide +kernel), wTbl_2 145 (by rfl) (by decide +kernel), by decide +kernel⟩
theorem v_X6_101 : vOK RX6 101 1 mi_X2_codeAt := ⟨wTbl_2 153 (by rfl) (by decide +kernel), wTbl_1 179 (by rfl) (by decide +kernel), wTbl_1 180 (by rfl) (by decide +kernel), by decide +kernel⟩
theorem v_X6_105 : vOK RX6 105 2 mi_X2_replace := ⟨wTbl_2 154 (by rfl) (by decide +kernel), wTbl_2 131 (by rfl) (by decide +kernel), wTbl_2 132 (by rfl) (by decide +kernel), by decide +kernel⟩
theorem v_X6_108 : vOK RX6 108 0 mi_X4_isEmpty := ⟨wTbl_2 159 (by rfl) (by decide +kernel), wTbl_2 160 (by rfl) (by decide +kernel), wTbl_2 161 (by rfl) (by decide +kernel), by decide +kernel⟩
theorem v_X6_111 : vOK RX6 111 2 mi_X4_restore := ⟨wTbl_2 163 (by rfl) (by decide +kernel), wTbl_2 164 (by rfl) (by decide +kernel), wTbl_2 165 (by rfl) (by decide +kernel), by decide +kernel⟩
theorem v_X6_117 : vOK RX6 117 1 mi_X3_elementAt := ⟨wTbl_2 184 (by rfl) (by decide +kernel), wTbl_2 23 (by rfl) (by decide +kernel), wTbl_2 24 (by rfl) (by decide +kernel), by decide +kernel⟩
theorem v_X6_120 : vOK RX6 120 1 mi_X5_hasCode := ⟨wTbl_2 189 (by rfl) (by decide +kernel), wTbl_2 190 (by rfl) (by decide +kernel), wTbl_2 191 (by rfl) (by decide +kernel), by decide +kernel⟩
theorem v_X6_123 : vOK RX6 123 1 mi_X3_has := ⟨wTbl_2 197 (by rfl) (by decide +kernel), wTbl_2 198 (by rfl) (by decide +kernel), wTbl_2 199 (by rfl) (by decide +kernel), by decide +kernel⟩
theorem s_X6_124 : sOK RX6 124 1 mi_X6_oneIf := ⟨wTbl_2 201 (by rfl) (by decide +kernel), wTbl_2 202 (by rfl) (by decide +kernel), by decide +kernel⟩
theorem v_X6_128 : vOK RX6 128 2 mi_X5_times := ⟨wTbl_2 208 (by rfl) (by decide +kernel), wTbl_1 184 (by rfl) (by decide +kernel), wTbl_1 185 (by rfl) (by decide +kernel), by decide +kernel⟩
theorem v_X6_132 : vOK RX6 132 1 mi_X5_factorsToIdentity := ⟨wTbl_2 213 (by rfl) (by decide +kernel), wTbl_2 214 (by rfl) (by decide +kernel), wTbl_2 215 (by rfl) (by decide +kernel), by decide +kernel⟩
theorem v_X6_135 : vOK RX6 135 1 mi_X5_kindNumber := ⟨wTbl_2 222 (by rfl) (by decide +kernel), wTbl_2 32 (by rfl) (by decide +kernel), wTbl_2 33 (by rfl) (by decide +kernel), by decide +kernel⟩
theorem v_X6_138 : vOK RX6 138 1 mi_X1_elementsOfKind := ⟨wTbl_2 227 (by rfl) (by decide +kernel), wTbl_2 228 (by rfl) (by decide +kernel), wTbl_2 229 (by rfl) (by decide +kernel), by decide +kernel⟩
theorem v_X6_141 : vOK RX6 141 0 mi_X3_commutes := ⟨wTbl_2 235 (by rfl) (by decide +kernel), wTbl_2 236 (by rfl) (by decide +kernel), wTbl_2 237 (by rfl) (by decide +kernel), by decide +kernel⟩
theorem v_X6_144 : vOK RX6 144 0 mi_X3_countConjugacyClasses := ⟨wTbl_3 3 (by rfl) (by decide +kernel), wTbl_3 4 (by rfl) (by decide +kernel), wTbl_3 5 (by rfl) (by decide +kernel), by decide +kernel⟩
theorem v_X6_147 : vOK RX6 147 0 mi_X1_countParts := ⟨wTbl_3 27 (by rfl) (by decide +kernel), wTbl_3 28 (by rfl) (by decide +kernel), wTbl_3 29 (by rfl) (by decide +kernel), by decide +kernel⟩
theorem v_X6_150 : vOK RX6 150 0 mi_X1_greatestTurnOrder := ⟨wTbl_3 38 (by rfl) (by decide +kernel), wTbl_3 39 (by rfl) (by decide +kernel), wTbl_3 40 (by rfl) (by decide +kernel), by decide +kernel⟩
theorem v_X6_153 : vOK RX6 153 0 mi_X1_countMirrorParts := ⟨wTbl_3 58 (by rfl) (by decide +kernel), wTbl_3 59 (by rfl) (by decide +kernel), wTbl_3 60 (by rfl) (by decide +kernel), by decide +kernel⟩
theorem v_X6_156 : vOK RX6 156 0 mi_X1_hasCentering := ⟨wTbl_3 66 (by rfl) (by decide +kernel), wTbl_3 67 (by rfl) (by decide +kernel), wTbl_3 68 (by rfl) (by decide +kernel), by decide +kernel⟩
theorem v_X6_159 : vOK RX6 159 0 mi_X1_typeNumber := ⟨wTbl_3 91 (by rfl) (by decide +kernel), wTbl_3 92 (by rfl) (by decide +kernel), wTbl_3 93 (by rfl) (by decide +kernel), by decide +kernel⟩
theorem v_X6_162 : vOK RX6 162 2 mi_X5_hasCell := ⟨wTbl_3 138 (by rfl) (by decide +kernel), wTbl_2 117 (by rfl) (by decide +kernel), wTbl_2 118 (by rfl) (by decide +kernel), by decide +kernel⟩
theorem v_X6_166 : vOK RX6 166 2 mi_X5_cellOf := ⟨wTbl_3 139 (by rfl) (by decide +kernel), wTbl_2 6 (by rfl) (by decide +kernel), wTbl_2 7 (by rfl) (by decide +kernel), by decide +kernel⟩
theorem v_X6_169 : vOK RX6 169 1 mi_X0_sizeOfOrbit := ⟨wTbl_3 140 (by rfl) (by decide +kernel), wTbl_3 141 (by rfl) (by decide +kernel), wTbl_3 142 (by rfl) (by decide +kernel), by decide +kernel⟩
theorem v_X6_172 : vOK RX6 172 1 mi_X0_leastOfOrbit := ⟨wTbl_3 148 (by rfl) (by decide +kernel), wTbl_3 149 (by rfl) (by decide +kernel), wTbl_3 150 (by rfl) (by decide +kernel), by decide +kernel⟩
theorem v_X6_175 : vOK RX6 175 1 mi_X0_sizeOfStabilizer := ⟨wTbl_3 156 (by rfl) (by decide +kernel), wTbl_3 157 (by rfl) (by decide +kernel), wTbl_3 158 (by rfl) (by decide +kernel), by decide +kernel⟩
theorem v_X6_178 : vOK RX6 178 0 mi_X0_orbits := ⟨wTbl_3 167 (by rfl) (by decide +kernel), wTbl_3 168 (by rfl) (by decide +kernel), wTbl_3 169 (by rfl) (by decide +kernel), by decide +kernel⟩
theorem v_X6_181 : vOK RX6 181 1 mi_X0_hasStabilizerOf := ⟨wTbl_3 175 (by rfl) (by decide +kernel), wTbl_3 176 (by rfl) (by decide +kernel), wTbl_3 177 (by rfl) (by decide +kernel), by decide +kernel⟩
theorem s_X6_186 : sOK RX6 186 2 mi_X6_power := ⟨wTbl_3 185 (by rfl) (by decide +kernel), wTbl_3 186 (by rfl) (by decide +kernel), by decide +kernel⟩
theorem v_X6_190 : vOK RX6 190 1 mi_X0_countColoringClasses := ⟨wTbl_3 192 (by rfl) (by decide +kernel), wTbl_3 193 (by rfl) (by decide +kernel), wTbl_3 194 (by rfl) (by decide +kernel), by decide +kernel⟩
theorem v_X6_194 : vOK RX6 194 0 mi_X3_rebuild := ⟨wTbl_1 164 (by rfl) (by decide +kernel), wTbl_1 165 (by rfl) (by decide +kernel), wTbl_1 166 (by rfl) (by decide +kernel), by decide +kernel⟩
theorem v_X6_197 : vOK RX6 197 0 mi_X1_survey := ⟨wTbl_2 13 (by rfl) (by decide +kernel), wTbl_2 14 (by rfl) (by decide +kernel), wTbl_2 15 (by rfl) (by decide +kernel), by decide +kernel⟩
theorem v_X6_200 : vOK RX6 200 0 mi_X0_findOrbits := ⟨wTbl_2 40 (by rfl) (by decide +kernel), wTbl_2 41 (by rfl) (by decide +kernel), wTbl_2 42 (by rfl) (by decide +kernel), by decide +kernel⟩
theorem s_X6_203 : sOK RX6 203 2 mi_J9_floorMod_7cf53 := ⟨wTbl_1 205 (by rfl) (by decide +kernel), wTbl_1 206 (by rfl) (by decide +kernel), by decide +kernel⟩
theorem n_X0_40 : nOK RX0 40 1 mi_X6_clearMarks := ⟨List.mem_of_getElem? (i := 8) (by rfl), wTbl_1 169 (by rfl) (by decide +kernel), by decide +kernel⟩
theorem v_X0_48 : vOK RX0 48 0 mi_X5_cellCount := ⟨wTbl_2 45 (by rfl) (by decide +kernel), wTbl_1 192 (by rfl) (by decide +kernel), wTbl_1 193 (by rfl) (by decide +kernel), by decide +kernel⟩
theorem v_X0_54 : vOK RX0 54 1 mi_X0_findOrbit := ⟨wTbl_2 46 (by rfl) (by decide +kernel), wTbl_2 48 (by rfl) (by decide +kernel), wTbl_s 6 (n := 10) (by rfl), by decide +kernel⟩
theorem v_X0_61 : vOK RX0 61 1 mi_X0_reach := ⟨wTbl_2 50 (by rfl) (by decide +kernel), wTbl_2 52 (by rfl) (by decide +kernel), wTbl_s 7 (n := 10) (by rfl), by decide +kernel⟩
theorem v_X0_69 : vOK RX0 69 1 mi_X2_codeAt := ⟨wTbl_2 55 (by rfl) (by decide +kernel), wTbl_1 179 (by rfl) (by decide +kernel), wTbl_1 180 (by rfl) (by decide +kernel), by decide +kernel⟩
theorem v_X0_73 : vOK RX0 73 2 mi_X5_imageOfCell := ⟨wTbl_2 56 (by rfl) (by decide +kernel), wTbl_2 57 (by rfl) (by decide +kernel), wTbl_2 58 (by rfl) (by decide +kernel), by decide +kernel⟩
theorem n_X0_77 : nOK RX0 77 2 mi_X6_isInside := ⟨List.mem_of_getElem? (i := 9) (by rfl), wTbl_1 176 (by rfl) (by decide +kernel), by decide +kernel⟩
theorem v_X0_81 : vOK RX0 81 0 mi_X3_size := ⟨wTbl_3 160 (by rfl) (by decide +kernel), wTbl_2 19 (by rfl) (by decide +kernel), wTbl_2 20 (by rfl) (by decide +kernel), by decide +kernel⟩
theorem v_X0_85 : vOK RX0 85 1 mi_X0_sizeOfOrbit := ⟨wTbl_3 161 (by rfl) (by decide +kernel), wTbl_3 141 (by rfl) (by decide +kernel), wTbl_3 142 (by rfl) (by decide +kernel), by decide +kernel⟩
theorem n_X0_88 : nOK RX0 88 2 mi_X6_quotient := ⟨List.mem_of_getElem? (i := 12) (by rfl), wTbl_1 196 (by rfl) (by decide +kernel), by decide +kernel⟩
theorem v_X0_91 : vOK RX0 91 1 mi_X0_sizeOfStabilizer := ⟨wTbl_3 179 (by rfl) (by decide +kernel), wTbl_3 157 (by rfl) (by decide +kernel), wTbl_3 158 (by rfl) (by decide +kernel), by decide +kernel⟩
theorem v_X0_94 : vOK RX0 94 1 mi_X3_elementAt := ⟨wTbl_3 196 (by rfl) (by decide +kernel), wTbl_2 23 (by rfl) (by decide +kernel), wTbl_2 24 (by rfl) (by decide +kernel), by decide +kernel⟩
theorem v_X0_97 : vOK RX0 97 1 mi_X0_countCycles := ⟨wTbl_3 197 (by rfl) (by decide +kernel), wTbl_3 199 (by rfl) (by decide +kernel), wTbl_s 23 (n := 10) (by rfl), by decide +kernel⟩
theorem n_X0_100 : nOK RX0 100 2 mi_X6_power := ⟨List.mem_of_getElem? (i := 13) (by rfl), wTbl_3 186 (by rfl) (by decide +kernel), by decide +kernel⟩
theorem v_X0_104 : vOK RX0 104 1 mi_X0_fillImages := ⟨wTbl_3 201 (by rfl) (by decide +kernel), wTbl_3 203 (by rfl) (by decide +kernel), wTbl_s 24 (n := 10) (by rfl), by decide +kernel⟩
theorem v_X0_107 : vOK RX0 107 1 mi_X0_walkCycle := ⟨wTbl_3 211 (by rfl) (by decide +kernel), wTbl_3 213 (by rfl) (by decide +kernel), wTbl_s 25 (n := 10) (by rfl), by decide +kernel⟩
theorem v_X0_110 : vOK RX0 110 1 mi_X5_partOf := ⟨wTbl_3 205 (by rfl) (by decide +kernel), wTbl_1 188 (by rfl) (by decide +kernel), wTbl_1 189 (by rfl) (by decide +kernel), by decide +kernel⟩
theorem v_X0_113 : vOK RX0 113 2 mi_X5_entry := ⟨wTbl_3 206 (by rfl) (by decide +kernel), wTbl_1 217 (by rfl) (by decide +kernel), wTbl_1 218 (by rfl) (by decide +kernel), by decide +kernel⟩
theorem v_X0_116 : vOK RX0 116 1 mi_X5_shiftX := ⟨wTbl_3 207 (by rfl) (by decide +kernel), wTbl_1 199 (by rfl) (by decide +kernel), wTbl_1 200 (by rfl) (by decide +kernel), by decide +kernel⟩
theorem v_X0_119 : vOK RX0 119 1 mi_X5_shiftY := ⟨wTbl_3 208 (by rfl) (by decide +kernel), wTbl_1 209 (by rfl) (by decide +kernel), wTbl_1 210 (by rfl) (by decide +kernel), by decide +kernel⟩
theorem v_X0_125 : vOK RX0 125 1 mi_X5_wrap := ⟨wTbl_3 209 (by rfl) (by decide +kernel), wTbl_1 226 (by rfl) (by decide +kernel), wTbl_1 227 (by rfl) (by decide +kernel), by decide +kernel⟩
theorem v_X0_128 : vOK RX0 128 2 mi_X5_cellOf := ⟨wTbl_3 210 (by rfl) (by decide +kernel), wTbl_2 6 (by rfl) (by decide +kernel), wTbl_2 7 (by rfl) (by decide +kernel), by decide +kernel⟩
theorem n_X1_30 : nOK RX1 30 1 mi_X6_clearMarks := ⟨List.mem_of_getElem? (i := 6) (by rfl), wTbl_1 169 (by rfl) (by decide +kernel), by decide +kernel⟩
theorem v_X1_34 : vOK RX1 34 0 mi_X3_size := ⟨wTbl_2 18 (by rfl) (by decide +kernel), wTbl_2 19 (by rfl) (by decide +kernel), wTbl_2 20 (by rfl) (by decide +kernel), by decide +kernel⟩
theorem v_X1_40 : vOK RX1 40 1 mi_X3_elementAt := ⟨wTbl_2 22 (by rfl) (by decide +kernel), wTbl_2 23 (by rfl) (by decide +kernel), wTbl_2 24 (by rfl) (by decide +kernel), by decide +kernel⟩
theorem v_X1_44 : vOK RX1 44 1 mi_X1_note := ⟨wTbl_2 26 (by rfl) (by decide +kernel), wTbl_2 28 (by rfl) (by decide +kernel), wTbl_s 4 (n := 5) (by rfl), by decide +kernel⟩
theorem v_X1_48 : vOK RX1 48 1 mi_X5_partOf := ⟨wTbl_2 30 (by rfl) (by decide +kernel), wTbl_1 188 (by rfl) (by decide +kernel), wTbl_1 189 (by rfl) (by decide +kernel), by decide +kernel⟩
theorem v_X1_53 : vOK RX1 53 1 mi_X5_kindNumber := ⟨wTbl_2 31 (by rfl) (by decide +kernel), wTbl_2 32 (by rfl) (by decide +kernel), wTbl_2 33 (by rfl) (by decide +kernel), by decide +kernel⟩
theorem n_X1_56 : nOK RX1 56 2 mi_X6_isInside := ⟨List.mem_of_getElem? (i := 7) (by rfl), wTbl_1 176 (by rfl) (by decide +kernel), by decide +kernel⟩
theorem n_X1_60 : nOK RX1 60 1 mi_X6_countMarks := ⟨List.mem_of_getElem? (i := 11) (by rfl), wTbl_3 32 (by rfl) (by decide +kernel), by decide +kernel⟩
theorem v_X1_64 : vOK RX1 64 0 mi_X5_turns := ⟨wTbl_3 42 (by rfl) (by decide +kernel), wTbl_1 238 (by rfl) (by decide +kernel), wTbl_1 239 (by rfl) (by decide +kernel), by decide +kernel⟩
theorem v_X1_67 : vOK RX1 67 1 mi_X1_occurs := ⟨wTbl_3 43 (by rfl) (by decide +kernel), wTbl_3 45 (by rfl) (by decide +kernel), wTbl_s 12 (n := 5) (by rfl), by decide +kernel⟩
theorem v_X1_71 : vOK RX1 71 1 mi_X5_turnOrder := ⟨wTbl_3 47 (by rfl) (by decide +kernel), wTbl_3 48 (by rfl) (by decide +kernel), wTbl_3 49 (by rfl) (by decide +kernel), by decide +kernel⟩
theorem s_X1_74 : sOK RX1 74 2 mi_J9_max_7cf53 := ⟨wTbl_3 51 (by rfl) (by decide +kernel), wTbl_3 52 (by rfl) (by decide +kernel), by decide +kernel⟩
theorem v_X1_80 : vOK RX1 80 0 mi_X5_parts := ⟨wTbl_3 105 (by rfl) (by decide +kernel), wTbl_2 113 (by rfl) (by decide +kernel), wTbl_2 114 (by rfl) (by decide +kernel), by decide +kernel⟩
theorem v_X1_83 : vOK RX1 83 1 mi_X1_keepsHalfSums := ⟨wTbl_3 70 (by rfl) (by decide +kernel), wTbl_3 72 (by rfl) (by decide +kernel), wTbl_s 13 (n := 5) (by rfl), by decide +kernel⟩
theorem v_X1_90 : vOK RX1 90 3 mi_X1_keepsHalfSum := ⟨wTbl_3 74 (by rfl) (by decide +kernel), wTbl_3 76 (by rfl) (by decide +kernel), wTbl_s 14 (n := 5) (by rfl), by decide +kernel⟩
theorem v_X1_94 : vOK RX1 94 2 mi_X3_hasTranslation := ⟨wTbl_3 80 (by rfl) (by decide +kernel), wTbl_3 81 (by rfl) (by decide +kernel), wTbl_3 82 (by rfl) (by decide +kernel), by decide +kernel⟩
theorem v_X1_97 : vOK RX1 97 3 mi_X5_imageX := ⟨wTbl_3 78 (by rfl) (by decide +kernel), wTbl_1 213 (by rfl) (by decide +kernel), wTbl_1 214 (by rfl) (by decide +kernel), by decide +kernel⟩
theorem v_X1_101 : vOK RX1 101 3 mi_X5_imageY := ⟨wTbl_3 79 (by rfl) (by decide +kernel), wTbl_1 230 (by rfl) (by decide +kernel), wTbl_1 231 (by rfl) (by decide +kernel), by decide +kernel⟩
theorem v_X1_104 : vOK RX1 104 0 mi_X1_countMirrorParts := ⟨wTbl_3 95 (by rfl) (by decide +kernel), wTbl_3 59 (by rfl) (by decide +kernel), wTbl_3 60 (by rfl) (by decide +kernel), by decide +kernel⟩
theorem v_X1_107 : vOK RX1 107 0 mi_X1_greatestTurnOrder := ⟨wTbl_3 96 (by rfl) (by decide +kernel), wTbl_3 39 (by rfl) (by decide +kernel), wTbl_3 40 (by rfl) (by decide +kernel), by decide +kernel⟩
theorem v_X1_110 : vOK RX1 110 1 mi_X1_typeWithoutTurns := ⟨wTbl_3 97 (by rfl) (by decide +kernel), wTbl_3 99 (by rfl) (by decide +kernel), wTbl_s 15 (n := 5) (by rfl), by decide +kernel⟩
theorem v_X1_113 : vOK RX1 113 1 mi_X1_typeWithHalfTurns := ⟨wTbl_3 107 (by rfl) (by decide +kernel), wTbl_3 109 (by rfl) (by decide +kernel), wTbl_s 17 (n := 5) (by rfl), by decide +kernel⟩
theorem v_X1_116 : vOK RX1 116 0 mi_X1_typeWithThirdTurns := ⟨wTbl_3 111 (by rfl) (by decide +kernel), wTbl_3 113 (by rfl) (by decide +kernel), wTbl_s 18 (n := 5) (by rfl), by decide +kernel⟩
theorem v_X1_119 : vOK RX1 119 1 mi_X1_typeWithQuarterTurns := ⟨wTbl_3 130 (by rfl) (by decide +kernel), wTbl_3 132 (by rfl) (by decide +kernel), wTbl_s 22 (n := 5) (by rfl), by decide +kernel⟩
theorem v_X1_122 : vOK RX1 122 0 mi_X1_hasReversal := ⟨wTbl_3 101 (by rfl) (by decide +kernel), wTbl_3 103 (by rfl) (by decide +kernel), wTbl_s 16 (n := 5) (by rfl), by decide +kernel⟩
theorem v_X1_126 : vOK RX1 126 0 mi_X1_hasCentering := ⟨wTbl_3 106 (by rfl) (by decide +kernel), wTbl_3 67 (by rfl) (by decide +kernel), wTbl_3 68 (by rfl) (by decide +kernel), by decide +kernel⟩
theorem v_X1_129 : vOK RX1 129 0 mi_X1_fixesShortestVector := ⟨wTbl_3 115 (by rfl) (by decide +kernel), wTbl_3 117 (by rfl) (by decide +kernel), wTbl_s 19 (n := 5) (by rfl), by decide +kernel⟩
theorem v_X1_132 : vOK RX1 132 0 mi_X1_leastSquaredLength := ⟨wTbl_3 119 (by rfl) (by decide +kernel), wTbl_3 121 (by rfl) (by decide +kernel), wTbl_s 20 (n := 5) (by rfl), by decide +kernel⟩
theorem s_X1_135 : sOK RX1 135 2 mi_X1_squaredLength := ⟨wTbl_3 123 (by rfl) (by decide +kernel), wTbl_3 124 (by rfl) (by decide +kernel), by decide +kernel⟩
theorem v_X1_138 : vOK RX1 138 2 mi_X1_isFixedByReversal := ⟨wTbl_3 126 (by rfl) (by decide +kernel), wTbl_3 128 (by rfl) (by decide +kernel), wTbl_s 21 (n := 5) (by rfl), by decide +kernel⟩
theorem n_X2_19 : nOK RX2 19 2 mi_X6_isInside := ⟨List.mem_of_getElem? (i := 2) (by rfl), wTbl_1 176 (by rfl) (by decide +kernel), by decide +kernel⟩
theorem v_X2_23 : vOK RX2 23 0 mi_X2_isFull := ⟨wTbl_2 129 (by rfl) (by decide +kernel), wTbl_2 121 (by rfl) (by decide +kernel), wTbl_2 122 (by rfl) (by decide +kernel), by decide +kernel⟩
theorem v_X2_27 : vOK RX2 27 2 mi_X2_replace := ⟨wTbl_2 130 (by rfl) (by decide +kernel), wTbl_2 131 (by rfl) (by decide +kernel), wTbl_2 132 (by rfl) (by decide +kernel), by decide +kernel⟩
theorem v_X2_31 : vOK RX2 31 1 mi_X2_has := ⟨wTbl_2 147 (by rfl) (by decide +kernel), wTbl_2 140 (by rfl) (by decide +kernel), wTbl_2 141 (by rfl) (by decide +kernel), by decide +kernel⟩
theorem v_X2_35 : vOK RX2 35 1 mi_X2_codeAt := ⟨wTbl_2 148 (by rfl) (by decide +kernel), wTbl_1 179 (by rfl) (by decide +kernel), wTbl_1 180 (by rfl) (by decide +kernel), by decide +kernel⟩
theorem n_X3_37 : nOK RX3 37 2 mi_X6_isInside := ⟨List.mem_of_getElem? (i := 1) (by rfl), wTbl_1 176 (by rfl) (by decide +kernel), by decide +kernel⟩
theorem v_X3_41 : vOK RX3 41 1 mi_X5_wrap := ⟨wTbl_3 84 (by rfl) (by decide +kernel), wTbl_1 226 (by rfl) (by decide +kernel), wTbl_1 227 (by rfl) (by decide +kernel), by decide +kernel⟩
theorem v_X3_47 : vOK RX3 47 3 mi_X5_codeOf := ⟨wTbl_3 85 (by rfl) (by decide +kernel), wTbl_2 2 (by rfl) (by decide +kernel), wTbl_2 3 (by rfl) (by decide +kernel), by decide +kernel⟩
theorem v_X3_51 : vOK RX3 51 1 mi_X3_has := ⟨wTbl_3 86 (by rfl) (by decide +kernel), wTbl_2 198 (by rfl) (by decide +kernel), wTbl_2 199 (by rfl) (by decide +kernel), by decide +kernel⟩
theorem n_X3_55 : nOK RX3 55 1 mi_X6_clearMarks := ⟨List.mem_of_getElem? (i := 0) (by rfl), wTbl_1 169 (by rfl) (by decide +kernel), by decide +kernel⟩
theorem v_X3_59 : vOK RX3 59 1 mi_X3_admit := ⟨wTbl_1 171 (by rfl) (by decide +kernel), wTbl_1 173 (by rfl) (by decide +kernel), wTbl_s 1 (n := 8) (by rfl), by decide +kernel⟩
theorem v_X3_68 : vOK RX3 68 1 mi_X2_codeAt := ⟨wTbl_1 178 (by rfl) (by decide +kernel), wTbl_1 179 (by rfl) (by decide +kernel), wTbl_1 180 (by rfl) (by decide +kernel), by decide +kernel⟩
theorem v_X3_71 : vOK RX3 71 2 mi_X5_times := ⟨wTbl_1 183 (by rfl) (by decide +kernel), wTbl_1 184 (by rfl) (by decide +kernel), wTbl_1 185 (by rfl) (by decide +kernel), by decide +kernel⟩
theorem v_X3_75 : vOK RX3 75 0 mi_X3_listByCode := ⟨wTbl_2 9 (by rfl) (by decide +kernel), wTbl_2 11 (by rfl) (by decide +kernel), wTbl_s 3 (n := 8) (by rfl), by decide +kernel⟩
theorem v_X3_78 : vOK RX3 78 1 mi_X3_classify := ⟨wTbl_3 7 (by rfl) (by decide +kernel), wTbl_3 9 (by rfl) (by decide +kernel), wTbl_s 9 (n := 8) (by rfl), by decide +kernel⟩
theorem v_X3_84 : vOK RX3 84 1 mi_X3_admitToClass := ⟨wTbl_3 11 (by rfl) (by decide +kernel), wTbl_3 13 (by rfl) (by decide +kernel), wTbl_s 10 (n := 8) (by rfl), by decide +kernel⟩
theorem v_X3_87 : vOK RX3 87 1 mi_X5_inverseOf := ⟨wTbl_3 15 (by rfl) (by decide +kernel), wTbl_3 16 (by rfl) (by decide +kernel), wTbl_3 17 (by rfl) (by decide +kernel), by decide +kernel⟩
theorem v_X4_20 : vOK RX4 20 0 mi_X4_forgetOldest := ⟨wTbl_2 87 (by rfl) (by decide +kernel), wTbl_2 89 (by rfl) (by decide +kernel), wTbl_s 8 (n := 2) (by rfl), by decide +kernel⟩
theorem n_X4_23 : nOK RX4 23 2 mi_X6_isInside := ⟨List.mem_of_getElem? (i := 10) (by rfl), wTbl_1 176 (by rfl) (by decide +kernel), by decide +kernel⟩
theorem s_X4_27 : sOK RX4 27 3 mi_X4_write := ⟨wTbl_2 92 (by rfl) (by decide +kernel), wTbl_2 93 (by rfl) (by decide +kernel), by decide +kernel⟩
theorem s_X4_31 : sOK RX4 31 3 mi_X4_read := ⟨wTbl_2 167 (by rfl) (by decide +kernel), wTbl_2 168 (by rfl) (by decide +kernel), by decide +kernel⟩
theorem v_X4_47 : vOK RX4 47 1 mi_X2_codeAt := ⟨wTbl_2 95 (by rfl) (by decide +kernel), wTbl_1 179 (by rfl) (by decide +kernel), wTbl_1 180 (by rfl) (by decide +kernel), by decide +kernel⟩
theorem v_X4_51 : vOK RX4 51 2 mi_X5_choose := ⟨wTbl_2 170 (by rfl) (by decide +kernel), wTbl_2 97 (by rfl) (by decide +kernel), wTbl_2 98 (by rfl) (by decide +kernel), by decide +kernel⟩
theorem v_X4_55 : vOK RX4 55 2 mi_X2_replace := ⟨wTbl_2 171 (by rfl) (by decide +kernel), wTbl_2 131 (by rfl) (by decide +kernel), wTbl_2 132 (by rfl) (by decide +kernel), by decide +kernel⟩
theorem v_X5_18 : vOK RX5 18 0 mi_X5_turns := ⟨wTbl_1 237 (by rfl) (by decide +kernel), wTbl_1 238 (by rfl) (by decide +kernel), wTbl_1 239 (by rfl) (by decide +kernel), by decide +kernel⟩
theorem v_X5_22 : vOK RX5 22 0 mi_X5_parts := ⟨wTbl_2 112 (by rfl) (by decide +kernel), wTbl_2 113 (by rfl) (by decide +kernel), wTbl_2 114 (by rfl) (by decide +kernel), by decide +kernel⟩
theorem v_X5_25 : vOK RX5 25 0 mi_X5_cellCount := ⟨wTbl_1 191 (by rfl) (by decide +kernel), wTbl_1 192 (by rfl) (by decide +kernel), wTbl_1 193 (by rfl) (by decide +kernel), by decide +kernel⟩
theorem n_X5_28 : nOK RX5 28 2 mi_X6_isInside := ⟨List.mem_of_getElem? (i := 5) (by rfl), wTbl_1 176 (by rfl) (by decide +kernel), by decide +kernel⟩
theorem v_X5_32 : vOK RX5 32 2 mi_X5_hasCell := ⟨wTbl_2 116 (by rfl) (by decide +kernel), wTbl_2 117 (by rfl) (by decide +kernel), wTbl_2 118 (by rfl) (by decide +kernel), by decide +kernel⟩
theorem v_X5_35 : vOK RX5 35 0 mi_X5_codes := ⟨wTbl_2 193 (by rfl) (by decide +kernel), wTbl_2 194 (by rfl) (by decide +kernel), wTbl_2 195 (by rfl) (by decide +kernel), by decide +kernel⟩
theorem v_X5_38 : vOK RX5 38 2 mi_X5_cellOf := ⟨wTbl_2 5 (by rfl) (by decide +kernel), wTbl_2 6 (by rfl) (by decide +kernel), wTbl_2 7 (by rfl) (by decide +kernel), by decide +kernel⟩
theorem n_X5_42 : nOK RX5 42 2 mi_X6_quotient := ⟨List.mem_of_getElem? (i := 3) (by rfl), wTbl_1 196 (by rfl) (by decide +kernel), by decide +kernel⟩
theorem n_X5_45 : nOK RX5 45 2 mi_X6_remainder := ⟨List.mem_of_getElem? (i := 4) (by rfl), wTbl_1 203 (by rfl) (by decide +kernel), by decide +kernel⟩
theorem v_X5_55 : vOK RX5 55 2 mi_X5_entry := ⟨wTbl_1 216 (by rfl) (by decide +kernel), wTbl_1 217 (by rfl) (by decide +kernel), wTbl_1 218 (by rfl) (by decide +kernel), by decide +kernel⟩
theorem v_X5_58 : vOK RX5 58 1 mi_X5_partOf := ⟨wTbl_1 187 (by rfl) (by decide +kernel), wTbl_1 188 (by rfl) (by decide +kernel), wTbl_1 189 (by rfl) (by decide +kernel), by decide +kernel⟩
theorem v_X5_62 : vOK RX5 62 3 mi_X5_imageX := ⟨wTbl_1 212 (by rfl) (by decide +kernel), wTbl_1 213 (by rfl) (by decide +kernel), wTbl_1 214 (by rfl) (by decide +kernel), by decide +kernel⟩
theorem v_X5_66 : vOK RX5 66 1 mi_X5_shiftX := ⟨wTbl_1 198 (by rfl) (by decide +kernel), wTbl_1 199 (by rfl) (by decide +kernel), wTbl_1 200 (by rfl) (by decide +kernel), by decide +kernel⟩
theorem v_X5_69 : vOK RX5 69 1 mi_X5_wrap := ⟨wTbl_1 225 (by rfl) (by decide +kernel), wTbl_1 226 (by rfl) (by decide +kernel), wTbl_1 227 (by rfl) (by decide +kernel), by decide +kernel⟩
theorem v_X5_72 : vOK RX5 72 3 mi_X5_imageY := ⟨wTbl_1 229 (by rfl) (by decide +kernel), wTbl_1 230 (by rfl) (by decide +kernel), wTbl_1 231 (by rfl) (by decide +kernel), by decide +kernel⟩
theorem v_X5_75 : vOK RX5 75 1 mi_X5_shiftY := ⟨wTbl_1 208 (by rfl) (by decide +kernel), wTbl_1 209 (by rfl) (by decide +kernel), wTbl_1 210 (by rfl) (by decide +kernel), by decide +kernel⟩
theorem v_X5_78 : vOK RX5 78 2 mi_X5_timesPart := ⟨wTbl_1 233 (by rfl) (by decide +kernel), wTbl_1 235 (by rfl) (by decide +kernel), wTbl_s 2 (n := 2) (by rfl), by decide +kernel⟩
theorem v_X5_81 : vOK RX5 81 3 mi_X5_codeOf := ⟨wTbl_2 1 (by rfl) (by decide +kernel), wTbl_2 2 (by rfl) (by decide +kernel), wTbl_2 3 (by rfl) (by decide +kernel), by decide +kernel⟩
theorem v_X5_84 : vOK RX5 84 1 mi_X5_inversePart := ⟨wTbl_3 19 (by rfl) (by decide +kernel), wTbl_3 21 (by rfl) (by decide +kernel), wTbl_s 11 (n := 2) (by rfl), by decide +kernel⟩
theorem v_X5_87 : vOK RX5 87 2 mi_X5_times := ⟨wTbl_2 217 (by rfl) (by decide +kernel), wTbl_1 184 (by rfl) (by decide +kernel), wTbl_1 185 (by rfl) (by decide +kernel), by decide +kernel⟩
theorem v_X5_90 : vOK RX5 90 1 mi_X5_isReflection := ⟨wTbl_2 35 (by rfl) (by decide +kernel), wTbl_2 37 (by rfl) (by decide +kernel), wTbl_s 5 (n := 2) (by rfl), by decide +kernel⟩
theorem v_X7_29 : vOK RX7 29 0 mi_X7_derive := ⟨wTbl_3 222 (by rfl) (by decide +kernel), wTbl_3 224 (by rfl) (by decide +kernel), wTbl_s 26 (n := 9) (by rfl), by decide +kernel⟩
theorem v_X7_32 : vOK RX7 32 2 mi_X7_entry := ⟨wTbl_3 238 (by rfl) (by decide +kernel), wTbl_4 0 (by rfl) (by decide +kernel), wTbl_s 30 (n := 9) (by rfl), by decide +kernel⟩
theorem v_X7_40 : vOK RX7 40 5 mi_X7_putPart := ⟨wTbl_3 230 (by rfl) (by decide +kernel), wTbl_3 232 (by rfl) (by decide +kernel), wTbl_s 28 (n := 9) (by rfl), by decide +kernel⟩
theorem v_X7_44 : vOK RX7 44 3 mi_X7_putProduct := ⟨wTbl_3 234 (by rfl) (by decide +kernel), wTbl_3 236 (by rfl) (by decide +kernel), wTbl_s 29 (n := 9) (by rfl), by decide +kernel⟩
theorem v_X7_48 : vOK RX7 48 2 mi_X7_numberOfProduct := ⟨wTbl_4 2 (by rfl) (by decide +kernel), wTbl_4 4 (by rfl) (by decide +kernel), wTbl_s 31 (n := 9) (by rfl), by decide +kernel⟩
theorem v_X7_51 : vOK RX7 51 0 mi_X7_cells := ⟨wTbl_4 18 (by rfl) (by decide +kernel), wTbl_4 20 (by rfl) (by decide +kernel), wTbl_s 35 (n := 9) (by rfl), by decide +kernel⟩
theorem v_X7_55 : vOK RX7 55 1 mi_X7_modulo := ⟨wTbl_4 42 (by rfl) (by decide +kernel), wTbl_4 44 (by rfl) (by decide +kernel), wTbl_s 41 (n := 9) (by rfl), by decide +kernel⟩
theorem v_X7_59 : vOK RX7 59 1 mi_X7_partOf := ⟨wTbl_4 14 (by rfl) (by decide +kernel), wTbl_4 16 (by rfl) (by decide +kernel), wTbl_s 34 (n := 9) (by rfl), by decide +kernel⟩
theorem v_X7_62 : vOK RX7 62 1 mi_X7_uOf := ⟨wTbl_4 22 (by rfl) (by decide +kernel), wTbl_4 24 (by rfl) (by decide +kernel), wTbl_s 36 (n := 9) (by rfl), by decide +kernel⟩
theorem v_X7_65 : vOK RX7 65 1 mi_X7_vOf := ⟨wTbl_4 26 (by rfl) (by decide +kernel), wTbl_4 28 (by rfl) (by decide +kernel), wTbl_s 37 (n := 9) (by rfl), by decide +kernel⟩
theorem v_X7_68 : vOK RX7 68 3 mi_X7_imageX := ⟨wTbl_4 30 (by rfl) (by decide +kernel), wTbl_4 32 (by rfl) (by decide +kernel), wTbl_s 38 (n := 9) (by rfl), by decide +kernel⟩
theorem v_X7_72 : vOK RX7 72 3 mi_X7_imageY := ⟨wTbl_4 34 (by rfl) (by decide +kernel), wTbl_4 36 (by rfl) (by decide +kernel), wTbl_s 39 (n := 9) (by rfl), by decide +kernel⟩
theorem v_X7_75 : vOK RX7 75 3 mi_X7_codeOf := ⟨wTbl_4 38 (by rfl) (by decide +kernel), wTbl_4 40 (by rfl) (by decide +kernel), wTbl_s 40 (n := 9) (by rfl), by decide +kernel⟩
theorem s_X7_78 : sOK RX7 78 3 mi_X7_in := ⟨wTbl_4 82 (by rfl) (by decide +kernel), wTbl_4 83 (by rfl) (by decide +kernel), by decide +kernel⟩
theorem s_X7_82 : sOK RX7 82 2 mi_X7_divisor := ⟨wTbl_4 153 (by rfl) (by decide +kernel), wTbl_4 154 (by rfl) (by decide +kernel), by decide +kernel⟩
theorem v_X7_85 : vOK RX7 85 1 mi_X7_isTurn := ⟨wTbl_4 145 (by rfl) (by decide +kernel), wTbl_4 147 (by rfl) (by decide +kernel), wTbl_s 47 (n := 9) (by rfl), by decide +kernel⟩
theorem v_X7_89 : vOK RX7 89 1 mi_X7_isReflection := ⟨wTbl_4 149 (by rfl) (by decide +kernel), wTbl_4 151 (by rfl) (by decide +kernel), wTbl_s 48 (n := 9) (by rfl), by decide +kernel⟩
theorem v_X7_95 : vOK RX7 95 0 mi_X7_makeParts := ⟨wTbl_3 226 (by rfl) (by decide +kernel), wTbl_3 228 (by rfl) (by decide +kernel), wTbl_s 27 (n := 9) (by rfl), by decide +kernel⟩
theorem v_X7_98 : vOK RX7 98 1 mi_X7_addElement := ⟨wTbl_4 6 (by rfl) (by decide +kernel), wTbl_4 8 (by rfl) (by decide +kernel), wTbl_s 32 (n := 9) (by rfl), by decide +kernel⟩
theorem v_X7_102 : vOK RX7 102 2 mi_X7_times := ⟨wTbl_4 10 (by rfl) (by decide +kernel), wTbl_4 12 (by rfl) (by decide +kernel), wTbl_s 33 (n := 9) (by rfl), by decide +kernel⟩
end
section
set_option maxRecDepth 20000
theorem v_X7_108 : vOK RX7 108 0 mi_X7_save := ⟨wTbl_4 85 (by rfl) (by decide +kernel), wTbl_4 87 (by rfl) (by decide +kernel), wTbl_s 42 (n := 9) (by rfl), by decide +kernel⟩
theorem v_X7_111 : vOK RX7 111 3 mi_X7_isMovement := ⟨wTbl_4 93 (by rfl) (by decide +kernel), wTbl_4 95 (by rfl) (by decide +kernel), wTbl_s 43 (n := 9) (by rfl), by decide +kernel⟩
theorem v_X7_114 : vOK RX7 114 1 mi_X7_isGenerator := ⟨wTbl_4 101 (by rfl) (by decide +kernel), wTbl_4 103 (by rfl) (by decide +kernel), wTbl_s 44 (n := 9) (by rfl), by decide +kernel⟩
theorem v_X7_117 : vOK RX7 117 1 mi_X7_isCode := ⟨wTbl_4 125 (by rfl) (by decide +kernel), wTbl_4 127 (by rfl) (by decide +kernel), wTbl_s 45 (n := 9) (by rfl), by decide +kernel⟩
theorem v_X7_120 : vOK RX7 120 1 mi_X7_kindOfCode := ⟨wTbl_4 141 (by rfl) (by decide +kernel), wTbl_4 143 (by rfl) (by decide +kernel), wTbl_s 46 (n := 9) (by rfl), by decide +kernel⟩
theorem v_X7_123 : vOK RX7 123 0 mi_X7_commutingPairs := ⟨wTbl_4 164 (by rfl) (by decide +kernel), wTbl_4 166 (by rfl) (by decide +kernel), wTbl_s 49 (n := 9) (by rfl), by decide +kernel⟩
theorem v_X7_126 : vOK RX7 126 1 mi_X7_partSet := ⟨wTbl_4 176 (by rfl) (by decide +kernel), wTbl_4 178 (by rfl) (by decide +kernel), wTbl_s 50 (n := 9) (by rfl), by decide +kernel⟩
theorem s_X7_130 : sOK RX7 130 1 mi_X7_ones := ⟨wTbl_4 180 (by rfl) (by decide +kernel), wTbl_4 181 (by rfl) (by decide +kernel), by decide +kernel⟩
theorem v_X7_133 : vOK RX7 133 1 mi_X7_orderOfPart := ⟨wTbl_4 191 (by rfl) (by decide +kernel), wTbl_4 193 (by rfl) (by decide +kernel), wTbl_s 52 (n := 9) (by rfl), by decide +kernel⟩
theorem v_X7_136 : vOK RX7 136 0 mi_X7_greatestTurn := ⟨wTbl_4 187 (by rfl) (by decide +kernel), wTbl_4 189 (by rfl) (by decide +kernel), wTbl_s 51 (n := 9) (by rfl), by decide +kernel⟩
theorem v_X7_139 : vOK RX7 139 0 mi_X7_directions := ⟨wTbl_4 199 (by rfl) (by decide +kernel), wTbl_4 201 (by rfl) (by decide +kernel), wTbl_s 53 (n := 9) (by rfl), by decide +kernel⟩
theorem v_X7_142 : vOK RX7 142 2 mi_X7_isLatticeVector := ⟨wTbl_4 219 (by rfl) (by decide +kernel), wTbl_4 221 (by rfl) (by decide +kernel), wTbl_s 57 (n := 9) (by rfl), by decide +kernel⟩
theorem v_X7_146 : vOK RX7 146 3 mi_X7_isHalved := ⟨wTbl_4 215 (by rfl) (by decide +kernel), wTbl_4 217 (by rfl) (by decide +kernel), wTbl_s 56 (n := 9) (by rfl), by decide +kernel⟩
theorem v_X7_149 : vOK RX7 149 1 mi_X7_isCenteredBy := ⟨wTbl_4 211 (by rfl) (by decide +kernel), wTbl_4 213 (by rfl) (by decide +kernel), wTbl_s 55 (n := 9) (by rfl), by decide +kernel⟩
theorem v_X7_152 : vOK RX7 152 0 mi_X7_isCenteredNow := ⟨wTbl_4 207 (by rfl) (by decide +kernel), wTbl_4 209 (by rfl) (by decide +kernel), wTbl_s 54 (n := 9) (by rfl), by decide +kernel⟩
theorem v_X7_156 : vOK RX7 156 2 mi_X7_squared := ⟨wTbl_4 235 (by rfl) (by decide +kernel), wTbl_4 237 (by rfl) (by decide +kernel), wTbl_s 60 (n := 9) (by rfl), by decide +kernel⟩
theorem v_X7_159 : vOK RX7 159 0 mi_X7_leastSquared := ⟨wTbl_4 231 (by rfl) (by decide +kernel), wTbl_4 233 (by rfl) (by decide +kernel), wTbl_s 59 (n := 9) (by rfl), by decide +kernel⟩
theorem v_X7_162 : vOK RX7 162 0 mi_X7_isShortestFixed := ⟨wTbl_4 227 (by rfl) (by decide +kernel), wTbl_4 229 (by rfl) (by decide +kernel), wTbl_s 58 (n := 9) (by rfl), by decide +kernel⟩
theorem v_X7_165 : vOK RX7 165 2 mi_X7_sends := ⟨wTbl_5 11 (by rfl) (by decide +kernel), wTbl_5 13 (by rfl) (by decide +kernel), wTbl_s 63 (n := 9) (by rfl), by decide +kernel⟩
theorem v_X7_168 : vOK RX7 168 2 mi_X7_isCell := ⟨wTbl_5 3 (by rfl) (by decide +kernel), wTbl_5 5 (by rfl) (by decide +kernel), wTbl_s 61 (n := 9) (by rfl), by decide +kernel⟩
theorem v_X7_171 : vOK RX7 171 1 mi_X7_orbit := ⟨wTbl_5 7 (by rfl) (by decide +kernel), wTbl_5 9 (by rfl) (by decide +kernel), wTbl_s 62 (n := 9) (by rfl), by decide +kernel⟩
theorem s_X7_174 : sOK RX7 174 1 mi_X7_many := ⟨wTbl_5 15 (by rfl) (by decide +kernel), wTbl_5 16 (by rfl) (by decide +kernel), by decide +kernel⟩
theorem s_X7_177 : sOK RX7 177 1 mi_X7_first := ⟨wTbl_5 22 (by rfl) (by decide +kernel), wTbl_5 23 (by rfl) (by decide +kernel), by decide +kernel⟩
theorem v_X7_180 : vOK RX7 180 1 mi_X7_stabilizer := ⟨wTbl_5 29 (by rfl) (by decide +kernel), wTbl_5 31 (by rfl) (by decide +kernel), wTbl_s 64 (n := 9) (by rfl), by decide +kernel⟩
theorem v_X7_183 : vOK RX7 183 0 mi_X7_orbits := ⟨wTbl_5 37 (by rfl) (by decide +kernel), wTbl_5 39 (by rfl) (by decide +kernel), wTbl_s 65 (n := 9) (by rfl), by decide +kernel⟩
theorem s_X7_186 : sOK RX7 186 2 mi_X7_power := ⟨wTbl_5 49 (by rfl) (by decide +kernel), wTbl_5 50 (by rfl) (by decide +kernel), by decide +kernel⟩
theorem v_X7_192 : vOK RX7 192 1 mi_X7_cycles := ⟨wTbl_5 57 (by rfl) (by decide +kernel), wTbl_5 59 (by rfl) (by decide +kernel), wTbl_s 66 (n := 9) (by rfl), by decide +kernel⟩
theorem f_X6_12 : fOK RX6 12 6 0 := ⟨RX6, TX6, 6, rfl, by decide, wTbl_2 60 (by rfl) (by decide +kernel), uX6⟩
theorem f_X6_19 : fOK RX6 19 6 1 := ⟨RX6, TX6, 6, rfl, by decide, wTbl_2 61 (by rfl) (by decide +kernel), uX6⟩
theorem f_X6_26 : fOK RX6 26 6 2 := ⟨RX6, TX6, 6, rfl, by decide, wTbl_2 62 (by rfl) (by decide +kernel), uX6⟩
theorem f_X6_35 : fOK RX6 35 6 3 := ⟨RX6, TX6, 6, rfl, by decide, wTbl_2 63 (by rfl) (by decide +kernel), uX6⟩
theorem f_X6_44 : fOK RX6 44 6 4 := ⟨RX6, TX6, 6, rfl, by decide, wTbl_2 64 (by rfl) (by decide +kernel), uX6⟩
theorem f_X6_53 : fOK RX6 53 6 5 := ⟨RX6, TX6, 6, rfl, by decide, wTbl_2 65 (by rfl) (by decide +kernel), uX6⟩
theorem f_X6_60 : fOK RX6 60 5 1 := ⟨RX5, TX5, 2, rfl, by decide, wTbl_1 27 (by rfl) (by decide +kernel), uX5⟩
theorem g_X6_60 : gOK RX6 60 5 1 := ⟨RX5, TX5, 2, tyX5, rfl, by decide, wTbl_1 27 (by rfl) (by decide +kernel), uX5, tyX5_ok, nmX5, rfl, by decide +kernel⟩
theorem f_X6_114 : fOK RX6 114 4 1 := ⟨RX4, TX4, 2, rfl, by decide, wTbl_1 63 (by rfl) (by decide +kernel), uX4⟩
theorem g_X6_114 : gOK RX6 114 4 1 := ⟨RX4, TX4, 2, tyX4, rfl, by decide, wTbl_1 63 (by rfl) (by decide +kernel), uX4, tyX4_ok, nmX4, rfl, by decide +kernel⟩
theorem f_X0_9 : fOK RX0 9 0 3 := ⟨RX0, TX0, 10, rfl, by decide, wTbl_1 132 (by rfl) (by decide +kernel), uX0⟩
theorem f_X0_15 : fOK RX0 15 0 4 := ⟨RX0, TX0, 10, rfl, by decide, wTbl_1 133 (by rfl) (by decide +kernel), uX0⟩
theorem f_X0_18 : fOK RX0 18 0 5 := ⟨RX0, TX0, 10, rfl, by decide, wTbl_1 134 (by rfl) (by decide +kernel), uX0⟩
theorem f_X0_22 : fOK RX0 22 0 6 := ⟨RX0, TX0, 10, rfl, by decide, wTbl_1 135 (by rfl) (by decide +kernel), uX0⟩
theorem f_X0_25 : fOK RX0 25 0 7 := ⟨RX0, TX0, 10, rfl, by decide, wTbl_1 136 (by rfl) (by decide +kernel), uX0⟩
theorem f_X0_28 : fOK RX0 28 0 0 := ⟨RX0, TX0, 10, rfl, by decide, wTbl_1 129 (by rfl) (by decide +kernel), uX0⟩
theorem f_X0_32 : fOK RX0 32 0 1 := ⟨RX0, TX0, 10, rfl, by decide, wTbl_1 130 (by rfl) (by decide +kernel), uX0⟩
theorem f_X0_36 : fOK RX0 36 0 2 := ⟨RX0, TX0, 10, rfl, by decide, wTbl_1 131 (by rfl) (by decide +kernel), uX0⟩
theorem f_X0_44 : fOK RX0 44 0 9 := ⟨RX0, TX0, 10, rfl, by decide, wTbl_1 138 (by rfl) (by decide +kernel), uX0⟩
theorem g_X0_44 : gOK RX0 44 0 9 := ⟨RX0, TX0, 10, tyX0, rfl, by decide, wTbl_1 138 (by rfl) (by decide +kernel), uX0, tyX0_ok, nmX0, rfl, by decide +kernel⟩
theorem f_X0_58 : fOK RX0 58 0 8 := ⟨RX0, TX0, 10, rfl, by decide, wTbl_1 137 (by rfl) (by decide +kernel), uX0⟩
theorem g_X0_58 : gOK RX0 58 0 8 := ⟨RX0, TX0, 10, tyX0, rfl, by decide, wTbl_1 137 (by rfl) (by decide +kernel), uX0, tyX0_ok, nmX0, rfl, by decide +kernel⟩
theorem f_X0_64 : fOK RX0 64 2 1 := ⟨RX2, TX2, 2, rfl, by decide, wTbl_1 44 (by rfl) (by decide +kernel), uX2⟩
theorem g_X0_64 : gOK RX0 64 2 1 := ⟨RX2, TX2, 2, tyX2, rfl, by decide, wTbl_1 44 (by rfl) (by decide +kernel), uX2, tyX2_ok, nmX2, rfl, by decide +kernel⟩
theorem f_X0_122 : fOK RX0 122 5 1 := ⟨RX5, TX5, 2, rfl, by decide, wTbl_1 30 (by rfl) (by decide +kernel), uX5⟩
theorem g_X0_122 : gOK RX0 122 5 1 := ⟨RX5, TX5, 2, tyX5, rfl, by decide, wTbl_1 30 (by rfl) (by decide +kernel), uX5, tyX5_ok, nmX5, rfl, by decide +kernel⟩
theorem f_X1_9 : fOK RX1 9 1 2 := ⟨RX1, TX1, 5, rfl, by decide, wTbl_1 109 (by rfl) (by decide +kernel), uX1⟩
theorem f_X1_15 : fOK RX1 15 1 3 := ⟨RX1, TX1, 5, rfl, by decide, wTbl_1 110 (by rfl) (by decide +kernel), uX1⟩
theorem f_X1_18 : fOK RX1 18 1 4 := ⟨RX1, TX1, 5, rfl, by decide, wTbl_1 111 (by rfl) (by decide +kernel), uX1⟩
theorem f_X1_22 : fOK RX1 22 1 0 := ⟨RX1, TX1, 5, rfl, by decide, wTbl_1 107 (by rfl) (by decide +kernel), uX1⟩
theorem f_X1_26 : fOK RX1 26 1 1 := ⟨RX1, TX1, 5, rfl, by decide, wTbl_1 108 (by rfl) (by decide +kernel), uX1⟩
theorem f_X1_86 : fOK RX1 86 5 1 := ⟨RX5, TX5, 2, rfl, by decide, wTbl_1 29 (by rfl) (by decide +kernel), uX5⟩
theorem g_X1_86 : gOK RX1 86 5 1 := ⟨RX5, TX5, 2, tyX5, rfl, by decide, wTbl_1 29 (by rfl) (by decide +kernel), uX5, tyX5_ok, nmX5, rfl, by decide +kernel⟩
theorem f_X2_9 : fOK RX2 9 2 0 := ⟨RX2, TX2, 2, rfl, by decide, wTbl_1 42 (by rfl) (by decide +kernel), uX2⟩
theorem f_X2_15 : fOK RX2 15 2 1 := ⟨RX2, TX2, 2, rfl, by decide, wTbl_1 43 (by rfl) (by decide +kernel), uX2⟩
theorem g_X2_15 : gOK RX2 15 2 1 := ⟨RX2, TX2, 2, tyX2, rfl, by decide, wTbl_1 43 (by rfl) (by decide +kernel), uX2, tyX2_ok, nmX2, rfl, by decide +kernel⟩
theorem f_X3_9 : fOK RX3 9 3 2 := ⟨RX3, TX3, 8, rfl, by decide, wTbl_1 77 (by rfl) (by decide +kernel), uX3⟩
theorem f_X3_15 : fOK RX3 15 3 3 := ⟨RX3, TX3, 8, rfl, by decide, wTbl_1 78 (by rfl) (by decide +kernel), uX3⟩
theorem f_X3_19 : fOK RX3 19 3 4 := ⟨RX3, TX3, 8, rfl, by decide, wTbl_1 79 (by rfl) (by decide +kernel), uX3⟩
theorem f_X3_22 : fOK RX3 22 3 5 := ⟨RX3, TX3, 8, rfl, by decide, wTbl_1 80 (by rfl) (by decide +kernel), uX3⟩
theorem f_X3_25 : fOK RX3 25 3 0 := ⟨RX3, TX3, 8, rfl, by decide, wTbl_1 75 (by rfl) (by decide +kernel), uX3⟩
theorem f_X3_29 : fOK RX3 29 3 1 := ⟨RX3, TX3, 8, rfl, by decide, wTbl_1 76 (by rfl) (by decide +kernel), uX3⟩
theorem f_X3_33 : fOK RX3 33 3 6 := ⟨RX3, TX3, 8, rfl, by decide, wTbl_1 81 (by rfl) (by decide +kernel), uX3⟩
theorem g_X3_33 : gOK RX3 33 3 6 := ⟨RX3, TX3, 8, tyX3, rfl, by decide, wTbl_1 81 (by rfl) (by decide +kernel), uX3, tyX3_ok, nmX3, rfl, by decide +kernel⟩
theorem f_X3_63 : fOK RX3 63 2 1 := ⟨RX2, TX2, 2, rfl, by decide, wTbl_1 46 (by rfl) (by decide +kernel), uX2⟩
theorem g_X3_63 : gOK RX3 63 2 1 := ⟨RX2, TX2, 2, tyX2, rfl, by decide, wTbl_1 46 (by rfl) (by decide +kernel), uX2, tyX2_ok, nmX2, rfl, by decide +kernel⟩
theorem f_X3_81 : fOK RX3 81 3 7 := ⟨RX3, TX3, 8, rfl, by decide, wTbl_1 82 (by rfl) (by decide +kernel), uX3⟩
theorem g_X3_81 : gOK RX3 81 3 7 := ⟨RX3, TX3, 8, tyX3, rfl, by decide, wTbl_1 82 (by rfl) (by decide +kernel), uX3, tyX3_ok, nmX3, rfl, by decide +kernel⟩
theorem f_X4_13 : fOK RX4 13 4 0 := ⟨RX4, TX4, 2, rfl, by decide, wTbl_1 61 (by rfl) (by decide +kernel), uX4⟩
theorem f_X4_16 : fOK RX4 16 4 1 := ⟨RX4, TX4, 2, rfl, by decide, wTbl_1 62 (by rfl) (by decide +kernel), uX4⟩
theorem g_X4_16 : gOK RX4 16 4 1 := ⟨RX4, TX4, 2, tyX4, rfl, by decide, wTbl_1 62 (by rfl) (by decide +kernel), uX4, tyX4_ok, nmX4, rfl, by decide +kernel⟩
theorem f_X4_34 : fOK RX4 34 5 0 := ⟨RX5, TX5, 2, rfl, by decide, wTbl_1 25 (by rfl) (by decide +kernel), uX5⟩
theorem g_X4_34 : gOK RX4 34 5 0 := ⟨RX5, TX5, 2, tyX5, rfl, by decide, wTbl_1 25 (by rfl) (by decide +kernel), uX5, tyX5_ok, nmX5, rfl, by decide +kernel⟩
theorem f_X4_39 : fOK RX4 39 5 1 := ⟨RX5, TX5, 2, rfl, by decide, wTbl_1 28 (by rfl) (by decide +kernel), uX5⟩
theorem g_X4_39 : gOK RX4 39 5 1 := ⟨RX5, TX5, 2, tyX5, rfl, by decide, wTbl_1 28 (by rfl) (by decide +kernel), uX5, tyX5_ok, nmX5, rfl, by decide +kernel⟩
theorem f_X4_42 : fOK RX4 42 2 1 := ⟨RX2, TX2, 2, rfl, by decide, wTbl_1 45 (by rfl) (by decide +kernel), uX2⟩
theorem g_X4_42 : gOK RX4 42 2 1 := ⟨RX2, TX2, 2, tyX2, rfl, by decide, wTbl_1 45 (by rfl) (by decide +kernel), uX2, tyX2_ok, nmX2, rfl, by decide +kernel⟩
theorem f_X5_9 : fOK RX5 9 5 0 := ⟨RX5, TX5, 2, rfl, by decide, wTbl_1 24 (by rfl) (by decide +kernel), uX5⟩
theorem g_X5_9 : gOK RX5 9 5 0 := ⟨RX5, TX5, 2, tyX5, rfl, by decide, wTbl_1 24 (by rfl) (by decide +kernel), uX5, tyX5_ok, nmX5, rfl, by decide +kernel⟩
theorem f_X5_15 : fOK RX5 15 5 1 := ⟨RX5, TX5, 2, rfl, by decide, wTbl_1 26 (by rfl) (by decide +kernel), uX5⟩
theorem g_X5_15 : gOK RX5 15 5 1 := ⟨RX5, TX5, 2, tyX5, rfl, by decide, wTbl_1 26 (by rfl) (by decide +kernel), uX5, tyX5_ok, nmX5, rfl, by decide +kernel⟩
theorem f_X7_7 : fOK RX7 7 7 0 := ⟨RX7, TX7, 9, rfl, by decide, wTbl_4 46 (by rfl) (by decide +kernel), uX7⟩
theorem f_X7_13 : fOK RX7 13 7 1 := ⟨RX7, TX7, 9, rfl, by decide, wTbl_4 47 (by rfl) (by decide +kernel), uX7⟩
theorem f_X7_16 : fOK RX7 16 7 4 := ⟨RX7, TX7, 9, rfl, by decide, wTbl_4 50 (by rfl) (by decide +kernel), uX7⟩
theorem f_X7_19 : fOK RX7 19 7 5 := ⟨RX7, TX7, 9, rfl, by decide, wTbl_4 51 (by rfl) (by decide +kernel), uX7⟩
theorem f_X7_22 : fOK RX7 22 7 6 := ⟨RX7, TX7, 9, rfl, by decide, wTbl_4 52 (by rfl) (by decide +kernel), uX7⟩
theorem f_X7_26 : fOK RX7 26 7 7 := ⟨RX7, TX7, 9, rfl, by decide, wTbl_4 53 (by rfl) (by decide +kernel), uX7⟩
theorem f_X7_36 : fOK RX7 36 7 3 := ⟨RX7, TX7, 9, rfl, by decide, wTbl_4 49 (by rfl) (by decide +kernel), uX7⟩
theorem g_X7_36 : gOK RX7 36 7 3 := ⟨RX7, TX7, 9, tyX7, rfl, by decide, wTbl_4 49 (by rfl) (by decide +kernel), uX7, tyX7_ok, nmX7, rfl, by decide +kernel⟩
theorem f_X7_92 : fOK RX7 92 7 8 := ⟨RX7, TX7, 9, rfl, by decide, wTbl_4 54 (by rfl) (by decide +kernel), uX7⟩
theorem g_X7_92 : gOK RX7 92 7 8 := ⟨RX7, TX7, 9, tyX7, rfl, by decide, wTbl_4 54 (by rfl) (by decide +kernel), uX7, tyX7_ok, nmX7, rfl, by decide +kernel⟩
theorem f_X7_105 : fOK RX7 105 7 2 := ⟨RX7, TX7, 9, rfl, by decide, wTbl_4 48 (by rfl) (by decide +kernel), uX7⟩
theorem g_X7_105 : gOK RX7 105 7 2 := ⟨RX7, TX7, 9, tyX7, rfl, by decide, wTbl_4 48 (by rfl) (by decide +kernel), uX7, tyX7_ok, nmX7, rfl, by decide +kernel⟩
theorem c_X6_refresh : cOK 6 mi_X6_refresh := ⟨(RX6, TX6, 6), rfl, rfl⟩
theorem c_X3_rebuild : cOK 3 mi_X3_rebuild := ⟨(RX3, TX3, 8), rfl, rfl⟩
theorem c_X3_admit : cOK 3 mi_X3_admit := ⟨(RX3, TX3, 8), rfl, rfl⟩
theorem c_X2_codeAt : cOK 2 mi_X2_codeAt := ⟨(RX2, TX2, 2), rfl, rfl⟩
theorem c_X5_times : cOK 5 mi_X5_times := ⟨(RX5, TX5, 2), rfl, rfl⟩
theorem c_X5_partOf : cOK 5 mi_X5_partOf := ⟨(RX5, TX5, 2), rfl, rfl⟩
theorem c_X5_cellCount : cOK 5 mi_X5_cellCount := ⟨(RX5, TX5, 2), rfl, rfl⟩
theorem c_X5_shiftX : cOK 5 mi_X5_shiftX := ⟨(RX5, TX5, 2), rfl, rfl⟩
theorem c_X5_shiftY : cOK 5 mi_X5_shiftY := ⟨(RX5, TX5, 2), rfl, rfl⟩
theorem c_X5_imageX : cOK 5 mi_X5_imageX := ⟨(RX5, TX5, 2), rfl, rfl⟩
theorem c_X5_entry : cOK 5 mi_X5_entry := ⟨(RX5, TX5, 2), rfl, rfl⟩
theorem c_X5_wrap : cOK 5 mi_X5_wrap := ⟨(RX5, TX5, 2), rfl, rfl⟩
theorem c_X5_imageY : cOK 5 mi_X5_imageY := ⟨(RX5, TX5, 2), rfl, rfl⟩
theorem c_X5_timesPart : cOK 5 mi_X5_timesPart := ⟨(RX5, TX5, 2), rfl, rfl⟩
theorem c_X5_turns : cOK 5 mi_X5_turns := ⟨(RX5, TX5, 2), rfl, rfl⟩
theorem c_X5_codeOf : cOK 5 mi_X5_codeOf := ⟨(RX5, TX5, 2), rfl, rfl⟩
theorem c_X5_cellOf : cOK 5 mi_X5_cellOf := ⟨(RX5, TX5, 2), rfl, rfl⟩
theorem c_X3_listByCode : cOK 3 mi_X3_listByCode := ⟨(RX3, TX3, 8), rfl, rfl⟩
theorem c_X1_survey : cOK 1 mi_X1_survey := ⟨(RX1, TX1, 5), rfl, rfl⟩
theorem c_X3_size : cOK 3 mi_X3_size := ⟨(RX3, TX3, 8), rfl, rfl⟩
theorem c_X3_elementAt : cOK 3 mi_X3_elementAt := ⟨(RX3, TX3, 8), rfl, rfl⟩
theorem c_X1_note : cOK 1 mi_X1_note := ⟨(RX1, TX1, 5), rfl, rfl⟩
theorem c_X5_kindNumber : cOK 5 mi_X5_kindNumber := ⟨(RX5, TX5, 2), rfl, rfl⟩
theorem c_X5_isReflection : cOK 5 mi_X5_isReflection := ⟨(RX5, TX5, 2), rfl, rfl⟩
theorem c_X0_findOrbits : cOK 0 mi_X0_findOrbits := ⟨(RX0, TX0, 10), rfl, rfl⟩
theorem c_X0_findOrbit : cOK 0 mi_X0_findOrbit := ⟨(RX0, TX0, 10), rfl, rfl⟩
theorem c_X0_reach : cOK 0 mi_X0_reach := ⟨(RX0, TX0, 10), rfl, rfl⟩
theorem c_X5_imageOfCell : cOK 5 mi_X5_imageOfCell := ⟨(RX5, TX5, 2), rfl, rfl⟩
theorem c_X6_setLattice : cOK 6 mi_X6_setLattice := ⟨(RX6, TX6, 6), rfl, rfl⟩
theorem c_X4_save : cOK 4 mi_X4_save := ⟨(RX4, TX4, 2), rfl, rfl⟩
theorem c_X4_forgetOldest : cOK 4 mi_X4_forgetOldest := ⟨(RX4, TX4, 2), rfl, rfl⟩
theorem c_X5_choose : cOK 5 mi_X5_choose := ⟨(RX5, TX5, 2), rfl, rfl⟩
theorem c_X2_clear : cOK 2 mi_X2_clear := ⟨(RX2, TX2, 2), rfl, rfl⟩
theorem c_X6_addGenerator : cOK 6 mi_X6_addGenerator := ⟨(RX6, TX6, 6), rfl, rfl⟩
theorem c_X5_hasMovement : cOK 5 mi_X5_hasMovement := ⟨(RX5, TX5, 2), rfl, rfl⟩
theorem c_X5_parts : cOK 5 mi_X5_parts := ⟨(RX5, TX5, 2), rfl, rfl⟩
theorem c_X5_hasCell : cOK 5 mi_X5_hasCell := ⟨(RX5, TX5, 2), rfl, rfl⟩
theorem c_X2_isFull : cOK 2 mi_X2_isFull := ⟨(RX2, TX2, 2), rfl, rfl⟩
theorem c_X2_append : cOK 2 mi_X2_append := ⟨(RX2, TX2, 2), rfl, rfl⟩
theorem c_X2_replace : cOK 2 mi_X2_replace := ⟨(RX2, TX2, 2), rfl, rfl⟩
theorem c_X6_removeGenerator : cOK 6 mi_X6_removeGenerator := ⟨(RX6, TX6, 6), rfl, rfl⟩
theorem c_X2_has : cOK 2 mi_X2_has := ⟨(RX2, TX2, 2), rfl, rfl⟩
theorem c_X2_removeAt : cOK 2 mi_X2_removeAt := ⟨(RX2, TX2, 2), rfl, rfl⟩
theorem c_X6_setGenerator : cOK 6 mi_X6_setGenerator := ⟨(RX6, TX6, 6), rfl, rfl⟩
theorem c_X6_undo : cOK 6 mi_X6_undo := ⟨(RX6, TX6, 6), rfl, rfl⟩
theorem c_X4_isEmpty : cOK 4 mi_X4_isEmpty := ⟨(RX4, TX4, 2), rfl, rfl⟩
theorem c_X4_restore : cOK 4 mi_X4_restore := ⟨(RX4, TX4, 2), rfl, rfl⟩
theorem c_X6_generator : cOK 6 mi_X6_generator := ⟨(RX6, TX6, 6), rfl, rfl⟩
theorem c_X6_order : cOK 6 mi_X6_order := ⟨(RX6, TX6, 6), rfl, rfl⟩
theorem c_X6_element : cOK 6 mi_X6_element := ⟨(RX6, TX6, 6), rfl, rfl⟩
theorem c_X6_contains : cOK 6 mi_X6_contains := ⟨(RX6, TX6, 6), rfl, rfl⟩
theorem c_X5_hasCode : cOK 5 mi_X5_hasCode := ⟨(RX5, TX5, 2), rfl, rfl⟩
theorem c_X5_codes : cOK 5 mi_X5_codes := ⟨(RX5, TX5, 2), rfl, rfl⟩
theorem c_X3_has : cOK 3 mi_X3_has := ⟨(RX3, TX3, 8), rfl, rfl⟩
theorem c_X6_product : cOK 6 mi_X6_product := ⟨(RX6, TX6, 6), rfl, rfl⟩
theorem c_X6_orderOf : cOK 6 mi_X6_orderOf := ⟨(RX6, TX6, 6), rfl, rfl⟩
theorem c_X5_factorsToIdentity : cOK 5 mi_X5_factorsToIdentity := ⟨(RX5, TX5, 2), rfl, rfl⟩
theorem c_X6_kindOf : cOK 6 mi_X6_kindOf := ⟨(RX6, TX6, 6), rfl, rfl⟩
theorem c_X6_count : cOK 6 mi_X6_count := ⟨(RX6, TX6, 6), rfl, rfl⟩
theorem c_X1_elementsOfKind : cOK 1 mi_X1_elementsOfKind := ⟨(RX1, TX1, 5), rfl, rfl⟩
theorem c_X6_isAbelian : cOK 6 mi_X6_isAbelian := ⟨(RX6, TX6, 6), rfl, rfl⟩
theorem c_X3_commutes : cOK 3 mi_X3_commutes := ⟨(RX3, TX3, 8), rfl, rfl⟩
theorem c_X6_conjugacyClasses : cOK 6 mi_X6_conjugacyClasses := ⟨(RX6, TX6, 6), rfl, rfl⟩
theorem c_X3_countConjugacyClasses : cOK 3 mi_X3_countConjugacyClasses := ⟨(RX3, TX3, 8), rfl, rfl⟩
theorem c_X3_classify : cOK 3 mi_X3_classify := ⟨(RX3, TX3, 8), rfl, rfl⟩
theorem c_X3_admitToClass : cOK 3 mi_X3_admitToClass := ⟨(RX3, TX3, 8), rfl, rfl⟩
theorem c_X5_inverseOf : cOK 5 mi_X5_inverseOf := ⟨(RX5, TX5, 2), rfl, rfl⟩
theorem c_X5_inversePart : cOK 5 mi_X5_inversePart := ⟨(RX5, TX5, 2), rfl, rfl⟩
theorem c_X6_linearParts : cOK 6 mi_X6_linearParts := ⟨(RX6, TX6, 6), rfl, rfl⟩
theorem c_X1_countParts : cOK 1 mi_X1_countParts := ⟨(RX1, TX1, 5), rfl, rfl⟩
theorem c_X6_rotationOrder : cOK 6 mi_X6_rotationOrder := ⟨(RX6, TX6, 6), rfl, rfl⟩
theorem c_X1_greatestTurnOrder : cOK 1 mi_X1_greatestTurnOrder := ⟨(RX1, TX1, 5), rfl, rfl⟩
theorem c_X1_occurs : cOK 1 mi_X1_occurs := ⟨(RX1, TX1, 5), rfl, rfl⟩
theorem c_X5_turnOrder : cOK 5 mi_X5_turnOrder := ⟨(RX5, TX5, 2), rfl, rfl⟩
theorem c_X6_mirrorDirections : cOK 6 mi_X6_mirrorDirections := ⟨(RX6, TX6, 6), rfl, rfl⟩
theorem c_X1_countMirrorParts : cOK 1 mi_X1_countMirrorParts := ⟨(RX1, TX1, 5), rfl, rfl⟩
theorem c_X6_isCentered : cOK 6 mi_X6_isCentered := ⟨(RX6, TX6, 6), rfl, rfl⟩
theorem c_X1_hasCentering : cOK 1 mi_X1_hasCentering := ⟨(RX1, TX1, 5), rfl, rfl⟩
theorem c_X1_keepsHalfSums : cOK 1 mi_X1_keepsHalfSums := ⟨(RX1, TX1, 5), rfl, rfl⟩
theorem c_X1_keepsHalfSum : cOK 1 mi_X1_keepsHalfSum := ⟨(RX1, TX1, 5), rfl, rfl⟩
theorem c_X3_hasTranslation : cOK 3 mi_X3_hasTranslation := ⟨(RX3, TX3, 8), rfl, rfl⟩
theorem c_X6_type : cOK 6 mi_X6_type := ⟨(RX6, TX6, 6), rfl, rfl⟩
theorem c_X1_typeNumber : cOK 1 mi_X1_typeNumber := ⟨(RX1, TX1, 5), rfl, rfl⟩
theorem c_X1_typeWithoutTurns : cOK 1 mi_X1_typeWithoutTurns := ⟨(RX1, TX1, 5), rfl, rfl⟩
theorem c_X1_hasReversal : cOK 1 mi_X1_hasReversal := ⟨(RX1, TX1, 5), rfl, rfl⟩
theorem c_X1_typeWithHalfTurns : cOK 1 mi_X1_typeWithHalfTurns := ⟨(RX1, TX1, 5), rfl, rfl⟩
theorem c_X1_typeWithThirdTurns : cOK 1 mi_X1_typeWithThirdTurns := ⟨(RX1, TX1, 5), rfl, rfl⟩
theorem c_X1_fixesShortestVector : cOK 1 mi_X1_fixesShortestVector := ⟨(RX1, TX1, 5), rfl, rfl⟩
theorem c_X1_leastSquaredLength : cOK 1 mi_X1_leastSquaredLength := ⟨(RX1, TX1, 5), rfl, rfl⟩
theorem c_X1_isFixedByReversal : cOK 1 mi_X1_isFixedByReversal := ⟨(RX1, TX1, 5), rfl, rfl⟩
theorem c_X1_typeWithQuarterTurns : cOK 1 mi_X1_typeWithQuarterTurns := ⟨(RX1, TX1, 5), rfl, rfl⟩
theorem c_X6_orbitSize : cOK 6 mi_X6_orbitSize := ⟨(RX6, TX6, 6), rfl, rfl⟩
theorem c_X0_sizeOfOrbit : cOK 0 mi_X0_sizeOfOrbit := ⟨(RX0, TX0, 10), rfl, rfl⟩
theorem c_X6_orbitFirst : cOK 6 mi_X6_orbitFirst := ⟨(RX6, TX6, 6), rfl, rfl⟩
theorem c_X0_leastOfOrbit : cOK 0 mi_X0_leastOfOrbit := ⟨(RX0, TX0, 10), rfl, rfl⟩
theorem c_X6_stabilizerOrder : cOK 6 mi_X6_stabilizerOrder := ⟨(RX6, TX6, 6), rfl, rfl⟩
theorem c_X0_sizeOfStabilizer : cOK 0 mi_X0_sizeOfStabilizer := ⟨(RX0, TX0, 10), rfl, rfl⟩
theorem c_X6_orbitCount : cOK 6 mi_X6_orbitCount := ⟨(RX6, TX6, 6), rfl, rfl⟩
theorem c_X0_orbits : cOK 0 mi_X0_orbits := ⟨(RX0, TX0, 10), rfl, rfl⟩
theorem c_X6_isSymmorphic : cOK 6 mi_X6_isSymmorphic := ⟨(RX6, TX6, 6), rfl, rfl⟩
theorem c_X0_hasStabilizerOf : cOK 0 mi_X0_hasStabilizerOf := ⟨(RX0, TX0, 10), rfl, rfl⟩
theorem c_X6_invariantColorings : cOK 6 mi_X6_invariantColorings := ⟨(RX6, TX6, 6), rfl, rfl⟩
theorem c_X6_coloringClasses : cOK 6 mi_X6_coloringClasses := ⟨(RX6, TX6, 6), rfl, rfl⟩
theorem c_X0_countColoringClasses : cOK 0 mi_X0_countColoringClasses := ⟨(RX0, TX0, 10), rfl, rfl⟩
theorem c_X0_countCycles : cOK 0 mi_X0_countCycles := ⟨(RX0, TX0, 10), rfl, rfl⟩
theorem c_X0_fillImages : cOK 0 mi_X0_fillImages := ⟨(RX0, TX0, 10), rfl, rfl⟩
theorem c_X0_walkCycle : cOK 0 mi_X0_walkCycle := ⟨(RX0, TX0, 10), rfl, rfl⟩
theorem c_X7_derive : cOK 7 mi_X7_derive := ⟨(RX7, TX7, 9), rfl, rfl⟩
theorem c_X7_makeParts : cOK 7 mi_X7_makeParts := ⟨(RX7, TX7, 9), rfl, rfl⟩
theorem c_X7_putPart : cOK 7 mi_X7_putPart := ⟨(RX7, TX7, 9), rfl, rfl⟩
theorem c_X7_putProduct : cOK 7 mi_X7_putProduct := ⟨(RX7, TX7, 9), rfl, rfl⟩
theorem c_X7_entry : cOK 7 mi_X7_entry := ⟨(RX7, TX7, 9), rfl, rfl⟩
theorem c_X7_numberOfProduct : cOK 7 mi_X7_numberOfProduct := ⟨(RX7, TX7, 9), rfl, rfl⟩
theorem c_X7_addElement : cOK 7 mi_X7_addElement := ⟨(RX7, TX7, 9), rfl, rfl⟩
theorem c_X7_times : cOK 7 mi_X7_times := ⟨(RX7, TX7, 9), rfl, rfl⟩
theorem c_X7_partOf : cOK 7 mi_X7_partOf := ⟨(RX7, TX7, 9), rfl, rfl⟩
theorem c_X7_cells : cOK 7 mi_X7_cells := ⟨(RX7, TX7, 9), rfl, rfl⟩
theorem c_X7_uOf : cOK 7 mi_X7_uOf := ⟨(RX7, TX7, 9), rfl, rfl⟩
theorem c_X7_vOf : cOK 7 mi_X7_vOf := ⟨(RX7, TX7, 9), rfl, rfl⟩
theorem c_X7_imageX : cOK 7 mi_X7_imageX := ⟨(RX7, TX7, 9), rfl, rfl⟩
theorem c_X7_imageY : cOK 7 mi_X7_imageY := ⟨(RX7, TX7, 9), rfl, rfl⟩
theorem c_X7_codeOf : cOK 7 mi_X7_codeOf := ⟨(RX7, TX7, 9), rfl, rfl⟩
theorem c_X7_modulo : cOK 7 mi_X7_modulo := ⟨(RX7, TX7, 9), rfl, rfl⟩
theorem c_X7_undo : cOK 7 mi_X7_undo := ⟨(RX7, TX7, 9), rfl, rfl⟩
theorem c_X7_setLattice : cOK 7 mi_X7_setLattice := ⟨(RX7, TX7, 9), rfl, rfl⟩
theorem c_X7_save : cOK 7 mi_X7_save := ⟨(RX7, TX7, 9), rfl, rfl⟩
theorem c_X7_addGenerator : cOK 7 mi_X7_addGenerator := ⟨(RX7, TX7, 9), rfl, rfl⟩
theorem c_X7_isMovement : cOK 7 mi_X7_isMovement := ⟨(RX7, TX7, 9), rfl, rfl⟩
theorem c_X7_removeGenerator : cOK 7 mi_X7_removeGenerator := ⟨(RX7, TX7, 9), rfl, rfl⟩
theorem c_X7_isGenerator : cOK 7 mi_X7_isGenerator := ⟨(RX7, TX7, 9), rfl, rfl⟩
theorem c_X7_setGenerator : cOK 7 mi_X7_setGenerator := ⟨(RX7, TX7, 9), rfl, rfl⟩
theorem c_X7_generator : cOK 7 mi_X7_generator := ⟨(RX7, TX7, 9), rfl, rfl⟩
theorem c_X7_order : cOK 7 mi_X7_order := ⟨(RX7, TX7, 9), rfl, rfl⟩
theorem c_X7_element : cOK 7 mi_X7_element := ⟨(RX7, TX7, 9), rfl, rfl⟩
theorem c_X7_contains : cOK 7 mi_X7_contains := ⟨(RX7, TX7, 9), rfl, rfl⟩
theorem c_X7_isCode : cOK 7 mi_X7_isCode := ⟨(RX7, TX7, 9), rfl, rfl⟩
theorem c_X7_product : cOK 7 mi_X7_product := ⟨(RX7, TX7, 9), rfl, rfl⟩
theorem c_X7_orderOf : cOK 7 mi_X7_orderOf := ⟨(RX7, TX7, 9), rfl, rfl⟩
theorem c_X7_kindOf : cOK 7 mi_X7_kindOf := ⟨(RX7, TX7, 9), rfl, rfl⟩
theorem c_X7_kindOfCode : cOK 7 mi_X7_kindOfCode := ⟨(RX7, TX7, 9), rfl, rfl⟩
theorem c_X7_isTurn : cOK 7 mi_X7_isTurn := ⟨(RX7, TX7, 9), rfl, rfl⟩
theorem c_X7_isReflection : cOK 7 mi_X7_isReflection := ⟨(RX7, TX7, 9), rfl, rfl⟩
theorem c_X7_count : cOK 7 mi_X7_count := ⟨(RX7, TX7, 9), rfl, rfl⟩
theorem c_X7_isAbelian : cOK 7 mi_X7_isAbelian := ⟨(RX7, TX7, 9), rfl, rfl⟩
theorem c_X7_commutingPairs : cOK 7 mi_X7_commutingPairs := ⟨(RX7, TX7, 9), rfl, rfl⟩
theorem c_X7_conjugacyClasses : cOK 7 mi_X7_conjugacyClasses := ⟨(RX7, TX7, 9), rfl, rfl⟩
theorem c_X7_linearParts : cOK 7 mi_X7_linearParts := ⟨(RX7, TX7, 9), rfl, rfl⟩
theorem c_X7_partSet : cOK 7 mi_X7_partSet := ⟨(RX7, TX7, 9), rfl, rfl⟩
theorem c_X7_rotationOrder : cOK 7 mi_X7_rotationOrder := ⟨(RX7, TX7, 9), rfl, rfl⟩
theorem c_X7_greatestTurn : cOK 7 mi_X7_greatestTurn := ⟨(RX7, TX7, 9), rfl, rfl⟩
theorem c_X7_orderOfPart : cOK 7 mi_X7_orderOfPart := ⟨(RX7, TX7, 9), rfl, rfl⟩
theorem c_X7_mirrorDirections : cOK 7 mi_X7_mirrorDirections := ⟨(RX7, TX7, 9), rfl, rfl⟩
theorem c_X7_directions : cOK 7 mi_X7_directions := ⟨(RX7, TX7, 9), rfl, rfl⟩
theorem c_X7_isCentered : cOK 7 mi_X7_isCentered := ⟨(RX7, TX7, 9), rfl, rfl⟩
theorem c_X7_isCenteredNow : cOK 7 mi_X7_isCenteredNow := ⟨(RX7, TX7, 9), rfl, rfl⟩
theorem c_X7_isCenteredBy : cOK 7 mi_X7_isCenteredBy := ⟨(RX7, TX7, 9), rfl, rfl⟩
theorem c_X7_isHalved : cOK 7 mi_X7_isHalved := ⟨(RX7, TX7, 9), rfl, rfl⟩
theorem c_X7_isLatticeVector : cOK 7 mi_X7_isLatticeVector := ⟨(RX7, TX7, 9), rfl, rfl⟩
theorem c_X7_type : cOK 7 mi_X7_type := ⟨(RX7, TX7, 9), rfl, rfl⟩
theorem c_X7_isShortestFixed : cOK 7 mi_X7_isShortestFixed := ⟨(RX7, TX7, 9), rfl, rfl⟩
theorem c_X7_leastSquared : cOK 7 mi_X7_leastSquared := ⟨(RX7, TX7, 9), rfl, rfl⟩
theorem c_X7_squared : cOK 7 mi_X7_squared := ⟨(RX7, TX7, 9), rfl, rfl⟩
theorem c_X7_orbitSize : cOK 7 mi_X7_orbitSize := ⟨(RX7, TX7, 9), rfl, rfl⟩
theorem c_X7_isCell : cOK 7 mi_X7_isCell := ⟨(RX7, TX7, 9), rfl, rfl⟩
theorem c_X7_orbit : cOK 7 mi_X7_orbit := ⟨(RX7, TX7, 9), rfl, rfl⟩
theorem c_X7_sends : cOK 7 mi_X7_sends := ⟨(RX7, TX7, 9), rfl, rfl⟩
theorem c_X7_orbitFirst : cOK 7 mi_X7_orbitFirst := ⟨(RX7, TX7, 9), rfl, rfl⟩
theorem c_X7_stabilizerOrder : cOK 7 mi_X7_stabilizerOrder := ⟨(RX7, TX7, 9), rfl, rfl⟩
theorem c_X7_stabilizer : cOK 7 mi_X7_stabilizer := ⟨(RX7, TX7, 9), rfl, rfl⟩
theorem c_X7_orbitCount : cOK 7 mi_X7_orbitCount := ⟨(RX7, TX7, 9), rfl, rfl⟩
theorem c_X7_orbits : cOK 7 mi_X7_orbits := ⟨(RX7, TX7, 9), rfl, rfl⟩
theorem c_X7_isSymmorphic : cOK 7 mi_X7_isSymmorphic := ⟨(RX7, TX7, 9), rfl, rfl⟩
theorem c_X7_invariantColorings : cOK 7 mi_X7_invariantColorings := ⟨(RX7, TX7, 9), rfl, rfl⟩
theorem c_X7_coloringClasses : cOK 7 mi_X7_coloringClasses := ⟨(RX7, TX7, 9), rfl, rfl⟩
theorem c_X7_cycles : cOK 7 mi_X7_cycles := ⟨(RX7, TX7, 9), rfl, rfl⟩
theorem st_HE : Cond.fieldLink RX5 48 RX5 "HEXAGONAL_PARTS" "[I" ∈ wTbl := wTbl_1 220 (by rfl) (by decide +kernel)
theorem st_SQ : Cond.fieldLink RX5 52 RX5 "SQUARE_PARTS" "[I" ∈ wTbl := wTbl_1 222 (by rfl) (by decide +kernel)
theorem kl_X6_184 : Cond.constantLong RX6 184 (-1) ∈ wTbl := wTbl_3 184 (by rfl) (by decide +kernel)
theorem kl_X7_190 : Cond.constantLong RX7 190 (-1) ∈ wTbl := wTbl_5 52 (by rfl) (by decide +kernel)
end
section
theorem dX0_findOrbits_0 : decode mi_X0_findOrbits.2.1 0 = .ok (.aload_n 0, 1) := by decide +kernel
theorem dX0_findOrbits_1 : decode mi_X0_findOrbits.2.1 1 = .ok (.getfield 18, 3) := by decide +kernel
theorem dX0_findOrbits_4 : decode mi_X0_findOrbits.2.1 4 = .ok (.invokestatic 40, 3) := by decide +kernel
theorem dX0_findOrbits_7 : decode mi_X0_findOrbits.2.1 7 = .ok (.aload_n 0, 1) := by decide +kernel
theorem dX0_findOrbits_8 : decode mi_X0_findOrbits.2.1 8 = .ok (.iconst 0, 1) := by decide +kernel
theorem dX0_findOrbits_9 : decode mi_X0_findOrbits.2.1 9 = .ok (.putfield 44, 3) := by decide +kernel
theorem dX0_findOrbits_12 : decode mi_X0_findOrbits.2.1 12 = .ok (.iconst 0, 1) := by decide +kernel
theorem dX0_findOrbits_13 : decode mi_X0_findOrbits.2.1 13 = .ok (.istore_n 1, 1) := by decide +kernel
theorem dX0_findOrbits_14 : decode mi_X0_findOrbits.2.1 14 = .ok (.iload_n 1, 1) := by decide +kernel
theorem dX0_findOrbits_15 : decode mi_X0_findOrbits.2.1 15 = .ok (.aload_n 0, 1) := by decide +kernel
theorem dX0_findOrbits_16 : decode mi_X0_findOrbits.2.1 16 = .ok (.getfield 28, 3) := by decide +kernel
theorem dX0_findOrbits_19 : decode mi_X0_findOrbits.2.1 19 = .ok (.invokevirtual 48, 3) := by decide +kernel
theorem dX0_findOrbits_22 : decode mi_X0_findOrbits.2.1 22 = .ok (.if_icmp .ge 39, 3) := by decide +kernel
theorem dX0_findOrbits_25 : decode mi_X0_findOrbits.2.1 25 = .ok (.iload_n 1, 1) := by decide +kernel
theorem dX0_findOrbits_26 : decode mi_X0_findOrbits.2.1 26 = .ok (.bipush 25, 2) := by decide +kernel
theorem dX0_findOrbits_28 : decode mi_X0_findOrbits.2.1 28 = .ok (.if_icmp .ge 33, 3) := by decide +kernel
theorem dX0_findOrbits_31 : decode mi_X0_findOrbits.2.1 31 = .ok (.aload_n 0, 1) := by decide +kernel
theorem dX0_findOrbits_32 : decode mi_X0_findOrbits.2.1 32 = .ok (.getfield 18, 3) := by decide +kernel
theorem dX0_findOrbits_35 : decode mi_X0_findOrbits.2.1 35 = .ok (.iload_n 1, 1) := by decide +kernel
theorem dX0_findOrbits_36 : decode mi_X0_findOrbits.2.1 36 = .ok (.baload, 1) := by decide +kernel
theorem dX0_findOrbits_37 : decode mi_X0_findOrbits.2.1 37 = .ok (.ifCond .ne 18, 3) := by decide +kernel
theorem dX0_findOrbits_40 : decode mi_X0_findOrbits.2.1 40 = .ok (.aload_n 0, 1) := by decide +kernel
theorem dX0_findOrbits_41 : decode mi_X0_findOrbits.2.1 41 = .ok (.dup, 1) := by decide +kernel
theorem dX0_findOrbits_42 : decode mi_X0_findOrbits.2.1 42 = .ok (.getfield 44, 3) := by decide +kernel
theorem dX0_findOrbits_45 : decode mi_X0_findOrbits.2.1 45 = .ok (.iconst 1, 1) := by decide +kernel
theorem dX0_findOrbits_46 : decode mi_X0_findOrbits.2.1 46 = .ok (.iadd, 1) := by decide +kernel
theorem dX0_findOrbits_47 : decode mi_X0_findOrbits.2.1 47 = .ok (.putfield 44, 3) := by decide +kernel
theorem dX0_findOrbits_50 : decode mi_X0_findOrbits.2.1 50 = .ok (.aload_n 0, 1) := by decide +kernel
theorem dX0_findOrbits_51 : decode mi_X0_findOrbits.2.1 51 = .ok (.iload_n 1, 1) := by decide +kernel
theorem dX0_findOrbits_52 : decode mi_X0_findOrbits.2.1 52 = .ok (.invokevirtual 54, 3) := by decide +kernel
theorem dX0_findOrbits_55 : decode mi_X0_findOrbits.2.1 55 = .ok (.iinc 1 1, 3) := by decide +kernel
theorem dX0_findOrbits_58 : decode mi_X0_findOrbits.2.1 58 = .ok (.goto (-44), 3) := by decide +kernel
theorem dX0_findOrbits_61 : decode mi_X0_findOrbits.2.1 61 = .ok (.return_, 1) := by decide +kernel
theorem dX0_findOrbit_0 : decode mi_X0_findOrbit.2.1 0 = .ok (.aload_n 0, 1) := by decide +kernel
theorem dX0_findOrbit_1 : decode mi_X0_findOrbit.2.1 1 = .ok (.iconst 0, 1) := by decide +kernel
theorem dX0_findOrbit_2 : decode mi_X0_findOrbit.2.1 2 = .ok (.putfield 58, 3) := by decide +kernel
theorem dX0_findOrbit_5 : decode mi_X0_findOrbit.2.1 5 = .ok (.aload_n 0, 1) := by decide +kernel
theorem dX0_findOrbit_6 : decode mi_X0_findOrbit.2.1 6 = .ok (.iload_n 1, 1) := by decide +kernel
theorem dX0_findOrbit_7 : decode mi_X0_findOrbit.2.1 7 = .ok (.invokevirtual 61, 3) := by decide +kernel
theorem dX0_findOrbit_10 : decode mi_X0_findOrbit.2.1 10 = .ok (.iconst 0, 1) := by decide +kernel
theorem dX0_findOrbit_11 : decode mi_X0_findOrbit.2.1 11 = .ok (.istore_n 2, 1) := by decide +kernel
theorem dX0_findOrbit_12 : decode mi_X0_findOrbit.2.1 12 = .ok (.iload_n 2, 1) := by decide +kernel
theorem dX0_findOrbit_13 : decode mi_X0_findOrbit.2.1 13 = .ok (.aload_n 0, 1) := by decide +kernel
theorem dX0_findOrbit_14 : decode mi_X0_findOrbit.2.1 14 = .ok (.getfield 58, 3) := by decide +kernel
theorem dX0_findOrbit_17 : decode mi_X0_findOrbit.2.1 17 = .ok (.if_icmp .ge 59, 3) := by decide +kernel
theorem dX0_findOrbit_20 : decode mi_X0_findOrbit.2.1 20 = .ok (.iload_n 2, 1) := by decide +kernel
theorem dX0_findOrbit_21 : decode mi_X0_findOrbit.2.1 21 = .ok (.bipush 25, 2) := by decide +kernel
theorem dX0_findOrbit_23 : decode mi_X0_findOrbit.2.1 23 = .ok (.if_icmp .ge 53, 3) := by decide +kernel
theorem dX0_findOrbit_26 : decode mi_X0_findOrbit.2.1 26 = .ok (.iconst 0, 1) := by decide +kernel
theorem dX0_findOrbit_27 : decode mi_X0_findOrbit.2.1 27 = .ok (.istore_n 3, 1) := by decide +kernel
theorem dX0_findOrbit_28 : decode mi_X0_findOrbit.2.1 28 = .ok (.iload_n 3, 1) := by decide +kernel
theorem dX0_findOrbit_29 : decode mi_X0_findOrbit.2.1 29 = .ok (.aload_n 0, 1) := by decide +kernel
theorem dX0_findOrbit_30 : decode mi_X0_findOrbit.2.1 30 = .ok (.getfield 32, 3) := by decide +kernel
theorem dX0_findOrbit_33 : decode mi_X0_findOrbit.2.1 33 = .ok (.getfield 64, 3) := by decide +kernel
theorem dX0_findOrbit_36 : decode mi_X0_findOrbit.2.1 36 = .ok (.if_icmp .ge 34, 3) := by decide +kernel
theorem dX0_findOrbit_39 : decode mi_X0_findOrbit.2.1 39 = .ok (.aload_n 0, 1) := by decide +kernel
theorem dX0_findOrbit_40 : decode mi_X0_findOrbit.2.1 40 = .ok (.aload_n 0, 1) := by decide +kernel
theorem dX0_findOrbit_41 : decode mi_X0_findOrbit.2.1 41 = .ok (.getfield 28, 3) := by decide +kernel
theorem dX0_findOrbit_44 : decode mi_X0_findOrbit.2.1 44 = .ok (.aload_n 0, 1) := by decide +kernel
theorem dX0_findOrbit_45 : decode mi_X0_findOrbit.2.1 45 = .ok (.getfield 32, 3) := by decide +kernel
theorem dX0_findOrbit_48 : decode mi_X0_findOrbit.2.1 48 = .ok (.iload_n 3, 1) := by decide +kernel
theorem dX0_findOrbit_49 : decode mi_X0_findOrbit.2.1 49 = .ok (.invokevirtual 69, 3) := by decide +kernel
theorem dX0_findOrbit_52 : decode mi_X0_findOrbit.2.1 52 = .ok (.aload_n 0, 1) := by decide +kernel
theorem dX0_findOrbit_53 : decode mi_X0_findOrbit.2.1 53 = .ok (.getfield 22, 3) := by decide +kernel
theorem dX0_findOrbit_56 : decode mi_X0_findOrbit.2.1 56 = .ok (.iload_n 2, 1) := by decide +kernel
theorem dX0_findOrbit_57 : decode mi_X0_findOrbit.2.1 57 = .ok (.iaload, 1) := by decide +kernel
theorem dX0_findOrbit_58 : decode mi_X0_findOrbit.2.1 58 = .ok (.invokevirtual 73, 3) := by decide +kernel
theorem dX0_findOrbit_61 : decode mi_X0_findOrbit.2.1 61 = .ok (.invokevirtual 61, 3) := by decide +kernel
theorem dX0_findOrbit_64 : decode mi_X0_findOrbit.2.1 64 = .ok (.iinc 3 1, 3) := by decide +kernel
theorem dX0_findOrbit_67 : decode mi_X0_findOrbit.2.1 67 = .ok (.goto (-39), 3) := by decide +kernel
theorem dX0_findOrbit_70 : decode mi_X0_findOrbit.2.1 70 = .ok (.iinc 2 1, 3) := by decide +kernel
theorem dX0_findOrbit_73 : decode mi_X0_findOrbit.2.1 73 = .ok (.goto (-61), 3) := by decide +kernel
theorem dX0_findOrbit_76 : decode mi_X0_findOrbit.2.1 76 = .ok (.iconst 0, 1) := by decide +kernel
theorem dX0_findOrbit_77 : decode mi_X0_findOrbit.2.1 77 = .ok (.istore_n 2, 1) := by decide +kernel
theorem dX0_findOrbit_78 : decode mi_X0_findOrbit.2.1 78 = .ok (.iload_n 2, 1) := by decide +kernel
theorem dX0_findOrbit_79 : decode mi_X0_findOrbit.2.1 79 = .ok (.aload_n 0, 1) := by decide +kernel
theorem dX0_findOrbit_80 : decode mi_X0_findOrbit.2.1 80 = .ok (.getfield 58, 3) := by decide +kernel
theorem dX0_findOrbit_83 : decode mi_X0_findOrbit.2.1 83 = .ok (.if_icmp .ge 48, 3) := by decide +kernel
theorem dX0_findOrbit_86 : decode mi_X0_findOrbit.2.1 86 = .ok (.iload_n 2, 1) := by decide +kernel
theorem dX0_findOrbit_87 : decode mi_X0_findOrbit.2.1 87 = .ok (.bipush 25, 2) := by decide +kernel
theorem dX0_findOrbit_89 : decode mi_X0_findOrbit.2.1 89 = .ok (.if_icmp .ge 42, 3) := by decide +kernel
theorem dX0_findOrbit_92 : decode mi_X0_findOrbit.2.1 92 = .ok (.aload_n 0, 1) := by decide +kernel
theorem dX0_findOrbit_93 : decode mi_X0_findOrbit.2.1 93 = .ok (.getfield 22, 3) := by decide +kernel
theorem dX0_findOrbit_96 : decode mi_X0_findOrbit.2.1 96 = .ok (.iload_n 2, 1) := by decide +kernel
theorem dX0_findOrbit_97 : decode mi_X0_findOrbit.2.1 97 = .ok (.iaload, 1) := by decide +kernel
theorem dX0_findOrbit_98 : decode mi_X0_findOrbit.2.1 98 = .ok (.istore_n 3, 1) := by decide +kernel
theorem dX0_findOrbit_99 : decode mi_X0_findOrbit.2.1 99 = .ok (.iload_n 3, 1) := by decide +kernel
theorem dX0_findOrbit_100 : decode mi_X0_findOrbit.2.1 100 = .ok (.bipush 25, 2) := by decide +kernel
theorem dX0_findOrbit_102 : decode mi_X0_findOrbit.2.1 102 = .ok (.invokestatic 77, 3) := by decide +kernel
theorem dX0_findOrbit_105 : decode mi_X0_findOrbit.2.1 105 = .ok (.ifCond .eq 20, 3) := by decide +kernel
theorem dX0_findOrbit_108 : decode mi_X0_findOrbit.2.1 108 = .ok (.aload_n 0, 1) := by decide +kernel
theorem dX0_findOrbit_109 : decode mi_X0_findOrbit.2.1 109 = .ok (.getfield 9, 3) := by decide +kernel
theorem dX0_findOrbit_112 : decode mi_X0_findOrbit.2.1 112 = .ok (.iload_n 3, 1) := by decide +kernel
theorem dX0_findOrbit_113 : decode mi_X0_findOrbit.2.1 113 = .ok (.iload_n 1, 1) := by decide +kernel
theorem dX0_findOrbit_114 : decode mi_X0_findOrbit.2.1 114 = .ok (.iastore, 1) := by decide +kernel
theorem dX0_findOrbit_115 : decode mi_X0_findOrbit.2.1 115 = .ok (.aload_n 0, 1) := by decide +kernel
theorem dX0_findOrbit_116 : decode mi_X0_findOrbit.2.1 116 = .ok (.getfield 15, 3) := by decide +kernel
theorem dX0_findOrbit_119 : decode mi_X0_findOrbit.2.1 119 = .ok (.iload_n 3, 1) := by decide +kernel
theorem dX0_findOrbit_120 : decode mi_X0_findOrbit.2.1 120 = .ok (.aload_n 0, 1) := by decide +kernel
theorem dX0_findOrbit_121 : decode mi_X0_findOrbit.2.1 121 = .ok (.getfield 58, 3) := by decide +kernel
theorem dX0_findOrbit_124 : decode mi_X0_findOrbit.2.1 124 = .ok (.iastore, 1) := by decide +kernel
theorem dX0_findOrbit_125 : decode mi_X0_findOrbit.2.1 125 = .ok (.iinc 2 1, 3) := by decide +kernel
theorem dX0_findOrbit_128 : decode mi_X0_findOrbit.2.1 128 = .ok (.goto (-50), 3) := by decide +kernel
theorem dX0_findOrbit_131 : decode mi_X0_findOrbit.2.1 131 = .ok (.return_, 1) := by decide +kernel
theorem dX0_reach_0 : decode mi_X0_reach.2.1 0 = .ok (.iload_n 1, 1) := by decide +kernel
theorem dX0_reach_1 : decode mi_X0_reach.2.1 1 = .ok (.bipush 25, 2) := by decide +kernel
theorem dX0_reach_3 : decode mi_X0_reach.2.1 3 = .ok (.invokestatic 77, 3) := by decide +kernel
theorem dX0_reach_6 : decode mi_X0_reach.2.1 6 = .ok (.ifCond .eq 51, 3) := by decide +kernel
theorem dX0_reach_9 : decode mi_X0_reach.2.1 9 = .ok (.aload_n 0, 1) := by decide +kernel
theorem dX0_reach_10 : decode mi_X0_reach.2.1 10 = .ok (.getfield 18, 3) := by decide +kernel
theorem dX0_reach_13 : decode mi_X0_reach.2.1 13 = .ok (.iload_n 1, 1) := by decide +kernel
theorem dX0_reach_14 : decode mi_X0_reach.2.1 14 = .ok (.baload, 1) := by decide +kernel
theorem dX0_reach_15 : decode mi_X0_reach.2.1 15 = .ok (.ifCond .ne 42, 3) := by decide +kernel
theorem dX0_reach_18 : decode mi_X0_reach.2.1 18 = .ok (.aload_n 0, 1) := by decide +kernel
theorem dX0_reach_19 : decode mi_X0_reach.2.1 19 = .ok (.getfield 58, 3) := by decide +kernel
theorem dX0_reach_22 : decode mi_X0_reach.2.1 22 = .ok (.bipush 25, 2) := by decide +kernel
theorem dX0_reach_24 : decode mi_X0_reach.2.1 24 = .ok (.invokestatic 77, 3) := by decide +kernel
theorem dX0_reach_27 : decode mi_X0_reach.2.1 27 = .ok (.ifCond .eq 30, 3) := by decide +kernel
theorem dX0_reach_30 : decode mi_X0_reach.2.1 30 = .ok (.aload_n 0, 1) := by decide +kernel
theorem dX0_reach_31 : decode mi_X0_reach.2.1 31 = .ok (.getfield 18, 3) := by decide +kernel
theorem dX0_reach_34 : decode mi_X0_reach.2.1 34 = .ok (.iload_n 1, 1) := by decide +kernel
theorem dX0_reach_35 : decode mi_X0_reach.2.1 35 = .ok (.iconst 1, 1) := by decide +kernel
theorem dX0_reach_36 : decode mi_X0_reach.2.1 36 = .ok (.bastore, 1) := by decide +kernel
theorem dX0_reach_37 : decode mi_X0_reach.2.1 37 = .ok (.aload_n 0, 1) := by decide +kernel
theorem dX0_reach_38 : decode mi_X0_reach.2.1 38 = .ok (.getfield 22, 3) := by decide +kernel
theorem dX0_reach_41 : decode mi_X0_reach.2.1 41 = .ok (.aload_n 0, 1) := by decide +kernel
theorem dX0_reach_42 : decode mi_X0_reach.2.1 42 = .ok (.getfield 58, 3) := by decide +kernel
theorem dX0_reach_45 : decode mi_X0_reach.2.1 45 = .ok (.iload_n 1, 1) := by decide +kernel
theorem dX0_reach_46 : decode mi_X0_reach.2.1 46 = .ok (.iastore, 1) := by decide +kernel
theorem dX0_reach_47 : decode mi_X0_reach.2.1 47 = .ok (.aload_n 0, 1) := by decide +kernel
theorem dX0_reach_48 : decode mi_X0_reach.2.1 48 = .ok (.dup, 1) := by decide +kernel
theorem dX0_reach_49 : decode mi_X0_reach.2.1 49 = .ok (.getfield 58, 3) := by decide +kernel
theorem dX0_reach_52 : decode mi_X0_reach.2.1 52 = .ok (.iconst 1, 1) := by decide +kernel
theorem dX0_reach_53 : decode mi_X0_reach.2.1 53 = .ok (.iadd, 1) := by decide +kernel
theorem dX0_reach_54 : decode mi_X0_reach.2.1 54 = .ok (.putfield 58, 3) := by decide +kernel
theorem dX0_reach_57 : decode mi_X0_reach.2.1 57 = .ok (.return_, 1) := by decide +kernel
theorem dX0_orbits_0 : decode mi_X0_orbits.2.1 0 = .ok (.aload_n 0, 1) := by decide +kernel
theorem dX0_orbits_1 : decode mi_X0_orbits.2.1 1 = .ok (.getfield 44, 3) := by decide +kernel
theorem dX0_orbits_4 : decode mi_X0_orbits.2.1 4 = .ok (.ireturn, 1) := by decide +kernel
theorem dX0_leastOfOrbit_0 : decode mi_X0_leastOfOrbit.2.1 0 = .ok (.iload_n 1, 1) := by decide +kernel
theorem dX0_leastOfOrbit_1 : decode mi_X0_leastOfOrbit.2.1 1 = .ok (.bipush 25, 2) := by decide +kernel
theorem dX0_leastOfOrbit_3 : decode mi_X0_leastOfOrbit.2.1 3 = .ok (.invokestatic 77, 3) := by decide +kernel
theorem dX0_leastOfOrbit_6 : decode mi_X0_leastOfOrbit.2.1 6 = .ok (.ifCond .eq 12, 3) := by decide +kernel
theorem dX0_leastOfOrbit_9 : decode mi_X0_leastOfOrbit.2.1 9 = .ok (.aload_n 0, 1) := by decide +kernel
theorem dX0_leastOfOrbit_10 : decode mi_X0_leastOfOrbit.2.1 10 = .ok (.getfield 9, 3) := by decide +kernel
theorem dX0_leastOfOrbit_13 : decode mi_X0_leastOfOrbit.2.1 13 = .ok (.iload_n 1, 1) := by decide +kernel
theorem dX0_leastOfOrbit_14 : decode mi_X0_leastOfOrbit.2.1 14 = .ok (.iaload, 1) := by decide +kernel
theorem dX0_leastOfOrbit_15 : decode mi_X0_leastOfOrbit.2.1 15 = .ok (.goto 4, 3) := by decide +kernel
theorem dX0_leastOfOrbit_18 : decode mi_X0_leastOfOrbit.2.1 18 = .ok (.iconst 0, 1) := by decide +kernel
theorem dX0_leastOfOrbit_19 : decode mi_X0_leastOfOrbit.2.1 19 = .ok (.ireturn, 1) := by decide +kernel
theorem dX0_sizeOfOrbit_0 : decode mi_X0_sizeOfOrbit.2.1 0 = .ok (.iload_n 1, 1) := by decide +kernel
theorem dX0_sizeOfOrbit_1 : decode mi_X0_sizeOfOrbit.2.1 1 = .ok (.bipush 25, 2) := by decide +kernel
theorem dX0_sizeOfOrbit_3 : decode mi_X0_sizeOfOrbit.2.1 3 = .ok (.invokestatic 77, 3) := by decide +kernel
theorem dX0_sizeOfOrbit_6 : decode mi_X0_sizeOfOrbit.2.1 6 = .ok (.ifCond .eq 12, 3) := by decide +kernel
theorem dX0_sizeOfOrbit_9 : decode mi_X0_sizeOfOrbit.2.1 9 = .ok (.aload_n 0, 1) := by decide +kernel
theorem dX0_sizeOfOrbit_10 : decode mi_X0_sizeOfOrbit.2.1 10 = .ok (.getfield 15, 3) := by decide +kernel
theorem dX0_sizeOfOrbit_13 : decode mi_X0_sizeOfOrbit.2.1 13 = .ok (.iload_n 1, 1) := by decide +kernel
theorem dX0_sizeOfOrbit_14 : decode mi_X0_sizeOfOrbit.2.1 14 = .ok (.iaload, 1) := by decide +kernel
theorem dX0_sizeOfOrbit_15 : decode mi_X0_sizeOfOrbit.2.1 15 = .ok (.goto 4, 3) := by decide +kernel
theorem dX0_sizeOfOrbit_18 : decode mi_X0_sizeOfOrbit.2.1 18 = .ok (.iconst 0, 1) := by decide +kernel
theorem dX0_sizeOfOrbit_19 : decode mi_X0_sizeOfOrbit.2.1 19 = .ok (.ireturn, 1) := by decide +kernel
theorem dX0_sizeOfStabilizer_0 : decode mi_X0_sizeOfStabilizer.2.1 0 = .ok (.aload_n 0, 1) := by decide +kernel
theorem dX0_sizeOfStabilizer_1 : decode mi_X0_sizeOfStabilizer.2.1 1 = .ok (.getfield 36, 3) := by decide +kernel
theorem dX0_sizeOfStabilizer_4 : decode mi_X0_sizeOfStabilizer.2.1 4 = .ok (.invokevirtual 81, 3) := by decide +kernel
theorem dX0_sizeOfStabilizer_7 : decode mi_X0_sizeOfStabilizer.2.1 7 = .ok (.aload_n 0, 1) := by decide +kernel
theorem dX0_sizeOfStabilizer_8 : decode mi_X0_sizeOfStabilizer.2.1 8 = .ok (.iload_n 1, 1) := by decide +kernel
theorem dX0_sizeOfStabilizer_9 : decode mi_X0_sizeOfStabilizer.2.1 9 = .ok (.invokevirtual 85, 3) := by decide +kernel
theorem dX0_sizeOfStabilizer_12 : decode mi_X0_sizeOfStabilizer.2.1 12 = .ok (.invokestatic 88, 3) := by decide +kernel
theorem dX0_sizeOfStabilizer_15 : decode mi_X0_sizeOfStabilizer.2.1 15 = .ok (.ireturn, 1) := by decide +kernel
theorem dX0_hasStabilizerOf_0 : decode mi_X0_hasStabilizerOf.2.1 0 = .ok (.iconst 0, 1) := by decide +kernel
theorem dX0_hasStabilizerOf_1 : decode mi_X0_hasStabilizerOf.2.1 1 = .ok (.istore_n 2, 1) := by decide +kernel
theorem dX0_hasStabilizerOf_2 : decode mi_X0_hasStabilizerOf.2.1 2 = .ok (.iload_n 2, 1) := by decide +kernel
theorem dX0_hasStabilizerOf_3 : decode mi_X0_hasStabilizerOf.2.1 3 = .ok (.aload_n 0, 1) := by decide +kernel
theorem dX0_hasStabilizerOf_4 : decode mi_X0_hasStabilizerOf.2.1 4 = .ok (.getfield 28, 3) := by decide +kernel
theorem dX0_hasStabilizerOf_7 : decode mi_X0_hasStabilizerOf.2.1 7 = .ok (.invokevirtual 48, 3) := by decide +kernel
theorem dX0_hasStabilizerOf_10 : decode mi_X0_hasStabilizerOf.2.1 10 = .ok (.if_icmp .ge 20, 3) := by decide +kernel
theorem dX0_hasStabilizerOf_13 : decode mi_X0_hasStabilizerOf.2.1 13 = .ok (.aload_n 0, 1) := by decide +kernel
theorem dX0_hasStabilizerOf_14 : decode mi_X0_hasStabilizerOf.2.1 14 = .ok (.iload_n 2, 1) := by decide +kernel
theorem dX0_hasStabilizerOf_15 : decode mi_X0_hasStabilizerOf.2.1 15 = .ok (.invokevirtual 91, 3) := by decide +kernel
theorem dX0_hasStabilizerOf_18 : decode mi_X0_hasStabilizerOf.2.1 18 = .ok (.iload_n 1, 1) := by decide +kernel
theorem dX0_hasStabilizerOf_19 : decode mi_X0_hasStabilizerOf.2.1 19 = .ok (.if_icmp .ne 5, 3) := by decide +kernel
theorem dX0_hasStabilizerOf_22 : decode mi_X0_hasStabilizerOf.2.1 22 = .ok (.iconst 1, 1) := by decide +kernel
theorem dX0_hasStabilizerOf_23 : decode mi_X0_hasStabilizerOf.2.1 23 = .ok (.ireturn, 1) := by decide +kernel
theorem dX0_hasStabilizerOf_24 : decode mi_X0_hasStabilizerOf.2.1 24 = .ok (.iinc 2 1, 3) := by decide +kernel
theorem dX0_hasStabilizerOf_27 : decode mi_X0_hasStabilizerOf.2.1 27 = .ok (.goto (-25), 3) := by decide +kernel
theorem dX0_hasStabilizerOf_30 : decode mi_X0_hasStabilizerOf.2.1 30 = .ok (.iconst 0, 1) := by decide +kernel
theorem dX0_hasStabilizerOf_31 : decode mi_X0_hasStabilizerOf.2.1 31 = .ok (.ireturn, 1) := by decide +kernel
theorem dX0_countColoringClasses_0 : decode mi_X0_countColoringClasses.2.1 0 = .ok (.aload_n 0, 1) := by decide +kernel
theorem dX0_countColoringClasses_1 : decode mi_X0_countColoringClasses.2.1 1 = .ok (.getfield 36, 3) := by decide +kernel
theorem dX0_countColoringClasses_4 : decode mi_X0_countColoringClasses.2.1 4 = .ok (.invokevirtual 81, 3) := by decide +kernel
theorem dX0_countColoringClasses_7 : decode mi_X0_countColoringClasses.2.1 7 = .ok (.istore_n 2, 1) := by decide +kernel
theorem dX0_countColoringClasses_8 : decode mi_X0_countColoringClasses.2.1 8 = .ok (.lconst 0, 1) := by decide +kernel
theorem dX0_countColoringClasses_9 : decode mi_X0_countColoringClasses.2.1 9 = .ok (.lstore_n 3, 1) := by decide +kernel
theorem dX0_countColoringClasses_10 : decode mi_X0_countColoringClasses.2.1 10 = .ok (.iconst 0, 1) := by decide +kernel
theorem dX0_countColoringClasses_11 : decode mi_X0_countColoringClasses.2.1 11 = .ok (.istore 5, 2) := by decide +kernel
theorem dX0_countColoringClasses_13 : decode mi_X0_countColoringClasses.2.1 13 = .ok (.iload 5, 2) := by decide +kernel
theorem dX0_countColoringClasses_15 : decode mi_X0_countColoringClasses.2.1 15 = .ok (.iload_n 2, 1) := by decide +kernel
theorem dX0_countColoringClasses_16 : decode mi_X0_countColoringClasses.2.1 16 = .ok (.if_icmp .ge 29, 3) := by decide +kernel
theorem dX0_countColoringClasses_19 : decode mi_X0_countColoringClasses.2.1 19 = .ok (.lload_n 3, 1) := by decide +kernel
theorem dX0_countColoringClasses_20 : decode mi_X0_countColoringClasses.2.1 20 = .ok (.iload_n 1, 1) := by decide +kernel
theorem dX0_countColoringClasses_21 : decode mi_X0_countColoringClasses.2.1 21 = .ok (.aload_n 0, 1) := by decide +kernel
theorem dX0_countColoringClasses_22 : decode mi_X0_countColoringClasses.2.1 22 = .ok (.aload_n 0, 1) := by decide +kernel
theorem dX0_countColoringClasses_23 : decode mi_X0_countColoringClasses.2.1 23 = .ok (.getfield 36, 3) := by decide +kernel
theorem dX0_countColoringClasses_26 : decode mi_X0_countColoringClasses.2.1 26 = .ok (.iload 5, 2) := by decide +kernel
theorem dX0_countColoringClasses_28 : decode mi_X0_countColoringClasses.2.1 28 = .ok (.invokevirtual 94, 3) := by decide +kernel
theorem dX0_countColoringClasses_31 : decode mi_X0_countColoringClasses.2.1 31 = .ok (.invokevirtual 97, 3) := by decide +kernel
theorem dX0_countColoringClasses_34 : decode mi_X0_countColoringClasses.2.1 34 = .ok (.invokestatic 100, 3) := by decide +kernel
theorem dX0_countColoringClasses_37 : decode mi_X0_countColoringClasses.2.1 37 = .ok (.ladd, 1) := by decide +kernel
theorem dX0_countColoringClasses_38 : decode mi_X0_countColoringClasses.2.1 38 = .ok (.lstore_n 3, 1) := by decide +kernel
theorem dX0_countColoringClasses_39 : decode mi_X0_countColoringClasses.2.1 39 = .ok (.iinc 5 1, 3) := by decide +kernel
theorem dX0_countColoringClasses_42 : decode mi_X0_countColoringClasses.2.1 42 = .ok (.goto (-29), 3) := by decide +kernel
theorem dX0_countColoringClasses_45 : decode mi_X0_countColoringClasses.2.1 45 = .ok (.iload_n 2, 1) := by decide +kernel
theorem dX0_countColoringClasses_46 : decode mi_X0_countColoringClasses.2.1 46 = .ok (.ifCond .le 10, 3) := by decide +kernel
theorem dX0_countColoringClasses_49 : decode mi_X0_countColoringClasses.2.1 49 = .ok (.lload_n 3, 1) := by decide +kernel
theorem dX0_countColoringClasses_50 : decode mi_X0_countColoringClasses.2.1 50 = .ok (.iload_n 2, 1) := by decide +kernel
theorem dX0_countColoringClasses_51 : decode mi_X0_countColoringClasses.2.1 51 = .ok (.i2l, 1) := by decide +kernel
theorem dX0_countColoringClasses_52 : decode mi_X0_countColoringClasses.2.1 52 = .ok (.ldiv, 1) := by decide +kernel
theorem dX0_countColoringClasses_53 : decode mi_X0_countColoringClasses.2.1 53 = .ok (.goto 4, 3) := by decide +kernel
theorem dX0_countColoringClasses_56 : decode mi_X0_countColoringClasses.2.1 56 = .ok (.lconst 0, 1) := by decide +kernel
theorem dX0_countColoringClasses_57 : decode mi_X0_countColoringClasses.2.1 57 = .ok (.lreturn, 1) := by decide +kernel
theorem dX0_countCycles_0 : decode mi_X0_countCycles.2.1 0 = .ok (.aload_n 0, 1) := by decide +kernel
theorem dX0_countCycles_1 : decode mi_X0_countCycles.2.1 1 = .ok (.iload_n 1, 1) := by decide +kernel
theorem dX0_countCycles_2 : decode mi_X0_countCycles.2.1 2 = .ok (.invokevirtual 104, 3) := by decide +kernel
theorem dX0_countCycles_5 : decode mi_X0_countCycles.2.1 5 = .ok (.aload_n 0, 1) := by decide +kernel
theorem dX0_countCycles_6 : decode mi_X0_countCycles.2.1 6 = .ok (.getfield 18, 3) := by decide +kernel
theorem dX0_countCycles_9 : decode mi_X0_countCycles.2.1 9 = .ok (.invokestatic 40, 3) := by decide +kernel
theorem dX0_countCycles_12 : decode mi_X0_countCycles.2.1 12 = .ok (.iconst 0, 1) := by decide +kernel
theorem dX0_countCycles_13 : decode mi_X0_countCycles.2.1 13 = .ok (.istore_n 2, 1) := by decide +kernel
theorem dX0_countCycles_14 : decode mi_X0_countCycles.2.1 14 = .ok (.iconst 0, 1) := by decide +kernel
theorem dX0_countCycles_15 : decode mi_X0_countCycles.2.1 15 = .ok (.istore_n 3, 1) := by decide +kernel
theorem dX0_countCycles_16 : decode mi_X0_countCycles.2.1 16 = .ok (.iload_n 3, 1) := by decide +kernel
theorem dX0_countCycles_17 : decode mi_X0_countCycles.2.1 17 = .ok (.aload_n 0, 1) := by decide +kernel
theorem dX0_countCycles_18 : decode mi_X0_countCycles.2.1 18 = .ok (.getfield 28, 3) := by decide +kernel
theorem dX0_countCycles_21 : decode mi_X0_countCycles.2.1 21 = .ok (.invokevirtual 48, 3) := by decide +kernel
theorem dX0_countCycles_24 : decode mi_X0_countCycles.2.1 24 = .ok (.if_icmp .ge 32, 3) := by decide +kernel
theorem dX0_countCycles_27 : decode mi_X0_countCycles.2.1 27 = .ok (.iload_n 3, 1) := by decide +kernel
theorem dX0_countCycles_28 : decode mi_X0_countCycles.2.1 28 = .ok (.bipush 25, 2) := by decide +kernel
theorem dX0_countCycles_30 : decode mi_X0_countCycles.2.1 30 = .ok (.if_icmp .ge 26, 3) := by decide +kernel
theorem dX0_countCycles_33 : decode mi_X0_countCycles.2.1 33 = .ok (.aload_n 0, 1) := by decide +kernel
theorem dX0_countCycles_34 : decode mi_X0_countCycles.2.1 34 = .ok (.getfield 18, 3) := by decide +kernel
theorem dX0_countCycles_37 : decode mi_X0_countCycles.2.1 37 = .ok (.iload_n 3, 1) := by decide +kernel
theorem dX0_countCycles_38 : decode mi_X0_countCycles.2.1 38 = .ok (.baload, 1) := by decide +kernel
theorem dX0_countCycles_39 : decode mi_X0_countCycles.2.1 39 = .ok (.ifCond .ne 11, 3) := by decide +kernel
theorem dX0_countCycles_42 : decode mi_X0_countCycles.2.1 42 = .ok (.iinc 2 1, 3) := by decide +kernel
theorem dX0_countCycles_45 : decode mi_X0_countCycles.2.1 45 = .ok (.aload_n 0, 1) := by decide +kernel
theorem dX0_countCycles_46 : decode mi_X0_countCycles.2.1 46 = .ok (.iload_n 3, 1) := by decide +kernel
theorem dX0_countCycles_47 : decode mi_X0_countCycles.2.1 47 = .ok (.invokevirtual 107, 3) := by decide +kernel
theorem dX0_countCycles_50 : decode mi_X0_countCycles.2.1 50 = .ok (.iinc 3 1, 3) := by decide +kernel
theorem dX0_countCycles_53 : decode mi_X0_countCycles.2.1 53 = .ok (.goto (-37), 3) := by decide +kernel
theorem dX0_countCycles_56 : decode mi_X0_countCycles.2.1 56 = .ok (.iload_n 2, 1) := by decide +kernel
theorem dX0_countCycles_57 : decode mi_X0_countCycles.2.1 57 = .ok (.ireturn, 1) := by decide +kernel
theorem dX0_walkCycle_0 : decode mi_X0_walkCycle.2.1 0 = .ok (.iload_n 1, 1) := by decide +kernel
theorem dX0_walkCycle_1 : decode mi_X0_walkCycle.2.1 1 = .ok (.istore_n 2, 1) := by decide +kernel
theorem dX0_walkCycle_2 : decode mi_X0_walkCycle.2.1 2 = .ok (.iconst 0, 1) := by decide +kernel
theorem dX0_walkCycle_3 : decode mi_X0_walkCycle.2.1 3 = .ok (.istore_n 3, 1) := by decide +kernel
theorem dX0_walkCycle_4 : decode mi_X0_walkCycle.2.1 4 = .ok (.iload_n 3, 1) := by decide +kernel
theorem dX0_walkCycle_5 : decode mi_X0_walkCycle.2.1 5 = .ok (.bipush 25, 2) := by decide +kernel
theorem dX0_walkCycle_7 : decode mi_X0_walkCycle.2.1 7 = .ok (.if_icmp .ge 42, 3) := by decide +kernel
theorem dX0_walkCycle_10 : decode mi_X0_walkCycle.2.1 10 = .ok (.iload_n 2, 1) := by decide +kernel
theorem dX0_walkCycle_11 : decode mi_X0_walkCycle.2.1 11 = .ok (.bipush 25, 2) := by decide +kernel
theorem dX0_walkCycle_13 : decode mi_X0_walkCycle.2.1 13 = .ok (.invokestatic 77, 3) := by decide +kernel
theorem dX0_walkCycle_16 : decode mi_X0_walkCycle.2.1 16 = .ok (.ifCond .eq 12, 3) := by decide +kernel
theorem dX0_walkCycle_19 : decode mi_X0_walkCycle.2.1 19 = .ok (.aload_n 0, 1) := by decide +kernel
theorem dX0_walkCycle_20 : decode mi_X0_walkCycle.2.1 20 = .ok (.getfield 18, 3) := by decide +kernel
theorem dX0_walkCycle_23 : decode mi_X0_walkCycle.2.1 23 = .ok (.iload_n 2, 1) := by decide +kernel
theorem dX0_walkCycle_24 : decode mi_X0_walkCycle.2.1 24 = .ok (.baload, 1) := by decide +kernel
theorem dX0_walkCycle_25 : decode mi_X0_walkCycle.2.1 25 = .ok (.ifCond .eq 4, 3) := by decide +kernel
theorem dX0_walkCycle_28 : decode mi_X0_walkCycle.2.1 28 = .ok (.return_, 1) := by decide +kernel
theorem dX0_walkCycle_29 : decode mi_X0_walkCycle.2.1 29 = .ok (.aload_n 0, 1) := by decide +kernel
theorem dX0_walkCycle_30 : decode mi_X0_walkCycle.2.1 30 = .ok (.getfield 18, 3) := by decide +kernel
theorem dX0_walkCycle_33 : decode mi_X0_walkCycle.2.1 33 = .ok (.iload_n 2, 1) := by decide +kernel
theorem dX0_walkCycle_34 : decode mi_X0_walkCycle.2.1 34 = .ok (.iconst 1, 1) := by decide +kernel
theorem dX0_walkCycle_35 : decode mi_X0_walkCycle.2.1 35 = .ok (.bastore, 1) := by decide +kernel
theorem dX0_walkCycle_36 : decode mi_X0_walkCycle.2.1 36 = .ok (.aload_n 0, 1) := by decide +kernel
theorem dX0_walkCycle_37 : decode mi_X0_walkCycle.2.1 37 = .ok (.getfield 25, 3) := by decide +kernel
theorem dX0_walkCycle_40 : decode mi_X0_walkCycle.2.1 40 = .ok (.iload_n 2, 1) := by decide +kernel
theorem dX0_walkCycle_41 : decode mi_X0_walkCycle.2.1 41 = .ok (.iaload, 1) := by decide +kernel
theorem dX0_walkCycle_42 : decode mi_X0_walkCycle.2.1 42 = .ok (.istore_n 2, 1) := by decide +kernel
theorem dX0_walkCycle_43 : decode mi_X0_walkCycle.2.1 43 = .ok (.iinc 3 1, 3) := by decide +kernel
theorem dX0_walkCycle_46 : decode mi_X0_walkCycle.2.1 46 = .ok (.goto (-42), 3) := by decide +kernel
theorem dX0_walkCycle_49 : decode mi_X0_walkCycle.2.1 49 = .ok (.return_, 1) := by decide +kernel
theorem dX0_fillImages_0 : decode mi_X0_fillImages.2.1 0 = .ok (.aload_n 0, 1) := by decide +kernel
theorem dX0_fillImages_1 : decode mi_X0_fillImages.2.1 1 = .ok (.getfield 28, 3) := by decide +kernel
theorem dX0_fillImages_4 : decode mi_X0_fillImages.2.1 4 = .ok (.iload_n 1, 1) := by decide +kernel
theorem dX0_fillImages_5 : decode mi_X0_fillImages.2.1 5 = .ok (.invokevirtual 110, 3) := by decide +kernel
theorem dX0_fillImages_8 : decode mi_X0_fillImages.2.1 8 = .ok (.istore_n 2, 1) := by decide +kernel
theorem dX0_fillImages_9 : decode mi_X0_fillImages.2.1 9 = .ok (.aload_n 0, 1) := by decide +kernel
theorem dX0_fillImages_10 : decode mi_X0_fillImages.2.1 10 = .ok (.getfield 28, 3) := by decide +kernel
theorem dX0_fillImages_13 : decode mi_X0_fillImages.2.1 13 = .ok (.iload_n 2, 1) := by decide +kernel
theorem dX0_fillImages_14 : decode mi_X0_fillImages.2.1 14 = .ok (.iconst 0, 1) := by decide +kernel
theorem dX0_fillImages_15 : decode mi_X0_fillImages.2.1 15 = .ok (.invokevirtual 113, 3) := by decide +kernel
theorem dX0_fillImages_18 : decode mi_X0_fillImages.2.1 18 = .ok (.istore_n 3, 1) := by decide +kernel
theorem dX0_fillImages_19 : decode mi_X0_fillImages.2.1 19 = .ok (.aload_n 0, 1) := by decide +kernel
theorem dX0_fillImages_20 : decode mi_X0_fillImages.2.1 20 = .ok (.getfield 28, 3) := by decide +kernel
theorem dX0_fillImages_23 : decode mi_X0_fillImages.2.1 23 = .ok (.iload_n 2, 1) := by decide +kernel
theorem dX0_fillImages_24 : decode mi_X0_fillImages.2.1 24 = .ok (.iconst 1, 1) := by decide +kernel
theorem dX0_fillImages_25 : decode mi_X0_fillImages.2.1 25 = .ok (.invokevirtual 113, 3) := by decide +kernel
theorem dX0_fillImages_28 : decode mi_X0_fillImages.2.1 28 = .ok (.istore 4, 2) := by decide +kernel
theorem dX0_fillImages_30 : decode mi_X0_fillImages.2.1 30 = .ok (.aload_n 0, 1) := by decide +kernel
theorem dX0_fillImages_31 : decode mi_X0_fillImages.2.1 31 = .ok (.getfield 28, 3) := by decide +kernel
theorem dX0_fillImages_34 : decode mi_X0_fillImages.2.1 34 = .ok (.iload_n 2, 1) := by decide +kernel
theorem dX0_fillImages_35 : decode mi_X0_fillImages.2.1 35 = .ok (.iconst 2, 1) := by decide +kernel
theorem dX0_fillImages_36 : decode mi_X0_fillImages.2.1 36 = .ok (.invokevirtual 113, 3) := by decide +kernel
theorem dX0_fillImages_39 : decode mi_X0_fillImages.2.1 39 = .ok (.istore 5, 2) := by decide +kernel
theorem dX0_fillImages_41 : decode mi_X0_fillImages.2.1 41 = .ok (.aload_n 0, 1) := by decide +kernel
theorem dX0_fillImages_42 : decode mi_X0_fillImages.2.1 42 = .ok (.getfield 28, 3) := by decide +kernel
theorem dX0_fillImages_45 : decode mi_X0_fillImages.2.1 45 = .ok (.iload_n 2, 1) := by decide +kernel
theorem dX0_fillImages_46 : decode mi_X0_fillImages.2.1 46 = .ok (.iconst 3, 1) := by decide +kernel
theorem dX0_fillImages_47 : decode mi_X0_fillImages.2.1 47 = .ok (.invokevirtual 113, 3) := by decide +kernel
theorem dX0_fillImages_50 : decode mi_X0_fillImages.2.1 50 = .ok (.istore 6, 2) := by decide +kernel
theorem dX0_fillImages_52 : decode mi_X0_fillImages.2.1 52 = .ok (.aload_n 0, 1) := by decide +kernel
theorem dX0_fillImages_53 : decode mi_X0_fillImages.2.1 53 = .ok (.getfield 28, 3) := by decide +kernel
theorem dX0_fillImages_56 : decode mi_X0_fillImages.2.1 56 = .ok (.iload_n 1, 1) := by decide +kernel
theorem dX0_fillImages_57 : decode mi_X0_fillImages.2.1 57 = .ok (.invokevirtual 116, 3) := by decide +kernel
theorem dX0_fillImages_60 : decode mi_X0_fillImages.2.1 60 = .ok (.istore 7, 2) := by decide +kernel
theorem dX0_fillImages_62 : decode mi_X0_fillImages.2.1 62 = .ok (.aload_n 0, 1) := by decide +kernel
theorem dX0_fillImages_63 : decode mi_X0_fillImages.2.1 63 = .ok (.getfield 28, 3) := by decide +kernel
theorem dX0_fillImages_66 : decode mi_X0_fillImages.2.1 66 = .ok (.iload_n 1, 1) := by decide +kernel
theorem dX0_fillImages_67 : decode mi_X0_fillImages.2.1 67 = .ok (.invokevirtual 119, 3) := by decide +kernel
theorem dX0_fillImages_70 : decode mi_X0_fillImages.2.1 70 = .ok (.istore 8, 2) := by decide +kernel
theorem dX0_fillImages_72 : decode mi_X0_fillImages.2.1 72 = .ok (.iconst 0, 1) := by decide +kernel
theorem dX0_fillImages_73 : decode mi_X0_fillImages.2.1 73 = .ok (.istore 9, 2) := by decide +kernel
theorem dX0_fillImages_75 : decode mi_X0_fillImages.2.1 75 = .ok (.iconst 0, 1) := by decide +kernel
theorem dX0_fillImages_76 : decode mi_X0_fillImages.2.1 76 = .ok (.istore 10, 2) := by decide +kernel
theorem dX0_fillImages_78 : decode mi_X0_fillImages.2.1 78 = .ok (.iload 10, 2) := by decide +kernel
theorem dX0_fillImages_80 : decode mi_X0_fillImages.2.1 80 = .ok (.aload_n 0, 1) := by decide +kernel
theorem dX0_fillImages_81 : decode mi_X0_fillImages.2.1 81 = .ok (.getfield 28, 3) := by decide +kernel
theorem dX0_fillImages_84 : decode mi_X0_fillImages.2.1 84 = .ok (.getfield 122, 3) := by decide +kernel
theorem dX0_fillImages_87 : decode mi_X0_fillImages.2.1 87 = .ok (.if_icmp .ge 95, 3) := by decide +kernel
theorem dX0_fillImages_90 : decode mi_X0_fillImages.2.1 90 = .ok (.iconst 0, 1) := by decide +kernel
theorem dX0_fillImages_91 : decode mi_X0_fillImages.2.1 91 = .ok (.istore 11, 2) := by decide +kernel
theorem dX0_fillImages_93 : decode mi_X0_fillImages.2.1 93 = .ok (.iload 11, 2) := by decide +kernel
theorem dX0_fillImages_95 : decode mi_X0_fillImages.2.1 95 = .ok (.aload_n 0, 1) := by decide +kernel
theorem dX0_fillImages_96 : decode mi_X0_fillImages.2.1 96 = .ok (.getfield 28, 3) := by decide +kernel
theorem dX0_fillImages_99 : decode mi_X0_fillImages.2.1 99 = .ok (.getfield 122, 3) := by decide +kernel
theorem dX0_fillImages_102 : decode mi_X0_fillImages.2.1 102 = .ok (.if_icmp .ge 74, 3) := by decide +kernel
theorem dX0_fillImages_105 : decode mi_X0_fillImages.2.1 105 = .ok (.iload 9, 2) := by decide +kernel
theorem dX0_fillImages_107 : decode mi_X0_fillImages.2.1 107 = .ok (.bipush 25, 2) := by decide +kernel
theorem dX0_fillImages_109 : decode mi_X0_fillImages.2.1 109 = .ok (.if_icmp .ge 67, 3) := by decide +kernel
theorem dX0_fillImages_112 : decode mi_X0_fillImages.2.1 112 = .ok (.aload_n 0, 1) := by decide +kernel
theorem dX0_fillImages_113 : decode mi_X0_fillImages.2.1 113 = .ok (.getfield 25, 3) := by decide +kernel
theorem dX0_fillImages_116 : decode mi_X0_fillImages.2.1 116 = .ok (.iload 9, 2) := by decide +kernel
theorem dX0_fillImages_118 : decode mi_X0_fillImages.2.1 118 = .ok (.aload_n 0, 1) := by decide +kernel
theorem dX0_fillImages_119 : decode mi_X0_fillImages.2.1 119 = .ok (.getfield 28, 3) := by decide +kernel
theorem dX0_fillImages_122 : decode mi_X0_fillImages.2.1 122 = .ok (.aload_n 0, 1) := by decide +kernel
theorem dX0_fillImages_123 : decode mi_X0_fillImages.2.1 123 = .ok (.getfield 28, 3) := by decide +kernel
theorem dX0_fillImages_126 : decode mi_X0_fillImages.2.1 126 = .ok (.iload_n 3, 1) := by decide +kernel
theorem dX0_fillImages_127 : decode mi_X0_fillImages.2.1 127 = .ok (.iload 10, 2) := by decide +kernel
theorem dX0_fillImages_129 : decode mi_X0_fillImages.2.1 129 = .ok (.imul, 1) := by decide +kernel
theorem dX0_fillImages_130 : decode mi_X0_fillImages.2.1 130 = .ok (.iload 4, 2) := by decide +kernel
theorem dX0_fillImages_132 : decode mi_X0_fillImages.2.1 132 = .ok (.iload 11, 2) := by decide +kernel
theorem dX0_fillImages_134 : decode mi_X0_fillImages.2.1 134 = .ok (.imul, 1) := by decide +kernel
theorem dX0_fillImages_135 : decode mi_X0_fillImages.2.1 135 = .ok (.iadd, 1) := by decide +kernel
theorem dX0_fillImages_136 : decode mi_X0_fillImages.2.1 136 = .ok (.iload 7, 2) := by decide +kernel
theorem dX0_fillImages_138 : decode mi_X0_fillImages.2.1 138 = .ok (.iadd, 1) := by decide +kernel
theorem dX0_fillImages_139 : decode mi_X0_fillImages.2.1 139 = .ok (.invokevirtual 125, 3) := by decide +kernel
theorem dX0_fillImages_142 : decode mi_X0_fillImages.2.1 142 = .ok (.aload_n 0, 1) := by decide +kernel
theorem dX0_fillImages_143 : decode mi_X0_fillImages.2.1 143 = .ok (.getfield 28, 3) := by decide +kernel
theorem dX0_fillImages_146 : decode mi_X0_fillImages.2.1 146 = .ok (.iload 5, 2) := by decide +kernel
theorem dX0_fillImages_148 : decode mi_X0_fillImages.2.1 148 = .ok (.iload 10, 2) := by decide +kernel
theorem dX0_fillImages_150 : decode mi_X0_fillImages.2.1 150 = .ok (.imul, 1) := by decide +kernel
theorem dX0_fillImages_151 : decode mi_X0_fillImages.2.1 151 = .ok (.iload 6, 2) := by decide +kernel
theorem dX0_fillImages_153 : decode mi_X0_fillImages.2.1 153 = .ok (.iload 11, 2) := by decide +kernel
theorem dX0_fillImages_155 : decode mi_X0_fillImages.2.1 155 = .ok (.imul, 1) := by decide +kernel
theorem dX0_fillImages_156 : decode mi_X0_fillImages.2.1 156 = .ok (.iadd, 1) := by decide +kernel
theorem dX0_fillImages_157 : decode mi_X0_fillImages.2.1 157 = .ok (.iload 8, 2) := by decide +kernel
theorem dX0_fillImages_159 : decode mi_X0_fillImages.2.1 159 = .ok (.iadd, 1) := by decide +kernel
theorem dX0_fillImages_160 : decode mi_X0_fillImages.2.1 160 = .ok (.invokevirtual 125, 3) := by decide +kernel
theorem dX0_fillImages_163 : decode mi_X0_fillImages.2.1 163 = .ok (.invokevirtual 128, 3) := by decide +kernel
theorem dX0_fillImages_166 : decode mi_X0_fillImages.2.1 166 = .ok (.iastore, 1) := by decide +kernel
theorem dX0_fillImages_167 : decode mi_X0_fillImages.2.1 167 = .ok (.iinc 9 1, 3) := by decide +kernel
theorem dX0_fillImages_170 : decode mi_X0_fillImages.2.1 170 = .ok (.iinc 11 1, 3) := by decide +kernel
theorem dX0_fillImages_173 : decode mi_X0_fillImages.2.1 173 = .ok (.goto (-80), 3) := by decide +kernel
theorem dX0_fillImages_176 : decode mi_X0_fillImages.2.1 176 = .ok (.iinc 10 1, 3) := by decide +kernel
theorem dX0_fillImages_179 : decode mi_X0_fillImages.2.1 179 = .ok (.goto (-101), 3) := by decide +kernel
theorem dX0_fillImages_182 : decode mi_X0_fillImages.2.1 182 = .ok (.return_, 1) := by decide +kernel
theorem dX1_survey_0 : decode mi_X1_survey.2.1 0 = .ok (.aload_n 0, 1) := by decide +kernel
theorem dX1_survey_1 : decode mi_X1_survey.2.1 1 = .ok (.getfield 9, 3) := by decide +kernel
theorem dX1_survey_4 : decode mi_X1_survey.2.1 4 = .ok (.invokestatic 30, 3) := by decide +kernel
theorem dX1_survey_7 : decode mi_X1_survey.2.1 7 = .ok (.aload_n 0, 1) := by decide +kernel
theorem dX1_survey_8 : decode mi_X1_survey.2.1 8 = .ok (.getfield 15, 3) := by decide +kernel
theorem dX1_survey_11 : decode mi_X1_survey.2.1 11 = .ok (.invokestatic 30, 3) := by decide +kernel
theorem dX1_survey_14 : decode mi_X1_survey.2.1 14 = .ok (.iconst 0, 1) := by decide +kernel
theorem dX1_survey_15 : decode mi_X1_survey.2.1 15 = .ok (.istore_n 1, 1) := by decide +kernel
theorem dX1_survey_16 : decode mi_X1_survey.2.1 16 = .ok (.iload_n 1, 1) := by decide +kernel
theorem dX1_survey_17 : decode mi_X1_survey.2.1 17 = .ok (.iconst 4, 1) := by decide +kernel
theorem dX1_survey_18 : decode mi_X1_survey.2.1 18 = .ok (.if_icmp .ge 16, 3) := by decide +kernel
theorem dX1_survey_21 : decode mi_X1_survey.2.1 21 = .ok (.aload_n 0, 1) := by decide +kernel
theorem dX1_survey_22 : decode mi_X1_survey.2.1 22 = .ok (.getfield 18, 3) := by decide +kernel
theorem dX1_survey_25 : decode mi_X1_survey.2.1 25 = .ok (.iload_n 1, 1) := by decide +kernel
theorem dX1_survey_26 : decode mi_X1_survey.2.1 26 = .ok (.iconst 0, 1) := by decide +kernel
theorem dX1_survey_27 : decode mi_X1_survey.2.1 27 = .ok (.iastore, 1) := by decide +kernel
theorem dX1_survey_28 : decode mi_X1_survey.2.1 28 = .ok (.iinc 1 1, 3) := by decide +kernel
theorem dX1_survey_31 : decode mi_X1_survey.2.1 31 = .ok (.goto (-15), 3) := by decide +kernel
theorem dX1_survey_34 : decode mi_X1_survey.2.1 34 = .ok (.iconst 0, 1) := by decide +kernel
theorem dX1_survey_35 : decode mi_X1_survey.2.1 35 = .ok (.istore_n 1, 1) := by decide +kernel
theorem dX1_survey_36 : decode mi_X1_survey.2.1 36 = .ok (.iload_n 1, 1) := by decide +kernel
theorem dX1_survey_37 : decode mi_X1_survey.2.1 37 = .ok (.aload_n 0, 1) := by decide +kernel
theorem dX1_survey_38 : decode mi_X1_survey.2.1 38 = .ok (.getfield 26, 3) := by decide +kernel
theorem dX1_survey_41 : decode mi_X1_survey.2.1 41 = .ok (.invokevirtual 34, 3) := by decide +kernel
theorem dX1_survey_44 : decode mi_X1_survey.2.1 44 = .ok (.if_icmp .ge 21, 3) := by decide +kernel
theorem dX1_survey_47 : decode mi_X1_survey.2.1 47 = .ok (.aload_n 0, 1) := by decide +kernel
theorem dX1_survey_48 : decode mi_X1_survey.2.1 48 = .ok (.aload_n 0, 1) := by decide +kernel
theorem dX1_survey_49 : decode mi_X1_survey.2.1 49 = .ok (.getfield 26, 3) := by decide +kernel
theorem dX1_survey_52 : decode mi_X1_survey.2.1 52 = .ok (.iload_n 1, 1) := by decide +kernel
theorem dX1_survey_53 : decode mi_X1_survey.2.1 53 = .ok (.invokevirtual 40, 3) := by decide +kernel
theorem dX1_survey_56 : decode mi_X1_survey.2.1 56 = .ok (.invokevirtual 44, 3) := by decide +kernel
theorem dX1_survey_59 : decode mi_X1_survey.2.1 59 = .ok (.iinc 1 1, 3) := by decide +kernel
theorem dX1_survey_62 : decode mi_X1_survey.2.1 62 = .ok (.goto (-26), 3) := by decide +kernel
theorem dX1_survey_65 : decode mi_X1_survey.2.1 65 = .ok (.return_, 1) := by decide +kernel
theorem dX1_note_0 : decode mi_X1_note.2.1 0 = .ok (.aload_n 0, 1) := by decide +kernel
theorem dX1_note_1 : decode mi_X1_note.2.1 1 = .ok (.getfield 22, 3) := by decide +kernel
theorem dX1_note_4 : decode mi_X1_note.2.1 4 = .ok (.iload_n 1, 1) := by decide +kernel
theorem dX1_note_5 : decode mi_X1_note.2.1 5 = .ok (.invokevirtual 48, 3) := by decide +kernel
theorem dX1_note_8 : decode mi_X1_note.2.1 8 = .ok (.istore_n 2, 1) := by decide +kernel
theorem dX1_note_9 : decode mi_X1_note.2.1 9 = .ok (.aload_n 0, 1) := by decide +kernel
theorem dX1_note_10 : decode mi_X1_note.2.1 10 = .ok (.getfield 22, 3) := by decide +kernel
theorem dX1_note_13 : decode mi_X1_note.2.1 13 = .ok (.iload_n 1, 1) := by decide +kernel
theorem dX1_note_14 : decode mi_X1_note.2.1 14 = .ok (.invokevirtual 53, 3) := by decide +kernel
theorem dX1_note_17 : decode mi_X1_note.2.1 17 = .ok (.istore_n 3, 1) := by decide +kernel
theorem dX1_note_18 : decode mi_X1_note.2.1 18 = .ok (.iload_n 2, 1) := by decide +kernel
theorem dX1_note_19 : decode mi_X1_note.2.1 19 = .ok (.bipush 12, 2) := by decide +kernel
theorem dX1_note_21 : decode mi_X1_note.2.1 21 = .ok (.invokestatic 56, 3) := by decide +kernel
theorem dX1_note_24 : decode mi_X1_note.2.1 24 = .ok (.ifCond .eq 53, 3) := by decide +kernel
theorem dX1_note_27 : decode mi_X1_note.2.1 27 = .ok (.iload_n 3, 1) := by decide +kernel
theorem dX1_note_28 : decode mi_X1_note.2.1 28 = .ok (.iconst 4, 1) := by decide +kernel
theorem dX1_note_29 : decode mi_X1_note.2.1 29 = .ok (.invokestatic 56, 3) := by decide +kernel
theorem dX1_note_32 : decode mi_X1_note.2.1 32 = .ok (.ifCond .eq 45, 3) := by decide +kernel
theorem dX1_note_35 : decode mi_X1_note.2.1 35 = .ok (.aload_n 0, 1) := by decide +kernel
theorem dX1_note_36 : decode mi_X1_note.2.1 36 = .ok (.getfield 9, 3) := by decide +kernel
theorem dX1_note_39 : decode mi_X1_note.2.1 39 = .ok (.iload_n 2, 1) := by decide +kernel
theorem dX1_note_40 : decode mi_X1_note.2.1 40 = .ok (.iconst 1, 1) := by decide +kernel
theorem dX1_note_41 : decode mi_X1_note.2.1 41 = .ok (.bastore, 1) := by decide +kernel
theorem dX1_note_42 : decode mi_X1_note.2.1 42 = .ok (.aload_n 0, 1) := by decide +kernel
theorem dX1_note_43 : decode mi_X1_note.2.1 43 = .ok (.getfield 15, 3) := by decide +kernel
theorem dX1_note_46 : decode mi_X1_note.2.1 46 = .ok (.iload_n 2, 1) := by decide +kernel
theorem dX1_note_47 : decode mi_X1_note.2.1 47 = .ok (.aload_n 0, 1) := by decide +kernel
theorem dX1_note_48 : decode mi_X1_note.2.1 48 = .ok (.getfield 15, 3) := by decide +kernel
theorem dX1_note_51 : decode mi_X1_note.2.1 51 = .ok (.iload_n 2, 1) := by decide +kernel
theorem dX1_note_52 : decode mi_X1_note.2.1 52 = .ok (.baload, 1) := by decide +kernel
theorem dX1_note_53 : decode mi_X1_note.2.1 53 = .ok (.ifCond .ne 8, 3) := by decide +kernel
theorem dX1_note_56 : decode mi_X1_note.2.1 56 = .ok (.iload_n 3, 1) := by decide +kernel
theorem dX1_note_57 : decode mi_X1_note.2.1 57 = .ok (.iconst 2, 1) := by decide +kernel
theorem dX1_note_58 : decode mi_X1_note.2.1 58 = .ok (.if_icmp .ne 7, 3) := by decide +kernel
theorem dX1_note_61 : decode mi_X1_note.2.1 61 = .ok (.iconst 1, 1) := by decide +kernel
theorem dX1_note_62 : decode mi_X1_note.2.1 62 = .ok (.goto 4, 3) := by decide +kernel
theorem dX1_note_65 : decode mi_X1_note.2.1 65 = .ok (.iconst 0, 1) := by decide +kernel
theorem dX1_note_66 : decode mi_X1_note.2.1 66 = .ok (.bastore, 1) := by decide +kernel
theorem dX1_note_67 : decode mi_X1_note.2.1 67 = .ok (.aload_n 0, 1) := by decide +kernel
theorem dX1_note_68 : decode mi_X1_note.2.1 68 = .ok (.getfield 18, 3) := by decide +kernel
theorem dX1_note_71 : decode mi_X1_note.2.1 71 = .ok (.iload_n 3, 1) := by decide +kernel
theorem dX1_note_72 : decode mi_X1_note.2.1 72 = .ok (.dup2, 1) := by decide +kernel
theorem dX1_note_73 : decode mi_X1_note.2.1 73 = .ok (.iaload, 1) := by decide +kernel
theorem dX1_note_74 : decode mi_X1_note.2.1 74 = .ok (.iconst 1, 1) := by decide +kernel
theorem dX1_note_75 : decode mi_X1_note.2.1 75 = .ok (.iadd, 1) := by decide +kernel
theorem dX1_note_76 : decode mi_X1_note.2.1 76 = .ok (.iastore, 1) := by decide +kernel
theorem dX1_note_77 : decode mi_X1_note.2.1 77 = .ok (.return_, 1) := by decide +kernel
theorem dX1_elementsOfKind_0 : decode mi_X1_elementsOfKind.2.1 0 = .ok (.iload_n 1, 1) := by decide +kernel
theorem dX1_elementsOfKind_1 : decode mi_X1_elementsOfKind.2.1 1 = .ok (.iconst 4, 1) := by decide +kernel
theorem dX1_elementsOfKind_2 : decode mi_X1_elementsOfKind.2.1 2 = .ok (.invokestatic 56, 3) := by decide +kernel
theorem dX1_elementsOfKind_5 : decode mi_X1_elementsOfKind.2.1 5 = .ok (.ifCond .eq 12, 3) := by decide +kernel
theorem dX1_elementsOfKind_8 : decode mi_X1_elementsOfKind.2.1 8 = .ok (.aload_n 0, 1) := by decide +kernel
theorem dX1_elementsOfKind_9 : decode mi_X1_elementsOfKind.2.1 9 = .ok (.getfield 18, 3) := by decide +kernel
theorem dX1_elementsOfKind_12 : decode mi_X1_elementsOfKind.2.1 12 = .ok (.iload_n 1, 1) := by decide +kernel
theorem dX1_elementsOfKind_13 : decode mi_X1_elementsOfKind.2.1 13 = .ok (.iaload, 1) := by decide +kernel
theorem dX1_elementsOfKind_14 : decode mi_X1_elementsOfKind.2.1 14 = .ok (.goto 4, 3) := by decide +kernel
theorem dX1_elementsOfKind_17 : decode mi_X1_elementsOfKind.2.1 17 = .ok (.iconst 0, 1) := by decide +kernel
theorem dX1_elementsOfKind_18 : decode mi_X1_elementsOfKind.2.1 18 = .ok (.ireturn, 1) := by decide +kernel
theorem dX1_countParts_0 : decode mi_X1_countParts.2.1 0 = .ok (.aload_n 0, 1) := by decide +kernel
theorem dX1_countParts_1 : decode mi_X1_countParts.2.1 1 = .ok (.getfield 9, 3) := by decide +kernel
theorem dX1_countParts_4 : decode mi_X1_countParts.2.1 4 = .ok (.invokestatic 60, 3) := by decide +kernel
theorem dX1_countParts_7 : decode mi_X1_countParts.2.1 7 = .ok (.ireturn, 1) := by decide +kernel
theorem dX1_countMirrorParts_0 : decode mi_X1_countMirrorParts.2.1 0 = .ok (.aload_n 0, 1) := by decide +kernel
theorem dX1_countMirrorParts_1 : decode mi_X1_countMirrorParts.2.1 1 = .ok (.getfield 15, 3) := by decide +kernel
theorem dX1_countMirrorParts_4 : decode mi_X1_countMirrorParts.2.1 4 = .ok (.invokestatic 60, 3) := by decide +kernel
theorem dX1_countMirrorParts_7 : decode mi_X1_countMirrorParts.2.1 7 = .ok (.ireturn, 1) := by decide +kernel
theorem dX1_greatestTurnOrder_0 : decode mi_X1_greatestTurnOrder.2.1 0 = .ok (.iconst 1, 1) := by decide +kernel
theorem dX1_greatestTurnOrder_1 : decode mi_X1_greatestTurnOrder.2.1 1 = .ok (.istore_n 1, 1) := by decide +kernel
theorem dX1_greatestTurnOrder_2 : decode mi_X1_greatestTurnOrder.2.1 2 = .ok (.iconst 0, 1) := by decide +kernel
theorem dX1_greatestTurnOrder_3 : decode mi_X1_greatestTurnOrder.2.1 3 = .ok (.istore_n 2, 1) := by decide +kernel
theorem dX1_greatestTurnOrder_4 : decode mi_X1_greatestTurnOrder.2.1 4 = .ok (.iload_n 2, 1) := by decide +kernel
theorem dX1_greatestTurnOrder_5 : decode mi_X1_greatestTurnOrder.2.1 5 = .ok (.aload_n 0, 1) := by decide +kernel
theorem dX1_greatestTurnOrder_6 : decode mi_X1_greatestTurnOrder.2.1 6 = .ok (.getfield 22, 3) := by decide +kernel
theorem dX1_greatestTurnOrder_9 : decode mi_X1_greatestTurnOrder.2.1 9 = .ok (.invokevirtual 64, 3) := by decide +kernel
theorem dX1_greatestTurnOrder_12 : decode mi_X1_greatestTurnOrder.2.1 12 = .ok (.if_icmp .ge 30, 3) := by decide +kernel
theorem dX1_greatestTurnOrder_15 : decode mi_X1_greatestTurnOrder.2.1 15 = .ok (.aload_n 0, 1) := by decide +kernel
theorem dX1_greatestTurnOrder_16 : decode mi_X1_greatestTurnOrder.2.1 16 = .ok (.iload_n 2, 1) := by decide +kernel
theorem dX1_greatestTurnOrder_17 : decode mi_X1_greatestTurnOrder.2.1 17 = .ok (.invokevirtual 67, 3) := by decide +kernel
theorem dX1_greatestTurnOrder_20 : decode mi_X1_greatestTurnOrder.2.1 20 = .ok (.ifCond .eq 16, 3) := by decide +kernel
theorem dX1_greatestTurnOrder_23 : decode mi_X1_greatestTurnOrder.2.1 23 = .ok (.iload_n 1, 1) := by decide +kernel
theorem dX1_greatestTurnOrder_24 : decode mi_X1_greatestTurnOrder.2.1 24 = .ok (.aload_n 0, 1) := by decide +kernel
theorem dX1_greatestTurnOrder_25 : decode mi_X1_greatestTurnOrder.2.1 25 = .ok (.getfield 22, 3) := by decide +kernel
theorem dX1_greatestTurnOrder_28 : decode mi_X1_greatestTurnOrder.2.1 28 = .ok (.iload_n 2, 1) := by decide +kernel
theorem dX1_greatestTurnOrder_29 : decode mi_X1_greatestTurnOrder.2.1 29 = .ok (.invokevirtual 71, 3) := by decide +kernel
theorem dX1_greatestTurnOrder_32 : decode mi_X1_greatestTurnOrder.2.1 32 = .ok (.invokestatic 74, 3) := by decide +kernel
theorem dX1_greatestTurnOrder_35 : decode mi_X1_greatestTurnOrder.2.1 35 = .ok (.istore_n 1, 1) := by decide +kernel
theorem dX1_greatestTurnOrder_36 : decode mi_X1_greatestTurnOrder.2.1 36 = .ok (.iinc 2 1, 3) := by decide +kernel
theorem dX1_greatestTurnOrder_39 : decode mi_X1_greatestTurnOrder.2.1 39 = .ok (.goto (-35), 3) := by decide +kernel
theorem dX1_greatestTurnOrder_42 : decode mi_X1_greatestTurnOrder.2.1 42 = .ok (.iload_n 1, 1) := by decide +kernel
theorem dX1_greatestTurnOrder_43 : decode mi_X1_greatestTurnOrder.2.1 43 = .ok (.ireturn, 1) := by decide +kernel
theorem dX1_occurs_0 : decode mi_X1_occurs.2.1 0 = .ok (.iload_n 1, 1) := by decide +kernel
theorem dX1_occurs_1 : decode mi_X1_occurs.2.1 1 = .ok (.bipush 12, 2) := by decide +kernel
theorem dX1_occurs_3 : decode mi_X1_occurs.2.1 3 = .ok (.invokestatic 56, 3) := by decide +kernel
theorem dX1_occurs_6 : decode mi_X1_occurs.2.1 6 = .ok (.ifCond .eq 16, 3) := by decide +kernel
theorem dX1_occurs_9 : decode mi_X1_occurs.2.1 9 = .ok (.aload_n 0, 1) := by decide +kernel
theorem dX1_occurs_10 : decode mi_X1_occurs.2.1 10 = .ok (.getfield 9, 3) := by decide +kernel
theorem dX1_occurs_13 : decode mi_X1_occurs.2.1 13 = .ok (.iload_n 1, 1) := by decide +kernel
theorem dX1_occurs_14 : decode mi_X1_occurs.2.1 14 = .ok (.baload, 1) := by decide +kernel
theorem dX1_occurs_15 : decode mi_X1_occurs.2.1 15 = .ok (.ifCond .eq 7, 3) := by decide +kernel
theorem dX1_occurs_18 : decode mi_X1_occurs.2.1 18 = .ok (.iconst 1, 1) := by decide +kernel
theorem dX1_occurs_19 : decode mi_X1_occurs.2.1 19 = .ok (.goto 4, 3) := by decide +kernel
theorem dX1_occurs_22 : decode mi_X1_occurs.2.1 22 = .ok (.iconst 0, 1) := by decide +kernel
theorem dX1_occurs_23 : decode mi_X1_occurs.2.1 23 = .ok (.ireturn, 1) := by decide +kernel
theorem dX1_hasReversal_0 : decode mi_X1_hasReversal.2.1 0 = .ok (.aload_n 0, 1) := by decide +kernel
theorem dX1_hasReversal_1 : decode mi_X1_hasReversal.2.1 1 = .ok (.getfield 22, 3) := by decide +kernel
theorem dX1_hasReversal_4 : decode mi_X1_hasReversal.2.1 4 = .ok (.invokevirtual 64, 3) := by decide +kernel
theorem dX1_hasReversal_7 : decode mi_X1_hasReversal.2.1 7 = .ok (.istore_n 1, 1) := by decide +kernel
theorem dX1_hasReversal_8 : decode mi_X1_hasReversal.2.1 8 = .ok (.iload_n 1, 1) := by decide +kernel
theorem dX1_hasReversal_9 : decode mi_X1_hasReversal.2.1 9 = .ok (.aload_n 0, 1) := by decide +kernel
theorem dX1_hasReversal_10 : decode mi_X1_hasReversal.2.1 10 = .ok (.getfield 22, 3) := by decide +kernel
theorem dX1_hasReversal_13 : decode mi_X1_hasReversal.2.1 13 = .ok (.invokevirtual 80, 3) := by decide +kernel
theorem dX1_hasReversal_16 : decode mi_X1_hasReversal.2.1 16 = .ok (.if_icmp .ge 19, 3) := by decide +kernel
theorem dX1_hasReversal_19 : decode mi_X1_hasReversal.2.1 19 = .ok (.aload_n 0, 1) := by decide +kernel
theorem dX1_hasReversal_20 : decode mi_X1_hasReversal.2.1 20 = .ok (.iload_n 1, 1) := by decide +kernel
theorem dX1_hasReversal_21 : decode mi_X1_hasReversal.2.1 21 = .ok (.invokevirtual 67, 3) := by decide +kernel
theorem dX1_hasReversal_24 : decode mi_X1_hasReversal.2.1 24 = .ok (.ifCond .eq 5, 3) := by decide +kernel
theorem dX1_hasReversal_27 : decode mi_X1_hasReversal.2.1 27 = .ok (.iconst 1, 1) := by decide +kernel
theorem dX1_hasReversal_28 : decode mi_X1_hasReversal.2.1 28 = .ok (.ireturn, 1) := by decide +kernel
theorem dX1_hasReversal_29 : decode mi_X1_hasReversal.2.1 29 = .ok (.iinc 1 1, 3) := by decide +kernel
theorem dX1_hasReversal_32 : decode mi_X1_hasReversal.2.1 32 = .ok (.goto (-24), 3) := by decide +kernel
theorem dX1_hasReversal_35 : decode mi_X1_hasReversal.2.1 35 = .ok (.iconst 0, 1) := by decide +kernel
theorem dX1_hasReversal_36 : decode mi_X1_hasReversal.2.1 36 = .ok (.ireturn, 1) := by decide +kernel
theorem dX1_hasCentering_0 : decode mi_X1_hasCentering.2.1 0 = .ok (.iconst 0, 1) := by decide +kernel
theorem dX1_hasCentering_1 : decode mi_X1_hasCentering.2.1 1 = .ok (.istore_n 1, 1) := by decide +kernel
theorem dX1_hasCentering_2 : decode mi_X1_hasCentering.2.1 2 = .ok (.iload_n 1, 1) := by decide +kernel
theorem dX1_hasCentering_3 : decode mi_X1_hasCentering.2.1 3 = .ok (.bipush 12, 2) := by decide +kernel
theorem dX1_hasCentering_5 : decode mi_X1_hasCentering.2.1 5 = .ok (.if_icmp .ge 28, 3) := by decide +kernel
theorem dX1_hasCentering_8 : decode mi_X1_hasCentering.2.1 8 = .ok (.aload_n 0, 1) := by decide +kernel
theorem dX1_hasCentering_9 : decode mi_X1_hasCentering.2.1 9 = .ok (.getfield 15, 3) := by decide +kernel
theorem dX1_hasCentering_12 : decode mi_X1_hasCentering.2.1 12 = .ok (.iload_n 1, 1) := by decide +kernel
theorem dX1_hasCentering_13 : decode mi_X1_hasCentering.2.1 13 = .ok (.baload, 1) := by decide +kernel
theorem dX1_hasCentering_14 : decode mi_X1_hasCentering.2.1 14 = .ok (.ifCond .eq 13, 3) := by decide +kernel
theorem dX1_hasCentering_17 : decode mi_X1_hasCentering.2.1 17 = .ok (.aload_n 0, 1) := by decide +kernel
theorem dX1_hasCentering_18 : decode mi_X1_hasCentering.2.1 18 = .ok (.iload_n 1, 1) := by decide +kernel
theorem dX1_hasCentering_19 : decode mi_X1_hasCentering.2.1 19 = .ok (.invokevirtual 83, 3) := by decide +kernel
theorem dX1_hasCentering_22 : decode mi_X1_hasCentering.2.1 22 = .ok (.ifCond .ne 5, 3) := by decide +kernel
theorem dX1_hasCentering_25 : decode mi_X1_hasCentering.2.1 25 = .ok (.iconst 1, 1) := by decide +kernel
theorem dX1_hasCentering_26 : decode mi_X1_hasCentering.2.1 26 = .ok (.ireturn, 1) := by decide +kernel
theorem dX1_hasCentering_27 : decode mi_X1_hasCentering.2.1 27 = .ok (.iinc 1 1, 3) := by decide +kernel
theorem dX1_hasCentering_30 : decode mi_X1_hasCentering.2.1 30 = .ok (.goto (-28), 3) := by decide +kernel
theorem dX1_hasCentering_33 : decode mi_X1_hasCentering.2.1 33 = .ok (.iconst 0, 1) := by decide +kernel
theorem dX1_hasCentering_34 : decode mi_X1_hasCentering.2.1 34 = .ok (.ireturn, 1) := by decide +kernel
theorem dX1_keepsHalfSums_0 : decode mi_X1_keepsHalfSums.2.1 0 = .ok (.aload_n 0, 1) := by decide +kernel
theorem dX1_keepsHalfSums_1 : decode mi_X1_keepsHalfSums.2.1 1 = .ok (.iload_n 1, 1) := by decide +kernel
theorem dX1_keepsHalfSums_2 : decode mi_X1_keepsHalfSums.2.1 2 = .ok (.aload_n 0, 1) := by decide +kernel
theorem dX1_keepsHalfSums_3 : decode mi_X1_keepsHalfSums.2.1 3 = .ok (.getfield 22, 3) := by decide +kernel
theorem dX1_keepsHalfSums_6 : decode mi_X1_keepsHalfSums.2.1 6 = .ok (.getfield 86, 3) := by decide +kernel
theorem dX1_keepsHalfSums_9 : decode mi_X1_keepsHalfSums.2.1 9 = .ok (.iconst 0, 1) := by decide +kernel
theorem dX1_keepsHalfSums_10 : decode mi_X1_keepsHalfSums.2.1 10 = .ok (.invokevirtual 90, 3) := by decide +kernel
theorem dX1_keepsHalfSums_13 : decode mi_X1_keepsHalfSums.2.1 13 = .ok (.ifCond .eq 19, 3) := by decide +kernel
theorem dX1_keepsHalfSums_16 : decode mi_X1_keepsHalfSums.2.1 16 = .ok (.aload_n 0, 1) := by decide +kernel
theorem dX1_keepsHalfSums_17 : decode mi_X1_keepsHalfSums.2.1 17 = .ok (.iload_n 1, 1) := by decide +kernel
theorem dX1_keepsHalfSums_18 : decode mi_X1_keepsHalfSums.2.1 18 = .ok (.iconst 0, 1) := by decide +kernel
theorem dX1_keepsHalfSums_19 : decode mi_X1_keepsHalfSums.2.1 19 = .ok (.aload_n 0, 1) := by decide +kernel
theorem dX1_keepsHalfSums_20 : decode mi_X1_keepsHalfSums.2.1 20 = .ok (.getfield 22, 3) := by decide +kernel
theorem dX1_keepsHalfSums_23 : decode mi_X1_keepsHalfSums.2.1 23 = .ok (.getfield 86, 3) := by decide +kernel
theorem dX1_keepsHalfSums_26 : decode mi_X1_keepsHalfSums.2.1 26 = .ok (.invokevirtual 90, 3) := by decide +kernel
theorem dX1_keepsHalfSums_29 : decode mi_X1_keepsHalfSums.2.1 29 = .ok (.ifCond .ne 5, 3) := by decide +kernel
theorem dX1_keepsHalfSums_32 : decode mi_X1_keepsHalfSums.2.1 32 = .ok (.iconst 0, 1) := by decide +kernel
theorem dX1_keepsHalfSums_33 : decode mi_X1_keepsHalfSums.2.1 33 = .ok (.ireturn, 1) := by decide +kernel
theorem dX1_keepsHalfSums_34 : decode mi_X1_keepsHalfSums.2.1 34 = .ok (.iconst 0, 1) := by decide +kernel
theorem dX1_keepsHalfSums_35 : decode mi_X1_keepsHalfSums.2.1 35 = .ok (.istore_n 2, 1) := by decide +kernel
theorem dX1_keepsHalfSums_36 : decode mi_X1_keepsHalfSums.2.1 36 = .ok (.iload_n 2, 1) := by decide +kernel
theorem dX1_keepsHalfSums_37 : decode mi_X1_keepsHalfSums.2.1 37 = .ok (.aload_n 0, 1) := by decide +kernel
theorem dX1_keepsHalfSums_38 : decode mi_X1_keepsHalfSums.2.1 38 = .ok (.getfield 22, 3) := by decide +kernel
theorem dX1_keepsHalfSums_41 : decode mi_X1_keepsHalfSums.2.1 41 = .ok (.getfield 86, 3) := by decide +kernel
theorem dX1_keepsHalfSums_44 : decode mi_X1_keepsHalfSums.2.1 44 = .ok (.if_icmp .ge 52, 3) := by decide +kernel
theorem dX1_keepsHalfSums_47 : decode mi_X1_keepsHalfSums.2.1 47 = .ok (.iconst 0, 1) := by decide +kernel
theorem dX1_keepsHalfSums_48 : decode mi_X1_keepsHalfSums.2.1 48 = .ok (.istore_n 3, 1) := by decide +kernel
theorem dX1_keepsHalfSums_49 : decode mi_X1_keepsHalfSums.2.1 49 = .ok (.iload_n 3, 1) := by decide +kernel
theorem dX1_keepsHalfSums_50 : decode mi_X1_keepsHalfSums.2.1 50 = .ok (.aload_n 0, 1) := by decide +kernel
theorem dX1_keepsHalfSums_51 : decode mi_X1_keepsHalfSums.2.1 51 = .ok (.getfield 22, 3) := by decide +kernel
theorem dX1_keepsHalfSums_54 : decode mi_X1_keepsHalfSums.2.1 54 = .ok (.getfield 86, 3) := by decide +kernel
theorem dX1_keepsHalfSums_57 : decode mi_X1_keepsHalfSums.2.1 57 = .ok (.if_icmp .ge 33, 3) := by decide +kernel
theorem dX1_keepsHalfSums_60 : decode mi_X1_keepsHalfSums.2.1 60 = .ok (.aload_n 0, 1) := by decide +kernel
theorem dX1_keepsHalfSums_61 : decode mi_X1_keepsHalfSums.2.1 61 = .ok (.getfield 26, 3) := by decide +kernel
theorem dX1_keepsHalfSums_64 : decode mi_X1_keepsHalfSums.2.1 64 = .ok (.iload_n 2, 1) := by decide +kernel
theorem dX1_keepsHalfSums_65 : decode mi_X1_keepsHalfSums.2.1 65 = .ok (.iload_n 3, 1) := by decide +kernel
theorem dX1_keepsHalfSums_66 : decode mi_X1_keepsHalfSums.2.1 66 = .ok (.invokevirtual 94, 3) := by decide +kernel
theorem dX1_keepsHalfSums_69 : decode mi_X1_keepsHalfSums.2.1 69 = .ok (.ifCond .eq 15, 3) := by decide +kernel
theorem dX1_keepsHalfSums_72 : decode mi_X1_keepsHalfSums.2.1 72 = .ok (.aload_n 0, 1) := by decide +kernel
theorem dX1_keepsHalfSums_73 : decode mi_X1_keepsHalfSums.2.1 73 = .ok (.iload_n 1, 1) := by decide +kernel
theorem dX1_keepsHalfSums_74 : decode mi_X1_keepsHalfSums.2.1 74 = .ok (.iload_n 2, 1) := by decide +kernel
theorem dX1_keepsHalfSums_75 : decode mi_X1_keepsHalfSums.2.1 75 = .ok (.iload_n 3, 1) := by decide +kernel
theorem dX1_keepsHalfSums_76 : decode mi_X1_keepsHalfSums.2.1 76 = .ok (.invokevirtual 90, 3) := by decide +kernel
theorem dX1_keepsHalfSums_79 : decode mi_X1_keepsHalfSums.2.1 79 = .ok (.ifCond .ne 5, 3) := by decide +kernel
theorem dX1_keepsHalfSums_82 : decode mi_X1_keepsHalfSums.2.1 82 = .ok (.iconst 0, 1) := by decide +kernel
theorem dX1_keepsHalfSums_83 : decode mi_X1_keepsHalfSums.2.1 83 = .ok (.ireturn, 1) := by decide +kernel
theorem dX1_keepsHalfSums_84 : decode mi_X1_keepsHalfSums.2.1 84 = .ok (.iinc 3 1, 3) := by decide +kernel
theorem dX1_keepsHalfSums_87 : decode mi_X1_keepsHalfSums.2.1 87 = .ok (.goto (-38), 3) := by decide +kernel
theorem dX1_keepsHalfSums_90 : decode mi_X1_keepsHalfSums.2.1 90 = .ok (.iinc 2 1, 3) := by decide +kernel
theorem dX1_keepsHalfSums_93 : decode mi_X1_keepsHalfSums.2.1 93 = .ok (.goto (-57), 3) := by decide +kernel
theorem dX1_keepsHalfSums_96 : decode mi_X1_keepsHalfSums.2.1 96 = .ok (.iconst 1, 1) := by decide +kernel
theorem dX1_keepsHalfSums_97 : decode mi_X1_keepsHalfSums.2.1 97 = .ok (.ireturn, 1) := by decide +kernel
theorem dX1_keepsHalfSum_0 : decode mi_X1_keepsHalfSum.2.1 0 = .ok (.iload_n 2, 1) := by decide +kernel
theorem dX1_keepsHalfSum_1 : decode mi_X1_keepsHalfSum.2.1 1 = .ok (.aload_n 0, 1) := by decide +kernel
theorem dX1_keepsHalfSum_2 : decode mi_X1_keepsHalfSum.2.1 2 = .ok (.getfield 22, 3) := by decide +kernel
theorem dX1_keepsHalfSum_5 : decode mi_X1_keepsHalfSum.2.1 5 = .ok (.iload_n 1, 1) := by decide +kernel
theorem dX1_keepsHalfSum_6 : decode mi_X1_keepsHalfSum.2.1 6 = .ok (.iload_n 2, 1) := by decide +kernel
theorem dX1_keepsHalfSum_7 : decode mi_X1_keepsHalfSum.2.1 7 = .ok (.iload_n 3, 1) := by decide +kernel
theorem dX1_keepsHalfSum_8 : decode mi_X1_keepsHalfSum.2.1 8 = .ok (.invokevirtual 97, 3) := by decide +kernel
theorem dX1_keepsHalfSum_11 : decode mi_X1_keepsHalfSum.2.1 11 = .ok (.iadd, 1) := by decide +kernel
theorem dX1_keepsHalfSum_12 : decode mi_X1_keepsHalfSum.2.1 12 = .ok (.istore 4, 2) := by decide +kernel
theorem dX1_keepsHalfSum_14 : decode mi_X1_keepsHalfSum.2.1 14 = .ok (.iload_n 3, 1) := by decide +kernel
theorem dX1_keepsHalfSum_15 : decode mi_X1_keepsHalfSum.2.1 15 = .ok (.aload_n 0, 1) := by decide +kernel
theorem dX1_keepsHalfSum_16 : decode mi_X1_keepsHalfSum.2.1 16 = .ok (.getfield 22, 3) := by decide +kernel
theorem dX1_keepsHalfSum_19 : decode mi_X1_keepsHalfSum.2.1 19 = .ok (.iload_n 1, 1) := by decide +kernel
theorem dX1_keepsHalfSum_20 : decode mi_X1_keepsHalfSum.2.1 20 = .ok (.iload_n 2, 1) := by decide +kernel
theorem dX1_keepsHalfSum_21 : decode mi_X1_keepsHalfSum.2.1 21 = .ok (.iload_n 3, 1) := by decide +kernel
theorem dX1_keepsHalfSum_22 : decode mi_X1_keepsHalfSum.2.1 22 = .ok (.invokevirtual 101, 3) := by decide +kernel
theorem dX1_keepsHalfSum_25 : decode mi_X1_keepsHalfSum.2.1 25 = .ok (.iadd, 1) := by decide +kernel
theorem dX1_keepsHalfSum_26 : decode mi_X1_keepsHalfSum.2.1 26 = .ok (.istore 5, 2) := by decide +kernel
theorem dX1_keepsHalfSum_28 : decode mi_X1_keepsHalfSum.2.1 28 = .ok (.iload 4, 2) := by decide +kernel
theorem dX1_keepsHalfSum_30 : decode mi_X1_keepsHalfSum.2.1 30 = .ok (.iconst 2, 1) := by decide +kernel
theorem dX1_keepsHalfSum_31 : decode mi_X1_keepsHalfSum.2.1 31 = .ok (.irem, 1) := by decide +kernel
theorem dX1_keepsHalfSum_32 : decode mi_X1_keepsHalfSum.2.1 32 = .ok (.ifCond .ne 32, 3) := by decide +kernel
theorem dX1_keepsHalfSum_35 : decode mi_X1_keepsHalfSum.2.1 35 = .ok (.iload 5, 2) := by decide +kernel
theorem dX1_keepsHalfSum_37 : decode mi_X1_keepsHalfSum.2.1 37 = .ok (.iconst 2, 1) := by decide +kernel
theorem dX1_keepsHalfSum_38 : decode mi_X1_keepsHalfSum.2.1 38 = .ok (.irem, 1) := by decide +kernel
theorem dX1_keepsHalfSum_39 : decode mi_X1_keepsHalfSum.2.1 39 = .ok (.ifCond .ne 25, 3) := by decide +kernel
theorem dX1_keepsHalfSum_42 : decode mi_X1_keepsHalfSum.2.1 42 = .ok (.aload_n 0, 1) := by decide +kernel
theorem dX1_keepsHalfSum_43 : decode mi_X1_keepsHalfSum.2.1 43 = .ok (.getfield 26, 3) := by decide +kernel
theorem dX1_keepsHalfSum_46 : decode mi_X1_keepsHalfSum.2.1 46 = .ok (.iload 4, 2) := by decide +kernel
theorem dX1_keepsHalfSum_48 : decode mi_X1_keepsHalfSum.2.1 48 = .ok (.iconst 2, 1) := by decide +kernel
theorem dX1_keepsHalfSum_49 : decode mi_X1_keepsHalfSum.2.1 49 = .ok (.idiv, 1) := by decide +kernel
theorem dX1_keepsHalfSum_50 : decode mi_X1_keepsHalfSum.2.1 50 = .ok (.iload 5, 2) := by decide +kernel
theorem dX1_keepsHalfSum_52 : decode mi_X1_keepsHalfSum.2.1 52 = .ok (.iconst 2, 1) := by decide +kernel
theorem dX1_keepsHalfSum_53 : decode mi_X1_keepsHalfSum.2.1 53 = .ok (.idiv, 1) := by decide +kernel
theorem dX1_keepsHalfSum_54 : decode mi_X1_keepsHalfSum.2.1 54 = .ok (.invokevirtual 94, 3) := by decide +kernel
theorem dX1_keepsHalfSum_57 : decode mi_X1_keepsHalfSum.2.1 57 = .ok (.ifCond .eq 7, 3) := by decide +kernel
theorem dX1_keepsHalfSum_60 : decode mi_X1_keepsHalfSum.2.1 60 = .ok (.iconst 1, 1) := by decide +kernel
theorem dX1_keepsHalfSum_61 : decode mi_X1_keepsHalfSum.2.1 61 = .ok (.goto 4, 3) := by decide +kernel
theorem dX1_keepsHalfSum_64 : decode mi_X1_keepsHalfSum.2.1 64 = .ok (.iconst 0, 1) := by decide +kernel
theorem dX1_keepsHalfSum_65 : decode mi_X1_keepsHalfSum.2.1 65 = .ok (.ireturn, 1) := by decide +kernel
theorem dX1_typeNumber_0 : decode mi_X1_typeNumber.2.1 0 = .ok (.aload_n 0, 1) := by decide +kernel
theorem dX1_typeNumber_1 : decode mi_X1_typeNumber.2.1 1 = .ok (.invokevirtual 104, 3) := by decide +kernel
theorem dX1_typeNumber_4 : decode mi_X1_typeNumber.2.1 4 = .ok (.istore_n 1, 1) := by decide +kernel
theorem dX1_typeNumber_5 : decode mi_X1_typeNumber.2.1 5 = .ok (.aload_n 0, 1) := by decide +kernel
theorem dX1_typeNumber_6 : decode mi_X1_typeNumber.2.1 6 = .ok (.invokevirtual 107, 3) := by decide +kernel
theorem dX1_typeNumber_9 : decode mi_X1_typeNumber.2.1 9 = .ok (.tableswitch 54 1 4 #[31, 37, 43, 48], 31) := by decide +kernel
theorem dX1_typeNumber_40 : decode mi_X1_typeNumber.2.1 40 = .ok (.aload_n 0, 1) := by decide +kernel
theorem dX1_typeNumber_41 : decode mi_X1_typeNumber.2.1 41 = .ok (.iload_n 1, 1) := by decide +kernel
theorem dX1_typeNumber_42 : decode mi_X1_typeNumber.2.1 42 = .ok (.invokevirtual 110, 3) := by decide +kernel
theorem dX1_typeNumber_45 : decode mi_X1_typeNumber.2.1 45 = .ok (.ireturn, 1) := by decide +kernel
theorem dX1_typeNumber_46 : decode mi_X1_typeNumber.2.1 46 = .ok (.aload_n 0, 1) := by decide +kernel
theorem dX1_typeNumber_47 : decode mi_X1_typeNumber.2.1 47 = .ok (.iload_n 1, 1) := by decide +kernel
theorem dX1_typeNumber_48 : decode mi_X1_typeNumber.2.1 48 = .ok (.invokevirtual 113, 3) := by decide +kernel
theorem dX1_typeNumber_51 : decode mi_X1_typeNumber.2.1 51 = .ok (.ireturn, 1) := by decide +kernel
theorem dX1_typeNumber_52 : decode mi_X1_typeNumber.2.1 52 = .ok (.aload_n 0, 1) := by decide +kernel
theorem dX1_typeNumber_53 : decode mi_X1_typeNumber.2.1 53 = .ok (.invokevirtual 116, 3) := by decide +kernel
theorem dX1_typeNumber_56 : decode mi_X1_typeNumber.2.1 56 = .ok (.ireturn, 1) := by decide +kernel
theorem dX1_typeNumber_57 : decode mi_X1_typeNumber.2.1 57 = .ok (.aload_n 0, 1) := by decide +kernel
theorem dX1_typeNumber_58 : decode mi_X1_typeNumber.2.1 58 = .ok (.iload_n 1, 1) := by decide +kernel
theorem dX1_typeNumber_59 : decode mi_X1_typeNumber.2.1 59 = .ok (.invokevirtual 119, 3) := by decide +kernel
theorem dX1_typeNumber_62 : decode mi_X1_typeNumber.2.1 62 = .ok (.ireturn, 1) := by decide +kernel
theorem dX1_typeNumber_63 : decode mi_X1_typeNumber.2.1 63 = .ok (.aload_n 0, 1) := by decide +kernel
theorem dX1_typeNumber_64 : decode mi_X1_typeNumber.2.1 64 = .ok (.invokevirtual 122, 3) := by decide +kernel
theorem dX1_typeNumber_67 : decode mi_X1_typeNumber.2.1 67 = .ok (.ifCond .eq 8, 3) := by decide +kernel
theorem dX1_typeNumber_70 : decode mi_X1_typeNumber.2.1 70 = .ok (.bipush 16, 2) := by decide +kernel
theorem dX1_typeNumber_72 : decode mi_X1_typeNumber.2.1 72 = .ok (.goto 5, 3) := by decide +kernel
theorem dX1_typeNumber_75 : decode mi_X1_typeNumber.2.1 75 = .ok (.bipush 15, 2) := by decide +kernel
theorem dX1_typeNumber_77 : decode mi_X1_typeNumber.2.1 77 = .ok (.ireturn, 1) := by decide +kernel
theorem dX1_typeWithoutTurns_0 : decode mi_X1_typeWithoutTurns.2.1 0 = .ok (.aload_n 0, 1) := by decide +kernel
theorem dX1_typeWithoutTurns_1 : decode mi_X1_typeWithoutTurns.2.1 1 = .ok (.invokevirtual 122, 3) := by decide +kernel
theorem dX1_typeWithoutTurns_4 : decode mi_X1_typeWithoutTurns.2.1 4 = .ok (.ifCond .ne 5, 3) := by decide +kernel
theorem dX1_typeWithoutTurns_7 : decode mi_X1_typeWithoutTurns.2.1 7 = .ok (.iconst 0, 1) := by decide +kernel
theorem dX1_typeWithoutTurns_8 : decode mi_X1_typeWithoutTurns.2.1 8 = .ok (.ireturn, 1) := by decide +kernel
theorem dX1_typeWithoutTurns_9 : decode mi_X1_typeWithoutTurns.2.1 9 = .ok (.iload_n 1, 1) := by decide +kernel
theorem dX1_typeWithoutTurns_10 : decode mi_X1_typeWithoutTurns.2.1 10 = .ok (.ifCond .ne 5, 3) := by decide +kernel
theorem dX1_typeWithoutTurns_13 : decode mi_X1_typeWithoutTurns.2.1 13 = .ok (.iconst 1, 1) := by decide +kernel
theorem dX1_typeWithoutTurns_14 : decode mi_X1_typeWithoutTurns.2.1 14 = .ok (.ireturn, 1) := by decide +kernel
theorem dX1_typeWithoutTurns_15 : decode mi_X1_typeWithoutTurns.2.1 15 = .ok (.aload_n 0, 1) := by decide +kernel
theorem dX1_typeWithoutTurns_16 : decode mi_X1_typeWithoutTurns.2.1 16 = .ok (.invokevirtual 126, 3) := by decide +kernel
theorem dX1_typeWithoutTurns_19 : decode mi_X1_typeWithoutTurns.2.1 19 = .ok (.ifCond .eq 7, 3) := by decide +kernel
theorem dX1_typeWithoutTurns_22 : decode mi_X1_typeWithoutTurns.2.1 22 = .ok (.iconst 2, 1) := by decide +kernel
theorem dX1_typeWithoutTurns_23 : decode mi_X1_typeWithoutTurns.2.1 23 = .ok (.goto 4, 3) := by decide +kernel
theorem dX1_typeWithoutTurns_26 : decode mi_X1_typeWithoutTurns.2.1 26 = .ok (.iconst 3, 1) := by decide +kernel
theorem dX1_typeWithoutTurns_27 : decode mi_X1_typeWithoutTurns.2.1 27 = .ok (.ireturn, 1) := by decide +kernel
theorem dX1_typeWithHalfTurns_0 : decode mi_X1_typeWithHalfTurns.2.1 0 = .ok (.aload_n 0, 1) := by decide +kernel
theorem dX1_typeWithHalfTurns_1 : decode mi_X1_typeWithHalfTurns.2.1 1 = .ok (.invokevirtual 122, 3) := by decide +kernel
theorem dX1_typeWithHalfTurns_4 : decode mi_X1_typeWithHalfTurns.2.1 4 = .ok (.ifCond .ne 5, 3) := by decide +kernel
theorem dX1_typeWithHalfTurns_7 : decode mi_X1_typeWithHalfTurns.2.1 7 = .ok (.iconst 4, 1) := by decide +kernel
theorem dX1_typeWithHalfTurns_8 : decode mi_X1_typeWithHalfTurns.2.1 8 = .ok (.ireturn, 1) := by decide +kernel
theorem dX1_typeWithHalfTurns_9 : decode mi_X1_typeWithHalfTurns.2.1 9 = .ok (.iload_n 1, 1) := by decide +kernel
theorem dX1_typeWithHalfTurns_10 : decode mi_X1_typeWithHalfTurns.2.1 10 = .ok (.ifCond .ne 5, 3) := by decide +kernel
theorem dX1_typeWithHalfTurns_13 : decode mi_X1_typeWithHalfTurns.2.1 13 = .ok (.iconst 5, 1) := by decide +kernel
theorem dX1_typeWithHalfTurns_14 : decode mi_X1_typeWithHalfTurns.2.1 14 = .ok (.ireturn, 1) := by decide +kernel
theorem dX1_typeWithHalfTurns_15 : decode mi_X1_typeWithHalfTurns.2.1 15 = .ok (.iload_n 1, 1) := by decide +kernel
theorem dX1_typeWithHalfTurns_16 : decode mi_X1_typeWithHalfTurns.2.1 16 = .ok (.iconst 1, 1) := by decide +kernel
theorem dX1_typeWithHalfTurns_17 : decode mi_X1_typeWithHalfTurns.2.1 17 = .ok (.if_icmp .ne 6, 3) := by decide +kernel
theorem dX1_typeWithHalfTurns_20 : decode mi_X1_typeWithHalfTurns.2.1 20 = .ok (.bipush 6, 2) := by decide +kernel
theorem dX1_typeWithHalfTurns_22 : decode mi_X1_typeWithHalfTurns.2.1 22 = .ok (.ireturn, 1) := by decide +kernel
theorem dX1_typeWithHalfTurns_23 : decode mi_X1_typeWithHalfTurns.2.1 23 = .ok (.aload_n 0, 1) := by decide +kernel
theorem dX1_typeWithHalfTurns_24 : decode mi_X1_typeWithHalfTurns.2.1 24 = .ok (.invokevirtual 126, 3) := by decide +kernel
theorem dX1_typeWithHalfTurns_27 : decode mi_X1_typeWithHalfTurns.2.1 27 = .ok (.ifCond .eq 8, 3) := by decide +kernel
theorem dX1_typeWithHalfTurns_30 : decode mi_X1_typeWithHalfTurns.2.1 30 = .ok (.bipush 7, 2) := by decide +kernel
theorem dX1_typeWithHalfTurns_32 : decode mi_X1_typeWithHalfTurns.2.1 32 = .ok (.goto 5, 3) := by decide +kernel
theorem dX1_typeWithHalfTurns_35 : decode mi_X1_typeWithHalfTurns.2.1 35 = .ok (.bipush 8, 2) := by decide +kernel
theorem dX1_typeWithHalfTurns_37 : decode mi_X1_typeWithHalfTurns.2.1 37 = .ok (.ireturn, 1) := by decide +kernel
theorem dX1_typeWithThirdTurns_0 : decode mi_X1_typeWithThirdTurns.2.1 0 = .ok (.aload_n 0, 1) := by decide +kernel
theorem dX1_typeWithThirdTurns_1 : decode mi_X1_typeWithThirdTurns.2.1 1 = .ok (.invokevirtual 122, 3) := by decide +kernel
theorem dX1_typeWithThirdTurns_4 : decode mi_X1_typeWithThirdTurns.2.1 4 = .ok (.ifCond .ne 6, 3) := by decide +kernel
theorem dX1_typeWithThirdTurns_7 : decode mi_X1_typeWithThirdTurns.2.1 7 = .ok (.bipush 9, 2) := by decide +kernel
theorem dX1_typeWithThirdTurns_9 : decode mi_X1_typeWithThirdTurns.2.1 9 = .ok (.ireturn, 1) := by decide +kernel
theorem dX1_typeWithThirdTurns_10 : decode mi_X1_typeWithThirdTurns.2.1 10 = .ok (.aload_n 0, 1) := by decide +kernel
theorem dX1_typeWithThirdTurns_11 : decode mi_X1_typeWithThirdTurns.2.1 11 = .ok (.invokevirtual 129, 3) := by decide +kernel
theorem dX1_typeWithThirdTurns_14 : decode mi_X1_typeWithThirdTurns.2.1 14 = .ok (.ifCond .eq 8, 3) := by decide +kernel
theorem dX1_typeWithThirdTurns_17 : decode mi_X1_typeWithThirdTurns.2.1 17 = .ok (.bipush 10, 2) := by decide +kernel
theorem dX1_typeWithThirdTurns_19 : decode mi_X1_typeWithThirdTurns.2.1 19 = .ok (.goto 5, 3) := by decide +kernel
theorem dX1_typeWithThirdTurns_22 : decode mi_X1_typeWithThirdTurns.2.1 22 = .ok (.bipush 11, 2) := by decide +kernel
theorem dX1_typeWithThirdTurns_24 : decode mi_X1_typeWithThirdTurns.2.1 24 = .ok (.ireturn, 1) := by decide +kernel
theorem dX1_typeWithQuarterTurns_0 : decode mi_X1_typeWithQuarterTurns.2.1 0 = .ok (.aload_n 0, 1) := by decide +kernel
theorem dX1_typeWithQuarterTurns_1 : decode mi_X1_typeWithQuarterTurns.2.1 1 = .ok (.invokevirtual 122, 3) := by decide +kernel
theorem dX1_typeWithQuarterTurns_4 : decode mi_X1_typeWithQuarterTurns.2.1 4 = .ok (.ifCond .ne 6, 3) := by decide +kernel
theorem dX1_typeWithQuarterTurns_7 : decode mi_X1_typeWithQuarterTurns.2.1 7 = .ok (.bipush 12, 2) := by decide +kernel
theorem dX1_typeWithQuarterTurns_9 : decode mi_X1_typeWithQuarterTurns.2.1 9 = .ok (.ireturn, 1) := by decide +kernel
theorem dX1_typeWithQuarterTurns_10 : decode mi_X1_typeWithQuarterTurns.2.1 10 = .ok (.iload_n 1, 1) := by decide +kernel
theorem dX1_typeWithQuarterTurns_11 : decode mi_X1_typeWithQuarterTurns.2.1 11 = .ok (.iconst 4, 1) := by decide +kernel
theorem dX1_typeWithQuarterTurns_12 : decode mi_X1_typeWithQuarterTurns.2.1 12 = .ok (.if_icmp .ge 8, 3) := by decide +kernel
theorem dX1_typeWithQuarterTurns_15 : decode mi_X1_typeWithQuarterTurns.2.1 15 = .ok (.bipush 13, 2) := by decide +kernel
theorem dX1_typeWithQuarterTurns_17 : decode mi_X1_typeWithQuarterTurns.2.1 17 = .ok (.goto 5, 3) := by decide +kernel
theorem dX1_typeWithQuarterTurns_20 : decode mi_X1_typeWithQuarterTurns.2.1 20 = .ok (.bipush 14, 2) := by decide +kernel
theorem dX1_typeWithQuarterTurns_22 : decode mi_X1_typeWithQuarterTurns.2.1 22 = .ok (.ireturn, 1) := by decide +kernel
theorem dX1_fixesShortestVector_0 : decode mi_X1_fixesShortestVector.2.1 0 = .ok (.aload_n 0, 1) := by decide +kernel
theorem dX1_fixesShortestVector_1 : decode mi_X1_fixesShortestVector.2.1 1 = .ok (.getfield 22, 3) := by decide +kernel
theorem dX1_fixesShortestVector_4 : decode mi_X1_fixesShortestVector.2.1 4 = .ok (.getfield 86, 3) := by decide +kernel
theorem dX1_fixesShortestVector_7 : decode mi_X1_fixesShortestVector.2.1 7 = .ok (.istore_n 1, 1) := by decide +kernel
end
section
theorem dX1_fixesShortestVector_8 : decode mi_X1_fixesShortestVector.2.1 8 = .ok (.aload_n 0, 1) := by decide +kernel
theorem dX1_fixesShortestVector_9 : decode mi_X1_fixesShortestVector.2.1 9 = .ok (.invokevirtual 132, 3) := by decide +kernel
theorem dX1_fixesShortestVector_12 : decode mi_X1_fixesShortestVector.2.1 12 = .ok (.istore_n 2, 1) := by decide +kernel
theorem dX1_fixesShortestVector_13 : decode mi_X1_fixesShortestVector.2.1 13 = .ok (.iload_n 1, 1) := by decide +kernel
theorem dX1_fixesShortestVector_14 : decode mi_X1_fixesShortestVector.2.1 14 = .ok (.ineg, 1) := by decide +kernel
theorem dX1_fixesShortestVector_15 : decode mi_X1_fixesShortestVector.2.1 15 = .ok (.istore_n 3, 1) := by decide +kernel
theorem dX1_fixesShortestVector_16 : decode mi_X1_fixesShortestVector.2.1 16 = .ok (.iload_n 3, 1) := by decide +kernel
theorem dX1_fixesShortestVector_17 : decode mi_X1_fixesShortestVector.2.1 17 = .ok (.iload_n 1, 1) := by decide +kernel
theorem dX1_fixesShortestVector_18 : decode mi_X1_fixesShortestVector.2.1 18 = .ok (.if_icmp .gt 60, 3) := by decide +kernel
theorem dX1_fixesShortestVector_21 : decode mi_X1_fixesShortestVector.2.1 21 = .ok (.iload_n 1, 1) := by decide +kernel
theorem dX1_fixesShortestVector_22 : decode mi_X1_fixesShortestVector.2.1 22 = .ok (.ineg, 1) := by decide +kernel
theorem dX1_fixesShortestVector_23 : decode mi_X1_fixesShortestVector.2.1 23 = .ok (.istore 4, 2) := by decide +kernel
theorem dX1_fixesShortestVector_25 : decode mi_X1_fixesShortestVector.2.1 25 = .ok (.iload 4, 2) := by decide +kernel
theorem dX1_fixesShortestVector_27 : decode mi_X1_fixesShortestVector.2.1 27 = .ok (.iload_n 1, 1) := by decide +kernel
theorem dX1_fixesShortestVector_28 : decode mi_X1_fixesShortestVector.2.1 28 = .ok (.if_icmp .gt 44, 3) := by decide +kernel
theorem dX1_fixesShortestVector_31 : decode mi_X1_fixesShortestVector.2.1 31 = .ok (.iload_n 3, 1) := by decide +kernel
theorem dX1_fixesShortestVector_32 : decode mi_X1_fixesShortestVector.2.1 32 = .ok (.iload 4, 2) := by decide +kernel
theorem dX1_fixesShortestVector_34 : decode mi_X1_fixesShortestVector.2.1 34 = .ok (.invokestatic 135, 3) := by decide +kernel
theorem dX1_fixesShortestVector_37 : decode mi_X1_fixesShortestVector.2.1 37 = .ok (.iload_n 2, 1) := by decide +kernel
theorem dX1_fixesShortestVector_38 : decode mi_X1_fixesShortestVector.2.1 38 = .ok (.if_icmp .ne 28, 3) := by decide +kernel
theorem dX1_fixesShortestVector_41 : decode mi_X1_fixesShortestVector.2.1 41 = .ok (.aload_n 0, 1) := by decide +kernel
theorem dX1_fixesShortestVector_42 : decode mi_X1_fixesShortestVector.2.1 42 = .ok (.getfield 26, 3) := by decide +kernel
theorem dX1_fixesShortestVector_45 : decode mi_X1_fixesShortestVector.2.1 45 = .ok (.iload_n 3, 1) := by decide +kernel
theorem dX1_fixesShortestVector_46 : decode mi_X1_fixesShortestVector.2.1 46 = .ok (.iload 4, 2) := by decide +kernel
theorem dX1_fixesShortestVector_48 : decode mi_X1_fixesShortestVector.2.1 48 = .ok (.invokevirtual 94, 3) := by decide +kernel
theorem dX1_fixesShortestVector_51 : decode mi_X1_fixesShortestVector.2.1 51 = .ok (.ifCond .eq 15, 3) := by decide +kernel
theorem dX1_fixesShortestVector_54 : decode mi_X1_fixesShortestVector.2.1 54 = .ok (.aload_n 0, 1) := by decide +kernel
theorem dX1_fixesShortestVector_55 : decode mi_X1_fixesShortestVector.2.1 55 = .ok (.iload_n 3, 1) := by decide +kernel
theorem dX1_fixesShortestVector_56 : decode mi_X1_fixesShortestVector.2.1 56 = .ok (.iload 4, 2) := by decide +kernel
theorem dX1_fixesShortestVector_58 : decode mi_X1_fixesShortestVector.2.1 58 = .ok (.invokevirtual 138, 3) := by decide +kernel
theorem dX1_fixesShortestVector_61 : decode mi_X1_fixesShortestVector.2.1 61 = .ok (.ifCond .eq 5, 3) := by decide +kernel
theorem dX1_fixesShortestVector_64 : decode mi_X1_fixesShortestVector.2.1 64 = .ok (.iconst 1, 1) := by decide +kernel
theorem dX1_fixesShortestVector_65 : decode mi_X1_fixesShortestVector.2.1 65 = .ok (.ireturn, 1) := by decide +kernel
theorem dX1_fixesShortestVector_66 : decode mi_X1_fixesShortestVector.2.1 66 = .ok (.iinc 4 1, 3) := by decide +kernel
theorem dX1_fixesShortestVector_69 : decode mi_X1_fixesShortestVector.2.1 69 = .ok (.goto (-44), 3) := by decide +kernel
theorem dX1_fixesShortestVector_72 : decode mi_X1_fixesShortestVector.2.1 72 = .ok (.iinc 3 1, 3) := by decide +kernel
theorem dX1_fixesShortestVector_75 : decode mi_X1_fixesShortestVector.2.1 75 = .ok (.goto (-59), 3) := by decide +kernel
theorem dX1_fixesShortestVector_78 : decode mi_X1_fixesShortestVector.2.1 78 = .ok (.iconst 0, 1) := by decide +kernel
theorem dX1_fixesShortestVector_79 : decode mi_X1_fixesShortestVector.2.1 79 = .ok (.ireturn, 1) := by decide +kernel
theorem dX1_leastSquaredLength_0 : decode mi_X1_leastSquaredLength.2.1 0 = .ok (.aload_n 0, 1) := by decide +kernel
theorem dX1_leastSquaredLength_1 : decode mi_X1_leastSquaredLength.2.1 1 = .ok (.getfield 22, 3) := by decide +kernel
theorem dX1_leastSquaredLength_4 : decode mi_X1_leastSquaredLength.2.1 4 = .ok (.getfield 86, 3) := by decide +kernel
theorem dX1_leastSquaredLength_7 : decode mi_X1_leastSquaredLength.2.1 7 = .ok (.istore_n 1, 1) := by decide +kernel
theorem dX1_leastSquaredLength_8 : decode mi_X1_leastSquaredLength.2.1 8 = .ok (.iload_n 1, 1) := by decide +kernel
theorem dX1_leastSquaredLength_9 : decode mi_X1_leastSquaredLength.2.1 9 = .ok (.iconst 0, 1) := by decide +kernel
theorem dX1_leastSquaredLength_10 : decode mi_X1_leastSquaredLength.2.1 10 = .ok (.invokestatic 135, 3) := by decide +kernel
theorem dX1_leastSquaredLength_13 : decode mi_X1_leastSquaredLength.2.1 13 = .ok (.istore_n 2, 1) := by decide +kernel
theorem dX1_leastSquaredLength_14 : decode mi_X1_leastSquaredLength.2.1 14 = .ok (.iload_n 1, 1) := by decide +kernel
theorem dX1_leastSquaredLength_15 : decode mi_X1_leastSquaredLength.2.1 15 = .ok (.ineg, 1) := by decide +kernel
theorem dX1_leastSquaredLength_16 : decode mi_X1_leastSquaredLength.2.1 16 = .ok (.istore_n 3, 1) := by decide +kernel
theorem dX1_leastSquaredLength_17 : decode mi_X1_leastSquaredLength.2.1 17 = .ok (.iload_n 3, 1) := by decide +kernel
theorem dX1_leastSquaredLength_18 : decode mi_X1_leastSquaredLength.2.1 18 = .ok (.iload_n 1, 1) := by decide +kernel
theorem dX1_leastSquaredLength_19 : decode mi_X1_leastSquaredLength.2.1 19 = .ok (.if_icmp .gt 60, 3) := by decide +kernel
theorem dX1_leastSquaredLength_22 : decode mi_X1_leastSquaredLength.2.1 22 = .ok (.iload_n 1, 1) := by decide +kernel
theorem dX1_leastSquaredLength_23 : decode mi_X1_leastSquaredLength.2.1 23 = .ok (.ineg, 1) := by decide +kernel
theorem dX1_leastSquaredLength_24 : decode mi_X1_leastSquaredLength.2.1 24 = .ok (.istore 4, 2) := by decide +kernel
theorem dX1_leastSquaredLength_26 : decode mi_X1_leastSquaredLength.2.1 26 = .ok (.iload 4, 2) := by decide +kernel
theorem dX1_leastSquaredLength_28 : decode mi_X1_leastSquaredLength.2.1 28 = .ok (.iload_n 1, 1) := by decide +kernel
theorem dX1_leastSquaredLength_29 : decode mi_X1_leastSquaredLength.2.1 29 = .ok (.if_icmp .gt 44, 3) := by decide +kernel
theorem dX1_leastSquaredLength_32 : decode mi_X1_leastSquaredLength.2.1 32 = .ok (.iload_n 3, 1) := by decide +kernel
theorem dX1_leastSquaredLength_33 : decode mi_X1_leastSquaredLength.2.1 33 = .ok (.iload 4, 2) := by decide +kernel
theorem dX1_leastSquaredLength_35 : decode mi_X1_leastSquaredLength.2.1 35 = .ok (.invokestatic 135, 3) := by decide +kernel
theorem dX1_leastSquaredLength_38 : decode mi_X1_leastSquaredLength.2.1 38 = .ok (.istore 5, 2) := by decide +kernel
theorem dX1_leastSquaredLength_40 : decode mi_X1_leastSquaredLength.2.1 40 = .ok (.iload 5, 2) := by decide +kernel
theorem dX1_leastSquaredLength_42 : decode mi_X1_leastSquaredLength.2.1 42 = .ok (.ifCond .le 25, 3) := by decide +kernel
theorem dX1_leastSquaredLength_45 : decode mi_X1_leastSquaredLength.2.1 45 = .ok (.iload 5, 2) := by decide +kernel
theorem dX1_leastSquaredLength_47 : decode mi_X1_leastSquaredLength.2.1 47 = .ok (.iload_n 2, 1) := by decide +kernel
theorem dX1_leastSquaredLength_48 : decode mi_X1_leastSquaredLength.2.1 48 = .ok (.if_icmp .ge 19, 3) := by decide +kernel
theorem dX1_leastSquaredLength_51 : decode mi_X1_leastSquaredLength.2.1 51 = .ok (.aload_n 0, 1) := by decide +kernel
theorem dX1_leastSquaredLength_52 : decode mi_X1_leastSquaredLength.2.1 52 = .ok (.getfield 26, 3) := by decide +kernel
theorem dX1_leastSquaredLength_55 : decode mi_X1_leastSquaredLength.2.1 55 = .ok (.iload_n 3, 1) := by decide +kernel
theorem dX1_leastSquaredLength_56 : decode mi_X1_leastSquaredLength.2.1 56 = .ok (.iload 4, 2) := by decide +kernel
theorem dX1_leastSquaredLength_58 : decode mi_X1_leastSquaredLength.2.1 58 = .ok (.invokevirtual 94, 3) := by decide +kernel
theorem dX1_leastSquaredLength_61 : decode mi_X1_leastSquaredLength.2.1 61 = .ok (.ifCond .eq 6, 3) := by decide +kernel
theorem dX1_leastSquaredLength_64 : decode mi_X1_leastSquaredLength.2.1 64 = .ok (.iload 5, 2) := by decide +kernel
theorem dX1_leastSquaredLength_66 : decode mi_X1_leastSquaredLength.2.1 66 = .ok (.istore_n 2, 1) := by decide +kernel
theorem dX1_leastSquaredLength_67 : decode mi_X1_leastSquaredLength.2.1 67 = .ok (.iinc 4 1, 3) := by decide +kernel
theorem dX1_leastSquaredLength_70 : decode mi_X1_leastSquaredLength.2.1 70 = .ok (.goto (-44), 3) := by decide +kernel
theorem dX1_leastSquaredLength_73 : decode mi_X1_leastSquaredLength.2.1 73 = .ok (.iinc 3 1, 3) := by decide +kernel
theorem dX1_leastSquaredLength_76 : decode mi_X1_leastSquaredLength.2.1 76 = .ok (.goto (-59), 3) := by decide +kernel
theorem dX1_leastSquaredLength_79 : decode mi_X1_leastSquaredLength.2.1 79 = .ok (.iload_n 2, 1) := by decide +kernel
theorem dX1_leastSquaredLength_80 : decode mi_X1_leastSquaredLength.2.1 80 = .ok (.ireturn, 1) := by decide +kernel
theorem dX1_squaredLength_0 : decode mi_X1_squaredLength.2.1 0 = .ok (.iload_n 0, 1) := by decide +kernel
theorem dX1_squaredLength_1 : decode mi_X1_squaredLength.2.1 1 = .ok (.iload_n 0, 1) := by decide +kernel
theorem dX1_squaredLength_2 : decode mi_X1_squaredLength.2.1 2 = .ok (.imul, 1) := by decide +kernel
theorem dX1_squaredLength_3 : decode mi_X1_squaredLength.2.1 3 = .ok (.iload_n 0, 1) := by decide +kernel
theorem dX1_squaredLength_4 : decode mi_X1_squaredLength.2.1 4 = .ok (.iload_n 1, 1) := by decide +kernel
theorem dX1_squaredLength_5 : decode mi_X1_squaredLength.2.1 5 = .ok (.imul, 1) := by decide +kernel
theorem dX1_squaredLength_6 : decode mi_X1_squaredLength.2.1 6 = .ok (.iadd, 1) := by decide +kernel
theorem dX1_squaredLength_7 : decode mi_X1_squaredLength.2.1 7 = .ok (.iload_n 1, 1) := by decide +kernel
theorem dX1_squaredLength_8 : decode mi_X1_squaredLength.2.1 8 = .ok (.iload_n 1, 1) := by decide +kernel
theorem dX1_squaredLength_9 : decode mi_X1_squaredLength.2.1 9 = .ok (.imul, 1) := by decide +kernel
theorem dX1_squaredLength_10 : decode mi_X1_squaredLength.2.1 10 = .ok (.iadd, 1) := by decide +kernel
theorem dX1_squaredLength_11 : decode mi_X1_squaredLength.2.1 11 = .ok (.ireturn, 1) := by decide +kernel
theorem dX1_isFixedByReversal_0 : decode mi_X1_isFixedByReversal.2.1 0 = .ok (.aload_n 0, 1) := by decide +kernel
theorem dX1_isFixedByReversal_1 : decode mi_X1_isFixedByReversal.2.1 1 = .ok (.getfield 22, 3) := by decide +kernel
theorem dX1_isFixedByReversal_4 : decode mi_X1_isFixedByReversal.2.1 4 = .ok (.invokevirtual 64, 3) := by decide +kernel
theorem dX1_isFixedByReversal_7 : decode mi_X1_isFixedByReversal.2.1 7 = .ok (.istore_n 3, 1) := by decide +kernel
theorem dX1_isFixedByReversal_8 : decode mi_X1_isFixedByReversal.2.1 8 = .ok (.iload_n 3, 1) := by decide +kernel
theorem dX1_isFixedByReversal_9 : decode mi_X1_isFixedByReversal.2.1 9 = .ok (.aload_n 0, 1) := by decide +kernel
theorem dX1_isFixedByReversal_10 : decode mi_X1_isFixedByReversal.2.1 10 = .ok (.getfield 22, 3) := by decide +kernel
theorem dX1_isFixedByReversal_13 : decode mi_X1_isFixedByReversal.2.1 13 = .ok (.invokevirtual 80, 3) := by decide +kernel
theorem dX1_isFixedByReversal_16 : decode mi_X1_isFixedByReversal.2.1 16 = .ok (.if_icmp .ge 47, 3) := by decide +kernel
theorem dX1_isFixedByReversal_19 : decode mi_X1_isFixedByReversal.2.1 19 = .ok (.aload_n 0, 1) := by decide +kernel
theorem dX1_isFixedByReversal_20 : decode mi_X1_isFixedByReversal.2.1 20 = .ok (.iload_n 3, 1) := by decide +kernel
theorem dX1_isFixedByReversal_21 : decode mi_X1_isFixedByReversal.2.1 21 = .ok (.invokevirtual 67, 3) := by decide +kernel
theorem dX1_isFixedByReversal_24 : decode mi_X1_isFixedByReversal.2.1 24 = .ok (.ifCond .eq 33, 3) := by decide +kernel
theorem dX1_isFixedByReversal_27 : decode mi_X1_isFixedByReversal.2.1 27 = .ok (.aload_n 0, 1) := by decide +kernel
theorem dX1_isFixedByReversal_28 : decode mi_X1_isFixedByReversal.2.1 28 = .ok (.getfield 22, 3) := by decide +kernel
theorem dX1_isFixedByReversal_31 : decode mi_X1_isFixedByReversal.2.1 31 = .ok (.iload_n 3, 1) := by decide +kernel
theorem dX1_isFixedByReversal_32 : decode mi_X1_isFixedByReversal.2.1 32 = .ok (.iload_n 1, 1) := by decide +kernel
theorem dX1_isFixedByReversal_33 : decode mi_X1_isFixedByReversal.2.1 33 = .ok (.iload_n 2, 1) := by decide +kernel
theorem dX1_isFixedByReversal_34 : decode mi_X1_isFixedByReversal.2.1 34 = .ok (.invokevirtual 97, 3) := by decide +kernel
theorem dX1_isFixedByReversal_37 : decode mi_X1_isFixedByReversal.2.1 37 = .ok (.iload_n 1, 1) := by decide +kernel
theorem dX1_isFixedByReversal_38 : decode mi_X1_isFixedByReversal.2.1 38 = .ok (.if_icmp .ne 19, 3) := by decide +kernel
theorem dX1_isFixedByReversal_41 : decode mi_X1_isFixedByReversal.2.1 41 = .ok (.aload_n 0, 1) := by decide +kernel
theorem dX1_isFixedByReversal_42 : decode mi_X1_isFixedByReversal.2.1 42 = .ok (.getfield 22, 3) := by decide +kernel
theorem dX1_isFixedByReversal_45 : decode mi_X1_isFixedByReversal.2.1 45 = .ok (.iload_n 3, 1) := by decide +kernel
theorem dX1_isFixedByReversal_46 : decode mi_X1_isFixedByReversal.2.1 46 = .ok (.iload_n 1, 1) := by decide +kernel
theorem dX1_isFixedByReversal_47 : decode mi_X1_isFixedByReversal.2.1 47 = .ok (.iload_n 2, 1) := by decide +kernel
theorem dX1_isFixedByReversal_48 : decode mi_X1_isFixedByReversal.2.1 48 = .ok (.invokevirtual 101, 3) := by decide +kernel
theorem dX1_isFixedByReversal_51 : decode mi_X1_isFixedByReversal.2.1 51 = .ok (.iload_n 2, 1) := by decide +kernel
theorem dX1_isFixedByReversal_52 : decode mi_X1_isFixedByReversal.2.1 52 = .ok (.if_icmp .ne 5, 3) := by decide +kernel
theorem dX1_isFixedByReversal_55 : decode mi_X1_isFixedByReversal.2.1 55 = .ok (.iconst 1, 1) := by decide +kernel
theorem dX1_isFixedByReversal_56 : decode mi_X1_isFixedByReversal.2.1 56 = .ok (.ireturn, 1) := by decide +kernel
theorem dX1_isFixedByReversal_57 : decode mi_X1_isFixedByReversal.2.1 57 = .ok (.iinc 3 1, 3) := by decide +kernel
theorem dX1_isFixedByReversal_60 : decode mi_X1_isFixedByReversal.2.1 60 = .ok (.goto (-52), 3) := by decide +kernel
theorem dX1_isFixedByReversal_63 : decode mi_X1_isFixedByReversal.2.1 63 = .ok (.iconst 0, 1) := by decide +kernel
theorem dX1_isFixedByReversal_64 : decode mi_X1_isFixedByReversal.2.1 64 = .ok (.ireturn, 1) := by decide +kernel
theorem dX2_has_0 : decode mi_X2_has.2.1 0 = .ok (.iload_n 1, 1) := by decide +kernel
theorem dX2_has_1 : decode mi_X2_has.2.1 1 = .ok (.aload_n 0, 1) := by decide +kernel
theorem dX2_has_2 : decode mi_X2_has.2.1 2 = .ok (.getfield 15, 3) := by decide +kernel
theorem dX2_has_5 : decode mi_X2_has.2.1 5 = .ok (.invokestatic 19, 3) := by decide +kernel
theorem dX2_has_8 : decode mi_X2_has.2.1 8 = .ok (.ireturn, 1) := by decide +kernel
theorem dX2_isFull_0 : decode mi_X2_isFull.2.1 0 = .ok (.aload_n 0, 1) := by decide +kernel
theorem dX2_isFull_1 : decode mi_X2_isFull.2.1 1 = .ok (.getfield 15, 3) := by decide +kernel
theorem dX2_isFull_4 : decode mi_X2_isFull.2.1 4 = .ok (.iconst 4, 1) := by decide +kernel
theorem dX2_isFull_5 : decode mi_X2_isFull.2.1 5 = .ok (.if_icmp .lt 7, 3) := by decide +kernel
theorem dX2_isFull_8 : decode mi_X2_isFull.2.1 8 = .ok (.iconst 1, 1) := by decide +kernel
theorem dX2_isFull_9 : decode mi_X2_isFull.2.1 9 = .ok (.goto 4, 3) := by decide +kernel
theorem dX2_isFull_12 : decode mi_X2_isFull.2.1 12 = .ok (.iconst 0, 1) := by decide +kernel
theorem dX2_isFull_13 : decode mi_X2_isFull.2.1 13 = .ok (.ireturn, 1) := by decide +kernel
theorem dX2_codeAt_0 : decode mi_X2_codeAt.2.1 0 = .ok (.iload_n 1, 1) := by decide +kernel
theorem dX2_codeAt_1 : decode mi_X2_codeAt.2.1 1 = .ok (.iconst 4, 1) := by decide +kernel
theorem dX2_codeAt_2 : decode mi_X2_codeAt.2.1 2 = .ok (.invokestatic 19, 3) := by decide +kernel
theorem dX2_codeAt_5 : decode mi_X2_codeAt.2.1 5 = .ok (.ifCond .eq 12, 3) := by decide +kernel
theorem dX2_codeAt_8 : decode mi_X2_codeAt.2.1 8 = .ok (.aload_n 0, 1) := by decide +kernel
theorem dX2_codeAt_9 : decode mi_X2_codeAt.2.1 9 = .ok (.getfield 9, 3) := by decide +kernel
theorem dX2_codeAt_12 : decode mi_X2_codeAt.2.1 12 = .ok (.iload_n 1, 1) := by decide +kernel
theorem dX2_codeAt_13 : decode mi_X2_codeAt.2.1 13 = .ok (.iaload, 1) := by decide +kernel
theorem dX2_codeAt_14 : decode mi_X2_codeAt.2.1 14 = .ok (.goto 4, 3) := by decide +kernel
theorem dX2_codeAt_17 : decode mi_X2_codeAt.2.1 17 = .ok (.iconst 0, 1) := by decide +kernel
theorem dX2_codeAt_18 : decode mi_X2_codeAt.2.1 18 = .ok (.ireturn, 1) := by decide +kernel
theorem dX2_replace_0 : decode mi_X2_replace.2.1 0 = .ok (.iload_n 1, 1) := by decide +kernel
theorem dX2_replace_1 : decode mi_X2_replace.2.1 1 = .ok (.iconst 4, 1) := by decide +kernel
theorem dX2_replace_2 : decode mi_X2_replace.2.1 2 = .ok (.invokestatic 19, 3) := by decide +kernel
theorem dX2_replace_5 : decode mi_X2_replace.2.1 5 = .ok (.ifCond .eq 10, 3) := by decide +kernel
theorem dX2_replace_8 : decode mi_X2_replace.2.1 8 = .ok (.aload_n 0, 1) := by decide +kernel
theorem dX2_replace_9 : decode mi_X2_replace.2.1 9 = .ok (.getfield 9, 3) := by decide +kernel
theorem dX2_replace_12 : decode mi_X2_replace.2.1 12 = .ok (.iload_n 1, 1) := by decide +kernel
theorem dX2_replace_13 : decode mi_X2_replace.2.1 13 = .ok (.iload_n 2, 1) := by decide +kernel
theorem dX2_replace_14 : decode mi_X2_replace.2.1 14 = .ok (.iastore, 1) := by decide +kernel
theorem dX2_replace_15 : decode mi_X2_replace.2.1 15 = .ok (.return_, 1) := by decide +kernel
theorem dX2_append_0 : decode mi_X2_append.2.1 0 = .ok (.aload_n 0, 1) := by decide +kernel
theorem dX2_append_1 : decode mi_X2_append.2.1 1 = .ok (.invokevirtual 23, 3) := by decide +kernel
theorem dX2_append_4 : decode mi_X2_append.2.1 4 = .ok (.ifCond .ne 22, 3) := by decide +kernel
theorem dX2_append_7 : decode mi_X2_append.2.1 7 = .ok (.aload_n 0, 1) := by decide +kernel
theorem dX2_append_8 : decode mi_X2_append.2.1 8 = .ok (.aload_n 0, 1) := by decide +kernel
theorem dX2_append_9 : decode mi_X2_append.2.1 9 = .ok (.getfield 15, 3) := by decide +kernel
theorem dX2_append_12 : decode mi_X2_append.2.1 12 = .ok (.iload_n 1, 1) := by decide +kernel
theorem dX2_append_13 : decode mi_X2_append.2.1 13 = .ok (.invokevirtual 27, 3) := by decide +kernel
theorem dX2_append_16 : decode mi_X2_append.2.1 16 = .ok (.aload_n 0, 1) := by decide +kernel
theorem dX2_append_17 : decode mi_X2_append.2.1 17 = .ok (.dup, 1) := by decide +kernel
theorem dX2_append_18 : decode mi_X2_append.2.1 18 = .ok (.getfield 15, 3) := by decide +kernel
theorem dX2_append_21 : decode mi_X2_append.2.1 21 = .ok (.iconst 1, 1) := by decide +kernel
theorem dX2_append_22 : decode mi_X2_append.2.1 22 = .ok (.iadd, 1) := by decide +kernel
theorem dX2_append_23 : decode mi_X2_append.2.1 23 = .ok (.putfield 15, 3) := by decide +kernel
theorem dX2_append_26 : decode mi_X2_append.2.1 26 = .ok (.return_, 1) := by decide +kernel
theorem dX2_removeAt_0 : decode mi_X2_removeAt.2.1 0 = .ok (.aload_n 0, 1) := by decide +kernel
theorem dX2_removeAt_1 : decode mi_X2_removeAt.2.1 1 = .ok (.iload_n 1, 1) := by decide +kernel
theorem dX2_removeAt_2 : decode mi_X2_removeAt.2.1 2 = .ok (.invokevirtual 31, 3) := by decide +kernel
theorem dX2_removeAt_5 : decode mi_X2_removeAt.2.1 5 = .ok (.ifCond .ne 4, 3) := by decide +kernel
theorem dX2_removeAt_8 : decode mi_X2_removeAt.2.1 8 = .ok (.return_, 1) := by decide +kernel
theorem dX2_removeAt_9 : decode mi_X2_removeAt.2.1 9 = .ok (.iload_n 1, 1) := by decide +kernel
theorem dX2_removeAt_10 : decode mi_X2_removeAt.2.1 10 = .ok (.istore_n 2, 1) := by decide +kernel
theorem dX2_removeAt_11 : decode mi_X2_removeAt.2.1 11 = .ok (.iload_n 2, 1) := by decide +kernel
theorem dX2_removeAt_12 : decode mi_X2_removeAt.2.1 12 = .ok (.aload_n 0, 1) := by decide +kernel
theorem dX2_removeAt_13 : decode mi_X2_removeAt.2.1 13 = .ok (.getfield 15, 3) := by decide +kernel
theorem dX2_removeAt_16 : decode mi_X2_removeAt.2.1 16 = .ok (.iconst 1, 1) := by decide +kernel
theorem dX2_removeAt_17 : decode mi_X2_removeAt.2.1 17 = .ok (.isub, 1) := by decide +kernel
theorem dX2_removeAt_18 : decode mi_X2_removeAt.2.1 18 = .ok (.if_icmp .ge 21, 3) := by decide +kernel
theorem dX2_removeAt_21 : decode mi_X2_removeAt.2.1 21 = .ok (.aload_n 0, 1) := by decide +kernel
theorem dX2_removeAt_22 : decode mi_X2_removeAt.2.1 22 = .ok (.iload_n 2, 1) := by decide +kernel
theorem dX2_removeAt_23 : decode mi_X2_removeAt.2.1 23 = .ok (.aload_n 0, 1) := by decide +kernel
theorem dX2_removeAt_24 : decode mi_X2_removeAt.2.1 24 = .ok (.iload_n 2, 1) := by decide +kernel
theorem dX2_removeAt_25 : decode mi_X2_removeAt.2.1 25 = .ok (.iconst 1, 1) := by decide +kernel
theorem dX2_removeAt_26 : decode mi_X2_removeAt.2.1 26 = .ok (.iadd, 1) := by decide +kernel
theorem dX2_removeAt_27 : decode mi_X2_removeAt.2.1 27 = .ok (.invokevirtual 35, 3) := by decide +kernel
theorem dX2_removeAt_30 : decode mi_X2_removeAt.2.1 30 = .ok (.invokevirtual 27, 3) := by decide +kernel
theorem dX2_removeAt_33 : decode mi_X2_removeAt.2.1 33 = .ok (.iinc 2 1, 3) := by decide +kernel
theorem dX2_removeAt_36 : decode mi_X2_removeAt.2.1 36 = .ok (.goto (-25), 3) := by decide +kernel
theorem dX2_removeAt_39 : decode mi_X2_removeAt.2.1 39 = .ok (.aload_n 0, 1) := by decide +kernel
theorem dX2_removeAt_40 : decode mi_X2_removeAt.2.1 40 = .ok (.dup, 1) := by decide +kernel
theorem dX2_removeAt_41 : decode mi_X2_removeAt.2.1 41 = .ok (.getfield 15, 3) := by decide +kernel
theorem dX2_removeAt_44 : decode mi_X2_removeAt.2.1 44 = .ok (.iconst 1, 1) := by decide +kernel
theorem dX2_removeAt_45 : decode mi_X2_removeAt.2.1 45 = .ok (.isub, 1) := by decide +kernel
theorem dX2_removeAt_46 : decode mi_X2_removeAt.2.1 46 = .ok (.putfield 15, 3) := by decide +kernel
theorem dX2_removeAt_49 : decode mi_X2_removeAt.2.1 49 = .ok (.return_, 1) := by decide +kernel
theorem dX2_clear_0 : decode mi_X2_clear.2.1 0 = .ok (.aload_n 0, 1) := by decide +kernel
theorem dX2_clear_1 : decode mi_X2_clear.2.1 1 = .ok (.iconst 0, 1) := by decide +kernel
theorem dX2_clear_2 : decode mi_X2_clear.2.1 2 = .ok (.putfield 15, 3) := by decide +kernel
theorem dX2_clear_5 : decode mi_X2_clear.2.1 5 = .ok (.return_, 1) := by decide +kernel
theorem dX3_size_0 : decode mi_X3_size.2.1 0 = .ok (.aload_n 0, 1) := by decide +kernel
theorem dX3_size_1 : decode mi_X3_size.2.1 1 = .ok (.getfield 33, 3) := by decide +kernel
theorem dX3_size_4 : decode mi_X3_size.2.1 4 = .ok (.ireturn, 1) := by decide +kernel
theorem dX3_elementAt_0 : decode mi_X3_elementAt.2.1 0 = .ok (.iload_n 1, 1) := by decide +kernel
theorem dX3_elementAt_1 : decode mi_X3_elementAt.2.1 1 = .ok (.sipush 300, 3) := by decide +kernel
theorem dX3_elementAt_4 : decode mi_X3_elementAt.2.1 4 = .ok (.invokestatic 37, 3) := by decide +kernel
theorem dX3_elementAt_7 : decode mi_X3_elementAt.2.1 7 = .ok (.ifCond .eq 12, 3) := by decide +kernel
theorem dX3_elementAt_10 : decode mi_X3_elementAt.2.1 10 = .ok (.aload_n 0, 1) := by decide +kernel
theorem dX3_elementAt_11 : decode mi_X3_elementAt.2.1 11 = .ok (.getfield 15, 3) := by decide +kernel
theorem dX3_elementAt_14 : decode mi_X3_elementAt.2.1 14 = .ok (.iload_n 1, 1) := by decide +kernel
theorem dX3_elementAt_15 : decode mi_X3_elementAt.2.1 15 = .ok (.iaload, 1) := by decide +kernel
theorem dX3_elementAt_16 : decode mi_X3_elementAt.2.1 16 = .ok (.goto 4, 3) := by decide +kernel
theorem dX3_elementAt_19 : decode mi_X3_elementAt.2.1 19 = .ok (.iconst 0, 1) := by decide +kernel
theorem dX3_elementAt_20 : decode mi_X3_elementAt.2.1 20 = .ok (.ireturn, 1) := by decide +kernel
theorem dX3_has_0 : decode mi_X3_has.2.1 0 = .ok (.iload_n 1, 1) := by decide +kernel
theorem dX3_has_1 : decode mi_X3_has.2.1 1 = .ok (.sipush 300, 3) := by decide +kernel
theorem dX3_has_4 : decode mi_X3_has.2.1 4 = .ok (.invokestatic 37, 3) := by decide +kernel
theorem dX3_has_7 : decode mi_X3_has.2.1 7 = .ok (.ifCond .eq 16, 3) := by decide +kernel
theorem dX3_has_10 : decode mi_X3_has.2.1 10 = .ok (.aload_n 0, 1) := by decide +kernel
theorem dX3_has_11 : decode mi_X3_has.2.1 11 = .ok (.getfield 9, 3) := by decide +kernel
theorem dX3_has_14 : decode mi_X3_has.2.1 14 = .ok (.iload_n 1, 1) := by decide +kernel
theorem dX3_has_15 : decode mi_X3_has.2.1 15 = .ok (.baload, 1) := by decide +kernel
theorem dX3_has_16 : decode mi_X3_has.2.1 16 = .ok (.ifCond .eq 7, 3) := by decide +kernel
theorem dX3_has_19 : decode mi_X3_has.2.1 19 = .ok (.iconst 1, 1) := by decide +kernel
theorem dX3_has_20 : decode mi_X3_has.2.1 20 = .ok (.goto 4, 3) := by decide +kernel
theorem dX3_has_23 : decode mi_X3_has.2.1 23 = .ok (.iconst 0, 1) := by decide +kernel
theorem dX3_has_24 : decode mi_X3_has.2.1 24 = .ok (.ireturn, 1) := by decide +kernel
theorem dX3_hasTranslation_0 : decode mi_X3_hasTranslation.2.1 0 = .ok (.aload_n 0, 1) := by decide +kernel
theorem dX3_hasTranslation_1 : decode mi_X3_hasTranslation.2.1 1 = .ok (.aload_n 0, 1) := by decide +kernel
theorem dX3_hasTranslation_2 : decode mi_X3_hasTranslation.2.1 2 = .ok (.getfield 25, 3) := by decide +kernel
theorem dX3_hasTranslation_5 : decode mi_X3_hasTranslation.2.1 5 = .ok (.iconst 0, 1) := by decide +kernel
theorem dX3_hasTranslation_6 : decode mi_X3_hasTranslation.2.1 6 = .ok (.aload_n 0, 1) := by decide +kernel
theorem dX3_hasTranslation_7 : decode mi_X3_hasTranslation.2.1 7 = .ok (.getfield 25, 3) := by decide +kernel
theorem dX3_hasTranslation_10 : decode mi_X3_hasTranslation.2.1 10 = .ok (.iload_n 1, 1) := by decide +kernel
theorem dX3_hasTranslation_11 : decode mi_X3_hasTranslation.2.1 11 = .ok (.invokevirtual 41, 3) := by decide +kernel
theorem dX3_hasTranslation_14 : decode mi_X3_hasTranslation.2.1 14 = .ok (.aload_n 0, 1) := by decide +kernel
theorem dX3_hasTranslation_15 : decode mi_X3_hasTranslation.2.1 15 = .ok (.getfield 25, 3) := by decide +kernel
theorem dX3_hasTranslation_18 : decode mi_X3_hasTranslation.2.1 18 = .ok (.iload_n 2, 1) := by decide +kernel
theorem dX3_hasTranslation_19 : decode mi_X3_hasTranslation.2.1 19 = .ok (.invokevirtual 41, 3) := by decide +kernel
theorem dX3_hasTranslation_22 : decode mi_X3_hasTranslation.2.1 22 = .ok (.invokevirtual 47, 3) := by decide +kernel
theorem dX3_hasTranslation_25 : decode mi_X3_hasTranslation.2.1 25 = .ok (.invokevirtual 51, 3) := by decide +kernel
theorem dX3_hasTranslation_28 : decode mi_X3_hasTranslation.2.1 28 = .ok (.ireturn, 1) := by decide +kernel
theorem dX3_rebuild_0 : decode mi_X3_rebuild.2.1 0 = .ok (.aload_n 0, 1) := by decide +kernel
theorem dX3_rebuild_1 : decode mi_X3_rebuild.2.1 1 = .ok (.getfield 9, 3) := by decide +kernel
theorem dX3_rebuild_4 : decode mi_X3_rebuild.2.1 4 = .ok (.invokestatic 55, 3) := by decide +kernel
theorem dX3_rebuild_7 : decode mi_X3_rebuild.2.1 7 = .ok (.aload_n 0, 1) := by decide +kernel
theorem dX3_rebuild_8 : decode mi_X3_rebuild.2.1 8 = .ok (.iconst 0, 1) := by decide +kernel
theorem dX3_rebuild_9 : decode mi_X3_rebuild.2.1 9 = .ok (.putfield 33, 3) := by decide +kernel
theorem dX3_rebuild_12 : decode mi_X3_rebuild.2.1 12 = .ok (.aload_n 0, 1) := by decide +kernel
theorem dX3_rebuild_13 : decode mi_X3_rebuild.2.1 13 = .ok (.iconst 0, 1) := by decide +kernel
theorem dX3_rebuild_14 : decode mi_X3_rebuild.2.1 14 = .ok (.invokevirtual 59, 3) := by decide +kernel
theorem dX3_rebuild_17 : decode mi_X3_rebuild.2.1 17 = .ok (.iconst 0, 1) := by decide +kernel
theorem dX3_rebuild_18 : decode mi_X3_rebuild.2.1 18 = .ok (.istore_n 1, 1) := by decide +kernel
theorem dX3_rebuild_19 : decode mi_X3_rebuild.2.1 19 = .ok (.iload_n 1, 1) := by decide +kernel
theorem dX3_rebuild_20 : decode mi_X3_rebuild.2.1 20 = .ok (.aload_n 0, 1) := by decide +kernel
theorem dX3_rebuild_21 : decode mi_X3_rebuild.2.1 21 = .ok (.getfield 33, 3) := by decide +kernel
theorem dX3_rebuild_24 : decode mi_X3_rebuild.2.1 24 = .ok (.if_icmp .ge 60, 3) := by decide +kernel
theorem dX3_rebuild_27 : decode mi_X3_rebuild.2.1 27 = .ok (.iload_n 1, 1) := by decide +kernel
theorem dX3_rebuild_28 : decode mi_X3_rebuild.2.1 28 = .ok (.sipush 300, 3) := by decide +kernel
theorem dX3_rebuild_31 : decode mi_X3_rebuild.2.1 31 = .ok (.if_icmp .ge 53, 3) := by decide +kernel
theorem dX3_rebuild_34 : decode mi_X3_rebuild.2.1 34 = .ok (.iconst 0, 1) := by decide +kernel
theorem dX3_rebuild_35 : decode mi_X3_rebuild.2.1 35 = .ok (.istore_n 2, 1) := by decide +kernel
theorem dX3_rebuild_36 : decode mi_X3_rebuild.2.1 36 = .ok (.iload_n 2, 1) := by decide +kernel
theorem dX3_rebuild_37 : decode mi_X3_rebuild.2.1 37 = .ok (.aload_n 0, 1) := by decide +kernel
theorem dX3_rebuild_38 : decode mi_X3_rebuild.2.1 38 = .ok (.getfield 29, 3) := by decide +kernel
theorem dX3_rebuild_41 : decode mi_X3_rebuild.2.1 41 = .ok (.getfield 63, 3) := by decide +kernel
theorem dX3_rebuild_44 : decode mi_X3_rebuild.2.1 44 = .ok (.if_icmp .ge 34, 3) := by decide +kernel
theorem dX3_rebuild_47 : decode mi_X3_rebuild.2.1 47 = .ok (.aload_n 0, 1) := by decide +kernel
theorem dX3_rebuild_48 : decode mi_X3_rebuild.2.1 48 = .ok (.aload_n 0, 1) := by decide +kernel
theorem dX3_rebuild_49 : decode mi_X3_rebuild.2.1 49 = .ok (.getfield 25, 3) := by decide +kernel
theorem dX3_rebuild_52 : decode mi_X3_rebuild.2.1 52 = .ok (.aload_n 0, 1) := by decide +kernel
theorem dX3_rebuild_53 : decode mi_X3_rebuild.2.1 53 = .ok (.getfield 15, 3) := by decide +kernel
theorem dX3_rebuild_56 : decode mi_X3_rebuild.2.1 56 = .ok (.iload_n 1, 1) := by decide +kernel
theorem dX3_rebuild_57 : decode mi_X3_rebuild.2.1 57 = .ok (.iaload, 1) := by decide +kernel
theorem dX3_rebuild_58 : decode mi_X3_rebuild.2.1 58 = .ok (.aload_n 0, 1) := by decide +kernel
theorem dX3_rebuild_59 : decode mi_X3_rebuild.2.1 59 = .ok (.getfield 29, 3) := by decide +kernel
theorem dX3_rebuild_62 : decode mi_X3_rebuild.2.1 62 = .ok (.iload_n 2, 1) := by decide +kernel
theorem dX3_rebuild_63 : decode mi_X3_rebuild.2.1 63 = .ok (.invokevirtual 68, 3) := by decide +kernel
theorem dX3_rebuild_66 : decode mi_X3_rebuild.2.1 66 = .ok (.invokevirtual 71, 3) := by decide +kernel
theorem dX3_rebuild_69 : decode mi_X3_rebuild.2.1 69 = .ok (.invokevirtual 59, 3) := by decide +kernel
theorem dX3_rebuild_72 : decode mi_X3_rebuild.2.1 72 = .ok (.iinc 2 1, 3) := by decide +kernel
theorem dX3_rebuild_75 : decode mi_X3_rebuild.2.1 75 = .ok (.goto (-39), 3) := by decide +kernel
theorem dX3_rebuild_78 : decode mi_X3_rebuild.2.1 78 = .ok (.iinc 1 1, 3) := by decide +kernel
theorem dX3_rebuild_81 : decode mi_X3_rebuild.2.1 81 = .ok (.goto (-62), 3) := by decide +kernel
theorem dX3_rebuild_84 : decode mi_X3_rebuild.2.1 84 = .ok (.aload_n 0, 1) := by decide +kernel
theorem dX3_rebuild_85 : decode mi_X3_rebuild.2.1 85 = .ok (.invokevirtual 75, 3) := by decide +kernel
theorem dX3_rebuild_88 : decode mi_X3_rebuild.2.1 88 = .ok (.return_, 1) := by decide +kernel
theorem dX3_admit_0 : decode mi_X3_admit.2.1 0 = .ok (.iload_n 1, 1) := by decide +kernel
theorem dX3_admit_1 : decode mi_X3_admit.2.1 1 = .ok (.sipush 300, 3) := by decide +kernel
theorem dX3_admit_4 : decode mi_X3_admit.2.1 4 = .ok (.invokestatic 37, 3) := by decide +kernel
theorem dX3_admit_7 : decode mi_X3_admit.2.1 7 = .ok (.ifCond .eq 52, 3) := by decide +kernel
theorem dX3_admit_10 : decode mi_X3_admit.2.1 10 = .ok (.aload_n 0, 1) := by decide +kernel
theorem dX3_admit_11 : decode mi_X3_admit.2.1 11 = .ok (.getfield 9, 3) := by decide +kernel
theorem dX3_admit_14 : decode mi_X3_admit.2.1 14 = .ok (.iload_n 1, 1) := by decide +kernel
theorem dX3_admit_15 : decode mi_X3_admit.2.1 15 = .ok (.baload, 1) := by decide +kernel
theorem dX3_admit_16 : decode mi_X3_admit.2.1 16 = .ok (.ifCond .ne 43, 3) := by decide +kernel
theorem dX3_admit_19 : decode mi_X3_admit.2.1 19 = .ok (.aload_n 0, 1) := by decide +kernel
theorem dX3_admit_20 : decode mi_X3_admit.2.1 20 = .ok (.getfield 33, 3) := by decide +kernel
theorem dX3_admit_23 : decode mi_X3_admit.2.1 23 = .ok (.sipush 300, 3) := by decide +kernel
theorem dX3_admit_26 : decode mi_X3_admit.2.1 26 = .ok (.invokestatic 37, 3) := by decide +kernel
theorem dX3_admit_29 : decode mi_X3_admit.2.1 29 = .ok (.ifCond .eq 30, 3) := by decide +kernel
theorem dX3_admit_32 : decode mi_X3_admit.2.1 32 = .ok (.aload_n 0, 1) := by decide +kernel
theorem dX3_admit_33 : decode mi_X3_admit.2.1 33 = .ok (.getfield 9, 3) := by decide +kernel
theorem dX3_admit_36 : decode mi_X3_admit.2.1 36 = .ok (.iload_n 1, 1) := by decide +kernel
theorem dX3_admit_37 : decode mi_X3_admit.2.1 37 = .ok (.iconst 1, 1) := by decide +kernel
theorem dX3_admit_38 : decode mi_X3_admit.2.1 38 = .ok (.bastore, 1) := by decide +kernel
theorem dX3_admit_39 : decode mi_X3_admit.2.1 39 = .ok (.aload_n 0, 1) := by decide +kernel
theorem dX3_admit_40 : decode mi_X3_admit.2.1 40 = .ok (.getfield 15, 3) := by decide +kernel
theorem dX3_admit_43 : decode mi_X3_admit.2.1 43 = .ok (.aload_n 0, 1) := by decide +kernel
theorem dX3_admit_44 : decode mi_X3_admit.2.1 44 = .ok (.getfield 33, 3) := by decide +kernel
theorem dX3_admit_47 : decode mi_X3_admit.2.1 47 = .ok (.iload_n 1, 1) := by decide +kernel
theorem dX3_admit_48 : decode mi_X3_admit.2.1 48 = .ok (.iastore, 1) := by decide +kernel
theorem dX3_admit_49 : decode mi_X3_admit.2.1 49 = .ok (.aload_n 0, 1) := by decide +kernel
theorem dX3_admit_50 : decode mi_X3_admit.2.1 50 = .ok (.dup, 1) := by decide +kernel
theorem dX3_admit_51 : decode mi_X3_admit.2.1 51 = .ok (.getfield 33, 3) := by decide +kernel
theorem dX3_admit_54 : decode mi_X3_admit.2.1 54 = .ok (.iconst 1, 1) := by decide +kernel
theorem dX3_admit_55 : decode mi_X3_admit.2.1 55 = .ok (.iadd, 1) := by decide +kernel
theorem dX3_admit_56 : decode mi_X3_admit.2.1 56 = .ok (.putfield 33, 3) := by decide +kernel
theorem dX3_admit_59 : decode mi_X3_admit.2.1 59 = .ok (.return_, 1) := by decide +kernel
theorem dX3_listByCode_0 : decode mi_X3_listByCode.2.1 0 = .ok (.iconst 0, 1) := by decide +kernel
theorem dX3_listByCode_1 : decode mi_X3_listByCode.2.1 1 = .ok (.istore_n 1, 1) := by decide +kernel
theorem dX3_listByCode_2 : decode mi_X3_listByCode.2.1 2 = .ok (.iconst 0, 1) := by decide +kernel
theorem dX3_listByCode_3 : decode mi_X3_listByCode.2.1 3 = .ok (.istore_n 2, 1) := by decide +kernel
theorem dX3_listByCode_4 : decode mi_X3_listByCode.2.1 4 = .ok (.iload_n 2, 1) := by decide +kernel
theorem dX3_listByCode_5 : decode mi_X3_listByCode.2.1 5 = .ok (.sipush 300, 3) := by decide +kernel
theorem dX3_listByCode_8 : decode mi_X3_listByCode.2.1 8 = .ok (.if_icmp .ge 35, 3) := by decide +kernel
theorem dX3_listByCode_11 : decode mi_X3_listByCode.2.1 11 = .ok (.iload_n 1, 1) := by decide +kernel
theorem dX3_listByCode_12 : decode mi_X3_listByCode.2.1 12 = .ok (.sipush 300, 3) := by decide +kernel
theorem dX3_listByCode_15 : decode mi_X3_listByCode.2.1 15 = .ok (.if_icmp .ge 28, 3) := by decide +kernel
theorem dX3_listByCode_18 : decode mi_X3_listByCode.2.1 18 = .ok (.aload_n 0, 1) := by decide +kernel
theorem dX3_listByCode_19 : decode mi_X3_listByCode.2.1 19 = .ok (.getfield 9, 3) := by decide +kernel
theorem dX3_listByCode_22 : decode mi_X3_listByCode.2.1 22 = .ok (.iload_n 2, 1) := by decide +kernel
theorem dX3_listByCode_23 : decode mi_X3_listByCode.2.1 23 = .ok (.baload, 1) := by decide +kernel
theorem dX3_listByCode_24 : decode mi_X3_listByCode.2.1 24 = .ok (.ifCond .eq 13, 3) := by decide +kernel
theorem dX3_listByCode_27 : decode mi_X3_listByCode.2.1 27 = .ok (.aload_n 0, 1) := by decide +kernel
theorem dX3_listByCode_28 : decode mi_X3_listByCode.2.1 28 = .ok (.getfield 15, 3) := by decide +kernel
theorem dX3_listByCode_31 : decode mi_X3_listByCode.2.1 31 = .ok (.iload_n 1, 1) := by decide +kernel
theorem dX3_listByCode_32 : decode mi_X3_listByCode.2.1 32 = .ok (.iload_n 2, 1) := by decide +kernel
theorem dX3_listByCode_33 : decode mi_X3_listByCode.2.1 33 = .ok (.iastore, 1) := by decide +kernel
theorem dX3_listByCode_34 : decode mi_X3_listByCode.2.1 34 = .ok (.iinc 1 1, 3) := by decide +kernel
theorem dX3_listByCode_37 : decode mi_X3_listByCode.2.1 37 = .ok (.iinc 2 1, 3) := by decide +kernel
theorem dX3_listByCode_40 : decode mi_X3_listByCode.2.1 40 = .ok (.goto (-36), 3) := by decide +kernel
theorem dX3_listByCode_43 : decode mi_X3_listByCode.2.1 43 = .ok (.return_, 1) := by decide +kernel
theorem dX3_commutes_0 : decode mi_X3_commutes.2.1 0 = .ok (.iconst 0, 1) := by decide +kernel
theorem dX3_commutes_1 : decode mi_X3_commutes.2.1 1 = .ok (.istore_n 1, 1) := by decide +kernel
theorem dX3_commutes_2 : decode mi_X3_commutes.2.1 2 = .ok (.iload_n 1, 1) := by decide +kernel
theorem dX3_commutes_3 : decode mi_X3_commutes.2.1 3 = .ok (.aload_n 0, 1) := by decide +kernel
theorem dX3_commutes_4 : decode mi_X3_commutes.2.1 4 = .ok (.getfield 29, 3) := by decide +kernel
theorem dX3_commutes_7 : decode mi_X3_commutes.2.1 7 = .ok (.getfield 63, 3) := by decide +kernel
theorem dX3_commutes_10 : decode mi_X3_commutes.2.1 10 = .ok (.if_icmp .ge 66, 3) := by decide +kernel
theorem dX3_commutes_13 : decode mi_X3_commutes.2.1 13 = .ok (.iconst 0, 1) := by decide +kernel
theorem dX3_commutes_14 : decode mi_X3_commutes.2.1 14 = .ok (.istore_n 2, 1) := by decide +kernel
theorem dX3_commutes_15 : decode mi_X3_commutes.2.1 15 = .ok (.iload_n 2, 1) := by decide +kernel
theorem dX3_commutes_16 : decode mi_X3_commutes.2.1 16 = .ok (.iload_n 1, 1) := by decide +kernel
theorem dX3_commutes_17 : decode mi_X3_commutes.2.1 17 = .ok (.if_icmp .ge 53, 3) := by decide +kernel
theorem dX3_commutes_20 : decode mi_X3_commutes.2.1 20 = .ok (.aload_n 0, 1) := by decide +kernel
theorem dX3_commutes_21 : decode mi_X3_commutes.2.1 21 = .ok (.getfield 29, 3) := by decide +kernel
theorem dX3_commutes_24 : decode mi_X3_commutes.2.1 24 = .ok (.iload_n 1, 1) := by decide +kernel
theorem dX3_commutes_25 : decode mi_X3_commutes.2.1 25 = .ok (.invokevirtual 68, 3) := by decide +kernel
theorem dX3_commutes_28 : decode mi_X3_commutes.2.1 28 = .ok (.istore_n 3, 1) := by decide +kernel
theorem dX3_commutes_29 : decode mi_X3_commutes.2.1 29 = .ok (.aload_n 0, 1) := by decide +kernel
theorem dX3_commutes_30 : decode mi_X3_commutes.2.1 30 = .ok (.getfield 29, 3) := by decide +kernel
theorem dX3_commutes_33 : decode mi_X3_commutes.2.1 33 = .ok (.iload_n 2, 1) := by decide +kernel
theorem dX3_commutes_34 : decode mi_X3_commutes.2.1 34 = .ok (.invokevirtual 68, 3) := by decide +kernel
theorem dX3_commutes_37 : decode mi_X3_commutes.2.1 37 = .ok (.istore 4, 2) := by decide +kernel
theorem dX3_commutes_39 : decode mi_X3_commutes.2.1 39 = .ok (.aload_n 0, 1) := by decide +kernel
theorem dX3_commutes_40 : decode mi_X3_commutes.2.1 40 = .ok (.getfield 25, 3) := by decide +kernel
theorem dX3_commutes_43 : decode mi_X3_commutes.2.1 43 = .ok (.iload_n 3, 1) := by decide +kernel
theorem dX3_commutes_44 : decode mi_X3_commutes.2.1 44 = .ok (.iload 4, 2) := by decide +kernel
theorem dX3_commutes_46 : decode mi_X3_commutes.2.1 46 = .ok (.invokevirtual 71, 3) := by decide +kernel
theorem dX3_commutes_49 : decode mi_X3_commutes.2.1 49 = .ok (.aload_n 0, 1) := by decide +kernel
theorem dX3_commutes_50 : decode mi_X3_commutes.2.1 50 = .ok (.getfield 25, 3) := by decide +kernel
theorem dX3_commutes_53 : decode mi_X3_commutes.2.1 53 = .ok (.iload 4, 2) := by decide +kernel
theorem dX3_commutes_55 : decode mi_X3_commutes.2.1 55 = .ok (.iload_n 3, 1) := by decide +kernel
theorem dX3_commutes_56 : decode mi_X3_commutes.2.1 56 = .ok (.invokevirtual 71, 3) := by decide +kernel
theorem dX3_commutes_59 : decode mi_X3_commutes.2.1 59 = .ok (.if_icmp .eq 5, 3) := by decide +kernel
theorem dX3_commutes_62 : decode mi_X3_commutes.2.1 62 = .ok (.iconst 0, 1) := by decide +kernel
theorem dX3_commutes_63 : decode mi_X3_commutes.2.1 63 = .ok (.ireturn, 1) := by decide +kernel
theorem dX3_commutes_64 : decode mi_X3_commutes.2.1 64 = .ok (.iinc 2 1, 3) := by decide +kernel
theorem dX3_commutes_67 : decode mi_X3_commutes.2.1 67 = .ok (.goto (-52), 3) := by decide +kernel
theorem dX3_commutes_70 : decode mi_X3_commutes.2.1 70 = .ok (.iinc 1 1, 3) := by decide +kernel
theorem dX3_commutes_73 : decode mi_X3_commutes.2.1 73 = .ok (.goto (-71), 3) := by decide +kernel
theorem dX3_commutes_76 : decode mi_X3_commutes.2.1 76 = .ok (.iconst 1, 1) := by decide +kernel
theorem dX3_commutes_77 : decode mi_X3_commutes.2.1 77 = .ok (.ireturn, 1) := by decide +kernel
theorem dX3_countConjugacyClasses_0 : decode mi_X3_countConjugacyClasses.2.1 0 = .ok (.aload_n 0, 1) := by decide +kernel
theorem dX3_countConjugacyClasses_1 : decode mi_X3_countConjugacyClasses.2.1 1 = .ok (.getfield 19, 3) := by decide +kernel
theorem dX3_countConjugacyClasses_4 : decode mi_X3_countConjugacyClasses.2.1 4 = .ok (.invokestatic 55, 3) := by decide +kernel
theorem dX3_countConjugacyClasses_7 : decode mi_X3_countConjugacyClasses.2.1 7 = .ok (.iconst 0, 1) := by decide +kernel
theorem dX3_countConjugacyClasses_8 : decode mi_X3_countConjugacyClasses.2.1 8 = .ok (.istore_n 1, 1) := by decide +kernel
theorem dX3_countConjugacyClasses_9 : decode mi_X3_countConjugacyClasses.2.1 9 = .ok (.iconst 0, 1) := by decide +kernel
theorem dX3_countConjugacyClasses_10 : decode mi_X3_countConjugacyClasses.2.1 10 = .ok (.istore_n 2, 1) := by decide +kernel
theorem dX3_countConjugacyClasses_11 : decode mi_X3_countConjugacyClasses.2.1 11 = .ok (.iload_n 2, 1) := by decide +kernel
theorem dX3_countConjugacyClasses_12 : decode mi_X3_countConjugacyClasses.2.1 12 = .ok (.aload_n 0, 1) := by decide +kernel
theorem dX3_countConjugacyClasses_13 : decode mi_X3_countConjugacyClasses.2.1 13 = .ok (.getfield 33, 3) := by decide +kernel
theorem dX3_countConjugacyClasses_16 : decode mi_X3_countConjugacyClasses.2.1 16 = .ok (.if_icmp .ge 50, 3) := by decide +kernel
theorem dX3_countConjugacyClasses_19 : decode mi_X3_countConjugacyClasses.2.1 19 = .ok (.iload_n 2, 1) := by decide +kernel
theorem dX3_countConjugacyClasses_20 : decode mi_X3_countConjugacyClasses.2.1 20 = .ok (.sipush 300, 3) := by decide +kernel
theorem dX3_countConjugacyClasses_23 : decode mi_X3_countConjugacyClasses.2.1 23 = .ok (.if_icmp .ge 43, 3) := by decide +kernel
theorem dX3_countConjugacyClasses_26 : decode mi_X3_countConjugacyClasses.2.1 26 = .ok (.aload_n 0, 1) := by decide +kernel
theorem dX3_countConjugacyClasses_27 : decode mi_X3_countConjugacyClasses.2.1 27 = .ok (.getfield 15, 3) := by decide +kernel
theorem dX3_countConjugacyClasses_30 : decode mi_X3_countConjugacyClasses.2.1 30 = .ok (.iload_n 2, 1) := by decide +kernel
theorem dX3_countConjugacyClasses_31 : decode mi_X3_countConjugacyClasses.2.1 31 = .ok (.iaload, 1) := by decide +kernel
theorem dX3_countConjugacyClasses_32 : decode mi_X3_countConjugacyClasses.2.1 32 = .ok (.istore_n 3, 1) := by decide +kernel
theorem dX3_countConjugacyClasses_33 : decode mi_X3_countConjugacyClasses.2.1 33 = .ok (.iload_n 3, 1) := by decide +kernel
theorem dX3_countConjugacyClasses_34 : decode mi_X3_countConjugacyClasses.2.1 34 = .ok (.sipush 300, 3) := by decide +kernel
theorem dX3_countConjugacyClasses_37 : decode mi_X3_countConjugacyClasses.2.1 37 = .ok (.invokestatic 37, 3) := by decide +kernel
theorem dX3_countConjugacyClasses_40 : decode mi_X3_countConjugacyClasses.2.1 40 = .ok (.ifCond .eq 20, 3) := by decide +kernel
theorem dX3_countConjugacyClasses_43 : decode mi_X3_countConjugacyClasses.2.1 43 = .ok (.aload_n 0, 1) := by decide +kernel
theorem dX3_countConjugacyClasses_44 : decode mi_X3_countConjugacyClasses.2.1 44 = .ok (.getfield 19, 3) := by decide +kernel
theorem dX3_countConjugacyClasses_47 : decode mi_X3_countConjugacyClasses.2.1 47 = .ok (.iload_n 3, 1) := by decide +kernel
theorem dX3_countConjugacyClasses_48 : decode mi_X3_countConjugacyClasses.2.1 48 = .ok (.baload, 1) := by decide +kernel
theorem dX3_countConjugacyClasses_49 : decode mi_X3_countConjugacyClasses.2.1 49 = .ok (.ifCond .ne 11, 3) := by decide +kernel
theorem dX3_countConjugacyClasses_52 : decode mi_X3_countConjugacyClasses.2.1 52 = .ok (.iinc 1 1, 3) := by decide +kernel
theorem dX3_countConjugacyClasses_55 : decode mi_X3_countConjugacyClasses.2.1 55 = .ok (.aload_n 0, 1) := by decide +kernel
theorem dX3_countConjugacyClasses_56 : decode mi_X3_countConjugacyClasses.2.1 56 = .ok (.iload_n 3, 1) := by decide +kernel
theorem dX3_countConjugacyClasses_57 : decode mi_X3_countConjugacyClasses.2.1 57 = .ok (.invokevirtual 78, 3) := by decide +kernel
theorem dX3_countConjugacyClasses_60 : decode mi_X3_countConjugacyClasses.2.1 60 = .ok (.iinc 2 1, 3) := by decide +kernel
theorem dX3_countConjugacyClasses_63 : decode mi_X3_countConjugacyClasses.2.1 63 = .ok (.goto (-52), 3) := by decide +kernel
theorem dX3_countConjugacyClasses_66 : decode mi_X3_countConjugacyClasses.2.1 66 = .ok (.iload_n 1, 1) := by decide +kernel
theorem dX3_countConjugacyClasses_67 : decode mi_X3_countConjugacyClasses.2.1 67 = .ok (.ireturn, 1) := by decide +kernel
theorem dX3_classify_0 : decode mi_X3_classify.2.1 0 = .ok (.aload_n 0, 1) := by decide +kernel
theorem dX3_classify_1 : decode mi_X3_classify.2.1 1 = .ok (.iconst 0, 1) := by decide +kernel
theorem dX3_classify_2 : decode mi_X3_classify.2.1 2 = .ok (.putfield 81, 3) := by decide +kernel
theorem dX3_classify_5 : decode mi_X3_classify.2.1 5 = .ok (.aload_n 0, 1) := by decide +kernel
theorem dX3_classify_6 : decode mi_X3_classify.2.1 6 = .ok (.iload_n 1, 1) := by decide +kernel
theorem dX3_classify_7 : decode mi_X3_classify.2.1 7 = .ok (.invokevirtual 84, 3) := by decide +kernel
theorem dX3_classify_10 : decode mi_X3_classify.2.1 10 = .ok (.iconst 0, 1) := by decide +kernel
theorem dX3_classify_11 : decode mi_X3_classify.2.1 11 = .ok (.istore_n 2, 1) := by decide +kernel
theorem dX3_classify_12 : decode mi_X3_classify.2.1 12 = .ok (.iload_n 2, 1) := by decide +kernel
theorem dX3_classify_13 : decode mi_X3_classify.2.1 13 = .ok (.aload_n 0, 1) := by decide +kernel
theorem dX3_classify_14 : decode mi_X3_classify.2.1 14 = .ok (.getfield 81, 3) := by decide +kernel
theorem dX3_classify_17 : decode mi_X3_classify.2.1 17 = .ok (.if_icmp .ge 80, 3) := by decide +kernel
theorem dX3_classify_20 : decode mi_X3_classify.2.1 20 = .ok (.iload_n 2, 1) := by decide +kernel
theorem dX3_classify_21 : decode mi_X3_classify.2.1 21 = .ok (.sipush 300, 3) := by decide +kernel
theorem dX3_classify_24 : decode mi_X3_classify.2.1 24 = .ok (.if_icmp .ge 73, 3) := by decide +kernel
theorem dX3_classify_27 : decode mi_X3_classify.2.1 27 = .ok (.iconst 0, 1) := by decide +kernel
theorem dX3_classify_28 : decode mi_X3_classify.2.1 28 = .ok (.istore_n 3, 1) := by decide +kernel
theorem dX3_classify_29 : decode mi_X3_classify.2.1 29 = .ok (.iload_n 3, 1) := by decide +kernel
theorem dX3_classify_30 : decode mi_X3_classify.2.1 30 = .ok (.aload_n 0, 1) := by decide +kernel
theorem dX3_classify_31 : decode mi_X3_classify.2.1 31 = .ok (.getfield 29, 3) := by decide +kernel
theorem dX3_classify_34 : decode mi_X3_classify.2.1 34 = .ok (.getfield 63, 3) := by decide +kernel
theorem dX3_classify_37 : decode mi_X3_classify.2.1 37 = .ok (.if_icmp .ge 54, 3) := by decide +kernel
theorem dX3_classify_40 : decode mi_X3_classify.2.1 40 = .ok (.aload_n 0, 1) := by decide +kernel
theorem dX3_classify_41 : decode mi_X3_classify.2.1 41 = .ok (.getfield 29, 3) := by decide +kernel
theorem dX3_classify_44 : decode mi_X3_classify.2.1 44 = .ok (.iload_n 3, 1) := by decide +kernel
theorem dX3_classify_45 : decode mi_X3_classify.2.1 45 = .ok (.invokevirtual 68, 3) := by decide +kernel
theorem dX3_classify_48 : decode mi_X3_classify.2.1 48 = .ok (.istore 4, 2) := by decide +kernel
theorem dX3_classify_50 : decode mi_X3_classify.2.1 50 = .ok (.aload_n 0, 1) := by decide +kernel
theorem dX3_classify_51 : decode mi_X3_classify.2.1 51 = .ok (.aload_n 0, 1) := by decide +kernel
theorem dX3_classify_52 : decode mi_X3_classify.2.1 52 = .ok (.getfield 25, 3) := by decide +kernel
theorem dX3_classify_55 : decode mi_X3_classify.2.1 55 = .ok (.aload_n 0, 1) := by decide +kernel
theorem dX3_classify_56 : decode mi_X3_classify.2.1 56 = .ok (.getfield 25, 3) := by decide +kernel
theorem dX3_classify_59 : decode mi_X3_classify.2.1 59 = .ok (.iload 4, 2) := by decide +kernel
theorem dX3_classify_61 : decode mi_X3_classify.2.1 61 = .ok (.aload_n 0, 1) := by decide +kernel
theorem dX3_classify_62 : decode mi_X3_classify.2.1 62 = .ok (.getfield 22, 3) := by decide +kernel
theorem dX3_classify_65 : decode mi_X3_classify.2.1 65 = .ok (.iload_n 2, 1) := by decide +kernel
theorem dX3_classify_66 : decode mi_X3_classify.2.1 66 = .ok (.iaload, 1) := by decide +kernel
theorem dX3_classify_67 : decode mi_X3_classify.2.1 67 = .ok (.invokevirtual 71, 3) := by decide +kernel
theorem dX3_classify_70 : decode mi_X3_classify.2.1 70 = .ok (.aload_n 0, 1) := by decide +kernel
theorem dX3_classify_71 : decode mi_X3_classify.2.1 71 = .ok (.getfield 25, 3) := by decide +kernel
theorem dX3_classify_74 : decode mi_X3_classify.2.1 74 = .ok (.iload 4, 2) := by decide +kernel
theorem dX3_classify_76 : decode mi_X3_classify.2.1 76 = .ok (.invokevirtual 87, 3) := by decide +kernel
theorem dX3_classify_79 : decode mi_X3_classify.2.1 79 = .ok (.invokevirtual 71, 3) := by decide +kernel
theorem dX3_classify_82 : decode mi_X3_classify.2.1 82 = .ok (.invokevirtual 84, 3) := by decide +kernel
theorem dX3_classify_85 : decode mi_X3_classify.2.1 85 = .ok (.iinc 3 1, 3) := by decide +kernel
theorem dX3_classify_88 : decode mi_X3_classify.2.1 88 = .ok (.goto (-59), 3) := by decide +kernel
theorem dX3_classify_91 : decode mi_X3_classify.2.1 91 = .ok (.iinc 2 1, 3) := by decide +kernel
theorem dX3_classify_94 : decode mi_X3_classify.2.1 94 = .ok (.goto (-82), 3) := by decide +kernel
theorem dX3_classify_97 : decode mi_X3_classify.2.1 97 = .ok (.return_, 1) := by decide +kernel
theorem dX3_admitToClass_0 : decode mi_X3_admitToClass.2.1 0 = .ok (.iload_n 1, 1) := by decide +kernel
theorem dX3_admitToClass_1 : decode mi_X3_admitToClass.2.1 1 = .ok (.sipush 300, 3) := by decide +kernel
theorem dX3_admitToClass_4 : decode mi_X3_admitToClass.2.1 4 = .ok (.invokestatic 37, 3) := by decide +kernel
theorem dX3_admitToClass_7 : decode mi_X3_admitToClass.2.1 7 = .ok (.ifCond .eq 52, 3) := by decide +kernel
theorem dX3_admitToClass_10 : decode mi_X3_admitToClass.2.1 10 = .ok (.aload_n 0, 1) := by decide +kernel
theorem dX3_admitToClass_11 : decode mi_X3_admitToClass.2.1 11 = .ok (.getfield 19, 3) := by decide +kernel
theorem dX3_admitToClass_14 : decode mi_X3_admitToClass.2.1 14 = .ok (.iload_n 1, 1) := by decide +kernel
theorem dX3_admitToClass_15 : decode mi_X3_admitToClass.2.1 15 = .ok (.baload, 1) := by decide +kernel
theorem dX3_admitToClass_16 : decode mi_X3_admitToClass.2.1 16 = .ok (.ifCond .ne 43, 3) := by decide +kernel
theorem dX3_admitToClass_19 : decode mi_X3_admitToClass.2.1 19 = .ok (.aload_n 0, 1) := by decide +kernel
theorem dX3_admitToClass_20 : decode mi_X3_admitToClass.2.1 20 = .ok (.getfield 81, 3) := by decide +kernel
theorem dX3_admitToClass_23 : decode mi_X3_admitToClass.2.1 23 = .ok (.sipush 300, 3) := by decide +kernel
theorem dX3_admitToClass_26 : decode mi_X3_admitToClass.2.1 26 = .ok (.invokestatic 37, 3) := by decide +kernel
theorem dX3_admitToClass_29 : decode mi_X3_admitToClass.2.1 29 = .ok (.ifCond .eq 30, 3) := by decide +kernel
theorem dX3_admitToClass_32 : decode mi_X3_admitToClass.2.1 32 = .ok (.aload_n 0, 1) := by decide +kernel
theorem dX3_admitToClass_33 : decode mi_X3_admitToClass.2.1 33 = .ok (.getfield 19, 3) := by decide +kernel
theorem dX3_admitToClass_36 : decode mi_X3_admitToClass.2.1 36 = .ok (.iload_n 1, 1) := by decide +kernel
theorem dX3_admitToClass_37 : decode mi_X3_admitToClass.2.1 37 = .ok (.iconst 1, 1) := by decide +kernel
theorem dX3_admitToClass_38 : decode mi_X3_admitToClass.2.1 38 = .ok (.bastore, 1) := by decide +kernel
theorem dX3_admitToClass_39 : decode mi_X3_admitToClass.2.1 39 = .ok (.aload_n 0, 1) := by decide +kernel
theorem dX3_admitToClass_40 : decode mi_X3_admitToClass.2.1 40 = .ok (.getfield 22, 3) := by decide +kernel
theorem dX3_admitToClass_43 : decode mi_X3_admitToClass.2.1 43 = .ok (.aload_n 0, 1) := by decide +kernel
theorem dX3_admitToClass_44 : decode mi_X3_admitToClass.2.1 44 = .ok (.getfield 81, 3) := by decide +kernel
theorem dX3_admitToClass_47 : decode mi_X3_admitToClass.2.1 47 = .ok (.iload_n 1, 1) := by decide +kernel
theorem dX3_admitToClass_48 : decode mi_X3_admitToClass.2.1 48 = .ok (.iastore, 1) := by decide +kernel
theorem dX3_admitToClass_49 : decode mi_X3_admitToClass.2.1 49 = .ok (.aload_n 0, 1) := by decide +kernel
theorem dX3_admitToClass_50 : decode mi_X3_admitToClass.2.1 50 = .ok (.dup, 1) := by decide +kernel
theorem dX3_admitToClass_51 : decode mi_X3_admitToClass.2.1 51 = .ok (.getfield 81, 3) := by decide +kernel
theorem dX3_admitToClass_54 : decode mi_X3_admitToClass.2.1 54 = .ok (.iconst 1, 1) := by decide +kernel
theorem dX3_admitToClass_55 : decode mi_X3_admitToClass.2.1 55 = .ok (.iadd, 1) := by decide +kernel
theorem dX3_admitToClass_56 : decode mi_X3_admitToClass.2.1 56 = .ok (.putfield 81, 3) := by decide +kernel
theorem dX3_admitToClass_59 : decode mi_X3_admitToClass.2.1 59 = .ok (.return_, 1) := by decide +kernel
theorem dX4_isEmpty_0 : decode mi_X4_isEmpty.2.1 0 = .ok (.aload_n 0, 1) := by decide +kernel
theorem dX4_isEmpty_1 : decode mi_X4_isEmpty.2.1 1 = .ok (.getfield 16, 3) := by decide +kernel
theorem dX4_isEmpty_4 : decode mi_X4_isEmpty.2.1 4 = .ok (.ifCond .gt 7, 3) := by decide +kernel
theorem dX4_isEmpty_7 : decode mi_X4_isEmpty.2.1 7 = .ok (.iconst 1, 1) := by decide +kernel
theorem dX4_isEmpty_8 : decode mi_X4_isEmpty.2.1 8 = .ok (.goto 4, 3) := by decide +kernel
theorem dX4_isEmpty_11 : decode mi_X4_isEmpty.2.1 11 = .ok (.iconst 0, 1) := by decide +kernel
theorem dX4_isEmpty_12 : decode mi_X4_isEmpty.2.1 12 = .ok (.ireturn, 1) := by decide +kernel
theorem dX4_save_0 : decode mi_X4_save.2.1 0 = .ok (.aload_n 0, 1) := by decide +kernel
theorem dX4_save_1 : decode mi_X4_save.2.1 1 = .ok (.getfield 16, 3) := by decide +kernel
theorem dX4_save_4 : decode mi_X4_save.2.1 4 = .ok (.iconst 4, 1) := by decide +kernel
theorem dX4_save_5 : decode mi_X4_save.2.1 5 = .ok (.if_icmp .lt 7, 3) := by decide +kernel
theorem dX4_save_8 : decode mi_X4_save.2.1 8 = .ok (.aload_n 0, 1) := by decide +kernel
theorem dX4_save_9 : decode mi_X4_save.2.1 9 = .ok (.invokevirtual 20, 3) := by decide +kernel
theorem dX4_save_12 : decode mi_X4_save.2.1 12 = .ok (.aload_n 0, 1) := by decide +kernel
theorem dX4_save_13 : decode mi_X4_save.2.1 13 = .ok (.getfield 16, 3) := by decide +kernel
theorem dX4_save_16 : decode mi_X4_save.2.1 16 = .ok (.iconst 4, 1) := by decide +kernel
theorem dX4_save_17 : decode mi_X4_save.2.1 17 = .ok (.invokestatic 23, 3) := by decide +kernel
theorem dX4_save_20 : decode mi_X4_save.2.1 20 = .ok (.ifCond .eq 27, 3) := by decide +kernel
theorem dX4_save_23 : decode mi_X4_save.2.1 23 = .ok (.aload_n 0, 1) := by decide +kernel
theorem dX4_save_24 : decode mi_X4_save.2.1 24 = .ok (.getfield 13, 3) := by decide +kernel
theorem dX4_save_27 : decode mi_X4_save.2.1 27 = .ok (.aload_n 0, 1) := by decide +kernel
theorem dX4_save_28 : decode mi_X4_save.2.1 28 = .ok (.getfield 16, 3) := by decide +kernel
theorem dX4_save_31 : decode mi_X4_save.2.1 31 = .ok (.aaload, 1) := by decide +kernel
theorem dX4_save_32 : decode mi_X4_save.2.1 32 = .ok (.aload_n 1, 1) := by decide +kernel
theorem dX4_save_33 : decode mi_X4_save.2.1 33 = .ok (.aload_n 2, 1) := by decide +kernel
theorem dX4_save_34 : decode mi_X4_save.2.1 34 = .ok (.invokestatic 27, 3) := by decide +kernel
theorem dX4_save_37 : decode mi_X4_save.2.1 37 = .ok (.aload_n 0, 1) := by decide +kernel
theorem dX4_save_38 : decode mi_X4_save.2.1 38 = .ok (.dup, 1) := by decide +kernel
theorem dX4_save_39 : decode mi_X4_save.2.1 39 = .ok (.getfield 16, 3) := by decide +kernel
theorem dX4_save_42 : decode mi_X4_save.2.1 42 = .ok (.iconst 1, 1) := by decide +kernel
theorem dX4_save_43 : decode mi_X4_save.2.1 43 = .ok (.iadd, 1) := by decide +kernel
theorem dX4_save_44 : decode mi_X4_save.2.1 44 = .ok (.putfield 16, 3) := by decide +kernel
theorem dX4_save_47 : decode mi_X4_save.2.1 47 = .ok (.return_, 1) := by decide +kernel
theorem dX4_restore_0 : decode mi_X4_restore.2.1 0 = .ok (.aload_n 0, 1) := by decide +kernel
theorem dX4_restore_1 : decode mi_X4_restore.2.1 1 = .ok (.getfield 16, 3) := by decide +kernel
theorem dX4_restore_4 : decode mi_X4_restore.2.1 4 = .ok (.iconst 1, 1) := by decide +kernel
theorem dX4_restore_5 : decode mi_X4_restore.2.1 5 = .ok (.isub, 1) := by decide +kernel
theorem dX4_restore_6 : decode mi_X4_restore.2.1 6 = .ok (.iconst 4, 1) := by decide +kernel
theorem dX4_restore_7 : decode mi_X4_restore.2.1 7 = .ok (.invokestatic 23, 3) := by decide +kernel
theorem dX4_restore_10 : decode mi_X4_restore.2.1 10 = .ok (.ifCond .eq 27, 3) := by decide +kernel
theorem dX4_restore_13 : decode mi_X4_restore.2.1 13 = .ok (.aload_n 0, 1) := by decide +kernel
theorem dX4_restore_14 : decode mi_X4_restore.2.1 14 = .ok (.dup, 1) := by decide +kernel
theorem dX4_restore_15 : decode mi_X4_restore.2.1 15 = .ok (.getfield 16, 3) := by decide +kernel
theorem dX4_restore_18 : decode mi_X4_restore.2.1 18 = .ok (.iconst 1, 1) := by decide +kernel
theorem dX4_restore_19 : decode mi_X4_restore.2.1 19 = .ok (.isub, 1) := by decide +kernel
theorem dX4_restore_20 : decode mi_X4_restore.2.1 20 = .ok (.putfield 16, 3) := by decide +kernel
theorem dX4_restore_23 : decode mi_X4_restore.2.1 23 = .ok (.aload_n 0, 1) := by decide +kernel
theorem dX4_restore_24 : decode mi_X4_restore.2.1 24 = .ok (.getfield 13, 3) := by decide +kernel
theorem dX4_restore_27 : decode mi_X4_restore.2.1 27 = .ok (.aload_n 0, 1) := by decide +kernel
theorem dX4_restore_28 : decode mi_X4_restore.2.1 28 = .ok (.getfield 16, 3) := by decide +kernel
theorem dX4_restore_31 : decode mi_X4_restore.2.1 31 = .ok (.aaload, 1) := by decide +kernel
theorem dX4_restore_32 : decode mi_X4_restore.2.1 32 = .ok (.aload_n 1, 1) := by decide +kernel
theorem dX4_restore_33 : decode mi_X4_restore.2.1 33 = .ok (.aload_n 2, 1) := by decide +kernel
theorem dX4_restore_34 : decode mi_X4_restore.2.1 34 = .ok (.invokestatic 31, 3) := by decide +kernel
theorem dX4_restore_37 : decode mi_X4_restore.2.1 37 = .ok (.return_, 1) := by decide +kernel
theorem dX4_forgetOldest_0 : decode mi_X4_forgetOldest.2.1 0 = .ok (.iconst 1, 1) := by decide +kernel
theorem dX4_forgetOldest_1 : decode mi_X4_forgetOldest.2.1 1 = .ok (.istore_n 1, 1) := by decide +kernel
theorem dX4_forgetOldest_2 : decode mi_X4_forgetOldest.2.1 2 = .ok (.iload_n 1, 1) := by decide +kernel
theorem dX4_forgetOldest_3 : decode mi_X4_forgetOldest.2.1 3 = .ok (.iconst 4, 1) := by decide +kernel
theorem dX4_forgetOldest_4 : decode mi_X4_forgetOldest.2.1 4 = .ok (.if_icmp .ge 41, 3) := by decide +kernel
theorem dX4_forgetOldest_7 : decode mi_X4_forgetOldest.2.1 7 = .ok (.iconst 0, 1) := by decide +kernel
theorem dX4_forgetOldest_8 : decode mi_X4_forgetOldest.2.1 8 = .ok (.istore_n 2, 1) := by decide +kernel
theorem dX4_forgetOldest_9 : decode mi_X4_forgetOldest.2.1 9 = .ok (.iload_n 2, 1) := by decide +kernel
theorem dX4_forgetOldest_10 : decode mi_X4_forgetOldest.2.1 10 = .ok (.bipush 7, 2) := by decide +kernel
theorem dX4_forgetOldest_12 : decode mi_X4_forgetOldest.2.1 12 = .ok (.if_icmp .ge 27, 3) := by decide +kernel
theorem dX4_forgetOldest_15 : decode mi_X4_forgetOldest.2.1 15 = .ok (.aload_n 0, 1) := by decide +kernel
theorem dX4_forgetOldest_16 : decode mi_X4_forgetOldest.2.1 16 = .ok (.getfield 13, 3) := by decide +kernel
theorem dX4_forgetOldest_19 : decode mi_X4_forgetOldest.2.1 19 = .ok (.iload_n 1, 1) := by decide +kernel
theorem dX4_forgetOldest_20 : decode mi_X4_forgetOldest.2.1 20 = .ok (.iconst 1, 1) := by decide +kernel
theorem dX4_forgetOldest_21 : decode mi_X4_forgetOldest.2.1 21 = .ok (.isub, 1) := by decide +kernel
theorem dX4_forgetOldest_22 : decode mi_X4_forgetOldest.2.1 22 = .ok (.aaload, 1) := by decide +kernel
theorem dX4_forgetOldest_23 : decode mi_X4_forgetOldest.2.1 23 = .ok (.iload_n 2, 1) := by decide +kernel
theorem dX4_forgetOldest_24 : decode mi_X4_forgetOldest.2.1 24 = .ok (.aload_n 0, 1) := by decide +kernel
theorem dX4_forgetOldest_25 : decode mi_X4_forgetOldest.2.1 25 = .ok (.getfield 13, 3) := by decide +kernel
theorem dX4_forgetOldest_28 : decode mi_X4_forgetOldest.2.1 28 = .ok (.iload_n 1, 1) := by decide +kernel
theorem dX4_forgetOldest_29 : decode mi_X4_forgetOldest.2.1 29 = .ok (.aaload, 1) := by decide +kernel
theorem dX4_forgetOldest_30 : decode mi_X4_forgetOldest.2.1 30 = .ok (.iload_n 2, 1) := by decide +kernel
theorem dX4_forgetOldest_31 : decode mi_X4_forgetOldest.2.1 31 = .ok (.iaload, 1) := by decide +kernel
theorem dX4_forgetOldest_32 : decode mi_X4_forgetOldest.2.1 32 = .ok (.iastore, 1) := by decide +kernel
theorem dX4_forgetOldest_33 : decode mi_X4_forgetOldest.2.1 33 = .ok (.iinc 2 1, 3) := by decide +kernel
theorem dX4_forgetOldest_36 : decode mi_X4_forgetOldest.2.1 36 = .ok (.goto (-27), 3) := by decide +kernel
theorem dX4_forgetOldest_39 : decode mi_X4_forgetOldest.2.1 39 = .ok (.iinc 1 1, 3) := by decide +kernel
theorem dX4_forgetOldest_42 : decode mi_X4_forgetOldest.2.1 42 = .ok (.goto (-40), 3) := by decide +kernel
theorem dX4_forgetOldest_45 : decode mi_X4_forgetOldest.2.1 45 = .ok (.aload_n 0, 1) := by decide +kernel
theorem dX4_forgetOldest_46 : decode mi_X4_forgetOldest.2.1 46 = .ok (.iconst 3, 1) := by decide +kernel
theorem dX4_forgetOldest_47 : decode mi_X4_forgetOldest.2.1 47 = .ok (.putfield 16, 3) := by decide +kernel
theorem dX4_forgetOldest_50 : decode mi_X4_forgetOldest.2.1 50 = .ok (.return_, 1) := by decide +kernel
theorem dX4_write_0 : decode mi_X4_write.2.1 0 = .ok (.aload_n 0, 1) := by decide +kernel
theorem dX4_write_1 : decode mi_X4_write.2.1 1 = .ok (.arraylength, 1) := by decide +kernel
theorem dX4_write_2 : decode mi_X4_write.2.1 2 = .ok (.bipush 7, 2) := by decide +kernel
theorem dX4_write_4 : decode mi_X4_write.2.1 4 = .ok (.if_icmp .ge 4, 3) := by decide +kernel
theorem dX4_write_7 : decode mi_X4_write.2.1 7 = .ok (.return_, 1) := by decide +kernel
theorem dX4_write_8 : decode mi_X4_write.2.1 8 = .ok (.aload_n 0, 1) := by decide +kernel
theorem dX4_write_9 : decode mi_X4_write.2.1 9 = .ok (.iconst 0, 1) := by decide +kernel
theorem dX4_write_10 : decode mi_X4_write.2.1 10 = .ok (.aload_n 1, 1) := by decide +kernel
theorem dX4_write_11 : decode mi_X4_write.2.1 11 = .ok (.getfield 34, 3) := by decide +kernel
theorem dX4_write_14 : decode mi_X4_write.2.1 14 = .ok (.iastore, 1) := by decide +kernel
theorem dX4_write_15 : decode mi_X4_write.2.1 15 = .ok (.aload_n 0, 1) := by decide +kernel
theorem dX4_write_16 : decode mi_X4_write.2.1 16 = .ok (.iconst 1, 1) := by decide +kernel
theorem dX4_write_17 : decode mi_X4_write.2.1 17 = .ok (.aload_n 1, 1) := by decide +kernel
theorem dX4_write_18 : decode mi_X4_write.2.1 18 = .ok (.getfield 39, 3) := by decide +kernel
theorem dX4_write_21 : decode mi_X4_write.2.1 21 = .ok (.iastore, 1) := by decide +kernel
theorem dX4_write_22 : decode mi_X4_write.2.1 22 = .ok (.aload_n 0, 1) := by decide +kernel
theorem dX4_write_23 : decode mi_X4_write.2.1 23 = .ok (.iconst 2, 1) := by decide +kernel
theorem dX4_write_24 : decode mi_X4_write.2.1 24 = .ok (.aload_n 2, 1) := by decide +kernel
theorem dX4_write_25 : decode mi_X4_write.2.1 25 = .ok (.getfield 42, 3) := by decide +kernel
theorem dX4_write_28 : decode mi_X4_write.2.1 28 = .ok (.iastore, 1) := by decide +kernel
theorem dX4_write_29 : decode mi_X4_write.2.1 29 = .ok (.iconst 0, 1) := by decide +kernel
theorem dX4_write_30 : decode mi_X4_write.2.1 30 = .ok (.istore_n 3, 1) := by decide +kernel
theorem dX4_write_31 : decode mi_X4_write.2.1 31 = .ok (.iload_n 3, 1) := by decide +kernel
theorem dX4_write_32 : decode mi_X4_write.2.1 32 = .ok (.iconst 4, 1) := by decide +kernel
theorem dX4_write_33 : decode mi_X4_write.2.1 33 = .ok (.if_icmp .ge 19, 3) := by decide +kernel
theorem dX4_write_36 : decode mi_X4_write.2.1 36 = .ok (.aload_n 0, 1) := by decide +kernel
theorem dX4_write_37 : decode mi_X4_write.2.1 37 = .ok (.iconst 3, 1) := by decide +kernel
theorem dX4_write_38 : decode mi_X4_write.2.1 38 = .ok (.iload_n 3, 1) := by decide +kernel
theorem dX4_write_39 : decode mi_X4_write.2.1 39 = .ok (.iadd, 1) := by decide +kernel
theorem dX4_write_40 : decode mi_X4_write.2.1 40 = .ok (.aload_n 2, 1) := by decide +kernel
theorem dX4_write_41 : decode mi_X4_write.2.1 41 = .ok (.iload_n 3, 1) := by decide +kernel
theorem dX4_write_42 : decode mi_X4_write.2.1 42 = .ok (.invokevirtual 47, 3) := by decide +kernel
theorem dX4_write_45 : decode mi_X4_write.2.1 45 = .ok (.iastore, 1) := by decide +kernel
theorem dX4_write_46 : decode mi_X4_write.2.1 46 = .ok (.iinc 3 1, 3) := by decide +kernel
theorem dX4_write_49 : decode mi_X4_write.2.1 49 = .ok (.goto (-18), 3) := by decide +kernel
theorem dX4_write_52 : decode mi_X4_write.2.1 52 = .ok (.return_, 1) := by decide +kernel
theorem dX4_read_0 : decode mi_X4_read.2.1 0 = .ok (.aload_n 0, 1) := by decide +kernel
theorem dX4_read_1 : decode mi_X4_read.2.1 1 = .ok (.arraylength, 1) := by decide +kernel
theorem dX4_read_2 : decode mi_X4_read.2.1 2 = .ok (.bipush 7, 2) := by decide +kernel
theorem dX4_read_4 : decode mi_X4_read.2.1 4 = .ok (.if_icmp .ge 4, 3) := by decide +kernel
theorem dX4_read_7 : decode mi_X4_read.2.1 7 = .ok (.return_, 1) := by decide +kernel
theorem dX4_read_8 : decode mi_X4_read.2.1 8 = .ok (.aload_n 1, 1) := by decide +kernel
theorem dX4_read_9 : decode mi_X4_read.2.1 9 = .ok (.aload_n 0, 1) := by decide +kernel
theorem dX4_read_10 : decode mi_X4_read.2.1 10 = .ok (.iconst 0, 1) := by decide +kernel
theorem dX4_read_11 : decode mi_X4_read.2.1 11 = .ok (.iaload, 1) := by decide +kernel
theorem dX4_read_12 : decode mi_X4_read.2.1 12 = .ok (.aload_n 0, 1) := by decide +kernel
theorem dX4_read_13 : decode mi_X4_read.2.1 13 = .ok (.iconst 1, 1) := by decide +kernel
theorem dX4_read_14 : decode mi_X4_read.2.1 14 = .ok (.iaload, 1) := by decide +kernel
theorem dX4_read_15 : decode mi_X4_read.2.1 15 = .ok (.invokevirtual 51, 3) := by decide +kernel
theorem dX4_read_18 : decode mi_X4_read.2.1 18 = .ok (.aload_n 2, 1) := by decide +kernel
theorem dX4_read_19 : decode mi_X4_read.2.1 19 = .ok (.aload_n 0, 1) := by decide +kernel
theorem dX4_read_20 : decode mi_X4_read.2.1 20 = .ok (.iconst 2, 1) := by decide +kernel
theorem dX4_read_21 : decode mi_X4_read.2.1 21 = .ok (.iaload, 1) := by decide +kernel
theorem dX4_read_22 : decode mi_X4_read.2.1 22 = .ok (.putfield 42, 3) := by decide +kernel
theorem dX4_read_25 : decode mi_X4_read.2.1 25 = .ok (.iconst 0, 1) := by decide +kernel
theorem dX4_read_26 : decode mi_X4_read.2.1 26 = .ok (.istore_n 3, 1) := by decide +kernel
theorem dX4_read_27 : decode mi_X4_read.2.1 27 = .ok (.iload_n 3, 1) := by decide +kernel
theorem dX4_read_28 : decode mi_X4_read.2.1 28 = .ok (.iconst 4, 1) := by decide +kernel
theorem dX4_read_29 : decode mi_X4_read.2.1 29 = .ok (.if_icmp .ge 19, 3) := by decide +kernel
theorem dX4_read_32 : decode mi_X4_read.2.1 32 = .ok (.aload_n 2, 1) := by decide +kernel
theorem dX4_read_33 : decode mi_X4_read.2.1 33 = .ok (.iload_n 3, 1) := by decide +kernel
theorem dX4_read_34 : decode mi_X4_read.2.1 34 = .ok (.aload_n 0, 1) := by decide +kernel
theorem dX4_read_35 : decode mi_X4_read.2.1 35 = .ok (.iconst 3, 1) := by decide +kernel
theorem dX4_read_36 : decode mi_X4_read.2.1 36 = .ok (.iload_n 3, 1) := by decide +kernel
theorem dX4_read_37 : decode mi_X4_read.2.1 37 = .ok (.iadd, 1) := by decide +kernel
theorem dX4_read_38 : decode mi_X4_read.2.1 38 = .ok (.iaload, 1) := by decide +kernel
theorem dX4_read_39 : decode mi_X4_read.2.1 39 = .ok (.invokevirtual 55, 3) := by decide +kernel
theorem dX4_read_42 : decode mi_X4_read.2.1 42 = .ok (.iinc 3 1, 3) := by decide +kernel
theorem dX4_read_45 : decode mi_X4_read.2.1 45 = .ok (.goto (-18), 3) := by decide +kernel
theorem dX4_read_48 : decode mi_X4_read.2.1 48 = .ok (.return_, 1) := by decide +kernel
theorem dX5_choose_0 : decode mi_X5_choose.2.1 0 = .ok (.aload_n 0, 1) := by decide +kernel
theorem dX5_choose_1 : decode mi_X5_choose.2.1 1 = .ok (.iload_n 1, 1) := by decide +kernel
theorem dX5_choose_2 : decode mi_X5_choose.2.1 2 = .ok (.putfield 9, 3) := by decide +kernel
theorem dX5_choose_5 : decode mi_X5_choose.2.1 5 = .ok (.aload_n 0, 1) := by decide +kernel
theorem dX5_choose_6 : decode mi_X5_choose.2.1 6 = .ok (.iload_n 2, 1) := by decide +kernel
theorem dX5_choose_7 : decode mi_X5_choose.2.1 7 = .ok (.putfield 15, 3) := by decide +kernel
theorem dX5_choose_10 : decode mi_X5_choose.2.1 10 = .ok (.return_, 1) := by decide +kernel
theorem dX5_turns_0 : decode mi_X5_turns.2.1 0 = .ok (.aload_n 0, 1) := by decide +kernel
theorem dX5_turns_1 : decode mi_X5_turns.2.1 1 = .ok (.getfield 9, 3) := by decide +kernel
theorem dX5_turns_4 : decode mi_X5_turns.2.1 4 = .ok (.iconst 1, 1) := by decide +kernel
theorem dX5_turns_5 : decode mi_X5_turns.2.1 5 = .ok (.if_icmp .ne 8, 3) := by decide +kernel
theorem dX5_turns_8 : decode mi_X5_turns.2.1 8 = .ok (.bipush 6, 2) := by decide +kernel
theorem dX5_turns_10 : decode mi_X5_turns.2.1 10 = .ok (.goto 4, 3) := by decide +kernel
theorem dX5_turns_13 : decode mi_X5_turns.2.1 13 = .ok (.iconst 4, 1) := by decide +kernel
theorem dX5_turns_14 : decode mi_X5_turns.2.1 14 = .ok (.ireturn, 1) := by decide +kernel
theorem dX5_parts_0 : decode mi_X5_parts.2.1 0 = .ok (.iconst 2, 1) := by decide +kernel
theorem dX5_parts_1 : decode mi_X5_parts.2.1 1 = .ok (.aload_n 0, 1) := by decide +kernel
theorem dX5_parts_2 : decode mi_X5_parts.2.1 2 = .ok (.invokevirtual 18, 3) := by decide +kernel
theorem dX5_parts_5 : decode mi_X5_parts.2.1 5 = .ok (.imul, 1) := by decide +kernel
theorem dX5_parts_6 : decode mi_X5_parts.2.1 6 = .ok (.ireturn, 1) := by decide +kernel
theorem dX5_cellCount_0 : decode mi_X5_cellCount.2.1 0 = .ok (.aload_n 0, 1) := by decide +kernel
theorem dX5_cellCount_1 : decode mi_X5_cellCount.2.1 1 = .ok (.getfield 15, 3) := by decide +kernel
theorem dX5_cellCount_4 : decode mi_X5_cellCount.2.1 4 = .ok (.aload_n 0, 1) := by decide +kernel
theorem dX5_cellCount_5 : decode mi_X5_cellCount.2.1 5 = .ok (.getfield 15, 3) := by decide +kernel
theorem dX5_cellCount_8 : decode mi_X5_cellCount.2.1 8 = .ok (.imul, 1) := by decide +kernel
theorem dX5_cellCount_9 : decode mi_X5_cellCount.2.1 9 = .ok (.ireturn, 1) := by decide +kernel
theorem dX5_codes_0 : decode mi_X5_codes.2.1 0 = .ok (.aload_n 0, 1) := by decide +kernel
theorem dX5_codes_1 : decode mi_X5_codes.2.1 1 = .ok (.invokevirtual 22, 3) := by decide +kernel
theorem dX5_codes_4 : decode mi_X5_codes.2.1 4 = .ok (.aload_n 0, 1) := by decide +kernel
theorem dX5_codes_5 : decode mi_X5_codes.2.1 5 = .ok (.invokevirtual 25, 3) := by decide +kernel
theorem dX5_codes_8 : decode mi_X5_codes.2.1 8 = .ok (.imul, 1) := by decide +kernel
theorem dX5_codes_9 : decode mi_X5_codes.2.1 9 = .ok (.ireturn, 1) := by decide +kernel
theorem dX5_hasCell_0 : decode mi_X5_hasCell.2.1 0 = .ok (.iload_n 1, 1) := by decide +kernel
theorem dX5_hasCell_1 : decode mi_X5_hasCell.2.1 1 = .ok (.aload_n 0, 1) := by decide +kernel
theorem dX5_hasCell_2 : decode mi_X5_hasCell.2.1 2 = .ok (.getfield 15, 3) := by decide +kernel
theorem dX5_hasCell_5 : decode mi_X5_hasCell.2.1 5 = .ok (.invokestatic 28, 3) := by decide +kernel
theorem dX5_hasCell_8 : decode mi_X5_hasCell.2.1 8 = .ok (.ifCond .eq 18, 3) := by decide +kernel
theorem dX5_hasCell_11 : decode mi_X5_hasCell.2.1 11 = .ok (.iload_n 2, 1) := by decide +kernel
theorem dX5_hasCell_12 : decode mi_X5_hasCell.2.1 12 = .ok (.aload_n 0, 1) := by decide +kernel
theorem dX5_hasCell_13 : decode mi_X5_hasCell.2.1 13 = .ok (.getfield 15, 3) := by decide +kernel
theorem dX5_hasCell_16 : decode mi_X5_hasCell.2.1 16 = .ok (.invokestatic 28, 3) := by decide +kernel
theorem dX5_hasCell_19 : decode mi_X5_hasCell.2.1 19 = .ok (.ifCond .eq 7, 3) := by decide +kernel
theorem dX5_hasCell_22 : decode mi_X5_hasCell.2.1 22 = .ok (.iconst 1, 1) := by decide +kernel
theorem dX5_hasCell_23 : decode mi_X5_hasCell.2.1 23 = .ok (.goto 4, 3) := by decide +kernel
theorem dX5_hasCell_26 : decode mi_X5_hasCell.2.1 26 = .ok (.iconst 0, 1) := by decide +kernel
theorem dX5_hasCell_27 : decode mi_X5_hasCell.2.1 27 = .ok (.ireturn, 1) := by decide +kernel
theorem dX5_hasMovement_0 : decode mi_X5_hasMovement.2.1 0 = .ok (.iload_n 1, 1) := by decide +kernel
theorem dX5_hasMovement_1 : decode mi_X5_hasMovement.2.1 1 = .ok (.aload_n 0, 1) := by decide +kernel
theorem dX5_hasMovement_2 : decode mi_X5_hasMovement.2.1 2 = .ok (.invokevirtual 22, 3) := by decide +kernel
theorem dX5_hasMovement_5 : decode mi_X5_hasMovement.2.1 5 = .ok (.invokestatic 28, 3) := by decide +kernel
theorem dX5_hasMovement_8 : decode mi_X5_hasMovement.2.1 8 = .ok (.ifCond .eq 16, 3) := by decide +kernel
theorem dX5_hasMovement_11 : decode mi_X5_hasMovement.2.1 11 = .ok (.aload_n 0, 1) := by decide +kernel
theorem dX5_hasMovement_12 : decode mi_X5_hasMovement.2.1 12 = .ok (.iload_n 2, 1) := by decide +kernel
theorem dX5_hasMovement_13 : decode mi_X5_hasMovement.2.1 13 = .ok (.iload_n 3, 1) := by decide +kernel
theorem dX5_hasMovement_14 : decode mi_X5_hasMovement.2.1 14 = .ok (.invokevirtual 32, 3) := by decide +kernel
theorem dX5_hasMovement_17 : decode mi_X5_hasMovement.2.1 17 = .ok (.ifCond .eq 7, 3) := by decide +kernel
theorem dX5_hasMovement_20 : decode mi_X5_hasMovement.2.1 20 = .ok (.iconst 1, 1) := by decide +kernel
theorem dX5_hasMovement_21 : decode mi_X5_hasMovement.2.1 21 = .ok (.goto 4, 3) := by decide +kernel
theorem dX5_hasMovement_24 : decode mi_X5_hasMovement.2.1 24 = .ok (.iconst 0, 1) := by decide +kernel
theorem dX5_hasMovement_25 : decode mi_X5_hasMovement.2.1 25 = .ok (.ireturn, 1) := by decide +kernel
theorem dX5_hasCode_0 : decode mi_X5_hasCode.2.1 0 = .ok (.iload_n 1, 1) := by decide +kernel
theorem dX5_hasCode_1 : decode mi_X5_hasCode.2.1 1 = .ok (.aload_n 0, 1) := by decide +kernel
theorem dX5_hasCode_2 : decode mi_X5_hasCode.2.1 2 = .ok (.invokevirtual 35, 3) := by decide +kernel
theorem dX5_hasCode_5 : decode mi_X5_hasCode.2.1 5 = .ok (.invokestatic 28, 3) := by decide +kernel
theorem dX5_hasCode_8 : decode mi_X5_hasCode.2.1 8 = .ok (.ireturn, 1) := by decide +kernel
theorem dX5_cellOf_0 : decode mi_X5_cellOf.2.1 0 = .ok (.aload_n 0, 1) := by decide +kernel
theorem dX5_cellOf_1 : decode mi_X5_cellOf.2.1 1 = .ok (.getfield 15, 3) := by decide +kernel
end
section
theorem dX5_cellOf_4 : decode mi_X5_cellOf.2.1 4 = .ok (.iload_n 1, 1) := by decide +kernel
theorem dX5_cellOf_5 : decode mi_X5_cellOf.2.1 5 = .ok (.imul, 1) := by decide +kernel
theorem dX5_cellOf_6 : decode mi_X5_cellOf.2.1 6 = .ok (.iload_n 2, 1) := by decide +kernel
theorem dX5_cellOf_7 : decode mi_X5_cellOf.2.1 7 = .ok (.iadd, 1) := by decide +kernel
theorem dX5_cellOf_8 : decode mi_X5_cellOf.2.1 8 = .ok (.ireturn, 1) := by decide +kernel
theorem dX5_codeOf_0 : decode mi_X5_codeOf.2.1 0 = .ok (.iload_n 1, 1) := by decide +kernel
theorem dX5_codeOf_1 : decode mi_X5_codeOf.2.1 1 = .ok (.aload_n 0, 1) := by decide +kernel
theorem dX5_codeOf_2 : decode mi_X5_codeOf.2.1 2 = .ok (.invokevirtual 25, 3) := by decide +kernel
theorem dX5_codeOf_5 : decode mi_X5_codeOf.2.1 5 = .ok (.imul, 1) := by decide +kernel
theorem dX5_codeOf_6 : decode mi_X5_codeOf.2.1 6 = .ok (.aload_n 0, 1) := by decide +kernel
theorem dX5_codeOf_7 : decode mi_X5_codeOf.2.1 7 = .ok (.iload_n 2, 1) := by decide +kernel
theorem dX5_codeOf_8 : decode mi_X5_codeOf.2.1 8 = .ok (.iload_n 3, 1) := by decide +kernel
theorem dX5_codeOf_9 : decode mi_X5_codeOf.2.1 9 = .ok (.invokevirtual 38, 3) := by decide +kernel
theorem dX5_codeOf_12 : decode mi_X5_codeOf.2.1 12 = .ok (.iadd, 1) := by decide +kernel
theorem dX5_codeOf_13 : decode mi_X5_codeOf.2.1 13 = .ok (.ireturn, 1) := by decide +kernel
theorem dX5_partOf_0 : decode mi_X5_partOf.2.1 0 = .ok (.iload_n 1, 1) := by decide +kernel
theorem dX5_partOf_1 : decode mi_X5_partOf.2.1 1 = .ok (.aload_n 0, 1) := by decide +kernel
theorem dX5_partOf_2 : decode mi_X5_partOf.2.1 2 = .ok (.invokevirtual 25, 3) := by decide +kernel
theorem dX5_partOf_5 : decode mi_X5_partOf.2.1 5 = .ok (.invokestatic 42, 3) := by decide +kernel
theorem dX5_partOf_8 : decode mi_X5_partOf.2.1 8 = .ok (.ireturn, 1) := by decide +kernel
theorem dX5_shiftX_0 : decode mi_X5_shiftX.2.1 0 = .ok (.iload_n 1, 1) := by decide +kernel
theorem dX5_shiftX_1 : decode mi_X5_shiftX.2.1 1 = .ok (.aload_n 0, 1) := by decide +kernel
theorem dX5_shiftX_2 : decode mi_X5_shiftX.2.1 2 = .ok (.invokevirtual 25, 3) := by decide +kernel
theorem dX5_shiftX_5 : decode mi_X5_shiftX.2.1 5 = .ok (.invokestatic 45, 3) := by decide +kernel
theorem dX5_shiftX_8 : decode mi_X5_shiftX.2.1 8 = .ok (.aload_n 0, 1) := by decide +kernel
theorem dX5_shiftX_9 : decode mi_X5_shiftX.2.1 9 = .ok (.getfield 15, 3) := by decide +kernel
theorem dX5_shiftX_12 : decode mi_X5_shiftX.2.1 12 = .ok (.invokestatic 42, 3) := by decide +kernel
theorem dX5_shiftX_15 : decode mi_X5_shiftX.2.1 15 = .ok (.ireturn, 1) := by decide +kernel
theorem dX5_shiftY_0 : decode mi_X5_shiftY.2.1 0 = .ok (.iload_n 1, 1) := by decide +kernel
theorem dX5_shiftY_1 : decode mi_X5_shiftY.2.1 1 = .ok (.aload_n 0, 1) := by decide +kernel
theorem dX5_shiftY_2 : decode mi_X5_shiftY.2.1 2 = .ok (.getfield 15, 3) := by decide +kernel
theorem dX5_shiftY_5 : decode mi_X5_shiftY.2.1 5 = .ok (.invokestatic 45, 3) := by decide +kernel
theorem dX5_shiftY_8 : decode mi_X5_shiftY.2.1 8 = .ok (.ireturn, 1) := by decide +kernel
theorem dX5_wrap_0 : decode mi_X5_wrap.2.1 0 = .ok (.iload_n 1, 1) := by decide +kernel
theorem dX5_wrap_1 : decode mi_X5_wrap.2.1 1 = .ok (.aload_n 0, 1) := by decide +kernel
theorem dX5_wrap_2 : decode mi_X5_wrap.2.1 2 = .ok (.getfield 15, 3) := by decide +kernel
theorem dX5_wrap_5 : decode mi_X5_wrap.2.1 5 = .ok (.invokestatic 45, 3) := by decide +kernel
theorem dX5_wrap_8 : decode mi_X5_wrap.2.1 8 = .ok (.ireturn, 1) := by decide +kernel
theorem dX5_entry_0 : decode mi_X5_entry.2.1 0 = .ok (.aload_n 0, 1) := by decide +kernel
theorem dX5_entry_1 : decode mi_X5_entry.2.1 1 = .ok (.getfield 9, 3) := by decide +kernel
theorem dX5_entry_4 : decode mi_X5_entry.2.1 4 = .ok (.iconst 1, 1) := by decide +kernel
theorem dX5_entry_5 : decode mi_X5_entry.2.1 5 = .ok (.if_icmp .ne 9, 3) := by decide +kernel
theorem dX5_entry_8 : decode mi_X5_entry.2.1 8 = .ok (.getstatic 48, 3) := by decide +kernel
theorem dX5_entry_11 : decode mi_X5_entry.2.1 11 = .ok (.goto 6, 3) := by decide +kernel
theorem dX5_entry_14 : decode mi_X5_entry.2.1 14 = .ok (.getstatic 52, 3) := by decide +kernel
theorem dX5_entry_17 : decode mi_X5_entry.2.1 17 = .ok (.astore_n 3, 1) := by decide +kernel
theorem dX5_entry_18 : decode mi_X5_entry.2.1 18 = .ok (.iconst 4, 1) := by decide +kernel
theorem dX5_entry_19 : decode mi_X5_entry.2.1 19 = .ok (.iload_n 1, 1) := by decide +kernel
theorem dX5_entry_20 : decode mi_X5_entry.2.1 20 = .ok (.imul, 1) := by decide +kernel
theorem dX5_entry_21 : decode mi_X5_entry.2.1 21 = .ok (.iload_n 2, 1) := by decide +kernel
theorem dX5_entry_22 : decode mi_X5_entry.2.1 22 = .ok (.iadd, 1) := by decide +kernel
theorem dX5_entry_23 : decode mi_X5_entry.2.1 23 = .ok (.istore 4, 2) := by decide +kernel
theorem dX5_entry_25 : decode mi_X5_entry.2.1 25 = .ok (.iload 4, 2) := by decide +kernel
theorem dX5_entry_27 : decode mi_X5_entry.2.1 27 = .ok (.aload_n 3, 1) := by decide +kernel
theorem dX5_entry_28 : decode mi_X5_entry.2.1 28 = .ok (.arraylength, 1) := by decide +kernel
theorem dX5_entry_29 : decode mi_X5_entry.2.1 29 = .ok (.invokestatic 28, 3) := by decide +kernel
theorem dX5_entry_32 : decode mi_X5_entry.2.1 32 = .ok (.ifCond .eq 10, 3) := by decide +kernel
theorem dX5_entry_35 : decode mi_X5_entry.2.1 35 = .ok (.aload_n 3, 1) := by decide +kernel
theorem dX5_entry_36 : decode mi_X5_entry.2.1 36 = .ok (.iload 4, 2) := by decide +kernel
theorem dX5_entry_38 : decode mi_X5_entry.2.1 38 = .ok (.iaload, 1) := by decide +kernel
theorem dX5_entry_39 : decode mi_X5_entry.2.1 39 = .ok (.goto 4, 3) := by decide +kernel
theorem dX5_entry_42 : decode mi_X5_entry.2.1 42 = .ok (.iconst 0, 1) := by decide +kernel
theorem dX5_entry_43 : decode mi_X5_entry.2.1 43 = .ok (.ireturn, 1) := by decide +kernel
theorem dX5_imageX_0 : decode mi_X5_imageX.2.1 0 = .ok (.aload_n 0, 1) := by decide +kernel
theorem dX5_imageX_1 : decode mi_X5_imageX.2.1 1 = .ok (.iload_n 1, 1) := by decide +kernel
theorem dX5_imageX_2 : decode mi_X5_imageX.2.1 2 = .ok (.iconst 0, 1) := by decide +kernel
theorem dX5_imageX_3 : decode mi_X5_imageX.2.1 3 = .ok (.invokevirtual 55, 3) := by decide +kernel
theorem dX5_imageX_6 : decode mi_X5_imageX.2.1 6 = .ok (.iload_n 2, 1) := by decide +kernel
theorem dX5_imageX_7 : decode mi_X5_imageX.2.1 7 = .ok (.imul, 1) := by decide +kernel
theorem dX5_imageX_8 : decode mi_X5_imageX.2.1 8 = .ok (.aload_n 0, 1) := by decide +kernel
theorem dX5_imageX_9 : decode mi_X5_imageX.2.1 9 = .ok (.iload_n 1, 1) := by decide +kernel
theorem dX5_imageX_10 : decode mi_X5_imageX.2.1 10 = .ok (.iconst 1, 1) := by decide +kernel
theorem dX5_imageX_11 : decode mi_X5_imageX.2.1 11 = .ok (.invokevirtual 55, 3) := by decide +kernel
theorem dX5_imageX_14 : decode mi_X5_imageX.2.1 14 = .ok (.iload_n 3, 1) := by decide +kernel
theorem dX5_imageX_15 : decode mi_X5_imageX.2.1 15 = .ok (.imul, 1) := by decide +kernel
theorem dX5_imageX_16 : decode mi_X5_imageX.2.1 16 = .ok (.iadd, 1) := by decide +kernel
theorem dX5_imageX_17 : decode mi_X5_imageX.2.1 17 = .ok (.ireturn, 1) := by decide +kernel
theorem dX5_imageY_0 : decode mi_X5_imageY.2.1 0 = .ok (.aload_n 0, 1) := by decide +kernel
theorem dX5_imageY_1 : decode mi_X5_imageY.2.1 1 = .ok (.iload_n 1, 1) := by decide +kernel
theorem dX5_imageY_2 : decode mi_X5_imageY.2.1 2 = .ok (.iconst 2, 1) := by decide +kernel
theorem dX5_imageY_3 : decode mi_X5_imageY.2.1 3 = .ok (.invokevirtual 55, 3) := by decide +kernel
theorem dX5_imageY_6 : decode mi_X5_imageY.2.1 6 = .ok (.iload_n 2, 1) := by decide +kernel
theorem dX5_imageY_7 : decode mi_X5_imageY.2.1 7 = .ok (.imul, 1) := by decide +kernel
theorem dX5_imageY_8 : decode mi_X5_imageY.2.1 8 = .ok (.aload_n 0, 1) := by decide +kernel
theorem dX5_imageY_9 : decode mi_X5_imageY.2.1 9 = .ok (.iload_n 1, 1) := by decide +kernel
theorem dX5_imageY_10 : decode mi_X5_imageY.2.1 10 = .ok (.iconst 3, 1) := by decide +kernel
theorem dX5_imageY_11 : decode mi_X5_imageY.2.1 11 = .ok (.invokevirtual 55, 3) := by decide +kernel
theorem dX5_imageY_14 : decode mi_X5_imageY.2.1 14 = .ok (.iload_n 3, 1) := by decide +kernel
theorem dX5_imageY_15 : decode mi_X5_imageY.2.1 15 = .ok (.imul, 1) := by decide +kernel
theorem dX5_imageY_16 : decode mi_X5_imageY.2.1 16 = .ok (.iadd, 1) := by decide +kernel
theorem dX5_imageY_17 : decode mi_X5_imageY.2.1 17 = .ok (.ireturn, 1) := by decide +kernel
theorem dX5_imageOfCell_0 : decode mi_X5_imageOfCell.2.1 0 = .ok (.aload_n 0, 1) := by decide +kernel
theorem dX5_imageOfCell_1 : decode mi_X5_imageOfCell.2.1 1 = .ok (.iload_n 1, 1) := by decide +kernel
theorem dX5_imageOfCell_2 : decode mi_X5_imageOfCell.2.1 2 = .ok (.invokevirtual 58, 3) := by decide +kernel
theorem dX5_imageOfCell_5 : decode mi_X5_imageOfCell.2.1 5 = .ok (.istore_n 3, 1) := by decide +kernel
theorem dX5_imageOfCell_6 : decode mi_X5_imageOfCell.2.1 6 = .ok (.iload_n 2, 1) := by decide +kernel
theorem dX5_imageOfCell_7 : decode mi_X5_imageOfCell.2.1 7 = .ok (.aload_n 0, 1) := by decide +kernel
theorem dX5_imageOfCell_8 : decode mi_X5_imageOfCell.2.1 8 = .ok (.getfield 15, 3) := by decide +kernel
theorem dX5_imageOfCell_11 : decode mi_X5_imageOfCell.2.1 11 = .ok (.invokestatic 42, 3) := by decide +kernel
theorem dX5_imageOfCell_14 : decode mi_X5_imageOfCell.2.1 14 = .ok (.istore 4, 2) := by decide +kernel
theorem dX5_imageOfCell_16 : decode mi_X5_imageOfCell.2.1 16 = .ok (.iload_n 2, 1) := by decide +kernel
theorem dX5_imageOfCell_17 : decode mi_X5_imageOfCell.2.1 17 = .ok (.aload_n 0, 1) := by decide +kernel
theorem dX5_imageOfCell_18 : decode mi_X5_imageOfCell.2.1 18 = .ok (.getfield 15, 3) := by decide +kernel
theorem dX5_imageOfCell_21 : decode mi_X5_imageOfCell.2.1 21 = .ok (.invokestatic 45, 3) := by decide +kernel
theorem dX5_imageOfCell_24 : decode mi_X5_imageOfCell.2.1 24 = .ok (.istore 5, 2) := by decide +kernel
theorem dX5_imageOfCell_26 : decode mi_X5_imageOfCell.2.1 26 = .ok (.aload_n 0, 1) := by decide +kernel
theorem dX5_imageOfCell_27 : decode mi_X5_imageOfCell.2.1 27 = .ok (.aload_n 0, 1) := by decide +kernel
theorem dX5_imageOfCell_28 : decode mi_X5_imageOfCell.2.1 28 = .ok (.aload_n 0, 1) := by decide +kernel
theorem dX5_imageOfCell_29 : decode mi_X5_imageOfCell.2.1 29 = .ok (.iload_n 3, 1) := by decide +kernel
theorem dX5_imageOfCell_30 : decode mi_X5_imageOfCell.2.1 30 = .ok (.iload 4, 2) := by decide +kernel
theorem dX5_imageOfCell_32 : decode mi_X5_imageOfCell.2.1 32 = .ok (.iload 5, 2) := by decide +kernel
theorem dX5_imageOfCell_34 : decode mi_X5_imageOfCell.2.1 34 = .ok (.invokevirtual 62, 3) := by decide +kernel
theorem dX5_imageOfCell_37 : decode mi_X5_imageOfCell.2.1 37 = .ok (.aload_n 0, 1) := by decide +kernel
theorem dX5_imageOfCell_38 : decode mi_X5_imageOfCell.2.1 38 = .ok (.iload_n 1, 1) := by decide +kernel
theorem dX5_imageOfCell_39 : decode mi_X5_imageOfCell.2.1 39 = .ok (.invokevirtual 66, 3) := by decide +kernel
theorem dX5_imageOfCell_42 : decode mi_X5_imageOfCell.2.1 42 = .ok (.iadd, 1) := by decide +kernel
theorem dX5_imageOfCell_43 : decode mi_X5_imageOfCell.2.1 43 = .ok (.invokevirtual 69, 3) := by decide +kernel
theorem dX5_imageOfCell_46 : decode mi_X5_imageOfCell.2.1 46 = .ok (.aload_n 0, 1) := by decide +kernel
theorem dX5_imageOfCell_47 : decode mi_X5_imageOfCell.2.1 47 = .ok (.aload_n 0, 1) := by decide +kernel
theorem dX5_imageOfCell_48 : decode mi_X5_imageOfCell.2.1 48 = .ok (.iload_n 3, 1) := by decide +kernel
theorem dX5_imageOfCell_49 : decode mi_X5_imageOfCell.2.1 49 = .ok (.iload 4, 2) := by decide +kernel
theorem dX5_imageOfCell_51 : decode mi_X5_imageOfCell.2.1 51 = .ok (.iload 5, 2) := by decide +kernel
theorem dX5_imageOfCell_53 : decode mi_X5_imageOfCell.2.1 53 = .ok (.invokevirtual 72, 3) := by decide +kernel
theorem dX5_imageOfCell_56 : decode mi_X5_imageOfCell.2.1 56 = .ok (.aload_n 0, 1) := by decide +kernel
theorem dX5_imageOfCell_57 : decode mi_X5_imageOfCell.2.1 57 = .ok (.iload_n 1, 1) := by decide +kernel
theorem dX5_imageOfCell_58 : decode mi_X5_imageOfCell.2.1 58 = .ok (.invokevirtual 75, 3) := by decide +kernel
theorem dX5_imageOfCell_61 : decode mi_X5_imageOfCell.2.1 61 = .ok (.iadd, 1) := by decide +kernel
theorem dX5_imageOfCell_62 : decode mi_X5_imageOfCell.2.1 62 = .ok (.invokevirtual 69, 3) := by decide +kernel
theorem dX5_imageOfCell_65 : decode mi_X5_imageOfCell.2.1 65 = .ok (.invokevirtual 38, 3) := by decide +kernel
theorem dX5_imageOfCell_68 : decode mi_X5_imageOfCell.2.1 68 = .ok (.ireturn, 1) := by decide +kernel
theorem dX5_times_0 : decode mi_X5_times.2.1 0 = .ok (.aload_n 0, 1) := by decide +kernel
theorem dX5_times_1 : decode mi_X5_times.2.1 1 = .ok (.iload_n 1, 1) := by decide +kernel
theorem dX5_times_2 : decode mi_X5_times.2.1 2 = .ok (.invokevirtual 58, 3) := by decide +kernel
theorem dX5_times_5 : decode mi_X5_times.2.1 5 = .ok (.istore_n 3, 1) := by decide +kernel
theorem dX5_times_6 : decode mi_X5_times.2.1 6 = .ok (.aload_n 0, 1) := by decide +kernel
theorem dX5_times_7 : decode mi_X5_times.2.1 7 = .ok (.aload_n 0, 1) := by decide +kernel
theorem dX5_times_8 : decode mi_X5_times.2.1 8 = .ok (.iload_n 3, 1) := by decide +kernel
theorem dX5_times_9 : decode mi_X5_times.2.1 9 = .ok (.aload_n 0, 1) := by decide +kernel
theorem dX5_times_10 : decode mi_X5_times.2.1 10 = .ok (.iload_n 2, 1) := by decide +kernel
theorem dX5_times_11 : decode mi_X5_times.2.1 11 = .ok (.invokevirtual 66, 3) := by decide +kernel
theorem dX5_times_14 : decode mi_X5_times.2.1 14 = .ok (.aload_n 0, 1) := by decide +kernel
theorem dX5_times_15 : decode mi_X5_times.2.1 15 = .ok (.iload_n 2, 1) := by decide +kernel
theorem dX5_times_16 : decode mi_X5_times.2.1 16 = .ok (.invokevirtual 75, 3) := by decide +kernel
theorem dX5_times_19 : decode mi_X5_times.2.1 19 = .ok (.invokevirtual 62, 3) := by decide +kernel
theorem dX5_times_22 : decode mi_X5_times.2.1 22 = .ok (.aload_n 0, 1) := by decide +kernel
theorem dX5_times_23 : decode mi_X5_times.2.1 23 = .ok (.iload_n 1, 1) := by decide +kernel
theorem dX5_times_24 : decode mi_X5_times.2.1 24 = .ok (.invokevirtual 66, 3) := by decide +kernel
theorem dX5_times_27 : decode mi_X5_times.2.1 27 = .ok (.iadd, 1) := by decide +kernel
theorem dX5_times_28 : decode mi_X5_times.2.1 28 = .ok (.invokevirtual 69, 3) := by decide +kernel
theorem dX5_times_31 : decode mi_X5_times.2.1 31 = .ok (.istore 4, 2) := by decide +kernel
theorem dX5_times_33 : decode mi_X5_times.2.1 33 = .ok (.aload_n 0, 1) := by decide +kernel
theorem dX5_times_34 : decode mi_X5_times.2.1 34 = .ok (.aload_n 0, 1) := by decide +kernel
theorem dX5_times_35 : decode mi_X5_times.2.1 35 = .ok (.iload_n 3, 1) := by decide +kernel
theorem dX5_times_36 : decode mi_X5_times.2.1 36 = .ok (.aload_n 0, 1) := by decide +kernel
theorem dX5_times_37 : decode mi_X5_times.2.1 37 = .ok (.iload_n 2, 1) := by decide +kernel
theorem dX5_times_38 : decode mi_X5_times.2.1 38 = .ok (.invokevirtual 66, 3) := by decide +kernel
theorem dX5_times_41 : decode mi_X5_times.2.1 41 = .ok (.aload_n 0, 1) := by decide +kernel
theorem dX5_times_42 : decode mi_X5_times.2.1 42 = .ok (.iload_n 2, 1) := by decide +kernel
theorem dX5_times_43 : decode mi_X5_times.2.1 43 = .ok (.invokevirtual 75, 3) := by decide +kernel
theorem dX5_times_46 : decode mi_X5_times.2.1 46 = .ok (.invokevirtual 72, 3) := by decide +kernel
theorem dX5_times_49 : decode mi_X5_times.2.1 49 = .ok (.aload_n 0, 1) := by decide +kernel
theorem dX5_times_50 : decode mi_X5_times.2.1 50 = .ok (.iload_n 1, 1) := by decide +kernel
theorem dX5_times_51 : decode mi_X5_times.2.1 51 = .ok (.invokevirtual 75, 3) := by decide +kernel
theorem dX5_times_54 : decode mi_X5_times.2.1 54 = .ok (.iadd, 1) := by decide +kernel
theorem dX5_times_55 : decode mi_X5_times.2.1 55 = .ok (.invokevirtual 69, 3) := by decide +kernel
theorem dX5_times_58 : decode mi_X5_times.2.1 58 = .ok (.istore 5, 2) := by decide +kernel
theorem dX5_times_60 : decode mi_X5_times.2.1 60 = .ok (.aload_n 0, 1) := by decide +kernel
theorem dX5_times_61 : decode mi_X5_times.2.1 61 = .ok (.aload_n 0, 1) := by decide +kernel
theorem dX5_times_62 : decode mi_X5_times.2.1 62 = .ok (.iload_n 3, 1) := by decide +kernel
theorem dX5_times_63 : decode mi_X5_times.2.1 63 = .ok (.aload_n 0, 1) := by decide +kernel
theorem dX5_times_64 : decode mi_X5_times.2.1 64 = .ok (.iload_n 2, 1) := by decide +kernel
theorem dX5_times_65 : decode mi_X5_times.2.1 65 = .ok (.invokevirtual 58, 3) := by decide +kernel
theorem dX5_times_68 : decode mi_X5_times.2.1 68 = .ok (.invokevirtual 78, 3) := by decide +kernel
theorem dX5_times_71 : decode mi_X5_times.2.1 71 = .ok (.iload 4, 2) := by decide +kernel
theorem dX5_times_73 : decode mi_X5_times.2.1 73 = .ok (.iload 5, 2) := by decide +kernel
theorem dX5_times_75 : decode mi_X5_times.2.1 75 = .ok (.invokevirtual 81, 3) := by decide +kernel
theorem dX5_times_78 : decode mi_X5_times.2.1 78 = .ok (.ireturn, 1) := by decide +kernel
theorem dX5_timesPart_0 : decode mi_X5_timesPart.2.1 0 = .ok (.aload_n 0, 1) := by decide +kernel
theorem dX5_timesPart_1 : decode mi_X5_timesPart.2.1 1 = .ok (.invokevirtual 18, 3) := by decide +kernel
theorem dX5_timesPart_4 : decode mi_X5_timesPart.2.1 4 = .ok (.istore_n 3, 1) := by decide +kernel
theorem dX5_timesPart_5 : decode mi_X5_timesPart.2.1 5 = .ok (.iload_n 1, 1) := by decide +kernel
theorem dX5_timesPart_6 : decode mi_X5_timesPart.2.1 6 = .ok (.iload_n 3, 1) := by decide +kernel
theorem dX5_timesPart_7 : decode mi_X5_timesPart.2.1 7 = .ok (.if_icmp .lt 7, 3) := by decide +kernel
theorem dX5_timesPart_10 : decode mi_X5_timesPart.2.1 10 = .ok (.iconst 1, 1) := by decide +kernel
theorem dX5_timesPart_11 : decode mi_X5_timesPart.2.1 11 = .ok (.goto 4, 3) := by decide +kernel
theorem dX5_timesPart_14 : decode mi_X5_timesPart.2.1 14 = .ok (.iconst 0, 1) := by decide +kernel
theorem dX5_timesPart_15 : decode mi_X5_timesPart.2.1 15 = .ok (.istore 4, 2) := by decide +kernel
theorem dX5_timesPart_17 : decode mi_X5_timesPart.2.1 17 = .ok (.iload_n 2, 1) := by decide +kernel
theorem dX5_timesPart_18 : decode mi_X5_timesPart.2.1 18 = .ok (.iload_n 3, 1) := by decide +kernel
theorem dX5_timesPart_19 : decode mi_X5_timesPart.2.1 19 = .ok (.if_icmp .lt 7, 3) := by decide +kernel
theorem dX5_timesPart_22 : decode mi_X5_timesPart.2.1 22 = .ok (.iconst 1, 1) := by decide +kernel
theorem dX5_timesPart_23 : decode mi_X5_timesPart.2.1 23 = .ok (.goto 4, 3) := by decide +kernel
theorem dX5_timesPart_26 : decode mi_X5_timesPart.2.1 26 = .ok (.iconst 0, 1) := by decide +kernel
theorem dX5_timesPart_27 : decode mi_X5_timesPart.2.1 27 = .ok (.istore 5, 2) := by decide +kernel
theorem dX5_timesPart_29 : decode mi_X5_timesPart.2.1 29 = .ok (.iload 4, 2) := by decide +kernel
theorem dX5_timesPart_31 : decode mi_X5_timesPart.2.1 31 = .ok (.ifCond .eq 9, 3) := by decide +kernel
theorem dX5_timesPart_34 : decode mi_X5_timesPart.2.1 34 = .ok (.iload_n 1, 1) := by decide +kernel
theorem dX5_timesPart_35 : decode mi_X5_timesPart.2.1 35 = .ok (.iload_n 2, 1) := by decide +kernel
theorem dX5_timesPart_36 : decode mi_X5_timesPart.2.1 36 = .ok (.isub, 1) := by decide +kernel
theorem dX5_timesPart_37 : decode mi_X5_timesPart.2.1 37 = .ok (.goto 6, 3) := by decide +kernel
theorem dX5_timesPart_40 : decode mi_X5_timesPart.2.1 40 = .ok (.iload_n 1, 1) := by decide +kernel
theorem dX5_timesPart_41 : decode mi_X5_timesPart.2.1 41 = .ok (.iload_n 2, 1) := by decide +kernel
theorem dX5_timesPart_42 : decode mi_X5_timesPart.2.1 42 = .ok (.iadd, 1) := by decide +kernel
theorem dX5_timesPart_43 : decode mi_X5_timesPart.2.1 43 = .ok (.iload_n 3, 1) := by decide +kernel
theorem dX5_timesPart_44 : decode mi_X5_timesPart.2.1 44 = .ok (.invokestatic 45, 3) := by decide +kernel
theorem dX5_timesPart_47 : decode mi_X5_timesPart.2.1 47 = .ok (.istore 6, 2) := by decide +kernel
theorem dX5_timesPart_49 : decode mi_X5_timesPart.2.1 49 = .ok (.iload 4, 2) := by decide +kernel
theorem dX5_timesPart_51 : decode mi_X5_timesPart.2.1 51 = .ok (.iload 5, 2) := by decide +kernel
theorem dX5_timesPart_53 : decode mi_X5_timesPart.2.1 53 = .ok (.if_icmp .ne 8, 3) := by decide +kernel
theorem dX5_timesPart_56 : decode mi_X5_timesPart.2.1 56 = .ok (.iload 6, 2) := by decide +kernel
theorem dX5_timesPart_58 : decode mi_X5_timesPart.2.1 58 = .ok (.goto 7, 3) := by decide +kernel
theorem dX5_timesPart_61 : decode mi_X5_timesPart.2.1 61 = .ok (.iload_n 3, 1) := by decide +kernel
theorem dX5_timesPart_62 : decode mi_X5_timesPart.2.1 62 = .ok (.iload 6, 2) := by decide +kernel
theorem dX5_timesPart_64 : decode mi_X5_timesPart.2.1 64 = .ok (.iadd, 1) := by decide +kernel
theorem dX5_timesPart_65 : decode mi_X5_timesPart.2.1 65 = .ok (.ireturn, 1) := by decide +kernel
theorem dX5_inverseOf_0 : decode mi_X5_inverseOf.2.1 0 = .ok (.aload_n 0, 1) := by decide +kernel
theorem dX5_inverseOf_1 : decode mi_X5_inverseOf.2.1 1 = .ok (.aload_n 0, 1) := by decide +kernel
theorem dX5_inverseOf_2 : decode mi_X5_inverseOf.2.1 2 = .ok (.iload_n 1, 1) := by decide +kernel
theorem dX5_inverseOf_3 : decode mi_X5_inverseOf.2.1 3 = .ok (.invokevirtual 58, 3) := by decide +kernel
theorem dX5_inverseOf_6 : decode mi_X5_inverseOf.2.1 6 = .ok (.invokevirtual 84, 3) := by decide +kernel
theorem dX5_inverseOf_9 : decode mi_X5_inverseOf.2.1 9 = .ok (.istore_n 2, 1) := by decide +kernel
theorem dX5_inverseOf_10 : decode mi_X5_inverseOf.2.1 10 = .ok (.aload_n 0, 1) := by decide +kernel
theorem dX5_inverseOf_11 : decode mi_X5_inverseOf.2.1 11 = .ok (.aload_n 0, 1) := by decide +kernel
theorem dX5_inverseOf_12 : decode mi_X5_inverseOf.2.1 12 = .ok (.iload_n 2, 1) := by decide +kernel
theorem dX5_inverseOf_13 : decode mi_X5_inverseOf.2.1 13 = .ok (.aload_n 0, 1) := by decide +kernel
theorem dX5_inverseOf_14 : decode mi_X5_inverseOf.2.1 14 = .ok (.iload_n 1, 1) := by decide +kernel
theorem dX5_inverseOf_15 : decode mi_X5_inverseOf.2.1 15 = .ok (.invokevirtual 66, 3) := by decide +kernel
theorem dX5_inverseOf_18 : decode mi_X5_inverseOf.2.1 18 = .ok (.aload_n 0, 1) := by decide +kernel
theorem dX5_inverseOf_19 : decode mi_X5_inverseOf.2.1 19 = .ok (.iload_n 1, 1) := by decide +kernel
theorem dX5_inverseOf_20 : decode mi_X5_inverseOf.2.1 20 = .ok (.invokevirtual 75, 3) := by decide +kernel
theorem dX5_inverseOf_23 : decode mi_X5_inverseOf.2.1 23 = .ok (.invokevirtual 62, 3) := by decide +kernel
theorem dX5_inverseOf_26 : decode mi_X5_inverseOf.2.1 26 = .ok (.ineg, 1) := by decide +kernel
theorem dX5_inverseOf_27 : decode mi_X5_inverseOf.2.1 27 = .ok (.invokevirtual 69, 3) := by decide +kernel
theorem dX5_inverseOf_30 : decode mi_X5_inverseOf.2.1 30 = .ok (.istore_n 3, 1) := by decide +kernel
theorem dX5_inverseOf_31 : decode mi_X5_inverseOf.2.1 31 = .ok (.aload_n 0, 1) := by decide +kernel
theorem dX5_inverseOf_32 : decode mi_X5_inverseOf.2.1 32 = .ok (.aload_n 0, 1) := by decide +kernel
theorem dX5_inverseOf_33 : decode mi_X5_inverseOf.2.1 33 = .ok (.iload_n 2, 1) := by decide +kernel
theorem dX5_inverseOf_34 : decode mi_X5_inverseOf.2.1 34 = .ok (.aload_n 0, 1) := by decide +kernel
theorem dX5_inverseOf_35 : decode mi_X5_inverseOf.2.1 35 = .ok (.iload_n 1, 1) := by decide +kernel
theorem dX5_inverseOf_36 : decode mi_X5_inverseOf.2.1 36 = .ok (.invokevirtual 66, 3) := by decide +kernel
theorem dX5_inverseOf_39 : decode mi_X5_inverseOf.2.1 39 = .ok (.aload_n 0, 1) := by decide +kernel
theorem dX5_inverseOf_40 : decode mi_X5_inverseOf.2.1 40 = .ok (.iload_n 1, 1) := by decide +kernel
theorem dX5_inverseOf_41 : decode mi_X5_inverseOf.2.1 41 = .ok (.invokevirtual 75, 3) := by decide +kernel
theorem dX5_inverseOf_44 : decode mi_X5_inverseOf.2.1 44 = .ok (.invokevirtual 72, 3) := by decide +kernel
theorem dX5_inverseOf_47 : decode mi_X5_inverseOf.2.1 47 = .ok (.ineg, 1) := by decide +kernel
theorem dX5_inverseOf_48 : decode mi_X5_inverseOf.2.1 48 = .ok (.invokevirtual 69, 3) := by decide +kernel
theorem dX5_inverseOf_51 : decode mi_X5_inverseOf.2.1 51 = .ok (.istore 4, 2) := by decide +kernel
theorem dX5_inverseOf_53 : decode mi_X5_inverseOf.2.1 53 = .ok (.aload_n 0, 1) := by decide +kernel
theorem dX5_inverseOf_54 : decode mi_X5_inverseOf.2.1 54 = .ok (.iload_n 2, 1) := by decide +kernel
theorem dX5_inverseOf_55 : decode mi_X5_inverseOf.2.1 55 = .ok (.iload_n 3, 1) := by decide +kernel
theorem dX5_inverseOf_56 : decode mi_X5_inverseOf.2.1 56 = .ok (.iload 4, 2) := by decide +kernel
theorem dX5_inverseOf_58 : decode mi_X5_inverseOf.2.1 58 = .ok (.invokevirtual 81, 3) := by decide +kernel
theorem dX5_inverseOf_61 : decode mi_X5_inverseOf.2.1 61 = .ok (.ireturn, 1) := by decide +kernel
theorem dX5_inversePart_0 : decode mi_X5_inversePart.2.1 0 = .ok (.iload_n 1, 1) := by decide +kernel
theorem dX5_inversePart_1 : decode mi_X5_inversePart.2.1 1 = .ok (.aload_n 0, 1) := by decide +kernel
theorem dX5_inversePart_2 : decode mi_X5_inversePart.2.1 2 = .ok (.invokevirtual 18, 3) := by decide +kernel
theorem dX5_inversePart_5 : decode mi_X5_inversePart.2.1 5 = .ok (.if_icmp .ge 15, 3) := by decide +kernel
theorem dX5_inversePart_8 : decode mi_X5_inversePart.2.1 8 = .ok (.iload_n 1, 1) := by decide +kernel
theorem dX5_inversePart_9 : decode mi_X5_inversePart.2.1 9 = .ok (.ineg, 1) := by decide +kernel
theorem dX5_inversePart_10 : decode mi_X5_inversePart.2.1 10 = .ok (.aload_n 0, 1) := by decide +kernel
theorem dX5_inversePart_11 : decode mi_X5_inversePart.2.1 11 = .ok (.invokevirtual 18, 3) := by decide +kernel
theorem dX5_inversePart_14 : decode mi_X5_inversePart.2.1 14 = .ok (.invokestatic 45, 3) := by decide +kernel
theorem dX5_inversePart_17 : decode mi_X5_inversePart.2.1 17 = .ok (.goto 4, 3) := by decide +kernel
theorem dX5_inversePart_20 : decode mi_X5_inversePart.2.1 20 = .ok (.iload_n 1, 1) := by decide +kernel
theorem dX5_inversePart_21 : decode mi_X5_inversePart.2.1 21 = .ok (.ireturn, 1) := by decide +kernel
theorem dX5_factorsToIdentity_0 : decode mi_X5_factorsToIdentity.2.1 0 = .ok (.iconst 1, 1) := by decide +kernel
theorem dX5_factorsToIdentity_1 : decode mi_X5_factorsToIdentity.2.1 1 = .ok (.istore_n 2, 1) := by decide +kernel
theorem dX5_factorsToIdentity_2 : decode mi_X5_factorsToIdentity.2.1 2 = .ok (.iload_n 1, 1) := by decide +kernel
theorem dX5_factorsToIdentity_3 : decode mi_X5_factorsToIdentity.2.1 3 = .ok (.istore_n 3, 1) := by decide +kernel
theorem dX5_factorsToIdentity_4 : decode mi_X5_factorsToIdentity.2.1 4 = .ok (.iload_n 3, 1) := by decide +kernel
theorem dX5_factorsToIdentity_5 : decode mi_X5_factorsToIdentity.2.1 5 = .ok (.ifCond .eq 23, 3) := by decide +kernel
theorem dX5_factorsToIdentity_8 : decode mi_X5_factorsToIdentity.2.1 8 = .ok (.iload_n 2, 1) := by decide +kernel
theorem dX5_factorsToIdentity_9 : decode mi_X5_factorsToIdentity.2.1 9 = .ok (.sipush 300, 3) := by decide +kernel
theorem dX5_factorsToIdentity_12 : decode mi_X5_factorsToIdentity.2.1 12 = .ok (.if_icmp .ge 16, 3) := by decide +kernel
theorem dX5_factorsToIdentity_15 : decode mi_X5_factorsToIdentity.2.1 15 = .ok (.aload_n 0, 1) := by decide +kernel
theorem dX5_factorsToIdentity_16 : decode mi_X5_factorsToIdentity.2.1 16 = .ok (.iload_n 3, 1) := by decide +kernel
theorem dX5_factorsToIdentity_17 : decode mi_X5_factorsToIdentity.2.1 17 = .ok (.iload_n 1, 1) := by decide +kernel
theorem dX5_factorsToIdentity_18 : decode mi_X5_factorsToIdentity.2.1 18 = .ok (.invokevirtual 87, 3) := by decide +kernel
theorem dX5_factorsToIdentity_21 : decode mi_X5_factorsToIdentity.2.1 21 = .ok (.istore_n 3, 1) := by decide +kernel
theorem dX5_factorsToIdentity_22 : decode mi_X5_factorsToIdentity.2.1 22 = .ok (.iinc 2 1, 3) := by decide +kernel
theorem dX5_factorsToIdentity_25 : decode mi_X5_factorsToIdentity.2.1 25 = .ok (.goto (-21), 3) := by decide +kernel
theorem dX5_factorsToIdentity_28 : decode mi_X5_factorsToIdentity.2.1 28 = .ok (.iload_n 2, 1) := by decide +kernel
theorem dX5_factorsToIdentity_29 : decode mi_X5_factorsToIdentity.2.1 29 = .ok (.ireturn, 1) := by decide +kernel
theorem dX5_turnOrder_0 : decode mi_X5_turnOrder.2.1 0 = .ok (.iconst 1, 1) := by decide +kernel
theorem dX5_turnOrder_1 : decode mi_X5_turnOrder.2.1 1 = .ok (.istore_n 2, 1) := by decide +kernel
theorem dX5_turnOrder_2 : decode mi_X5_turnOrder.2.1 2 = .ok (.iload_n 2, 1) := by decide +kernel
theorem dX5_turnOrder_3 : decode mi_X5_turnOrder.2.1 3 = .ok (.bipush 12, 2) := by decide +kernel
theorem dX5_turnOrder_5 : decode mi_X5_turnOrder.2.1 5 = .ok (.if_icmp .ge 22, 3) := by decide +kernel
theorem dX5_turnOrder_8 : decode mi_X5_turnOrder.2.1 8 = .ok (.iload_n 2, 1) := by decide +kernel
theorem dX5_turnOrder_9 : decode mi_X5_turnOrder.2.1 9 = .ok (.iload_n 1, 1) := by decide +kernel
theorem dX5_turnOrder_10 : decode mi_X5_turnOrder.2.1 10 = .ok (.imul, 1) := by decide +kernel
theorem dX5_turnOrder_11 : decode mi_X5_turnOrder.2.1 11 = .ok (.aload_n 0, 1) := by decide +kernel
theorem dX5_turnOrder_12 : decode mi_X5_turnOrder.2.1 12 = .ok (.invokevirtual 18, 3) := by decide +kernel
theorem dX5_turnOrder_15 : decode mi_X5_turnOrder.2.1 15 = .ok (.invokestatic 45, 3) := by decide +kernel
theorem dX5_turnOrder_18 : decode mi_X5_turnOrder.2.1 18 = .ok (.ifCond .eq 9, 3) := by decide +kernel
theorem dX5_turnOrder_21 : decode mi_X5_turnOrder.2.1 21 = .ok (.iinc 2 1, 3) := by decide +kernel
theorem dX5_turnOrder_24 : decode mi_X5_turnOrder.2.1 24 = .ok (.goto (-22), 3) := by decide +kernel
theorem dX5_turnOrder_27 : decode mi_X5_turnOrder.2.1 27 = .ok (.iload_n 2, 1) := by decide +kernel
theorem dX5_turnOrder_28 : decode mi_X5_turnOrder.2.1 28 = .ok (.ireturn, 1) := by decide +kernel
theorem dX5_kindNumber_0 : decode mi_X5_kindNumber.2.1 0 = .ok (.aload_n 0, 1) := by decide +kernel
theorem dX5_kindNumber_1 : decode mi_X5_kindNumber.2.1 1 = .ok (.iload_n 1, 1) := by decide +kernel
theorem dX5_kindNumber_2 : decode mi_X5_kindNumber.2.1 2 = .ok (.invokevirtual 58, 3) := by decide +kernel
theorem dX5_kindNumber_5 : decode mi_X5_kindNumber.2.1 5 = .ok (.istore_n 2, 1) := by decide +kernel
theorem dX5_kindNumber_6 : decode mi_X5_kindNumber.2.1 6 = .ok (.iload_n 2, 1) := by decide +kernel
theorem dX5_kindNumber_7 : decode mi_X5_kindNumber.2.1 7 = .ok (.ifCond .ne 5, 3) := by decide +kernel
theorem dX5_kindNumber_10 : decode mi_X5_kindNumber.2.1 10 = .ok (.iconst 0, 1) := by decide +kernel
theorem dX5_kindNumber_11 : decode mi_X5_kindNumber.2.1 11 = .ok (.ireturn, 1) := by decide +kernel
theorem dX5_kindNumber_12 : decode mi_X5_kindNumber.2.1 12 = .ok (.iload_n 2, 1) := by decide +kernel
theorem dX5_kindNumber_13 : decode mi_X5_kindNumber.2.1 13 = .ok (.aload_n 0, 1) := by decide +kernel
theorem dX5_kindNumber_14 : decode mi_X5_kindNumber.2.1 14 = .ok (.invokevirtual 18, 3) := by decide +kernel
theorem dX5_kindNumber_17 : decode mi_X5_kindNumber.2.1 17 = .ok (.if_icmp .ge 5, 3) := by decide +kernel
theorem dX5_kindNumber_20 : decode mi_X5_kindNumber.2.1 20 = .ok (.iconst 1, 1) := by decide +kernel
theorem dX5_kindNumber_21 : decode mi_X5_kindNumber.2.1 21 = .ok (.ireturn, 1) := by decide +kernel
theorem dX5_kindNumber_22 : decode mi_X5_kindNumber.2.1 22 = .ok (.aload_n 0, 1) := by decide +kernel
theorem dX5_kindNumber_23 : decode mi_X5_kindNumber.2.1 23 = .ok (.iload_n 1, 1) := by decide +kernel
theorem dX5_kindNumber_24 : decode mi_X5_kindNumber.2.1 24 = .ok (.invokevirtual 90, 3) := by decide +kernel
theorem dX5_kindNumber_27 : decode mi_X5_kindNumber.2.1 27 = .ok (.ifCond .eq 7, 3) := by decide +kernel
theorem dX5_kindNumber_30 : decode mi_X5_kindNumber.2.1 30 = .ok (.iconst 2, 1) := by decide +kernel
theorem dX5_kindNumber_31 : decode mi_X5_kindNumber.2.1 31 = .ok (.goto 4, 3) := by decide +kernel
theorem dX5_kindNumber_34 : decode mi_X5_kindNumber.2.1 34 = .ok (.iconst 3, 1) := by decide +kernel
theorem dX5_kindNumber_35 : decode mi_X5_kindNumber.2.1 35 = .ok (.ireturn, 1) := by decide +kernel
theorem dX5_isReflection_0 : decode mi_X5_isReflection.2.1 0 = .ok (.aload_n 0, 1) := by decide +kernel
theorem dX5_isReflection_1 : decode mi_X5_isReflection.2.1 1 = .ok (.iload_n 1, 1) := by decide +kernel
theorem dX5_isReflection_2 : decode mi_X5_isReflection.2.1 2 = .ok (.invokevirtual 58, 3) := by decide +kernel
theorem dX5_isReflection_5 : decode mi_X5_isReflection.2.1 5 = .ok (.istore_n 2, 1) := by decide +kernel
theorem dX5_isReflection_6 : decode mi_X5_isReflection.2.1 6 = .ok (.iconst 1, 1) := by decide +kernel
theorem dX5_isReflection_7 : decode mi_X5_isReflection.2.1 7 = .ok (.aload_n 0, 1) := by decide +kernel
theorem dX5_isReflection_8 : decode mi_X5_isReflection.2.1 8 = .ok (.iload_n 2, 1) := by decide +kernel
theorem dX5_isReflection_9 : decode mi_X5_isReflection.2.1 9 = .ok (.iconst 0, 1) := by decide +kernel
theorem dX5_isReflection_10 : decode mi_X5_isReflection.2.1 10 = .ok (.invokevirtual 55, 3) := by decide +kernel
theorem dX5_isReflection_13 : decode mi_X5_isReflection.2.1 13 = .ok (.iadd, 1) := by decide +kernel
theorem dX5_isReflection_14 : decode mi_X5_isReflection.2.1 14 = .ok (.istore_n 3, 1) := by decide +kernel
theorem dX5_isReflection_15 : decode mi_X5_isReflection.2.1 15 = .ok (.aload_n 0, 1) := by decide +kernel
theorem dX5_isReflection_16 : decode mi_X5_isReflection.2.1 16 = .ok (.iload_n 2, 1) := by decide +kernel
theorem dX5_isReflection_17 : decode mi_X5_isReflection.2.1 17 = .ok (.iconst 1, 1) := by decide +kernel
theorem dX5_isReflection_18 : decode mi_X5_isReflection.2.1 18 = .ok (.invokevirtual 55, 3) := by decide +kernel
theorem dX5_isReflection_21 : decode mi_X5_isReflection.2.1 21 = .ok (.istore 4, 2) := by decide +kernel
theorem dX5_isReflection_23 : decode mi_X5_isReflection.2.1 23 = .ok (.iload_n 3, 1) := by decide +kernel
theorem dX5_isReflection_24 : decode mi_X5_isReflection.2.1 24 = .ok (.ifCond .ne 25, 3) := by decide +kernel
theorem dX5_isReflection_27 : decode mi_X5_isReflection.2.1 27 = .ok (.iload 4, 2) := by decide +kernel
theorem dX5_isReflection_29 : decode mi_X5_isReflection.2.1 29 = .ok (.ifCond .ne 20, 3) := by decide +kernel
theorem dX5_isReflection_32 : decode mi_X5_isReflection.2.1 32 = .ok (.aload_n 0, 1) := by decide +kernel
theorem dX5_isReflection_33 : decode mi_X5_isReflection.2.1 33 = .ok (.iload_n 2, 1) := by decide +kernel
theorem dX5_isReflection_34 : decode mi_X5_isReflection.2.1 34 = .ok (.iconst 2, 1) := by decide +kernel
theorem dX5_isReflection_35 : decode mi_X5_isReflection.2.1 35 = .ok (.invokevirtual 55, 3) := by decide +kernel
theorem dX5_isReflection_38 : decode mi_X5_isReflection.2.1 38 = .ok (.istore_n 3, 1) := by decide +kernel
theorem dX5_isReflection_39 : decode mi_X5_isReflection.2.1 39 = .ok (.iconst 1, 1) := by decide +kernel
theorem dX5_isReflection_40 : decode mi_X5_isReflection.2.1 40 = .ok (.aload_n 0, 1) := by decide +kernel
theorem dX5_isReflection_41 : decode mi_X5_isReflection.2.1 41 = .ok (.iload_n 2, 1) := by decide +kernel
theorem dX5_isReflection_42 : decode mi_X5_isReflection.2.1 42 = .ok (.iconst 3, 1) := by decide +kernel
theorem dX5_isReflection_43 : decode mi_X5_isReflection.2.1 43 = .ok (.invokevirtual 55, 3) := by decide +kernel
theorem dX5_isReflection_46 : decode mi_X5_isReflection.2.1 46 = .ok (.iadd, 1) := by decide +kernel
theorem dX5_isReflection_47 : decode mi_X5_isReflection.2.1 47 = .ok (.istore 4, 2) := by decide +kernel
theorem dX5_isReflection_49 : decode mi_X5_isReflection.2.1 49 = .ok (.iload_n 3, 1) := by decide +kernel
theorem dX5_isReflection_50 : decode mi_X5_isReflection.2.1 50 = .ok (.iconst 2, 1) := by decide +kernel
theorem dX5_isReflection_51 : decode mi_X5_isReflection.2.1 51 = .ok (.irem, 1) := by decide +kernel
theorem dX5_isReflection_52 : decode mi_X5_isReflection.2.1 52 = .ok (.ifCond .ne 20, 3) := by decide +kernel
theorem dX5_isReflection_55 : decode mi_X5_isReflection.2.1 55 = .ok (.iload 4, 2) := by decide +kernel
theorem dX5_isReflection_57 : decode mi_X5_isReflection.2.1 57 = .ok (.iconst 2, 1) := by decide +kernel
theorem dX5_isReflection_58 : decode mi_X5_isReflection.2.1 58 = .ok (.irem, 1) := by decide +kernel
theorem dX5_isReflection_59 : decode mi_X5_isReflection.2.1 59 = .ok (.ifCond .ne 13, 3) := by decide +kernel
theorem dX5_isReflection_62 : decode mi_X5_isReflection.2.1 62 = .ok (.iload_n 3, 1) := by decide +kernel
theorem dX5_isReflection_63 : decode mi_X5_isReflection.2.1 63 = .ok (.iconst 2, 1) := by decide +kernel
theorem dX5_isReflection_64 : decode mi_X5_isReflection.2.1 64 = .ok (.idiv, 1) := by decide +kernel
theorem dX5_isReflection_65 : decode mi_X5_isReflection.2.1 65 = .ok (.istore_n 3, 1) := by decide +kernel
theorem dX5_isReflection_66 : decode mi_X5_isReflection.2.1 66 = .ok (.iload 4, 2) := by decide +kernel
theorem dX5_isReflection_68 : decode mi_X5_isReflection.2.1 68 = .ok (.iconst 2, 1) := by decide +kernel
theorem dX5_isReflection_69 : decode mi_X5_isReflection.2.1 69 = .ok (.idiv, 1) := by decide +kernel
theorem dX5_isReflection_70 : decode mi_X5_isReflection.2.1 70 = .ok (.istore 4, 2) := by decide +kernel
theorem dX5_isReflection_72 : decode mi_X5_isReflection.2.1 72 = .ok (.aload_n 0, 1) := by decide +kernel
theorem dX5_isReflection_73 : decode mi_X5_isReflection.2.1 73 = .ok (.iload_n 3, 1) := by decide +kernel
theorem dX5_isReflection_74 : decode mi_X5_isReflection.2.1 74 = .ok (.aload_n 0, 1) := by decide +kernel
theorem dX5_isReflection_75 : decode mi_X5_isReflection.2.1 75 = .ok (.iload_n 1, 1) := by decide +kernel
theorem dX5_isReflection_76 : decode mi_X5_isReflection.2.1 76 = .ok (.invokevirtual 66, 3) := by decide +kernel
theorem dX5_isReflection_79 : decode mi_X5_isReflection.2.1 79 = .ok (.imul, 1) := by decide +kernel
theorem dX5_isReflection_80 : decode mi_X5_isReflection.2.1 80 = .ok (.iload 4, 2) := by decide +kernel
theorem dX5_isReflection_82 : decode mi_X5_isReflection.2.1 82 = .ok (.aload_n 0, 1) := by decide +kernel
theorem dX5_isReflection_83 : decode mi_X5_isReflection.2.1 83 = .ok (.iload_n 1, 1) := by decide +kernel
theorem dX5_isReflection_84 : decode mi_X5_isReflection.2.1 84 = .ok (.invokevirtual 75, 3) := by decide +kernel
theorem dX5_isReflection_87 : decode mi_X5_isReflection.2.1 87 = .ok (.imul, 1) := by decide +kernel
theorem dX5_isReflection_88 : decode mi_X5_isReflection.2.1 88 = .ok (.iadd, 1) := by decide +kernel
theorem dX5_isReflection_89 : decode mi_X5_isReflection.2.1 89 = .ok (.invokevirtual 69, 3) := by decide +kernel
theorem dX5_isReflection_92 : decode mi_X5_isReflection.2.1 92 = .ok (.ifCond .ne 7, 3) := by decide +kernel
theorem dX5_isReflection_95 : decode mi_X5_isReflection.2.1 95 = .ok (.iconst 1, 1) := by decide +kernel
theorem dX5_isReflection_96 : decode mi_X5_isReflection.2.1 96 = .ok (.goto 4, 3) := by decide +kernel
theorem dX5_isReflection_99 : decode mi_X5_isReflection.2.1 99 = .ok (.iconst 0, 1) := by decide +kernel
theorem dX5_isReflection_100 : decode mi_X5_isReflection.2.1 100 = .ok (.ireturn, 1) := by decide +kernel
theorem dX6_setLattice_0 : decode mi_X6_setLattice.2.1 0 = .ok (.iload_n 1, 1) := by decide +kernel
theorem dX6_setLattice_1 : decode mi_X6_setLattice.2.1 1 = .ok (.ifCond .lt 18, 3) := by decide +kernel
theorem dX6_setLattice_4 : decode mi_X6_setLattice.2.1 4 = .ok (.iload_n 1, 1) := by decide +kernel
theorem dX6_setLattice_5 : decode mi_X6_setLattice.2.1 5 = .ok (.iconst 1, 1) := by decide +kernel
theorem dX6_setLattice_6 : decode mi_X6_setLattice.2.1 6 = .ok (.if_icmp .gt 13, 3) := by decide +kernel
theorem dX6_setLattice_9 : decode mi_X6_setLattice.2.1 9 = .ok (.iload_n 2, 1) := by decide +kernel
theorem dX6_setLattice_10 : decode mi_X6_setLattice.2.1 10 = .ok (.iconst 1, 1) := by decide +kernel
theorem dX6_setLattice_11 : decode mi_X6_setLattice.2.1 11 = .ok (.if_icmp .lt 8, 3) := by decide +kernel
theorem dX6_setLattice_14 : decode mi_X6_setLattice.2.1 14 = .ok (.iload_n 2, 1) := by decide +kernel
theorem dX6_setLattice_15 : decode mi_X6_setLattice.2.1 15 = .ok (.iconst 5, 1) := by decide +kernel
theorem dX6_setLattice_16 : decode mi_X6_setLattice.2.1 16 = .ok (.if_icmp .le 5, 3) := by decide +kernel
theorem dX6_setLattice_19 : decode mi_X6_setLattice.2.1 19 = .ok (.iconst (-1), 1) := by decide +kernel
theorem dX6_setLattice_20 : decode mi_X6_setLattice.2.1 20 = .ok (.ireturn, 1) := by decide +kernel
theorem dX6_setLattice_21 : decode mi_X6_setLattice.2.1 21 = .ok (.aload_n 0, 1) := by decide +kernel
theorem dX6_setLattice_22 : decode mi_X6_setLattice.2.1 22 = .ok (.getfield 12, 3) := by decide +kernel
theorem dX6_setLattice_25 : decode mi_X6_setLattice.2.1 25 = .ok (.getfield 60, 3) := by decide +kernel
theorem dX6_setLattice_28 : decode mi_X6_setLattice.2.1 28 = .ok (.istore_n 3, 1) := by decide +kernel
theorem dX6_setLattice_29 : decode mi_X6_setLattice.2.1 29 = .ok (.aload_n 0, 1) := by decide +kernel
theorem dX6_setLattice_30 : decode mi_X6_setLattice.2.1 30 = .ok (.getfield 26, 3) := by decide +kernel
theorem dX6_setLattice_33 : decode mi_X6_setLattice.2.1 33 = .ok (.aload_n 0, 1) := by decide +kernel
theorem dX6_setLattice_34 : decode mi_X6_setLattice.2.1 34 = .ok (.getfield 12, 3) := by decide +kernel
theorem dX6_setLattice_37 : decode mi_X6_setLattice.2.1 37 = .ok (.aload_n 0, 1) := by decide +kernel
theorem dX6_setLattice_38 : decode mi_X6_setLattice.2.1 38 = .ok (.getfield 19, 3) := by decide +kernel
theorem dX6_setLattice_41 : decode mi_X6_setLattice.2.1 41 = .ok (.invokevirtual 64, 3) := by decide +kernel
theorem dX6_setLattice_44 : decode mi_X6_setLattice.2.1 44 = .ok (.aload_n 0, 1) := by decide +kernel
theorem dX6_setLattice_45 : decode mi_X6_setLattice.2.1 45 = .ok (.getfield 12, 3) := by decide +kernel
theorem dX6_setLattice_48 : decode mi_X6_setLattice.2.1 48 = .ok (.iload_n 1, 1) := by decide +kernel
theorem dX6_setLattice_49 : decode mi_X6_setLattice.2.1 49 = .ok (.iload_n 2, 1) := by decide +kernel
theorem dX6_setLattice_50 : decode mi_X6_setLattice.2.1 50 = .ok (.invokevirtual 67, 3) := by decide +kernel
theorem dX6_setLattice_53 : decode mi_X6_setLattice.2.1 53 = .ok (.aload_n 0, 1) := by decide +kernel
theorem dX6_setLattice_54 : decode mi_X6_setLattice.2.1 54 = .ok (.getfield 19, 3) := by decide +kernel
theorem dX6_setLattice_57 : decode mi_X6_setLattice.2.1 57 = .ok (.invokevirtual 71, 3) := by decide +kernel
theorem dX6_setLattice_60 : decode mi_X6_setLattice.2.1 60 = .ok (.aload_n 0, 1) := by decide +kernel
theorem dX6_setLattice_61 : decode mi_X6_setLattice.2.1 61 = .ok (.invokevirtual 57, 3) := by decide +kernel
theorem dX6_setLattice_64 : decode mi_X6_setLattice.2.1 64 = .ok (.iload_n 3, 1) := by decide +kernel
theorem dX6_setLattice_65 : decode mi_X6_setLattice.2.1 65 = .ok (.ireturn, 1) := by decide +kernel
theorem dX6_addGenerator_0 : decode mi_X6_addGenerator.2.1 0 = .ok (.aload_n 0, 1) := by decide +kernel
theorem dX6_addGenerator_1 : decode mi_X6_addGenerator.2.1 1 = .ok (.getfield 12, 3) := by decide +kernel
theorem dX6_addGenerator_4 : decode mi_X6_addGenerator.2.1 4 = .ok (.iload_n 1, 1) := by decide +kernel
theorem dX6_addGenerator_5 : decode mi_X6_addGenerator.2.1 5 = .ok (.iload_n 2, 1) := by decide +kernel
theorem dX6_addGenerator_6 : decode mi_X6_addGenerator.2.1 6 = .ok (.iload_n 3, 1) := by decide +kernel
theorem dX6_addGenerator_7 : decode mi_X6_addGenerator.2.1 7 = .ok (.invokevirtual 74, 3) := by decide +kernel
theorem dX6_addGenerator_10 : decode mi_X6_addGenerator.2.1 10 = .ok (.ifCond .ne 5, 3) := by decide +kernel
theorem dX6_addGenerator_13 : decode mi_X6_addGenerator.2.1 13 = .ok (.iconst (-1), 1) := by decide +kernel
theorem dX6_addGenerator_14 : decode mi_X6_addGenerator.2.1 14 = .ok (.ireturn, 1) := by decide +kernel
theorem dX6_addGenerator_15 : decode mi_X6_addGenerator.2.1 15 = .ok (.aload_n 0, 1) := by decide +kernel
theorem dX6_addGenerator_16 : decode mi_X6_addGenerator.2.1 16 = .ok (.getfield 19, 3) := by decide +kernel
theorem dX6_addGenerator_19 : decode mi_X6_addGenerator.2.1 19 = .ok (.invokevirtual 78, 3) := by decide +kernel
theorem dX6_addGenerator_22 : decode mi_X6_addGenerator.2.1 22 = .ok (.ifCond .eq 6, 3) := by decide +kernel
theorem dX6_addGenerator_25 : decode mi_X6_addGenerator.2.1 25 = .ok (.bipush (-2), 2) := by decide +kernel
theorem dX6_addGenerator_27 : decode mi_X6_addGenerator.2.1 27 = .ok (.ireturn, 1) := by decide +kernel
theorem dX6_addGenerator_28 : decode mi_X6_addGenerator.2.1 28 = .ok (.aload_n 0, 1) := by decide +kernel
theorem dX6_addGenerator_29 : decode mi_X6_addGenerator.2.1 29 = .ok (.getfield 26, 3) := by decide +kernel
theorem dX6_addGenerator_32 : decode mi_X6_addGenerator.2.1 32 = .ok (.aload_n 0, 1) := by decide +kernel
theorem dX6_addGenerator_33 : decode mi_X6_addGenerator.2.1 33 = .ok (.getfield 12, 3) := by decide +kernel
theorem dX6_addGenerator_36 : decode mi_X6_addGenerator.2.1 36 = .ok (.aload_n 0, 1) := by decide +kernel
theorem dX6_addGenerator_37 : decode mi_X6_addGenerator.2.1 37 = .ok (.getfield 19, 3) := by decide +kernel
theorem dX6_addGenerator_40 : decode mi_X6_addGenerator.2.1 40 = .ok (.invokevirtual 64, 3) := by decide +kernel
theorem dX6_addGenerator_43 : decode mi_X6_addGenerator.2.1 43 = .ok (.aload_n 0, 1) := by decide +kernel
theorem dX6_addGenerator_44 : decode mi_X6_addGenerator.2.1 44 = .ok (.getfield 19, 3) := by decide +kernel
theorem dX6_addGenerator_47 : decode mi_X6_addGenerator.2.1 47 = .ok (.aload_n 0, 1) := by decide +kernel
theorem dX6_addGenerator_48 : decode mi_X6_addGenerator.2.1 48 = .ok (.getfield 12, 3) := by decide +kernel
theorem dX6_addGenerator_51 : decode mi_X6_addGenerator.2.1 51 = .ok (.iload_n 1, 1) := by decide +kernel
theorem dX6_addGenerator_52 : decode mi_X6_addGenerator.2.1 52 = .ok (.iload_n 2, 1) := by decide +kernel
theorem dX6_addGenerator_53 : decode mi_X6_addGenerator.2.1 53 = .ok (.iload_n 3, 1) := by decide +kernel
theorem dX6_addGenerator_54 : decode mi_X6_addGenerator.2.1 54 = .ok (.invokevirtual 82, 3) := by decide +kernel
theorem dX6_addGenerator_57 : decode mi_X6_addGenerator.2.1 57 = .ok (.invokevirtual 86, 3) := by decide +kernel
theorem dX6_addGenerator_60 : decode mi_X6_addGenerator.2.1 60 = .ok (.aload_n 0, 1) := by decide +kernel
theorem dX6_addGenerator_61 : decode mi_X6_addGenerator.2.1 61 = .ok (.invokevirtual 57, 3) := by decide +kernel
theorem dX6_addGenerator_64 : decode mi_X6_addGenerator.2.1 64 = .ok (.aload_n 0, 1) := by decide +kernel
theorem dX6_addGenerator_65 : decode mi_X6_addGenerator.2.1 65 = .ok (.getfield 35, 3) := by decide +kernel
theorem dX6_addGenerator_68 : decode mi_X6_addGenerator.2.1 68 = .ok (.invokevirtual 90, 3) := by decide +kernel
theorem dX6_addGenerator_71 : decode mi_X6_addGenerator.2.1 71 = .ok (.ireturn, 1) := by decide +kernel
theorem dX6_removeGenerator_0 : decode mi_X6_removeGenerator.2.1 0 = .ok (.aload_n 0, 1) := by decide +kernel
theorem dX6_removeGenerator_1 : decode mi_X6_removeGenerator.2.1 1 = .ok (.getfield 19, 3) := by decide +kernel
theorem dX6_removeGenerator_4 : decode mi_X6_removeGenerator.2.1 4 = .ok (.iload_n 1, 1) := by decide +kernel
theorem dX6_removeGenerator_5 : decode mi_X6_removeGenerator.2.1 5 = .ok (.invokevirtual 94, 3) := by decide +kernel
theorem dX6_removeGenerator_8 : decode mi_X6_removeGenerator.2.1 8 = .ok (.ifCond .ne 5, 3) := by decide +kernel
theorem dX6_removeGenerator_11 : decode mi_X6_removeGenerator.2.1 11 = .ok (.iconst (-1), 1) := by decide +kernel
theorem dX6_removeGenerator_12 : decode mi_X6_removeGenerator.2.1 12 = .ok (.ireturn, 1) := by decide +kernel
theorem dX6_removeGenerator_13 : decode mi_X6_removeGenerator.2.1 13 = .ok (.aload_n 0, 1) := by decide +kernel
theorem dX6_removeGenerator_14 : decode mi_X6_removeGenerator.2.1 14 = .ok (.getfield 26, 3) := by decide +kernel
theorem dX6_removeGenerator_17 : decode mi_X6_removeGenerator.2.1 17 = .ok (.aload_n 0, 1) := by decide +kernel
theorem dX6_removeGenerator_18 : decode mi_X6_removeGenerator.2.1 18 = .ok (.getfield 12, 3) := by decide +kernel
theorem dX6_removeGenerator_21 : decode mi_X6_removeGenerator.2.1 21 = .ok (.aload_n 0, 1) := by decide +kernel
theorem dX6_removeGenerator_22 : decode mi_X6_removeGenerator.2.1 22 = .ok (.getfield 19, 3) := by decide +kernel
theorem dX6_removeGenerator_25 : decode mi_X6_removeGenerator.2.1 25 = .ok (.invokevirtual 64, 3) := by decide +kernel
theorem dX6_removeGenerator_28 : decode mi_X6_removeGenerator.2.1 28 = .ok (.aload_n 0, 1) := by decide +kernel
theorem dX6_removeGenerator_29 : decode mi_X6_removeGenerator.2.1 29 = .ok (.getfield 19, 3) := by decide +kernel
theorem dX6_removeGenerator_32 : decode mi_X6_removeGenerator.2.1 32 = .ok (.iload_n 1, 1) := by decide +kernel
theorem dX6_removeGenerator_33 : decode mi_X6_removeGenerator.2.1 33 = .ok (.invokevirtual 98, 3) := by decide +kernel
theorem dX6_removeGenerator_36 : decode mi_X6_removeGenerator.2.1 36 = .ok (.aload_n 0, 1) := by decide +kernel
theorem dX6_removeGenerator_37 : decode mi_X6_removeGenerator.2.1 37 = .ok (.invokevirtual 57, 3) := by decide +kernel
theorem dX6_removeGenerator_40 : decode mi_X6_removeGenerator.2.1 40 = .ok (.aload_n 0, 1) := by decide +kernel
theorem dX6_removeGenerator_41 : decode mi_X6_removeGenerator.2.1 41 = .ok (.getfield 35, 3) := by decide +kernel
theorem dX6_removeGenerator_44 : decode mi_X6_removeGenerator.2.1 44 = .ok (.invokevirtual 90, 3) := by decide +kernel
theorem dX6_removeGenerator_47 : decode mi_X6_removeGenerator.2.1 47 = .ok (.ireturn, 1) := by decide +kernel
theorem dX6_setGenerator_0 : decode mi_X6_setGenerator.2.1 0 = .ok (.aload_n 0, 1) := by decide +kernel
theorem dX6_setGenerator_1 : decode mi_X6_setGenerator.2.1 1 = .ok (.getfield 19, 3) := by decide +kernel
theorem dX6_setGenerator_4 : decode mi_X6_setGenerator.2.1 4 = .ok (.iload_n 1, 1) := by decide +kernel
theorem dX6_setGenerator_5 : decode mi_X6_setGenerator.2.1 5 = .ok (.invokevirtual 94, 3) := by decide +kernel
theorem dX6_setGenerator_8 : decode mi_X6_setGenerator.2.1 8 = .ok (.ifCond .eq 17, 3) := by decide +kernel
theorem dX6_setGenerator_11 : decode mi_X6_setGenerator.2.1 11 = .ok (.aload_n 0, 1) := by decide +kernel
theorem dX6_setGenerator_12 : decode mi_X6_setGenerator.2.1 12 = .ok (.getfield 12, 3) := by decide +kernel
theorem dX6_setGenerator_15 : decode mi_X6_setGenerator.2.1 15 = .ok (.iload_n 2, 1) := by decide +kernel
theorem dX6_setGenerator_16 : decode mi_X6_setGenerator.2.1 16 = .ok (.iload_n 3, 1) := by decide +kernel
theorem dX6_setGenerator_17 : decode mi_X6_setGenerator.2.1 17 = .ok (.iload 4, 2) := by decide +kernel
theorem dX6_setGenerator_19 : decode mi_X6_setGenerator.2.1 19 = .ok (.invokevirtual 74, 3) := by decide +kernel
theorem dX6_setGenerator_22 : decode mi_X6_setGenerator.2.1 22 = .ok (.ifCond .ne 5, 3) := by decide +kernel
theorem dX6_setGenerator_25 : decode mi_X6_setGenerator.2.1 25 = .ok (.iconst (-1), 1) := by decide +kernel
theorem dX6_setGenerator_26 : decode mi_X6_setGenerator.2.1 26 = .ok (.ireturn, 1) := by decide +kernel
theorem dX6_setGenerator_27 : decode mi_X6_setGenerator.2.1 27 = .ok (.aload_n 0, 1) := by decide +kernel
theorem dX6_setGenerator_28 : decode mi_X6_setGenerator.2.1 28 = .ok (.getfield 19, 3) := by decide +kernel
theorem dX6_setGenerator_31 : decode mi_X6_setGenerator.2.1 31 = .ok (.iload_n 1, 1) := by decide +kernel
theorem dX6_setGenerator_32 : decode mi_X6_setGenerator.2.1 32 = .ok (.invokevirtual 101, 3) := by decide +kernel
theorem dX6_setGenerator_35 : decode mi_X6_setGenerator.2.1 35 = .ok (.istore 5, 2) := by decide +kernel
theorem dX6_setGenerator_37 : decode mi_X6_setGenerator.2.1 37 = .ok (.aload_n 0, 1) := by decide +kernel
theorem dX6_setGenerator_38 : decode mi_X6_setGenerator.2.1 38 = .ok (.getfield 26, 3) := by decide +kernel
theorem dX6_setGenerator_41 : decode mi_X6_setGenerator.2.1 41 = .ok (.aload_n 0, 1) := by decide +kernel
theorem dX6_setGenerator_42 : decode mi_X6_setGenerator.2.1 42 = .ok (.getfield 12, 3) := by decide +kernel
theorem dX6_setGenerator_45 : decode mi_X6_setGenerator.2.1 45 = .ok (.aload_n 0, 1) := by decide +kernel
theorem dX6_setGenerator_46 : decode mi_X6_setGenerator.2.1 46 = .ok (.getfield 19, 3) := by decide +kernel
theorem dX6_setGenerator_49 : decode mi_X6_setGenerator.2.1 49 = .ok (.invokevirtual 64, 3) := by decide +kernel
theorem dX6_setGenerator_52 : decode mi_X6_setGenerator.2.1 52 = .ok (.aload_n 0, 1) := by decide +kernel
theorem dX6_setGenerator_53 : decode mi_X6_setGenerator.2.1 53 = .ok (.getfield 19, 3) := by decide +kernel
theorem dX6_setGenerator_56 : decode mi_X6_setGenerator.2.1 56 = .ok (.iload_n 1, 1) := by decide +kernel
theorem dX6_setGenerator_57 : decode mi_X6_setGenerator.2.1 57 = .ok (.aload_n 0, 1) := by decide +kernel
theorem dX6_setGenerator_58 : decode mi_X6_setGenerator.2.1 58 = .ok (.getfield 12, 3) := by decide +kernel
theorem dX6_setGenerator_61 : decode mi_X6_setGenerator.2.1 61 = .ok (.iload_n 2, 1) := by decide +kernel
theorem dX6_setGenerator_62 : decode mi_X6_setGenerator.2.1 62 = .ok (.iload_n 3, 1) := by decide +kernel
theorem dX6_setGenerator_63 : decode mi_X6_setGenerator.2.1 63 = .ok (.iload 4, 2) := by decide +kernel
theorem dX6_setGenerator_65 : decode mi_X6_setGenerator.2.1 65 = .ok (.invokevirtual 82, 3) := by decide +kernel
theorem dX6_setGenerator_68 : decode mi_X6_setGenerator.2.1 68 = .ok (.invokevirtual 105, 3) := by decide +kernel
theorem dX6_setGenerator_71 : decode mi_X6_setGenerator.2.1 71 = .ok (.aload_n 0, 1) := by decide +kernel
theorem dX6_setGenerator_72 : decode mi_X6_setGenerator.2.1 72 = .ok (.invokevirtual 57, 3) := by decide +kernel
theorem dX6_setGenerator_75 : decode mi_X6_setGenerator.2.1 75 = .ok (.iload 5, 2) := by decide +kernel
theorem dX6_setGenerator_77 : decode mi_X6_setGenerator.2.1 77 = .ok (.ireturn, 1) := by decide +kernel
theorem dX6_undo_0 : decode mi_X6_undo.2.1 0 = .ok (.aload_n 0, 1) := by decide +kernel
theorem dX6_undo_1 : decode mi_X6_undo.2.1 1 = .ok (.getfield 26, 3) := by decide +kernel
theorem dX6_undo_4 : decode mi_X6_undo.2.1 4 = .ok (.invokevirtual 108, 3) := by decide +kernel
theorem dX6_undo_7 : decode mi_X6_undo.2.1 7 = .ok (.ifCond .eq 6, 3) := by decide +kernel
theorem dX6_undo_10 : decode mi_X6_undo.2.1 10 = .ok (.bipush (-3), 2) := by decide +kernel
theorem dX6_undo_12 : decode mi_X6_undo.2.1 12 = .ok (.ireturn, 1) := by decide +kernel
theorem dX6_undo_13 : decode mi_X6_undo.2.1 13 = .ok (.aload_n 0, 1) := by decide +kernel
theorem dX6_undo_14 : decode mi_X6_undo.2.1 14 = .ok (.getfield 26, 3) := by decide +kernel
theorem dX6_undo_17 : decode mi_X6_undo.2.1 17 = .ok (.aload_n 0, 1) := by decide +kernel
theorem dX6_undo_18 : decode mi_X6_undo.2.1 18 = .ok (.getfield 12, 3) := by decide +kernel
theorem dX6_undo_21 : decode mi_X6_undo.2.1 21 = .ok (.aload_n 0, 1) := by decide +kernel
theorem dX6_undo_22 : decode mi_X6_undo.2.1 22 = .ok (.getfield 19, 3) := by decide +kernel
theorem dX6_undo_25 : decode mi_X6_undo.2.1 25 = .ok (.invokevirtual 111, 3) := by decide +kernel
theorem dX6_undo_28 : decode mi_X6_undo.2.1 28 = .ok (.aload_n 0, 1) := by decide +kernel
theorem dX6_undo_29 : decode mi_X6_undo.2.1 29 = .ok (.invokevirtual 57, 3) := by decide +kernel
theorem dX6_undo_32 : decode mi_X6_undo.2.1 32 = .ok (.aload_n 0, 1) := by decide +kernel
theorem dX6_undo_33 : decode mi_X6_undo.2.1 33 = .ok (.getfield 26, 3) := by decide +kernel
theorem dX6_undo_36 : decode mi_X6_undo.2.1 36 = .ok (.getfield 114, 3) := by decide +kernel
theorem dX6_undo_39 : decode mi_X6_undo.2.1 39 = .ok (.ireturn, 1) := by decide +kernel
theorem dX6_generator_0 : decode mi_X6_generator.2.1 0 = .ok (.iload_n 1, 1) := by decide +kernel
theorem dX6_generator_1 : decode mi_X6_generator.2.1 1 = .ok (.ifCond .ge 5, 3) := by decide +kernel
theorem dX6_generator_4 : decode mi_X6_generator.2.1 4 = .ok (.iconst (-1), 1) := by decide +kernel
theorem dX6_generator_5 : decode mi_X6_generator.2.1 5 = .ok (.ireturn, 1) := by decide +kernel
theorem dX6_generator_6 : decode mi_X6_generator.2.1 6 = .ok (.aload_n 0, 1) := by decide +kernel
theorem dX6_generator_7 : decode mi_X6_generator.2.1 7 = .ok (.getfield 19, 3) := by decide +kernel
theorem dX6_generator_10 : decode mi_X6_generator.2.1 10 = .ok (.iload_n 1, 1) := by decide +kernel
theorem dX6_generator_11 : decode mi_X6_generator.2.1 11 = .ok (.invokevirtual 94, 3) := by decide +kernel
theorem dX6_generator_14 : decode mi_X6_generator.2.1 14 = .ok (.ifCond .eq 14, 3) := by decide +kernel
theorem dX6_generator_17 : decode mi_X6_generator.2.1 17 = .ok (.aload_n 0, 1) := by decide +kernel
theorem dX6_generator_18 : decode mi_X6_generator.2.1 18 = .ok (.getfield 19, 3) := by decide +kernel
theorem dX6_generator_21 : decode mi_X6_generator.2.1 21 = .ok (.iload_n 1, 1) := by decide +kernel
theorem dX6_generator_22 : decode mi_X6_generator.2.1 22 = .ok (.invokevirtual 101, 3) := by decide +kernel
theorem dX6_generator_25 : decode mi_X6_generator.2.1 25 = .ok (.goto 5, 3) := by decide +kernel
theorem dX6_generator_28 : decode mi_X6_generator.2.1 28 = .ok (.bipush (-3), 2) := by decide +kernel
theorem dX6_generator_30 : decode mi_X6_generator.2.1 30 = .ok (.ireturn, 1) := by decide +kernel
theorem dX6_order_0 : decode mi_X6_order.2.1 0 = .ok (.aload_n 0, 1) := by decide +kernel
theorem dX6_order_1 : decode mi_X6_order.2.1 1 = .ok (.getfield 35, 3) := by decide +kernel
theorem dX6_order_4 : decode mi_X6_order.2.1 4 = .ok (.invokevirtual 90, 3) := by decide +kernel
theorem dX6_order_7 : decode mi_X6_order.2.1 7 = .ok (.ireturn, 1) := by decide +kernel
theorem dX6_element_0 : decode mi_X6_element.2.1 0 = .ok (.iload_n 1, 1) := by decide +kernel
theorem dX6_element_1 : decode mi_X6_element.2.1 1 = .ok (.ifCond .ge 5, 3) := by decide +kernel
theorem dX6_element_4 : decode mi_X6_element.2.1 4 = .ok (.iconst (-1), 1) := by decide +kernel
theorem dX6_element_5 : decode mi_X6_element.2.1 5 = .ok (.ireturn, 1) := by decide +kernel
theorem dX6_element_6 : decode mi_X6_element.2.1 6 = .ok (.iload_n 1, 1) := by decide +kernel
theorem dX6_element_7 : decode mi_X6_element.2.1 7 = .ok (.aload_n 0, 1) := by decide +kernel
theorem dX6_element_8 : decode mi_X6_element.2.1 8 = .ok (.getfield 35, 3) := by decide +kernel
theorem dX6_element_11 : decode mi_X6_element.2.1 11 = .ok (.invokevirtual 90, 3) := by decide +kernel
theorem dX6_element_14 : decode mi_X6_element.2.1 14 = .ok (.if_icmp .ge 14, 3) := by decide +kernel
theorem dX6_element_17 : decode mi_X6_element.2.1 17 = .ok (.aload_n 0, 1) := by decide +kernel
theorem dX6_element_18 : decode mi_X6_element.2.1 18 = .ok (.getfield 35, 3) := by decide +kernel
theorem dX6_element_21 : decode mi_X6_element.2.1 21 = .ok (.iload_n 1, 1) := by decide +kernel
theorem dX6_element_22 : decode mi_X6_element.2.1 22 = .ok (.invokevirtual 117, 3) := by decide +kernel
theorem dX6_element_25 : decode mi_X6_element.2.1 25 = .ok (.goto 5, 3) := by decide +kernel
theorem dX6_element_28 : decode mi_X6_element.2.1 28 = .ok (.bipush (-3), 2) := by decide +kernel
theorem dX6_element_30 : decode mi_X6_element.2.1 30 = .ok (.ireturn, 1) := by decide +kernel
theorem dX6_contains_0 : decode mi_X6_contains.2.1 0 = .ok (.aload_n 0, 1) := by decide +kernel
theorem dX6_contains_1 : decode mi_X6_contains.2.1 1 = .ok (.getfield 12, 3) := by decide +kernel
theorem dX6_contains_4 : decode mi_X6_contains.2.1 4 = .ok (.iload_n 1, 1) := by decide +kernel
theorem dX6_contains_5 : decode mi_X6_contains.2.1 5 = .ok (.invokevirtual 120, 3) := by decide +kernel
theorem dX6_contains_8 : decode mi_X6_contains.2.1 8 = .ok (.ifCond .ne 5, 3) := by decide +kernel
theorem dX6_contains_11 : decode mi_X6_contains.2.1 11 = .ok (.iconst (-1), 1) := by decide +kernel
theorem dX6_contains_12 : decode mi_X6_contains.2.1 12 = .ok (.ireturn, 1) := by decide +kernel
theorem dX6_contains_13 : decode mi_X6_contains.2.1 13 = .ok (.aload_n 0, 1) := by decide +kernel
theorem dX6_contains_14 : decode mi_X6_contains.2.1 14 = .ok (.getfield 35, 3) := by decide +kernel
theorem dX6_contains_17 : decode mi_X6_contains.2.1 17 = .ok (.iload_n 1, 1) := by decide +kernel
theorem dX6_contains_18 : decode mi_X6_contains.2.1 18 = .ok (.invokevirtual 123, 3) := by decide +kernel
theorem dX6_contains_21 : decode mi_X6_contains.2.1 21 = .ok (.invokestatic 124, 3) := by decide +kernel
theorem dX6_contains_24 : decode mi_X6_contains.2.1 24 = .ok (.ireturn, 1) := by decide +kernel
theorem dX6_product_0 : decode mi_X6_product.2.1 0 = .ok (.aload_n 0, 1) := by decide +kernel
theorem dX6_product_1 : decode mi_X6_product.2.1 1 = .ok (.getfield 12, 3) := by decide +kernel
theorem dX6_product_4 : decode mi_X6_product.2.1 4 = .ok (.iload_n 1, 1) := by decide +kernel
theorem dX6_product_5 : decode mi_X6_product.2.1 5 = .ok (.invokevirtual 120, 3) := by decide +kernel
theorem dX6_product_8 : decode mi_X6_product.2.1 8 = .ok (.ifCond .eq 14, 3) := by decide +kernel
theorem dX6_product_11 : decode mi_X6_product.2.1 11 = .ok (.aload_n 0, 1) := by decide +kernel
theorem dX6_product_12 : decode mi_X6_product.2.1 12 = .ok (.getfield 12, 3) := by decide +kernel
theorem dX6_product_15 : decode mi_X6_product.2.1 15 = .ok (.iload_n 2, 1) := by decide +kernel
theorem dX6_product_16 : decode mi_X6_product.2.1 16 = .ok (.invokevirtual 120, 3) := by decide +kernel
theorem dX6_product_19 : decode mi_X6_product.2.1 19 = .ok (.ifCond .ne 5, 3) := by decide +kernel
theorem dX6_product_22 : decode mi_X6_product.2.1 22 = .ok (.iconst (-1), 1) := by decide +kernel
theorem dX6_product_23 : decode mi_X6_product.2.1 23 = .ok (.ireturn, 1) := by decide +kernel
theorem dX6_product_24 : decode mi_X6_product.2.1 24 = .ok (.aload_n 0, 1) := by decide +kernel
theorem dX6_product_25 : decode mi_X6_product.2.1 25 = .ok (.getfield 12, 3) := by decide +kernel
theorem dX6_product_28 : decode mi_X6_product.2.1 28 = .ok (.iload_n 1, 1) := by decide +kernel
theorem dX6_product_29 : decode mi_X6_product.2.1 29 = .ok (.iload_n 2, 1) := by decide +kernel
theorem dX6_product_30 : decode mi_X6_product.2.1 30 = .ok (.invokevirtual 128, 3) := by decide +kernel
theorem dX6_product_33 : decode mi_X6_product.2.1 33 = .ok (.ireturn, 1) := by decide +kernel
theorem dX6_orderOf_0 : decode mi_X6_orderOf.2.1 0 = .ok (.aload_n 0, 1) := by decide +kernel
theorem dX6_orderOf_1 : decode mi_X6_orderOf.2.1 1 = .ok (.getfield 12, 3) := by decide +kernel
theorem dX6_orderOf_4 : decode mi_X6_orderOf.2.1 4 = .ok (.iload_n 1, 1) := by decide +kernel
theorem dX6_orderOf_5 : decode mi_X6_orderOf.2.1 5 = .ok (.invokevirtual 120, 3) := by decide +kernel
theorem dX6_orderOf_8 : decode mi_X6_orderOf.2.1 8 = .ok (.ifCond .ne 5, 3) := by decide +kernel
theorem dX6_orderOf_11 : decode mi_X6_orderOf.2.1 11 = .ok (.iconst (-1), 1) := by decide +kernel
theorem dX6_orderOf_12 : decode mi_X6_orderOf.2.1 12 = .ok (.ireturn, 1) := by decide +kernel
theorem dX6_orderOf_13 : decode mi_X6_orderOf.2.1 13 = .ok (.aload_n 0, 1) := by decide +kernel
theorem dX6_orderOf_14 : decode mi_X6_orderOf.2.1 14 = .ok (.getfield 12, 3) := by decide +kernel
theorem dX6_orderOf_17 : decode mi_X6_orderOf.2.1 17 = .ok (.iload_n 1, 1) := by decide +kernel
theorem dX6_orderOf_18 : decode mi_X6_orderOf.2.1 18 = .ok (.invokevirtual 132, 3) := by decide +kernel
theorem dX6_orderOf_21 : decode mi_X6_orderOf.2.1 21 = .ok (.ireturn, 1) := by decide +kernel
theorem dX6_kindOf_0 : decode mi_X6_kindOf.2.1 0 = .ok (.aload_n 0, 1) := by decide +kernel
theorem dX6_kindOf_1 : decode mi_X6_kindOf.2.1 1 = .ok (.getfield 12, 3) := by decide +kernel
theorem dX6_kindOf_4 : decode mi_X6_kindOf.2.1 4 = .ok (.iload_n 1, 1) := by decide +kernel
theorem dX6_kindOf_5 : decode mi_X6_kindOf.2.1 5 = .ok (.invokevirtual 120, 3) := by decide +kernel
theorem dX6_kindOf_8 : decode mi_X6_kindOf.2.1 8 = .ok (.ifCond .ne 5, 3) := by decide +kernel
theorem dX6_kindOf_11 : decode mi_X6_kindOf.2.1 11 = .ok (.iconst (-1), 1) := by decide +kernel
theorem dX6_kindOf_12 : decode mi_X6_kindOf.2.1 12 = .ok (.ireturn, 1) := by decide +kernel
theorem dX6_kindOf_13 : decode mi_X6_kindOf.2.1 13 = .ok (.aload_n 0, 1) := by decide +kernel
theorem dX6_kindOf_14 : decode mi_X6_kindOf.2.1 14 = .ok (.getfield 12, 3) := by decide +kernel
theorem dX6_kindOf_17 : decode mi_X6_kindOf.2.1 17 = .ok (.iload_n 1, 1) := by decide +kernel
theorem dX6_kindOf_18 : decode mi_X6_kindOf.2.1 18 = .ok (.invokevirtual 135, 3) := by decide +kernel
theorem dX6_kindOf_21 : decode mi_X6_kindOf.2.1 21 = .ok (.ireturn, 1) := by decide +kernel
theorem dX6_count_0 : decode mi_X6_count.2.1 0 = .ok (.iload_n 1, 1) := by decide +kernel
theorem dX6_count_1 : decode mi_X6_count.2.1 1 = .ok (.ifCond .lt 8, 3) := by decide +kernel
theorem dX6_count_4 : decode mi_X6_count.2.1 4 = .ok (.iload_n 1, 1) := by decide +kernel
theorem dX6_count_5 : decode mi_X6_count.2.1 5 = .ok (.iconst 4, 1) := by decide +kernel
theorem dX6_count_6 : decode mi_X6_count.2.1 6 = .ok (.if_icmp .lt 5, 3) := by decide +kernel
theorem dX6_count_9 : decode mi_X6_count.2.1 9 = .ok (.iconst (-1), 1) := by decide +kernel
theorem dX6_count_10 : decode mi_X6_count.2.1 10 = .ok (.ireturn, 1) := by decide +kernel
theorem dX6_count_11 : decode mi_X6_count.2.1 11 = .ok (.aload_n 0, 1) := by decide +kernel
theorem dX6_count_12 : decode mi_X6_count.2.1 12 = .ok (.getfield 44, 3) := by decide +kernel
theorem dX6_count_15 : decode mi_X6_count.2.1 15 = .ok (.iload_n 1, 1) := by decide +kernel
theorem dX6_count_16 : decode mi_X6_count.2.1 16 = .ok (.invokevirtual 138, 3) := by decide +kernel
theorem dX6_count_19 : decode mi_X6_count.2.1 19 = .ok (.ireturn, 1) := by decide +kernel
theorem dX6_isAbelian_0 : decode mi_X6_isAbelian.2.1 0 = .ok (.aload_n 0, 1) := by decide +kernel
theorem dX6_isAbelian_1 : decode mi_X6_isAbelian.2.1 1 = .ok (.getfield 35, 3) := by decide +kernel
theorem dX6_isAbelian_4 : decode mi_X6_isAbelian.2.1 4 = .ok (.invokevirtual 141, 3) := by decide +kernel
theorem dX6_isAbelian_7 : decode mi_X6_isAbelian.2.1 7 = .ok (.invokestatic 124, 3) := by decide +kernel
theorem dX6_isAbelian_10 : decode mi_X6_isAbelian.2.1 10 = .ok (.ireturn, 1) := by decide +kernel
theorem dX6_conjugacyClasses_0 : decode mi_X6_conjugacyClasses.2.1 0 = .ok (.aload_n 0, 1) := by decide +kernel
theorem dX6_conjugacyClasses_1 : decode mi_X6_conjugacyClasses.2.1 1 = .ok (.getfield 35, 3) := by decide +kernel
theorem dX6_conjugacyClasses_4 : decode mi_X6_conjugacyClasses.2.1 4 = .ok (.invokevirtual 144, 3) := by decide +kernel
theorem dX6_conjugacyClasses_7 : decode mi_X6_conjugacyClasses.2.1 7 = .ok (.ireturn, 1) := by decide +kernel
theorem dX6_linearParts_0 : decode mi_X6_linearParts.2.1 0 = .ok (.aload_n 0, 1) := by decide +kernel
theorem dX6_linearParts_1 : decode mi_X6_linearParts.2.1 1 = .ok (.getfield 44, 3) := by decide +kernel
theorem dX6_linearParts_4 : decode mi_X6_linearParts.2.1 4 = .ok (.invokevirtual 147, 3) := by decide +kernel
theorem dX6_linearParts_7 : decode mi_X6_linearParts.2.1 7 = .ok (.ireturn, 1) := by decide +kernel
theorem dX6_rotationOrder_0 : decode mi_X6_rotationOrder.2.1 0 = .ok (.aload_n 0, 1) := by decide +kernel
theorem dX6_rotationOrder_1 : decode mi_X6_rotationOrder.2.1 1 = .ok (.getfield 44, 3) := by decide +kernel
theorem dX6_rotationOrder_4 : decode mi_X6_rotationOrder.2.1 4 = .ok (.invokevirtual 150, 3) := by decide +kernel
theorem dX6_rotationOrder_7 : decode mi_X6_rotationOrder.2.1 7 = .ok (.ireturn, 1) := by decide +kernel
theorem dX6_mirrorDirections_0 : decode mi_X6_mirrorDirections.2.1 0 = .ok (.aload_n 0, 1) := by decide +kernel
theorem dX6_mirrorDirections_1 : decode mi_X6_mirrorDirections.2.1 1 = .ok (.getfield 44, 3) := by decide +kernel
theorem dX6_mirrorDirections_4 : decode mi_X6_mirrorDirections.2.1 4 = .ok (.invokevirtual 153, 3) := by decide +kernel
theorem dX6_mirrorDirections_7 : decode mi_X6_mirrorDirections.2.1 7 = .ok (.ireturn, 1) := by decide +kernel
theorem dX6_isCentered_0 : decode mi_X6_isCentered.2.1 0 = .ok (.aload_n 0, 1) := by decide +kernel
theorem dX6_isCentered_1 : decode mi_X6_isCentered.2.1 1 = .ok (.getfield 44, 3) := by decide +kernel
theorem dX6_isCentered_4 : decode mi_X6_isCentered.2.1 4 = .ok (.invokevirtual 156, 3) := by decide +kernel
theorem dX6_isCentered_7 : decode mi_X6_isCentered.2.1 7 = .ok (.invokestatic 124, 3) := by decide +kernel
theorem dX6_isCentered_10 : decode mi_X6_isCentered.2.1 10 = .ok (.ireturn, 1) := by decide +kernel
theorem dX6_type_0 : decode mi_X6_type.2.1 0 = .ok (.aload_n 0, 1) := by decide +kernel
theorem dX6_type_1 : decode mi_X6_type.2.1 1 = .ok (.getfield 44, 3) := by decide +kernel
theorem dX6_type_4 : decode mi_X6_type.2.1 4 = .ok (.invokevirtual 159, 3) := by decide +kernel
theorem dX6_type_7 : decode mi_X6_type.2.1 7 = .ok (.ireturn, 1) := by decide +kernel
theorem dX6_orbitSize_0 : decode mi_X6_orbitSize.2.1 0 = .ok (.aload_n 0, 1) := by decide +kernel
theorem dX6_orbitSize_1 : decode mi_X6_orbitSize.2.1 1 = .ok (.getfield 12, 3) := by decide +kernel
theorem dX6_orbitSize_4 : decode mi_X6_orbitSize.2.1 4 = .ok (.iload_n 1, 1) := by decide +kernel
theorem dX6_orbitSize_5 : decode mi_X6_orbitSize.2.1 5 = .ok (.iload_n 2, 1) := by decide +kernel
theorem dX6_orbitSize_6 : decode mi_X6_orbitSize.2.1 6 = .ok (.invokevirtual 162, 3) := by decide +kernel
theorem dX6_orbitSize_9 : decode mi_X6_orbitSize.2.1 9 = .ok (.ifCond .ne 5, 3) := by decide +kernel
theorem dX6_orbitSize_12 : decode mi_X6_orbitSize.2.1 12 = .ok (.iconst (-1), 1) := by decide +kernel
theorem dX6_orbitSize_13 : decode mi_X6_orbitSize.2.1 13 = .ok (.ireturn, 1) := by decide +kernel
theorem dX6_orbitSize_14 : decode mi_X6_orbitSize.2.1 14 = .ok (.aload_n 0, 1) := by decide +kernel
theorem dX6_orbitSize_15 : decode mi_X6_orbitSize.2.1 15 = .ok (.getfield 53, 3) := by decide +kernel
theorem dX6_orbitSize_18 : decode mi_X6_orbitSize.2.1 18 = .ok (.aload_n 0, 1) := by decide +kernel
theorem dX6_orbitSize_19 : decode mi_X6_orbitSize.2.1 19 = .ok (.getfield 12, 3) := by decide +kernel
theorem dX6_orbitSize_22 : decode mi_X6_orbitSize.2.1 22 = .ok (.iload_n 1, 1) := by decide +kernel
theorem dX6_orbitSize_23 : decode mi_X6_orbitSize.2.1 23 = .ok (.iload_n 2, 1) := by decide +kernel
theorem dX6_orbitSize_24 : decode mi_X6_orbitSize.2.1 24 = .ok (.invokevirtual 166, 3) := by decide +kernel
theorem dX6_orbitSize_27 : decode mi_X6_orbitSize.2.1 27 = .ok (.invokevirtual 169, 3) := by decide +kernel
theorem dX6_orbitSize_30 : decode mi_X6_orbitSize.2.1 30 = .ok (.ireturn, 1) := by decide +kernel
theorem dX6_orbitFirst_0 : decode mi_X6_orbitFirst.2.1 0 = .ok (.aload_n 0, 1) := by decide +kernel
theorem dX6_orbitFirst_1 : decode mi_X6_orbitFirst.2.1 1 = .ok (.getfield 12, 3) := by decide +kernel
theorem dX6_orbitFirst_4 : decode mi_X6_orbitFirst.2.1 4 = .ok (.iload_n 1, 1) := by decide +kernel
theorem dX6_orbitFirst_5 : decode mi_X6_orbitFirst.2.1 5 = .ok (.iload_n 2, 1) := by decide +kernel
theorem dX6_orbitFirst_6 : decode mi_X6_orbitFirst.2.1 6 = .ok (.invokevirtual 162, 3) := by decide +kernel
theorem dX6_orbitFirst_9 : decode mi_X6_orbitFirst.2.1 9 = .ok (.ifCond .ne 5, 3) := by decide +kernel
theorem dX6_orbitFirst_12 : decode mi_X6_orbitFirst.2.1 12 = .ok (.iconst (-1), 1) := by decide +kernel
theorem dX6_orbitFirst_13 : decode mi_X6_orbitFirst.2.1 13 = .ok (.ireturn, 1) := by decide +kernel
theorem dX6_orbitFirst_14 : decode mi_X6_orbitFirst.2.1 14 = .ok (.aload_n 0, 1) := by decide +kernel
theorem dX6_orbitFirst_15 : decode mi_X6_orbitFirst.2.1 15 = .ok (.getfield 53, 3) := by decide +kernel
theorem dX6_orbitFirst_18 : decode mi_X6_orbitFirst.2.1 18 = .ok (.aload_n 0, 1) := by decide +kernel
theorem dX6_orbitFirst_19 : decode mi_X6_orbitFirst.2.1 19 = .ok (.getfield 12, 3) := by decide +kernel
theorem dX6_orbitFirst_22 : decode mi_X6_orbitFirst.2.1 22 = .ok (.iload_n 1, 1) := by decide +kernel
theorem dX6_orbitFirst_23 : decode mi_X6_orbitFirst.2.1 23 = .ok (.iload_n 2, 1) := by decide +kernel
theorem dX6_orbitFirst_24 : decode mi_X6_orbitFirst.2.1 24 = .ok (.invokevirtual 166, 3) := by decide +kernel
theorem dX6_orbitFirst_27 : decode mi_X6_orbitFirst.2.1 27 = .ok (.invokevirtual 172, 3) := by decide +kernel
theorem dX6_orbitFirst_30 : decode mi_X6_orbitFirst.2.1 30 = .ok (.ireturn, 1) := by decide +kernel
theorem dX6_stabilizerOrder_0 : decode mi_X6_stabilizerOrder.2.1 0 = .ok (.aload_n 0, 1) := by decide +kernel
theorem dX6_stabilizerOrder_1 : decode mi_X6_stabilizerOrder.2.1 1 = .ok (.getfield 12, 3) := by decide +kernel
theorem dX6_stabilizerOrder_4 : decode mi_X6_stabilizerOrder.2.1 4 = .ok (.iload_n 1, 1) := by decide +kernel
theorem dX6_stabilizerOrder_5 : decode mi_X6_stabilizerOrder.2.1 5 = .ok (.iload_n 2, 1) := by decide +kernel
theorem dX6_stabilizerOrder_6 : decode mi_X6_stabilizerOrder.2.1 6 = .ok (.invokevirtual 162, 3) := by decide +kernel
theorem dX6_stabilizerOrder_9 : decode mi_X6_stabilizerOrder.2.1 9 = .ok (.ifCond .ne 5, 3) := by decide +kernel
theorem dX6_stabilizerOrder_12 : decode mi_X6_stabilizerOrder.2.1 12 = .ok (.iconst (-1), 1) := by decide +kernel
theorem dX6_stabilizerOrder_13 : decode mi_X6_stabilizerOrder.2.1 13 = .ok (.ireturn, 1) := by decide +kernel
theorem dX6_stabilizerOrder_14 : decode mi_X6_stabilizerOrder.2.1 14 = .ok (.aload_n 0, 1) := by decide +kernel
theorem dX6_stabilizerOrder_15 : decode mi_X6_stabilizerOrder.2.1 15 = .ok (.getfield 53, 3) := by decide +kernel
theorem dX6_stabilizerOrder_18 : decode mi_X6_stabilizerOrder.2.1 18 = .ok (.aload_n 0, 1) := by decide +kernel
theorem dX6_stabilizerOrder_19 : decode mi_X6_stabilizerOrder.2.1 19 = .ok (.getfield 12, 3) := by decide +kernel
theorem dX6_stabilizerOrder_22 : decode mi_X6_stabilizerOrder.2.1 22 = .ok (.iload_n 1, 1) := by decide +kernel
theorem dX6_stabilizerOrder_23 : decode mi_X6_stabilizerOrder.2.1 23 = .ok (.iload_n 2, 1) := by decide +kernel
theorem dX6_stabilizerOrder_24 : decode mi_X6_stabilizerOrder.2.1 24 = .ok (.invokevirtual 166, 3) := by decide +kernel
theorem dX6_stabilizerOrder_27 : decode mi_X6_stabilizerOrder.2.1 27 = .ok (.invokevirtual 175, 3) := by decide +kernel
theorem dX6_stabilizerOrder_30 : decode mi_X6_stabilizerOrder.2.1 30 = .ok (.ireturn, 1) := by decide +kernel
theorem dX6_orbitCount_0 : decode mi_X6_orbitCount.2.1 0 = .ok (.aload_n 0, 1) := by decide +kernel
theorem dX6_orbitCount_1 : decode mi_X6_orbitCount.2.1 1 = .ok (.getfield 53, 3) := by decide +kernel
theorem dX6_orbitCount_4 : decode mi_X6_orbitCount.2.1 4 = .ok (.invokevirtual 178, 3) := by decide +kernel
theorem dX6_orbitCount_7 : decode mi_X6_orbitCount.2.1 7 = .ok (.ireturn, 1) := by decide +kernel
theorem dX6_isSymmorphic_0 : decode mi_X6_isSymmorphic.2.1 0 = .ok (.aload_n 0, 1) := by decide +kernel
theorem dX6_isSymmorphic_1 : decode mi_X6_isSymmorphic.2.1 1 = .ok (.getfield 53, 3) := by decide +kernel
theorem dX6_isSymmorphic_4 : decode mi_X6_isSymmorphic.2.1 4 = .ok (.aload_n 0, 1) := by decide +kernel
theorem dX6_isSymmorphic_5 : decode mi_X6_isSymmorphic.2.1 5 = .ok (.getfield 44, 3) := by decide +kernel
theorem dX6_isSymmorphic_8 : decode mi_X6_isSymmorphic.2.1 8 = .ok (.invokevirtual 147, 3) := by decide +kernel
theorem dX6_isSymmorphic_11 : decode mi_X6_isSymmorphic.2.1 11 = .ok (.invokevirtual 181, 3) := by decide +kernel
end
section
theorem dX6_isSymmorphic_14 : decode mi_X6_isSymmorphic.2.1 14 = .ok (.invokestatic 124, 3) := by decide +kernel
theorem dX6_isSymmorphic_17 : decode mi_X6_isSymmorphic.2.1 17 = .ok (.ireturn, 1) := by decide +kernel
theorem dX6_invariantColorings_0 : decode mi_X6_invariantColorings.2.1 0 = .ok (.iload_n 1, 1) := by decide +kernel
theorem dX6_invariantColorings_1 : decode mi_X6_invariantColorings.2.1 1 = .ok (.iconst 1, 1) := by decide +kernel
theorem dX6_invariantColorings_2 : decode mi_X6_invariantColorings.2.1 2 = .ok (.if_icmp .lt 8, 3) := by decide +kernel
theorem dX6_invariantColorings_5 : decode mi_X6_invariantColorings.2.1 5 = .ok (.iload_n 1, 1) := by decide +kernel
theorem dX6_invariantColorings_6 : decode mi_X6_invariantColorings.2.1 6 = .ok (.iconst 4, 1) := by decide +kernel
theorem dX6_invariantColorings_7 : decode mi_X6_invariantColorings.2.1 7 = .ok (.if_icmp .le 7, 3) := by decide +kernel
theorem dX6_invariantColorings_10 : decode mi_X6_invariantColorings.2.1 10 = .ok (.ldc2_w 184, 3) := by decide +kernel
theorem dX6_invariantColorings_13 : decode mi_X6_invariantColorings.2.1 13 = .ok (.lreturn, 1) := by decide +kernel
theorem dX6_invariantColorings_14 : decode mi_X6_invariantColorings.2.1 14 = .ok (.iload_n 1, 1) := by decide +kernel
theorem dX6_invariantColorings_15 : decode mi_X6_invariantColorings.2.1 15 = .ok (.aload_n 0, 1) := by decide +kernel
theorem dX6_invariantColorings_16 : decode mi_X6_invariantColorings.2.1 16 = .ok (.getfield 53, 3) := by decide +kernel
theorem dX6_invariantColorings_19 : decode mi_X6_invariantColorings.2.1 19 = .ok (.invokevirtual 178, 3) := by decide +kernel
theorem dX6_invariantColorings_22 : decode mi_X6_invariantColorings.2.1 22 = .ok (.invokestatic 186, 3) := by decide +kernel
theorem dX6_invariantColorings_25 : decode mi_X6_invariantColorings.2.1 25 = .ok (.lreturn, 1) := by decide +kernel
theorem dX6_coloringClasses_0 : decode mi_X6_coloringClasses.2.1 0 = .ok (.iload_n 1, 1) := by decide +kernel
theorem dX6_coloringClasses_1 : decode mi_X6_coloringClasses.2.1 1 = .ok (.iconst 1, 1) := by decide +kernel
theorem dX6_coloringClasses_2 : decode mi_X6_coloringClasses.2.1 2 = .ok (.if_icmp .lt 8, 3) := by decide +kernel
theorem dX6_coloringClasses_5 : decode mi_X6_coloringClasses.2.1 5 = .ok (.iload_n 1, 1) := by decide +kernel
theorem dX6_coloringClasses_6 : decode mi_X6_coloringClasses.2.1 6 = .ok (.iconst 4, 1) := by decide +kernel
theorem dX6_coloringClasses_7 : decode mi_X6_coloringClasses.2.1 7 = .ok (.if_icmp .le 7, 3) := by decide +kernel
theorem dX6_coloringClasses_10 : decode mi_X6_coloringClasses.2.1 10 = .ok (.ldc2_w 184, 3) := by decide +kernel
theorem dX6_coloringClasses_13 : decode mi_X6_coloringClasses.2.1 13 = .ok (.lreturn, 1) := by decide +kernel
theorem dX6_coloringClasses_14 : decode mi_X6_coloringClasses.2.1 14 = .ok (.aload_n 0, 1) := by decide +kernel
theorem dX6_coloringClasses_15 : decode mi_X6_coloringClasses.2.1 15 = .ok (.getfield 53, 3) := by decide +kernel
theorem dX6_coloringClasses_18 : decode mi_X6_coloringClasses.2.1 18 = .ok (.iload_n 1, 1) := by decide +kernel
theorem dX6_coloringClasses_19 : decode mi_X6_coloringClasses.2.1 19 = .ok (.invokevirtual 190, 3) := by decide +kernel
theorem dX6_coloringClasses_22 : decode mi_X6_coloringClasses.2.1 22 = .ok (.lreturn, 1) := by decide +kernel
theorem dX6_refresh_0 : decode mi_X6_refresh.2.1 0 = .ok (.aload_n 0, 1) := by decide +kernel
theorem dX6_refresh_1 : decode mi_X6_refresh.2.1 1 = .ok (.getfield 35, 3) := by decide +kernel
theorem dX6_refresh_4 : decode mi_X6_refresh.2.1 4 = .ok (.invokevirtual 194, 3) := by decide +kernel
theorem dX6_refresh_7 : decode mi_X6_refresh.2.1 7 = .ok (.aload_n 0, 1) := by decide +kernel
theorem dX6_refresh_8 : decode mi_X6_refresh.2.1 8 = .ok (.getfield 44, 3) := by decide +kernel
theorem dX6_refresh_11 : decode mi_X6_refresh.2.1 11 = .ok (.invokevirtual 197, 3) := by decide +kernel
theorem dX6_refresh_14 : decode mi_X6_refresh.2.1 14 = .ok (.aload_n 0, 1) := by decide +kernel
theorem dX6_refresh_15 : decode mi_X6_refresh.2.1 15 = .ok (.getfield 53, 3) := by decide +kernel
theorem dX6_refresh_18 : decode mi_X6_refresh.2.1 18 = .ok (.invokevirtual 200, 3) := by decide +kernel
theorem dX6_refresh_21 : decode mi_X6_refresh.2.1 21 = .ok (.return_, 1) := by decide +kernel
theorem dX6_oneIf_0 : decode mi_X6_oneIf.2.1 0 = .ok (.iload_n 0, 1) := by decide +kernel
theorem dX6_oneIf_1 : decode mi_X6_oneIf.2.1 1 = .ok (.ifCond .eq 7, 3) := by decide +kernel
theorem dX6_oneIf_4 : decode mi_X6_oneIf.2.1 4 = .ok (.iconst 1, 1) := by decide +kernel
theorem dX6_oneIf_5 : decode mi_X6_oneIf.2.1 5 = .ok (.goto 4, 3) := by decide +kernel
theorem dX6_oneIf_8 : decode mi_X6_oneIf.2.1 8 = .ok (.iconst 0, 1) := by decide +kernel
theorem dX6_oneIf_9 : decode mi_X6_oneIf.2.1 9 = .ok (.ireturn, 1) := by decide +kernel
theorem dX6_quotient_0 : decode mi_X6_quotient.2.1 0 = .ok (.iload_n 1, 1) := by decide +kernel
theorem dX6_quotient_1 : decode mi_X6_quotient.2.1 1 = .ok (.ifCond .le 9, 3) := by decide +kernel
theorem dX6_quotient_4 : decode mi_X6_quotient.2.1 4 = .ok (.iload_n 0, 1) := by decide +kernel
theorem dX6_quotient_5 : decode mi_X6_quotient.2.1 5 = .ok (.iload_n 1, 1) := by decide +kernel
theorem dX6_quotient_6 : decode mi_X6_quotient.2.1 6 = .ok (.idiv, 1) := by decide +kernel
theorem dX6_quotient_7 : decode mi_X6_quotient.2.1 7 = .ok (.goto 4, 3) := by decide +kernel
theorem dX6_quotient_10 : decode mi_X6_quotient.2.1 10 = .ok (.iconst 0, 1) := by decide +kernel
theorem dX6_quotient_11 : decode mi_X6_quotient.2.1 11 = .ok (.ireturn, 1) := by decide +kernel
theorem dX6_remainder_0 : decode mi_X6_remainder.2.1 0 = .ok (.iload_n 1, 1) := by decide +kernel
theorem dX6_remainder_1 : decode mi_X6_remainder.2.1 1 = .ok (.ifCond .le 11, 3) := by decide +kernel
theorem dX6_remainder_4 : decode mi_X6_remainder.2.1 4 = .ok (.iload_n 0, 1) := by decide +kernel
theorem dX6_remainder_5 : decode mi_X6_remainder.2.1 5 = .ok (.iload_n 1, 1) := by decide +kernel
theorem dX6_remainder_6 : decode mi_X6_remainder.2.1 6 = .ok (.invokestatic 203, 3) := by decide +kernel
theorem dX6_remainder_9 : decode mi_X6_remainder.2.1 9 = .ok (.goto 4, 3) := by decide +kernel
theorem dX6_remainder_12 : decode mi_X6_remainder.2.1 12 = .ok (.iconst 0, 1) := by decide +kernel
theorem dX6_remainder_13 : decode mi_X6_remainder.2.1 13 = .ok (.ireturn, 1) := by decide +kernel
theorem dX6_isInside_0 : decode mi_X6_isInside.2.1 0 = .ok (.iload_n 0, 1) := by decide +kernel
theorem dX6_isInside_1 : decode mi_X6_isInside.2.1 1 = .ok (.ifCond .lt 12, 3) := by decide +kernel
theorem dX6_isInside_4 : decode mi_X6_isInside.2.1 4 = .ok (.iload_n 0, 1) := by decide +kernel
theorem dX6_isInside_5 : decode mi_X6_isInside.2.1 5 = .ok (.iload_n 1, 1) := by decide +kernel
theorem dX6_isInside_6 : decode mi_X6_isInside.2.1 6 = .ok (.if_icmp .ge 7, 3) := by decide +kernel
theorem dX6_isInside_9 : decode mi_X6_isInside.2.1 9 = .ok (.iconst 1, 1) := by decide +kernel
theorem dX6_isInside_10 : decode mi_X6_isInside.2.1 10 = .ok (.goto 4, 3) := by decide +kernel
theorem dX6_isInside_13 : decode mi_X6_isInside.2.1 13 = .ok (.iconst 0, 1) := by decide +kernel
theorem dX6_isInside_14 : decode mi_X6_isInside.2.1 14 = .ok (.ireturn, 1) := by decide +kernel
theorem dX6_clearMarks_0 : decode mi_X6_clearMarks.2.1 0 = .ok (.iconst 0, 1) := by decide +kernel
theorem dX6_clearMarks_1 : decode mi_X6_clearMarks.2.1 1 = .ok (.istore_n 1, 1) := by decide +kernel
theorem dX6_clearMarks_2 : decode mi_X6_clearMarks.2.1 2 = .ok (.iload_n 1, 1) := by decide +kernel
theorem dX6_clearMarks_3 : decode mi_X6_clearMarks.2.1 3 = .ok (.aload_n 0, 1) := by decide +kernel
theorem dX6_clearMarks_4 : decode mi_X6_clearMarks.2.1 4 = .ok (.arraylength, 1) := by decide +kernel
theorem dX6_clearMarks_5 : decode mi_X6_clearMarks.2.1 5 = .ok (.if_icmp .ge 13, 3) := by decide +kernel
theorem dX6_clearMarks_8 : decode mi_X6_clearMarks.2.1 8 = .ok (.aload_n 0, 1) := by decide +kernel
theorem dX6_clearMarks_9 : decode mi_X6_clearMarks.2.1 9 = .ok (.iload_n 1, 1) := by decide +kernel
theorem dX6_clearMarks_10 : decode mi_X6_clearMarks.2.1 10 = .ok (.iconst 0, 1) := by decide +kernel
theorem dX6_clearMarks_11 : decode mi_X6_clearMarks.2.1 11 = .ok (.bastore, 1) := by decide +kernel
theorem dX6_clearMarks_12 : decode mi_X6_clearMarks.2.1 12 = .ok (.iinc 1 1, 3) := by decide +kernel
theorem dX6_clearMarks_15 : decode mi_X6_clearMarks.2.1 15 = .ok (.goto (-13), 3) := by decide +kernel
theorem dX6_clearMarks_18 : decode mi_X6_clearMarks.2.1 18 = .ok (.return_, 1) := by decide +kernel
theorem dX6_countMarks_0 : decode mi_X6_countMarks.2.1 0 = .ok (.iconst 0, 1) := by decide +kernel
theorem dX6_countMarks_1 : decode mi_X6_countMarks.2.1 1 = .ok (.istore_n 1, 1) := by decide +kernel
theorem dX6_countMarks_2 : decode mi_X6_countMarks.2.1 2 = .ok (.iconst 0, 1) := by decide +kernel
theorem dX6_countMarks_3 : decode mi_X6_countMarks.2.1 3 = .ok (.istore_n 2, 1) := by decide +kernel
theorem dX6_countMarks_4 : decode mi_X6_countMarks.2.1 4 = .ok (.iload_n 2, 1) := by decide +kernel
theorem dX6_countMarks_5 : decode mi_X6_countMarks.2.1 5 = .ok (.aload_n 0, 1) := by decide +kernel
theorem dX6_countMarks_6 : decode mi_X6_countMarks.2.1 6 = .ok (.arraylength, 1) := by decide +kernel
theorem dX6_countMarks_7 : decode mi_X6_countMarks.2.1 7 = .ok (.if_icmp .ge 18, 3) := by decide +kernel
theorem dX6_countMarks_10 : decode mi_X6_countMarks.2.1 10 = .ok (.aload_n 0, 1) := by decide +kernel
theorem dX6_countMarks_11 : decode mi_X6_countMarks.2.1 11 = .ok (.iload_n 2, 1) := by decide +kernel
theorem dX6_countMarks_12 : decode mi_X6_countMarks.2.1 12 = .ok (.baload, 1) := by decide +kernel
theorem dX6_countMarks_13 : decode mi_X6_countMarks.2.1 13 = .ok (.ifCond .eq 6, 3) := by decide +kernel
theorem dX6_countMarks_16 : decode mi_X6_countMarks.2.1 16 = .ok (.iinc 1 1, 3) := by decide +kernel
theorem dX6_countMarks_19 : decode mi_X6_countMarks.2.1 19 = .ok (.iinc 2 1, 3) := by decide +kernel
theorem dX6_countMarks_22 : decode mi_X6_countMarks.2.1 22 = .ok (.goto (-18), 3) := by decide +kernel
theorem dX6_countMarks_25 : decode mi_X6_countMarks.2.1 25 = .ok (.iload_n 1, 1) := by decide +kernel
theorem dX6_countMarks_26 : decode mi_X6_countMarks.2.1 26 = .ok (.ireturn, 1) := by decide +kernel
theorem dX6_power_0 : decode mi_X6_power.2.1 0 = .ok (.lconst 1, 1) := by decide +kernel
theorem dX6_power_1 : decode mi_X6_power.2.1 1 = .ok (.lstore_n 2, 1) := by decide +kernel
theorem dX6_power_2 : decode mi_X6_power.2.1 2 = .ok (.iconst 0, 1) := by decide +kernel
theorem dX6_power_3 : decode mi_X6_power.2.1 3 = .ok (.istore 4, 2) := by decide +kernel
theorem dX6_power_5 : decode mi_X6_power.2.1 5 = .ok (.iload 4, 2) := by decide +kernel
theorem dX6_power_7 : decode mi_X6_power.2.1 7 = .ok (.iload_n 1, 1) := by decide +kernel
theorem dX6_power_8 : decode mi_X6_power.2.1 8 = .ok (.if_icmp .ge 14, 3) := by decide +kernel
theorem dX6_power_11 : decode mi_X6_power.2.1 11 = .ok (.lload_n 2, 1) := by decide +kernel
theorem dX6_power_12 : decode mi_X6_power.2.1 12 = .ok (.iload_n 0, 1) := by decide +kernel
theorem dX6_power_13 : decode mi_X6_power.2.1 13 = .ok (.i2l, 1) := by decide +kernel
theorem dX6_power_14 : decode mi_X6_power.2.1 14 = .ok (.lmul, 1) := by decide +kernel
theorem dX6_power_15 : decode mi_X6_power.2.1 15 = .ok (.lstore_n 2, 1) := by decide +kernel
theorem dX6_power_16 : decode mi_X6_power.2.1 16 = .ok (.iinc 4 1, 3) := by decide +kernel
theorem dX6_power_19 : decode mi_X6_power.2.1 19 = .ok (.goto (-14), 3) := by decide +kernel
theorem dX6_power_22 : decode mi_X6_power.2.1 22 = .ok (.lload_n 2, 1) := by decide +kernel
theorem dX6_power_23 : decode mi_X6_power.2.1 23 = .ok (.lreturn, 1) := by decide +kernel
theorem dX7_in_0 : decode mi_X7_in.2.1 0 = .ok (.iload_n 0, 1) := by decide +kernel
theorem dX7_in_1 : decode mi_X7_in.2.1 1 = .ok (.iload_n 1, 1) := by decide +kernel
theorem dX7_in_2 : decode mi_X7_in.2.1 2 = .ok (.if_icmp .lt 12, 3) := by decide +kernel
theorem dX7_in_5 : decode mi_X7_in.2.1 5 = .ok (.iload_n 0, 1) := by decide +kernel
theorem dX7_in_6 : decode mi_X7_in.2.1 6 = .ok (.iload_n 2, 1) := by decide +kernel
theorem dX7_in_7 : decode mi_X7_in.2.1 7 = .ok (.if_icmp .gt 7, 3) := by decide +kernel
theorem dX7_in_10 : decode mi_X7_in.2.1 10 = .ok (.iconst 1, 1) := by decide +kernel
theorem dX7_in_11 : decode mi_X7_in.2.1 11 = .ok (.goto 4, 3) := by decide +kernel
theorem dX7_in_14 : decode mi_X7_in.2.1 14 = .ok (.iconst 0, 1) := by decide +kernel
theorem dX7_in_15 : decode mi_X7_in.2.1 15 = .ok (.ireturn, 1) := by decide +kernel
theorem dX7_entry_0 : decode mi_X7_entry.2.1 0 = .ok (.aload_n 0, 1) := by decide +kernel
theorem dX7_entry_1 : decode mi_X7_entry.2.1 1 = .ok (.getfield 16, 3) := by decide +kernel
theorem dX7_entry_4 : decode mi_X7_entry.2.1 4 = .ok (.iconst 4, 1) := by decide +kernel
theorem dX7_entry_5 : decode mi_X7_entry.2.1 5 = .ok (.iload_n 1, 1) := by decide +kernel
theorem dX7_entry_6 : decode mi_X7_entry.2.1 6 = .ok (.imul, 1) := by decide +kernel
theorem dX7_entry_7 : decode mi_X7_entry.2.1 7 = .ok (.iload_n 2, 1) := by decide +kernel
theorem dX7_entry_8 : decode mi_X7_entry.2.1 8 = .ok (.iadd, 1) := by decide +kernel
theorem dX7_entry_9 : decode mi_X7_entry.2.1 9 = .ok (.iaload, 1) := by decide +kernel
theorem dX7_entry_10 : decode mi_X7_entry.2.1 10 = .ok (.ireturn, 1) := by decide +kernel
theorem dX7_putProduct_0 : decode mi_X7_putProduct.2.1 0 = .ok (.iconst 0, 1) := by decide +kernel
theorem dX7_putProduct_1 : decode mi_X7_putProduct.2.1 1 = .ok (.istore 4, 2) := by decide +kernel
theorem dX7_putProduct_3 : decode mi_X7_putProduct.2.1 3 = .ok (.iload 4, 2) := by decide +kernel
theorem dX7_putProduct_5 : decode mi_X7_putProduct.2.1 5 = .ok (.iconst 2, 1) := by decide +kernel
theorem dX7_putProduct_6 : decode mi_X7_putProduct.2.1 6 = .ok (.if_icmp .ge 79, 3) := by decide +kernel
theorem dX7_putProduct_9 : decode mi_X7_putProduct.2.1 9 = .ok (.iconst 0, 1) := by decide +kernel
theorem dX7_putProduct_10 : decode mi_X7_putProduct.2.1 10 = .ok (.istore 5, 2) := by decide +kernel
theorem dX7_putProduct_12 : decode mi_X7_putProduct.2.1 12 = .ok (.iload 5, 2) := by decide +kernel
theorem dX7_putProduct_14 : decode mi_X7_putProduct.2.1 14 = .ok (.iconst 2, 1) := by decide +kernel
theorem dX7_putProduct_15 : decode mi_X7_putProduct.2.1 15 = .ok (.if_icmp .ge 64, 3) := by decide +kernel
theorem dX7_putProduct_18 : decode mi_X7_putProduct.2.1 18 = .ok (.aload_n 0, 1) := by decide +kernel
theorem dX7_putProduct_19 : decode mi_X7_putProduct.2.1 19 = .ok (.getfield 16, 3) := by decide +kernel
theorem dX7_putProduct_22 : decode mi_X7_putProduct.2.1 22 = .ok (.iconst 4, 1) := by decide +kernel
theorem dX7_putProduct_23 : decode mi_X7_putProduct.2.1 23 = .ok (.iload_n 3, 1) := by decide +kernel
theorem dX7_putProduct_24 : decode mi_X7_putProduct.2.1 24 = .ok (.imul, 1) := by decide +kernel
theorem dX7_putProduct_25 : decode mi_X7_putProduct.2.1 25 = .ok (.iconst 2, 1) := by decide +kernel
theorem dX7_putProduct_26 : decode mi_X7_putProduct.2.1 26 = .ok (.iload 4, 2) := by decide +kernel
theorem dX7_putProduct_28 : decode mi_X7_putProduct.2.1 28 = .ok (.imul, 1) := by decide +kernel
theorem dX7_putProduct_29 : decode mi_X7_putProduct.2.1 29 = .ok (.iadd, 1) := by decide +kernel
theorem dX7_putProduct_30 : decode mi_X7_putProduct.2.1 30 = .ok (.iload 5, 2) := by decide +kernel
theorem dX7_putProduct_32 : decode mi_X7_putProduct.2.1 32 = .ok (.iadd, 1) := by decide +kernel
theorem dX7_putProduct_33 : decode mi_X7_putProduct.2.1 33 = .ok (.aload_n 0, 1) := by decide +kernel
theorem dX7_putProduct_34 : decode mi_X7_putProduct.2.1 34 = .ok (.iload_n 1, 1) := by decide +kernel
theorem dX7_putProduct_35 : decode mi_X7_putProduct.2.1 35 = .ok (.iconst 2, 1) := by decide +kernel
theorem dX7_putProduct_36 : decode mi_X7_putProduct.2.1 36 = .ok (.iload 4, 2) := by decide +kernel
theorem dX7_putProduct_38 : decode mi_X7_putProduct.2.1 38 = .ok (.imul, 1) := by decide +kernel
theorem dX7_putProduct_39 : decode mi_X7_putProduct.2.1 39 = .ok (.invokevirtual 32, 3) := by decide +kernel
theorem dX7_putProduct_42 : decode mi_X7_putProduct.2.1 42 = .ok (.aload_n 0, 1) := by decide +kernel
theorem dX7_putProduct_43 : decode mi_X7_putProduct.2.1 43 = .ok (.iload_n 2, 1) := by decide +kernel
theorem dX7_putProduct_44 : decode mi_X7_putProduct.2.1 44 = .ok (.iload 5, 2) := by decide +kernel
theorem dX7_putProduct_46 : decode mi_X7_putProduct.2.1 46 = .ok (.invokevirtual 32, 3) := by decide +kernel
theorem dX7_putProduct_49 : decode mi_X7_putProduct.2.1 49 = .ok (.imul, 1) := by decide +kernel
theorem dX7_putProduct_50 : decode mi_X7_putProduct.2.1 50 = .ok (.aload_n 0, 1) := by decide +kernel
theorem dX7_putProduct_51 : decode mi_X7_putProduct.2.1 51 = .ok (.iload_n 1, 1) := by decide +kernel
theorem dX7_putProduct_52 : decode mi_X7_putProduct.2.1 52 = .ok (.iconst 2, 1) := by decide +kernel
theorem dX7_putProduct_53 : decode mi_X7_putProduct.2.1 53 = .ok (.iload 4, 2) := by decide +kernel
theorem dX7_putProduct_55 : decode mi_X7_putProduct.2.1 55 = .ok (.imul, 1) := by decide +kernel
theorem dX7_putProduct_56 : decode mi_X7_putProduct.2.1 56 = .ok (.iconst 1, 1) := by decide +kernel
theorem dX7_putProduct_57 : decode mi_X7_putProduct.2.1 57 = .ok (.iadd, 1) := by decide +kernel
theorem dX7_putProduct_58 : decode mi_X7_putProduct.2.1 58 = .ok (.invokevirtual 32, 3) := by decide +kernel
theorem dX7_putProduct_61 : decode mi_X7_putProduct.2.1 61 = .ok (.aload_n 0, 1) := by decide +kernel
theorem dX7_putProduct_62 : decode mi_X7_putProduct.2.1 62 = .ok (.iload_n 2, 1) := by decide +kernel
theorem dX7_putProduct_63 : decode mi_X7_putProduct.2.1 63 = .ok (.iconst 2, 1) := by decide +kernel
theorem dX7_putProduct_64 : decode mi_X7_putProduct.2.1 64 = .ok (.iload 5, 2) := by decide +kernel
theorem dX7_putProduct_66 : decode mi_X7_putProduct.2.1 66 = .ok (.iadd, 1) := by decide +kernel
theorem dX7_putProduct_67 : decode mi_X7_putProduct.2.1 67 = .ok (.invokevirtual 32, 3) := by decide +kernel
theorem dX7_putProduct_70 : decode mi_X7_putProduct.2.1 70 = .ok (.imul, 1) := by decide +kernel
theorem dX7_putProduct_71 : decode mi_X7_putProduct.2.1 71 = .ok (.iadd, 1) := by decide +kernel
theorem dX7_putProduct_72 : decode mi_X7_putProduct.2.1 72 = .ok (.iastore, 1) := by decide +kernel
theorem dX7_putProduct_73 : decode mi_X7_putProduct.2.1 73 = .ok (.iinc 5 1, 3) := by decide +kernel
theorem dX7_putProduct_76 : decode mi_X7_putProduct.2.1 76 = .ok (.goto (-64), 3) := by decide +kernel
theorem dX7_putProduct_79 : decode mi_X7_putProduct.2.1 79 = .ok (.iinc 4 1, 3) := by decide +kernel
theorem dX7_putProduct_82 : decode mi_X7_putProduct.2.1 82 = .ok (.goto (-79), 3) := by decide +kernel
theorem dX7_putProduct_85 : decode mi_X7_putProduct.2.1 85 = .ok (.return_, 1) := by decide +kernel
theorem dX7_putPart_0 : decode mi_X7_putPart.2.1 0 = .ok (.aload_n 0, 1) := by decide +kernel
theorem dX7_putPart_1 : decode mi_X7_putPart.2.1 1 = .ok (.getfield 16, 3) := by decide +kernel
theorem dX7_putPart_4 : decode mi_X7_putPart.2.1 4 = .ok (.iconst 4, 1) := by decide +kernel
theorem dX7_putPart_5 : decode mi_X7_putPart.2.1 5 = .ok (.iload_n 1, 1) := by decide +kernel
theorem dX7_putPart_6 : decode mi_X7_putPart.2.1 6 = .ok (.imul, 1) := by decide +kernel
theorem dX7_putPart_7 : decode mi_X7_putPart.2.1 7 = .ok (.iload_n 2, 1) := by decide +kernel
theorem dX7_putPart_8 : decode mi_X7_putPart.2.1 8 = .ok (.iastore, 1) := by decide +kernel
theorem dX7_putPart_9 : decode mi_X7_putPart.2.1 9 = .ok (.aload_n 0, 1) := by decide +kernel
theorem dX7_putPart_10 : decode mi_X7_putPart.2.1 10 = .ok (.getfield 16, 3) := by decide +kernel
theorem dX7_putPart_13 : decode mi_X7_putPart.2.1 13 = .ok (.iconst 4, 1) := by decide +kernel
theorem dX7_putPart_14 : decode mi_X7_putPart.2.1 14 = .ok (.iload_n 1, 1) := by decide +kernel
theorem dX7_putPart_15 : decode mi_X7_putPart.2.1 15 = .ok (.imul, 1) := by decide +kernel
theorem dX7_putPart_16 : decode mi_X7_putPart.2.1 16 = .ok (.iconst 1, 1) := by decide +kernel
theorem dX7_putPart_17 : decode mi_X7_putPart.2.1 17 = .ok (.iadd, 1) := by decide +kernel
theorem dX7_putPart_18 : decode mi_X7_putPart.2.1 18 = .ok (.iload_n 3, 1) := by decide +kernel
theorem dX7_putPart_19 : decode mi_X7_putPart.2.1 19 = .ok (.iastore, 1) := by decide +kernel
theorem dX7_putPart_20 : decode mi_X7_putPart.2.1 20 = .ok (.aload_n 0, 1) := by decide +kernel
theorem dX7_putPart_21 : decode mi_X7_putPart.2.1 21 = .ok (.getfield 16, 3) := by decide +kernel
theorem dX7_putPart_24 : decode mi_X7_putPart.2.1 24 = .ok (.iconst 4, 1) := by decide +kernel
theorem dX7_putPart_25 : decode mi_X7_putPart.2.1 25 = .ok (.iload_n 1, 1) := by decide +kernel
theorem dX7_putPart_26 : decode mi_X7_putPart.2.1 26 = .ok (.imul, 1) := by decide +kernel
theorem dX7_putPart_27 : decode mi_X7_putPart.2.1 27 = .ok (.iconst 2, 1) := by decide +kernel
theorem dX7_putPart_28 : decode mi_X7_putPart.2.1 28 = .ok (.iadd, 1) := by decide +kernel
theorem dX7_putPart_29 : decode mi_X7_putPart.2.1 29 = .ok (.iload 4, 2) := by decide +kernel
theorem dX7_putPart_31 : decode mi_X7_putPart.2.1 31 = .ok (.iastore, 1) := by decide +kernel
theorem dX7_putPart_32 : decode mi_X7_putPart.2.1 32 = .ok (.aload_n 0, 1) := by decide +kernel
theorem dX7_putPart_33 : decode mi_X7_putPart.2.1 33 = .ok (.getfield 16, 3) := by decide +kernel
theorem dX7_putPart_36 : decode mi_X7_putPart.2.1 36 = .ok (.iconst 4, 1) := by decide +kernel
theorem dX7_putPart_37 : decode mi_X7_putPart.2.1 37 = .ok (.iload_n 1, 1) := by decide +kernel
theorem dX7_putPart_38 : decode mi_X7_putPart.2.1 38 = .ok (.imul, 1) := by decide +kernel
theorem dX7_putPart_39 : decode mi_X7_putPart.2.1 39 = .ok (.iconst 3, 1) := by decide +kernel
theorem dX7_putPart_40 : decode mi_X7_putPart.2.1 40 = .ok (.iadd, 1) := by decide +kernel
theorem dX7_putPart_41 : decode mi_X7_putPart.2.1 41 = .ok (.iload 5, 2) := by decide +kernel
theorem dX7_putPart_43 : decode mi_X7_putPart.2.1 43 = .ok (.iastore, 1) := by decide +kernel
theorem dX7_putPart_44 : decode mi_X7_putPart.2.1 44 = .ok (.return_, 1) := by decide +kernel
theorem dX7_numberOfProduct_0 : decode mi_X7_numberOfProduct.2.1 0 = .ok (.bipush (-3), 2) := by decide +kernel
theorem dX7_numberOfProduct_2 : decode mi_X7_numberOfProduct.2.1 2 = .ok (.istore_n 3, 1) := by decide +kernel
theorem dX7_numberOfProduct_3 : decode mi_X7_numberOfProduct.2.1 3 = .ok (.iconst 0, 1) := by decide +kernel
theorem dX7_numberOfProduct_4 : decode mi_X7_numberOfProduct.2.1 4 = .ok (.istore 4, 2) := by decide +kernel
theorem dX7_numberOfProduct_6 : decode mi_X7_numberOfProduct.2.1 6 = .ok (.iload 4, 2) := by decide +kernel
theorem dX7_numberOfProduct_8 : decode mi_X7_numberOfProduct.2.1 8 = .ok (.aload_n 0, 1) := by decide +kernel
theorem dX7_numberOfProduct_9 : decode mi_X7_numberOfProduct.2.1 9 = .ok (.getfield 36, 3) := by decide +kernel
theorem dX7_numberOfProduct_12 : decode mi_X7_numberOfProduct.2.1 12 = .ok (.if_icmp .ge 121, 3) := by decide +kernel
theorem dX7_numberOfProduct_15 : decode mi_X7_numberOfProduct.2.1 15 = .ok (.iconst 1, 1) := by decide +kernel
theorem dX7_numberOfProduct_16 : decode mi_X7_numberOfProduct.2.1 16 = .ok (.istore 5, 2) := by decide +kernel
theorem dX7_numberOfProduct_18 : decode mi_X7_numberOfProduct.2.1 18 = .ok (.iconst 0, 1) := by decide +kernel
theorem dX7_numberOfProduct_19 : decode mi_X7_numberOfProduct.2.1 19 = .ok (.istore 6, 2) := by decide +kernel
theorem dX7_numberOfProduct_21 : decode mi_X7_numberOfProduct.2.1 21 = .ok (.iload 6, 2) := by decide +kernel
theorem dX7_numberOfProduct_23 : decode mi_X7_numberOfProduct.2.1 23 = .ok (.iconst 2, 1) := by decide +kernel
theorem dX7_numberOfProduct_24 : decode mi_X7_numberOfProduct.2.1 24 = .ok (.if_icmp .ge 91, 3) := by decide +kernel
theorem dX7_numberOfProduct_27 : decode mi_X7_numberOfProduct.2.1 27 = .ok (.iconst 0, 1) := by decide +kernel
theorem dX7_numberOfProduct_28 : decode mi_X7_numberOfProduct.2.1 28 = .ok (.istore 7, 2) := by decide +kernel
theorem dX7_numberOfProduct_30 : decode mi_X7_numberOfProduct.2.1 30 = .ok (.iload 7, 2) := by decide +kernel
theorem dX7_numberOfProduct_32 : decode mi_X7_numberOfProduct.2.1 32 = .ok (.iconst 2, 1) := by decide +kernel
theorem dX7_numberOfProduct_33 : decode mi_X7_numberOfProduct.2.1 33 = .ok (.if_icmp .ge 76, 3) := by decide +kernel
theorem dX7_numberOfProduct_36 : decode mi_X7_numberOfProduct.2.1 36 = .ok (.iload 5, 2) := by decide +kernel
theorem dX7_numberOfProduct_38 : decode mi_X7_numberOfProduct.2.1 38 = .ok (.ifCond .eq 62, 3) := by decide +kernel
theorem dX7_numberOfProduct_41 : decode mi_X7_numberOfProduct.2.1 41 = .ok (.aload_n 0, 1) := by decide +kernel
theorem dX7_numberOfProduct_42 : decode mi_X7_numberOfProduct.2.1 42 = .ok (.iload 4, 2) := by decide +kernel
theorem dX7_numberOfProduct_44 : decode mi_X7_numberOfProduct.2.1 44 = .ok (.iconst 2, 1) := by decide +kernel
theorem dX7_numberOfProduct_45 : decode mi_X7_numberOfProduct.2.1 45 = .ok (.iload 6, 2) := by decide +kernel
theorem dX7_numberOfProduct_47 : decode mi_X7_numberOfProduct.2.1 47 = .ok (.imul, 1) := by decide +kernel
theorem dX7_numberOfProduct_48 : decode mi_X7_numberOfProduct.2.1 48 = .ok (.iload 7, 2) := by decide +kernel
theorem dX7_numberOfProduct_50 : decode mi_X7_numberOfProduct.2.1 50 = .ok (.iadd, 1) := by decide +kernel
theorem dX7_numberOfProduct_51 : decode mi_X7_numberOfProduct.2.1 51 = .ok (.invokevirtual 32, 3) := by decide +kernel
theorem dX7_numberOfProduct_54 : decode mi_X7_numberOfProduct.2.1 54 = .ok (.aload_n 0, 1) := by decide +kernel
theorem dX7_numberOfProduct_55 : decode mi_X7_numberOfProduct.2.1 55 = .ok (.iload_n 1, 1) := by decide +kernel
theorem dX7_numberOfProduct_56 : decode mi_X7_numberOfProduct.2.1 56 = .ok (.iconst 2, 1) := by decide +kernel
theorem dX7_numberOfProduct_57 : decode mi_X7_numberOfProduct.2.1 57 = .ok (.iload 6, 2) := by decide +kernel
theorem dX7_numberOfProduct_59 : decode mi_X7_numberOfProduct.2.1 59 = .ok (.imul, 1) := by decide +kernel
theorem dX7_numberOfProduct_60 : decode mi_X7_numberOfProduct.2.1 60 = .ok (.invokevirtual 32, 3) := by decide +kernel
theorem dX7_numberOfProduct_63 : decode mi_X7_numberOfProduct.2.1 63 = .ok (.aload_n 0, 1) := by decide +kernel
theorem dX7_numberOfProduct_64 : decode mi_X7_numberOfProduct.2.1 64 = .ok (.iload_n 2, 1) := by decide +kernel
theorem dX7_numberOfProduct_65 : decode mi_X7_numberOfProduct.2.1 65 = .ok (.iload 7, 2) := by decide +kernel
theorem dX7_numberOfProduct_67 : decode mi_X7_numberOfProduct.2.1 67 = .ok (.invokevirtual 32, 3) := by decide +kernel
theorem dX7_numberOfProduct_70 : decode mi_X7_numberOfProduct.2.1 70 = .ok (.imul, 1) := by decide +kernel
theorem dX7_numberOfProduct_71 : decode mi_X7_numberOfProduct.2.1 71 = .ok (.aload_n 0, 1) := by decide +kernel
theorem dX7_numberOfProduct_72 : decode mi_X7_numberOfProduct.2.1 72 = .ok (.iload_n 1, 1) := by decide +kernel
theorem dX7_numberOfProduct_73 : decode mi_X7_numberOfProduct.2.1 73 = .ok (.iconst 2, 1) := by decide +kernel
theorem dX7_numberOfProduct_74 : decode mi_X7_numberOfProduct.2.1 74 = .ok (.iload 6, 2) := by decide +kernel
theorem dX7_numberOfProduct_76 : decode mi_X7_numberOfProduct.2.1 76 = .ok (.imul, 1) := by decide +kernel
theorem dX7_numberOfProduct_77 : decode mi_X7_numberOfProduct.2.1 77 = .ok (.iconst 1, 1) := by decide +kernel
theorem dX7_numberOfProduct_78 : decode mi_X7_numberOfProduct.2.1 78 = .ok (.iadd, 1) := by decide +kernel
theorem dX7_numberOfProduct_79 : decode mi_X7_numberOfProduct.2.1 79 = .ok (.invokevirtual 32, 3) := by decide +kernel
theorem dX7_numberOfProduct_82 : decode mi_X7_numberOfProduct.2.1 82 = .ok (.aload_n 0, 1) := by decide +kernel
theorem dX7_numberOfProduct_83 : decode mi_X7_numberOfProduct.2.1 83 = .ok (.iload_n 2, 1) := by decide +kernel
theorem dX7_numberOfProduct_84 : decode mi_X7_numberOfProduct.2.1 84 = .ok (.iconst 2, 1) := by decide +kernel
theorem dX7_numberOfProduct_85 : decode mi_X7_numberOfProduct.2.1 85 = .ok (.iload 7, 2) := by decide +kernel
theorem dX7_numberOfProduct_87 : decode mi_X7_numberOfProduct.2.1 87 = .ok (.iadd, 1) := by decide +kernel
theorem dX7_numberOfProduct_88 : decode mi_X7_numberOfProduct.2.1 88 = .ok (.invokevirtual 32, 3) := by decide +kernel
theorem dX7_numberOfProduct_91 : decode mi_X7_numberOfProduct.2.1 91 = .ok (.imul, 1) := by decide +kernel
theorem dX7_numberOfProduct_92 : decode mi_X7_numberOfProduct.2.1 92 = .ok (.iadd, 1) := by decide +kernel
theorem dX7_numberOfProduct_93 : decode mi_X7_numberOfProduct.2.1 93 = .ok (.if_icmp .ne 7, 3) := by decide +kernel
theorem dX7_numberOfProduct_96 : decode mi_X7_numberOfProduct.2.1 96 = .ok (.iconst 1, 1) := by decide +kernel
theorem dX7_numberOfProduct_97 : decode mi_X7_numberOfProduct.2.1 97 = .ok (.goto 4, 3) := by decide +kernel
theorem dX7_numberOfProduct_100 : decode mi_X7_numberOfProduct.2.1 100 = .ok (.iconst 0, 1) := by decide +kernel
theorem dX7_numberOfProduct_101 : decode mi_X7_numberOfProduct.2.1 101 = .ok (.istore 5, 2) := by decide +kernel
theorem dX7_numberOfProduct_103 : decode mi_X7_numberOfProduct.2.1 103 = .ok (.iinc 7 1, 3) := by decide +kernel
theorem dX7_numberOfProduct_106 : decode mi_X7_numberOfProduct.2.1 106 = .ok (.goto (-76), 3) := by decide +kernel
theorem dX7_numberOfProduct_109 : decode mi_X7_numberOfProduct.2.1 109 = .ok (.iinc 6 1, 3) := by decide +kernel
theorem dX7_numberOfProduct_112 : decode mi_X7_numberOfProduct.2.1 112 = .ok (.goto (-91), 3) := by decide +kernel
theorem dX7_numberOfProduct_115 : decode mi_X7_numberOfProduct.2.1 115 = .ok (.iload 5, 2) := by decide +kernel
theorem dX7_numberOfProduct_117 : decode mi_X7_numberOfProduct.2.1 117 = .ok (.ifCond .eq 8, 3) := by decide +kernel
theorem dX7_numberOfProduct_120 : decode mi_X7_numberOfProduct.2.1 120 = .ok (.iload 4, 2) := by decide +kernel
theorem dX7_numberOfProduct_122 : decode mi_X7_numberOfProduct.2.1 122 = .ok (.goto 4, 3) := by decide +kernel
theorem dX7_numberOfProduct_125 : decode mi_X7_numberOfProduct.2.1 125 = .ok (.iload_n 3, 1) := by decide +kernel
theorem dX7_numberOfProduct_126 : decode mi_X7_numberOfProduct.2.1 126 = .ok (.istore_n 3, 1) := by decide +kernel
theorem dX7_numberOfProduct_127 : decode mi_X7_numberOfProduct.2.1 127 = .ok (.iinc 4 1, 3) := by decide +kernel
theorem dX7_numberOfProduct_130 : decode mi_X7_numberOfProduct.2.1 130 = .ok (.goto (-124), 3) := by decide +kernel
theorem dX7_numberOfProduct_133 : decode mi_X7_numberOfProduct.2.1 133 = .ok (.iload_n 3, 1) := by decide +kernel
theorem dX7_numberOfProduct_134 : decode mi_X7_numberOfProduct.2.1 134 = .ok (.ireturn, 1) := by decide +kernel
theorem dX7_makeParts_0 : decode mi_X7_makeParts.2.1 0 = .ok (.aload_n 0, 1) := by decide +kernel
theorem dX7_makeParts_1 : decode mi_X7_makeParts.2.1 1 = .ok (.getfield 7, 3) := by decide +kernel
theorem dX7_makeParts_4 : decode mi_X7_makeParts.2.1 4 = .ok (.iconst 0, 1) := by decide +kernel
theorem dX7_makeParts_5 : decode mi_X7_makeParts.2.1 5 = .ok (.iaload, 1) := by decide +kernel
theorem dX7_makeParts_6 : decode mi_X7_makeParts.2.1 6 = .ok (.ifCond .ne 7, 3) := by decide +kernel
theorem dX7_makeParts_9 : decode mi_X7_makeParts.2.1 9 = .ok (.iconst 1, 1) := by decide +kernel
theorem dX7_makeParts_10 : decode mi_X7_makeParts.2.1 10 = .ok (.goto 4, 3) := by decide +kernel
theorem dX7_makeParts_13 : decode mi_X7_makeParts.2.1 13 = .ok (.iconst 0, 1) := by decide +kernel
theorem dX7_makeParts_14 : decode mi_X7_makeParts.2.1 14 = .ok (.istore_n 1, 1) := by decide +kernel
theorem dX7_makeParts_15 : decode mi_X7_makeParts.2.1 15 = .ok (.iload_n 1, 1) := by decide +kernel
theorem dX7_makeParts_16 : decode mi_X7_makeParts.2.1 16 = .ok (.ifCond .eq 7, 3) := by decide +kernel
theorem dX7_makeParts_19 : decode mi_X7_makeParts.2.1 19 = .ok (.iconst 4, 1) := by decide +kernel
theorem dX7_makeParts_20 : decode mi_X7_makeParts.2.1 20 = .ok (.goto 5, 3) := by decide +kernel
theorem dX7_makeParts_23 : decode mi_X7_makeParts.2.1 23 = .ok (.bipush 6, 2) := by decide +kernel
theorem dX7_makeParts_25 : decode mi_X7_makeParts.2.1 25 = .ok (.istore_n 2, 1) := by decide +kernel
theorem dX7_makeParts_26 : decode mi_X7_makeParts.2.1 26 = .ok (.aload_n 0, 1) := by decide +kernel
theorem dX7_makeParts_27 : decode mi_X7_makeParts.2.1 27 = .ok (.iconst 2, 1) := by decide +kernel
theorem dX7_makeParts_28 : decode mi_X7_makeParts.2.1 28 = .ok (.iload_n 2, 1) := by decide +kernel
theorem dX7_makeParts_29 : decode mi_X7_makeParts.2.1 29 = .ok (.imul, 1) := by decide +kernel
theorem dX7_makeParts_30 : decode mi_X7_makeParts.2.1 30 = .ok (.putfield 36, 3) := by decide +kernel
theorem dX7_makeParts_33 : decode mi_X7_makeParts.2.1 33 = .ok (.aload_n 0, 1) := by decide +kernel
theorem dX7_makeParts_34 : decode mi_X7_makeParts.2.1 34 = .ok (.iconst 0, 1) := by decide +kernel
theorem dX7_makeParts_35 : decode mi_X7_makeParts.2.1 35 = .ok (.iconst 1, 1) := by decide +kernel
theorem dX7_makeParts_36 : decode mi_X7_makeParts.2.1 36 = .ok (.iconst 0, 1) := by decide +kernel
theorem dX7_makeParts_37 : decode mi_X7_makeParts.2.1 37 = .ok (.iconst 0, 1) := by decide +kernel
theorem dX7_makeParts_38 : decode mi_X7_makeParts.2.1 38 = .ok (.iconst 1, 1) := by decide +kernel
theorem dX7_makeParts_39 : decode mi_X7_makeParts.2.1 39 = .ok (.invokevirtual 40, 3) := by decide +kernel
theorem dX7_makeParts_42 : decode mi_X7_makeParts.2.1 42 = .ok (.aload_n 0, 1) := by decide +kernel
theorem dX7_makeParts_43 : decode mi_X7_makeParts.2.1 43 = .ok (.iconst 1, 1) := by decide +kernel
theorem dX7_makeParts_44 : decode mi_X7_makeParts.2.1 44 = .ok (.iconst 0, 1) := by decide +kernel
theorem dX7_makeParts_45 : decode mi_X7_makeParts.2.1 45 = .ok (.iconst (-1), 1) := by decide +kernel
theorem dX7_makeParts_46 : decode mi_X7_makeParts.2.1 46 = .ok (.iconst 1, 1) := by decide +kernel
theorem dX7_makeParts_47 : decode mi_X7_makeParts.2.1 47 = .ok (.iload_n 1, 1) := by decide +kernel
theorem dX7_makeParts_48 : decode mi_X7_makeParts.2.1 48 = .ok (.ifCond .eq 7, 3) := by decide +kernel
theorem dX7_makeParts_51 : decode mi_X7_makeParts.2.1 51 = .ok (.iconst 0, 1) := by decide +kernel
theorem dX7_makeParts_52 : decode mi_X7_makeParts.2.1 52 = .ok (.goto 4, 3) := by decide +kernel
theorem dX7_makeParts_55 : decode mi_X7_makeParts.2.1 55 = .ok (.iconst 1, 1) := by decide +kernel
theorem dX7_makeParts_56 : decode mi_X7_makeParts.2.1 56 = .ok (.invokevirtual 40, 3) := by decide +kernel
theorem dX7_makeParts_59 : decode mi_X7_makeParts.2.1 59 = .ok (.iconst 2, 1) := by decide +kernel
theorem dX7_makeParts_60 : decode mi_X7_makeParts.2.1 60 = .ok (.istore_n 3, 1) := by decide +kernel
theorem dX7_makeParts_61 : decode mi_X7_makeParts.2.1 61 = .ok (.iload_n 3, 1) := by decide +kernel
theorem dX7_makeParts_62 : decode mi_X7_makeParts.2.1 62 = .ok (.iload_n 2, 1) := by decide +kernel
theorem dX7_makeParts_63 : decode mi_X7_makeParts.2.1 63 = .ok (.if_icmp .ge 18, 3) := by decide +kernel
theorem dX7_makeParts_66 : decode mi_X7_makeParts.2.1 66 = .ok (.aload_n 0, 1) := by decide +kernel
theorem dX7_makeParts_67 : decode mi_X7_makeParts.2.1 67 = .ok (.iload_n 3, 1) := by decide +kernel
theorem dX7_makeParts_68 : decode mi_X7_makeParts.2.1 68 = .ok (.iconst 1, 1) := by decide +kernel
theorem dX7_makeParts_69 : decode mi_X7_makeParts.2.1 69 = .ok (.isub, 1) := by decide +kernel
theorem dX7_makeParts_70 : decode mi_X7_makeParts.2.1 70 = .ok (.iconst 1, 1) := by decide +kernel
theorem dX7_makeParts_71 : decode mi_X7_makeParts.2.1 71 = .ok (.iload_n 3, 1) := by decide +kernel
theorem dX7_makeParts_72 : decode mi_X7_makeParts.2.1 72 = .ok (.invokevirtual 44, 3) := by decide +kernel
theorem dX7_makeParts_75 : decode mi_X7_makeParts.2.1 75 = .ok (.iinc 3 1, 3) := by decide +kernel
theorem dX7_makeParts_78 : decode mi_X7_makeParts.2.1 78 = .ok (.goto (-17), 3) := by decide +kernel
theorem dX7_makeParts_81 : decode mi_X7_makeParts.2.1 81 = .ok (.aload_n 0, 1) := by decide +kernel
theorem dX7_makeParts_82 : decode mi_X7_makeParts.2.1 82 = .ok (.iload_n 2, 1) := by decide +kernel
theorem dX7_makeParts_83 : decode mi_X7_makeParts.2.1 83 = .ok (.iload_n 1, 1) := by decide +kernel
theorem dX7_makeParts_84 : decode mi_X7_makeParts.2.1 84 = .ok (.ifCond .eq 7, 3) := by decide +kernel
theorem dX7_makeParts_87 : decode mi_X7_makeParts.2.1 87 = .ok (.iconst 1, 1) := by decide +kernel
theorem dX7_makeParts_88 : decode mi_X7_makeParts.2.1 88 = .ok (.goto 4, 3) := by decide +kernel
theorem dX7_makeParts_91 : decode mi_X7_makeParts.2.1 91 = .ok (.iconst 0, 1) := by decide +kernel
theorem dX7_makeParts_92 : decode mi_X7_makeParts.2.1 92 = .ok (.iload_n 1, 1) := by decide +kernel
theorem dX7_makeParts_93 : decode mi_X7_makeParts.2.1 93 = .ok (.ifCond .eq 7, 3) := by decide +kernel
theorem dX7_makeParts_96 : decode mi_X7_makeParts.2.1 96 = .ok (.iconst 0, 1) := by decide +kernel
theorem dX7_makeParts_97 : decode mi_X7_makeParts.2.1 97 = .ok (.goto 4, 3) := by decide +kernel
theorem dX7_makeParts_100 : decode mi_X7_makeParts.2.1 100 = .ok (.iconst 1, 1) := by decide +kernel
theorem dX7_makeParts_101 : decode mi_X7_makeParts.2.1 101 = .ok (.iload_n 1, 1) := by decide +kernel
theorem dX7_makeParts_102 : decode mi_X7_makeParts.2.1 102 = .ok (.ifCond .eq 7, 3) := by decide +kernel
theorem dX7_makeParts_105 : decode mi_X7_makeParts.2.1 105 = .ok (.iconst 0, 1) := by decide +kernel
theorem dX7_makeParts_106 : decode mi_X7_makeParts.2.1 106 = .ok (.goto 4, 3) := by decide +kernel
theorem dX7_makeParts_109 : decode mi_X7_makeParts.2.1 109 = .ok (.iconst 1, 1) := by decide +kernel
theorem dX7_makeParts_110 : decode mi_X7_makeParts.2.1 110 = .ok (.iload_n 1, 1) := by decide +kernel
theorem dX7_makeParts_111 : decode mi_X7_makeParts.2.1 111 = .ok (.ifCond .eq 7, 3) := by decide +kernel
theorem dX7_makeParts_114 : decode mi_X7_makeParts.2.1 114 = .ok (.iconst (-1), 1) := by decide +kernel
theorem dX7_makeParts_115 : decode mi_X7_makeParts.2.1 115 = .ok (.goto 4, 3) := by decide +kernel
theorem dX7_makeParts_118 : decode mi_X7_makeParts.2.1 118 = .ok (.iconst 0, 1) := by decide +kernel
theorem dX7_makeParts_119 : decode mi_X7_makeParts.2.1 119 = .ok (.invokevirtual 40, 3) := by decide +kernel
theorem dX7_makeParts_122 : decode mi_X7_makeParts.2.1 122 = .ok (.iconst 1, 1) := by decide +kernel
theorem dX7_makeParts_123 : decode mi_X7_makeParts.2.1 123 = .ok (.istore_n 3, 1) := by decide +kernel
theorem dX7_makeParts_124 : decode mi_X7_makeParts.2.1 124 = .ok (.iload_n 3, 1) := by decide +kernel
theorem dX7_makeParts_125 : decode mi_X7_makeParts.2.1 125 = .ok (.iload_n 2, 1) := by decide +kernel
theorem dX7_makeParts_126 : decode mi_X7_makeParts.2.1 126 = .ok (.if_icmp .ge 18, 3) := by decide +kernel
theorem dX7_makeParts_129 : decode mi_X7_makeParts.2.1 129 = .ok (.aload_n 0, 1) := by decide +kernel
theorem dX7_makeParts_130 : decode mi_X7_makeParts.2.1 130 = .ok (.iload_n 3, 1) := by decide +kernel
theorem dX7_makeParts_131 : decode mi_X7_makeParts.2.1 131 = .ok (.iload_n 2, 1) := by decide +kernel
theorem dX7_makeParts_132 : decode mi_X7_makeParts.2.1 132 = .ok (.iload_n 2, 1) := by decide +kernel
theorem dX7_makeParts_133 : decode mi_X7_makeParts.2.1 133 = .ok (.iload_n 3, 1) := by decide +kernel
theorem dX7_makeParts_134 : decode mi_X7_makeParts.2.1 134 = .ok (.iadd, 1) := by decide +kernel
theorem dX7_makeParts_135 : decode mi_X7_makeParts.2.1 135 = .ok (.invokevirtual 44, 3) := by decide +kernel
theorem dX7_makeParts_138 : decode mi_X7_makeParts.2.1 138 = .ok (.iinc 3 1, 3) := by decide +kernel
theorem dX7_makeParts_141 : decode mi_X7_makeParts.2.1 141 = .ok (.goto (-17), 3) := by decide +kernel
theorem dX7_makeParts_144 : decode mi_X7_makeParts.2.1 144 = .ok (.iconst 0, 1) := by decide +kernel
theorem dX7_makeParts_145 : decode mi_X7_makeParts.2.1 145 = .ok (.istore_n 3, 1) := by decide +kernel
theorem dX7_makeParts_146 : decode mi_X7_makeParts.2.1 146 = .ok (.iload_n 3, 1) := by decide +kernel
theorem dX7_makeParts_147 : decode mi_X7_makeParts.2.1 147 = .ok (.aload_n 0, 1) := by decide +kernel
theorem dX7_makeParts_148 : decode mi_X7_makeParts.2.1 148 = .ok (.getfield 36, 3) := by decide +kernel
theorem dX7_makeParts_151 : decode mi_X7_makeParts.2.1 151 = .ok (.if_icmp .ge 46, 3) := by decide +kernel
theorem dX7_makeParts_154 : decode mi_X7_makeParts.2.1 154 = .ok (.iconst 0, 1) := by decide +kernel
theorem dX7_makeParts_155 : decode mi_X7_makeParts.2.1 155 = .ok (.istore 4, 2) := by decide +kernel
theorem dX7_makeParts_157 : decode mi_X7_makeParts.2.1 157 = .ok (.iload 4, 2) := by decide +kernel
theorem dX7_makeParts_159 : decode mi_X7_makeParts.2.1 159 = .ok (.aload_n 0, 1) := by decide +kernel
theorem dX7_makeParts_160 : decode mi_X7_makeParts.2.1 160 = .ok (.getfield 36, 3) := by decide +kernel
theorem dX7_makeParts_163 : decode mi_X7_makeParts.2.1 163 = .ok (.if_icmp .ge 28, 3) := by decide +kernel
theorem dX7_makeParts_166 : decode mi_X7_makeParts.2.1 166 = .ok (.aload_n 0, 1) := by decide +kernel
theorem dX7_makeParts_167 : decode mi_X7_makeParts.2.1 167 = .ok (.getfield 19, 3) := by decide +kernel
theorem dX7_makeParts_170 : decode mi_X7_makeParts.2.1 170 = .ok (.bipush 12, 2) := by decide +kernel
theorem dX7_makeParts_172 : decode mi_X7_makeParts.2.1 172 = .ok (.iload_n 3, 1) := by decide +kernel
theorem dX7_makeParts_173 : decode mi_X7_makeParts.2.1 173 = .ok (.imul, 1) := by decide +kernel
theorem dX7_makeParts_174 : decode mi_X7_makeParts.2.1 174 = .ok (.iload 4, 2) := by decide +kernel
theorem dX7_makeParts_176 : decode mi_X7_makeParts.2.1 176 = .ok (.iadd, 1) := by decide +kernel
theorem dX7_makeParts_177 : decode mi_X7_makeParts.2.1 177 = .ok (.aload_n 0, 1) := by decide +kernel
theorem dX7_makeParts_178 : decode mi_X7_makeParts.2.1 178 = .ok (.iload_n 3, 1) := by decide +kernel
theorem dX7_makeParts_179 : decode mi_X7_makeParts.2.1 179 = .ok (.iload 4, 2) := by decide +kernel
theorem dX7_makeParts_181 : decode mi_X7_makeParts.2.1 181 = .ok (.invokevirtual 48, 3) := by decide +kernel
theorem dX7_makeParts_184 : decode mi_X7_makeParts.2.1 184 = .ok (.iastore, 1) := by decide +kernel
theorem dX7_makeParts_185 : decode mi_X7_makeParts.2.1 185 = .ok (.iinc 4 1, 3) := by decide +kernel
theorem dX7_makeParts_188 : decode mi_X7_makeParts.2.1 188 = .ok (.goto (-31), 3) := by decide +kernel
theorem dX7_makeParts_191 : decode mi_X7_makeParts.2.1 191 = .ok (.iinc 3 1, 3) := by decide +kernel
theorem dX7_makeParts_194 : decode mi_X7_makeParts.2.1 194 = .ok (.goto (-48), 3) := by decide +kernel
theorem dX7_makeParts_197 : decode mi_X7_makeParts.2.1 197 = .ok (.return_, 1) := by decide +kernel
theorem dX7_isTurn_0 : decode mi_X7_isTurn.2.1 0 = .ok (.iload_n 1, 1) := by decide +kernel
theorem dX7_isTurn_1 : decode mi_X7_isTurn.2.1 1 = .ok (.aload_n 0, 1) := by decide +kernel
theorem dX7_isTurn_2 : decode mi_X7_isTurn.2.1 2 = .ok (.getfield 36, 3) := by decide +kernel
theorem dX7_isTurn_5 : decode mi_X7_isTurn.2.1 5 = .ok (.iconst 2, 1) := by decide +kernel
theorem dX7_isTurn_6 : decode mi_X7_isTurn.2.1 6 = .ok (.idiv, 1) := by decide +kernel
theorem dX7_isTurn_7 : decode mi_X7_isTurn.2.1 7 = .ok (.if_icmp .ge 7, 3) := by decide +kernel
theorem dX7_isTurn_10 : decode mi_X7_isTurn.2.1 10 = .ok (.iconst 1, 1) := by decide +kernel
theorem dX7_isTurn_11 : decode mi_X7_isTurn.2.1 11 = .ok (.goto 4, 3) := by decide +kernel
theorem dX7_isTurn_14 : decode mi_X7_isTurn.2.1 14 = .ok (.iconst 0, 1) := by decide +kernel
theorem dX7_isTurn_15 : decode mi_X7_isTurn.2.1 15 = .ok (.ireturn, 1) := by decide +kernel
theorem dX7_orderOfPart_0 : decode mi_X7_orderOfPart.2.1 0 = .ok (.iconst 1, 1) := by decide +kernel
theorem dX7_orderOfPart_1 : decode mi_X7_orderOfPart.2.1 1 = .ok (.istore_n 2, 1) := by decide +kernel
theorem dX7_orderOfPart_2 : decode mi_X7_orderOfPart.2.1 2 = .ok (.iload_n 1, 1) := by decide +kernel
theorem dX7_orderOfPart_3 : decode mi_X7_orderOfPart.2.1 3 = .ok (.istore_n 3, 1) := by decide +kernel
theorem dX7_orderOfPart_4 : decode mi_X7_orderOfPart.2.1 4 = .ok (.iload_n 3, 1) := by decide +kernel
theorem dX7_orderOfPart_5 : decode mi_X7_orderOfPart.2.1 5 = .ok (.ifCond .eq 21, 3) := by decide +kernel
theorem dX7_orderOfPart_8 : decode mi_X7_orderOfPart.2.1 8 = .ok (.aload_n 0, 1) := by decide +kernel
theorem dX7_orderOfPart_9 : decode mi_X7_orderOfPart.2.1 9 = .ok (.getfield 19, 3) := by decide +kernel
theorem dX7_orderOfPart_12 : decode mi_X7_orderOfPart.2.1 12 = .ok (.bipush 12, 2) := by decide +kernel
theorem dX7_orderOfPart_14 : decode mi_X7_orderOfPart.2.1 14 = .ok (.iload_n 3, 1) := by decide +kernel
theorem dX7_orderOfPart_15 : decode mi_X7_orderOfPart.2.1 15 = .ok (.imul, 1) := by decide +kernel
theorem dX7_orderOfPart_16 : decode mi_X7_orderOfPart.2.1 16 = .ok (.iload_n 1, 1) := by decide +kernel
theorem dX7_orderOfPart_17 : decode mi_X7_orderOfPart.2.1 17 = .ok (.iadd, 1) := by decide +kernel
theorem dX7_orderOfPart_18 : decode mi_X7_orderOfPart.2.1 18 = .ok (.iaload, 1) := by decide +kernel
theorem dX7_orderOfPart_19 : decode mi_X7_orderOfPart.2.1 19 = .ok (.istore_n 3, 1) := by decide +kernel
theorem dX7_orderOfPart_20 : decode mi_X7_orderOfPart.2.1 20 = .ok (.iinc 2 1, 3) := by decide +kernel
theorem dX7_orderOfPart_23 : decode mi_X7_orderOfPart.2.1 23 = .ok (.goto (-19), 3) := by decide +kernel
theorem dX7_orderOfPart_26 : decode mi_X7_orderOfPart.2.1 26 = .ok (.iload_n 2, 1) := by decide +kernel
theorem dX7_orderOfPart_27 : decode mi_X7_orderOfPart.2.1 27 = .ok (.ireturn, 1) := by decide +kernel
theorem dX7_imageX_0 : decode mi_X7_imageX.2.1 0 = .ok (.aload_n 0, 1) := by decide +kernel
theorem dX7_imageX_1 : decode mi_X7_imageX.2.1 1 = .ok (.iload_n 1, 1) := by decide +kernel
theorem dX7_imageX_2 : decode mi_X7_imageX.2.1 2 = .ok (.iconst 0, 1) := by decide +kernel
theorem dX7_imageX_3 : decode mi_X7_imageX.2.1 3 = .ok (.invokevirtual 32, 3) := by decide +kernel
theorem dX7_imageX_6 : decode mi_X7_imageX.2.1 6 = .ok (.iload_n 2, 1) := by decide +kernel
theorem dX7_imageX_7 : decode mi_X7_imageX.2.1 7 = .ok (.imul, 1) := by decide +kernel
theorem dX7_imageX_8 : decode mi_X7_imageX.2.1 8 = .ok (.aload_n 0, 1) := by decide +kernel
theorem dX7_imageX_9 : decode mi_X7_imageX.2.1 9 = .ok (.iload_n 1, 1) := by decide +kernel
theorem dX7_imageX_10 : decode mi_X7_imageX.2.1 10 = .ok (.iconst 1, 1) := by decide +kernel
theorem dX7_imageX_11 : decode mi_X7_imageX.2.1 11 = .ok (.invokevirtual 32, 3) := by decide +kernel
theorem dX7_imageX_14 : decode mi_X7_imageX.2.1 14 = .ok (.iload_n 3, 1) := by decide +kernel
theorem dX7_imageX_15 : decode mi_X7_imageX.2.1 15 = .ok (.imul, 1) := by decide +kernel
theorem dX7_imageX_16 : decode mi_X7_imageX.2.1 16 = .ok (.iadd, 1) := by decide +kernel
theorem dX7_imageX_17 : decode mi_X7_imageX.2.1 17 = .ok (.ireturn, 1) := by decide +kernel
theorem dX7_imageY_0 : decode mi_X7_imageY.2.1 0 = .ok (.aload_n 0, 1) := by decide +kernel
theorem dX7_imageY_1 : decode mi_X7_imageY.2.1 1 = .ok (.iload_n 1, 1) := by decide +kernel
theorem dX7_imageY_2 : decode mi_X7_imageY.2.1 2 = .ok (.iconst 2, 1) := by decide +kernel
theorem dX7_imageY_3 : decode mi_X7_imageY.2.1 3 = .ok (.invokevirtual 32, 3) := by decide +kernel
theorem dX7_imageY_6 : decode mi_X7_imageY.2.1 6 = .ok (.iload_n 2, 1) := by decide +kernel
theorem dX7_imageY_7 : decode mi_X7_imageY.2.1 7 = .ok (.imul, 1) := by decide +kernel
theorem dX7_imageY_8 : decode mi_X7_imageY.2.1 8 = .ok (.aload_n 0, 1) := by decide +kernel
theorem dX7_imageY_9 : decode mi_X7_imageY.2.1 9 = .ok (.iload_n 1, 1) := by decide +kernel
theorem dX7_imageY_10 : decode mi_X7_imageY.2.1 10 = .ok (.iconst 3, 1) := by decide +kernel
theorem dX7_imageY_11 : decode mi_X7_imageY.2.1 11 = .ok (.invokevirtual 32, 3) := by decide +kernel
theorem dX7_imageY_14 : decode mi_X7_imageY.2.1 14 = .ok (.iload_n 3, 1) := by decide +kernel
theorem dX7_imageY_15 : decode mi_X7_imageY.2.1 15 = .ok (.imul, 1) := by decide +kernel
theorem dX7_imageY_16 : decode mi_X7_imageY.2.1 16 = .ok (.iadd, 1) := by decide +kernel
theorem dX7_imageY_17 : decode mi_X7_imageY.2.1 17 = .ok (.ireturn, 1) := by decide +kernel
theorem dX7_cells_0 : decode mi_X7_cells.2.1 0 = .ok (.aload_n 0, 1) := by decide +kernel
theorem dX7_cells_1 : decode mi_X7_cells.2.1 1 = .ok (.getfield 7, 3) := by decide +kernel
theorem dX7_cells_4 : decode mi_X7_cells.2.1 4 = .ok (.iconst 1, 1) := by decide +kernel
theorem dX7_cells_5 : decode mi_X7_cells.2.1 5 = .ok (.iaload, 1) := by decide +kernel
theorem dX7_cells_6 : decode mi_X7_cells.2.1 6 = .ok (.aload_n 0, 1) := by decide +kernel
theorem dX7_cells_7 : decode mi_X7_cells.2.1 7 = .ok (.getfield 7, 3) := by decide +kernel
theorem dX7_cells_10 : decode mi_X7_cells.2.1 10 = .ok (.iconst 1, 1) := by decide +kernel
theorem dX7_cells_11 : decode mi_X7_cells.2.1 11 = .ok (.iaload, 1) := by decide +kernel
theorem dX7_cells_12 : decode mi_X7_cells.2.1 12 = .ok (.imul, 1) := by decide +kernel
theorem dX7_cells_13 : decode mi_X7_cells.2.1 13 = .ok (.ireturn, 1) := by decide +kernel
theorem dX7_partOf_0 : decode mi_X7_partOf.2.1 0 = .ok (.iload_n 1, 1) := by decide +kernel
theorem dX7_partOf_1 : decode mi_X7_partOf.2.1 1 = .ok (.aload_n 0, 1) := by decide +kernel
theorem dX7_partOf_2 : decode mi_X7_partOf.2.1 2 = .ok (.invokevirtual 51, 3) := by decide +kernel
theorem dX7_partOf_5 : decode mi_X7_partOf.2.1 5 = .ok (.idiv, 1) := by decide +kernel
theorem dX7_partOf_6 : decode mi_X7_partOf.2.1 6 = .ok (.ireturn, 1) := by decide +kernel
theorem dX7_uOf_0 : decode mi_X7_uOf.2.1 0 = .ok (.iload_n 1, 1) := by decide +kernel
theorem dX7_uOf_1 : decode mi_X7_uOf.2.1 1 = .ok (.aload_n 0, 1) := by decide +kernel
theorem dX7_uOf_2 : decode mi_X7_uOf.2.1 2 = .ok (.invokevirtual 51, 3) := by decide +kernel
theorem dX7_uOf_5 : decode mi_X7_uOf.2.1 5 = .ok (.irem, 1) := by decide +kernel
theorem dX7_uOf_6 : decode mi_X7_uOf.2.1 6 = .ok (.aload_n 0, 1) := by decide +kernel
theorem dX7_uOf_7 : decode mi_X7_uOf.2.1 7 = .ok (.getfield 7, 3) := by decide +kernel
theorem dX7_uOf_10 : decode mi_X7_uOf.2.1 10 = .ok (.iconst 1, 1) := by decide +kernel
theorem dX7_uOf_11 : decode mi_X7_uOf.2.1 11 = .ok (.iaload, 1) := by decide +kernel
theorem dX7_uOf_12 : decode mi_X7_uOf.2.1 12 = .ok (.idiv, 1) := by decide +kernel
theorem dX7_uOf_13 : decode mi_X7_uOf.2.1 13 = .ok (.ireturn, 1) := by decide +kernel
theorem dX7_vOf_0 : decode mi_X7_vOf.2.1 0 = .ok (.iload_n 1, 1) := by decide +kernel
theorem dX7_vOf_1 : decode mi_X7_vOf.2.1 1 = .ok (.aload_n 0, 1) := by decide +kernel
theorem dX7_vOf_2 : decode mi_X7_vOf.2.1 2 = .ok (.getfield 7, 3) := by decide +kernel
theorem dX7_vOf_5 : decode mi_X7_vOf.2.1 5 = .ok (.iconst 1, 1) := by decide +kernel
theorem dX7_vOf_6 : decode mi_X7_vOf.2.1 6 = .ok (.iaload, 1) := by decide +kernel
theorem dX7_vOf_7 : decode mi_X7_vOf.2.1 7 = .ok (.irem, 1) := by decide +kernel
theorem dX7_vOf_8 : decode mi_X7_vOf.2.1 8 = .ok (.ireturn, 1) := by decide +kernel
theorem dX7_modulo_0 : decode mi_X7_modulo.2.1 0 = .ok (.iload_n 1, 1) := by decide +kernel
theorem dX7_modulo_1 : decode mi_X7_modulo.2.1 1 = .ok (.aload_n 0, 1) := by decide +kernel
theorem dX7_modulo_2 : decode mi_X7_modulo.2.1 2 = .ok (.getfield 7, 3) := by decide +kernel
theorem dX7_modulo_5 : decode mi_X7_modulo.2.1 5 = .ok (.iconst 1, 1) := by decide +kernel
theorem dX7_modulo_6 : decode mi_X7_modulo.2.1 6 = .ok (.iaload, 1) := by decide +kernel
theorem dX7_modulo_7 : decode mi_X7_modulo.2.1 7 = .ok (.irem, 1) := by decide +kernel
theorem dX7_modulo_8 : decode mi_X7_modulo.2.1 8 = .ok (.istore_n 2, 1) := by decide +kernel
theorem dX7_modulo_9 : decode mi_X7_modulo.2.1 9 = .ok (.iload_n 2, 1) := by decide +kernel
theorem dX7_modulo_10 : decode mi_X7_modulo.2.1 10 = .ok (.ifCond .ge 14, 3) := by decide +kernel
theorem dX7_modulo_13 : decode mi_X7_modulo.2.1 13 = .ok (.iload_n 2, 1) := by decide +kernel
theorem dX7_modulo_14 : decode mi_X7_modulo.2.1 14 = .ok (.aload_n 0, 1) := by decide +kernel
theorem dX7_modulo_15 : decode mi_X7_modulo.2.1 15 = .ok (.getfield 7, 3) := by decide +kernel
theorem dX7_modulo_18 : decode mi_X7_modulo.2.1 18 = .ok (.iconst 1, 1) := by decide +kernel
theorem dX7_modulo_19 : decode mi_X7_modulo.2.1 19 = .ok (.iaload, 1) := by decide +kernel
theorem dX7_modulo_20 : decode mi_X7_modulo.2.1 20 = .ok (.iadd, 1) := by decide +kernel
theorem dX7_modulo_21 : decode mi_X7_modulo.2.1 21 = .ok (.goto 4, 3) := by decide +kernel
theorem dX7_modulo_24 : decode mi_X7_modulo.2.1 24 = .ok (.iload_n 2, 1) := by decide +kernel
theorem dX7_modulo_25 : decode mi_X7_modulo.2.1 25 = .ok (.ireturn, 1) := by decide +kernel
theorem dX7_codeOf_0 : decode mi_X7_codeOf.2.1 0 = .ok (.iload_n 1, 1) := by decide +kernel
theorem dX7_codeOf_1 : decode mi_X7_codeOf.2.1 1 = .ok (.aload_n 0, 1) := by decide +kernel
theorem dX7_codeOf_2 : decode mi_X7_codeOf.2.1 2 = .ok (.invokevirtual 51, 3) := by decide +kernel
theorem dX7_codeOf_5 : decode mi_X7_codeOf.2.1 5 = .ok (.imul, 1) := by decide +kernel
theorem dX7_codeOf_6 : decode mi_X7_codeOf.2.1 6 = .ok (.aload_n 0, 1) := by decide +kernel
theorem dX7_codeOf_7 : decode mi_X7_codeOf.2.1 7 = .ok (.iload_n 2, 1) := by decide +kernel
theorem dX7_codeOf_8 : decode mi_X7_codeOf.2.1 8 = .ok (.invokevirtual 55, 3) := by decide +kernel
theorem dX7_codeOf_11 : decode mi_X7_codeOf.2.1 11 = .ok (.aload_n 0, 1) := by decide +kernel
theorem dX7_codeOf_12 : decode mi_X7_codeOf.2.1 12 = .ok (.getfield 7, 3) := by decide +kernel
theorem dX7_codeOf_15 : decode mi_X7_codeOf.2.1 15 = .ok (.iconst 1, 1) := by decide +kernel
theorem dX7_codeOf_16 : decode mi_X7_codeOf.2.1 16 = .ok (.iaload, 1) := by decide +kernel
theorem dX7_codeOf_17 : decode mi_X7_codeOf.2.1 17 = .ok (.imul, 1) := by decide +kernel
theorem dX7_codeOf_18 : decode mi_X7_codeOf.2.1 18 = .ok (.iadd, 1) := by decide +kernel
theorem dX7_codeOf_19 : decode mi_X7_codeOf.2.1 19 = .ok (.aload_n 0, 1) := by decide +kernel
theorem dX7_codeOf_20 : decode mi_X7_codeOf.2.1 20 = .ok (.iload_n 3, 1) := by decide +kernel
theorem dX7_codeOf_21 : decode mi_X7_codeOf.2.1 21 = .ok (.invokevirtual 55, 3) := by decide +kernel
theorem dX7_codeOf_24 : decode mi_X7_codeOf.2.1 24 = .ok (.iadd, 1) := by decide +kernel
theorem dX7_codeOf_25 : decode mi_X7_codeOf.2.1 25 = .ok (.ireturn, 1) := by decide +kernel
theorem dX7_times_0 : decode mi_X7_times.2.1 0 = .ok (.aload_n 0, 1) := by decide +kernel
theorem dX7_times_1 : decode mi_X7_times.2.1 1 = .ok (.iload_n 1, 1) := by decide +kernel
theorem dX7_times_2 : decode mi_X7_times.2.1 2 = .ok (.invokevirtual 59, 3) := by decide +kernel
theorem dX7_times_5 : decode mi_X7_times.2.1 5 = .ok (.istore_n 3, 1) := by decide +kernel
theorem dX7_times_6 : decode mi_X7_times.2.1 6 = .ok (.aload_n 0, 1) := by decide +kernel
theorem dX7_times_7 : decode mi_X7_times.2.1 7 = .ok (.iload_n 3, 1) := by decide +kernel
theorem dX7_times_8 : decode mi_X7_times.2.1 8 = .ok (.aload_n 0, 1) := by decide +kernel
theorem dX7_times_9 : decode mi_X7_times.2.1 9 = .ok (.iload_n 2, 1) := by decide +kernel
theorem dX7_times_10 : decode mi_X7_times.2.1 10 = .ok (.invokevirtual 62, 3) := by decide +kernel
theorem dX7_times_13 : decode mi_X7_times.2.1 13 = .ok (.aload_n 0, 1) := by decide +kernel
theorem dX7_times_14 : decode mi_X7_times.2.1 14 = .ok (.iload_n 2, 1) := by decide +kernel
theorem dX7_times_15 : decode mi_X7_times.2.1 15 = .ok (.invokevirtual 65, 3) := by decide +kernel
theorem dX7_times_18 : decode mi_X7_times.2.1 18 = .ok (.invokevirtual 68, 3) := by decide +kernel
theorem dX7_times_21 : decode mi_X7_times.2.1 21 = .ok (.aload_n 0, 1) := by decide +kernel
theorem dX7_times_22 : decode mi_X7_times.2.1 22 = .ok (.iload_n 1, 1) := by decide +kernel
theorem dX7_times_23 : decode mi_X7_times.2.1 23 = .ok (.invokevirtual 62, 3) := by decide +kernel
theorem dX7_times_26 : decode mi_X7_times.2.1 26 = .ok (.iadd, 1) := by decide +kernel
theorem dX7_times_27 : decode mi_X7_times.2.1 27 = .ok (.istore 4, 2) := by decide +kernel
theorem dX7_times_29 : decode mi_X7_times.2.1 29 = .ok (.aload_n 0, 1) := by decide +kernel
theorem dX7_times_30 : decode mi_X7_times.2.1 30 = .ok (.iload_n 3, 1) := by decide +kernel
theorem dX7_times_31 : decode mi_X7_times.2.1 31 = .ok (.aload_n 0, 1) := by decide +kernel
theorem dX7_times_32 : decode mi_X7_times.2.1 32 = .ok (.iload_n 2, 1) := by decide +kernel
theorem dX7_times_33 : decode mi_X7_times.2.1 33 = .ok (.invokevirtual 62, 3) := by decide +kernel
theorem dX7_times_36 : decode mi_X7_times.2.1 36 = .ok (.aload_n 0, 1) := by decide +kernel
theorem dX7_times_37 : decode mi_X7_times.2.1 37 = .ok (.iload_n 2, 1) := by decide +kernel
theorem dX7_times_38 : decode mi_X7_times.2.1 38 = .ok (.invokevirtual 65, 3) := by decide +kernel
theorem dX7_times_41 : decode mi_X7_times.2.1 41 = .ok (.invokevirtual 72, 3) := by decide +kernel
theorem dX7_times_44 : decode mi_X7_times.2.1 44 = .ok (.aload_n 0, 1) := by decide +kernel
theorem dX7_times_45 : decode mi_X7_times.2.1 45 = .ok (.iload_n 1, 1) := by decide +kernel
theorem dX7_times_46 : decode mi_X7_times.2.1 46 = .ok (.invokevirtual 65, 3) := by decide +kernel
theorem dX7_times_49 : decode mi_X7_times.2.1 49 = .ok (.iadd, 1) := by decide +kernel
theorem dX7_times_50 : decode mi_X7_times.2.1 50 = .ok (.istore 5, 2) := by decide +kernel
theorem dX7_times_52 : decode mi_X7_times.2.1 52 = .ok (.aload_n 0, 1) := by decide +kernel
theorem dX7_times_53 : decode mi_X7_times.2.1 53 = .ok (.aload_n 0, 1) := by decide +kernel
theorem dX7_times_54 : decode mi_X7_times.2.1 54 = .ok (.getfield 19, 3) := by decide +kernel
theorem dX7_times_57 : decode mi_X7_times.2.1 57 = .ok (.bipush 12, 2) := by decide +kernel
theorem dX7_times_59 : decode mi_X7_times.2.1 59 = .ok (.iload_n 3, 1) := by decide +kernel
theorem dX7_times_60 : decode mi_X7_times.2.1 60 = .ok (.imul, 1) := by decide +kernel
theorem dX7_times_61 : decode mi_X7_times.2.1 61 = .ok (.aload_n 0, 1) := by decide +kernel
theorem dX7_times_62 : decode mi_X7_times.2.1 62 = .ok (.iload_n 2, 1) := by decide +kernel
theorem dX7_times_63 : decode mi_X7_times.2.1 63 = .ok (.invokevirtual 59, 3) := by decide +kernel
theorem dX7_times_66 : decode mi_X7_times.2.1 66 = .ok (.iadd, 1) := by decide +kernel
theorem dX7_times_67 : decode mi_X7_times.2.1 67 = .ok (.iaload, 1) := by decide +kernel
theorem dX7_times_68 : decode mi_X7_times.2.1 68 = .ok (.iload 4, 2) := by decide +kernel
theorem dX7_times_70 : decode mi_X7_times.2.1 70 = .ok (.iload 5, 2) := by decide +kernel
theorem dX7_times_72 : decode mi_X7_times.2.1 72 = .ok (.invokevirtual 75, 3) := by decide +kernel
theorem dX7_times_75 : decode mi_X7_times.2.1 75 = .ok (.ireturn, 1) := by decide +kernel
theorem dX7_sends_0 : decode mi_X7_sends.2.1 0 = .ok (.iload_n 2, 1) := by decide +kernel
theorem dX7_sends_1 : decode mi_X7_sends.2.1 1 = .ok (.aload_n 0, 1) := by decide +kernel
theorem dX7_sends_2 : decode mi_X7_sends.2.1 2 = .ok (.getfield 7, 3) := by decide +kernel
theorem dX7_sends_5 : decode mi_X7_sends.2.1 5 = .ok (.iconst 1, 1) := by decide +kernel
theorem dX7_sends_6 : decode mi_X7_sends.2.1 6 = .ok (.iaload, 1) := by decide +kernel
theorem dX7_sends_7 : decode mi_X7_sends.2.1 7 = .ok (.idiv, 1) := by decide +kernel
theorem dX7_sends_8 : decode mi_X7_sends.2.1 8 = .ok (.istore_n 3, 1) := by decide +kernel
theorem dX7_sends_9 : decode mi_X7_sends.2.1 9 = .ok (.iload_n 2, 1) := by decide +kernel
theorem dX7_sends_10 : decode mi_X7_sends.2.1 10 = .ok (.aload_n 0, 1) := by decide +kernel
theorem dX7_sends_11 : decode mi_X7_sends.2.1 11 = .ok (.getfield 7, 3) := by decide +kernel
theorem dX7_sends_14 : decode mi_X7_sends.2.1 14 = .ok (.iconst 1, 1) := by decide +kernel
theorem dX7_sends_15 : decode mi_X7_sends.2.1 15 = .ok (.iaload, 1) := by decide +kernel
theorem dX7_sends_16 : decode mi_X7_sends.2.1 16 = .ok (.irem, 1) := by decide +kernel
theorem dX7_sends_17 : decode mi_X7_sends.2.1 17 = .ok (.istore 4, 2) := by decide +kernel
theorem dX7_sends_19 : decode mi_X7_sends.2.1 19 = .ok (.aload_n 0, 1) := by decide +kernel
theorem dX7_sends_20 : decode mi_X7_sends.2.1 20 = .ok (.iload_n 1, 1) := by decide +kernel
theorem dX7_sends_21 : decode mi_X7_sends.2.1 21 = .ok (.invokevirtual 59, 3) := by decide +kernel
theorem dX7_sends_24 : decode mi_X7_sends.2.1 24 = .ok (.istore 5, 2) := by decide +kernel
theorem dX7_sends_26 : decode mi_X7_sends.2.1 26 = .ok (.aload_n 0, 1) := by decide +kernel
theorem dX7_sends_27 : decode mi_X7_sends.2.1 27 = .ok (.aload_n 0, 1) := by decide +kernel
theorem dX7_sends_28 : decode mi_X7_sends.2.1 28 = .ok (.iload 5, 2) := by decide +kernel
theorem dX7_sends_30 : decode mi_X7_sends.2.1 30 = .ok (.iload_n 3, 1) := by decide +kernel
theorem dX7_sends_31 : decode mi_X7_sends.2.1 31 = .ok (.iload 4, 2) := by decide +kernel
theorem dX7_sends_33 : decode mi_X7_sends.2.1 33 = .ok (.invokevirtual 68, 3) := by decide +kernel
theorem dX7_sends_36 : decode mi_X7_sends.2.1 36 = .ok (.aload_n 0, 1) := by decide +kernel
theorem dX7_sends_37 : decode mi_X7_sends.2.1 37 = .ok (.iload_n 1, 1) := by decide +kernel
theorem dX7_sends_38 : decode mi_X7_sends.2.1 38 = .ok (.invokevirtual 62, 3) := by decide +kernel
theorem dX7_sends_41 : decode mi_X7_sends.2.1 41 = .ok (.iadd, 1) := by decide +kernel
theorem dX7_sends_42 : decode mi_X7_sends.2.1 42 = .ok (.invokevirtual 55, 3) := by decide +kernel
theorem dX7_sends_45 : decode mi_X7_sends.2.1 45 = .ok (.aload_n 0, 1) := by decide +kernel
theorem dX7_sends_46 : decode mi_X7_sends.2.1 46 = .ok (.getfield 7, 3) := by decide +kernel
theorem dX7_sends_49 : decode mi_X7_sends.2.1 49 = .ok (.iconst 1, 1) := by decide +kernel
theorem dX7_sends_50 : decode mi_X7_sends.2.1 50 = .ok (.iaload, 1) := by decide +kernel
theorem dX7_sends_51 : decode mi_X7_sends.2.1 51 = .ok (.imul, 1) := by decide +kernel
theorem dX7_sends_52 : decode mi_X7_sends.2.1 52 = .ok (.aload_n 0, 1) := by decide +kernel
theorem dX7_sends_53 : decode mi_X7_sends.2.1 53 = .ok (.aload_n 0, 1) := by decide +kernel
theorem dX7_sends_54 : decode mi_X7_sends.2.1 54 = .ok (.iload 5, 2) := by decide +kernel
theorem dX7_sends_56 : decode mi_X7_sends.2.1 56 = .ok (.iload_n 3, 1) := by decide +kernel
theorem dX7_sends_57 : decode mi_X7_sends.2.1 57 = .ok (.iload 4, 2) := by decide +kernel
theorem dX7_sends_59 : decode mi_X7_sends.2.1 59 = .ok (.invokevirtual 72, 3) := by decide +kernel
theorem dX7_sends_62 : decode mi_X7_sends.2.1 62 = .ok (.aload_n 0, 1) := by decide +kernel
theorem dX7_sends_63 : decode mi_X7_sends.2.1 63 = .ok (.iload_n 1, 1) := by decide +kernel
theorem dX7_sends_64 : decode mi_X7_sends.2.1 64 = .ok (.invokevirtual 65, 3) := by decide +kernel
theorem dX7_sends_67 : decode mi_X7_sends.2.1 67 = .ok (.iadd, 1) := by decide +kernel
theorem dX7_sends_68 : decode mi_X7_sends.2.1 68 = .ok (.invokevirtual 55, 3) := by decide +kernel
theorem dX7_sends_71 : decode mi_X7_sends.2.1 71 = .ok (.iadd, 1) := by decide +kernel
theorem dX7_sends_72 : decode mi_X7_sends.2.1 72 = .ok (.ireturn, 1) := by decide +kernel
theorem dX7_isCode_0 : decode mi_X7_isCode.2.1 0 = .ok (.iload_n 1, 1) := by decide +kernel
theorem dX7_isCode_1 : decode mi_X7_isCode.2.1 1 = .ok (.iconst 0, 1) := by decide +kernel
theorem dX7_isCode_2 : decode mi_X7_isCode.2.1 2 = .ok (.aload_n 0, 1) := by decide +kernel
theorem dX7_isCode_3 : decode mi_X7_isCode.2.1 3 = .ok (.getfield 36, 3) := by decide +kernel
theorem dX7_isCode_6 : decode mi_X7_isCode.2.1 6 = .ok (.aload_n 0, 1) := by decide +kernel
theorem dX7_isCode_7 : decode mi_X7_isCode.2.1 7 = .ok (.invokevirtual 51, 3) := by decide +kernel
theorem dX7_isCode_10 : decode mi_X7_isCode.2.1 10 = .ok (.imul, 1) := by decide +kernel
theorem dX7_isCode_11 : decode mi_X7_isCode.2.1 11 = .ok (.iconst 1, 1) := by decide +kernel
theorem dX7_isCode_12 : decode mi_X7_isCode.2.1 12 = .ok (.isub, 1) := by decide +kernel
theorem dX7_isCode_13 : decode mi_X7_isCode.2.1 13 = .ok (.invokestatic 78, 3) := by decide +kernel
theorem dX7_isCode_16 : decode mi_X7_isCode.2.1 16 = .ok (.ireturn, 1) := by decide +kernel
theorem dX7_divisor_0 : decode mi_X7_divisor.2.1 0 = .ok (.iload_n 0, 1) := by decide +kernel
theorem dX7_divisor_1 : decode mi_X7_divisor.2.1 1 = .ok (.ifCond .ge 8, 3) := by decide +kernel
theorem dX7_divisor_4 : decode mi_X7_divisor.2.1 4 = .ok (.iload_n 0, 1) := by decide +kernel
theorem dX7_divisor_5 : decode mi_X7_divisor.2.1 5 = .ok (.ineg, 1) := by decide +kernel
theorem dX7_divisor_6 : decode mi_X7_divisor.2.1 6 = .ok (.goto 4, 3) := by decide +kernel
theorem dX7_divisor_9 : decode mi_X7_divisor.2.1 9 = .ok (.iload_n 0, 1) := by decide +kernel
theorem dX7_divisor_10 : decode mi_X7_divisor.2.1 10 = .ok (.istore_n 2, 1) := by decide +kernel
theorem dX7_divisor_11 : decode mi_X7_divisor.2.1 11 = .ok (.iload_n 1, 1) := by decide +kernel
theorem dX7_divisor_12 : decode mi_X7_divisor.2.1 12 = .ok (.ifCond .ge 8, 3) := by decide +kernel
theorem dX7_divisor_15 : decode mi_X7_divisor.2.1 15 = .ok (.iload_n 1, 1) := by decide +kernel
theorem dX7_divisor_16 : decode mi_X7_divisor.2.1 16 = .ok (.ineg, 1) := by decide +kernel
theorem dX7_divisor_17 : decode mi_X7_divisor.2.1 17 = .ok (.goto 4, 3) := by decide +kernel
theorem dX7_divisor_20 : decode mi_X7_divisor.2.1 20 = .ok (.iload_n 1, 1) := by decide +kernel
theorem dX7_divisor_21 : decode mi_X7_divisor.2.1 21 = .ok (.istore_n 3, 1) := by decide +kernel
theorem dX7_divisor_22 : decode mi_X7_divisor.2.1 22 = .ok (.iload_n 3, 1) := by decide +kernel
theorem dX7_divisor_23 : decode mi_X7_divisor.2.1 23 = .ok (.ifCond .le 16, 3) := by decide +kernel
theorem dX7_divisor_26 : decode mi_X7_divisor.2.1 26 = .ok (.iload_n 2, 1) := by decide +kernel
theorem dX7_divisor_27 : decode mi_X7_divisor.2.1 27 = .ok (.iload_n 3, 1) := by decide +kernel
theorem dX7_divisor_28 : decode mi_X7_divisor.2.1 28 = .ok (.irem, 1) := by decide +kernel
theorem dX7_divisor_29 : decode mi_X7_divisor.2.1 29 = .ok (.istore 4, 2) := by decide +kernel
theorem dX7_divisor_31 : decode mi_X7_divisor.2.1 31 = .ok (.iload_n 3, 1) := by decide +kernel
theorem dX7_divisor_32 : decode mi_X7_divisor.2.1 32 = .ok (.istore_n 2, 1) := by decide +kernel
theorem dX7_divisor_33 : decode mi_X7_divisor.2.1 33 = .ok (.iload 4, 2) := by decide +kernel
theorem dX7_divisor_35 : decode mi_X7_divisor.2.1 35 = .ok (.istore_n 3, 1) := by decide +kernel
theorem dX7_divisor_36 : decode mi_X7_divisor.2.1 36 = .ok (.goto (-14), 3) := by decide +kernel
theorem dX7_divisor_39 : decode mi_X7_divisor.2.1 39 = .ok (.iload_n 2, 1) := by decide +kernel
theorem dX7_divisor_40 : decode mi_X7_divisor.2.1 40 = .ok (.ireturn, 1) := by decide +kernel
theorem dX7_isReflection_0 : decode mi_X7_isReflection.2.1 0 = .ok (.aload_n 0, 1) := by decide +kernel
theorem dX7_isReflection_1 : decode mi_X7_isReflection.2.1 1 = .ok (.iload_n 1, 1) := by decide +kernel
theorem dX7_isReflection_2 : decode mi_X7_isReflection.2.1 2 = .ok (.invokevirtual 59, 3) := by decide +kernel
theorem dX7_isReflection_5 : decode mi_X7_isReflection.2.1 5 = .ok (.istore_n 2, 1) := by decide +kernel
theorem dX7_isReflection_6 : decode mi_X7_isReflection.2.1 6 = .ok (.aload_n 0, 1) := by decide +kernel
theorem dX7_isReflection_7 : decode mi_X7_isReflection.2.1 7 = .ok (.iload_n 2, 1) := by decide +kernel
theorem dX7_isReflection_8 : decode mi_X7_isReflection.2.1 8 = .ok (.iconst 0, 1) := by decide +kernel
theorem dX7_isReflection_9 : decode mi_X7_isReflection.2.1 9 = .ok (.invokevirtual 32, 3) := by decide +kernel
theorem dX7_isReflection_12 : decode mi_X7_isReflection.2.1 12 = .ok (.iconst 1, 1) := by decide +kernel
theorem dX7_isReflection_13 : decode mi_X7_isReflection.2.1 13 = .ok (.isub, 1) := by decide +kernel
theorem dX7_isReflection_14 : decode mi_X7_isReflection.2.1 14 = .ok (.istore_n 3, 1) := by decide +kernel
theorem dX7_isReflection_15 : decode mi_X7_isReflection.2.1 15 = .ok (.aload_n 0, 1) := by decide +kernel
theorem dX7_isReflection_16 : decode mi_X7_isReflection.2.1 16 = .ok (.iload_n 2, 1) := by decide +kernel
theorem dX7_isReflection_17 : decode mi_X7_isReflection.2.1 17 = .ok (.iconst 2, 1) := by decide +kernel
theorem dX7_isReflection_18 : decode mi_X7_isReflection.2.1 18 = .ok (.invokevirtual 32, 3) := by decide +kernel
theorem dX7_isReflection_21 : decode mi_X7_isReflection.2.1 21 = .ok (.istore 4, 2) := by decide +kernel
theorem dX7_isReflection_23 : decode mi_X7_isReflection.2.1 23 = .ok (.iload_n 3, 1) := by decide +kernel
theorem dX7_isReflection_24 : decode mi_X7_isReflection.2.1 24 = .ok (.ifCond .ne 25, 3) := by decide +kernel
theorem dX7_isReflection_27 : decode mi_X7_isReflection.2.1 27 = .ok (.iload 4, 2) := by decide +kernel
theorem dX7_isReflection_29 : decode mi_X7_isReflection.2.1 29 = .ok (.ifCond .ne 20, 3) := by decide +kernel
theorem dX7_isReflection_32 : decode mi_X7_isReflection.2.1 32 = .ok (.aload_n 0, 1) := by decide +kernel
theorem dX7_isReflection_33 : decode mi_X7_isReflection.2.1 33 = .ok (.iload_n 2, 1) := by decide +kernel
theorem dX7_isReflection_34 : decode mi_X7_isReflection.2.1 34 = .ok (.iconst 1, 1) := by decide +kernel
theorem dX7_isReflection_35 : decode mi_X7_isReflection.2.1 35 = .ok (.invokevirtual 32, 3) := by decide +kernel
theorem dX7_isReflection_38 : decode mi_X7_isReflection.2.1 38 = .ok (.istore_n 3, 1) := by decide +kernel
theorem dX7_isReflection_39 : decode mi_X7_isReflection.2.1 39 = .ok (.aload_n 0, 1) := by decide +kernel
theorem dX7_isReflection_40 : decode mi_X7_isReflection.2.1 40 = .ok (.iload_n 2, 1) := by decide +kernel
theorem dX7_isReflection_41 : decode mi_X7_isReflection.2.1 41 = .ok (.iconst 3, 1) := by decide +kernel
theorem dX7_isReflection_42 : decode mi_X7_isReflection.2.1 42 = .ok (.invokevirtual 32, 3) := by decide +kernel
theorem dX7_isReflection_45 : decode mi_X7_isReflection.2.1 45 = .ok (.iconst 1, 1) := by decide +kernel
theorem dX7_isReflection_46 : decode mi_X7_isReflection.2.1 46 = .ok (.isub, 1) := by decide +kernel
theorem dX7_isReflection_47 : decode mi_X7_isReflection.2.1 47 = .ok (.istore 4, 2) := by decide +kernel
theorem dX7_isReflection_49 : decode mi_X7_isReflection.2.1 49 = .ok (.iload_n 3, 1) := by decide +kernel
theorem dX7_isReflection_50 : decode mi_X7_isReflection.2.1 50 = .ok (.iload 4, 2) := by decide +kernel
theorem dX7_isReflection_52 : decode mi_X7_isReflection.2.1 52 = .ok (.invokestatic 82, 3) := by decide +kernel
theorem dX7_isReflection_55 : decode mi_X7_isReflection.2.1 55 = .ok (.istore 5, 2) := by decide +kernel
theorem dX7_isReflection_57 : decode mi_X7_isReflection.2.1 57 = .ok (.iconst 0, 1) := by decide +kernel
theorem dX7_isReflection_58 : decode mi_X7_isReflection.2.1 58 = .ok (.istore 6, 2) := by decide +kernel
theorem dX7_isReflection_60 : decode mi_X7_isReflection.2.1 60 = .ok (.iconst 0, 1) := by decide +kernel
theorem dX7_isReflection_61 : decode mi_X7_isReflection.2.1 61 = .ok (.istore 7, 2) := by decide +kernel
theorem dX7_isReflection_63 : decode mi_X7_isReflection.2.1 63 = .ok (.iload 7, 2) := by decide +kernel
theorem dX7_isReflection_65 : decode mi_X7_isReflection.2.1 65 = .ok (.aload_n 0, 1) := by decide +kernel
theorem dX7_isReflection_66 : decode mi_X7_isReflection.2.1 66 = .ok (.getfield 7, 3) := by decide +kernel
theorem dX7_isReflection_69 : decode mi_X7_isReflection.2.1 69 = .ok (.iconst 1, 1) := by decide +kernel
theorem dX7_isReflection_70 : decode mi_X7_isReflection.2.1 70 = .ok (.iaload, 1) := by decide +kernel
theorem dX7_isReflection_71 : decode mi_X7_isReflection.2.1 71 = .ok (.if_icmp .ge 60, 3) := by decide +kernel
theorem dX7_isReflection_74 : decode mi_X7_isReflection.2.1 74 = .ok (.iload 6, 2) := by decide +kernel
theorem dX7_isReflection_76 : decode mi_X7_isReflection.2.1 76 = .ok (.ifCond .ne 42, 3) := by decide +kernel
theorem dX7_isReflection_79 : decode mi_X7_isReflection.2.1 79 = .ok (.aload_n 0, 1) := by decide +kernel
theorem dX7_isReflection_80 : decode mi_X7_isReflection.2.1 80 = .ok (.iload 7, 2) := by decide +kernel
theorem dX7_isReflection_82 : decode mi_X7_isReflection.2.1 82 = .ok (.iload_n 3, 1) := by decide +kernel
theorem dX7_isReflection_83 : decode mi_X7_isReflection.2.1 83 = .ok (.iload 5, 2) := by decide +kernel
theorem dX7_isReflection_85 : decode mi_X7_isReflection.2.1 85 = .ok (.idiv, 1) := by decide +kernel
theorem dX7_isReflection_86 : decode mi_X7_isReflection.2.1 86 = .ok (.imul, 1) := by decide +kernel
theorem dX7_isReflection_87 : decode mi_X7_isReflection.2.1 87 = .ok (.invokevirtual 55, 3) := by decide +kernel
theorem dX7_isReflection_90 : decode mi_X7_isReflection.2.1 90 = .ok (.aload_n 0, 1) := by decide +kernel
theorem dX7_isReflection_91 : decode mi_X7_isReflection.2.1 91 = .ok (.iload_n 1, 1) := by decide +kernel
theorem dX7_isReflection_92 : decode mi_X7_isReflection.2.1 92 = .ok (.invokevirtual 62, 3) := by decide +kernel
theorem dX7_isReflection_95 : decode mi_X7_isReflection.2.1 95 = .ok (.if_icmp .ne 27, 3) := by decide +kernel
theorem dX7_isReflection_98 : decode mi_X7_isReflection.2.1 98 = .ok (.aload_n 0, 1) := by decide +kernel
theorem dX7_isReflection_99 : decode mi_X7_isReflection.2.1 99 = .ok (.iload 7, 2) := by decide +kernel
theorem dX7_isReflection_101 : decode mi_X7_isReflection.2.1 101 = .ok (.iload 4, 2) := by decide +kernel
end
section
theorem dX7_isReflection_103 : decode mi_X7_isReflection.2.1 103 = .ok (.iload 5, 2) := by decide +kernel
theorem dX7_isReflection_105 : decode mi_X7_isReflection.2.1 105 = .ok (.idiv, 1) := by decide +kernel
theorem dX7_isReflection_106 : decode mi_X7_isReflection.2.1 106 = .ok (.imul, 1) := by decide +kernel
theorem dX7_isReflection_107 : decode mi_X7_isReflection.2.1 107 = .ok (.invokevirtual 55, 3) := by decide +kernel
theorem dX7_isReflection_110 : decode mi_X7_isReflection.2.1 110 = .ok (.aload_n 0, 1) := by decide +kernel
theorem dX7_isReflection_111 : decode mi_X7_isReflection.2.1 111 = .ok (.iload_n 1, 1) := by decide +kernel
theorem dX7_isReflection_112 : decode mi_X7_isReflection.2.1 112 = .ok (.invokevirtual 65, 3) := by decide +kernel
theorem dX7_isReflection_115 : decode mi_X7_isReflection.2.1 115 = .ok (.if_icmp .ne 7, 3) := by decide +kernel
theorem dX7_isReflection_118 : decode mi_X7_isReflection.2.1 118 = .ok (.iconst 1, 1) := by decide +kernel
theorem dX7_isReflection_119 : decode mi_X7_isReflection.2.1 119 = .ok (.goto 4, 3) := by decide +kernel
theorem dX7_isReflection_122 : decode mi_X7_isReflection.2.1 122 = .ok (.iconst 0, 1) := by decide +kernel
theorem dX7_isReflection_123 : decode mi_X7_isReflection.2.1 123 = .ok (.istore 6, 2) := by decide +kernel
theorem dX7_isReflection_125 : decode mi_X7_isReflection.2.1 125 = .ok (.iinc 7 1, 3) := by decide +kernel
theorem dX7_isReflection_128 : decode mi_X7_isReflection.2.1 128 = .ok (.goto (-65), 3) := by decide +kernel
theorem dX7_isReflection_131 : decode mi_X7_isReflection.2.1 131 = .ok (.iload 6, 2) := by decide +kernel
theorem dX7_isReflection_133 : decode mi_X7_isReflection.2.1 133 = .ok (.ireturn, 1) := by decide +kernel
theorem dX7_kindOfCode_0 : decode mi_X7_kindOfCode.2.1 0 = .ok (.aload_n 0, 1) := by decide +kernel
theorem dX7_kindOfCode_1 : decode mi_X7_kindOfCode.2.1 1 = .ok (.iload_n 1, 1) := by decide +kernel
theorem dX7_kindOfCode_2 : decode mi_X7_kindOfCode.2.1 2 = .ok (.invokevirtual 59, 3) := by decide +kernel
theorem dX7_kindOfCode_5 : decode mi_X7_kindOfCode.2.1 5 = .ok (.istore_n 2, 1) := by decide +kernel
theorem dX7_kindOfCode_6 : decode mi_X7_kindOfCode.2.1 6 = .ok (.iload_n 2, 1) := by decide +kernel
theorem dX7_kindOfCode_7 : decode mi_X7_kindOfCode.2.1 7 = .ok (.ifCond .ne 7, 3) := by decide +kernel
theorem dX7_kindOfCode_10 : decode mi_X7_kindOfCode.2.1 10 = .ok (.iconst 0, 1) := by decide +kernel
theorem dX7_kindOfCode_11 : decode mi_X7_kindOfCode.2.1 11 = .ok (.goto 28, 3) := by decide +kernel
theorem dX7_kindOfCode_14 : decode mi_X7_kindOfCode.2.1 14 = .ok (.aload_n 0, 1) := by decide +kernel
theorem dX7_kindOfCode_15 : decode mi_X7_kindOfCode.2.1 15 = .ok (.iload_n 2, 1) := by decide +kernel
theorem dX7_kindOfCode_16 : decode mi_X7_kindOfCode.2.1 16 = .ok (.invokevirtual 85, 3) := by decide +kernel
theorem dX7_kindOfCode_19 : decode mi_X7_kindOfCode.2.1 19 = .ok (.ifCond .eq 7, 3) := by decide +kernel
theorem dX7_kindOfCode_22 : decode mi_X7_kindOfCode.2.1 22 = .ok (.iconst 1, 1) := by decide +kernel
theorem dX7_kindOfCode_23 : decode mi_X7_kindOfCode.2.1 23 = .ok (.goto 16, 3) := by decide +kernel
theorem dX7_kindOfCode_26 : decode mi_X7_kindOfCode.2.1 26 = .ok (.aload_n 0, 1) := by decide +kernel
theorem dX7_kindOfCode_27 : decode mi_X7_kindOfCode.2.1 27 = .ok (.iload_n 1, 1) := by decide +kernel
theorem dX7_kindOfCode_28 : decode mi_X7_kindOfCode.2.1 28 = .ok (.invokevirtual 89, 3) := by decide +kernel
theorem dX7_kindOfCode_31 : decode mi_X7_kindOfCode.2.1 31 = .ok (.ifCond .eq 7, 3) := by decide +kernel
theorem dX7_kindOfCode_34 : decode mi_X7_kindOfCode.2.1 34 = .ok (.iconst 2, 1) := by decide +kernel
theorem dX7_kindOfCode_35 : decode mi_X7_kindOfCode.2.1 35 = .ok (.goto 4, 3) := by decide +kernel
theorem dX7_kindOfCode_38 : decode mi_X7_kindOfCode.2.1 38 = .ok (.iconst 3, 1) := by decide +kernel
theorem dX7_kindOfCode_39 : decode mi_X7_kindOfCode.2.1 39 = .ok (.ireturn, 1) := by decide +kernel
theorem dX7_addElement_0 : decode mi_X7_addElement.2.1 0 = .ok (.aload_n 0, 1) := by decide +kernel
theorem dX7_addElement_1 : decode mi_X7_addElement.2.1 1 = .ok (.getfield 22, 3) := by decide +kernel
theorem dX7_addElement_4 : decode mi_X7_addElement.2.1 4 = .ok (.iload_n 1, 1) := by decide +kernel
theorem dX7_addElement_5 : decode mi_X7_addElement.2.1 5 = .ok (.baload, 1) := by decide +kernel
theorem dX7_addElement_6 : decode mi_X7_addElement.2.1 6 = .ok (.ifCond .ne 30, 3) := by decide +kernel
theorem dX7_addElement_9 : decode mi_X7_addElement.2.1 9 = .ok (.aload_n 0, 1) := by decide +kernel
theorem dX7_addElement_10 : decode mi_X7_addElement.2.1 10 = .ok (.getfield 22, 3) := by decide +kernel
theorem dX7_addElement_13 : decode mi_X7_addElement.2.1 13 = .ok (.iload_n 1, 1) := by decide +kernel
theorem dX7_addElement_14 : decode mi_X7_addElement.2.1 14 = .ok (.iconst 1, 1) := by decide +kernel
theorem dX7_addElement_15 : decode mi_X7_addElement.2.1 15 = .ok (.bastore, 1) := by decide +kernel
theorem dX7_addElement_16 : decode mi_X7_addElement.2.1 16 = .ok (.aload_n 0, 1) := by decide +kernel
theorem dX7_addElement_17 : decode mi_X7_addElement.2.1 17 = .ok (.getfield 26, 3) := by decide +kernel
theorem dX7_addElement_20 : decode mi_X7_addElement.2.1 20 = .ok (.aload_n 0, 1) := by decide +kernel
theorem dX7_addElement_21 : decode mi_X7_addElement.2.1 21 = .ok (.getfield 92, 3) := by decide +kernel
theorem dX7_addElement_24 : decode mi_X7_addElement.2.1 24 = .ok (.iload_n 1, 1) := by decide +kernel
theorem dX7_addElement_25 : decode mi_X7_addElement.2.1 25 = .ok (.iastore, 1) := by decide +kernel
theorem dX7_addElement_26 : decode mi_X7_addElement.2.1 26 = .ok (.aload_n 0, 1) := by decide +kernel
theorem dX7_addElement_27 : decode mi_X7_addElement.2.1 27 = .ok (.dup, 1) := by decide +kernel
theorem dX7_addElement_28 : decode mi_X7_addElement.2.1 28 = .ok (.getfield 92, 3) := by decide +kernel
theorem dX7_addElement_31 : decode mi_X7_addElement.2.1 31 = .ok (.iconst 1, 1) := by decide +kernel
theorem dX7_addElement_32 : decode mi_X7_addElement.2.1 32 = .ok (.iadd, 1) := by decide +kernel
theorem dX7_addElement_33 : decode mi_X7_addElement.2.1 33 = .ok (.putfield 92, 3) := by decide +kernel
theorem dX7_addElement_36 : decode mi_X7_addElement.2.1 36 = .ok (.return_, 1) := by decide +kernel
theorem dX7_derive_0 : decode mi_X7_derive.2.1 0 = .ok (.aload_n 0, 1) := by decide +kernel
theorem dX7_derive_1 : decode mi_X7_derive.2.1 1 = .ok (.invokevirtual 95, 3) := by decide +kernel
theorem dX7_derive_4 : decode mi_X7_derive.2.1 4 = .ok (.iconst 0, 1) := by decide +kernel
theorem dX7_derive_5 : decode mi_X7_derive.2.1 5 = .ok (.istore_n 1, 1) := by decide +kernel
theorem dX7_derive_6 : decode mi_X7_derive.2.1 6 = .ok (.iload_n 1, 1) := by decide +kernel
theorem dX7_derive_7 : decode mi_X7_derive.2.1 7 = .ok (.sipush 300, 3) := by decide +kernel
theorem dX7_derive_10 : decode mi_X7_derive.2.1 10 = .ok (.if_icmp .ge 16, 3) := by decide +kernel
theorem dX7_derive_13 : decode mi_X7_derive.2.1 13 = .ok (.aload_n 0, 1) := by decide +kernel
theorem dX7_derive_14 : decode mi_X7_derive.2.1 14 = .ok (.getfield 22, 3) := by decide +kernel
theorem dX7_derive_17 : decode mi_X7_derive.2.1 17 = .ok (.iload_n 1, 1) := by decide +kernel
theorem dX7_derive_18 : decode mi_X7_derive.2.1 18 = .ok (.iconst 0, 1) := by decide +kernel
theorem dX7_derive_19 : decode mi_X7_derive.2.1 19 = .ok (.bastore, 1) := by decide +kernel
theorem dX7_derive_20 : decode mi_X7_derive.2.1 20 = .ok (.iinc 1 1, 3) := by decide +kernel
theorem dX7_derive_23 : decode mi_X7_derive.2.1 23 = .ok (.goto (-17), 3) := by decide +kernel
theorem dX7_derive_26 : decode mi_X7_derive.2.1 26 = .ok (.aload_n 0, 1) := by decide +kernel
theorem dX7_derive_27 : decode mi_X7_derive.2.1 27 = .ok (.iconst 0, 1) := by decide +kernel
theorem dX7_derive_28 : decode mi_X7_derive.2.1 28 = .ok (.putfield 92, 3) := by decide +kernel
theorem dX7_derive_31 : decode mi_X7_derive.2.1 31 = .ok (.aload_n 0, 1) := by decide +kernel
theorem dX7_derive_32 : decode mi_X7_derive.2.1 32 = .ok (.iconst 0, 1) := by decide +kernel
theorem dX7_derive_33 : decode mi_X7_derive.2.1 33 = .ok (.invokevirtual 98, 3) := by decide +kernel
theorem dX7_derive_36 : decode mi_X7_derive.2.1 36 = .ok (.iconst 0, 1) := by decide +kernel
theorem dX7_derive_37 : decode mi_X7_derive.2.1 37 = .ok (.istore_n 1, 1) := by decide +kernel
theorem dX7_derive_38 : decode mi_X7_derive.2.1 38 = .ok (.iload_n 1, 1) := by decide +kernel
theorem dX7_derive_39 : decode mi_X7_derive.2.1 39 = .ok (.aload_n 0, 1) := by decide +kernel
theorem dX7_derive_40 : decode mi_X7_derive.2.1 40 = .ok (.getfield 92, 3) := by decide +kernel
theorem dX7_derive_43 : decode mi_X7_derive.2.1 43 = .ok (.if_icmp .ge 49, 3) := by decide +kernel
theorem dX7_derive_46 : decode mi_X7_derive.2.1 46 = .ok (.iconst 0, 1) := by decide +kernel
theorem dX7_derive_47 : decode mi_X7_derive.2.1 47 = .ok (.istore_n 2, 1) := by decide +kernel
theorem dX7_derive_48 : decode mi_X7_derive.2.1 48 = .ok (.iload_n 2, 1) := by decide +kernel
theorem dX7_derive_49 : decode mi_X7_derive.2.1 49 = .ok (.aload_n 0, 1) := by decide +kernel
theorem dX7_derive_50 : decode mi_X7_derive.2.1 50 = .ok (.getfield 7, 3) := by decide +kernel
theorem dX7_derive_53 : decode mi_X7_derive.2.1 53 = .ok (.iconst 2, 1) := by decide +kernel
theorem dX7_derive_54 : decode mi_X7_derive.2.1 54 = .ok (.iaload, 1) := by decide +kernel
theorem dX7_derive_55 : decode mi_X7_derive.2.1 55 = .ok (.if_icmp .ge 31, 3) := by decide +kernel
theorem dX7_derive_58 : decode mi_X7_derive.2.1 58 = .ok (.aload_n 0, 1) := by decide +kernel
theorem dX7_derive_59 : decode mi_X7_derive.2.1 59 = .ok (.aload_n 0, 1) := by decide +kernel
theorem dX7_derive_60 : decode mi_X7_derive.2.1 60 = .ok (.aload_n 0, 1) := by decide +kernel
theorem dX7_derive_61 : decode mi_X7_derive.2.1 61 = .ok (.getfield 26, 3) := by decide +kernel
theorem dX7_derive_64 : decode mi_X7_derive.2.1 64 = .ok (.iload_n 1, 1) := by decide +kernel
theorem dX7_derive_65 : decode mi_X7_derive.2.1 65 = .ok (.iaload, 1) := by decide +kernel
theorem dX7_derive_66 : decode mi_X7_derive.2.1 66 = .ok (.aload_n 0, 1) := by decide +kernel
theorem dX7_derive_67 : decode mi_X7_derive.2.1 67 = .ok (.getfield 7, 3) := by decide +kernel
theorem dX7_derive_70 : decode mi_X7_derive.2.1 70 = .ok (.iconst 3, 1) := by decide +kernel
theorem dX7_derive_71 : decode mi_X7_derive.2.1 71 = .ok (.iload_n 2, 1) := by decide +kernel
theorem dX7_derive_72 : decode mi_X7_derive.2.1 72 = .ok (.iadd, 1) := by decide +kernel
theorem dX7_derive_73 : decode mi_X7_derive.2.1 73 = .ok (.iaload, 1) := by decide +kernel
theorem dX7_derive_74 : decode mi_X7_derive.2.1 74 = .ok (.invokevirtual 102, 3) := by decide +kernel
theorem dX7_derive_77 : decode mi_X7_derive.2.1 77 = .ok (.invokevirtual 98, 3) := by decide +kernel
theorem dX7_derive_80 : decode mi_X7_derive.2.1 80 = .ok (.iinc 2 1, 3) := by decide +kernel
theorem dX7_derive_83 : decode mi_X7_derive.2.1 83 = .ok (.goto (-35), 3) := by decide +kernel
theorem dX7_derive_86 : decode mi_X7_derive.2.1 86 = .ok (.iinc 1 1, 3) := by decide +kernel
theorem dX7_derive_89 : decode mi_X7_derive.2.1 89 = .ok (.goto (-51), 3) := by decide +kernel
theorem dX7_derive_92 : decode mi_X7_derive.2.1 92 = .ok (.return_, 1) := by decide +kernel
theorem dX7_save_0 : decode mi_X7_save.2.1 0 = .ok (.aload_n 0, 1) := by decide +kernel
theorem dX7_save_1 : decode mi_X7_save.2.1 1 = .ok (.getfield 105, 3) := by decide +kernel
theorem dX7_save_4 : decode mi_X7_save.2.1 4 = .ok (.iconst 4, 1) := by decide +kernel
theorem dX7_save_5 : decode mi_X7_save.2.1 5 = .ok (.if_icmp .ne 42, 3) := by decide +kernel
theorem dX7_save_8 : decode mi_X7_save.2.1 8 = .ok (.iconst 0, 1) := by decide +kernel
theorem dX7_save_9 : decode mi_X7_save.2.1 9 = .ok (.istore_n 1, 1) := by decide +kernel
theorem dX7_save_10 : decode mi_X7_save.2.1 10 = .ok (.iload_n 1, 1) := by decide +kernel
theorem dX7_save_11 : decode mi_X7_save.2.1 11 = .ok (.bipush 21, 2) := by decide +kernel
theorem dX7_save_13 : decode mi_X7_save.2.1 13 = .ok (.if_icmp .ge 24, 3) := by decide +kernel
theorem dX7_save_16 : decode mi_X7_save.2.1 16 = .ok (.aload_n 0, 1) := by decide +kernel
theorem dX7_save_17 : decode mi_X7_save.2.1 17 = .ok (.getfield 13, 3) := by decide +kernel
theorem dX7_save_20 : decode mi_X7_save.2.1 20 = .ok (.iload_n 1, 1) := by decide +kernel
theorem dX7_save_21 : decode mi_X7_save.2.1 21 = .ok (.aload_n 0, 1) := by decide +kernel
theorem dX7_save_22 : decode mi_X7_save.2.1 22 = .ok (.getfield 13, 3) := by decide +kernel
theorem dX7_save_25 : decode mi_X7_save.2.1 25 = .ok (.iload_n 1, 1) := by decide +kernel
theorem dX7_save_26 : decode mi_X7_save.2.1 26 = .ok (.bipush 7, 2) := by decide +kernel
theorem dX7_save_28 : decode mi_X7_save.2.1 28 = .ok (.iadd, 1) := by decide +kernel
theorem dX7_save_29 : decode mi_X7_save.2.1 29 = .ok (.iaload, 1) := by decide +kernel
theorem dX7_save_30 : decode mi_X7_save.2.1 30 = .ok (.iastore, 1) := by decide +kernel
theorem dX7_save_31 : decode mi_X7_save.2.1 31 = .ok (.iinc 1 1, 3) := by decide +kernel
theorem dX7_save_34 : decode mi_X7_save.2.1 34 = .ok (.goto (-24), 3) := by decide +kernel
theorem dX7_save_37 : decode mi_X7_save.2.1 37 = .ok (.aload_n 0, 1) := by decide +kernel
theorem dX7_save_38 : decode mi_X7_save.2.1 38 = .ok (.dup, 1) := by decide +kernel
theorem dX7_save_39 : decode mi_X7_save.2.1 39 = .ok (.getfield 105, 3) := by decide +kernel
theorem dX7_save_42 : decode mi_X7_save.2.1 42 = .ok (.iconst 1, 1) := by decide +kernel
theorem dX7_save_43 : decode mi_X7_save.2.1 43 = .ok (.isub, 1) := by decide +kernel
theorem dX7_save_44 : decode mi_X7_save.2.1 44 = .ok (.putfield 105, 3) := by decide +kernel
theorem dX7_save_47 : decode mi_X7_save.2.1 47 = .ok (.iconst 0, 1) := by decide +kernel
theorem dX7_save_48 : decode mi_X7_save.2.1 48 = .ok (.istore_n 1, 1) := by decide +kernel
theorem dX7_save_49 : decode mi_X7_save.2.1 49 = .ok (.iload_n 1, 1) := by decide +kernel
theorem dX7_save_50 : decode mi_X7_save.2.1 50 = .ok (.bipush 7, 2) := by decide +kernel
theorem dX7_save_52 : decode mi_X7_save.2.1 52 = .ok (.if_icmp .ge 29, 3) := by decide +kernel
theorem dX7_save_55 : decode mi_X7_save.2.1 55 = .ok (.aload_n 0, 1) := by decide +kernel
theorem dX7_save_56 : decode mi_X7_save.2.1 56 = .ok (.getfield 13, 3) := by decide +kernel
theorem dX7_save_59 : decode mi_X7_save.2.1 59 = .ok (.bipush 7, 2) := by decide +kernel
theorem dX7_save_61 : decode mi_X7_save.2.1 61 = .ok (.aload_n 0, 1) := by decide +kernel
theorem dX7_save_62 : decode mi_X7_save.2.1 62 = .ok (.getfield 105, 3) := by decide +kernel
theorem dX7_save_65 : decode mi_X7_save.2.1 65 = .ok (.imul, 1) := by decide +kernel
theorem dX7_save_66 : decode mi_X7_save.2.1 66 = .ok (.iload_n 1, 1) := by decide +kernel
theorem dX7_save_67 : decode mi_X7_save.2.1 67 = .ok (.iadd, 1) := by decide +kernel
theorem dX7_save_68 : decode mi_X7_save.2.1 68 = .ok (.aload_n 0, 1) := by decide +kernel
theorem dX7_save_69 : decode mi_X7_save.2.1 69 = .ok (.getfield 7, 3) := by decide +kernel
theorem dX7_save_72 : decode mi_X7_save.2.1 72 = .ok (.iload_n 1, 1) := by decide +kernel
theorem dX7_save_73 : decode mi_X7_save.2.1 73 = .ok (.iaload, 1) := by decide +kernel
theorem dX7_save_74 : decode mi_X7_save.2.1 74 = .ok (.iastore, 1) := by decide +kernel
theorem dX7_save_75 : decode mi_X7_save.2.1 75 = .ok (.iinc 1 1, 3) := by decide +kernel
theorem dX7_save_78 : decode mi_X7_save.2.1 78 = .ok (.goto (-29), 3) := by decide +kernel
theorem dX7_save_81 : decode mi_X7_save.2.1 81 = .ok (.aload_n 0, 1) := by decide +kernel
theorem dX7_save_82 : decode mi_X7_save.2.1 82 = .ok (.dup, 1) := by decide +kernel
theorem dX7_save_83 : decode mi_X7_save.2.1 83 = .ok (.getfield 105, 3) := by decide +kernel
theorem dX7_save_86 : decode mi_X7_save.2.1 86 = .ok (.iconst 1, 1) := by decide +kernel
theorem dX7_save_87 : decode mi_X7_save.2.1 87 = .ok (.iadd, 1) := by decide +kernel
theorem dX7_save_88 : decode mi_X7_save.2.1 88 = .ok (.putfield 105, 3) := by decide +kernel
theorem dX7_save_91 : decode mi_X7_save.2.1 91 = .ok (.return_, 1) := by decide +kernel
theorem dX7_undo_0 : decode mi_X7_undo.2.1 0 = .ok (.aload_n 0, 1) := by decide +kernel
theorem dX7_undo_1 : decode mi_X7_undo.2.1 1 = .ok (.getfield 105, 3) := by decide +kernel
theorem dX7_undo_4 : decode mi_X7_undo.2.1 4 = .ok (.ifCond .ne 6, 3) := by decide +kernel
theorem dX7_undo_7 : decode mi_X7_undo.2.1 7 = .ok (.bipush (-3), 2) := by decide +kernel
theorem dX7_undo_9 : decode mi_X7_undo.2.1 9 = .ok (.ireturn, 1) := by decide +kernel
theorem dX7_undo_10 : decode mi_X7_undo.2.1 10 = .ok (.aload_n 0, 1) := by decide +kernel
theorem dX7_undo_11 : decode mi_X7_undo.2.1 11 = .ok (.dup, 1) := by decide +kernel
theorem dX7_undo_12 : decode mi_X7_undo.2.1 12 = .ok (.getfield 105, 3) := by decide +kernel
theorem dX7_undo_15 : decode mi_X7_undo.2.1 15 = .ok (.iconst 1, 1) := by decide +kernel
theorem dX7_undo_16 : decode mi_X7_undo.2.1 16 = .ok (.isub, 1) := by decide +kernel
theorem dX7_undo_17 : decode mi_X7_undo.2.1 17 = .ok (.putfield 105, 3) := by decide +kernel
theorem dX7_undo_20 : decode mi_X7_undo.2.1 20 = .ok (.iconst 0, 1) := by decide +kernel
theorem dX7_undo_21 : decode mi_X7_undo.2.1 21 = .ok (.istore_n 1, 1) := by decide +kernel
theorem dX7_undo_22 : decode mi_X7_undo.2.1 22 = .ok (.iload_n 1, 1) := by decide +kernel
theorem dX7_undo_23 : decode mi_X7_undo.2.1 23 = .ok (.bipush 7, 2) := by decide +kernel
theorem dX7_undo_25 : decode mi_X7_undo.2.1 25 = .ok (.if_icmp .ge 29, 3) := by decide +kernel
theorem dX7_undo_28 : decode mi_X7_undo.2.1 28 = .ok (.aload_n 0, 1) := by decide +kernel
theorem dX7_undo_29 : decode mi_X7_undo.2.1 29 = .ok (.getfield 7, 3) := by decide +kernel
theorem dX7_undo_32 : decode mi_X7_undo.2.1 32 = .ok (.iload_n 1, 1) := by decide +kernel
theorem dX7_undo_33 : decode mi_X7_undo.2.1 33 = .ok (.aload_n 0, 1) := by decide +kernel
theorem dX7_undo_34 : decode mi_X7_undo.2.1 34 = .ok (.getfield 13, 3) := by decide +kernel
theorem dX7_undo_37 : decode mi_X7_undo.2.1 37 = .ok (.bipush 7, 2) := by decide +kernel
theorem dX7_undo_39 : decode mi_X7_undo.2.1 39 = .ok (.aload_n 0, 1) := by decide +kernel
theorem dX7_undo_40 : decode mi_X7_undo.2.1 40 = .ok (.getfield 105, 3) := by decide +kernel
theorem dX7_undo_43 : decode mi_X7_undo.2.1 43 = .ok (.imul, 1) := by decide +kernel
theorem dX7_undo_44 : decode mi_X7_undo.2.1 44 = .ok (.iload_n 1, 1) := by decide +kernel
theorem dX7_undo_45 : decode mi_X7_undo.2.1 45 = .ok (.iadd, 1) := by decide +kernel
theorem dX7_undo_46 : decode mi_X7_undo.2.1 46 = .ok (.iaload, 1) := by decide +kernel
theorem dX7_undo_47 : decode mi_X7_undo.2.1 47 = .ok (.iastore, 1) := by decide +kernel
theorem dX7_undo_48 : decode mi_X7_undo.2.1 48 = .ok (.iinc 1 1, 3) := by decide +kernel
theorem dX7_undo_51 : decode mi_X7_undo.2.1 51 = .ok (.goto (-29), 3) := by decide +kernel
theorem dX7_undo_54 : decode mi_X7_undo.2.1 54 = .ok (.aload_n 0, 1) := by decide +kernel
theorem dX7_undo_55 : decode mi_X7_undo.2.1 55 = .ok (.invokevirtual 29, 3) := by decide +kernel
theorem dX7_undo_58 : decode mi_X7_undo.2.1 58 = .ok (.aload_n 0, 1) := by decide +kernel
theorem dX7_undo_59 : decode mi_X7_undo.2.1 59 = .ok (.getfield 105, 3) := by decide +kernel
theorem dX7_undo_62 : decode mi_X7_undo.2.1 62 = .ok (.ireturn, 1) := by decide +kernel
theorem dX7_setLattice_0 : decode mi_X7_setLattice.2.1 0 = .ok (.iload_n 1, 1) := by decide +kernel
theorem dX7_setLattice_1 : decode mi_X7_setLattice.2.1 1 = .ok (.iconst 0, 1) := by decide +kernel
theorem dX7_setLattice_2 : decode mi_X7_setLattice.2.1 2 = .ok (.iconst 1, 1) := by decide +kernel
theorem dX7_setLattice_3 : decode mi_X7_setLattice.2.1 3 = .ok (.invokestatic 78, 3) := by decide +kernel
theorem dX7_setLattice_6 : decode mi_X7_setLattice.2.1 6 = .ok (.ifCond .eq 12, 3) := by decide +kernel
theorem dX7_setLattice_9 : decode mi_X7_setLattice.2.1 9 = .ok (.iload_n 2, 1) := by decide +kernel
theorem dX7_setLattice_10 : decode mi_X7_setLattice.2.1 10 = .ok (.iconst 1, 1) := by decide +kernel
theorem dX7_setLattice_11 : decode mi_X7_setLattice.2.1 11 = .ok (.iconst 5, 1) := by decide +kernel
theorem dX7_setLattice_12 : decode mi_X7_setLattice.2.1 12 = .ok (.invokestatic 78, 3) := by decide +kernel
theorem dX7_setLattice_15 : decode mi_X7_setLattice.2.1 15 = .ok (.ifCond .ne 5, 3) := by decide +kernel
theorem dX7_setLattice_18 : decode mi_X7_setLattice.2.1 18 = .ok (.iconst (-1), 1) := by decide +kernel
theorem dX7_setLattice_19 : decode mi_X7_setLattice.2.1 19 = .ok (.ireturn, 1) := by decide +kernel
theorem dX7_setLattice_20 : decode mi_X7_setLattice.2.1 20 = .ok (.aload_n 0, 1) := by decide +kernel
theorem dX7_setLattice_21 : decode mi_X7_setLattice.2.1 21 = .ok (.invokevirtual 108, 3) := by decide +kernel
theorem dX7_setLattice_24 : decode mi_X7_setLattice.2.1 24 = .ok (.aload_n 0, 1) := by decide +kernel
theorem dX7_setLattice_25 : decode mi_X7_setLattice.2.1 25 = .ok (.getfield 7, 3) := by decide +kernel
theorem dX7_setLattice_28 : decode mi_X7_setLattice.2.1 28 = .ok (.iconst 1, 1) := by decide +kernel
theorem dX7_setLattice_29 : decode mi_X7_setLattice.2.1 29 = .ok (.iaload, 1) := by decide +kernel
theorem dX7_setLattice_30 : decode mi_X7_setLattice.2.1 30 = .ok (.istore_n 3, 1) := by decide +kernel
theorem dX7_setLattice_31 : decode mi_X7_setLattice.2.1 31 = .ok (.aload_n 0, 1) := by decide +kernel
theorem dX7_setLattice_32 : decode mi_X7_setLattice.2.1 32 = .ok (.getfield 7, 3) := by decide +kernel
theorem dX7_setLattice_35 : decode mi_X7_setLattice.2.1 35 = .ok (.iconst 0, 1) := by decide +kernel
theorem dX7_setLattice_36 : decode mi_X7_setLattice.2.1 36 = .ok (.iload_n 1, 1) := by decide +kernel
theorem dX7_setLattice_37 : decode mi_X7_setLattice.2.1 37 = .ok (.iastore, 1) := by decide +kernel
theorem dX7_setLattice_38 : decode mi_X7_setLattice.2.1 38 = .ok (.aload_n 0, 1) := by decide +kernel
theorem dX7_setLattice_39 : decode mi_X7_setLattice.2.1 39 = .ok (.getfield 7, 3) := by decide +kernel
theorem dX7_setLattice_42 : decode mi_X7_setLattice.2.1 42 = .ok (.iconst 1, 1) := by decide +kernel
theorem dX7_setLattice_43 : decode mi_X7_setLattice.2.1 43 = .ok (.iload_n 2, 1) := by decide +kernel
theorem dX7_setLattice_44 : decode mi_X7_setLattice.2.1 44 = .ok (.iastore, 1) := by decide +kernel
theorem dX7_setLattice_45 : decode mi_X7_setLattice.2.1 45 = .ok (.aload_n 0, 1) := by decide +kernel
theorem dX7_setLattice_46 : decode mi_X7_setLattice.2.1 46 = .ok (.getfield 7, 3) := by decide +kernel
theorem dX7_setLattice_49 : decode mi_X7_setLattice.2.1 49 = .ok (.iconst 2, 1) := by decide +kernel
theorem dX7_setLattice_50 : decode mi_X7_setLattice.2.1 50 = .ok (.iconst 0, 1) := by decide +kernel
theorem dX7_setLattice_51 : decode mi_X7_setLattice.2.1 51 = .ok (.iastore, 1) := by decide +kernel
theorem dX7_setLattice_52 : decode mi_X7_setLattice.2.1 52 = .ok (.aload_n 0, 1) := by decide +kernel
theorem dX7_setLattice_53 : decode mi_X7_setLattice.2.1 53 = .ok (.invokevirtual 29, 3) := by decide +kernel
theorem dX7_setLattice_56 : decode mi_X7_setLattice.2.1 56 = .ok (.iload_n 3, 1) := by decide +kernel
theorem dX7_setLattice_57 : decode mi_X7_setLattice.2.1 57 = .ok (.ireturn, 1) := by decide +kernel
theorem dX7_isMovement_0 : decode mi_X7_isMovement.2.1 0 = .ok (.iload_n 1, 1) := by decide +kernel
theorem dX7_isMovement_1 : decode mi_X7_isMovement.2.1 1 = .ok (.iconst 0, 1) := by decide +kernel
theorem dX7_isMovement_2 : decode mi_X7_isMovement.2.1 2 = .ok (.aload_n 0, 1) := by decide +kernel
theorem dX7_isMovement_3 : decode mi_X7_isMovement.2.1 3 = .ok (.getfield 36, 3) := by decide +kernel
theorem dX7_isMovement_6 : decode mi_X7_isMovement.2.1 6 = .ok (.iconst 1, 1) := by decide +kernel
theorem dX7_isMovement_7 : decode mi_X7_isMovement.2.1 7 = .ok (.isub, 1) := by decide +kernel
theorem dX7_isMovement_8 : decode mi_X7_isMovement.2.1 8 = .ok (.invokestatic 78, 3) := by decide +kernel
theorem dX7_isMovement_11 : decode mi_X7_isMovement.2.1 11 = .ok (.ifCond .eq 39, 3) := by decide +kernel
theorem dX7_isMovement_14 : decode mi_X7_isMovement.2.1 14 = .ok (.iload_n 2, 1) := by decide +kernel
theorem dX7_isMovement_15 : decode mi_X7_isMovement.2.1 15 = .ok (.iconst 0, 1) := by decide +kernel
theorem dX7_isMovement_16 : decode mi_X7_isMovement.2.1 16 = .ok (.aload_n 0, 1) := by decide +kernel
theorem dX7_isMovement_17 : decode mi_X7_isMovement.2.1 17 = .ok (.getfield 7, 3) := by decide +kernel
theorem dX7_isMovement_20 : decode mi_X7_isMovement.2.1 20 = .ok (.iconst 1, 1) := by decide +kernel
theorem dX7_isMovement_21 : decode mi_X7_isMovement.2.1 21 = .ok (.iaload, 1) := by decide +kernel
theorem dX7_isMovement_22 : decode mi_X7_isMovement.2.1 22 = .ok (.iconst 1, 1) := by decide +kernel
theorem dX7_isMovement_23 : decode mi_X7_isMovement.2.1 23 = .ok (.isub, 1) := by decide +kernel
theorem dX7_isMovement_24 : decode mi_X7_isMovement.2.1 24 = .ok (.invokestatic 78, 3) := by decide +kernel
theorem dX7_isMovement_27 : decode mi_X7_isMovement.2.1 27 = .ok (.ifCond .eq 23, 3) := by decide +kernel
theorem dX7_isMovement_30 : decode mi_X7_isMovement.2.1 30 = .ok (.iload_n 3, 1) := by decide +kernel
theorem dX7_isMovement_31 : decode mi_X7_isMovement.2.1 31 = .ok (.iconst 0, 1) := by decide +kernel
theorem dX7_isMovement_32 : decode mi_X7_isMovement.2.1 32 = .ok (.aload_n 0, 1) := by decide +kernel
theorem dX7_isMovement_33 : decode mi_X7_isMovement.2.1 33 = .ok (.getfield 7, 3) := by decide +kernel
theorem dX7_isMovement_36 : decode mi_X7_isMovement.2.1 36 = .ok (.iconst 1, 1) := by decide +kernel
theorem dX7_isMovement_37 : decode mi_X7_isMovement.2.1 37 = .ok (.iaload, 1) := by decide +kernel
theorem dX7_isMovement_38 : decode mi_X7_isMovement.2.1 38 = .ok (.iconst 1, 1) := by decide +kernel
theorem dX7_isMovement_39 : decode mi_X7_isMovement.2.1 39 = .ok (.isub, 1) := by decide +kernel
theorem dX7_isMovement_40 : decode mi_X7_isMovement.2.1 40 = .ok (.invokestatic 78, 3) := by decide +kernel
theorem dX7_isMovement_43 : decode mi_X7_isMovement.2.1 43 = .ok (.ifCond .eq 7, 3) := by decide +kernel
theorem dX7_isMovement_46 : decode mi_X7_isMovement.2.1 46 = .ok (.iconst 1, 1) := by decide +kernel
theorem dX7_isMovement_47 : decode mi_X7_isMovement.2.1 47 = .ok (.goto 4, 3) := by decide +kernel
theorem dX7_isMovement_50 : decode mi_X7_isMovement.2.1 50 = .ok (.iconst 0, 1) := by decide +kernel
theorem dX7_isMovement_51 : decode mi_X7_isMovement.2.1 51 = .ok (.ireturn, 1) := by decide +kernel
theorem dX7_isGenerator_0 : decode mi_X7_isGenerator.2.1 0 = .ok (.iload_n 1, 1) := by decide +kernel
theorem dX7_isGenerator_1 : decode mi_X7_isGenerator.2.1 1 = .ok (.iconst 0, 1) := by decide +kernel
theorem dX7_isGenerator_2 : decode mi_X7_isGenerator.2.1 2 = .ok (.aload_n 0, 1) := by decide +kernel
theorem dX7_isGenerator_3 : decode mi_X7_isGenerator.2.1 3 = .ok (.getfield 7, 3) := by decide +kernel
theorem dX7_isGenerator_6 : decode mi_X7_isGenerator.2.1 6 = .ok (.iconst 2, 1) := by decide +kernel
theorem dX7_isGenerator_7 : decode mi_X7_isGenerator.2.1 7 = .ok (.iaload, 1) := by decide +kernel
theorem dX7_isGenerator_8 : decode mi_X7_isGenerator.2.1 8 = .ok (.iconst 1, 1) := by decide +kernel
theorem dX7_isGenerator_9 : decode mi_X7_isGenerator.2.1 9 = .ok (.isub, 1) := by decide +kernel
theorem dX7_isGenerator_10 : decode mi_X7_isGenerator.2.1 10 = .ok (.invokestatic 78, 3) := by decide +kernel
theorem dX7_isGenerator_13 : decode mi_X7_isGenerator.2.1 13 = .ok (.ireturn, 1) := by decide +kernel
theorem dX7_addGenerator_0 : decode mi_X7_addGenerator.2.1 0 = .ok (.aload_n 0, 1) := by decide +kernel
theorem dX7_addGenerator_1 : decode mi_X7_addGenerator.2.1 1 = .ok (.iload_n 1, 1) := by decide +kernel
theorem dX7_addGenerator_2 : decode mi_X7_addGenerator.2.1 2 = .ok (.iload_n 2, 1) := by decide +kernel
theorem dX7_addGenerator_3 : decode mi_X7_addGenerator.2.1 3 = .ok (.iload_n 3, 1) := by decide +kernel
theorem dX7_addGenerator_4 : decode mi_X7_addGenerator.2.1 4 = .ok (.invokevirtual 111, 3) := by decide +kernel
theorem dX7_addGenerator_7 : decode mi_X7_addGenerator.2.1 7 = .ok (.ifCond .ne 5, 3) := by decide +kernel
theorem dX7_addGenerator_10 : decode mi_X7_addGenerator.2.1 10 = .ok (.iconst (-1), 1) := by decide +kernel
theorem dX7_addGenerator_11 : decode mi_X7_addGenerator.2.1 11 = .ok (.ireturn, 1) := by decide +kernel
theorem dX7_addGenerator_12 : decode mi_X7_addGenerator.2.1 12 = .ok (.aload_n 0, 1) := by decide +kernel
theorem dX7_addGenerator_13 : decode mi_X7_addGenerator.2.1 13 = .ok (.getfield 7, 3) := by decide +kernel
theorem dX7_addGenerator_16 : decode mi_X7_addGenerator.2.1 16 = .ok (.iconst 2, 1) := by decide +kernel
theorem dX7_addGenerator_17 : decode mi_X7_addGenerator.2.1 17 = .ok (.iaload, 1) := by decide +kernel
theorem dX7_addGenerator_18 : decode mi_X7_addGenerator.2.1 18 = .ok (.iconst 4, 1) := by decide +kernel
theorem dX7_addGenerator_19 : decode mi_X7_addGenerator.2.1 19 = .ok (.if_icmp .ne 6, 3) := by decide +kernel
theorem dX7_addGenerator_22 : decode mi_X7_addGenerator.2.1 22 = .ok (.bipush (-2), 2) := by decide +kernel
theorem dX7_addGenerator_24 : decode mi_X7_addGenerator.2.1 24 = .ok (.ireturn, 1) := by decide +kernel
theorem dX7_addGenerator_25 : decode mi_X7_addGenerator.2.1 25 = .ok (.aload_n 0, 1) := by decide +kernel
theorem dX7_addGenerator_26 : decode mi_X7_addGenerator.2.1 26 = .ok (.invokevirtual 108, 3) := by decide +kernel
theorem dX7_addGenerator_29 : decode mi_X7_addGenerator.2.1 29 = .ok (.aload_n 0, 1) := by decide +kernel
theorem dX7_addGenerator_30 : decode mi_X7_addGenerator.2.1 30 = .ok (.getfield 7, 3) := by decide +kernel
theorem dX7_addGenerator_33 : decode mi_X7_addGenerator.2.1 33 = .ok (.iconst 3, 1) := by decide +kernel
theorem dX7_addGenerator_34 : decode mi_X7_addGenerator.2.1 34 = .ok (.aload_n 0, 1) := by decide +kernel
theorem dX7_addGenerator_35 : decode mi_X7_addGenerator.2.1 35 = .ok (.getfield 7, 3) := by decide +kernel
theorem dX7_addGenerator_38 : decode mi_X7_addGenerator.2.1 38 = .ok (.iconst 2, 1) := by decide +kernel
theorem dX7_addGenerator_39 : decode mi_X7_addGenerator.2.1 39 = .ok (.iaload, 1) := by decide +kernel
theorem dX7_addGenerator_40 : decode mi_X7_addGenerator.2.1 40 = .ok (.iadd, 1) := by decide +kernel
theorem dX7_addGenerator_41 : decode mi_X7_addGenerator.2.1 41 = .ok (.aload_n 0, 1) := by decide +kernel
theorem dX7_addGenerator_42 : decode mi_X7_addGenerator.2.1 42 = .ok (.iload_n 1, 1) := by decide +kernel
theorem dX7_addGenerator_43 : decode mi_X7_addGenerator.2.1 43 = .ok (.iload_n 2, 1) := by decide +kernel
theorem dX7_addGenerator_44 : decode mi_X7_addGenerator.2.1 44 = .ok (.iload_n 3, 1) := by decide +kernel
theorem dX7_addGenerator_45 : decode mi_X7_addGenerator.2.1 45 = .ok (.invokevirtual 75, 3) := by decide +kernel
theorem dX7_addGenerator_48 : decode mi_X7_addGenerator.2.1 48 = .ok (.iastore, 1) := by decide +kernel
theorem dX7_addGenerator_49 : decode mi_X7_addGenerator.2.1 49 = .ok (.aload_n 0, 1) := by decide +kernel
theorem dX7_addGenerator_50 : decode mi_X7_addGenerator.2.1 50 = .ok (.getfield 7, 3) := by decide +kernel
theorem dX7_addGenerator_53 : decode mi_X7_addGenerator.2.1 53 = .ok (.iconst 2, 1) := by decide +kernel
theorem dX7_addGenerator_54 : decode mi_X7_addGenerator.2.1 54 = .ok (.dup2, 1) := by decide +kernel
theorem dX7_addGenerator_55 : decode mi_X7_addGenerator.2.1 55 = .ok (.iaload, 1) := by decide +kernel
theorem dX7_addGenerator_56 : decode mi_X7_addGenerator.2.1 56 = .ok (.iconst 1, 1) := by decide +kernel
theorem dX7_addGenerator_57 : decode mi_X7_addGenerator.2.1 57 = .ok (.iadd, 1) := by decide +kernel
theorem dX7_addGenerator_58 : decode mi_X7_addGenerator.2.1 58 = .ok (.iastore, 1) := by decide +kernel
theorem dX7_addGenerator_59 : decode mi_X7_addGenerator.2.1 59 = .ok (.aload_n 0, 1) := by decide +kernel
theorem dX7_addGenerator_60 : decode mi_X7_addGenerator.2.1 60 = .ok (.invokevirtual 29, 3) := by decide +kernel
theorem dX7_addGenerator_63 : decode mi_X7_addGenerator.2.1 63 = .ok (.aload_n 0, 1) := by decide +kernel
theorem dX7_addGenerator_64 : decode mi_X7_addGenerator.2.1 64 = .ok (.getfield 92, 3) := by decide +kernel
theorem dX7_addGenerator_67 : decode mi_X7_addGenerator.2.1 67 = .ok (.ireturn, 1) := by decide +kernel
theorem dX7_removeGenerator_0 : decode mi_X7_removeGenerator.2.1 0 = .ok (.aload_n 0, 1) := by decide +kernel
theorem dX7_removeGenerator_1 : decode mi_X7_removeGenerator.2.1 1 = .ok (.iload_n 1, 1) := by decide +kernel
theorem dX7_removeGenerator_2 : decode mi_X7_removeGenerator.2.1 2 = .ok (.invokevirtual 114, 3) := by decide +kernel
theorem dX7_removeGenerator_5 : decode mi_X7_removeGenerator.2.1 5 = .ok (.ifCond .ne 5, 3) := by decide +kernel
theorem dX7_removeGenerator_8 : decode mi_X7_removeGenerator.2.1 8 = .ok (.iconst (-1), 1) := by decide +kernel
theorem dX7_removeGenerator_9 : decode mi_X7_removeGenerator.2.1 9 = .ok (.ireturn, 1) := by decide +kernel
theorem dX7_removeGenerator_10 : decode mi_X7_removeGenerator.2.1 10 = .ok (.aload_n 0, 1) := by decide +kernel
theorem dX7_removeGenerator_11 : decode mi_X7_removeGenerator.2.1 11 = .ok (.invokevirtual 108, 3) := by decide +kernel
theorem dX7_removeGenerator_14 : decode mi_X7_removeGenerator.2.1 14 = .ok (.aload_n 0, 1) := by decide +kernel
theorem dX7_removeGenerator_15 : decode mi_X7_removeGenerator.2.1 15 = .ok (.getfield 7, 3) := by decide +kernel
theorem dX7_removeGenerator_18 : decode mi_X7_removeGenerator.2.1 18 = .ok (.iconst 2, 1) := by decide +kernel
theorem dX7_removeGenerator_19 : decode mi_X7_removeGenerator.2.1 19 = .ok (.dup2, 1) := by decide +kernel
theorem dX7_removeGenerator_20 : decode mi_X7_removeGenerator.2.1 20 = .ok (.iaload, 1) := by decide +kernel
theorem dX7_removeGenerator_21 : decode mi_X7_removeGenerator.2.1 21 = .ok (.iconst 1, 1) := by decide +kernel
theorem dX7_removeGenerator_22 : decode mi_X7_removeGenerator.2.1 22 = .ok (.isub, 1) := by decide +kernel
theorem dX7_removeGenerator_23 : decode mi_X7_removeGenerator.2.1 23 = .ok (.iastore, 1) := by decide +kernel
theorem dX7_removeGenerator_24 : decode mi_X7_removeGenerator.2.1 24 = .ok (.iload_n 1, 1) := by decide +kernel
theorem dX7_removeGenerator_25 : decode mi_X7_removeGenerator.2.1 25 = .ok (.istore_n 2, 1) := by decide +kernel
theorem dX7_removeGenerator_26 : decode mi_X7_removeGenerator.2.1 26 = .ok (.iload_n 2, 1) := by decide +kernel
theorem dX7_removeGenerator_27 : decode mi_X7_removeGenerator.2.1 27 = .ok (.aload_n 0, 1) := by decide +kernel
theorem dX7_removeGenerator_28 : decode mi_X7_removeGenerator.2.1 28 = .ok (.getfield 7, 3) := by decide +kernel
theorem dX7_removeGenerator_31 : decode mi_X7_removeGenerator.2.1 31 = .ok (.iconst 2, 1) := by decide +kernel
theorem dX7_removeGenerator_32 : decode mi_X7_removeGenerator.2.1 32 = .ok (.iaload, 1) := by decide +kernel
theorem dX7_removeGenerator_33 : decode mi_X7_removeGenerator.2.1 33 = .ok (.if_icmp .ge 27, 3) := by decide +kernel
theorem dX7_removeGenerator_36 : decode mi_X7_removeGenerator.2.1 36 = .ok (.aload_n 0, 1) := by decide +kernel
theorem dX7_removeGenerator_37 : decode mi_X7_removeGenerator.2.1 37 = .ok (.getfield 7, 3) := by decide +kernel
theorem dX7_removeGenerator_40 : decode mi_X7_removeGenerator.2.1 40 = .ok (.iconst 3, 1) := by decide +kernel
theorem dX7_removeGenerator_41 : decode mi_X7_removeGenerator.2.1 41 = .ok (.iload_n 2, 1) := by decide +kernel
theorem dX7_removeGenerator_42 : decode mi_X7_removeGenerator.2.1 42 = .ok (.iadd, 1) := by decide +kernel
theorem dX7_removeGenerator_43 : decode mi_X7_removeGenerator.2.1 43 = .ok (.aload_n 0, 1) := by decide +kernel
theorem dX7_removeGenerator_44 : decode mi_X7_removeGenerator.2.1 44 = .ok (.getfield 7, 3) := by decide +kernel
theorem dX7_removeGenerator_47 : decode mi_X7_removeGenerator.2.1 47 = .ok (.iconst 3, 1) := by decide +kernel
theorem dX7_removeGenerator_48 : decode mi_X7_removeGenerator.2.1 48 = .ok (.iload_n 2, 1) := by decide +kernel
theorem dX7_removeGenerator_49 : decode mi_X7_removeGenerator.2.1 49 = .ok (.iadd, 1) := by decide +kernel
theorem dX7_removeGenerator_50 : decode mi_X7_removeGenerator.2.1 50 = .ok (.iconst 1, 1) := by decide +kernel
theorem dX7_removeGenerator_51 : decode mi_X7_removeGenerator.2.1 51 = .ok (.iadd, 1) := by decide +kernel
theorem dX7_removeGenerator_52 : decode mi_X7_removeGenerator.2.1 52 = .ok (.iaload, 1) := by decide +kernel
theorem dX7_removeGenerator_53 : decode mi_X7_removeGenerator.2.1 53 = .ok (.iastore, 1) := by decide +kernel
theorem dX7_removeGenerator_54 : decode mi_X7_removeGenerator.2.1 54 = .ok (.iinc 2 1, 3) := by decide +kernel
theorem dX7_removeGenerator_57 : decode mi_X7_removeGenerator.2.1 57 = .ok (.goto (-31), 3) := by decide +kernel
theorem dX7_removeGenerator_60 : decode mi_X7_removeGenerator.2.1 60 = .ok (.aload_n 0, 1) := by decide +kernel
theorem dX7_removeGenerator_61 : decode mi_X7_removeGenerator.2.1 61 = .ok (.invokevirtual 29, 3) := by decide +kernel
theorem dX7_removeGenerator_64 : decode mi_X7_removeGenerator.2.1 64 = .ok (.aload_n 0, 1) := by decide +kernel
theorem dX7_removeGenerator_65 : decode mi_X7_removeGenerator.2.1 65 = .ok (.getfield 92, 3) := by decide +kernel
theorem dX7_removeGenerator_68 : decode mi_X7_removeGenerator.2.1 68 = .ok (.ireturn, 1) := by decide +kernel
theorem dX7_setGenerator_0 : decode mi_X7_setGenerator.2.1 0 = .ok (.aload_n 0, 1) := by decide +kernel
theorem dX7_setGenerator_1 : decode mi_X7_setGenerator.2.1 1 = .ok (.iload_n 1, 1) := by decide +kernel
theorem dX7_setGenerator_2 : decode mi_X7_setGenerator.2.1 2 = .ok (.invokevirtual 114, 3) := by decide +kernel
theorem dX7_setGenerator_5 : decode mi_X7_setGenerator.2.1 5 = .ok (.ifCond .eq 14, 3) := by decide +kernel
theorem dX7_setGenerator_8 : decode mi_X7_setGenerator.2.1 8 = .ok (.aload_n 0, 1) := by decide +kernel
theorem dX7_setGenerator_9 : decode mi_X7_setGenerator.2.1 9 = .ok (.iload_n 2, 1) := by decide +kernel
theorem dX7_setGenerator_10 : decode mi_X7_setGenerator.2.1 10 = .ok (.iload_n 3, 1) := by decide +kernel
theorem dX7_setGenerator_11 : decode mi_X7_setGenerator.2.1 11 = .ok (.iload 4, 2) := by decide +kernel
theorem dX7_setGenerator_13 : decode mi_X7_setGenerator.2.1 13 = .ok (.invokevirtual 111, 3) := by decide +kernel
theorem dX7_setGenerator_16 : decode mi_X7_setGenerator.2.1 16 = .ok (.ifCond .ne 5, 3) := by decide +kernel
theorem dX7_setGenerator_19 : decode mi_X7_setGenerator.2.1 19 = .ok (.iconst (-1), 1) := by decide +kernel
theorem dX7_setGenerator_20 : decode mi_X7_setGenerator.2.1 20 = .ok (.ireturn, 1) := by decide +kernel
theorem dX7_setGenerator_21 : decode mi_X7_setGenerator.2.1 21 = .ok (.aload_n 0, 1) := by decide +kernel
theorem dX7_setGenerator_22 : decode mi_X7_setGenerator.2.1 22 = .ok (.invokevirtual 108, 3) := by decide +kernel
theorem dX7_setGenerator_25 : decode mi_X7_setGenerator.2.1 25 = .ok (.aload_n 0, 1) := by decide +kernel
theorem dX7_setGenerator_26 : decode mi_X7_setGenerator.2.1 26 = .ok (.getfield 7, 3) := by decide +kernel
theorem dX7_setGenerator_29 : decode mi_X7_setGenerator.2.1 29 = .ok (.iconst 3, 1) := by decide +kernel
theorem dX7_setGenerator_30 : decode mi_X7_setGenerator.2.1 30 = .ok (.iload_n 1, 1) := by decide +kernel
theorem dX7_setGenerator_31 : decode mi_X7_setGenerator.2.1 31 = .ok (.iadd, 1) := by decide +kernel
theorem dX7_setGenerator_32 : decode mi_X7_setGenerator.2.1 32 = .ok (.iaload, 1) := by decide +kernel
theorem dX7_setGenerator_33 : decode mi_X7_setGenerator.2.1 33 = .ok (.istore 5, 2) := by decide +kernel
theorem dX7_setGenerator_35 : decode mi_X7_setGenerator.2.1 35 = .ok (.aload_n 0, 1) := by decide +kernel
theorem dX7_setGenerator_36 : decode mi_X7_setGenerator.2.1 36 = .ok (.getfield 7, 3) := by decide +kernel
theorem dX7_setGenerator_39 : decode mi_X7_setGenerator.2.1 39 = .ok (.iconst 3, 1) := by decide +kernel
theorem dX7_setGenerator_40 : decode mi_X7_setGenerator.2.1 40 = .ok (.iload_n 1, 1) := by decide +kernel
theorem dX7_setGenerator_41 : decode mi_X7_setGenerator.2.1 41 = .ok (.iadd, 1) := by decide +kernel
theorem dX7_setGenerator_42 : decode mi_X7_setGenerator.2.1 42 = .ok (.aload_n 0, 1) := by decide +kernel
theorem dX7_setGenerator_43 : decode mi_X7_setGenerator.2.1 43 = .ok (.iload_n 2, 1) := by decide +kernel
theorem dX7_setGenerator_44 : decode mi_X7_setGenerator.2.1 44 = .ok (.iload_n 3, 1) := by decide +kernel
theorem dX7_setGenerator_45 : decode mi_X7_setGenerator.2.1 45 = .ok (.iload 4, 2) := by decide +kernel
theorem dX7_setGenerator_47 : decode mi_X7_setGenerator.2.1 47 = .ok (.invokevirtual 75, 3) := by decide +kernel
theorem dX7_setGenerator_50 : decode mi_X7_setGenerator.2.1 50 = .ok (.iastore, 1) := by decide +kernel
theorem dX7_setGenerator_51 : decode mi_X7_setGenerator.2.1 51 = .ok (.aload_n 0, 1) := by decide +kernel
theorem dX7_setGenerator_52 : decode mi_X7_setGenerator.2.1 52 = .ok (.invokevirtual 29, 3) := by decide +kernel
theorem dX7_setGenerator_55 : decode mi_X7_setGenerator.2.1 55 = .ok (.iload 5, 2) := by decide +kernel
theorem dX7_setGenerator_57 : decode mi_X7_setGenerator.2.1 57 = .ok (.ireturn, 1) := by decide +kernel
theorem dX7_generator_0 : decode mi_X7_generator.2.1 0 = .ok (.iload_n 1, 1) := by decide +kernel
theorem dX7_generator_1 : decode mi_X7_generator.2.1 1 = .ok (.ifCond .ge 7, 3) := by decide +kernel
theorem dX7_generator_4 : decode mi_X7_generator.2.1 4 = .ok (.iconst (-1), 1) := by decide +kernel
theorem dX7_generator_5 : decode mi_X7_generator.2.1 5 = .ok (.goto 26, 3) := by decide +kernel
theorem dX7_generator_8 : decode mi_X7_generator.2.1 8 = .ok (.iload_n 1, 1) := by decide +kernel
theorem dX7_generator_9 : decode mi_X7_generator.2.1 9 = .ok (.aload_n 0, 1) := by decide +kernel
theorem dX7_generator_10 : decode mi_X7_generator.2.1 10 = .ok (.getfield 7, 3) := by decide +kernel
theorem dX7_generator_13 : decode mi_X7_generator.2.1 13 = .ok (.iconst 2, 1) := by decide +kernel
theorem dX7_generator_14 : decode mi_X7_generator.2.1 14 = .ok (.iaload, 1) := by decide +kernel
theorem dX7_generator_15 : decode mi_X7_generator.2.1 15 = .ok (.if_icmp .ge 14, 3) := by decide +kernel
theorem dX7_generator_18 : decode mi_X7_generator.2.1 18 = .ok (.aload_n 0, 1) := by decide +kernel
theorem dX7_generator_19 : decode mi_X7_generator.2.1 19 = .ok (.getfield 7, 3) := by decide +kernel
theorem dX7_generator_22 : decode mi_X7_generator.2.1 22 = .ok (.iconst 3, 1) := by decide +kernel
theorem dX7_generator_23 : decode mi_X7_generator.2.1 23 = .ok (.iload_n 1, 1) := by decide +kernel
theorem dX7_generator_24 : decode mi_X7_generator.2.1 24 = .ok (.iadd, 1) := by decide +kernel
theorem dX7_generator_25 : decode mi_X7_generator.2.1 25 = .ok (.iaload, 1) := by decide +kernel
theorem dX7_generator_26 : decode mi_X7_generator.2.1 26 = .ok (.goto 5, 3) := by decide +kernel
theorem dX7_generator_29 : decode mi_X7_generator.2.1 29 = .ok (.bipush (-3), 2) := by decide +kernel
theorem dX7_generator_31 : decode mi_X7_generator.2.1 31 = .ok (.ireturn, 1) := by decide +kernel
theorem dX7_order_0 : decode mi_X7_order.2.1 0 = .ok (.aload_n 0, 1) := by decide +kernel
theorem dX7_order_1 : decode mi_X7_order.2.1 1 = .ok (.getfield 92, 3) := by decide +kernel
theorem dX7_order_4 : decode mi_X7_order.2.1 4 = .ok (.ireturn, 1) := by decide +kernel
theorem dX7_element_0 : decode mi_X7_element.2.1 0 = .ok (.iload_n 1, 1) := by decide +kernel
theorem dX7_element_1 : decode mi_X7_element.2.1 1 = .ok (.ifCond .ge 5, 3) := by decide +kernel
theorem dX7_element_4 : decode mi_X7_element.2.1 4 = .ok (.iconst (-1), 1) := by decide +kernel
theorem dX7_element_5 : decode mi_X7_element.2.1 5 = .ok (.ireturn, 1) := by decide +kernel
theorem dX7_element_6 : decode mi_X7_element.2.1 6 = .ok (.iload_n 1, 1) := by decide +kernel
theorem dX7_element_7 : decode mi_X7_element.2.1 7 = .ok (.istore_n 2, 1) := by decide +kernel
theorem dX7_element_8 : decode mi_X7_element.2.1 8 = .ok (.iconst 0, 1) := by decide +kernel
theorem dX7_element_9 : decode mi_X7_element.2.1 9 = .ok (.istore_n 3, 1) := by decide +kernel
theorem dX7_element_10 : decode mi_X7_element.2.1 10 = .ok (.iload_n 3, 1) := by decide +kernel
theorem dX7_element_11 : decode mi_X7_element.2.1 11 = .ok (.aload_n 0, 1) := by decide +kernel
theorem dX7_element_12 : decode mi_X7_element.2.1 12 = .ok (.getfield 36, 3) := by decide +kernel
theorem dX7_element_15 : decode mi_X7_element.2.1 15 = .ok (.aload_n 0, 1) := by decide +kernel
theorem dX7_element_16 : decode mi_X7_element.2.1 16 = .ok (.invokevirtual 51, 3) := by decide +kernel
theorem dX7_element_19 : decode mi_X7_element.2.1 19 = .ok (.imul, 1) := by decide +kernel
theorem dX7_element_20 : decode mi_X7_element.2.1 20 = .ok (.if_icmp .ge 27, 3) := by decide +kernel
theorem dX7_element_23 : decode mi_X7_element.2.1 23 = .ok (.aload_n 0, 1) := by decide +kernel
theorem dX7_element_24 : decode mi_X7_element.2.1 24 = .ok (.getfield 22, 3) := by decide +kernel
theorem dX7_element_27 : decode mi_X7_element.2.1 27 = .ok (.iload_n 3, 1) := by decide +kernel
theorem dX7_element_28 : decode mi_X7_element.2.1 28 = .ok (.baload, 1) := by decide +kernel
theorem dX7_element_29 : decode mi_X7_element.2.1 29 = .ok (.ifCond .eq 12, 3) := by decide +kernel
theorem dX7_element_32 : decode mi_X7_element.2.1 32 = .ok (.iload_n 2, 1) := by decide +kernel
theorem dX7_element_33 : decode mi_X7_element.2.1 33 = .ok (.ifCond .ne 5, 3) := by decide +kernel
theorem dX7_element_36 : decode mi_X7_element.2.1 36 = .ok (.iload_n 3, 1) := by decide +kernel
theorem dX7_element_37 : decode mi_X7_element.2.1 37 = .ok (.ireturn, 1) := by decide +kernel
theorem dX7_element_38 : decode mi_X7_element.2.1 38 = .ok (.iinc 2 (-1), 3) := by decide +kernel
theorem dX7_element_41 : decode mi_X7_element.2.1 41 = .ok (.iinc 3 1, 3) := by decide +kernel
theorem dX7_element_44 : decode mi_X7_element.2.1 44 = .ok (.goto (-34), 3) := by decide +kernel
theorem dX7_element_47 : decode mi_X7_element.2.1 47 = .ok (.bipush (-3), 2) := by decide +kernel
theorem dX7_element_49 : decode mi_X7_element.2.1 49 = .ok (.ireturn, 1) := by decide +kernel
theorem dX7_contains_0 : decode mi_X7_contains.2.1 0 = .ok (.aload_n 0, 1) := by decide +kernel
theorem dX7_contains_1 : decode mi_X7_contains.2.1 1 = .ok (.iload_n 1, 1) := by decide +kernel
theorem dX7_contains_2 : decode mi_X7_contains.2.1 2 = .ok (.invokevirtual 117, 3) := by decide +kernel
theorem dX7_contains_5 : decode mi_X7_contains.2.1 5 = .ok (.ifCond .ne 7, 3) := by decide +kernel
theorem dX7_contains_8 : decode mi_X7_contains.2.1 8 = .ok (.iconst (-1), 1) := by decide +kernel
theorem dX7_contains_9 : decode mi_X7_contains.2.1 9 = .ok (.goto 17, 3) := by decide +kernel
theorem dX7_contains_12 : decode mi_X7_contains.2.1 12 = .ok (.aload_n 0, 1) := by decide +kernel
theorem dX7_contains_13 : decode mi_X7_contains.2.1 13 = .ok (.getfield 22, 3) := by decide +kernel
theorem dX7_contains_16 : decode mi_X7_contains.2.1 16 = .ok (.iload_n 1, 1) := by decide +kernel
theorem dX7_contains_17 : decode mi_X7_contains.2.1 17 = .ok (.baload, 1) := by decide +kernel
theorem dX7_contains_18 : decode mi_X7_contains.2.1 18 = .ok (.ifCond .eq 7, 3) := by decide +kernel
theorem dX7_contains_21 : decode mi_X7_contains.2.1 21 = .ok (.iconst 1, 1) := by decide +kernel
theorem dX7_contains_22 : decode mi_X7_contains.2.1 22 = .ok (.goto 4, 3) := by decide +kernel
theorem dX7_contains_25 : decode mi_X7_contains.2.1 25 = .ok (.iconst 0, 1) := by decide +kernel
theorem dX7_contains_26 : decode mi_X7_contains.2.1 26 = .ok (.ireturn, 1) := by decide +kernel
theorem dX7_product_0 : decode mi_X7_product.2.1 0 = .ok (.aload_n 0, 1) := by decide +kernel
theorem dX7_product_1 : decode mi_X7_product.2.1 1 = .ok (.iload_n 1, 1) := by decide +kernel
theorem dX7_product_2 : decode mi_X7_product.2.1 2 = .ok (.invokevirtual 117, 3) := by decide +kernel
theorem dX7_product_5 : decode mi_X7_product.2.1 5 = .ok (.ifCond .eq 20, 3) := by decide +kernel
theorem dX7_product_8 : decode mi_X7_product.2.1 8 = .ok (.aload_n 0, 1) := by decide +kernel
theorem dX7_product_9 : decode mi_X7_product.2.1 9 = .ok (.iload_n 2, 1) := by decide +kernel
theorem dX7_product_10 : decode mi_X7_product.2.1 10 = .ok (.invokevirtual 117, 3) := by decide +kernel
theorem dX7_product_13 : decode mi_X7_product.2.1 13 = .ok (.ifCond .eq 12, 3) := by decide +kernel
theorem dX7_product_16 : decode mi_X7_product.2.1 16 = .ok (.aload_n 0, 1) := by decide +kernel
theorem dX7_product_17 : decode mi_X7_product.2.1 17 = .ok (.iload_n 1, 1) := by decide +kernel
theorem dX7_product_18 : decode mi_X7_product.2.1 18 = .ok (.iload_n 2, 1) := by decide +kernel
theorem dX7_product_19 : decode mi_X7_product.2.1 19 = .ok (.invokevirtual 102, 3) := by decide +kernel
theorem dX7_product_22 : decode mi_X7_product.2.1 22 = .ok (.goto 4, 3) := by decide +kernel
theorem dX7_product_25 : decode mi_X7_product.2.1 25 = .ok (.iconst (-1), 1) := by decide +kernel
theorem dX7_product_26 : decode mi_X7_product.2.1 26 = .ok (.ireturn, 1) := by decide +kernel
theorem dX7_orderOf_0 : decode mi_X7_orderOf.2.1 0 = .ok (.aload_n 0, 1) := by decide +kernel
theorem dX7_orderOf_1 : decode mi_X7_orderOf.2.1 1 = .ok (.iload_n 1, 1) := by decide +kernel
theorem dX7_orderOf_2 : decode mi_X7_orderOf.2.1 2 = .ok (.invokevirtual 117, 3) := by decide +kernel
theorem dX7_orderOf_5 : decode mi_X7_orderOf.2.1 5 = .ok (.ifCond .ne 5, 3) := by decide +kernel
theorem dX7_orderOf_8 : decode mi_X7_orderOf.2.1 8 = .ok (.iconst (-1), 1) := by decide +kernel
theorem dX7_orderOf_9 : decode mi_X7_orderOf.2.1 9 = .ok (.ireturn, 1) := by decide +kernel
theorem dX7_orderOf_10 : decode mi_X7_orderOf.2.1 10 = .ok (.iconst 1, 1) := by decide +kernel
theorem dX7_orderOf_11 : decode mi_X7_orderOf.2.1 11 = .ok (.istore_n 2, 1) := by decide +kernel
theorem dX7_orderOf_12 : decode mi_X7_orderOf.2.1 12 = .ok (.iload_n 1, 1) := by decide +kernel
theorem dX7_orderOf_13 : decode mi_X7_orderOf.2.1 13 = .ok (.istore_n 3, 1) := by decide +kernel
theorem dX7_orderOf_14 : decode mi_X7_orderOf.2.1 14 = .ok (.iload_n 3, 1) := by decide +kernel
theorem dX7_orderOf_15 : decode mi_X7_orderOf.2.1 15 = .ok (.ifCond .eq 16, 3) := by decide +kernel
theorem dX7_orderOf_18 : decode mi_X7_orderOf.2.1 18 = .ok (.aload_n 0, 1) := by decide +kernel
theorem dX7_orderOf_19 : decode mi_X7_orderOf.2.1 19 = .ok (.iload_n 3, 1) := by decide +kernel
theorem dX7_orderOf_20 : decode mi_X7_orderOf.2.1 20 = .ok (.iload_n 1, 1) := by decide +kernel
theorem dX7_orderOf_21 : decode mi_X7_orderOf.2.1 21 = .ok (.invokevirtual 102, 3) := by decide +kernel
theorem dX7_orderOf_24 : decode mi_X7_orderOf.2.1 24 = .ok (.istore_n 3, 1) := by decide +kernel
theorem dX7_orderOf_25 : decode mi_X7_orderOf.2.1 25 = .ok (.iinc 2 1, 3) := by decide +kernel
theorem dX7_orderOf_28 : decode mi_X7_orderOf.2.1 28 = .ok (.goto (-14), 3) := by decide +kernel
theorem dX7_orderOf_31 : decode mi_X7_orderOf.2.1 31 = .ok (.iload_n 2, 1) := by decide +kernel
theorem dX7_orderOf_32 : decode mi_X7_orderOf.2.1 32 = .ok (.ireturn, 1) := by decide +kernel
theorem dX7_kindOf_0 : decode mi_X7_kindOf.2.1 0 = .ok (.aload_n 0, 1) := by decide +kernel
theorem dX7_kindOf_1 : decode mi_X7_kindOf.2.1 1 = .ok (.iload_n 1, 1) := by decide +kernel
theorem dX7_kindOf_2 : decode mi_X7_kindOf.2.1 2 = .ok (.invokevirtual 117, 3) := by decide +kernel
theorem dX7_kindOf_5 : decode mi_X7_kindOf.2.1 5 = .ok (.ifCond .eq 11, 3) := by decide +kernel
theorem dX7_kindOf_8 : decode mi_X7_kindOf.2.1 8 = .ok (.aload_n 0, 1) := by decide +kernel
theorem dX7_kindOf_9 : decode mi_X7_kindOf.2.1 9 = .ok (.iload_n 1, 1) := by decide +kernel
theorem dX7_kindOf_10 : decode mi_X7_kindOf.2.1 10 = .ok (.invokevirtual 120, 3) := by decide +kernel
theorem dX7_kindOf_13 : decode mi_X7_kindOf.2.1 13 = .ok (.goto 4, 3) := by decide +kernel
theorem dX7_kindOf_16 : decode mi_X7_kindOf.2.1 16 = .ok (.iconst (-1), 1) := by decide +kernel
theorem dX7_kindOf_17 : decode mi_X7_kindOf.2.1 17 = .ok (.ireturn, 1) := by decide +kernel
theorem dX7_count_0 : decode mi_X7_count.2.1 0 = .ok (.iload_n 1, 1) := by decide +kernel
theorem dX7_count_1 : decode mi_X7_count.2.1 1 = .ok (.iconst 0, 1) := by decide +kernel
theorem dX7_count_2 : decode mi_X7_count.2.1 2 = .ok (.iconst 3, 1) := by decide +kernel
theorem dX7_count_3 : decode mi_X7_count.2.1 3 = .ok (.invokestatic 78, 3) := by decide +kernel
theorem dX7_count_6 : decode mi_X7_count.2.1 6 = .ok (.ifCond .ne 5, 3) := by decide +kernel
theorem dX7_count_9 : decode mi_X7_count.2.1 9 = .ok (.iconst (-1), 1) := by decide +kernel
theorem dX7_count_10 : decode mi_X7_count.2.1 10 = .ok (.ireturn, 1) := by decide +kernel
theorem dX7_count_11 : decode mi_X7_count.2.1 11 = .ok (.iconst 0, 1) := by decide +kernel
theorem dX7_count_12 : decode mi_X7_count.2.1 12 = .ok (.istore_n 2, 1) := by decide +kernel
theorem dX7_count_13 : decode mi_X7_count.2.1 13 = .ok (.iconst 0, 1) := by decide +kernel
theorem dX7_count_14 : decode mi_X7_count.2.1 14 = .ok (.istore_n 3, 1) := by decide +kernel
theorem dX7_count_15 : decode mi_X7_count.2.1 15 = .ok (.iload_n 3, 1) := by decide +kernel
theorem dX7_count_16 : decode mi_X7_count.2.1 16 = .ok (.aload_n 0, 1) := by decide +kernel
theorem dX7_count_17 : decode mi_X7_count.2.1 17 = .ok (.getfield 92, 3) := by decide +kernel
theorem dX7_count_20 : decode mi_X7_count.2.1 20 = .ok (.if_icmp .ge 31, 3) := by decide +kernel
theorem dX7_count_23 : decode mi_X7_count.2.1 23 = .ok (.iload_n 2, 1) := by decide +kernel
theorem dX7_count_24 : decode mi_X7_count.2.1 24 = .ok (.aload_n 0, 1) := by decide +kernel
theorem dX7_count_25 : decode mi_X7_count.2.1 25 = .ok (.aload_n 0, 1) := by decide +kernel
theorem dX7_count_26 : decode mi_X7_count.2.1 26 = .ok (.getfield 26, 3) := by decide +kernel
theorem dX7_count_29 : decode mi_X7_count.2.1 29 = .ok (.iload_n 3, 1) := by decide +kernel
theorem dX7_count_30 : decode mi_X7_count.2.1 30 = .ok (.iaload, 1) := by decide +kernel
theorem dX7_count_31 : decode mi_X7_count.2.1 31 = .ok (.invokevirtual 120, 3) := by decide +kernel
theorem dX7_count_34 : decode mi_X7_count.2.1 34 = .ok (.iload_n 1, 1) := by decide +kernel
theorem dX7_count_35 : decode mi_X7_count.2.1 35 = .ok (.if_icmp .ne 7, 3) := by decide +kernel
theorem dX7_count_38 : decode mi_X7_count.2.1 38 = .ok (.iconst 1, 1) := by decide +kernel
theorem dX7_count_39 : decode mi_X7_count.2.1 39 = .ok (.goto 4, 3) := by decide +kernel
theorem dX7_count_42 : decode mi_X7_count.2.1 42 = .ok (.iconst 0, 1) := by decide +kernel
theorem dX7_count_43 : decode mi_X7_count.2.1 43 = .ok (.iadd, 1) := by decide +kernel
theorem dX7_count_44 : decode mi_X7_count.2.1 44 = .ok (.istore_n 2, 1) := by decide +kernel
theorem dX7_count_45 : decode mi_X7_count.2.1 45 = .ok (.iinc 3 1, 3) := by decide +kernel
theorem dX7_count_48 : decode mi_X7_count.2.1 48 = .ok (.goto (-33), 3) := by decide +kernel
theorem dX7_count_51 : decode mi_X7_count.2.1 51 = .ok (.iload_n 2, 1) := by decide +kernel
theorem dX7_count_52 : decode mi_X7_count.2.1 52 = .ok (.ireturn, 1) := by decide +kernel
theorem dX7_commutingPairs_0 : decode mi_X7_commutingPairs.2.1 0 = .ok (.iconst 0, 1) := by decide +kernel
theorem dX7_commutingPairs_1 : decode mi_X7_commutingPairs.2.1 1 = .ok (.istore_n 1, 1) := by decide +kernel
theorem dX7_commutingPairs_2 : decode mi_X7_commutingPairs.2.1 2 = .ok (.iconst 0, 1) := by decide +kernel
theorem dX7_commutingPairs_3 : decode mi_X7_commutingPairs.2.1 3 = .ok (.istore_n 2, 1) := by decide +kernel
theorem dX7_commutingPairs_4 : decode mi_X7_commutingPairs.2.1 4 = .ok (.iload_n 2, 1) := by decide +kernel
theorem dX7_commutingPairs_5 : decode mi_X7_commutingPairs.2.1 5 = .ok (.aload_n 0, 1) := by decide +kernel
theorem dX7_commutingPairs_6 : decode mi_X7_commutingPairs.2.1 6 = .ok (.getfield 92, 3) := by decide +kernel
theorem dX7_commutingPairs_9 : decode mi_X7_commutingPairs.2.1 9 = .ok (.if_icmp .ge 68, 3) := by decide +kernel
theorem dX7_commutingPairs_12 : decode mi_X7_commutingPairs.2.1 12 = .ok (.iconst 0, 1) := by decide +kernel
theorem dX7_commutingPairs_13 : decode mi_X7_commutingPairs.2.1 13 = .ok (.istore_n 3, 1) := by decide +kernel
theorem dX7_commutingPairs_14 : decode mi_X7_commutingPairs.2.1 14 = .ok (.iload_n 3, 1) := by decide +kernel
theorem dX7_commutingPairs_15 : decode mi_X7_commutingPairs.2.1 15 = .ok (.aload_n 0, 1) := by decide +kernel
theorem dX7_commutingPairs_16 : decode mi_X7_commutingPairs.2.1 16 = .ok (.getfield 92, 3) := by decide +kernel
theorem dX7_commutingPairs_19 : decode mi_X7_commutingPairs.2.1 19 = .ok (.if_icmp .ge 52, 3) := by decide +kernel
theorem dX7_commutingPairs_22 : decode mi_X7_commutingPairs.2.1 22 = .ok (.iload_n 1, 1) := by decide +kernel
theorem dX7_commutingPairs_23 : decode mi_X7_commutingPairs.2.1 23 = .ok (.aload_n 0, 1) := by decide +kernel
theorem dX7_commutingPairs_24 : decode mi_X7_commutingPairs.2.1 24 = .ok (.aload_n 0, 1) := by decide +kernel
theorem dX7_commutingPairs_25 : decode mi_X7_commutingPairs.2.1 25 = .ok (.getfield 26, 3) := by decide +kernel
theorem dX7_commutingPairs_28 : decode mi_X7_commutingPairs.2.1 28 = .ok (.iload_n 2, 1) := by decide +kernel
theorem dX7_commutingPairs_29 : decode mi_X7_commutingPairs.2.1 29 = .ok (.iaload, 1) := by decide +kernel
theorem dX7_commutingPairs_30 : decode mi_X7_commutingPairs.2.1 30 = .ok (.aload_n 0, 1) := by decide +kernel
theorem dX7_commutingPairs_31 : decode mi_X7_commutingPairs.2.1 31 = .ok (.getfield 26, 3) := by decide +kernel
theorem dX7_commutingPairs_34 : decode mi_X7_commutingPairs.2.1 34 = .ok (.iload_n 3, 1) := by decide +kernel
theorem dX7_commutingPairs_35 : decode mi_X7_commutingPairs.2.1 35 = .ok (.iaload, 1) := by decide +kernel
theorem dX7_commutingPairs_36 : decode mi_X7_commutingPairs.2.1 36 = .ok (.invokevirtual 102, 3) := by decide +kernel
theorem dX7_commutingPairs_39 : decode mi_X7_commutingPairs.2.1 39 = .ok (.aload_n 0, 1) := by decide +kernel
theorem dX7_commutingPairs_40 : decode mi_X7_commutingPairs.2.1 40 = .ok (.aload_n 0, 1) := by decide +kernel
theorem dX7_commutingPairs_41 : decode mi_X7_commutingPairs.2.1 41 = .ok (.getfield 26, 3) := by decide +kernel
theorem dX7_commutingPairs_44 : decode mi_X7_commutingPairs.2.1 44 = .ok (.iload_n 3, 1) := by decide +kernel
theorem dX7_commutingPairs_45 : decode mi_X7_commutingPairs.2.1 45 = .ok (.iaload, 1) := by decide +kernel
theorem dX7_commutingPairs_46 : decode mi_X7_commutingPairs.2.1 46 = .ok (.aload_n 0, 1) := by decide +kernel
theorem dX7_commutingPairs_47 : decode mi_X7_commutingPairs.2.1 47 = .ok (.getfield 26, 3) := by decide +kernel
theorem dX7_commutingPairs_50 : decode mi_X7_commutingPairs.2.1 50 = .ok (.iload_n 2, 1) := by decide +kernel
theorem dX7_commutingPairs_51 : decode mi_X7_commutingPairs.2.1 51 = .ok (.iaload, 1) := by decide +kernel
theorem dX7_commutingPairs_52 : decode mi_X7_commutingPairs.2.1 52 = .ok (.invokevirtual 102, 3) := by decide +kernel
theorem dX7_commutingPairs_55 : decode mi_X7_commutingPairs.2.1 55 = .ok (.if_icmp .ne 7, 3) := by decide +kernel
theorem dX7_commutingPairs_58 : decode mi_X7_commutingPairs.2.1 58 = .ok (.iconst 1, 1) := by decide +kernel
theorem dX7_commutingPairs_59 : decode mi_X7_commutingPairs.2.1 59 = .ok (.goto 4, 3) := by decide +kernel
theorem dX7_commutingPairs_62 : decode mi_X7_commutingPairs.2.1 62 = .ok (.iconst 0, 1) := by decide +kernel
theorem dX7_commutingPairs_63 : decode mi_X7_commutingPairs.2.1 63 = .ok (.iadd, 1) := by decide +kernel
theorem dX7_commutingPairs_64 : decode mi_X7_commutingPairs.2.1 64 = .ok (.istore_n 1, 1) := by decide +kernel
theorem dX7_commutingPairs_65 : decode mi_X7_commutingPairs.2.1 65 = .ok (.iinc 3 1, 3) := by decide +kernel
theorem dX7_commutingPairs_68 : decode mi_X7_commutingPairs.2.1 68 = .ok (.goto (-54), 3) := by decide +kernel
theorem dX7_commutingPairs_71 : decode mi_X7_commutingPairs.2.1 71 = .ok (.iinc 2 1, 3) := by decide +kernel
theorem dX7_commutingPairs_74 : decode mi_X7_commutingPairs.2.1 74 = .ok (.goto (-70), 3) := by decide +kernel
theorem dX7_commutingPairs_77 : decode mi_X7_commutingPairs.2.1 77 = .ok (.iload_n 1, 1) := by decide +kernel
theorem dX7_commutingPairs_78 : decode mi_X7_commutingPairs.2.1 78 = .ok (.ireturn, 1) := by decide +kernel
theorem dX7_isAbelian_0 : decode mi_X7_isAbelian.2.1 0 = .ok (.aload_n 0, 1) := by decide +kernel
theorem dX7_isAbelian_1 : decode mi_X7_isAbelian.2.1 1 = .ok (.invokevirtual 123, 3) := by decide +kernel
theorem dX7_isAbelian_4 : decode mi_X7_isAbelian.2.1 4 = .ok (.aload_n 0, 1) := by decide +kernel
theorem dX7_isAbelian_5 : decode mi_X7_isAbelian.2.1 5 = .ok (.getfield 92, 3) := by decide +kernel
theorem dX7_isAbelian_8 : decode mi_X7_isAbelian.2.1 8 = .ok (.aload_n 0, 1) := by decide +kernel
theorem dX7_isAbelian_9 : decode mi_X7_isAbelian.2.1 9 = .ok (.getfield 92, 3) := by decide +kernel
theorem dX7_isAbelian_12 : decode mi_X7_isAbelian.2.1 12 = .ok (.imul, 1) := by decide +kernel
theorem dX7_isAbelian_13 : decode mi_X7_isAbelian.2.1 13 = .ok (.if_icmp .ne 7, 3) := by decide +kernel
theorem dX7_isAbelian_16 : decode mi_X7_isAbelian.2.1 16 = .ok (.iconst 1, 1) := by decide +kernel
theorem dX7_isAbelian_17 : decode mi_X7_isAbelian.2.1 17 = .ok (.goto 4, 3) := by decide +kernel
theorem dX7_isAbelian_20 : decode mi_X7_isAbelian.2.1 20 = .ok (.iconst 0, 1) := by decide +kernel
theorem dX7_isAbelian_21 : decode mi_X7_isAbelian.2.1 21 = .ok (.ireturn, 1) := by decide +kernel
theorem dX7_conjugacyClasses_0 : decode mi_X7_conjugacyClasses.2.1 0 = .ok (.aload_n 0, 1) := by decide +kernel
theorem dX7_conjugacyClasses_1 : decode mi_X7_conjugacyClasses.2.1 1 = .ok (.invokevirtual 123, 3) := by decide +kernel
theorem dX7_conjugacyClasses_4 : decode mi_X7_conjugacyClasses.2.1 4 = .ok (.aload_n 0, 1) := by decide +kernel
theorem dX7_conjugacyClasses_5 : decode mi_X7_conjugacyClasses.2.1 5 = .ok (.getfield 92, 3) := by decide +kernel
theorem dX7_conjugacyClasses_8 : decode mi_X7_conjugacyClasses.2.1 8 = .ok (.idiv, 1) := by decide +kernel
theorem dX7_conjugacyClasses_9 : decode mi_X7_conjugacyClasses.2.1 9 = .ok (.ireturn, 1) := by decide +kernel
theorem dX7_partSet_0 : decode mi_X7_partSet.2.1 0 = .ok (.iconst 0, 1) := by decide +kernel
theorem dX7_partSet_1 : decode mi_X7_partSet.2.1 1 = .ok (.istore_n 2, 1) := by decide +kernel
theorem dX7_partSet_2 : decode mi_X7_partSet.2.1 2 = .ok (.iconst 0, 1) := by decide +kernel
theorem dX7_partSet_3 : decode mi_X7_partSet.2.1 3 = .ok (.istore_n 3, 1) := by decide +kernel
theorem dX7_partSet_4 : decode mi_X7_partSet.2.1 4 = .ok (.iload_n 3, 1) := by decide +kernel
theorem dX7_partSet_5 : decode mi_X7_partSet.2.1 5 = .ok (.aload_n 0, 1) := by decide +kernel
theorem dX7_partSet_6 : decode mi_X7_partSet.2.1 6 = .ok (.getfield 92, 3) := by decide +kernel
theorem dX7_partSet_9 : decode mi_X7_partSet.2.1 9 = .ok (.if_icmp .ge 58, 3) := by decide +kernel
theorem dX7_partSet_12 : decode mi_X7_partSet.2.1 12 = .ok (.iload_n 1, 1) := by decide +kernel
theorem dX7_partSet_13 : decode mi_X7_partSet.2.1 13 = .ok (.ifCond .eq 17, 3) := by decide +kernel
theorem dX7_partSet_16 : decode mi_X7_partSet.2.1 16 = .ok (.aload_n 0, 1) := by decide +kernel
theorem dX7_partSet_17 : decode mi_X7_partSet.2.1 17 = .ok (.aload_n 0, 1) := by decide +kernel
theorem dX7_partSet_18 : decode mi_X7_partSet.2.1 18 = .ok (.getfield 26, 3) := by decide +kernel
theorem dX7_partSet_21 : decode mi_X7_partSet.2.1 21 = .ok (.iload_n 3, 1) := by decide +kernel
theorem dX7_partSet_22 : decode mi_X7_partSet.2.1 22 = .ok (.iaload, 1) := by decide +kernel
theorem dX7_partSet_23 : decode mi_X7_partSet.2.1 23 = .ok (.invokevirtual 120, 3) := by decide +kernel
theorem dX7_partSet_26 : decode mi_X7_partSet.2.1 26 = .ok (.iconst 2, 1) := by decide +kernel
theorem dX7_partSet_27 : decode mi_X7_partSet.2.1 27 = .ok (.if_icmp .ne 7, 3) := by decide +kernel
theorem dX7_partSet_30 : decode mi_X7_partSet.2.1 30 = .ok (.iconst 1, 1) := by decide +kernel
theorem dX7_partSet_31 : decode mi_X7_partSet.2.1 31 = .ok (.goto 4, 3) := by decide +kernel
theorem dX7_partSet_34 : decode mi_X7_partSet.2.1 34 = .ok (.iconst 0, 1) := by decide +kernel
theorem dX7_partSet_35 : decode mi_X7_partSet.2.1 35 = .ok (.istore 4, 2) := by decide +kernel
theorem dX7_partSet_37 : decode mi_X7_partSet.2.1 37 = .ok (.iload_n 2, 1) := by decide +kernel
theorem dX7_partSet_38 : decode mi_X7_partSet.2.1 38 = .ok (.iload 4, 2) := by decide +kernel
theorem dX7_partSet_40 : decode mi_X7_partSet.2.1 40 = .ok (.ifCond .eq 18, 3) := by decide +kernel
theorem dX7_partSet_43 : decode mi_X7_partSet.2.1 43 = .ok (.iconst 1, 1) := by decide +kernel
theorem dX7_partSet_44 : decode mi_X7_partSet.2.1 44 = .ok (.aload_n 0, 1) := by decide +kernel
theorem dX7_partSet_45 : decode mi_X7_partSet.2.1 45 = .ok (.aload_n 0, 1) := by decide +kernel
theorem dX7_partSet_46 : decode mi_X7_partSet.2.1 46 = .ok (.getfield 26, 3) := by decide +kernel
theorem dX7_partSet_49 : decode mi_X7_partSet.2.1 49 = .ok (.iload_n 3, 1) := by decide +kernel
theorem dX7_partSet_50 : decode mi_X7_partSet.2.1 50 = .ok (.iaload, 1) := by decide +kernel
theorem dX7_partSet_51 : decode mi_X7_partSet.2.1 51 = .ok (.invokevirtual 59, 3) := by decide +kernel
theorem dX7_partSet_54 : decode mi_X7_partSet.2.1 54 = .ok (.ishl, 1) := by decide +kernel
theorem dX7_partSet_55 : decode mi_X7_partSet.2.1 55 = .ok (.goto 4, 3) := by decide +kernel
theorem dX7_partSet_58 : decode mi_X7_partSet.2.1 58 = .ok (.iconst 0, 1) := by decide +kernel
theorem dX7_partSet_59 : decode mi_X7_partSet.2.1 59 = .ok (.ior, 1) := by decide +kernel
theorem dX7_partSet_60 : decode mi_X7_partSet.2.1 60 = .ok (.istore_n 2, 1) := by decide +kernel
theorem dX7_partSet_61 : decode mi_X7_partSet.2.1 61 = .ok (.iinc 3 1, 3) := by decide +kernel
theorem dX7_partSet_64 : decode mi_X7_partSet.2.1 64 = .ok (.goto (-60), 3) := by decide +kernel
theorem dX7_partSet_67 : decode mi_X7_partSet.2.1 67 = .ok (.iload_n 2, 1) := by decide +kernel
theorem dX7_partSet_68 : decode mi_X7_partSet.2.1 68 = .ok (.ireturn, 1) := by decide +kernel
theorem dX7_ones_0 : decode mi_X7_ones.2.1 0 = .ok (.iconst 0, 1) := by decide +kernel
theorem dX7_ones_1 : decode mi_X7_ones.2.1 1 = .ok (.istore_n 1, 1) := by decide +kernel
theorem dX7_ones_2 : decode mi_X7_ones.2.1 2 = .ok (.iconst 0, 1) := by decide +kernel
theorem dX7_ones_3 : decode mi_X7_ones.2.1 3 = .ok (.istore_n 2, 1) := by decide +kernel
theorem dX7_ones_4 : decode mi_X7_ones.2.1 4 = .ok (.iload_n 2, 1) := by decide +kernel
theorem dX7_ones_5 : decode mi_X7_ones.2.1 5 = .ok (.bipush 12, 2) := by decide +kernel
theorem dX7_ones_7 : decode mi_X7_ones.2.1 7 = .ok (.if_icmp .ge 17, 3) := by decide +kernel
theorem dX7_ones_10 : decode mi_X7_ones.2.1 10 = .ok (.iload_n 1, 1) := by decide +kernel
theorem dX7_ones_11 : decode mi_X7_ones.2.1 11 = .ok (.iload_n 0, 1) := by decide +kernel
theorem dX7_ones_12 : decode mi_X7_ones.2.1 12 = .ok (.iload_n 2, 1) := by decide +kernel
theorem dX7_ones_13 : decode mi_X7_ones.2.1 13 = .ok (.ishr, 1) := by decide +kernel
theorem dX7_ones_14 : decode mi_X7_ones.2.1 14 = .ok (.iconst 1, 1) := by decide +kernel
theorem dX7_ones_15 : decode mi_X7_ones.2.1 15 = .ok (.iand, 1) := by decide +kernel
theorem dX7_ones_16 : decode mi_X7_ones.2.1 16 = .ok (.iadd, 1) := by decide +kernel
theorem dX7_ones_17 : decode mi_X7_ones.2.1 17 = .ok (.istore_n 1, 1) := by decide +kernel
theorem dX7_ones_18 : decode mi_X7_ones.2.1 18 = .ok (.iinc 2 1, 3) := by decide +kernel
theorem dX7_ones_21 : decode mi_X7_ones.2.1 21 = .ok (.goto (-17), 3) := by decide +kernel
theorem dX7_ones_24 : decode mi_X7_ones.2.1 24 = .ok (.iload_n 1, 1) := by decide +kernel
theorem dX7_ones_25 : decode mi_X7_ones.2.1 25 = .ok (.ireturn, 1) := by decide +kernel
theorem dX7_linearParts_0 : decode mi_X7_linearParts.2.1 0 = .ok (.aload_n 0, 1) := by decide +kernel
theorem dX7_linearParts_1 : decode mi_X7_linearParts.2.1 1 = .ok (.iconst 0, 1) := by decide +kernel
theorem dX7_linearParts_2 : decode mi_X7_linearParts.2.1 2 = .ok (.invokevirtual 126, 3) := by decide +kernel
theorem dX7_linearParts_5 : decode mi_X7_linearParts.2.1 5 = .ok (.invokestatic 130, 3) := by decide +kernel
theorem dX7_linearParts_8 : decode mi_X7_linearParts.2.1 8 = .ok (.ireturn, 1) := by decide +kernel
theorem dX7_greatestTurn_0 : decode mi_X7_greatestTurn.2.1 0 = .ok (.aload_n 0, 1) := by decide +kernel
theorem dX7_greatestTurn_1 : decode mi_X7_greatestTurn.2.1 1 = .ok (.iconst 0, 1) := by decide +kernel
theorem dX7_greatestTurn_2 : decode mi_X7_greatestTurn.2.1 2 = .ok (.invokevirtual 126, 3) := by decide +kernel
theorem dX7_greatestTurn_5 : decode mi_X7_greatestTurn.2.1 5 = .ok (.istore_n 1, 1) := by decide +kernel
theorem dX7_greatestTurn_6 : decode mi_X7_greatestTurn.2.1 6 = .ok (.iconst 1, 1) := by decide +kernel
theorem dX7_greatestTurn_7 : decode mi_X7_greatestTurn.2.1 7 = .ok (.istore_n 2, 1) := by decide +kernel
theorem dX7_greatestTurn_8 : decode mi_X7_greatestTurn.2.1 8 = .ok (.iconst 0, 1) := by decide +kernel
theorem dX7_greatestTurn_9 : decode mi_X7_greatestTurn.2.1 9 = .ok (.istore_n 3, 1) := by decide +kernel
theorem dX7_greatestTurn_10 : decode mi_X7_greatestTurn.2.1 10 = .ok (.iload_n 3, 1) := by decide +kernel
theorem dX7_greatestTurn_11 : decode mi_X7_greatestTurn.2.1 11 = .ok (.aload_n 0, 1) := by decide +kernel
theorem dX7_greatestTurn_12 : decode mi_X7_greatestTurn.2.1 12 = .ok (.getfield 36, 3) := by decide +kernel
theorem dX7_greatestTurn_15 : decode mi_X7_greatestTurn.2.1 15 = .ok (.iconst 2, 1) := by decide +kernel
theorem dX7_greatestTurn_16 : decode mi_X7_greatestTurn.2.1 16 = .ok (.idiv, 1) := by decide +kernel
theorem dX7_greatestTurn_17 : decode mi_X7_greatestTurn.2.1 17 = .ok (.if_icmp .ge 42, 3) := by decide +kernel
theorem dX7_greatestTurn_20 : decode mi_X7_greatestTurn.2.1 20 = .ok (.iload_n 1, 1) := by decide +kernel
theorem dX7_greatestTurn_21 : decode mi_X7_greatestTurn.2.1 21 = .ok (.iload_n 3, 1) := by decide +kernel
theorem dX7_greatestTurn_22 : decode mi_X7_greatestTurn.2.1 22 = .ok (.ishr, 1) := by decide +kernel
theorem dX7_greatestTurn_23 : decode mi_X7_greatestTurn.2.1 23 = .ok (.iconst 1, 1) := by decide +kernel
theorem dX7_greatestTurn_24 : decode mi_X7_greatestTurn.2.1 24 = .ok (.iand, 1) := by decide +kernel
theorem dX7_greatestTurn_25 : decode mi_X7_greatestTurn.2.1 25 = .ok (.iconst 1, 1) := by decide +kernel
theorem dX7_greatestTurn_26 : decode mi_X7_greatestTurn.2.1 26 = .ok (.if_icmp .ne 11, 3) := by decide +kernel
theorem dX7_greatestTurn_29 : decode mi_X7_greatestTurn.2.1 29 = .ok (.aload_n 0, 1) := by decide +kernel
theorem dX7_greatestTurn_30 : decode mi_X7_greatestTurn.2.1 30 = .ok (.iload_n 3, 1) := by decide +kernel
theorem dX7_greatestTurn_31 : decode mi_X7_greatestTurn.2.1 31 = .ok (.invokevirtual 133, 3) := by decide +kernel
theorem dX7_greatestTurn_34 : decode mi_X7_greatestTurn.2.1 34 = .ok (.goto 4, 3) := by decide +kernel
theorem dX7_greatestTurn_37 : decode mi_X7_greatestTurn.2.1 37 = .ok (.iconst 1, 1) := by decide +kernel
theorem dX7_greatestTurn_38 : decode mi_X7_greatestTurn.2.1 38 = .ok (.istore 4, 2) := by decide +kernel
theorem dX7_greatestTurn_40 : decode mi_X7_greatestTurn.2.1 40 = .ok (.iload 4, 2) := by decide +kernel
theorem dX7_greatestTurn_42 : decode mi_X7_greatestTurn.2.1 42 = .ok (.iload_n 2, 1) := by decide +kernel
theorem dX7_greatestTurn_43 : decode mi_X7_greatestTurn.2.1 43 = .ok (.if_icmp .le 8, 3) := by decide +kernel
theorem dX7_greatestTurn_46 : decode mi_X7_greatestTurn.2.1 46 = .ok (.iload 4, 2) := by decide +kernel
theorem dX7_greatestTurn_48 : decode mi_X7_greatestTurn.2.1 48 = .ok (.goto 4, 3) := by decide +kernel
theorem dX7_greatestTurn_51 : decode mi_X7_greatestTurn.2.1 51 = .ok (.iload_n 2, 1) := by decide +kernel
theorem dX7_greatestTurn_52 : decode mi_X7_greatestTurn.2.1 52 = .ok (.istore_n 2, 1) := by decide +kernel
theorem dX7_greatestTurn_53 : decode mi_X7_greatestTurn.2.1 53 = .ok (.iinc 3 1, 3) := by decide +kernel
theorem dX7_greatestTurn_56 : decode mi_X7_greatestTurn.2.1 56 = .ok (.goto (-46), 3) := by decide +kernel
theorem dX7_greatestTurn_59 : decode mi_X7_greatestTurn.2.1 59 = .ok (.iload_n 2, 1) := by decide +kernel
theorem dX7_greatestTurn_60 : decode mi_X7_greatestTurn.2.1 60 = .ok (.ireturn, 1) := by decide +kernel
theorem dX7_rotationOrder_0 : decode mi_X7_rotationOrder.2.1 0 = .ok (.aload_n 0, 1) := by decide +kernel
theorem dX7_rotationOrder_1 : decode mi_X7_rotationOrder.2.1 1 = .ok (.invokevirtual 136, 3) := by decide +kernel
theorem dX7_rotationOrder_4 : decode mi_X7_rotationOrder.2.1 4 = .ok (.ireturn, 1) := by decide +kernel
theorem dX7_directions_0 : decode mi_X7_directions.2.1 0 = .ok (.aload_n 0, 1) := by decide +kernel
theorem dX7_directions_1 : decode mi_X7_directions.2.1 1 = .ok (.iconst 1, 1) := by decide +kernel
theorem dX7_directions_2 : decode mi_X7_directions.2.1 2 = .ok (.invokevirtual 126, 3) := by decide +kernel
theorem dX7_directions_5 : decode mi_X7_directions.2.1 5 = .ok (.invokestatic 130, 3) := by decide +kernel
theorem dX7_directions_8 : decode mi_X7_directions.2.1 8 = .ok (.ireturn, 1) := by decide +kernel
theorem dX7_mirrorDirections_0 : decode mi_X7_mirrorDirections.2.1 0 = .ok (.aload_n 0, 1) := by decide +kernel
theorem dX7_mirrorDirections_1 : decode mi_X7_mirrorDirections.2.1 1 = .ok (.invokevirtual 139, 3) := by decide +kernel
theorem dX7_mirrorDirections_4 : decode mi_X7_mirrorDirections.2.1 4 = .ok (.ireturn, 1) := by decide +kernel
theorem dX7_isLatticeVector_0 : decode mi_X7_isLatticeVector.2.1 0 = .ok (.aload_n 0, 1) := by decide +kernel
theorem dX7_isLatticeVector_1 : decode mi_X7_isLatticeVector.2.1 1 = .ok (.getfield 22, 3) := by decide +kernel
theorem dX7_isLatticeVector_4 : decode mi_X7_isLatticeVector.2.1 4 = .ok (.aload_n 0, 1) := by decide +kernel
end
section
theorem dX7_isLatticeVector_5 : decode mi_X7_isLatticeVector.2.1 5 = .ok (.iconst 0, 1) := by decide +kernel
theorem dX7_isLatticeVector_6 : decode mi_X7_isLatticeVector.2.1 6 = .ok (.iload_n 1, 1) := by decide +kernel
theorem dX7_isLatticeVector_7 : decode mi_X7_isLatticeVector.2.1 7 = .ok (.iload_n 2, 1) := by decide +kernel
theorem dX7_isLatticeVector_8 : decode mi_X7_isLatticeVector.2.1 8 = .ok (.invokevirtual 75, 3) := by decide +kernel
theorem dX7_isLatticeVector_11 : decode mi_X7_isLatticeVector.2.1 11 = .ok (.baload, 1) := by decide +kernel
theorem dX7_isLatticeVector_12 : decode mi_X7_isLatticeVector.2.1 12 = .ok (.ireturn, 1) := by decide +kernel
theorem dX7_isHalved_0 : decode mi_X7_isHalved.2.1 0 = .ok (.iload_n 2, 1) := by decide +kernel
theorem dX7_isHalved_1 : decode mi_X7_isHalved.2.1 1 = .ok (.aload_n 0, 1) := by decide +kernel
theorem dX7_isHalved_2 : decode mi_X7_isHalved.2.1 2 = .ok (.iload_n 1, 1) := by decide +kernel
theorem dX7_isHalved_3 : decode mi_X7_isHalved.2.1 3 = .ok (.iload_n 2, 1) := by decide +kernel
theorem dX7_isHalved_4 : decode mi_X7_isHalved.2.1 4 = .ok (.iload_n 3, 1) := by decide +kernel
theorem dX7_isHalved_5 : decode mi_X7_isHalved.2.1 5 = .ok (.invokevirtual 68, 3) := by decide +kernel
theorem dX7_isHalved_8 : decode mi_X7_isHalved.2.1 8 = .ok (.iadd, 1) := by decide +kernel
theorem dX7_isHalved_9 : decode mi_X7_isHalved.2.1 9 = .ok (.istore 4, 2) := by decide +kernel
theorem dX7_isHalved_11 : decode mi_X7_isHalved.2.1 11 = .ok (.iload_n 3, 1) := by decide +kernel
theorem dX7_isHalved_12 : decode mi_X7_isHalved.2.1 12 = .ok (.aload_n 0, 1) := by decide +kernel
theorem dX7_isHalved_13 : decode mi_X7_isHalved.2.1 13 = .ok (.iload_n 1, 1) := by decide +kernel
theorem dX7_isHalved_14 : decode mi_X7_isHalved.2.1 14 = .ok (.iload_n 2, 1) := by decide +kernel
theorem dX7_isHalved_15 : decode mi_X7_isHalved.2.1 15 = .ok (.iload_n 3, 1) := by decide +kernel
theorem dX7_isHalved_16 : decode mi_X7_isHalved.2.1 16 = .ok (.invokevirtual 72, 3) := by decide +kernel
theorem dX7_isHalved_19 : decode mi_X7_isHalved.2.1 19 = .ok (.iadd, 1) := by decide +kernel
theorem dX7_isHalved_20 : decode mi_X7_isHalved.2.1 20 = .ok (.istore 5, 2) := by decide +kernel
theorem dX7_isHalved_22 : decode mi_X7_isHalved.2.1 22 = .ok (.iload 4, 2) := by decide +kernel
theorem dX7_isHalved_24 : decode mi_X7_isHalved.2.1 24 = .ok (.iconst 2, 1) := by decide +kernel
theorem dX7_isHalved_25 : decode mi_X7_isHalved.2.1 25 = .ok (.irem, 1) := by decide +kernel
theorem dX7_isHalved_26 : decode mi_X7_isHalved.2.1 26 = .ok (.ifCond .ne 25, 3) := by decide +kernel
theorem dX7_isHalved_29 : decode mi_X7_isHalved.2.1 29 = .ok (.iload 5, 2) := by decide +kernel
theorem dX7_isHalved_31 : decode mi_X7_isHalved.2.1 31 = .ok (.iconst 2, 1) := by decide +kernel
theorem dX7_isHalved_32 : decode mi_X7_isHalved.2.1 32 = .ok (.irem, 1) := by decide +kernel
theorem dX7_isHalved_33 : decode mi_X7_isHalved.2.1 33 = .ok (.ifCond .ne 18, 3) := by decide +kernel
theorem dX7_isHalved_36 : decode mi_X7_isHalved.2.1 36 = .ok (.aload_n 0, 1) := by decide +kernel
theorem dX7_isHalved_37 : decode mi_X7_isHalved.2.1 37 = .ok (.iload 4, 2) := by decide +kernel
theorem dX7_isHalved_39 : decode mi_X7_isHalved.2.1 39 = .ok (.iconst 2, 1) := by decide +kernel
theorem dX7_isHalved_40 : decode mi_X7_isHalved.2.1 40 = .ok (.idiv, 1) := by decide +kernel
theorem dX7_isHalved_41 : decode mi_X7_isHalved.2.1 41 = .ok (.iload 5, 2) := by decide +kernel
theorem dX7_isHalved_43 : decode mi_X7_isHalved.2.1 43 = .ok (.iconst 2, 1) := by decide +kernel
theorem dX7_isHalved_44 : decode mi_X7_isHalved.2.1 44 = .ok (.idiv, 1) := by decide +kernel
theorem dX7_isHalved_45 : decode mi_X7_isHalved.2.1 45 = .ok (.invokevirtual 142, 3) := by decide +kernel
theorem dX7_isHalved_48 : decode mi_X7_isHalved.2.1 48 = .ok (.ifCond .ne 7, 3) := by decide +kernel
theorem dX7_isHalved_51 : decode mi_X7_isHalved.2.1 51 = .ok (.iconst 1, 1) := by decide +kernel
theorem dX7_isHalved_52 : decode mi_X7_isHalved.2.1 52 = .ok (.goto 4, 3) := by decide +kernel
theorem dX7_isHalved_55 : decode mi_X7_isHalved.2.1 55 = .ok (.iconst 0, 1) := by decide +kernel
theorem dX7_isHalved_56 : decode mi_X7_isHalved.2.1 56 = .ok (.ireturn, 1) := by decide +kernel
theorem dX7_isCenteredBy_0 : decode mi_X7_isCenteredBy.2.1 0 = .ok (.aload_n 0, 1) := by decide +kernel
theorem dX7_isCenteredBy_1 : decode mi_X7_isCenteredBy.2.1 1 = .ok (.iload_n 1, 1) := by decide +kernel
theorem dX7_isCenteredBy_2 : decode mi_X7_isCenteredBy.2.1 2 = .ok (.aload_n 0, 1) := by decide +kernel
theorem dX7_isCenteredBy_3 : decode mi_X7_isCenteredBy.2.1 3 = .ok (.getfield 7, 3) := by decide +kernel
theorem dX7_isCenteredBy_6 : decode mi_X7_isCenteredBy.2.1 6 = .ok (.iconst 1, 1) := by decide +kernel
theorem dX7_isCenteredBy_7 : decode mi_X7_isCenteredBy.2.1 7 = .ok (.iaload, 1) := by decide +kernel
theorem dX7_isCenteredBy_8 : decode mi_X7_isCenteredBy.2.1 8 = .ok (.iconst 0, 1) := by decide +kernel
theorem dX7_isCenteredBy_9 : decode mi_X7_isCenteredBy.2.1 9 = .ok (.invokevirtual 146, 3) := by decide +kernel
theorem dX7_isCenteredBy_12 : decode mi_X7_isCenteredBy.2.1 12 = .ok (.ifCond .ne 18, 3) := by decide +kernel
theorem dX7_isCenteredBy_15 : decode mi_X7_isCenteredBy.2.1 15 = .ok (.aload_n 0, 1) := by decide +kernel
theorem dX7_isCenteredBy_16 : decode mi_X7_isCenteredBy.2.1 16 = .ok (.iload_n 1, 1) := by decide +kernel
theorem dX7_isCenteredBy_17 : decode mi_X7_isCenteredBy.2.1 17 = .ok (.iconst 0, 1) := by decide +kernel
theorem dX7_isCenteredBy_18 : decode mi_X7_isCenteredBy.2.1 18 = .ok (.aload_n 0, 1) := by decide +kernel
theorem dX7_isCenteredBy_19 : decode mi_X7_isCenteredBy.2.1 19 = .ok (.getfield 7, 3) := by decide +kernel
theorem dX7_isCenteredBy_22 : decode mi_X7_isCenteredBy.2.1 22 = .ok (.iconst 1, 1) := by decide +kernel
theorem dX7_isCenteredBy_23 : decode mi_X7_isCenteredBy.2.1 23 = .ok (.iaload, 1) := by decide +kernel
theorem dX7_isCenteredBy_24 : decode mi_X7_isCenteredBy.2.1 24 = .ok (.invokevirtual 146, 3) := by decide +kernel
theorem dX7_isCenteredBy_27 : decode mi_X7_isCenteredBy.2.1 27 = .ok (.ifCond .eq 7, 3) := by decide +kernel
theorem dX7_isCenteredBy_30 : decode mi_X7_isCenteredBy.2.1 30 = .ok (.iconst 1, 1) := by decide +kernel
theorem dX7_isCenteredBy_31 : decode mi_X7_isCenteredBy.2.1 31 = .ok (.goto 4, 3) := by decide +kernel
theorem dX7_isCenteredBy_34 : decode mi_X7_isCenteredBy.2.1 34 = .ok (.iconst 0, 1) := by decide +kernel
theorem dX7_isCenteredBy_35 : decode mi_X7_isCenteredBy.2.1 35 = .ok (.istore_n 2, 1) := by decide +kernel
theorem dX7_isCenteredBy_36 : decode mi_X7_isCenteredBy.2.1 36 = .ok (.iconst 0, 1) := by decide +kernel
theorem dX7_isCenteredBy_37 : decode mi_X7_isCenteredBy.2.1 37 = .ok (.istore_n 3, 1) := by decide +kernel
theorem dX7_isCenteredBy_38 : decode mi_X7_isCenteredBy.2.1 38 = .ok (.iload_n 3, 1) := by decide +kernel
theorem dX7_isCenteredBy_39 : decode mi_X7_isCenteredBy.2.1 39 = .ok (.aload_n 0, 1) := by decide +kernel
theorem dX7_isCenteredBy_40 : decode mi_X7_isCenteredBy.2.1 40 = .ok (.invokevirtual 51, 3) := by decide +kernel
theorem dX7_isCenteredBy_43 : decode mi_X7_isCenteredBy.2.1 43 = .ok (.if_icmp .ge 46, 3) := by decide +kernel
theorem dX7_isCenteredBy_46 : decode mi_X7_isCenteredBy.2.1 46 = .ok (.iload_n 2, 1) := by decide +kernel
theorem dX7_isCenteredBy_47 : decode mi_X7_isCenteredBy.2.1 47 = .ok (.ifCond .ne 30, 3) := by decide +kernel
theorem dX7_isCenteredBy_50 : decode mi_X7_isCenteredBy.2.1 50 = .ok (.aload_n 0, 1) := by decide +kernel
theorem dX7_isCenteredBy_51 : decode mi_X7_isCenteredBy.2.1 51 = .ok (.getfield 22, 3) := by decide +kernel
theorem dX7_isCenteredBy_54 : decode mi_X7_isCenteredBy.2.1 54 = .ok (.iload_n 3, 1) := by decide +kernel
theorem dX7_isCenteredBy_55 : decode mi_X7_isCenteredBy.2.1 55 = .ok (.baload, 1) := by decide +kernel
theorem dX7_isCenteredBy_56 : decode mi_X7_isCenteredBy.2.1 56 = .ok (.ifCond .eq 25, 3) := by decide +kernel
theorem dX7_isCenteredBy_59 : decode mi_X7_isCenteredBy.2.1 59 = .ok (.aload_n 0, 1) := by decide +kernel
theorem dX7_isCenteredBy_60 : decode mi_X7_isCenteredBy.2.1 60 = .ok (.iload_n 1, 1) := by decide +kernel
theorem dX7_isCenteredBy_61 : decode mi_X7_isCenteredBy.2.1 61 = .ok (.aload_n 0, 1) := by decide +kernel
theorem dX7_isCenteredBy_62 : decode mi_X7_isCenteredBy.2.1 62 = .ok (.iload_n 3, 1) := by decide +kernel
theorem dX7_isCenteredBy_63 : decode mi_X7_isCenteredBy.2.1 63 = .ok (.invokevirtual 62, 3) := by decide +kernel
theorem dX7_isCenteredBy_66 : decode mi_X7_isCenteredBy.2.1 66 = .ok (.aload_n 0, 1) := by decide +kernel
theorem dX7_isCenteredBy_67 : decode mi_X7_isCenteredBy.2.1 67 = .ok (.iload_n 3, 1) := by decide +kernel
theorem dX7_isCenteredBy_68 : decode mi_X7_isCenteredBy.2.1 68 = .ok (.invokevirtual 65, 3) := by decide +kernel
theorem dX7_isCenteredBy_71 : decode mi_X7_isCenteredBy.2.1 71 = .ok (.invokevirtual 146, 3) := by decide +kernel
theorem dX7_isCenteredBy_74 : decode mi_X7_isCenteredBy.2.1 74 = .ok (.ifCond .eq 7, 3) := by decide +kernel
theorem dX7_isCenteredBy_77 : decode mi_X7_isCenteredBy.2.1 77 = .ok (.iconst 1, 1) := by decide +kernel
theorem dX7_isCenteredBy_78 : decode mi_X7_isCenteredBy.2.1 78 = .ok (.goto 4, 3) := by decide +kernel
theorem dX7_isCenteredBy_81 : decode mi_X7_isCenteredBy.2.1 81 = .ok (.iconst 0, 1) := by decide +kernel
theorem dX7_isCenteredBy_82 : decode mi_X7_isCenteredBy.2.1 82 = .ok (.istore_n 2, 1) := by decide +kernel
theorem dX7_isCenteredBy_83 : decode mi_X7_isCenteredBy.2.1 83 = .ok (.iinc 3 1, 3) := by decide +kernel
theorem dX7_isCenteredBy_86 : decode mi_X7_isCenteredBy.2.1 86 = .ok (.goto (-48), 3) := by decide +kernel
theorem dX7_isCenteredBy_89 : decode mi_X7_isCenteredBy.2.1 89 = .ok (.iload_n 2, 1) := by decide +kernel
theorem dX7_isCenteredBy_90 : decode mi_X7_isCenteredBy.2.1 90 = .ok (.ireturn, 1) := by decide +kernel
theorem dX7_isCenteredNow_0 : decode mi_X7_isCenteredNow.2.1 0 = .ok (.aload_n 0, 1) := by decide +kernel
theorem dX7_isCenteredNow_1 : decode mi_X7_isCenteredNow.2.1 1 = .ok (.iconst 1, 1) := by decide +kernel
theorem dX7_isCenteredNow_2 : decode mi_X7_isCenteredNow.2.1 2 = .ok (.invokevirtual 126, 3) := by decide +kernel
theorem dX7_isCenteredNow_5 : decode mi_X7_isCenteredNow.2.1 5 = .ok (.istore_n 1, 1) := by decide +kernel
theorem dX7_isCenteredNow_6 : decode mi_X7_isCenteredNow.2.1 6 = .ok (.iconst 0, 1) := by decide +kernel
theorem dX7_isCenteredNow_7 : decode mi_X7_isCenteredNow.2.1 7 = .ok (.istore_n 2, 1) := by decide +kernel
theorem dX7_isCenteredNow_8 : decode mi_X7_isCenteredNow.2.1 8 = .ok (.iconst 0, 1) := by decide +kernel
theorem dX7_isCenteredNow_9 : decode mi_X7_isCenteredNow.2.1 9 = .ok (.istore_n 3, 1) := by decide +kernel
theorem dX7_isCenteredNow_10 : decode mi_X7_isCenteredNow.2.1 10 = .ok (.iload_n 3, 1) := by decide +kernel
theorem dX7_isCenteredNow_11 : decode mi_X7_isCenteredNow.2.1 11 = .ok (.aload_n 0, 1) := by decide +kernel
theorem dX7_isCenteredNow_12 : decode mi_X7_isCenteredNow.2.1 12 = .ok (.getfield 36, 3) := by decide +kernel
theorem dX7_isCenteredNow_15 : decode mi_X7_isCenteredNow.2.1 15 = .ok (.if_icmp .ge 36, 3) := by decide +kernel
theorem dX7_isCenteredNow_18 : decode mi_X7_isCenteredNow.2.1 18 = .ok (.iload_n 2, 1) := by decide +kernel
theorem dX7_isCenteredNow_19 : decode mi_X7_isCenteredNow.2.1 19 = .ok (.ifCond .ne 20, 3) := by decide +kernel
theorem dX7_isCenteredNow_22 : decode mi_X7_isCenteredNow.2.1 22 = .ok (.iload_n 1, 1) := by decide +kernel
theorem dX7_isCenteredNow_23 : decode mi_X7_isCenteredNow.2.1 23 = .ok (.iload_n 3, 1) := by decide +kernel
theorem dX7_isCenteredNow_24 : decode mi_X7_isCenteredNow.2.1 24 = .ok (.ishr, 1) := by decide +kernel
theorem dX7_isCenteredNow_25 : decode mi_X7_isCenteredNow.2.1 25 = .ok (.iconst 1, 1) := by decide +kernel
theorem dX7_isCenteredNow_26 : decode mi_X7_isCenteredNow.2.1 26 = .ok (.iand, 1) := by decide +kernel
theorem dX7_isCenteredNow_27 : decode mi_X7_isCenteredNow.2.1 27 = .ok (.iconst 1, 1) := by decide +kernel
theorem dX7_isCenteredNow_28 : decode mi_X7_isCenteredNow.2.1 28 = .ok (.if_icmp .ne 15, 3) := by decide +kernel
theorem dX7_isCenteredNow_31 : decode mi_X7_isCenteredNow.2.1 31 = .ok (.aload_n 0, 1) := by decide +kernel
theorem dX7_isCenteredNow_32 : decode mi_X7_isCenteredNow.2.1 32 = .ok (.iload_n 3, 1) := by decide +kernel
theorem dX7_isCenteredNow_33 : decode mi_X7_isCenteredNow.2.1 33 = .ok (.invokevirtual 149, 3) := by decide +kernel
theorem dX7_isCenteredNow_36 : decode mi_X7_isCenteredNow.2.1 36 = .ok (.ifCond .eq 7, 3) := by decide +kernel
theorem dX7_isCenteredNow_39 : decode mi_X7_isCenteredNow.2.1 39 = .ok (.iconst 1, 1) := by decide +kernel
theorem dX7_isCenteredNow_40 : decode mi_X7_isCenteredNow.2.1 40 = .ok (.goto 4, 3) := by decide +kernel
theorem dX7_isCenteredNow_43 : decode mi_X7_isCenteredNow.2.1 43 = .ok (.iconst 0, 1) := by decide +kernel
theorem dX7_isCenteredNow_44 : decode mi_X7_isCenteredNow.2.1 44 = .ok (.istore_n 2, 1) := by decide +kernel
theorem dX7_isCenteredNow_45 : decode mi_X7_isCenteredNow.2.1 45 = .ok (.iinc 3 1, 3) := by decide +kernel
theorem dX7_isCenteredNow_48 : decode mi_X7_isCenteredNow.2.1 48 = .ok (.goto (-38), 3) := by decide +kernel
theorem dX7_isCenteredNow_51 : decode mi_X7_isCenteredNow.2.1 51 = .ok (.iload_n 2, 1) := by decide +kernel
theorem dX7_isCenteredNow_52 : decode mi_X7_isCenteredNow.2.1 52 = .ok (.ireturn, 1) := by decide +kernel
theorem dX7_isCentered_0 : decode mi_X7_isCentered.2.1 0 = .ok (.aload_n 0, 1) := by decide +kernel
theorem dX7_isCentered_1 : decode mi_X7_isCentered.2.1 1 = .ok (.invokevirtual 152, 3) := by decide +kernel
theorem dX7_isCentered_4 : decode mi_X7_isCentered.2.1 4 = .ok (.ifCond .eq 7, 3) := by decide +kernel
theorem dX7_isCentered_7 : decode mi_X7_isCentered.2.1 7 = .ok (.iconst 1, 1) := by decide +kernel
theorem dX7_isCentered_8 : decode mi_X7_isCentered.2.1 8 = .ok (.goto 4, 3) := by decide +kernel
theorem dX7_isCentered_11 : decode mi_X7_isCentered.2.1 11 = .ok (.iconst 0, 1) := by decide +kernel
theorem dX7_isCentered_12 : decode mi_X7_isCentered.2.1 12 = .ok (.ireturn, 1) := by decide +kernel
theorem dX7_squared_0 : decode mi_X7_squared.2.1 0 = .ok (.iload_n 1, 1) := by decide +kernel
theorem dX7_squared_1 : decode mi_X7_squared.2.1 1 = .ok (.iload_n 1, 1) := by decide +kernel
theorem dX7_squared_2 : decode mi_X7_squared.2.1 2 = .ok (.imul, 1) := by decide +kernel
theorem dX7_squared_3 : decode mi_X7_squared.2.1 3 = .ok (.iload_n 2, 1) := by decide +kernel
theorem dX7_squared_4 : decode mi_X7_squared.2.1 4 = .ok (.iload_n 2, 1) := by decide +kernel
theorem dX7_squared_5 : decode mi_X7_squared.2.1 5 = .ok (.imul, 1) := by decide +kernel
theorem dX7_squared_6 : decode mi_X7_squared.2.1 6 = .ok (.iadd, 1) := by decide +kernel
theorem dX7_squared_7 : decode mi_X7_squared.2.1 7 = .ok (.aload_n 0, 1) := by decide +kernel
theorem dX7_squared_8 : decode mi_X7_squared.2.1 8 = .ok (.getfield 7, 3) := by decide +kernel
theorem dX7_squared_11 : decode mi_X7_squared.2.1 11 = .ok (.iconst 0, 1) := by decide +kernel
theorem dX7_squared_12 : decode mi_X7_squared.2.1 12 = .ok (.iaload, 1) := by decide +kernel
theorem dX7_squared_13 : decode mi_X7_squared.2.1 13 = .ok (.iconst 1, 1) := by decide +kernel
theorem dX7_squared_14 : decode mi_X7_squared.2.1 14 = .ok (.if_icmp .ne 9, 3) := by decide +kernel
theorem dX7_squared_17 : decode mi_X7_squared.2.1 17 = .ok (.iload_n 1, 1) := by decide +kernel
theorem dX7_squared_18 : decode mi_X7_squared.2.1 18 = .ok (.iload_n 2, 1) := by decide +kernel
theorem dX7_squared_19 : decode mi_X7_squared.2.1 19 = .ok (.imul, 1) := by decide +kernel
theorem dX7_squared_20 : decode mi_X7_squared.2.1 20 = .ok (.goto 4, 3) := by decide +kernel
theorem dX7_squared_23 : decode mi_X7_squared.2.1 23 = .ok (.iconst 0, 1) := by decide +kernel
theorem dX7_squared_24 : decode mi_X7_squared.2.1 24 = .ok (.iadd, 1) := by decide +kernel
theorem dX7_squared_25 : decode mi_X7_squared.2.1 25 = .ok (.ireturn, 1) := by decide +kernel
theorem dX7_leastSquared_0 : decode mi_X7_leastSquared.2.1 0 = .ok (.aload_n 0, 1) := by decide +kernel
theorem dX7_leastSquared_1 : decode mi_X7_leastSquared.2.1 1 = .ok (.getfield 7, 3) := by decide +kernel
theorem dX7_leastSquared_4 : decode mi_X7_leastSquared.2.1 4 = .ok (.iconst 1, 1) := by decide +kernel
theorem dX7_leastSquared_5 : decode mi_X7_leastSquared.2.1 5 = .ok (.iaload, 1) := by decide +kernel
theorem dX7_leastSquared_6 : decode mi_X7_leastSquared.2.1 6 = .ok (.aload_n 0, 1) := by decide +kernel
theorem dX7_leastSquared_7 : decode mi_X7_leastSquared.2.1 7 = .ok (.getfield 7, 3) := by decide +kernel
theorem dX7_leastSquared_10 : decode mi_X7_leastSquared.2.1 10 = .ok (.iconst 1, 1) := by decide +kernel
theorem dX7_leastSquared_11 : decode mi_X7_leastSquared.2.1 11 = .ok (.iaload, 1) := by decide +kernel
theorem dX7_leastSquared_12 : decode mi_X7_leastSquared.2.1 12 = .ok (.imul, 1) := by decide +kernel
theorem dX7_leastSquared_13 : decode mi_X7_leastSquared.2.1 13 = .ok (.istore_n 1, 1) := by decide +kernel
theorem dX7_leastSquared_14 : decode mi_X7_leastSquared.2.1 14 = .ok (.iconst 2, 1) := by decide +kernel
theorem dX7_leastSquared_15 : decode mi_X7_leastSquared.2.1 15 = .ok (.aload_n 0, 1) := by decide +kernel
theorem dX7_leastSquared_16 : decode mi_X7_leastSquared.2.1 16 = .ok (.getfield 7, 3) := by decide +kernel
theorem dX7_leastSquared_19 : decode mi_X7_leastSquared.2.1 19 = .ok (.iconst 1, 1) := by decide +kernel
theorem dX7_leastSquared_20 : decode mi_X7_leastSquared.2.1 20 = .ok (.iaload, 1) := by decide +kernel
theorem dX7_leastSquared_21 : decode mi_X7_leastSquared.2.1 21 = .ok (.imul, 1) := by decide +kernel
theorem dX7_leastSquared_22 : decode mi_X7_leastSquared.2.1 22 = .ok (.istore_n 2, 1) := by decide +kernel
theorem dX7_leastSquared_23 : decode mi_X7_leastSquared.2.1 23 = .ok (.iload_n 2, 1) := by decide +kernel
theorem dX7_leastSquared_24 : decode mi_X7_leastSquared.2.1 24 = .ok (.ineg, 1) := by decide +kernel
theorem dX7_leastSquared_25 : decode mi_X7_leastSquared.2.1 25 = .ok (.istore_n 3, 1) := by decide +kernel
theorem dX7_leastSquared_26 : decode mi_X7_leastSquared.2.1 26 = .ok (.iload_n 3, 1) := by decide +kernel
theorem dX7_leastSquared_27 : decode mi_X7_leastSquared.2.1 27 = .ok (.iload_n 2, 1) := by decide +kernel
theorem dX7_leastSquared_28 : decode mi_X7_leastSquared.2.1 28 = .ok (.if_icmp .gt 66, 3) := by decide +kernel
theorem dX7_leastSquared_31 : decode mi_X7_leastSquared.2.1 31 = .ok (.iload_n 2, 1) := by decide +kernel
theorem dX7_leastSquared_32 : decode mi_X7_leastSquared.2.1 32 = .ok (.ineg, 1) := by decide +kernel
theorem dX7_leastSquared_33 : decode mi_X7_leastSquared.2.1 33 = .ok (.istore 4, 2) := by decide +kernel
theorem dX7_leastSquared_35 : decode mi_X7_leastSquared.2.1 35 = .ok (.iload 4, 2) := by decide +kernel
theorem dX7_leastSquared_37 : decode mi_X7_leastSquared.2.1 37 = .ok (.iload_n 2, 1) := by decide +kernel
theorem dX7_leastSquared_38 : decode mi_X7_leastSquared.2.1 38 = .ok (.if_icmp .gt 50, 3) := by decide +kernel
theorem dX7_leastSquared_41 : decode mi_X7_leastSquared.2.1 41 = .ok (.aload_n 0, 1) := by decide +kernel
theorem dX7_leastSquared_42 : decode mi_X7_leastSquared.2.1 42 = .ok (.iload_n 3, 1) := by decide +kernel
theorem dX7_leastSquared_43 : decode mi_X7_leastSquared.2.1 43 = .ok (.iload 4, 2) := by decide +kernel
theorem dX7_leastSquared_45 : decode mi_X7_leastSquared.2.1 45 = .ok (.invokevirtual 142, 3) := by decide +kernel
theorem dX7_leastSquared_48 : decode mi_X7_leastSquared.2.1 48 = .ok (.ifCond .eq 13, 3) := by decide +kernel
theorem dX7_leastSquared_51 : decode mi_X7_leastSquared.2.1 51 = .ok (.aload_n 0, 1) := by decide +kernel
theorem dX7_leastSquared_52 : decode mi_X7_leastSquared.2.1 52 = .ok (.iload_n 3, 1) := by decide +kernel
theorem dX7_leastSquared_53 : decode mi_X7_leastSquared.2.1 53 = .ok (.iload 4, 2) := by decide +kernel
theorem dX7_leastSquared_55 : decode mi_X7_leastSquared.2.1 55 = .ok (.invokevirtual 156, 3) := by decide +kernel
theorem dX7_leastSquared_58 : decode mi_X7_leastSquared.2.1 58 = .ok (.goto 4, 3) := by decide +kernel
theorem dX7_leastSquared_61 : decode mi_X7_leastSquared.2.1 61 = .ok (.iconst 0, 1) := by decide +kernel
theorem dX7_leastSquared_62 : decode mi_X7_leastSquared.2.1 62 = .ok (.istore 5, 2) := by decide +kernel
theorem dX7_leastSquared_64 : decode mi_X7_leastSquared.2.1 64 = .ok (.iload 5, 2) := by decide +kernel
theorem dX7_leastSquared_66 : decode mi_X7_leastSquared.2.1 66 = .ok (.ifCond .le 14, 3) := by decide +kernel
theorem dX7_leastSquared_69 : decode mi_X7_leastSquared.2.1 69 = .ok (.iload 5, 2) := by decide +kernel
theorem dX7_leastSquared_71 : decode mi_X7_leastSquared.2.1 71 = .ok (.iload_n 1, 1) := by decide +kernel
theorem dX7_leastSquared_72 : decode mi_X7_leastSquared.2.1 72 = .ok (.if_icmp .ge 8, 3) := by decide +kernel
theorem dX7_leastSquared_75 : decode mi_X7_leastSquared.2.1 75 = .ok (.iload 5, 2) := by decide +kernel
theorem dX7_leastSquared_77 : decode mi_X7_leastSquared.2.1 77 = .ok (.goto 4, 3) := by decide +kernel
theorem dX7_leastSquared_80 : decode mi_X7_leastSquared.2.1 80 = .ok (.iload_n 1, 1) := by decide +kernel
theorem dX7_leastSquared_81 : decode mi_X7_leastSquared.2.1 81 = .ok (.istore_n 1, 1) := by decide +kernel
theorem dX7_leastSquared_82 : decode mi_X7_leastSquared.2.1 82 = .ok (.iinc 4 1, 3) := by decide +kernel
theorem dX7_leastSquared_85 : decode mi_X7_leastSquared.2.1 85 = .ok (.goto (-50), 3) := by decide +kernel
theorem dX7_leastSquared_88 : decode mi_X7_leastSquared.2.1 88 = .ok (.iinc 3 1, 3) := by decide +kernel
theorem dX7_leastSquared_91 : decode mi_X7_leastSquared.2.1 91 = .ok (.goto (-65), 3) := by decide +kernel
theorem dX7_leastSquared_94 : decode mi_X7_leastSquared.2.1 94 = .ok (.iload_n 1, 1) := by decide +kernel
theorem dX7_leastSquared_95 : decode mi_X7_leastSquared.2.1 95 = .ok (.ireturn, 1) := by decide +kernel
theorem dX7_isShortestFixed_0 : decode mi_X7_isShortestFixed.2.1 0 = .ok (.aload_n 0, 1) := by decide +kernel
theorem dX7_isShortestFixed_1 : decode mi_X7_isShortestFixed.2.1 1 = .ok (.iconst 0, 1) := by decide +kernel
theorem dX7_isShortestFixed_2 : decode mi_X7_isShortestFixed.2.1 2 = .ok (.invokevirtual 126, 3) := by decide +kernel
theorem dX7_isShortestFixed_5 : decode mi_X7_isShortestFixed.2.1 5 = .ok (.istore_n 1, 1) := by decide +kernel
theorem dX7_isShortestFixed_6 : decode mi_X7_isShortestFixed.2.1 6 = .ok (.aload_n 0, 1) := by decide +kernel
theorem dX7_isShortestFixed_7 : decode mi_X7_isShortestFixed.2.1 7 = .ok (.invokevirtual 159, 3) := by decide +kernel
theorem dX7_isShortestFixed_10 : decode mi_X7_isShortestFixed.2.1 10 = .ok (.istore_n 2, 1) := by decide +kernel
theorem dX7_isShortestFixed_11 : decode mi_X7_isShortestFixed.2.1 11 = .ok (.iconst 2, 1) := by decide +kernel
theorem dX7_isShortestFixed_12 : decode mi_X7_isShortestFixed.2.1 12 = .ok (.aload_n 0, 1) := by decide +kernel
theorem dX7_isShortestFixed_13 : decode mi_X7_isShortestFixed.2.1 13 = .ok (.getfield 7, 3) := by decide +kernel
theorem dX7_isShortestFixed_16 : decode mi_X7_isShortestFixed.2.1 16 = .ok (.iconst 1, 1) := by decide +kernel
theorem dX7_isShortestFixed_17 : decode mi_X7_isShortestFixed.2.1 17 = .ok (.iaload, 1) := by decide +kernel
theorem dX7_isShortestFixed_18 : decode mi_X7_isShortestFixed.2.1 18 = .ok (.imul, 1) := by decide +kernel
theorem dX7_isShortestFixed_19 : decode mi_X7_isShortestFixed.2.1 19 = .ok (.istore_n 3, 1) := by decide +kernel
theorem dX7_isShortestFixed_20 : decode mi_X7_isShortestFixed.2.1 20 = .ok (.iconst 0, 1) := by decide +kernel
theorem dX7_isShortestFixed_21 : decode mi_X7_isShortestFixed.2.1 21 = .ok (.istore 4, 2) := by decide +kernel
theorem dX7_isShortestFixed_23 : decode mi_X7_isShortestFixed.2.1 23 = .ok (.iload_n 3, 1) := by decide +kernel
theorem dX7_isShortestFixed_24 : decode mi_X7_isShortestFixed.2.1 24 = .ok (.ineg, 1) := by decide +kernel
theorem dX7_isShortestFixed_25 : decode mi_X7_isShortestFixed.2.1 25 = .ok (.istore 5, 2) := by decide +kernel
theorem dX7_isShortestFixed_27 : decode mi_X7_isShortestFixed.2.1 27 = .ok (.iload 5, 2) := by decide +kernel
theorem dX7_isShortestFixed_29 : decode mi_X7_isShortestFixed.2.1 29 = .ok (.iload_n 3, 1) := by decide +kernel
theorem dX7_isShortestFixed_30 : decode mi_X7_isShortestFixed.2.1 30 = .ok (.if_icmp .gt 135, 3) := by decide +kernel
theorem dX7_isShortestFixed_33 : decode mi_X7_isShortestFixed.2.1 33 = .ok (.iload_n 3, 1) := by decide +kernel
theorem dX7_isShortestFixed_34 : decode mi_X7_isShortestFixed.2.1 34 = .ok (.ineg, 1) := by decide +kernel
theorem dX7_isShortestFixed_35 : decode mi_X7_isShortestFixed.2.1 35 = .ok (.istore 6, 2) := by decide +kernel
theorem dX7_isShortestFixed_37 : decode mi_X7_isShortestFixed.2.1 37 = .ok (.iload 6, 2) := by decide +kernel
theorem dX7_isShortestFixed_39 : decode mi_X7_isShortestFixed.2.1 39 = .ok (.iload_n 3, 1) := by decide +kernel
theorem dX7_isShortestFixed_40 : decode mi_X7_isShortestFixed.2.1 40 = .ok (.if_icmp .gt 119, 3) := by decide +kernel
theorem dX7_isShortestFixed_43 : decode mi_X7_isShortestFixed.2.1 43 = .ok (.aload_n 0, 1) := by decide +kernel
theorem dX7_isShortestFixed_44 : decode mi_X7_isShortestFixed.2.1 44 = .ok (.iload 5, 2) := by decide +kernel
theorem dX7_isShortestFixed_46 : decode mi_X7_isShortestFixed.2.1 46 = .ok (.iload 6, 2) := by decide +kernel
theorem dX7_isShortestFixed_48 : decode mi_X7_isShortestFixed.2.1 48 = .ok (.invokevirtual 142, 3) := by decide +kernel
theorem dX7_isShortestFixed_51 : decode mi_X7_isShortestFixed.2.1 51 = .ok (.ifCond .eq 19, 3) := by decide +kernel
theorem dX7_isShortestFixed_54 : decode mi_X7_isShortestFixed.2.1 54 = .ok (.aload_n 0, 1) := by decide +kernel
theorem dX7_isShortestFixed_55 : decode mi_X7_isShortestFixed.2.1 55 = .ok (.iload 5, 2) := by decide +kernel
theorem dX7_isShortestFixed_57 : decode mi_X7_isShortestFixed.2.1 57 = .ok (.iload 6, 2) := by decide +kernel
theorem dX7_isShortestFixed_59 : decode mi_X7_isShortestFixed.2.1 59 = .ok (.invokevirtual 156, 3) := by decide +kernel
theorem dX7_isShortestFixed_62 : decode mi_X7_isShortestFixed.2.1 62 = .ok (.iload_n 2, 1) := by decide +kernel
theorem dX7_isShortestFixed_63 : decode mi_X7_isShortestFixed.2.1 63 = .ok (.if_icmp .ne 7, 3) := by decide +kernel
theorem dX7_isShortestFixed_66 : decode mi_X7_isShortestFixed.2.1 66 = .ok (.iconst 1, 1) := by decide +kernel
theorem dX7_isShortestFixed_67 : decode mi_X7_isShortestFixed.2.1 67 = .ok (.goto 4, 3) := by decide +kernel
theorem dX7_isShortestFixed_70 : decode mi_X7_isShortestFixed.2.1 70 = .ok (.iconst 0, 1) := by decide +kernel
theorem dX7_isShortestFixed_71 : decode mi_X7_isShortestFixed.2.1 71 = .ok (.istore 7, 2) := by decide +kernel
theorem dX7_isShortestFixed_73 : decode mi_X7_isShortestFixed.2.1 73 = .ok (.aload_n 0, 1) := by decide +kernel
theorem dX7_isShortestFixed_74 : decode mi_X7_isShortestFixed.2.1 74 = .ok (.getfield 36, 3) := by decide +kernel
theorem dX7_isShortestFixed_77 : decode mi_X7_isShortestFixed.2.1 77 = .ok (.iconst 2, 1) := by decide +kernel
theorem dX7_isShortestFixed_78 : decode mi_X7_isShortestFixed.2.1 78 = .ok (.idiv, 1) := by decide +kernel
theorem dX7_isShortestFixed_79 : decode mi_X7_isShortestFixed.2.1 79 = .ok (.istore 8, 2) := by decide +kernel
theorem dX7_isShortestFixed_81 : decode mi_X7_isShortestFixed.2.1 81 = .ok (.iload 8, 2) := by decide +kernel
theorem dX7_isShortestFixed_83 : decode mi_X7_isShortestFixed.2.1 83 = .ok (.aload_n 0, 1) := by decide +kernel
theorem dX7_isShortestFixed_84 : decode mi_X7_isShortestFixed.2.1 84 = .ok (.getfield 36, 3) := by decide +kernel
theorem dX7_isShortestFixed_87 : decode mi_X7_isShortestFixed.2.1 87 = .ok (.if_icmp .ge 66, 3) := by decide +kernel
theorem dX7_isShortestFixed_90 : decode mi_X7_isShortestFixed.2.1 90 = .ok (.iload 7, 2) := by decide +kernel
theorem dX7_isShortestFixed_92 : decode mi_X7_isShortestFixed.2.1 92 = .ok (.ifCond .eq 61, 3) := by decide +kernel
theorem dX7_isShortestFixed_95 : decode mi_X7_isShortestFixed.2.1 95 = .ok (.iload 4, 2) := by decide +kernel
theorem dX7_isShortestFixed_97 : decode mi_X7_isShortestFixed.2.1 97 = .ok (.ifCond .ne 43, 3) := by decide +kernel
theorem dX7_isShortestFixed_100 : decode mi_X7_isShortestFixed.2.1 100 = .ok (.iload_n 1, 1) := by decide +kernel
theorem dX7_isShortestFixed_101 : decode mi_X7_isShortestFixed.2.1 101 = .ok (.iload 8, 2) := by decide +kernel
theorem dX7_isShortestFixed_103 : decode mi_X7_isShortestFixed.2.1 103 = .ok (.ishr, 1) := by decide +kernel
theorem dX7_isShortestFixed_104 : decode mi_X7_isShortestFixed.2.1 104 = .ok (.iconst 1, 1) := by decide +kernel
theorem dX7_isShortestFixed_105 : decode mi_X7_isShortestFixed.2.1 105 = .ok (.iand, 1) := by decide +kernel
theorem dX7_isShortestFixed_106 : decode mi_X7_isShortestFixed.2.1 106 = .ok (.iconst 1, 1) := by decide +kernel
theorem dX7_isShortestFixed_107 : decode mi_X7_isShortestFixed.2.1 107 = .ok (.if_icmp .ne 37, 3) := by decide +kernel
theorem dX7_isShortestFixed_110 : decode mi_X7_isShortestFixed.2.1 110 = .ok (.aload_n 0, 1) := by decide +kernel
theorem dX7_isShortestFixed_111 : decode mi_X7_isShortestFixed.2.1 111 = .ok (.iload 8, 2) := by decide +kernel
theorem dX7_isShortestFixed_113 : decode mi_X7_isShortestFixed.2.1 113 = .ok (.iload 5, 2) := by decide +kernel
theorem dX7_isShortestFixed_115 : decode mi_X7_isShortestFixed.2.1 115 = .ok (.iload 6, 2) := by decide +kernel
theorem dX7_isShortestFixed_117 : decode mi_X7_isShortestFixed.2.1 117 = .ok (.invokevirtual 68, 3) := by decide +kernel
theorem dX7_isShortestFixed_120 : decode mi_X7_isShortestFixed.2.1 120 = .ok (.iload 5, 2) := by decide +kernel
theorem dX7_isShortestFixed_122 : decode mi_X7_isShortestFixed.2.1 122 = .ok (.if_icmp .ne 22, 3) := by decide +kernel
theorem dX7_isShortestFixed_125 : decode mi_X7_isShortestFixed.2.1 125 = .ok (.aload_n 0, 1) := by decide +kernel
theorem dX7_isShortestFixed_126 : decode mi_X7_isShortestFixed.2.1 126 = .ok (.iload 8, 2) := by decide +kernel
theorem dX7_isShortestFixed_128 : decode mi_X7_isShortestFixed.2.1 128 = .ok (.iload 5, 2) := by decide +kernel
theorem dX7_isShortestFixed_130 : decode mi_X7_isShortestFixed.2.1 130 = .ok (.iload 6, 2) := by decide +kernel
theorem dX7_isShortestFixed_132 : decode mi_X7_isShortestFixed.2.1 132 = .ok (.invokevirtual 72, 3) := by decide +kernel
theorem dX7_isShortestFixed_135 : decode mi_X7_isShortestFixed.2.1 135 = .ok (.iload 6, 2) := by decide +kernel
theorem dX7_isShortestFixed_137 : decode mi_X7_isShortestFixed.2.1 137 = .ok (.if_icmp .ne 7, 3) := by decide +kernel
theorem dX7_isShortestFixed_140 : decode mi_X7_isShortestFixed.2.1 140 = .ok (.iconst 1, 1) := by decide +kernel
theorem dX7_isShortestFixed_141 : decode mi_X7_isShortestFixed.2.1 141 = .ok (.goto 4, 3) := by decide +kernel
theorem dX7_isShortestFixed_144 : decode mi_X7_isShortestFixed.2.1 144 = .ok (.iconst 0, 1) := by decide +kernel
theorem dX7_isShortestFixed_145 : decode mi_X7_isShortestFixed.2.1 145 = .ok (.istore 4, 2) := by decide +kernel
theorem dX7_isShortestFixed_147 : decode mi_X7_isShortestFixed.2.1 147 = .ok (.iinc 8 1, 3) := by decide +kernel
theorem dX7_isShortestFixed_150 : decode mi_X7_isShortestFixed.2.1 150 = .ok (.goto (-69), 3) := by decide +kernel
theorem dX7_isShortestFixed_153 : decode mi_X7_isShortestFixed.2.1 153 = .ok (.iinc 6 1, 3) := by decide +kernel
theorem dX7_isShortestFixed_156 : decode mi_X7_isShortestFixed.2.1 156 = .ok (.goto (-119), 3) := by decide +kernel
theorem dX7_isShortestFixed_159 : decode mi_X7_isShortestFixed.2.1 159 = .ok (.iinc 5 1, 3) := by decide +kernel
theorem dX7_isShortestFixed_162 : decode mi_X7_isShortestFixed.2.1 162 = .ok (.goto (-135), 3) := by decide +kernel
theorem dX7_isShortestFixed_165 : decode mi_X7_isShortestFixed.2.1 165 = .ok (.iload 4, 2) := by decide +kernel
theorem dX7_isShortestFixed_167 : decode mi_X7_isShortestFixed.2.1 167 = .ok (.ireturn, 1) := by decide +kernel
theorem dX7_type_0 : decode mi_X7_type.2.1 0 = .ok (.aload_n 0, 1) := by decide +kernel
theorem dX7_type_1 : decode mi_X7_type.2.1 1 = .ok (.invokevirtual 136, 3) := by decide +kernel
theorem dX7_type_4 : decode mi_X7_type.2.1 4 = .ok (.istore_n 1, 1) := by decide +kernel
theorem dX7_type_5 : decode mi_X7_type.2.1 5 = .ok (.aload_n 0, 1) := by decide +kernel
theorem dX7_type_6 : decode mi_X7_type.2.1 6 = .ok (.iconst 0, 1) := by decide +kernel
theorem dX7_type_7 : decode mi_X7_type.2.1 7 = .ok (.invokevirtual 126, 3) := by decide +kernel
theorem dX7_type_10 : decode mi_X7_type.2.1 10 = .ok (.aload_n 0, 1) := by decide +kernel
theorem dX7_type_11 : decode mi_X7_type.2.1 11 = .ok (.getfield 36, 3) := by decide +kernel
theorem dX7_type_14 : decode mi_X7_type.2.1 14 = .ok (.iconst 2, 1) := by decide +kernel
theorem dX7_type_15 : decode mi_X7_type.2.1 15 = .ok (.idiv, 1) := by decide +kernel
theorem dX7_type_16 : decode mi_X7_type.2.1 16 = .ok (.ishr, 1) := by decide +kernel
theorem dX7_type_17 : decode mi_X7_type.2.1 17 = .ok (.ifCond .ne 7, 3) := by decide +kernel
theorem dX7_type_20 : decode mi_X7_type.2.1 20 = .ok (.iconst 1, 1) := by decide +kernel
theorem dX7_type_21 : decode mi_X7_type.2.1 21 = .ok (.goto 4, 3) := by decide +kernel
theorem dX7_type_24 : decode mi_X7_type.2.1 24 = .ok (.iconst 0, 1) := by decide +kernel
theorem dX7_type_25 : decode mi_X7_type.2.1 25 = .ok (.istore_n 2, 1) := by decide +kernel
theorem dX7_type_26 : decode mi_X7_type.2.1 26 = .ok (.aload_n 0, 1) := by decide +kernel
theorem dX7_type_27 : decode mi_X7_type.2.1 27 = .ok (.invokevirtual 139, 3) := by decide +kernel
theorem dX7_type_30 : decode mi_X7_type.2.1 30 = .ok (.istore_n 3, 1) := by decide +kernel
theorem dX7_type_31 : decode mi_X7_type.2.1 31 = .ok (.iload_n 1, 1) := by decide +kernel
theorem dX7_type_32 : decode mi_X7_type.2.1 32 = .ok (.tableswitch 148 1 4 #[32, 61, 102, 126], 32) := by decide +kernel
theorem dX7_type_64 : decode mi_X7_type.2.1 64 = .ok (.iload_n 2, 1) := by decide +kernel
theorem dX7_type_65 : decode mi_X7_type.2.1 65 = .ok (.ifCond .eq 7, 3) := by decide +kernel
theorem dX7_type_68 : decode mi_X7_type.2.1 68 = .ok (.iconst 0, 1) := by decide +kernel
theorem dX7_type_69 : decode mi_X7_type.2.1 69 = .ok (.goto 23, 3) := by decide +kernel
theorem dX7_type_72 : decode mi_X7_type.2.1 72 = .ok (.iload_n 3, 1) := by decide +kernel
theorem dX7_type_73 : decode mi_X7_type.2.1 73 = .ok (.ifCond .ne 7, 3) := by decide +kernel
theorem dX7_type_76 : decode mi_X7_type.2.1 76 = .ok (.iconst 1, 1) := by decide +kernel
theorem dX7_type_77 : decode mi_X7_type.2.1 77 = .ok (.goto 15, 3) := by decide +kernel
theorem dX7_type_80 : decode mi_X7_type.2.1 80 = .ok (.aload_n 0, 1) := by decide +kernel
theorem dX7_type_81 : decode mi_X7_type.2.1 81 = .ok (.invokevirtual 152, 3) := by decide +kernel
theorem dX7_type_84 : decode mi_X7_type.2.1 84 = .ok (.ifCond .eq 7, 3) := by decide +kernel
theorem dX7_type_87 : decode mi_X7_type.2.1 87 = .ok (.iconst 2, 1) := by decide +kernel
theorem dX7_type_88 : decode mi_X7_type.2.1 88 = .ok (.goto 4, 3) := by decide +kernel
theorem dX7_type_91 : decode mi_X7_type.2.1 91 = .ok (.iconst 3, 1) := by decide +kernel
theorem dX7_type_92 : decode mi_X7_type.2.1 92 = .ok (.ireturn, 1) := by decide +kernel
theorem dX7_type_93 : decode mi_X7_type.2.1 93 = .ok (.iload_n 2, 1) := by decide +kernel
theorem dX7_type_94 : decode mi_X7_type.2.1 94 = .ok (.ifCond .eq 7, 3) := by decide +kernel
theorem dX7_type_97 : decode mi_X7_type.2.1 97 = .ok (.iconst 4, 1) := by decide +kernel
theorem dX7_type_98 : decode mi_X7_type.2.1 98 = .ok (.goto 35, 3) := by decide +kernel
theorem dX7_type_101 : decode mi_X7_type.2.1 101 = .ok (.iload_n 3, 1) := by decide +kernel
theorem dX7_type_102 : decode mi_X7_type.2.1 102 = .ok (.ifCond .ne 7, 3) := by decide +kernel
theorem dX7_type_105 : decode mi_X7_type.2.1 105 = .ok (.iconst 5, 1) := by decide +kernel
theorem dX7_type_106 : decode mi_X7_type.2.1 106 = .ok (.goto 27, 3) := by decide +kernel
theorem dX7_type_109 : decode mi_X7_type.2.1 109 = .ok (.iload_n 3, 1) := by decide +kernel
theorem dX7_type_110 : decode mi_X7_type.2.1 110 = .ok (.iconst 1, 1) := by decide +kernel
theorem dX7_type_111 : decode mi_X7_type.2.1 111 = .ok (.if_icmp .ne 8, 3) := by decide +kernel
theorem dX7_type_114 : decode mi_X7_type.2.1 114 = .ok (.bipush 6, 2) := by decide +kernel
theorem dX7_type_116 : decode mi_X7_type.2.1 116 = .ok (.goto 17, 3) := by decide +kernel
theorem dX7_type_119 : decode mi_X7_type.2.1 119 = .ok (.aload_n 0, 1) := by decide +kernel
theorem dX7_type_120 : decode mi_X7_type.2.1 120 = .ok (.invokevirtual 152, 3) := by decide +kernel
theorem dX7_type_123 : decode mi_X7_type.2.1 123 = .ok (.ifCond .eq 8, 3) := by decide +kernel
theorem dX7_type_126 : decode mi_X7_type.2.1 126 = .ok (.bipush 7, 2) := by decide +kernel
theorem dX7_type_128 : decode mi_X7_type.2.1 128 = .ok (.goto 5, 3) := by decide +kernel
theorem dX7_type_131 : decode mi_X7_type.2.1 131 = .ok (.bipush 8, 2) := by decide +kernel
theorem dX7_type_133 : decode mi_X7_type.2.1 133 = .ok (.ireturn, 1) := by decide +kernel
theorem dX7_type_134 : decode mi_X7_type.2.1 134 = .ok (.iload_n 2, 1) := by decide +kernel
theorem dX7_type_135 : decode mi_X7_type.2.1 135 = .ok (.ifCond .eq 8, 3) := by decide +kernel
theorem dX7_type_138 : decode mi_X7_type.2.1 138 = .ok (.bipush 9, 2) := by decide +kernel
theorem dX7_type_140 : decode mi_X7_type.2.1 140 = .ok (.goto 17, 3) := by decide +kernel
theorem dX7_type_143 : decode mi_X7_type.2.1 143 = .ok (.aload_n 0, 1) := by decide +kernel
theorem dX7_type_144 : decode mi_X7_type.2.1 144 = .ok (.invokevirtual 162, 3) := by decide +kernel
theorem dX7_type_147 : decode mi_X7_type.2.1 147 = .ok (.ifCond .eq 8, 3) := by decide +kernel
theorem dX7_type_150 : decode mi_X7_type.2.1 150 = .ok (.bipush 10, 2) := by decide +kernel
theorem dX7_type_152 : decode mi_X7_type.2.1 152 = .ok (.goto 5, 3) := by decide +kernel
theorem dX7_type_155 : decode mi_X7_type.2.1 155 = .ok (.bipush 11, 2) := by decide +kernel
theorem dX7_type_157 : decode mi_X7_type.2.1 157 = .ok (.ireturn, 1) := by decide +kernel
theorem dX7_type_158 : decode mi_X7_type.2.1 158 = .ok (.iload_n 2, 1) := by decide +kernel
theorem dX7_type_159 : decode mi_X7_type.2.1 159 = .ok (.ifCond .eq 8, 3) := by decide +kernel
theorem dX7_type_162 : decode mi_X7_type.2.1 162 = .ok (.bipush 12, 2) := by decide +kernel
theorem dX7_type_164 : decode mi_X7_type.2.1 164 = .ok (.goto 15, 3) := by decide +kernel
theorem dX7_type_167 : decode mi_X7_type.2.1 167 = .ok (.iload_n 3, 1) := by decide +kernel
theorem dX7_type_168 : decode mi_X7_type.2.1 168 = .ok (.iconst 4, 1) := by decide +kernel
theorem dX7_type_169 : decode mi_X7_type.2.1 169 = .ok (.if_icmp .ge 8, 3) := by decide +kernel
theorem dX7_type_172 : decode mi_X7_type.2.1 172 = .ok (.bipush 13, 2) := by decide +kernel
theorem dX7_type_174 : decode mi_X7_type.2.1 174 = .ok (.goto 5, 3) := by decide +kernel
theorem dX7_type_177 : decode mi_X7_type.2.1 177 = .ok (.bipush 14, 2) := by decide +kernel
theorem dX7_type_179 : decode mi_X7_type.2.1 179 = .ok (.ireturn, 1) := by decide +kernel
theorem dX7_type_180 : decode mi_X7_type.2.1 180 = .ok (.iload_n 2, 1) := by decide +kernel
theorem dX7_type_181 : decode mi_X7_type.2.1 181 = .ok (.ifCond .eq 8, 3) := by decide +kernel
theorem dX7_type_184 : decode mi_X7_type.2.1 184 = .ok (.bipush 15, 2) := by decide +kernel
theorem dX7_type_186 : decode mi_X7_type.2.1 186 = .ok (.goto 5, 3) := by decide +kernel
theorem dX7_type_189 : decode mi_X7_type.2.1 189 = .ok (.bipush 16, 2) := by decide +kernel
theorem dX7_type_191 : decode mi_X7_type.2.1 191 = .ok (.ireturn, 1) := by decide +kernel
theorem dX7_isCell_0 : decode mi_X7_isCell.2.1 0 = .ok (.iload_n 1, 1) := by decide +kernel
theorem dX7_isCell_1 : decode mi_X7_isCell.2.1 1 = .ok (.iconst 0, 1) := by decide +kernel
theorem dX7_isCell_2 : decode mi_X7_isCell.2.1 2 = .ok (.aload_n 0, 1) := by decide +kernel
theorem dX7_isCell_3 : decode mi_X7_isCell.2.1 3 = .ok (.getfield 7, 3) := by decide +kernel
theorem dX7_isCell_6 : decode mi_X7_isCell.2.1 6 = .ok (.iconst 1, 1) := by decide +kernel
theorem dX7_isCell_7 : decode mi_X7_isCell.2.1 7 = .ok (.iaload, 1) := by decide +kernel
theorem dX7_isCell_8 : decode mi_X7_isCell.2.1 8 = .ok (.iconst 1, 1) := by decide +kernel
theorem dX7_isCell_9 : decode mi_X7_isCell.2.1 9 = .ok (.isub, 1) := by decide +kernel
theorem dX7_isCell_10 : decode mi_X7_isCell.2.1 10 = .ok (.invokestatic 78, 3) := by decide +kernel
theorem dX7_isCell_13 : decode mi_X7_isCell.2.1 13 = .ok (.ifCond .eq 23, 3) := by decide +kernel
theorem dX7_isCell_16 : decode mi_X7_isCell.2.1 16 = .ok (.iload_n 2, 1) := by decide +kernel
theorem dX7_isCell_17 : decode mi_X7_isCell.2.1 17 = .ok (.iconst 0, 1) := by decide +kernel
theorem dX7_isCell_18 : decode mi_X7_isCell.2.1 18 = .ok (.aload_n 0, 1) := by decide +kernel
theorem dX7_isCell_19 : decode mi_X7_isCell.2.1 19 = .ok (.getfield 7, 3) := by decide +kernel
theorem dX7_isCell_22 : decode mi_X7_isCell.2.1 22 = .ok (.iconst 1, 1) := by decide +kernel
theorem dX7_isCell_23 : decode mi_X7_isCell.2.1 23 = .ok (.iaload, 1) := by decide +kernel
theorem dX7_isCell_24 : decode mi_X7_isCell.2.1 24 = .ok (.iconst 1, 1) := by decide +kernel
theorem dX7_isCell_25 : decode mi_X7_isCell.2.1 25 = .ok (.isub, 1) := by decide +kernel
theorem dX7_isCell_26 : decode mi_X7_isCell.2.1 26 = .ok (.invokestatic 78, 3) := by decide +kernel
theorem dX7_isCell_29 : decode mi_X7_isCell.2.1 29 = .ok (.ifCond .eq 7, 3) := by decide +kernel
theorem dX7_isCell_32 : decode mi_X7_isCell.2.1 32 = .ok (.iconst 1, 1) := by decide +kernel
theorem dX7_isCell_33 : decode mi_X7_isCell.2.1 33 = .ok (.goto 4, 3) := by decide +kernel
theorem dX7_isCell_36 : decode mi_X7_isCell.2.1 36 = .ok (.iconst 0, 1) := by decide +kernel
theorem dX7_isCell_37 : decode mi_X7_isCell.2.1 37 = .ok (.ireturn, 1) := by decide +kernel
theorem dX7_orbit_0 : decode mi_X7_orbit.2.1 0 = .ok (.iconst 0, 1) := by decide +kernel
theorem dX7_orbit_1 : decode mi_X7_orbit.2.1 1 = .ok (.istore_n 2, 1) := by decide +kernel
theorem dX7_orbit_2 : decode mi_X7_orbit.2.1 2 = .ok (.iconst 0, 1) := by decide +kernel
theorem dX7_orbit_3 : decode mi_X7_orbit.2.1 3 = .ok (.istore_n 3, 1) := by decide +kernel
theorem dX7_orbit_4 : decode mi_X7_orbit.2.1 4 = .ok (.iload_n 3, 1) := by decide +kernel
theorem dX7_orbit_5 : decode mi_X7_orbit.2.1 5 = .ok (.aload_n 0, 1) := by decide +kernel
theorem dX7_orbit_6 : decode mi_X7_orbit.2.1 6 = .ok (.getfield 92, 3) := by decide +kernel
theorem dX7_orbit_9 : decode mi_X7_orbit.2.1 9 = .ok (.if_icmp .ge 25, 3) := by decide +kernel
theorem dX7_orbit_12 : decode mi_X7_orbit.2.1 12 = .ok (.iload_n 2, 1) := by decide +kernel
theorem dX7_orbit_13 : decode mi_X7_orbit.2.1 13 = .ok (.iconst 1, 1) := by decide +kernel
theorem dX7_orbit_14 : decode mi_X7_orbit.2.1 14 = .ok (.aload_n 0, 1) := by decide +kernel
theorem dX7_orbit_15 : decode mi_X7_orbit.2.1 15 = .ok (.aload_n 0, 1) := by decide +kernel
theorem dX7_orbit_16 : decode mi_X7_orbit.2.1 16 = .ok (.getfield 26, 3) := by decide +kernel
theorem dX7_orbit_19 : decode mi_X7_orbit.2.1 19 = .ok (.iload_n 3, 1) := by decide +kernel
theorem dX7_orbit_20 : decode mi_X7_orbit.2.1 20 = .ok (.iaload, 1) := by decide +kernel
theorem dX7_orbit_21 : decode mi_X7_orbit.2.1 21 = .ok (.iload_n 1, 1) := by decide +kernel
theorem dX7_orbit_22 : decode mi_X7_orbit.2.1 22 = .ok (.invokevirtual 165, 3) := by decide +kernel
theorem dX7_orbit_25 : decode mi_X7_orbit.2.1 25 = .ok (.ishl, 1) := by decide +kernel
theorem dX7_orbit_26 : decode mi_X7_orbit.2.1 26 = .ok (.ior, 1) := by decide +kernel
theorem dX7_orbit_27 : decode mi_X7_orbit.2.1 27 = .ok (.istore_n 2, 1) := by decide +kernel
theorem dX7_orbit_28 : decode mi_X7_orbit.2.1 28 = .ok (.iinc 3 1, 3) := by decide +kernel
theorem dX7_orbit_31 : decode mi_X7_orbit.2.1 31 = .ok (.goto (-27), 3) := by decide +kernel
theorem dX7_orbit_34 : decode mi_X7_orbit.2.1 34 = .ok (.iload_n 2, 1) := by decide +kernel
theorem dX7_orbit_35 : decode mi_X7_orbit.2.1 35 = .ok (.ireturn, 1) := by decide +kernel
theorem dX7_many_0 : decode mi_X7_many.2.1 0 = .ok (.iconst 0, 1) := by decide +kernel
theorem dX7_many_1 : decode mi_X7_many.2.1 1 = .ok (.istore_n 1, 1) := by decide +kernel
theorem dX7_many_2 : decode mi_X7_many.2.1 2 = .ok (.iconst 0, 1) := by decide +kernel
theorem dX7_many_3 : decode mi_X7_many.2.1 3 = .ok (.istore_n 2, 1) := by decide +kernel
theorem dX7_many_4 : decode mi_X7_many.2.1 4 = .ok (.iload_n 2, 1) := by decide +kernel
theorem dX7_many_5 : decode mi_X7_many.2.1 5 = .ok (.bipush 25, 2) := by decide +kernel
theorem dX7_many_7 : decode mi_X7_many.2.1 7 = .ok (.if_icmp .ge 17, 3) := by decide +kernel
theorem dX7_many_10 : decode mi_X7_many.2.1 10 = .ok (.iload_n 1, 1) := by decide +kernel
theorem dX7_many_11 : decode mi_X7_many.2.1 11 = .ok (.iload_n 0, 1) := by decide +kernel
theorem dX7_many_12 : decode mi_X7_many.2.1 12 = .ok (.iload_n 2, 1) := by decide +kernel
theorem dX7_many_13 : decode mi_X7_many.2.1 13 = .ok (.ishr, 1) := by decide +kernel
theorem dX7_many_14 : decode mi_X7_many.2.1 14 = .ok (.iconst 1, 1) := by decide +kernel
theorem dX7_many_15 : decode mi_X7_many.2.1 15 = .ok (.iand, 1) := by decide +kernel
theorem dX7_many_16 : decode mi_X7_many.2.1 16 = .ok (.iadd, 1) := by decide +kernel
theorem dX7_many_17 : decode mi_X7_many.2.1 17 = .ok (.istore_n 1, 1) := by decide +kernel
theorem dX7_many_18 : decode mi_X7_many.2.1 18 = .ok (.iinc 2 1, 3) := by decide +kernel
theorem dX7_many_21 : decode mi_X7_many.2.1 21 = .ok (.goto (-17), 3) := by decide +kernel
theorem dX7_many_24 : decode mi_X7_many.2.1 24 = .ok (.iload_n 1, 1) := by decide +kernel
theorem dX7_many_25 : decode mi_X7_many.2.1 25 = .ok (.ireturn, 1) := by decide +kernel
theorem dX7_first_0 : decode mi_X7_first.2.1 0 = .ok (.iconst 0, 1) := by decide +kernel
theorem dX7_first_1 : decode mi_X7_first.2.1 1 = .ok (.istore_n 1, 1) := by decide +kernel
theorem dX7_first_2 : decode mi_X7_first.2.1 2 = .ok (.iload_n 0, 1) := by decide +kernel
theorem dX7_first_3 : decode mi_X7_first.2.1 3 = .ok (.iload_n 1, 1) := by decide +kernel
theorem dX7_first_4 : decode mi_X7_first.2.1 4 = .ok (.ishr, 1) := by decide +kernel
theorem dX7_first_5 : decode mi_X7_first.2.1 5 = .ok (.iconst 1, 1) := by decide +kernel
theorem dX7_first_6 : decode mi_X7_first.2.1 6 = .ok (.iand, 1) := by decide +kernel
theorem dX7_first_7 : decode mi_X7_first.2.1 7 = .ok (.ifCond .ne 9, 3) := by decide +kernel
theorem dX7_first_10 : decode mi_X7_first.2.1 10 = .ok (.iinc 1 1, 3) := by decide +kernel
theorem dX7_first_13 : decode mi_X7_first.2.1 13 = .ok (.goto (-11), 3) := by decide +kernel
theorem dX7_first_16 : decode mi_X7_first.2.1 16 = .ok (.iload_n 1, 1) := by decide +kernel
theorem dX7_first_17 : decode mi_X7_first.2.1 17 = .ok (.ireturn, 1) := by decide +kernel
theorem dX7_orbitSize_0 : decode mi_X7_orbitSize.2.1 0 = .ok (.aload_n 0, 1) := by decide +kernel
theorem dX7_orbitSize_1 : decode mi_X7_orbitSize.2.1 1 = .ok (.iload_n 1, 1) := by decide +kernel
theorem dX7_orbitSize_2 : decode mi_X7_orbitSize.2.1 2 = .ok (.iload_n 2, 1) := by decide +kernel
theorem dX7_orbitSize_3 : decode mi_X7_orbitSize.2.1 3 = .ok (.invokevirtual 168, 3) := by decide +kernel
theorem dX7_orbitSize_6 : decode mi_X7_orbitSize.2.1 6 = .ok (.ifCond .eq 23, 3) := by decide +kernel
theorem dX7_orbitSize_9 : decode mi_X7_orbitSize.2.1 9 = .ok (.aload_n 0, 1) := by decide +kernel
theorem dX7_orbitSize_10 : decode mi_X7_orbitSize.2.1 10 = .ok (.aload_n 0, 1) := by decide +kernel
theorem dX7_orbitSize_11 : decode mi_X7_orbitSize.2.1 11 = .ok (.getfield 7, 3) := by decide +kernel
theorem dX7_orbitSize_14 : decode mi_X7_orbitSize.2.1 14 = .ok (.iconst 1, 1) := by decide +kernel
theorem dX7_orbitSize_15 : decode mi_X7_orbitSize.2.1 15 = .ok (.iaload, 1) := by decide +kernel
theorem dX7_orbitSize_16 : decode mi_X7_orbitSize.2.1 16 = .ok (.iload_n 1, 1) := by decide +kernel
theorem dX7_orbitSize_17 : decode mi_X7_orbitSize.2.1 17 = .ok (.imul, 1) := by decide +kernel
theorem dX7_orbitSize_18 : decode mi_X7_orbitSize.2.1 18 = .ok (.iload_n 2, 1) := by decide +kernel
theorem dX7_orbitSize_19 : decode mi_X7_orbitSize.2.1 19 = .ok (.iadd, 1) := by decide +kernel
theorem dX7_orbitSize_20 : decode mi_X7_orbitSize.2.1 20 = .ok (.invokevirtual 171, 3) := by decide +kernel
theorem dX7_orbitSize_23 : decode mi_X7_orbitSize.2.1 23 = .ok (.invokestatic 174, 3) := by decide +kernel
theorem dX7_orbitSize_26 : decode mi_X7_orbitSize.2.1 26 = .ok (.goto 4, 3) := by decide +kernel
theorem dX7_orbitSize_29 : decode mi_X7_orbitSize.2.1 29 = .ok (.iconst (-1), 1) := by decide +kernel
theorem dX7_orbitSize_30 : decode mi_X7_orbitSize.2.1 30 = .ok (.ireturn, 1) := by decide +kernel
theorem dX7_orbitFirst_0 : decode mi_X7_orbitFirst.2.1 0 = .ok (.aload_n 0, 1) := by decide +kernel
theorem dX7_orbitFirst_1 : decode mi_X7_orbitFirst.2.1 1 = .ok (.iload_n 1, 1) := by decide +kernel
theorem dX7_orbitFirst_2 : decode mi_X7_orbitFirst.2.1 2 = .ok (.iload_n 2, 1) := by decide +kernel
theorem dX7_orbitFirst_3 : decode mi_X7_orbitFirst.2.1 3 = .ok (.invokevirtual 168, 3) := by decide +kernel
theorem dX7_orbitFirst_6 : decode mi_X7_orbitFirst.2.1 6 = .ok (.ifCond .eq 23, 3) := by decide +kernel
theorem dX7_orbitFirst_9 : decode mi_X7_orbitFirst.2.1 9 = .ok (.aload_n 0, 1) := by decide +kernel
theorem dX7_orbitFirst_10 : decode mi_X7_orbitFirst.2.1 10 = .ok (.aload_n 0, 1) := by decide +kernel
theorem dX7_orbitFirst_11 : decode mi_X7_orbitFirst.2.1 11 = .ok (.getfield 7, 3) := by decide +kernel
theorem dX7_orbitFirst_14 : decode mi_X7_orbitFirst.2.1 14 = .ok (.iconst 1, 1) := by decide +kernel
theorem dX7_orbitFirst_15 : decode mi_X7_orbitFirst.2.1 15 = .ok (.iaload, 1) := by decide +kernel
theorem dX7_orbitFirst_16 : decode mi_X7_orbitFirst.2.1 16 = .ok (.iload_n 1, 1) := by decide +kernel
theorem dX7_orbitFirst_17 : decode mi_X7_orbitFirst.2.1 17 = .ok (.imul, 1) := by decide +kernel
theorem dX7_orbitFirst_18 : decode mi_X7_orbitFirst.2.1 18 = .ok (.iload_n 2, 1) := by decide +kernel
theorem dX7_orbitFirst_19 : decode mi_X7_orbitFirst.2.1 19 = .ok (.iadd, 1) := by decide +kernel
theorem dX7_orbitFirst_20 : decode mi_X7_orbitFirst.2.1 20 = .ok (.invokevirtual 171, 3) := by decide +kernel
theorem dX7_orbitFirst_23 : decode mi_X7_orbitFirst.2.1 23 = .ok (.invokestatic 177, 3) := by decide +kernel
theorem dX7_orbitFirst_26 : decode mi_X7_orbitFirst.2.1 26 = .ok (.goto 4, 3) := by decide +kernel
theorem dX7_orbitFirst_29 : decode mi_X7_orbitFirst.2.1 29 = .ok (.iconst (-1), 1) := by decide +kernel
theorem dX7_orbitFirst_30 : decode mi_X7_orbitFirst.2.1 30 = .ok (.ireturn, 1) := by decide +kernel
theorem dX7_stabilizer_0 : decode mi_X7_stabilizer.2.1 0 = .ok (.iconst 0, 1) := by decide +kernel
theorem dX7_stabilizer_1 : decode mi_X7_stabilizer.2.1 1 = .ok (.istore_n 2, 1) := by decide +kernel
theorem dX7_stabilizer_2 : decode mi_X7_stabilizer.2.1 2 = .ok (.iconst 0, 1) := by decide +kernel
theorem dX7_stabilizer_3 : decode mi_X7_stabilizer.2.1 3 = .ok (.istore_n 3, 1) := by decide +kernel
theorem dX7_stabilizer_4 : decode mi_X7_stabilizer.2.1 4 = .ok (.iload_n 3, 1) := by decide +kernel
theorem dX7_stabilizer_5 : decode mi_X7_stabilizer.2.1 5 = .ok (.aload_n 0, 1) := by decide +kernel
theorem dX7_stabilizer_6 : decode mi_X7_stabilizer.2.1 6 = .ok (.getfield 92, 3) := by decide +kernel
theorem dX7_stabilizer_9 : decode mi_X7_stabilizer.2.1 9 = .ok (.if_icmp .ge 32, 3) := by decide +kernel
theorem dX7_stabilizer_12 : decode mi_X7_stabilizer.2.1 12 = .ok (.iload_n 2, 1) := by decide +kernel
theorem dX7_stabilizer_13 : decode mi_X7_stabilizer.2.1 13 = .ok (.aload_n 0, 1) := by decide +kernel
theorem dX7_stabilizer_14 : decode mi_X7_stabilizer.2.1 14 = .ok (.aload_n 0, 1) := by decide +kernel
theorem dX7_stabilizer_15 : decode mi_X7_stabilizer.2.1 15 = .ok (.getfield 26, 3) := by decide +kernel
theorem dX7_stabilizer_18 : decode mi_X7_stabilizer.2.1 18 = .ok (.iload_n 3, 1) := by decide +kernel
theorem dX7_stabilizer_19 : decode mi_X7_stabilizer.2.1 19 = .ok (.iaload, 1) := by decide +kernel
theorem dX7_stabilizer_20 : decode mi_X7_stabilizer.2.1 20 = .ok (.iload_n 1, 1) := by decide +kernel
theorem dX7_stabilizer_21 : decode mi_X7_stabilizer.2.1 21 = .ok (.invokevirtual 165, 3) := by decide +kernel
theorem dX7_stabilizer_24 : decode mi_X7_stabilizer.2.1 24 = .ok (.iload_n 1, 1) := by decide +kernel
theorem dX7_stabilizer_25 : decode mi_X7_stabilizer.2.1 25 = .ok (.if_icmp .ne 7, 3) := by decide +kernel
theorem dX7_stabilizer_28 : decode mi_X7_stabilizer.2.1 28 = .ok (.iconst 1, 1) := by decide +kernel
theorem dX7_stabilizer_29 : decode mi_X7_stabilizer.2.1 29 = .ok (.goto 4, 3) := by decide +kernel
theorem dX7_stabilizer_32 : decode mi_X7_stabilizer.2.1 32 = .ok (.iconst 0, 1) := by decide +kernel
theorem dX7_stabilizer_33 : decode mi_X7_stabilizer.2.1 33 = .ok (.iadd, 1) := by decide +kernel
theorem dX7_stabilizer_34 : decode mi_X7_stabilizer.2.1 34 = .ok (.istore_n 2, 1) := by decide +kernel
theorem dX7_stabilizer_35 : decode mi_X7_stabilizer.2.1 35 = .ok (.iinc 3 1, 3) := by decide +kernel
theorem dX7_stabilizer_38 : decode mi_X7_stabilizer.2.1 38 = .ok (.goto (-34), 3) := by decide +kernel
theorem dX7_stabilizer_41 : decode mi_X7_stabilizer.2.1 41 = .ok (.iload_n 2, 1) := by decide +kernel
theorem dX7_stabilizer_42 : decode mi_X7_stabilizer.2.1 42 = .ok (.ireturn, 1) := by decide +kernel
theorem dX7_stabilizerOrder_0 : decode mi_X7_stabilizerOrder.2.1 0 = .ok (.aload_n 0, 1) := by decide +kernel
theorem dX7_stabilizerOrder_1 : decode mi_X7_stabilizerOrder.2.1 1 = .ok (.iload_n 1, 1) := by decide +kernel
theorem dX7_stabilizerOrder_2 : decode mi_X7_stabilizerOrder.2.1 2 = .ok (.iload_n 2, 1) := by decide +kernel
theorem dX7_stabilizerOrder_3 : decode mi_X7_stabilizerOrder.2.1 3 = .ok (.invokevirtual 168, 3) := by decide +kernel
theorem dX7_stabilizerOrder_6 : decode mi_X7_stabilizerOrder.2.1 6 = .ok (.ifCond .eq 20, 3) := by decide +kernel
theorem dX7_stabilizerOrder_9 : decode mi_X7_stabilizerOrder.2.1 9 = .ok (.aload_n 0, 1) := by decide +kernel
theorem dX7_stabilizerOrder_10 : decode mi_X7_stabilizerOrder.2.1 10 = .ok (.aload_n 0, 1) := by decide +kernel
theorem dX7_stabilizerOrder_11 : decode mi_X7_stabilizerOrder.2.1 11 = .ok (.getfield 7, 3) := by decide +kernel
theorem dX7_stabilizerOrder_14 : decode mi_X7_stabilizerOrder.2.1 14 = .ok (.iconst 1, 1) := by decide +kernel
theorem dX7_stabilizerOrder_15 : decode mi_X7_stabilizerOrder.2.1 15 = .ok (.iaload, 1) := by decide +kernel
theorem dX7_stabilizerOrder_16 : decode mi_X7_stabilizerOrder.2.1 16 = .ok (.iload_n 1, 1) := by decide +kernel
theorem dX7_stabilizerOrder_17 : decode mi_X7_stabilizerOrder.2.1 17 = .ok (.imul, 1) := by decide +kernel
theorem dX7_stabilizerOrder_18 : decode mi_X7_stabilizerOrder.2.1 18 = .ok (.iload_n 2, 1) := by decide +kernel
theorem dX7_stabilizerOrder_19 : decode mi_X7_stabilizerOrder.2.1 19 = .ok (.iadd, 1) := by decide +kernel
theorem dX7_stabilizerOrder_20 : decode mi_X7_stabilizerOrder.2.1 20 = .ok (.invokevirtual 180, 3) := by decide +kernel
theorem dX7_stabilizerOrder_23 : decode mi_X7_stabilizerOrder.2.1 23 = .ok (.goto 4, 3) := by decide +kernel
theorem dX7_stabilizerOrder_26 : decode mi_X7_stabilizerOrder.2.1 26 = .ok (.iconst (-1), 1) := by decide +kernel
theorem dX7_stabilizerOrder_27 : decode mi_X7_stabilizerOrder.2.1 27 = .ok (.ireturn, 1) := by decide +kernel
theorem dX7_orbits_0 : decode mi_X7_orbits.2.1 0 = .ok (.iconst 0, 1) := by decide +kernel
theorem dX7_orbits_1 : decode mi_X7_orbits.2.1 1 = .ok (.istore_n 1, 1) := by decide +kernel
theorem dX7_orbits_2 : decode mi_X7_orbits.2.1 2 = .ok (.iconst 0, 1) := by decide +kernel
theorem dX7_orbits_3 : decode mi_X7_orbits.2.1 3 = .ok (.istore_n 2, 1) := by decide +kernel
theorem dX7_orbits_4 : decode mi_X7_orbits.2.1 4 = .ok (.iload_n 2, 1) := by decide +kernel
theorem dX7_orbits_5 : decode mi_X7_orbits.2.1 5 = .ok (.aload_n 0, 1) := by decide +kernel
theorem dX7_orbits_6 : decode mi_X7_orbits.2.1 6 = .ok (.invokevirtual 51, 3) := by decide +kernel
theorem dX7_orbits_9 : decode mi_X7_orbits.2.1 9 = .ok (.if_icmp .ge 29, 3) := by decide +kernel
theorem dX7_orbits_12 : decode mi_X7_orbits.2.1 12 = .ok (.iload_n 1, 1) := by decide +kernel
theorem dX7_orbits_13 : decode mi_X7_orbits.2.1 13 = .ok (.aload_n 0, 1) := by decide +kernel
theorem dX7_orbits_14 : decode mi_X7_orbits.2.1 14 = .ok (.iload_n 2, 1) := by decide +kernel
theorem dX7_orbits_15 : decode mi_X7_orbits.2.1 15 = .ok (.invokevirtual 171, 3) := by decide +kernel
theorem dX7_orbits_18 : decode mi_X7_orbits.2.1 18 = .ok (.invokestatic 177, 3) := by decide +kernel
theorem dX7_orbits_21 : decode mi_X7_orbits.2.1 21 = .ok (.iload_n 2, 1) := by decide +kernel
theorem dX7_orbits_22 : decode mi_X7_orbits.2.1 22 = .ok (.if_icmp .ne 7, 3) := by decide +kernel
theorem dX7_orbits_25 : decode mi_X7_orbits.2.1 25 = .ok (.iconst 1, 1) := by decide +kernel
theorem dX7_orbits_26 : decode mi_X7_orbits.2.1 26 = .ok (.goto 4, 3) := by decide +kernel
theorem dX7_orbits_29 : decode mi_X7_orbits.2.1 29 = .ok (.iconst 0, 1) := by decide +kernel
theorem dX7_orbits_30 : decode mi_X7_orbits.2.1 30 = .ok (.iadd, 1) := by decide +kernel
theorem dX7_orbits_31 : decode mi_X7_orbits.2.1 31 = .ok (.istore_n 1, 1) := by decide +kernel
theorem dX7_orbits_32 : decode mi_X7_orbits.2.1 32 = .ok (.iinc 2 1, 3) := by decide +kernel
theorem dX7_orbits_35 : decode mi_X7_orbits.2.1 35 = .ok (.goto (-31), 3) := by decide +kernel
theorem dX7_orbits_38 : decode mi_X7_orbits.2.1 38 = .ok (.iload_n 1, 1) := by decide +kernel
theorem dX7_orbits_39 : decode mi_X7_orbits.2.1 39 = .ok (.ireturn, 1) := by decide +kernel
theorem dX7_orbitCount_0 : decode mi_X7_orbitCount.2.1 0 = .ok (.aload_n 0, 1) := by decide +kernel
theorem dX7_orbitCount_1 : decode mi_X7_orbitCount.2.1 1 = .ok (.invokevirtual 183, 3) := by decide +kernel
theorem dX7_orbitCount_4 : decode mi_X7_orbitCount.2.1 4 = .ok (.ireturn, 1) := by decide +kernel
theorem dX7_isSymmorphic_0 : decode mi_X7_isSymmorphic.2.1 0 = .ok (.aload_n 0, 1) := by decide +kernel
theorem dX7_isSymmorphic_1 : decode mi_X7_isSymmorphic.2.1 1 = .ok (.iconst 0, 1) := by decide +kernel
theorem dX7_isSymmorphic_2 : decode mi_X7_isSymmorphic.2.1 2 = .ok (.invokevirtual 126, 3) := by decide +kernel
theorem dX7_isSymmorphic_5 : decode mi_X7_isSymmorphic.2.1 5 = .ok (.invokestatic 130, 3) := by decide +kernel
theorem dX7_isSymmorphic_8 : decode mi_X7_isSymmorphic.2.1 8 = .ok (.istore_n 1, 1) := by decide +kernel
theorem dX7_isSymmorphic_9 : decode mi_X7_isSymmorphic.2.1 9 = .ok (.iconst 0, 1) := by decide +kernel
theorem dX7_isSymmorphic_10 : decode mi_X7_isSymmorphic.2.1 10 = .ok (.istore_n 2, 1) := by decide +kernel
theorem dX7_isSymmorphic_11 : decode mi_X7_isSymmorphic.2.1 11 = .ok (.iconst 0, 1) := by decide +kernel
theorem dX7_isSymmorphic_12 : decode mi_X7_isSymmorphic.2.1 12 = .ok (.istore_n 3, 1) := by decide +kernel
theorem dX7_isSymmorphic_13 : decode mi_X7_isSymmorphic.2.1 13 = .ok (.iload_n 3, 1) := by decide +kernel
theorem dX7_isSymmorphic_14 : decode mi_X7_isSymmorphic.2.1 14 = .ok (.aload_n 0, 1) := by decide +kernel
theorem dX7_isSymmorphic_15 : decode mi_X7_isSymmorphic.2.1 15 = .ok (.invokevirtual 51, 3) := by decide +kernel
theorem dX7_isSymmorphic_18 : decode mi_X7_isSymmorphic.2.1 18 = .ok (.if_icmp .ge 28, 3) := by decide +kernel
theorem dX7_isSymmorphic_21 : decode mi_X7_isSymmorphic.2.1 21 = .ok (.iload_n 2, 1) := by decide +kernel
theorem dX7_isSymmorphic_22 : decode mi_X7_isSymmorphic.2.1 22 = .ok (.ifCond .ne 12, 3) := by decide +kernel
theorem dX7_isSymmorphic_25 : decode mi_X7_isSymmorphic.2.1 25 = .ok (.aload_n 0, 1) := by decide +kernel
theorem dX7_isSymmorphic_26 : decode mi_X7_isSymmorphic.2.1 26 = .ok (.iload_n 3, 1) := by decide +kernel
theorem dX7_isSymmorphic_27 : decode mi_X7_isSymmorphic.2.1 27 = .ok (.invokevirtual 180, 3) := by decide +kernel
theorem dX7_isSymmorphic_30 : decode mi_X7_isSymmorphic.2.1 30 = .ok (.iload_n 1, 1) := by decide +kernel
theorem dX7_isSymmorphic_31 : decode mi_X7_isSymmorphic.2.1 31 = .ok (.if_icmp .ne 7, 3) := by decide +kernel
theorem dX7_isSymmorphic_34 : decode mi_X7_isSymmorphic.2.1 34 = .ok (.iconst 1, 1) := by decide +kernel
theorem dX7_isSymmorphic_35 : decode mi_X7_isSymmorphic.2.1 35 = .ok (.goto 4, 3) := by decide +kernel
theorem dX7_isSymmorphic_38 : decode mi_X7_isSymmorphic.2.1 38 = .ok (.iconst 0, 1) := by decide +kernel
theorem dX7_isSymmorphic_39 : decode mi_X7_isSymmorphic.2.1 39 = .ok (.istore_n 2, 1) := by decide +kernel
theorem dX7_isSymmorphic_40 : decode mi_X7_isSymmorphic.2.1 40 = .ok (.iinc 3 1, 3) := by decide +kernel
theorem dX7_isSymmorphic_43 : decode mi_X7_isSymmorphic.2.1 43 = .ok (.goto (-30), 3) := by decide +kernel
theorem dX7_isSymmorphic_46 : decode mi_X7_isSymmorphic.2.1 46 = .ok (.iload_n 2, 1) := by decide +kernel
theorem dX7_isSymmorphic_47 : decode mi_X7_isSymmorphic.2.1 47 = .ok (.ifCond .eq 7, 3) := by decide +kernel
theorem dX7_isSymmorphic_50 : decode mi_X7_isSymmorphic.2.1 50 = .ok (.iconst 1, 1) := by decide +kernel
theorem dX7_isSymmorphic_51 : decode mi_X7_isSymmorphic.2.1 51 = .ok (.goto 4, 3) := by decide +kernel
theorem dX7_isSymmorphic_54 : decode mi_X7_isSymmorphic.2.1 54 = .ok (.iconst 0, 1) := by decide +kernel
theorem dX7_isSymmorphic_55 : decode mi_X7_isSymmorphic.2.1 55 = .ok (.ireturn, 1) := by decide +kernel
theorem dX7_power_0 : decode mi_X7_power.2.1 0 = .ok (.lconst 1, 1) := by decide +kernel
theorem dX7_power_1 : decode mi_X7_power.2.1 1 = .ok (.lstore_n 2, 1) := by decide +kernel
theorem dX7_power_2 : decode mi_X7_power.2.1 2 = .ok (.iconst 0, 1) := by decide +kernel
theorem dX7_power_3 : decode mi_X7_power.2.1 3 = .ok (.istore 4, 2) := by decide +kernel
theorem dX7_power_5 : decode mi_X7_power.2.1 5 = .ok (.iload 4, 2) := by decide +kernel
theorem dX7_power_7 : decode mi_X7_power.2.1 7 = .ok (.iload_n 1, 1) := by decide +kernel
theorem dX7_power_8 : decode mi_X7_power.2.1 8 = .ok (.if_icmp .ge 14, 3) := by decide +kernel
theorem dX7_power_11 : decode mi_X7_power.2.1 11 = .ok (.lload_n 2, 1) := by decide +kernel
theorem dX7_power_12 : decode mi_X7_power.2.1 12 = .ok (.iload_n 0, 1) := by decide +kernel
theorem dX7_power_13 : decode mi_X7_power.2.1 13 = .ok (.i2l, 1) := by decide +kernel
theorem dX7_power_14 : decode mi_X7_power.2.1 14 = .ok (.lmul, 1) := by decide +kernel
theorem dX7_power_15 : decode mi_X7_power.2.1 15 = .ok (.lstore_n 2, 1) := by decide +kernel
theorem dX7_power_16 : decode mi_X7_power.2.1 16 = .ok (.iinc 4 1, 3) := by decide +kernel
theorem dX7_power_19 : decode mi_X7_power.2.1 19 = .ok (.goto (-14), 3) := by decide +kernel
theorem dX7_power_22 : decode mi_X7_power.2.1 22 = .ok (.lload_n 2, 1) := by decide +kernel
theorem dX7_power_23 : decode mi_X7_power.2.1 23 = .ok (.lreturn, 1) := by decide +kernel
theorem dX7_invariantColorings_0 : decode mi_X7_invariantColorings.2.1 0 = .ok (.iload_n 1, 1) := by decide +kernel
theorem dX7_invariantColorings_1 : decode mi_X7_invariantColorings.2.1 1 = .ok (.iconst 1, 1) := by decide +kernel
theorem dX7_invariantColorings_2 : decode mi_X7_invariantColorings.2.1 2 = .ok (.iconst 4, 1) := by decide +kernel
theorem dX7_invariantColorings_3 : decode mi_X7_invariantColorings.2.1 3 = .ok (.invokestatic 78, 3) := by decide +kernel
theorem dX7_invariantColorings_6 : decode mi_X7_invariantColorings.2.1 6 = .ok (.ifCond .eq 14, 3) := by decide +kernel
theorem dX7_invariantColorings_9 : decode mi_X7_invariantColorings.2.1 9 = .ok (.iload_n 1, 1) := by decide +kernel
theorem dX7_invariantColorings_10 : decode mi_X7_invariantColorings.2.1 10 = .ok (.aload_n 0, 1) := by decide +kernel
theorem dX7_invariantColorings_11 : decode mi_X7_invariantColorings.2.1 11 = .ok (.invokevirtual 183, 3) := by decide +kernel
theorem dX7_invariantColorings_14 : decode mi_X7_invariantColorings.2.1 14 = .ok (.invokestatic 186, 3) := by decide +kernel
theorem dX7_invariantColorings_17 : decode mi_X7_invariantColorings.2.1 17 = .ok (.goto 6, 3) := by decide +kernel
theorem dX7_invariantColorings_20 : decode mi_X7_invariantColorings.2.1 20 = .ok (.ldc2_w 190, 3) := by decide +kernel
theorem dX7_invariantColorings_23 : decode mi_X7_invariantColorings.2.1 23 = .ok (.lreturn, 1) := by decide +kernel
theorem dX7_cycles_0 : decode mi_X7_cycles.2.1 0 = .ok (.iconst 0, 1) := by decide +kernel
theorem dX7_cycles_1 : decode mi_X7_cycles.2.1 1 = .ok (.istore_n 2, 1) := by decide +kernel
theorem dX7_cycles_2 : decode mi_X7_cycles.2.1 2 = .ok (.iconst 0, 1) := by decide +kernel
theorem dX7_cycles_3 : decode mi_X7_cycles.2.1 3 = .ok (.istore_n 3, 1) := by decide +kernel
theorem dX7_cycles_4 : decode mi_X7_cycles.2.1 4 = .ok (.iconst 0, 1) := by decide +kernel
theorem dX7_cycles_5 : decode mi_X7_cycles.2.1 5 = .ok (.istore 4, 2) := by decide +kernel
theorem dX7_cycles_7 : decode mi_X7_cycles.2.1 7 = .ok (.iload 4, 2) := by decide +kernel
theorem dX7_cycles_9 : decode mi_X7_cycles.2.1 9 = .ok (.aload_n 0, 1) := by decide +kernel
theorem dX7_cycles_10 : decode mi_X7_cycles.2.1 10 = .ok (.invokevirtual 51, 3) := by decide +kernel
theorem dX7_cycles_13 : decode mi_X7_cycles.2.1 13 = .ok (.if_icmp .ge 58, 3) := by decide +kernel
theorem dX7_cycles_16 : decode mi_X7_cycles.2.1 16 = .ok (.iload_n 3, 1) := by decide +kernel
theorem dX7_cycles_17 : decode mi_X7_cycles.2.1 17 = .ok (.iload_n 2, 1) := by decide +kernel
theorem dX7_cycles_18 : decode mi_X7_cycles.2.1 18 = .ok (.iload 4, 2) := by decide +kernel
theorem dX7_cycles_20 : decode mi_X7_cycles.2.1 20 = .ok (.ishr, 1) := by decide +kernel
theorem dX7_cycles_21 : decode mi_X7_cycles.2.1 21 = .ok (.iconst 1, 1) := by decide +kernel
theorem dX7_cycles_22 : decode mi_X7_cycles.2.1 22 = .ok (.iand, 1) := by decide +kernel
theorem dX7_cycles_23 : decode mi_X7_cycles.2.1 23 = .ok (.ifCond .ne 7, 3) := by decide +kernel
theorem dX7_cycles_26 : decode mi_X7_cycles.2.1 26 = .ok (.iconst 1, 1) := by decide +kernel
theorem dX7_cycles_27 : decode mi_X7_cycles.2.1 27 = .ok (.goto 4, 3) := by decide +kernel
theorem dX7_cycles_30 : decode mi_X7_cycles.2.1 30 = .ok (.iconst 0, 1) := by decide +kernel
theorem dX7_cycles_31 : decode mi_X7_cycles.2.1 31 = .ok (.iadd, 1) := by decide +kernel
theorem dX7_cycles_32 : decode mi_X7_cycles.2.1 32 = .ok (.istore_n 3, 1) := by decide +kernel
theorem dX7_cycles_33 : decode mi_X7_cycles.2.1 33 = .ok (.iload 4, 2) := by decide +kernel
theorem dX7_cycles_35 : decode mi_X7_cycles.2.1 35 = .ok (.istore 5, 2) := by decide +kernel
theorem dX7_cycles_37 : decode mi_X7_cycles.2.1 37 = .ok (.iload_n 2, 1) := by decide +kernel
theorem dX7_cycles_38 : decode mi_X7_cycles.2.1 38 = .ok (.iload 5, 2) := by decide +kernel
theorem dX7_cycles_40 : decode mi_X7_cycles.2.1 40 = .ok (.ishr, 1) := by decide +kernel
theorem dX7_cycles_41 : decode mi_X7_cycles.2.1 41 = .ok (.iconst 1, 1) := by decide +kernel
theorem dX7_cycles_42 : decode mi_X7_cycles.2.1 42 = .ok (.iand, 1) := by decide +kernel
theorem dX7_cycles_43 : decode mi_X7_cycles.2.1 43 = .ok (.ifCond .ne 22, 3) := by decide +kernel
theorem dX7_cycles_46 : decode mi_X7_cycles.2.1 46 = .ok (.iload_n 2, 1) := by decide +kernel
theorem dX7_cycles_47 : decode mi_X7_cycles.2.1 47 = .ok (.iconst 1, 1) := by decide +kernel
theorem dX7_cycles_48 : decode mi_X7_cycles.2.1 48 = .ok (.iload 5, 2) := by decide +kernel
theorem dX7_cycles_50 : decode mi_X7_cycles.2.1 50 = .ok (.ishl, 1) := by decide +kernel
theorem dX7_cycles_51 : decode mi_X7_cycles.2.1 51 = .ok (.ior, 1) := by decide +kernel
theorem dX7_cycles_52 : decode mi_X7_cycles.2.1 52 = .ok (.istore_n 2, 1) := by decide +kernel
theorem dX7_cycles_53 : decode mi_X7_cycles.2.1 53 = .ok (.aload_n 0, 1) := by decide +kernel
theorem dX7_cycles_54 : decode mi_X7_cycles.2.1 54 = .ok (.iload_n 1, 1) := by decide +kernel
theorem dX7_cycles_55 : decode mi_X7_cycles.2.1 55 = .ok (.iload 5, 2) := by decide +kernel
theorem dX7_cycles_57 : decode mi_X7_cycles.2.1 57 = .ok (.invokevirtual 165, 3) := by decide +kernel
theorem dX7_cycles_60 : decode mi_X7_cycles.2.1 60 = .ok (.istore 5, 2) := by decide +kernel
theorem dX7_cycles_62 : decode mi_X7_cycles.2.1 62 = .ok (.goto (-25), 3) := by decide +kernel
theorem dX7_cycles_65 : decode mi_X7_cycles.2.1 65 = .ok (.iinc 4 1, 3) := by decide +kernel
theorem dX7_cycles_68 : decode mi_X7_cycles.2.1 68 = .ok (.goto (-61), 3) := by decide +kernel
theorem dX7_cycles_71 : decode mi_X7_cycles.2.1 71 = .ok (.iload_n 3, 1) := by decide +kernel
theorem dX7_cycles_72 : decode mi_X7_cycles.2.1 72 = .ok (.ireturn, 1) := by decide +kernel
theorem dX7_coloringClasses_0 : decode mi_X7_coloringClasses.2.1 0 = .ok (.iload_n 1, 1) := by decide +kernel
theorem dX7_coloringClasses_1 : decode mi_X7_coloringClasses.2.1 1 = .ok (.iconst 1, 1) := by decide +kernel
theorem dX7_coloringClasses_2 : decode mi_X7_coloringClasses.2.1 2 = .ok (.iconst 4, 1) := by decide +kernel
theorem dX7_coloringClasses_3 : decode mi_X7_coloringClasses.2.1 3 = .ok (.invokestatic 78, 3) := by decide +kernel
theorem dX7_coloringClasses_6 : decode mi_X7_coloringClasses.2.1 6 = .ok (.ifCond .ne 7, 3) := by decide +kernel
theorem dX7_coloringClasses_9 : decode mi_X7_coloringClasses.2.1 9 = .ok (.ldc2_w 190, 3) := by decide +kernel
theorem dX7_coloringClasses_12 : decode mi_X7_coloringClasses.2.1 12 = .ok (.lreturn, 1) := by decide +kernel
theorem dX7_coloringClasses_13 : decode mi_X7_coloringClasses.2.1 13 = .ok (.lconst 0, 1) := by decide +kernel
theorem dX7_coloringClasses_14 : decode mi_X7_coloringClasses.2.1 14 = .ok (.lstore_n 2, 1) := by decide +kernel
theorem dX7_coloringClasses_15 : decode mi_X7_coloringClasses.2.1 15 = .ok (.iconst 0, 1) := by decide +kernel
theorem dX7_coloringClasses_16 : decode mi_X7_coloringClasses.2.1 16 = .ok (.istore 4, 2) := by decide +kernel
theorem dX7_coloringClasses_18 : decode mi_X7_coloringClasses.2.1 18 = .ok (.iload 4, 2) := by decide +kernel
theorem dX7_coloringClasses_20 : decode mi_X7_coloringClasses.2.1 20 = .ok (.aload_n 0, 1) := by decide +kernel
theorem dX7_coloringClasses_21 : decode mi_X7_coloringClasses.2.1 21 = .ok (.getfield 92, 3) := by decide +kernel
theorem dX7_coloringClasses_24 : decode mi_X7_coloringClasses.2.1 24 = .ok (.if_icmp .ge 27, 3) := by decide +kernel
theorem dX7_coloringClasses_27 : decode mi_X7_coloringClasses.2.1 27 = .ok (.lload_n 2, 1) := by decide +kernel
theorem dX7_coloringClasses_28 : decode mi_X7_coloringClasses.2.1 28 = .ok (.iload_n 1, 1) := by decide +kernel
theorem dX7_coloringClasses_29 : decode mi_X7_coloringClasses.2.1 29 = .ok (.aload_n 0, 1) := by decide +kernel
theorem dX7_coloringClasses_30 : decode mi_X7_coloringClasses.2.1 30 = .ok (.aload_n 0, 1) := by decide +kernel
theorem dX7_coloringClasses_31 : decode mi_X7_coloringClasses.2.1 31 = .ok (.getfield 26, 3) := by decide +kernel
theorem dX7_coloringClasses_34 : decode mi_X7_coloringClasses.2.1 34 = .ok (.iload 4, 2) := by decide +kernel
theorem dX7_coloringClasses_36 : decode mi_X7_coloringClasses.2.1 36 = .ok (.iaload, 1) := by decide +kernel
theorem dX7_coloringClasses_37 : decode mi_X7_coloringClasses.2.1 37 = .ok (.invokevirtual 192, 3) := by decide +kernel
theorem dX7_coloringClasses_40 : decode mi_X7_coloringClasses.2.1 40 = .ok (.invokestatic 186, 3) := by decide +kernel
theorem dX7_coloringClasses_43 : decode mi_X7_coloringClasses.2.1 43 = .ok (.ladd, 1) := by decide +kernel
theorem dX7_coloringClasses_44 : decode mi_X7_coloringClasses.2.1 44 = .ok (.lstore_n 2, 1) := by decide +kernel
theorem dX7_coloringClasses_45 : decode mi_X7_coloringClasses.2.1 45 = .ok (.iinc 4 1, 3) := by decide +kernel
theorem dX7_coloringClasses_48 : decode mi_X7_coloringClasses.2.1 48 = .ok (.goto (-30), 3) := by decide +kernel
theorem dX7_coloringClasses_51 : decode mi_X7_coloringClasses.2.1 51 = .ok (.lload_n 2, 1) := by decide +kernel
theorem dX7_coloringClasses_52 : decode mi_X7_coloringClasses.2.1 52 = .ok (.aload_n 0, 1) := by decide +kernel
theorem dX7_coloringClasses_53 : decode mi_X7_coloringClasses.2.1 53 = .ok (.getfield 92, 3) := by decide +kernel
theorem dX7_coloringClasses_56 : decode mi_X7_coloringClasses.2.1 56 = .ok (.i2l, 1) := by decide +kernel
theorem dX7_coloringClasses_57 : decode mi_X7_coloringClasses.2.1 57 = .ok (.ldiv, 1) := by decide +kernel
theorem dX7_coloringClasses_58 : decode mi_X7_coloringClasses.2.1 58 = .ok (.lreturn, 1) := by decide +kernel
theorem dJ9_floorMod_7cf53_0 : decode mi_J9_floorMod_7cf53.2.1 0 = .ok (.iload_n 0, 1) := by decide +kernel
theorem dJ9_floorMod_7cf53_1 : decode mi_J9_floorMod_7cf53.2.1 1 = .ok (.iload_n 1, 1) := by decide +kernel
theorem dJ9_floorMod_7cf53_2 : decode mi_J9_floorMod_7cf53.2.1 2 = .ok (.irem, 1) := by decide +kernel
theorem dJ9_floorMod_7cf53_3 : decode mi_J9_floorMod_7cf53.2.1 3 = .ok (.istore_n 2, 1) := by decide +kernel
theorem dJ9_floorMod_7cf53_4 : decode mi_J9_floorMod_7cf53.2.1 4 = .ok (.iload_n 0, 1) := by decide +kernel
theorem dJ9_floorMod_7cf53_5 : decode mi_J9_floorMod_7cf53.2.1 5 = .ok (.iload_n 1, 1) := by decide +kernel
theorem dJ9_floorMod_7cf53_6 : decode mi_J9_floorMod_7cf53.2.1 6 = .ok (.ixor, 1) := by decide +kernel
theorem dJ9_floorMod_7cf53_7 : decode mi_J9_floorMod_7cf53.2.1 7 = .ok (.ifCond .ge 11, 3) := by decide +kernel
theorem dJ9_floorMod_7cf53_10 : decode mi_J9_floorMod_7cf53.2.1 10 = .ok (.iload_n 2, 1) := by decide +kernel
theorem dJ9_floorMod_7cf53_11 : decode mi_J9_floorMod_7cf53.2.1 11 = .ok (.ifCond .eq 7, 3) := by decide +kernel
theorem dJ9_floorMod_7cf53_14 : decode mi_J9_floorMod_7cf53.2.1 14 = .ok (.iload_n 2, 1) := by decide +kernel
theorem dJ9_floorMod_7cf53_15 : decode mi_J9_floorMod_7cf53.2.1 15 = .ok (.iload_n 1, 1) := by decide +kernel
theorem dJ9_floorMod_7cf53_16 : decode mi_J9_floorMod_7cf53.2.1 16 = .ok (.iadd, 1) := by decide +kernel
theorem dJ9_floorMod_7cf53_17 : decode mi_J9_floorMod_7cf53.2.1 17 = .ok (.ireturn, 1) := by decide +kernel
theorem dJ9_floorMod_7cf53_18 : decode mi_J9_floorMod_7cf53.2.1 18 = .ok (.iload_n 2, 1) := by decide +kernel
theorem dJ9_floorMod_7cf53_19 : decode mi_J9_floorMod_7cf53.2.1 19 = .ok (.ireturn, 1) := by decide +kernel
theorem dJ9_max_7cf53_0 : decode mi_J9_max_7cf53.2.1 0 = .ok (.iload_n 0, 1) := by decide +kernel
theorem dJ9_max_7cf53_1 : decode mi_J9_max_7cf53.2.1 1 = .ok (.iload_n 1, 1) := by decide +kernel
theorem dJ9_max_7cf53_2 : decode mi_J9_max_7cf53.2.1 2 = .ok (.if_icmp .lt 7, 3) := by decide +kernel
theorem dJ9_max_7cf53_5 : decode mi_J9_max_7cf53.2.1 5 = .ok (.iload_n 0, 1) := by decide +kernel
theorem dJ9_max_7cf53_6 : decode mi_J9_max_7cf53.2.1 6 = .ok (.goto 4, 3) := by decide +kernel
theorem dJ9_max_7cf53_9 : decode mi_J9_max_7cf53.2.1 9 = .ok (.iload_n 1, 1) := by decide +kernel
theorem dJ9_max_7cf53_10 : decode mi_J9_max_7cf53.2.1 10 = .ok (.ireturn, 1) := by decide +kernel
end
section
/-! calls by their number of arguments: g any end, p pure -/
section JN
variable {SH : List Shp} {mi mj : MI} {pc : Nat} {L : List (Option PV)} {st : List PV} {M : Mem} {Q Q1 : Option PV → Mem → Prop}
abbrev pu (x : PV) (M : Mem) : Option PV → Mem → Prop := fun v M1 => v = some x ∧ M1 = M
theorem pu_i {x y : Int} {M : Mem} (h : x = y) : pu (vI y) M (some (vI x)) M := by subst h; exact ⟨rfl, rfl⟩
theorem pu_l {x y : Int} {M : Mem} (h : x = y) : pu (vL y) M (some (vL x)) M := by subst h; exact ⟨rfl, rfl⟩
theorem j_V0g {idx ci r len : Nat} {refs : List (Option Nat)} (hd : decode mi.2.1 pc = .ok (.invokevirtual idx, 3)) (hok : mOK mj) (hw : vOK mi.1.cls idx 0 mj) (hc : cOK ci mj) (hs : SH[r]? = some (ci + 3, len, refs)) (h1 : J SH mj 0 (ent [vR r] mj.2.2.1) [] M Q1) (k : ∀ v M1, Q1 v M1 → J SH mi (pc + 3) L (v.toList ++ st) M1 Q) (hlev : mj.2.2.2.2 < mi.2.2.2.2 := by decide) (hnl : noLongs [] = true := by rfl) (hnL : 1 ≤ mj.2.2.1 := by decide) (hr4 : st.length ≤ 4 := by first | decide | (simp; done)) : J SH mi pc L (vR r :: st) M Q := j_V (As := []) hd hok hw hlev hc hs rfl hnl hnL hr4 rfl h1 k
theorem j_V0p {idx ci r len : Nat} {refs : List (Option Nat)} {x : PV} (hd : decode mi.2.1 pc = .ok (.invokevirtual idx, 3)) (hok : mOK mj) (hw : vOK mi.1.cls idx 0 mj) (hc : cOK ci mj) (hs : SH[r]? = some (ci + 3, len, refs)) (h1 : J SH mj 0 (ent [vR r] mj.2.2.1) [] M (pu x M)) (k : J SH mi (pc + 3) L (x :: st) M Q) (hlev : mj.2.2.2.2 < mi.2.2.2.2 := by decide) (hnl : noLongs [] = true := by rfl) (hnL : 1 ≤ mj.2.2.1 := by decide) (hr4 : st.length ≤ 4 := by first | decide | (simp; done)) : J SH mi pc L (vR r :: st) M Q := j_V (As := []) hd hok hw hlev hc hs rfl hnl hnL hr4 rfl h1 (fun v M1 q => by obtain ⟨rfl, rfl⟩ := q; exact k)
theorem j_V1g {idx ci r len : Nat} {refs : List (Option Nat)} {a0 : PV} (hd : decode mi.2.1 pc = .ok (.invokevirtual idx, 3)) (hok : mOK mj) (hw : vOK mi.1.cls idx 1 mj) (hc : cOK ci mj) (hs : SH[r]? = some (ci + 3, len, refs)) (h1 : J SH mj 0 (ent [vR r, a0] mj.2.2.1) [] M Q1) (k : ∀ v M1, Q1 v M1 → J SH mi (pc + 3) L (v.toList ++ st) M1 Q) (hlev : mj.2.2.2.2 < mi.2.2.2.2 := by decide) (hnl : noLongs [a0] = true := by rfl) (hnL : 2 ≤ mj.2.2.1 := by decide) (hr4 : st.length ≤ 4 := by first | decide | (simp; done)) : J SH mi pc L (a0 :: vR r :: st) M Q := j_V (As := [a0]) hd hok hw hlev hc hs rfl hnl hnL hr4 rfl h1 k
theorem j_V1p {idx ci r len : Nat} {refs : List (Option Nat)} {a0 : PV} {x : PV} (hd : decode mi.2.1 pc = .ok (.invokevirtual idx, 3)) (hok : mOK mj) (hw : vOK mi.1.cls idx 1 mj) (hc : cOK ci mj) (hs : SH[r]? = some (ci + 3, len, refs)) (h1 : J SH mj 0 (ent [vR r, a0] mj.2.2.1) [] M (pu x M)) (k : J SH mi (pc + 3) L (x :: st) M Q) (hlev : mj.2.2.2.2 < mi.2.2.2.2 := by decide) (hnl : noLongs [a0] = true := by rfl) (hnL : 2 ≤ mj.2.2.1 := by decide) (hr4 : st.length ≤ 4 := by first | decide | (simp; done)) : J SH mi pc L (a0 :: vR r :: st) M Q := j_V (As := [a0]) hd hok hw hlev hc hs rfl hnl hnL hr4 rfl h1 (fun v M1 q => by obtain ⟨rfl, rfl⟩ := q; exact k)
theorem j_S1g {idx : Nat} {a0 : PV} (hd : decode mi.2.1 pc = .ok (.invokestatic idx, 3)) (hok : mOK mj) (hw : sOK mi.1.cls idx 1 mj) (h1 : J SH mj 0 (ent [a0] mj.2.2.1) [] M Q1) (k : ∀ v M1, Q1 v M1 → J SH mi (pc + 3) L (v.toList ++ st) M1 Q) (hlev : mj.2.2.2.2 < mi.2.2.2.2 := by decide) (hnl : noLongs [a0] = true := by rfl) (hnL : 1 ≤ mj.2.2.1 := by decide) (hr4 : st.length ≤ 4 := by first | decide | (simp; done)) : J SH mi pc L (a0 :: st) M Q := j_S (As := [a0]) hd hok hw hlev rfl hnl hnL hr4 rfl h1 k
theorem j_S1p {idx : Nat} {a0 : PV} {x : PV} (hd : decode mi.2.1 pc = .ok (.invokestatic idx, 3)) (hok : mOK mj) (hw : sOK mi.1.cls idx 1 mj) (h1 : J SH mj 0 (ent [a0] mj.2.2.1) [] M (pu x M)) (k : J SH mi (pc + 3) L (x :: st) M Q) (hlev : mj.2.2.2.2 < mi.2.2.2.2 := by decide) (hnl : noLongs [a0] = true := by rfl) (hnL : 1 ≤ mj.2.2.1 := by decide) (hr4 : st.length ≤ 4 := by first | decide | (simp; done)) : J SH mi pc L (a0 :: st) M Q := j_S (As := [a0]) hd hok hw hlev rfl hnl hnL hr4 rfl h1 (fun v M1 q => by obtain ⟨rfl, rfl⟩ := q; exact k)
theorem j_N1g {idx : Nat} {a0 : PV} (hd : decode mi.2.1 pc = .ok (.invokestatic idx, 3)) (hok : mOK mj) (hw : nOK mi.1.cls idx 1 mj) (h1 : J SH mj 0 (ent [a0] mj.2.2.1) [] M Q1) (k : ∀ v M1, Q1 v M1 → J SH mi (pc + 3) L (v.toList ++ st) M1 Q) (hlev : mj.2.2.2.2 < mi.2.2.2.2 := by decide) (hnl : noLongs [a0] = true := by rfl) (hnL : 1 ≤ mj.2.2.1 := by decide) (hr4 : st.length ≤ 4 := by first | decide | (simp; done)) : J SH mi pc L (a0 :: st) M Q := j_N (As := [a0]) hd hok hw hlev rfl hnl hnL hr4 rfl h1 k
theorem j_N1p {idx : Nat} {a0 : PV} {x : PV} (hd : decode mi.2.1 pc = .ok (.invokestatic idx, 3)) (hok : mOK mj) (hw : nOK mi.1.cls idx 1 mj) (h1 : J SH mj 0 (ent [a0] mj.2.2.1) [] M (pu x M)) (k : J SH mi (pc + 3) L (x :: st) M Q) (hlev : mj.2.2.2.2 < mi.2.2.2.2 := by decide) (hnl : noLongs [a0] = true := by rfl) (hnL : 1 ≤ mj.2.2.1 := by decide) (hr4 : st.length ≤ 4 := by first | decide | (simp; done)) : J SH mi pc L (a0 :: st) M Q := j_N (As := [a0]) hd hok hw hlev rfl hnl hnL hr4 rfl h1 (fun v M1 q => by obtain ⟨rfl, rfl⟩ := q; exact k)
theorem j_V2g {idx ci r len : Nat} {refs : List (Option Nat)} {a0 a1 : PV} (hd : decode mi.2.1 pc = .ok (.invokevirtual idx, 3)) (hok : mOK mj) (hw : vOK mi.1.cls idx 2 mj) (hc : cOK ci mj) (hs : SH[r]? = some (ci + 3, len, refs)) (h1 : J SH mj 0 (ent [vR r, a0, a1] mj.2.2.1) [] M Q1) (k : ∀ v M1, Q1 v M1 → J SH mi (pc + 3) L (v.toList ++ st) M1 Q) (hlev : mj.2.2.2.2 < mi.2.2.2.2 := by decide) (hnl : noLongs [a0, a1] = true := by rfl) (hnL : 3 ≤ mj.2.2.1 := by decide) (hr4 : st.length ≤ 4 := by first | decide | (simp; done)) : J SH mi pc L (a1 :: a0 :: vR r :: st) M Q := j_V (As := [a0, a1]) hd hok hw hlev hc hs rfl hnl hnL hr4 rfl h1 k
theorem j_V2p {idx ci r len : Nat} {refs : List (Option Nat)} {a0 a1 : PV} {x : PV} (hd : decode mi.2.1 pc = .ok (.invokevirtual idx, 3)) (hok : mOK mj) (hw : vOK mi.1.cls idx 2 mj) (hc : cOK ci mj) (hs : SH[r]? = some (ci + 3, len, refs)) (h1 : J SH mj 0 (ent [vR r, a0, a1] mj.2.2.1) [] M (pu x M)) (k : J SH mi (pc + 3) L (x :: st) M Q) (hlev : mj.2.2.2.2 < mi.2.2.2.2 := by decide) (hnl : noLongs [a0, a1] = true := by rfl) (hnL : 3 ≤ mj.2.2.1 := by decide) (hr4 : st.length ≤ 4 := by first | decide | (simp; done)) : J SH mi pc L (a1 :: a0 :: vR r :: st) M Q := j_V (As := [a0, a1]) hd hok hw hlev hc hs rfl hnl hnL hr4 rfl h1 (fun v M1 q => by obtain ⟨rfl, rfl⟩ := q; exact k)
theorem j_S2g {idx : Nat} {a0 a1 : PV} (hd : decode mi.2.1 pc = .ok (.invokestatic idx, 3)) (hok : mOK mj) (hw : sOK mi.1.cls idx 2 mj) (h1 : J SH mj 0 (ent [a0, a1] mj.2.2.1) [] M Q1) (k : ∀ v M1, Q1 v M1 → J SH mi (pc + 3) L (v.toList ++ st) M1 Q) (hlev : mj.2.2.2.2 < mi.2.2.2.2 := by decide) (hnl : noLongs [a0, a1] = true := by rfl) (hnL : 2 ≤ mj.2.2.1 := by decide) (hr4 : st.length ≤ 4 := by first | decide | (simp; done)) : J SH mi pc L (a1 :: a0 :: st) M Q := j_S (As := [a0, a1]) hd hok hw hlev rfl hnl hnL hr4 rfl h1 k
theorem j_S2p {idx : Nat} {a0 a1 : PV} {x : PV} (hd : decode mi.2.1 pc = .ok (.invokestatic idx, 3)) (hok : mOK mj) (hw : sOK mi.1.cls idx 2 mj) (h1 : J SH mj 0 (ent [a0, a1] mj.2.2.1) [] M (pu x M)) (k : J SH mi (pc + 3) L (x :: st) M Q) (hlev : mj.2.2.2.2 < mi.2.2.2.2 := by decide) (hnl : noLongs [a0, a1] = true := by rfl) (hnL : 2 ≤ mj.2.2.1 := by decide) (hr4 : st.length ≤ 4 := by first | decide | (simp; done)) : J SH mi pc L (a1 :: a0 :: st) M Q := j_S (As := [a0, a1]) hd hok hw hlev rfl hnl hnL hr4 rfl h1 (fun v M1 q => by obtain ⟨rfl, rfl⟩ := q; exact k)
theorem j_N2g {idx : Nat} {a0 a1 : PV} (hd : decode mi.2.1 pc = .ok (.invokestatic idx, 3)) (hok : mOK mj) (hw : nOK mi.1.cls idx 2 mj) (h1 : J SH mj 0 (ent [a0, a1] mj.2.2.1) [] M Q1) (k : ∀ v M1, Q1 v M1 → J SH mi (pc + 3) L (v.toList ++ st) M1 Q) (hlev : mj.2.2.2.2 < mi.2.2.2.2 := by decide) (hnl : noLongs [a0, a1] = true := by rfl) (hnL : 2 ≤ mj.2.2.1 := by decide) (hr4 : st.length ≤ 4 := by first | decide | (simp; done)) : J SH mi pc L (a1 :: a0 :: st) M Q := j_N (As := [a0, a1]) hd hok hw hlev rfl hnl hnL hr4 rfl h1 k
theorem j_N2p {idx : Nat} {a0 a1 : PV} {x : PV} (hd : decode mi.2.1 pc = .ok (.invokestatic idx, 3)) (hok : mOK mj) (hw : nOK mi.1.cls idx 2 mj) (h1 : J SH mj 0 (ent [a0, a1] mj.2.2.1) [] M (pu x M)) (k : J SH mi (pc + 3) L (x :: st) M Q) (hlev : mj.2.2.2.2 < mi.2.2.2.2 := by decide) (hnl : noLongs [a0, a1] = true := by rfl) (hnL : 2 ≤ mj.2.2.1 := by decide) (hr4 : st.length ≤ 4 := by first | decide | (simp; done)) : J SH mi pc L (a1 :: a0 :: st) M Q := j_N (As := [a0, a1]) hd hok hw hlev rfl hnl hnL hr4 rfl h1 (fun v M1 q => by obtain ⟨rfl, rfl⟩ := q; exact k)
theorem j_V3g {idx ci r len : Nat} {refs : List (Option Nat)} {a0 a1 a2 : PV} (hd : decode mi.2.1 pc = .ok (.invokevirtual idx, 3)) (hok : mOK mj) (hw : vOK mi.1.cls idx 3 mj) (hc : cOK ci mj) (hs : SH[r]? = some (ci + 3, len, refs)) (h1 : J SH mj 0 (ent [vR r, a0, a1, a2] mj.2.2.1) [] M Q1) (k : ∀ v M1, Q1 v M1 → J SH mi (pc + 3) L (v.toList ++ st) M1 Q) (hlev : mj.2.2.2.2 < mi.2.2.2.2 := by decide) (hnl : noLongs [a0, a1, a2] = true := by rfl) (hnL : 4 ≤ mj.2.2.1 := by decide) (hr4 : st.length ≤ 4 := by first | decide | (simp; done)) : J SH mi pc L (a2 :: a1 :: a0 :: vR r :: st) M Q := j_V (As := [a0, a1, a2]) hd hok hw hlev hc hs rfl hnl hnL hr4 rfl h1 k
theorem j_V3p {idx ci r len : Nat} {refs : List (Option Nat)} {a0 a1 a2 : PV} {x : PV} (hd : decode mi.2.1 pc = .ok (.invokevirtual idx, 3)) (hok : mOK mj) (hw : vOK mi.1.cls idx 3 mj) (hc : cOK ci mj) (hs : SH[r]? = some (ci + 3, len, refs)) (h1 : J SH mj 0 (ent [vR r, a0, a1, a2] mj.2.2.1) [] M (pu x M)) (k : J SH mi (pc + 3) L (x :: st) M Q) (hlev : mj.2.2.2.2 < mi.2.2.2.2 := by decide) (hnl : noLongs [a0, a1, a2] = true := by rfl) (hnL : 4 ≤ mj.2.2.1 := by decide) (hr4 : st.length ≤ 4 := by first | decide | (simp; done)) : J SH mi pc L (a2 :: a1 :: a0 :: vR r :: st) M Q := j_V (As := [a0, a1, a2]) hd hok hw hlev hc hs rfl hnl hnL hr4 rfl h1 (fun v M1 q => by obtain ⟨rfl, rfl⟩ := q; exact k)
theorem j_S3g {idx : Nat} {a0 a1 a2 : PV} (hd : decode mi.2.1 pc = .ok (.invokestatic idx, 3)) (hok : mOK mj) (hw : sOK mi.1.cls idx 3 mj) (h1 : J SH mj 0 (ent [a0, a1, a2] mj.2.2.1) [] M Q1) (k : ∀ v M1, Q1 v M1 → J SH mi (pc + 3) L (v.toList ++ st) M1 Q) (hlev : mj.2.2.2.2 < mi.2.2.2.2 := by decide) (hnl : noLongs [a0, a1, a2] = true := by rfl) (hnL : 3 ≤ mj.2.2.1 := by decide) (hr4 : st.length ≤ 4 := by first | decide | (simp; done)) : J SH mi pc L (a2 :: a1 :: a0 :: st) M Q := j_S (As := [a0, a1, a2]) hd hok hw hlev rfl hnl hnL hr4 rfl h1 k
theorem j_S3p {idx : Nat} {a0 a1 a2 : PV} {x : PV} (hd : decode mi.2.1 pc = .ok (.invokestatic idx, 3)) (hok : mOK mj) (hw : sOK mi.1.cls idx 3 mj) (h1 : J SH mj 0 (ent [a0, a1, a2] mj.2.2.1) [] M (pu x M)) (k : J SH mi (pc + 3) L (x :: st) M Q) (hlev : mj.2.2.2.2 < mi.2.2.2.2 := by decide) (hnl : noLongs [a0, a1, a2] = true := by rfl) (hnL : 3 ≤ mj.2.2.1 := by decide) (hr4 : st.length ≤ 4 := by first | decide | (simp; done)) : J SH mi pc L (a2 :: a1 :: a0 :: st) M Q := j_S (As := [a0, a1, a2]) hd hok hw hlev rfl hnl hnL hr4 rfl h1 (fun v M1 q => by obtain ⟨rfl, rfl⟩ := q; exact k)
theorem j_N3g {idx : Nat} {a0 a1 a2 : PV} (hd : decode mi.2.1 pc = .ok (.invokestatic idx, 3)) (hok : mOK mj) (hw : nOK mi.1.cls idx 3 mj) (h1 : J SH mj 0 (ent [a0, a1, a2] mj.2.2.1) [] M Q1) (k : ∀ v M1, Q1 v M1 → J SH mi (pc + 3) L (v.toList ++ st) M1 Q) (hlev : mj.2.2.2.2 < mi.2.2.2.2 := by decide) (hnl : noLongs [a0, a1, a2] = true := by rfl) (hnL : 3 ≤ mj.2.2.1 := by decide) (hr4 : st.length ≤ 4 := by first | decide | (simp; done)) : J SH mi pc L (a2 :: a1 :: a0 :: st) M Q := j_N (As := [a0, a1, a2]) hd hok hw hlev rfl hnl hnL hr4 rfl h1 k
theorem j_N3p {idx : Nat} {a0 a1 a2 : PV} {x : PV} (hd : decode mi.2.1 pc = .ok (.invokestatic idx, 3)) (hok : mOK mj) (hw : nOK mi.1.cls idx 3 mj) (h1 : J SH mj 0 (ent [a0, a1, a2] mj.2.2.1) [] M (pu x M)) (k : J SH mi (pc + 3) L (x :: st) M Q) (hlev : mj.2.2.2.2 < mi.2.2.2.2 := by decide) (hnl : noLongs [a0, a1, a2] = true := by rfl) (hnL : 3 ≤ mj.2.2.1 := by decide) (hr4 : st.length ≤ 4 := by first | decide | (simp; done)) : J SH mi pc L (a2 :: a1 :: a0 :: st) M Q := j_N (As := [a0, a1, a2]) hd hok hw hlev rfl hnl hnL hr4 rfl h1 (fun v M1 q => by obtain ⟨rfl, rfl⟩ := q; exact k)
theorem j_V4g {idx ci r len : Nat} {refs : List (Option Nat)} {a0 a1 a2 a3 : PV} (hd : decode mi.2.1 pc = .ok (.invokevirtual idx, 3)) (hok : mOK mj) (hw : vOK mi.1.cls idx 4 mj) (hc : cOK ci mj) (hs : SH[r]? = some (ci + 3, len, refs)) (h1 : J SH mj 0 (ent [vR r, a0, a1, a2, a3] mj.2.2.1) [] M Q1) (k : ∀ v M1, Q1 v M1 → J SH mi (pc + 3) L (v.toList ++ st) M1 Q) (hlev : mj.2.2.2.2 < mi.2.2.2.2 := by decide) (hnl : noLongs [a0, a1, a2, a3] = true := by rfl) (hnL : 5 ≤ mj.2.2.1 := by decide) (hr4 : st.length ≤ 4 := by first | decide | (simp; done)) : J SH mi pc L (a3 :: a2 :: a1 :: a0 :: vR r :: st) M Q := j_V (As := [a0, a1, a2, a3]) hd hok hw hlev hc hs rfl hnl hnL hr4 rfl h1 k
theorem j_V4p {idx ci r len : Nat} {refs : List (Option Nat)} {a0 a1 a2 a3 : PV} {x : PV} (hd : decode mi.2.1 pc = .ok (.invokevirtual idx, 3)) (hok : mOK mj) (hw : vOK mi.1.cls idx 4 mj) (hc : cOK ci mj) (hs : SH[r]? = some (ci + 3, len, refs)) (h1 : J SH mj 0 (ent [vR r, a0, a1, a2, a3] mj.2.2.1) [] M (pu x M)) (k : J SH mi (pc + 3) L (x :: st) M Q) (hlev : mj.2.2.2.2 < mi.2.2.2.2 := by decide) (hnl : noLongs [a0, a1, a2, a3] = true := by rfl) (hnL : 5 ≤ mj.2.2.1 := by decide) (hr4 : st.length ≤ 4 := by first | decide | (simp; done)) : J SH mi pc L (a3 :: a2 :: a1 :: a0 :: vR r :: st) M Q := j_V (As := [a0, a1, a2, a3]) hd hok hw hlev hc hs rfl hnl hnL hr4 rfl h1 (fun v M1 q => by obtain ⟨rfl, rfl⟩ := q; exact k)
theorem j_S4g {idx : Nat} {a0 a1 a2 a3 : PV} (hd : decode mi.2.1 pc = .ok (.invokestatic idx, 3)) (hok : mOK mj) (hw : sOK mi.1.cls idx 4 mj) (h1 : J SH mj 0 (ent [a0, a1, a2, a3] mj.2.2.1) [] M Q1) (k : ∀ v M1, Q1 v M1 → J SH mi (pc + 3) L (v.toList ++ st) M1 Q) (hlev : mj.2.2.2.2 < mi.2.2.2.2 := by decide) (hnl : noLongs [a0, a1, a2, a3] = true := by rfl) (hnL : 4 ≤ mj.2.2.1 := by decide) (hr4 : st.length ≤ 4 := by first | decide | (simp; done)) : J SH mi pc L (a3 :: a2 :: a1 :: a0 :: st) M Q := j_S (As := [a0, a1, a2, a3]) hd hok hw hlev rfl hnl hnL hr4 rfl h1 k
theorem j_S4p {idx : Nat} {a0 a1 a2 a3 : PV} {x : PV} (hd : decode mi.2.1 pc = .ok (.invokestatic idx, 3)) (hok : mOK mj) (hw : sOK mi.1.cls idx 4 mj) (h1 : J SH mj 0 (ent [a0, a1, a2, a3] mj.2.2.1) [] M (pu x M)) (k : J SH mi (pc + 3) L (x :: st) M Q) (hlev : mj.2.2.2.2 < mi.2.2.2.2 := by decide) (hnl : noLongs [a0, a1, a2, a3] = true := by rfl) (hnL : 4 ≤ mj.2.2.1 := by decide) (hr4 : st.length ≤ 4 := by first | decide | (simp; done)) : J SH mi pc L (a3 :: a2 :: a1 :: a0 :: st) M Q := j_S (As := [a0, a1, a2, a3]) hd hok hw hlev rfl hnl hnL hr4 rfl h1 (fun v M1 q => by obtain ⟨rfl, rfl⟩ := q; exact k)
theorem j_N4g {idx : Nat} {a0 a1 a2 a3 : PV} (hd : decode mi.2.1 pc = .ok (.invokestatic idx, 3)) (hok : mOK mj) (hw : nOK mi.1.cls idx 4 mj) (h1 : J SH mj 0 (ent [a0, a1, a2, a3] mj.2.2.1) [] M Q1) (k : ∀ v M1, Q1 v M1 → J SH mi (pc + 3) L (v.toList ++ st) M1 Q) (hlev : mj.2.2.2.2 < mi.2.2.2.2 := by decide) (hnl : noLongs [a0, a1, a2, a3] = true := by rfl) (hnL : 4 ≤ mj.2.2.1 := by decide) (hr4 : st.length ≤ 4 := by first | decide | (simp; done)) : J SH mi pc L (a3 :: a2 :: a1 :: a0 :: st) M Q := j_N (As := [a0, a1, a2, a3]) hd hok hw hlev rfl hnl hnL hr4 rfl h1 k
theorem j_N4p {idx : Nat} {a0 a1 a2 a3 : PV} {x : PV} (hd : decode mi.2.1 pc = .ok (.invokestatic idx, 3)) (hok : mOK mj) (hw : nOK mi.1.cls idx 4 mj) (h1 : J SH mj 0 (ent [a0, a1, a2, a3] mj.2.2.1) [] M (pu x M)) (k : J SH mi (pc + 3) L (x :: st) M Q) (hlev : mj.2.2.2.2 < mi.2.2.2.2 := by decide) (hnl : noLongs [a0, a1, a2, a3] = true := by rfl) (hnL : 4 ≤ mj.2.2.1 := by decide) (hr4 : st.length ≤ 4 := by first | decide | (simp; done)) : J SH mi pc L (a3 :: a2 :: a1 :: a0 :: st) M Q := j_N (As := [a0, a1, a2, a3]) hd hok hw hlev rfl hnl hnL hr4 rfl h1 (fun v M1 q => by obtain ⟨rfl, rfl⟩ := q; exact k)
end JN
end
section
/-! the two worlds' shapes -/
def SHC : List Shp := [(9, 0, [some 1, some 2, some 4, some 10, some 15, some 19]), (8, 0, [none, none]), (5, 0, [some 3, none]), (0, 4, []), (7, 0, [some 5, none]), (2, 4, [some 6, some 7, some 8, some 9]), (0, 7, []), (0, 7, []), (0, 7, []), (0, 7, []),
  (6, 0, [some 1, some 2, some 11, some 12, some 13, some 14, none, none]), (1, 300, []), (0, 300, []), (1, 300, []), (0, 300, []), (4, 0, [some 1, some 10, some 16, some 17, some 18]), (1, 12, []), (1, 12, []), (0, 4, []),
  (3, 0, [some 1, some 2, some 10, some 20, some 21, some 22, some 23, some 24, none, none]), (0, 25, []), (0, 25, []), (1, 25, []), (0, 25, []), (0, 25, [])]
def SHM : List Shp := [(10, 0, [some 1, some 2, none, none, some 3, some 4, some 5, some 6, none]), (0, 7, []), (0, 28, []), (0, 48, []), (0, 144, []), (1, 300, []), (0, 300, [])]
end
section
/-! more call rows: v a void callee with a property, z an int with a property -/
section JZ
variable {SH : List Shp} {mi mj : MI} {pc : Nat} {L : List (Option PV)} {st : List PV} {M : Mem} {Q : Option PV → Mem → Prop}
def noLb (L : List (Option PV)) (i : Nat) : Bool := match i with
  | 0 => true
  | j + 1 => match L[j]? with
    | some (some (.inr (.inl _))) => false
    | _ => true
theorem nol {i : Nat} (h : noLb L i = true) : noL L i := by
  intro j z hj hz
  subst hj
  simp [noLb, hz] at h
abbrev pv (P : Mem → Prop) : Option PV → Mem → Prop := fun v M1 => v = none ∧ P M1
abbrev pz (P : Int → Mem → Prop) : Option PV → Mem → Prop := fun v M1 => ∃ z, v = some (vI z) ∧ P z M1
/-- a truth value: 1 where p holds, 0 where it doesn't; nothing changes -/
abbrev bz (p : Prop) (M : Mem) : Option PV → Mem → Prop := pz (fun z M1 => M = M1 ∧ ((z = 1 ∧ p) ∨ (z = 0 ∧ ¬ p)))
theorem bz_i {p : Prop} {x : Int} {M : Mem} (h : (x = 1 ∧ p) ∨ (x = 0 ∧ ¬ p)) : bz p M (some (vI x)) M := ⟨x, rfl, rfl, h⟩
theorem j_V0v {idx ci r len : Nat} {refs : List (Option Nat)} {P : Mem → Prop} (hd : decode mi.2.1 pc = .ok (.invokevirtual idx, 3)) (hok : mOK mj) (hw : vOK mi.1.cls idx 0 mj) (hc : cOK ci mj) (hs : SH[r]? = some (ci + 3, len, refs)) (h1 : J SH mj 0 (ent [vR r] mj.2.2.1) [] M (pv P)) (k : ∀ M1, P M1 → J SH mi (pc + 3) L st M1 Q) (hlev : mj.2.2.2.2 < mi.2.2.2.2 := by decide) (hnl : noLongs [] = true := by rfl) (hnL : 1 ≤ mj.2.2.1 := by decide) (hr4 : st.length ≤ 4 := by first | decide | (simp; done)) : J SH mi pc L (vR r :: st) M Q := j_V (As := []) hd hok hw hlev hc hs rfl hnl hnL hr4 rfl h1 (fun v M1 q => by obtain ⟨rfl, q⟩ := q; exact k M1 q)
theorem j_V0z {idx ci r len : Nat} {refs : List (Option Nat)} {P : Int → Mem → Prop} (hd : decode mi.2.1 pc = .ok (.invokevirtual idx, 3)) (hok : mOK mj) (hw : vOK mi.1.cls idx 0 mj) (hc : cOK ci mj) (hs : SH[r]? = some (ci + 3, len, refs)) (h1 : J SH mj 0 (ent [vR r] mj.2.2.1) [] M (pz P)) (k : ∀ z M1, P z M1 → J SH mi (pc + 3) L (vI z :: st) M1 Q) (hlev : mj.2.2.2.2 < mi.2.2.2.2 := by decide) (hnl : noLongs [] = true := by rfl) (hnL : 1 ≤ mj.2.2.1 := by decide) (hr4 : st.length ≤ 4 := by first | decide | (simp; done)) : J SH mi pc L (vR r :: st) M Q := j_V (As := []) hd hok hw hlev hc hs rfl hnl hnL hr4 rfl h1 (fun v M1 q => by obtain ⟨z, rfl, q⟩ := q; exact k z M1 q)
theorem j_V1v {idx ci r len : Nat} {refs : List (Option Nat)} {a0 : PV} {P : Mem → Prop} (hd : decode mi.2.1 pc = .ok (.invokevirtual idx, 3)) (hok : mOK mj) (hw : vOK mi.1.cls idx 1 mj) (hc : cOK ci mj) (hs : SH[r]? = some (ci + 3, len, refs)) (h1 : J SH mj 0 (ent [vR r, a0] mj.2.2.1) [] M (pv P)) (k : ∀ M1, P M1 → J SH mi (pc + 3) L st M1 Q) (hlev : mj.2.2.2.2 < mi.2.2.2.2 := by decide) (hnl : noLongs [a0] = true := by rfl) (hnL : 2 ≤ mj.2.2.1 := by decide) (hr4 : st.length ≤ 4 := by first | decide | (simp; done)) : J SH mi pc L (a0 :: vR r :: st) M Q := j_V (As := [a0]) hd hok hw hlev hc hs rfl hnl hnL hr4 rfl h1 (fun v M1 q => by obtain ⟨rfl, q⟩ := q; exact k M1 q)
theorem j_V1z {idx ci r len : Nat} {refs : List (Option Nat)} {a0 : PV} {P : Int → Mem → Prop} (hd : decode mi.2.1 pc = .ok (.invokevirtual idx, 3)) (hok : mOK mj) (hw : vOK mi.1.cls idx 1 mj) (hc : cOK ci mj) (hs : SH[r]? = some (ci + 3, len, refs)) (h1 : J SH mj 0 (ent [vR r, a0] mj.2.2.1) [] M (pz P)) (k : ∀ z M1, P z M1 → J SH mi (pc + 3) L (vI z :: st) M1 Q) (hlev : mj.2.2.2.2 < mi.2.2.2.2 := by decide) (hnl : noLongs [a0] = true := by rfl) (hnL : 2 ≤ mj.2.2.1 := by decide) (hr4 : st.length ≤ 4 := by first | decide | (simp; done)) : J SH mi pc L (a0 :: vR r :: st) M Q := j_V (As := [a0]) hd hok hw hlev hc hs rfl hnl hnL hr4 rfl h1 (fun v M1 q => by obtain ⟨z, rfl, q⟩ := q; exact k z M1 q)
theorem j_S1v {idx : Nat} {a0 : PV} {P : Mem → Prop} (hd : decode mi.2.1 pc = .ok (.invokestatic idx, 3)) (hok : mOK mj) (hw : sOK mi.1.cls idx 1 mj) (h1 : J SH mj 0 (ent [a0] mj.2.2.1) [] M (pv P)) (k : ∀ M1, P M1 → J SH mi (pc + 3) L st M1 Q) (hlev : mj.2.2.2.2 < mi.2.2.2.2 := by decide) (hnl : noLongs [a0] = true := by rfl) (hnL : 1 ≤ mj.2.2.1 := by decide) (hr4 : st.length ≤ 4 := by first | decide | (simp; done)) : J SH mi pc L (a0 :: st) M Q := j_S (As := [a0]) hd hok hw hlev rfl hnl hnL hr4 rfl h1 (fun v M1 q => by obtain ⟨rfl, q⟩ := q; exact k M1 q)
theorem j_S1z {idx : Nat} {a0 : PV} {P : Int → Mem → Prop} (hd : decode mi.2.1 pc = .ok (.invokestatic idx, 3)) (hok : mOK mj) (hw : sOK mi.1.cls idx 1 mj) (h1 : J SH mj 0 (ent [a0] mj.2.2.1) [] M (pz P)) (k : ∀ z M1, P z M1 → J SH mi (pc + 3) L (vI z :: st) M1 Q) (hlev : mj.2.2.2.2 < mi.2.2.2.2 := by decide) (hnl : noLongs [a0] = true := by rfl) (hnL : 1 ≤ mj.2.2.1 := by decide) (hr4 : st.length ≤ 4 := by first | decide | (simp; done)) : J SH mi pc L (a0 :: st) M Q := j_S (As := [a0]) hd hok hw hlev rfl hnl hnL hr4 rfl h1 (fun v M1 q => by obtain ⟨z, rfl, q⟩ := q; exact k z M1 q)
theorem j_N1v {idx : Nat} {a0 : PV} {P : Mem → Prop} (hd : decode mi.2.1 pc = .ok (.invokestatic idx, 3)) (hok : mOK mj) (hw : nOK mi.1.cls idx 1 mj) (h1 : J SH mj 0 (ent [a0] mj.2.2.1) [] M (pv P)) (k : ∀ M1, P M1 → J SH mi (pc + 3) L st M1 Q) (hlev : mj.2.2.2.2 < mi.2.2.2.2 := by decide) (hnl : noLongs [a0] = true := by rfl) (hnL : 1 ≤ mj.2.2.1 := by decide) (hr4 : st.length ≤ 4 := by first | decide | (simp; done)) : J SH mi pc L (a0 :: st) M Q := j_N (As := [a0]) hd hok hw hlev rfl hnl hnL hr4 rfl h1 (fun v M1 q => by obtain ⟨rfl, q⟩ := q; exact k M1 q)
theorem j_N1z {idx : Nat} {a0 : PV} {P : Int → Mem → Prop} (hd : decode mi.2.1 pc = .ok (.invokestatic idx, 3)) (hok : mOK mj) (hw : nOK mi.1.cls idx 1 mj) (h1 : J SH mj 0 (ent [a0] mj.2.2.1) [] M (pz P)) (k : ∀ z M1, P z M1 → J SH mi (pc + 3) L (vI z :: st) M1 Q) (hlev : mj.2.2.2.2 < mi.2.2.2.2 := by decide) (hnl : noLongs [a0] = true := by rfl) (hnL : 1 ≤ mj.2.2.1 := by decide) (hr4 : st.length ≤ 4 := by first | decide | (simp; done)) : J SH mi pc L (a0 :: st) M Q := j_N (As := [a0]) hd hok hw hlev rfl hnl hnL hr4 rfl h1 (fun v M1 q => by obtain ⟨z, rfl, q⟩ := q; exact k z M1 q)
theorem j_V2v {idx ci r len : Nat} {refs : List (Option Nat)} {a0 a1 : PV} {P : Mem → Prop} (hd : decode mi.2.1 pc = .ok (.invokevirtual idx, 3)) (hok : mOK mj) (hw : vOK mi.1.cls idx 2 mj) (hc : cOK ci mj) (hs : SH[r]? = some (ci + 3, len, refs)) (h1 : J SH mj 0 (ent [vR r, a0, a1] mj.2.2.1) [] M (pv P)) (k : ∀ M1, P M1 → J SH mi (pc + 3) L st M1 Q) (hlev : mj.2.2.2.2 < mi.2.2.2.2 := by decide) (hnl : noLongs [a0, a1] = true := by rfl) (hnL : 3 ≤ mj.2.2.1 := by decide) (hr4 : st.length ≤ 4 := by first | decide | (simp; done)) : J SH mi pc L (a1 :: a0 :: vR r :: st) M Q := j_V (As := [a0, a1]) hd hok hw hlev hc hs rfl hnl hnL hr4 rfl h1 (fun v M1 q => by obtain ⟨rfl, q⟩ := q; exact k M1 q)
theorem j_V2z {idx ci r len : Nat} {refs : List (Option Nat)} {a0 a1 : PV} {P : Int → Mem → Prop} (hd : decode mi.2.1 pc = .ok (.invokevirtual idx, 3)) (hok : mOK mj) (hw : vOK mi.1.cls idx 2 mj) (hc : cOK ci mj) (hs : SH[r]? = some (ci + 3, len, refs)) (h1 : J SH mj 0 (ent [vR r, a0, a1] mj.2.2.1) [] M (pz P)) (k : ∀ z M1, P z M1 → J SH mi (pc + 3) L (vI z :: st) M1 Q) (hlev : mj.2.2.2.2 < mi.2.2.2.2 := by decide) (hnl : noLongs [a0, a1] = true := by rfl) (hnL : 3 ≤ mj.2.2.1 := by decide) (hr4 : st.length ≤ 4 := by first | decide | (simp; done)) : J SH mi pc L (a1 :: a0 :: vR r :: st) M Q := j_V (As := [a0, a1]) hd hok hw hlev hc hs rfl hnl hnL hr4 rfl h1 (fun v M1 q => by obtain ⟨z, rfl, q⟩ := q; exact k z M1 q)
theorem j_S2v {idx : Nat} {a0 a1 : PV} {P : Mem → Prop} (hd : decode mi.2.1 pc = .ok (.invokestatic idx, 3)) (hok : mOK mj) (hw : sOK mi.1.cls idx 2 mj) (h1 : J SH mj 0 (ent [a0, a1] mj.2.2.1) [] M (pv P)) (k : ∀ M1, P M1 → J SH mi (pc + 3) L st M1 Q) (hlev : mj.2.2.2.2 < mi.2.2.2.2 := by decide) (hnl : noLongs [a0, a1] = true := by rfl) (hnL : 2 ≤ mj.2.2.1 := by decide) (hr4 : st.length ≤ 4 := by first | decide | (simp; done)) : J SH mi pc L (a1 :: a0 :: st) M Q := j_S (As := [a0, a1]) hd hok hw hlev rfl hnl hnL hr4 rfl h1 (fun v M1 q => by obtain ⟨rfl, q⟩ := q; exact k M1 q)
theorem j_S2z {idx : Nat} {a0 a1 : PV} {P : Int → Mem → Prop} (hd : decode mi.2.1 pc = .ok (.invokestatic idx, 3)) (hok : mOK mj) (hw : sOK mi.1.cls idx 2 mj) (h1 : J SH mj 0 (ent [a0, a1] mj.2.2.1) [] M (pz P)) (k : ∀ z M1, P z M1 → J SH mi (pc + 3) L (vI z :: st) M1 Q) (hlev : mj.2.2.2.2 < mi.2.2.2.2 := by decide) (hnl : noLongs [a0, a1] = true := by rfl) (hnL : 2 ≤ mj.2.2.1 := by decide) (hr4 : st.length ≤ 4 := by first | decide | (simp; done)) : J SH mi pc L (a1 :: a0 :: st) M Q := j_S (As := [a0, a1]) hd hok hw hlev rfl hnl hnL hr4 rfl h1 (fun v M1 q => by obtain ⟨z, rfl, q⟩ := q; exact k z M1 q)
theorem j_N2v {idx : Nat} {a0 a1 : PV} {P : Mem → Prop} (hd : decode mi.2.1 pc = .ok (.invokestatic idx, 3)) (hok : mOK mj) (hw : nOK mi.1.cls idx 2 mj) (h1 : J SH mj 0 (ent [a0, a1] mj.2.2.1) [] M (pv P)) (k : ∀ M1, P M1 → J SH mi (pc + 3) L st M1 Q) (hlev : mj.2.2.2.2 < mi.2.2.2.2 := by decide) (hnl : noLongs [a0, a1] = true := by rfl) (hnL : 2 ≤ mj.2.2.1 := by decide) (hr4 : st.length ≤ 4 := by first | decide | (simp; done)) : J SH mi pc L (a1 :: a0 :: st) M Q := j_N (As := [a0, a1]) hd hok hw hlev rfl hnl hnL hr4 rfl h1 (fun v M1 q => by obtain ⟨rfl, q⟩ := q; exact k M1 q)
theorem j_N2z {idx : Nat} {a0 a1 : PV} {P : Int → Mem → Prop} (hd : decode mi.2.1 pc = .ok (.invokestatic idx, 3)) (hok : mOK mj) (hw : nOK mi.1.cls idx 2 mj) (h1 : J SH mj 0 (ent [a0, a1] mj.2.2.1) [] M (pz P)) (k : ∀ z M1, P z M1 → J SH mi (pc + 3) L (vI z :: st) M1 Q) (hlev : mj.2.2.2.2 < mi.2.2.2.2 := by decide) (hnl : noLongs [a0, a1] = true := by rfl) (hnL : 2 ≤ mj.2.2.1 := by decide) (hr4 : st.length ≤ 4 := by first | decide | (simp; done)) : J SH mi pc L (a1 :: a0 :: st) M Q := j_N (As := [a0, a1]) hd hok hw hlev rfl hnl hnL hr4 rfl h1 (fun v M1 q => by obtain ⟨z, rfl, q⟩ := q; exact k z M1 q)
theorem j_V3v {idx ci r len : Nat} {refs : List (Option Nat)} {a0 a1 a2 : PV} {P : Mem → Prop} (hd : decode mi.2.1 pc = .ok (.invokevirtual idx, 3)) (hok : mOK mj) (hw : vOK mi.1.cls idx 3 mj) (hc : cOK ci mj) (hs : SH[r]? = some (ci + 3, len, refs)) (h1 : J SH mj 0 (ent [vR r, a0, a1, a2] mj.2.2.1) [] M (pv P)) (k : ∀ M1, P M1 → J SH mi (pc + 3) L st M1 Q) (hlev : mj.2.2.2.2 < mi.2.2.2.2 := by decide) (hnl : noLongs [a0, a1, a2] = true := by rfl) (hnL : 4 ≤ mj.2.2.1 := by decide) (hr4 : st.length ≤ 4 := by first | decide | (simp; done)) : J SH mi pc L (a2 :: a1 :: a0 :: vR r :: st) M Q := j_V (As := [a0, a1, a2]) hd hok hw hlev hc hs rfl hnl hnL hr4 rfl h1 (fun v M1 q => by obtain ⟨rfl, q⟩ := q; exact k M1 q)
theorem j_V3z {idx ci r len : Nat} {refs : List (Option Nat)} {a0 a1 a2 : PV} {P : Int → Mem → Prop} (hd : decode mi.2.1 pc = .ok (.invokevirtual idx, 3)) (hok : mOK mj) (hw : vOK mi.1.cls idx 3 mj) (hc : cOK ci mj) (hs : SH[r]? = some (ci + 3, len, refs)) (h1 : J SH mj 0 (ent [vR r, a0, a1, a2] mj.2.2.1) [] M (pz P)) (k : ∀ z M1, P z M1 → J SH mi (pc + 3) L (vI z :: st) M1 Q) (hlev : mj.2.2.2.2 < mi.2.2.2.2 := by decide) (hnl : noLongs [a0, a1, a2] = true := by rfl) (hnL : 4 ≤ mj.2.2.1 := by decide) (hr4 : st.length ≤ 4 := by first | decide | (simp; done)) : J SH mi pc L (a2 :: a1 :: a0 :: vR r :: st) M Q := j_V (As := [a0, a1, a2]) hd hok hw hlev hc hs rfl hnl hnL hr4 rfl h1 (fun v M1 q => by obtain ⟨z, rfl, q⟩ := q; exact k z M1 q)
theorem j_S3v {idx : Nat} {a0 a1 a2 : PV} {P : Mem → Prop} (hd : decode mi.2.1 pc = .ok (.invokestatic idx, 3)) (hok : mOK mj) (hw : sOK mi.1.cls idx 3 mj) (h1 : J SH mj 0 (ent [a0, a1, a2] mj.2.2.1) [] M (pv P)) (k : ∀ M1, P M1 → J SH mi (pc + 3) L st M1 Q) (hlev : mj.2.2.2.2 < mi.2.2.2.2 := by decide) (hnl : noLongs [a0, a1, a2] = true := by rfl) (hnL : 3 ≤ mj.2.2.1 := by decide) (hr4 : st.length ≤ 4 := by first | decide | (simp; done)) : J SH mi pc L (a2 :: a1 :: a0 :: st) M Q := j_S (As := [a0, a1, a2]) hd hok hw hlev rfl hnl hnL hr4 rfl h1 (fun v M1 q => by obtain ⟨rfl, q⟩ := q; exact k M1 q)
theorem j_S3z {idx : Nat} {a0 a1 a2 : PV} {P : Int → Mem → Prop} (hd : decode mi.2.1 pc = .ok (.invokestatic idx, 3)) (hok : mOK mj) (hw : sOK mi.1.cls idx 3 mj) (h1 : J SH mj 0 (ent [a0, a1, a2] mj.2.2.1) [] M (pz P)) (k : ∀ z M1, P z M1 → J SH mi (pc + 3) L (vI z :: st) M1 Q) (hlev : mj.2.2.2.2 < mi.2.2.2.2 := by decide) (hnl : noLongs [a0, a1, a2] = true := by rfl) (hnL : 3 ≤ mj.2.2.1 := by decide) (hr4 : st.length ≤ 4 := by first | decide | (simp; done)) : J SH mi pc L (a2 :: a1 :: a0 :: st) M Q := j_S (As := [a0, a1, a2]) hd hok hw hlev rfl hnl hnL hr4 rfl h1 (fun v M1 q => by obtain ⟨z, rfl, q⟩ := q; exact k z M1 q)
theorem j_N3v {idx : Nat} {a0 a1 a2 : PV} {P : Mem → Prop} (hd : decode mi.2.1 pc = .ok (.invokestatic idx, 3)) (hok : mOK mj) (hw : nOK mi.1.cls idx 3 mj) (h1 : J SH mj 0 (ent [a0, a1, a2] mj.2.2.1) [] M (pv P)) (k : ∀ M1, P M1 → J SH mi (pc + 3) L st M1 Q) (hlev : mj.2.2.2.2 < mi.2.2.2.2 := by decide) (hnl : noLongs [a0, a1, a2] = true := by rfl) (hnL : 3 ≤ mj.2.2.1 := by decide) (hr4 : st.length ≤ 4 := by first | decide | (simp; done)) : J SH mi pc L (a2 :: a1 :: a0 :: st) M Q := j_N (As := [a0, a1, a2]) hd hok hw hlev rfl hnl hnL hr4 rfl h1 (fun v M1 q => by obtain ⟨rfl, q⟩ := q; exact k M1 q)
theorem j_N3z {idx : Nat} {a0 a1 a2 : PV} {P : Int → Mem → Prop} (hd : decode mi.2.1 pc = .ok (.invokestatic idx, 3)) (hok : mOK mj) (hw : nOK mi.1.cls idx 3 mj) (h1 : J SH mj 0 (ent [a0, a1, a2] mj.2.2.1) [] M (pz P)) (k : ∀ z M1, P z M1 → J SH mi (pc + 3) L (vI z :: st) M1 Q) (hlev : mj.2.2.2.2 < mi.2.2.2.2 := by decide) (hnl : noLongs [a0, a1, a2] = true := by rfl) (hnL : 3 ≤ mj.2.2.1 := by decide) (hr4 : st.length ≤ 4 := by first | decide | (simp; done)) : J SH mi pc L (a2 :: a1 :: a0 :: st) M Q := j_N (As := [a0, a1, a2]) hd hok hw hlev rfl hnl hnL hr4 rfl h1 (fun v M1 q => by obtain ⟨z, rfl, q⟩ := q; exact k z M1 q)
theorem j_V4v {idx ci r len : Nat} {refs : List (Option Nat)} {a0 a1 a2 a3 : PV} {P : Mem → Prop} (hd : decode mi.2.1 pc = .ok (.invokevirtual idx, 3)) (hok : mOK mj) (hw : vOK mi.1.cls idx 4 mj) (hc : cOK ci mj) (hs : SH[r]? = some (ci + 3, len, refs)) (h1 : J SH mj 0 (ent [vR r, a0, a1, a2, a3] mj.2.2.1) [] M (pv P)) (k : ∀ M1, P M1 → J SH mi (pc + 3) L st M1 Q) (hlev : mj.2.2.2.2 < mi.2.2.2.2 := by decide) (hnl : noLongs [a0, a1, a2, a3] = true := by rfl) (hnL : 5 ≤ mj.2.2.1 := by decide) (hr4 : st.length ≤ 4 := by first | decide | (simp; done)) : J SH mi pc L (a3 :: a2 :: a1 :: a0 :: vR r :: st) M Q := j_V (As := [a0, a1, a2, a3]) hd hok hw hlev hc hs rfl hnl hnL hr4 rfl h1 (fun v M1 q => by obtain ⟨rfl, q⟩ := q; exact k M1 q)
theorem j_V4z {idx ci r len : Nat} {refs : List (Option Nat)} {a0 a1 a2 a3 : PV} {P : Int → Mem → Prop} (hd : decode mi.2.1 pc = .ok (.invokevirtual idx, 3)) (hok : mOK mj) (hw : vOK mi.1.cls idx 4 mj) (hc : cOK ci mj) (hs : SH[r]? = some (ci + 3, len, refs)) (h1 : J SH mj 0 (ent [vR r, a0, a1, a2, a3] mj.2.2.1) [] M (pz P)) (k : ∀ z M1, P z M1 → J SH mi (pc + 3) L (vI z :: st) M1 Q) (hlev : mj.2.2.2.2 < mi.2.2.2.2 := by decide) (hnl : noLongs [a0, a1, a2, a3] = true := by rfl) (hnL : 5 ≤ mj.2.2.1 := by decide) (hr4 : st.length ≤ 4 := by first | decide | (simp; done)) : J SH mi pc L (a3 :: a2 :: a1 :: a0 :: vR r :: st) M Q := j_V (As := [a0, a1, a2, a3]) hd hok hw hlev hc hs rfl hnl hnL hr4 rfl h1 (fun v M1 q => by obtain ⟨z, rfl, q⟩ := q; exact k z M1 q)
theorem j_S4v {idx : Nat} {a0 a1 a2 a3 : PV} {P : Mem → Prop} (hd : decode mi.2.1 pc = .ok (.invokestatic idx, 3)) (hok : mOK mj) (hw : sOK mi.1.cls idx 4 mj) (h1 : J SH mj 0 (ent [a0, a1, a2, a3] mj.2.2.1) [] M (pv P)) (k : ∀ M1, P M1 → J SH mi (pc + 3) L st M1 Q) (hlev : mj.2.2.2.2 < mi.2.2.2.2 := by decide) (hnl : noLongs [a0, a1, a2, a3] = true := by rfl) (hnL : 4 ≤ mj.2.2.1 := by decide) (hr4 : st.length ≤ 4 := by first | decide | (simp; done)) : J SH mi pc L (a3 :: a2 :: a1 :: a0 :: st) M Q := j_S (As := [a0, a1, a2, a3]) hd hok hw hlev rfl hnl hnL hr4 rfl h1 (fun v M1 q => by obtain ⟨rfl, q⟩ := q; exact k M1 q)
theorem j_S4z {idx : Nat} {a0 a1 a2 a3 : PV} {P : Int → Mem → Prop} (hd : decode mi.2.1 pc = .ok (.invokestatic idx, 3)) (hok : mOK mj) (hw : sOK mi.1.cls idx 4 mj) (h1 : J SH mj 0 (ent [a0, a1, a2, a3] mj.2.2.1) [] M (pz P)) (k : ∀ z M1, P z M1 → J SH mi (pc + 3) L (vI z :: st) M1 Q) (hlev : mj.2.2.2.2 < mi.2.2.2.2 := by decide) (hnl : noLongs [a0, a1, a2, a3] = true := by rfl) (hnL : 4 ≤ mj.2.2.1 := by decide) (hr4 : st.length ≤ 4 := by first | decide | (simp; done)) : J SH mi pc L (a3 :: a2 :: a1 :: a0 :: st) M Q := j_S (As := [a0, a1, a2, a3]) hd hok hw hlev rfl hnl hnL hr4 rfl h1 (fun v M1 q => by obtain ⟨z, rfl, q⟩ := q; exact k z M1 q)
theorem j_N4v {idx : Nat} {a0 a1 a2 a3 : PV} {P : Mem → Prop} (hd : decode mi.2.1 pc = .ok (.invokestatic idx, 3)) (hok : mOK mj) (hw : nOK mi.1.cls idx 4 mj) (h1 : J SH mj 0 (ent [a0, a1, a2, a3] mj.2.2.1) [] M (pv P)) (k : ∀ M1, P M1 → J SH mi (pc + 3) L st M1 Q) (hlev : mj.2.2.2.2 < mi.2.2.2.2 := by decide) (hnl : noLongs [a0, a1, a2, a3] = true := by rfl) (hnL : 4 ≤ mj.2.2.1 := by decide) (hr4 : st.length ≤ 4 := by first | decide | (simp; done)) : J SH mi pc L (a3 :: a2 :: a1 :: a0 :: st) M Q := j_N (As := [a0, a1, a2, a3]) hd hok hw hlev rfl hnl hnL hr4 rfl h1 (fun v M1 q => by obtain ⟨rfl, q⟩ := q; exact k M1 q)
theorem j_N4z {idx : Nat} {a0 a1 a2 a3 : PV} {P : Int → Mem → Prop} (hd : decode mi.2.1 pc = .ok (.invokestatic idx, 3)) (hok : mOK mj) (hw : nOK mi.1.cls idx 4 mj) (h1 : J SH mj 0 (ent [a0, a1, a2, a3] mj.2.2.1) [] M (pz P)) (k : ∀ z M1, P z M1 → J SH mi (pc + 3) L (vI z :: st) M1 Q) (hlev : mj.2.2.2.2 < mi.2.2.2.2 := by decide) (hnl : noLongs [a0, a1, a2, a3] = true := by rfl) (hnL : 4 ≤ mj.2.2.1 := by decide) (hr4 : st.length ≤ 4 := by first | decide | (simp; done)) : J SH mi pc L (a3 :: a2 :: a1 :: a0 :: st) M Q := j_N (As := [a0, a1, a2, a3]) hd hok hw hlev rfl hnl hnL hr4 rfl h1 (fun v M1 q => by obtain ⟨z, rfl, q⟩ := q; exact k z M1 q)
end JZ
end
section
/-! class Lattice and the small static methods: contracts over J -/
theorem xor_neg {a b : Int} (ha : inR a) (hb : inR b) (hb0 : 0 < b) : ((i3 a ^^^ i3 b).toInt < 0 ↔ a < 0) := by
  have hm : ∀ x : Int32, x.toInt < 0 ↔ x.toBitVec.msb = true := fun x => by
    show x.toBitVec.toInt < 0 ↔ _
    rw [BitVec.msb_eq_toInt, decide_eq_true_eq]
  have h1 := hm (i3 a ^^^ i3 b)
  have h2 := hm (i3 a)
  have h3 := hm (i3 b)
  rw [i3_toInt ha] at h2
  rw [i3_toInt hb] at h3
  have h4 : (i3 b).toBitVec.msb = false := by
    cases h : (i3 b).toBitVec.msb
    · rfl
    · have := h3.mpr h; omega
  rw [h1, Int32.toBitVec_xor, BitVec.msb_xor, h4, Bool.xor_false, ← h2]
theorem tmod_fix {a b : Int} (hb : 0 < b) : (0 ≤ a → a.tmod b = a % b) ∧ (a < 0 → a.tmod b = 0 → a % b = 0) ∧ (a < 0 → ¬ a.tmod b = 0 → a.tmod b + b = a % b) := by
  refine ⟨fun h => Int.tmod_eq_emod_of_nonneg h, fun h h2 => ?_, fun h h2 => ?_⟩
  · rw [← Int.dvd_iff_tmod_eq_zero] at h2
    exact Int.emod_eq_zero_of_dvd h2
  · have h3 : ¬ b ∣ a := fun h4 => h2 (Int.dvd_iff_tmod_eq_zero.mp h4)
    have h5 := Int.tmod_eq_emod (a := a) (b := b)
    rw [if_neg (by omega)] at h5
    have : (b.natAbs : Int) = b := by omega
    omega
/-- what the lattice's two numbers are -/
def Lat (M : Mem) : Prop := (M 1 0 = 0 ∨ M 1 0 = 1) ∧ 1 ≤ M 1 1 ∧ M 1 1 ≤ 5 ∧ 1 ≤ M 1 1 * M 1 1 ∧ M 1 1 * M 1 1 ≤ 25
def tu (k : Int) : Int := if k = 1 then 6 else 4
theorem tu_c {k : Int} (h : k = 0 ∨ k = 1) : (k = 0 ∧ tu k = 4) ∨ (k = 1 ∧ tu k = 6) := by
  rcases h with rfl | rfl <;> simp [tu]

theorem e_floorMod {SH : List Shp} {M : Mem} {a b : Int} (ha : inR a) (hb : inR b) (hb0 : 0 < b) : J SH mi_J9_floorMod_7cf53 0 (ent [vI a, vI b] 3) [] M (pu (vI (a % b)) M) := by
  have hx := xor_neg ha hb hb0
  have hm := tmod_fix (a := a) hb0
  have ha1 := ha.1
  have ha2 := ha.2
  have hb1 := hb.2
  have hmr : inR (a.tmod b) := by
    have h1 := Int.tmod_lt_of_pos a hb0
    have h2 := Int.lt_tmod_of_pos a hb0
    unfold inR; omega
  have hmr1 := hmr.1
  have hmr2 := hmr.2
  show J SH mi_J9_floorMod_7cf53 0 [some (vI a), some (vI b), none] [] M _
  refine j_iload_n dJ9_floorMod_7cf53_0 rfl ?_
  refine j_iload_n dJ9_floorMod_7cf53_1 rfl ?_
  refine j_irem dJ9_floorMod_7cf53_2 (by first | exact inR_of _ | (unfold inR; omega)) (by first | exact inR_of _ | (unfold inR; omega)) (by omega) ?_
  refine j_istore_n dJ9_floorMod_7cf53_3 (by decide) (nol rfl) (by show List.set _ 2 _ = _; simp only [List.set_cons_zero, List.set_cons_succ]; rfl) ?_
  refine j_iload_n dJ9_floorMod_7cf53_4 rfl ?_
  refine j_iload_n dJ9_floorMod_7cf53_5 rfl ?_
  refine j_ixor (z := (i3 a ^^^ i3 b).toInt) dJ9_floorMod_7cf53_6 (i3_of _).symm ?_
  refine j_if_ge 18 dJ9_floorMod_7cf53_7 rfl (by first | exact inR_of _ | (unfold inR; omega)) (fun c7 => ?_) (fun c7 => ?_)
  · refine j_iload_n dJ9_floorMod_7cf53_18 rfl ?_
    refine j_iret dJ9_floorMod_7cf53_19 rfl ?_
    exact pu_i (by omega)
  · refine j_iload_n dJ9_floorMod_7cf53_10 rfl ?_
    refine j_if_eq 18 dJ9_floorMod_7cf53_11 rfl (by first | exact inR_of _ | (unfold inR; omega)) (fun c11 => ?_) (fun c11 => ?_)
    · refine j_iload_n dJ9_floorMod_7cf53_18 rfl ?_
      refine j_iret dJ9_floorMod_7cf53_19 rfl ?_
      exact pu_i (by omega)
    · refine j_iload_n dJ9_floorMod_7cf53_14 rfl ?_
      refine j_iload_n dJ9_floorMod_7cf53_15 rfl ?_
      refine j_iadd dJ9_floorMod_7cf53_16 ?_
      refine j_iret dJ9_floorMod_7cf53_17 rfl ?_
      exact pu_i (by omega)
theorem e_max {SH : List Shp} {M : Mem} {a b : Int} (ha : inR a) (hb : inR b) : J SH mi_J9_max_7cf53 0 (ent [vI a, vI b] 2) [] M (pu (vI (max a b)) M) := by
  show J SH mi_J9_max_7cf53 0 [some (vI a), some (vI b)] [] M _
  refine j_iload_n dJ9_max_7cf53_0 rfl ?_
  refine j_iload_n dJ9_max_7cf53_1 rfl ?_
  refine j_icmp_lt 9 dJ9_max_7cf53_2 rfl (by assumption) (by assumption) (fun c2 => ?_) (fun c2 => ?_)
  · refine j_iload_n dJ9_max_7cf53_9 rfl ?_
    refine j_iret dJ9_max_7cf53_10 rfl ?_
    exact pu_i (by omega)
  · refine j_iload_n dJ9_max_7cf53_5 rfl ?_
    refine j_goto 10 dJ9_max_7cf53_6 rfl ?_
    refine j_iret dJ9_max_7cf53_10 rfl ?_
    exact pu_i (by omega)
theorem e_isInside {SH : List Shp} {M : Mem} {i l : Int} (hi : inR i) (hl : inR l) : J SH mi_X6_isInside 0 (ent [vI i, vI l] 2) [] M (bz (0 ≤ i ∧ i < l) M) := by
  show J SH mi_X6_isInside 0 [some (vI i), some (vI l)] [] M _
  refine j_iload_n dX6_isInside_0 rfl ?_
  refine j_if_lt 13 dX6_isInside_1 rfl (by first | assumption | exact inR0) (fun c1 => ?_) (fun c1 => ?_)
  · refine j_iconst dX6_isInside_13 ?_
    refine j_zret dX6_isInside_14 rfl (by first | exact Or.inl rfl | exact Or.inr rfl | omega) ?_
    exact bz_i (by omega)
  · refine j_iload_n dX6_isInside_4 rfl ?_
    refine j_iload_n dX6_isInside_5 rfl ?_
    refine j_icmp_ge 13 dX6_isInside_6 rfl (by first | assumption | exact inR0) (by first | assumption | exact inR0) (fun c6 => ?_) (fun c6 => ?_)
    · refine j_iconst dX6_isInside_13 ?_
      refine j_zret dX6_isInside_14 rfl (by first | exact Or.inl rfl | exact Or.inr rfl | omega) ?_
      exact bz_i (by omega)
    · refine j_iconst dX6_isInside_9 ?_
      refine j_goto 14 dX6_isInside_10 rfl ?_
      refine j_zret dX6_isInside_14 rfl (by first | exact Or.inl rfl | exact Or.inr rfl | omega) ?_
      exact bz_i (by omega)
theorem e_oneIf {SH : List Shp} {M : Mem} {z : Int} (h : z = 0 ∨ z = 1) : J SH mi_X6_oneIf 0 (ent [vI z] 1) [] M (pu (vI z) M) := by
  show J SH mi_X6_oneIf 0 [some (vI z)] [] M _
  refine j_iload_n dX6_oneIf_0 rfl ?_
  refine j_if_eq 8 dX6_oneIf_1 rfl (by unfold inR; omega) (fun c1 => ?_) (fun c1 => ?_)
  · refine j_iconst dX6_oneIf_8 ?_
    refine j_iret dX6_oneIf_9 rfl ?_
    exact pu_i (by omega)
  · refine j_iconst dX6_oneIf_4 ?_
    refine j_goto 9 dX6_oneIf_5 rfl ?_
    refine j_iret dX6_oneIf_9 rfl ?_
    exact pu_i (by omega)
theorem e_quotient {SH : List Shp} {M : Mem} {a b : Int} (ha : inR a) (hb : inR b) (h0 : 0 ≤ a) (hb0 : 0 < b) : J SH mi_X6_quotient 0 (ent [vI a, vI b] 2) [] M (pu (vI (a / b)) M) := by
  show J SH mi_X6_quotient 0 [some (vI a), some (vI b)] [] M _
  refine j_iload_n dX6_quotient_0 rfl ?_
  refine j_if_le 10 dX6_quotient_1 rfl (by first | assumption | exact inR0) (fun c1 => ?_) (fun c1 => ?_)
  · refine j_iconst dX6_quotient_10 ?_
    refine j_iret dX6_quotient_11 rfl ?_
    exact pu_i (by first | exact Int.tdiv_eq_ediv_of_nonneg h0 | omega)
  · refine j_iload_n dX6_quotient_4 rfl ?_
    refine j_iload_n dX6_quotient_5 rfl ?_
    refine j_idiv dX6_quotient_6 (by first | assumption | exact inR0) (by first | assumption | exact inR0) (by omega) ?_
    refine j_goto 11 dX6_quotient_7 rfl ?_
    refine j_iret dX6_quotient_11 rfl ?_
    exact pu_i (by first | exact Int.tdiv_eq_ediv_of_nonneg h0 | omega)
theorem e_remainder {SH : List Shp} {M : Mem} {a b : Int} (ha : inR a) (hb : inR b) (hb0 : 0 < b) : J SH mi_X6_remainder 0 (ent [vI a, vI b] 2) [] M (pu (vI (a % b)) M) := by
  show J SH mi_X6_remainder 0 [some (vI a), some (vI b)] [] M _
  refine j_iload_n dX6_remainder_0 rfl ?_
  refine j_if_le 12 dX6_remainder_1 rfl (by first | assumption | exact inR0) (fun c1 => ?_) (fun c1 => ?_)
  · refine j_iconst dX6_remainder_12 ?_
    refine j_iret dX6_remainder_13 rfl ?_
    exact pu_i (by first | rfl | omega)
  · refine j_iload_n dX6_remainder_4 rfl ?_
    refine j_iload_n dX6_remainder_5 rfl ?_
    refine j_S2p dX6_remainder_6 ok_J9_floorMod_7cf53 s_X6_203 (e_floorMod (by first | assumption | (unfold inR; omega)) (by first | assumption | (unfold inR; omega)) (by omega)) ?_
    refine j_goto 13 dX6_remainder_9 rfl ?_
    refine j_iret dX6_remainder_13 rfl ?_
    exact pu_i (by first | rfl | omega)
theorem e_X5_turns {M : Mem} (hL : Lat M)  : J SHC mi_X5_turns 0 (ent [vR 1] 1) [] M (pu (vI (tu (M 1 0))) M) := by
  obtain ⟨hk, hn1, hn5, hc1, hc2⟩ := id hL
  have ht := tu_c hk
  show J SHC mi_X5_turns 0 [some (vR 1)] [] M _
  refine j_aload_n dX5_turns_0 rfl ?_
  refine j_getI (kz := 0) rfl dX5_turns_1 f_X5_9 rfl rfl ?_
  refine j_iconst dX5_turns_4 ?_
  refine j_icmp_ne 13 dX5_turns_5 rfl (by unfold inR; omega) (by unfold inR; omega) (fun c5 => ?_) (fun c5 => ?_)
  · refine j_iconst dX5_turns_13 ?_
    refine j_iret dX5_turns_14 rfl ?_
    exact pu_i (by omega)
  · refine j_bipush dX5_turns_8 (by decide +kernel) ?_
    refine j_goto 14 dX5_turns_10 rfl ?_
    refine j_iret dX5_turns_14 rfl ?_
    exact pu_i (by omega)
theorem e_X5_parts {M : Mem} (hL : Lat M)  : J SHC mi_X5_parts 0 (ent [vR 1] 1) [] M (pu (vI (2 * tu (M 1 0))) M) := by
  obtain ⟨hk, hn1, hn5, hc1, hc2⟩ := id hL
  have ht := tu_c hk
  show J SHC mi_X5_parts 0 [some (vR 1)] [] M _
  refine j_iconst dX5_parts_0 ?_
  refine j_aload_n dX5_parts_1 rfl ?_
  refine j_V0p dX5_parts_2 ok_X5_turns v_X5_18 c_X5_turns rfl (e_X5_turns hL) ?_
  refine j_imul dX5_parts_5 ?_
  refine j_iret dX5_parts_6 rfl ?_
  exact pu_i (by first | rfl | omega | (simp; done))
theorem e_X5_cellCount {M : Mem} (hL : Lat M)  : J SHC mi_X5_cellCount 0 (ent [vR 1] 1) [] M (pu (vI (M 1 1 * M 1 1)) M) := by
  obtain ⟨hk, hn1, hn5, hc1, hc2⟩ := id hL
  have ht := tu_c hk
  show J SHC mi_X5_cellCount 0 [some (vR 1)] [] M _
  refine j_aload_n dX5_cellCount_0 rfl ?_
  refine j_getI (kz := 1) rfl dX5_cellCount_1 f_X5_15 rfl rfl ?_
  refine j_aload_n dX5_cellCount_4 rfl ?_
  refine j_getI (kz := 1) rfl dX5_cellCount_5 f_X5_15 rfl rfl ?_
  refine j_imul dX5_cellCount_8 ?_
  refine j_iret dX5_cellCount_9 rfl ?_
  exact pu_i (by first | rfl | omega | (simp; done))
theorem e_X5_codes {M : Mem} (hL : Lat M)  : J SHC mi_X5_codes 0 (ent [vR 1] 1) [] M (pu (vI (2 * tu (M 1 0) * (M 1 1 * M 1 1))) M) := by
  obtain ⟨hk, hn1, hn5, hc1, hc2⟩ := id hL
  have ht := tu_c hk
  show J SHC mi_X5_codes 0 [some (vR 1)] [] M _
  refine j_aload_n dX5_codes_0 rfl ?_
  refine j_V0p dX5_codes_1 ok_X5_parts v_X5_22 c_X5_parts rfl (e_X5_parts hL) ?_
  refine j_aload_n dX5_codes_4 rfl ?_
  refine j_V0p dX5_codes_5 ok_X5_cellCount v_X5_25 c_X5_cellCount rfl (e_X5_cellCount hL) ?_
  refine j_imul dX5_codes_8 ?_
  refine j_iret dX5_codes_9 rfl ?_
  exact pu_i (by first | rfl | omega | (simp; done))
theorem e_X5_hasCell {M : Mem} (hL : Lat M) {x y : Int} (hx : inR x) (hy : inR y) : J SHC mi_X5_hasCell 0 (ent [vR 1, vI x, vI y] 3) [] M (bz (0 ≤ x ∧ x < M 1 1 ∧ 0 ≤ y ∧ y < M 1 1) M) := by
  obtain ⟨hk, hn1, hn5, hc1, hc2⟩ := id hL
  have ht := tu_c hk
  show J SHC mi_X5_hasCell 0 [some (vR 1), some (vI x), some (vI y)] [] M _
  refine j_iload_n dX5_hasCell_0 rfl ?_
  refine j_aload_n dX5_hasCell_1 rfl ?_
  refine j_getI (kz := 1) rfl dX5_hasCell_2 f_X5_15 rfl rfl ?_
  refine j_N2z dX5_hasCell_5 ok_X6_isInside n_X5_28 (e_isInside (by first | assumption | (unfold inR; omega)) (by first | assumption | (unfold inR; omega))) (fun z5 M5 q5 => ?_)
  obtain ⟨rfl, q5⟩ := q5
  refine j_if_eq 26 dX5_hasCell_8 rfl (by unfold inR; omega) (fun c8 => ?_) (fun c8 => ?_)
  · refine j_iconst dX5_hasCell_26 ?_
    refine j_zret dX5_hasCell_27 rfl (by first | exact Or.inl rfl | exact Or.inr rfl | omega) ?_
    exact bz_i (by omega)
  · refine j_iload_n dX5_hasCell_11 rfl ?_
    refine j_aload_n dX5_hasCell_12 rfl ?_
    refine j_getI (kz := 1) rfl dX5_hasCell_13 f_X5_15 rfl rfl ?_
    refine j_N2z dX5_hasCell_16 ok_X6_isInside n_X5_28 (e_isInside (by first | assumption | (unfold inR; omega)) (by first | assumption | (unfold inR; omega))) (fun z16 M16 q16 => ?_)
    obtain ⟨rfl, q16⟩ := q16
    refine j_if_eq 26 dX5_hasCell_19 rfl (by unfold inR; omega) (fun c19 => ?_) (fun c19 => ?_)
    · refine j_iconst dX5_hasCell_26 ?_
      refine j_zret dX5_hasCell_27 rfl (by first | exact Or.inl rfl | exact Or.inr rfl | omega) ?_
      exact bz_i (by omega)
    · refine j_iconst dX5_hasCell_22 ?_
      refine j_goto 27 dX5_hasCell_23 rfl ?_
      refine j_zret dX5_hasCell_27 rfl (by first | exact Or.inl rfl | exact Or.inr rfl | omega) ?_
      exact bz_i (by omega)
theorem e_X5_hasMovement {M : Mem} (hL : Lat M) {p x y : Int} (hp : inR p) (hx : inR x) (hy : inR y) : J SHC mi_X5_hasMovement 0 (ent [vR 1, vI p, vI x, vI y] 4) [] M (bz (0 ≤ p ∧ p < 2 * tu (M 1 0) ∧ 0 ≤ x ∧ x < M 1 1 ∧ 0 ≤ y ∧ y < M 1 1) M) := by
  obtain ⟨hk, hn1, hn5, hc1, hc2⟩ := id hL
  have ht := tu_c hk
  show J SHC mi_X5_hasMovement 0 [some (vR 1), some (vI p), some (vI x), some (vI y)] [] M _
  refine j_iload_n dX5_hasMovement_0 rfl ?_
  refine j_aload_n dX5_hasMovement_1 rfl ?_
  refine j_V0p dX5_hasMovement_2 ok_X5_parts v_X5_22 c_X5_parts rfl (e_X5_parts hL) ?_
  refine j_N2z dX5_hasMovement_5 ok_X6_isInside n_X5_28 (e_isInside (by first | assumption | (unfold inR; omega)) (by first | assumption | (unfold inR; omega))) (fun z5 M5 q5 => ?_)
  obtain ⟨rfl, q5⟩ := q5
  refine j_if_eq 24 dX5_hasMovement_8 rfl (by unfold inR; omega) (fun c8 => ?_) (fun c8 => ?_)
  · refine j_iconst dX5_hasMovement_24 ?_
    refine j_zret dX5_hasMovement_25 rfl (by first | exact Or.inl rfl | exact Or.inr rfl | omega) ?_
    exact bz_i (by omega)
  · refine j_aload_n dX5_hasMovement_11 rfl ?_
    refine j_iload_n dX5_hasMovement_12 rfl ?_
    refine j_iload_n dX5_hasMovement_13 rfl ?_
    refine j_V2z dX5_hasMovement_14 ok_X5_hasCell v_X5_32 c_X5_hasCell rfl (e_X5_hasCell hL (by assumption) (by assumption)) (fun z14 M14 q14 => ?_)
    obtain ⟨rfl, q14⟩ := q14
    refine j_if_eq 24 dX5_hasMovement_17 rfl (by unfold inR; omega) (fun c17 => ?_) (fun c17 => ?_)
    · refine j_iconst dX5_hasMovement_24 ?_
      refine j_zret dX5_hasMovement_25 rfl (by first | exact Or.inl rfl | exact Or.inr rfl | omega) ?_
      exact bz_i (by omega)
    · refine j_iconst dX5_hasMovement_20 ?_
      refine j_goto 25 dX5_hasMovement_21 rfl ?_
      refine j_zret dX5_hasMovement_25 rfl (by first | exact Or.inl rfl | exact Or.inr rfl | omega) ?_
      exact bz_i (by omega)
theorem e_X5_hasCode {M : Mem} (hL : Lat M) {c : Int} (hc : inR c) : J SHC mi_X5_hasCode 0 (ent [vR 1, vI c] 2) [] M (bz (0 ≤ c ∧ c < 2 * tu (M 1 0) * (M 1 1 * M 1 1)) M) := by
  obtain ⟨hk, hn1, hn5, hc1, hc2⟩ := id hL
  have ht := tu_c hk
  have hcb : inR (2 * tu (M 1 0) * (M 1 1 * M 1 1)) := by
    unfold inR
    rcases ht with ⟨_, h⟩ | ⟨_, h⟩ <;> rw [h] <;> omega
  show J SHC mi_X5_hasCode 0 [some (vR 1), some (vI c)] [] M _
  refine j_iload_n dX5_hasCode_0 rfl ?_
  refine j_aload_n dX5_hasCode_1 rfl ?_
  refine j_V0p dX5_hasCode_2 ok_X5_codes v_X5_35 c_X5_codes rfl (e_X5_codes hL) ?_
  refine j_N2z dX5_hasCode_5 ok_X6_isInside n_X5_28 (e_isInside (by first | assumption | (unfold inR; omega)) (by first | assumption | (unfold inR; omega))) (fun z5 M5 q5 => ?_)
  obtain ⟨rfl, q5⟩ := q5
  refine j_zret dX5_hasCode_8 rfl (by first | exact Or.inl rfl | exact Or.inr rfl | omega) ?_
  exact bz_i (by omega)
theorem e_X5_cellOf {M : Mem} (hL : Lat M) {x y : Int} : J SHC mi_X5_cellOf 0 (ent [vR 1, vI x, vI y] 3) [] M (pu (vI (M 1 1 * x + y)) M) := by
  obtain ⟨hk, hn1, hn5, hc1, hc2⟩ := id hL
  have ht := tu_c hk
  show J SHC mi_X5_cellOf 0 [some (vR 1), some (vI x), some (vI y)] [] M _
  refine j_aload_n dX5_cellOf_0 rfl ?_
  refine j_getI (kz := 1) rfl dX5_cellOf_1 f_X5_15 rfl rfl ?_
  refine j_iload_n dX5_cellOf_4 rfl ?_
  refine j_imul dX5_cellOf_5 ?_
  refine j_iload_n dX5_cellOf_6 rfl ?_
  refine j_iadd dX5_cellOf_7 ?_
  refine j_iret dX5_cellOf_8 rfl ?_
  exact pu_i (by first | rfl | omega | (simp; done))
theorem e_X5_codeOf {M : Mem} (hL : Lat M) {p x y : Int} : J SHC mi_X5_codeOf 0 (ent [vR 1, vI p, vI x, vI y] 4) [] M (pu (vI (p * (M 1 1 * M 1 1) + (M 1 1 * x + y))) M) := by
  obtain ⟨hk, hn1, hn5, hc1, hc2⟩ := id hL
  have ht := tu_c hk
  show J SHC mi_X5_codeOf 0 [some (vR 1), some (vI p), some (vI x), some (vI y)] [] M _
  refine j_iload_n dX5_codeOf_0 rfl ?_
  refine j_aload_n dX5_codeOf_1 rfl ?_
  refine j_V0p dX5_codeOf_2 ok_X5_cellCount v_X5_25 c_X5_cellCount rfl (e_X5_cellCount hL) ?_
  refine j_imul dX5_codeOf_5 ?_
  refine j_aload_n dX5_codeOf_6 rfl ?_
  refine j_iload_n dX5_codeOf_7 rfl ?_
  refine j_iload_n dX5_codeOf_8 rfl ?_
  refine j_V2p dX5_codeOf_9 ok_X5_cellOf v_X5_38 c_X5_cellOf rfl (e_X5_cellOf hL) ?_
  refine j_iadd dX5_codeOf_12 ?_
  refine j_iret dX5_codeOf_13 rfl ?_
  exact pu_i (by first | rfl | omega | (simp; done))
theorem e_X5_partOf {M : Mem} (hL : Lat M) {c : Int} (h0 : 0 ≤ c) (h1 : c < 100000) : J SHC mi_X5_partOf 0 (ent [vR 1, vI c] 2) [] M (pu (vI (c / (M 1 1 * M 1 1))) M) := by
  obtain ⟨hk, hn1, hn5, hc1, hc2⟩ := id hL
  have ht := tu_c hk
  show J SHC mi_X5_partOf 0 [some (vR 1), some (vI c)] [] M _
  refine j_iload_n dX5_partOf_0 rfl ?_
  refine j_aload_n dX5_partOf_1 rfl ?_
  refine j_V0p dX5_partOf_2 ok_X5_cellCount v_X5_25 c_X5_cellCount rfl (e_X5_cellCount hL) ?_
  refine j_N2p dX5_partOf_5 ok_X6_quotient n_X5_42 (e_quotient (by first | assumption | (unfold inR; omega)) (by first | assumption | (unfold inR; omega)) (by omega) (by omega)) ?_
  refine j_iret dX5_partOf_8 rfl ?_
  exact pu_i (by first | rfl | omega | (simp; done))
theorem e_X5_shiftX {M : Mem} (hL : Lat M) {c : Int} (h0 : 0 ≤ c) (h1 : c < 100000) : J SHC mi_X5_shiftX 0 (ent [vR 1, vI c] 2) [] M (pu (vI (c % (M 1 1 * M 1 1) / M 1 1)) M) := by
  obtain ⟨hk, hn1, hn5, hc1, hc2⟩ := id hL
  have ht := tu_c hk
  have hm0 := Int.emod_nonneg c (show M 1 1 * M 1 1 ≠ 0 by omega)
  have hm1 := Int.emod_lt_of_pos c (show 0 < M 1 1 * M 1 1 by omega)
  show J SHC mi_X5_shiftX 0 [some (vR 1), some (vI c)] [] M _
  refine j_iload_n dX5_shiftX_0 rfl ?_
  refine j_aload_n dX5_shiftX_1 rfl ?_
  refine j_V0p dX5_shiftX_2 ok_X5_cellCount v_X5_25 c_X5_cellCount rfl (e_X5_cellCount hL) ?_
  refine j_N2p dX5_shiftX_5 ok_X6_remainder n_X5_45 (e_remainder (by first | assumption | (unfold inR; omega)) (by first | assumption | (unfold inR; omega)) (by omega)) ?_
  refine j_aload_n dX5_shiftX_8 rfl ?_
  refine j_getI (kz := 1) rfl dX5_shiftX_9 f_X5_15 rfl rfl ?_
  refine j_N2p dX5_shiftX_12 ok_X6_quotient n_X5_42 (e_quotient (by first | assumption | (unfold inR; omega)) (by first | assumption | (unfold inR; omega)) (by omega) (by omega)) ?_
  refine j_iret dX5_shiftX_15 rfl ?_
  exact pu_i (by first | rfl | omega | (simp; done))
theorem e_X5_shiftY {M : Mem} (hL : Lat M) {c : Int} (h0 : 0 ≤ c) (h1 : c < 100000) : J SHC mi_X5_shiftY 0 (ent [vR 1, vI c] 2) [] M (pu (vI (c % M 1 1)) M) := by
  obtain ⟨hk, hn1, hn5, hc1, hc2⟩ := id hL
  have ht := tu_c hk
  show J SHC mi_X5_shiftY 0 [some (vR 1), some (vI c)] [] M _
  refine j_iload_n dX5_shiftY_0 rfl ?_
  refine j_aload_n dX5_shiftY_1 rfl ?_
  refine j_getI (kz := 1) rfl dX5_shiftY_2 f_X5_15 rfl rfl ?_
  refine j_N2p dX5_shiftY_5 ok_X6_remainder n_X5_45 (e_remainder (by first | assumption | (unfold inR; omega)) (by first | assumption | (unfold inR; omega)) (by omega)) ?_
  refine j_iret dX5_shiftY_8 rfl ?_
  exact pu_i (by first | rfl | omega | (simp; done))
theorem e_X5_wrap {M : Mem} (hL : Lat M) {c : Int} (h : inR c) : J SHC mi_X5_wrap 0 (ent [vR 1, vI c] 2) [] M (pu (vI (c % M 1 1)) M) := by
  obtain ⟨hk, hn1, hn5, hc1, hc2⟩ := id hL
  have ht := tu_c hk
  show J SHC mi_X5_wrap 0 [some (vR 1), some (vI c)] [] M _
  refine j_iload_n dX5_wrap_0 rfl ?_
  refine j_aload_n dX5_wrap_1 rfl ?_
  refine j_getI (kz := 1) rfl dX5_wrap_2 f_X5_15 rfl rfl ?_
  refine j_N2p dX5_wrap_5 ok_X6_remainder n_X5_45 (e_remainder (by first | assumption | (unfold inR; omega)) (by first | assumption | (unfold inR; omega)) (by omega)) ?_
  refine j_iret dX5_wrap_8 rfl ?_
  exact pu_i (by first | rfl | omega | (simp; done))
end
section
/-! class Lattice: entries, images, products -/
def en (k p q : Int) : Int := if k = 1 then tHX.getD (4 * p + q).toNat 0 else tSQ.getD (4 * p + q).toNat 0
def imx (k p x y : Int) : Int := en k p 0 * x + en k p 1 * y
def imy (k p x y : Int) : Int := en k p 2 * x + en k p 3 * y
def cP (n c : Int) : Int := c / (n * n)
def cX (n c : Int) : Int := c % (n * n) / n
def cY (n c : Int) : Int := c % n
def tp (k p q : Int) : Int := if (tu k ≤ p) = (tu k ≤ q) then (if tu k ≤ p then p - q else p + q) % tu k else tu k + (if tu k ≤ p then p - q else p + q) % tu k
def ip (k p : Int) : Int := if p < tu k then (-p) % tu k else p
def mkc (n p x y : Int) : Int := p * (n * n) + (n * (x % n) + y % n)
def tm (k n g h : Int) : Int := mkc n (tp k (cP n g) (cP n h)) (imx k (cP n g) (cX n h) (cY n h) + cX n g) (imy k (cP n g) (cX n h) (cY n h) + cY n g)
def iv (k n g : Int) : Int := mkc n (ip k (cP n g)) (-imx k (ip k (cP n g)) (cX n g) (cY n g)) (-imy k (ip k (cP n g)) (cX n g) (cY n g))
def sc (k n c q : Int) : Int := n * ((imx k (cP n c) (q / n) (q % n) + cX n c) % n) + (imy k (cP n c) (q / n) (q % n) + cY n c) % n
def vc (k n c : Int) : Prop := 0 ≤ c ∧ c < 2 * tu k * (n * n)
theorem tHX_b : ∀ z ∈ tHX, -1 ≤ z ∧ z ≤ 1 := by decide
theorem tSQ_b : ∀ z ∈ tSQ, -1 ≤ z ∧ z ≤ 1 := by decide
theorem getD_b {l : List Int} (h : ∀ z ∈ l, -1 ≤ z ∧ z ≤ 1) (i : Nat) : -1 ≤ l.getD i 0 ∧ l.getD i 0 ≤ 1 := by
  rw [List.getD_eq_getElem?_getD]
  cases hi : l[i]? with
  | none => simp
  | some z => exact h z (List.mem_of_getElem? hi)
theorem en_b (k p q : Int) : -1 ≤ en k p q ∧ en k p q ≤ 1 := by
  unfold en
  split
  · exact getD_b tHX_b _
  · exact getD_b tSQ_b _
theorem mul_b {a x b : Int} (h : -1 ≤ a ∧ a ≤ 1) (h0 : 0 ≤ x) (h1 : x ≤ b) : -b ≤ a * x ∧ a * x ≤ b := by
  rcases (show a = -1 ∨ a = 0 ∨ a = 1 by omega) with rfl | rfl | rfl <;> omega
theorem im_b (k p : Int) {x y b : Int} (hx : 0 ≤ x ∧ x ≤ b) (hy : 0 ≤ y ∧ y ≤ b) : (-(2 * b) ≤ imx k p x y ∧ imx k p x y ≤ 2 * b) ∧ -(2 * b) ≤ imy k p x y ∧ imy k p x y ≤ 2 * b := by
  have h1 := mul_b (en_b k p 0) hx.1 hx.2
  have h2 := mul_b (en_b k p 1) hy.1 hy.2
  have h3 := mul_b (en_b k p 2) hx.1 hx.2
  have h4 := mul_b (en_b k p 3) hy.1 hy.2
  unfold imx imy
  omega
theorem vc_b {k n c : Int} (hk : k = 0 ∨ k = 1) (hc1 : 1 ≤ n * n) (hc2 : n * n ≤ 25) (h : vc k n c) : 0 ≤ c ∧ c < 300 ∧ 0 ≤ cP n c ∧ cP n c < 2 * tu k := by
  have ht := tu_c hk
  unfold vc at h
  have h3 : c < 300 := by
    rcases ht with ⟨_, q⟩ | ⟨_, q⟩ <;> rw [q] at h <;> omega
  exact ⟨h.1, h3, Int.ediv_nonneg h.1 (by omega), Int.ediv_lt_of_lt_mul (by omega) h.2⟩
theorem cXY_b {n : Int} (hn1 : 1 ≤ n) (c : Int) : 0 ≤ cX n c ∧ cX n c < n ∧ 0 ≤ cY n c ∧ cY n c < n := by
  have hnn : 0 < n * n := Int.mul_pos (by omega) (by omega)
  have h1 := Int.emod_nonneg c (show n * n ≠ 0 by omega)
  have h2 := Int.emod_lt_of_pos c hnn
  exact ⟨Int.ediv_nonneg h1 (by omega), Int.ediv_lt_of_lt_mul (by omega) h2, Int.emod_nonneg c (by omega), Int.emod_lt_of_pos c (by omega)⟩
theorem tp_b {k p q : Int} (hk : k = 0 ∨ k = 1) : 0 ≤ tp k p q ∧ tp k p q < 2 * tu k := by
  have ht : 0 < tu k := by have := tu_c hk; omega
  have h1 := Int.emod_nonneg (if tu k ≤ p then p - q else p + q) (show tu k ≠ 0 by omega)
  have h2 := Int.emod_lt_of_pos (if tu k ≤ p then p - q else p + q) ht
  unfold tp
  split <;> omega
theorem ip_b {k p : Int} (hk : k = 0 ∨ k = 1) (h : 0 ≤ p) (h2 : p < 2 * tu k) : 0 ≤ ip k p ∧ ip k p < 2 * tu k := by
  have ht : 0 < tu k := by have := tu_c hk; omega
  have h1 := Int.emod_nonneg (-p) (show tu k ≠ 0 by omega)
  have h2 := Int.emod_lt_of_pos (-p) ht
  unfold ip
  split <;> omega

theorem e_X5_entry {M : Mem} (hL : Lat M) {p q : Int} (hp : 0 ≤ p ∧ p < 2 * tu (M 1 0)) (hq : 0 ≤ q ∧ q ≤ 3) : J SHC mi_X5_entry 0 (ent [vR 1, vI p, vI q] 5) [] M (pu (vI (en (M 1 0) p q)) M) := by
  obtain ⟨hk, hn1, hn5, hc1, hc2⟩ := id hL
  have ht := tu_c hk
  show J SHC mi_X5_entry 0 [some (vR 1), some (vI p), some (vI q), none, none] [] M _
  refine j_aload_n dX5_entry_0 rfl ?_
  refine j_getI (kz := 0) rfl dX5_entry_1 f_X5_9 rfl rfl ?_
  refine j_iconst dX5_entry_4 ?_
  refine j_icmp_ne 14 dX5_entry_5 rfl (by unfold inR; omega) (by unfold inR; omega) (fun c5 => ?_) (fun c5 => ?_)
  · refine j_getSQ dX5_entry_14 st_SQ ?_
    refine j_astore_n dX5_entry_17 (by decide) (nol rfl) (by show List.set _ 3 _ = _; simp only [List.set_cons_zero, List.set_cons_succ]; rfl) ?_
    refine j_iconst dX5_entry_18 ?_
    refine j_iload_n dX5_entry_19 rfl ?_
    refine j_imul dX5_entry_20 ?_
    refine j_iload_n dX5_entry_21 rfl ?_
    refine j_iadd dX5_entry_22 ?_
    refine j_istore dX5_entry_23 (by decide) (nol rfl) (by show List.set _ 4 _ = _; simp only [List.set_cons_zero, List.set_cons_succ]; rfl) ?_
    refine j_iload dX5_entry_25 rfl ?_
    refine j_aload_n dX5_entry_27 rfl ?_
    first | refine j_lenSQ dX5_entry_28 ?_ | refine j_lenHX dX5_entry_28 ?_
    refine j_N2z dX5_entry_29 ok_X6_isInside n_X5_28 (e_isInside (by first | assumption | (unfold inR; omega)) (by first | assumption | (unfold inR; omega))) (fun z29 M29 q29 => ?_)
    obtain ⟨rfl, q29⟩ := q29
    refine j_if_eq 42 dX5_entry_32 rfl (by unfold inR; omega) (fun c32 => ?_) (fun c32 => ?_)
    · refine j_iconst dX5_entry_42 ?_
      refine j_iret dX5_entry_43 rfl ?_
      first | (exfalso; omega) | exact pu_i (by simp [en, c5])
    · refine j_aload_n dX5_entry_35 rfl ?_
      refine j_iload dX5_entry_36 rfl ?_
      first | refine j_ldSQ dX5_entry_38 (by omega) (by omega) ?_ | refine j_ldHX dX5_entry_38 (by omega) (by omega) ?_
      refine j_goto 43 dX5_entry_39 rfl ?_
      refine j_iret dX5_entry_43 rfl ?_
      first | (exfalso; omega) | exact pu_i (by simp [en, c5])
  · refine j_getHX dX5_entry_8 st_HE ?_
    refine j_goto 17 dX5_entry_11 rfl ?_
    refine j_astore_n dX5_entry_17 (by decide) (nol rfl) (by show List.set _ 3 _ = _; simp only [List.set_cons_zero, List.set_cons_succ]; rfl) ?_
    refine j_iconst dX5_entry_18 ?_
    refine j_iload_n dX5_entry_19 rfl ?_
    refine j_imul dX5_entry_20 ?_
    refine j_iload_n dX5_entry_21 rfl ?_
    refine j_iadd dX5_entry_22 ?_
    refine j_istore dX5_entry_23 (by decide) (nol rfl) (by show List.set _ 4 _ = _; simp only [List.set_cons_zero, List.set_cons_succ]; rfl) ?_
    refine j_iload dX5_entry_25 rfl ?_
    refine j_aload_n dX5_entry_27 rfl ?_
    first | refine j_lenSQ dX5_entry_28 ?_ | refine j_lenHX dX5_entry_28 ?_
    refine j_N2z dX5_entry_29 ok_X6_isInside n_X5_28 (e_isInside (by first | assumption | (unfold inR; omega)) (by first | assumption | (unfold inR; omega))) (fun z29 M29 q29 => ?_)
    obtain ⟨rfl, q29⟩ := q29
    refine j_if_eq 42 dX5_entry_32 rfl (by unfold inR; omega) (fun c32 => ?_) (fun c32 => ?_)
    · refine j_iconst dX5_entry_42 ?_
      refine j_iret dX5_entry_43 rfl ?_
      first | (exfalso; omega) | exact pu_i (by simp [en, c5])
    · refine j_aload_n dX5_entry_35 rfl ?_
      refine j_iload dX5_entry_36 rfl ?_
      first | refine j_ldSQ dX5_entry_38 (by omega) (by omega) ?_ | refine j_ldHX dX5_entry_38 (by omega) (by omega) ?_
      refine j_goto 43 dX5_entry_39 rfl ?_
      refine j_iret dX5_entry_43 rfl ?_
      first | (exfalso; omega) | exact pu_i (by simp [en, c5])
theorem e_X5_imageX {M : Mem} (hL : Lat M) {p x y : Int} (hp : 0 ≤ p ∧ p < 2 * tu (M 1 0)) : J SHC mi_X5_imageX 0 (ent [vR 1, vI p, vI x, vI y] 4) [] M (pu (vI (imx (M 1 0) p x y)) M) := by
  obtain ⟨hk, hn1, hn5, hc1, hc2⟩ := id hL
  have ht := tu_c hk
  show J SHC mi_X5_imageX 0 [some (vR 1), some (vI p), some (vI x), some (vI y)] [] M _
  refine j_aload_n dX5_imageX_0 rfl ?_
  refine j_iload_n dX5_imageX_1 rfl ?_
  refine j_iconst dX5_imageX_2 ?_
  refine j_V2p dX5_imageX_3 ok_X5_entry v_X5_55 c_X5_entry rfl (e_X5_entry hL (by assumption) (by omega)) ?_
  refine j_iload_n dX5_imageX_6 rfl ?_
  refine j_imul dX5_imageX_7 ?_
  refine j_aload_n dX5_imageX_8 rfl ?_
  refine j_iload_n dX5_imageX_9 rfl ?_
  refine j_iconst dX5_imageX_10 ?_
  refine j_V2p dX5_imageX_11 ok_X5_entry v_X5_55 c_X5_entry rfl (e_X5_entry hL (by assumption) (by omega)) ?_
  refine j_iload_n dX5_imageX_14 rfl ?_
  refine j_imul dX5_imageX_15 ?_
  refine j_iadd dX5_imageX_16 ?_
  refine j_iret dX5_imageX_17 rfl ?_
  exact pu_i (by first | rfl | omega | (simp; done))
theorem e_X5_imageY {M : Mem} (hL : Lat M) {p x y : Int} (hp : 0 ≤ p ∧ p < 2 * tu (M 1 0)) : J SHC mi_X5_imageY 0 (ent [vR 1, vI p, vI x, vI y] 4) [] M (pu (vI (imy (M 1 0) p x y)) M) := by
  obtain ⟨hk, hn1, hn5, hc1, hc2⟩ := id hL
  have ht := tu_c hk
  show J SHC mi_X5_imageY 0 [some (vR 1), some (vI p), some (vI x), some (vI y)] [] M _
  refine j_aload_n dX5_imageY_0 rfl ?_
  refine j_iload_n dX5_imageY_1 rfl ?_
  refine j_iconst dX5_imageY_2 ?_
  refine j_V2p dX5_imageY_3 ok_X5_entry v_X5_55 c_X5_entry rfl (e_X5_entry hL (by assumption) (by omega)) ?_
  refine j_iload_n dX5_imageY_6 rfl ?_
  refine j_imul dX5_imageY_7 ?_
  refine j_aload_n dX5_imageY_8 rfl ?_
  refine j_iload_n dX5_imageY_9 rfl ?_
  refine j_iconst dX5_imageY_10 ?_
  refine j_V2p dX5_imageY_11 ok_X5_entry v_X5_55 c_X5_entry rfl (e_X5_entry hL (by assumption) (by omega)) ?_
  refine j_iload_n dX5_imageY_14 rfl ?_
  refine j_imul dX5_imageY_15 ?_
  refine j_iadd dX5_imageY_16 ?_
  refine j_iret dX5_imageY_17 rfl ?_
  exact pu_i (by first | rfl | omega | (simp; done))
theorem e_X5_timesPart {M : Mem} (hL : Lat M) {p q : Int} (hp : 0 ≤ p ∧ p < 2 * tu (M 1 0)) (hq : 0 ≤ q ∧ q < 2 * tu (M 1 0)) : J SHC mi_X5_timesPart 0 (ent [vR 1, vI p, vI q] 7) [] M (pu (vI (tp (M 1 0) p q)) M) := by
  obtain ⟨hk, hn1, hn5, hc1, hc2⟩ := id hL
  have ht := tu_c hk
  show J SHC mi_X5_timesPart 0 [some (vR 1), some (vI p), some (vI q), none, none, none, none] [] M _
  refine j_aload_n dX5_timesPart_0 rfl ?_
  refine j_V0p dX5_timesPart_1 ok_X5_turns v_X5_18 c_X5_turns rfl (e_X5_turns hL) ?_
  refine j_istore_n dX5_timesPart_4 (by decide) (nol rfl) (by show List.set _ 3 _ = _; simp only [List.set_cons_zero, List.set_cons_succ]; rfl) ?_
  refine j_iload_n dX5_timesPart_5 rfl ?_
  refine j_iload_n dX5_timesPart_6 rfl ?_
  refine j_icmp_lt 14 dX5_timesPart_7 rfl (by unfold inR; omega) (by unfold inR; omega) (fun c7 => ?_) (fun c7 => ?_)
  · refine j_iconst dX5_timesPart_14 ?_
    refine j_istore dX5_timesPart_15 (by decide) (nol rfl) (by show List.set _ 4 _ = _; simp only [List.set_cons_zero, List.set_cons_succ]; rfl) ?_
    refine j_iload_n dX5_timesPart_17 rfl ?_
    refine j_iload_n dX5_timesPart_18 rfl ?_
    refine j_icmp_lt 26 dX5_timesPart_19 rfl (by unfold inR; omega) (by unfold inR; omega) (fun c19 => ?_) (fun c19 => ?_)
    · refine j_iconst dX5_timesPart_26 ?_
      refine j_istore dX5_timesPart_27 (by decide) (nol rfl) (by show List.set _ 5 _ = _; simp only [List.set_cons_zero, List.set_cons_succ]; rfl) ?_
      refine j_iload dX5_timesPart_29 rfl ?_
      refine j_if_eq 40 dX5_timesPart_31 rfl (by unfold inR; omega) (fun c31 => ?_) (fun c31 => ?_)
      · refine j_iload_n dX5_timesPart_40 rfl ?_
        refine j_iload_n dX5_timesPart_41 rfl ?_
        refine j_iadd dX5_timesPart_42 ?_
        refine j_iload_n dX5_timesPart_43 rfl ?_
        refine j_N2p dX5_timesPart_44 ok_X6_remainder n_X5_45 (e_remainder (by first | assumption | (unfold inR; omega)) (by first | assumption | (unfold inR; omega)) (by omega)) ?_
        refine j_istore dX5_timesPart_47 (by decide) (nol rfl) (by show List.set _ 6 _ = _; simp only [List.set_cons_zero, List.set_cons_succ]; rfl) ?_
        refine j_iload dX5_timesPart_49 rfl ?_
        refine j_iload dX5_timesPart_51 rfl ?_
        refine j_icmp_ne 61 dX5_timesPart_53 rfl (by unfold inR; omega) (by unfold inR; omega) (fun c53 => ?_) (fun c53 => ?_)
        · refine j_iload_n dX5_timesPart_61 rfl ?_
          refine j_iload dX5_timesPart_62 rfl ?_
          refine j_iadd dX5_timesPart_64 ?_
          refine j_iret dX5_timesPart_65 rfl ?_
          first | (exfalso; omega) | exact pu_i (by
            have e1 : (tu (M 1 0) ≤ p) = (p ≥ tu (M 1 0)) := rfl
            unfold tp
            by_cases h1 : tu (M 1 0) ≤ p <;> by_cases h2 : tu (M 1 0) ≤ q <;> first | (exfalso; omega) | simp [h1, h2])
        · refine j_iload dX5_timesPart_56 rfl ?_
          refine j_goto 65 dX5_timesPart_58 rfl ?_
          refine j_iret dX5_timesPart_65 rfl ?_
          first | (exfalso; omega) | exact pu_i (by
            have e1 : (tu (M 1 0) ≤ p) = (p ≥ tu (M 1 0)) := rfl
            unfold tp
            by_cases h1 : tu (M 1 0) ≤ p <;> by_cases h2 : tu (M 1 0) ≤ q <;> first | (exfalso; omega) | simp [h1, h2])
      · refine j_iload_n dX5_timesPart_34 rfl ?_
        refine j_iload_n dX5_timesPart_35 rfl ?_
        refine j_isub dX5_timesPart_36 ?_
        refine j_goto 43 dX5_timesPart_37 rfl ?_
        refine j_iload_n dX5_timesPart_43 rfl ?_
        refine j_N2p dX5_timesPart_44 ok_X6_remainder n_X5_45 (e_remainder (by first | assumption | (unfold inR; omega)) (by first | assumption | (unfold inR; omega)) (by omega)) ?_
        refine j_istore dX5_timesPart_47 (by decide) (nol rfl) (by show List.set _ 6 _ = _; simp only [List.set_cons_zero, List.set_cons_succ]; rfl) ?_
        refine j_iload dX5_timesPart_49 rfl ?_
        refine j_iload dX5_timesPart_51 rfl ?_
        refine j_icmp_ne 61 dX5_timesPart_53 rfl (by unfold inR; omega) (by unfold inR; omega) (fun c53 => ?_) (fun c53 => ?_)
        · refine j_iload_n dX5_timesPart_61 rfl ?_
          refine j_iload dX5_timesPart_62 rfl ?_
          refine j_iadd dX5_timesPart_64 ?_
          refine j_iret dX5_timesPart_65 rfl ?_
          first | (exfalso; omega) | exact pu_i (by
            have e1 : (tu (M 1 0) ≤ p) = (p ≥ tu (M 1 0)) := rfl
            unfold tp
            by_cases h1 : tu (M 1 0) ≤ p <;> by_cases h2 : tu (M 1 0) ≤ q <;> first | (exfalso; omega) | simp [h1, h2])
        · refine j_iload dX5_timesPart_56 rfl ?_
          refine j_goto 65 dX5_timesPart_58 rfl ?_
          refine j_iret dX5_timesPart_65 rfl ?_
          first | (exfalso; omega) | exact pu_i (by
            have e1 : (tu (M 1 0) ≤ p) = (p ≥ tu (M 1 0)) := rfl
            unfold tp
            by_cases h1 : tu (M 1 0) ≤ p <;> by_cases h2 : tu (M 1 0) ≤ q <;> first | (exfalso; omega) | simp [h1, h2])
    · refine j_iconst dX5_timesPart_22 ?_
      refine j_goto 27 dX5_timesPart_23 rfl ?_
      refine j_istore dX5_timesPart_27 (by decide) (nol rfl) (by show List.set _ 5 _ = _; simp only [List.set_cons_zero, List.set_cons_succ]; rfl) ?_
      refine j_iload dX5_timesPart_29 rfl ?_
      refine j_if_eq 40 dX5_timesPart_31 rfl (by unfold inR; omega) (fun c31 => ?_) (fun c31 => ?_)
      · refine j_iload_n dX5_timesPart_40 rfl ?_
        refine j_iload_n dX5_timesPart_41 rfl ?_
        refine j_iadd dX5_timesPart_42 ?_
        refine j_iload_n dX5_timesPart_43 rfl ?_
        refine j_N2p dX5_timesPart_44 ok_X6_remainder n_X5_45 (e_remainder (by first | assumption | (unfold inR; omega)) (by first | assumption | (unfold inR; omega)) (by omega)) ?_
        refine j_istore dX5_timesPart_47 (by decide) (nol rfl) (by show List.set _ 6 _ = _; simp only [List.set_cons_zero, List.set_cons_succ]; rfl) ?_
        refine j_iload dX5_timesPart_49 rfl ?_
        refine j_iload dX5_timesPart_51 rfl ?_
        refine j_icmp_ne 61 dX5_timesPart_53 rfl (by unfold inR; omega) (by unfold inR; omega) (fun c53 => ?_) (fun c53 => ?_)
        · refine j_iload_n dX5_timesPart_61 rfl ?_
          refine j_iload dX5_timesPart_62 rfl ?_
          refine j_iadd dX5_timesPart_64 ?_
          refine j_iret dX5_timesPart_65 rfl ?_
          first | (exfalso; omega) | exact pu_i (by
            have e1 : (tu (M 1 0) ≤ p) = (p ≥ tu (M 1 0)) := rfl
            unfold tp
            by_cases h1 : tu (M 1 0) ≤ p <;> by_cases h2 : tu (M 1 0) ≤ q <;> first | (exfalso; omega) | simp [h1, h2])
        · refine j_iload dX5_timesPart_56 rfl ?_
          refine j_goto 65 dX5_timesPart_58 rfl ?_
          refine j_iret dX5_timesPart_65 rfl ?_
          first | (exfalso; omega) | exact pu_i (by
            have e1 : (tu (M 1 0) ≤ p) = (p ≥ tu (M 1 0)) := rfl
            unfold tp
            by_cases h1 : tu (M 1 0) ≤ p <;> by_cases h2 : tu (M 1 0) ≤ q <;> first | (exfalso; omega) | simp [h1, h2])
      · refine j_iload_n dX5_timesPart_34 rfl ?_
        refine j_iload_n dX5_timesPart_35 rfl ?_
        refine j_isub dX5_timesPart_36 ?_
        refine j_goto 43 dX5_timesPart_37 rfl ?_
        refine j_iload_n dX5_timesPart_43 rfl ?_
        refine j_N2p dX5_timesPart_44 ok_X6_remainder n_X5_45 (e_remainder (by first | assumption | (unfold inR; omega)) (by first | assumption | (unfold inR; omega)) (by omega)) ?_
        refine j_istore dX5_timesPart_47 (by decide) (nol rfl) (by show List.set _ 6 _ = _; simp only [List.set_cons_zero, List.set_cons_succ]; rfl) ?_
        refine j_iload dX5_timesPart_49 rfl ?_
        refine j_iload dX5_timesPart_51 rfl ?_
        refine j_icmp_ne 61 dX5_timesPart_53 rfl (by unfold inR; omega) (by unfold inR; omega) (fun c53 => ?_) (fun c53 => ?_)
        · refine j_iload_n dX5_timesPart_61 rfl ?_
          refine j_iload dX5_timesPart_62 rfl ?_
          refine j_iadd dX5_timesPart_64 ?_
          refine j_iret dX5_timesPart_65 rfl ?_
          first | (exfalso; omega) | exact pu_i (by
            have e1 : (tu (M 1 0) ≤ p) = (p ≥ tu (M 1 0)) := rfl
            unfold tp
            by_cases h1 : tu (M 1 0) ≤ p <;> by_cases h2 : tu (M 1 0) ≤ q <;> first | (exfalso; omega) | simp [h1, h2])
        · refine j_iload dX5_timesPart_56 rfl ?_
          refine j_goto 65 dX5_timesPart_58 rfl ?_
          refine j_iret dX5_timesPart_65 rfl ?_
          first | (exfalso; omega) | exact pu_i (by
            have e1 : (tu (M 1 0) ≤ p) = (p ≥ tu (M 1 0)) := rfl
            unfold tp
            by_cases h1 : tu (M 1 0) ≤ p <;> by_cases h2 : tu (M 1 0) ≤ q <;> first | (exfalso; omega) | simp [h1, h2])
  · refine j_iconst dX5_timesPart_10 ?_
    refine j_goto 15 dX5_timesPart_11 rfl ?_
    refine j_istore dX5_timesPart_15 (by decide) (nol rfl) (by show List.set _ 4 _ = _; simp only [List.set_cons_zero, List.set_cons_succ]; rfl) ?_
    refine j_iload_n dX5_timesPart_17 rfl ?_
    refine j_iload_n dX5_timesPart_18 rfl ?_
    refine j_icmp_lt 26 dX5_timesPart_19 rfl (by unfold inR; omega) (by unfold inR; omega) (fun c19 => ?_) (fun c19 => ?_)
    · refine j_iconst dX5_timesPart_26 ?_
      refine j_istore dX5_timesPart_27 (by decide) (nol rfl) (by show List.set _ 5 _ = _; simp only [List.set_cons_zero, List.set_cons_succ]; rfl) ?_
      refine j_iload dX5_timesPart_29 rfl ?_
      refine j_if_eq 40 dX5_timesPart_31 rfl (by unfold inR; omega) (fun c31 => ?_) (fun c31 => ?_)
      · refine j_iload_n dX5_timesPart_40 rfl ?_
        refine j_iload_n dX5_timesPart_41 rfl ?_
        refine j_iadd dX5_timesPart_42 ?_
        refine j_iload_n dX5_timesPart_43 rfl ?_
        refine j_N2p dX5_timesPart_44 ok_X6_remainder n_X5_45 (e_remainder (by first | assumption | (unfold inR; omega)) (by first | assumption | (unfold inR; omega)) (by omega)) ?_
        refine j_istore dX5_timesPart_47 (by decide) (nol rfl) (by show List.set _ 6 _ = _; simp only [List.set_cons_zero, List.set_cons_succ]; rfl) ?_
        refine j_iload dX5_timesPart_49 rfl ?_
        refine j_iload dX5_timesPart_51 rfl ?_
        refine j_icmp_ne 61 dX5_timesPart_53 rfl (by unfold inR; omega) (by unfold inR; omega) (fun c53 => ?_) (fun c53 => ?_)
        · refine j_iload_n dX5_timesPart_61 rfl ?_
          refine j_iload dX5_timesPart_62 rfl ?_
          refine j_iadd dX5_timesPart_64 ?_
          refine j_iret dX5_timesPart_65 rfl ?_
          first | (exfalso; omega) | exact pu_i (by
            have e1 : (tu (M 1 0) ≤ p) = (p ≥ tu (M 1 0)) := rfl
            unfold tp
            by_cases h1 : tu (M 1 0) ≤ p <;> by_cases h2 : tu (M 1 0) ≤ q <;> first | (exfalso; omega) | simp [h1, h2])
        · refine j_iload dX5_timesPart_56 rfl ?_
          refine j_goto 65 dX5_timesPart_58 rfl ?_
          refine j_iret dX5_timesPart_65 rfl ?_
          first | (exfalso; omega) | exact pu_i (by
            have e1 : (tu (M 1 0) ≤ p) = (p ≥ tu (M 1 0)) := rfl
            unfold tp
            by_cases h1 : tu (M 1 0) ≤ p <;> by_cases h2 : tu (M 1 0) ≤ q <;> first | (exfalso; omega) | simp [h1, h2])
      · refine j_iload_n dX5_timesPart_34 rfl ?_
        refine j_iload_n dX5_timesPart_35 rfl ?_
        refine j_isub dX5_timesPart_36 ?_
        refine j_goto 43 dX5_timesPart_37 rfl ?_
        refine j_iload_n dX5_timesPart_43 rfl ?_
        refine j_N2p dX5_timesPart_44 ok_X6_remainder n_X5_45 (e_remainder (by first | assumption | (unfold inR; omega)) (by first | assumption | (unfold inR; omega)) (by omega)) ?_
        refine j_istore dX5_timesPart_47 (by decide) (nol rfl) (by show List.set _ 6 _ = _; simp only [List.set_cons_zero, List.set_cons_succ]; rfl) ?_
        refine j_iload dX5_timesPart_49 rfl ?_
        refine j_iload dX5_timesPart_51 rfl ?_
        refine j_icmp_ne 61 dX5_timesPart_53 rfl (by unfold inR; omega) (by unfold inR; omega) (fun c53 => ?_) (fun c53 => ?_)
        · refine j_iload_n dX5_timesPart_61 rfl ?_
          refine j_iload dX5_timesPart_62 rfl ?_
          refine j_iadd dX5_timesPart_64 ?_
          refine j_iret dX5_timesPart_65 rfl ?_
          first | (exfalso; omega) | exact pu_i (by
            have e1 : (tu (M 1 0) ≤ p) = (p ≥ tu (M 1 0)) := rfl
            unfold tp
            by_cases h1 : tu (M 1 0) ≤ p <;> by_cases h2 : tu (M 1 0) ≤ q <;> first | (exfalso; omega) | simp [h1, h2])
        · refine j_iload dX5_timesPart_56 rfl ?_
          refine j_goto 65 dX5_timesPart_58 rfl ?_
          refine j_iret dX5_timesPart_65 rfl ?_
          first | (exfalso; omega) | exact pu_i (by
            have e1 : (tu (M 1 0) ≤ p) = (p ≥ tu (M 1 0)) := rfl
            unfold tp
            by_cases h1 : tu (M 1 0) ≤ p <;> by_cases h2 : tu (M 1 0) ≤ q <;> first | (exfalso; omega) | simp [h1, h2])
    · refine j_iconst dX5_timesPart_22 ?_
      refine j_goto 27 dX5_timesPart_23 rfl ?_
      refine j_istore dX5_timesPart_27 (by decide) (nol rfl) (by show List.set _ 5 _ = _; simp only [List.set_cons_zero, List.set_cons_succ]; rfl) ?_
      refine j_iload dX5_timesPart_29 rfl ?_
      refine j_if_eq 40 dX5_timesPart_31 rfl (by unfold inR; omega) (fun c31 => ?_) (fun c31 => ?_)
      · refine j_iload_n dX5_timesPart_40 rfl ?_
        refine j_iload_n dX5_timesPart_41 rfl ?_
        refine j_iadd dX5_timesPart_42 ?_
        refine j_iload_n dX5_timesPart_43 rfl ?_
        refine j_N2p dX5_timesPart_44 ok_X6_remainder n_X5_45 (e_remainder (by first | assumption | (unfold inR; omega)) (by first | assumption | (unfold inR; omega)) (by omega)) ?_
        refine j_istore dX5_timesPart_47 (by decide) (nol rfl) (by show List.set _ 6 _ = _; simp only [List.set_cons_zero, List.set_cons_succ]; rfl) ?_
        refine j_iload dX5_timesPart_49 rfl ?_
        refine j_iload dX5_timesPart_51 rfl ?_
        refine j_icmp_ne 61 dX5_timesPart_53 rfl (by unfold inR; omega) (by unfold inR; omega) (fun c53 => ?_) (fun c53 => ?_)
        · refine j_iload_n dX5_timesPart_61 rfl ?_
          refine j_iload dX5_timesPart_62 rfl ?_
          refine j_iadd dX5_timesPart_64 ?_
          refine j_iret dX5_timesPart_65 rfl ?_
          first | (exfalso; omega) | exact pu_i (by
            have e1 : (tu (M 1 0) ≤ p) = (p ≥ tu (M 1 0)) := rfl
            unfold tp
            by_cases h1 : tu (M 1 0) ≤ p <;> by_cases h2 : tu (M 1 0) ≤ q <;> first | (exfalso; omega) | simp [h1, h2])
        · refine j_iload dX5_timesPart_56 rfl ?_
          refine j_goto 65 dX5_timesPart_58 rfl ?_
          refine j_iret dX5_timesPart_65 rfl ?_
          first | (exfalso; omega) | exact pu_i (by
            have e1 : (tu (M 1 0) ≤ p) = (p ≥ tu (M 1 0)) := rfl
            unfold tp
            by_cases h1 : tu (M 1 0) ≤ p <;> by_cases h2 : tu (M 1 0) ≤ q <;> first | (exfalso; omega) | simp [h1, h2])
      · refine j_iload_n dX5_timesPart_34 rfl ?_
        refine j_iload_n dX5_timesPart_35 rfl ?_
        refine j_isub dX5_timesPart_36 ?_
        refine j_goto 43 dX5_timesPart_37 rfl ?_
        refine j_iload_n dX5_timesPart_43 rfl ?_
        refine j_N2p dX5_timesPart_44 ok_X6_remainder n_X5_45 (e_remainder (by first | assumption | (unfold inR; omega)) (by first | assumption | (unfold inR; omega)) (by omega)) ?_
        refine j_istore dX5_timesPart_47 (by decide) (nol rfl) (by show List.set _ 6 _ = _; simp only [List.set_cons_zero, List.set_cons_succ]; rfl) ?_
        refine j_iload dX5_timesPart_49 rfl ?_
        refine j_iload dX5_timesPart_51 rfl ?_
        refine j_icmp_ne 61 dX5_timesPart_53 rfl (by unfold inR; omega) (by unfold inR; omega) (fun c53 => ?_) (fun c53 => ?_)
        · refine j_iload_n dX5_timesPart_61 rfl ?_
          refine j_iload dX5_timesPart_62 rfl ?_
          refine j_iadd dX5_timesPart_64 ?_
          refine j_iret dX5_timesPart_65 rfl ?_
          first | (exfalso; omega) | exact pu_i (by
            have e1 : (tu (M 1 0) ≤ p) = (p ≥ tu (M 1 0)) := rfl
            unfold tp
            by_cases h1 : tu (M 1 0) ≤ p <;> by_cases h2 : tu (M 1 0) ≤ q <;> first | (exfalso; omega) | simp [h1, h2])
        · refine j_iload dX5_timesPart_56 rfl ?_
          refine j_goto 65 dX5_timesPart_58 rfl ?_
          refine j_iret dX5_timesPart_65 rfl ?_
          first | (exfalso; omega) | exact pu_i (by
            have e1 : (tu (M 1 0) ≤ p) = (p ≥ tu (M 1 0)) := rfl
            unfold tp
            by_cases h1 : tu (M 1 0) ≤ p <;> by_cases h2 : tu (M 1 0) ≤ q <;> first | (exfalso; omega) | simp [h1, h2])
theorem e_X5_inversePart {M : Mem} (hL : Lat M) {p : Int} (hp : 0 ≤ p ∧ p < 2 * tu (M 1 0)) : J SHC mi_X5_inversePart 0 (ent [vR 1, vI p] 2) [] M (pu (vI (ip (M 1 0) p)) M) := by
  obtain ⟨hk, hn1, hn5, hc1, hc2⟩ := id hL
  have ht := tu_c hk
  show J SHC mi_X5_inversePart 0 [some (vR 1), some (vI p)] [] M _
  refine j_iload_n dX5_inversePart_0 rfl ?_
  refine j_aload_n dX5_inversePart_1 rfl ?_
  refine j_V0p dX5_inversePart_2 ok_X5_turns v_X5_18 c_X5_turns rfl (e_X5_turns hL) ?_
  refine j_icmp_ge 20 dX5_inversePart_5 rfl (by unfold inR; omega) (by unfold inR; omega) (fun c5 => ?_) (fun c5 => ?_)
  · refine j_iload_n dX5_inversePart_20 rfl ?_
    refine j_iret dX5_inversePart_21 rfl ?_
    exact pu_i (by unfold ip; first | rw [if_pos (by omega)] | rw [if_neg (by omega)])
  · refine j_iload_n dX5_inversePart_8 rfl ?_
    refine j_ineg dX5_inversePart_9 ?_
    refine j_aload_n dX5_inversePart_10 rfl ?_
    refine j_V0p dX5_inversePart_11 ok_X5_turns v_X5_18 c_X5_turns rfl (e_X5_turns hL) ?_
    refine j_N2p dX5_inversePart_14 ok_X6_remainder n_X5_45 (e_remainder (by first | assumption | (unfold inR; omega)) (by first | assumption | (unfold inR; omega)) (by omega)) ?_
    refine j_goto 21 dX5_inversePart_17 rfl ?_
    refine j_iret dX5_inversePart_21 rfl ?_
    exact pu_i (by unfold ip; first | rw [if_pos (by omega)] | rw [if_neg (by omega)])
theorem e_X5_times {M : Mem} (hL : Lat M) {g h : Int} (hg : vc (M 1 0) (M 1 1) g) (hh : vc (M 1 0) (M 1 1) h) : J SHC mi_X5_times 0 (ent [vR 1, vI g, vI h] 6) [] M (pu (vI (tm (M 1 0) (M 1 1) g h)) M) := by
  obtain ⟨hk, hn1, hn5, hc1, hc2⟩ := id hL
  have ht := tu_c hk
  obtain ⟨hg0, hg1, hgp0, hgp1⟩ := vc_b hk hc1 hc2 hg
  have hgxy := cXY_b hn1 g
  have hgp : 0 ≤ cP (M 1 1) g ∧ cP (M 1 1) g < 2 * tu (M 1 0) := ⟨hgp0, hgp1⟩
  obtain ⟨hh0, hh1, hhp0, hhp1⟩ := vc_b hk hc1 hc2 hh
  have hhxy := cXY_b hn1 h
  have hhp : 0 ≤ cP (M 1 1) h ∧ cP (M 1 1) h < 2 * tu (M 1 0) := ⟨hhp0, hhp1⟩
  have hib := im_b (M 1 0) (cP (M 1 1) g) (x := cX (M 1 1) h) (y := cY (M 1 1) h) (b := 5) ⟨by omega, by omega⟩ ⟨by omega, by omega⟩
  simp only [cP, cX, cY] at hib hgp hhp hgxy hhxy
  show J SHC mi_X5_times 0 [some (vR 1), some (vI g), some (vI h), none, none, none] [] M _
  refine j_aload_n dX5_times_0 rfl ?_
  refine j_iload_n dX5_times_1 rfl ?_
  refine j_V1p dX5_times_2 ok_X5_partOf v_X5_58 c_X5_partOf rfl (e_X5_partOf hL (by omega) (by omega)) ?_
  refine j_istore_n dX5_times_5 (by decide) (nol rfl) (by show List.set _ 3 _ = _; simp only [List.set_cons_zero, List.set_cons_succ]; rfl) ?_
  refine j_aload_n dX5_times_6 rfl ?_
  refine j_aload_n dX5_times_7 rfl ?_
  refine j_iload_n dX5_times_8 rfl ?_
  refine j_aload_n dX5_times_9 rfl ?_
  refine j_iload_n dX5_times_10 rfl ?_
  refine j_V1p dX5_times_11 ok_X5_shiftX v_X5_66 c_X5_shiftX rfl (e_X5_shiftX hL (by omega) (by omega)) ?_
  refine j_aload_n dX5_times_14 rfl ?_
  refine j_iload_n dX5_times_15 rfl ?_
  refine j_V1p dX5_times_16 ok_X5_shiftY v_X5_75 c_X5_shiftY rfl (e_X5_shiftY hL (by omega) (by omega)) ?_
  refine j_V3p dX5_times_19 ok_X5_imageX v_X5_62 c_X5_imageX rfl (e_X5_imageX hL (by assumption)) ?_
  refine j_aload_n dX5_times_22 rfl ?_
  refine j_iload_n dX5_times_23 rfl ?_
  refine j_V1p dX5_times_24 ok_X5_shiftX v_X5_66 c_X5_shiftX rfl (e_X5_shiftX hL (by omega) (by omega)) ?_
  refine j_iadd dX5_times_27 ?_
  refine j_V1p dX5_times_28 ok_X5_wrap v_X5_69 c_X5_wrap rfl (e_X5_wrap hL (by first | assumption | (unfold inR; omega))) ?_
  refine j_istore dX5_times_31 (by decide) (nol rfl) (by show List.set _ 4 _ = _; simp only [List.set_cons_zero, List.set_cons_succ]; rfl) ?_
  refine j_aload_n dX5_times_33 rfl ?_
  refine j_aload_n dX5_times_34 rfl ?_
  refine j_iload_n dX5_times_35 rfl ?_
  refine j_aload_n dX5_times_36 rfl ?_
  refine j_iload_n dX5_times_37 rfl ?_
  refine j_V1p dX5_times_38 ok_X5_shiftX v_X5_66 c_X5_shiftX rfl (e_X5_shiftX hL (by omega) (by omega)) ?_
  refine j_aload_n dX5_times_41 rfl ?_
  refine j_iload_n dX5_times_42 rfl ?_
  refine j_V1p dX5_times_43 ok_X5_shiftY v_X5_75 c_X5_shiftY rfl (e_X5_shiftY hL (by omega) (by omega)) ?_
  refine j_V3p dX5_times_46 ok_X5_imageY v_X5_72 c_X5_imageY rfl (e_X5_imageY hL (by assumption)) ?_
  refine j_aload_n dX5_times_49 rfl ?_
  refine j_iload_n dX5_times_50 rfl ?_
  refine j_V1p dX5_times_51 ok_X5_shiftY v_X5_75 c_X5_shiftY rfl (e_X5_shiftY hL (by omega) (by omega)) ?_
  refine j_iadd dX5_times_54 ?_
  refine j_V1p dX5_times_55 ok_X5_wrap v_X5_69 c_X5_wrap rfl (e_X5_wrap hL (by first | assumption | (unfold inR; omega))) ?_
  refine j_istore dX5_times_58 (by decide) (nol rfl) (by show List.set _ 5 _ = _; simp only [List.set_cons_zero, List.set_cons_succ]; rfl) ?_
  refine j_aload_n dX5_times_60 rfl ?_
  refine j_aload_n dX5_times_61 rfl ?_
  refine j_iload_n dX5_times_62 rfl ?_
  refine j_aload_n dX5_times_63 rfl ?_
  refine j_iload_n dX5_times_64 rfl ?_
  refine j_V1p dX5_times_65 ok_X5_partOf v_X5_58 c_X5_partOf rfl (e_X5_partOf hL (by omega) (by omega)) ?_
  refine j_V2p dX5_times_68 ok_X5_timesPart v_X5_78 c_X5_timesPart rfl (e_X5_timesPart hL (by assumption) (by assumption)) ?_
  refine j_iload dX5_times_71 rfl ?_
  refine j_iload dX5_times_73 rfl ?_
  refine j_V3p dX5_times_75 ok_X5_codeOf v_X5_81 c_X5_codeOf rfl (e_X5_codeOf hL) ?_
  refine j_iret dX5_times_78 rfl ?_
  exact pu_i rfl
theorem e_X5_inverseOf {M : Mem} (hL : Lat M) {c : Int} (hv : vc (M 1 0) (M 1 1) c) : J SHC mi_X5_inverseOf 0 (ent [vR 1, vI c] 5) [] M (pu (vI (iv (M 1 0) (M 1 1) c)) M) := by
  obtain ⟨hk, hn1, hn5, hc1, hc2⟩ := id hL
  have ht := tu_c hk
  obtain ⟨hc0, hc1, hcp0, hcp1⟩ := vc_b hk hc1 hc2 hv
  have hcxy := cXY_b hn1 c
  have hcp : 0 ≤ cP (M 1 1) c ∧ cP (M 1 1) c < 2 * tu (M 1 0) := ⟨hcp0, hcp1⟩
  have hip := ip_b hk hcp0 hcp1
  have hib := im_b (M 1 0) (ip (M 1 0) (cP (M 1 1) c)) (x := cX (M 1 1) c) (y := cY (M 1 1) c) (b := 5) ⟨by omega, by omega⟩ ⟨by omega, by omega⟩
  simp only [cP, cX, cY] at hib hcp hcxy hip
  show J SHC mi_X5_inverseOf 0 [some (vR 1), some (vI c), none, none, none] [] M _
  refine j_aload_n dX5_inverseOf_0 rfl ?_
  refine j_aload_n dX5_inverseOf_1 rfl ?_
  refine j_iload_n dX5_inverseOf_2 rfl ?_
  refine j_V1p dX5_inverseOf_3 ok_X5_partOf v_X5_58 c_X5_partOf rfl (e_X5_partOf hL (by omega) (by omega)) ?_
  refine j_V1p dX5_inverseOf_6 ok_X5_inversePart v_X5_84 c_X5_inversePart rfl (e_X5_inversePart hL (by assumption)) ?_
  refine j_istore_n dX5_inverseOf_9 (by decide) (nol rfl) (by show List.set _ 2 _ = _; simp only [List.set_cons_zero, List.set_cons_succ]; rfl) ?_
  refine j_aload_n dX5_inverseOf_10 rfl ?_
  refine j_aload_n dX5_inverseOf_11 rfl ?_
  refine j_iload_n dX5_inverseOf_12 rfl ?_
  refine j_aload_n dX5_inverseOf_13 rfl ?_
  refine j_iload_n dX5_inverseOf_14 rfl ?_
  refine j_V1p dX5_inverseOf_15 ok_X5_shiftX v_X5_66 c_X5_shiftX rfl (e_X5_shiftX hL (by omega) (by omega)) ?_
  refine j_aload_n dX5_inverseOf_18 rfl ?_
  refine j_iload_n dX5_inverseOf_19 rfl ?_
  refine j_V1p dX5_inverseOf_20 ok_X5_shiftY v_X5_75 c_X5_shiftY rfl (e_X5_shiftY hL (by omega) (by omega)) ?_
  refine j_V3p dX5_inverseOf_23 ok_X5_imageX v_X5_62 c_X5_imageX rfl (e_X5_imageX hL (by assumption)) ?_
  refine j_ineg dX5_inverseOf_26 ?_
  refine j_V1p dX5_inverseOf_27 ok_X5_wrap v_X5_69 c_X5_wrap rfl (e_X5_wrap hL (by first | assumption | (unfold inR; omega))) ?_
  refine j_istore_n dX5_inverseOf_30 (by decide) (nol rfl) (by show List.set _ 3 _ = _; simp only [List.set_cons_zero, List.set_cons_succ]; rfl) ?_
  refine j_aload_n dX5_inverseOf_31 rfl ?_
  refine j_aload_n dX5_inverseOf_32 rfl ?_
  refine j_iload_n dX5_inverseOf_33 rfl ?_
  refine j_aload_n dX5_inverseOf_34 rfl ?_
  refine j_iload_n dX5_inverseOf_35 rfl ?_
  refine j_V1p dX5_inverseOf_36 ok_X5_shiftX v_X5_66 c_X5_shiftX rfl (e_X5_shiftX hL (by omega) (by omega)) ?_
  refine j_aload_n dX5_inverseOf_39 rfl ?_
  refine j_iload_n dX5_inverseOf_40 rfl ?_
  refine j_V1p dX5_inverseOf_41 ok_X5_shiftY v_X5_75 c_X5_shiftY rfl (e_X5_shiftY hL (by omega) (by omega)) ?_
  refine j_V3p dX5_inverseOf_44 ok_X5_imageY v_X5_72 c_X5_imageY rfl (e_X5_imageY hL (by assumption)) ?_
  refine j_ineg dX5_inverseOf_47 ?_
  refine j_V1p dX5_inverseOf_48 ok_X5_wrap v_X5_69 c_X5_wrap rfl (e_X5_wrap hL (by first | assumption | (unfold inR; omega))) ?_
  refine j_istore dX5_inverseOf_51 (by decide) (nol rfl) (by show List.set _ 4 _ = _; simp only [List.set_cons_zero, List.set_cons_succ]; rfl) ?_
  refine j_aload_n dX5_inverseOf_53 rfl ?_
  refine j_iload_n dX5_inverseOf_54 rfl ?_
  refine j_iload_n dX5_inverseOf_55 rfl ?_
  refine j_iload dX5_inverseOf_56 rfl ?_
  refine j_V3p dX5_inverseOf_58 ok_X5_codeOf v_X5_81 c_X5_codeOf rfl (e_X5_codeOf hL) ?_
  refine j_iret dX5_inverseOf_61 rfl ?_
  exact pu_i rfl
theorem e_X5_imageOfCell {M : Mem} (hL : Lat M) {c q : Int} (hv : vc (M 1 0) (M 1 1) c) (hq : 0 ≤ q ∧ q < M 1 1 * M 1 1) : J SHC mi_X5_imageOfCell 0 (ent [vR 1, vI c, vI q] 6) [] M (pu (vI (sc (M 1 0) (M 1 1) c q)) M) := by
  obtain ⟨hk, hn1, hn5, hc1, hc2⟩ := id hL
  have ht := tu_c hk
  obtain ⟨hc0, hc1, hcp0, hcp1⟩ := vc_b hk hc1 hc2 hv
  have hcxy := cXY_b hn1 c
  have hcp : 0 ≤ cP (M 1 1) c ∧ cP (M 1 1) c < 2 * tu (M 1 0) := ⟨hcp0, hcp1⟩
  have hq1 : 0 ≤ q / M 1 1 ∧ q / M 1 1 ≤ 5 := ⟨Int.ediv_nonneg hq.1 (by omega), by have := Int.ediv_lt_of_lt_mul (show 0 < M 1 1 by omega) hq.2; omega⟩
  have hq2 : 0 ≤ q % M 1 1 ∧ q % M 1 1 ≤ 5 := ⟨Int.emod_nonneg q (by omega), by have := Int.emod_lt_of_pos q (show 0 < M 1 1 by omega); omega⟩
  have hib := im_b (M 1 0) (cP (M 1 1) c) hq1 hq2
  simp only [cP, cX, cY] at hib hcp hcxy
  show J SHC mi_X5_imageOfCell 0 [some (vR 1), some (vI c), some (vI q), none, none, none] [] M _
  refine j_aload_n dX5_imageOfCell_0 rfl ?_
  refine j_iload_n dX5_imageOfCell_1 rfl ?_
  refine j_V1p dX5_imageOfCell_2 ok_X5_partOf v_X5_58 c_X5_partOf rfl (e_X5_partOf hL (by omega) (by omega)) ?_
  refine j_istore_n dX5_imageOfCell_5 (by decide) (nol rfl) (by show List.set _ 3 _ = _; simp only [List.set_cons_zero, List.set_cons_succ]; rfl) ?_
  refine j_iload_n dX5_imageOfCell_6 rfl ?_
  refine j_aload_n dX5_imageOfCell_7 rfl ?_
  refine j_getI (kz := 1) rfl dX5_imageOfCell_8 f_X5_15 rfl rfl ?_
  refine j_N2p dX5_imageOfCell_11 ok_X6_quotient n_X5_42 (e_quotient (by first | assumption | (unfold inR; omega)) (by first | assumption | (unfold inR; omega)) (by omega) (by omega)) ?_
  refine j_istore dX5_imageOfCell_14 (by decide) (nol rfl) (by show List.set _ 4 _ = _; simp only [List.set_cons_zero, List.set_cons_succ]; rfl) ?_
  refine j_iload_n dX5_imageOfCell_16 rfl ?_
  refine j_aload_n dX5_imageOfCell_17 rfl ?_
  refine j_getI (kz := 1) rfl dX5_imageOfCell_18 f_X5_15 rfl rfl ?_
  refine j_N2p dX5_imageOfCell_21 ok_X6_remainder n_X5_45 (e_remainder (by first | assumption | (unfold inR; omega)) (by first | assumption | (unfold inR; omega)) (by omega)) ?_
  refine j_istore dX5_imageOfCell_24 (by decide) (nol rfl) (by show List.set _ 5 _ = _; simp only [List.set_cons_zero, List.set_cons_succ]; rfl) ?_
  refine j_aload_n dX5_imageOfCell_26 rfl ?_
  refine j_aload_n dX5_imageOfCell_27 rfl ?_
  refine j_aload_n dX5_imageOfCell_28 rfl ?_
  refine j_iload_n dX5_imageOfCell_29 rfl ?_
  refine j_iload dX5_imageOfCell_30 rfl ?_
  refine j_iload dX5_imageOfCell_32 rfl ?_
  refine j_V3p dX5_imageOfCell_34 ok_X5_imageX v_X5_62 c_X5_imageX rfl (e_X5_imageX hL (by assumption)) ?_
  refine j_aload_n dX5_imageOfCell_37 rfl ?_
  refine j_iload_n dX5_imageOfCell_38 rfl ?_
  refine j_V1p dX5_imageOfCell_39 ok_X5_shiftX v_X5_66 c_X5_shiftX rfl (e_X5_shiftX hL (by omega) (by omega)) ?_
  refine j_iadd dX5_imageOfCell_42 ?_
  refine j_V1p dX5_imageOfCell_43 ok_X5_wrap v_X5_69 c_X5_wrap rfl (e_X5_wrap hL (by first | assumption | (unfold inR; omega))) ?_
  refine j_aload_n dX5_imageOfCell_46 rfl ?_
  refine j_aload_n dX5_imageOfCell_47 rfl ?_
  refine j_iload_n dX5_imageOfCell_48 rfl ?_
  refine j_iload dX5_imageOfCell_49 rfl ?_
  refine j_iload dX5_imageOfCell_51 rfl ?_
  refine j_V3p dX5_imageOfCell_53 ok_X5_imageY v_X5_72 c_X5_imageY rfl (e_X5_imageY hL (by assumption)) ?_
  refine j_aload_n dX5_imageOfCell_56 rfl ?_
  refine j_iload_n dX5_imageOfCell_57 rfl ?_
  refine j_V1p dX5_imageOfCell_58 ok_X5_shiftY v_X5_75 c_X5_shiftY rfl (e_X5_shiftY hL (by omega) (by omega)) ?_
  refine j_iadd dX5_imageOfCell_61 ?_
  refine j_V1p dX5_imageOfCell_62 ok_X5_wrap v_X5_69 c_X5_wrap rfl (e_X5_wrap hL (by first | assumption | (unfold inR; omega))) ?_
  refine j_V2p dX5_imageOfCell_65 ok_X5_cellOf v_X5_38 c_X5_cellOf rfl (e_X5_cellOf hL) ?_
  refine j_iret dX5_imageOfCell_68 rfl ?_
  exact pu_i rfl
def hv2 (a b : Int) : Int × Int := if a.tmod 2 = 0 ∧ b.tmod 2 = 0 then (a.tdiv 2, b.tdiv 2) else (a, b)
def rfab (k p : Int) : Int × Int := if 1 + en k p 0 = 0 ∧ en k p 1 = 0 then hv2 (en k p 2) (1 + en k p 3) else hv2 (1 + en k p 0) (en k p 1)
def rf (k n c : Int) : Prop := ((rfab k (cP n c)).1 * cX n c + (rfab k (cP n c)).2 * cY n c) % n = 0
def kn (k n c : Int) : Int := if cP n c = 0 then 0 else if cP n c < tu k then 1 else if ((rfab k (cP n c)).1 * cX n c + (rfab k (cP n c)).2 * cY n c) % n = 0 then 2 else 3
theorem e_X5_isReflection72 {M : Mem} (hL : Lat M) {c p a b : Int} (hv : vc (M 1 0) (M 1 1) c) (ha : -4 ≤ a ∧ a ≤ 4) (hb : -4 ≤ b ∧ b ≤ 4) : J SHC mi_X5_isReflection 72 [some (vR 1), some (vI c), some (vI p), some (vI a), some (vI b)] [] M (bz ((a * cX (M 1 1) c + b * cY (M 1 1) c) % M 1 1 = 0) M) := by
  obtain ⟨hk, hn1, hn5, hc1, hc2⟩ := id hL
  have ht := tu_c hk
  obtain ⟨hc0, hc1, hcp0, hcp1⟩ := vc_b hk hc1 hc2 hv
  have hcxy := cXY_b hn1 c
  have hcp : 0 ≤ cP (M 1 1) c ∧ cP (M 1 1) c < 2 * tu (M 1 0) := ⟨hcp0, hcp1⟩
  have hma : -16 ≤ a * cX (M 1 1) c ∧ a * cX (M 1 1) c ≤ 16 := by
    rcases (show cX (M 1 1) c = 0 ∨ cX (M 1 1) c = 1 ∨ cX (M 1 1) c = 2 ∨ cX (M 1 1) c = 3 ∨ cX (M 1 1) c = 4 by omega) with h | h | h | h | h <;> rw [h] <;> omega
  have hmb : -16 ≤ b * cY (M 1 1) c ∧ b * cY (M 1 1) c ≤ 16 := by
    rcases (show cY (M 1 1) c = 0 ∨ cY (M 1 1) c = 1 ∨ cY (M 1 1) c = 2 ∨ cY (M 1 1) c = 3 ∨ cY (M 1 1) c = 4 by omega) with h | h | h | h | h <;> rw [h] <;> omega
  have hm0 := Int.emod_nonneg (a * cX (M 1 1) c + b * cY (M 1 1) c) (show M 1 1 ≠ 0 by omega)
  have hm1 := Int.emod_lt_of_pos (a * cX (M 1 1) c + b * cY (M 1 1) c) (show 0 < M 1 1 by omega)
  simp only [cX, cY] at hma hmb hm0 hm1
  refine j_aload_n dX5_isReflection_72 rfl ?_
  refine j_iload_n dX5_isReflection_73 rfl ?_
  refine j_aload_n dX5_isReflection_74 rfl ?_
  refine j_iload_n dX5_isReflection_75 rfl ?_
  refine j_V1p dX5_isReflection_76 ok_X5_shiftX v_X5_66 c_X5_shiftX rfl (e_X5_shiftX hL (by omega) (by omega)) ?_
  refine j_imul dX5_isReflection_79 ?_
  refine j_iload dX5_isReflection_80 rfl ?_
  refine j_aload_n dX5_isReflection_82 rfl ?_
  refine j_iload_n dX5_isReflection_83 rfl ?_
  refine j_V1p dX5_isReflection_84 ok_X5_shiftY v_X5_75 c_X5_shiftY rfl (e_X5_shiftY hL (by omega) (by omega)) ?_
  refine j_imul dX5_isReflection_87 ?_
  refine j_iadd dX5_isReflection_88 ?_
  refine j_V1p dX5_isReflection_89 ok_X5_wrap v_X5_69 c_X5_wrap rfl (e_X5_wrap hL (by first | assumption | (unfold inR; omega))) ?_
  refine j_if_ne 99 dX5_isReflection_92 rfl (by unfold inR; omega) (fun c92 => ?_) (fun c92 => ?_)
  · refine j_iconst dX5_isReflection_99 ?_
    refine j_zret dX5_isReflection_100 rfl (by first | exact Or.inl rfl | exact Or.inr rfl | omega) ?_
    first | exact bz_i (Or.inl ⟨rfl, c92⟩) | exact bz_i (Or.inr ⟨rfl, c92⟩)
  · refine j_iconst dX5_isReflection_95 ?_
    refine j_goto 100 dX5_isReflection_96 rfl ?_
    refine j_zret dX5_isReflection_100 rfl (by first | exact Or.inl rfl | exact Or.inr rfl | omega) ?_
    first | exact bz_i (Or.inl ⟨rfl, c92⟩) | exact bz_i (Or.inr ⟨rfl, c92⟩)
theorem e_X5_isReflection49 {M : Mem} (hL : Lat M) {c p a b : Int} (hv : vc (M 1 0) (M 1 1) c) (ha : -2 ≤ a ∧ a ≤ 2) (hb : -2 ≤ b ∧ b ≤ 2) : J SHC mi_X5_isReflection 49 [some (vR 1), some (vI c), some (vI p), some (vI a), some (vI b)] [] M (bz (((hv2 a b).1 * cX (M 1 1) c + (hv2 a b).2 * cY (M 1 1) c) % M 1 1 = 0) M) := by
  obtain ⟨hk, hn1, hn5, hc1, hc2⟩ := id hL
  have ht := tu_c hk
  have td : ∀ z : Int, -2 ≤ z ∧ z ≤ 2 → (-2 ≤ z.tdiv 2 ∧ z.tdiv 2 ≤ 2) ∧ -2 ≤ z.tmod 2 ∧ z.tmod 2 ≤ 2 := fun z hz => by
    rcases (show z = -2 ∨ z = -1 ∨ z = 0 ∨ z = 1 ∨ z = 2 by omega) with rfl | rfl | rfl | rfl | rfl <;> decide
  have ta := td a ha
  have tb := td b hb
  refine j_iload_n dX5_isReflection_49 rfl ?_
  refine j_iconst dX5_isReflection_50 ?_
  refine j_irem dX5_isReflection_51 (by unfold inR; omega) (by unfold inR; omega) (by omega) ?_
  refine j_if_ne 72 dX5_isReflection_52 rfl (by unfold inR; omega) (fun c52 => ?_) (fun c52 => ?_)
  · first
    | (have hh : hv2 a b = (a, b) := if_neg (fun h => c52 h.1)
       rw [hh]; exact e_X5_isReflection72 hL hv (by omega) (by omega))
    | (have hh : hv2 a b = (a, b) := if_neg (fun h => c59 h.2)
       rw [hh]; exact e_X5_isReflection72 hL hv (by omega) (by omega))
    | (have hh : hv2 a b = (a.tdiv 2, b.tdiv 2) := if_pos ⟨c52, c59⟩
       rw [hh]; exact e_X5_isReflection72 hL hv (by omega) (by omega))
  · refine j_iload dX5_isReflection_55 rfl ?_
    refine j_iconst dX5_isReflection_57 ?_
    refine j_irem dX5_isReflection_58 (by unfold inR; omega) (by unfold inR; omega) (by omega) ?_
    refine j_if_ne 72 dX5_isReflection_59 rfl (by unfold inR; omega) (fun c59 => ?_) (fun c59 => ?_)
    · first
      | (have hh : hv2 a b = (a, b) := if_neg (fun h => c52 h.1)
         rw [hh]; exact e_X5_isReflection72 hL hv (by omega) (by omega))
      | (have hh : hv2 a b = (a, b) := if_neg (fun h => c59 h.2)
         rw [hh]; exact e_X5_isReflection72 hL hv (by omega) (by omega))
      | (have hh : hv2 a b = (a.tdiv 2, b.tdiv 2) := if_pos ⟨c52, c59⟩
         rw [hh]; exact e_X5_isReflection72 hL hv (by omega) (by omega))
    · refine j_iload_n dX5_isReflection_62 rfl ?_
      refine j_iconst dX5_isReflection_63 ?_
      refine j_idiv dX5_isReflection_64 (by unfold inR; omega) (by unfold inR; omega) (by omega) ?_
      refine j_istore_n dX5_isReflection_65 (by decide) (nol rfl) (by show List.set _ 3 _ = _; simp only [List.set_cons_zero, List.set_cons_succ]; rfl) ?_
      refine j_iload dX5_isReflection_66 rfl ?_
      refine j_iconst dX5_isReflection_68 ?_
      refine j_idiv dX5_isReflection_69 (by unfold inR; omega) (by unfold inR; omega) (by omega) ?_
      refine j_istore dX5_isReflection_70 (by decide) (nol rfl) (by show List.set _ 4 _ = _; simp only [List.set_cons_zero, List.set_cons_succ]; rfl) ?_
      first
      | (have hh : hv2 a b = (a, b) := if_neg (fun h => c52 h.1)
         rw [hh]; exact e_X5_isReflection72 hL hv (by omega) (by omega))
      | (have hh : hv2 a b = (a, b) := if_neg (fun h => c59 h.2)
         rw [hh]; exact e_X5_isReflection72 hL hv (by omega) (by omega))
      | (have hh : hv2 a b = (a.tdiv 2, b.tdiv 2) := if_pos ⟨c52, c59⟩
         rw [hh]; exact e_X5_isReflection72 hL hv (by omega) (by omega))
theorem e_X5_isReflection {M : Mem} (hL : Lat M) {c : Int} (hv : vc (M 1 0) (M 1 1) c) : J SHC mi_X5_isReflection 0 (ent [vR 1, vI c] 5) [] M (bz (rf (M 1 0) (M 1 1) c) M) := by
  obtain ⟨hk, hn1, hn5, hc1, hc2⟩ := id hL
  have ht := tu_c hk
  obtain ⟨hc0, hc1, hcp0, hcp1⟩ := vc_b hk hc1 hc2 hv
  have hcxy := cXY_b hn1 c
  have hcp : 0 ≤ cP (M 1 1) c ∧ cP (M 1 1) c < 2 * tu (M 1 0) := ⟨hcp0, hcp1⟩
  have e0 := en_b (M 1 0) (cP (M 1 1) c) 0
  have e1 := en_b (M 1 0) (cP (M 1 1) c) 1
  have e2 := en_b (M 1 0) (cP (M 1 1) c) 2
  have e3 := en_b (M 1 0) (cP (M 1 1) c) 3
  simp only [cP] at e0 e1 e2 e3 hcp
  show J SHC mi_X5_isReflection 0 [some (vR 1), some (vI c), none, none, none] [] M _
  refine j_aload_n dX5_isReflection_0 rfl ?_
  refine j_iload_n dX5_isReflection_1 rfl ?_
  refine j_V1p dX5_isReflection_2 ok_X5_partOf v_X5_58 c_X5_partOf rfl (e_X5_partOf hL (by omega) (by omega)) ?_
  refine j_istore_n dX5_isReflection_5 (by decide) (nol rfl) (by show List.set _ 2 _ = _; simp only [List.set_cons_zero, List.set_cons_succ]; rfl) ?_
  refine j_iconst dX5_isReflection_6 ?_
  refine j_aload_n dX5_isReflection_7 rfl ?_
  refine j_iload_n dX5_isReflection_8 rfl ?_
  refine j_iconst dX5_isReflection_9 ?_
  refine j_V2p dX5_isReflection_10 ok_X5_entry v_X5_55 c_X5_entry rfl (e_X5_entry hL (by assumption) (by omega)) ?_
  refine j_iadd dX5_isReflection_13 ?_
  refine j_istore_n dX5_isReflection_14 (by decide) (nol rfl) (by show List.set _ 3 _ = _; simp only [List.set_cons_zero, List.set_cons_succ]; rfl) ?_
  refine j_aload_n dX5_isReflection_15 rfl ?_
  refine j_iload_n dX5_isReflection_16 rfl ?_
  refine j_iconst dX5_isReflection_17 ?_
  refine j_V2p dX5_isReflection_18 ok_X5_entry v_X5_55 c_X5_entry rfl (e_X5_entry hL (by assumption) (by omega)) ?_
  refine j_istore dX5_isReflection_21 (by decide) (nol rfl) (by show List.set _ 4 _ = _; simp only [List.set_cons_zero, List.set_cons_succ]; rfl) ?_
  refine j_iload_n dX5_isReflection_23 rfl ?_
  refine j_if_ne 49 dX5_isReflection_24 rfl (by unfold inR; omega) (fun c24 => ?_) (fun c24 => ?_)
  · first
    | (have hh : rfab (M 1 0) (cP (M 1 1) c) = hv2 _ _ := if_neg (fun h => c24 h.1)
       unfold rf; rw [hh]; exact e_X5_isReflection49 hL hv (by omega) (by omega))
    | (have hh : rfab (M 1 0) (cP (M 1 1) c) = hv2 _ _ := if_neg (fun h => c29 h.2)
       unfold rf; rw [hh]; exact e_X5_isReflection49 hL hv (by omega) (by omega))
    | (have hh : rfab (M 1 0) (cP (M 1 1) c) = hv2 _ _ := if_pos ⟨c24, c29⟩
       unfold rf; rw [hh]; exact e_X5_isReflection49 hL hv (by omega) (by omega))
  · refine j_iload dX5_isReflection_27 rfl ?_
    refine j_if_ne 49 dX5_isReflection_29 rfl (by unfold inR; omega) (fun c29 => ?_) (fun c29 => ?_)
    · first
      | (have hh : rfab (M 1 0) (cP (M 1 1) c) = hv2 _ _ := if_neg (fun h => c24 h.1)
         unfold rf; rw [hh]; exact e_X5_isReflection49 hL hv (by omega) (by omega))
      | (have hh : rfab (M 1 0) (cP (M 1 1) c) = hv2 _ _ := if_neg (fun h => c29 h.2)
         unfold rf; rw [hh]; exact e_X5_isReflection49 hL hv (by omega) (by omega))
      | (have hh : rfab (M 1 0) (cP (M 1 1) c) = hv2 _ _ := if_pos ⟨c24, c29⟩
         unfold rf; rw [hh]; exact e_X5_isReflection49 hL hv (by omega) (by omega))
    · refine j_aload_n dX5_isReflection_32 rfl ?_
      refine j_iload_n dX5_isReflection_33 rfl ?_
      refine j_iconst dX5_isReflection_34 ?_
      refine j_V2p dX5_isReflection_35 ok_X5_entry v_X5_55 c_X5_entry rfl (e_X5_entry hL (by assumption) (by omega)) ?_
      refine j_istore_n dX5_isReflection_38 (by decide) (nol rfl) (by show List.set _ 3 _ = _; simp only [List.set_cons_zero, List.set_cons_succ]; rfl) ?_
      refine j_iconst dX5_isReflection_39 ?_
      refine j_aload_n dX5_isReflection_40 rfl ?_
      refine j_iload_n dX5_isReflection_41 rfl ?_
      refine j_iconst dX5_isReflection_42 ?_
      refine j_V2p dX5_isReflection_43 ok_X5_entry v_X5_55 c_X5_entry rfl (e_X5_entry hL (by assumption) (by omega)) ?_
      refine j_iadd dX5_isReflection_46 ?_
      refine j_istore dX5_isReflection_47 (by decide) (nol rfl) (by show List.set _ 4 _ = _; simp only [List.set_cons_zero, List.set_cons_succ]; rfl) ?_
      first
      | (have hh : rfab (M 1 0) (cP (M 1 1) c) = hv2 _ _ := if_neg (fun h => c24 h.1)
         unfold rf; rw [hh]; exact e_X5_isReflection49 hL hv (by omega) (by omega))
      | (have hh : rfab (M 1 0) (cP (M 1 1) c) = hv2 _ _ := if_neg (fun h => c29 h.2)
         unfold rf; rw [hh]; exact e_X5_isReflection49 hL hv (by omega) (by omega))
      | (have hh : rfab (M 1 0) (cP (M 1 1) c) = hv2 _ _ := if_pos ⟨c24, c29⟩
         unfold rf; rw [hh]; exact e_X5_isReflection49 hL hv (by omega) (by omega))
theorem e_X5_kindNumber {M : Mem} (hL : Lat M) {c : Int} (hv : vc (M 1 0) (M 1 1) c) : J SHC mi_X5_kindNumber 0 (ent [vR 1, vI c] 3) [] M (pu (vI (kn (M 1 0) (M 1 1) c)) M) := by
  obtain ⟨hk, hn1, hn5, hc1, hc2⟩ := id hL
  have ht := tu_c hk
  obtain ⟨hc0, hc1, hcp0, hcp1⟩ := vc_b hk hc1 hc2 hv
  have hcxy := cXY_b hn1 c
  have hcp : 0 ≤ cP (M 1 1) c ∧ cP (M 1 1) c < 2 * tu (M 1 0) := ⟨hcp0, hcp1⟩
  simp only [cP] at hcp0 hcp1 hcp
  show J SHC mi_X5_kindNumber 0 [some (vR 1), some (vI c), none] [] M _
  refine j_aload_n dX5_kindNumber_0 rfl ?_
  refine j_iload_n dX5_kindNumber_1 rfl ?_
  refine j_V1p dX5_kindNumber_2 ok_X5_partOf v_X5_58 c_X5_partOf rfl (e_X5_partOf hL (by omega) (by omega)) ?_
  refine j_istore_n dX5_kindNumber_5 (by decide) (nol rfl) (by show List.set _ 2 _ = _; simp only [List.set_cons_zero, List.set_cons_succ]; rfl) ?_
  refine j_iload_n dX5_kindNumber_6 rfl ?_
  refine j_if_ne 12 dX5_kindNumber_7 rfl (by unfold inR; omega) (fun c7 => ?_) (fun c7 => ?_)
  · refine j_iload_n dX5_kindNumber_12 rfl ?_
    refine j_aload_n dX5_kindNumber_13 rfl ?_
    refine j_V0p dX5_kindNumber_14 ok_X5_turns v_X5_18 c_X5_turns rfl (e_X5_turns hL) ?_
    refine j_icmp_ge 22 dX5_kindNumber_17 rfl (by unfold inR; omega) (by unfold inR; omega) (fun c17 => ?_) (fun c17 => ?_)
    · refine j_aload_n dX5_kindNumber_22 rfl ?_
      refine j_iload_n dX5_kindNumber_23 rfl ?_
      refine j_V1z dX5_kindNumber_24 ok_X5_isReflection v_X5_90 c_X5_isReflection rfl (e_X5_isReflection hL (by assumption)) (fun z24 M24 q24 => ?_)
      obtain ⟨rfl, q24⟩ := q24
      refine j_if_eq 34 dX5_kindNumber_27 rfl (by unfold inR; omega) (fun c27 => ?_) (fun c27 => ?_)
      · refine j_iconst dX5_kindNumber_34 ?_
        refine j_iret dX5_kindNumber_35 rfl ?_
        exact pu_i (by
          unfold kn
          first
          | rw [if_pos (by assumption)]
          | rw [if_neg (by assumption), if_pos (by assumption)]
          | (rw [if_neg (by assumption), if_neg (by unfold cP; omega), if_pos (by rcases q24 with q | q; exact q.2; omega)])
          | (rw [if_neg (by assumption), if_neg (by unfold cP; omega), if_neg (by rcases q24 with q | q; omega; exact q.2)]))
      · refine j_iconst dX5_kindNumber_30 ?_
        refine j_goto 35 dX5_kindNumber_31 rfl ?_
        refine j_iret dX5_kindNumber_35 rfl ?_
        exact pu_i (by
          unfold kn
          first
          | rw [if_pos (by assumption)]
          | rw [if_neg (by assumption), if_pos (by assumption)]
          | (rw [if_neg (by assumption), if_neg (by unfold cP; omega), if_pos (by rcases q24 with q | q; exact q.2; omega)])
          | (rw [if_neg (by assumption), if_neg (by unfold cP; omega), if_neg (by rcases q24 with q | q; omega; exact q.2)]))
    · refine j_iconst dX5_kindNumber_20 ?_
      refine j_iret dX5_kindNumber_21 rfl ?_
      exact pu_i (by
        unfold kn
        first
        | rw [if_pos (by assumption)]
        | rw [if_neg (by assumption), if_pos (by assumption)]
        | (rw [if_neg (by assumption), if_neg (by unfold cP; omega), if_pos (by rcases q24 with q | q; exact q.2; omega)])
        | (rw [if_neg (by assumption), if_neg (by unfold cP; omega), if_neg (by rcases q24 with q | q; omega; exact q.2)]))
  · refine j_iconst dX5_kindNumber_10 ?_
    refine j_iret dX5_kindNumber_11 rfl ?_
    exact pu_i (by
      unfold kn
      first
      | rw [if_pos (by assumption)]
      | rw [if_neg (by assumption), if_pos (by assumption)]
      | (rw [if_neg (by assumption), if_neg (by unfold cP; omega), if_pos (by rcases q24 with q | q; exact q.2; omega)])
      | (rw [if_neg (by assumption), if_neg (by unfold cP; omega), if_neg (by rcases q24 with q | q; omega; exact q.2)]))
end
section
/-! loops of the lattice, and the three static ones -/
theorem vc_mkc {k n p x y : Int} (hn1 : 1 ≤ n) (hp : 0 ≤ p ∧ p < 2 * tu k) : vc k n (mkc n p x y) := by
  have hn0 : 0 < n := by omega
  have h1 := Int.emod_nonneg x (show n ≠ 0 by omega)
  have h2 := Int.emod_lt_of_pos x hn0
  have h3 := Int.emod_nonneg y (show n ≠ 0 by omega)
  have h4 := Int.emod_lt_of_pos y hn0
  have h5 : 0 ≤ n * (x % n) := Int.mul_nonneg (by omega) h1
  have h6 : n * (x % n) ≤ n * (n - 1) := Int.mul_le_mul_of_nonneg_left (by omega) (by omega)
  have h7 : n * (n - 1) = n * n - n := by rw [Int.mul_sub, Int.mul_one]
  have h8 : 0 < n * n := Int.mul_pos hn0 hn0
  have h9 : 0 ≤ p * (n * n) := Int.mul_nonneg hp.1 (by omega)
  have h10 : p * (n * n) ≤ (2 * tu k - 1) * (n * n) := Int.mul_le_mul_of_nonneg_right (by omega) (by omega)
  have h11 : (2 * tu k - 1) * (n * n) = 2 * tu k * (n * n) - n * n := by rw [Int.sub_mul, Int.one_mul]
  unfold vc mkc
  omega
theorem vc_tm {k n g h : Int} (hk : k = 0 ∨ k = 1) (hn1 : 1 ≤ n) : vc k n (tm k n g h) := vc_mkc hn1 (tp_b hk)
theorem vc_iv {k n g : Int} (hk : k = 0 ∨ k = 1) (hn1 : 1 ≤ n) (hc1 : 1 ≤ n * n) (hc2 : n * n ≤ 25) (hg : vc k n g) : vc k n (iv k n g) := by
  obtain ⟨_, _, h3, h4⟩ := vc_b hk hc1 hc2 hg
  exact vc_mkc hn1 (ip_b hk h3 h4)
/-- c times itself, i more times -/
def pw (k n c : Int) : Nat → Int
  | 0 => c
  | i + 1 => tm k n (pw k n c i) c
theorem vc_pw {k n c : Int} (hk : k = 0 ∨ k = 1) (hn1 : 1 ≤ n) (hc : vc k n c) : ∀ i, vc k n (pw k n c i)
  | 0 => hc
  | _ + 1 => vc_tm hk hn1
/-- agrees outside some cells -/
def fr (S : List Nat) (M M1 : Mem) : Prop := ∀ b, b ∉ S → M1 b = M b
theorem fr.rf {S : List Nat} {M : Mem} : fr S M M := fun _ _ => rfl
theorem fr.tr {S : List Nat} {M M1 M2 : Mem} (h1 : fr S M M1) (h2 : fr S M1 M2) : fr S M M2 := fun b hb => (h2 b hb).trans (h1 b hb)
theorem fr.up {S S' : List Nat} {M M1 : Mem} (h : fr S M M1) (hs : ∀ b ∈ S, b ∈ S') : fr S' M M1 := fun b hb => h b (fun q => hb (hs b q))
theorem fr.w1 {S : List Nat} {M M1 : Mem} (h : fr S M M1) {a : Nat} {i x : Int} (ha : a ∈ S) : fr S M (wr M1 a i x) := fun b hb => by
  have hne : b ≠ a := fun e => hb (e ▸ ha)
  rw [← h b hb]
  funext j
  simp [wr, hne]
def cntTo (f : Int → Int) : Nat → Int
  | 0 => 0
  | i + 1 => cntTo f i + (if f i = 0 then 0 else 1)
theorem cntTo_b (f : Int → Int) : ∀ i : Nat, 0 ≤ cntTo f i ∧ cntTo f i ≤ i
  | 0 => ⟨Int.le_refl _, Int.le_refl _⟩
  | i + 1 => by
    have := cntTo_b f i
    simp only [cntTo]
    split <;> omega

theorem l_factors {M : Mem} {c : Int} (hL : Lat M) (hv : vc (M 1 0) (M 1 1) c) (m : Nat) : ∀ t : Nat, t ≤ 299 → 299 - t < m → (∀ i < t, pw (M 1 0) (M 1 1) c i ≠ 0) → J SHC mi_X5_factorsToIdentity 4 [some (vR 1), some (vI c), some (vI (t + 1)), some (vI (pw (M 1 0) (M 1 1) c t))] [] M (pz (fun z M1 => M1 = M ∧ ∃ t : Nat, z = t + 1 ∧ t ≤ 299 ∧ (∀ i < t, pw (M 1 0) (M 1 1) c i ≠ 0) ∧ (pw (M 1 0) (M 1 1) c t = 0 ∨ t = 299))) := by
  induction m with
  | zero => intro t h1 h2; omega
  | succ m ih =>
  intro t h1 h2 h3
  obtain ⟨hk, hn1, hn5, hc1, hc2⟩ := id hL
  have ht := tu_c hk
  have hpv := vc_pw hk hn1 hv t
  obtain ⟨hp0, hp1, _, _⟩ := vc_b hk hc1 hc2 hpv
  refine j_iload_n dX5_factorsToIdentity_4 rfl ?_
  refine j_if_eq 28 dX5_factorsToIdentity_5 rfl (by unfold inR; omega) (fun c5 => ?_) (fun c5 => ?_)
  · refine j_iload_n dX5_factorsToIdentity_28 rfl ?_
    refine j_iret dX5_factorsToIdentity_29 rfl ?_
    exact ⟨_, rfl, rfl, t, rfl, h1, h3, by first | exact Or.inl c5 | (right; omega)⟩
  · refine j_iload_n dX5_factorsToIdentity_8 rfl ?_
    refine j_sipush dX5_factorsToIdentity_9 (by decide +kernel) ?_
    refine j_icmp_ge 28 dX5_factorsToIdentity_12 rfl (by unfold inR; omega) (by unfold inR; omega) (fun c12 => ?_) (fun c12 => ?_)
    · refine j_iload_n dX5_factorsToIdentity_28 rfl ?_
      refine j_iret dX5_factorsToIdentity_29 rfl ?_
      exact ⟨_, rfl, rfl, t, rfl, h1, h3, by first | exact Or.inl c5 | (right; omega)⟩
    · refine j_aload_n dX5_factorsToIdentity_15 rfl ?_
      refine j_iload_n dX5_factorsToIdentity_16 rfl ?_
      refine j_iload_n dX5_factorsToIdentity_17 rfl ?_
      refine j_V2p dX5_factorsToIdentity_18 ok_X5_times v_X5_87 c_X5_times rfl (e_X5_times hL (by assumption) (by assumption)) ?_
      refine j_istore_n dX5_factorsToIdentity_21 (by decide) (nol rfl) (by show List.set _ 3 _ = _; simp only [List.set_cons_zero, List.set_cons_succ]; rfl) ?_
      refine j_iinc dX5_factorsToIdentity_22 rfl (by decide) (nol rfl) (by simp only [List.set_cons_zero, List.set_cons_succ]; rfl) ?_
      refine j_goto 4 dX5_factorsToIdentity_25 rfl ?_
      refine ih (t + 1) (by omega) (by omega) (fun i hi => ?_)
      rcases Nat.lt_succ_iff_lt_or_eq.mp hi with q | rfl
      · exact h3 i q
      · exact c5
theorem e_X5_factorsToIdentity {M : Mem} {c : Int} (hL : Lat M) (hv : vc (M 1 0) (M 1 1) c) : J SHC mi_X5_factorsToIdentity 0 (ent [vR 1, vI c] 4) [] M (pz (fun z M1 => M1 = M ∧ ∃ t : Nat, z = t + 1 ∧ t ≤ 299 ∧ (∀ i < t, pw (M 1 0) (M 1 1) c i ≠ 0) ∧ (pw (M 1 0) (M 1 1) c t = 0 ∨ t = 299))) := by
  show J SHC mi_X5_factorsToIdentity 0 [some (vR 1), some (vI c), none, none] [] M _
  refine j_iconst dX5_factorsToIdentity_0 ?_
  refine j_istore_n dX5_factorsToIdentity_1 (by decide) (nol rfl) (by show List.set _ 2 _ = _; simp only [List.set_cons_zero, List.set_cons_succ]; rfl) ?_
  refine j_iload_n dX5_factorsToIdentity_2 rfl ?_
  refine j_istore_n dX5_factorsToIdentity_3 (by decide) (nol rfl) (by show List.set _ 3 _ = _; simp only [List.set_cons_zero, List.set_cons_succ]; rfl) ?_
  exact l_factors hL hv 300 0 (by omega) (by omega) (fun i hi => absurd hi (by omega))
theorem l_turnOrder {M : Mem} {p : Int} (hL : Lat M) (hp : 0 ≤ p ∧ p < 12) (m : Nat) : ∀ t : Int, 1 ≤ t → t ≤ 12 → 12 - t < m → (∀ i, 1 ≤ i → i < t → ¬ (i * p) % tu (M 1 0) = 0) → J SHC mi_X5_turnOrder 2 [some (vR 1), some (vI p), some (vI t)] [] M (pz (fun z M1 => M1 = M ∧ 1 ≤ z ∧ z ≤ 12 ∧ (∀ i, 1 ≤ i → i < z → ¬ (i * p) % tu (M 1 0) = 0) ∧ ((z * p) % tu (M 1 0) = 0 ∨ z = 12))) := by
  induction m with
  | zero => intro t h1 h2; omega
  | succ m ih =>
  intro t h1 h2 h4 h3
  obtain ⟨hk, hn1, hn5, hc1, hc2⟩ := id hL
  have ht := tu_c hk
  have hb0 : 0 ≤ t * p := Int.mul_nonneg (by omega) hp.1
  have hb1 : t * p ≤ 12 * p := Int.mul_le_mul_of_nonneg_right h2 hp.1
  have hm0 := Int.emod_nonneg (t * p) (show tu (M 1 0) ≠ 0 by omega)
  have hm1 := Int.emod_lt_of_pos (t * p) (show 0 < tu (M 1 0) by omega)
  refine j_iload_n dX5_turnOrder_2 rfl ?_
  refine j_bipush dX5_turnOrder_3 (by decide +kernel) ?_
  refine j_icmp_ge 27 dX5_turnOrder_5 rfl (by unfold inR; omega) (by unfold inR; omega) (fun c5 => ?_) (fun c5 => ?_)
  · refine j_iload_n dX5_turnOrder_27 rfl ?_
    refine j_iret dX5_turnOrder_28 rfl ?_
    exact ⟨_, rfl, rfl, h1, h2, h3, by first | exact Or.inl c18 | (right; omega)⟩
  · refine j_iload_n dX5_turnOrder_8 rfl ?_
    refine j_iload_n dX5_turnOrder_9 rfl ?_
    refine j_imul dX5_turnOrder_10 ?_
    refine j_aload_n dX5_turnOrder_11 rfl ?_
    refine j_V0p dX5_turnOrder_12 ok_X5_turns v_X5_18 c_X5_turns rfl (e_X5_turns hL) ?_
    refine j_N2p dX5_turnOrder_15 ok_X6_remainder n_X5_45 (e_remainder (by first | assumption | (unfold inR; omega)) (by first | assumption | (unfold inR; omega)) (by omega)) ?_
    refine j_if_eq 27 dX5_turnOrder_18 rfl (by unfold inR; omega) (fun c18 => ?_) (fun c18 => ?_)
    · refine j_iload_n dX5_turnOrder_27 rfl ?_
      refine j_iret dX5_turnOrder_28 rfl ?_
      exact ⟨_, rfl, rfl, h1, h2, h3, by first | exact Or.inl c18 | (right; omega)⟩
    · refine j_iinc dX5_turnOrder_21 rfl (by decide) (nol rfl) (by simp only [List.set_cons_zero, List.set_cons_succ]; rfl) ?_
      refine j_goto 2 dX5_turnOrder_24 rfl ?_
      refine ih (t + 1) (by omega) (by omega) (by omega) (fun i hi0 hi => ?_)
      by_cases q : i = t
      · rw [q]; exact c18
      · exact h3 i hi0 (by omega)
theorem e_X5_turnOrder {M : Mem} {p : Int} (hL : Lat M) (hp : 0 ≤ p ∧ p < 12) : J SHC mi_X5_turnOrder 0 (ent [vR 1, vI p] 3) [] M (pz (fun z M1 => M1 = M ∧ 1 ≤ z ∧ z ≤ 12 ∧ (∀ i, 1 ≤ i → i < z → ¬ (i * p) % tu (M 1 0) = 0) ∧ ((z * p) % tu (M 1 0) = 0 ∨ z = 12))) := by
  show J SHC mi_X5_turnOrder 0 [some (vR 1), some (vI p), none] [] M _
  refine j_iconst dX5_turnOrder_0 ?_
  refine j_istore_n dX5_turnOrder_1 (by decide) (nol rfl) (by show List.set _ 2 _ = _; simp only [List.set_cons_zero, List.set_cons_succ]; rfl) ?_
  exact l_turnOrder hL hp 13 1 (by omega) (by omega) (by omega) (fun i h0 h1 => by omega)
theorem l_clearMarks {SH : List Shp} {r len : Nat} {refs : List (Option Nat)} (hs : SH[r]? = some (1, len, refs)) (hlen : len ≤ 1000) (m : Nat) : ∀ (i : Int) (M : Mem), 0 ≤ i → i ≤ len → len - i < m → J SH mi_X6_clearMarks 2 [some (vR r), some (vI i)] [] M (pv (fun M1 => fr [r] M M1 ∧ ∀ j : Int, M1 r j = if i ≤ j ∧ j < len then 0 else M r j)) := by
  induction m with
  | zero => intro i M h1 h2; omega
  | succ m ih =>
  intro i M h1 h2 h3
  refine j_iload_n dX6_clearMarks_2 rfl ?_
  refine j_aload_n dX6_clearMarks_3 rfl ?_
  refine j_alen dX6_clearMarks_4 hs (by decide) ?_
  refine j_icmp_ge 18 dX6_clearMarks_5 rfl (by unfold inR; omega) (by unfold inR; omega) (fun c5 => ?_) (fun c5 => ?_)
  · refine j_vret dX6_clearMarks_18 rfl ?_
    exact ⟨rfl, fr.rf, fun j => by rw [if_neg (by omega)]⟩
  · refine j_aload_n dX6_clearMarks_8 rfl ?_
    refine j_iload_n dX6_clearMarks_9 rfl ?_
    refine j_iconst dX6_clearMarks_10 ?_
    refine j_bast dX6_clearMarks_11 hs (by omega) (by omega) (by omega) (Or.inl rfl) ?_
    refine j_iinc dX6_clearMarks_12 rfl (by decide) (nol rfl) (by simp only [List.set_cons_zero, List.set_cons_succ]; rfl) ?_
    refine j_goto 2 dX6_clearMarks_15 rfl ?_
    refine j_mono ?_ (ih (i + 1) _ (by omega) (by omega) (by omega))
    rintro v M1 ⟨rfl, hf, hj⟩
    refine ⟨rfl, (fr.rf.w1 (List.mem_cons_self)).tr hf, fun j => ?_⟩
    rw [hj j]
    by_cases q : j = i
    · subst q
      rw [if_neg (by omega), if_pos (by omega), wr_self]
    · rw [wr_ne _ _ (fun z => q z.2)]
      by_cases q2 : i ≤ j ∧ j < len
      · rw [if_pos q2, if_pos (by omega)]
      · rw [if_neg q2, if_neg (by omega)]
theorem e_clearMarks {SH : List Shp} {M : Mem} {r len : Nat} {refs : List (Option Nat)} (hs : SH[r]? = some (1, len, refs)) (hlen : len ≤ 1000) : J SH mi_X6_clearMarks 0 (ent [vR r] 2) [] M (pv (fun M1 => fr [r] M M1 ∧ ∀ j : Int, M1 r j = if 0 ≤ j ∧ j < len then 0 else M r j)) := by
  show J SH mi_X6_clearMarks 0 [some (vR r), none] [] M _
  refine j_iconst dX6_clearMarks_0 ?_
  refine j_istore_n dX6_clearMarks_1 (by decide) (nol rfl) (by show List.set _ 1 _ = _; simp only [List.set_cons_zero, List.set_cons_succ]; rfl) ?_
  exact l_clearMarks hs hlen (len + 1) 0 M (by omega) (by omega) (by omega)
theorem l_countMarks {SH : List Shp} {M : Mem} {r len : Nat} {refs : List (Option Nat)} (hs : SH[r]? = some (1, len, refs)) (hlen : len ≤ 1000) (hm : ∀ j : Int, 0 ≤ j → j < len → inR (M r j)) (m : Nat) : ∀ (i : Nat), i ≤ len → len - i < m → J SH mi_X6_countMarks 4 [some (vR r), some (vI (cntTo (M r) i)), some (vI i)] [] M (pu (vI (cntTo (M r) len)) M) := by
  induction m with
  | zero => intro i h2 h3; omega
  | succ m ih =>
  intro i h2 h3
  have hcb := cntTo_b (M r) i
  refine j_iload_n dX6_countMarks_4 rfl ?_
  refine j_aload_n dX6_countMarks_5 rfl ?_
  refine j_alen dX6_countMarks_6 hs (by decide) ?_
  refine j_icmp_ge 25 dX6_countMarks_7 rfl (by unfold inR; omega) (by unfold inR; omega) (fun c7 => ?_) (fun c7 => ?_)
  · refine j_iload_n dX6_countMarks_25 rfl ?_
    refine j_iret dX6_countMarks_26 rfl ?_
    exact pu_i (by rw [show i = len by omega])
  · refine j_aload_n dX6_countMarks_10 rfl ?_
    refine j_iload_n dX6_countMarks_11 rfl ?_
    refine j_bald dX6_countMarks_12 hs (by omega) (by omega) (by omega) ?_
    have hmi := hm i (by omega) (by omega)
    have ih1 := ih (i + 1) (by omega) (by omega)
    refine j_if_eq 19 dX6_countMarks_13 rfl hmi (fun c13 => ?_) (fun c13 => ?_)
    · simp only [cntTo, c13, if_true, Int.add_zero] at ih1
      refine j_iinc dX6_countMarks_19 rfl (by decide) (nol rfl) (by simp only [List.set_cons_zero, List.set_cons_succ]; rfl) ?_
      exact j_goto 4 dX6_countMarks_22 rfl ih1
    · simp only [cntTo, c13, if_false] at ih1
      refine j_iinc dX6_countMarks_16 rfl (by decide) (nol rfl) (by simp only [List.set_cons_zero, List.set_cons_succ]; rfl) ?_
      refine j_iinc dX6_countMarks_19 rfl (by decide) (nol rfl) (by simp only [List.set_cons_zero, List.set_cons_succ]; rfl) ?_
      exact j_goto 4 dX6_countMarks_22 rfl ih1
theorem e_countMarks {SH : List Shp} {M : Mem} {r len : Nat} {refs : List (Option Nat)} (hs : SH[r]? = some (1, len, refs)) (hlen : len ≤ 1000) (hm : ∀ j : Int, 0 ≤ j → j < len → inR (M r j)) : J SH mi_X6_countMarks 0 (ent [vR r] 3) [] M (pu (vI (cntTo (M r) len)) M) := by
  show J SH mi_X6_countMarks 0 [some (vR r), none, none] [] M _
  refine j_iconst dX6_countMarks_0 ?_
  refine j_istore_n dX6_countMarks_1 (by decide) (nol rfl) (by show List.set _ 1 _ = _; simp only [List.set_cons_zero, List.set_cons_succ]; rfl) ?_
  refine j_iconst dX6_countMarks_2 ?_
  refine j_istore_n dX6_countMarks_3 (by decide) (nol rfl) (by show List.set _ 2 _ = _; simp only [List.set_cons_zero, List.set_cons_succ]; rfl) ?_
  exact l_countMarks hs hlen hm (len + 1) 0 (by omega) (by omega)
theorem l_power {SH : List Shp} {M : Mem} {b : Int} {e : Nat} (hb : inR b) (he : e ≤ 1000) (m : Nat) : ∀ (i : Nat), i ≤ e → e - i < m → J SH mi_X6_power 5 [some (vI b), some (vI e), some (vL (b ^ i)), none, some (vI i)] [] M (pu (vL (b ^ e)) M) := by
  induction m with
  | zero => intro i h2 h3; omega
  | succ m ih =>
  intro i h2 h3
  refine j_iload dX6_power_5 rfl ?_
  refine j_iload_n dX6_power_7 rfl ?_
  refine j_icmp_ge 22 dX6_power_8 rfl (by first | assumption | (unfold inR; omega)) (by first | assumption | (unfold inR; omega)) (fun c8 => ?_) (fun c8 => ?_)
  · refine j_lload_n dX6_power_22 rfl ?_
    refine j_lret dX6_power_23 rfl ?_
    exact pu_l (by rw [show i = e by omega])
  · refine j_lload_n dX6_power_11 rfl ?_
    refine j_iload_n dX6_power_12 rfl ?_
    refine j_i2l dX6_power_13 (by first | assumption | (unfold inR; omega)) ?_
    refine j_lmul dX6_power_14 ?_
    refine j_lstore_n dX6_power_15 (by decide) (nol rfl) (by show List.set (List.set _ 2 _) 3 _ = _; simp only [List.set_cons_zero, List.set_cons_succ]; rfl) ?_
    refine j_iinc dX6_power_16 rfl (by decide) (nol rfl) (by simp only [List.set_cons_zero, List.set_cons_succ]; rfl) ?_
    refine j_goto 5 dX6_power_19 rfl ?_
    have ih1 := ih (i + 1) (by omega) (by omega)
    rw [Int.pow_succ] at ih1
    exact ih1
theorem e_power {SH : List Shp} {M : Mem} {b : Int} {e : Nat} (hb : inR b) (he : e ≤ 1000) : J SH mi_X6_power 0 (ent [vI b, vI e] 5) [] M (pu (vL (b ^ e)) M) := by
  show J SH mi_X6_power 0 [some (vI b), some (vI e), none, none, none] [] M _
  refine j_lconst (z := 1) dX6_power_0 rfl ?_
  refine j_lstore_n dX6_power_1 (by decide) (nol rfl) (by show List.set (List.set _ 2 _) 3 _ = _; simp only [List.set_cons_zero, List.set_cons_succ]; rfl) ?_
  refine j_iconst dX6_power_2 ?_
  refine j_istore dX6_power_3 (by decide) (nol rfl) (by show List.set _ 4 _ = _; simp only [List.set_cons_zero, List.set_cons_succ]; rfl) ?_
  have h0 := l_power (SH := SH) (M := M) hb he (e + 1) 0 (by omega) (by omega)
  rw [Int.pow_zero] at h0
  exact h0
end
section
/-! classes Generators and History -/
def Gen4 (M : Mem) : Prop := 0 ≤ M 2 1 ∧ M 2 1 ≤ 4

theorem e_X2_has {M : Mem} (hg : Gen4 M) {i : Int} (hi : inR i) : J SHC mi_X2_has 0 (ent [vR 2, vI i] 2) [] M (bz (0 ≤ i ∧ i < M 2 1) M) := by
  unfold Gen4 at hg
  show J SHC mi_X2_has 0 [some (vR 2), some (vI i)] [] M _
  refine j_iload_n dX2_has_0 rfl ?_
  refine j_aload_n dX2_has_1 rfl ?_
  refine j_getI (kz := 1) rfl dX2_has_2 f_X2_15 rfl rfl ?_
  refine j_N2z dX2_has_5 ok_X6_isInside n_X2_19 (e_isInside (by first | assumption | (unfold inR; omega)) (by first | assumption | (unfold inR; omega))) (fun z5 M5 q5 => ?_)
  obtain ⟨rfl, q5⟩ := q5
  refine j_zret dX2_has_8 rfl (by first | exact Or.inl rfl | exact Or.inr rfl | omega) ?_
  exact bz_i (by omega)
theorem e_X2_isFull {M : Mem} (hg : Gen4 M)  : J SHC mi_X2_isFull 0 (ent [vR 2] 1) [] M (bz (4 ≤ M 2 1) M) := by
  unfold Gen4 at hg
  show J SHC mi_X2_isFull 0 [some (vR 2)] [] M _
  refine j_aload_n dX2_isFull_0 rfl ?_
  refine j_getI (kz := 1) rfl dX2_isFull_1 f_X2_15 rfl rfl ?_
  refine j_iconst dX2_isFull_4 ?_
  refine j_icmp_lt 12 dX2_isFull_5 rfl (by unfold inR; omega) (by unfold inR; omega) (fun c5 => ?_) (fun c5 => ?_)
  · refine j_iconst dX2_isFull_12 ?_
    refine j_zret dX2_isFull_13 rfl (by first | exact Or.inl rfl | exact Or.inr rfl | omega) ?_
    exact bz_i (by omega)
  · refine j_iconst dX2_isFull_8 ?_
    refine j_goto 13 dX2_isFull_9 rfl ?_
    refine j_zret dX2_isFull_13 rfl (by first | exact Or.inl rfl | exact Or.inr rfl | omega) ?_
    exact bz_i (by omega)
theorem e_X2_codeAt {M : Mem} {i : Int} (h0 : 0 ≤ i) (h4 : i < 4) : J SHC mi_X2_codeAt 0 (ent [vR 2, vI i] 2) [] M (pu (vI (M 3 i)) M) := by
  show J SHC mi_X2_codeAt 0 [some (vR 2), some (vI i)] [] M _
  refine j_iload_n dX2_codeAt_0 rfl ?_
  refine j_iconst dX2_codeAt_1 ?_
  refine j_N2z dX2_codeAt_2 ok_X6_isInside n_X2_19 (e_isInside (by first | assumption | (unfold inR; omega)) (by first | assumption | (unfold inR; omega))) (fun z2 M2 q2 => ?_)
  obtain ⟨rfl, q2⟩ := q2
  refine j_if_eq 17 dX2_codeAt_5 rfl (by unfold inR; omega) (fun c5 => ?_) (fun c5 => ?_)
  · refine j_iconst dX2_codeAt_17 ?_
    refine j_iret dX2_codeAt_18 rfl ?_
    first | (exfalso; omega) | exact pu_i rfl
  · refine j_aload_n dX2_codeAt_8 rfl ?_
    refine j_getR dX2_codeAt_9 f_X2_9 rfl rfl ?_
    refine j_iload_n dX2_codeAt_12 rfl ?_
    refine j_iald dX2_codeAt_13 (by first | rfl | assumption) (by decide) (by omega) (by omega) ?_
    refine j_goto 18 dX2_codeAt_14 rfl ?_
    refine j_iret dX2_codeAt_18 rfl ?_
    first | (exfalso; omega) | exact pu_i rfl
theorem e_X2_replace {M : Mem} {i c : Int} (h0 : 0 ≤ i) (h4 : i < 4) : J SHC mi_X2_replace 0 (ent [vR 2, vI i, vI c] 3) [] M (pv (fun M1 => M1 = wr M 3 i c)) := by
  show J SHC mi_X2_replace 0 [some (vR 2), some (vI i), some (vI c)] [] M _
  refine j_iload_n dX2_replace_0 rfl ?_
  refine j_iconst dX2_replace_1 ?_
  refine j_N2z dX2_replace_2 ok_X6_isInside n_X2_19 (e_isInside (by first | assumption | (unfold inR; omega)) (by first | assumption | (unfold inR; omega))) (fun z2 M2 q2 => ?_)
  obtain ⟨rfl, q2⟩ := q2
  refine j_if_eq 15 dX2_replace_5 rfl (by unfold inR; omega) (fun c5 => ?_) (fun c5 => ?_)
  · refine j_vret dX2_replace_15 rfl ?_
    first | exact ⟨rfl, rfl⟩ | (exfalso; omega)
  · refine j_aload_n dX2_replace_8 rfl ?_
    refine j_getR dX2_replace_9 f_X2_9 rfl rfl ?_
    refine j_iload_n dX2_replace_12 rfl ?_
    refine j_iload_n dX2_replace_13 rfl ?_
    refine j_iast dX2_replace_14 (by first | rfl | assumption) (by decide) (by omega) (by omega) ?_
    refine j_vret dX2_replace_15 rfl ?_
    first | exact ⟨rfl, rfl⟩ | (exfalso; omega)
theorem e_X2_append {M : Mem} (hg : Gen4 M) {c : Int} (h4 : M 2 1 < 4) : J SHC mi_X2_append 0 (ent [vR 2, vI c] 2) [] M (pv (fun M1 => M1 = wr (wr M 3 (M 2 1) c) 2 1 (M 2 1 + 1))) := by
  unfold Gen4 at hg
  show J SHC mi_X2_append 0 [some (vR 2), some (vI c)] [] M _
  refine j_aload_n dX2_append_0 rfl ?_
  refine j_V0z dX2_append_1 ok_X2_isFull v_X2_23 c_X2_isFull rfl (e_X2_isFull hg) (fun z1 M1 q1 => ?_)
  obtain ⟨rfl, q1⟩ := q1
  refine j_if_ne 26 dX2_append_4 rfl (by unfold inR; omega) (fun c4 => ?_) (fun c4 => ?_)
  · refine j_vret dX2_append_26 rfl ?_
    first | (exfalso; omega) | (refine ⟨rfl, ?_⟩; rw [wr_ne (b := 2) _ _ (by omega)])
  · refine j_aload_n dX2_append_7 rfl ?_
    refine j_aload_n dX2_append_8 rfl ?_
    refine j_getI (kz := 1) rfl dX2_append_9 f_X2_15 rfl rfl ?_
    refine j_iload_n dX2_append_12 rfl ?_
    refine j_V2v dX2_append_13 ok_X2_replace v_X2_27 c_X2_replace rfl (e_X2_replace (by omega) (by omega)) (fun M13 q13 => ?_)
    subst q13
    refine j_aload_n dX2_append_16 rfl ?_
    refine j_dup dX2_append_17 (fun _ h => by cases h) ?_
    refine j_getI (kz := 1) rfl dX2_append_18 f_X2_15 rfl rfl ?_
    refine j_iconst dX2_append_21 ?_
    refine j_iadd dX2_append_22 ?_
    refine j_putI (kz := 1) rfl dX2_append_23 g_X2_15 rfl rfl ?_
    refine j_vret dX2_append_26 rfl ?_
    first | (exfalso; omega) | (refine ⟨rfl, ?_⟩; rw [wr_ne (b := 2) _ _ (by omega)])
theorem e_X2_clear {M : Mem} : J SHC mi_X2_clear 0 (ent [vR 2] 1) [] M (pv (fun M1 => M1 = wr M 2 1 0)) := by
  show J SHC mi_X2_clear 0 [some (vR 2)] [] M _
  refine j_aload_n dX2_clear_0 rfl ?_
  refine j_iconst dX2_clear_1 ?_
  refine j_putI (kz := 1) rfl dX2_clear_2 g_X2_15 rfl rfl ?_
  refine j_vret dX2_clear_5 rfl ?_
  exact ⟨rfl, rfl⟩
theorem l_removeAt {i : Int} (m : Nat) : ∀ (k : Int) (M : Mem), Gen4 M → 0 ≤ k → k ≤ M 2 1 - 1 → M 2 1 - k < m → J SHC mi_X2_removeAt 11 [some (vR 2), some (vI i), some (vI k)] [] M (pv (fun M1 => fr [2, 3] M M1 ∧ M1 2 1 = M 2 1 - 1 ∧ ∀ j : Int, M1 3 j = if k ≤ j ∧ j < M 2 1 - 1 then M 3 (j + 1) else M 3 j)) := by
  induction m with
  | zero => intro k M hg h0 h1 h2; omega
  | succ m ih =>
  intro k M hg h0 h1 h2
  have hg1 := hg.1
  have hg2 := hg.2
  refine j_iload_n dX2_removeAt_11 rfl ?_
  refine j_aload_n dX2_removeAt_12 rfl ?_
  refine j_getI (kz := 1) rfl dX2_removeAt_13 f_X2_15 rfl rfl ?_
  refine j_iconst dX2_removeAt_16 ?_
  refine j_isub dX2_removeAt_17 ?_
  refine j_icmp_ge 39 dX2_removeAt_18 rfl (by unfold inR; omega) (by unfold inR; omega) (fun c18 => ?_) (fun c18 => ?_)
  · refine j_aload_n dX2_removeAt_39 rfl ?_
    refine j_dup dX2_removeAt_40 (fun _ h => by cases h) ?_
    refine j_getI (kz := 1) rfl dX2_removeAt_41 f_X2_15 rfl rfl ?_
    refine j_iconst dX2_removeAt_44 ?_
    refine j_isub dX2_removeAt_45 ?_
    refine j_putI (kz := 1) rfl dX2_removeAt_46 g_X2_15 rfl rfl ?_
    refine j_vret dX2_removeAt_49 rfl ?_
    exact ⟨rfl, fr.rf.w1 (by decide), by rw [wr_self], fun j => by rw [if_neg (by omega), wr_ne _ _ (by omega)]⟩
  · refine j_aload_n dX2_removeAt_21 rfl ?_
    refine j_iload_n dX2_removeAt_22 rfl ?_
    refine j_aload_n dX2_removeAt_23 rfl ?_
    refine j_iload_n dX2_removeAt_24 rfl ?_
    refine j_iconst dX2_removeAt_25 ?_
    refine j_iadd dX2_removeAt_26 ?_
    refine j_V1p dX2_removeAt_27 ok_X2_codeAt v_X2_35 c_X2_codeAt rfl (e_X2_codeAt (by omega) (by omega)) ?_
    refine j_V2v dX2_removeAt_30 ok_X2_replace v_X2_27 c_X2_replace rfl (e_X2_replace (by omega) (by omega)) (fun M30 q30 => ?_)
    subst q30
    refine j_iinc dX2_removeAt_33 rfl (by decide) (nol rfl) (by simp only [List.set_cons_zero, List.set_cons_succ]; rfl) ?_
    refine j_goto 11 dX2_removeAt_36 rfl ?_
    have e2 : wr M 3 k (M 3 (k + 1)) 2 1 = M 2 1 := wr_ne _ _ (by omega)
    refine j_mono ?_ (ih (k + 1) (wr M 3 k (M 3 (k + 1))) (by unfold Gen4; rw [e2]; exact hg) (by omega) (by rw [e2]; omega) (by rw [e2]; omega))
    rintro v M1 ⟨rfl, hf, hs, hj⟩
    rw [e2] at hs hj
    refine ⟨rfl, (fr.rf.w1 (by decide)).tr hf, hs, fun j => ?_⟩
    rw [hj j]
    by_cases q : j = k
    · subst q
      rw [if_neg (by omega), if_pos (by omega), wr_self]
    · rw [wr_ne _ _ (fun z => q z.2)]
      by_cases q2 : k ≤ j ∧ j < M 2 1 - 1
      · rw [if_pos q2, if_pos (by omega), wr_ne _ _ (fun z => by omega)]
      · rw [if_neg q2, if_neg (by omega)]
theorem e_X2_removeAt {M : Mem} (hg : Gen4 M) {i : Int} (h0 : 0 ≤ i) (h1 : i < M 2 1) : J SHC mi_X2_removeAt 0 (ent [vR 2, vI i] 3) [] M (pv (fun M1 => fr [2, 3] M M1 ∧ M1 2 1 = M 2 1 - 1 ∧ ∀ j : Int, M1 3 j = if i ≤ j ∧ j < M 2 1 - 1 then M 3 (j + 1) else M 3 j)) := by
  have hg1 := hg.1
  have hg2 := hg.2
  show J SHC mi_X2_removeAt 0 [some (vR 2), some (vI i), none] [] M _
  refine j_aload_n dX2_removeAt_0 rfl ?_
  refine j_iload_n dX2_removeAt_1 rfl ?_
  refine j_V1z dX2_removeAt_2 ok_X2_has v_X2_31 c_X2_has rfl (e_X2_has hg (by unfold inR; omega)) (fun z2 M2 q2 => ?_)
  obtain ⟨rfl, q2⟩ := q2
  refine j_if_ne 9 dX2_removeAt_5 rfl (by unfold inR; omega) (fun c5 => ?_) (fun c5 => ?_)
  · refine j_iload_n dX2_removeAt_9 rfl ?_
    refine j_istore_n dX2_removeAt_10 (by decide) (nol rfl) (by show List.set _ 2 _ = _; simp only [List.set_cons_zero, List.set_cons_succ]; rfl) ?_
    exact l_removeAt (i := i) 5 i M hg h0 (by omega) (by omega)
  · refine j_vret dX2_removeAt_8 rfl ?_
    (exfalso; omega)
theorem e_X5_choose {M : Mem} {k n : Int} : J SHC mi_X5_choose 0 (ent [vR 1, vI k, vI n] 3) [] M (pv (fun M1 => M1 = wr (wr M 1 0 k) 1 1 n)) := by
  show J SHC mi_X5_choose 0 [some (vR 1), some (vI k), some (vI n)] [] M _
  refine j_aload_n dX5_choose_0 rfl ?_
  refine j_iload_n dX5_choose_1 rfl ?_
  refine j_putI (kz := 0) rfl dX5_choose_2 g_X5_9 rfl rfl ?_
  refine j_aload_n dX5_choose_5 rfl ?_
  refine j_iload_n dX5_choose_6 rfl ?_
  refine j_putI (kz := 1) rfl dX5_choose_7 g_X5_15 rfl rfl ?_
  refine j_vret dX5_choose_10 rfl ?_
  exact ⟨rfl, rfl⟩
/-- what a row of the history holds: the present -/
def rowOf (M : Mem) (j : Int) : Int := if j = 0 then M 1 0 else if j = 1 then M 1 1 else if j = 2 then M 2 1 else M 3 (j - 3)
def Dep (M : Mem) : Prop := 0 ≤ M 4 1 ∧ M 4 1 ≤ 4
theorem e_X4_isEmpty {M : Mem} (hd : Dep M) : J SHC mi_X4_isEmpty 0 (ent [vR 4] 1) [] M (bz (M 4 1 ≤ 0) M) := by
  unfold Dep at hd
  show J SHC mi_X4_isEmpty 0 [some (vR 4)] [] M _
  refine j_aload_n dX4_isEmpty_0 rfl ?_
  refine j_getI (kz := 1) rfl dX4_isEmpty_1 f_X4_16 rfl rfl ?_
  refine j_if_gt 11 dX4_isEmpty_4 rfl (by unfold inR; omega) (fun c4 => ?_) (fun c4 => ?_)
  · refine j_iconst dX4_isEmpty_11 ?_
    refine j_zret dX4_isEmpty_12 rfl (by first | exact Or.inl rfl | exact Or.inr rfl | omega) ?_
    exact bz_i (by omega)
  · refine j_iconst dX4_isEmpty_7 ?_
    refine j_goto 12 dX4_isEmpty_8 rfl ?_
    refine j_zret dX4_isEmpty_12 rfl (by first | exact Or.inl rfl | exact Or.inr rfl | omega) ?_
    exact bz_i (by omega)
theorem e_X4_write {M : Mem} {r : Nat} (hr : 6 ≤ r ∧ r ≤ 9) (hs : SHC[r]? = some (0, 7, [])) : J SHC mi_X4_write 0 (ent [vR r, vR 1, vR 2] 4) [] M (pv (fun M1 => fr [r] M M1 ∧ ∀ j : Int, 0 ≤ j → j < 7 → M1 r j = rowOf M j)) := by
  show J SHC mi_X4_write 0 [some (vR r), some (vR 1), some (vR 2), none] [] M _
  refine j_aload_n dX4_write_0 rfl ?_
  refine j_alen dX4_write_1 (by first | rfl | assumption) (by decide) ?_
  refine j_bipush dX4_write_2 (by decide +kernel) ?_
  refine j_icmp_ge 8 dX4_write_4 rfl (by unfold inR; omega) (by unfold inR; omega) (fun c4 => ?_) (fun c4 => ?_)
  · refine j_aload_n dX4_write_8 rfl ?_
    refine j_iconst dX4_write_9 ?_
    refine j_aload_n dX4_write_10 rfl ?_
    refine j_getI (kz := 0) rfl dX4_write_11 f_X4_34 rfl rfl ?_
    refine j_iast dX4_write_14 (by first | rfl | assumption) (by decide) (by omega) (by omega) ?_
    refine j_aload_n dX4_write_15 rfl ?_
    refine j_iconst dX4_write_16 ?_
    refine j_aload_n dX4_write_17 rfl ?_
    refine j_getI (kz := 1) rfl dX4_write_18 f_X4_39 rfl rfl ?_
    refine j_iast dX4_write_21 (by first | rfl | assumption) (by decide) (by omega) (by omega) ?_
    refine j_aload_n dX4_write_22 rfl ?_
    refine j_iconst dX4_write_23 ?_
    refine j_aload_n dX4_write_24 rfl ?_
    refine j_getI (kz := 1) rfl dX4_write_25 f_X4_42 rfl rfl ?_
    refine j_iast dX4_write_28 (by first | rfl | assumption) (by decide) (by omega) (by omega) ?_
    refine j_iconst dX4_write_29 ?_
    refine j_istore_n dX4_write_30 (by decide) (nol rfl) (by show List.set _ 3 _ = _; simp only [List.set_cons_zero, List.set_cons_succ]; rfl) ?_
    refine j_iload_n dX4_write_31 rfl ?_
    refine j_iconst dX4_write_32 ?_
    refine j_icmp_ge 52 dX4_write_33 rfl (by unfold inR; omega) (by unfold inR; omega) (fun c33 => ?_) (fun c33 => ?_)
    · exfalso; first | omega | (simp at c33; done)
    refine j_aload_n dX4_write_36 rfl ?_
    refine j_iconst dX4_write_37 ?_
    refine j_iload_n dX4_write_38 rfl ?_
    refine j_iadd dX4_write_39 ?_
    refine j_aload_n dX4_write_40 rfl ?_
    refine j_iload_n dX4_write_41 rfl ?_
    refine j_V1p dX4_write_42 ok_X2_codeAt v_X4_47 c_X2_codeAt rfl (e_X2_codeAt (by omega) (by omega)) ?_
    refine j_iast dX4_write_45 (by first | rfl | assumption) (by decide) (by omega) (by omega) ?_
    refine j_iinc dX4_write_46 rfl (by decide) (nol rfl) (by simp only [List.set_cons_zero, List.set_cons_succ]; rfl) ?_
    refine j_goto 31 dX4_write_49 rfl ?_
    refine j_iload_n dX4_write_31 rfl ?_
    refine j_iconst dX4_write_32 ?_
    refine j_icmp_ge 52 dX4_write_33 rfl (by unfold inR; omega) (by unfold inR; omega) (fun c33 => ?_) (fun c33 => ?_)
    · exfalso; first | omega | (simp at c33; done)
    refine j_aload_n dX4_write_36 rfl ?_
    refine j_iconst dX4_write_37 ?_
    refine j_iload_n dX4_write_38 rfl ?_
    refine j_iadd dX4_write_39 ?_
    refine j_aload_n dX4_write_40 rfl ?_
    refine j_iload_n dX4_write_41 rfl ?_
    refine j_V1p dX4_write_42 ok_X2_codeAt v_X4_47 c_X2_codeAt rfl (e_X2_codeAt (by omega) (by omega)) ?_
    refine j_iast dX4_write_45 (by first | rfl | assumption) (by decide) (by omega) (by omega) ?_
    refine j_iinc dX4_write_46 rfl (by decide) (nol rfl) (by simp only [List.set_cons_zero, List.set_cons_succ]; rfl) ?_
    refine j_goto 31 dX4_write_49 rfl ?_
    refine j_iload_n dX4_write_31 rfl ?_
    refine j_iconst dX4_write_32 ?_
    refine j_icmp_ge 52 dX4_write_33 rfl (by unfold inR; omega) (by unfold inR; omega) (fun c33 => ?_) (fun c33 => ?_)
    · exfalso; first | omega | (simp at c33; done)
    refine j_aload_n dX4_write_36 rfl ?_
    refine j_iconst dX4_write_37 ?_
    refine j_iload_n dX4_write_38 rfl ?_
    refine j_iadd dX4_write_39 ?_
    refine j_aload_n dX4_write_40 rfl ?_
    refine j_iload_n dX4_write_41 rfl ?_
    refine j_V1p dX4_write_42 ok_X2_codeAt v_X4_47 c_X2_codeAt rfl (e_X2_codeAt (by omega) (by omega)) ?_
    refine j_iast dX4_write_45 (by first | rfl | assumption) (by decide) (by omega) (by omega) ?_
    refine j_iinc dX4_write_46 rfl (by decide) (nol rfl) (by simp only [List.set_cons_zero, List.set_cons_succ]; rfl) ?_
    refine j_goto 31 dX4_write_49 rfl ?_
    refine j_iload_n dX4_write_31 rfl ?_
    refine j_iconst dX4_write_32 ?_
    refine j_icmp_ge 52 dX4_write_33 rfl (by unfold inR; omega) (by unfold inR; omega) (fun c33 => ?_) (fun c33 => ?_)
    · exfalso; first | omega | (simp at c33; done)
    refine j_aload_n dX4_write_36 rfl ?_
    refine j_iconst dX4_write_37 ?_
    refine j_iload_n dX4_write_38 rfl ?_
    refine j_iadd dX4_write_39 ?_
    refine j_aload_n dX4_write_40 rfl ?_
    refine j_iload_n dX4_write_41 rfl ?_
    refine j_V1p dX4_write_42 ok_X2_codeAt v_X4_47 c_X2_codeAt rfl (e_X2_codeAt (by omega) (by omega)) ?_
    refine j_iast dX4_write_45 (by first | rfl | assumption) (by decide) (by omega) (by omega) ?_
    refine j_iinc dX4_write_46 rfl (by decide) (nol rfl) (by simp only [List.set_cons_zero, List.set_cons_succ]; rfl) ?_
    refine j_goto 31 dX4_write_49 rfl ?_
    refine j_iload_n dX4_write_31 rfl ?_
    refine j_iconst dX4_write_32 ?_
    refine j_icmp_ge 52 dX4_write_33 rfl (by unfold inR; omega) (by unfold inR; omega) (fun c33 => ?_) (fun c33 => ?_)
    rotate_left
    · exfalso; first | omega | (simp at c33; done)
    refine j_vret dX4_write_52 rfl ?_
    refine ⟨rfl, fun b hb => ?_, fun j h0 h7 => ?_⟩
    · have hne : b ≠ r := fun e => hb (e ▸ List.mem_cons_self)
      funext j
      simp [wr, hne]
    · have hr1 : ¬ (1 : Nat) = r := by omega
      have hr2 : ¬ (2 : Nat) = r := by omega
      have hr3 : ¬ (3 : Nat) = r := by omega
      rcases (show j = 0 ∨ j = 1 ∨ j = 2 ∨ j = 3 ∨ j = 4 ∨ j = 5 ∨ j = 6 by omega) with rfl | rfl | rfl | rfl | rfl | rfl | rfl <;> simp [wr, rowOf, hr1, hr2, hr3]
  · refine j_vret dX4_write_7 rfl ?_
    exfalso; omega
theorem e_X4_read {M : Mem} {r : Nat} (hr : 6 ≤ r ∧ r ≤ 9) (hs : SHC[r]? = some (0, 7, [])) : J SHC mi_X4_read 0 (ent [vR r, vR 1, vR 2] 4) [] M (pv (fun M1 => fr [1, 2, 3] M M1 ∧ M1 1 0 = M r 0 ∧ M1 1 1 = M r 1 ∧ M1 2 1 = M r 2 ∧ ∀ j : Int, 0 ≤ j → j < 4 → M1 3 j = M r (3 + j))) := by
  show J SHC mi_X4_read 0 [some (vR r), some (vR 1), some (vR 2), none] [] M _
  refine j_aload_n dX4_read_0 rfl ?_
  refine j_alen dX4_read_1 (by first | rfl | assumption) (by decide) ?_
  refine j_bipush dX4_read_2 (by decide +kernel) ?_
  refine j_icmp_ge 8 dX4_read_4 rfl (by unfold inR; omega) (by unfold inR; omega) (fun c4 => ?_) (fun c4 => ?_)
  · refine j_aload_n dX4_read_8 rfl ?_
    refine j_aload_n dX4_read_9 rfl ?_
    refine j_iconst dX4_read_10 ?_
    refine j_iald dX4_read_11 (by first | rfl | assumption) (by decide) (by omega) (by omega) ?_
    refine j_aload_n dX4_read_12 rfl ?_
    refine j_iconst dX4_read_13 ?_
    refine j_iald dX4_read_14 (by first | rfl | assumption) (by decide) (by omega) (by omega) ?_
    refine j_V2v dX4_read_15 ok_X5_choose v_X4_51 c_X5_choose rfl (e_X5_choose) (fun M15 q15 => ?_)
    subst q15
    refine j_aload_n dX4_read_18 rfl ?_
    refine j_aload_n dX4_read_19 rfl ?_
    refine j_iconst dX4_read_20 ?_
    refine j_iald dX4_read_21 (by first | rfl | assumption) (by decide) (by omega) (by omega) ?_
    refine j_putI (kz := 1) rfl dX4_read_22 g_X4_42 rfl rfl ?_
    refine j_iconst dX4_read_25 ?_
    refine j_istore_n dX4_read_26 (by decide) (nol rfl) (by show List.set _ 3 _ = _; simp only [List.set_cons_zero, List.set_cons_succ]; rfl) ?_
    refine j_iload_n dX4_read_27 rfl ?_
    refine j_iconst dX4_read_28 ?_
    refine j_icmp_ge 48 dX4_read_29 rfl (by unfold inR; omega) (by unfold inR; omega) (fun c29 => ?_) (fun c29 => ?_)
    · exfalso; first | omega | (simp at c29; done)
    refine j_aload_n dX4_read_32 rfl ?_
    refine j_iload_n dX4_read_33 rfl ?_
    refine j_aload_n dX4_read_34 rfl ?_
    refine j_iconst dX4_read_35 ?_
    refine j_iload_n dX4_read_36 rfl ?_
    refine j_iadd dX4_read_37 ?_
    refine j_iald dX4_read_38 (by first | rfl | assumption) (by decide) (by omega) (by omega) ?_
    refine j_V2v dX4_read_39 ok_X2_replace v_X4_55 c_X2_replace rfl (e_X2_replace (by omega) (by omega)) (fun M39 q39 => ?_)
    subst q39
    refine j_iinc dX4_read_42 rfl (by decide) (nol rfl) (by simp only [List.set_cons_zero, List.set_cons_succ]; rfl) ?_
    refine j_goto 27 dX4_read_45 rfl ?_
    refine j_iload_n dX4_read_27 rfl ?_
    refine j_iconst dX4_read_28 ?_
    refine j_icmp_ge 48 dX4_read_29 rfl (by unfold inR; omega) (by unfold inR; omega) (fun c29 => ?_) (fun c29 => ?_)
    · exfalso; first | omega | (simp at c29; done)
    refine j_aload_n dX4_read_32 rfl ?_
    refine j_iload_n dX4_read_33 rfl ?_
    refine j_aload_n dX4_read_34 rfl ?_
    refine j_iconst dX4_read_35 ?_
    refine j_iload_n dX4_read_36 rfl ?_
    refine j_iadd dX4_read_37 ?_
    refine j_iald dX4_read_38 (by first | rfl | assumption) (by decide) (by omega) (by omega) ?_
    refine j_V2v dX4_read_39 ok_X2_replace v_X4_55 c_X2_replace rfl (e_X2_replace (by omega) (by omega)) (fun M39 q39 => ?_)
    subst q39
    refine j_iinc dX4_read_42 rfl (by decide) (nol rfl) (by simp only [List.set_cons_zero, List.set_cons_succ]; rfl) ?_
    refine j_goto 27 dX4_read_45 rfl ?_
    refine j_iload_n dX4_read_27 rfl ?_
    refine j_iconst dX4_read_28 ?_
    refine j_icmp_ge 48 dX4_read_29 rfl (by unfold inR; omega) (by unfold inR; omega) (fun c29 => ?_) (fun c29 => ?_)
    · exfalso; first | omega | (simp at c29; done)
    refine j_aload_n dX4_read_32 rfl ?_
    refine j_iload_n dX4_read_33 rfl ?_
    refine j_aload_n dX4_read_34 rfl ?_
    refine j_iconst dX4_read_35 ?_
    refine j_iload_n dX4_read_36 rfl ?_
    refine j_iadd dX4_read_37 ?_
    refine j_iald dX4_read_38 (by first | rfl | assumption) (by decide) (by omega) (by omega) ?_
    refine j_V2v dX4_read_39 ok_X2_replace v_X4_55 c_X2_replace rfl (e_X2_replace (by omega) (by omega)) (fun M39 q39 => ?_)
    subst q39
    refine j_iinc dX4_read_42 rfl (by decide) (nol rfl) (by simp only [List.set_cons_zero, List.set_cons_succ]; rfl) ?_
    refine j_goto 27 dX4_read_45 rfl ?_
    refine j_iload_n dX4_read_27 rfl ?_
    refine j_iconst dX4_read_28 ?_
    refine j_icmp_ge 48 dX4_read_29 rfl (by unfold inR; omega) (by unfold inR; omega) (fun c29 => ?_) (fun c29 => ?_)
    · exfalso; first | omega | (simp at c29; done)
    refine j_aload_n dX4_read_32 rfl ?_
    refine j_iload_n dX4_read_33 rfl ?_
    refine j_aload_n dX4_read_34 rfl ?_
    refine j_iconst dX4_read_35 ?_
    refine j_iload_n dX4_read_36 rfl ?_
    refine j_iadd dX4_read_37 ?_
    refine j_iald dX4_read_38 (by first | rfl | assumption) (by decide) (by omega) (by omega) ?_
    refine j_V2v dX4_read_39 ok_X2_replace v_X4_55 c_X2_replace rfl (e_X2_replace (by omega) (by omega)) (fun M39 q39 => ?_)
    subst q39
    refine j_iinc dX4_read_42 rfl (by decide) (nol rfl) (by simp only [List.set_cons_zero, List.set_cons_succ]; rfl) ?_
    refine j_goto 27 dX4_read_45 rfl ?_
    refine j_iload_n dX4_read_27 rfl ?_
    refine j_iconst dX4_read_28 ?_
    refine j_icmp_ge 48 dX4_read_29 rfl (by unfold inR; omega) (by unfold inR; omega) (fun c29 => ?_) (fun c29 => ?_)
    rotate_left
    · exfalso; first | omega | (simp at c29; done)
    refine j_vret dX4_read_48 rfl ?_
    have hr1 : ¬ r = 1 := by omega
    have hr2 : ¬ r = 2 := by omega
    have hr3 : ¬ r = 3 := by omega
    refine ⟨rfl, fun b hb => ?_, by simp [wr], by simp [wr], by simp [wr, hr1], fun j h0 h7 => ?_⟩
    · simp only [List.mem_cons, List.not_mem_nil, or_false, not_or] at hb
      funext j
      simp [wr, hb.1, hb.2.1, hb.2.2]
    · rcases (show j = 0 ∨ j = 1 ∨ j = 2 ∨ j = 3 by omega) with rfl | rfl | rfl | rfl <;> simp [wr, hr1, hr2, hr3]
  · refine j_vret dX4_read_7 rfl ?_
    exfalso; omega
theorem l_copy {i : Int} {s d : Nat} {Q : Option PV → Mem → Prop} (hi : 1 ≤ i ∧ i ≤ 3) (hqd : [some 6, some 7, some 8, some 9][(i - 1).toNat]? = some (some d)) (hqs : [some 6, some 7, some 8, some 9][i.toNat]? = some (some s)) (hsd : d ≠ s) (hd : SHC[d]? = some (0, 7, [])) (hs : SHC[s]? = some (0, 7, [])) (m : Nat) : ∀ (p : Int) (M : Mem), 0 ≤ p → p ≤ 7 → 7 - p < m → (∀ M1, fr [d] M M1 → (∀ j : Int, M1 d j = if p ≤ j ∧ j < 7 then M s j else M d j) → J SHC mi_X4_forgetOldest 39 [some (vR 4), some (vI i), some (vI 7)] [] M1 Q) → J SHC mi_X4_forgetOldest 9 [some (vR 4), some (vI i), some (vI p)] [] M Q := by
  induction m with
  | zero => intro p M h0 h1 h2; omega
  | succ m ih =>
  intro p M h0 h1 h2 K
  refine j_iload_n dX4_forgetOldest_9 rfl ?_
  refine j_bipush dX4_forgetOldest_10 (by decide +kernel) ?_
  refine j_icmp_ge 39 dX4_forgetOldest_12 rfl (by unfold inR; omega) (by unfold inR; omega) (fun c12 => ?_) (fun c12 => ?_)
  · have hp : p = 7 := by omega
    subst hp
    exact K M fr.rf (fun j => by rw [if_neg (by omega)])
  · refine j_aload_n dX4_forgetOldest_15 rfl ?_
    refine j_getR dX4_forgetOldest_16 f_X4_13 rfl rfl ?_
    refine j_iload_n dX4_forgetOldest_19 rfl ?_
    refine j_iconst dX4_forgetOldest_20 ?_
    refine j_isub dX4_forgetOldest_21 ?_
    refine j_aald (q := d) dX4_forgetOldest_22 rfl (by decide) (by omega) (by omega) (hqd) ?_
    refine j_iload_n dX4_forgetOldest_23 rfl ?_
    refine j_aload_n dX4_forgetOldest_24 rfl ?_
    refine j_getR dX4_forgetOldest_25 f_X4_13 rfl rfl ?_
    refine j_iload_n dX4_forgetOldest_28 rfl ?_
    refine j_aald (q := s) dX4_forgetOldest_29 rfl (by decide) (by omega) (by omega) (hqs) ?_
    refine j_iload_n dX4_forgetOldest_30 rfl ?_
    refine j_iald dX4_forgetOldest_31 (by first | rfl | assumption) (by decide) (by omega) (by omega) ?_
    refine j_iast dX4_forgetOldest_32 (by first | rfl | assumption) (by decide) (by omega) (by omega) ?_
    refine j_iinc dX4_forgetOldest_33 rfl (by decide) (nol rfl) (by simp only [List.set_cons_zero, List.set_cons_succ]; rfl) ?_
    refine j_goto 9 dX4_forgetOldest_36 rfl ?_
    refine ih (p + 1) _ (by omega) (by omega) (by omega) (fun M1 hf hj => K M1 ((fr.rf.w1 List.mem_cons_self).tr hf) (fun j => ?_))
    rw [hj j, wr_ne (b := s) _ _ (fun z => hsd z.1.symm)]
    by_cases q : j = p
    · subst q
      rw [if_neg (by omega), if_pos (by omega), wr_self]
    · rw [wr_ne _ _ (fun z => q z.2)]
      by_cases q2 : p ≤ j ∧ j < 7
      · rw [if_pos q2, if_pos (by omega)]
      · rw [if_neg q2, if_neg (by omega)]
theorem e_X4_forgetOldest {M : Mem} : J SHC mi_X4_forgetOldest 0 (ent [vR 4] 3) [] M (pv (fun M1 => fr [4, 6, 7, 8] M M1 ∧ M1 4 1 = 3 ∧ ∀ j : Int, 0 ≤ j → j < 7 → M1 6 j = M 7 j ∧ M1 7 j = M 8 j ∧ M1 8 j = M 9 j)) := by
  show J SHC mi_X4_forgetOldest 0 [some (vR 4), none, none] [] M _
  refine j_iconst dX4_forgetOldest_0 ?_
  refine j_istore_n dX4_forgetOldest_1 (by decide) (nol rfl) (by show List.set _ 1 _ = _; simp only [List.set_cons_zero, List.set_cons_succ]; rfl) ?_
  refine j_iload_n dX4_forgetOldest_2 rfl ?_
  refine j_iconst dX4_forgetOldest_3 ?_
  refine j_icmp_ge 45 dX4_forgetOldest_4 rfl (by unfold inR; omega) (by unfold inR; omega) (fun c4 => ?_) (fun c4 => ?_)
  · exfalso; first | omega | (simp at c4; done)
  refine j_iconst dX4_forgetOldest_7 ?_
  refine j_istore_n dX4_forgetOldest_8 (by decide) (nol rfl) (by show List.set _ 2 _ = _; simp only [List.set_cons_zero, List.set_cons_succ]; rfl) ?_
  refine l_copy (i := 1) (s := 7) (d := 6) (by omega) rfl rfl (by decide) rfl rfl 8 0 _ (by omega) (by omega) (by omega) (fun A1 hf1 hj1 => ?_)
  refine j_iinc dX4_forgetOldest_39 rfl (by decide) (nol rfl) (by simp only [List.set_cons_zero, List.set_cons_succ]; rfl) ?_
  refine j_goto 2 dX4_forgetOldest_42 rfl ?_
  refine j_iload_n dX4_forgetOldest_2 rfl ?_
  refine j_iconst dX4_forgetOldest_3 ?_
  refine j_icmp_ge 45 dX4_forgetOldest_4 rfl (by unfold inR; omega) (by unfold inR; omega) (fun c4 => ?_) (fun c4 => ?_)
  · exfalso; first | omega | (simp at c4; done)
  refine j_iconst dX4_forgetOldest_7 ?_
  refine j_istore_n dX4_forgetOldest_8 (by decide) (nol rfl) (by show List.set _ 2 _ = _; simp only [List.set_cons_zero, List.set_cons_succ]; rfl) ?_
  refine l_copy (i := (1 + 1)) (s := 8) (d := 7) (by omega) rfl rfl (by decide) rfl rfl 8 0 _ (by omega) (by omega) (by omega) (fun A2 hf2 hj2 => ?_)
  refine j_iinc dX4_forgetOldest_39 rfl (by decide) (nol rfl) (by simp only [List.set_cons_zero, List.set_cons_succ]; rfl) ?_
  refine j_goto 2 dX4_forgetOldest_42 rfl ?_
  refine j_iload_n dX4_forgetOldest_2 rfl ?_
  refine j_iconst dX4_forgetOldest_3 ?_
  refine j_icmp_ge 45 dX4_forgetOldest_4 rfl (by unfold inR; omega) (by unfold inR; omega) (fun c4 => ?_) (fun c4 => ?_)
  · exfalso; first | omega | (simp at c4; done)
  refine j_iconst dX4_forgetOldest_7 ?_
  refine j_istore_n dX4_forgetOldest_8 (by decide) (nol rfl) (by show List.set _ 2 _ = _; simp only [List.set_cons_zero, List.set_cons_succ]; rfl) ?_
  refine l_copy (i := (1 + 1 + 1)) (s := 9) (d := 8) (by omega) rfl rfl (by decide) rfl rfl 8 0 _ (by omega) (by omega) (by omega) (fun A3 hf3 hj3 => ?_)
  refine j_iinc dX4_forgetOldest_39 rfl (by decide) (nol rfl) (by simp only [List.set_cons_zero, List.set_cons_succ]; rfl) ?_
  refine j_goto 2 dX4_forgetOldest_42 rfl ?_
  refine j_iload_n dX4_forgetOldest_2 rfl ?_
  refine j_iconst dX4_forgetOldest_3 ?_
  refine j_icmp_ge 45 dX4_forgetOldest_4 rfl (by unfold inR; omega) (by unfold inR; omega) (fun c4 => ?_) (fun c4 => ?_)
  rotate_left
  · exfalso; first | omega | (simp at c4; done)
  refine j_aload_n dX4_forgetOldest_45 rfl ?_
  refine j_iconst dX4_forgetOldest_46 ?_
  refine j_putI (kz := 1) rfl dX4_forgetOldest_47 g_X4_16 rfl rfl ?_
  refine j_vret dX4_forgetOldest_50 rfl ?_
  refine ⟨rfl, (((hf1.up (by decide)).tr (hf2.up (by decide))).tr (hf3.up (by decide))).w1 (by decide), by rw [wr_self], fun j h0 h7 => ?_⟩
  have h := And.intro h0 h7
  rw [wr_ne (b := 6) _ _ (by omega), wr_ne (b := 7) _ _ (by omega), wr_ne (b := 8) _ _ (by omega)]
  refine ⟨?_, ?_, ?_⟩
  · rw [hf3 6 (by decide), hf2 6 (by decide), hj1 j, if_pos h]
  · rw [hf3 7 (by decide), hj2 j, if_pos h, hf1 8 (by decide)]
  · rw [hj3 j, if_pos h, hf2 9 (by decide), hf1 9 (by decide)]
end
section
/-! history: save, restore; lists that arrays hold; the closure of a list under generators -/
theorem ref4 {d : Int} (h0 : 0 ≤ d) (h4 : d < 4) : [some 6, some 7, some 8, some 9][d.toNat]? = some (some (6 + d.toNat)) ∧ SHC[6 + d.toNat]? = some (0, 7, []) ∧ 6 ≤ 6 + d.toNat ∧ 6 + d.toNat ≤ 9 := by
  rcases (show d = 0 ∨ d = 1 ∨ d = 2 ∨ d = 3 by omega) with rfl | rfl | rfl | rfl <;> refine ⟨rfl, rfl, ?_, ?_⟩ <;> decide
theorem e_X4_save1 {M : Mem} (hd : Dep M) (h4 : M 4 1 < 4) : J SHC mi_X4_save 0 (ent [vR 4, vR 1, vR 2] 3) [] M (pv (fun M1 => fr [4, 6, 7, 8, 9] M M1 ∧ M1 4 1 = M 4 1 + 1 ∧ (∀ j : Int, 0 ≤ j → j < 7 → M1 (6 + (M 4 1).toNat) j = rowOf M j) ∧ ∀ b : Nat, b ≠ 4 → b ≠ 6 + (M 4 1).toNat → M1 b = M b)) := by
  have hd0 := hd.1
  obtain ⟨r1, r2, r3⟩ := ref4 hd0 h4
  show J SHC mi_X4_save 0 [some (vR 4), some (vR 1), some (vR 2)] [] M _
  refine j_aload_n dX4_save_0 rfl ?_
  refine j_getI (kz := 1) rfl dX4_save_1 f_X4_16 rfl rfl ?_
  refine j_iconst dX4_save_4 ?_
  refine j_icmp_lt 12 dX4_save_5 rfl (by unfold inR; omega) (by unfold inR; omega) (fun c5 => ?_) (fun c5 => ?_)
  · refine j_aload_n dX4_save_12 rfl ?_
    refine j_getI (kz := 1) rfl dX4_save_13 f_X4_16 rfl rfl ?_
    refine j_iconst dX4_save_16 ?_
    refine j_N2z dX4_save_17 ok_X6_isInside n_X4_23 (e_isInside (by first | assumption | (unfold inR; omega)) (by first | assumption | (unfold inR; omega))) (fun z17 M17 q17 => ?_)
    obtain ⟨rfl, q17⟩ := q17
    refine j_if_eq 47 dX4_save_20 rfl (by unfold inR; omega) (fun c20 => ?_) (fun c20 => ?_)
    · refine j_vret dX4_save_47 rfl ?_
      first
      | (exfalso; omega)
      | (have hne : (4 : Nat) ∉ [6 + (M 4 1).toNat] := by simp; omega
         refine ⟨rfl, ((q34.1.up ?_).w1 (by decide)), by rw [wr_self, q34.1 4 hne], fun j h0 h7 => ?_, fun b hb4 hbr => ?_⟩
         · intro b hb
           simp only [List.mem_cons, List.not_mem_nil, or_false] at hb ⊢
           omega
         · rw [wr_ne _ _ (by omega)]
           exact q34.2 j h0 h7
         · funext j
           rw [wr_ne _ _ (fun z => hb4 z.1), q34.1 b (by simpa using hbr)])
    · refine j_aload_n dX4_save_23 rfl ?_
      refine j_getR dX4_save_24 f_X4_13 rfl rfl ?_
      refine j_aload_n dX4_save_27 rfl ?_
      refine j_getI (kz := 1) rfl dX4_save_28 f_X4_16 rfl rfl ?_
      refine j_aald (q := 6 + (M 4 1).toNat) dX4_save_31 rfl (by decide) (by omega) (by omega) (r1) ?_
      refine j_aload_n dX4_save_32 rfl ?_
      refine j_aload_n dX4_save_33 rfl ?_
      refine j_S3v dX4_save_34 ok_X4_write s_X4_27 (e_X4_write r3 r2) (fun M34 q34 => ?_)
      refine j_aload_n dX4_save_37 rfl ?_
      refine j_dup dX4_save_38 (fun _ h => by cases h) ?_
      refine j_getI (kz := 1) rfl dX4_save_39 f_X4_16 rfl rfl ?_
      refine j_iconst dX4_save_42 ?_
      refine j_iadd dX4_save_43 ?_
      refine j_putI (kz := 1) rfl dX4_save_44 g_X4_16 rfl rfl ?_
      refine j_vret dX4_save_47 rfl ?_
      first
      | (exfalso; omega)
      | (have hne : (4 : Nat) ∉ [6 + (M 4 1).toNat] := by simp; omega
         refine ⟨rfl, ((q34.1.up ?_).w1 (by decide)), by rw [wr_self, q34.1 4 hne], fun j h0 h7 => ?_, fun b hb4 hbr => ?_⟩
         · intro b hb
           simp only [List.mem_cons, List.not_mem_nil, or_false] at hb ⊢
           omega
         · rw [wr_ne _ _ (by omega)]
           exact q34.2 j h0 h7
         · funext j
           rw [wr_ne _ _ (fun z => hb4 z.1), q34.1 b (by simpa using hbr)])
  · exfalso; omega
theorem e_X4_save2 {M : Mem} (h4 : M 4 1 = 4) : J SHC mi_X4_save 0 (ent [vR 4, vR 1, vR 2] 3) [] M (pv (fun M1 => fr [4, 6, 7, 8, 9] M M1 ∧ M1 4 1 = 4 ∧ ∀ j : Int, 0 ≤ j → j < 7 → M1 6 j = M 7 j ∧ M1 7 j = M 8 j ∧ M1 8 j = M 9 j ∧ M1 9 j = rowOf M j)) := by
  show J SHC mi_X4_save 0 [some (vR 4), some (vR 1), some (vR 2)] [] M _
  refine j_aload_n dX4_save_0 rfl ?_
  refine j_getI (kz := 1) rfl dX4_save_1 f_X4_16 rfl rfl ?_
  refine j_iconst dX4_save_4 ?_
  refine j_icmp_lt 12 dX4_save_5 rfl (by unfold inR; omega) (by unfold inR; omega) (fun c5 => ?_) (fun c5 => ?_)
  · exfalso; omega
  · refine j_aload_n dX4_save_8 rfl ?_
    refine j_V0v dX4_save_9 ok_X4_forgetOldest v_X4_20 c_X4_forgetOldest rfl (e_X4_forgetOldest) (fun M9 q9 => ?_)
    have q91 := q9.2.1
    skip
    refine j_aload_n dX4_save_12 rfl ?_
    refine j_getI (kz := 1) rfl dX4_save_13 f_X4_16 rfl rfl ?_
    refine j_iconst dX4_save_16 ?_
    refine j_N2z dX4_save_17 ok_X6_isInside n_X4_23 (e_isInside (by first | assumption | (unfold inR; omega)) (by first | assumption | (unfold inR; omega))) (fun z17 M17 q17 => ?_)
    obtain ⟨rfl, q17⟩ := q17
    refine j_if_eq 47 dX4_save_20 rfl (by unfold inR; omega) (fun c20 => ?_) (fun c20 => ?_)
    · refine j_vret dX4_save_47 rfl ?_
      first
      | (exfalso; omega)
      | (have hr : ∀ j, rowOf M9 j = rowOf M j := fun j => by
           unfold rowOf
           rw [q9.1 1 (by decide), q9.1 2 (by decide), q9.1 3 (by decide)]
         refine ⟨rfl, ((q9.1.up (by decide)).tr (q34.1.up (by decide))).w1 (by decide), by rw [wr_self, q34.1 4 (by decide), q9.2.1]; rfl, fun j h0 h7 => ?_⟩
         have h := q9.2.2 j h0 h7
         rw [wr_ne (b := 6) _ _ (by omega), wr_ne (b := 7) _ _ (by omega), wr_ne (b := 8) _ _ (by omega), wr_ne (b := 9) _ _ (by omega), q34.1 6 (by decide), q34.1 7 (by decide), q34.1 8 (by decide)]
         exact ⟨h.1, h.2.1, h.2.2, by rw [q34.2 j h0 h7, hr]⟩)
    · refine j_aload_n dX4_save_23 rfl ?_
      refine j_getR dX4_save_24 f_X4_13 rfl rfl ?_
      refine j_aload_n dX4_save_27 rfl ?_
      refine j_getI (kz := 1) rfl dX4_save_28 f_X4_16 rfl rfl ?_
      refine j_aald (q := 9) dX4_save_31 rfl (by decide) (by omega) (by omega) (by rw [q9.2.1]; rfl) ?_
      refine j_aload_n dX4_save_32 rfl ?_
      refine j_aload_n dX4_save_33 rfl ?_
      refine j_S3v dX4_save_34 ok_X4_write s_X4_27 (e_X4_write (r := 9) (by omega) rfl) (fun M34 q34 => ?_)
      refine j_aload_n dX4_save_37 rfl ?_
      refine j_dup dX4_save_38 (fun _ h => by cases h) ?_
      refine j_getI (kz := 1) rfl dX4_save_39 f_X4_16 rfl rfl ?_
      refine j_iconst dX4_save_42 ?_
      refine j_iadd dX4_save_43 ?_
      refine j_putI (kz := 1) rfl dX4_save_44 g_X4_16 rfl rfl ?_
      refine j_vret dX4_save_47 rfl ?_
      first
      | (exfalso; omega)
      | (have hr : ∀ j, rowOf M9 j = rowOf M j := fun j => by
           unfold rowOf
           rw [q9.1 1 (by decide), q9.1 2 (by decide), q9.1 3 (by decide)]
         refine ⟨rfl, ((q9.1.up (by decide)).tr (q34.1.up (by decide))).w1 (by decide), by rw [wr_self, q34.1 4 (by decide), q9.2.1]; rfl, fun j h0 h7 => ?_⟩
         have h := q9.2.2 j h0 h7
         rw [wr_ne (b := 6) _ _ (by omega), wr_ne (b := 7) _ _ (by omega), wr_ne (b := 8) _ _ (by omega), wr_ne (b := 9) _ _ (by omega), q34.1 6 (by decide), q34.1 7 (by decide), q34.1 8 (by decide)]
         exact ⟨h.1, h.2.1, h.2.2, by rw [q34.2 j h0 h7, hr]⟩)
theorem e_X4_restore {M : Mem} (hd : Dep M) (h4 : 0 < M 4 1) : J SHC mi_X4_restore 0 (ent [vR 4, vR 1, vR 2] 3) [] M (pv (fun M1 => fr [1, 2, 3, 4] M M1 ∧ M1 4 1 = M 4 1 - 1 ∧ M1 1 0 = M (6 + (M 4 1 - 1).toNat) 0 ∧ M1 1 1 = M (6 + (M 4 1 - 1).toNat) 1 ∧ M1 2 1 = M (6 + (M 4 1 - 1).toNat) 2 ∧ ∀ j : Int, 0 ≤ j → j < 4 → M1 3 j = M (6 + (M 4 1 - 1).toNat) (3 + j))) := by
  have hd0 := hd.1
  have hd1 := hd.2
  obtain ⟨r1, r2, r3⟩ := ref4 (d := M 4 1 - 1) (by omega) (by omega)
  have e4 : wr M 4 1 (M 4 1 - 1) 4 1 = M 4 1 - 1 := wr_self _ _ _ _
  show J SHC mi_X4_restore 0 [some (vR 4), some (vR 1), some (vR 2)] [] M _
  refine j_aload_n dX4_restore_0 rfl ?_
  refine j_getI (kz := 1) rfl dX4_restore_1 f_X4_16 rfl rfl ?_
  refine j_iconst dX4_restore_4 ?_
  refine j_isub dX4_restore_5 ?_
  refine j_iconst dX4_restore_6 ?_
  refine j_N2z dX4_restore_7 ok_X6_isInside n_X4_23 (e_isInside (by first | assumption | (unfold inR; omega)) (by first | assumption | (unfold inR; omega))) (fun z7 M7 q7 => ?_)
  obtain ⟨rfl, q7⟩ := q7
  refine j_if_eq 37 dX4_restore_10 rfl (by unfold inR; omega) (fun c10 => ?_) (fun c10 => ?_)
  · refine j_vret dX4_restore_37 rfl ?_
    first
    | (exfalso; omega)
    | (obtain ⟨f1, f2, f3, f4, f5⟩ := q34
       have hne : ∀ j : Int, wr M 4 1 (M 4 1 - 1) (6 + (M 4 1 - 1).toNat) j = M (6 + (M 4 1 - 1).toNat) j := fun j => wr_ne _ _ (by omega)
       refine ⟨rfl, (fr.rf.w1 (by decide)).tr (f1.up (by decide)), by rw [f1 4 (by decide), e4], by rw [f2, hne], by rw [f3, hne], by rw [f4, hne], fun j h0 h4 => by rw [f5 j h0 h4, hne]⟩)
  · refine j_aload_n dX4_restore_13 rfl ?_
    refine j_dup dX4_restore_14 (fun _ h => by cases h) ?_
    refine j_getI (kz := 1) rfl dX4_restore_15 f_X4_16 rfl rfl ?_
    refine j_iconst dX4_restore_18 ?_
    refine j_isub dX4_restore_19 ?_
    refine j_putI (kz := 1) rfl dX4_restore_20 g_X4_16 rfl rfl ?_
    refine j_aload_n dX4_restore_23 rfl ?_
    refine j_getR dX4_restore_24 f_X4_13 rfl rfl ?_
    refine j_aload_n dX4_restore_27 rfl ?_
    refine j_getI (kz := 1) rfl dX4_restore_28 f_X4_16 rfl rfl ?_
    rw [e4]
    refine j_aald (q := 6 + (M 4 1 - 1).toNat) dX4_restore_31 rfl (by decide) (by omega) (by omega) (r1) ?_
    refine j_aload_n dX4_restore_32 rfl ?_
    refine j_aload_n dX4_restore_33 rfl ?_
    refine j_S3v dX4_restore_34 ok_X4_read s_X4_31 (e_X4_read r3 r2) (fun M34 q34 => ?_)
    refine j_vret dX4_restore_37 rfl ?_
    first
    | (exfalso; omega)
    | (obtain ⟨f1, f2, f3, f4, f5⟩ := q34
       have hne : ∀ j : Int, wr M 4 1 (M 4 1 - 1) (6 + (M 4 1 - 1).toNat) j = M (6 + (M 4 1 - 1).toNat) j := fun j => wr_ne _ _ (by omega)
       refine ⟨rfl, (fr.rf.w1 (by decide)).tr (f1.up (by decide)), by rw [f1 4 (by decide), e4], by rw [f2, hne], by rw [f3, hne], by rw [f4, hne], fun j h0 h4 => by rw [f5 j h0 h4, hne]⟩)
def Elem (a : Nat) (M : Mem) (es : List Int) : Prop := ∀ (j : Nat) (x : Int), es[j]? = some x → M a j = x
def Memb (a : Nat) (M : Mem) (es : List Int) : Prop := ∀ c : Int, 0 ≤ c → c < 300 → (M a c = 1 ∧ c ∈ es) ∨ (M a c = 0 ∧ c ∉ es)
theorem nd_len : ∀ (N : Nat) (l : List Int), l.Nodup → (∀ x ∈ l, 0 ≤ x ∧ x < N) → l.length ≤ N
  | 0, l, _, h => by
    cases l with
    | nil => exact Nat.le_refl _
    | cons x l => have := h x List.mem_cons_self; omega
  | N + 1, l, hn, h => by
    by_cases hm : (N : Int) ∈ l
    · have h1 := nd_len N (l.erase (N : Int)) (hn.erase _) (fun x hx => by
        have h2 := (List.Nodup.mem_erase_iff hn).mp hx
        have h3 := h x h2.2
        have h4 := h2.1
        omega)
      have h5 := List.length_erase_of_mem hm
      omega
    · have h1 := nd_len N l hn (fun x hx => by
        have h3 := h x hx
        have h4 : x ≠ N := fun e => hm (e ▸ hx)
        omega)
      omega
def inG (k n : Int) (P : Int → Prop) (c : Int) : Prop := ∃ w : List Int, (∀ g ∈ w, P g) ∧ c = w.foldl (tm k n) 0
theorem inG_0 {k n : Int} {P : Int → Prop} : inG k n P 0 := ⟨[], (fun _ h => absurd h List.not_mem_nil), rfl⟩
theorem inG_step {k n : Int} {P : Int → Prop} {c g : Int} (h : inG k n P c) (hg : P g) : inG k n P (tm k n c g) := by
  obtain ⟨w, h1, rfl⟩ := h
  refine ⟨w ++ [g], fun x hx => ?_, by simp⟩
  rcases List.mem_append.mp hx with h | h
  · exact h1 x h
  · simp only [List.mem_cons, List.not_mem_nil, or_false] at h
    rw [h]; exact hg
theorem inG_ind {k n : Int} {P : Int → Prop} {R : Int → Prop} (h0 : R 0) (hs : ∀ c g, inG k n P c → R c → P g → R (tm k n c g)) {c : Int} (h : inG k n P c) : R c := by
  obtain ⟨w, h1, rfl⟩ := h
  have key : ∀ (v : List Int) (a : Int), inG k n P a → R a → (∀ g ∈ v, P g) → R (v.foldl (tm k n) a) := by
    intro v
    induction v with
    | nil => intro a _ ha _; exact ha
    | cons g v ih =>
      intro a hi ha hv
      exact ih _ (inG_step hi (hv g List.mem_cons_self)) (hs a g hi ha (hv g List.mem_cons_self)) (fun x hx => hv x (List.mem_cons_of_mem _ hx))
  exact key w 0 inG_0 h0 h1
def add (es : List Int) (c : Int) : List Int := if c ∈ es then es else es ++ [c]
theorem add_mem {es : List Int} {c x : Int} : x ∈ add es c ↔ x ∈ es ∨ x = c := by
  unfold add
  split
  · constructor
    · exact Or.inl
    · rintro (h | rfl) <;> assumption
  · simp
theorem add_get {es : List Int} {c x : Int} {j : Nat} (h : es[j]? = some x) : (add es c)[j]? = some x := by
  unfold add
  split
  · exact h
  · rw [List.getElem?_append_left (List.getElem?_eq_some_iff.mp h).1]; exact h
theorem add_len {es : List Int} {c : Int} : es.length ≤ (add es c).length := by
  unfold add
  split <;> simp
theorem add_nd {es : List Int} {c : Int} (h : es.Nodup) : (add es c).Nodup := by
  unfold add
  split
  · exact h
  · rename_i hc
    rw [List.nodup_append]
    refine ⟨h, by simp, fun a ha b hb => ?_⟩
    simp only [List.mem_cons, List.not_mem_nil, or_false] at hb
    rw [hb]
    exact fun e => hc (e ▸ ha)
/-- a list that is being closed: the first i have all their products in it -/
def Clo (k n : Int) (P : Int → Prop) (es : List Int) (i : Nat) : Prop := es.Nodup ∧ (∀ c ∈ es, vc k n c) ∧ 0 ∈ es ∧ (∀ c ∈ es, inG k n P c) ∧ ∀ j, j < i → ∀ x, es[j]? = some x → ∀ g, P g → tm k n x g ∈ es
theorem Clo_add {k n : Int} {P : Int → Prop} {es : List Int} {i : Nat} {x g : Int} (hk : k = 0 ∨ k = 1) (hn1 : 1 ≤ n) (h : Clo k n P es i) (hi : i ≤ es.length) (hx : x ∈ es) (hg : P g) : Clo k n P (add es (tm k n x g)) i := by
  obtain ⟨h1, h2, h3, h4, h5⟩ := h
  refine ⟨add_nd h1, fun c hc => ?_, add_mem.mpr (Or.inl h3), fun c hc => ?_, fun j hj y hy g' hg' => ?_⟩
  · rcases add_mem.mp hc with q | rfl
    · exact h2 c q
    · exact vc_tm hk hn1
  · rcases add_mem.mp hc with q | rfl
    · exact h4 c q
    · exact inG_step (h4 x hx) hg
  · have hjl : j < es.length := by omega
    have e1 : es[j]? = some es[j] := List.getElem?_eq_getElem hjl
    have e2 := add_get (c := tm k n x g) e1
    rw [hy] at e2
    exact add_mem.mpr (Or.inl (h5 j hj y (by rw [e1, ← e2]) g' hg'))
theorem Clo_all {k n : Int} {P : Int → Prop} {es : List Int} (h : Clo k n P es es.length) (c : Int) : c ∈ es ↔ inG k n P c := by
  obtain ⟨h1, h2, h3, h4, h5⟩ := h
  refine ⟨h4 c, fun hc => ?_⟩
  refine inG_ind (R := fun c => c ∈ es) h3 (fun x g _ hx hg => ?_) hc
  obtain ⟨j, hj⟩ := List.getElem?_of_mem hx
  exact h5 j (List.getElem?_eq_some_iff.mp hj).1 x hj g hg
def glst (f : Int → Int) : Nat → List Int
  | 0 => []
  | i + 1 => glst f i ++ (if f i = 0 then [] else [(i : Int)])
theorem glst_mem {f : Int → Int} {c : Int} : ∀ {N : Nat}, c ∈ glst f N ↔ 0 ≤ c ∧ c < N ∧ f c ≠ 0
  | 0 => by simp [glst]; omega
  | N + 1 => by
    simp only [glst, List.mem_append, glst_mem (N := N)]
    by_cases h : f N = 0
    · simp only [h, if_true, List.not_mem_nil, or_false]
      constructor
      · rintro ⟨a, b, d⟩; exact ⟨a, by omega, d⟩
      · rintro ⟨a, b, d⟩
        refine ⟨a, ?_, d⟩
        have : c ≠ N := fun e => d (e ▸ h)
        omega
    · simp only [h, if_false, List.mem_cons, List.not_mem_nil, or_false]
      constructor
      · rintro (⟨a, b, d⟩ | rfl)
        · exact ⟨a, by omega, d⟩
        · exact ⟨by omega, by omega, h⟩
      · rintro ⟨a, b, d⟩
        by_cases e : c = N
        · exact Or.inr e
        · exact Or.inl ⟨a, by omega, d⟩
theorem glst_nd {f : Int → Int} : ∀ {N : Nat}, (glst f N).Nodup
  | 0 => by simp [glst]
  | N + 1 => by
    simp only [glst]
    rw [List.nodup_append]
    refine ⟨glst_nd, by split <;> simp, fun a ha b hb => ?_⟩
    have h1 := glst_mem.mp ha
    split at hb
    · cases hb
    · simp only [List.mem_cons, List.not_mem_nil, or_false] at hb
      omega
theorem nd_same {l1 l2 : List Int} (h1 : l1.Nodup) (h2 : l2.Nodup) (h : ∀ c, c ∈ l1 ↔ c ∈ l2) : l1.Perm l2 := (List.perm_ext_iff_of_nodup h1 h2).mpr h
theorem glst_len {f : Int → Int} (N : Nat) : (glst f N).length ≤ N := nd_len N _ glst_nd (fun x hx => by have := glst_mem.mp hx; exact ⟨this.1, this.2.1⟩)
end
section
/-! class Group: the closure under the generators, its list by codes -/
def gP (M : Mem) : Int → Prop := fun g => ∃ i : Int, 0 ≤ i ∧ i < M 2 1 ∧ M 3 i = g
def GV (M : Mem) : Prop := Gen4 M ∧ ∀ i : Int, 0 ≤ i → i < M 2 1 → vc (M 1 0) (M 1 1) (M 3 i)
def BS (M : Mem) (es : List Int) : Prop := M 10 6 = es.length ∧ Elem 12 M es ∧ Memb 11 M es
abbrev ClM (M : Mem) (es : List Int) (i : Nat) : Prop := Clo (M 1 0) (M 1 1) (gP M) es i
theorem gP_fr {S : List Nat} {M M1 : Mem} (h : fr S M M1) (h2 : 2 ∉ S) (h3 : 3 ∉ S) : gP M1 = gP M := by
  unfold gP; rw [h 2 h2, h 3 h3]
theorem GV_fr {S : List Nat} {M M1 : Mem} (h : fr S M M1) (h1 : 1 ∉ S) (h2 : 2 ∉ S) (h3 : 3 ∉ S) (hg : GV M) : GV M1 := by
  unfold GV Gen4 at *; rw [h 1 h1, h 2 h2, h 3 h3]; exact hg
theorem Lat_fr {S : List Nat} {M M1 : Mem} (h : fr S M M1) (h1 : 1 ∉ S) (hL : Lat M) : Lat M1 := by
  unfold Lat at *; rw [h 1 h1]; exact hL
theorem ClM_fr {S : List Nat} {M M1 : Mem} (h : fr S M M1) (h1 : 1 ∉ S) (h2 : 2 ∉ S) (h3 : 3 ∉ S) {es : List Int} {i : Nat} (hc : ClM M es i) : ClM M1 es i := by
  unfold ClM; rw [gP_fr h h2 h3, h 1 h1]; exact hc
theorem vc_300 {M : Mem} (hL : Lat M) {c : Int} (h : vc (M 1 0) (M 1 1) c) : 0 ≤ c ∧ c < 300 := by
  have := vc_b hL.1 hL.2.2.2.1 hL.2.2.2.2 h
  omega
theorem Clo_len {M : Mem} (hL : Lat M) {es : List Int} {i : Nat} (h : ClM M es i) : es.length ≤ 300 := nd_len 300 es h.1 (fun x hx => by have := vc_300 hL (h.2.1 x hx); omega)
theorem Elem_push {a : Nat} {M : Mem} {es : List Int} {c : Int} (h : Elem a M es) : Elem a (wr M a es.length c) (es ++ [c]) := by
  intro j x hj
  by_cases hl : j < es.length
  · rw [List.getElem?_append_left hl] at hj
    rw [wr_ne _ _ (by omega)]
    exact h j x hj
  · rw [List.getElem?_append_right (by omega)] at hj
    have h0 : j - es.length < 1 := (List.getElem?_eq_some_iff.mp hj).1
    have h1 : j = es.length := by omega
    subst h1
    simp at hj
    rw [wr_self, hj]
theorem Memb_push {a : Nat} {M : Mem} {es : List Int} {c : Int} (h : Memb a M es) : Memb a (wr M a c 1) (es ++ [c]) := by
  intro x h0 h1
  by_cases e : x = c
  · subst e
    left
    exact ⟨wr_self _ _ _ _, by simp⟩
  · rw [wr_ne _ _ (fun z => e z.2)]
    rcases h x h0 h1 with ⟨a1, a2⟩ | ⟨a1, a2⟩
    · exact Or.inl ⟨a1, by simp [a2]⟩
    · exact Or.inr ⟨a1, by simp [a2, e]⟩
theorem Elem_eq {a : Nat} {M M1 : Mem} {es : List Int} (h : Elem a M es) (e : M1 a = M a) : Elem a M1 es := by unfold Elem; rw [e]; exact h
theorem Memb_eq {a : Nat} {M M1 : Mem} {es : List Int} (h : Memb a M es) (e : M1 a = M a) : Memb a M1 es := by unfold Memb; rw [e]; exact h

theorem e_X3_admit {M : Mem} {es : List Int} {c : Int} (hb : BS M es) (hnd : es.Nodup) (hr : ∀ x ∈ es, 0 ≤ x ∧ x < 300) (hc : 0 ≤ c ∧ c < 300) : J SHC mi_X3_admit 0 (ent [vR 10, vI c] 2) [] M (pv (fun M1 => fr [10, 11, 12] M M1 ∧ BS M1 (add es c))) := by
  obtain ⟨hb1, hb2, hb3⟩ := hb
  have hlen := nd_len 300 es hnd (fun x hx => by have := hr x hx; omega)
  have hmc := hb3 c hc.1 hc.2
  have hlt : c ∉ es → es.length < 300 := fun h9 => by
    have := nd_len 300 (es ++ [c]) (by rw [List.nodup_append]; exact ⟨hnd, by simp, fun a ha b hb => by simp at hb; rw [hb]; exact fun e => h9 (e ▸ ha)⟩) (fun x hx => by
      rcases List.mem_append.mp hx with h | h
      · have := hr x h; omega
      · simp at h; omega)
    simp at this; omega
  have e1 : wr M 11 c 1 10 6 = M 10 6 := wr_ne _ _ (by omega)
  have e2 : wr (wr M 11 c 1) 12 (wr M 11 c 1 10 6) c 10 6 = M 10 6 := by rw [wr_ne _ _ (by omega), e1]
  have hmr : inR (M 11 c) := by unfold inR; omega
  show J SHC mi_X3_admit 0 [some (vR 10), some (vI c)] [] M _
  refine j_iload_n dX3_admit_0 rfl ?_
  refine j_sipush dX3_admit_1 (by decide +kernel) ?_
  refine j_N2z dX3_admit_4 ok_X6_isInside n_X3_37 (e_isInside (by first | assumption | (unfold inR; omega)) (by first | assumption | (unfold inR; omega))) (fun z4 M4 q4 => ?_)
  obtain ⟨rfl, q4⟩ := q4
  refine j_if_eq 59 dX3_admit_7 rfl (by first | assumption | (unfold inR; omega)) (fun c7 => ?_) (fun c7 => ?_)
  · exfalso; omega
  · refine j_aload_n dX3_admit_10 rfl ?_
    refine j_getR dX3_admit_11 f_X3_9 rfl rfl ?_
    refine j_iload_n dX3_admit_14 rfl ?_
    refine j_bald dX3_admit_15 (by first | rfl | assumption) (by decide) (by first | omega | (rw [e1, hb1]; have := hlt (by rcases hmc with h | h; (exfalso; omega); exact h.2); omega)) (by first | omega | (rw [e1, hb1]; have := hlt (by rcases hmc with h | h; (exfalso; omega); exact h.2); omega)) ?_
    refine j_if_ne 59 dX3_admit_16 rfl (by first | assumption | (unfold inR; omega)) (fun c16 => ?_) (fun c16 => ?_)
    · have hin : c ∈ es := by
        rcases hmc with h | h
        · exact h.2
        · exact absurd h.1 c16
      refine j_vret dX3_admit_59 rfl ⟨rfl, fr.rf, ?_⟩
      rw [show add es c = es from if_pos hin]
      exact ⟨hb1, hb2, hb3⟩
    · refine j_aload_n dX3_admit_19 rfl ?_
      refine j_getI (kz := 6) rfl dX3_admit_20 f_X3_33 rfl rfl ?_
      refine j_sipush dX3_admit_23 (by decide +kernel) ?_
      refine j_N2z dX3_admit_26 ok_X6_isInside n_X3_37 (e_isInside (by first | assumption | (unfold inR; omega)) (by first | assumption | (unfold inR; omega))) (fun z26 M26 q26 => ?_)
      obtain ⟨rfl, q26⟩ := q26
      refine j_if_eq 59 dX3_admit_29 rfl (by first | assumption | (unfold inR; omega)) (fun c29 => ?_) (fun c29 => ?_)
      · exfalso
        have hin : c ∉ es := by
          rcases hmc with h | h
          · omega
          · exact h.2
        have := hlt hin
        omega
      · refine j_aload_n dX3_admit_32 rfl ?_
        refine j_getR dX3_admit_33 f_X3_9 rfl rfl ?_
        refine j_iload_n dX3_admit_36 rfl ?_
        refine j_iconst dX3_admit_37 ?_
        refine j_bast dX3_admit_38 (by first | rfl | assumption) (by decide) (by first | omega | (rw [e1, hb1]; have := hlt (by rcases hmc with h | h; (exfalso; omega); exact h.2); omega)) (by first | omega | (rw [e1, hb1]; have := hlt (by rcases hmc with h | h; (exfalso; omega); exact h.2); omega)) (by first | exact Or.inl rfl | exact Or.inr rfl) ?_
        refine j_aload_n dX3_admit_39 rfl ?_
        refine j_getR dX3_admit_40 f_X3_15 rfl rfl ?_
        refine j_aload_n dX3_admit_43 rfl ?_
        refine j_getI (kz := 6) rfl dX3_admit_44 f_X3_33 rfl rfl ?_
        refine j_iload_n dX3_admit_47 rfl ?_
        refine j_iast dX3_admit_48 (by first | rfl | assumption) (by decide) (by first | omega | (rw [e1, hb1]; have := hlt (by rcases hmc with h | h; (exfalso; omega); exact h.2); omega)) (by first | omega | (rw [e1, hb1]; have := hlt (by rcases hmc with h | h; (exfalso; omega); exact h.2); omega)) ?_
        refine j_aload_n dX3_admit_49 rfl ?_
        refine j_dup dX3_admit_50 (fun _ h => by cases h) ?_
        refine j_getI (kz := 6) rfl dX3_admit_51 f_X3_33 rfl rfl ?_
        refine j_iconst dX3_admit_54 ?_
        refine j_iadd dX3_admit_55 ?_
        refine j_putI (kz := 6) rfl dX3_admit_56 g_X3_33 rfl rfl ?_
        have hin : c ∉ es := by
          rcases hmc with h | h
          · omega
          · exact h.2
        refine j_vret dX3_admit_59 rfl ⟨rfl, ((fr.rf.w1 (by decide)).w1 (by decide)).w1 (by decide), ?_⟩
        rw [show add es c = es ++ [c] from if_neg hin]
        refine ⟨by rw [wr_self, e2, hb1]; simp, ?_, ?_⟩
        · have h9 := Elem_push (c := c) (Elem_eq (M1 := wr M 11 c 1) hb2 (by funext j; exact wr_ne _ _ (by omega)))
          rw [← hb1, ← e1] at h9
          exact Elem_eq h9 (by funext j; exact wr_ne _ _ (by omega))
        · have h9 := Memb_push (c := c) hb3
          exact Memb_eq h9 (by funext j; rw [wr_ne _ _ (by omega), wr_ne _ _ (by omega)])
theorem l_list (m : Nat) : ∀ (q : Nat) (M : Mem), (∀ j : Int, 0 ≤ j → j < 300 → M 11 j = 0 ∨ M 11 j = 1) → q ≤ 300 → 300 - q < m → Elem 12 M (glst (M 11) q) → J SHC mi_X3_listByCode 4 [some (vR 10), some (vI (glst (M 11) q).length), some (vI q)] [] M (pv (fun M1 => fr [12] M M1 ∧ Elem 12 M1 (glst (M 11) 300))) := by
  induction m with
  | zero => intro q M h0 h1 h2; omega
  | succ m ih =>
  intro q M h0 h1 h2 he
  have hl := glst_len (f := M 11) q
  have hmr : inR (M 11 q) ∨ ¬ (q : Int) < 300 := by
    by_cases h9 : (q : Int) < 300
    · left
      have := h0 q (by omega) h9
      unfold inR; omega
    · exact Or.inr h9
  refine j_iload_n dX3_listByCode_4 rfl ?_
  refine j_sipush dX3_listByCode_5 (by decide +kernel) ?_
  refine j_icmp_ge 43 dX3_listByCode_8 rfl (by first | (unfold inR; omega) | (rcases hmr with h | h; exact h; exfalso; omega)) (by first | (unfold inR; omega) | (rcases hmr with h | h; exact h; exfalso; omega)) (fun c8 => ?_) (fun c8 => ?_)
  · refine j_vret dX3_listByCode_43 rfl ?_
    first
    | (have hq : q = 300 := by omega
       subst hq
       exact ⟨rfl, fr.rf, he⟩)
    | (exfalso; omega)
  · refine j_iload_n dX3_listByCode_11 rfl ?_
    refine j_sipush dX3_listByCode_12 (by decide +kernel) ?_
    refine j_icmp_ge 43 dX3_listByCode_15 rfl (by first | (unfold inR; omega) | (rcases hmr with h | h; exact h; exfalso; omega)) (by first | (unfold inR; omega) | (rcases hmr with h | h; exact h; exfalso; omega)) (fun c15 => ?_) (fun c15 => ?_)
    · refine j_vret dX3_listByCode_43 rfl ?_
      first
      | (have hq : q = 300 := by omega
         subst hq
         exact ⟨rfl, fr.rf, he⟩)
      | (exfalso; omega)
    · refine j_aload_n dX3_listByCode_18 rfl ?_
      refine j_getR dX3_listByCode_19 f_X3_9 rfl rfl ?_
      refine j_iload_n dX3_listByCode_22 rfl ?_
      refine j_bald dX3_listByCode_23 (by first | rfl | assumption) (by decide) (by omega) (by omega) ?_
      refine j_if_eq 37 dX3_listByCode_24 rfl (by first | (unfold inR; omega) | (rcases hmr with h | h; exact h; exfalso; omega)) (fun c24 => ?_) (fun c24 => ?_)
      · refine j_iinc dX3_listByCode_37 rfl (by decide) (nol rfl) (by simp only [List.set_cons_zero, List.set_cons_succ]; rfl) ?_
        refine j_goto 4 dX3_listByCode_40 rfl ?_
        have e0 : glst (M 11) (q + 1) = glst (M 11) q := by simp [glst, c24]
        have h9 := ih (q + 1) M h0 (by omega) (by omega) (by rw [e0]; exact he)
        rw [e0] at h9
        exact h9
      · refine j_aload_n dX3_listByCode_27 rfl ?_
        refine j_getR dX3_listByCode_28 f_X3_15 rfl rfl ?_
        refine j_iload_n dX3_listByCode_31 rfl ?_
        refine j_iload_n dX3_listByCode_32 rfl ?_
        refine j_iast dX3_listByCode_33 (by first | rfl | assumption) (by decide) (by omega) (by omega) ?_
        refine j_iinc dX3_listByCode_34 rfl (by decide) (nol rfl) (by simp only [List.set_cons_zero, List.set_cons_succ]; rfl) ?_
        refine j_iinc dX3_listByCode_37 rfl (by decide) (nol rfl) (by simp only [List.set_cons_zero, List.set_cons_succ]; rfl) ?_
        refine j_goto 4 dX3_listByCode_40 rfl ?_
        have e1 : wr M 12 (glst (M 11) q).length q 11 = M 11 := by funext j; exact wr_ne _ _ (by omega)
        have e0 : glst (M 11) (q + 1) = glst (M 11) q ++ [(q : Int)] := by simp [glst, c24]
        have h9 := ih (q + 1) (wr M 12 (glst (M 11) q).length q) (by rw [e1]; exact h0) (by omega) (by omega) (by rw [e1, e0]; exact Elem_push he)
        rw [e1, e0, List.length_append] at h9
        refine j_mono ?_ h9
        rintro v M1 ⟨rfl, hf, hj⟩
        exact ⟨rfl, (fr.rf.w1 (by decide)).tr hf, hj⟩
theorem e_X3_listByCode {M : Mem} (h0 : ∀ j : Int, 0 ≤ j → j < 300 → M 11 j = 0 ∨ M 11 j = 1) : J SHC mi_X3_listByCode 0 (ent [vR 10] 3) [] M (pv (fun M1 => fr [12] M M1 ∧ Elem 12 M1 (glst (M 11) 300))) := by
  show J SHC mi_X3_listByCode 0 [some (vR 10), none, none] [] M _
  refine j_iconst dX3_listByCode_0 ?_
  refine j_istore_n dX3_listByCode_1 (by decide) (nol rfl) (by show List.set _ 1 _ = _; simp only [List.set_cons_zero, List.set_cons_succ]; rfl) ?_
  refine j_iconst dX3_listByCode_2 ?_
  refine j_istore_n dX3_listByCode_3 (by decide) (nol rfl) (by show List.set _ 2 _ = _; simp only [List.set_cons_zero, List.set_cons_succ]; rfl) ?_
  exact l_list 301 0 M h0 (by omega) (by omega) (fun j x hj => by simp [glst] at hj)
end
section
/-! class Group: rebuild, and what is asked of it -/
def GInv (M : Mem) : Prop := M 10 6 = (glst (M 11) 300).length ∧ Elem 12 M (glst (M 11) 300) ∧ ∀ c : Int, 0 ≤ c → c < 300 → (M 11 c = 1 ∧ inG (M 1 0) (M 1 1) (gP M) c) ∨ (M 11 c = 0 ∧ ¬ inG (M 1 0) (M 1 1) (gP M) c)
theorem Clo_next {k n : Int} {P : Int → Prop} {es : List Int} {i : Nat} {x : Int} (h : Clo k n P es i) (hx : es[i]? = some x) (hp : ∀ g, P g → tm k n x g ∈ es) : Clo k n P es (i + 1) := by
  obtain ⟨h1, h2, h3, h4, h5⟩ := h
  refine ⟨h1, h2, h3, h4, fun j hj y hy g hg => ?_⟩
  by_cases e : j = i
  · subst e
    rw [hx] at hy
    cases hy
    exact hp g hg
  · exact h5 j (by omega) y hy g hg

theorem l_reb_in {Q : Option PV → Mem → Prop} (i : Nat) (m : Nat) : ∀ (j : Int) (M : Mem) (es : List Int), Lat M → GV M → BS M es → ClM M es i → i < es.length → (∀ j' : Int, 0 ≤ j' → j' < j → ∀ x, es[i]? = some x → tm (M 1 0) (M 1 1) x (M 3 j') ∈ es) → 0 ≤ j → j ≤ M 2 1 → M 2 1 - j < m → (∀ M1 es1, fr [10, 11, 12] M M1 → BS M1 es1 → ClM M1 es1 (i + 1) → i + 1 ≤ es1.length → J SHC mi_X3_rebuild 78 [some (vR 10), some (vI i), some (vI (M 2 1))] [] M1 Q) → J SHC mi_X3_rebuild 36 [some (vR 10), some (vI i), some (vI j)] [] M Q := by
  induction m with
  | zero => intro j M es _ _ _ _ _ _ h0 h1 h2; omega
  | succ m ih =>
  intro j M es hL hg hb hcl hi hjs h0 h1 h2 K
  obtain ⟨hb1, hb2, hb3⟩ := id hb
  have hg1 := hg.1.1
  have hg2 := hg.1.2
  have hlen := Clo_len hL hcl
  obtain ⟨x0, hx0⟩ : ∃ x0, es[i]? = some x0 := ⟨_, List.getElem?_eq_getElem hi⟩
  have hxm : x0 ∈ es := List.mem_of_getElem? hx0
  have ex : M 12 i = x0 := hb2 i x0 hx0
  have hv1 : vc (M 1 0) (M 1 1) (M 12 i) := by rw [ex]; exact hcl.2.1 x0 hxm
  refine j_iload_n dX3_rebuild_36 rfl ?_
  refine j_aload_n dX3_rebuild_37 rfl ?_
  refine j_getR dX3_rebuild_38 f_X3_29 rfl rfl ?_
  refine j_getI (kz := 1) rfl dX3_rebuild_41 f_X3_63 rfl rfl ?_
  refine j_icmp_ge 78 dX3_rebuild_44 rfl (by unfold inR; omega) (by unfold inR; omega) (fun c44 => ?_) (fun c44 => ?_)
  · have hj : j = M 2 1 := by omega
    subst hj
    refine K M es fr.rf hb (Clo_next hcl hx0 (fun g hg' => ?_)) (by omega)
    obtain ⟨j', a0, a1, rfl⟩ := hg'
    exact hjs j' a0 a1 x0 hx0
  · refine j_aload_n dX3_rebuild_47 rfl ?_
    refine j_aload_n dX3_rebuild_48 rfl ?_
    refine j_getR dX3_rebuild_49 f_X3_25 rfl rfl ?_
    refine j_aload_n dX3_rebuild_52 rfl ?_
    refine j_getR dX3_rebuild_53 f_X3_15 rfl rfl ?_
    refine j_iload_n dX3_rebuild_56 rfl ?_
    refine j_iald dX3_rebuild_57 (by first | rfl | assumption) (by decide) (by omega) (by omega) ?_
    refine j_aload_n dX3_rebuild_58 rfl ?_
    refine j_getR dX3_rebuild_59 f_X3_29 rfl rfl ?_
    refine j_iload_n dX3_rebuild_62 rfl ?_
    refine j_V1p dX3_rebuild_63 ok_X2_codeAt v_X3_68 c_X2_codeAt rfl (e_X2_codeAt (by omega) (by omega)) ?_
    refine j_V2p dX3_rebuild_66 ok_X5_times v_X3_71 c_X5_times rfl (e_X5_times hL hv1 (hg.2 j h0 c44)) ?_
    refine j_V1v dX3_rebuild_69 ok_X3_admit v_X3_59 c_X3_admit rfl (e_X3_admit (c := tm (M 1 0) (M 1 1) (M 12 i) (M 3 j)) hb hcl.1 (fun x hx => vc_300 hL (hcl.2.1 x hx)) (vc_300 hL (vc_tm hL.1 hL.2.1))) (fun M69 q69 => ?_)
    refine j_iinc dX3_rebuild_72 rfl (by decide) (nol rfl) (by simp only [List.set_cons_zero, List.set_cons_succ]; rfl) ?_
    refine j_goto 36 dX3_rebuild_75 rfl ?_
    have f := q69.1
    have e1 : M69 1 = M 1 := f 1 (by decide)
    have e2 : M69 2 = M 2 := f 2 (by decide)
    have e3 : M69 3 = M 3 := f 3 (by decide)
    have hcl' : ClM M (add es (tm (M 1 0) (M 1 1) (M 12 i) (M 3 j))) i := Clo_add hL.1 hL.2.1 hcl (by omega) (by rw [ex]; exact hxm) ⟨j, h0, c44, rfl⟩
    refine ih (j + 1) M69 _ (Lat_fr f (by decide) hL) (GV_fr f (by decide) (by decide) (by decide) hg) q69.2 (ClM_fr f (by decide) (by decide) (by decide) hcl') (by have := add_len (es := es) (c := tm (M 1 0) (M 1 1) (M 12 i) (M 3 j)); omega) (fun j' h0' h1' y hy => ?_) (by omega) (by rw [e2]; omega) (by rw [e2]; omega) (fun M1 es1 f1 b1 c1 l1 => ?_)
    · rw [e1, e3]
      have hx' := add_get (c := tm (M 1 0) (M 1 1) (M 12 i) (M 3 j)) hx0
      rw [hy] at hx'
      have hyx : y = x0 := Option.some.inj hx'
      rw [hyx]
      by_cases q : j' = j
      · subst q
        exact add_mem.mpr (Or.inr (by rw [ex]))
      · exact add_mem.mpr (Or.inl (hjs j' h0' (by omega) x0 hx0))
    · rw [e2]
      exact K M1 es1 (f.tr f1) b1 c1 l1
theorem l_reb (m : Nat) : ∀ (i : Nat) (M : Mem) (es : List Int) (w : Option PV), Lat M → GV M → BS M es → ClM M es i → i ≤ es.length → 300 - i < m → J SHC mi_X3_rebuild 19 [some (vR 10), some (vI i), w] [] M (pv (fun M1 => fr [10, 11, 12] M M1 ∧ GInv M1)) := by
  induction m with
  | zero => intro i M es w hL _ _ hcl h1 h2; have := Clo_len hL hcl; omega
  | succ m ih =>
  intro i M es w hL hg hb hcl h1 h2
  obtain ⟨hb1, hb2, hb3⟩ := id hb
  have hlen := Clo_len hL hcl
  have h01 : ∀ j : Int, 0 ≤ j → j < 300 → M 11 j = 0 ∨ M 11 j = 1 := fun j a b => by
    rcases hb3 j a b with h | h
    · exact Or.inr h.1
    · exact Or.inl h.1
  refine j_iload_n dX3_rebuild_19 rfl ?_
  refine j_aload_n dX3_rebuild_20 rfl ?_
  refine j_getI (kz := 6) rfl dX3_rebuild_21 f_X3_33 rfl rfl ?_
  refine j_icmp_ge 84 dX3_rebuild_24 rfl (by unfold inR; omega) (by unfold inR; omega) (fun c24 => ?_) (fun c24 => ?_)
  · have hi : i = es.length := by omega
    refine j_aload_n dX3_rebuild_84 rfl ?_
    refine j_V0v dX3_rebuild_85 ok_X3_listByCode v_X3_75 c_X3_listByCode rfl (e_X3_listByCode h01) (fun M85 q85 => ?_)
    refine j_vret dX3_rebuild_88 rfl ⟨rfl, q85.1.up (by decide), ?_⟩
    subst hi
    have f := q85.1
    have e1 : M85 1 = M 1 := f 1 (by decide)
    have e11 : M85 11 = M 11 := f 11 (by decide)
    have e10 : M85 10 = M 10 := f 10 (by decide)
    have eP : gP M85 = gP M := gP_fr f (by decide) (by decide)
    have hall := Clo_all hcl
    have hperm : es.Perm (glst (M 11) 300) := nd_same hcl.1 glst_nd (fun c => by
      rw [glst_mem]
      constructor
      · intro hc
        have hr := vc_300 hL (hcl.2.1 c hc)
        refine ⟨hr.1, hr.2, ?_⟩
        rcases hb3 c hr.1 hr.2 with h | h
        · omega
        · exact absurd hc h.2
      · rintro ⟨a, b, d⟩
        rcases hb3 c a b with h | h
        · exact h.2
        · exact absurd h.1 d)
    refine ⟨?_, ?_, fun c a b => ?_⟩
    · rw [e10, e11, hb1, hperm.length_eq]
    · rw [e11]; exact q85.2
    · rw [e11, e1, eP]
      rcases hb3 c a b with h | h
      · exact Or.inl ⟨h.1, (hall c).mp h.2⟩
      · exact Or.inr ⟨h.1, fun h9 => h.2 ((hall c).mpr h9)⟩
  · refine j_iload_n dX3_rebuild_27 rfl ?_
    refine j_sipush dX3_rebuild_28 (by decide +kernel) ?_
    refine j_icmp_ge 84 dX3_rebuild_31 rfl (by unfold inR; omega) (by unfold inR; omega) (fun c31 => ?_) (fun c31 => ?_)
    · exfalso; omega
    · refine j_iconst dX3_rebuild_34 ?_
      refine j_istore_n dX3_rebuild_35 (by decide) (nol rfl) (by show List.set _ 2 _ = _; simp only [List.set_cons_zero, List.set_cons_succ]; rfl) ?_
      refine l_reb_in i 5 0 M es hL hg hb hcl (by omega) (fun j' a b => by omega) (by omega) hg.1.1 (by have := hg.1.2; omega) (fun M1 es1 f1 b1 c1 l1 => ?_)
      refine j_iinc dX3_rebuild_78 rfl (by decide) (nol rfl) (by simp only [List.set_cons_zero, List.set_cons_succ]; rfl) ?_
      refine j_goto 19 dX3_rebuild_81 rfl ?_
      refine j_mono ?_ (ih (i + 1) M1 es1 _ (Lat_fr f1 (by decide) hL) (GV_fr f1 (by decide) (by decide) (by decide) hg) b1 c1 l1 (by omega))
      rintro v M2 ⟨rfl, hf, hj⟩
      exact ⟨rfl, f1.tr hf, hj⟩
theorem e_X3_rebuild {M : Mem} (hL : Lat M) (hg : GV M) : J SHC mi_X3_rebuild 0 (ent [vR 10] 3) [] M (pv (fun M1 => fr [10, 11, 12] M M1 ∧ GInv M1)) := by
  show J SHC mi_X3_rebuild 0 [some (vR 10), none, none] [] M _
  refine j_aload_n dX3_rebuild_0 rfl ?_
  refine j_getR dX3_rebuild_1 f_X3_9 rfl rfl ?_
  refine j_N1v dX3_rebuild_4 ok_X6_clearMarks n_X3_55 (e_clearMarks (r := 11) (len := 300) rfl (by decide)) (fun M4 q4 => ?_)
  obtain ⟨f4, g4⟩ := q4
  refine j_aload_n dX3_rebuild_7 rfl ?_
  refine j_iconst dX3_rebuild_8 ?_
  refine j_putI (kz := 6) rfl dX3_rebuild_9 g_X3_33 rfl rfl ?_
  refine j_aload_n dX3_rebuild_12 rfl ?_
  refine j_iconst dX3_rebuild_13 ?_
  refine j_V1v dX3_rebuild_14 ok_X3_admit v_X3_59 c_X3_admit rfl (e_X3_admit (es := []) (c := 0) ⟨by rw [wr_self]; rfl, fun j x hj => by simp at hj, fun c a b => Or.inr ⟨by rw [wr_ne _ _ (by omega), g4, if_pos ⟨a, b⟩], by simp⟩⟩ (by simp) (fun x hx => by simp at hx) (by omega)) (fun M14 q14 => ?_)
  obtain ⟨f14, b14⟩ := q14
  refine j_iconst dX3_rebuild_17 ?_
  refine j_istore_n dX3_rebuild_18 (by decide) (nol rfl) (by show List.set _ 1 _ = _; simp only [List.set_cons_zero, List.set_cons_succ]; rfl) ?_
  have fA : fr [10, 11, 12] M M14 := ((f4.up (by decide)).w1 (by decide)).tr f14
  have hcl : ClM M14 [0] 0 := by
    refine ⟨by simp, fun c hc => ?_, by simp, fun c hc => ?_, fun j hj => by omega⟩
    · simp at hc
      subst hc
      have h1 := (Lat_fr fA (by decide) hL)
      obtain ⟨hk, hn1, hn5, hc1, hc2⟩ := h1
      have ht := tu_c hk
      unfold vc
      refine ⟨by omega, ?_⟩
      exact Int.mul_pos (by omega) (by omega)
    · simp at hc
      subst hc
      exact inG_0
  refine j_mono ?_ (l_reb 301 0 M14 [0] _ (Lat_fr fA (by decide) hL) (GV_fr fA (by decide) (by decide) (by decide) hg) (by simpa [add] using b14) hcl (by simp) (by omega))
  rintro v M1 ⟨rfl, hf, hj⟩
  exact ⟨rfl, fA.tr hf, hj⟩
theorem e_X3_size {M : Mem} : J SHC mi_X3_size 0 (ent [vR 10] 1) [] M (pu (vI (M 10 6)) M) := by
  show J SHC mi_X3_size 0 [some (vR 10)] [] M _
  refine j_aload_n dX3_size_0 rfl ?_
  refine j_getI (kz := 6) rfl dX3_size_1 f_X3_33 rfl rfl ?_
  refine j_iret dX3_size_4 rfl ?_
  exact pu_i (by first | rfl | omega | (simp; done))
theorem e_X3_elementAt {M : Mem} {i : Int} (h0 : 0 ≤ i) (h4 : i < 300) : J SHC mi_X3_elementAt 0 (ent [vR 10, vI i] 2) [] M (pu (vI (M 12 i)) M) := by
  show J SHC mi_X3_elementAt 0 [some (vR 10), some (vI i)] [] M _
  refine j_iload_n dX3_elementAt_0 rfl ?_
  refine j_sipush dX3_elementAt_1 (by decide +kernel) ?_
  refine j_N2z dX3_elementAt_4 ok_X6_isInside n_X3_37 (e_isInside (by first | assumption | (unfold inR; omega)) (by first | assumption | (unfold inR; omega))) (fun z4 M4 q4 => ?_)
  obtain ⟨rfl, q4⟩ := q4
  refine j_if_eq 19 dX3_elementAt_7 rfl (by unfold inR; omega) (fun c7 => ?_) (fun c7 => ?_)
  · refine j_iconst dX3_elementAt_19 ?_
    refine j_iret dX3_elementAt_20 rfl ?_
    first | (exfalso; omega) | exact pu_i rfl
  · refine j_aload_n dX3_elementAt_10 rfl ?_
    refine j_getR dX3_elementAt_11 f_X3_15 rfl rfl ?_
    refine j_iload_n dX3_elementAt_14 rfl ?_
    refine j_iald dX3_elementAt_15 (by first | rfl | assumption) (by decide) (by omega) (by omega) ?_
    refine j_goto 20 dX3_elementAt_16 rfl ?_
    refine j_iret dX3_elementAt_20 rfl ?_
    first | (exfalso; omega) | exact pu_i rfl
def M01 (a : Nat) (len : Int) (M : Mem) : Prop := ∀ j : Int, 0 ≤ j → j < len → M a j = 0 ∨ M a j = 1
theorem M01.r {a : Nat} {len : Int} {M : Mem} (h : M01 a len M) {j : Int} (h0 : 0 ≤ j) (h1 : j < len) : inR (M a j) := by
  have := h j h0 h1
  unfold inR; omega
theorem e_X3_has {M : Mem} {c : Int} (hm : M01 11 300 M) (hc : inR c) : J SHC mi_X3_has 0 (ent [vR 10, vI c] 2) [] M (bz (0 ≤ c ∧ c < 300 ∧ M 11 c = 1) M) := by
  show J SHC mi_X3_has 0 [some (vR 10), some (vI c)] [] M _
  refine j_iload_n dX3_has_0 rfl ?_
  refine j_sipush dX3_has_1 (by decide +kernel) ?_
  refine j_N2z dX3_has_4 ok_X6_isInside n_X3_37 (e_isInside (by first | assumption | (unfold inR; omega)) (by first | assumption | (unfold inR; omega))) (fun z4 M4 q4 => ?_)
  obtain ⟨rfl, q4⟩ := q4
  refine j_if_eq 23 dX3_has_7 rfl (by first | assumption | exact hm.r (by omega) (by omega) | (unfold inR; omega)) (fun c7 => ?_) (fun c7 => ?_)
  · refine j_iconst dX3_has_23 ?_
    refine j_zret dX3_has_24 rfl (by first | exact Or.inl rfl | exact Or.inr rfl | omega) ?_
    first | exact bz_i (Or.inl ⟨rfl, by omega, by omega, by have := hm c (by omega) (by omega); omega⟩) | exact bz_i (Or.inr ⟨rfl, fun h => by omega⟩)
  · refine j_aload_n dX3_has_10 rfl ?_
    refine j_getR dX3_has_11 f_X3_9 rfl rfl ?_
    refine j_iload_n dX3_has_14 rfl ?_
    refine j_bald dX3_has_15 (by first | rfl | assumption) (by decide) (by omega) (by omega) ?_
    refine j_if_eq 23 dX3_has_16 rfl (by first | assumption | exact hm.r (by omega) (by omega) | (unfold inR; omega)) (fun c16 => ?_) (fun c16 => ?_)
    · refine j_iconst dX3_has_23 ?_
      refine j_zret dX3_has_24 rfl (by first | exact Or.inl rfl | exact Or.inr rfl | omega) ?_
      first | exact bz_i (Or.inl ⟨rfl, by omega, by omega, by have := hm c (by omega) (by omega); omega⟩) | exact bz_i (Or.inr ⟨rfl, fun h => by omega⟩)
    · refine j_iconst dX3_has_19 ?_
      refine j_goto 24 dX3_has_20 rfl ?_
      refine j_zret dX3_has_24 rfl (by first | exact Or.inl rfl | exact Or.inr rfl | omega) ?_
      first | exact bz_i (Or.inl ⟨rfl, by omega, by omega, by have := hm c (by omega) (by omega); omega⟩) | exact bz_i (Or.inr ⟨rfl, fun h => by omega⟩)
theorem e_X3_hasTranslation {M : Mem} {x y : Int} (hL : Lat M) (hm : M01 11 300 M) (hx : inR x) (hy : inR y) : J SHC mi_X3_hasTranslation 0 (ent [vR 10, vI x, vI y] 3) [] M (bz (M 11 (mkc (M 1 1) 0 x y) = 1) M) := by
  obtain ⟨hk, hn1, hn5, hc1, hc2⟩ := id hL
  have ht := tu_c hk
  have hv := vc_300 hL (vc_mkc (k := M 1 0) (x := x) (y := y) hn1 (p := 0) (by omega))
  have ev : 0 * (M 1 1 * M 1 1) + (M 1 1 * (x % M 1 1) + y % M 1 1) = mkc (M 1 1) 0 x y := rfl
  show J SHC mi_X3_hasTranslation 0 [some (vR 10), some (vI x), some (vI y)] [] M _
  refine j_aload_n dX3_hasTranslation_0 rfl ?_
  refine j_aload_n dX3_hasTranslation_1 rfl ?_
  refine j_getR dX3_hasTranslation_2 f_X3_25 rfl rfl ?_
  refine j_iconst dX3_hasTranslation_5 ?_
  refine j_aload_n dX3_hasTranslation_6 rfl ?_
  refine j_getR dX3_hasTranslation_7 f_X3_25 rfl rfl ?_
  refine j_iload_n dX3_hasTranslation_10 rfl ?_
  refine j_V1p dX3_hasTranslation_11 ok_X5_wrap v_X3_41 c_X5_wrap rfl (e_X5_wrap hL (by first | assumption | (unfold inR; omega))) ?_
  refine j_aload_n dX3_hasTranslation_14 rfl ?_
  refine j_getR dX3_hasTranslation_15 f_X3_25 rfl rfl ?_
  refine j_iload_n dX3_hasTranslation_18 rfl ?_
  refine j_V1p dX3_hasTranslation_19 ok_X5_wrap v_X3_41 c_X5_wrap rfl (e_X5_wrap hL (by first | assumption | (unfold inR; omega))) ?_
  refine j_V3p dX3_hasTranslation_22 ok_X5_codeOf v_X3_47 c_X5_codeOf rfl (e_X5_codeOf hL) ?_
  refine j_V1z dX3_hasTranslation_25 ok_X3_has v_X3_51 c_X3_has rfl (e_X3_has (c := mkc (M 1 1) 0 x y) hm (by unfold inR; omega)) (fun z25 M25 q25 => ?_)
  obtain ⟨rfl, q25⟩ := q25
  refine j_zret dX3_hasTranslation_28 rfl (by first | exact Or.inl rfl | exact Or.inr rfl | omega) ?_
  refine bz_i ?_
  rcases q25 with q | q
  · exact Or.inl ⟨q.1, q.2.2.2⟩
  · exact Or.inr ⟨q.1, fun h => q.2 ⟨hv.1, hv.2, h⟩⟩
end
section
/-! searches: a list grows from a start by steps, beside a list B that was marked before; classify, findOrbit -/
def MembN (a : Nat) (N : Int) (M : Mem) (es : List Int) : Prop := ∀ c : Int, 0 ≤ c → c < N → (M a c = 1 ∧ c ∈ es) ∨ (M a c = 0 ∧ c ∉ es)
def add2 (B ws : List Int) (c : Int) : List Int := if c ∈ B ++ ws then ws else ws ++ [c]
def WS (o : Nat) (sl : Int) (mk wt : Nat) (N : Int) (M : Mem) (B ws : List Int) : Prop := M o sl = ws.length ∧ Elem wt M ws ∧ MembN mk N M (B ++ ws)
theorem MembN_push {a : Nat} {N : Int} {M : Mem} {B es : List Int} {c : Int} (h : MembN a N M (B ++ es)) : MembN a N (wr M a c 1) (B ++ (es ++ [c])) := by
  intro x h0 h1
  by_cases e : x = c
  · subst e
    left
    exact ⟨wr_self _ _ _ _, by simp⟩
  · rw [wr_ne _ _ (fun z => e z.2)]
    rcases h x h0 h1 with ⟨a1, a2⟩ | ⟨a1, a2⟩
    · exact Or.inl ⟨a1, by rcases List.mem_append.mp a2 with q | q <;> simp [q]⟩
    · refine Or.inr ⟨a1, fun q => ?_⟩
      rcases List.mem_append.mp q with q | q
      · exact a2 (List.mem_append.mpr (Or.inl q))
      · rcases List.mem_append.mp q with q | q
        · exact a2 (List.mem_append.mpr (Or.inr q))
        · simp at q; exact e q
theorem MembN_eq {a : Nat} {N : Int} {M M1 : Mem} {es : List Int} (h : MembN a N M es) (e : M1 a = M a) : MembN a N M1 es := by unfold MembN; rw [e]; exact h
theorem add2_sub {B ws : List Int} {c x : Int} (h : x ∈ B ++ ws) : x ∈ B ++ add2 B ws c := by
  unfold add2
  split
  · exact h
  · rcases List.mem_append.mp h with q | q <;> simp [q]
theorem add2_in {B ws : List Int} {c : Int} : c ∈ B ++ add2 B ws c := by
  unfold add2
  split
  · assumption
  · simp
theorem add2_get {B es : List Int} {c x : Int} {j : Nat} (h : es[j]? = some x) : (add2 B es c)[j]? = some x := by
  unfold add2
  split
  · exact h
  · rw [List.getElem?_append_left (List.getElem?_eq_some_iff.mp h).1]; exact h
theorem add2_len {B es : List Int} {c : Int} : es.length ≤ (add2 B es c).length := by
  unfold add2
  split <;> simp
def Rch (st : Int → Int → Int) (P : Int → Prop) (s x : Int) : Prop := ∃ w : List Int, (∀ g ∈ w, P g) ∧ x = w.foldl st s
theorem Rch_step {st : Int → Int → Int} {P : Int → Prop} {s x g : Int} (h : Rch st P s x) (hg : P g) : Rch st P s (st x g) := by
  obtain ⟨w, h1, rfl⟩ := h
  refine ⟨w ++ [g], fun y hy => ?_, by simp⟩
  rcases List.mem_append.mp hy with h | h
  · exact h1 y h
  · simp only [List.mem_cons, List.not_mem_nil, or_false] at h
    rw [h]; exact hg
def BfI (V : Int → Prop) (st : Int → Int → Int) (P : Int → Prop) (B : List Int) (s : Int) (ws : List Int) (i : Nat) : Prop := ws.Nodup ∧ (∀ x ∈ ws, V x) ∧ (∀ x ∈ ws, x ∉ B) ∧ s ∈ ws ∧ (∀ x ∈ ws, Rch st P s x) ∧ ∀ j, j < i → ∀ x, ws[j]? = some x → ∀ g, P g → st x g ∈ B ++ ws
theorem BfI_add {V : Int → Prop} {st : Int → Int → Int} {P : Int → Prop} {B : List Int} {s : Int} {ws : List Int} {i : Nat} {x g : Int} (h : BfI V st P B s ws i) (hi : i ≤ ws.length) (hx : x ∈ ws) (hg : P g) (hV : V (st x g)) : BfI V st P B s (add2 B ws (st x g)) i := by
  obtain ⟨h1, h2, h3, h4, h5, h6⟩ := h
  by_cases hm : st x g ∈ B ++ ws
  · rw [show add2 B ws (st x g) = ws from if_pos hm]
    exact ⟨h1, h2, h3, h4, h5, h6⟩
  · have ha : add2 B ws (st x g) = ws ++ [st x g] := if_neg hm
    rw [ha]
    have hmem : ∀ y, y ∈ ws ++ [st x g] → y ∈ ws ∨ y = st x g := fun y hy => by simpa using hy
    refine ⟨?_, fun y hy => ?_, fun y hy => ?_, by simp [h4], fun y hy => ?_, fun j hj y hy g' hg' => ?_⟩
    · rw [List.nodup_append]
      refine ⟨h1, by simp, fun a ha b hb => ?_⟩
      simp at hb
      rw [hb]
      exact fun e => hm (List.mem_append.mpr (Or.inr (e ▸ ha)))
    · rcases hmem y hy with q | rfl
      · exact h2 y q
      · exact hV
    · rcases hmem y hy with q | rfl
      · exact h3 y q
      · exact fun q => hm (List.mem_append.mpr (Or.inl q))
    · rcases hmem y hy with q | rfl
      · exact h5 y q
      · exact Rch_step (h5 x hx) hg
    · have hjl : j < ws.length := by omega
      rw [List.getElem?_append_left hjl] at hy
      rcases List.mem_append.mp (h6 j hj y hy g' hg') with q | q <;> simp [q]
theorem BfI_next {V : Int → Prop} {st : Int → Int → Int} {P : Int → Prop} {B : List Int} {s : Int} {ws : List Int} {i : Nat} {x : Int} (h : BfI V st P B s ws i) (hx : ws[i]? = some x) (hp : ∀ g, P g → st x g ∈ B ++ ws) : BfI V st P B s ws (i + 1) := by
  obtain ⟨h1, h2, h3, h4, h5, h6⟩ := h
  refine ⟨h1, h2, h3, h4, h5, fun j hj y hy g hg => ?_⟩
  by_cases e : j = i
  · subst e
    rw [hx] at hy
    cases hy
    exact hp g hg
  · exact h6 j (by omega) y hy g hg
theorem BfI_one {V : Int → Prop} {st : Int → Int → Int} {P : Int → Prop} {B : List Int} {s : Int} (hV : V s) (hB : s ∉ B) : BfI V st P B s [s] 0 := by
  refine ⟨by simp, fun x hx => ?_, fun x hx => ?_, by simp, fun x hx => ?_, fun j hj => by omega⟩
  · simp at hx; rw [hx]; exact hV
  · simp at hx; rw [hx]; exact hB
  · simp at hx; rw [hx]; exact ⟨[], (fun _ h => absurd h List.not_mem_nil), rfl⟩
theorem sc_b {k n c q : Int} (hn1 : 1 ≤ n) : 0 ≤ sc k n c q ∧ sc k n c q < n * n := by
  have hn0 : 0 < n := by omega
  have key : ∀ x y : Int, 0 ≤ n * (x % n) + y % n ∧ n * (x % n) + y % n < n * n := fun x y => by
    have h1 := Int.emod_nonneg x (show n ≠ 0 by omega)
    have h2 := Int.emod_lt_of_pos x hn0
    have h3 := Int.emod_nonneg y (show n ≠ 0 by omega)
    have h4 := Int.emod_lt_of_pos y hn0
    have h5 : 0 ≤ n * (x % n) := Int.mul_nonneg (by omega) h1
    have h6 : n * (x % n) ≤ n * (n - 1) := Int.mul_le_mul_of_nonneg_left (by omega) (by omega)
    have h7 : n * (n - 1) = n * n - n := by rw [Int.mul_sub, Int.mul_one]
    omega
  exact key _ _
def cj (k n : Int) (x g : Int) : Int := tm k n (tm k n g x) (iv k n g)
def sq (k n : Int) (q g : Int) : Int := sc k n g q
theorem e_X3_admitToClass {M : Mem} {B ws : List Int} {c : Int} (hb : WS 10 7 13 14 300 M B ws) (hnd : ws.Nodup) (hr : ∀ x ∈ ws, 0 ≤ x ∧ x < 300) (hc : 0 ≤ c ∧ c < 300) : J SHC mi_X3_admitToClass 0 (ent [vR 10, vI c] 2) [] M (pv (fun M1 => fr [10, 13, 14] M M1 ∧ (∀ j : Int, j ≠ 7 → M1 10 j = M 10 j) ∧ WS 10 7 13 14 300 M1 B (add2 B ws c))) := by
  obtain ⟨hb1, hb2, hb3⟩ := hb
  have hlen := nd_len 300 ws hnd (fun x hx => by have := hr x hx; omega)
  have hmc := hb3 c hc.1 hc.2
  have hlt : c ∉ B ++ ws → ws.length < 300 := fun h9 => by
    have h8 : c ∉ ws := fun q => h9 (List.mem_append.mpr (Or.inr q))
    have := nd_len 300 (ws ++ [c]) (by rw [List.nodup_append]; exact ⟨hnd, by simp, fun a ha b hb => by simp at hb; rw [hb]; exact fun e => h8 (e ▸ ha)⟩) (fun x hx => by
      rcases List.mem_append.mp hx with h | h
      · have := hr x h; omega
      · simp at h; omega)
    simp at this; omega
  have e1 : wr M 13 c 1 10 7 = M 10 7 := wr_ne _ _ (by omega)
  have e2 : wr (wr M 13 c 1) 14 (wr M 13 c 1 10 7) c 10 7 = M 10 7 := by rw [wr_ne _ _ (by omega), e1]
  have hmr : inR (M 13 c) := by unfold inR; omega
  show J SHC mi_X3_admitToClass 0 [some (vR 10), some (vI c)] [] M _
  refine j_iload_n dX3_admitToClass_0 rfl ?_
  refine j_sipush dX3_admitToClass_1 (by decide +kernel) ?_
  refine j_N2z dX3_admitToClass_4 ok_X6_isInside n_X3_37 (e_isInside (by first | assumption | (unfold inR; omega)) (by first | assumption | (unfold inR; omega))) (fun z4 M4 q4 => ?_)
  obtain ⟨rfl, q4⟩ := q4
  refine j_if_eq 59 dX3_admitToClass_7 rfl (by first | assumption | (unfold inR; omega)) (fun c7 => ?_) (fun c7 => ?_)
  · exfalso; omega
  · refine j_aload_n dX3_admitToClass_10 rfl ?_
    refine j_getR dX3_admitToClass_11 f_X3_19 rfl rfl ?_
    refine j_iload_n dX3_admitToClass_14 rfl ?_
    refine j_bald dX3_admitToClass_15 (by first | rfl | assumption) (by decide) (by first | omega | (rw [e1, hb1]; have := hlt (by rcases hmc with h | h; (exfalso; omega); exact h.2); omega)) (by first | omega | (rw [e1, hb1]; have := hlt (by rcases hmc with h | h; (exfalso; omega); exact h.2); omega)) ?_
    refine j_if_ne 59 dX3_admitToClass_16 rfl (by first | assumption | (unfold inR; omega)) (fun c16 => ?_) (fun c16 => ?_)
    · have hin : c ∈ B ++ ws := by
        rcases hmc with h | h
        · exact h.2
        · exact absurd h.1 c16
      refine j_vret dX3_admitToClass_59 rfl ⟨rfl, fr.rf, fun j hj => rfl, ?_⟩
      rw [show add2 B ws c = ws from if_pos hin]
      exact ⟨hb1, hb2, hb3⟩
    · refine j_aload_n dX3_admitToClass_19 rfl ?_
      refine j_getI (kz := 7) rfl dX3_admitToClass_20 f_X3_81 rfl rfl ?_
      refine j_sipush dX3_admitToClass_23 (by decide +kernel) ?_
      refine j_N2z dX3_admitToClass_26 ok_X6_isInside n_X3_37 (e_isInside (by first | assumption | (unfold inR; omega)) (by first | assumption | (unfold inR; omega))) (fun z26 M26 q26 => ?_)
      obtain ⟨rfl, q26⟩ := q26
      refine j_if_eq 59 dX3_admitToClass_29 rfl (by first | assumption | (unfold inR; omega)) (fun c29 => ?_) (fun c29 => ?_)
      · exfalso
        have hin : c ∉ B ++ ws := by
          rcases hmc with h | h
          · omega
          · exact h.2
        have := hlt hin
        omega
      · refine j_aload_n dX3_admitToClass_32 rfl ?_
        refine j_getR dX3_admitToClass_33 f_X3_19 rfl rfl ?_
        refine j_iload_n dX3_admitToClass_36 rfl ?_
        refine j_iconst dX3_admitToClass_37 ?_
        refine j_bast dX3_admitToClass_38 (by first | rfl | assumption) (by decide) (by first | omega | (rw [e1, hb1]; have := hlt (by rcases hmc with h | h; (exfalso; omega); exact h.2); omega)) (by first | omega | (rw [e1, hb1]; have := hlt (by rcases hmc with h | h; (exfalso; omega); exact h.2); omega)) (by first | exact Or.inl rfl | exact Or.inr rfl) ?_
        refine j_aload_n dX3_admitToClass_39 rfl ?_
        refine j_getR dX3_admitToClass_40 f_X3_22 rfl rfl ?_
        refine j_aload_n dX3_admitToClass_43 rfl ?_
        refine j_getI (kz := 7) rfl dX3_admitToClass_44 f_X3_81 rfl rfl ?_
        refine j_iload_n dX3_admitToClass_47 rfl ?_
        refine j_iast dX3_admitToClass_48 (by first | rfl | assumption) (by decide) (by first | omega | (rw [e1, hb1]; have := hlt (by rcases hmc with h | h; (exfalso; omega); exact h.2); omega)) (by first | omega | (rw [e1, hb1]; have := hlt (by rcases hmc with h | h; (exfalso; omega); exact h.2); omega)) ?_
        refine j_aload_n dX3_admitToClass_49 rfl ?_
        refine j_dup dX3_admitToClass_50 (fun _ h => by cases h) ?_
        refine j_getI (kz := 7) rfl dX3_admitToClass_51 f_X3_81 rfl rfl ?_
        refine j_iconst dX3_admitToClass_54 ?_
        refine j_iadd dX3_admitToClass_55 ?_
        refine j_putI (kz := 7) rfl dX3_admitToClass_56 g_X3_81 rfl rfl ?_
        have hin : c ∉ B ++ ws := by
          rcases hmc with h | h
          · omega
          · exact h.2
        refine j_vret dX3_admitToClass_59 rfl ⟨rfl, ((fr.rf.w1 (by decide)).w1 (by decide)).w1 (by decide), fun j hj => by rw [wr_ne _ _ (fun z => hj z.2), wr_ne _ _ (by omega), wr_ne _ _ (by omega)], ?_⟩
        rw [show add2 B ws c = ws ++ [c] from if_neg hin]
        refine ⟨by rw [wr_self, e2, hb1]; simp, ?_, ?_⟩
        · have h9 := Elem_push (c := c) (Elem_eq (M1 := wr M 13 c 1) hb2 (by funext j; exact wr_ne _ _ (by omega)))
          rw [← hb1, ← e1] at h9
          exact Elem_eq h9 (by funext j; exact wr_ne _ _ (by omega))
        · have h9 := MembN_push (c := c) hb3
          exact MembN_eq h9 (by funext j; rw [wr_ne _ _ (by omega), wr_ne _ _ (by omega)])
theorem e_X0_reach {M : Mem} {B ws : List Int} {c : Int} (hb : WS 19 8 22 23 25 M B ws) (hnd : ws.Nodup) (hr : ∀ x ∈ ws, 0 ≤ x ∧ x < 25) (hc : 0 ≤ c ∧ c < 25) : J SHC mi_X0_reach 0 (ent [vR 19, vI c] 2) [] M (pv (fun M1 => fr [19, 22, 23] M M1 ∧ (∀ j : Int, j ≠ 8 → M1 19 j = M 19 j) ∧ WS 19 8 22 23 25 M1 B (add2 B ws c))) := by
  obtain ⟨hb1, hb2, hb3⟩ := hb
  have hlen := nd_len 25 ws hnd (fun x hx => by have := hr x hx; omega)
  have hmc := hb3 c hc.1 hc.2
  have hlt : c ∉ B ++ ws → ws.length < 25 := fun h9 => by
    have h8 : c ∉ ws := fun q => h9 (List.mem_append.mpr (Or.inr q))
    have := nd_len 25 (ws ++ [c]) (by rw [List.nodup_append]; exact ⟨hnd, by simp, fun a ha b hb => by simp at hb; rw [hb]; exact fun e => h8 (e ▸ ha)⟩) (fun x hx => by
      rcases List.mem_append.mp hx with h | h
      · have := hr x h; omega
      · simp at h; omega)
    simp at this; omega
  have e1 : wr M 22 c 1 19 8 = M 19 8 := wr_ne _ _ (by omega)
  have e2 : wr (wr M 22 c 1) 23 (wr M 22 c 1 19 8) c 19 8 = M 19 8 := by rw [wr_ne _ _ (by omega), e1]
  have hmr : inR (M 22 c) := by unfold inR; omega
  show J SHC mi_X0_reach 0 [some (vR 19), some (vI c)] [] M _
  refine j_iload_n dX0_reach_0 rfl ?_
  refine j_bipush dX0_reach_1 (by decide +kernel) ?_
  refine j_N2z dX0_reach_3 ok_X6_isInside n_X0_77 (e_isInside (by first | assumption | (unfold inR; omega)) (by first | assumption | (unfold inR; omega))) (fun z3 M3 q3 => ?_)
  obtain ⟨rfl, q3⟩ := q3
  refine j_if_eq 57 dX0_reach_6 rfl (by first | assumption | (unfold inR; omega)) (fun c6 => ?_) (fun c6 => ?_)
  · exfalso; omega
  · refine j_aload_n dX0_reach_9 rfl ?_
    refine j_getR dX0_reach_10 f_X0_18 rfl rfl ?_
    refine j_iload_n dX0_reach_13 rfl ?_
    refine j_bald dX0_reach_14 (by first | rfl | assumption) (by decide) (by first | omega | (rw [e1, hb1]; have := hlt (by rcases hmc with h | h; (exfalso; omega); exact h.2); omega)) (by first | omega | (rw [e1, hb1]; have := hlt (by rcases hmc with h | h; (exfalso; omega); exact h.2); omega)) ?_
    refine j_if_ne 57 dX0_reach_15 rfl (by first | assumption | (unfold inR; omega)) (fun c15 => ?_) (fun c15 => ?_)
    · have hin : c ∈ B ++ ws := by
        rcases hmc with h | h
        · exact h.2
        · exact absurd h.1 c15
      refine j_vret dX0_reach_57 rfl ⟨rfl, fr.rf, fun j hj => rfl, ?_⟩
      rw [show add2 B ws c = ws from if_pos hin]
      exact ⟨hb1, hb2, hb3⟩
    · refine j_aload_n dX0_reach_18 rfl ?_
      refine j_getI (kz := 8) rfl dX0_reach_19 f_X0_58 rfl rfl ?_
      refine j_bipush dX0_reach_22 (by decide +kernel) ?_
      refine j_N2z dX0_reach_24 ok_X6_isInside n_X0_77 (e_isInside (by first | assumption | (unfold inR; omega)) (by first | assumption | (unfold inR; omega))) (fun z24 M24 q24 => ?_)
      obtain ⟨rfl, q24⟩ := q24
      refine j_if_eq 57 dX0_reach_27 rfl (by first | assumption | (unfold inR; omega)) (fun c27 => ?_) (fun c27 => ?_)
      · exfalso
        have hin : c ∉ B ++ ws := by
          rcases hmc with h | h
          · omega
          · exact h.2
        have := hlt hin
        omega
      · refine j_aload_n dX0_reach_30 rfl ?_
        refine j_getR dX0_reach_31 f_X0_18 rfl rfl ?_
        refine j_iload_n dX0_reach_34 rfl ?_
        refine j_iconst dX0_reach_35 ?_
        refine j_bast dX0_reach_36 (by first | rfl | assumption) (by decide) (by first | omega | (rw [e1, hb1]; have := hlt (by rcases hmc with h | h; (exfalso; omega); exact h.2); omega)) (by first | omega | (rw [e1, hb1]; have := hlt (by rcases hmc with h | h; (exfalso; omega); exact h.2); omega)) (by first | exact Or.inl rfl | exact Or.inr rfl) ?_
        refine j_aload_n dX0_reach_37 rfl ?_
        refine j_getR dX0_reach_38 f_X0_22 rfl rfl ?_
        refine j_aload_n dX0_reach_41 rfl ?_
        refine j_getI (kz := 8) rfl dX0_reach_42 f_X0_58 rfl rfl ?_
        refine j_iload_n dX0_reach_45 rfl ?_
        refine j_iast dX0_reach_46 (by first | rfl | assumption) (by decide) (by first | omega | (rw [e1, hb1]; have := hlt (by rcases hmc with h | h; (exfalso; omega); exact h.2); omega)) (by first | omega | (rw [e1, hb1]; have := hlt (by rcases hmc with h | h; (exfalso; omega); exact h.2); omega)) ?_
        refine j_aload_n dX0_reach_47 rfl ?_
        refine j_dup dX0_reach_48 (fun _ h => by cases h) ?_
        refine j_getI (kz := 8) rfl dX0_reach_49 f_X0_58 rfl rfl ?_
        refine j_iconst dX0_reach_52 ?_
        refine j_iadd dX0_reach_53 ?_
        refine j_putI (kz := 8) rfl dX0_reach_54 g_X0_58 rfl rfl ?_
        have hin : c ∉ B ++ ws := by
          rcases hmc with h | h
          · omega
          · exact h.2
        refine j_vret dX0_reach_57 rfl ⟨rfl, ((fr.rf.w1 (by decide)).w1 (by decide)).w1 (by decide), fun j hj => by rw [wr_ne _ _ (fun z => hj z.2), wr_ne _ _ (by omega), wr_ne _ _ (by omega)], ?_⟩
        rw [show add2 B ws c = ws ++ [c] from if_neg hin]
        refine ⟨by rw [wr_self, e2, hb1]; simp, ?_, ?_⟩
        · have h9 := Elem_push (c := c) (Elem_eq (M1 := wr M 22 c 1) hb2 (by funext j; exact wr_ne _ _ (by omega)))
          rw [← hb1, ← e1] at h9
          exact Elem_eq h9 (by funext j; exact wr_ne _ _ (by omega))
        · have h9 := MembN_push (c := c) hb3
          exact MembN_eq h9 (by funext j; rw [wr_ne _ _ (by omega), wr_ne _ _ (by omega)])
end
section
/-! classify, countConjugacyClasses, findOrbit, findOrbits -/
abbrev CjI (M : Mem) (B : List Int) (s : Int) (ws : List Int) (i : Nat) : Prop := BfI (vc (M 1 0) (M 1 1)) (cj (M 1 0) (M 1 1)) (gP M) B s ws i
abbrev SqI (M : Mem) (B : List Int) (s : Int) (ws : List Int) (i : Nat) : Prop := BfI (fun q => 0 ≤ q ∧ q < M 1 1 * M 1 1) (sq (M 1 0) (M 1 1)) (gP M) B s ws i
theorem CjI_fr {S : List Nat} {M M1 : Mem} (h : fr S M M1) (h1 : 1 ∉ S) (h2 : 2 ∉ S) (h3 : 3 ∉ S) {B ws : List Int} {s : Int} {i : Nat} (hc : CjI M B s ws i) : CjI M1 B s ws i := by
  unfold CjI; rw [gP_fr h h2 h3, h 1 h1]; exact hc
theorem SqI_fr {S : List Nat} {M M1 : Mem} (h : fr S M M1) (h1 : 1 ∉ S) (h2 : 2 ∉ S) (h3 : 3 ∉ S) {B ws : List Int} {s : Int} {i : Nat} (hc : SqI M B s ws i) : SqI M1 B s ws i := by
  unfold SqI; rw [gP_fr h h2 h3, h 1 h1]; exact hc
theorem CjI_b {M : Mem} (hL : Lat M) {B ws : List Int} {s : Int} {i : Nat} (h : CjI M B s ws i) : ∀ x ∈ ws, 0 ≤ x ∧ x < 300 := fun x hx => vc_300 hL (h.2.1 x hx)
theorem SqI_b {M : Mem} (hL : Lat M) {B ws : List Int} {s : Int} {i : Nat} (h : SqI M B s ws i) : ∀ x ∈ ws, 0 ≤ x ∧ x < 25 := fun x hx => by
  have := h.2.1 x hx
  have h5 := hL.2.2.2.2
  omega

theorem l_classify_in {Q : Option PV → Mem → Prop} {s : Int} {B : List Int} (i : Nat) (m : Nat) : ∀ (j : Int) (M : Mem) (ws : List Int) (w : Option PV), Lat M → GV M → WS 10 7 13 14 300 M B ws → CjI M B s ws i → i < ws.length → (∀ j' : Int, 0 ≤ j' → j' < j → ∀ x, ws[i]? = some x → cj (M 1 0) (M 1 1) x (M 3 j') ∈ B ++ ws) → 0 ≤ j → j ≤ M 2 1 → M 2 1 - j < m → (∀ M1 ws1 (w : Option PV), fr [10, 13, 14] M M1 → (∀ j : Int, j ≠ 7 → M1 10 j = M 10 j) → WS 10 7 13 14 300 M1 B ws1 → CjI M1 B s ws1 (i + 1) → i + 1 ≤ ws1.length → J SHC mi_X3_classify 91 [some (vR 10), some (vI s), some (vI i), some (vI (M 2 1)), w] [] M1 Q) → J SHC mi_X3_classify 29 [some (vR 10), some (vI s), some (vI i), some (vI j), w] [] M Q := by
  induction m with
  | zero => intro j M ws w _ _ _ _ _ _ h0 h1 h2; omega
  | succ m ih =>
  intro j M ws w hL hg hb hcl hi hjs h0 h1 h2 K
  obtain ⟨hb1, hb2, hb3⟩ := id hb
  have hg1 := hg.1.1
  have hg2 := hg.1.2
  have hwb := CjI_b hL hcl
  have hlen := nd_len 300 ws hcl.1 (fun x hx => by have := hwb x hx; omega)
  obtain ⟨x0, hx0⟩ : ∃ x0, ws[i]? = some x0 := ⟨_, List.getElem?_eq_getElem hi⟩
  have hxm : x0 ∈ ws := List.mem_of_getElem? hx0
  have ex : M 14 i = x0 := hb2 i x0 hx0
  have hv1 := hcl.2.1 x0 hxm
  have hxb := hwb x0 hxm
  rw [← ex] at hv1 hxb
  refine j_iload_n dX3_classify_29 rfl ?_
  refine j_aload_n dX3_classify_30 rfl ?_
  refine j_getR dX3_classify_31 f_X3_29 rfl rfl ?_
  refine j_getI (kz := 1) rfl dX3_classify_34 f_X3_63 rfl rfl ?_
  refine j_icmp_ge 91 dX3_classify_37 rfl (by unfold inR; omega) (by unfold inR; omega) (fun c37 => ?_) (fun c37 => ?_)
  · have hj : j = M 2 1 := by omega
    subst hj
    refine K M ws _ fr.rf (fun _ _ => rfl) hb (BfI_next hcl hx0 (fun g hg' => ?_)) (by omega)
    obtain ⟨j', a0, a1, rfl⟩ := hg'
    exact hjs j' a0 a1 x0 hx0
  · refine j_aload_n dX3_classify_40 rfl ?_
    refine j_getR dX3_classify_41 f_X3_29 rfl rfl ?_
    refine j_iload_n dX3_classify_44 rfl ?_
    refine j_V1p dX3_classify_45 ok_X2_codeAt v_X3_68 c_X2_codeAt rfl (e_X2_codeAt (by omega) (by omega)) ?_
    refine j_istore dX3_classify_48 (by decide) (nol rfl) (by show List.set _ 4 _ = _; simp only [List.set_cons_zero, List.set_cons_succ]; rfl) ?_
    refine j_aload_n dX3_classify_50 rfl ?_
    refine j_aload_n dX3_classify_51 rfl ?_
    refine j_getR dX3_classify_52 f_X3_25 rfl rfl ?_
    refine j_aload_n dX3_classify_55 rfl ?_
    refine j_getR dX3_classify_56 f_X3_25 rfl rfl ?_
    refine j_iload dX3_classify_59 rfl ?_
    refine j_aload_n dX3_classify_61 rfl ?_
    refine j_getR dX3_classify_62 f_X3_22 rfl rfl ?_
    refine j_iload_n dX3_classify_65 rfl ?_
    refine j_iald dX3_classify_66 (by first | rfl | assumption) (by decide) (by omega) (by omega) ?_
    refine j_V2p dX3_classify_67 ok_X5_times v_X3_71 c_X5_times rfl (e_X5_times hL (hg.2 j h0 c37) hv1) ?_
    refine j_aload_n dX3_classify_70 rfl ?_
    refine j_getR dX3_classify_71 f_X3_25 rfl rfl ?_
    refine j_iload dX3_classify_74 rfl ?_
    refine j_V1p dX3_classify_76 ok_X5_inverseOf v_X3_87 c_X5_inverseOf rfl (e_X5_inverseOf hL (hg.2 j h0 c37)) ?_
    refine j_V2p dX3_classify_79 ok_X5_times v_X3_71 c_X5_times rfl (e_X5_times hL (vc_tm hL.1 hL.2.1) (vc_iv hL.1 hL.2.1 hL.2.2.2.1 hL.2.2.2.2 (hg.2 j h0 c37))) ?_
    refine j_V1v dX3_classify_82 ok_X3_admitToClass v_X3_84 c_X3_admitToClass rfl (e_X3_admitToClass (c := cj (M 1 0) (M 1 1) (M 14 i) (M 3 j)) hb hcl.1 hwb (vc_300 hL (vc_tm hL.1 hL.2.1))) (fun M82 q82 => ?_)
    refine j_iinc dX3_classify_85 rfl (by decide) (nol rfl) (by simp only [List.set_cons_zero, List.set_cons_succ]; rfl) ?_
    refine j_goto 29 dX3_classify_88 rfl ?_
    have f := q82.1
    have e1 : M82 1 = M 1 := f 1 (by decide)
    have e2 : M82 2 = M 2 := f 2 (by decide)
    have e3 : M82 3 = M 3 := f 3 (by decide)
    have hcl' : CjI M B s (add2 B ws (cj (M 1 0) (M 1 1) (M 14 i) (M 3 j))) i := BfI_add hcl (by omega) (by rw [ex]; exact hxm) ⟨j, h0, c37, rfl⟩ (vc_tm hL.1 hL.2.1)
    refine ih (j + 1) M82 _ _ (Lat_fr f (by decide) hL) (GV_fr f (by decide) (by decide) (by decide) hg) q82.2.2 (CjI_fr f (by decide) (by decide) (by decide) hcl') (by have := add2_len (B := B) (es := ws) (c := cj (M 1 0) (M 1 1) (M 14 i) (M 3 j)); omega) (fun j' h0' h1' y hy => ?_) (by omega) (by rw [e2]; omega) (by rw [e2]; omega) (fun M1 es1 w9 f1 g1 b1 c1 l1 => ?_)
    · rw [e1, e3]
      have hx' := add2_get (B := B) (c := cj (M 1 0) (M 1 1) (M 14 i) (M 3 j)) hx0
      rw [hy] at hx'
      have hyx : y = x0 := Option.some.inj hx'
      rw [hyx]
      by_cases q : j' = j
      · subst q
        rw [← ex]
        exact add2_in
      · exact add2_sub (hjs j' h0' (by omega) x0 hx0)
    · rw [e2]
      exact K M1 es1 w9 (f.tr f1) (fun j hj => (g1 j hj).trans (q82.2.1 j hj)) b1 c1 l1
theorem l_findOrbit_in {Q : Option PV → Mem → Prop} {s : Int} {B : List Int} (i : Nat) (m : Nat) : ∀ (j : Int) (M : Mem) (ws : List Int), Lat M → GV M → WS 19 8 22 23 25 M B ws → SqI M B s ws i → i < ws.length → (∀ j' : Int, 0 ≤ j' → j' < j → ∀ x, ws[i]? = some x → sq (M 1 0) (M 1 1) x (M 3 j') ∈ B ++ ws) → 0 ≤ j → j ≤ M 2 1 → M 2 1 - j < m → (∀ M1 ws1, fr [19, 22, 23] M M1 → (∀ j : Int, j ≠ 8 → M1 19 j = M 19 j) → WS 19 8 22 23 25 M1 B ws1 → SqI M1 B s ws1 (i + 1) → i + 1 ≤ ws1.length → J SHC mi_X0_findOrbit 70 [some (vR 19), some (vI s), some (vI i), some (vI (M 2 1))] [] M1 Q) → J SHC mi_X0_findOrbit 28 [some (vR 19), some (vI s), some (vI i), some (vI j)] [] M Q := by
  induction m with
  | zero => intro j M ws _ _ _ _ _ _ h0 h1 h2; omega
  | succ m ih =>
  intro j M ws hL hg hb hcl hi hjs h0 h1 h2 K
  obtain ⟨hb1, hb2, hb3⟩ := id hb
  have hg1 := hg.1.1
  have hg2 := hg.1.2
  have hwb := SqI_b hL hcl
  have hlen := nd_len 25 ws hcl.1 (fun x hx => by have := hwb x hx; omega)
  obtain ⟨x0, hx0⟩ : ∃ x0, ws[i]? = some x0 := ⟨_, List.getElem?_eq_getElem hi⟩
  have hxm : x0 ∈ ws := List.mem_of_getElem? hx0
  have ex : M 23 i = x0 := hb2 i x0 hx0
  have hv1 := hcl.2.1 x0 hxm
  have hxb := hwb x0 hxm
  rw [← ex] at hv1 hxb
  refine j_iload_n dX0_findOrbit_28 rfl ?_
  refine j_aload_n dX0_findOrbit_29 rfl ?_
  refine j_getR dX0_findOrbit_30 f_X0_32 rfl rfl ?_
  refine j_getI (kz := 1) rfl dX0_findOrbit_33 f_X0_64 rfl rfl ?_
  refine j_icmp_ge 70 dX0_findOrbit_36 rfl (by unfold inR; omega) (by unfold inR; omega) (fun c36 => ?_) (fun c36 => ?_)
  · have hj : j = M 2 1 := by omega
    subst hj
    refine K M ws fr.rf (fun _ _ => rfl) hb (BfI_next hcl hx0 (fun g hg' => ?_)) (by omega)
    obtain ⟨j', a0, a1, rfl⟩ := hg'
    exact hjs j' a0 a1 x0 hx0
  · refine j_aload_n dX0_findOrbit_39 rfl ?_
    refine j_aload_n dX0_findOrbit_40 rfl ?_
    refine j_getR dX0_findOrbit_41 f_X0_28 rfl rfl ?_
    refine j_aload_n dX0_findOrbit_44 rfl ?_
    refine j_getR dX0_findOrbit_45 f_X0_32 rfl rfl ?_
    refine j_iload_n dX0_findOrbit_48 rfl ?_
    refine j_V1p dX0_findOrbit_49 ok_X2_codeAt v_X0_69 c_X2_codeAt rfl (e_X2_codeAt (by omega) (by omega)) ?_
    refine j_aload_n dX0_findOrbit_52 rfl ?_
    refine j_getR dX0_findOrbit_53 f_X0_22 rfl rfl ?_
    refine j_iload_n dX0_findOrbit_56 rfl ?_
    refine j_iald dX0_findOrbit_57 (by first | rfl | assumption) (by decide) (by omega) (by omega) ?_
    refine j_V2p dX0_findOrbit_58 ok_X5_imageOfCell v_X0_73 c_X5_imageOfCell rfl (e_X5_imageOfCell hL (hg.2 j h0 c36) hv1) ?_
    refine j_V1v dX0_findOrbit_61 ok_X0_reach v_X0_61 c_X0_reach rfl (e_X0_reach (c := sq (M 1 0) (M 1 1) (M 23 i) (M 3 j)) hb hcl.1 hwb (by have h9 := sc_b (k := M 1 0) (c := M 3 j) (q := M 23 i) hL.2.1; have h8 := hL.2.2.2.2; exact ⟨h9.1, by unfold sq; omega⟩)) (fun M61 q61 => ?_)
    refine j_iinc dX0_findOrbit_64 rfl (by decide) (nol rfl) (by simp only [List.set_cons_zero, List.set_cons_succ]; rfl) ?_
    refine j_goto 28 dX0_findOrbit_67 rfl ?_
    have f := q61.1
    have e1 : M61 1 = M 1 := f 1 (by decide)
    have e2 : M61 2 = M 2 := f 2 (by decide)
    have e3 : M61 3 = M 3 := f 3 (by decide)
    have hcl' : SqI M B s (add2 B ws (sq (M 1 0) (M 1 1) (M 23 i) (M 3 j))) i := BfI_add hcl (by omega) (by rw [ex]; exact hxm) ⟨j, h0, c36, rfl⟩ (sc_b hL.2.1)
    refine ih (j + 1) M61 _ (Lat_fr f (by decide) hL) (GV_fr f (by decide) (by decide) (by decide) hg) q61.2.2 (SqI_fr f (by decide) (by decide) (by decide) hcl') (by have := add2_len (B := B) (es := ws) (c := sq (M 1 0) (M 1 1) (M 23 i) (M 3 j)); omega) (fun j' h0' h1' y hy => ?_) (by omega) (by rw [e2]; omega) (by rw [e2]; omega) (fun M1 es1 f1 g1 b1 c1 l1 => ?_)
    · rw [e1, e3]
      have hx' := add2_get (B := B) (c := sq (M 1 0) (M 1 1) (M 23 i) (M 3 j)) hx0
      rw [hy] at hx'
      have hyx : y = x0 := Option.some.inj hx'
      rw [hyx]
      by_cases q : j' = j
      · subst q
        rw [← ex]
        exact add2_in
      · exact add2_sub (hjs j' h0' (by omega) x0 hx0)
    · rw [e2]
      exact K M1 es1 (f.tr f1) (fun j hj => (g1 j hj).trans (q61.2.1 j hj)) b1 c1 l1
theorem l_classify {s : Int} {B : List Int} {Q : Option PV → Mem → Prop} (m : Nat) : ∀ (i : Nat) (M : Mem) (ws : List Int) (w3 w4 : Option PV), Lat M → GV M → WS 10 7 13 14 300 M B ws → CjI M B s ws i → i ≤ ws.length → 300 - i < m → (∀ M1 ws1 (w3 w4 : Option PV), fr [10, 13, 14] M M1 → (∀ j : Int, j ≠ 7 → M1 10 j = M 10 j) → WS 10 7 13 14 300 M1 B ws1 → CjI M1 B s ws1 ws1.length → J SHC mi_X3_classify 97 [some (vR 10), some (vI s), some (vI ws1.length), w3, w4] [] M1 Q) → J SHC mi_X3_classify 12 [some (vR 10), some (vI s), some (vI i), w3, w4] [] M Q := by
  induction m with
  | zero =>
    intro i M ws w3 w4 hL _ _ hcl h1 h2
    have hlen := nd_len 300 ws hcl.1 (fun x hx => by have := CjI_b hL hcl x hx; omega)
    omega
  | succ m ih =>
  intro i M ws w3 w4 hL hg hb hcl h1 h2 K
  obtain ⟨hb1, hb2, hb3⟩ := id hb
  have hlen := nd_len 300 ws hcl.1 (fun x hx => by have := CjI_b hL hcl x hx; omega)
  refine j_iload_n dX3_classify_12 rfl ?_
  refine j_aload_n dX3_classify_13 rfl ?_
  refine j_getI (kz := 7) rfl dX3_classify_14 f_X3_81 rfl rfl ?_
  refine j_icmp_ge 97 dX3_classify_17 rfl (by unfold inR; omega) (by unfold inR; omega) (fun c17 => ?_) (fun c17 => ?_)
  · have hi : i = ws.length := by omega
    subst hi
    exact K M ws w3 w4 fr.rf (fun _ _ => rfl) hb hcl
  · refine j_iload_n dX3_classify_20 rfl ?_
    refine j_sipush dX3_classify_21 (by decide +kernel) ?_
    refine j_icmp_ge 97 dX3_classify_24 rfl (by unfold inR; omega) (by unfold inR; omega) (fun c24 => ?_) (fun c24 => ?_)
    · exfalso; omega
    · refine j_iconst dX3_classify_27 ?_
      refine j_istore_n dX3_classify_28 (by decide) (nol rfl) (by show List.set _ 3 _ = _; simp only [List.set_cons_zero, List.set_cons_succ]; rfl) ?_
      refine l_classify_in i 5 0 M ws _ hL hg hb hcl (by omega) (fun j' a b => by omega) (by omega) hg.1.1 (by have := hg.1.2; omega) (fun M1 es1 w9 f1 g1 b1 c1 l1 => ?_)
      refine j_iinc dX3_classify_91 rfl (by decide) (nol rfl) (by simp only [List.set_cons_zero, List.set_cons_succ]; rfl) ?_
      refine j_goto 12 dX3_classify_94 rfl ?_
      exact ih (i + 1) M1 es1 _ _ (Lat_fr f1 (by decide) hL) (GV_fr f1 (by decide) (by decide) (by decide) hg) b1 c1 l1 (by omega) (fun M2 es2 w3 w4 f2 g2 b2 c2 => K M2 es2 w3 w4 (f1.tr f2) (fun j hj => (g2 j hj).trans (g1 j hj)) b2 c2)
theorem l_findOrbit {s : Int} {B : List Int} {Q : Option PV → Mem → Prop} (m : Nat) : ∀ (i : Nat) (M : Mem) (ws : List Int) (w3 : Option PV), Lat M → GV M → WS 19 8 22 23 25 M B ws → SqI M B s ws i → i ≤ ws.length → 25 - i < m → (∀ M1 ws1 (w3 : Option PV), fr [19, 22, 23] M M1 → (∀ j : Int, j ≠ 8 → M1 19 j = M 19 j) → WS 19 8 22 23 25 M1 B ws1 → SqI M1 B s ws1 ws1.length → J SHC mi_X0_findOrbit 76 [some (vR 19), some (vI s), some (vI ws1.length), w3] [] M1 Q) → J SHC mi_X0_findOrbit 12 [some (vR 19), some (vI s), some (vI i), w3] [] M Q := by
  induction m with
  | zero =>
    intro i M ws w3 hL _ _ hcl h1 h2
    have hlen := nd_len 25 ws hcl.1 (fun x hx => by have := SqI_b hL hcl x hx; omega)
    omega
  | succ m ih =>
  intro i M ws w3 hL hg hb hcl h1 h2 K
  obtain ⟨hb1, hb2, hb3⟩ := id hb
  have hlen := nd_len 25 ws hcl.1 (fun x hx => by have := SqI_b hL hcl x hx; omega)
  refine j_iload_n dX0_findOrbit_12 rfl ?_
  refine j_aload_n dX0_findOrbit_13 rfl ?_
  refine j_getI (kz := 8) rfl dX0_findOrbit_14 f_X0_58 rfl rfl ?_
  refine j_icmp_ge 76 dX0_findOrbit_17 rfl (by unfold inR; omega) (by unfold inR; omega) (fun c17 => ?_) (fun c17 => ?_)
  · have hi : i = ws.length := by omega
    subst hi
    exact K M ws w3 fr.rf (fun _ _ => rfl) hb hcl
  · refine j_iload_n dX0_findOrbit_20 rfl ?_
    refine j_bipush dX0_findOrbit_21 (by decide +kernel) ?_
    refine j_icmp_ge 76 dX0_findOrbit_23 rfl (by unfold inR; omega) (by unfold inR; omega) (fun c23 => ?_) (fun c23 => ?_)
    · exfalso; omega
    · refine j_iconst dX0_findOrbit_26 ?_
      refine j_istore_n dX0_findOrbit_27 (by decide) (nol rfl) (by show List.set _ 3 _ = _; simp only [List.set_cons_zero, List.set_cons_succ]; rfl) ?_
      refine l_findOrbit_in i 5 0 M ws hL hg hb hcl (by omega) (fun j' a b => by omega) (by omega) hg.1.1 (by have := hg.1.2; omega) (fun M1 es1 f1 g1 b1 c1 l1 => ?_)
      refine j_iinc dX0_findOrbit_70 rfl (by decide) (nol rfl) (by simp only [List.set_cons_zero, List.set_cons_succ]; rfl) ?_
      refine j_goto 12 dX0_findOrbit_73 rfl ?_
      exact ih (i + 1) M1 es1 _ (Lat_fr f1 (by decide) hL) (GV_fr f1 (by decide) (by decide) (by decide) hg) b1 c1 l1 (by omega) (fun M2 es2 w3 f2 g2 b2 c2 => K M2 es2 w3 (f1.tr f2) (fun j hj => (g2 j hj).trans (g1 j hj)) b2 c2)
theorem e_X3_classify {M : Mem} {B : List Int} {s : Int} (hL : Lat M) (hg : GV M) (hm : MembN 13 300 M B) (hs : vc (M 1 0) (M 1 1) s) (hsB : s ∉ B) : J SHC mi_X3_classify 0 (ent [vR 10, vI s] 5) [] M (pv (fun M1 => fr [10, 13, 14] M M1 ∧ M1 10 6 = M 10 6 ∧ ∃ ws, MembN 13 300 M1 (B ++ ws) ∧ CjI M B s ws ws.length)) := by
  show J SHC mi_X3_classify 0 [some (vR 10), some (vI s), none, none, none] [] M _
  refine j_aload_n dX3_classify_0 rfl ?_
  refine j_iconst dX3_classify_1 ?_
  refine j_putI (kz := 7) rfl dX3_classify_2 g_X3_81 rfl rfl ?_
  refine j_aload_n dX3_classify_5 rfl ?_
  refine j_iload_n dX3_classify_6 rfl ?_
  refine j_V1v dX3_classify_7 ok_X3_admitToClass v_X3_84 c_X3_admitToClass rfl (e_X3_admitToClass (B := B) (ws := []) (c := s) ⟨by rw [wr_self]; rfl, fun j x hj => by simp at hj, by rw [List.append_nil]; exact MembN_eq hm (by funext j; exact wr_ne _ _ (by omega))⟩ (by simp) (fun x hx => by simp at hx) (vc_300 hL hs)) (fun M7 q7 => ?_)
  obtain ⟨f7, g7, b7⟩ := q7
  refine j_iconst dX3_classify_10 ?_
  refine j_istore_n dX3_classify_11 (by decide) (nol rfl) (by show List.set _ 2 _ = _; simp only [List.set_cons_zero, List.set_cons_succ]; rfl) ?_
  have fA : fr [10, 13, 14] M M7 := (fr.rf.w1 (by decide)).tr f7
  have ea : add2 B [] s = [s] := by unfold add2; rw [if_neg (by simpa using hsB)]; rfl
  rw [ea] at b7
  refine l_classify (B := B) 301 0 M7 [s] _ _ (Lat_fr fA (by decide) hL) (GV_fr fA (by decide) (by decide) (by decide) hg) b7 (CjI_fr fA (by decide) (by decide) (by decide) (BfI_one hs hsB)) (by simp) (by omega) (fun M1 ws1 w3 w4 f1 g1 b1 c1 => ?_)
  have fB := fA.tr f1
  have gs : ∀ {S : List Nat} {M M1 : Mem}, fr S M M1 → 1 ∉ S → 2 ∉ S → 3 ∉ S → CjI M1 B s ws1 ws1.length → CjI M B s ws1 ws1.length := fun h h1 h2 h3 hc => by
    unfold CjI at hc; rw [gP_fr h h2 h3, h 1 h1] at hc; exact hc
  refine j_vret dX3_classify_97 rfl ⟨rfl, fB, ?_, ws1, b1.2.2, gs fB (by decide) (by decide) (by decide) c1⟩
  rw [g1 6 (by decide), g7 6 (by decide), wr_ne _ _ (by omega)]
theorem l_findOrbit2 {s : Int} {ws : List Int} (hr : ∀ x ∈ ws, 0 ≤ x ∧ x < 25) (hl : ws.length ≤ 25) (m : Nat) : ∀ (i : Nat) (M : Mem) (w3 : Option PV), M 19 8 = ws.length → Elem 23 M ws → i ≤ ws.length → 25 - i < m → J SHC mi_X0_findOrbit 78 [some (vR 19), some (vI s), some (vI i), w3] [] M (pv (fun M1 => fr [20, 21] M M1 ∧ (∀ p ∈ ws.drop i, M1 20 p = s ∧ M1 21 p = ws.length) ∧ ∀ p, p ∉ ws.drop i → M1 20 p = M 20 p ∧ M1 21 p = M 21 p)) := by
  induction m with
  | zero => intro i M w3 _ _ h1 h2; omega
  | succ m ih =>
  intro i M w3 hb1 hb2 h1 h2
  have hx0 : i < ws.length → ∃ x0, ws[i]? = some x0 ∧ M 23 i = x0 ∧ 0 ≤ x0 ∧ x0 < 25 := fun hi => by
    have e : ws[i]? = some ws[i] := List.getElem?_eq_getElem hi
    have h9 := hr _ (List.mem_of_getElem? e)
    exact ⟨_, e, hb2 i _ e, h9.1, h9.2⟩
  refine j_iload_n dX0_findOrbit_78 rfl ?_
  refine j_aload_n dX0_findOrbit_79 rfl ?_
  refine j_getI (kz := 8) rfl dX0_findOrbit_80 f_X0_58 rfl rfl ?_
  refine j_icmp_ge 131 dX0_findOrbit_83 rfl (by first | (unfold inR; omega) | (obtain ⟨x0, a1, a2, a3, a4⟩ := hx0 (by omega); unfold inR; omega)) (by first | (unfold inR; omega) | (obtain ⟨x0, a1, a2, a3, a4⟩ := hx0 (by omega); unfold inR; omega)) (fun c83 => ?_) (fun c83 => ?_)
  · have hi : i = ws.length := by omega
    subst hi
    exact j_vret dX0_findOrbit_131 rfl ⟨rfl, fr.rf, fun p hp => by simp at hp, fun p hp => ⟨rfl, rfl⟩⟩
  · refine j_iload_n dX0_findOrbit_86 rfl ?_
    refine j_bipush dX0_findOrbit_87 (by decide +kernel) ?_
    refine j_icmp_ge 131 dX0_findOrbit_89 rfl (by first | (unfold inR; omega) | (obtain ⟨x0, a1, a2, a3, a4⟩ := hx0 (by omega); unfold inR; omega)) (by first | (unfold inR; omega) | (obtain ⟨x0, a1, a2, a3, a4⟩ := hx0 (by omega); unfold inR; omega)) (fun c89 => ?_) (fun c89 => ?_)
    · exfalso; omega
    · refine j_aload_n dX0_findOrbit_92 rfl ?_
      refine j_getR dX0_findOrbit_93 f_X0_22 rfl rfl ?_
      refine j_iload_n dX0_findOrbit_96 rfl ?_
      refine j_iald dX0_findOrbit_97 (by first | rfl | assumption) (by decide) (by first | omega | (obtain ⟨x0, a1, a2, a3, a4⟩ := hx0 (by omega); omega)) (by first | omega | (obtain ⟨x0, a1, a2, a3, a4⟩ := hx0 (by omega); omega)) ?_
      refine j_istore_n dX0_findOrbit_98 (by decide) (nol rfl) (by show List.set _ 3 _ = _; simp only [List.set_cons_zero, List.set_cons_succ]; rfl) ?_
      refine j_iload_n dX0_findOrbit_99 rfl ?_
      refine j_bipush dX0_findOrbit_100 (by decide +kernel) ?_
      refine j_N2z dX0_findOrbit_102 ok_X6_isInside n_X0_77 (e_isInside (by obtain ⟨x0, a1, a2, a3, a4⟩ := hx0 (by omega); unfold inR; omega) (by unfold inR; omega)) (fun z102 M102 q102 => ?_)
      obtain ⟨rfl, q102⟩ := q102
      refine j_if_eq 125 dX0_findOrbit_105 rfl (by first | (unfold inR; omega) | (obtain ⟨x0, a1, a2, a3, a4⟩ := hx0 (by omega); unfold inR; omega)) (fun c105 => ?_) (fun c105 => ?_)
      · exfalso
        obtain ⟨x0, a1, a2, a3, a4⟩ := hx0 (by omega)
        omega
      · refine j_aload_n dX0_findOrbit_108 rfl ?_
        refine j_getR dX0_findOrbit_109 f_X0_9 rfl rfl ?_
        refine j_iload_n dX0_findOrbit_112 rfl ?_
        refine j_iload_n dX0_findOrbit_113 rfl ?_
        refine j_iast dX0_findOrbit_114 (by first | rfl | assumption) (by decide) (by first | omega | (obtain ⟨x0, a1, a2, a3, a4⟩ := hx0 (by omega); omega)) (by first | omega | (obtain ⟨x0, a1, a2, a3, a4⟩ := hx0 (by omega); omega)) ?_
        refine j_aload_n dX0_findOrbit_115 rfl ?_
        refine j_getR dX0_findOrbit_116 f_X0_15 rfl rfl ?_
        refine j_iload_n dX0_findOrbit_119 rfl ?_
        refine j_aload_n dX0_findOrbit_120 rfl ?_
        refine j_getI (kz := 8) rfl dX0_findOrbit_121 f_X0_58 rfl rfl ?_
        refine j_iast dX0_findOrbit_124 (by first | rfl | assumption) (by decide) (by first | omega | (obtain ⟨x0, a1, a2, a3, a4⟩ := hx0 (by omega); omega)) (by first | omega | (obtain ⟨x0, a1, a2, a3, a4⟩ := hx0 (by omega); omega)) ?_
        obtain ⟨x0, a1, a2, a3, a4⟩ := hx0 (by omega)
        have ec : wr M 20 (M 23 i) s 19 8 = M 19 8 := wr_ne _ _ (by omega)
        refine j_iinc dX0_findOrbit_125 rfl (by decide) (nol rfl) (by simp only [List.set_cons_zero, List.set_cons_succ]; rfl) ?_
        refine j_goto 78 dX0_findOrbit_128 rfl ?_
        refine j_mono ?_ (ih (i + 1) (wr (wr M 20 (M 23 i) s) 21 (M 23 i) (wr M 20 (M 23 i) s 19 8)) _ (by rw [wr_ne _ _ (by omega), ec]; exact hb1) (Elem_eq hb2 (by funext j; rw [wr_ne _ _ (by omega), wr_ne _ _ (by omega)])) (by omega) (by omega))
        rintro v M1 ⟨rfl, hf, h1', h2'⟩
        have hd : ws.drop i = x0 :: ws.drop (i + 1) := by
          rw [List.drop_eq_getElem_cons (List.getElem?_eq_some_iff.mp a1).1]
          rw [(List.getElem?_eq_some_iff.mp a1).2]
        refine ⟨rfl, ((fr.rf.w1 (by decide)).w1 (by decide)).tr hf, fun p hp => ?_, fun p hp => ?_⟩
        · by_cases q : p ∈ ws.drop (i + 1)
          · exact h1' p q
          · have hpx : p = x0 := by
              rw [hd] at hp
              rcases List.mem_cons.mp hp with h | h
              · exact h
              · exact absurd h q
            obtain ⟨b1, b2⟩ := h2' p q
            rw [b1, b2, hpx, ← a2]
            exact ⟨by rw [wr_ne _ _ (by omega), wr_self], by rw [wr_self, ec, hb1]⟩
        · rw [hd] at hp
          simp only [List.mem_cons, not_or] at hp
          obtain ⟨b1, b2⟩ := h2' p hp.2
          rw [b1, b2]
          have hne : ¬ p = M 23 i := by rw [a2]; exact hp.1
          exact ⟨by rw [wr_ne _ _ (by omega), wr_ne _ _ (fun z => hne z.2)], by rw [wr_ne _ _ (fun z => hne z.2), wr_ne _ _ (by omega)]⟩
theorem e_X0_findOrbit {M : Mem} {B : List Int} {s : Int} (hL : Lat M) (hg : GV M) (hm : MembN 22 25 M B) (hs : 0 ≤ s ∧ s < M 1 1 * M 1 1) (hsB : s ∉ B) : J SHC mi_X0_findOrbit 0 (ent [vR 19, vI s] 4) [] M (pv (fun M1 => fr [19, 20, 21, 22, 23] M M1 ∧ M1 19 9 = M 19 9 ∧ ∃ ws, MembN 22 25 M1 (B ++ ws) ∧ SqI M B s ws ws.length ∧ (∀ p ∈ ws, M1 20 p = s ∧ M1 21 p = ws.length) ∧ ∀ p, p ∉ ws → M1 20 p = M 20 p ∧ M1 21 p = M 21 p)) := by
  have hs25 : 0 ≤ s ∧ s < 25 := ⟨hs.1, by have := hL.2.2.2.2; omega⟩
  show J SHC mi_X0_findOrbit 0 [some (vR 19), some (vI s), none, none] [] M _
  refine j_aload_n dX0_findOrbit_0 rfl ?_
  refine j_iconst dX0_findOrbit_1 ?_
  refine j_putI (kz := 8) rfl dX0_findOrbit_2 g_X0_58 rfl rfl ?_
  refine j_aload_n dX0_findOrbit_5 rfl ?_
  refine j_iload_n dX0_findOrbit_6 rfl ?_
  refine j_V1v dX0_findOrbit_7 ok_X0_reach v_X0_61 c_X0_reach rfl (e_X0_reach (B := B) (ws := []) (c := s) ⟨by rw [wr_self]; rfl, fun j x hj => by simp at hj, by rw [List.append_nil]; exact MembN_eq hm (by funext j; exact wr_ne _ _ (by omega))⟩ (by simp) (fun x hx => by simp at hx) hs25) (fun M7 q7 => ?_)
  obtain ⟨f7, g7, b7⟩ := q7
  refine j_iconst dX0_findOrbit_10 ?_
  refine j_istore_n dX0_findOrbit_11 (by decide) (nol rfl) (by show List.set _ 2 _ = _; simp only [List.set_cons_zero, List.set_cons_succ]; rfl) ?_
  have fA : fr [19, 22, 23] M M7 := (fr.rf.w1 (by decide)).tr f7
  have ea : add2 B [] s = [s] := by unfold add2; rw [if_neg (by simpa using hsB)]; rfl
  rw [ea] at b7
  refine l_findOrbit (B := B) 26 0 M7 [s] _ (Lat_fr fA (by decide) hL) (GV_fr fA (by decide) (by decide) (by decide) hg) b7 (SqI_fr fA (by decide) (by decide) (by decide) (BfI_one hs hsB)) (by simp) (by omega) (fun M1 ws1 w3 f1 g1 b1 c1 => ?_)
  have fB := fA.tr f1
  have gs : ∀ {S : List Nat} {M M1 : Mem}, fr S M M1 → 1 ∉ S → 2 ∉ S → 3 ∉ S → SqI M1 B s ws1 ws1.length → SqI M B s ws1 ws1.length := fun h h1 h2 h3 hc => by
    unfold SqI at hc; rw [gP_fr h h2 h3, h 1 h1] at hc; exact hc
  have cM := gs fB (by decide) (by decide) (by decide) c1
  have hwb := SqI_b hL cM
  refine j_iconst dX0_findOrbit_76 ?_
  refine j_istore_n dX0_findOrbit_77 (by decide) (nol rfl) (by show List.set _ 2 _ = _; simp only [List.set_cons_zero, List.set_cons_succ]; rfl) ?_
  refine j_mono ?_ (l_findOrbit2 (s := s) (ws := ws1) hwb (nd_len 25 ws1 cM.1 hwb) 26 0 M1 w3 b1.1 b1.2.1 (by omega) (by omega))
  rintro v M2 ⟨rfl, hf, h1', h2'⟩
  rw [List.drop_zero] at h1' h2'
  refine ⟨rfl, (fB.up (by decide)).tr (hf.up (by decide)), ?_, ws1, MembN_eq b1.2.2 (hf 22 (by decide)), cM, h1', fun p hp => ?_⟩
  · rw [hf 19 (by decide), g1 9 (by decide), g7 9 (by decide), wr_ne _ _ (by omega)]
  · obtain ⟨b1', b2'⟩ := h2' p hp
    rw [b1', b2', fB 20 (by decide), fB 21 (by decide)]
    exact ⟨rfl, rfl⟩
end
section
/-! countConjugacyClasses, findOrbits, commutes -/
def CjP (M : Mem) (wss : List (List Int)) : Prop := ∀ m ws, wss[m]? = some ws → ∃ s, CjI M (wss.take m).flatten s ws ws.length
def OrbP (M : Mem) (wss : List (List Int)) : Prop := ∀ m ws, wss[m]? = some ws → ∃ s, SqI M (wss.take m).flatten s ws ws.length ∧ (∀ p ∈ ws, M 20 p = s ∧ M 21 p = ws.length) ∧ ∀ p : Int, 0 ≤ p → p < s → p ∈ (wss.take m).flatten
theorem flat_push (wss : List (List Int)) (ws : List Int) : (wss ++ [ws]).flatten = wss.flatten ++ ws := by simp
theorem push_get {α : Type} {l : List α} {a b : α} {m : Nat} (h : (l ++ [a])[m]? = some b) : (m < l.length ∧ l[m]? = some b ∧ (l ++ [a]).take m = l.take m) ∨ (m = l.length ∧ b = a ∧ (l ++ [a]).take m = l) := by
  by_cases hl : m < l.length
  · left
    rw [List.getElem?_append_left hl] at h
    exact ⟨hl, h, by rw [List.take_append_of_le_length (by omega)]⟩
  · right
    rw [List.getElem?_append_right (by omega)] at h
    have h0 : m - l.length < 1 := (List.getElem?_eq_some_iff.mp h).1
    have h1 : m = l.length := by omega
    subst h1
    simp at h
    exact ⟨rfl, h.symm, by simp⟩
theorem CjP_push {M : Mem} {wss : List (List Int)} {ws : List Int} {s : Int} (h : CjP M wss) (hw : CjI M wss.flatten s ws ws.length) : CjP M (wss ++ [ws]) := by
  intro m w hm
  rcases push_get hm with ⟨h1, h2, h3⟩ | ⟨h1, h2, h3⟩
  · rw [h3]; exact h m w h2
  · rw [h3, h2]; exact ⟨s, hw⟩
theorem CjP_fr {S : List Nat} {M M1 : Mem} (h : fr S M M1) (h1 : 1 ∉ S) (h2 : 2 ∉ S) (h3 : 3 ∉ S) {wss : List (List Int)} : CjP M1 wss ↔ CjP M wss := by
  unfold CjP CjI; rw [gP_fr h h2 h3, h 1 h1]
theorem OrbP_push {M M1 : Mem} {wss : List (List Int)} {ws : List Int} {s : Int} (hf : fr [19, 20, 21, 22, 23] M M1) (h : OrbP M wss) (hw : SqI M wss.flatten s ws ws.length) (h1 : ∀ p ∈ ws, M1 20 p = s ∧ M1 21 p = ws.length) (h2 : ∀ p, p ∉ ws → M1 20 p = M 20 p ∧ M1 21 p = M 21 p) (h3 : ∀ p : Int, 0 ≤ p → p < s → p ∈ wss.flatten) : OrbP M1 (wss ++ [ws]) := by
  intro m w hm
  have e : ∀ B s ws i, SqI M B s ws i → SqI M1 B s ws i := fun B s ws i hc => SqI_fr hf (by decide) (by decide) (by decide) hc
  rcases push_get hm with ⟨a1, a2, a3⟩ | ⟨a1, a2, a3⟩
  · rw [a3]
    obtain ⟨s', b1, b2, b3⟩ := h m w a2
    refine ⟨s', e _ _ _ _ b1, fun p hp => ?_, b3⟩
    have hpB : p ∈ wss.flatten := List.mem_flatten.mpr ⟨w, List.mem_of_getElem? a2, hp⟩
    have hpw : p ∉ ws := fun q => hw.2.2.1 p q hpB
    rw [(h2 p hpw).1, (h2 p hpw).2]
    exact b2 p hp
  · rw [a3, a2]
    exact ⟨s, e _ _ _ _ hw, h1, h3⟩

theorem l_conj {GL : List Int} (hGL : GL.length ≤ 300) (m : Nat) : ∀ (i : Nat) (M : Mem) (wss : List (List Int)) (w3 : Option PV), Lat M → GV M → M 10 6 = GL.length → Elem 12 M GL → (∀ x ∈ GL, vc (M 1 0) (M 1 1) x) → MembN 13 300 M wss.flatten → CjP M wss → (∀ j, j < i → ∀ x, GL[j]? = some x → x ∈ wss.flatten) → i ≤ GL.length → 300 - i < m → J SHC mi_X3_countConjugacyClasses 11 [some (vR 10), some (vI wss.length), some (vI i), w3] [] M (pz (fun z M1 => fr [10, 13, 14] M M1 ∧ M1 10 6 = M 10 6 ∧ ∃ wss : List (List Int), z = wss.length ∧ CjP M wss ∧ ∀ x ∈ GL, x ∈ wss.flatten)) := by
  induction m with
  | zero => intro i M wss w3 _ _ _ _ _ _ _ _ h1 h2; omega
  | succ m ih =>
  intro i M wss w3 hL hg hc he hv hm hp hj h1 h2
  have hlt : i < GL.length → 300 - (i + 1) < m := fun h => by omega
  have hx0 : i < GL.length → ∃ x0, GL[i]? = some x0 ∧ M 12 i = x0 ∧ vc (M 1 0) (M 1 1) x0 ∧ 0 ≤ x0 ∧ x0 < 300 := fun hi => by
    have e : GL[i]? = some GL[i] := List.getElem?_eq_getElem hi
    have h9 := hv _ (List.mem_of_getElem? e)
    exact ⟨_, e, he i _ e, h9, vc_300 hL h9⟩
  refine j_iload_n dX3_countConjugacyClasses_11 rfl ?_
  refine j_aload_n dX3_countConjugacyClasses_12 rfl ?_
  refine j_getI (kz := 6) rfl dX3_countConjugacyClasses_13 f_X3_33 rfl rfl ?_
  refine j_icmp_ge 66 dX3_countConjugacyClasses_16 rfl (by first | (unfold inR; omega) | (obtain ⟨x0, a1, a2, a3, a4, a5⟩ := hx0 (by omega); have := hm (M 12 i) (by omega) (by omega); unfold inR; omega)) (by first | (unfold inR; omega) | (obtain ⟨x0, a1, a2, a3, a4, a5⟩ := hx0 (by omega); have := hm (M 12 i) (by omega) (by omega); unfold inR; omega)) (fun c16 => ?_) (fun c16 => ?_)
  · have hi : i = GL.length := by omega
    subst hi
    refine j_iload_n dX3_countConjugacyClasses_66 rfl ?_
    refine j_iret dX3_countConjugacyClasses_67 rfl ⟨_, rfl, fr.rf, rfl, wss, rfl, hp, fun x hx => ?_⟩
    obtain ⟨j, hjx⟩ := List.getElem?_of_mem hx
    exact hj j (List.getElem?_eq_some_iff.mp hjx).1 x hjx
  · refine j_iload_n dX3_countConjugacyClasses_19 rfl ?_
    refine j_sipush dX3_countConjugacyClasses_20 (by decide +kernel) ?_
    refine j_icmp_ge 66 dX3_countConjugacyClasses_23 rfl (by first | (unfold inR; omega) | (obtain ⟨x0, a1, a2, a3, a4, a5⟩ := hx0 (by omega); have := hm (M 12 i) (by omega) (by omega); unfold inR; omega)) (by first | (unfold inR; omega) | (obtain ⟨x0, a1, a2, a3, a4, a5⟩ := hx0 (by omega); have := hm (M 12 i) (by omega) (by omega); unfold inR; omega)) (fun c23 => ?_) (fun c23 => ?_)
    · exfalso; omega
    · refine j_aload_n dX3_countConjugacyClasses_26 rfl ?_
      refine j_getR dX3_countConjugacyClasses_27 f_X3_15 rfl rfl ?_
      refine j_iload_n dX3_countConjugacyClasses_30 rfl ?_
      refine j_iald dX3_countConjugacyClasses_31 (by first | rfl | assumption) (by decide) (by first | omega | (obtain ⟨x0, a1, a2, a3, a4⟩ := hx0 (by omega); omega)) (by first | omega | (obtain ⟨x0, a1, a2, a3, a4⟩ := hx0 (by omega); omega)) ?_
      refine j_istore_n dX3_countConjugacyClasses_32 (by decide) (nol rfl) (by show List.set _ 3 _ = _; simp only [List.set_cons_zero, List.set_cons_succ]; rfl) ?_
      refine j_iload_n dX3_countConjugacyClasses_33 rfl ?_
      refine j_sipush dX3_countConjugacyClasses_34 (by decide +kernel) ?_
      refine j_N2z dX3_countConjugacyClasses_37 ok_X6_isInside n_X3_37 (e_isInside (by obtain ⟨x0, a1, a2, a3, a4⟩ := hx0 (by omega); unfold inR; omega) (by unfold inR; omega)) (fun z37 M37 q37 => ?_)
      obtain ⟨rfl, q37⟩ := q37
      refine j_if_eq 60 dX3_countConjugacyClasses_40 rfl (by first | (unfold inR; omega) | (obtain ⟨x0, a1, a2, a3, a4, a5⟩ := hx0 (by omega); have := hm (M 12 i) (by omega) (by omega); unfold inR; omega)) (fun c40 => ?_) (fun c40 => ?_)
      · exfalso
        obtain ⟨x0, a1, a2, a3, a4⟩ := hx0 (by omega)
        omega
      · refine j_aload_n dX3_countConjugacyClasses_43 rfl ?_
        refine j_getR dX3_countConjugacyClasses_44 f_X3_19 rfl rfl ?_
        refine j_iload_n dX3_countConjugacyClasses_47 rfl ?_
        refine j_bald dX3_countConjugacyClasses_48 (by first | rfl | assumption) (by decide) (by first | omega | (obtain ⟨x0, a1, a2, a3, a4⟩ := hx0 (by omega); omega)) (by first | omega | (obtain ⟨x0, a1, a2, a3, a4⟩ := hx0 (by omega); omega)) ?_
        refine j_if_ne 60 dX3_countConjugacyClasses_49 rfl (by first | (unfold inR; omega) | (obtain ⟨x0, a1, a2, a3, a4, a5⟩ := hx0 (by omega); have := hm (M 12 i) (by omega) (by omega); unfold inR; omega)) (fun c49 => ?_) (fun c49 => ?_)
        · obtain ⟨x0, a1, a2, a3, a4, a5⟩ := hx0 (by omega)
          refine j_iinc dX3_countConjugacyClasses_60 rfl (by decide) (nol rfl) (by simp only [List.set_cons_zero, List.set_cons_succ]; rfl) ?_
          refine j_goto 11 dX3_countConjugacyClasses_63 rfl ?_
          refine ih (i + 1) M wss _ hL hg hc he hv hm hp (fun j hj' x hx => ?_) (by omega) (hlt (by omega))
          by_cases q : j = i
          · subst q
            rw [a1] at hx
            cases hx
            rcases hm (M 12 j) (by omega) (by omega) with h | h
            · rw [← a2]; exact h.2
            · exact absurd h.1 c49
          · exact hj j (by omega) x hx
        · refine j_iinc dX3_countConjugacyClasses_52 rfl (by decide) (nol rfl) (by simp only [List.set_cons_zero, List.set_cons_succ]; rfl) ?_
          refine j_aload_n dX3_countConjugacyClasses_55 rfl ?_
          refine j_iload_n dX3_countConjugacyClasses_56 rfl ?_
          refine j_V1v dX3_countConjugacyClasses_57 ok_X3_classify v_X3_78 c_X3_classify rfl (e_X3_classify (B := wss.flatten) (s := M 12 i) hL hg hm (by obtain ⟨x0, a1, a2, a3, a4⟩ := hx0 (by omega); rw [a2]; exact a3) (by obtain ⟨x0, a1, a2, a3, a4, a5⟩ := hx0 (by omega); rcases hm (M 12 i) (by omega) (by omega) with h | h; (exfalso; omega); exact h.2)) (fun M57 q57 => ?_)
          obtain ⟨x0, a1, a2, a3, a4, a5⟩ := hx0 (by omega)
          obtain ⟨f, g6, ws, w1, w2⟩ := q57
          refine j_iinc dX3_countConjugacyClasses_60 rfl (by decide) (nol rfl) (by simp only [List.set_cons_zero, List.set_cons_succ]; rfl) ?_
          refine j_goto 11 dX3_countConjugacyClasses_63 rfl ?_
          have e1 : M57 1 = M 1 := f 1 (by decide)
          have hi := ih (i + 1) M57 (wss ++ [ws]) (some (vI (M 12 i))) (Lat_fr f (by decide) hL) (GV_fr f (by decide) (by decide) (by decide) hg) (by rw [g6]; exact hc) (Elem_eq he (f 12 (by decide))) (by rw [e1]; exact hv) (by rw [flat_push]; exact w1) ((CjP_fr f (by decide) (by decide) (by decide)).mpr (CjP_push hp w2)) (fun j hj' x hx => ?_) (by omega) (by omega)
          · rw [List.length_append] at hi
            refine j_mono ?_ hi
            rintro v M1 ⟨z, rfl, f1, g1, wss1, b1, b2, b3⟩
            exact ⟨z, rfl, f.tr f1, g1.trans g6, wss1, b1, (CjP_fr f (by decide) (by decide) (by decide)).mp b2, b3⟩
          · rw [flat_push]
            by_cases q : j = i
            · subst q
              rw [a1] at hx
              cases hx
              exact List.mem_append.mpr (Or.inr (by rw [← a2]; exact w2.2.2.2.1))
            · exact List.mem_append.mpr (Or.inl (hj j (by omega) x hx))
theorem e_X3_conj {M : Mem} {GL : List Int} (hGL : GL.length ≤ 300) (hL : Lat M) (hg : GV M) (hc : M 10 6 = GL.length) (he : Elem 12 M GL) (hv : ∀ x ∈ GL, vc (M 1 0) (M 1 1) x) : J SHC mi_X3_countConjugacyClasses 0 (ent [vR 10] 4) [] M (pz (fun z M1 => fr [10, 13, 14] M M1 ∧ M1 10 6 = M 10 6 ∧ ∃ wss : List (List Int), z = wss.length ∧ CjP M wss ∧ ∀ x ∈ GL, x ∈ wss.flatten)) := by
  show J SHC mi_X3_countConjugacyClasses 0 [some (vR 10), none, none, none] [] M _
  refine j_aload_n dX3_countConjugacyClasses_0 rfl ?_
  refine j_getR dX3_countConjugacyClasses_1 f_X3_19 rfl rfl ?_
  refine j_N1v dX3_countConjugacyClasses_4 ok_X6_clearMarks n_X3_55 (e_clearMarks (r := 13) (len := 300) rfl (by decide)) (fun M4 q4 => ?_)
  obtain ⟨f4, g4⟩ := q4
  refine j_iconst dX3_countConjugacyClasses_7 ?_
  refine j_istore_n dX3_countConjugacyClasses_8 (by decide) (nol rfl) (by show List.set _ 1 _ = _; simp only [List.set_cons_zero, List.set_cons_succ]; rfl) ?_
  refine j_iconst dX3_countConjugacyClasses_9 ?_
  refine j_istore_n dX3_countConjugacyClasses_10 (by decide) (nol rfl) (by show List.set _ 2 _ = _; simp only [List.set_cons_zero, List.set_cons_succ]; rfl) ?_
  have e1 : M4 1 = M 1 := f4 1 (by decide)
  have h0 := l_conj hGL 301 0 M4 [] none (Lat_fr f4 (by decide) hL) (GV_fr f4 (by decide) (by decide) (by decide) hg) (by rw [f4 10 (by decide)]; exact hc) (Elem_eq he (f4 12 (by decide))) (by rw [e1]; exact hv) (fun c a b => Or.inr ⟨by rw [g4, if_pos ⟨a, b⟩], by simp⟩) (fun m ws hm => by simp at hm) (fun j hj => by omega) (by omega) (by omega)
  refine j_mono ?_ h0
  rintro v M1 ⟨z, rfl, f1, g1, wss1, b1, b2, b3⟩
  exact ⟨z, rfl, (f4.up (by decide)).tr f1, by rw [g1, f4 10 (by decide)], wss1, b1, (CjP_fr f4 (by decide) (by decide) (by decide)).mp b2, b3⟩
theorem l_orbs (m : Nat) : ∀ (q : Nat) (M : Mem) (wss : List (List Int)), Lat M → GV M → M 19 9 = wss.length → MembN 22 25 M wss.flatten → OrbP M wss → (∀ p : Int, 0 ≤ p → p < q → p ∈ wss.flatten) → q ≤ M 1 1 * M 1 1 → 25 - q < m → J SHC mi_X0_findOrbits 14 [some (vR 19), some (vI q)] [] M (pv (fun M1 => fr [19, 20, 21, 22, 23] M M1 ∧ ∃ wss : List (List Int), M1 19 9 = wss.length ∧ OrbP M1 wss ∧ ∀ p : Int, 0 ≤ p → p < M 1 1 * M 1 1 → p ∈ wss.flatten)) := by
  induction m with
  | zero => intro q M wss hL _ _ _ _ _ h1 h2; have := hL.2.2.2.2; omega
  | succ m ih =>
  intro q M wss hL hg hc hm hp hj h1 h2
  have h25 := hL.2.2.2.2
  have hc1 := hL.2.2.2.1
  refine j_iload_n dX0_findOrbits_14 rfl ?_
  refine j_aload_n dX0_findOrbits_15 rfl ?_
  refine j_getR dX0_findOrbits_16 f_X0_28 rfl rfl ?_
  refine j_V0p dX0_findOrbits_19 ok_X5_cellCount v_X0_48 c_X5_cellCount rfl (e_X5_cellCount hL) ?_
  refine j_icmp_ge 61 dX0_findOrbits_22 rfl (by first | (unfold inR; omega) | (have := hm q (by omega) (by omega); unfold inR; omega)) (by first | (unfold inR; omega) | (have := hm q (by omega) (by omega); unfold inR; omega)) (fun c22 => ?_) (fun c22 => ?_)
  · refine j_vret dX0_findOrbits_61 rfl ⟨rfl, fr.rf, wss, hc, hp, fun p a b => hj p a (by omega)⟩
  · refine j_iload_n dX0_findOrbits_25 rfl ?_
    refine j_bipush dX0_findOrbits_26 (by decide +kernel) ?_
    refine j_icmp_ge 61 dX0_findOrbits_28 rfl (by first | (unfold inR; omega) | (have := hm q (by omega) (by omega); unfold inR; omega)) (by first | (unfold inR; omega) | (have := hm q (by omega) (by omega); unfold inR; omega)) (fun c28 => ?_) (fun c28 => ?_)
    · exfalso; omega
    · refine j_aload_n dX0_findOrbits_31 rfl ?_
      refine j_getR dX0_findOrbits_32 f_X0_18 rfl rfl ?_
      refine j_iload_n dX0_findOrbits_35 rfl ?_
      refine j_bald dX0_findOrbits_36 (by first | rfl | assumption) (by decide) (by omega) (by omega) ?_
      refine j_if_ne 55 dX0_findOrbits_37 rfl (by first | (unfold inR; omega) | (have := hm q (by omega) (by omega); unfold inR; omega)) (fun c37 => ?_) (fun c37 => ?_)
      · refine j_iinc dX0_findOrbits_55 rfl (by decide) (nol rfl) (by simp only [List.set_cons_zero, List.set_cons_succ]; rfl) ?_
        refine j_goto 14 dX0_findOrbits_58 rfl ?_
        refine ih (q + 1) M wss hL hg hc hm hp (fun p a b => ?_) (by omega) (by omega)
        by_cases e : p = q
        · subst e
          rcases hm (q : Int) (by omega) (by omega) with h | h
          · exact h.2
          · exact absurd h.1 c37
        · exact hj p a (by omega)
      · refine j_aload_n dX0_findOrbits_40 rfl ?_
        refine j_dup dX0_findOrbits_41 (fun _ h => by cases h) ?_
        refine j_getI (kz := 9) rfl dX0_findOrbits_42 f_X0_44 rfl rfl ?_
        refine j_iconst dX0_findOrbits_45 ?_
        refine j_iadd dX0_findOrbits_46 ?_
        refine j_putI (kz := 9) rfl dX0_findOrbits_47 g_X0_44 rfl rfl ?_
        refine j_aload_n dX0_findOrbits_50 rfl ?_
        refine j_iload_n dX0_findOrbits_51 rfl ?_
        refine j_V1v dX0_findOrbits_52 ok_X0_findOrbit v_X0_54 c_X0_findOrbit rfl (e_X0_findOrbit (B := wss.flatten) (s := q) (Lat_fr (fr.rf.w1 (S := [19]) (by decide)) (by decide) hL) (GV_fr (fr.rf.w1 (S := [19]) (by decide)) (by decide) (by decide) (by decide) hg) (MembN_eq hm (by funext j; exact wr_ne _ _ (by omega))) (by rw [wr_ne _ _ (by omega)]; omega) (by rcases hm q (by omega) (by omega) with h | h; (exfalso; omega); exact h.2)) (fun M52 q52 => ?_)
        obtain ⟨f, g9, ws, w1, w2, w3, w4⟩ := q52
        have fA : fr [19] M (wr M 19 9 (M 19 9 + 1)) := fr.rf.w1 (by decide)
        have fB : fr [19, 20, 21, 22, 23] M M52 := (fA.up (by decide)).tr f
        have e1 : M52 1 = M 1 := fB 1 (by decide)
        have hw : SqI M wss.flatten q ws ws.length := by
          unfold SqI at w2 ⊢
          rw [gP_fr fA (by decide) (by decide), fA 1 (by decide)] at w2
          exact w2
        have hp' := OrbP_push fB hp hw w3 (fun p hpw => by
          obtain ⟨a, b⟩ := w4 p hpw
          rw [a, b]
          exact ⟨wr_ne _ _ (by omega), wr_ne _ _ (by omega)⟩) hj
        refine j_iinc dX0_findOrbits_55 rfl (by decide) (nol rfl) (by simp only [List.set_cons_zero, List.set_cons_succ]; rfl) ?_
        refine j_goto 14 dX0_findOrbits_58 rfl ?_
        refine j_mono ?_ (ih (q + 1) M52 (wss ++ [ws]) (Lat_fr fB (by decide) hL) (GV_fr fB (by decide) (by decide) (by decide) hg) (by rw [g9, wr_self, hc]; simp) (by rw [flat_push]; exact w1) hp' (fun p a b => ?_) (by rw [e1]; omega) (by omega))
        · rintro v M1 ⟨rfl, f1, wss1, b1, b2, b3⟩
          rw [e1] at b3
          exact ⟨rfl, fB.tr f1, wss1, b1, b2, b3⟩
        · rw [flat_push]
          by_cases e : p = q
          · subst e
            exact List.mem_append.mpr (Or.inr w2.2.2.2.1)
          · exact List.mem_append.mpr (Or.inl (hj p a (by omega)))
theorem e_X0_findOrbits {M : Mem} (hL : Lat M) (hg : GV M) : J SHC mi_X0_findOrbits 0 (ent [vR 19] 2) [] M (pv (fun M1 => fr [19, 20, 21, 22, 23] M M1 ∧ ∃ wss : List (List Int), M1 19 9 = wss.length ∧ OrbP M1 wss ∧ ∀ p : Int, 0 ≤ p → p < M 1 1 * M 1 1 → p ∈ wss.flatten)) := by
  show J SHC mi_X0_findOrbits 0 [some (vR 19), none] [] M _
  refine j_aload_n dX0_findOrbits_0 rfl ?_
  refine j_getR dX0_findOrbits_1 f_X0_18 rfl rfl ?_
  refine j_N1v dX0_findOrbits_4 ok_X6_clearMarks n_X0_40 (e_clearMarks (r := 22) (len := 25) rfl (by decide)) (fun M4 q4 => ?_)
  obtain ⟨f4, g4⟩ := q4
  refine j_aload_n dX0_findOrbits_7 rfl ?_
  refine j_iconst dX0_findOrbits_8 ?_
  refine j_putI (kz := 9) rfl dX0_findOrbits_9 g_X0_44 rfl rfl ?_
  refine j_iconst dX0_findOrbits_12 ?_
  refine j_istore_n dX0_findOrbits_13 (by decide) (nol rfl) (by show List.set _ 1 _ = _; simp only [List.set_cons_zero, List.set_cons_succ]; rfl) ?_
  have fA : fr [19, 22] M (wr M4 19 9 0) := (f4.up (by decide)).w1 (by decide)
  have e1 : wr M4 19 9 0 1 = M 1 := fA 1 (by decide)
  refine j_mono ?_ (l_orbs 26 0 (wr M4 19 9 0) [] (Lat_fr fA (by decide) hL) (GV_fr fA (by decide) (by decide) (by decide) hg) (by rw [wr_self]; rfl) (fun c a b => Or.inr ⟨by rw [wr_ne _ _ (by omega), g4, if_pos ⟨a, b⟩], by simp⟩) (fun m ws hm => by simp at hm) (fun p a b => by omega) (by rw [e1]; have := hL.2.2.2.1; omega) (by omega))
  rintro v M1 ⟨rfl, f1, wss1, b1, b2, b3⟩
  rw [e1] at b3
  exact ⟨rfl, (fA.up (by decide)).tr f1, wss1, b1, b2, b3⟩
theorem l_comm_in {M : Mem} {i : Int} (hL : Lat M) (hg : GV M) (hi : 0 ≤ i ∧ i < M 2 1) (m : Nat) : ∀ (j : Int) (w3 w4 : Option PV), 0 ≤ j → j ≤ i → i - j < m → (∀ b, 0 ≤ b → b < j → tm (M 1 0) (M 1 1) (M 3 i) (M 3 b) = tm (M 1 0) (M 1 1) (M 3 b) (M 3 i)) → (∀ (w2 w3 w4 : Option PV), (∀ b, 0 ≤ b → b < i → tm (M 1 0) (M 1 1) (M 3 i) (M 3 b) = tm (M 1 0) (M 1 1) (M 3 b) (M 3 i)) → J SHC mi_X3_commutes 70 [some (vR 10), some (vI i), w2, w3, w4] [] M (bz (∀ a b : Int, 0 ≤ a → a < M 2 1 → 0 ≤ b → b < a → tm (M 1 0) (M 1 1) (M 3 a) (M 3 b) = tm (M 1 0) (M 1 1) (M 3 b) (M 3 a)) M)) → J SHC mi_X3_commutes 15 [some (vR 10), some (vI i), some (vI j), w3, w4] [] M (bz (∀ a b : Int, 0 ≤ a → a < M 2 1 → 0 ≤ b → b < a → tm (M 1 0) (M 1 1) (M 3 a) (M 3 b) = tm (M 1 0) (M 1 1) (M 3 b) (M 3 a)) M) := by
  induction m with
  | zero => intro j w3 w4 h0 h1 h2; omega
  | succ m ih =>
  intro j w3 w4 h0 h1 h2 h3 K
  have hg2 := hg.1.2
  have hr : ∀ x : Int, vc (M 1 0) (M 1 1) x → inR x := fun x hx => by
    have := vc_300 hL hx
    unfold inR; omega
  refine j_iload_n dX3_commutes_15 rfl ?_
  refine j_iload_n dX3_commutes_16 rfl ?_
  refine j_icmp_ge 70 dX3_commutes_17 rfl (by first | (unfold inR; omega) | exact hr _ (vc_tm hL.1 hL.2.1)) (by first | (unfold inR; omega) | exact hr _ (vc_tm hL.1 hL.2.1)) (fun c17 => ?_) (fun c17 => ?_)
  · exact K _ _ _ (fun b a c => h3 b a (by omega))
  · refine j_aload_n dX3_commutes_20 rfl ?_
    refine j_getR dX3_commutes_21 f_X3_29 rfl rfl ?_
    refine j_iload_n dX3_commutes_24 rfl ?_
    refine j_V1p dX3_commutes_25 ok_X2_codeAt v_X3_68 c_X2_codeAt rfl (e_X2_codeAt (by omega) (by omega)) ?_
    refine j_istore_n dX3_commutes_28 (by decide) (nol rfl) (by show List.set _ 3 _ = _; simp only [List.set_cons_zero, List.set_cons_succ]; rfl) ?_
    refine j_aload_n dX3_commutes_29 rfl ?_
    refine j_getR dX3_commutes_30 f_X3_29 rfl rfl ?_
    refine j_iload_n dX3_commutes_33 rfl ?_
    refine j_V1p dX3_commutes_34 ok_X2_codeAt v_X3_68 c_X2_codeAt rfl (e_X2_codeAt (by omega) (by omega)) ?_
    refine j_istore dX3_commutes_37 (by decide) (nol rfl) (by show List.set _ 4 _ = _; simp only [List.set_cons_zero, List.set_cons_succ]; rfl) ?_
    refine j_aload_n dX3_commutes_39 rfl ?_
    refine j_getR dX3_commutes_40 f_X3_25 rfl rfl ?_
    refine j_iload_n dX3_commutes_43 rfl ?_
    refine j_iload dX3_commutes_44 rfl ?_
    refine j_V2p dX3_commutes_46 ok_X5_times v_X3_71 c_X5_times rfl (e_X5_times hL (hg.2 _ (by omega) (by omega)) (hg.2 _ (by omega) (by omega))) ?_
    refine j_aload_n dX3_commutes_49 rfl ?_
    refine j_getR dX3_commutes_50 f_X3_25 rfl rfl ?_
    refine j_iload dX3_commutes_53 rfl ?_
    refine j_iload_n dX3_commutes_55 rfl ?_
    refine j_V2p dX3_commutes_56 ok_X5_times v_X3_71 c_X5_times rfl (e_X5_times hL (hg.2 _ (by omega) (by omega)) (hg.2 _ (by omega) (by omega))) ?_
    refine j_icmp_eq 64 dX3_commutes_59 rfl (by first | (unfold inR; omega) | exact hr _ (vc_tm hL.1 hL.2.1)) (by first | (unfold inR; omega) | exact hr _ (vc_tm hL.1 hL.2.1)) (fun c59 => ?_) (fun c59 => ?_)
    · refine j_iinc dX3_commutes_64 rfl (by decide) (nol rfl) (by simp only [List.set_cons_zero, List.set_cons_succ]; rfl) ?_
      refine j_goto 15 dX3_commutes_67 rfl ?_
      refine ih (j + 1) _ _ (by omega) (by omega) (by omega) (fun b a c => ?_) K
      by_cases e : b = j
      · rw [e]; exact c59
      · exact h3 b a (by omega)
    · refine j_iconst dX3_commutes_62 ?_
      refine j_zret dX3_commutes_63 rfl (by first | exact Or.inl rfl | exact Or.inr rfl | omega) ?_
      exact bz_i (Or.inr ⟨rfl, fun h => c59 (h i j hi.1 hi.2 h0 (by omega))⟩)
theorem l_comm {M : Mem} (hL : Lat M) (hg : GV M) (m : Nat) : ∀ (i : Int) (w2 w3 w4 : Option PV), 0 ≤ i → i ≤ M 2 1 → M 2 1 - i < m → (∀ a b : Int, 0 ≤ a → a < i → 0 ≤ b → b < a → tm (M 1 0) (M 1 1) (M 3 a) (M 3 b) = tm (M 1 0) (M 1 1) (M 3 b) (M 3 a)) → J SHC mi_X3_commutes 2 [some (vR 10), some (vI i), w2, w3, w4] [] M (bz (∀ a b : Int, 0 ≤ a → a < M 2 1 → 0 ≤ b → b < a → tm (M 1 0) (M 1 1) (M 3 a) (M 3 b) = tm (M 1 0) (M 1 1) (M 3 b) (M 3 a)) M) := by
  induction m with
  | zero => intro i w2 w3 w4 h0 h1 h2; omega
  | succ m ih =>
  intro i w2 w3 w4 h0 h1 h2 h3
  have hg2 := hg.1.2
  refine j_iload_n dX3_commutes_2 rfl ?_
  refine j_aload_n dX3_commutes_3 rfl ?_
  refine j_getR dX3_commutes_4 f_X3_29 rfl rfl ?_
  refine j_getI (kz := 1) rfl dX3_commutes_7 f_X3_63 rfl rfl ?_
  refine j_icmp_ge 76 dX3_commutes_10 rfl (by unfold inR; omega) (by unfold inR; omega) (fun c10 => ?_) (fun c10 => ?_)
  · refine j_iconst dX3_commutes_76 ?_
    refine j_zret dX3_commutes_77 rfl (by first | exact Or.inl rfl | exact Or.inr rfl | omega) ?_
    exact bz_i (Or.inl ⟨rfl, fun a b ha0 ha1 hb0 hb1 => h3 a b ha0 (by omega) hb0 hb1⟩)
  · refine j_iconst dX3_commutes_13 ?_
    refine j_istore_n dX3_commutes_14 (by decide) (nol rfl) (by show List.set _ 2 _ = _; simp only [List.set_cons_zero, List.set_cons_succ]; rfl) ?_
    refine l_comm_in hL hg ⟨h0, by omega⟩ 5 0 _ _ (by omega) (by omega) (by omega) (fun b a c => by omega) (fun w2' w3' w4' hi => ?_)
    refine j_iinc dX3_commutes_70 rfl (by decide) (nol rfl) (by simp only [List.set_cons_zero, List.set_cons_succ]; rfl) ?_
    refine j_goto 2 dX3_commutes_73 rfl ?_
    refine ih (i + 1) _ _ _ (by omega) (by omega) (by omega) (fun a b ha0 ha1 hb0 hb1 => ?_)
    by_cases e : a = i
    · rw [e]; exact hi b hb0 (by omega)
    · exact h3 a b ha0 (by omega) hb0 hb1
theorem e_X3_commutes {M : Mem} (hL : Lat M) (hg : GV M) : J SHC mi_X3_commutes 0 (ent [vR 10] 5) [] M (bz (∀ a b : Int, 0 ≤ a → a < M 2 1 → 0 ≤ b → b < a → tm (M 1 0) (M 1 1) (M 3 a) (M 3 b) = tm (M 1 0) (M 1 1) (M 3 b) (M 3 a)) M) := by
  show J SHC mi_X3_commutes 0 [some (vR 10), none, none, none, none] [] M _
  refine j_iconst dX3_commutes_0 ?_
  refine j_istore_n dX3_commutes_1 (by decide) (nol rfl) (by show List.set _ 1 _ = _; simp only [List.set_cons_zero, List.set_cons_succ]; rfl) ?_
  exact l_comm hL hg 5 0 _ _ _ (by omega) hg.1.1 (by have := hg.1.2; omega) (fun a b ha0 ha1 => by omega)
end
section
/-! class Features -/
theorem kn_b (k n c : Int) : 0 ≤ kn k n c ∧ kn k n c ≤ 3 := by
  unfold kn
  split
  · decide
  · split
    · decide
    · split <;> decide
def FI (M : Mem) (es : List Int) : Prop :=
  (∀ p : Int, 0 ≤ p → p < 12 → (M 16 p = 1 ∧ ∃ c ∈ es, cP (M 1 1) c = p) ∨ (M 16 p = 0 ∧ ¬ ∃ c ∈ es, cP (M 1 1) c = p)) ∧
  (∀ p : Int, 0 ≤ p → p < 12 → (M 17 p = 1 ∧ ∃ c ∈ es, cP (M 1 1) c = p ∧ kn (M 1 0) (M 1 1) c = 2) ∨ (M 17 p = 0 ∧ ¬ ∃ c ∈ es, cP (M 1 1) c = p ∧ kn (M 1 0) (M 1 1) c = 2)) ∧
  ∀ d : Int, 0 ≤ d → d < 4 → M 18 d = (es.countP (fun c => decide (kn (M 1 0) (M 1 1) c = d)) : Nat)
theorem FI_push {M : Mem} {es : List Int} {c b : Int} (h : FI M es) (hb : (b = 1 ∧ (M 17 (cP (M 1 1) c) = 1 ∨ kn (M 1 0) (M 1 1) c = 2)) ∨ (b = 0 ∧ M 17 (cP (M 1 1) c) = 0 ∧ ¬ kn (M 1 0) (M 1 1) c = 2)) : FI (wr (wr (wr M 16 (cP (M 1 1) c) 1) 17 (cP (M 1 1) c) b) 18 (kn (M 1 0) (M 1 1) c) (M 18 (kn (M 1 0) (M 1 1) c) + 1)) (es ++ [c]) := by
  obtain ⟨h1, h2, h3⟩ := h
  have e1 : wr (wr (wr M 16 (cP (M 1 1) c) 1) 17 (cP (M 1 1) c) b) 18 (kn (M 1 0) (M 1 1) c) (M 18 (kn (M 1 0) (M 1 1) c) + 1) 1 = M 1 := by
    funext j; simp [wr]
  have e16 : ∀ p, wr (wr (wr M 16 (cP (M 1 1) c) 1) 17 (cP (M 1 1) c) b) 18 (kn (M 1 0) (M 1 1) c) (M 18 (kn (M 1 0) (M 1 1) c) + 1) 16 p = if p = cP (M 1 1) c then 1 else M 16 p := fun p => by simp [wr]
  have e17 : ∀ p, wr (wr (wr M 16 (cP (M 1 1) c) 1) 17 (cP (M 1 1) c) b) 18 (kn (M 1 0) (M 1 1) c) (M 18 (kn (M 1 0) (M 1 1) c) + 1) 17 p = if p = cP (M 1 1) c then b else M 17 p := fun p => by simp [wr]
  have e18 : ∀ p, wr (wr (wr M 16 (cP (M 1 1) c) 1) 17 (cP (M 1 1) c) b) 18 (kn (M 1 0) (M 1 1) c) (M 18 (kn (M 1 0) (M 1 1) c) + 1) 18 p = if p = kn (M 1 0) (M 1 1) c then M 18 (kn (M 1 0) (M 1 1) c) + 1 else M 18 p := fun p => by simp [wr]
  unfold FI
  simp only [e1, e16, e17, e18]
  refine ⟨fun p p0 p1 => ?_, fun p p0 p1 => ?_, fun d d0 d1 => ?_⟩
  · by_cases e : p = cP (M 1 1) c
    · rw [if_pos e]
      exact Or.inl ⟨rfl, c, by simp, e.symm⟩
    · rw [if_neg e]
      rcases h1 p p0 p1 with ⟨a, x, b1, b2⟩ | ⟨a, b1⟩
      · exact Or.inl ⟨a, x, by simp [b1], b2⟩
      · refine Or.inr ⟨a, ?_⟩
        rintro ⟨x, x1, x2⟩
        rcases List.mem_append.mp x1 with q | q
        · exact b1 ⟨x, q, x2⟩
        · simp at q; rw [q] at x2; exact e x2.symm
  · by_cases e : p = cP (M 1 1) c
    · rw [if_pos e]
      subst e
      rcases hb with ⟨b1, b2⟩ | ⟨b1, b2, b3⟩
      · left
        refine ⟨b1, ?_⟩
        rcases b2 with q | q
        · rcases h2 _ p0 p1 with ⟨a, x, c1, c2⟩ | ⟨a, c1⟩
          · exact ⟨x, by simp [c1], c2⟩
          · omega
        · exact ⟨c, by simp, rfl, q⟩
      · right
        refine ⟨b1, ?_⟩
        rintro ⟨x, x1, x2, x3⟩
        rcases List.mem_append.mp x1 with q | q
        · rcases h2 _ p0 p1 with ⟨a, _⟩ | ⟨a, c1⟩
          · omega
          · exact c1 ⟨x, q, x2, x3⟩
        · simp at q; rw [q] at x3; exact b3 x3
    · rw [if_neg e]
      rcases h2 p p0 p1 with ⟨a, x, b1, b2⟩ | ⟨a, b1⟩
      · exact Or.inl ⟨a, x, by simp [b1], b2⟩
      · refine Or.inr ⟨a, ?_⟩
        rintro ⟨x, x1, x2, x3⟩
        rcases List.mem_append.mp x1 with q | q
        · exact b1 ⟨x, q, x2, x3⟩
        · simp at q; rw [q] at x2; exact e x2.symm
  · rw [List.countP_append]
    have h9 := h3 d d0 d1
    by_cases e : d = kn (M 1 0) (M 1 1) c
    · subst e
      rw [if_pos rfl, h9]
      simp
    · rw [if_neg e, h9]
      have : ¬ kn (M 1 0) (M 1 1) c = d := fun q => e q.symm
      simp [this]
def tordF (k p : Int) : Int := if k = 1 then [1, 6, 3, 2, 3, 6].getD p.toNat 0 else [1, 4, 2, 4].getD p.toNat 0
theorem tord_eq {k p z : Int} (hk : k = 0 ∨ k = 1) (hp : 0 ≤ p ∧ p < tu k) (h1 : 1 ≤ z) (h12 : z ≤ 12) (h2 : ∀ i, 1 ≤ i → i < z → ¬ (i * p) % tu k = 0) (h3 : (z * p) % tu k = 0 ∨ z = 12) : z = tordF k p := by
  rcases hk with rfl | rfl
  · have ht : tu 0 = 4 := rfl
    simp only [ht] at hp h2 h3
    have a1 := h2 1
    have a2 := h2 2
    have a4 := h2 4
    clear h2 ht
    rcases (show p = 0 ∨ p = 1 ∨ p = 2 ∨ p = 3 by omega) with rfl | rfl | rfl | rfl <;> simp [tordF] at a1 a2 a4 h3 ⊢ <;> omega
  · have ht : tu 1 = 6 := rfl
    simp only [ht] at hp h2 h3
    have a1 := h2 1
    have a2 := h2 2
    have a3 := h2 3
    have a6 := h2 6
    clear h2 ht
    rcases (show p = 0 ∨ p = 1 ∨ p = 2 ∨ p = 3 ∨ p = 4 ∨ p = 5 by omega) with rfl | rfl | rfl | rfl | rfl | rfl <;> simp [tordF] at a1 a2 a3 a6 h3 ⊢ <;> omega
theorem tord_b {k p : Int} (hk : k = 0 ∨ k = 1) (hp : 0 ≤ p ∧ p < tu k) : 1 ≤ tordF k p ∧ tordF k p ≤ 6 := by
  rcases hk with rfl | rfl
  · have ht : tu 0 = 4 := rfl
    rw [ht] at hp
    rcases (show p = 0 ∨ p = 1 ∨ p = 2 ∨ p = 3 by omega) with rfl | rfl | rfl | rfl <;> decide
  · have ht : tu 1 = 6 := rfl
    rw [ht] at hp
    rcases (show p = 0 ∨ p = 1 ∨ p = 2 ∨ p = 3 ∨ p = 4 ∨ p = 5 by omega) with rfl | rfl | rfl | rfl | rfl | rfl <;> decide
def gtf (f : Int → Int) (k : Int) : Nat → Int
  | 0 => 1
  | p + 1 => if f p = 1 then max (gtf f k p) (tordF k p) else gtf f k p
theorem gtf_b {f : Int → Int} {k : Int} (hk : k = 0 ∨ k = 1) : ∀ p : Nat, (p : Int) ≤ tu k → 1 ≤ gtf f k p ∧ gtf f k p ≤ 6
  | 0, _ => ⟨by simp [gtf], by simp [gtf]⟩
  | p + 1, h => by
    have h1 := gtf_b (f := f) hk p (by omega)
    have h2 := tord_b hk (p := p) ⟨by omega, by omega⟩
    simp only [gtf]
    split <;> omega
def sqL (x y : Int) : Int := x * x + x * y + y * y
theorem mul5 {x y : Int} (hx : -5 ≤ x ∧ x ≤ 5) (hy : -5 ≤ y ∧ y ≤ 5) : -25 ≤ x * y ∧ x * y ≤ 25 := by
  rcases (show x = -5 ∨ x = -4 ∨ x = -3 ∨ x = -2 ∨ x = -1 ∨ x = 0 ∨ x = 1 ∨ x = 2 ∨ x = 3 ∨ x = 4 ∨ x = 5 by omega) with rfl | rfl | rfl | rfl | rfl | rfl | rfl | rfl | rfl | rfl | rfl <;> omega
theorem sqL_b {x y : Int} (hx : -5 ≤ x ∧ x ≤ 5) (hy : -5 ≤ y ∧ y ≤ 5) : -75 ≤ sqL x y ∧ sqL x y ≤ 75 := by
  have h1 := mul5 hx hx
  have h2 := mul5 hx hy
  have h3 := mul5 hy hy
  unfold sqL; omega
theorem im_b5 (k p : Int) {x y : Int} (hx : -5 ≤ x ∧ x ≤ 5) (hy : -5 ≤ y ∧ y ≤ 5) : (-50 ≤ imx k p x y ∧ imx k p x y ≤ 50) ∧ -50 ≤ imy k p x y ∧ imy k p x y ≤ 50 := by
  have e : ∀ q, -5 ≤ en k p q ∧ en k p q ≤ 5 := fun q => by have := en_b k p q; omega
  have h1 := mul5 (e 0) hx
  have h2 := mul5 (e 1) hy
  have h3 := mul5 (e 2) hx
  have h4 := mul5 (e 3) hy
  unfold imx imy; omega
/-- the translation (x, y), taken modulo n, is in the group -/
def hT (M : Mem) (x y : Int) : Prop := M 11 (mkc (M 1 1) 0 x y) = 1
def kh (M : Mem) (p x y : Int) : Prop := (x + imx (M 1 0) p x y).tmod 2 = 0 ∧ (y + imy (M 1 0) p x y).tmod 2 = 0 ∧ hT M ((x + imx (M 1 0) p x y).tdiv 2) ((y + imy (M 1 0) p x y).tdiv 2)
def khs (M : Mem) (p : Int) : Prop := kh M p (M 1 1) 0 ∧ kh M p 0 (M 1 1) ∧ ∀ u v : Int, 0 ≤ u → u < M 1 1 → 0 ≤ v → v < M 1 1 → hT M u v → kh M p u v
def Cen (M : Mem) : Prop := ∃ p : Int, 0 ≤ p ∧ p < 12 ∧ M 17 p = 1 ∧ ¬ khs M p
def Rev (M : Mem) : Prop := ∃ p : Int, tu (M 1 0) ≤ p ∧ p < 2 * tu (M 1 0) ∧ M 16 p = 1
def Lea (M : Mem) (z : Int) : Prop := 0 < z ∧ z ≤ M 1 1 * M 1 1 ∧ (z = M 1 1 * M 1 1 ∨ ∃ x y : Int, -M 1 1 ≤ x ∧ x ≤ M 1 1 ∧ -M 1 1 ≤ y ∧ y ≤ M 1 1 ∧ hT M x y ∧ z = sqL x y) ∧ ∀ x y : Int, -M 1 1 ≤ x → x ≤ M 1 1 → -M 1 1 ≤ y → y ≤ M 1 1 → 0 < sqL x y → hT M x y → z ≤ sqL x y
def Fix (M : Mem) (x y : Int) : Prop := ∃ p : Int, tu (M 1 0) ≤ p ∧ p < 2 * tu (M 1 0) ∧ M 16 p = 1 ∧ imx (M 1 0) p x y = x ∧ imy (M 1 0) p x y = y
def FSh (M : Mem) (z : Int) : Prop := ∃ x y : Int, -M 1 1 ≤ x ∧ x ≤ M 1 1 ∧ -M 1 1 ≤ y ∧ y ≤ M 1 1 ∧ sqL x y = z ∧ hT M x y ∧ Fix M x y
theorem td2 {z : Int} (h : -1000 ≤ z ∧ z ≤ 1000) : (-1000 ≤ z.tdiv 2 ∧ z.tdiv 2 ≤ 1000) ∧ -2 ≤ z.tmod 2 ∧ z.tmod 2 ≤ 2 := by
  rcases Int.le_total 0 z with q | q
  · rw [Int.tdiv_eq_ediv_of_nonneg q, Int.tmod_eq_emod_of_nonneg q]; omega
  · have h1 := Int.neg_tdiv (-z) 2
    have h2 := Int.neg_tmod (-z) 2
    rw [Int.neg_neg] at h1 h2
    rw [h1, h2, Int.tdiv_eq_ediv_of_nonneg (by omega), Int.tmod_eq_emod_of_nonneg (by omega)]; omega

theorem e_X1_note {M : Mem} {c : Int} (hL : Lat M) (hv : vc (M 1 0) (M 1 1) c) (hm : M01 17 12 M) : J SHC mi_X1_note 0 (ent [vR 15, vI c] 4) [] M (pv (fun M1 => ∃ b, ((b = 1 ∧ (M 17 (cP (M 1 1) c) = 1 ∨ kn (M 1 0) (M 1 1) c = 2)) ∨ (b = 0 ∧ M 17 (cP (M 1 1) c) = 0 ∧ ¬ kn (M 1 0) (M 1 1) c = 2)) ∧ M1 = wr (wr (wr M 16 (cP (M 1 1) c) 1) 17 (cP (M 1 1) c) b) 18 (kn (M 1 0) (M 1 1) c) (M 18 (kn (M 1 0) (M 1 1) c) + 1))) := by
  obtain ⟨hk, hn1, hn5, hc1, hc2⟩ := id hL
  have ht := tu_c hk
  obtain ⟨hc0, hc3, hcp0, hcp1⟩ := vc_b hk hc1 hc2 hv
  have hkb := kn_b (M 1 0) (M 1 1) c
  have hm0 := hm (cP (M 1 1) c) hcp0 (by omega)
  have e17 : wr M 16 (cP (M 1 1) c) 1 17 (cP (M 1 1) c) = M 17 (cP (M 1 1) c) := wr_ne _ _ (by omega)
  simp only [cP] at hcp0 hcp1 hm0 e17
  show J SHC mi_X1_note 0 [some (vR 15), some (vI c), none, none] [] M _
  refine j_aload_n dX1_note_0 rfl ?_
  refine j_getR dX1_note_1 f_X1_22 rfl rfl ?_
  refine j_iload_n dX1_note_4 rfl ?_
  refine j_V1p dX1_note_5 ok_X5_partOf v_X1_48 c_X5_partOf rfl (e_X5_partOf hL (by omega) (by omega)) ?_
  refine j_istore_n dX1_note_8 (by decide) (nol rfl) (by show List.set _ 2 _ = _; simp only [List.set_cons_zero, List.set_cons_succ]; rfl) ?_
  refine j_aload_n dX1_note_9 rfl ?_
  refine j_getR dX1_note_10 f_X1_22 rfl rfl ?_
  refine j_iload_n dX1_note_13 rfl ?_
  refine j_V1p dX1_note_14 ok_X5_kindNumber v_X1_53 c_X5_kindNumber rfl (e_X5_kindNumber hL (by assumption)) ?_
  refine j_istore_n dX1_note_17 (by decide) (nol rfl) (by show List.set _ 3 _ = _; simp only [List.set_cons_zero, List.set_cons_succ]; rfl) ?_
  refine j_iload_n dX1_note_18 rfl ?_
  refine j_bipush dX1_note_19 (by decide +kernel) ?_
  refine j_N2z dX1_note_21 ok_X6_isInside n_X1_56 (e_isInside (by first | assumption | (unfold inR; omega)) (by first | assumption | (unfold inR; omega))) (fun z21 M21 q21 => ?_)
  obtain ⟨rfl, q21⟩ := q21
  refine j_if_eq 77 dX1_note_24 rfl (by first | (unfold inR; omega) | (rw [e17]; unfold inR; omega)) (fun c24 => ?_) (fun c24 => ?_)
  · refine j_vret dX1_note_77 rfl ?_
    first
    | (exfalso; omega)
    | (refine ⟨rfl, 1, Or.inl ⟨rfl, ?_⟩, ?_⟩
       · first
         | (right; assumption)
         | (left; rw [e17] at c53; unfold cP; omega)
       · rw [wr_ne (b := 18) _ _ (by omega), wr_ne (b := 18) _ _ (by omega)]; rfl)
    | (refine ⟨rfl, 0, Or.inr ⟨rfl, by rw [e17] at c53; exact c53, by assumption⟩, ?_⟩
       rw [wr_ne (b := 18) _ _ (by omega), wr_ne (b := 18) _ _ (by omega)]; rfl)
  · refine j_iload_n dX1_note_27 rfl ?_
    refine j_iconst dX1_note_28 ?_
    refine j_N2z dX1_note_29 ok_X6_isInside n_X1_56 (e_isInside (by first | assumption | (unfold inR; omega)) (by first | assumption | (unfold inR; omega))) (fun z29 M29 q29 => ?_)
    obtain ⟨rfl, q29⟩ := q29
    refine j_if_eq 77 dX1_note_32 rfl (by first | (unfold inR; omega) | (rw [e17]; unfold inR; omega)) (fun c32 => ?_) (fun c32 => ?_)
    · refine j_vret dX1_note_77 rfl ?_
      first
      | (exfalso; omega)
      | (refine ⟨rfl, 1, Or.inl ⟨rfl, ?_⟩, ?_⟩
         · first
           | (right; assumption)
           | (left; rw [e17] at c53; unfold cP; omega)
         · rw [wr_ne (b := 18) _ _ (by omega), wr_ne (b := 18) _ _ (by omega)]; rfl)
      | (refine ⟨rfl, 0, Or.inr ⟨rfl, by rw [e17] at c53; exact c53, by assumption⟩, ?_⟩
         rw [wr_ne (b := 18) _ _ (by omega), wr_ne (b := 18) _ _ (by omega)]; rfl)
    · refine j_aload_n dX1_note_35 rfl ?_
      refine j_getR dX1_note_36 f_X1_9 rfl rfl ?_
      refine j_iload_n dX1_note_39 rfl ?_
      refine j_iconst dX1_note_40 ?_
      refine j_bast dX1_note_41 (by first | rfl | assumption) (by decide) (by omega) (by omega) (by first | exact Or.inl rfl | exact Or.inr rfl) ?_
      refine j_aload_n dX1_note_42 rfl ?_
      refine j_getR dX1_note_43 f_X1_15 rfl rfl ?_
      refine j_iload_n dX1_note_46 rfl ?_
      refine j_aload_n dX1_note_47 rfl ?_
      refine j_getR dX1_note_48 f_X1_15 rfl rfl ?_
      refine j_iload_n dX1_note_51 rfl ?_
      refine j_bald dX1_note_52 (by first | rfl | assumption) (by decide) (by omega) (by omega) ?_
      refine j_if_ne 61 dX1_note_53 rfl (by first | (unfold inR; omega) | (rw [e17]; unfold inR; omega)) (fun c53 => ?_) (fun c53 => ?_)
      · refine j_iconst dX1_note_61 ?_
        refine j_goto 66 dX1_note_62 rfl ?_
        refine j_bast dX1_note_66 (by first | rfl | assumption) (by decide) (by omega) (by omega) (by first | exact Or.inl rfl | exact Or.inr rfl) ?_
        refine j_aload_n dX1_note_67 rfl ?_
        refine j_getR dX1_note_68 f_X1_18 rfl rfl ?_
        refine j_iload_n dX1_note_71 rfl ?_
        refine j_dup2 dX1_note_72 (fun _ h => by cases h) (fun _ h => by cases h) ?_
        refine j_iald dX1_note_73 (by first | rfl | assumption) (by decide) (by omega) (by omega) ?_
        refine j_iconst dX1_note_74 ?_
        refine j_iadd dX1_note_75 ?_
        refine j_iast dX1_note_76 (by first | rfl | assumption) (by decide) (by omega) (by omega) ?_
        refine j_vret dX1_note_77 rfl ?_
        first
        | (exfalso; omega)
        | (refine ⟨rfl, 1, Or.inl ⟨rfl, ?_⟩, ?_⟩
           · first
             | (right; assumption)
             | (left; rw [e17] at c53; unfold cP; omega)
           · rw [wr_ne (b := 18) _ _ (by omega), wr_ne (b := 18) _ _ (by omega)]; rfl)
        | (refine ⟨rfl, 0, Or.inr ⟨rfl, by rw [e17] at c53; exact c53, by assumption⟩, ?_⟩
           rw [wr_ne (b := 18) _ _ (by omega), wr_ne (b := 18) _ _ (by omega)]; rfl)
      · refine j_iload_n dX1_note_56 rfl ?_
        refine j_iconst dX1_note_57 ?_
        refine j_icmp_ne 65 dX1_note_58 rfl (by first | (unfold inR; omega) | (rw [e17]; unfold inR; omega)) (by first | (unfold inR; omega) | (rw [e17]; unfold inR; omega)) (fun c58 => ?_) (fun c58 => ?_)
        · refine j_iconst dX1_note_65 ?_
          refine j_bast dX1_note_66 (by first | rfl | assumption) (by decide) (by omega) (by omega) (by first | exact Or.inl rfl | exact Or.inr rfl) ?_
          refine j_aload_n dX1_note_67 rfl ?_
          refine j_getR dX1_note_68 f_X1_18 rfl rfl ?_
          refine j_iload_n dX1_note_71 rfl ?_
          refine j_dup2 dX1_note_72 (fun _ h => by cases h) (fun _ h => by cases h) ?_
          refine j_iald dX1_note_73 (by first | rfl | assumption) (by decide) (by omega) (by omega) ?_
          refine j_iconst dX1_note_74 ?_
          refine j_iadd dX1_note_75 ?_
          refine j_iast dX1_note_76 (by first | rfl | assumption) (by decide) (by omega) (by omega) ?_
          refine j_vret dX1_note_77 rfl ?_
          first
          | (exfalso; omega)
          | (refine ⟨rfl, 1, Or.inl ⟨rfl, ?_⟩, ?_⟩
             · first
               | (right; assumption)
               | (left; rw [e17] at c53; unfold cP; omega)
             · rw [wr_ne (b := 18) _ _ (by omega), wr_ne (b := 18) _ _ (by omega)]; rfl)
          | (refine ⟨rfl, 0, Or.inr ⟨rfl, by rw [e17] at c53; exact c53, by assumption⟩, ?_⟩
             rw [wr_ne (b := 18) _ _ (by omega), wr_ne (b := 18) _ _ (by omega)]; rfl)
        · refine j_iconst dX1_note_61 ?_
          refine j_goto 66 dX1_note_62 rfl ?_
          refine j_bast dX1_note_66 (by first | rfl | assumption) (by decide) (by omega) (by omega) (by first | exact Or.inl rfl | exact Or.inr rfl) ?_
          refine j_aload_n dX1_note_67 rfl ?_
          refine j_getR dX1_note_68 f_X1_18 rfl rfl ?_
          refine j_iload_n dX1_note_71 rfl ?_
          refine j_dup2 dX1_note_72 (fun _ h => by cases h) (fun _ h => by cases h) ?_
          refine j_iald dX1_note_73 (by first | rfl | assumption) (by decide) (by omega) (by omega) ?_
          refine j_iconst dX1_note_74 ?_
          refine j_iadd dX1_note_75 ?_
          refine j_iast dX1_note_76 (by first | rfl | assumption) (by decide) (by omega) (by omega) ?_
          refine j_vret dX1_note_77 rfl ?_
          first
          | (exfalso; omega)
          | (refine ⟨rfl, 1, Or.inl ⟨rfl, ?_⟩, ?_⟩
             · first
               | (right; assumption)
               | (left; rw [e17] at c53; unfold cP; omega)
             · rw [wr_ne (b := 18) _ _ (by omega), wr_ne (b := 18) _ _ (by omega)]; rfl)
          | (refine ⟨rfl, 0, Or.inr ⟨rfl, by rw [e17] at c53; exact c53, by assumption⟩, ?_⟩
             rw [wr_ne (b := 18) _ _ (by omega), wr_ne (b := 18) _ _ (by omega)]; rfl)
theorem l_survey {GL : List Int} (hGL : GL.length ≤ 300) (m : Nat) : ∀ (i : Nat) (M : Mem), Lat M → M 10 6 = GL.length → Elem 12 M GL → (∀ x ∈ GL, vc (M 1 0) (M 1 1) x) → FI M (GL.take i) → i ≤ GL.length → 300 - i < m → J SHC mi_X1_survey 36 [some (vR 15), some (vI i)] [] M (pv (fun M1 => fr [16, 17, 18] M M1 ∧ FI M1 GL)) := by
  induction m with
  | zero => intro i M _ _ _ _ _ h1 h2; omega
  | succ m ih =>
  intro i M hL hc he hv hf h1 h2
  have hlt : i < GL.length → 300 - (i + 1) < m := fun h => by omega
  have hm : M01 17 12 M := fun j a b => by
    rcases hf.2.1 j a b with h | h
    · exact Or.inr h.1
    · exact Or.inl h.1
  have hx0 : i < GL.length → ∃ x0, GL[i]? = some x0 ∧ M 12 i = x0 ∧ vc (M 1 0) (M 1 1) x0 := fun hi => by
    have e : GL[i]? = some GL[i] := List.getElem?_eq_getElem hi
    exact ⟨_, e, he i _ e, hv _ (List.mem_of_getElem? e)⟩
  refine j_iload_n dX1_survey_36 rfl ?_
  refine j_aload_n dX1_survey_37 rfl ?_
  refine j_getR dX1_survey_38 f_X1_26 rfl rfl ?_
  refine j_V0p dX1_survey_41 ok_X3_size v_X1_34 c_X3_size rfl (e_X3_size) ?_
  refine j_icmp_ge 65 dX1_survey_44 rfl (by unfold inR; omega) (by unfold inR; omega) (fun c44 => ?_) (fun c44 => ?_)
  · have hi : i = GL.length := by omega
    subst hi
    rw [List.take_length] at hf
    exact j_vret dX1_survey_65 rfl ⟨rfl, fr.rf, hf⟩
  · refine j_aload_n dX1_survey_47 rfl ?_
    refine j_aload_n dX1_survey_48 rfl ?_
    refine j_getR dX1_survey_49 f_X1_26 rfl rfl ?_
    refine j_iload_n dX1_survey_52 rfl ?_
    refine j_V1p dX1_survey_53 ok_X3_elementAt v_X1_40 c_X3_elementAt rfl (e_X3_elementAt (by omega) (by omega)) ?_
    refine j_V1v dX1_survey_56 ok_X1_note v_X1_44 c_X1_note rfl (e_X1_note hL (c := M 12 i) (by obtain ⟨x0, a1, a2, a3⟩ := hx0 (by omega); rw [a2]; exact a3) hm) (fun M56 q56 => ?_)
    obtain ⟨x0, a1, a2, a3⟩ := hx0 (by omega)
    obtain ⟨b, hb, rfl⟩ := q56
    have hp := FI_push hf hb
    have ht : GL.take i ++ [M 12 i] = GL.take (i + 1) := by
      rw [List.take_add_one, a1, a2]; rfl
    rw [ht] at hp
    have f : fr [16, 17, 18] M (wr (wr (wr M 16 (cP (M 1 1) (M 12 i)) 1) 17 (cP (M 1 1) (M 12 i)) b) 18 (kn (M 1 0) (M 1 1) (M 12 i)) (M 18 (kn (M 1 0) (M 1 1) (M 12 i)) + 1)) := ((fr.rf.w1 (by decide)).w1 (by decide)).w1 (by decide)
    have e1 := f 1 (by decide)
    refine j_iinc dX1_survey_59 rfl (by decide) (nol rfl) (by simp only [List.set_cons_zero, List.set_cons_succ]; rfl) ?_
    refine j_goto 36 dX1_survey_62 rfl ?_
    refine j_mono ?_ (ih (i + 1) _ (Lat_fr f (by decide) hL) (by rw [f 10 (by decide)]; exact hc) (Elem_eq he (f 12 (by decide))) (by rw [e1]; exact hv) hp (by omega) (hlt (by omega)))
    rintro v M1 ⟨rfl, f1, g1⟩
    exact ⟨rfl, f.tr f1, g1⟩
theorem e_X1_survey {M : Mem} {GL : List Int} (hGL : GL.length ≤ 300) (hL : Lat M) (hc : M 10 6 = GL.length) (he : Elem 12 M GL) (hv : ∀ x ∈ GL, vc (M 1 0) (M 1 1) x) : J SHC mi_X1_survey 0 (ent [vR 15] 2) [] M (pv (fun M1 => fr [16, 17, 18] M M1 ∧ FI M1 GL)) := by
  show J SHC mi_X1_survey 0 [some (vR 15), none] [] M _
  refine j_aload_n dX1_survey_0 rfl ?_
  refine j_getR dX1_survey_1 f_X1_9 rfl rfl ?_
  refine j_N1v dX1_survey_4 ok_X6_clearMarks n_X1_30 (e_clearMarks (r := 16) (len := 12) rfl (by decide)) (fun M4 q4 => ?_)
  obtain ⟨f4, g4⟩ := q4
  refine j_aload_n dX1_survey_7 rfl ?_
  refine j_getR dX1_survey_8 f_X1_15 rfl rfl ?_
  refine j_N1v dX1_survey_11 ok_X6_clearMarks n_X1_30 (e_clearMarks (r := 17) (len := 12) rfl (by decide)) (fun M11 q11 => ?_)
  obtain ⟨f11, g11⟩ := q11
  refine j_iconst dX1_survey_14 ?_
  refine j_istore_n dX1_survey_15 (by decide) (nol rfl) (by show List.set _ 1 _ = _; simp only [List.set_cons_zero, List.set_cons_succ]; rfl) ?_
  refine j_iload_n dX1_survey_16 rfl ?_
  refine j_iconst dX1_survey_17 ?_
  refine j_icmp_ge 34 dX1_survey_18 rfl (by unfold inR; omega) (by unfold inR; omega) (fun c18 => ?_) (fun c18 => ?_)
  · exfalso; first | omega | (simp at c18; done)
  refine j_aload_n dX1_survey_21 rfl ?_
  refine j_getR dX1_survey_22 f_X1_18 rfl rfl ?_
  refine j_iload_n dX1_survey_25 rfl ?_
  refine j_iconst dX1_survey_26 ?_
  refine j_iast dX1_survey_27 (by first | rfl | assumption) (by decide) (by omega) (by omega) ?_
  refine j_iinc dX1_survey_28 rfl (by decide) (nol rfl) (by simp only [List.set_cons_zero, List.set_cons_succ]; rfl) ?_
  refine j_goto 16 dX1_survey_31 rfl ?_
  refine j_iload_n dX1_survey_16 rfl ?_
  refine j_iconst dX1_survey_17 ?_
  refine j_icmp_ge 34 dX1_survey_18 rfl (by unfold inR; omega) (by unfold inR; omega) (fun c18 => ?_) (fun c18 => ?_)
  · exfalso; first | omega | (simp at c18; done)
  refine j_aload_n dX1_survey_21 rfl ?_
  refine j_getR dX1_survey_22 f_X1_18 rfl rfl ?_
  refine j_iload_n dX1_survey_25 rfl ?_
  refine j_iconst dX1_survey_26 ?_
  refine j_iast dX1_survey_27 (by first | rfl | assumption) (by decide) (by omega) (by omega) ?_
  refine j_iinc dX1_survey_28 rfl (by decide) (nol rfl) (by simp only [List.set_cons_zero, List.set_cons_succ]; rfl) ?_
  refine j_goto 16 dX1_survey_31 rfl ?_
  refine j_iload_n dX1_survey_16 rfl ?_
  refine j_iconst dX1_survey_17 ?_
  refine j_icmp_ge 34 dX1_survey_18 rfl (by unfold inR; omega) (by unfold inR; omega) (fun c18 => ?_) (fun c18 => ?_)
  · exfalso; first | omega | (simp at c18; done)
  refine j_aload_n dX1_survey_21 rfl ?_
  refine j_getR dX1_survey_22 f_X1_18 rfl rfl ?_
  refine j_iload_n dX1_survey_25 rfl ?_
  refine j_iconst dX1_survey_26 ?_
  refine j_iast dX1_survey_27 (by first | rfl | assumption) (by decide) (by omega) (by omega) ?_
  refine j_iinc dX1_survey_28 rfl (by decide) (nol rfl) (by simp only [List.set_cons_zero, List.set_cons_succ]; rfl) ?_
  refine j_goto 16 dX1_survey_31 rfl ?_
  refine j_iload_n dX1_survey_16 rfl ?_
  refine j_iconst dX1_survey_17 ?_
  refine j_icmp_ge 34 dX1_survey_18 rfl (by unfold inR; omega) (by unfold inR; omega) (fun c18 => ?_) (fun c18 => ?_)
  · exfalso; first | omega | (simp at c18; done)
  refine j_aload_n dX1_survey_21 rfl ?_
  refine j_getR dX1_survey_22 f_X1_18 rfl rfl ?_
  refine j_iload_n dX1_survey_25 rfl ?_
  refine j_iconst dX1_survey_26 ?_
  refine j_iast dX1_survey_27 (by first | rfl | assumption) (by decide) (by omega) (by omega) ?_
  refine j_iinc dX1_survey_28 rfl (by decide) (nol rfl) (by simp only [List.set_cons_zero, List.set_cons_succ]; rfl) ?_
  refine j_goto 16 dX1_survey_31 rfl ?_
  refine j_iload_n dX1_survey_16 rfl ?_
  refine j_iconst dX1_survey_17 ?_
  refine j_icmp_ge 34 dX1_survey_18 rfl (by unfold inR; omega) (by unfold inR; omega) (fun c18 => ?_) (fun c18 => ?_)
  rotate_left
  · exfalso; first | omega | (simp at c18; done)
  refine j_iconst dX1_survey_34 ?_
  refine j_istore_n dX1_survey_35 (by decide) (nol rfl) (by show List.set _ 1 _ = _; simp only [List.set_cons_zero, List.set_cons_succ]; rfl) ?_
  have fA := (((((f4.up (S' := [16, 17, 18]) (by decide)).tr (f11.up (by decide))).w1 (a := 18) (i := 0) (x := 0) (by decide)).w1 (a := 18) (i := 0 + 1) (x := 0) (by decide)).w1 (a := 18) (i := 0 + 1 + 1) (x := 0) (by decide)).w1 (a := 18) (i := 0 + 1 + 1 + 1) (x := 0) (by decide)
  have e1 := fA 1 (by decide)
  refine j_mono ?_ (l_survey hGL 301 0 _ (Lat_fr fA (by decide) hL) (by rw [fA 10 (by decide)]; exact hc) (Elem_eq he (fA 12 (by decide))) (by rw [e1]; exact hv) ?_ (by omega) (by omega))
  · rintro v M1 ⟨rfl, f1, g1⟩
    exact ⟨rfl, fA.tr f1, g1⟩
  · refine ⟨fun p a b => Or.inr ⟨?_, by simp⟩, fun p a b => Or.inr ⟨?_, by simp⟩, fun d a b => ?_⟩
    · simp only [wr, show ¬ ((16 : Nat) = 18) by decide, false_and, if_false]
      rw [f11 16 (by decide), g4, if_pos ⟨a, b⟩]
    · simp only [wr, show ¬ ((17 : Nat) = 18) by decide, false_and, if_false]
      rw [g11, if_pos ⟨a, b⟩]
    · rcases (show d = 0 ∨ d = 1 ∨ d = 2 ∨ d = 3 by omega) with rfl | rfl | rfl | rfl <;> simp [wr]
theorem e_X1_elementsOfKind {M : Mem} {d : Int} (h0 : 0 ≤ d) (h4 : d < 4) : J SHC mi_X1_elementsOfKind 0 (ent [vR 15, vI d] 2) [] M (pu (vI (M 18 d)) M) := by
  show J SHC mi_X1_elementsOfKind 0 [some (vR 15), some (vI d)] [] M _
  refine j_iload_n dX1_elementsOfKind_0 rfl ?_
  refine j_iconst dX1_elementsOfKind_1 ?_
  refine j_N2z dX1_elementsOfKind_2 ok_X6_isInside n_X1_56 (e_isInside (by first | assumption | (unfold inR; omega)) (by first | assumption | (unfold inR; omega))) (fun z2 M2 q2 => ?_)
  obtain ⟨rfl, q2⟩ := q2
  refine j_if_eq 17 dX1_elementsOfKind_5 rfl (by unfold inR; omega) (fun c5 => ?_) (fun c5 => ?_)
  · refine j_iconst dX1_elementsOfKind_17 ?_
    refine j_iret dX1_elementsOfKind_18 rfl ?_
    first | (exfalso; omega) | exact pu_i rfl
  · refine j_aload_n dX1_elementsOfKind_8 rfl ?_
    refine j_getR dX1_elementsOfKind_9 f_X1_18 rfl rfl ?_
    refine j_iload_n dX1_elementsOfKind_12 rfl ?_
    refine j_iald dX1_elementsOfKind_13 (by first | rfl | assumption) (by decide) (by omega) (by omega) ?_
    refine j_goto 18 dX1_elementsOfKind_14 rfl ?_
    refine j_iret dX1_elementsOfKind_18 rfl ?_
    first | (exfalso; omega) | exact pu_i rfl
theorem e_X1_countParts {M : Mem} (hm : M01 16 12 M) : J SHC mi_X1_countParts 0 (ent [vR 15] 1) [] M (pu (vI (cntTo (M 16) 12)) M) := by
  show J SHC mi_X1_countParts 0 [some (vR 15)] [] M _
  refine j_aload_n dX1_countParts_0 rfl ?_
  refine j_getR dX1_countParts_1 f_X1_9 rfl rfl ?_
  refine j_N1p dX1_countParts_4 ok_X6_countMarks n_X1_60 (e_countMarks (r := 16) (len := 12) rfl (by decide) (fun j a b => hm.r a b)) ?_
  refine j_iret dX1_countParts_7 rfl ?_
  exact pu_i (by first | rfl | omega | (simp; done))
theorem e_X1_countMirrorParts {M : Mem} (hm : M01 17 12 M) : J SHC mi_X1_countMirrorParts 0 (ent [vR 15] 1) [] M (pu (vI (cntTo (M 17) 12)) M) := by
  show J SHC mi_X1_countMirrorParts 0 [some (vR 15)] [] M _
  refine j_aload_n dX1_countMirrorParts_0 rfl ?_
  refine j_getR dX1_countMirrorParts_1 f_X1_15 rfl rfl ?_
  refine j_N1p dX1_countMirrorParts_4 ok_X6_countMarks n_X1_60 (e_countMarks (r := 17) (len := 12) rfl (by decide) (fun j a b => hm.r a b)) ?_
  refine j_iret dX1_countMirrorParts_7 rfl ?_
  exact pu_i (by first | rfl | omega | (simp; done))
theorem e_X1_occurs {M : Mem} {p : Int} (hm : M01 16 12 M) (hp : 0 ≤ p ∧ p < 12) : J SHC mi_X1_occurs 0 (ent [vR 15, vI p] 2) [] M (bz (M 16 p = 1) M) := by
  show J SHC mi_X1_occurs 0 [some (vR 15), some (vI p)] [] M _
  refine j_iload_n dX1_occurs_0 rfl ?_
  refine j_bipush dX1_occurs_1 (by decide +kernel) ?_
  refine j_N2z dX1_occurs_3 ok_X6_isInside n_X1_56 (e_isInside (by first | assumption | (unfold inR; omega)) (by first | assumption | (unfold inR; omega))) (fun z3 M3 q3 => ?_)
  obtain ⟨rfl, q3⟩ := q3
  refine j_if_eq 22 dX1_occurs_6 rfl (by first | exact hm.r (by omega) (by omega) | (unfold inR; omega)) (fun c6 => ?_) (fun c6 => ?_)
  · refine j_iconst dX1_occurs_22 ?_
    refine j_zret dX1_occurs_23 rfl (by first | exact Or.inl rfl | exact Or.inr rfl | omega) ?_
    first | (exfalso; omega) | exact bz_i (Or.inl ⟨rfl, by have := hm p hp.1 hp.2; omega⟩) | exact bz_i (Or.inr ⟨rfl, fun h => by omega⟩)
  · refine j_aload_n dX1_occurs_9 rfl ?_
    refine j_getR dX1_occurs_10 f_X1_9 rfl rfl ?_
    refine j_iload_n dX1_occurs_13 rfl ?_
    refine j_bald dX1_occurs_14 (by first | rfl | assumption) (by decide) (by omega) (by omega) ?_
    refine j_if_eq 22 dX1_occurs_15 rfl (by first | exact hm.r (by omega) (by omega) | (unfold inR; omega)) (fun c15 => ?_) (fun c15 => ?_)
    · refine j_iconst dX1_occurs_22 ?_
      refine j_zret dX1_occurs_23 rfl (by first | exact Or.inl rfl | exact Or.inr rfl | omega) ?_
      first | (exfalso; omega) | exact bz_i (Or.inl ⟨rfl, by have := hm p hp.1 hp.2; omega⟩) | exact bz_i (Or.inr ⟨rfl, fun h => by omega⟩)
    · refine j_iconst dX1_occurs_18 ?_
      refine j_goto 23 dX1_occurs_19 rfl ?_
      refine j_zret dX1_occurs_23 rfl (by first | exact Or.inl rfl | exact Or.inr rfl | omega) ?_
      first | (exfalso; omega) | exact bz_i (Or.inl ⟨rfl, by have := hm p hp.1 hp.2; omega⟩) | exact bz_i (Or.inr ⟨rfl, fun h => by omega⟩)
theorem l_gto {M : Mem} (hL : Lat M) (hm : M01 16 12 M) (m : Nat) : ∀ (p : Nat), (p : Int) ≤ tu (M 1 0) → 6 - p < m → J SHC mi_X1_greatestTurnOrder 4 [some (vR 15), some (vI (gtf (M 16) (M 1 0) p)), some (vI p)] [] M (pu (vI (gtf (M 16) (M 1 0) (tu (M 1 0)).toNat)) M) := by
  induction m with
  | zero => intro p h1 h2; omega
  | succ m ih =>
  intro p h1 h2
  obtain ⟨hk, hn1, hn5, hc1, hc2⟩ := id hL
  have ht := tu_c hk
  have hb := gtf_b (f := M 16) hk p h1
  refine j_iload_n dX1_greatestTurnOrder_4 rfl ?_
  refine j_aload_n dX1_greatestTurnOrder_5 rfl ?_
  refine j_getR dX1_greatestTurnOrder_6 f_X1_22 rfl rfl ?_
  refine j_V0p dX1_greatestTurnOrder_9 ok_X5_turns v_X1_64 c_X5_turns rfl (e_X5_turns hL) ?_
  refine j_icmp_ge 42 dX1_greatestTurnOrder_12 rfl (by unfold inR; omega) (by unfold inR; omega) (fun c12 => ?_) (fun c12 => ?_)
  · refine j_iload_n dX1_greatestTurnOrder_42 rfl ?_
    refine j_iret dX1_greatestTurnOrder_43 rfl ?_
    exact pu_i (by congr 1; omega)
  · refine j_aload_n dX1_greatestTurnOrder_15 rfl ?_
    refine j_iload_n dX1_greatestTurnOrder_16 rfl ?_
    refine j_V1z dX1_greatestTurnOrder_17 ok_X1_occurs v_X1_67 c_X1_occurs rfl (e_X1_occurs (by assumption) (by omega)) (fun z17 M17 q17 => ?_)
    obtain ⟨rfl, q17⟩ := q17
    refine j_if_eq 36 dX1_greatestTurnOrder_20 rfl (by unfold inR; omega) (fun c20 => ?_) (fun c20 => ?_)
    · refine j_iinc dX1_greatestTurnOrder_36 rfl (by decide) (nol rfl) (by simp only [List.set_cons_zero, List.set_cons_succ]; rfl) ?_
      refine j_goto 4 dX1_greatestTurnOrder_39 rfl ?_
      have h9 := ih (p + 1) (by omega) (by omega)
      rw [show gtf (M 16) (M 1 0) (p + 1) = gtf (M 16) (M 1 0) p from if_neg (by omega)] at h9
      exact h9
    · refine j_iload_n dX1_greatestTurnOrder_23 rfl ?_
      refine j_aload_n dX1_greatestTurnOrder_24 rfl ?_
      refine j_getR dX1_greatestTurnOrder_25 f_X1_22 rfl rfl ?_
      refine j_iload_n dX1_greatestTurnOrder_28 rfl ?_
      refine j_V1z dX1_greatestTurnOrder_29 ok_X5_turnOrder v_X1_71 c_X5_turnOrder rfl (e_X5_turnOrder hL (by omega)) (fun z29 M29 q29 => ?_)
      obtain ⟨e9, t1, t2, t3, t4⟩ := q29
      have e9 := e9.symm
      subst e9
      have ez := tord_eq hk ⟨by omega, by omega⟩ t1 t2 t3 t4
      refine j_S2p dX1_greatestTurnOrder_32 ok_J9_max_7cf53 s_X1_74 (e_max (by unfold inR; omega) (by unfold inR; omega)) ?_
      refine j_istore_n dX1_greatestTurnOrder_35 (by decide) (nol rfl) (by show List.set _ 1 _ = _; simp only [List.set_cons_zero, List.set_cons_succ]; rfl) ?_
      refine j_iinc dX1_greatestTurnOrder_36 rfl (by decide) (nol rfl) (by simp only [List.set_cons_zero, List.set_cons_succ]; rfl) ?_
      refine j_goto 4 dX1_greatestTurnOrder_39 rfl ?_
      have h9 := ih (p + 1) (by omega) (by omega)
      rw [show gtf (M 16) (M 1 0) (p + 1) = max (gtf (M 16) (M 1 0) p) (tordF (M 1 0) p) from if_pos (by omega), ← ez] at h9
      exact h9
theorem e_X1_greatestTurnOrder {M : Mem} (hL : Lat M) (hm : M01 16 12 M) : J SHC mi_X1_greatestTurnOrder 0 (ent [vR 15] 3) [] M (pu (vI (gtf (M 16) (M 1 0) (tu (M 1 0)).toNat)) M) := by
  show J SHC mi_X1_greatestTurnOrder 0 [some (vR 15), none, none] [] M _
  refine j_iconst dX1_greatestTurnOrder_0 ?_
  refine j_istore_n dX1_greatestTurnOrder_1 (by decide) (nol rfl) (by show List.set _ 1 _ = _; simp only [List.set_cons_zero, List.set_cons_succ]; rfl) ?_
  refine j_iconst dX1_greatestTurnOrder_2 ?_
  refine j_istore_n dX1_greatestTurnOrder_3 (by decide) (nol rfl) (by show List.set _ 2 _ = _; simp only [List.set_cons_zero, List.set_cons_succ]; rfl) ?_
  exact l_gto hL hm 7 0 (by have := tu_c hL.1; omega) (by omega)
theorem l_rev {M : Mem} (hL : Lat M) (hm : M01 16 12 M) (m : Nat) : ∀ (p : Int), tu (M 1 0) ≤ p → p ≤ 2 * tu (M 1 0) → 2 * tu (M 1 0) - p < m → (∀ r, tu (M 1 0) ≤ r → r < p → ¬ M 16 r = 1) → J SHC mi_X1_hasReversal 8 [some (vR 15), some (vI p)] [] M (bz (Rev M) M) := by
  induction m with
  | zero => intro p h1 h2 h3; omega
  | succ m ih =>
  intro p h1 h2 h3 h4
  obtain ⟨hk, hn1, hn5, hc1, hc2⟩ := id hL
  have ht := tu_c hk
  refine j_iload_n dX1_hasReversal_8 rfl ?_
  refine j_aload_n dX1_hasReversal_9 rfl ?_
  refine j_getR dX1_hasReversal_10 f_X1_22 rfl rfl ?_
  refine j_V0p dX1_hasReversal_13 ok_X5_parts v_X1_80 c_X5_parts rfl (e_X5_parts hL) ?_
  refine j_icmp_ge 35 dX1_hasReversal_16 rfl (by unfold inR; omega) (by unfold inR; omega) (fun c16 => ?_) (fun c16 => ?_)
  · refine j_iconst dX1_hasReversal_35 ?_
    refine j_zret dX1_hasReversal_36 rfl (by first | exact Or.inl rfl | exact Or.inr rfl | omega) ?_
    exact bz_i (Or.inr ⟨rfl, fun ⟨r, a, b, c⟩ => h4 r a (by omega) c⟩)
  · refine j_aload_n dX1_hasReversal_19 rfl ?_
    refine j_iload_n dX1_hasReversal_20 rfl ?_
    refine j_V1z dX1_hasReversal_21 ok_X1_occurs v_X1_67 c_X1_occurs rfl (e_X1_occurs (by assumption) (by omega)) (fun z21 M21 q21 => ?_)
    obtain ⟨rfl, q21⟩ := q21
    refine j_if_eq 29 dX1_hasReversal_24 rfl (by unfold inR; omega) (fun c24 => ?_) (fun c24 => ?_)
    · refine j_iinc dX1_hasReversal_29 rfl (by decide) (nol rfl) (by simp only [List.set_cons_zero, List.set_cons_succ]; rfl) ?_
      refine j_goto 8 dX1_hasReversal_32 rfl ?_
      refine ih (p + 1) (by omega) (by omega) (by omega) (fun r a b => ?_)
      by_cases e : r = p
      · rw [e]; omega
      · exact h4 r a (by omega)
    · refine j_iconst dX1_hasReversal_27 ?_
      refine j_zret dX1_hasReversal_28 rfl (by first | exact Or.inl rfl | exact Or.inr rfl | omega) ?_
      exact bz_i (Or.inl ⟨rfl, p, by omega, by omega, by omega⟩)
theorem e_X1_hasReversal {M : Mem} (hL : Lat M) (hm : M01 16 12 M) : J SHC mi_X1_hasReversal 0 (ent [vR 15] 2) [] M (bz (Rev M) M) := by
  show J SHC mi_X1_hasReversal 0 [some (vR 15), none] [] M _
  refine j_aload_n dX1_hasReversal_0 rfl ?_
  refine j_getR dX1_hasReversal_1 f_X1_22 rfl rfl ?_
  refine j_V0p dX1_hasReversal_4 ok_X5_turns v_X1_64 c_X5_turns rfl (e_X5_turns hL) ?_
  refine j_istore_n dX1_hasReversal_7 (by decide) (nol rfl) (by show List.set _ 1 _ = _; simp only [List.set_cons_zero, List.set_cons_succ]; rfl) ?_
  exact l_rev hL hm 7 _ (by omega) (by have := tu_c hL.1; omega) (by have := tu_c hL.1; omega) (fun r a b => by omega)
theorem e_X1_squaredLength {SH : List Shp} {M : Mem} {x y : Int} : J SH mi_X1_squaredLength 0 (ent [vI x, vI y] 2) [] M (pu (vI (sqL x y)) M) := by
  show J SH mi_X1_squaredLength 0 [some (vI x), some (vI y)] [] M _
  refine j_iload_n dX1_squaredLength_0 rfl ?_
  refine j_iload_n dX1_squaredLength_1 rfl ?_
  refine j_imul dX1_squaredLength_2 ?_
  refine j_iload_n dX1_squaredLength_3 rfl ?_
  refine j_iload_n dX1_squaredLength_4 rfl ?_
  refine j_imul dX1_squaredLength_5 ?_
  refine j_iadd dX1_squaredLength_6 ?_
  refine j_iload_n dX1_squaredLength_7 rfl ?_
  refine j_iload_n dX1_squaredLength_8 rfl ?_
  refine j_imul dX1_squaredLength_9 ?_
  refine j_iadd dX1_squaredLength_10 ?_
  refine j_iret dX1_squaredLength_11 rfl ?_
  exact pu_i rfl
theorem e_X1_keepsHalfSum {M : Mem} {p x y : Int} (hL : Lat M) (hm : M01 11 300 M) (hp : 0 ≤ p ∧ p < 2 * tu (M 1 0)) (hx : -5 ≤ x ∧ x ≤ 5) (hy : -5 ≤ y ∧ y ≤ 5) : J SHC mi_X1_keepsHalfSum 0 (ent [vR 15, vI p, vI x, vI y] 6) [] M (bz (kh M p x y) M) := by
  have hib := im_b5 (M 1 0) p hx hy
  have d1 := td2 (z := x + imx (M 1 0) p x y) (by omega)
  have d2 := td2 (z := y + imy (M 1 0) p x y) (by omega)
  show J SHC mi_X1_keepsHalfSum 0 [some (vR 15), some (vI p), some (vI x), some (vI y), none, none] [] M _
  refine j_iload_n dX1_keepsHalfSum_0 rfl ?_
  refine j_aload_n dX1_keepsHalfSum_1 rfl ?_
  refine j_getR dX1_keepsHalfSum_2 f_X1_22 rfl rfl ?_
  refine j_iload_n dX1_keepsHalfSum_5 rfl ?_
  refine j_iload_n dX1_keepsHalfSum_6 rfl ?_
  refine j_iload_n dX1_keepsHalfSum_7 rfl ?_
  refine j_V3p dX1_keepsHalfSum_8 ok_X5_imageX v_X1_97 c_X5_imageX rfl (e_X5_imageX hL (by assumption)) ?_
  refine j_iadd dX1_keepsHalfSum_11 ?_
  refine j_istore dX1_keepsHalfSum_12 (by decide) (nol rfl) (by show List.set _ 4 _ = _; simp only [List.set_cons_zero, List.set_cons_succ]; rfl) ?_
  refine j_iload_n dX1_keepsHalfSum_14 rfl ?_
  refine j_aload_n dX1_keepsHalfSum_15 rfl ?_
  refine j_getR dX1_keepsHalfSum_16 f_X1_22 rfl rfl ?_
  refine j_iload_n dX1_keepsHalfSum_19 rfl ?_
  refine j_iload_n dX1_keepsHalfSum_20 rfl ?_
  refine j_iload_n dX1_keepsHalfSum_21 rfl ?_
  refine j_V3p dX1_keepsHalfSum_22 ok_X5_imageY v_X1_101 c_X5_imageY rfl (e_X5_imageY hL (by assumption)) ?_
  refine j_iadd dX1_keepsHalfSum_25 ?_
  refine j_istore dX1_keepsHalfSum_26 (by decide) (nol rfl) (by show List.set _ 5 _ = _; simp only [List.set_cons_zero, List.set_cons_succ]; rfl) ?_
  refine j_iload dX1_keepsHalfSum_28 rfl ?_
  refine j_iconst dX1_keepsHalfSum_30 ?_
  refine j_irem dX1_keepsHalfSum_31 (by unfold inR; omega) (by unfold inR; omega) (by omega) ?_
  refine j_if_ne 64 dX1_keepsHalfSum_32 rfl (by unfold inR; omega) (fun c32 => ?_) (fun c32 => ?_)
  · refine j_iconst dX1_keepsHalfSum_64 ?_
    refine j_zret dX1_keepsHalfSum_65 rfl (by first | exact Or.inl rfl | exact Or.inr rfl | omega) ?_
    first
    | exact bz_i (Or.inr ⟨rfl, fun h => c32 h.1⟩)
    | exact bz_i (Or.inr ⟨rfl, fun h => c39 h.2.1⟩)
    | (rcases q54 with q | q
       · first
         | exact bz_i (Or.inl ⟨rfl, c32, c39, q.2⟩)
         | (exfalso; omega)
       · first
         | exact bz_i (Or.inr ⟨rfl, fun h => q.2 h.2.2⟩)
         | (exfalso; omega))
  · refine j_iload dX1_keepsHalfSum_35 rfl ?_
    refine j_iconst dX1_keepsHalfSum_37 ?_
    refine j_irem dX1_keepsHalfSum_38 (by unfold inR; omega) (by unfold inR; omega) (by omega) ?_
    refine j_if_ne 64 dX1_keepsHalfSum_39 rfl (by unfold inR; omega) (fun c39 => ?_) (fun c39 => ?_)
    · refine j_iconst dX1_keepsHalfSum_64 ?_
      refine j_zret dX1_keepsHalfSum_65 rfl (by first | exact Or.inl rfl | exact Or.inr rfl | omega) ?_
      first
      | exact bz_i (Or.inr ⟨rfl, fun h => c32 h.1⟩)
      | exact bz_i (Or.inr ⟨rfl, fun h => c39 h.2.1⟩)
      | (rcases q54 with q | q
         · first
           | exact bz_i (Or.inl ⟨rfl, c32, c39, q.2⟩)
           | (exfalso; omega)
         · first
           | exact bz_i (Or.inr ⟨rfl, fun h => q.2 h.2.2⟩)
           | (exfalso; omega))
    · refine j_aload_n dX1_keepsHalfSum_42 rfl ?_
      refine j_getR dX1_keepsHalfSum_43 f_X1_26 rfl rfl ?_
      refine j_iload dX1_keepsHalfSum_46 rfl ?_
      refine j_iconst dX1_keepsHalfSum_48 ?_
      refine j_idiv dX1_keepsHalfSum_49 (by unfold inR; omega) (by unfold inR; omega) (by omega) ?_
      refine j_iload dX1_keepsHalfSum_50 rfl ?_
      refine j_iconst dX1_keepsHalfSum_52 ?_
      refine j_idiv dX1_keepsHalfSum_53 (by unfold inR; omega) (by unfold inR; omega) (by omega) ?_
      refine j_V2z dX1_keepsHalfSum_54 ok_X3_hasTranslation v_X1_94 c_X3_hasTranslation rfl (e_X3_hasTranslation (by assumption) (by assumption) (by first | assumption | (unfold inR; omega)) (by first | assumption | (unfold inR; omega))) (fun z54 M54 q54 => ?_)
      obtain ⟨rfl, q54⟩ := q54
      refine j_if_eq 64 dX1_keepsHalfSum_57 rfl (by unfold inR; omega) (fun c57 => ?_) (fun c57 => ?_)
      · refine j_iconst dX1_keepsHalfSum_64 ?_
        refine j_zret dX1_keepsHalfSum_65 rfl (by first | exact Or.inl rfl | exact Or.inr rfl | omega) ?_
        first
        | exact bz_i (Or.inr ⟨rfl, fun h => c32 h.1⟩)
        | exact bz_i (Or.inr ⟨rfl, fun h => c39 h.2.1⟩)
        | (rcases q54 with q | q
           · first
             | exact bz_i (Or.inl ⟨rfl, c32, c39, q.2⟩)
             | (exfalso; omega)
           · first
             | exact bz_i (Or.inr ⟨rfl, fun h => q.2 h.2.2⟩)
             | (exfalso; omega))
      · refine j_iconst dX1_keepsHalfSum_60 ?_
        refine j_goto 65 dX1_keepsHalfSum_61 rfl ?_
        refine j_zret dX1_keepsHalfSum_65 rfl (by first | exact Or.inl rfl | exact Or.inr rfl | omega) ?_
        first
        | exact bz_i (Or.inr ⟨rfl, fun h => c32 h.1⟩)
        | exact bz_i (Or.inr ⟨rfl, fun h => c39 h.2.1⟩)
        | (rcases q54 with q | q
           · first
             | exact bz_i (Or.inl ⟨rfl, c32, c39, q.2⟩)
             | (exfalso; omega)
           · first
             | exact bz_i (Or.inr ⟨rfl, fun h => q.2 h.2.2⟩)
             | (exfalso; omega))
end
