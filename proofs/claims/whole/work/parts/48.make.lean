/-! THE MAKERS: the constructors -/
theorem in_good2 {mi mj : MI} (h : Cond.code mj.1 mj.2.1 mj.2.2.1 mj.2.2.2.1 ∈ wTbl) : GoodIn (mW mi) (mW mj) := by
  intro w hw
  rcases List.mem_cons.mp hw with rfl | hw
  · exact ⟨List.mem_cons_of_mem _ h, tbl_good _ h⟩
  · exact ⟨List.mem_cons_of_mem _ hw, tbl_good _ hw⟩
def kPre (D : va_G) (cI cZ cA : ClassId) (ws0 : va_W) (sz : Nat) : State → Prop := fun U => U.heap.size = sz ∧ va_P D clW ws0 U.heap ∧ va_K D clW (wTy cI cZ cA) U ∧ va_D (fun _ => True) ws0 ∧ (Cond.arrayOver (.array .int)).before #[] U = true
theorem kPre_blind {D : va_G} {cI cZ cA : ClassId} {ws0 : va_W} {sz : Nat} {av : List Value} : FrameBlind (va_Pc av (kPre D cI cZ cA ws0 sz)) := by
  intro a U g mk h
  obtain ⟨h0, h1, h2, h3, h4, h5⟩ := h
  exact ⟨h0, h1, h2, va_K.moved (u := U) (U := U.calling g mk a) (Vm.Alike.refl U.vm) h3, h4, over_moved (u := U) (E := U.calling g mk a) (Vm.Alike.refl U.vm) h5⟩
def nestI : List (String × Nat × MethodName) := [(RX6, 11, yX5_init), (RX6, 18, yX2_init), (RX6, 25, yX4_init)]
def wNI (U : State) : Prop := ∀ q ∈ nestI, va_Nw (.methodLinkNest q.1 q.2.1 q.2.2 "WallpaperGroups") U
def kPre2 (D : va_G) (cI cZ cA : ClassId) (tS tH : Nat) (ws0 : va_W) (sz : Nat) : State → Prop := fun U => kPre D cI cZ cA ws0 sz U ∧ wT2 tS tH (va_A ws0 sz) U U.heap ∧ wNI U
theorem kPre2_blind {D : va_G} {cI cZ cA : ClassId} {tS tH : Nat} {ws0 : va_W} {sz : Nat} {av : List Value} : FrameBlind (va_Pc av (kPre2 D cI cZ cA tS tH ws0 sz)) := by
  intro a U g mk h
  obtain ⟨h0, h1, h2, h4⟩ := h
  have h3 := kPre_blind (av := av) a U g mk ⟨h0, h1⟩
  exact ⟨h3.1, h3.2, wT2_frame h2, fun q hq => va_Nw.same rfl (u := U) (U := U.calling g mk a) rfl (h4 q hq)⟩
theorem adL_ok {A : Nat → Prop} {ws : va_W} {aL : List Nat} (hD : va_D A ws) (h : ws.map (fun q => q.1) = aL) : (∀ i j, i < aL.length → j < aL.length → aL.getD i 0 = aL.getD j 0 → i = j) ∧ ∀ i, i < aL.length → A (aL.getD i 0) := by
  subst h
  have key : ∀ i, i < (ws.map (fun q => q.1)).length → ∃ q, ws[i]? = some q ∧ (ws.map (fun q => q.1)).getD i 0 = q.1 := fun i hi => by
    rw [List.length_map] at hi
    exact ⟨ws[i], List.getElem?_eq_getElem hi, by rw [List.getD_eq_getElem?_getD, List.getElem?_map, List.getElem?_eq_getElem hi]; rfl⟩
  refine ⟨fun i j hi hj e => ?_, fun i hi => ?_⟩
  · obtain ⟨p, p1, p2⟩ := key i hi
    obtain ⟨q, q1, q2⟩ := key j hj
    exact hD.1 i j p q p1 q1 (by rw [← p2, ← q2, e])
  · obtain ⟨p, p1, p2⟩ := key i hi
    rw [p2]
    exact hD.2 i p p1
abbrev mi_X0_init : MI := (yX0_init, cX0_init, 4, none, 1)
theorem cw_X0_init : Cond.code mi_X0_init.1 mi_X0_init.2.1 mi_X0_init.2.2.1 mi_X0_init.2.2.2.1 ∈ wTbl := wTbl_1 127 (by rfl) (by decide +kernel)
theorem dX0_init_0 : decode cX0_init 0 = .ok (.aload_n 0, 1) := by decide +kernel
theorem dX0_init_1 : decode cX0_init 1 = .ok (.invokespecial 3, 3) := by decide +kernel
theorem dX0_init_4 : decode cX0_init 4 = .ok (.aload_n 0, 1) := by decide +kernel
theorem dX0_init_5 : decode cX0_init 5 = .ok (.bipush 25, 2) := by decide +kernel
theorem dX0_init_7 : decode cX0_init 7 = .ok (.newarray .int, 2) := by decide +kernel
theorem dX0_init_9 : decode cX0_init 9 = .ok (.putfield 9, 3) := by decide +kernel
theorem dX0_init_12 : decode cX0_init 12 = .ok (.aload_n 0, 1) := by decide +kernel
theorem dX0_init_13 : decode cX0_init 13 = .ok (.bipush 25, 2) := by decide +kernel
theorem dX0_init_15 : decode cX0_init 15 = .ok (.newarray .int, 2) := by decide +kernel
theorem dX0_init_17 : decode cX0_init 17 = .ok (.putfield 15, 3) := by decide +kernel
theorem dX0_init_20 : decode cX0_init 20 = .ok (.aload_n 0, 1) := by decide +kernel
theorem dX0_init_21 : decode cX0_init 21 = .ok (.bipush 25, 2) := by decide +kernel
theorem dX0_init_23 : decode cX0_init 23 = .ok (.newarray .boolean, 2) := by decide +kernel
theorem dX0_init_25 : decode cX0_init 25 = .ok (.putfield 18, 3) := by decide +kernel
theorem dX0_init_28 : decode cX0_init 28 = .ok (.aload_n 0, 1) := by decide +kernel
theorem dX0_init_29 : decode cX0_init 29 = .ok (.bipush 25, 2) := by decide +kernel
theorem dX0_init_31 : decode cX0_init 31 = .ok (.newarray .int, 2) := by decide +kernel
theorem dX0_init_33 : decode cX0_init 33 = .ok (.putfield 22, 3) := by decide +kernel
theorem dX0_init_36 : decode cX0_init 36 = .ok (.aload_n 0, 1) := by decide +kernel
theorem dX0_init_37 : decode cX0_init 37 = .ok (.bipush 25, 2) := by decide +kernel
theorem dX0_init_39 : decode cX0_init 39 = .ok (.newarray .int, 2) := by decide +kernel
theorem dX0_init_41 : decode cX0_init 41 = .ok (.putfield 25, 3) := by decide +kernel
theorem dX0_init_44 : decode cX0_init 44 = .ok (.aload_n 0, 1) := by decide +kernel
theorem dX0_init_45 : decode cX0_init 45 = .ok (.aload_n 1, 1) := by decide +kernel
theorem dX0_init_46 : decode cX0_init 46 = .ok (.putfield 28, 3) := by decide +kernel
theorem dX0_init_49 : decode cX0_init 49 = .ok (.aload_n 0, 1) := by decide +kernel
theorem dX0_init_50 : decode cX0_init 50 = .ok (.aload_n 2, 1) := by decide +kernel
theorem dX0_init_51 : decode cX0_init 51 = .ok (.putfield 32, 3) := by decide +kernel
theorem dX0_init_54 : decode cX0_init 54 = .ok (.aload_n 0, 1) := by decide +kernel
theorem dX0_init_55 : decode cX0_init 55 = .ok (.aload_n 3, 1) := by decide +kernel
theorem dX0_init_56 : decode cX0_init 56 = .ok (.putfield 36, 3) := by decide +kernel
theorem dX0_init_59 : decode cX0_init 59 = .ok (.return_, 1) := by decide +kernel
abbrev mi_X1_init : MI := (yX1_init, cX1_init, 3, none, 1)
theorem cw_X1_init : Cond.code mi_X1_init.1 mi_X1_init.2.1 mi_X1_init.2.2.1 mi_X1_init.2.2.2.1 ∈ wTbl := wTbl_1 105 (by rfl) (by decide +kernel)
theorem dX1_init_0 : decode cX1_init 0 = .ok (.aload_n 0, 1) := by decide +kernel
theorem dX1_init_1 : decode cX1_init 1 = .ok (.invokespecial 3, 3) := by decide +kernel
theorem dX1_init_4 : decode cX1_init 4 = .ok (.aload_n 0, 1) := by decide +kernel
theorem dX1_init_5 : decode cX1_init 5 = .ok (.bipush 12, 2) := by decide +kernel
theorem dX1_init_7 : decode cX1_init 7 = .ok (.newarray .boolean, 2) := by decide +kernel
theorem dX1_init_9 : decode cX1_init 9 = .ok (.putfield 9, 3) := by decide +kernel
theorem dX1_init_12 : decode cX1_init 12 = .ok (.aload_n 0, 1) := by decide +kernel
theorem dX1_init_13 : decode cX1_init 13 = .ok (.bipush 12, 2) := by decide +kernel
theorem dX1_init_15 : decode cX1_init 15 = .ok (.newarray .boolean, 2) := by decide +kernel
theorem dX1_init_17 : decode cX1_init 17 = .ok (.putfield 15, 3) := by decide +kernel
theorem dX1_init_20 : decode cX1_init 20 = .ok (.aload_n 0, 1) := by decide +kernel
theorem dX1_init_21 : decode cX1_init 21 = .ok (.iconst 4, 1) := by decide +kernel
theorem dX1_init_22 : decode cX1_init 22 = .ok (.newarray .int, 2) := by decide +kernel
theorem dX1_init_24 : decode cX1_init 24 = .ok (.putfield 18, 3) := by decide +kernel
theorem dX1_init_27 : decode cX1_init 27 = .ok (.aload_n 0, 1) := by decide +kernel
theorem dX1_init_28 : decode cX1_init 28 = .ok (.aload_n 1, 1) := by decide +kernel
theorem dX1_init_29 : decode cX1_init 29 = .ok (.putfield 22, 3) := by decide +kernel
theorem dX1_init_32 : decode cX1_init 32 = .ok (.aload_n 0, 1) := by decide +kernel
theorem dX1_init_33 : decode cX1_init 33 = .ok (.aload_n 2, 1) := by decide +kernel
theorem dX1_init_34 : decode cX1_init 34 = .ok (.putfield 26, 3) := by decide +kernel
theorem dX1_init_37 : decode cX1_init 37 = .ok (.return_, 1) := by decide +kernel
abbrev mi_X2_init : MI := (yX2_init, cX2_init, 1, none, 1)
theorem cw_X2_init : Cond.code mi_X2_init.1 mi_X2_init.2.1 mi_X2_init.2.2.1 mi_X2_init.2.2.2.1 ∈ wTbl := wTbl_1 40 (by rfl) (by decide +kernel)
theorem dX2_init_0 : decode cX2_init 0 = .ok (.aload_n 0, 1) := by decide +kernel
theorem dX2_init_1 : decode cX2_init 1 = .ok (.invokespecial 3, 3) := by decide +kernel
theorem dX2_init_4 : decode cX2_init 4 = .ok (.aload_n 0, 1) := by decide +kernel
theorem dX2_init_5 : decode cX2_init 5 = .ok (.iconst 4, 1) := by decide +kernel
theorem dX2_init_6 : decode cX2_init 6 = .ok (.newarray .int, 2) := by decide +kernel
theorem dX2_init_8 : decode cX2_init 8 = .ok (.putfield 9, 3) := by decide +kernel
theorem dX2_init_11 : decode cX2_init 11 = .ok (.return_, 1) := by decide +kernel
abbrev mi_X3_init : MI := (yX3_init, cX3_init, 3, none, 1)
theorem cw_X3_init : Cond.code mi_X3_init.1 mi_X3_init.2.1 mi_X3_init.2.2.1 mi_X3_init.2.2.2.1 ∈ wTbl := wTbl_1 73 (by rfl) (by decide +kernel)
theorem dX3_init_0 : decode cX3_init 0 = .ok (.aload_n 0, 1) := by decide +kernel
theorem dX3_init_1 : decode cX3_init 1 = .ok (.invokespecial 3, 3) := by decide +kernel
theorem dX3_init_4 : decode cX3_init 4 = .ok (.aload_n 0, 1) := by decide +kernel
theorem dX3_init_5 : decode cX3_init 5 = .ok (.sipush 300, 3) := by decide +kernel
theorem dX3_init_8 : decode cX3_init 8 = .ok (.newarray .boolean, 2) := by decide +kernel
theorem dX3_init_10 : decode cX3_init 10 = .ok (.putfield 9, 3) := by decide +kernel
theorem dX3_init_13 : decode cX3_init 13 = .ok (.aload_n 0, 1) := by decide +kernel
theorem dX3_init_14 : decode cX3_init 14 = .ok (.sipush 300, 3) := by decide +kernel
theorem dX3_init_17 : decode cX3_init 17 = .ok (.newarray .int, 2) := by decide +kernel
theorem dX3_init_19 : decode cX3_init 19 = .ok (.putfield 15, 3) := by decide +kernel
theorem dX3_init_22 : decode cX3_init 22 = .ok (.aload_n 0, 1) := by decide +kernel
theorem dX3_init_23 : decode cX3_init 23 = .ok (.sipush 300, 3) := by decide +kernel
theorem dX3_init_26 : decode cX3_init 26 = .ok (.newarray .boolean, 2) := by decide +kernel
theorem dX3_init_28 : decode cX3_init 28 = .ok (.putfield 19, 3) := by decide +kernel
theorem dX3_init_31 : decode cX3_init 31 = .ok (.aload_n 0, 1) := by decide +kernel
theorem dX3_init_32 : decode cX3_init 32 = .ok (.sipush 300, 3) := by decide +kernel
theorem dX3_init_35 : decode cX3_init 35 = .ok (.newarray .int, 2) := by decide +kernel
theorem dX3_init_37 : decode cX3_init 37 = .ok (.putfield 22, 3) := by decide +kernel
theorem dX3_init_40 : decode cX3_init 40 = .ok (.aload_n 0, 1) := by decide +kernel
theorem dX3_init_41 : decode cX3_init 41 = .ok (.aload_n 1, 1) := by decide +kernel
theorem dX3_init_42 : decode cX3_init 42 = .ok (.putfield 25, 3) := by decide +kernel
theorem dX3_init_45 : decode cX3_init 45 = .ok (.aload_n 0, 1) := by decide +kernel
theorem dX3_init_46 : decode cX3_init 46 = .ok (.aload_n 2, 1) := by decide +kernel
theorem dX3_init_47 : decode cX3_init 47 = .ok (.putfield 29, 3) := by decide +kernel
theorem dX3_init_50 : decode cX3_init 50 = .ok (.return_, 1) := by decide +kernel
abbrev mi_X4_init : MI := (yX4_init, cX4_init, 1, none, 1)
theorem cw_X4_init : Cond.code mi_X4_init.1 mi_X4_init.2.1 mi_X4_init.2.2.1 mi_X4_init.2.2.2.1 ∈ wTbl := wTbl_1 57 (by rfl) (by decide +kernel)
theorem dX4_init_0 : decode cX4_init 0 = .ok (.aload_n 0, 1) := by decide +kernel
theorem dX4_init_1 : decode cX4_init 1 = .ok (.invokespecial 5, 3) := by decide +kernel
theorem dX4_init_4 : decode cX4_init 4 = .ok (.aload_n 0, 1) := by decide +kernel
theorem dX4_init_5 : decode cX4_init 5 = .ok (.iconst 4, 1) := by decide +kernel
theorem dX4_init_6 : decode cX4_init 6 = .ok (.bipush 7, 2) := by decide +kernel
theorem dX4_init_8 : decode cX4_init 8 = .ok (.multianewarray 11 2, 4) := by decide +kernel
theorem dX4_init_12 : decode cX4_init 12 = .ok (.putfield 13, 3) := by decide +kernel
theorem dX4_init_15 : decode cX4_init 15 = .ok (.return_, 1) := by decide +kernel
abbrev mi_X5_init : MI := (yX5_init, cX5_init, 1, none, 1)
theorem cw_X5_init : Cond.code mi_X5_init.1 mi_X5_init.2.1 mi_X5_init.2.2.1 mi_X5_init.2.2.2.1 ∈ wTbl := wTbl_1 22 (by rfl) (by decide +kernel)
theorem dX5_init_0 : decode cX5_init 0 = .ok (.aload_n 0, 1) := by decide +kernel
theorem dX5_init_1 : decode cX5_init 1 = .ok (.invokespecial 3, 3) := by decide +kernel
theorem dX5_init_4 : decode cX5_init 4 = .ok (.aload_n 0, 1) := by decide +kernel
theorem dX5_init_5 : decode cX5_init 5 = .ok (.iconst 0, 1) := by decide +kernel
theorem dX5_init_6 : decode cX5_init 6 = .ok (.putfield 9, 3) := by decide +kernel
theorem dX5_init_9 : decode cX5_init 9 = .ok (.aload_n 0, 1) := by decide +kernel
theorem dX5_init_10 : decode cX5_init 10 = .ok (.iconst 4, 1) := by decide +kernel
theorem dX5_init_11 : decode cX5_init 11 = .ok (.putfield 15, 3) := by decide +kernel
theorem dX5_init_14 : decode cX5_init 14 = .ok (.return_, 1) := by decide +kernel
abbrev mi_X6_init : MI := (yX6_init, cX6_init, 1, none, 8)
theorem cw_X6_init : Cond.code mi_X6_init.1 mi_X6_init.2.1 mi_X6_init.2.2.1 mi_X6_init.2.2.2.1 ∈ wTbl := wTbl_1 14 (by rfl) (by decide +kernel)
theorem dX6_init_0 : decode cX6_init 0 = .ok (.aload_n 0, 1) := by decide +kernel
theorem dX6_init_1 : decode cX6_init 1 = .ok (.invokespecial 3, 3) := by decide +kernel
theorem dX6_init_4 : decode cX6_init 4 = .ok (.aload_n 0, 1) := by decide +kernel
theorem dX6_init_5 : decode cX6_init 5 = .ok (.new 9, 3) := by decide +kernel
theorem dX6_init_8 : decode cX6_init 8 = .ok (.dup, 1) := by decide +kernel
theorem dX6_init_9 : decode cX6_init 9 = .ok (.invokespecial 11, 3) := by decide +kernel
theorem dX6_init_12 : decode cX6_init 12 = .ok (.putfield 12, 3) := by decide +kernel
theorem dX6_init_15 : decode cX6_init 15 = .ok (.aload_n 0, 1) := by decide +kernel
theorem dX6_init_16 : decode cX6_init 16 = .ok (.new 16, 3) := by decide +kernel
theorem dX6_init_19 : decode cX6_init 19 = .ok (.dup, 1) := by decide +kernel
theorem dX6_init_20 : decode cX6_init 20 = .ok (.invokespecial 18, 3) := by decide +kernel
theorem dX6_init_23 : decode cX6_init 23 = .ok (.putfield 19, 3) := by decide +kernel
theorem dX6_init_26 : decode cX6_init 26 = .ok (.aload_n 0, 1) := by decide +kernel
theorem dX6_init_27 : decode cX6_init 27 = .ok (.new 23, 3) := by decide +kernel
theorem dX6_init_30 : decode cX6_init 30 = .ok (.dup, 1) := by decide +kernel
theorem dX6_init_31 : decode cX6_init 31 = .ok (.invokespecial 25, 3) := by decide +kernel
theorem dX6_init_34 : decode cX6_init 34 = .ok (.putfield 26, 3) := by decide +kernel
theorem dX6_init_37 : decode cX6_init 37 = .ok (.aload_n 0, 1) := by decide +kernel
theorem dX6_init_38 : decode cX6_init 38 = .ok (.new 30, 3) := by decide +kernel
theorem dX6_init_41 : decode cX6_init 41 = .ok (.dup, 1) := by decide +kernel
theorem dX6_init_42 : decode cX6_init 42 = .ok (.aload_n 0, 1) := by decide +kernel
theorem dX6_init_43 : decode cX6_init 43 = .ok (.getfield 12, 3) := by decide +kernel
theorem dX6_init_46 : decode cX6_init 46 = .ok (.aload_n 0, 1) := by decide +kernel
theorem dX6_init_47 : decode cX6_init 47 = .ok (.getfield 19, 3) := by decide +kernel
theorem dX6_init_50 : decode cX6_init 50 = .ok (.invokespecial 32, 3) := by decide +kernel
theorem dX6_init_53 : decode cX6_init 53 = .ok (.putfield 35, 3) := by decide +kernel
theorem dX6_init_56 : decode cX6_init 56 = .ok (.aload_n 0, 1) := by decide +kernel
theorem dX6_init_57 : decode cX6_init 57 = .ok (.new 39, 3) := by decide +kernel
theorem dX6_init_60 : decode cX6_init 60 = .ok (.dup, 1) := by decide +kernel
theorem dX6_init_61 : decode cX6_init 61 = .ok (.aload_n 0, 1) := by decide +kernel
theorem dX6_init_62 : decode cX6_init 62 = .ok (.getfield 12, 3) := by decide +kernel
theorem dX6_init_65 : decode cX6_init 65 = .ok (.aload_n 0, 1) := by decide +kernel
theorem dX6_init_66 : decode cX6_init 66 = .ok (.getfield 35, 3) := by decide +kernel
theorem dX6_init_69 : decode cX6_init 69 = .ok (.invokespecial 41, 3) := by decide +kernel
theorem dX6_init_72 : decode cX6_init 72 = .ok (.putfield 44, 3) := by decide +kernel
theorem dX6_init_75 : decode cX6_init 75 = .ok (.aload_n 0, 1) := by decide +kernel
theorem dX6_init_76 : decode cX6_init 76 = .ok (.new 48, 3) := by decide +kernel
theorem dX6_init_79 : decode cX6_init 79 = .ok (.dup, 1) := by decide +kernel
theorem dX6_init_80 : decode cX6_init 80 = .ok (.aload_n 0, 1) := by decide +kernel
theorem dX6_init_81 : decode cX6_init 81 = .ok (.getfield 12, 3) := by decide +kernel
theorem dX6_init_84 : decode cX6_init 84 = .ok (.aload_n 0, 1) := by decide +kernel
theorem dX6_init_85 : decode cX6_init 85 = .ok (.getfield 19, 3) := by decide +kernel
theorem dX6_init_88 : decode cX6_init 88 = .ok (.aload_n 0, 1) := by decide +kernel
theorem dX6_init_89 : decode cX6_init 89 = .ok (.getfield 35, 3) := by decide +kernel
theorem dX6_init_92 : decode cX6_init 92 = .ok (.invokespecial 50, 3) := by decide +kernel
theorem dX6_init_95 : decode cX6_init 95 = .ok (.putfield 53, 3) := by decide +kernel
theorem dX6_init_98 : decode cX6_init 98 = .ok (.aload_n 0, 1) := by decide +kernel
theorem dX6_init_99 : decode cX6_init 99 = .ok (.invokevirtual 57, 3) := by decide +kernel
theorem dX6_init_102 : decode cX6_init 102 = .ok (.return_, 1) := by decide +kernel
abbrev mi_X7_init : MI := (yX7_init, cX7_init, 1, none, 4)
theorem cw_X7_init : Cond.code mi_X7_init.1 mi_X7_init.2.1 mi_X7_init.2.2.1 mi_X7_init.2.2.2.1 ∈ wTbl := wTbl_3 217 (by rfl) (by decide +kernel)
theorem dX7_init_0 : decode cX7_init 0 = .ok (.aload_n 0, 1) := by decide +kernel
theorem dX7_init_1 : decode cX7_init 1 = .ok (.invokespecial 1, 3) := by decide +kernel
theorem dX7_init_4 : decode cX7_init 4 = .ok (.aload_n 0, 1) := by decide +kernel
theorem dX7_init_5 : decode cX7_init 5 = .ok (.bipush 7, 2) := by decide +kernel
theorem dX7_init_7 : decode cX7_init 7 = .ok (.newarray .int, 2) := by decide +kernel
theorem dX7_init_9 : decode cX7_init 9 = .ok (.putfield 7, 3) := by decide +kernel
theorem dX7_init_12 : decode cX7_init 12 = .ok (.aload_n 0, 1) := by decide +kernel
theorem dX7_init_13 : decode cX7_init 13 = .ok (.bipush 28, 2) := by decide +kernel
theorem dX7_init_15 : decode cX7_init 15 = .ok (.newarray .int, 2) := by decide +kernel
theorem dX7_init_17 : decode cX7_init 17 = .ok (.putfield 13, 3) := by decide +kernel
theorem dX7_init_20 : decode cX7_init 20 = .ok (.aload_n 0, 1) := by decide +kernel
theorem dX7_init_21 : decode cX7_init 21 = .ok (.bipush 48, 2) := by decide +kernel
theorem dX7_init_23 : decode cX7_init 23 = .ok (.newarray .int, 2) := by decide +kernel
theorem dX7_init_25 : decode cX7_init 25 = .ok (.putfield 16, 3) := by decide +kernel
theorem dX7_init_28 : decode cX7_init 28 = .ok (.aload_n 0, 1) := by decide +kernel
theorem dX7_init_29 : decode cX7_init 29 = .ok (.sipush 144, 3) := by decide +kernel
theorem dX7_init_32 : decode cX7_init 32 = .ok (.newarray .int, 2) := by decide +kernel
theorem dX7_init_34 : decode cX7_init 34 = .ok (.putfield 19, 3) := by decide +kernel
theorem dX7_init_37 : decode cX7_init 37 = .ok (.aload_n 0, 1) := by decide +kernel
theorem dX7_init_38 : decode cX7_init 38 = .ok (.sipush 300, 3) := by decide +kernel
theorem dX7_init_41 : decode cX7_init 41 = .ok (.newarray .boolean, 2) := by decide +kernel
theorem dX7_init_43 : decode cX7_init 43 = .ok (.putfield 22, 3) := by decide +kernel
theorem dX7_init_46 : decode cX7_init 46 = .ok (.aload_n 0, 1) := by decide +kernel
theorem dX7_init_47 : decode cX7_init 47 = .ok (.sipush 300, 3) := by decide +kernel
theorem dX7_init_50 : decode cX7_init 50 = .ok (.newarray .int, 2) := by decide +kernel
theorem dX7_init_52 : decode cX7_init 52 = .ok (.putfield 26, 3) := by decide +kernel
theorem dX7_init_55 : decode cX7_init 55 = .ok (.aload_n 0, 1) := by decide +kernel
theorem dX7_init_56 : decode cX7_init 56 = .ok (.getfield 7, 3) := by decide +kernel
theorem dX7_init_59 : decode cX7_init 59 = .ok (.iconst 1, 1) := by decide +kernel
theorem dX7_init_60 : decode cX7_init 60 = .ok (.iconst 4, 1) := by decide +kernel
theorem dX7_init_61 : decode cX7_init 61 = .ok (.iastore, 1) := by decide +kernel
theorem dX7_init_62 : decode cX7_init 62 = .ok (.aload_n 0, 1) := by decide +kernel
theorem dX7_init_63 : decode cX7_init 63 = .ok (.invokevirtual 29, 3) := by decide +kernel
theorem dX7_init_66 : decode cX7_init 66 = .ok (.return_, 1) := by decide +kernel
def M4 : Mem := fun a j => if a = 1 then (if j = 1 then 4 else 0) else 0
theorem eU4 : upd (fun _ => i3 0) ((1 : Int32).toNatClampNeg) (4 : Int32) = (fun j : Nat => i3 (M4 1 (j : Int))) := by
  funext j
  have e1 : (1 : Int32).toNatClampNeg = 1 := by decide
  rw [e1]
  unfold upd M4
  rw [if_pos rfl]
  by_cases h : j = 1
  · subst h; rfl
  · rw [if_neg h, if_neg (by omega)]
set_option maxHeartbeats 4000000 in
set_option maxRecDepth 100000 in
theorem k_X5_init (l : Launch) (D : va_G) (cI cZ cA : ClassId) (h0 sz : Nat) : Met l yX5_init (mW mi_X5_init) ({ frames := 1, cells := 0, slots := 0, locals := 32 }) (va_Pc [.ref h0] (kPre D cI cZ cA [(h0, .inr (5, [.int 0, .int 0]))] sz)) (va_Qv (S := Unit) (fun _ => True) (fun _ t => va_P D clW [(h0, .inr (5, [.int 0, .int 4]))] t.heap ∧ va_D (va_A [(h0, .inr (5, [.int 0, .int 0]))] sz) [(h0, .inr (5, [.int 0, .int 4]))]) (va_A [(h0, .inr (5, [.int 0, .int 0]))] sz)) 0 0 (va_A [(h0, .inr (5, [.int 0, .int 0]))] sz) := by
  refine Met.ofW (cc := cX5_init) (maxL := 1) (ret := none) (by decide +kernel) rfl ?_
  intro p e s m args below meth c s₁ B hml hv
  obtain ⟨rfl, hsz, hP, hK, hD0, hAO⟩ := hv
  have hx := B.exec
  have hb := B.bytes
  have hr := B.returns
  have hts := atoms_spec (ws := mW mi_X5_init) B.pre
  have htw : ∀ w ∈ wTbl, w.before _ s = true := fun w hw => hts w (List.mem_cons_of_mem _ hw)
  have hown : s.vm.findClass RX5 = some m.cls := findClass_of_methodNamed B.named
  have hlocks := B.notSynchronized
  have hin : meth.name = "<init>" := (name_of_methodNamed B.named B.method).1
  subst hsz
  have hD := hD0.self (sz := s.heap.size)
  generalize hAe : va_A [(h0, .inr (5, [.int 0, .int 0]))] s.heap.size = A at hD ⊢
  have hA : ∀ q : Nat, s.heap.size ≤ q → A q := fun q h => by rw [← hAe]; exact Or.inr h
  have hS : va_S A s.heap s.heap [] := va_S.rf
  have hP : va_P D clW [(h0, .inr (5, [.int 0, .int 0]))] s.heap := hP
  have hl := lv_entry ([.ref h0]) (n := 1) (Nat.le_of_ble_eq_true rfl)
  rw [lg_entry_eq]
  generalize (lg_sl ([.ref h0]) ++ List.replicate (1 - (lg_sl ([.ref h0])).length) Slot.unset).toArray = ls at hl ⊢
  have hl : lv_has ls 1 [(0, .ref h0)] := hl
  refine lv_aload_n hx hb dX5_init_0 rfl (lv_at hl 0 rfl) ?_
  refine W.objInit hx hb hown (htw _ (wTbl_1 23 (by rfl) (by decide +kernel))) (htw _ (wTbl_1 16 (by rfl) (by decide +kernel))) (htw _ (wTbl_1 17 (by rfl) (by decide +kernel))) rfl (by rw [hml]; exact hl.1) rfl dX5_init_1 (Nat.le_of_ble_eq_true rfl) (Nat.le_of_ble_eq_true rfl) ?_
  refine W.eq (g2 := F0 m 4 ls []) rfl ?_
  refine lv_aload_n hx hb dX5_init_4 rfl (lv_at hl 0 rfl) ?_
  refine lv_iconst (v := 0) hx hb dX5_init_5 (by decide) ?_
  refine va_put (D := D) (ci := 5) (v := .int 0) (ty := .int) (C := RX5) (T := TX5) (N := 2) hx hb htw uX5 tyX5 tyX5_ok nmX5 hown hK hP hD hS 0 rfl rfl 0 (by decide) (htw _ (wTbl_1 24 (by rfl) (by decide +kernel))) (fun _ h9 => h9) rfl (by decide +kernel) rfl rfl (Nat.le_of_ble_eq_true rfl) dX5_init_6 (fun H locs hP hD hS => ?_)
  have hP : va_P D clW [(h0, .inr (5, [.int 0, .int 0]))] H := hP
  have hD : va_D A [(h0, .inr (5, [.int 0, .int 0]))] := hD
  refine lv_aload_n hx hb dX5_init_9 rfl (lv_at hl 0 rfl) ?_
  refine lv_iconst (v := 4) hx hb dX5_init_10 (by decide) ?_
  refine va_put (D := D) (ci := 5) (v := .int 4) (ty := .int) (C := RX5) (T := TX5) (N := 2) hx hb htw uX5 tyX5 tyX5_ok nmX5 hown hK hP hD hS 0 rfl rfl 1 (by decide) (htw _ (wTbl_1 26 (by rfl) (by decide +kernel))) (fun _ h9 => h9) rfl (by decide +kernel) rfl rfl (Nat.le_of_ble_eq_true rfl) dX5_init_11 (fun H locs hP hD hS => ?_)
  have hP : va_P D clW [(h0, .inr (5, [.int 0, .int 4]))] H := hP
  have hD : va_D A [(h0, .inr (5, [.int 0, .int 4]))] := hD
  refine W.widen (k := 0) (n := 0) (Nat.le_of_ble_eq_true rfl) (Nat.le_of_ble_eq_true rfl) ?_
  exact W.vret hx hb hr (fun t ht hW => ⟨⟨(), rfl, trivial, by rw [ht]; exact hP, hD⟩, hS.F ht⟩) hS.2.2 dX5_init_14
set_option maxHeartbeats 4000000 in
set_option maxRecDepth 100000 in
theorem k_X2_init (l : Launch) (D : va_G) (cI cZ cA : ClassId) (h0 sz : Nat) : Met l yX2_init (mW mi_X2_init) ({ frames := 1, cells := 1, slots := 4, locals := 32 }) (va_Pc [.ref h0] (kPre D cI cZ cA [(h0, .inr (2, [.null, .int 0]))] sz)) (va_Qv (S := Unit) (fun _ => True) (fun _ t => ∃ q6 : Nat, va_P D clW [(h0, .inr (2, [.ref q6, .int 0])), (q6, .inl (cI, 4, .inl (fun _ => i3 0)))] t.heap ∧ va_D (va_A [(h0, .inr (2, [.null, .int 0]))] sz) [(h0, .inr (2, [.ref q6, .int 0])), (q6, .inl (cI, 4, .inl (fun _ => i3 0)))]) (va_A [(h0, .inr (2, [.null, .int 0]))] sz)) 1 4 (va_A [(h0, .inr (2, [.null, .int 0]))] sz) := by
  refine Met.ofW (cc := cX2_init) (maxL := 1) (ret := none) (by decide +kernel) rfl ?_
  intro p e s m args below meth c s₁ B hml hv
  obtain ⟨rfl, hsz, hP, hK, hD0, hAO⟩ := hv
  have hx := B.exec
  have hb := B.bytes
  have hr := B.returns
  have hts := atoms_spec (ws := mW mi_X2_init) B.pre
  have htw : ∀ w ∈ wTbl, w.before _ s = true := fun w hw => hts w (List.mem_cons_of_mem _ hw)
  have hown : s.vm.findClass RX2 = some m.cls := findClass_of_methodNamed B.named
  have hlocks := B.notSynchronized
  have hin : meth.name = "<init>" := (name_of_methodNamed B.named B.method).1
  subst hsz
  have hD := hD0.self (sz := s.heap.size)
  generalize hAe : va_A [(h0, .inr (2, [.null, .int 0]))] s.heap.size = A at hD ⊢
  have hA : ∀ q : Nat, s.heap.size ≤ q → A q := fun q h => by rw [← hAe]; exact Or.inr h
  have hS : va_S A s.heap s.heap [] := va_S.rf
  have hP : va_P D clW [(h0, .inr (2, [.null, .int 0]))] s.heap := hP
  have hl := lv_entry ([.ref h0]) (n := 1) (Nat.le_of_ble_eq_true rfl)
  rw [lg_entry_eq]
  generalize (lg_sl ([.ref h0]) ++ List.replicate (1 - (lg_sl ([.ref h0])).length) Slot.unset).toArray = ls at hl ⊢
  have hl : lv_has ls 1 [(0, .ref h0)] := hl
  refine lv_aload_n hx hb dX2_init_0 rfl (lv_at hl 0 rfl) ?_
  refine W.objInit hx hb hown (htw _ (wTbl_1 41 (by rfl) (by decide +kernel))) (htw _ (wTbl_1 16 (by rfl) (by decide +kernel))) (htw _ (wTbl_1 17 (by rfl) (by decide +kernel))) rfl (by rw [hml]; exact hl.1) rfl dX2_init_1 (Nat.le_of_ble_eq_true rfl) (Nat.le_of_ble_eq_true rfl) ?_
  refine W.eq (g2 := F0 m 4 ls []) rfl ?_
  refine lv_aload_n hx hb dX2_init_4 rfl (lv_at hl 0 rfl) ?_
  refine lv_iconst (v := 4) hx hb dX2_init_5 (by decide) ?_
  refine gn_newa (N' := 4) hx hb (ty := .int) rfl 0 rfl (fun C h => by cases h) rfl (htw _ (wTbl_1 52 (by rfl) (by decide +kernel))) hK hP hD hS hA (by decide) rfl (by decide) (Nat.le_of_ble_eq_true rfl) (Nat.le_of_ble_eq_true rfl) dX2_init_6 (fun q6 H hP hD hS => ?_)
  have hP : va_P D clW [(h0, .inr (2, [.null, .int 0])), (q6, .inl (cI, 4, .inl (fun _ => i3 0)))] H := hP
  have hD : va_D A [(h0, .inr (2, [.null, .int 0])), (q6, .inl (cI, 4, .inl (fun _ => i3 0)))] := hD
  refine va_putF (D := D) (ci := 2) (v := .ref q6) (ty := .array .int) (C := RX2) (T := TX2) (N := 2) hx hb htw uX2 tyX2 tyX2_ok nmX2 hown hK hP hD hS 0 rfl rfl 0 (by decide) (htw _ (wTbl_1 42 (by rfl) (by decide +kernel))) (fun _ h9 => h9) rfl hin rfl (by decide +kernel) rfl rfl (Nat.le_of_ble_eq_true rfl) dX2_init_8 (fun H locs hP hD hS => ?_)
  have hP : va_P D clW [(h0, .inr (2, [.ref q6, .int 0])), (q6, .inl (cI, 4, .inl (fun _ => i3 0)))] H := hP
  have hD : va_D A [(h0, .inr (2, [.ref q6, .int 0])), (q6, .inl (cI, 4, .inl (fun _ => i3 0)))] := hD
  refine W.widen (k := 1) (n := 4) (Nat.le_of_ble_eq_true rfl) (Nat.le_of_ble_eq_true rfl) ?_
  exact W.vret hx hb hr (fun t ht hW => ⟨⟨(), rfl, trivial, q6, by rw [ht]; exact hP, hD⟩, hS.F ht⟩) hS.2.2 dX2_init_11
set_option maxHeartbeats 4000000 in
set_option maxRecDepth 100000 in
theorem k_X4_init (l : Launch) (D : va_G) (cI cZ cA : ClassId) (h0 sz : Nat) : Met l yX4_init (mW mi_X4_init) ({ frames := 1, cells := 5, slots := 32, locals := 32 }) (va_Pc [.ref h0] (kPre D cI cZ cA [(h0, .inr (4, [.null, .int 0]))] sz)) (va_Qv (S := Unit) (fun _ => True) (fun _ t => ∃ q8 : Nat, ∃ r8_0 : Nat, ∃ r8_1 : Nat, ∃ r8_2 : Nat, ∃ r8_3 : Nat, va_P D clW [(h0, .inr (4, [.ref q8, .int 0])), (q8, .inl (cA, 4, .inr (.inr (.inr (.inr (fun j => [some r8_0, some r8_1, some r8_2, some r8_3].getD j none)))))), (r8_0, .inl (cI, 7, .inl (fun _ => i3 0))), (r8_1, .inl (cI, 7, .inl (fun _ => i3 0))), (r8_2, .inl (cI, 7, .inl (fun _ => i3 0))), (r8_3, .inl (cI, 7, .inl (fun _ => i3 0)))] t.heap ∧ va_D (va_A [(h0, .inr (4, [.null, .int 0]))] sz) [(h0, .inr (4, [.ref q8, .int 0])), (q8, .inl (cA, 4, .inr (.inr (.inr (.inr (fun j => [some r8_0, some r8_1, some r8_2, some r8_3].getD j none)))))), (r8_0, .inl (cI, 7, .inl (fun _ => i3 0))), (r8_1, .inl (cI, 7, .inl (fun _ => i3 0))), (r8_2, .inl (cI, 7, .inl (fun _ => i3 0))), (r8_3, .inl (cI, 7, .inl (fun _ => i3 0)))]) (va_A [(h0, .inr (4, [.null, .int 0]))] sz)) 5 32 (va_A [(h0, .inr (4, [.null, .int 0]))] sz) := by
  refine Met.ofW (cc := cX4_init) (maxL := 1) (ret := none) (by decide +kernel) rfl ?_
  intro p e s m args below meth c s₁ B hml hv
  obtain ⟨rfl, hsz, hP, hK, hD0, hAO⟩ := hv
  have hx := B.exec
  have hb := B.bytes
  have hr := B.returns
  have hts := atoms_spec (ws := mW mi_X4_init) B.pre
  have htw : ∀ w ∈ wTbl, w.before _ s = true := fun w hw => hts w (List.mem_cons_of_mem _ hw)
  have hown : s.vm.findClass RX4 = some m.cls := findClass_of_methodNamed B.named
  have hlocks := B.notSynchronized
  have hin : meth.name = "<init>" := (name_of_methodNamed B.named B.method).1
  subst hsz
  have hD := hD0.self (sz := s.heap.size)
  generalize hAe : va_A [(h0, .inr (4, [.null, .int 0]))] s.heap.size = A at hD ⊢
  have hA : ∀ q : Nat, s.heap.size ≤ q → A q := fun q h => by rw [← hAe]; exact Or.inr h
  have hS : va_S A s.heap s.heap [] := va_S.rf
  have hP : va_P D clW [(h0, .inr (4, [.null, .int 0]))] s.heap := hP
  have hl := lv_entry ([.ref h0]) (n := 1) (Nat.le_of_ble_eq_true rfl)
  rw [lg_entry_eq]
  generalize (lg_sl ([.ref h0]) ++ List.replicate (1 - (lg_sl ([.ref h0])).length) Slot.unset).toArray = ls at hl ⊢
  have hl : lv_has ls 1 [(0, .ref h0)] := hl
  refine lv_aload_n hx hb dX4_init_0 rfl (lv_at hl 0 rfl) ?_
  refine W.objInit hx hb hown (htw _ (wTbl_1 58 (by rfl) (by decide +kernel))) (htw _ (wTbl_1 16 (by rfl) (by decide +kernel))) (htw _ (wTbl_1 17 (by rfl) (by decide +kernel))) rfl (by rw [hml]; exact hl.1) rfl dX4_init_1 (Nat.le_of_ble_eq_true rfl) (Nat.le_of_ble_eq_true rfl) ?_
  refine W.eq (g2 := F0 m 4 ls []) rfl ?_
  refine lv_aload_n hx hb dX4_init_4 rfl (lv_at hl 0 rfl) ?_
  refine lv_iconst (v := 4) hx hb dX4_init_5 (by decide) ?_
  refine lv_bipush (v := 7) hx hb dX4_init_6 (by decide +kernel) ?_
  refine gn_mna hx hb hown (htw _ (wTbl_1 59 (by rfl) (by decide +kernel))) (over_moved (Vm.Alike.refl s.vm) hAO) (htw _ (wTbl_1 52 (by rfl) (by decide +kernel))) hK hP hD hS hA (Nat.le_of_ble_eq_true rfl) (Nat.le_of_ble_eq_true rfl) dX4_init_8 (fun q8 r8_0 r8_1 r8_2 r8_3 H hP hD hS => ?_)
  have hP : va_P D clW [(h0, .inr (4, [.null, .int 0])), (q8, .inl (cA, 4, .inr (.inr (.inr (.inr (fun j => [some r8_0, some r8_1, some r8_2, some r8_3].getD j none)))))), (r8_0, .inl (cI, 7, .inl (fun _ => i3 0))), (r8_1, .inl (cI, 7, .inl (fun _ => i3 0))), (r8_2, .inl (cI, 7, .inl (fun _ => i3 0))), (r8_3, .inl (cI, 7, .inl (fun _ => i3 0)))] H := hP
  have hD : va_D A [(h0, .inr (4, [.null, .int 0])), (q8, .inl (cA, 4, .inr (.inr (.inr (.inr (fun j => [some r8_0, some r8_1, some r8_2, some r8_3].getD j none)))))), (r8_0, .inl (cI, 7, .inl (fun _ => i3 0))), (r8_1, .inl (cI, 7, .inl (fun _ => i3 0))), (r8_2, .inl (cI, 7, .inl (fun _ => i3 0))), (r8_3, .inl (cI, 7, .inl (fun _ => i3 0)))] := hD
  refine va_putF (D := D) (ci := 4) (v := .ref q8) (ty := .array (.array .int)) (C := RX4) (T := TX4) (N := 2) hx hb htw uX4 tyX4 tyX4_ok nmX4 hown hK hP hD hS 0 rfl rfl 0 (by decide) (htw _ (wTbl_1 61 (by rfl) (by decide +kernel))) (fun _ h9 => h9) rfl hin rfl (by decide +kernel) rfl rfl (Nat.le_of_ble_eq_true rfl) dX4_init_12 (fun H locs hP hD hS => ?_)
  have hP : va_P D clW [(h0, .inr (4, [.ref q8, .int 0])), (q8, .inl (cA, 4, .inr (.inr (.inr (.inr (fun j => [some r8_0, some r8_1, some r8_2, some r8_3].getD j none)))))), (r8_0, .inl (cI, 7, .inl (fun _ => i3 0))), (r8_1, .inl (cI, 7, .inl (fun _ => i3 0))), (r8_2, .inl (cI, 7, .inl (fun _ => i3 0))), (r8_3, .inl (cI, 7, .inl (fun _ => i3 0)))] H := hP
  have hD : va_D A [(h0, .inr (4, [.ref q8, .int 0])), (q8, .inl (cA, 4, .inr (.inr (.inr (.inr (fun j => [some r8_0, some r8_1, some r8_2, some r8_3].getD j none)))))), (r8_0, .inl (cI, 7, .inl (fun _ => i3 0))), (r8_1, .inl (cI, 7, .inl (fun _ => i3 0))), (r8_2, .inl (cI, 7, .inl (fun _ => i3 0))), (r8_3, .inl (cI, 7, .inl (fun _ => i3 0)))] := hD
  refine W.widen (k := 5) (n := 32) (Nat.le_of_ble_eq_true rfl) (Nat.le_of_ble_eq_true rfl) ?_
  exact W.vret hx hb hr (fun t ht hW => ⟨⟨(), rfl, trivial, q8, r8_0, r8_1, r8_2, r8_3, by rw [ht]; exact hP, hD⟩, hS.F ht⟩) hS.2.2 dX4_init_15
set_option maxHeartbeats 4000000 in
set_option maxRecDepth 100000 in
theorem k_X3_init (l : Launch) (D : va_G) (cI cZ cA : ClassId) (h0 sz : Nat) (a1 : Nat) (a2 : Nat) : Met l yX3_init (mW mi_X3_init) ({ frames := 1, cells := 4, slots := 1200, locals := 32 }) (va_Pc [.ref h0, .ref a1, .ref a2] (kPre D cI cZ cA [(h0, .inr (3, [.null, .null, .null, .null, .null, .null, .int 0, .int 0]))] sz)) (va_Qv (S := Unit) (fun _ => True) (fun _ t => ∃ q8 : Nat, ∃ q17 : Nat, ∃ q26 : Nat, ∃ q35 : Nat, va_P D clW [(h0, .inr (3, [.ref a1, .ref a2, .ref q8, .ref q17, .ref q26, .ref q35, .int 0, .int 0])), (q8, .inl (cZ, 300, .inl (fun _ => i3 0))), (q17, .inl (cI, 300, .inl (fun _ => i3 0))), (q26, .inl (cZ, 300, .inl (fun _ => i3 0))), (q35, .inl (cI, 300, .inl (fun _ => i3 0)))] t.heap ∧ va_D (va_A [(h0, .inr (3, [.null, .null, .null, .null, .null, .null, .int 0, .int 0]))] sz) [(h0, .inr (3, [.ref a1, .ref a2, .ref q8, .ref q17, .ref q26, .ref q35, .int 0, .int 0])), (q8, .inl (cZ, 300, .inl (fun _ => i3 0))), (q17, .inl (cI, 300, .inl (fun _ => i3 0))), (q26, .inl (cZ, 300, .inl (fun _ => i3 0))), (q35, .inl (cI, 300, .inl (fun _ => i3 0)))]) (va_A [(h0, .inr (3, [.null, .null, .null, .null, .null, .null, .int 0, .int 0]))] sz)) 4 1200 (va_A [(h0, .inr (3, [.null, .null, .null, .null, .null, .null, .int 0, .int 0]))] sz) := by
  refine Met.ofW (cc := cX3_init) (maxL := 3) (ret := none) (by decide +kernel) rfl ?_
  intro p e s m args below meth c s₁ B hml hv
  obtain ⟨rfl, hsz, hP, hK, hD0, hAO⟩ := hv
  have hx := B.exec
  have hb := B.bytes
  have hr := B.returns
  have hts := atoms_spec (ws := mW mi_X3_init) B.pre
  have htw : ∀ w ∈ wTbl, w.before _ s = true := fun w hw => hts w (List.mem_cons_of_mem _ hw)
  have hown : s.vm.findClass RX3 = some m.cls := findClass_of_methodNamed B.named
  have hlocks := B.notSynchronized
  have hin : meth.name = "<init>" := (name_of_methodNamed B.named B.method).1
  subst hsz
  have hD := hD0.self (sz := s.heap.size)
  generalize hAe : va_A [(h0, .inr (3, [.null, .null, .null, .null, .null, .null, .int 0, .int 0]))] s.heap.size = A at hD ⊢
  have hA : ∀ q : Nat, s.heap.size ≤ q → A q := fun q h => by rw [← hAe]; exact Or.inr h
  have hS : va_S A s.heap s.heap [] := va_S.rf
  have hP : va_P D clW [(h0, .inr (3, [.null, .null, .null, .null, .null, .null, .int 0, .int 0]))] s.heap := hP
  have hl := lv_entry ([.ref h0, .ref a1, .ref a2]) (n := 3) (Nat.le_of_ble_eq_true rfl)
  rw [lg_entry_eq]
  generalize (lg_sl ([.ref h0, .ref a1, .ref a2]) ++ List.replicate (3 - (lg_sl ([.ref h0, .ref a1, .ref a2])).length) Slot.unset).toArray = ls at hl ⊢
  have hl : lv_has ls 3 [(0, .ref h0), (1, .ref a1), (2, .ref a2)] := hl
  refine lv_aload_n hx hb dX3_init_0 rfl (lv_at hl 0 rfl) ?_
  refine W.objInit hx hb hown (htw _ (wTbl_1 74 (by rfl) (by decide +kernel))) (htw _ (wTbl_1 16 (by rfl) (by decide +kernel))) (htw _ (wTbl_1 17 (by rfl) (by decide +kernel))) rfl (by rw [hml]; exact hl.1) rfl dX3_init_1 (Nat.le_of_ble_eq_true rfl) (Nat.le_of_ble_eq_true rfl) ?_
  refine W.eq (g2 := F0 m 4 ls []) rfl ?_
  refine lv_aload_n hx hb dX3_init_4 rfl (lv_at hl 0 rfl) ?_
  refine lv_sipush (v := 300) hx hb dX3_init_5 (by decide +kernel) ?_
  refine gn_newa (N' := 300) hx hb (ty := .boolean) rfl 1 rfl (fun C h => by cases h) rfl (htw _ (wTbl_1 100 (by rfl) (by decide +kernel))) hK hP hD hS hA (by decide) rfl (by decide) (Nat.le_of_ble_eq_true rfl) (Nat.le_of_ble_eq_true rfl) dX3_init_8 (fun q8 H hP hD hS => ?_)
  have hP : va_P D clW [(h0, .inr (3, [.null, .null, .null, .null, .null, .null, .int 0, .int 0])), (q8, .inl (cZ, 300, .inl (fun _ => i3 0)))] H := hP
  have hD : va_D A [(h0, .inr (3, [.null, .null, .null, .null, .null, .null, .int 0, .int 0])), (q8, .inl (cZ, 300, .inl (fun _ => i3 0)))] := hD
  refine va_putF (D := D) (ci := 3) (v := .ref q8) (ty := .array .boolean) (C := RX3) (T := TX3) (N := 8) hx hb htw uX3 tyX3 tyX3_ok nmX3 hown hK hP hD hS 0 rfl rfl 2 (by decide) (htw _ (wTbl_1 77 (by rfl) (by decide +kernel))) (fun _ h9 => h9) rfl hin rfl (by decide +kernel) rfl rfl (Nat.le_of_ble_eq_true rfl) dX3_init_10 (fun H locs hP hD hS => ?_)
  have hP : va_P D clW [(h0, .inr (3, [.null, .null, .ref q8, .null, .null, .null, .int 0, .int 0])), (q8, .inl (cZ, 300, .inl (fun _ => i3 0)))] H := hP
  have hD : va_D A [(h0, .inr (3, [.null, .null, .ref q8, .null, .null, .null, .int 0, .int 0])), (q8, .inl (cZ, 300, .inl (fun _ => i3 0)))] := hD
  refine lv_aload_n hx hb dX3_init_13 rfl (lv_at hl 0 rfl) ?_
  refine lv_sipush (v := 300) hx hb dX3_init_14 (by decide +kernel) ?_
  refine gn_newa (N' := 300) hx hb (ty := .int) rfl 0 rfl (fun C h => by cases h) rfl (htw _ (wTbl_1 52 (by rfl) (by decide +kernel))) hK hP hD hS hA (by decide) rfl (by decide) (Nat.le_of_ble_eq_true rfl) (Nat.le_of_ble_eq_true rfl) dX3_init_17 (fun q17 H hP hD hS => ?_)
  have hP : va_P D clW [(h0, .inr (3, [.null, .null, .ref q8, .null, .null, .null, .int 0, .int 0])), (q8, .inl (cZ, 300, .inl (fun _ => i3 0))), (q17, .inl (cI, 300, .inl (fun _ => i3 0)))] H := hP
  have hD : va_D A [(h0, .inr (3, [.null, .null, .ref q8, .null, .null, .null, .int 0, .int 0])), (q8, .inl (cZ, 300, .inl (fun _ => i3 0))), (q17, .inl (cI, 300, .inl (fun _ => i3 0)))] := hD
  refine va_putF (D := D) (ci := 3) (v := .ref q17) (ty := .array .int) (C := RX3) (T := TX3) (N := 8) hx hb htw uX3 tyX3 tyX3_ok nmX3 hown hK hP hD hS 0 rfl rfl 3 (by decide) (htw _ (wTbl_1 78 (by rfl) (by decide +kernel))) (fun _ h9 => h9) rfl hin rfl (by decide +kernel) rfl rfl (Nat.le_of_ble_eq_true rfl) dX3_init_19 (fun H locs hP hD hS => ?_)
  have hP : va_P D clW [(h0, .inr (3, [.null, .null, .ref q8, .ref q17, .null, .null, .int 0, .int 0])), (q8, .inl (cZ, 300, .inl (fun _ => i3 0))), (q17, .inl (cI, 300, .inl (fun _ => i3 0)))] H := hP
  have hD : va_D A [(h0, .inr (3, [.null, .null, .ref q8, .ref q17, .null, .null, .int 0, .int 0])), (q8, .inl (cZ, 300, .inl (fun _ => i3 0))), (q17, .inl (cI, 300, .inl (fun _ => i3 0)))] := hD
  refine lv_aload_n hx hb dX3_init_22 rfl (lv_at hl 0 rfl) ?_
  refine lv_sipush (v := 300) hx hb dX3_init_23 (by decide +kernel) ?_
  refine gn_newa (N' := 300) hx hb (ty := .boolean) rfl 1 rfl (fun C h => by cases h) rfl (htw _ (wTbl_1 100 (by rfl) (by decide +kernel))) hK hP hD hS hA (by decide) rfl (by decide) (Nat.le_of_ble_eq_true rfl) (Nat.le_of_ble_eq_true rfl) dX3_init_26 (fun q26 H hP hD hS => ?_)
  have hP : va_P D clW [(h0, .inr (3, [.null, .null, .ref q8, .ref q17, .null, .null, .int 0, .int 0])), (q8, .inl (cZ, 300, .inl (fun _ => i3 0))), (q17, .inl (cI, 300, .inl (fun _ => i3 0))), (q26, .inl (cZ, 300, .inl (fun _ => i3 0)))] H := hP
  have hD : va_D A [(h0, .inr (3, [.null, .null, .ref q8, .ref q17, .null, .null, .int 0, .int 0])), (q8, .inl (cZ, 300, .inl (fun _ => i3 0))), (q17, .inl (cI, 300, .inl (fun _ => i3 0))), (q26, .inl (cZ, 300, .inl (fun _ => i3 0)))] := hD
  refine va_putF (D := D) (ci := 3) (v := .ref q26) (ty := .array .boolean) (C := RX3) (T := TX3) (N := 8) hx hb htw uX3 tyX3 tyX3_ok nmX3 hown hK hP hD hS 0 rfl rfl 4 (by decide) (htw _ (wTbl_1 79 (by rfl) (by decide +kernel))) (fun _ h9 => h9) rfl hin rfl (by decide +kernel) rfl rfl (Nat.le_of_ble_eq_true rfl) dX3_init_28 (fun H locs hP hD hS => ?_)
  have hP : va_P D clW [(h0, .inr (3, [.null, .null, .ref q8, .ref q17, .ref q26, .null, .int 0, .int 0])), (q8, .inl (cZ, 300, .inl (fun _ => i3 0))), (q17, .inl (cI, 300, .inl (fun _ => i3 0))), (q26, .inl (cZ, 300, .inl (fun _ => i3 0)))] H := hP
  have hD : va_D A [(h0, .inr (3, [.null, .null, .ref q8, .ref q17, .ref q26, .null, .int 0, .int 0])), (q8, .inl (cZ, 300, .inl (fun _ => i3 0))), (q17, .inl (cI, 300, .inl (fun _ => i3 0))), (q26, .inl (cZ, 300, .inl (fun _ => i3 0)))] := hD
  refine lv_aload_n hx hb dX3_init_31 rfl (lv_at hl 0 rfl) ?_
  refine lv_sipush (v := 300) hx hb dX3_init_32 (by decide +kernel) ?_
  refine gn_newa (N' := 300) hx hb (ty := .int) rfl 0 rfl (fun C h => by cases h) rfl (htw _ (wTbl_1 52 (by rfl) (by decide +kernel))) hK hP hD hS hA (by decide) rfl (by decide) (Nat.le_of_ble_eq_true rfl) (Nat.le_of_ble_eq_true rfl) dX3_init_35 (fun q35 H hP hD hS => ?_)
  have hP : va_P D clW [(h0, .inr (3, [.null, .null, .ref q8, .ref q17, .ref q26, .null, .int 0, .int 0])), (q8, .inl (cZ, 300, .inl (fun _ => i3 0))), (q17, .inl (cI, 300, .inl (fun _ => i3 0))), (q26, .inl (cZ, 300, .inl (fun _ => i3 0))), (q35, .inl (cI, 300, .inl (fun _ => i3 0)))] H := hP
  have hD : va_D A [(h0, .inr (3, [.null, .null, .ref q8, .ref q17, .ref q26, .null, .int 0, .int 0])), (q8, .inl (cZ, 300, .inl (fun _ => i3 0))), (q17, .inl (cI, 300, .inl (fun _ => i3 0))), (q26, .inl (cZ, 300, .inl (fun _ => i3 0))), (q35, .inl (cI, 300, .inl (fun _ => i3 0)))] := hD
  refine va_putF (D := D) (ci := 3) (v := .ref q35) (ty := .array .int) (C := RX3) (T := TX3) (N := 8) hx hb htw uX3 tyX3 tyX3_ok nmX3 hown hK hP hD hS 0 rfl rfl 5 (by decide) (htw _ (wTbl_1 80 (by rfl) (by decide +kernel))) (fun _ h9 => h9) rfl hin rfl (by decide +kernel) rfl rfl (Nat.le_of_ble_eq_true rfl) dX3_init_37 (fun H locs hP hD hS => ?_)
  have hP : va_P D clW [(h0, .inr (3, [.null, .null, .ref q8, .ref q17, .ref q26, .ref q35, .int 0, .int 0])), (q8, .inl (cZ, 300, .inl (fun _ => i3 0))), (q17, .inl (cI, 300, .inl (fun _ => i3 0))), (q26, .inl (cZ, 300, .inl (fun _ => i3 0))), (q35, .inl (cI, 300, .inl (fun _ => i3 0)))] H := hP
  have hD : va_D A [(h0, .inr (3, [.null, .null, .ref q8, .ref q17, .ref q26, .ref q35, .int 0, .int 0])), (q8, .inl (cZ, 300, .inl (fun _ => i3 0))), (q17, .inl (cI, 300, .inl (fun _ => i3 0))), (q26, .inl (cZ, 300, .inl (fun _ => i3 0))), (q35, .inl (cI, 300, .inl (fun _ => i3 0)))] := hD
  refine lv_aload_n hx hb dX3_init_40 rfl (lv_at hl 0 rfl) ?_
  refine lv_aload_n hx hb dX3_init_41 rfl (lv_at hl 1 rfl) ?_
  refine va_putF (D := D) (ci := 3) (v := .ref a1) (ty := .object "WallpaperGroups$Lattice") (C := RX3) (T := TX3) (N := 8) hx hb htw uX3 tyX3 tyX3_ok nmX3 hown hK hP hD hS 0 rfl rfl 0 (by decide) (htw _ (wTbl_1 75 (by rfl) (by decide +kernel))) (fun _ h9 => h9) rfl hin rfl (by decide +kernel) rfl rfl (Nat.le_of_ble_eq_true rfl) dX3_init_42 (fun H locs hP hD hS => ?_)
  have hP : va_P D clW [(h0, .inr (3, [.ref a1, .null, .ref q8, .ref q17, .ref q26, .ref q35, .int 0, .int 0])), (q8, .inl (cZ, 300, .inl (fun _ => i3 0))), (q17, .inl (cI, 300, .inl (fun _ => i3 0))), (q26, .inl (cZ, 300, .inl (fun _ => i3 0))), (q35, .inl (cI, 300, .inl (fun _ => i3 0)))] H := hP
  have hD : va_D A [(h0, .inr (3, [.ref a1, .null, .ref q8, .ref q17, .ref q26, .ref q35, .int 0, .int 0])), (q8, .inl (cZ, 300, .inl (fun _ => i3 0))), (q17, .inl (cI, 300, .inl (fun _ => i3 0))), (q26, .inl (cZ, 300, .inl (fun _ => i3 0))), (q35, .inl (cI, 300, .inl (fun _ => i3 0)))] := hD
  refine lv_aload_n hx hb dX3_init_45 rfl (lv_at hl 0 rfl) ?_
  refine lv_aload_n hx hb dX3_init_46 rfl (lv_at hl 2 rfl) ?_
  refine va_putF (D := D) (ci := 3) (v := .ref a2) (ty := .object "WallpaperGroups$Generators") (C := RX3) (T := TX3) (N := 8) hx hb htw uX3 tyX3 tyX3_ok nmX3 hown hK hP hD hS 0 rfl rfl 1 (by decide) (htw _ (wTbl_1 76 (by rfl) (by decide +kernel))) (fun _ h9 => h9) rfl hin rfl (by decide +kernel) rfl rfl (Nat.le_of_ble_eq_true rfl) dX3_init_47 (fun H locs hP hD hS => ?_)
  have hP : va_P D clW [(h0, .inr (3, [.ref a1, .ref a2, .ref q8, .ref q17, .ref q26, .ref q35, .int 0, .int 0])), (q8, .inl (cZ, 300, .inl (fun _ => i3 0))), (q17, .inl (cI, 300, .inl (fun _ => i3 0))), (q26, .inl (cZ, 300, .inl (fun _ => i3 0))), (q35, .inl (cI, 300, .inl (fun _ => i3 0)))] H := hP
  have hD : va_D A [(h0, .inr (3, [.ref a1, .ref a2, .ref q8, .ref q17, .ref q26, .ref q35, .int 0, .int 0])), (q8, .inl (cZ, 300, .inl (fun _ => i3 0))), (q17, .inl (cI, 300, .inl (fun _ => i3 0))), (q26, .inl (cZ, 300, .inl (fun _ => i3 0))), (q35, .inl (cI, 300, .inl (fun _ => i3 0)))] := hD
  refine W.widen (k := 4) (n := 1200) (Nat.le_of_ble_eq_true rfl) (Nat.le_of_ble_eq_true rfl) ?_
  exact W.vret hx hb hr (fun t ht hW => ⟨⟨(), rfl, trivial, q8, q17, q26, q35, by rw [ht]; exact hP, hD⟩, hS.F ht⟩) hS.2.2 dX3_init_50
set_option maxHeartbeats 4000000 in
set_option maxRecDepth 100000 in
theorem k_X1_init (l : Launch) (D : va_G) (cI cZ cA : ClassId) (h0 sz : Nat) (a1 : Nat) (a2 : Nat) : Met l yX1_init (mW mi_X1_init) ({ frames := 1, cells := 3, slots := 28, locals := 32 }) (va_Pc [.ref h0, .ref a1, .ref a2] (kPre D cI cZ cA [(h0, .inr (1, [.null, .null, .null, .null, .null]))] sz)) (va_Qv (S := Unit) (fun _ => True) (fun _ t => ∃ q7 : Nat, ∃ q15 : Nat, ∃ q22 : Nat, va_P D clW [(h0, .inr (1, [.ref a1, .ref a2, .ref q7, .ref q15, .ref q22])), (q7, .inl (cZ, 12, .inl (fun _ => i3 0))), (q15, .inl (cZ, 12, .inl (fun _ => i3 0))), (q22, .inl (cI, 4, .inl (fun _ => i3 0)))] t.heap ∧ va_D (va_A [(h0, .inr (1, [.null, .null, .null, .null, .null]))] sz) [(h0, .inr (1, [.ref a1, .ref a2, .ref q7, .ref q15, .ref q22])), (q7, .inl (cZ, 12, .inl (fun _ => i3 0))), (q15, .inl (cZ, 12, .inl (fun _ => i3 0))), (q22, .inl (cI, 4, .inl (fun _ => i3 0)))]) (va_A [(h0, .inr (1, [.null, .null, .null, .null, .null]))] sz)) 3 28 (va_A [(h0, .inr (1, [.null, .null, .null, .null, .null]))] sz) := by
  refine Met.ofW (cc := cX1_init) (maxL := 3) (ret := none) (by decide +kernel) rfl ?_
  intro p e s m args below meth c s₁ B hml hv
  obtain ⟨rfl, hsz, hP, hK, hD0, hAO⟩ := hv
  have hx := B.exec
  have hb := B.bytes
  have hr := B.returns
  have hts := atoms_spec (ws := mW mi_X1_init) B.pre
  have htw : ∀ w ∈ wTbl, w.before _ s = true := fun w hw => hts w (List.mem_cons_of_mem _ hw)
  have hown : s.vm.findClass RX1 = some m.cls := findClass_of_methodNamed B.named
  have hlocks := B.notSynchronized
  have hin : meth.name = "<init>" := (name_of_methodNamed B.named B.method).1
  subst hsz
  have hD := hD0.self (sz := s.heap.size)
  generalize hAe : va_A [(h0, .inr (1, [.null, .null, .null, .null, .null]))] s.heap.size = A at hD ⊢
  have hA : ∀ q : Nat, s.heap.size ≤ q → A q := fun q h => by rw [← hAe]; exact Or.inr h
  have hS : va_S A s.heap s.heap [] := va_S.rf
  have hP : va_P D clW [(h0, .inr (1, [.null, .null, .null, .null, .null]))] s.heap := hP
  have hl := lv_entry ([.ref h0, .ref a1, .ref a2]) (n := 3) (Nat.le_of_ble_eq_true rfl)
  rw [lg_entry_eq]
  generalize (lg_sl ([.ref h0, .ref a1, .ref a2]) ++ List.replicate (3 - (lg_sl ([.ref h0, .ref a1, .ref a2])).length) Slot.unset).toArray = ls at hl ⊢
  have hl : lv_has ls 3 [(0, .ref h0), (1, .ref a1), (2, .ref a2)] := hl
  refine lv_aload_n hx hb dX1_init_0 rfl (lv_at hl 0 rfl) ?_
  refine W.objInit hx hb hown (htw _ (wTbl_1 106 (by rfl) (by decide +kernel))) (htw _ (wTbl_1 16 (by rfl) (by decide +kernel))) (htw _ (wTbl_1 17 (by rfl) (by decide +kernel))) rfl (by rw [hml]; exact hl.1) rfl dX1_init_1 (Nat.le_of_ble_eq_true rfl) (Nat.le_of_ble_eq_true rfl) ?_
  refine W.eq (g2 := F0 m 4 ls []) rfl ?_
  refine lv_aload_n hx hb dX1_init_4 rfl (lv_at hl 0 rfl) ?_
  refine lv_bipush (v := 12) hx hb dX1_init_5 (by decide +kernel) ?_
  refine gn_newa (N' := 12) hx hb (ty := .boolean) rfl 1 rfl (fun C h => by cases h) rfl (htw _ (wTbl_1 100 (by rfl) (by decide +kernel))) hK hP hD hS hA (by decide) rfl (by decide) (Nat.le_of_ble_eq_true rfl) (Nat.le_of_ble_eq_true rfl) dX1_init_7 (fun q7 H hP hD hS => ?_)
  have hP : va_P D clW [(h0, .inr (1, [.null, .null, .null, .null, .null])), (q7, .inl (cZ, 12, .inl (fun _ => i3 0)))] H := hP
  have hD : va_D A [(h0, .inr (1, [.null, .null, .null, .null, .null])), (q7, .inl (cZ, 12, .inl (fun _ => i3 0)))] := hD
  refine va_putF (D := D) (ci := 1) (v := .ref q7) (ty := .array .boolean) (C := RX1) (T := TX1) (N := 5) hx hb htw uX1 tyX1 tyX1_ok nmX1 hown hK hP hD hS 0 rfl rfl 2 (by decide) (htw _ (wTbl_1 109 (by rfl) (by decide +kernel))) (fun _ h9 => h9) rfl hin rfl (by decide +kernel) rfl rfl (Nat.le_of_ble_eq_true rfl) dX1_init_9 (fun H locs hP hD hS => ?_)
  have hP : va_P D clW [(h0, .inr (1, [.null, .null, .ref q7, .null, .null])), (q7, .inl (cZ, 12, .inl (fun _ => i3 0)))] H := hP
  have hD : va_D A [(h0, .inr (1, [.null, .null, .ref q7, .null, .null])), (q7, .inl (cZ, 12, .inl (fun _ => i3 0)))] := hD
  refine lv_aload_n hx hb dX1_init_12 rfl (lv_at hl 0 rfl) ?_
  refine lv_bipush (v := 12) hx hb dX1_init_13 (by decide +kernel) ?_
  refine gn_newa (N' := 12) hx hb (ty := .boolean) rfl 1 rfl (fun C h => by cases h) rfl (htw _ (wTbl_1 100 (by rfl) (by decide +kernel))) hK hP hD hS hA (by decide) rfl (by decide) (Nat.le_of_ble_eq_true rfl) (Nat.le_of_ble_eq_true rfl) dX1_init_15 (fun q15 H hP hD hS => ?_)
  have hP : va_P D clW [(h0, .inr (1, [.null, .null, .ref q7, .null, .null])), (q7, .inl (cZ, 12, .inl (fun _ => i3 0))), (q15, .inl (cZ, 12, .inl (fun _ => i3 0)))] H := hP
  have hD : va_D A [(h0, .inr (1, [.null, .null, .ref q7, .null, .null])), (q7, .inl (cZ, 12, .inl (fun _ => i3 0))), (q15, .inl (cZ, 12, .inl (fun _ => i3 0)))] := hD
  refine va_putF (D := D) (ci := 1) (v := .ref q15) (ty := .array .boolean) (C := RX1) (T := TX1) (N := 5) hx hb htw uX1 tyX1 tyX1_ok nmX1 hown hK hP hD hS 0 rfl rfl 3 (by decide) (htw _ (wTbl_1 110 (by rfl) (by decide +kernel))) (fun _ h9 => h9) rfl hin rfl (by decide +kernel) rfl rfl (Nat.le_of_ble_eq_true rfl) dX1_init_17 (fun H locs hP hD hS => ?_)
  have hP : va_P D clW [(h0, .inr (1, [.null, .null, .ref q7, .ref q15, .null])), (q7, .inl (cZ, 12, .inl (fun _ => i3 0))), (q15, .inl (cZ, 12, .inl (fun _ => i3 0)))] H := hP
  have hD : va_D A [(h0, .inr (1, [.null, .null, .ref q7, .ref q15, .null])), (q7, .inl (cZ, 12, .inl (fun _ => i3 0))), (q15, .inl (cZ, 12, .inl (fun _ => i3 0)))] := hD
  refine lv_aload_n hx hb dX1_init_20 rfl (lv_at hl 0 rfl) ?_
  refine lv_iconst (v := 4) hx hb dX1_init_21 (by decide) ?_
  refine gn_newa (N' := 4) hx hb (ty := .int) rfl 0 rfl (fun C h => by cases h) rfl (htw _ (wTbl_1 52 (by rfl) (by decide +kernel))) hK hP hD hS hA (by decide) rfl (by decide) (Nat.le_of_ble_eq_true rfl) (Nat.le_of_ble_eq_true rfl) dX1_init_22 (fun q22 H hP hD hS => ?_)
  have hP : va_P D clW [(h0, .inr (1, [.null, .null, .ref q7, .ref q15, .null])), (q7, .inl (cZ, 12, .inl (fun _ => i3 0))), (q15, .inl (cZ, 12, .inl (fun _ => i3 0))), (q22, .inl (cI, 4, .inl (fun _ => i3 0)))] H := hP
  have hD : va_D A [(h0, .inr (1, [.null, .null, .ref q7, .ref q15, .null])), (q7, .inl (cZ, 12, .inl (fun _ => i3 0))), (q15, .inl (cZ, 12, .inl (fun _ => i3 0))), (q22, .inl (cI, 4, .inl (fun _ => i3 0)))] := hD
  refine va_putF (D := D) (ci := 1) (v := .ref q22) (ty := .array .int) (C := RX1) (T := TX1) (N := 5) hx hb htw uX1 tyX1 tyX1_ok nmX1 hown hK hP hD hS 0 rfl rfl 4 (by decide) (htw _ (wTbl_1 111 (by rfl) (by decide +kernel))) (fun _ h9 => h9) rfl hin rfl (by decide +kernel) rfl rfl (Nat.le_of_ble_eq_true rfl) dX1_init_24 (fun H locs hP hD hS => ?_)
  have hP : va_P D clW [(h0, .inr (1, [.null, .null, .ref q7, .ref q15, .ref q22])), (q7, .inl (cZ, 12, .inl (fun _ => i3 0))), (q15, .inl (cZ, 12, .inl (fun _ => i3 0))), (q22, .inl (cI, 4, .inl (fun _ => i3 0)))] H := hP
  have hD : va_D A [(h0, .inr (1, [.null, .null, .ref q7, .ref q15, .ref q22])), (q7, .inl (cZ, 12, .inl (fun _ => i3 0))), (q15, .inl (cZ, 12, .inl (fun _ => i3 0))), (q22, .inl (cI, 4, .inl (fun _ => i3 0)))] := hD
  refine lv_aload_n hx hb dX1_init_27 rfl (lv_at hl 0 rfl) ?_
  refine lv_aload_n hx hb dX1_init_28 rfl (lv_at hl 1 rfl) ?_
  refine va_putF (D := D) (ci := 1) (v := .ref a1) (ty := .object "WallpaperGroups$Lattice") (C := RX1) (T := TX1) (N := 5) hx hb htw uX1 tyX1 tyX1_ok nmX1 hown hK hP hD hS 0 rfl rfl 0 (by decide) (htw _ (wTbl_1 107 (by rfl) (by decide +kernel))) (fun _ h9 => h9) rfl hin rfl (by decide +kernel) rfl rfl (Nat.le_of_ble_eq_true rfl) dX1_init_29 (fun H locs hP hD hS => ?_)
  have hP : va_P D clW [(h0, .inr (1, [.ref a1, .null, .ref q7, .ref q15, .ref q22])), (q7, .inl (cZ, 12, .inl (fun _ => i3 0))), (q15, .inl (cZ, 12, .inl (fun _ => i3 0))), (q22, .inl (cI, 4, .inl (fun _ => i3 0)))] H := hP
  have hD : va_D A [(h0, .inr (1, [.ref a1, .null, .ref q7, .ref q15, .ref q22])), (q7, .inl (cZ, 12, .inl (fun _ => i3 0))), (q15, .inl (cZ, 12, .inl (fun _ => i3 0))), (q22, .inl (cI, 4, .inl (fun _ => i3 0)))] := hD
  refine lv_aload_n hx hb dX1_init_32 rfl (lv_at hl 0 rfl) ?_
  refine lv_aload_n hx hb dX1_init_33 rfl (lv_at hl 2 rfl) ?_
  refine va_putF (D := D) (ci := 1) (v := .ref a2) (ty := .object "WallpaperGroups$Group") (C := RX1) (T := TX1) (N := 5) hx hb htw uX1 tyX1 tyX1_ok nmX1 hown hK hP hD hS 0 rfl rfl 1 (by decide) (htw _ (wTbl_1 108 (by rfl) (by decide +kernel))) (fun _ h9 => h9) rfl hin rfl (by decide +kernel) rfl rfl (Nat.le_of_ble_eq_true rfl) dX1_init_34 (fun H locs hP hD hS => ?_)
  have hP : va_P D clW [(h0, .inr (1, [.ref a1, .ref a2, .ref q7, .ref q15, .ref q22])), (q7, .inl (cZ, 12, .inl (fun _ => i3 0))), (q15, .inl (cZ, 12, .inl (fun _ => i3 0))), (q22, .inl (cI, 4, .inl (fun _ => i3 0)))] H := hP
  have hD : va_D A [(h0, .inr (1, [.ref a1, .ref a2, .ref q7, .ref q15, .ref q22])), (q7, .inl (cZ, 12, .inl (fun _ => i3 0))), (q15, .inl (cZ, 12, .inl (fun _ => i3 0))), (q22, .inl (cI, 4, .inl (fun _ => i3 0)))] := hD
  refine W.widen (k := 3) (n := 28) (Nat.le_of_ble_eq_true rfl) (Nat.le_of_ble_eq_true rfl) ?_
  exact W.vret hx hb hr (fun t ht hW => ⟨⟨(), rfl, trivial, q7, q15, q22, by rw [ht]; exact hP, hD⟩, hS.F ht⟩) hS.2.2 dX1_init_37
set_option maxHeartbeats 4000000 in
set_option maxRecDepth 100000 in
theorem k_X0_init (l : Launch) (D : va_G) (cI cZ cA : ClassId) (h0 sz : Nat) (a1 : Nat) (a2 : Nat) (a3 : Nat) : Met l yX0_init (mW mi_X0_init) ({ frames := 1, cells := 5, slots := 125, locals := 32 }) (va_Pc [.ref h0, .ref a1, .ref a2, .ref a3] (kPre D cI cZ cA [(h0, .inr (0, [.null, .null, .null, .null, .null, .null, .null, .null, .int 0, .int 0]))] sz)) (va_Qv (S := Unit) (fun _ => True) (fun _ t => ∃ q7 : Nat, ∃ q15 : Nat, ∃ q23 : Nat, ∃ q31 : Nat, ∃ q39 : Nat, va_P D clW [(h0, .inr (0, [.ref a1, .ref a2, .ref a3, .ref q7, .ref q15, .ref q23, .ref q31, .ref q39, .int 0, .int 0])), (q7, .inl (cI, 25, .inl (fun _ => i3 0))), (q15, .inl (cI, 25, .inl (fun _ => i3 0))), (q23, .inl (cZ, 25, .inl (fun _ => i3 0))), (q31, .inl (cI, 25, .inl (fun _ => i3 0))), (q39, .inl (cI, 25, .inl (fun _ => i3 0)))] t.heap ∧ va_D (va_A [(h0, .inr (0, [.null, .null, .null, .null, .null, .null, .null, .null, .int 0, .int 0]))] sz) [(h0, .inr (0, [.ref a1, .ref a2, .ref a3, .ref q7, .ref q15, .ref q23, .ref q31, .ref q39, .int 0, .int 0])), (q7, .inl (cI, 25, .inl (fun _ => i3 0))), (q15, .inl (cI, 25, .inl (fun _ => i3 0))), (q23, .inl (cZ, 25, .inl (fun _ => i3 0))), (q31, .inl (cI, 25, .inl (fun _ => i3 0))), (q39, .inl (cI, 25, .inl (fun _ => i3 0)))]) (va_A [(h0, .inr (0, [.null, .null, .null, .null, .null, .null, .null, .null, .int 0, .int 0]))] sz)) 5 125 (va_A [(h0, .inr (0, [.null, .null, .null, .null, .null, .null, .null, .null, .int 0, .int 0]))] sz) := by
  refine Met.ofW (cc := cX0_init) (maxL := 4) (ret := none) (by decide +kernel) rfl ?_
  intro p e s m args below meth c s₁ B hml hv
  obtain ⟨rfl, hsz, hP, hK, hD0, hAO⟩ := hv
  have hx := B.exec
  have hb := B.bytes
  have hr := B.returns
  have hts := atoms_spec (ws := mW mi_X0_init) B.pre
  have htw : ∀ w ∈ wTbl, w.before _ s = true := fun w hw => hts w (List.mem_cons_of_mem _ hw)
  have hown : s.vm.findClass RX0 = some m.cls := findClass_of_methodNamed B.named
  have hlocks := B.notSynchronized
  have hin : meth.name = "<init>" := (name_of_methodNamed B.named B.method).1
  subst hsz
  have hD := hD0.self (sz := s.heap.size)
  generalize hAe : va_A [(h0, .inr (0, [.null, .null, .null, .null, .null, .null, .null, .null, .int 0, .int 0]))] s.heap.size = A at hD ⊢
  have hA : ∀ q : Nat, s.heap.size ≤ q → A q := fun q h => by rw [← hAe]; exact Or.inr h
  have hS : va_S A s.heap s.heap [] := va_S.rf
  have hP : va_P D clW [(h0, .inr (0, [.null, .null, .null, .null, .null, .null, .null, .null, .int 0, .int 0]))] s.heap := hP
  have hl := lv_entry ([.ref h0, .ref a1, .ref a2, .ref a3]) (n := 4) (Nat.le_of_ble_eq_true rfl)
  rw [lg_entry_eq]
  generalize (lg_sl ([.ref h0, .ref a1, .ref a2, .ref a3]) ++ List.replicate (4 - (lg_sl ([.ref h0, .ref a1, .ref a2, .ref a3])).length) Slot.unset).toArray = ls at hl ⊢
  have hl : lv_has ls 4 [(0, .ref h0), (1, .ref a1), (2, .ref a2), (3, .ref a3)] := hl
  refine lv_aload_n hx hb dX0_init_0 rfl (lv_at hl 0 rfl) ?_
  refine W.objInit hx hb hown (htw _ (wTbl_1 128 (by rfl) (by decide +kernel))) (htw _ (wTbl_1 16 (by rfl) (by decide +kernel))) (htw _ (wTbl_1 17 (by rfl) (by decide +kernel))) rfl (by rw [hml]; exact hl.1) rfl dX0_init_1 (Nat.le_of_ble_eq_true rfl) (Nat.le_of_ble_eq_true rfl) ?_
  refine W.eq (g2 := F0 m 4 ls []) rfl ?_
  refine lv_aload_n hx hb dX0_init_4 rfl (lv_at hl 0 rfl) ?_
  refine lv_bipush (v := 25) hx hb dX0_init_5 (by decide +kernel) ?_
  refine gn_newa (N' := 25) hx hb (ty := .int) rfl 0 rfl (fun C h => by cases h) rfl (htw _ (wTbl_1 52 (by rfl) (by decide +kernel))) hK hP hD hS hA (by decide) rfl (by decide) (Nat.le_of_ble_eq_true rfl) (Nat.le_of_ble_eq_true rfl) dX0_init_7 (fun q7 H hP hD hS => ?_)
  have hP : va_P D clW [(h0, .inr (0, [.null, .null, .null, .null, .null, .null, .null, .null, .int 0, .int 0])), (q7, .inl (cI, 25, .inl (fun _ => i3 0)))] H := hP
  have hD : va_D A [(h0, .inr (0, [.null, .null, .null, .null, .null, .null, .null, .null, .int 0, .int 0])), (q7, .inl (cI, 25, .inl (fun _ => i3 0)))] := hD
  refine va_putF (D := D) (ci := 0) (v := .ref q7) (ty := .array .int) (C := RX0) (T := TX0) (N := 10) hx hb htw uX0 tyX0 tyX0_ok nmX0 hown hK hP hD hS 0 rfl rfl 3 (by decide) (htw _ (wTbl_1 132 (by rfl) (by decide +kernel))) (fun _ h9 => h9) rfl hin rfl (by decide +kernel) rfl rfl (Nat.le_of_ble_eq_true rfl) dX0_init_9 (fun H locs hP hD hS => ?_)
  have hP : va_P D clW [(h0, .inr (0, [.null, .null, .null, .ref q7, .null, .null, .null, .null, .int 0, .int 0])), (q7, .inl (cI, 25, .inl (fun _ => i3 0)))] H := hP
  have hD : va_D A [(h0, .inr (0, [.null, .null, .null, .ref q7, .null, .null, .null, .null, .int 0, .int 0])), (q7, .inl (cI, 25, .inl (fun _ => i3 0)))] := hD
  refine lv_aload_n hx hb dX0_init_12 rfl (lv_at hl 0 rfl) ?_
  refine lv_bipush (v := 25) hx hb dX0_init_13 (by decide +kernel) ?_
  refine gn_newa (N' := 25) hx hb (ty := .int) rfl 0 rfl (fun C h => by cases h) rfl (htw _ (wTbl_1 52 (by rfl) (by decide +kernel))) hK hP hD hS hA (by decide) rfl (by decide) (Nat.le_of_ble_eq_true rfl) (Nat.le_of_ble_eq_true rfl) dX0_init_15 (fun q15 H hP hD hS => ?_)
  have hP : va_P D clW [(h0, .inr (0, [.null, .null, .null, .ref q7, .null, .null, .null, .null, .int 0, .int 0])), (q7, .inl (cI, 25, .inl (fun _ => i3 0))), (q15, .inl (cI, 25, .inl (fun _ => i3 0)))] H := hP
  have hD : va_D A [(h0, .inr (0, [.null, .null, .null, .ref q7, .null, .null, .null, .null, .int 0, .int 0])), (q7, .inl (cI, 25, .inl (fun _ => i3 0))), (q15, .inl (cI, 25, .inl (fun _ => i3 0)))] := hD
  refine va_putF (D := D) (ci := 0) (v := .ref q15) (ty := .array .int) (C := RX0) (T := TX0) (N := 10) hx hb htw uX0 tyX0 tyX0_ok nmX0 hown hK hP hD hS 0 rfl rfl 4 (by decide) (htw _ (wTbl_1 133 (by rfl) (by decide +kernel))) (fun _ h9 => h9) rfl hin rfl (by decide +kernel) rfl rfl (Nat.le_of_ble_eq_true rfl) dX0_init_17 (fun H locs hP hD hS => ?_)
  have hP : va_P D clW [(h0, .inr (0, [.null, .null, .null, .ref q7, .ref q15, .null, .null, .null, .int 0, .int 0])), (q7, .inl (cI, 25, .inl (fun _ => i3 0))), (q15, .inl (cI, 25, .inl (fun _ => i3 0)))] H := hP
  have hD : va_D A [(h0, .inr (0, [.null, .null, .null, .ref q7, .ref q15, .null, .null, .null, .int 0, .int 0])), (q7, .inl (cI, 25, .inl (fun _ => i3 0))), (q15, .inl (cI, 25, .inl (fun _ => i3 0)))] := hD
  refine lv_aload_n hx hb dX0_init_20 rfl (lv_at hl 0 rfl) ?_
  refine lv_bipush (v := 25) hx hb dX0_init_21 (by decide +kernel) ?_
  refine gn_newa (N' := 25) hx hb (ty := .boolean) rfl 1 rfl (fun C h => by cases h) rfl (htw _ (wTbl_1 100 (by rfl) (by decide +kernel))) hK hP hD hS hA (by decide) rfl (by decide) (Nat.le_of_ble_eq_true rfl) (Nat.le_of_ble_eq_true rfl) dX0_init_23 (fun q23 H hP hD hS => ?_)
  have hP : va_P D clW [(h0, .inr (0, [.null, .null, .null, .ref q7, .ref q15, .null, .null, .null, .int 0, .int 0])), (q7, .inl (cI, 25, .inl (fun _ => i3 0))), (q15, .inl (cI, 25, .inl (fun _ => i3 0))), (q23, .inl (cZ, 25, .inl (fun _ => i3 0)))] H := hP
  have hD : va_D A [(h0, .inr (0, [.null, .null, .null, .ref q7, .ref q15, .null, .null, .null, .int 0, .int 0])), (q7, .inl (cI, 25, .inl (fun _ => i3 0))), (q15, .inl (cI, 25, .inl (fun _ => i3 0))), (q23, .inl (cZ, 25, .inl (fun _ => i3 0)))] := hD
  refine va_putF (D := D) (ci := 0) (v := .ref q23) (ty := .array .boolean) (C := RX0) (T := TX0) (N := 10) hx hb htw uX0 tyX0 tyX0_ok nmX0 hown hK hP hD hS 0 rfl rfl 5 (by decide) (htw _ (wTbl_1 134 (by rfl) (by decide +kernel))) (fun _ h9 => h9) rfl hin rfl (by decide +kernel) rfl rfl (Nat.le_of_ble_eq_true rfl) dX0_init_25 (fun H locs hP hD hS => ?_)
  have hP : va_P D clW [(h0, .inr (0, [.null, .null, .null, .ref q7, .ref q15, .ref q23, .null, .null, .int 0, .int 0])), (q7, .inl (cI, 25, .inl (fun _ => i3 0))), (q15, .inl (cI, 25, .inl (fun _ => i3 0))), (q23, .inl (cZ, 25, .inl (fun _ => i3 0)))] H := hP
  have hD : va_D A [(h0, .inr (0, [.null, .null, .null, .ref q7, .ref q15, .ref q23, .null, .null, .int 0, .int 0])), (q7, .inl (cI, 25, .inl (fun _ => i3 0))), (q15, .inl (cI, 25, .inl (fun _ => i3 0))), (q23, .inl (cZ, 25, .inl (fun _ => i3 0)))] := hD
  refine lv_aload_n hx hb dX0_init_28 rfl (lv_at hl 0 rfl) ?_
  refine lv_bipush (v := 25) hx hb dX0_init_29 (by decide +kernel) ?_
  refine gn_newa (N' := 25) hx hb (ty := .int) rfl 0 rfl (fun C h => by cases h) rfl (htw _ (wTbl_1 52 (by rfl) (by decide +kernel))) hK hP hD hS hA (by decide) rfl (by decide) (Nat.le_of_ble_eq_true rfl) (Nat.le_of_ble_eq_true rfl) dX0_init_31 (fun q31 H hP hD hS => ?_)
  have hP : va_P D clW [(h0, .inr (0, [.null, .null, .null, .ref q7, .ref q15, .ref q23, .null, .null, .int 0, .int 0])), (q7, .inl (cI, 25, .inl (fun _ => i3 0))), (q15, .inl (cI, 25, .inl (fun _ => i3 0))), (q23, .inl (cZ, 25, .inl (fun _ => i3 0))), (q31, .inl (cI, 25, .inl (fun _ => i3 0)))] H := hP
  have hD : va_D A [(h0, .inr (0, [.null, .null, .null, .ref q7, .ref q15, .ref q23, .null, .null, .int 0, .int 0])), (q7, .inl (cI, 25, .inl (fun _ => i3 0))), (q15, .inl (cI, 25, .inl (fun _ => i3 0))), (q23, .inl (cZ, 25, .inl (fun _ => i3 0))), (q31, .inl (cI, 25, .inl (fun _ => i3 0)))] := hD
  refine va_putF (D := D) (ci := 0) (v := .ref q31) (ty := .array .int) (C := RX0) (T := TX0) (N := 10) hx hb htw uX0 tyX0 tyX0_ok nmX0 hown hK hP hD hS 0 rfl rfl 6 (by decide) (htw _ (wTbl_1 135 (by rfl) (by decide +kernel))) (fun _ h9 => h9) rfl hin rfl (by decide +kernel) rfl rfl (Nat.le_of_ble_eq_true rfl) dX0_init_33 (fun H locs hP hD hS => ?_)
  have hP : va_P D clW [(h0, .inr (0, [.null, .null, .null, .ref q7, .ref q15, .ref q23, .ref q31, .null, .int 0, .int 0])), (q7, .inl (cI, 25, .inl (fun _ => i3 0))), (q15, .inl (cI, 25, .inl (fun _ => i3 0))), (q23, .inl (cZ, 25, .inl (fun _ => i3 0))), (q31, .inl (cI, 25, .inl (fun _ => i3 0)))] H := hP
  have hD : va_D A [(h0, .inr (0, [.null, .null, .null, .ref q7, .ref q15, .ref q23, .ref q31, .null, .int 0, .int 0])), (q7, .inl (cI, 25, .inl (fun _ => i3 0))), (q15, .inl (cI, 25, .inl (fun _ => i3 0))), (q23, .inl (cZ, 25, .inl (fun _ => i3 0))), (q31, .inl (cI, 25, .inl (fun _ => i3 0)))] := hD
  refine lv_aload_n hx hb dX0_init_36 rfl (lv_at hl 0 rfl) ?_
  refine lv_bipush (v := 25) hx hb dX0_init_37 (by decide +kernel) ?_
  refine gn_newa (N' := 25) hx hb (ty := .int) rfl 0 rfl (fun C h => by cases h) rfl (htw _ (wTbl_1 52 (by rfl) (by decide +kernel))) hK hP hD hS hA (by decide) rfl (by decide) (Nat.le_of_ble_eq_true rfl) (Nat.le_of_ble_eq_true rfl) dX0_init_39 (fun q39 H hP hD hS => ?_)
  have hP : va_P D clW [(h0, .inr (0, [.null, .null, .null, .ref q7, .ref q15, .ref q23, .ref q31, .null, .int 0, .int 0])), (q7, .inl (cI, 25, .inl (fun _ => i3 0))), (q15, .inl (cI, 25, .inl (fun _ => i3 0))), (q23, .inl (cZ, 25, .inl (fun _ => i3 0))), (q31, .inl (cI, 25, .inl (fun _ => i3 0))), (q39, .inl (cI, 25, .inl (fun _ => i3 0)))] H := hP
  have hD : va_D A [(h0, .inr (0, [.null, .null, .null, .ref q7, .ref q15, .ref q23, .ref q31, .null, .int 0, .int 0])), (q7, .inl (cI, 25, .inl (fun _ => i3 0))), (q15, .inl (cI, 25, .inl (fun _ => i3 0))), (q23, .inl (cZ, 25, .inl (fun _ => i3 0))), (q31, .inl (cI, 25, .inl (fun _ => i3 0))), (q39, .inl (cI, 25, .inl (fun _ => i3 0)))] := hD
  refine va_putF (D := D) (ci := 0) (v := .ref q39) (ty := .array .int) (C := RX0) (T := TX0) (N := 10) hx hb htw uX0 tyX0 tyX0_ok nmX0 hown hK hP hD hS 0 rfl rfl 7 (by decide) (htw _ (wTbl_1 136 (by rfl) (by decide +kernel))) (fun _ h9 => h9) rfl hin rfl (by decide +kernel) rfl rfl (Nat.le_of_ble_eq_true rfl) dX0_init_41 (fun H locs hP hD hS => ?_)
  have hP : va_P D clW [(h0, .inr (0, [.null, .null, .null, .ref q7, .ref q15, .ref q23, .ref q31, .ref q39, .int 0, .int 0])), (q7, .inl (cI, 25, .inl (fun _ => i3 0))), (q15, .inl (cI, 25, .inl (fun _ => i3 0))), (q23, .inl (cZ, 25, .inl (fun _ => i3 0))), (q31, .inl (cI, 25, .inl (fun _ => i3 0))), (q39, .inl (cI, 25, .inl (fun _ => i3 0)))] H := hP
  have hD : va_D A [(h0, .inr (0, [.null, .null, .null, .ref q7, .ref q15, .ref q23, .ref q31, .ref q39, .int 0, .int 0])), (q7, .inl (cI, 25, .inl (fun _ => i3 0))), (q15, .inl (cI, 25, .inl (fun _ => i3 0))), (q23, .inl (cZ, 25, .inl (fun _ => i3 0))), (q31, .inl (cI, 25, .inl (fun _ => i3 0))), (q39, .inl (cI, 25, .inl (fun _ => i3 0)))] := hD
  refine lv_aload_n hx hb dX0_init_44 rfl (lv_at hl 0 rfl) ?_
  refine lv_aload_n hx hb dX0_init_45 rfl (lv_at hl 1 rfl) ?_
  refine va_putF (D := D) (ci := 0) (v := .ref a1) (ty := .object "WallpaperGroups$Lattice") (C := RX0) (T := TX0) (N := 10) hx hb htw uX0 tyX0 tyX0_ok nmX0 hown hK hP hD hS 0 rfl rfl 0 (by decide) (htw _ (wTbl_1 129 (by rfl) (by decide +kernel))) (fun _ h9 => h9) rfl hin rfl (by decide +kernel) rfl rfl (Nat.le_of_ble_eq_true rfl) dX0_init_46 (fun H locs hP hD hS => ?_)
  have hP : va_P D clW [(h0, .inr (0, [.ref a1, .null, .null, .ref q7, .ref q15, .ref q23, .ref q31, .ref q39, .int 0, .int 0])), (q7, .inl (cI, 25, .inl (fun _ => i3 0))), (q15, .inl (cI, 25, .inl (fun _ => i3 0))), (q23, .inl (cZ, 25, .inl (fun _ => i3 0))), (q31, .inl (cI, 25, .inl (fun _ => i3 0))), (q39, .inl (cI, 25, .inl (fun _ => i3 0)))] H := hP
  have hD : va_D A [(h0, .inr (0, [.ref a1, .null, .null, .ref q7, .ref q15, .ref q23, .ref q31, .ref q39, .int 0, .int 0])), (q7, .inl (cI, 25, .inl (fun _ => i3 0))), (q15, .inl (cI, 25, .inl (fun _ => i3 0))), (q23, .inl (cZ, 25, .inl (fun _ => i3 0))), (q31, .inl (cI, 25, .inl (fun _ => i3 0))), (q39, .inl (cI, 25, .inl (fun _ => i3 0)))] := hD
  refine lv_aload_n hx hb dX0_init_49 rfl (lv_at hl 0 rfl) ?_
  refine lv_aload_n hx hb dX0_init_50 rfl (lv_at hl 2 rfl) ?_
  refine va_putF (D := D) (ci := 0) (v := .ref a2) (ty := .object "WallpaperGroups$Generators") (C := RX0) (T := TX0) (N := 10) hx hb htw uX0 tyX0 tyX0_ok nmX0 hown hK hP hD hS 0 rfl rfl 1 (by decide) (htw _ (wTbl_1 130 (by rfl) (by decide +kernel))) (fun _ h9 => h9) rfl hin rfl (by decide +kernel) rfl rfl (Nat.le_of_ble_eq_true rfl) dX0_init_51 (fun H locs hP hD hS => ?_)
  have hP : va_P D clW [(h0, .inr (0, [.ref a1, .ref a2, .null, .ref q7, .ref q15, .ref q23, .ref q31, .ref q39, .int 0, .int 0])), (q7, .inl (cI, 25, .inl (fun _ => i3 0))), (q15, .inl (cI, 25, .inl (fun _ => i3 0))), (q23, .inl (cZ, 25, .inl (fun _ => i3 0))), (q31, .inl (cI, 25, .inl (fun _ => i3 0))), (q39, .inl (cI, 25, .inl (fun _ => i3 0)))] H := hP
  have hD : va_D A [(h0, .inr (0, [.ref a1, .ref a2, .null, .ref q7, .ref q15, .ref q23, .ref q31, .ref q39, .int 0, .int 0])), (q7, .inl (cI, 25, .inl (fun _ => i3 0))), (q15, .inl (cI, 25, .inl (fun _ => i3 0))), (q23, .inl (cZ, 25, .inl (fun _ => i3 0))), (q31, .inl (cI, 25, .inl (fun _ => i3 0))), (q39, .inl (cI, 25, .inl (fun _ => i3 0)))] := hD
  refine lv_aload_n hx hb dX0_init_54 rfl (lv_at hl 0 rfl) ?_
  refine lv_aload_n hx hb dX0_init_55 rfl (lv_at hl 3 rfl) ?_
  refine va_putF (D := D) (ci := 0) (v := .ref a3) (ty := .object "WallpaperGroups$Group") (C := RX0) (T := TX0) (N := 10) hx hb htw uX0 tyX0 tyX0_ok nmX0 hown hK hP hD hS 0 rfl rfl 2 (by decide) (htw _ (wTbl_1 131 (by rfl) (by decide +kernel))) (fun _ h9 => h9) rfl hin rfl (by decide +kernel) rfl rfl (Nat.le_of_ble_eq_true rfl) dX0_init_56 (fun H locs hP hD hS => ?_)
  have hP : va_P D clW [(h0, .inr (0, [.ref a1, .ref a2, .ref a3, .ref q7, .ref q15, .ref q23, .ref q31, .ref q39, .int 0, .int 0])), (q7, .inl (cI, 25, .inl (fun _ => i3 0))), (q15, .inl (cI, 25, .inl (fun _ => i3 0))), (q23, .inl (cZ, 25, .inl (fun _ => i3 0))), (q31, .inl (cI, 25, .inl (fun _ => i3 0))), (q39, .inl (cI, 25, .inl (fun _ => i3 0)))] H := hP
  have hD : va_D A [(h0, .inr (0, [.ref a1, .ref a2, .ref a3, .ref q7, .ref q15, .ref q23, .ref q31, .ref q39, .int 0, .int 0])), (q7, .inl (cI, 25, .inl (fun _ => i3 0))), (q15, .inl (cI, 25, .inl (fun _ => i3 0))), (q23, .inl (cZ, 25, .inl (fun _ => i3 0))), (q31, .inl (cI, 25, .inl (fun _ => i3 0))), (q39, .inl (cI, 25, .inl (fun _ => i3 0)))] := hD
  refine W.widen (k := 5) (n := 125) (Nat.le_of_ble_eq_true rfl) (Nat.le_of_ble_eq_true rfl) ?_
  exact W.vret hx hb hr (fun t ht hW => ⟨⟨(), rfl, trivial, q7, q15, q23, q31, q39, by rw [ht]; exact hP, hD⟩, hS.F ht⟩) hS.2.2 dX0_init_59
