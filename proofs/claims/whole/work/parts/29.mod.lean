/-! THE MODEL: small methods, its tables of linear parts -/
def LaM (M : Mem) : Prop := (M 1 0 = 0 ∨ M 1 0 = 1) ∧ 1 ≤ M 1 1 ∧ M 1 1 ≤ 5 ∧ 1 ≤ M 1 1 * M 1 1 ∧ M 1 1 * M 1 1 ≤ 25
theorem e_X7_in {M : Mem} {v a b : Int} (hv : inR v) (ha : inR a) (hb : inR b) : J SHM mi_X7_in 0 (ent [vI v, vI a, vI b] 3) [] M (bz (a ≤ v ∧ v ≤ b) M) := by
  show J SHM mi_X7_in 0 [some (vI v), some (vI a), some (vI b)] [] M _
  refine j_iload_n dX7_in_0 rfl ?_
  refine j_iload_n dX7_in_1 rfl ?_
  refine j_icmp_lt 14 dX7_in_2 rfl (by assumption) (by assumption) (fun c2 => ?_) (fun c2 => ?_)
  · refine j_iconst dX7_in_14 ?_
    refine j_zret dX7_in_15 rfl (by first | exact Or.inl rfl | exact Or.inr rfl | omega) ?_
    exact bz_i (by omega)
  · refine j_iload_n dX7_in_5 rfl ?_
    refine j_iload_n dX7_in_6 rfl ?_
    refine j_icmp_gt 14 dX7_in_7 rfl (by assumption) (by assumption) (fun c7 => ?_) (fun c7 => ?_)
    · refine j_iconst dX7_in_14 ?_
      refine j_zret dX7_in_15 rfl (by first | exact Or.inl rfl | exact Or.inr rfl | omega) ?_
      exact bz_i (by omega)
    · refine j_iconst dX7_in_10 ?_
      refine j_goto 15 dX7_in_11 rfl ?_
      refine j_zret dX7_in_15 rfl (by first | exact Or.inl rfl | exact Or.inr rfl | omega) ?_
      exact bz_i (by omega)
theorem e_X7_entry {M : Mem} {p q : Int} (hp : 0 ≤ p ∧ p < 12) (hq : 0 ≤ q ∧ q ≤ 3) : J SHM mi_X7_entry 0 (ent [vR 0, vI p, vI q] 3) [] M (pu (vI (M 3 (4 * p + q))) M) := by
  show J SHM mi_X7_entry 0 [some (vR 0), some (vI p), some (vI q)] [] M _
  refine j_aload_n dX7_entry_0 rfl ?_
  refine j_getR dX7_entry_1 f_X7_16 rfl rfl ?_
  refine j_iconst dX7_entry_4 ?_
  refine j_iload_n dX7_entry_5 rfl ?_
  refine j_imul dX7_entry_6 ?_
  refine j_iload_n dX7_entry_7 rfl ?_
  refine j_iadd dX7_entry_8 ?_
  refine j_iald dX7_entry_9 (by first | rfl | assumption) (by decide) (by omega) (by omega) ?_
  refine j_iret dX7_entry_10 rfl ?_
  exact pu_i (by first | rfl | omega | (simp; done))
theorem e_X7_cells {M : Mem} (hL : LaM M)  : J SHM mi_X7_cells 0 (ent [vR 0] 1) [] M (pu (vI (M 1 1 * M 1 1)) M) := by
  obtain ⟨hk, hn1, hn5, hc1, hc2⟩ := id hL
  have ht := tu_c hk
  show J SHM mi_X7_cells 0 [some (vR 0)] [] M _
  refine j_aload_n dX7_cells_0 rfl ?_
  refine j_getR dX7_cells_1 f_X7_7 rfl rfl ?_
  refine j_iconst dX7_cells_4 ?_
  refine j_iald dX7_cells_5 (by first | rfl | assumption) (by decide) (by omega) (by omega) ?_
  refine j_aload_n dX7_cells_6 rfl ?_
  refine j_getR dX7_cells_7 f_X7_7 rfl rfl ?_
  refine j_iconst dX7_cells_10 ?_
  refine j_iald dX7_cells_11 (by first | rfl | assumption) (by decide) (by omega) (by omega) ?_
  refine j_imul dX7_cells_12 ?_
  refine j_iret dX7_cells_13 rfl ?_
  exact pu_i (by first | rfl | omega | (simp; done))
theorem e_X7_partOf {M : Mem} (hL : LaM M) {c : Int} (h0 : 0 ≤ c) (h1 : c < 100000) : J SHM mi_X7_partOf 0 (ent [vR 0, vI c] 2) [] M (pu (vI (cP (M 1 1) c)) M) := by
  obtain ⟨hk, hn1, hn5, hc1, hc2⟩ := id hL
  have ht := tu_c hk
  show J SHM mi_X7_partOf 0 [some (vR 0), some (vI c)] [] M _
  refine j_iload_n dX7_partOf_0 rfl ?_
  refine j_aload_n dX7_partOf_1 rfl ?_
  refine j_V0p dX7_partOf_2 ok_X7_cells v_X7_51 c_X7_cells rfl (e_X7_cells hL) ?_
  refine j_idiv dX7_partOf_5 (by unfold inR; omega) (by unfold inR; omega) (by omega) ?_
  refine j_iret dX7_partOf_6 rfl ?_
  exact pu_i (Int.tdiv_eq_ediv_of_nonneg h0)
theorem e_X7_uOf {M : Mem} (hL : LaM M) {c : Int} (h0 : 0 ≤ c) (h1 : c < 100000) : J SHM mi_X7_uOf 0 (ent [vR 0, vI c] 2) [] M (pu (vI (cX (M 1 1) c)) M) := by
  obtain ⟨hk, hn1, hn5, hc1, hc2⟩ := id hL
  have ht := tu_c hk
  have e1 : c.tmod (M 1 1 * M 1 1) = c % (M 1 1 * M 1 1) := Int.tmod_eq_emod_of_nonneg h0
  have e2 := Int.emod_nonneg c (show M 1 1 * M 1 1 ≠ 0 by omega)
  have e3 := Int.emod_lt_of_pos c (show 0 < M 1 1 * M 1 1 by omega)
  show J SHM mi_X7_uOf 0 [some (vR 0), some (vI c)] [] M _
  refine j_iload_n dX7_uOf_0 rfl ?_
  refine j_aload_n dX7_uOf_1 rfl ?_
  refine j_V0p dX7_uOf_2 ok_X7_cells v_X7_51 c_X7_cells rfl (e_X7_cells hL) ?_
  refine j_irem dX7_uOf_5 (by unfold inR; omega) (by unfold inR; omega) (by omega) ?_
  refine j_aload_n dX7_uOf_6 rfl ?_
  refine j_getR dX7_uOf_7 f_X7_7 rfl rfl ?_
  refine j_iconst dX7_uOf_10 ?_
  refine j_iald dX7_uOf_11 (by first | rfl | assumption) (by decide) (by omega) (by omega) ?_
  refine j_idiv dX7_uOf_12 (by unfold inR; omega) (by unfold inR; omega) (by omega) ?_
  refine j_iret dX7_uOf_13 rfl ?_
  exact pu_i (by rw [e1]; exact Int.tdiv_eq_ediv_of_nonneg e2)
theorem e_X7_vOf {M : Mem} (hL : LaM M) {c : Int} (h0 : 0 ≤ c) (h1 : c < 100000) : J SHM mi_X7_vOf 0 (ent [vR 0, vI c] 2) [] M (pu (vI (cY (M 1 1) c)) M) := by
  obtain ⟨hk, hn1, hn5, hc1, hc2⟩ := id hL
  have ht := tu_c hk
  show J SHM mi_X7_vOf 0 [some (vR 0), some (vI c)] [] M _
  refine j_iload_n dX7_vOf_0 rfl ?_
  refine j_aload_n dX7_vOf_1 rfl ?_
  refine j_getR dX7_vOf_2 f_X7_7 rfl rfl ?_
  refine j_iconst dX7_vOf_5 ?_
  refine j_iald dX7_vOf_6 (by first | rfl | assumption) (by decide) (by omega) (by omega) ?_
  refine j_irem dX7_vOf_7 (by unfold inR; omega) (by unfold inR; omega) (by omega) ?_
  refine j_iret dX7_vOf_8 rfl ?_
  exact pu_i (Int.tmod_eq_emod_of_nonneg h0)
theorem e_X7_modulo {M : Mem} (hL : LaM M) {c : Int} (hc : inR c) : J SHM mi_X7_modulo 0 (ent [vR 0, vI c] 3) [] M (pu (vI (c % M 1 1)) M) := by
  obtain ⟨hk, hn1, hn5, hc1, hc2⟩ := id hL
  have ht := tu_c hk
  have hm := tmod_fix (a := c) (show 0 < M 1 1 by omega)
  have h1 := Int.tmod_lt_of_pos c (show 0 < M 1 1 by omega)
  have h2 := Int.lt_tmod_of_pos c (show 0 < M 1 1 by omega)
  have h3 : 0 ≤ c → 0 ≤ c.tmod (M 1 1) := fun h => Int.tmod_nonneg _ h
  have h5 : c < 0 → c.tmod (M 1 1) ≤ 0 := fun h => by
    have := Int.tmod_nonneg (M 1 1) (show 0 ≤ -c by omega)
    rw [Int.neg_tmod] at this
    omega
  have h4 := Int.emod_nonneg c (show M 1 1 ≠ 0 by omega)
  show J SHM mi_X7_modulo 0 [some (vR 0), some (vI c), none] [] M _
  refine j_iload_n dX7_modulo_0 rfl ?_
  refine j_aload_n dX7_modulo_1 rfl ?_
  refine j_getR dX7_modulo_2 f_X7_7 rfl rfl ?_
  refine j_iconst dX7_modulo_5 ?_
  refine j_iald dX7_modulo_6 (by first | rfl | assumption) (by decide) (by omega) (by omega) ?_
  refine j_irem dX7_modulo_7 (by first | assumption | (unfold inR; omega)) (by first | assumption | (unfold inR; omega)) (by omega) ?_
  refine j_istore_n dX7_modulo_8 (by decide) (nol rfl) (by show List.set _ 2 _ = _; simp only [List.set_cons_zero, List.set_cons_succ]; rfl) ?_
  refine j_iload_n dX7_modulo_9 rfl ?_
  refine j_if_ge 24 dX7_modulo_10 rfl (by first | assumption | (unfold inR; omega)) (fun c10 => ?_) (fun c10 => ?_)
  · refine j_iload_n dX7_modulo_24 rfl ?_
    refine j_iret dX7_modulo_25 rfl ?_
    exact pu_i (by omega)
  · refine j_iload_n dX7_modulo_13 rfl ?_
    refine j_aload_n dX7_modulo_14 rfl ?_
    refine j_getR dX7_modulo_15 f_X7_7 rfl rfl ?_
    refine j_iconst dX7_modulo_18 ?_
    refine j_iald dX7_modulo_19 (by first | rfl | assumption) (by decide) (by omega) (by omega) ?_
    refine j_iadd dX7_modulo_20 ?_
    refine j_goto 25 dX7_modulo_21 rfl ?_
    refine j_iret dX7_modulo_25 rfl ?_
    exact pu_i (by omega)
theorem e_X7_codeOf {M : Mem} (hL : LaM M) {p u v : Int} (hu : inR u) (hv : inR v) : J SHM mi_X7_codeOf 0 (ent [vR 0, vI p, vI u, vI v] 4) [] M (pu (vI (mkc (M 1 1) p u v)) M) := by
  obtain ⟨hk, hn1, hn5, hc1, hc2⟩ := id hL
  have ht := tu_c hk
  show J SHM mi_X7_codeOf 0 [some (vR 0), some (vI p), some (vI u), some (vI v)] [] M _
  refine j_iload_n dX7_codeOf_0 rfl ?_
  refine j_aload_n dX7_codeOf_1 rfl ?_
  refine j_V0p dX7_codeOf_2 ok_X7_cells v_X7_51 c_X7_cells rfl (e_X7_cells hL) ?_
  refine j_imul dX7_codeOf_5 ?_
  refine j_aload_n dX7_codeOf_6 rfl ?_
  refine j_iload_n dX7_codeOf_7 rfl ?_
  refine j_V1p dX7_codeOf_8 ok_X7_modulo v_X7_55 c_X7_modulo rfl (e_X7_modulo hL (by first | assumption | (unfold inR; omega))) ?_
  refine j_aload_n dX7_codeOf_11 rfl ?_
  refine j_getR dX7_codeOf_12 f_X7_7 rfl rfl ?_
  refine j_iconst dX7_codeOf_15 ?_
  refine j_iald dX7_codeOf_16 (by first | rfl | assumption) (by decide) (by omega) (by omega) ?_
  refine j_imul dX7_codeOf_17 ?_
  refine j_iadd dX7_codeOf_18 ?_
  refine j_aload_n dX7_codeOf_19 rfl ?_
  refine j_iload_n dX7_codeOf_20 rfl ?_
  refine j_V1p dX7_codeOf_21 ok_X7_modulo v_X7_55 c_X7_modulo rfl (e_X7_modulo hL (by first | assumption | (unfold inR; omega))) ?_
  refine j_iadd dX7_codeOf_24 ?_
  refine j_iret dX7_codeOf_25 rfl ?_
  exact pu_i (by unfold mkc; rw [Int.mul_comm (u % M 1 1) (M 1 1)]; omega)
def MPt (M : Mem) : Prop := M 0 3 = 2 * tu (M 1 0) ∧ (∀ p q : Int, 0 ≤ p → p < 2 * tu (M 1 0) → 0 ≤ q → q ≤ 3 → M 3 (4 * p + q) = en (M 1 0) p q) ∧ ∀ p q : Int, 0 ≤ p → p < 2 * tu (M 1 0) → 0 ≤ q → q < 2 * tu (M 1 0) → M 4 (12 * p + q) = tp (M 1 0) p q
theorem e_X7_imageX {M : Mem} (hL : LaM M) (hP : MPt M) {p x y : Int} (hp : 0 ≤ p ∧ p < 2 * tu (M 1 0)) : J SHM mi_X7_imageX 0 (ent [vR 0, vI p, vI x, vI y] 4) [] M (pu (vI (imx (M 1 0) p x y)) M) := by
  obtain ⟨hk, hn1, hn5, hc1, hc2⟩ := id hL
  have ht := tu_c hk
  obtain ⟨hP1, hP2, hP3⟩ := id hP
  show J SHM mi_X7_imageX 0 [some (vR 0), some (vI p), some (vI x), some (vI y)] [] M _
  refine j_aload_n dX7_imageX_0 rfl ?_
  refine j_iload_n dX7_imageX_1 rfl ?_
  refine j_iconst dX7_imageX_2 ?_
  refine j_V2p dX7_imageX_3 ok_X7_entry v_X7_32 c_X7_entry rfl (e_X7_entry (by omega) (by omega)) ?_
  refine j_iload_n dX7_imageX_6 rfl ?_
  refine j_imul dX7_imageX_7 ?_
  refine j_aload_n dX7_imageX_8 rfl ?_
  refine j_iload_n dX7_imageX_9 rfl ?_
  refine j_iconst dX7_imageX_10 ?_
  refine j_V2p dX7_imageX_11 ok_X7_entry v_X7_32 c_X7_entry rfl (e_X7_entry (by omega) (by omega)) ?_
  refine j_iload_n dX7_imageX_14 rfl ?_
  refine j_imul dX7_imageX_15 ?_
  refine j_iadd dX7_imageX_16 ?_
  refine j_iret dX7_imageX_17 rfl ?_
  exact pu_i (by unfold imx; rw [← hP2 p 0 hp.1 hp.2 (by omega) (by omega), ← hP2 p 1 hp.1 hp.2 (by omega) (by omega)])
theorem e_X7_imageY {M : Mem} (hL : LaM M) (hP : MPt M) {p x y : Int} (hp : 0 ≤ p ∧ p < 2 * tu (M 1 0)) : J SHM mi_X7_imageY 0 (ent [vR 0, vI p, vI x, vI y] 4) [] M (pu (vI (imy (M 1 0) p x y)) M) := by
  obtain ⟨hk, hn1, hn5, hc1, hc2⟩ := id hL
  have ht := tu_c hk
  obtain ⟨hP1, hP2, hP3⟩ := id hP
  show J SHM mi_X7_imageY 0 [some (vR 0), some (vI p), some (vI x), some (vI y)] [] M _
  refine j_aload_n dX7_imageY_0 rfl ?_
  refine j_iload_n dX7_imageY_1 rfl ?_
  refine j_iconst dX7_imageY_2 ?_
  refine j_V2p dX7_imageY_3 ok_X7_entry v_X7_32 c_X7_entry rfl (e_X7_entry (by omega) (by omega)) ?_
  refine j_iload_n dX7_imageY_6 rfl ?_
  refine j_imul dX7_imageY_7 ?_
  refine j_aload_n dX7_imageY_8 rfl ?_
  refine j_iload_n dX7_imageY_9 rfl ?_
  refine j_iconst dX7_imageY_10 ?_
  refine j_V2p dX7_imageY_11 ok_X7_entry v_X7_32 c_X7_entry rfl (e_X7_entry (by omega) (by omega)) ?_
  refine j_iload_n dX7_imageY_14 rfl ?_
  refine j_imul dX7_imageY_15 ?_
  refine j_iadd dX7_imageY_16 ?_
  refine j_iret dX7_imageY_17 rfl ?_
  exact pu_i (by unfold imy; rw [← hP2 p 2 hp.1 hp.2 (by omega) (by omega), ← hP2 p 3 hp.1 hp.2 (by omega) (by omega)])
theorem e_X7_times {M : Mem} (hL : LaM M) (hP : MPt M) {g h : Int} (hg : vc (M 1 0) (M 1 1) g) (hh : vc (M 1 0) (M 1 1) h) : J SHM mi_X7_times 0 (ent [vR 0, vI g, vI h] 6) [] M (pu (vI (tm (M 1 0) (M 1 1) g h)) M) := by
  obtain ⟨hk, hn1, hn5, hc1, hc2⟩ := id hL
  have ht := tu_c hk
  obtain ⟨hP1, hP2, hP3⟩ := id hP
  obtain ⟨hg0, hg1, hgp0, hgp1⟩ := vc_b hk hc1 hc2 hg
  have hgxy := cXY_b hn1 g
  have hgp : 0 ≤ cP (M 1 1) g ∧ cP (M 1 1) g < 2 * tu (M 1 0) := ⟨hgp0, hgp1⟩
  obtain ⟨hh0, hh1, hhp0, hhp1⟩ := vc_b hk hc1 hc2 hh
  have hhxy := cXY_b hn1 h
  have hhp : 0 ≤ cP (M 1 1) h ∧ cP (M 1 1) h < 2 * tu (M 1 0) := ⟨hhp0, hhp1⟩
  have hib := im_b (M 1 0) (cP (M 1 1) g) (x := cX (M 1 1) h) (y := cY (M 1 1) h) (b := 5) ⟨by omega, by omega⟩ ⟨by omega, by omega⟩
  have h12 := hP3 (cP (M 1 1) g) (cP (M 1 1) h) hgp0 hgp1 hhp0 hhp1
  show J SHM mi_X7_times 0 [some (vR 0), some (vI g), some (vI h), none, none, none] [] M _
  refine j_aload_n dX7_times_0 rfl ?_
  refine j_iload_n dX7_times_1 rfl ?_
  refine j_V1p dX7_times_2 ok_X7_partOf v_X7_59 c_X7_partOf rfl (e_X7_partOf hL (by omega) (by omega)) ?_
  refine j_istore_n dX7_times_5 (by decide) (nol rfl) (by show List.set _ 3 _ = _; simp only [List.set_cons_zero, List.set_cons_succ]; rfl) ?_
  refine j_aload_n dX7_times_6 rfl ?_
  refine j_iload_n dX7_times_7 rfl ?_
  refine j_aload_n dX7_times_8 rfl ?_
  refine j_iload_n dX7_times_9 rfl ?_
  refine j_V1p dX7_times_10 ok_X7_uOf v_X7_62 c_X7_uOf rfl (e_X7_uOf hL (by omega) (by omega)) ?_
  refine j_aload_n dX7_times_13 rfl ?_
  refine j_iload_n dX7_times_14 rfl ?_
  refine j_V1p dX7_times_15 ok_X7_vOf v_X7_65 c_X7_vOf rfl (e_X7_vOf hL (by omega) (by omega)) ?_
  refine j_V3p dX7_times_18 ok_X7_imageX v_X7_68 c_X7_imageX rfl (e_X7_imageX hL hP (by first | assumption | (exact ⟨by omega, by omega⟩))) ?_
  refine j_aload_n dX7_times_21 rfl ?_
  refine j_iload_n dX7_times_22 rfl ?_
  refine j_V1p dX7_times_23 ok_X7_uOf v_X7_62 c_X7_uOf rfl (e_X7_uOf hL (by omega) (by omega)) ?_
  refine j_iadd dX7_times_26 ?_
  refine j_istore dX7_times_27 (by decide) (nol rfl) (by show List.set _ 4 _ = _; simp only [List.set_cons_zero, List.set_cons_succ]; rfl) ?_
  refine j_aload_n dX7_times_29 rfl ?_
  refine j_iload_n dX7_times_30 rfl ?_
  refine j_aload_n dX7_times_31 rfl ?_
  refine j_iload_n dX7_times_32 rfl ?_
  refine j_V1p dX7_times_33 ok_X7_uOf v_X7_62 c_X7_uOf rfl (e_X7_uOf hL (by omega) (by omega)) ?_
  refine j_aload_n dX7_times_36 rfl ?_
  refine j_iload_n dX7_times_37 rfl ?_
  refine j_V1p dX7_times_38 ok_X7_vOf v_X7_65 c_X7_vOf rfl (e_X7_vOf hL (by omega) (by omega)) ?_
  refine j_V3p dX7_times_41 ok_X7_imageY v_X7_72 c_X7_imageY rfl (e_X7_imageY hL hP (by first | assumption | (exact ⟨by omega, by omega⟩))) ?_
  refine j_aload_n dX7_times_44 rfl ?_
  refine j_iload_n dX7_times_45 rfl ?_
  refine j_V1p dX7_times_46 ok_X7_vOf v_X7_65 c_X7_vOf rfl (e_X7_vOf hL (by omega) (by omega)) ?_
  refine j_iadd dX7_times_49 ?_
  refine j_istore dX7_times_50 (by decide) (nol rfl) (by show List.set _ 5 _ = _; simp only [List.set_cons_zero, List.set_cons_succ]; rfl) ?_
  refine j_aload_n dX7_times_52 rfl ?_
  refine j_aload_n dX7_times_53 rfl ?_
  refine j_getR dX7_times_54 f_X7_19 rfl rfl ?_
  refine j_bipush dX7_times_57 (by decide +kernel) ?_
  refine j_iload_n dX7_times_59 rfl ?_
  refine j_imul dX7_times_60 ?_
  refine j_aload_n dX7_times_61 rfl ?_
  refine j_iload_n dX7_times_62 rfl ?_
  refine j_V1p dX7_times_63 ok_X7_partOf v_X7_59 c_X7_partOf rfl (e_X7_partOf hL (by omega) (by omega)) ?_
  refine j_iadd dX7_times_66 ?_
  refine j_iald dX7_times_67 (by first | rfl | assumption) (by decide) (by omega) (by omega) ?_
  refine j_iload dX7_times_68 rfl ?_
  refine j_iload dX7_times_70 rfl ?_
  refine j_V3p dX7_times_72 ok_X7_codeOf v_X7_75 c_X7_codeOf rfl (e_X7_codeOf hL (by unfold inR; omega) (by unfold inR; omega)) ?_
  refine j_iret dX7_times_75 rfl ?_
  exact pu_i (by rw [h12]; rfl)
theorem e_X7_sends {M : Mem} (hL : LaM M) (hP : MPt M) {c q : Int} (hv : vc (M 1 0) (M 1 1) c) (hq : 0 ≤ q ∧ q < M 1 1 * M 1 1) : J SHM mi_X7_sends 0 (ent [vR 0, vI c, vI q] 6) [] M (pu (vI (sc (M 1 0) (M 1 1) c q)) M) := by
  obtain ⟨hk, hn1, hn5, hc1, hc2⟩ := id hL
  have ht := tu_c hk
  obtain ⟨hP1, hP2, hP3⟩ := id hP
  obtain ⟨hc0, hc1, hcp0, hcp1⟩ := vc_b hk hc1 hc2 hv
  have hcxy := cXY_b hn1 c
  have hcp : 0 ≤ cP (M 1 1) c ∧ cP (M 1 1) c < 2 * tu (M 1 0) := ⟨hcp0, hcp1⟩
  have hq1 : 0 ≤ q / M 1 1 ∧ q / M 1 1 ≤ 5 := ⟨Int.ediv_nonneg hq.1 (by omega), by have := Int.ediv_lt_of_lt_mul (show 0 < M 1 1 by omega) hq.2; omega⟩
  have hq2 : 0 ≤ q % M 1 1 ∧ q % M 1 1 ≤ 5 := ⟨Int.emod_nonneg q (by omega), by have := Int.emod_lt_of_pos q (show 0 < M 1 1 by omega); omega⟩
  have hib := im_b (M 1 0) (cP (M 1 1) c) hq1 hq2
  have ed : q.tdiv (M 1 1) = q / M 1 1 := Int.tdiv_eq_ediv_of_nonneg hq.1
  have em : q.tmod (M 1 1) = q % M 1 1 := Int.tmod_eq_emod_of_nonneg hq.1
  have ex : ∀ p, imx (M 1 0) p (q.tdiv (M 1 1)) (q.tmod (M 1 1)) = imx (M 1 0) p (q / M 1 1) (q % M 1 1) := fun p => by rw [ed, em]
  have ey : ∀ p, imy (M 1 0) p (q.tdiv (M 1 1)) (q.tmod (M 1 1)) = imy (M 1 0) p (q / M 1 1) (q % M 1 1) := fun p => by rw [ed, em]
  have ex1 := ex (cP (M 1 1) c)
  have ey1 := ey (cP (M 1 1) c)
  show J SHM mi_X7_sends 0 [some (vR 0), some (vI c), some (vI q), none, none, none] [] M _
  refine j_iload_n dX7_sends_0 rfl ?_
  refine j_aload_n dX7_sends_1 rfl ?_
  refine j_getR dX7_sends_2 f_X7_7 rfl rfl ?_
  refine j_iconst dX7_sends_5 ?_
  refine j_iald dX7_sends_6 (by first | rfl | assumption) (by decide) (by omega) (by omega) ?_
  refine j_idiv dX7_sends_7 (by unfold inR; omega) (by unfold inR; omega) (by omega) ?_
  refine j_istore_n dX7_sends_8 (by decide) (nol rfl) (by show List.set _ 3 _ = _; simp only [List.set_cons_zero, List.set_cons_succ]; rfl) ?_
  refine j_iload_n dX7_sends_9 rfl ?_
  refine j_aload_n dX7_sends_10 rfl ?_
  refine j_getR dX7_sends_11 f_X7_7 rfl rfl ?_
  refine j_iconst dX7_sends_14 ?_
  refine j_iald dX7_sends_15 (by first | rfl | assumption) (by decide) (by omega) (by omega) ?_
  refine j_irem dX7_sends_16 (by unfold inR; omega) (by unfold inR; omega) (by omega) ?_
  refine j_istore dX7_sends_17 (by decide) (nol rfl) (by show List.set _ 4 _ = _; simp only [List.set_cons_zero, List.set_cons_succ]; rfl) ?_
  refine j_aload_n dX7_sends_19 rfl ?_
  refine j_iload_n dX7_sends_20 rfl ?_
  refine j_V1p dX7_sends_21 ok_X7_partOf v_X7_59 c_X7_partOf rfl (e_X7_partOf hL (by omega) (by omega)) ?_
  refine j_istore dX7_sends_24 (by decide) (nol rfl) (by show List.set _ 5 _ = _; simp only [List.set_cons_zero, List.set_cons_succ]; rfl) ?_
  refine j_aload_n dX7_sends_26 rfl ?_
  refine j_aload_n dX7_sends_27 rfl ?_
  refine j_iload dX7_sends_28 rfl ?_
  refine j_iload_n dX7_sends_30 rfl ?_
  refine j_iload dX7_sends_31 rfl ?_
  refine j_V3p dX7_sends_33 ok_X7_imageX v_X7_68 c_X7_imageX rfl (e_X7_imageX hL hP (by first | assumption | (exact ⟨by omega, by omega⟩))) ?_
  refine j_aload_n dX7_sends_36 rfl ?_
  refine j_iload_n dX7_sends_37 rfl ?_
  refine j_V1p dX7_sends_38 ok_X7_uOf v_X7_62 c_X7_uOf rfl (e_X7_uOf hL (by omega) (by omega)) ?_
  refine j_iadd dX7_sends_41 ?_
  refine j_V1p dX7_sends_42 ok_X7_modulo v_X7_55 c_X7_modulo rfl (e_X7_modulo hL (by first | assumption | (unfold inR; omega))) ?_
  refine j_aload_n dX7_sends_45 rfl ?_
  refine j_getR dX7_sends_46 f_X7_7 rfl rfl ?_
  refine j_iconst dX7_sends_49 ?_
  refine j_iald dX7_sends_50 (by first | rfl | assumption) (by decide) (by omega) (by omega) ?_
  refine j_imul dX7_sends_51 ?_
  refine j_aload_n dX7_sends_52 rfl ?_
  refine j_aload_n dX7_sends_53 rfl ?_
  refine j_iload dX7_sends_54 rfl ?_
  refine j_iload_n dX7_sends_56 rfl ?_
  refine j_iload dX7_sends_57 rfl ?_
  refine j_V3p dX7_sends_59 ok_X7_imageY v_X7_72 c_X7_imageY rfl (e_X7_imageY hL hP (by first | assumption | (exact ⟨by omega, by omega⟩))) ?_
  refine j_aload_n dX7_sends_62 rfl ?_
  refine j_iload_n dX7_sends_63 rfl ?_
  refine j_V1p dX7_sends_64 ok_X7_vOf v_X7_65 c_X7_vOf rfl (e_X7_vOf hL (by omega) (by omega)) ?_
  refine j_iadd dX7_sends_67 ?_
  refine j_V1p dX7_sends_68 ok_X7_modulo v_X7_55 c_X7_modulo rfl (e_X7_modulo hL (by first | assumption | (unfold inR; omega))) ?_
  refine j_iadd dX7_sends_71 ?_
  refine j_iret dX7_sends_72 rfl ?_
  exact pu_i (by unfold sc; rw [ex, ey, Int.mul_comm (M 1 1)])
theorem e_X7_isCode {M : Mem} (hL : LaM M) (hP : MPt M) {c : Int} (hc : inR c) : J SHM mi_X7_isCode 0 (ent [vR 0, vI c] 2) [] M (bz (vc (M 1 0) (M 1 1) c) M) := by
  obtain ⟨hk, hn1, hn5, hc1, hc2⟩ := id hL
  have ht := tu_c hk
  obtain ⟨hP1, hP2, hP3⟩ := id hP
  have hcb : 0 ≤ 2 * tu (M 1 0) * (M 1 1 * M 1 1) ∧ 2 * tu (M 1 0) * (M 1 1 * M 1 1) ≤ 300 := by
    rcases ht with ⟨_, h⟩ | ⟨_, h⟩ <;> rw [h] <;> omega
  show J SHM mi_X7_isCode 0 [some (vR 0), some (vI c)] [] M _
  refine j_iload_n dX7_isCode_0 rfl ?_
  refine j_iconst dX7_isCode_1 ?_
  refine j_aload_n dX7_isCode_2 rfl ?_
  refine j_getI (kz := 3) rfl dX7_isCode_3 f_X7_36 rfl rfl ?_
  refine j_aload_n dX7_isCode_6 rfl ?_
  refine j_V0p dX7_isCode_7 ok_X7_cells v_X7_51 c_X7_cells rfl (e_X7_cells hL) ?_
  refine j_imul dX7_isCode_10 ?_
  refine j_iconst dX7_isCode_11 ?_
  refine j_isub dX7_isCode_12 ?_
  refine j_S3z dX7_isCode_13 ok_X7_in s_X7_78 (e_X7_in hc (by unfold inR; omega) (by rw [hP1]; unfold inR; omega)) (fun z13 M13 q13 => ?_)
  obtain ⟨rfl, q13⟩ := q13
  refine j_zret dX7_isCode_16 rfl (by first | exact Or.inl rfl | exact Or.inr rfl | omega) ?_
  refine bz_i ?_
  unfold vc
  rw [hP1] at *
  omega
theorem e_X7_isTurn {M : Mem} (hL : LaM M) (hP : MPt M) {p : Int} (hp : 0 ≤ p ∧ p < 12) : J SHM mi_X7_isTurn 0 (ent [vR 0, vI p] 2) [] M (bz (p < tu (M 1 0)) M) := by
  obtain ⟨hk, hn1, hn5, hc1, hc2⟩ := id hL
  have ht := tu_c hk
  obtain ⟨hP1, hP2, hP3⟩ := id hP
  have e2 : (M 0 3).tdiv 2 = tu (M 1 0) := by rw [hP1, Int.tdiv_eq_ediv_of_nonneg (by omega)]; omega
  show J SHM mi_X7_isTurn 0 [some (vR 0), some (vI p)] [] M _
  refine j_iload_n dX7_isTurn_0 rfl ?_
  refine j_aload_n dX7_isTurn_1 rfl ?_
  refine j_getI (kz := 3) rfl dX7_isTurn_2 f_X7_36 rfl rfl ?_
  refine j_iconst dX7_isTurn_5 ?_
  refine j_idiv dX7_isTurn_6 (by unfold inR; omega) (by unfold inR; omega) (by omega) ?_
  refine j_icmp_ge 14 dX7_isTurn_7 rfl (by unfold inR; omega) (by unfold inR; omega) (fun c7 => ?_) (fun c7 => ?_)
  · refine j_iconst dX7_isTurn_14 ?_
    refine j_zret dX7_isTurn_15 rfl (by first | exact Or.inl rfl | exact Or.inr rfl | omega) ?_
    exact bz_i (by omega)
  · refine j_iconst dX7_isTurn_10 ?_
    refine j_goto 15 dX7_isTurn_11 rfl ?_
    refine j_zret dX7_isTurn_15 rfl (by first | exact Or.inl rfl | exact Or.inr rfl | omega) ?_
    exact bz_i (by omega)
theorem e_X7_putPart {M : Mem} {p a b c d : Int} (hp : 0 ≤ p ∧ p < 12) : J SHM mi_X7_putPart 0 (ent [vR 0, vI p, vI a, vI b, vI c, vI d] 6) [] M (pv (fun M1 => fr [3] M M1 ∧ (∀ j : Int, ¬ (4 * p ≤ j ∧ j < 4 * p + 4) → M1 3 j = M 3 j) ∧ M1 3 (4 * p) = a ∧ M1 3 (4 * p + 1) = b ∧ M1 3 (4 * p + 2) = c ∧ M1 3 (4 * p + 3) = d)) := by
  show J SHM mi_X7_putPart 0 [some (vR 0), some (vI p), some (vI a), some (vI b), some (vI c), some (vI d)] [] M _
  refine j_aload_n dX7_putPart_0 rfl ?_
  refine j_getR dX7_putPart_1 f_X7_16 rfl rfl ?_
  refine j_iconst dX7_putPart_4 ?_
  refine j_iload_n dX7_putPart_5 rfl ?_
  refine j_imul dX7_putPart_6 ?_
  refine j_iload_n dX7_putPart_7 rfl ?_
  refine j_iast dX7_putPart_8 (by first | rfl | assumption) (by decide) (by omega) (by omega) ?_
  refine j_aload_n dX7_putPart_9 rfl ?_
  refine j_getR dX7_putPart_10 f_X7_16 rfl rfl ?_
  refine j_iconst dX7_putPart_13 ?_
  refine j_iload_n dX7_putPart_14 rfl ?_
  refine j_imul dX7_putPart_15 ?_
  refine j_iconst dX7_putPart_16 ?_
  refine j_iadd dX7_putPart_17 ?_
  refine j_iload_n dX7_putPart_18 rfl ?_
  refine j_iast dX7_putPart_19 (by first | rfl | assumption) (by decide) (by omega) (by omega) ?_
  refine j_aload_n dX7_putPart_20 rfl ?_
  refine j_getR dX7_putPart_21 f_X7_16 rfl rfl ?_
  refine j_iconst dX7_putPart_24 ?_
  refine j_iload_n dX7_putPart_25 rfl ?_
  refine j_imul dX7_putPart_26 ?_
  refine j_iconst dX7_putPart_27 ?_
  refine j_iadd dX7_putPart_28 ?_
  refine j_iload dX7_putPart_29 rfl ?_
  refine j_iast dX7_putPart_31 (by first | rfl | assumption) (by decide) (by omega) (by omega) ?_
  refine j_aload_n dX7_putPart_32 rfl ?_
  refine j_getR dX7_putPart_33 f_X7_16 rfl rfl ?_
  refine j_iconst dX7_putPart_36 ?_
  refine j_iload_n dX7_putPart_37 rfl ?_
  refine j_imul dX7_putPart_38 ?_
  refine j_iconst dX7_putPart_39 ?_
  refine j_iadd dX7_putPart_40 ?_
  refine j_iload dX7_putPart_41 rfl ?_
  refine j_iast dX7_putPart_43 (by first | rfl | assumption) (by decide) (by omega) (by omega) ?_
  refine j_vret dX7_putPart_44 rfl ?_
  refine ⟨rfl, (((fr.rf.w1 (by decide)).w1 (by decide)).w1 (by decide)).w1 (by decide), fun j hj => ?_, ?_, ?_, ?_, ?_⟩
  · rw [wr_ne _ _ (by omega), wr_ne _ _ (by omega), wr_ne _ _ (by omega), wr_ne _ _ (by omega)]
  · rw [wr_ne _ _ (by omega), wr_ne _ _ (by omega), wr_ne _ _ (by omega), wr_self]
  · rw [wr_ne _ _ (by omega), wr_ne _ _ (by omega), wr_self]
  · rw [wr_ne _ _ (by omega), wr_self]
  · rw [wr_self]
theorem e_X7_putProduct {M : Mem} {a b p : Int} (ha : 0 ≤ a ∧ a < 12) (hb : 0 ≤ b ∧ b < 12) (hp : 0 ≤ p ∧ p < 12) (hap : a ≠ p) (hbp : b ≠ p) : J SHM mi_X7_putProduct 0 (ent [vR 0, vI a, vI b, vI p] 6) [] M (pv (fun M1 => fr [3] M M1 ∧ (∀ j : Int, ¬ (4 * p ≤ j ∧ j < 4 * p + 4) → M1 3 j = M 3 j) ∧ M1 3 (4 * p + 0) = M 3 (4 * a + 0) * M 3 (4 * b + 0) + M 3 (4 * a + 1) * M 3 (4 * b + 2) ∧ M1 3 (4 * p + 1) = M 3 (4 * a + 0) * M 3 (4 * b + 1) + M 3 (4 * a + 1) * M 3 (4 * b + 3) ∧ M1 3 (4 * p + 2) = M 3 (4 * a + 2) * M 3 (4 * b + 0) + M 3 (4 * a + 3) * M 3 (4 * b + 2) ∧ M1 3 (4 * p + 3) = M 3 (4 * a + 2) * M 3 (4 * b + 1) + M 3 (4 * a + 3) * M 3 (4 * b + 3))) := by
  show J SHM mi_X7_putProduct 0 [some (vR 0), some (vI a), some (vI b), some (vI p), none, none] [] M _
  refine j_iconst dX7_putProduct_0 ?_
  refine j_istore dX7_putProduct_1 (by decide) (nol rfl) (by show List.set _ 4 _ = _; simp only [List.set_cons_zero, List.set_cons_succ]; rfl) ?_
  refine j_iload dX7_putProduct_3 rfl ?_
  refine j_iconst dX7_putProduct_5 ?_
  refine j_icmp_ge 85 dX7_putProduct_6 rfl (by unfold inR; omega) (by unfold inR; omega) (fun c6 => ?_) (fun c6 => ?_)
  · exfalso; first | omega | (simp at c6; done)
  refine j_iconst dX7_putProduct_9 ?_
  refine j_istore dX7_putProduct_10 (by decide) (nol rfl) (by show List.set _ 5 _ = _; simp only [List.set_cons_zero, List.set_cons_succ]; rfl) ?_
  refine j_iload dX7_putProduct_12 rfl ?_
  refine j_iconst dX7_putProduct_14 ?_
  refine j_icmp_ge 79 dX7_putProduct_15 rfl (by unfold inR; omega) (by unfold inR; omega) (fun c15 => ?_) (fun c15 => ?_)
  · exfalso; first | omega | (simp at c15; done)
  refine j_aload_n dX7_putProduct_18 rfl ?_
  refine j_getR dX7_putProduct_19 f_X7_16 rfl rfl ?_
  refine j_iconst dX7_putProduct_22 ?_
  refine j_iload_n dX7_putProduct_23 rfl ?_
  refine j_imul dX7_putProduct_24 ?_
  refine j_iconst dX7_putProduct_25 ?_
  refine j_iload dX7_putProduct_26 rfl ?_
  refine j_imul dX7_putProduct_28 ?_
  refine j_iadd dX7_putProduct_29 ?_
  refine j_iload dX7_putProduct_30 rfl ?_
  refine j_iadd dX7_putProduct_32 ?_
  refine j_aload_n dX7_putProduct_33 rfl ?_
  refine j_iload_n dX7_putProduct_34 rfl ?_
  refine j_iconst dX7_putProduct_35 ?_
  refine j_iload dX7_putProduct_36 rfl ?_
  refine j_imul dX7_putProduct_38 ?_
  refine j_V2p dX7_putProduct_39 ok_X7_entry v_X7_32 c_X7_entry rfl (e_X7_entry (by omega) (by omega)) ?_
  refine j_aload_n dX7_putProduct_42 rfl ?_
  refine j_iload_n dX7_putProduct_43 rfl ?_
  refine j_iload dX7_putProduct_44 rfl ?_
  refine j_V2p dX7_putProduct_46 ok_X7_entry v_X7_32 c_X7_entry rfl (e_X7_entry (by omega) (by omega)) ?_
  refine j_imul dX7_putProduct_49 ?_
  refine j_aload_n dX7_putProduct_50 rfl ?_
  refine j_iload_n dX7_putProduct_51 rfl ?_
  refine j_iconst dX7_putProduct_52 ?_
  refine j_iload dX7_putProduct_53 rfl ?_
  refine j_imul dX7_putProduct_55 ?_
  refine j_iconst dX7_putProduct_56 ?_
  refine j_iadd dX7_putProduct_57 ?_
  refine j_V2p dX7_putProduct_58 ok_X7_entry v_X7_32 c_X7_entry rfl (e_X7_entry (by omega) (by omega)) ?_
  refine j_aload_n dX7_putProduct_61 rfl ?_
  refine j_iload_n dX7_putProduct_62 rfl ?_
  refine j_iconst dX7_putProduct_63 ?_
  refine j_iload dX7_putProduct_64 rfl ?_
  refine j_iadd dX7_putProduct_66 ?_
  refine j_V2p dX7_putProduct_67 ok_X7_entry v_X7_32 c_X7_entry rfl (e_X7_entry (by omega) (by omega)) ?_
  refine j_imul dX7_putProduct_70 ?_
  refine j_iadd dX7_putProduct_71 ?_
  refine j_iast dX7_putProduct_72 (by first | rfl | assumption) (by decide) (by omega) (by omega) ?_
  refine j_iinc dX7_putProduct_73 rfl (by decide) (nol rfl) (by simp only [List.set_cons_zero, List.set_cons_succ]; rfl) ?_
  refine j_goto 12 dX7_putProduct_76 rfl ?_
  refine j_iload dX7_putProduct_12 rfl ?_
  refine j_iconst dX7_putProduct_14 ?_
  refine j_icmp_ge 79 dX7_putProduct_15 rfl (by unfold inR; omega) (by unfold inR; omega) (fun c15 => ?_) (fun c15 => ?_)
  · exfalso; first | omega | (simp at c15; done)
  refine j_aload_n dX7_putProduct_18 rfl ?_
  refine j_getR dX7_putProduct_19 f_X7_16 rfl rfl ?_
  refine j_iconst dX7_putProduct_22 ?_
  refine j_iload_n dX7_putProduct_23 rfl ?_
  refine j_imul dX7_putProduct_24 ?_
  refine j_iconst dX7_putProduct_25 ?_
  refine j_iload dX7_putProduct_26 rfl ?_
  refine j_imul dX7_putProduct_28 ?_
  refine j_iadd dX7_putProduct_29 ?_
  refine j_iload dX7_putProduct_30 rfl ?_
  refine j_iadd dX7_putProduct_32 ?_
  refine j_aload_n dX7_putProduct_33 rfl ?_
  refine j_iload_n dX7_putProduct_34 rfl ?_
  refine j_iconst dX7_putProduct_35 ?_
  refine j_iload dX7_putProduct_36 rfl ?_
  refine j_imul dX7_putProduct_38 ?_
  refine j_V2p dX7_putProduct_39 ok_X7_entry v_X7_32 c_X7_entry rfl (e_X7_entry (by omega) (by omega)) ?_
  refine j_aload_n dX7_putProduct_42 rfl ?_
  refine j_iload_n dX7_putProduct_43 rfl ?_
  refine j_iload dX7_putProduct_44 rfl ?_
  refine j_V2p dX7_putProduct_46 ok_X7_entry v_X7_32 c_X7_entry rfl (e_X7_entry (by omega) (by omega)) ?_
  refine j_imul dX7_putProduct_49 ?_
  refine j_aload_n dX7_putProduct_50 rfl ?_
  refine j_iload_n dX7_putProduct_51 rfl ?_
  refine j_iconst dX7_putProduct_52 ?_
  refine j_iload dX7_putProduct_53 rfl ?_
  refine j_imul dX7_putProduct_55 ?_
  refine j_iconst dX7_putProduct_56 ?_
  refine j_iadd dX7_putProduct_57 ?_
  refine j_V2p dX7_putProduct_58 ok_X7_entry v_X7_32 c_X7_entry rfl (e_X7_entry (by omega) (by omega)) ?_
  refine j_aload_n dX7_putProduct_61 rfl ?_
  refine j_iload_n dX7_putProduct_62 rfl ?_
  refine j_iconst dX7_putProduct_63 ?_
  refine j_iload dX7_putProduct_64 rfl ?_
  refine j_iadd dX7_putProduct_66 ?_
  refine j_V2p dX7_putProduct_67 ok_X7_entry v_X7_32 c_X7_entry rfl (e_X7_entry (by omega) (by omega)) ?_
  refine j_imul dX7_putProduct_70 ?_
  refine j_iadd dX7_putProduct_71 ?_
  refine j_iast dX7_putProduct_72 (by first | rfl | assumption) (by decide) (by omega) (by omega) ?_
  refine j_iinc dX7_putProduct_73 rfl (by decide) (nol rfl) (by simp only [List.set_cons_zero, List.set_cons_succ]; rfl) ?_
  refine j_goto 12 dX7_putProduct_76 rfl ?_
  refine j_iload dX7_putProduct_12 rfl ?_
  refine j_iconst dX7_putProduct_14 ?_
  refine j_icmp_ge 79 dX7_putProduct_15 rfl (by unfold inR; omega) (by unfold inR; omega) (fun c15 => ?_) (fun c15 => ?_)
  rotate_left
  · exfalso; first | omega | (simp at c15; done)
  refine j_iinc dX7_putProduct_79 rfl (by decide) (nol rfl) (by simp only [List.set_cons_zero, List.set_cons_succ]; rfl) ?_
  refine j_goto 3 dX7_putProduct_82 rfl ?_
  refine j_iload dX7_putProduct_3 rfl ?_
  refine j_iconst dX7_putProduct_5 ?_
  refine j_icmp_ge 85 dX7_putProduct_6 rfl (by unfold inR; omega) (by unfold inR; omega) (fun c6 => ?_) (fun c6 => ?_)
  · exfalso; first | omega | (simp at c6; done)
  refine j_iconst dX7_putProduct_9 ?_
  refine j_istore dX7_putProduct_10 (by decide) (nol rfl) (by show List.set _ 5 _ = _; simp only [List.set_cons_zero, List.set_cons_succ]; rfl) ?_
  refine j_iload dX7_putProduct_12 rfl ?_
  refine j_iconst dX7_putProduct_14 ?_
  refine j_icmp_ge 79 dX7_putProduct_15 rfl (by unfold inR; omega) (by unfold inR; omega) (fun c15 => ?_) (fun c15 => ?_)
  · exfalso; first | omega | (simp at c15; done)
  refine j_aload_n dX7_putProduct_18 rfl ?_
  refine j_getR dX7_putProduct_19 f_X7_16 rfl rfl ?_
  refine j_iconst dX7_putProduct_22 ?_
  refine j_iload_n dX7_putProduct_23 rfl ?_
  refine j_imul dX7_putProduct_24 ?_
  refine j_iconst dX7_putProduct_25 ?_
  refine j_iload dX7_putProduct_26 rfl ?_
  refine j_imul dX7_putProduct_28 ?_
  refine j_iadd dX7_putProduct_29 ?_
  refine j_iload dX7_putProduct_30 rfl ?_
  refine j_iadd dX7_putProduct_32 ?_
  refine j_aload_n dX7_putProduct_33 rfl ?_
  refine j_iload_n dX7_putProduct_34 rfl ?_
  refine j_iconst dX7_putProduct_35 ?_
  refine j_iload dX7_putProduct_36 rfl ?_
  refine j_imul dX7_putProduct_38 ?_
  refine j_V2p dX7_putProduct_39 ok_X7_entry v_X7_32 c_X7_entry rfl (e_X7_entry (by omega) (by omega)) ?_
  refine j_aload_n dX7_putProduct_42 rfl ?_
  refine j_iload_n dX7_putProduct_43 rfl ?_
  refine j_iload dX7_putProduct_44 rfl ?_
  refine j_V2p dX7_putProduct_46 ok_X7_entry v_X7_32 c_X7_entry rfl (e_X7_entry (by omega) (by omega)) ?_
  refine j_imul dX7_putProduct_49 ?_
  refine j_aload_n dX7_putProduct_50 rfl ?_
  refine j_iload_n dX7_putProduct_51 rfl ?_
  refine j_iconst dX7_putProduct_52 ?_
  refine j_iload dX7_putProduct_53 rfl ?_
  refine j_imul dX7_putProduct_55 ?_
  refine j_iconst dX7_putProduct_56 ?_
  refine j_iadd dX7_putProduct_57 ?_
  refine j_V2p dX7_putProduct_58 ok_X7_entry v_X7_32 c_X7_entry rfl (e_X7_entry (by omega) (by omega)) ?_
  refine j_aload_n dX7_putProduct_61 rfl ?_
  refine j_iload_n dX7_putProduct_62 rfl ?_
  refine j_iconst dX7_putProduct_63 ?_
  refine j_iload dX7_putProduct_64 rfl ?_
  refine j_iadd dX7_putProduct_66 ?_
  refine j_V2p dX7_putProduct_67 ok_X7_entry v_X7_32 c_X7_entry rfl (e_X7_entry (by omega) (by omega)) ?_
  refine j_imul dX7_putProduct_70 ?_
  refine j_iadd dX7_putProduct_71 ?_
  refine j_iast dX7_putProduct_72 (by first | rfl | assumption) (by decide) (by omega) (by omega) ?_
  refine j_iinc dX7_putProduct_73 rfl (by decide) (nol rfl) (by simp only [List.set_cons_zero, List.set_cons_succ]; rfl) ?_
  refine j_goto 12 dX7_putProduct_76 rfl ?_
  refine j_iload dX7_putProduct_12 rfl ?_
  refine j_iconst dX7_putProduct_14 ?_
  refine j_icmp_ge 79 dX7_putProduct_15 rfl (by unfold inR; omega) (by unfold inR; omega) (fun c15 => ?_) (fun c15 => ?_)
  · exfalso; first | omega | (simp at c15; done)
  refine j_aload_n dX7_putProduct_18 rfl ?_
  refine j_getR dX7_putProduct_19 f_X7_16 rfl rfl ?_
  refine j_iconst dX7_putProduct_22 ?_
  refine j_iload_n dX7_putProduct_23 rfl ?_
  refine j_imul dX7_putProduct_24 ?_
  refine j_iconst dX7_putProduct_25 ?_
  refine j_iload dX7_putProduct_26 rfl ?_
  refine j_imul dX7_putProduct_28 ?_
  refine j_iadd dX7_putProduct_29 ?_
  refine j_iload dX7_putProduct_30 rfl ?_
  refine j_iadd dX7_putProduct_32 ?_
  refine j_aload_n dX7_putProduct_33 rfl ?_
  refine j_iload_n dX7_putProduct_34 rfl ?_
  refine j_iconst dX7_putProduct_35 ?_
  refine j_iload dX7_putProduct_36 rfl ?_
  refine j_imul dX7_putProduct_38 ?_
  refine j_V2p dX7_putProduct_39 ok_X7_entry v_X7_32 c_X7_entry rfl (e_X7_entry (by omega) (by omega)) ?_
  refine j_aload_n dX7_putProduct_42 rfl ?_
  refine j_iload_n dX7_putProduct_43 rfl ?_
  refine j_iload dX7_putProduct_44 rfl ?_
  refine j_V2p dX7_putProduct_46 ok_X7_entry v_X7_32 c_X7_entry rfl (e_X7_entry (by omega) (by omega)) ?_
  refine j_imul dX7_putProduct_49 ?_
  refine j_aload_n dX7_putProduct_50 rfl ?_
  refine j_iload_n dX7_putProduct_51 rfl ?_
  refine j_iconst dX7_putProduct_52 ?_
  refine j_iload dX7_putProduct_53 rfl ?_
  refine j_imul dX7_putProduct_55 ?_
  refine j_iconst dX7_putProduct_56 ?_
  refine j_iadd dX7_putProduct_57 ?_
  refine j_V2p dX7_putProduct_58 ok_X7_entry v_X7_32 c_X7_entry rfl (e_X7_entry (by omega) (by omega)) ?_
  refine j_aload_n dX7_putProduct_61 rfl ?_
  refine j_iload_n dX7_putProduct_62 rfl ?_
  refine j_iconst dX7_putProduct_63 ?_
  refine j_iload dX7_putProduct_64 rfl ?_
  refine j_iadd dX7_putProduct_66 ?_
  refine j_V2p dX7_putProduct_67 ok_X7_entry v_X7_32 c_X7_entry rfl (e_X7_entry (by omega) (by omega)) ?_
  refine j_imul dX7_putProduct_70 ?_
  refine j_iadd dX7_putProduct_71 ?_
  refine j_iast dX7_putProduct_72 (by first | rfl | assumption) (by decide) (by omega) (by omega) ?_
  refine j_iinc dX7_putProduct_73 rfl (by decide) (nol rfl) (by simp only [List.set_cons_zero, List.set_cons_succ]; rfl) ?_
  refine j_goto 12 dX7_putProduct_76 rfl ?_
  refine j_iload dX7_putProduct_12 rfl ?_
  refine j_iconst dX7_putProduct_14 ?_
  refine j_icmp_ge 79 dX7_putProduct_15 rfl (by unfold inR; omega) (by unfold inR; omega) (fun c15 => ?_) (fun c15 => ?_)
  rotate_left
  · exfalso; first | omega | (simp at c15; done)
  refine j_iinc dX7_putProduct_79 rfl (by decide) (nol rfl) (by simp only [List.set_cons_zero, List.set_cons_succ]; rfl) ?_
  refine j_goto 3 dX7_putProduct_82 rfl ?_
  refine j_iload dX7_putProduct_3 rfl ?_
  refine j_iconst dX7_putProduct_5 ?_
  refine j_icmp_ge 85 dX7_putProduct_6 rfl (by unfold inR; omega) (by unfold inR; omega) (fun c6 => ?_) (fun c6 => ?_)
  rotate_left
  · exfalso; first | omega | (simp at c6; done)
  refine j_vret dX7_putProduct_85 rfl ?_
  refine ⟨rfl, (((fr.rf.w1 (by decide)).w1 (by decide)).w1 (by decide)).w1 (by decide), fun j hj => ?_, ?_, ?_, ?_, ?_⟩
  · rw [wr_ne _ _ (by omega), wr_ne _ _ (by omega), wr_ne _ _ (by omega), wr_ne _ _ (by omega)]
  all_goals simp only [Int.mul_zero, Int.add_zero, Int.zero_add, Int.mul_one]
  all_goals simp (disch := omega) only [wr_ne]
  all_goals simp [wr, Int.add_assoc]
  
