/-! THE MODEL: the other edits -/
theorem e_X7_isMovement {M : Mem} {r : Row} {hs : List Row} (hI : MS M r hs) {p u v : Int} (hp : inR p) (hu : inR u) (hv : inR v) : J SHM mi_X7_isMovement 0 (ent [vR 0, vI p, vI u, vI v] 4) [] M (bz (0 ≤ p ∧ p < 2 * tu r.1 ∧ 0 ≤ u ∧ u < r.2.1 ∧ 0 ≤ v ∧ v < r.2.1) M) := by
  obtain ⟨hc, ho, hh, hq, hl, hd⟩ := id hI
  have hL := LaM_of hc ho
  have hg := GM_of hc ho
  obtain ⟨hP, es, hB, hnd, hes⟩ := id hd
  obtain ⟨hc1, hc2, hc3, hc4⟩ := id hc
  have ho4 := ho.2.2.2.1
  have hP1 := hP.1
  rw [hc1] at hP1
  have ht := tu_c ho.1
  obtain ⟨-, on1, on5, -, -⟩ := id ho
  show J SHM mi_X7_isMovement 0 [some (vR 0), some (vI p), some (vI u), some (vI v)] [] M _
  refine j_iload_n dX7_isMovement_0 rfl ?_
  refine j_iconst dX7_isMovement_1 ?_
  refine j_aload_n dX7_isMovement_2 rfl ?_
  refine j_getI (kz := 3) rfl dX7_isMovement_3 f_X7_36 rfl rfl ?_
  refine j_iconst dX7_isMovement_6 ?_
  refine j_isub dX7_isMovement_7 ?_
  refine j_S3z dX7_isMovement_8 ok_X7_in s_X7_78 (e_X7_in hp (by unfold inR; omega) (by rw [hP1]; unfold inR; omega)) (fun z8 M8 q8 => ?_)
  obtain ⟨rfl, q8⟩ := q8
  refine j_if_eq 50 dX7_isMovement_11 rfl (by unfold inR; omega) (fun c11 => ?_) (fun c11 => ?_)
  · refine j_iconst dX7_isMovement_50 ?_
    refine j_zret dX7_isMovement_51 rfl (by first | exact Or.inl rfl | exact Or.inr rfl | omega) ?_
    refine bz_i ?_
    rw [hP1] at *
    rw [hc2] at *
    omega
  · refine j_iload_n dX7_isMovement_14 rfl ?_
    refine j_iconst dX7_isMovement_15 ?_
    refine j_aload_n dX7_isMovement_16 rfl ?_
    refine j_getR dX7_isMovement_17 f_X7_7 rfl rfl ?_
    refine j_iconst dX7_isMovement_20 ?_
    refine j_iald dX7_isMovement_21 (by first | rfl | assumption) (by decide) (by omega) (by omega) ?_
    refine j_iconst dX7_isMovement_22 ?_
    refine j_isub dX7_isMovement_23 ?_
    refine j_S3z dX7_isMovement_24 ok_X7_in s_X7_78 (e_X7_in hu (by unfold inR; omega) (by rw [hc2]; unfold inR; omega)) (fun z24 M24 q24 => ?_)
    obtain ⟨rfl, q24⟩ := q24
    refine j_if_eq 50 dX7_isMovement_27 rfl (by unfold inR; omega) (fun c27 => ?_) (fun c27 => ?_)
    · refine j_iconst dX7_isMovement_50 ?_
      refine j_zret dX7_isMovement_51 rfl (by first | exact Or.inl rfl | exact Or.inr rfl | omega) ?_
      refine bz_i ?_
      rw [hP1] at *
      rw [hc2] at *
      omega
    · refine j_iload_n dX7_isMovement_30 rfl ?_
      refine j_iconst dX7_isMovement_31 ?_
      refine j_aload_n dX7_isMovement_32 rfl ?_
      refine j_getR dX7_isMovement_33 f_X7_7 rfl rfl ?_
      refine j_iconst dX7_isMovement_36 ?_
      refine j_iald dX7_isMovement_37 (by first | rfl | assumption) (by decide) (by omega) (by omega) ?_
      refine j_iconst dX7_isMovement_38 ?_
      refine j_isub dX7_isMovement_39 ?_
      refine j_S3z dX7_isMovement_40 ok_X7_in s_X7_78 (e_X7_in hv (by unfold inR; omega) (by rw [hc2]; unfold inR; omega)) (fun z40 M40 q40 => ?_)
      obtain ⟨rfl, q40⟩ := q40
      refine j_if_eq 50 dX7_isMovement_43 rfl (by unfold inR; omega) (fun c43 => ?_) (fun c43 => ?_)
      · refine j_iconst dX7_isMovement_50 ?_
        refine j_zret dX7_isMovement_51 rfl (by first | exact Or.inl rfl | exact Or.inr rfl | omega) ?_
        refine bz_i ?_
        rw [hP1] at *
        rw [hc2] at *
        omega
      · refine j_iconst dX7_isMovement_46 ?_
        refine j_goto 51 dX7_isMovement_47 rfl ?_
        refine j_zret dX7_isMovement_51 rfl (by first | exact Or.inl rfl | exact Or.inr rfl | omega) ?_
        refine bz_i ?_
        rw [hP1] at *
        rw [hc2] at *
        omega
theorem e_X7_isGenerator {M : Mem} {r : Row} {hs : List Row} (hI : MS M r hs) {i : Int} (hi : inR i) : J SHM mi_X7_isGenerator 0 (ent [vR 0, vI i] 2) [] M (bz (0 ≤ i ∧ i < r.2.2.length) M) := by
  obtain ⟨hc, ho, hh, hq, hl, hd⟩ := id hI
  have hL := LaM_of hc ho
  have hg := GM_of hc ho
  obtain ⟨hP, es, hB, hnd, hes⟩ := id hd
  obtain ⟨hc1, hc2, hc3, hc4⟩ := id hc
  have ho4 := ho.2.2.2.1
  show J SHM mi_X7_isGenerator 0 [some (vR 0), some (vI i)] [] M _
  refine j_iload_n dX7_isGenerator_0 rfl ?_
  refine j_iconst dX7_isGenerator_1 ?_
  refine j_aload_n dX7_isGenerator_2 rfl ?_
  refine j_getR dX7_isGenerator_3 f_X7_7 rfl rfl ?_
  refine j_iconst dX7_isGenerator_6 ?_
  refine j_iald dX7_isGenerator_7 (by first | rfl | assumption) (by decide) (by omega) (by omega) ?_
  refine j_iconst dX7_isGenerator_8 ?_
  refine j_isub dX7_isGenerator_9 ?_
  refine j_S3z dX7_isGenerator_10 ok_X7_in s_X7_78 (e_X7_in hi (by unfold inR; omega) (by rw [hc3]; unfold inR; omega)) (fun z10 M10 q10 => ?_)
  obtain ⟨rfl, q10⟩ := q10
  refine j_zret dX7_isGenerator_13 rfl (by first | exact Or.inl rfl | exact Or.inr rfl | omega) ?_
  refine bz_i ?_
  rw [hc3] at *
  omega
theorem e_X7_addGenerator {M : Mem} {r : Row} {hs : List Row} (hI : MS M r hs) {p u v : Int} (hp : inR p) (hu : inR u) (hv : inR v) : J SHM mi_X7_addGenerator 0 (ent [vR 0, vI p, vI u, vI v] 4) [] M (pz (fun z M1 => (¬ (0 ≤ p ∧ p < 2 * tu r.1 ∧ 0 ≤ u ∧ u < r.2.1 ∧ 0 ≤ v ∧ v < r.2.1) ∧ z = -1 ∧ M1 = M) ∨ ((0 ≤ p ∧ p < 2 * tu r.1 ∧ 0 ≤ u ∧ u < r.2.1 ∧ 0 ≤ v ∧ v < r.2.1) ∧ ((¬ r.2.2.length < 4 ∧ z = -2 ∧ M1 = M) ∨ (r.2.2.length < 4 ∧ z = (GL (r.1, r.2.1, r.2.2 ++ [cod r.2.1 p u v])).length ∧ MS M1 (r.1, r.2.1, r.2.2 ++ [cod r.2.1 p u v]) (push4 hs r)))))) := by
  obtain ⟨hc, ho, hh, hq, hl, hd⟩ := id hI
  have hL := LaM_of hc ho
  have hg := GM_of hc ho
  obtain ⟨hP, es, hB, hnd, hes⟩ := id hd
  obtain ⟨hc1, hc2, hc3, hc4⟩ := id hc
  have ho4 := ho.2.2.2.1
  show J SHM mi_X7_addGenerator 0 [some (vR 0), some (vI p), some (vI u), some (vI v)] [] M _
  refine j_aload_n dX7_addGenerator_0 rfl ?_
  refine j_iload_n dX7_addGenerator_1 rfl ?_
  refine j_iload_n dX7_addGenerator_2 rfl ?_
  refine j_iload_n dX7_addGenerator_3 rfl ?_
  refine j_V3z dX7_addGenerator_4 ok_X7_isMovement v_X7_111 c_X7_isMovement rfl (e_X7_isMovement hI hp hu hv) (fun z4 M4 q4 => ?_)
  obtain ⟨rfl, q4⟩ := q4
  refine j_if_ne 12 dX7_addGenerator_7 rfl (by first | assumption | (unfold inR; omega) | (rw [f26 1 (by decide), hc3]; unfold inR; omega)) (fun c7 => ?_) (fun c7 => ?_)
  · refine j_aload_n dX7_addGenerator_12 rfl ?_
    refine j_getR dX7_addGenerator_13 f_X7_7 rfl rfl ?_
    refine j_iconst dX7_addGenerator_16 ?_
    refine j_iald dX7_addGenerator_17 (by first | rfl | assumption) (by decide) (by first | omega | (rw [f26 1 (by decide), hc3]; omega)) (by first | omega | (rw [f26 1 (by decide), hc3]; omega)) ?_
    refine j_iconst dX7_addGenerator_18 ?_
    refine j_icmp_ne 25 dX7_addGenerator_19 rfl (by first | assumption | (unfold inR; omega) | (rw [f26 1 (by decide), hc3]; unfold inR; omega)) (by first | assumption | (unfold inR; omega) | (rw [f26 1 (by decide), hc3]; unfold inR; omega)) (fun c19 => ?_) (fun c19 => ?_)
    · refine j_aload_n dX7_addGenerator_25 rfl ?_
      refine j_V0v dX7_addGenerator_26 ok_X7_save v_X7_108 c_X7_save rfl (e_X7_save hc ho hh hq hl) (fun M26 q26 => ?_)
      obtain ⟨f26, z26, g26⟩ := q26
      refine j_aload_n dX7_addGenerator_29 rfl ?_
      refine j_getR dX7_addGenerator_30 f_X7_7 rfl rfl ?_
      refine j_iconst dX7_addGenerator_33 ?_
      refine j_aload_n dX7_addGenerator_34 rfl ?_
      refine j_getR dX7_addGenerator_35 f_X7_7 rfl rfl ?_
      refine j_iconst dX7_addGenerator_38 ?_
      refine j_iald dX7_addGenerator_39 (by first | rfl | assumption) (by decide) (by first | omega | (rw [f26 1 (by decide), hc3]; omega)) (by first | omega | (rw [f26 1 (by decide), hc3]; omega)) ?_
      refine j_iadd dX7_addGenerator_40 ?_
      refine j_aload_n dX7_addGenerator_41 rfl ?_
      refine j_iload_n dX7_addGenerator_42 rfl ?_
      refine j_iload_n dX7_addGenerator_43 rfl ?_
      refine j_iload_n dX7_addGenerator_44 rfl ?_
      refine j_V3p dX7_addGenerator_45 ok_X7_codeOf v_X7_75 c_X7_codeOf rfl (e_X7_codeOf (LaM_fr (f26 1 (by decide)) hL) hu hv) ?_
      refine j_iast dX7_addGenerator_48 (by first | rfl | assumption) (by decide) (by first | omega | (rw [f26 1 (by decide), hc3]; omega)) (by first | omega | (rw [f26 1 (by decide), hc3]; omega)) ?_
      refine j_aload_n dX7_addGenerator_49 rfl ?_
      refine j_getR dX7_addGenerator_50 f_X7_7 rfl rfl ?_
      refine j_iconst dX7_addGenerator_53 ?_
      refine j_dup2 dX7_addGenerator_54 (fun _ h => by cases h) (fun _ h => by cases h) ?_
      refine j_iald dX7_addGenerator_55 (by first | rfl | assumption) (by decide) (by first | omega | (rw [f26 1 (by decide), hc3]; omega)) (by first | omega | (rw [f26 1 (by decide), hc3]; omega)) ?_
      refine j_iconst dX7_addGenerator_56 ?_
      refine j_iadd dX7_addGenerator_57 ?_
      refine j_iast dX7_addGenerator_58 (by first | rfl | assumption) (by decide) (by first | omega | (rw [f26 1 (by decide), hc3]; omega)) (by first | omega | (rw [f26 1 (by decide), hc3]; omega)) ?_
      refine j_aload_n dX7_addGenerator_59 rfl ?_
      have c57 : CurM (wr (wr M26 1 (3 + M26 1 2) (mkc (M26 1 1) p u v)) 1 2 (wr M26 1 (3 + M26 1 2) (mkc (M26 1 1) p u v) 1 2 + 1)) (r.1, r.2.1, r.2.2 ++ [cod r.2.1 p u v]) := by
        have e1 := f26 1 (by decide)
        have hmv : (0 ≤ p ∧ p < 2 * tu r.1 ∧ 0 ≤ u ∧ u < r.2.1 ∧ 0 ≤ v ∧ v < r.2.1) := by
          rcases q4 with q | q
          · exact q.2
          · omega
        have e2 : wr M26 1 (3 + M26 1 2) (mkc (M26 1 1) p u v) 1 2 = r.2.2.length := by rw [wr_ne _ _ (by rw [e1, hc3]; omega), e1]; exact hc3
        have e3 : mkc (M26 1 1) p u v = cod r.2.1 p u v := by rw [e1, hc2]; exact (cod_mkc ⟨hmv.2.2.1, hmv.2.2.2.1⟩ hmv.2.2.2.2).symm
        rw [e2, e3, e1, hc3]
        refine ⟨by rw [wr_ne _ _ (by omega), wr_ne _ _ (by omega), e1]; exact hc1, by rw [wr_ne _ _ (by omega), wr_ne _ _ (by omega), e1]; exact hc2, by rw [wr_self]; simp, fun j x hj => ?_⟩
        rw [wr_ne _ _ (by omega)]
        rcases push_get hj with ⟨a1, a2, _⟩ | ⟨a1, a2, _⟩
        · rw [wr_ne _ _ (by omega), e1]; exact hc4 j x a2
        · rw [a1, wr_self, a2]
      have o57 : okR (r.1, r.2.1, r.2.2 ++ [cod r.2.1 p u v]) := by
        have hmv : (0 ≤ p ∧ p < 2 * tu r.1 ∧ 0 ≤ u ∧ u < r.2.1 ∧ 0 ≤ v ∧ v < r.2.1) := by
          rcases q4 with q | q
          · exact q.2
          · omega
        exact ⟨ho.1, ho.2.1, ho.2.2.1, by show (r.2.2 ++ [cod r.2.1 p u v]).length ≤ 4; simp; omega, fun x hx => by
          rcases List.mem_append.mp hx with z | z
          · exact ho.2.2.2.2 x z
          · simp at z; rw [z]; exact cod_vc ho.2.1 ⟨hmv.1, hmv.2.1⟩ ⟨hmv.2.2.1, hmv.2.2.2.1⟩ hmv.2.2.2.2⟩
      refine j_V0v dX7_addGenerator_60 ok_X7_derive v_X7_29 c_X7_derive rfl (e_X7_derive (LaM_of c57 o57) (GM_of c57 o57)) (fun M60 q60 => ?_)
      obtain ⟨f60, z60, P60, g60⟩ := q60
      refine j_aload_n dX7_addGenerator_63 rfl ?_
      refine j_getI (kz := 8) rfl dX7_addGenerator_64 f_X7_92 rfl rfl ?_
      refine j_iret dX7_addGenerator_67 rfl ?_
      have f57 : fr [1] M26 (wr (wr M26 1 (3 + M26 1 2) (mkc (M26 1 1) p u v)) 1 2 (wr M26 1 (3 + M26 1 2) (mkc (M26 1 1) p u v) 1 2 + 1)) := (fr.rf.w1 (by decide)).w1 (by decide)
      have hMS := MS_edit g26 hq ho hl f57 c57 o57 f60 z60 P60 g60
      refine ⟨_, rfl, Or.inr ⟨?_, Or.inr ⟨by omega, DerM_len hMS.2.2.2.2.2, hMS⟩⟩⟩
      rcases q4 with q | q
      · exact q.2
      · omega
    · refine j_bipush dX7_addGenerator_22 (by decide +kernel) ?_
      refine j_iret dX7_addGenerator_24 rfl ?_
      refine ⟨_, rfl, Or.inr ⟨?_, Or.inl ⟨by omega, rfl, rfl⟩⟩⟩
      rcases q4 with q | q
      · exact q.2
      · omega
  · refine j_iconst dX7_addGenerator_10 ?_
    refine j_iret dX7_addGenerator_11 rfl ?_
    refine ⟨_, rfl, Or.inl ⟨?_, rfl, rfl⟩⟩
    rcases q4 with q | q
    · omega
    · exact q.2
theorem e_X7_setGenerator {M : Mem} {r : Row} {hs : List Row} (hI : MS M r hs) {i p u v : Int} (hi : inR i) (hp : inR p) (hu : inR u) (hv : inR v) : J SHM mi_X7_setGenerator 0 (ent [vR 0, vI i, vI p, vI u, vI v] 6) [] M (pz (fun z M1 => (¬ ((0 ≤ i ∧ i < r.2.2.length) ∧ (0 ≤ p ∧ p < 2 * tu r.1 ∧ 0 ≤ u ∧ u < r.2.1 ∧ 0 ≤ v ∧ v < r.2.1)) ∧ z = -1 ∧ M1 = M) ∨ (((0 ≤ i ∧ i < r.2.2.length) ∧ (0 ≤ p ∧ p < 2 * tu r.1 ∧ 0 ≤ u ∧ u < r.2.1 ∧ 0 ≤ v ∧ v < r.2.1)) ∧ z = r.2.2.getD i.toNat 0 ∧ MS M1 (r.1, r.2.1, r.2.2.set i.toNat (cod r.2.1 p u v)) (push4 hs r)))) := by
  obtain ⟨hc, ho, hh, hq, hl, hd⟩ := id hI
  have hL := LaM_of hc ho
  have hg := GM_of hc ho
  obtain ⟨hP, es, hB, hnd, hes⟩ := id hd
  obtain ⟨hc1, hc2, hc3, hc4⟩ := id hc
  have ho4 := ho.2.2.2.1
  show J SHM mi_X7_setGenerator 0 [some (vR 0), some (vI i), some (vI p), some (vI u), some (vI v), none] [] M _
  refine j_aload_n dX7_setGenerator_0 rfl ?_
  refine j_iload_n dX7_setGenerator_1 rfl ?_
  refine j_V1z dX7_setGenerator_2 ok_X7_isGenerator v_X7_114 c_X7_isGenerator rfl (e_X7_isGenerator hI hi) (fun z2 M2 q2 => ?_)
  obtain ⟨rfl, q2⟩ := q2
  refine j_if_eq 19 dX7_setGenerator_5 rfl (by unfold inR; omega) (fun c5 => ?_) (fun c5 => ?_)
  · refine j_iconst dX7_setGenerator_19 ?_
    refine j_iret dX7_setGenerator_20 rfl ?_
    refine ⟨_, rfl, Or.inl ⟨?_, rfl, rfl⟩⟩
    first
    | (rcases q2 with q | q
       · omega
       · exact fun h => q.2 h.1)
    | (rcases q13 with q | q
       · omega
       · exact fun h => q.2 h.2)
  · refine j_aload_n dX7_setGenerator_8 rfl ?_
    refine j_iload_n dX7_setGenerator_9 rfl ?_
    refine j_iload_n dX7_setGenerator_10 rfl ?_
    refine j_iload dX7_setGenerator_11 rfl ?_
    refine j_V3z dX7_setGenerator_13 ok_X7_isMovement v_X7_111 c_X7_isMovement rfl (e_X7_isMovement hI hp hu hv) (fun z13 M13 q13 => ?_)
    obtain ⟨rfl, q13⟩ := q13
    refine j_if_ne 21 dX7_setGenerator_16 rfl (by unfold inR; omega) (fun c16 => ?_) (fun c16 => ?_)
    · refine j_aload_n dX7_setGenerator_21 rfl ?_
      refine j_V0v dX7_setGenerator_22 ok_X7_save v_X7_108 c_X7_save rfl (e_X7_save hc ho hh hq hl) (fun M22 q22 => ?_)
      obtain ⟨f22, z22, g22⟩ := q22
      refine j_aload_n dX7_setGenerator_25 rfl ?_
      refine j_getR dX7_setGenerator_26 f_X7_7 rfl rfl ?_
      refine j_iconst dX7_setGenerator_29 ?_
      refine j_iload_n dX7_setGenerator_30 rfl ?_
      refine j_iadd dX7_setGenerator_31 ?_
      refine j_iald dX7_setGenerator_32 (by first | rfl | assumption) (by decide) (by omega) (by omega) ?_
      refine j_istore dX7_setGenerator_33 (by decide) (nol rfl) (by show List.set _ 5 _ = _; simp only [List.set_cons_zero, List.set_cons_succ]; rfl) ?_
      refine j_aload_n dX7_setGenerator_35 rfl ?_
      refine j_getR dX7_setGenerator_36 f_X7_7 rfl rfl ?_
      refine j_iconst dX7_setGenerator_39 ?_
      refine j_iload_n dX7_setGenerator_40 rfl ?_
      refine j_iadd dX7_setGenerator_41 ?_
      refine j_aload_n dX7_setGenerator_42 rfl ?_
      refine j_iload_n dX7_setGenerator_43 rfl ?_
      refine j_iload_n dX7_setGenerator_44 rfl ?_
      refine j_iload dX7_setGenerator_45 rfl ?_
      refine j_V3p dX7_setGenerator_47 ok_X7_codeOf v_X7_75 c_X7_codeOf rfl (e_X7_codeOf (LaM_fr (f22 1 (by decide)) hL) hu hv) ?_
      refine j_iast dX7_setGenerator_50 (by first | rfl | assumption) (by decide) (by omega) (by omega) ?_
      refine j_aload_n dX7_setGenerator_51 rfl ?_
      have c57 : CurM (wr M22 1 (3 + i) (mkc (M22 1 1) p u v)) (r.1, r.2.1, r.2.2.set i.toNat (cod r.2.1 p u v)) := by
        have e1 := f22 1 (by decide)
        have hmv : (0 ≤ p ∧ p < 2 * tu r.1 ∧ 0 ≤ u ∧ u < r.2.1 ∧ 0 ≤ v ∧ v < r.2.1) := by
          rcases q13 with q | q
          · exact q.2
          · omega
        have hib : 0 ≤ i ∧ i < r.2.2.length := by
          rcases q2 with q | q
          · exact q.2
          · omega
        have hin : i.toNat < r.2.2.length := by omega
        have e3 : mkc (M22 1 1) p u v = cod r.2.1 p u v := by rw [e1, hc2]; exact (cod_mkc ⟨hmv.2.2.1, hmv.2.2.2.1⟩ hmv.2.2.2.2).symm
        rw [e3]
        refine ⟨by rw [wr_ne _ _ (by omega), e1]; exact hc1, by rw [wr_ne _ _ (by omega), e1]; exact hc2, by rw [wr_ne _ _ (by omega), e1, hc3]; show _ = ((r.2.2.set i.toNat (cod r.2.1 p u v)).length : Int); rw [List.length_set], fun j x hx => ?_⟩
        rw [show ((r.1, r.2.1, r.2.2.set i.toNat (cod r.2.1 p u v)).2.2)[j]? = (r.2.2.set i.toNat (cod r.2.1 p u v))[j]? from rfl] at hx
        by_cases q : j = i.toNat
        · subst q
          rw [List.getElem?_set_self hin] at hx
          cases hx
          rw [show ((i.toNat : Nat) : Int) = i by omega, wr_self]
        · rw [List.getElem?_set_ne (Ne.symm q)] at hx
          rw [wr_ne _ _ (by omega), e1]
          exact hc4 j x hx
      have o57 : okR (r.1, r.2.1, r.2.2.set i.toNat (cod r.2.1 p u v)) := by
        have hmv : (0 ≤ p ∧ p < 2 * tu r.1 ∧ 0 ≤ u ∧ u < r.2.1 ∧ 0 ≤ v ∧ v < r.2.1) := by
          rcases q13 with q | q
          · exact q.2
          · omega
        have hib : 0 ≤ i ∧ i < r.2.2.length := by
          rcases q2 with q | q
          · exact q.2
          · omega
        have hin : i.toNat < r.2.2.length := by omega
        exact ⟨ho.1, ho.2.1, ho.2.2.1, by show (r.2.2.set i.toNat (cod r.2.1 p u v)).length ≤ 4; rw [List.length_set]; omega, fun x hx => by
          rcases List.mem_or_eq_of_mem_set hx with z | z
          · exact ho.2.2.2.2 x z
          · rw [z]; exact cod_vc ho.2.1 ⟨hmv.1, hmv.2.1⟩ ⟨hmv.2.2.1, hmv.2.2.2.1⟩ hmv.2.2.2.2⟩
      refine j_V0v dX7_setGenerator_52 ok_X7_derive v_X7_29 c_X7_derive rfl (e_X7_derive (LaM_of c57 o57) (GM_of c57 o57)) (fun M52 q52 => ?_)
      obtain ⟨f52, z52, P52, g52⟩ := q52
      refine j_iload dX7_setGenerator_55 rfl ?_
      refine j_iret dX7_setGenerator_57 rfl ?_
      have f57 : fr [1] M22 (wr M22 1 (3 + i) (mkc (M22 1 1) p u v)) := fr.rf.w1 (by decide)
      have hMS := MS_edit g22 hq ho hl f57 c57 o57 f52 z52 P52 g52
      refine ⟨_, rfl, Or.inr ⟨⟨?_, ?_⟩, ?_, hMS⟩⟩
      · rcases q2 with q | q
        · exact q.2
        · omega
      · rcases q13 with q | q
        · exact q.2
        · omega
      · have hin : i.toNat < r.2.2.length := by omega
        have e9 : r.2.2[i.toNat]? = some r.2.2[i.toNat] := List.getElem?_eq_getElem hin
        have h9 := hc4 i.toNat _ e9
        rw [show ((i.toNat : Nat) : Int) = i by omega] at h9
        rw [f22 1 (by decide), h9, List.getD_eq_getElem?_getD, e9]
        rfl
    · refine j_iconst dX7_setGenerator_19 ?_
      refine j_iret dX7_setGenerator_20 rfl ?_
      refine ⟨_, rfl, Or.inl ⟨?_, rfl, rfl⟩⟩
      first
      | (rcases q2 with q | q
         · omega
         · exact fun h => q.2 h.1)
      | (rcases q13 with q | q
         · omega
         · exact fun h => q.2 h.2)
theorem l_rm {i : Int} {Q : Option PV → Mem → Prop} (m : Nat) : ∀ (k s : Int) (M : Mem), M 1 2 = s → s ≤ 3 → 0 ≤ k → k ≤ s → s - k < m → (∀ (M1 : Mem) (w : Option PV), fr [1] M M1 → (∀ j : Int, M1 1 j = if 3 + k ≤ j ∧ j < 3 + s then M 1 (j + 1) else M 1 j) → J SHM mi_X7_removeGenerator 60 [some (vR 0), some (vI i), w] [] M1 Q) → J SHM mi_X7_removeGenerator 26 [some (vR 0), some (vI i), some (vI k)] [] M Q := by
  induction m with
  | zero => intro k s M hs h3 h0 h1 h2; omega
  | succ m ih =>
  intro k s M hs h3 h0 h1 h2 K
  refine j_iload_n dX7_removeGenerator_26 rfl ?_
  refine j_aload_n dX7_removeGenerator_27 rfl ?_
  refine j_getR dX7_removeGenerator_28 f_X7_7 rfl rfl ?_
  refine j_iconst dX7_removeGenerator_31 ?_
  refine j_iald dX7_removeGenerator_32 (by first | rfl | assumption) (by decide) (by omega) (by omega) ?_
  refine j_icmp_ge 60 dX7_removeGenerator_33 rfl (by unfold inR; omega) (by unfold inR; omega) (fun c33 => ?_) (fun c33 => ?_)
  · have hk : k = s := by omega
    subst hk
    exact K M _ fr.rf (fun j => by rw [if_neg (by omega)])
  · refine j_aload_n dX7_removeGenerator_36 rfl ?_
    refine j_getR dX7_removeGenerator_37 f_X7_7 rfl rfl ?_
    refine j_iconst dX7_removeGenerator_40 ?_
    refine j_iload_n dX7_removeGenerator_41 rfl ?_
    refine j_iadd dX7_removeGenerator_42 ?_
    refine j_aload_n dX7_removeGenerator_43 rfl ?_
    refine j_getR dX7_removeGenerator_44 f_X7_7 rfl rfl ?_
    refine j_iconst dX7_removeGenerator_47 ?_
    refine j_iload_n dX7_removeGenerator_48 rfl ?_
    refine j_iadd dX7_removeGenerator_49 ?_
    refine j_iconst dX7_removeGenerator_50 ?_
    refine j_iadd dX7_removeGenerator_51 ?_
    refine j_iald dX7_removeGenerator_52 (by first | rfl | assumption) (by decide) (by omega) (by omega) ?_
    refine j_iast dX7_removeGenerator_53 (by first | rfl | assumption) (by decide) (by omega) (by omega) ?_
    refine j_iinc dX7_removeGenerator_54 rfl (by decide) (nol rfl) (by simp only [List.set_cons_zero, List.set_cons_succ]; rfl) ?_
    refine j_goto 26 dX7_removeGenerator_57 rfl ?_
    refine ih (k + 1) s (wr M 1 (3 + k) (M 1 (3 + k + 1))) (by rw [wr_ne _ _ (by omega)]; exact hs) h3 (by omega) (by omega) (by omega) (fun M1 w f1 g1 => K M1 w ((fr.rf.w1 (by decide)).tr f1) (fun j => ?_))
    rw [g1 j]
    by_cases e : j = 3 + k
    · rw [e, if_neg (by omega), if_pos (by omega), wr_self]
    · by_cases e2 : 3 + k ≤ j ∧ j < 3 + s
      · rw [if_pos (by omega), if_pos e2, wr_ne _ _ (by omega)]
      · rw [if_neg (by omega), if_neg e2, wr_ne _ _ (by omega)]
theorem e_X7_removeGenerator {M : Mem} {r : Row} {hs : List Row} (hI : MS M r hs) {i : Int} (hi : inR i) : J SHM mi_X7_removeGenerator 0 (ent [vR 0, vI i] 3) [] M (pz (fun z M1 => (¬ (0 ≤ i ∧ i < r.2.2.length) ∧ z = -1 ∧ M1 = M) ∨ ((0 ≤ i ∧ i < r.2.2.length) ∧ z = (GL (r.1, r.2.1, r.2.2.eraseIdx i.toNat)).length ∧ MS M1 (r.1, r.2.1, r.2.2.eraseIdx i.toNat) (push4 hs r)))) := by
  obtain ⟨hc, ho, hh, hq, hl, hd⟩ := id hI
  have hL := LaM_of hc ho
  have hg := GM_of hc ho
  obtain ⟨hP, es, hB, hnd, hes⟩ := id hd
  obtain ⟨hc1, hc2, hc3, hc4⟩ := id hc
  have ho4 := ho.2.2.2.1
  show J SHM mi_X7_removeGenerator 0 [some (vR 0), some (vI i), none] [] M _
  refine j_aload_n dX7_removeGenerator_0 rfl ?_
  refine j_iload_n dX7_removeGenerator_1 rfl ?_
  refine j_V1z dX7_removeGenerator_2 ok_X7_isGenerator v_X7_114 c_X7_isGenerator rfl (e_X7_isGenerator hI hi) (fun z2 M2 q2 => ?_)
  obtain ⟨rfl, q2⟩ := q2
  refine j_if_ne 10 dX7_removeGenerator_5 rfl (by unfold inR; omega) (fun c5 => ?_) (fun c5 => ?_)
  · refine j_aload_n dX7_removeGenerator_10 rfl ?_
    refine j_V0v dX7_removeGenerator_11 ok_X7_save v_X7_108 c_X7_save rfl (e_X7_save hc ho hh hq hl) (fun M11 q11 => ?_)
    obtain ⟨f11, z11, g11⟩ := q11
    refine j_aload_n dX7_removeGenerator_14 rfl ?_
    refine j_getR dX7_removeGenerator_15 f_X7_7 rfl rfl ?_
    refine j_iconst dX7_removeGenerator_18 ?_
    refine j_dup2 dX7_removeGenerator_19 (fun _ h => by cases h) (fun _ h => by cases h) ?_
    refine j_iald dX7_removeGenerator_20 (by first | rfl | assumption) (by decide) (by first | omega | (rw [f11 1 (by decide), hc3]; omega)) (by first | omega | (rw [f11 1 (by decide), hc3]; omega)) ?_
    refine j_iconst dX7_removeGenerator_21 ?_
    refine j_isub dX7_removeGenerator_22 ?_
    refine j_iast dX7_removeGenerator_23 (by first | rfl | assumption) (by decide) (by first | omega | (rw [f11 1 (by decide), hc3]; omega)) (by first | omega | (rw [f11 1 (by decide), hc3]; omega)) ?_
    refine j_iload_n dX7_removeGenerator_24 rfl ?_
    refine j_istore_n dX7_removeGenerator_25 (by decide) (nol rfl) (by show List.set _ 2 _ = _; simp only [List.set_cons_zero, List.set_cons_succ]; rfl) ?_
    have e1 := f11 1 (by decide)
    have hib : 0 ≤ i ∧ i < r.2.2.length := by
      rcases q2 with q | q
      · exact q.2
      · omega
    refine l_rm (i := i) 5 i (r.2.2.length - 1) (wr M11 1 2 (M11 1 2 - 1)) (by rw [wr_self, e1, hc3]) (by omega) (by omega) (by omega) (by omega) (fun A w fA gA => ?_)
    refine j_aload_n dX7_removeGenerator_60 rfl ?_
    have hin : i.toNat < r.2.2.length := by omega
    have hel : (r.2.2.eraseIdx i.toNat).length = r.2.2.length - 1 := List.length_eraseIdx_of_lt hin
    have gB : ∀ j : Int, A 1 j = if 3 + i ≤ j ∧ j < 3 + (r.2.2.length - 1) then M 1 (j + 1) else if j = 2 then M 1 2 - 1 else M 1 j := fun j => by
      rw [gA j]
      by_cases e : 3 + i ≤ j ∧ j < 3 + ((r.2.2.length : Int) - 1)
      · rw [if_pos e, if_pos e, wr_ne _ _ (by omega), e1]
      · rw [if_neg e, if_neg e]
        by_cases e2 : j = 2
        · rw [e2, wr_self, if_pos rfl, e1]
        · rw [wr_ne _ _ (fun z => e2 z.2), if_neg e2, e1]
    have o57 : okR (r.1, r.2.1, r.2.2.eraseIdx i.toNat) := ⟨ho.1, ho.2.1, ho.2.2.1, by show (r.2.2.eraseIdx i.toNat).length ≤ 4; omega, fun x hx => ho.2.2.2.2 x (List.mem_of_mem_eraseIdx hx)⟩
    have c57 : CurM A (r.1, r.2.1, r.2.2.eraseIdx i.toNat) := by
      refine ⟨by rw [gB, if_neg (by omega), if_neg (by omega)]; exact hc1, by rw [gB, if_neg (by omega), if_neg (by omega)]; exact hc2, ?_, fun j x hx => ?_⟩
      · show A 1 2 = ((r.2.2.eraseIdx i.toNat).length : Int)
        rw [gB, if_neg (by omega), if_pos rfl, hc3, hel]; omega
      · rw [show ((r.1, r.2.1, r.2.2.eraseIdx i.toNat).2.2)[j]? = (r.2.2.eraseIdx i.toNat)[j]? from rfl, erase_get hin] at hx
        by_cases q : j < i.toNat
        · rw [if_pos q] at hx
          rw [gB, if_neg (by omega), if_neg (by omega)]
          exact hc4 j x hx
        · rw [if_neg q] at hx
          have hl9 := (List.getElem?_eq_some_iff.mp hx).1
          rw [gB, if_pos (by omega), show (3 : Int) + j + 1 = 3 + ((j + 1 : Nat) : Int) by omega]
          exact hc4 (j + 1) x hx
    refine j_V0v dX7_removeGenerator_61 ok_X7_derive v_X7_29 c_X7_derive rfl (e_X7_derive (LaM_of c57 o57) (GM_of c57 o57)) (fun M61 q61 => ?_)
    obtain ⟨f61, z61, P61, g61⟩ := q61
    refine j_aload_n dX7_removeGenerator_64 rfl ?_
    refine j_getI (kz := 8) rfl dX7_removeGenerator_65 f_X7_92 rfl rfl ?_
    refine j_iret dX7_removeGenerator_68 rfl ?_
    have f57 : fr [1] M11 A := (fr.rf.w1 (by decide)).tr fA
    have hMS := MS_edit g11 hq ho hl f57 c57 o57 f61 z61 P61 g61
    exact ⟨_, rfl, Or.inr ⟨hib, DerM_len hMS.2.2.2.2.2, hMS⟩⟩
  · refine j_iconst dX7_removeGenerator_8 ?_
    refine j_iret dX7_removeGenerator_9 rfl ?_
    refine ⟨_, rfl, Or.inl ⟨?_, rfl, rfl⟩⟩
    rcases q2 with q | q
    · omega
    · exact q.2
