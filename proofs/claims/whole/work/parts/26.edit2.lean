/-! class WallpaperGroups: the other edits -/
theorem erase_get {l : List Int} {i : Nat} (hi : i < l.length) (j : Nat) : (l.eraseIdx i)[j]? = if j < i then l[j]? else l[j + 1]? := by
  rw [List.getElem?_eraseIdx]
theorem e_X6_removeGenerator {M : Mem} {r : Row} {hs : List Row} {i : Int} (hI : CI M r hs) (hi : inR i) : J SHC mi_X6_removeGenerator 0 (ent [vR 0, vI i] 2) [] M (pz (fun z M1 => (¬ (0 ≤ i ∧ i < r.2.2.length) ∧ z = -1 ∧ M1 = M) ∨ ((0 ≤ i ∧ i < r.2.2.length) ∧ z = (GL (r.1, r.2.1, r.2.2.eraseIdx i.toNat)).length ∧ CI M1 (r.1, r.2.1, r.2.2.eraseIdx i.toNat) (push4 hs r)))) := by
  obtain ⟨hc, ho, hh, hq, hl, hd⟩ := id hI
  have hL := Lat_of hc ho
  have hg := GV_of hc ho
  obtain ⟨hc1, hc2, hc3, hc4⟩ := id hc
  have hg4 := hg.1
  have ho4 := ho.2.2.2.1
  show J SHC mi_X6_removeGenerator 0 [some (vR 0), some (vI i)] [] M _
  refine j_aload_n dX6_removeGenerator_0 rfl ?_
  refine j_getR dX6_removeGenerator_1 f_X6_19 rfl rfl ?_
  refine j_iload_n dX6_removeGenerator_4 rfl ?_
  refine j_V1z dX6_removeGenerator_5 ok_X2_has v_X6_94 c_X2_has rfl (e_X2_has hg4 hi) (fun z5 M5 q5 => ?_)
  obtain ⟨rfl, q5⟩ := q5
  rw [hc3] at q5
  refine j_if_ne 13 dX6_removeGenerator_8 rfl (by unfold inR; omega) (fun c8 => ?_) (fun c8 => ?_)
  · refine j_aload_n dX6_removeGenerator_13 rfl ?_
    refine j_getR dX6_removeGenerator_14 f_X6_26 rfl rfl ?_
    refine j_aload_n dX6_removeGenerator_17 rfl ?_
    refine j_getR dX6_removeGenerator_18 f_X6_12 rfl rfl ?_
    refine j_aload_n dX6_removeGenerator_21 rfl ?_
    refine j_getR dX6_removeGenerator_22 f_X6_19 rfl rfl ?_
    refine j_V2v dX6_removeGenerator_25 ok_X4_save v_X6_64 c_X4_save rfl (e_X4_save hc ho hh hq hl) (fun M25 q25 => ?_)
    obtain ⟨f25, g25⟩ := q25
    refine j_aload_n dX6_removeGenerator_28 rfl ?_
    refine j_getR dX6_removeGenerator_29 f_X6_19 rfl rfl ?_
    refine j_iload_n dX6_removeGenerator_32 rfl ?_
    refine j_V1v dX6_removeGenerator_33 ok_X2_removeAt v_X6_98 c_X2_removeAt rfl (e_X2_removeAt (by unfold Gen4 at *; rw [f25 2 (by decide)]; exact hg4) (by omega) (by rw [f25 2 (by decide), hc3]; omega)) (fun M33 q33 => ?_)
    obtain ⟨f33, s33, j33⟩ := q33
    have e1 := f25 1 (by decide)
    have e2 := f25 2 (by decide)
    have e3 := f25 3 (by decide)
    rw [e2, hc3] at s33 j33
    rw [e3] at j33
    have hib : 0 ≤ i ∧ i < r.2.2.length := by
      rcases q5 with q | q
      · exact q.2
      · omega
    have hin : i.toNat < r.2.2.length := by omega
    have hel : (r.2.2.eraseIdx i.toNat).length = r.2.2.length - 1 := List.length_eraseIdx_of_lt hin
    have o57 : okR (r.1, r.2.1, r.2.2.eraseIdx i.toNat) := ⟨ho.1, ho.2.1, ho.2.2.1, by show (r.2.2.eraseIdx i.toNat).length ≤ 4; omega, fun x hx => ho.2.2.2.2 x (List.mem_of_mem_eraseIdx hx)⟩
    have f57 : fr [1, 2, 3] M25 M33 := f33.up (by decide)
    have c57 : CurC M33 (r.1, r.2.1, r.2.2.eraseIdx i.toNat) := by
      refine ⟨by rw [f33 1 (by decide), e1]; exact hc1, by rw [f33 1 (by decide), e1]; exact hc2, by show M33 2 1 = ((r.2.2.eraseIdx i.toNat).length : Int); rw [s33, hel]; omega, fun j x hx => ?_⟩
      rw [show ((r.1, r.2.1, r.2.2.eraseIdx i.toNat).2.2)[j]? = (r.2.2.eraseIdx i.toNat)[j]? from rfl, erase_get hin] at hx
      rw [j33]
      by_cases q : j < i.toNat
      · rw [if_pos q] at hx
        rw [if_neg (by omega)]
        exact hc4 j x hx
      · rw [if_neg q] at hx
        have hl := (List.getElem?_eq_some_iff.mp hx).1
        rw [if_pos (by omega)]
        exact hc4 (j + 1) x hx
    refine j_aload_n dX6_removeGenerator_36 rfl ?_
    refine j_V0v dX6_removeGenerator_37 ok_X6_refresh v_X6_57 c_X6_refresh rfl (e_X6_refresh c57 o57) (fun M37 q37 => ?_)
    obtain ⟨f37, g37⟩ := q37
    refine j_aload_n dX6_removeGenerator_40 rfl ?_
    refine j_getR dX6_removeGenerator_41 f_X6_35 rfl rfl ?_
    refine j_V0p dX6_removeGenerator_44 ok_X3_size v_X6_90 c_X3_size rfl (e_X3_size) ?_
    refine j_iret dX6_removeGenerator_47 rfl ?_
    exact ⟨_, rfl, Or.inr ⟨hib, g37.1, CI_edit g25 hq ho hl f57 c57 o57 f37 g37⟩⟩
  · refine j_iconst dX6_removeGenerator_11 ?_
    refine j_iret dX6_removeGenerator_12 rfl ?_
    refine ⟨_, rfl, Or.inl ⟨?_, rfl, rfl⟩⟩
    rcases q5 with q | q
    · omega
    · exact q.2
theorem e_X6_setGenerator {M : Mem} {r : Row} {hs : List Row} {i p u v : Int} (hI : CI M r hs) (hi : inR i) (hp : inR p) (hu : inR u) (hv : inR v) : J SHC mi_X6_setGenerator 0 (ent [vR 0, vI i, vI p, vI u, vI v] 6) [] M (pz (fun z M1 => (¬ ((0 ≤ i ∧ i < r.2.2.length) ∧ (0 ≤ p ∧ p < 2 * tu r.1 ∧ 0 ≤ u ∧ u < r.2.1 ∧ 0 ≤ v ∧ v < r.2.1)) ∧ z = -1 ∧ M1 = M) ∨ (((0 ≤ i ∧ i < r.2.2.length) ∧ (0 ≤ p ∧ p < 2 * tu r.1 ∧ 0 ≤ u ∧ u < r.2.1 ∧ 0 ≤ v ∧ v < r.2.1)) ∧ z = r.2.2.getD i.toNat 0 ∧ CI M1 (r.1, r.2.1, r.2.2.set i.toNat (cod r.2.1 p u v)) (push4 hs r)))) := by
  obtain ⟨hc, ho, hh, hq, hl, hd⟩ := id hI
  have hL := Lat_of hc ho
  have hg := GV_of hc ho
  obtain ⟨hc1, hc2, hc3, hc4⟩ := id hc
  have hg4 := hg.1
  have ho4 := ho.2.2.2.1
  show J SHC mi_X6_setGenerator 0 [some (vR 0), some (vI i), some (vI p), some (vI u), some (vI v), none] [] M _
  refine j_aload_n dX6_setGenerator_0 rfl ?_
  refine j_getR dX6_setGenerator_1 f_X6_19 rfl rfl ?_
  refine j_iload_n dX6_setGenerator_4 rfl ?_
  refine j_V1z dX6_setGenerator_5 ok_X2_has v_X6_94 c_X2_has rfl (e_X2_has hg4 hi) (fun z5 M5 q5 => ?_)
  obtain ⟨rfl, q5⟩ := q5
  rw [hc3] at q5
  refine j_if_eq 25 dX6_setGenerator_8 rfl (by unfold inR; omega) (fun c8 => ?_) (fun c8 => ?_)
  · refine j_iconst dX6_setGenerator_25 ?_
    refine j_iret dX6_setGenerator_26 rfl ?_
    refine ⟨_, rfl, Or.inl ⟨?_, rfl, rfl⟩⟩
    first
    | (rcases q5 with q | q
       · omega
       · exact fun h => q.2 h.1)
    | (rcases q19 with q | q
       · omega
       · exact fun h => q.2 h.2)
  · refine j_aload_n dX6_setGenerator_11 rfl ?_
    refine j_getR dX6_setGenerator_12 f_X6_12 rfl rfl ?_
    refine j_iload_n dX6_setGenerator_15 rfl ?_
    refine j_iload_n dX6_setGenerator_16 rfl ?_
    refine j_iload dX6_setGenerator_17 rfl ?_
    refine j_V3z dX6_setGenerator_19 ok_X5_hasMovement v_X6_74 c_X5_hasMovement rfl (e_X5_hasMovement hL hp hu hv) (fun z19 M19 q19 => ?_)
    obtain ⟨rfl, q19⟩ := q19
    rw [hc1, hc2] at q19
    refine j_if_ne 27 dX6_setGenerator_22 rfl (by unfold inR; omega) (fun c22 => ?_) (fun c22 => ?_)
    · refine j_aload_n dX6_setGenerator_27 rfl ?_
      refine j_getR dX6_setGenerator_28 f_X6_19 rfl rfl ?_
      refine j_iload_n dX6_setGenerator_31 rfl ?_
      refine j_V1p dX6_setGenerator_32 ok_X2_codeAt v_X6_101 c_X2_codeAt rfl (e_X2_codeAt (by omega) (by omega)) ?_
      refine j_istore dX6_setGenerator_35 (by decide) (nol rfl) (by show List.set _ 5 _ = _; simp only [List.set_cons_zero, List.set_cons_succ]; rfl) ?_
      refine j_aload_n dX6_setGenerator_37 rfl ?_
      refine j_getR dX6_setGenerator_38 f_X6_26 rfl rfl ?_
      refine j_aload_n dX6_setGenerator_41 rfl ?_
      refine j_getR dX6_setGenerator_42 f_X6_12 rfl rfl ?_
      refine j_aload_n dX6_setGenerator_45 rfl ?_
      refine j_getR dX6_setGenerator_46 f_X6_19 rfl rfl ?_
      refine j_V2v dX6_setGenerator_49 ok_X4_save v_X6_64 c_X4_save rfl (e_X4_save hc ho hh hq hl) (fun M49 q49 => ?_)
      obtain ⟨f49, g49⟩ := q49
      refine j_aload_n dX6_setGenerator_52 rfl ?_
      refine j_getR dX6_setGenerator_53 f_X6_19 rfl rfl ?_
      refine j_iload_n dX6_setGenerator_56 rfl ?_
      refine j_aload_n dX6_setGenerator_57 rfl ?_
      refine j_getR dX6_setGenerator_58 f_X6_12 rfl rfl ?_
      refine j_iload_n dX6_setGenerator_61 rfl ?_
      refine j_iload_n dX6_setGenerator_62 rfl ?_
      refine j_iload dX6_setGenerator_63 rfl ?_
      refine j_V3p dX6_setGenerator_65 ok_X5_codeOf v_X6_82 c_X5_codeOf rfl (e_X5_codeOf (Lat_fr f49 (by decide) hL)) ?_
      refine j_V2v dX6_setGenerator_68 ok_X2_replace v_X6_105 c_X2_replace rfl (e_X2_replace (by omega) (by omega)) (fun M68 q68 => ?_)
      have e1 := f49 1 (by decide)
      have e2 := f49 2 (by decide)
      have e3 := f49 3 (by decide)
      rw [e1, hc2] at q68
      have hib : 0 ≤ i ∧ i < r.2.2.length := by
        rcases q5 with q | q
        · exact q.2
        · omega
      have hmv : (0 ≤ p ∧ p < 2 * tu r.1 ∧ 0 ≤ u ∧ u < r.2.1 ∧ 0 ≤ v ∧ v < r.2.1) := by
        rcases q19 with q | q
        · exact q.2
        · omega
      have hin : i.toNat < r.2.2.length := by omega
      have o57 : okR (r.1, r.2.1, r.2.2.set i.toNat (cod r.2.1 p u v)) := ⟨ho.1, ho.2.1, ho.2.2.1, by show (r.2.2.set i.toNat (cod r.2.1 p u v)).length ≤ 4; rw [List.length_set]; omega, fun x hx => by
        rcases List.mem_or_eq_of_mem_set hx with z | z
        · exact ho.2.2.2.2 x z
        · rw [z]; exact cod_vc ho.2.1 ⟨hmv.1, hmv.2.1⟩ ⟨hmv.2.2.1, hmv.2.2.2.1⟩ hmv.2.2.2.2⟩
      have f57 : fr [1, 2, 3] M49 M68 := by rw [q68]; exact fr.rf.w1 (by decide)
      have c57 : CurC M68 (r.1, r.2.1, r.2.2.set i.toNat (cod r.2.1 p u v)) := by
        rw [q68]
        refine ⟨by rw [wr_ne _ _ (by omega), e1]; exact hc1, by rw [wr_ne _ _ (by omega), e1]; exact hc2, by rw [wr_ne _ _ (by omega), e2, hc3]; show _ = ((r.2.2.set i.toNat (cod r.2.1 p u v)).length : Int); rw [List.length_set], fun j x hx => ?_⟩
        rw [show ((r.1, r.2.1, r.2.2.set i.toNat (cod r.2.1 p u v)).2.2)[j]? = (r.2.2.set i.toNat (cod r.2.1 p u v))[j]? from rfl] at hx
        by_cases q : j = i.toNat
        · subst q
          rw [List.getElem?_set_self hin] at hx
          cases hx
          rw [show ((i.toNat : Nat) : Int) = i by omega, wr_self]
          rfl
        · rw [List.getElem?_set_ne (Ne.symm q)] at hx
          rw [wr_ne _ _ (by omega), e3]
          exact hc4 j x hx
      refine j_aload_n dX6_setGenerator_71 rfl ?_
      refine j_V0v dX6_setGenerator_72 ok_X6_refresh v_X6_57 c_X6_refresh rfl (e_X6_refresh c57 o57) (fun M72 q72 => ?_)
      obtain ⟨f72, g72⟩ := q72
      refine j_iload dX6_setGenerator_75 rfl ?_
      refine j_iret dX6_setGenerator_77 rfl ?_
      refine ⟨_, rfl, Or.inr ⟨⟨hib, hmv⟩, ?_, CI_edit g49 hq ho hl f57 c57 o57 f72 g72⟩⟩
      have e9 : r.2.2[i.toNat]? = some r.2.2[i.toNat] := List.getElem?_eq_getElem hin
      have h9 := hc4 i.toNat _ e9
      rw [show ((i.toNat : Nat) : Int) = i by omega] at h9
      rw [h9, List.getD_eq_getElem?_getD, e9]
      rfl
    · refine j_iconst dX6_setGenerator_25 ?_
      refine j_iret dX6_setGenerator_26 rfl ?_
      refine ⟨_, rfl, Or.inl ⟨?_, rfl, rfl⟩⟩
      first
      | (rcases q5 with q | q
         · omega
         · exact fun h => q.2 h.1)
      | (rcases q19 with q | q
         · omega
         · exact fun h => q.2 h.2)
theorem e_X6_undo {M : Mem} {r : Row} {hs : List Row} (hI : CI M r hs) : J SHC mi_X6_undo 0 (ent [vR 0] 1) [] M (pz (fun z M1 => (hs = [] ∧ z = -3 ∧ M1 = M) ∨ ∃ hs' q, hs = hs' ++ [q] ∧ z = hs'.length ∧ CI M1 q hs')) := by
  obtain ⟨hc, ho, hh, hq, hl, hd⟩ := id hI
  have hL := Lat_of hc ho
  have hg := GV_of hc ho
  obtain ⟨hc1, hc2, hc3, hc4⟩ := id hc
  have hg4 := hg.1
  have ho4 := ho.2.2.2.1
  obtain ⟨hh1, hh2⟩ := id hh
  have hD : Dep M := ⟨by omega, by omega⟩
  show J SHC mi_X6_undo 0 [some (vR 0)] [] M _
  refine j_aload_n dX6_undo_0 rfl ?_
  refine j_getR dX6_undo_1 f_X6_26 rfl rfl ?_
  refine j_V0z dX6_undo_4 ok_X4_isEmpty v_X6_108 c_X4_isEmpty rfl (e_X4_isEmpty hD) (fun z4 M4 q4 => ?_)
  obtain ⟨rfl, q4⟩ := q4
  rw [hh1] at q4
  refine j_if_eq 13 dX6_undo_7 rfl (by unfold inR; omega) (fun c7 => ?_) (fun c7 => ?_)
  · refine j_aload_n dX6_undo_13 rfl ?_
    refine j_getR dX6_undo_14 f_X6_26 rfl rfl ?_
    refine j_aload_n dX6_undo_17 rfl ?_
    refine j_getR dX6_undo_18 f_X6_12 rfl rfl ?_
    refine j_aload_n dX6_undo_21 rfl ?_
    refine j_getR dX6_undo_22 f_X6_19 rfl rfl ?_
    refine j_V2v dX6_undo_25 ok_X4_restore v_X6_111 c_X4_restore rfl (e_X4_restore hD (by rw [hh1]; omega)) (fun M25 q25 => ?_)
    obtain ⟨f25, s25, a25, b25, c25, d25⟩ := q25
    have hne : hs ≠ [] := by
      intro h
      rw [h] at q4
      simp at q4
      omega
    obtain ⟨hs', q, rfl⟩ : ∃ hs' q, hs = hs' ++ [q] := ⟨hs.dropLast, hs.getLast hne, (List.dropLast_concat_getLast hne).symm⟩
    have hlen : (hs' ++ [q]).length = hs'.length + 1 := by simp
    have en : (M 4 1 - 1).toNat = hs'.length := by rw [hh1, hlen]; omega
    have hrow := hh2 hs'.length q (by simp)
    have hoq : okR q := hq q (by simp)
    rw [en] at a25 b25 c25 d25
    obtain ⟨w1, w2, w3, w4⟩ := hrow
    have c57 : CurC M25 q := ⟨a25.trans w1, b25.trans w2, c25.trans w3, fun j x hx => by
      have hl9 := (List.getElem?_eq_some_iff.mp hx).1
      have h4 := hoq.2.2.2.1
      rw [d25 j (by omega) (by omega)]
      exact w4 j x hx⟩
    refine j_aload_n dX6_undo_28 rfl ?_
    refine j_V0v dX6_undo_29 ok_X6_refresh v_X6_57 c_X6_refresh rfl (e_X6_refresh c57 hoq) (fun M29 q29 => ?_)
    obtain ⟨f29, g29⟩ := q29
    refine j_aload_n dX6_undo_32 rfl ?_
    refine j_getR dX6_undo_33 f_X6_26 rfl rfl ?_
    refine j_getI (kz := 1) rfl dX6_undo_36 f_X6_114 rfl rfl ?_
    refine j_iret dX6_undo_39 rfl ?_
    have e4 : M29 4 1 = hs'.length := by rw [f29 4 (by decide), s25, hh1, hlen]; omega
    refine ⟨_, rfl, Or.inr ⟨hs', q, rfl, e4, CurC_fr f29 (by decide) (by decide) (by decide) c57, hoq, ⟨e4, fun i r' hi => ?_⟩, fun x hx => hq x (by simp [hx]), by rw [hlen] at hl; omega, g29⟩⟩
    have hi4 := (List.getElem?_eq_some_iff.mp hi).1
    have h9 := hh2 i r' (by rw [List.getElem?_append_left hi4]; exact hi)
    unfold RowC at h9 ⊢
    rw [hlen] at hl
    rw [f29 (6 + i) (notR i (by omega)), f25 (6 + i) (by simp; omega)]
    exact h9
  · refine j_bipush dX6_undo_10 (by decide +kernel) ?_
    refine j_iret dX6_undo_12 rfl ?_
    refine ⟨_, rfl, Or.inl ⟨?_, rfl, rfl⟩⟩
    rcases q4 with q | q
    · exact List.length_eq_zero_iff.mp (by omega)
    · omega
