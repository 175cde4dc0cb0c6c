/-! class Features: the type; class Cells: what is asked of it -/
def FH (M : Mem) : Prop := Lat M ∧ M01 11 300 M ∧ M01 16 12 M ∧ M01 17 12 M ∧ ∀ p : Int, 0 ≤ p → p < 12 → M 17 p = 1 → p < 2 * tu (M 1 0)
def TY1 (M : Mem) (d z : Int) : Prop := (¬ Rev M ∧ z = 0) ∨ (Rev M ∧ d = 0 ∧ z = 1) ∨ (Rev M ∧ ¬ d = 0 ∧ Cen M ∧ z = 2) ∨ (Rev M ∧ ¬ d = 0 ∧ ¬ Cen M ∧ z = 3)
def TY2 (M : Mem) (d z : Int) : Prop := (¬ Rev M ∧ z = 4) ∨ (Rev M ∧ d = 0 ∧ z = 5) ∨ (Rev M ∧ d = 1 ∧ z = 6) ∨ (Rev M ∧ ¬ d = 0 ∧ ¬ d = 1 ∧ Cen M ∧ z = 7) ∨ (Rev M ∧ ¬ d = 0 ∧ ¬ d = 1 ∧ ¬ Cen M ∧ z = 8)
def TY3 (M : Mem) (z : Int) : Prop := (¬ Rev M ∧ z = 9) ∨ (Rev M ∧ ∃ ls, Lea M ls ∧ ((FSh M ls ∧ z = 10) ∨ (¬ FSh M ls ∧ z = 11)))
def TY4 (M : Mem) (d z : Int) : Prop := (¬ Rev M ∧ z = 12) ∨ (Rev M ∧ d < 4 ∧ z = 13) ∨ (Rev M ∧ 4 ≤ d ∧ z = 14)
def TY6 (M : Mem) (z : Int) : Prop := (¬ Rev M ∧ z = 15) ∨ (Rev M ∧ z = 16)
def TY (M : Mem) (t d z : Int) : Prop := (t = 1 ∧ TY1 M d z) ∨ (t = 2 ∧ TY2 M d z) ∨ (t = 3 ∧ TY3 M z) ∨ (t = 4 ∧ TY4 M d z) ∨ (5 ≤ t ∧ TY6 M z)

theorem e_X1_typeWithoutTurns {M : Mem} {d c : Int} (hF : FH M) (hd : 0 ≤ d ∧ d ≤ 12) (hc : (c = 1 ∧ Cen M) ∨ (c = 0 ∧ ¬ Cen M)) : J SHC mi_X1_typeWithoutTurns 0 (ent [vR 15, vI d, vI c] 3) [] M (pz (fun z M1 => M = M1 ∧ TY1 M d z)) := by
  obtain ⟨hL, hm, h16, h17, hmi⟩ := id hF
  show J SHC mi_X1_typeWithoutTurns 0 [some (vR 15), some (vI d), some (vI c)] [] M _
  refine j_aload_n dX1_typeWithoutTurns_0 rfl ?_
  refine j_V0z dX1_typeWithoutTurns_1 ok_X1_hasReversal v_X1_127 c_X1_hasReversal rfl (e_X1_hasReversal hL h16) (fun z1 M1 q1 => ?_)
  obtain ⟨rfl, q1⟩ := q1
  refine j_if_ne 9 dX1_typeWithoutTurns_4 rfl (by unfold inR; omega) (fun c4 => ?_) (fun c4 => ?_)
  · refine j_iload_n dX1_typeWithoutTurns_9 rfl ?_
    refine j_if_ne 15 dX1_typeWithoutTurns_10 rfl (by unfold inR; omega) (fun c10 => ?_) (fun c10 => ?_)
    · refine j_iload_n dX1_typeWithoutTurns_15 rfl ?_
      refine j_if_eq 23 dX1_typeWithoutTurns_16 rfl (by unfold inR; omega) (fun c16 => ?_) (fun c16 => ?_)
      · refine j_iconst dX1_typeWithoutTurns_23 ?_
        refine j_iret dX1_typeWithoutTurns_24 rfl ?_
        refine ⟨_, rfl, rfl, ?_⟩
        unfold TY1
        by_cases hR : Rev M <;> by_cases hC : Cen M <;> simp only [hR, hC, not_true_eq_false, not_false_eq_true, true_and, false_and, and_true, and_false, true_or, or_true, false_or, or_false] at * <;> omega
      · refine j_iconst dX1_typeWithoutTurns_19 ?_
        refine j_goto 24 dX1_typeWithoutTurns_20 rfl ?_
        refine j_iret dX1_typeWithoutTurns_24 rfl ?_
        refine ⟨_, rfl, rfl, ?_⟩
        unfold TY1
        by_cases hR : Rev M <;> by_cases hC : Cen M <;> simp only [hR, hC, not_true_eq_false, not_false_eq_true, true_and, false_and, and_true, and_false, true_or, or_true, false_or, or_false] at * <;> omega
    · refine j_iconst dX1_typeWithoutTurns_13 ?_
      refine j_iret dX1_typeWithoutTurns_14 rfl ?_
      refine ⟨_, rfl, rfl, ?_⟩
      unfold TY1
      by_cases hR : Rev M <;> by_cases hC : Cen M <;> simp only [hR, hC, not_true_eq_false, not_false_eq_true, true_and, false_and, and_true, and_false, true_or, or_true, false_or, or_false] at * <;> omega
  · refine j_iconst dX1_typeWithoutTurns_7 ?_
    refine j_iret dX1_typeWithoutTurns_8 rfl ?_
    refine ⟨_, rfl, rfl, ?_⟩
    unfold TY1
    by_cases hR : Rev M <;> by_cases hC : Cen M <;> simp only [hR, hC, not_true_eq_false, not_false_eq_true, true_and, false_and, and_true, and_false, true_or, or_true, false_or, or_false] at * <;> omega
theorem e_X1_typeWithHalfTurns {M : Mem} {d c : Int} (hF : FH M) (hd : 0 ≤ d ∧ d ≤ 12) (hc : (c = 1 ∧ Cen M) ∨ (c = 0 ∧ ¬ Cen M)) : J SHC mi_X1_typeWithHalfTurns 0 (ent [vR 15, vI d, vI c] 3) [] M (pz (fun z M1 => M = M1 ∧ TY2 M d z)) := by
  obtain ⟨hL, hm, h16, h17, hmi⟩ := id hF
  show J SHC mi_X1_typeWithHalfTurns 0 [some (vR 15), some (vI d), some (vI c)] [] M _
  refine j_aload_n dX1_typeWithHalfTurns_0 rfl ?_
  refine j_V0z dX1_typeWithHalfTurns_1 ok_X1_hasReversal v_X1_127 c_X1_hasReversal rfl (e_X1_hasReversal hL h16) (fun z1 M1 q1 => ?_)
  obtain ⟨rfl, q1⟩ := q1
  refine j_if_ne 9 dX1_typeWithHalfTurns_4 rfl (by unfold inR; omega) (fun c4 => ?_) (fun c4 => ?_)
  · refine j_iload_n dX1_typeWithHalfTurns_9 rfl ?_
    refine j_if_ne 15 dX1_typeWithHalfTurns_10 rfl (by unfold inR; omega) (fun c10 => ?_) (fun c10 => ?_)
    · refine j_iload_n dX1_typeWithHalfTurns_15 rfl ?_
      refine j_iconst dX1_typeWithHalfTurns_16 ?_
      refine j_icmp_ne 23 dX1_typeWithHalfTurns_17 rfl (by unfold inR; omega) (by unfold inR; omega) (fun c17 => ?_) (fun c17 => ?_)
      · refine j_iload_n dX1_typeWithHalfTurns_23 rfl ?_
        refine j_if_eq 32 dX1_typeWithHalfTurns_24 rfl (by unfold inR; omega) (fun c24 => ?_) (fun c24 => ?_)
        · refine j_bipush dX1_typeWithHalfTurns_32 (by decide +kernel) ?_
          refine j_iret dX1_typeWithHalfTurns_34 rfl ?_
          refine ⟨_, rfl, rfl, ?_⟩
          unfold TY2
          by_cases hR : Rev M <;> by_cases hC : Cen M <;> simp only [hR, hC, not_true_eq_false, not_false_eq_true, true_and, false_and, and_true, and_false, true_or, or_true, false_or, or_false] at * <;> omega
        · refine j_bipush dX1_typeWithHalfTurns_27 (by decide +kernel) ?_
          refine j_goto 34 dX1_typeWithHalfTurns_29 rfl ?_
          refine j_iret dX1_typeWithHalfTurns_34 rfl ?_
          refine ⟨_, rfl, rfl, ?_⟩
          unfold TY2
          by_cases hR : Rev M <;> by_cases hC : Cen M <;> simp only [hR, hC, not_true_eq_false, not_false_eq_true, true_and, false_and, and_true, and_false, true_or, or_true, false_or, or_false] at * <;> omega
      · refine j_bipush dX1_typeWithHalfTurns_20 (by decide +kernel) ?_
        refine j_iret dX1_typeWithHalfTurns_22 rfl ?_
        refine ⟨_, rfl, rfl, ?_⟩
        unfold TY2
        by_cases hR : Rev M <;> by_cases hC : Cen M <;> simp only [hR, hC, not_true_eq_false, not_false_eq_true, true_and, false_and, and_true, and_false, true_or, or_true, false_or, or_false] at * <;> omega
    · refine j_iconst dX1_typeWithHalfTurns_13 ?_
      refine j_iret dX1_typeWithHalfTurns_14 rfl ?_
      refine ⟨_, rfl, rfl, ?_⟩
      unfold TY2
      by_cases hR : Rev M <;> by_cases hC : Cen M <;> simp only [hR, hC, not_true_eq_false, not_false_eq_true, true_and, false_and, and_true, and_false, true_or, or_true, false_or, or_false] at * <;> omega
  · refine j_iconst dX1_typeWithHalfTurns_7 ?_
    refine j_iret dX1_typeWithHalfTurns_8 rfl ?_
    refine ⟨_, rfl, rfl, ?_⟩
    unfold TY2
    by_cases hR : Rev M <;> by_cases hC : Cen M <;> simp only [hR, hC, not_true_eq_false, not_false_eq_true, true_and, false_and, and_true, and_false, true_or, or_true, false_or, or_false] at * <;> omega
theorem e_X1_typeWithThirdTurns {M : Mem} (hF : FH M) : J SHC mi_X1_typeWithThirdTurns 0 (ent [vR 15] 1) [] M (pz (fun z M1 => M = M1 ∧ TY3 M z)) := by
  obtain ⟨hL, hm, h16, h17, hmi⟩ := id hF
  show J SHC mi_X1_typeWithThirdTurns 0 [some (vR 15)] [] M _
  refine j_aload_n dX1_typeWithThirdTurns_0 rfl ?_
  refine j_V0z dX1_typeWithThirdTurns_1 ok_X1_hasReversal v_X1_127 c_X1_hasReversal rfl (e_X1_hasReversal hL h16) (fun z1 M1 q1 => ?_)
  obtain ⟨rfl, q1⟩ := q1
  refine j_if_ne 10 dX1_typeWithThirdTurns_4 rfl (by unfold inR; omega) (fun c4 => ?_) (fun c4 => ?_)
  · refine j_aload_n dX1_typeWithThirdTurns_10 rfl ?_
    refine j_V0z dX1_typeWithThirdTurns_11 ok_X1_fixesShortestVector v_X1_130 c_X1_fixesShortestVector rfl (e_X1_fixesShortestVector hL hm h16) (fun z11 M11 q11 => ?_)
    obtain ⟨rfl, ls11, l11, q11⟩ := q11
    refine j_if_eq 22 dX1_typeWithThirdTurns_14 rfl (by unfold inR; omega) (fun c14 => ?_) (fun c14 => ?_)
    · refine j_bipush dX1_typeWithThirdTurns_22 (by decide +kernel) ?_
      refine j_iret dX1_typeWithThirdTurns_24 rfl ?_
      refine ⟨_, rfl, rfl, ?_⟩
      first
      | (left; rcases q1 with q | q
         · omega
         · exact ⟨q.2, rfl⟩)
      | (right; rcases q1 with q | q
         · refine ⟨q.2, ls11, l11, ?_⟩
           rcases q11 with r | r
           · exact Or.inl ⟨r.2, by omega⟩
           · exact Or.inr ⟨r.2, by omega⟩
         · omega)
    · refine j_bipush dX1_typeWithThirdTurns_17 (by decide +kernel) ?_
      refine j_goto 24 dX1_typeWithThirdTurns_19 rfl ?_
      refine j_iret dX1_typeWithThirdTurns_24 rfl ?_
      refine ⟨_, rfl, rfl, ?_⟩
      first
      | (left; rcases q1 with q | q
         · omega
         · exact ⟨q.2, rfl⟩)
      | (right; rcases q1 with q | q
         · refine ⟨q.2, ls11, l11, ?_⟩
           rcases q11 with r | r
           · exact Or.inl ⟨r.2, by omega⟩
           · exact Or.inr ⟨r.2, by omega⟩
         · omega)
  · refine j_bipush dX1_typeWithThirdTurns_7 (by decide +kernel) ?_
    refine j_iret dX1_typeWithThirdTurns_9 rfl ?_
    refine ⟨_, rfl, rfl, ?_⟩
    first
    | (left; rcases q1 with q | q
       · omega
       · exact ⟨q.2, rfl⟩)
    | (right; rcases q1 with q | q
       · refine ⟨q.2, ls11, l11, ?_⟩
         rcases q11 with r | r
         · exact Or.inl ⟨r.2, by omega⟩
         · exact Or.inr ⟨r.2, by omega⟩
       · omega)
theorem e_X1_typeWithQuarterTurns {M : Mem} {d : Int} (hF : FH M) (hd : 0 ≤ d ∧ d ≤ 12) : J SHC mi_X1_typeWithQuarterTurns 0 (ent [vR 15, vI d] 2) [] M (pz (fun z M1 => M = M1 ∧ TY4 M d z)) := by
  obtain ⟨hL, hm, h16, h17, hmi⟩ := id hF
  show J SHC mi_X1_typeWithQuarterTurns 0 [some (vR 15), some (vI d)] [] M _
  refine j_aload_n dX1_typeWithQuarterTurns_0 rfl ?_
  refine j_V0z dX1_typeWithQuarterTurns_1 ok_X1_hasReversal v_X1_127 c_X1_hasReversal rfl (e_X1_hasReversal hL h16) (fun z1 M1 q1 => ?_)
  obtain ⟨rfl, q1⟩ := q1
  refine j_if_ne 10 dX1_typeWithQuarterTurns_4 rfl (by unfold inR; omega) (fun c4 => ?_) (fun c4 => ?_)
  · refine j_iload_n dX1_typeWithQuarterTurns_10 rfl ?_
    refine j_iconst dX1_typeWithQuarterTurns_11 ?_
    refine j_icmp_ge 20 dX1_typeWithQuarterTurns_12 rfl (by unfold inR; omega) (by unfold inR; omega) (fun c12 => ?_) (fun c12 => ?_)
    · refine j_bipush dX1_typeWithQuarterTurns_20 (by decide +kernel) ?_
      refine j_iret dX1_typeWithQuarterTurns_22 rfl ?_
      refine ⟨_, rfl, rfl, ?_⟩
      unfold TY4
      by_cases hR : Rev M <;> simp only [hR, not_true_eq_false, not_false_eq_true, true_and, false_and, and_true, and_false, true_or, or_true, false_or, or_false] at * <;> omega
    · refine j_bipush dX1_typeWithQuarterTurns_15 (by decide +kernel) ?_
      refine j_goto 22 dX1_typeWithQuarterTurns_17 rfl ?_
      refine j_iret dX1_typeWithQuarterTurns_22 rfl ?_
      refine ⟨_, rfl, rfl, ?_⟩
      unfold TY4
      by_cases hR : Rev M <;> simp only [hR, not_true_eq_false, not_false_eq_true, true_and, false_and, and_true, and_false, true_or, or_true, false_or, or_false] at * <;> omega
  · refine j_bipush dX1_typeWithQuarterTurns_7 (by decide +kernel) ?_
    refine j_iret dX1_typeWithQuarterTurns_9 rfl ?_
    refine ⟨_, rfl, rfl, ?_⟩
    unfold TY4
    by_cases hR : Rev M <;> simp only [hR, not_true_eq_false, not_false_eq_true, true_and, false_and, and_true, and_false, true_or, or_true, false_or, or_false] at * <;> omega
theorem l_tn44 {M : Mem} {c : Int} (hF : FH M) (hd : 0 ≤ cntTo (M 17) 12 ∧ cntTo (M 17) 12 ≤ 12) (hc : (c = 1 ∧ Cen M) ∨ (c = 0 ∧ ¬ Cen M)) (hg : gtf (M 16) (M 1 0) (tu (M 1 0)).toNat = 1) : J SHC mi_X1_typeNumber 44 [some (vR 15), some (vI (cntTo (M 17) 12)), some (vI c)] [] M (pz (fun z M1 => M = M1 ∧ TY M (gtf (M 16) (M 1 0) (tu (M 1 0)).toNat) (cntTo (M 17) 12) z)) := by
  refine j_aload_n dX1_typeNumber_44 rfl ?_
  refine j_iload_n dX1_typeNumber_45 rfl ?_
  refine j_iload_n dX1_typeNumber_46 rfl ?_
  refine j_V2z dX1_typeNumber_47 ok_X1_typeWithoutTurns v_X1_114 c_X1_typeWithoutTurns rfl (e_X1_typeWithoutTurns hF hd hc) (fun z47 M47 q47 => ?_)
  obtain ⟨rfl, q47⟩ := q47
  refine j_iret dX1_typeNumber_50 rfl ?_
  exact ⟨_, rfl, rfl, Or.inl ⟨hg, q47⟩⟩
theorem l_tn51 {M : Mem} {c : Int} (hF : FH M) (hd : 0 ≤ cntTo (M 17) 12 ∧ cntTo (M 17) 12 ≤ 12) (hc : (c = 1 ∧ Cen M) ∨ (c = 0 ∧ ¬ Cen M)) (hg : gtf (M 16) (M 1 0) (tu (M 1 0)).toNat = 2) : J SHC mi_X1_typeNumber 51 [some (vR 15), some (vI (cntTo (M 17) 12)), some (vI c)] [] M (pz (fun z M1 => M = M1 ∧ TY M (gtf (M 16) (M 1 0) (tu (M 1 0)).toNat) (cntTo (M 17) 12) z)) := by
  refine j_aload_n dX1_typeNumber_51 rfl ?_
  refine j_iload_n dX1_typeNumber_52 rfl ?_
  refine j_iload_n dX1_typeNumber_53 rfl ?_
  refine j_V2z dX1_typeNumber_54 ok_X1_typeWithHalfTurns v_X1_118 c_X1_typeWithHalfTurns rfl (e_X1_typeWithHalfTurns hF hd hc) (fun z54 M54 q54 => ?_)
  obtain ⟨rfl, q54⟩ := q54
  refine j_iret dX1_typeNumber_57 rfl ?_
  exact ⟨_, rfl, rfl, Or.inr (Or.inl ⟨hg, q54⟩)⟩
theorem l_tn58 {M : Mem} {c : Int} (hF : FH M) (hd : 0 ≤ cntTo (M 17) 12 ∧ cntTo (M 17) 12 ≤ 12) (hc : (c = 1 ∧ Cen M) ∨ (c = 0 ∧ ¬ Cen M)) (hg : gtf (M 16) (M 1 0) (tu (M 1 0)).toNat = 3) : J SHC mi_X1_typeNumber 58 [some (vR 15), some (vI (cntTo (M 17) 12)), some (vI c)] [] M (pz (fun z M1 => M = M1 ∧ TY M (gtf (M 16) (M 1 0) (tu (M 1 0)).toNat) (cntTo (M 17) 12) z)) := by
  refine j_aload_n dX1_typeNumber_58 rfl ?_
  refine j_V0z dX1_typeNumber_59 ok_X1_typeWithThirdTurns v_X1_121 c_X1_typeWithThirdTurns rfl (e_X1_typeWithThirdTurns hF) (fun z59 M59 q59 => ?_)
  obtain ⟨rfl, q59⟩ := q59
  refine j_iret dX1_typeNumber_62 rfl ?_
  exact ⟨_, rfl, rfl, Or.inr (Or.inr (Or.inl ⟨hg, q59⟩))⟩
theorem l_tn63 {M : Mem} {c : Int} (hF : FH M) (hd : 0 ≤ cntTo (M 17) 12 ∧ cntTo (M 17) 12 ≤ 12) (hc : (c = 1 ∧ Cen M) ∨ (c = 0 ∧ ¬ Cen M)) (hg : gtf (M 16) (M 1 0) (tu (M 1 0)).toNat = 4) : J SHC mi_X1_typeNumber 63 [some (vR 15), some (vI (cntTo (M 17) 12)), some (vI c)] [] M (pz (fun z M1 => M = M1 ∧ TY M (gtf (M 16) (M 1 0) (tu (M 1 0)).toNat) (cntTo (M 17) 12) z)) := by
  refine j_aload_n dX1_typeNumber_63 rfl ?_
  refine j_iload_n dX1_typeNumber_64 rfl ?_
  refine j_V1z dX1_typeNumber_65 ok_X1_typeWithQuarterTurns v_X1_124 c_X1_typeWithQuarterTurns rfl (e_X1_typeWithQuarterTurns hF hd) (fun z65 M65 q65 => ?_)
  obtain ⟨rfl, q65⟩ := q65
  refine j_iret dX1_typeNumber_68 rfl ?_
  exact ⟨_, rfl, rfl, Or.inr (Or.inr (Or.inr (Or.inl ⟨hg, q65⟩)))⟩
theorem l_tn69 {M : Mem} {c : Int} (hF : FH M) (hg : 5 ≤ gtf (M 16) (M 1 0) (tu (M 1 0)).toNat) : J SHC mi_X1_typeNumber 69 [some (vR 15), some (vI (cntTo (M 17) 12)), some (vI c)] [] M (pz (fun z M1 => M = M1 ∧ TY M (gtf (M 16) (M 1 0) (tu (M 1 0)).toNat) (cntTo (M 17) 12) z)) := by
  obtain ⟨hL, hm, h16, h17, hmi⟩ := id hF
  refine j_aload_n dX1_typeNumber_69 rfl ?_
  refine j_V0z dX1_typeNumber_70 ok_X1_hasReversal v_X1_127 c_X1_hasReversal rfl (e_X1_hasReversal hL h16) (fun z70 M70 q70 => ?_)
  obtain ⟨rfl, q70⟩ := q70
  refine j_if_eq 81 dX1_typeNumber_73 rfl (by unfold inR; omega) (fun c73 => ?_) (fun c73 => ?_)
  · refine j_bipush dX1_typeNumber_81 (by decide +kernel) ?_
    refine j_iret dX1_typeNumber_83 rfl ?_
    refine ⟨_, rfl, rfl, Or.inr (Or.inr (Or.inr (Or.inr ⟨hg, ?_⟩)))⟩
    rcases q70 with q | q
    · exact Or.inr ⟨q.2, by omega⟩
    · exact Or.inl ⟨q.2, by omega⟩
  · refine j_bipush dX1_typeNumber_76 (by decide +kernel) ?_
    refine j_goto 83 dX1_typeNumber_78 rfl ?_
    refine j_iret dX1_typeNumber_83 rfl ?_
    refine ⟨_, rfl, rfl, Or.inr (Or.inr (Or.inr (Or.inr ⟨hg, ?_⟩)))⟩
    rcases q70 with q | q
    · exact Or.inr ⟨q.2, by omega⟩
    · exact Or.inl ⟨q.2, by omega⟩
theorem e_X1_typeNumber {M : Mem} (hF : FH M) : J SHC mi_X1_typeNumber 0 (ent [vR 15] 3) [] M (pz (fun z M1 => M = M1 ∧ TY M (gtf (M 16) (M 1 0) (tu (M 1 0)).toNat) (cntTo (M 17) 12) z)) := by
  obtain ⟨hL, hm, h16, h17, hmi⟩ := id hF
  have hgb := gtf_b (f := M 16) hL.1 (tu (M 1 0)).toNat (by have := tu_c hL.1; omega)
  have hd := cntTo_b (M 17) 12
  have hd : 0 ≤ cntTo (M 17) 12 ∧ cntTo (M 17) 12 ≤ 12 := ⟨hd.1, by omega⟩
  show J SHC mi_X1_typeNumber 0 [some (vR 15), none, none] [] M _
  refine j_aload_n dX1_typeNumber_0 rfl ?_
  refine j_V0p dX1_typeNumber_1 ok_X1_countMirrorParts v_X1_104 c_X1_countMirrorParts rfl (e_X1_countMirrorParts h17) ?_
  refine j_istore_n dX1_typeNumber_4 (by decide) (nol rfl) (by show List.set _ 1 _ = _; simp only [List.set_cons_zero, List.set_cons_succ]; rfl) ?_
  refine j_aload_n dX1_typeNumber_5 rfl ?_
  refine j_V0z dX1_typeNumber_6 ok_X1_hasCentering v_X1_107 c_X1_hasCentering rfl (e_X1_hasCentering hL hm h17 hmi) (fun z6 M6 q6 => ?_)
  obtain ⟨rfl, q6⟩ := q6
  refine j_istore_n dX1_typeNumber_9 (by decide) (nol rfl) (by show List.set _ 2 _ = _; simp only [List.set_cons_zero, List.set_cons_succ]; rfl) ?_
  refine j_aload_n dX1_typeNumber_10 rfl ?_
  refine j_V0p dX1_typeNumber_11 ok_X1_greatestTurnOrder v_X1_111 c_X1_greatestTurnOrder rfl (e_X1_greatestTurnOrder hL h16) ?_
  rcases (show gtf (M 16) (M 1 0) (tu (M 1 0)).toNat = 1 ∨ gtf (M 16) (M 1 0) (tu (M 1 0)).toNat = 2 ∨ gtf (M 16) (M 1 0) (tu (M 1 0)).toNat = 3 ∨ gtf (M 16) (M 1 0) (tu (M 1 0)).toNat = 4 ∨ 5 ≤ gtf (M 16) (M 1 0) (tu (M 1 0)).toNat by omega) with h | h | h | h | h
  · exact j_tsIn 44 dX1_typeNumber_14 (by unfold inR; omega) (by omega) (by omega) (off := 30) (by rw [h]; rfl) rfl (l_tn44 hF hd q6 h)
  · exact j_tsIn 51 dX1_typeNumber_14 (by unfold inR; omega) (by omega) (by omega) (off := 37) (by rw [h]; rfl) rfl (l_tn51 hF hd q6 h)
  · exact j_tsIn 58 dX1_typeNumber_14 (by unfold inR; omega) (by omega) (by omega) (off := 44) (by rw [h]; rfl) rfl (l_tn58 hF hd q6 h)
  · exact j_tsIn 63 dX1_typeNumber_14 (by unfold inR; omega) (by omega) (by omega) (off := 49) (by rw [h]; rfl) rfl (l_tn63 hF hd q6 h)
  · exact j_tsOut 69 dX1_typeNumber_14 (by unfold inR; omega) (by right; omega) rfl (l_tn69 hF h)
theorem e_X0_orbits {M : Mem} : J SHC mi_X0_orbits 0 (ent [vR 19] 1) [] M (pu (vI (M 19 9)) M) := by
  show J SHC mi_X0_orbits 0 [some (vR 19)] [] M _
  refine j_aload_n dX0_orbits_0 rfl ?_
  refine j_getI (kz := 9) rfl dX0_orbits_1 f_X0_44 rfl rfl ?_
  refine j_iret dX0_orbits_4 rfl ?_
  exact pu_i (by first | rfl | omega | (simp; done))
theorem e_X0_leastOfOrbit {M : Mem} {q : Int} (h0 : 0 ≤ q) (h1 : q < 25) : J SHC mi_X0_leastOfOrbit 0 (ent [vR 19, vI q] 2) [] M (pu (vI (M 20 q)) M) := by
  show J SHC mi_X0_leastOfOrbit 0 [some (vR 19), some (vI q)] [] M _
  refine j_iload_n dX0_leastOfOrbit_0 rfl ?_
  refine j_bipush dX0_leastOfOrbit_1 (by decide +kernel) ?_
  refine j_N2z dX0_leastOfOrbit_3 ok_X6_isInside n_X0_77 (e_isInside (by first | assumption | (unfold inR; omega)) (by first | assumption | (unfold inR; omega))) (fun z3 M3 q3 => ?_)
  obtain ⟨rfl, q3⟩ := q3
  refine j_if_eq 18 dX0_leastOfOrbit_6 rfl (by unfold inR; omega) (fun c6 => ?_) (fun c6 => ?_)
  · refine j_iconst dX0_leastOfOrbit_18 ?_
    refine j_iret dX0_leastOfOrbit_19 rfl ?_
    first | (exfalso; omega) | exact pu_i rfl
  · refine j_aload_n dX0_leastOfOrbit_9 rfl ?_
    refine j_getR dX0_leastOfOrbit_10 f_X0_9 rfl rfl ?_
    refine j_iload_n dX0_leastOfOrbit_13 rfl ?_
    refine j_iald dX0_leastOfOrbit_14 (by first | rfl | assumption) (by decide) (by omega) (by omega) ?_
    refine j_goto 19 dX0_leastOfOrbit_15 rfl ?_
    refine j_iret dX0_leastOfOrbit_19 rfl ?_
    first | (exfalso; omega) | exact pu_i rfl
theorem e_X0_sizeOfOrbit {M : Mem} {q : Int} (h0 : 0 ≤ q) (h1 : q < 25) : J SHC mi_X0_sizeOfOrbit 0 (ent [vR 19, vI q] 2) [] M (pu (vI (M 21 q)) M) := by
  show J SHC mi_X0_sizeOfOrbit 0 [some (vR 19), some (vI q)] [] M _
  refine j_iload_n dX0_sizeOfOrbit_0 rfl ?_
  refine j_bipush dX0_sizeOfOrbit_1 (by decide +kernel) ?_
  refine j_N2z dX0_sizeOfOrbit_3 ok_X6_isInside n_X0_77 (e_isInside (by first | assumption | (unfold inR; omega)) (by first | assumption | (unfold inR; omega))) (fun z3 M3 q3 => ?_)
  obtain ⟨rfl, q3⟩ := q3
  refine j_if_eq 18 dX0_sizeOfOrbit_6 rfl (by unfold inR; omega) (fun c6 => ?_) (fun c6 => ?_)
  · refine j_iconst dX0_sizeOfOrbit_18 ?_
    refine j_iret dX0_sizeOfOrbit_19 rfl ?_
    first | (exfalso; omega) | exact pu_i rfl
  · refine j_aload_n dX0_sizeOfOrbit_9 rfl ?_
    refine j_getR dX0_sizeOfOrbit_10 f_X0_15 rfl rfl ?_
    refine j_iload_n dX0_sizeOfOrbit_13 rfl ?_
    refine j_iald dX0_sizeOfOrbit_14 (by first | rfl | assumption) (by decide) (by omega) (by omega) ?_
    refine j_goto 19 dX0_sizeOfOrbit_15 rfl ?_
    refine j_iret dX0_sizeOfOrbit_19 rfl ?_
    first | (exfalso; omega) | exact pu_i rfl
/-- the sizes of orbits are what they can be -/
def Sz (M : Mem) : Prop := (0 ≤ M 10 6 ∧ M 10 6 ≤ 300) ∧ ∀ q : Int, 0 ≤ q → q < M 1 1 * M 1 1 → 1 ≤ M 21 q ∧ M 21 q ≤ 25
theorem e_X0_sizeOfStabilizer {M : Mem} {q : Int} (hL : Lat M) (hz : Sz M) (hq : 0 ≤ q ∧ q < M 1 1 * M 1 1) : J SHC mi_X0_sizeOfStabilizer 0 (ent [vR 19, vI q] 2) [] M (pu (vI (M 10 6 / M 21 q)) M) := by
  obtain ⟨hk, hn1, hn5, hc1, hc2⟩ := id hL
  have ht := tu_c hk
  have hz1 := hz.1
  have hz2 := hz.2 q hq.1 hq.2
  show J SHC mi_X0_sizeOfStabilizer 0 [some (vR 19), some (vI q)] [] M _
  refine j_aload_n dX0_sizeOfStabilizer_0 rfl ?_
  refine j_getR dX0_sizeOfStabilizer_1 f_X0_36 rfl rfl ?_
  refine j_V0p dX0_sizeOfStabilizer_4 ok_X3_size v_X0_81 c_X3_size rfl (e_X3_size) ?_
  refine j_aload_n dX0_sizeOfStabilizer_7 rfl ?_
  refine j_iload_n dX0_sizeOfStabilizer_8 rfl ?_
  refine j_V1p dX0_sizeOfStabilizer_9 ok_X0_sizeOfOrbit v_X0_85 c_X0_sizeOfOrbit rfl (e_X0_sizeOfOrbit (by omega) (by omega)) ?_
  refine j_N2p dX0_sizeOfStabilizer_12 ok_X6_quotient n_X0_88 (e_quotient (by first | assumption | (unfold inR; omega)) (by first | assumption | (unfold inR; omega)) (by omega) (by omega)) ?_
  refine j_iret dX0_sizeOfStabilizer_15 rfl ?_
  exact pu_i (by first | rfl | omega | (simp; done))
theorem l_hst {M : Mem} {s : Int} (hL : Lat M) (hz : Sz M) (hs : inR s) (m : Nat) : ∀ q : Int, 0 ≤ q → q ≤ M 1 1 * M 1 1 → M 1 1 * M 1 1 - q < m → (∀ r : Int, 0 ≤ r → r < q → ¬ M 10 6 / M 21 r = s) → J SHC mi_X0_hasStabilizerOf 2 [some (vR 19), some (vI s), some (vI q)] [] M (bz (∃ q : Int, 0 ≤ q ∧ q < M 1 1 * M 1 1 ∧ M 10 6 / M 21 q = s) M) := by
  induction m with
  | zero => intro q h1 h2 h3; omega
  | succ m ih =>
  intro q h1 h2 h3 h4
  obtain ⟨hk, hn1, hn5, hc1, hc2⟩ := id hL
  have ht := tu_c hk
  have hz1 := hz.1
  have hr : q < M 1 1 * M 1 1 → inR (M 10 6 / M 21 q) := fun h => by
    have hz2 := hz.2 q h1 h
    have a := Int.ediv_nonneg hz1.1 (show 0 ≤ M 21 q by omega)
    have b := Int.ediv_le_self (M 21 q) hz1.1
    unfold inR; omega
  refine j_iload_n dX0_hasStabilizerOf_2 rfl ?_
  refine j_aload_n dX0_hasStabilizerOf_3 rfl ?_
  refine j_getR dX0_hasStabilizerOf_4 f_X0_28 rfl rfl ?_
  refine j_V0p dX0_hasStabilizerOf_7 ok_X5_cellCount v_X0_48 c_X5_cellCount rfl (e_X5_cellCount hL) ?_
  refine j_icmp_ge 30 dX0_hasStabilizerOf_10 rfl (by first | assumption | exact hr (by omega) | (unfold inR; omega)) (by first | assumption | exact hr (by omega) | (unfold inR; omega)) (fun c10 => ?_) (fun c10 => ?_)
  · refine j_iconst dX0_hasStabilizerOf_30 ?_
    refine j_zret dX0_hasStabilizerOf_31 rfl (by first | exact Or.inl rfl | exact Or.inr rfl | omega) ?_
    exact bz_i (Or.inr ⟨rfl, fun ⟨r, a, b, c⟩ => h4 r a (by omega) c⟩)
  · refine j_aload_n dX0_hasStabilizerOf_13 rfl ?_
    refine j_iload_n dX0_hasStabilizerOf_14 rfl ?_
    refine j_V1p dX0_hasStabilizerOf_15 ok_X0_sizeOfStabilizer v_X0_91 c_X0_sizeOfStabilizer rfl (e_X0_sizeOfStabilizer hL hz ⟨by omega, by omega⟩) ?_
    refine j_iload_n dX0_hasStabilizerOf_18 rfl ?_
    refine j_icmp_ne 24 dX0_hasStabilizerOf_19 rfl (by first | assumption | exact hr (by omega) | (unfold inR; omega)) (by first | assumption | exact hr (by omega) | (unfold inR; omega)) (fun c19 => ?_) (fun c19 => ?_)
    · refine j_iinc dX0_hasStabilizerOf_24 rfl (by decide) (nol rfl) (by simp only [List.set_cons_zero, List.set_cons_succ]; rfl) ?_
      refine j_goto 2 dX0_hasStabilizerOf_27 rfl ?_
      refine ih (q + 1) (by omega) (by omega) (by omega) (fun r a b => ?_)
      by_cases e : r = q
      · rw [e]; exact c19
      · exact h4 r a (by omega)
    · refine j_iconst dX0_hasStabilizerOf_22 ?_
      refine j_zret dX0_hasStabilizerOf_23 rfl (by first | exact Or.inl rfl | exact Or.inr rfl | omega) ?_
      exact bz_i (Or.inl ⟨rfl, q, by omega, by omega, c19⟩)
theorem e_X0_hasStabilizerOf {M : Mem} {s : Int} (hL : Lat M) (hz : Sz M) (hs : inR s) : J SHC mi_X0_hasStabilizerOf 0 (ent [vR 19, vI s] 3) [] M (bz (∃ q : Int, 0 ≤ q ∧ q < M 1 1 * M 1 1 ∧ M 10 6 / M 21 q = s) M) := by
  show J SHC mi_X0_hasStabilizerOf 0 [some (vR 19), some (vI s), none] [] M _
  refine j_iconst dX0_hasStabilizerOf_0 ?_
  refine j_istore_n dX0_hasStabilizerOf_1 (by decide) (nol rfl) (by show List.set _ 2 _ = _; simp only [List.set_cons_zero, List.set_cons_succ]; rfl) ?_
  exact l_hst hL hz hs 26 0 (by omega) (by have := hL.2.2.2.1; omega) (by have := hL.2.2.2.2; omega) (fun r a b => by omega)
theorem cell_dm {n x y : Int} (hn : 1 ≤ n) (hy0 : 0 ≤ y) (hy1 : y < n) : (n * x + y) / n = x ∧ (n * x + y) % n = y := by
  constructor
  · rw [Int.mul_add_ediv_left _ _ (by omega), Int.ediv_eq_zero_of_lt hy0 hy1, Int.add_zero]
  · rw [Int.mul_add_emod_self_left, Int.emod_eq_of_lt hy0 hy1]
theorem sc_at {k n c x y : Int} (hn : 1 ≤ n) (hy0 : 0 ≤ y) (hy1 : y < n) : sc k n c (n * x + y) = n * ((imx k (cP n c) x y + cX n c) % n) + (imy k (cP n c) x y + cY n c) % n := by
  unfold sc
  rw [(cell_dm hn hy0 hy1).1, (cell_dm hn hy0 hy1).2]
theorem l_fi_in {c x : Int} {Q : Option PV → Mem → Prop} (m : Nat) : ∀ (y : Int) (M : Mem), Lat M → vc (M 1 0) (M 1 1) c → 0 ≤ x → x < M 1 1 → 0 ≤ y → y ≤ M 1 1 → M 1 1 - y < m → (∀ q : Int, 0 ≤ q → q < M 1 1 * x + y → M 24 q = sc (M 1 0) (M 1 1) c q) → (∀ (M1 : Mem) (w : Option PV), fr [24] M M1 → (∀ q : Int, 0 ≤ q → q < M 1 1 * x + M 1 1 → M1 24 q = sc (M 1 0) (M 1 1) c q) → J SHC mi_X0_fillImages 176 [some (vR 19), some (vI c), some (vI (cP (M 1 1) c)), some (vI (en (M 1 0) (cP (M 1 1) c) 0)), some (vI (en (M 1 0) (cP (M 1 1) c) 1)), some (vI (en (M 1 0) (cP (M 1 1) c) 2)), some (vI (en (M 1 0) (cP (M 1 1) c) 3)), some (vI (cX (M 1 1) c)), some (vI (cY (M 1 1) c)), some (vI (M 1 1 * x + M 1 1)), some (vI x), w] [] M1 Q) → J SHC mi_X0_fillImages 93 [some (vR 19), some (vI c), some (vI (cP (M 1 1) c)), some (vI (en (M 1 0) (cP (M 1 1) c) 0)), some (vI (en (M 1 0) (cP (M 1 1) c) 1)), some (vI (en (M 1 0) (cP (M 1 1) c) 2)), some (vI (en (M 1 0) (cP (M 1 1) c) 3)), some (vI (cX (M 1 1) c)), some (vI (cY (M 1 1) c)), some (vI (M 1 1 * x + y)), some (vI x), some (vI y)] [] M Q := by
  induction m with
  | zero => intro y M _ _ _ _ h1 h2 h3; omega
  | succ m ih =>
  intro y M hL hv hx0 hx1 h1 h2 h3 h4 K
  obtain ⟨hk, hn1, hn5, hc1, hc2⟩ := id hL
  have ht := tu_c hk
  have hib := im_b5 (M 1 0) (cP (M 1 1) c) (x := x) (y := y) (by omega) (by omega)
  have hxy := cXY_b hn1 c
  have hcl : y < M 1 1 → 0 ≤ M 1 1 * x + y ∧ M 1 1 * x + y < M 1 1 * M 1 1 := fun h => by
    have a := Int.mul_nonneg (show 0 ≤ M 1 1 by omega) hx0
    have b : M 1 1 * x ≤ M 1 1 * (M 1 1 - 1) := Int.mul_le_mul_of_nonneg_left (by omega) (by omega)
    rw [Int.mul_sub, Int.mul_one] at b
    omega
  have hcl2 : M 1 1 * x + y ≤ 25 ∧ 0 ≤ M 1 1 * x + y := by
    have a := Int.mul_nonneg (show 0 ≤ M 1 1 by omega) hx0
    have b : M 1 1 * x ≤ M 1 1 * (M 1 1 - 1) := Int.mul_le_mul_of_nonneg_left (by omega) (by omega)
    rw [Int.mul_sub, Int.mul_one] at b
    omega
  simp only [imx, imy] at hib
  refine j_iload dX0_fillImages_93 rfl ?_
  refine j_aload_n dX0_fillImages_95 rfl ?_
  refine j_getR dX0_fillImages_96 f_X0_28 rfl rfl ?_
  refine j_getI (kz := 1) rfl dX0_fillImages_99 f_X0_122 rfl rfl ?_
  refine j_icmp_ge 176 dX0_fillImages_102 rfl (by unfold inR; omega) (by unfold inR; omega) (fun c102 => ?_) (fun c102 => ?_)
  · have hy : y = M 1 1 := by omega
    subst hy
    exact K M _ fr.rf h4
  · refine j_iload dX0_fillImages_105 rfl ?_
    refine j_bipush dX0_fillImages_107 (by decide +kernel) ?_
    refine j_icmp_ge 176 dX0_fillImages_109 rfl (by unfold inR; omega) (by unfold inR; omega) (fun c109 => ?_) (fun c109 => ?_)
    · exfalso
      have := hcl (by omega)
      omega
    · refine j_aload_n dX0_fillImages_112 rfl ?_
      refine j_getR dX0_fillImages_113 f_X0_25 rfl rfl ?_
      refine j_iload dX0_fillImages_116 rfl ?_
      refine j_aload_n dX0_fillImages_118 rfl ?_
      refine j_getR dX0_fillImages_119 f_X0_28 rfl rfl ?_
      refine j_aload_n dX0_fillImages_122 rfl ?_
      refine j_getR dX0_fillImages_123 f_X0_28 rfl rfl ?_
      refine j_iload_n dX0_fillImages_126 rfl ?_
      refine j_iload dX0_fillImages_127 rfl ?_
      refine j_imul dX0_fillImages_129 ?_
      refine j_iload dX0_fillImages_130 rfl ?_
      refine j_iload dX0_fillImages_132 rfl ?_
      refine j_imul dX0_fillImages_134 ?_
      refine j_iadd dX0_fillImages_135 ?_
      refine j_iload dX0_fillImages_136 rfl ?_
      refine j_iadd dX0_fillImages_138 ?_
      refine j_V1p dX0_fillImages_139 ok_X5_wrap v_X0_125 c_X5_wrap rfl (e_X5_wrap hL (by unfold inR; omega)) ?_
      refine j_aload_n dX0_fillImages_142 rfl ?_
      refine j_getR dX0_fillImages_143 f_X0_28 rfl rfl ?_
      refine j_iload dX0_fillImages_146 rfl ?_
      refine j_iload dX0_fillImages_148 rfl ?_
      refine j_imul dX0_fillImages_150 ?_
      refine j_iload dX0_fillImages_151 rfl ?_
      refine j_iload dX0_fillImages_153 rfl ?_
      refine j_imul dX0_fillImages_155 ?_
      refine j_iadd dX0_fillImages_156 ?_
      refine j_iload dX0_fillImages_157 rfl ?_
      refine j_iadd dX0_fillImages_159 ?_
      refine j_V1p dX0_fillImages_160 ok_X5_wrap v_X0_125 c_X5_wrap rfl (e_X5_wrap hL (by unfold inR; omega)) ?_
      refine j_V2p dX0_fillImages_163 ok_X5_cellOf v_X0_128 c_X5_cellOf rfl (e_X5_cellOf hL) ?_
      refine j_iast dX0_fillImages_166 (by first | rfl | assumption) (by decide) (by have := hcl (by omega); omega) (by have := hcl (by omega); omega) ?_
      refine j_iinc dX0_fillImages_167 rfl (by decide) (nol rfl) (by simp only [List.set_cons_zero, List.set_cons_succ]; rfl) ?_
      refine j_iinc dX0_fillImages_170 rfl (by decide) (nol rfl) (by simp only [List.set_cons_zero, List.set_cons_succ]; rfl) ?_
      refine j_goto 93 dX0_fillImages_173 rfl ?_
      have es := sc_at (k := M 1 0) (c := c) (x := x) hn1 h1 (show y < M 1 1 by omega)
      have f : fr [24] M (wr M 24 (M 1 1 * x + y) (sc (M 1 0) (M 1 1) c (M 1 1 * x + y))) := fr.rf.w1 (by decide)
      have e1 := f 1 (by decide)
      have h9 := ih (y + 1) (wr M 24 (M 1 1 * x + y) (sc (M 1 0) (M 1 1) c (M 1 1 * x + y))) (Lat_fr f (by decide) hL) (by rw [e1]; exact hv) hx0 (by rw [e1]; exact hx1) (by omega) (by rw [e1]; omega) (by rw [e1]; omega) (fun q a b => ?_) (fun M1 w f1 g1 => ?_)
      · rw [e1, ← Int.add_assoc] at h9
        unfold imx imy at es
        rw [es] at h9
        exact h9
      · rw [e1] at b ⊢
        by_cases e : q = M 1 1 * x + y
        · rw [e, wr_self]
        · rw [wr_ne _ _ (fun z => e z.2)]
          exact h4 q a (by omega)
      · rw [e1] at g1 ⊢
        exact K M1 w (f.tr f1) g1
