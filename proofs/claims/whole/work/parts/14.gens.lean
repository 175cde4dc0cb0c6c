/-! classes Generators and History -/
def Gen4 (M : Mem) : Prop := 0 ≤ M 2 1 ∧ M 2 1 ≤ 4

theorem e_X2_has {M : Mem} (hg : Gen4 M) {i : Int} (hi : inR i) : J SHC mi_X2_has 0 (ent [vR 2, vI i] 2) [] M (bz (0 ≤ i ∧ i < M 2 1) M) := by
  unfold Gen4 at hg
  show J SHC mi_X2_has 0 [some (vR 2), some (vI i)] [] M _
  refine j_iload_n dX2_has_0 rfl ?_
  refine j_aload_n dX2_has_1 rfl ?_
  refine j_getI (kz := 1) rfl dX2_has_2 f_X2_15 rfl rfl ?_
  refine j_N2z dX2_has_5 ok_X6_isInside n_X2_19 (e_isInside (by first | assumption | (unfold inR; omega)) (by first | assumption | (unfold inR; omega))) (fun z5 M5 q5 => ?_)
  obtain ⟨rfl, q5⟩ := q5
  refine j_zret dX2_has_8 rfl (by first | exact Or.inl rfl | exact Or.inr rfl | omega) ?_
  exact bz_i (by omega)
theorem e_X2_isFull {M : Mem} (hg : Gen4 M)  : J SHC mi_X2_isFull 0 (ent [vR 2] 1) [] M (bz (4 ≤ M 2 1) M) := by
  unfold Gen4 at hg
  show J SHC mi_X2_isFull 0 [some (vR 2)] [] M _
  refine j_aload_n dX2_isFull_0 rfl ?_
  refine j_getI (kz := 1) rfl dX2_isFull_1 f_X2_15 rfl rfl ?_
  refine j_iconst dX2_isFull_4 ?_
  refine j_icmp_lt 12 dX2_isFull_5 rfl (by unfold inR; omega) (by unfold inR; omega) (fun c5 => ?_) (fun c5 => ?_)
  · refine j_iconst dX2_isFull_12 ?_
    refine j_zret dX2_isFull_13 rfl (by first | exact Or.inl rfl | exact Or.inr rfl | omega) ?_
    exact bz_i (by omega)
  · refine j_iconst dX2_isFull_8 ?_
    refine j_goto 13 dX2_isFull_9 rfl ?_
    refine j_zret dX2_isFull_13 rfl (by first | exact Or.inl rfl | exact Or.inr rfl | omega) ?_
    exact bz_i (by omega)
theorem e_X2_codeAt {M : Mem} {i : Int} (h0 : 0 ≤ i) (h4 : i < 4) : J SHC mi_X2_codeAt 0 (ent [vR 2, vI i] 2) [] M (pu (vI (M 3 i)) M) := by
  show J SHC mi_X2_codeAt 0 [some (vR 2), some (vI i)] [] M _
  refine j_iload_n dX2_codeAt_0 rfl ?_
  refine j_iconst dX2_codeAt_1 ?_
  refine j_N2z dX2_codeAt_2 ok_X6_isInside n_X2_19 (e_isInside (by first | assumption | (unfold inR; omega)) (by first | assumption | (unfold inR; omega))) (fun z2 M2 q2 => ?_)
  obtain ⟨rfl, q2⟩ := q2
  refine j_if_eq 17 dX2_codeAt_5 rfl (by unfold inR; omega) (fun c5 => ?_) (fun c5 => ?_)
  · refine j_iconst dX2_codeAt_17 ?_
    refine j_iret dX2_codeAt_18 rfl ?_
    first | (exfalso; omega) | exact pu_i rfl
  · refine j_aload_n dX2_codeAt_8 rfl ?_
    refine j_getR dX2_codeAt_9 f_X2_9 rfl rfl ?_
    refine j_iload_n dX2_codeAt_12 rfl ?_
    refine j_iald dX2_codeAt_13 (by first | rfl | assumption) (by decide) (by omega) (by omega) ?_
    refine j_goto 18 dX2_codeAt_14 rfl ?_
    refine j_iret dX2_codeAt_18 rfl ?_
    first | (exfalso; omega) | exact pu_i rfl
theorem e_X2_replace {M : Mem} {i c : Int} (h0 : 0 ≤ i) (h4 : i < 4) : J SHC mi_X2_replace 0 (ent [vR 2, vI i, vI c] 3) [] M (pv (fun M1 => M1 = wr M 3 i c)) := by
  show J SHC mi_X2_replace 0 [some (vR 2), some (vI i), some (vI c)] [] M _
  refine j_iload_n dX2_replace_0 rfl ?_
  refine j_iconst dX2_replace_1 ?_
  refine j_N2z dX2_replace_2 ok_X6_isInside n_X2_19 (e_isInside (by first | assumption | (unfold inR; omega)) (by first | assumption | (unfold inR; omega))) (fun z2 M2 q2 => ?_)
  obtain ⟨rfl, q2⟩ := q2
  refine j_if_eq 15 dX2_replace_5 rfl (by unfold inR; omega) (fun c5 => ?_) (fun c5 => ?_)
  · refine j_vret dX2_replace_15 rfl ?_
    first | exact ⟨rfl, rfl⟩ | (exfalso; omega)
  · refine j_aload_n dX2_replace_8 rfl ?_
    refine j_getR dX2_replace_9 f_X2_9 rfl rfl ?_
    refine j_iload_n dX2_replace_12 rfl ?_
    refine j_iload_n dX2_replace_13 rfl ?_
    refine j_iast dX2_replace_14 (by first | rfl | assumption) (by decide) (by omega) (by omega) ?_
    refine j_vret dX2_replace_15 rfl ?_
    first | exact ⟨rfl, rfl⟩ | (exfalso; omega)
theorem e_X2_append {M : Mem} (hg : Gen4 M) {c : Int} (h4 : M 2 1 < 4) : J SHC mi_X2_append 0 (ent [vR 2, vI c] 2) [] M (pv (fun M1 => M1 = wr (wr M 3 (M 2 1) c) 2 1 (M 2 1 + 1))) := by
  unfold Gen4 at hg
  show J SHC mi_X2_append 0 [some (vR 2), some (vI c)] [] M _
  refine j_aload_n dX2_append_0 rfl ?_
  refine j_V0z dX2_append_1 ok_X2_isFull v_X2_23 c_X2_isFull rfl (e_X2_isFull hg) (fun z1 M1 q1 => ?_)
  obtain ⟨rfl, q1⟩ := q1
  refine j_if_ne 26 dX2_append_4 rfl (by unfold inR; omega) (fun c4 => ?_) (fun c4 => ?_)
  · refine j_vret dX2_append_26 rfl ?_
    first | (exfalso; omega) | (refine ⟨rfl, ?_⟩; rw [wr_ne (b := 2) _ _ (by omega)])
  · refine j_aload_n dX2_append_7 rfl ?_
    refine j_aload_n dX2_append_8 rfl ?_
    refine j_getI (kz := 1) rfl dX2_append_9 f_X2_15 rfl rfl ?_
    refine j_iload_n dX2_append_12 rfl ?_
    refine j_V2v dX2_append_13 ok_X2_replace v_X2_27 c_X2_replace rfl (e_X2_replace (by omega) (by omega)) (fun M13 q13 => ?_)
    subst q13
    refine j_aload_n dX2_append_16 rfl ?_
    refine j_dup dX2_append_17 (fun _ h => by cases h) ?_
    refine j_getI (kz := 1) rfl dX2_append_18 f_X2_15 rfl rfl ?_
    refine j_iconst dX2_append_21 ?_
    refine j_iadd dX2_append_22 ?_
    refine j_putI (kz := 1) rfl dX2_append_23 g_X2_15 rfl rfl ?_
    refine j_vret dX2_append_26 rfl ?_
    first | (exfalso; omega) | (refine ⟨rfl, ?_⟩; rw [wr_ne (b := 2) _ _ (by omega)])
theorem e_X2_clear {M : Mem} : J SHC mi_X2_clear 0 (ent [vR 2] 1) [] M (pv (fun M1 => M1 = wr M 2 1 0)) := by
  show J SHC mi_X2_clear 0 [some (vR 2)] [] M _
  refine j_aload_n dX2_clear_0 rfl ?_
  refine j_iconst dX2_clear_1 ?_
  refine j_putI (kz := 1) rfl dX2_clear_2 g_X2_15 rfl rfl ?_
  refine j_vret dX2_clear_5 rfl ?_
  exact ⟨rfl, rfl⟩
theorem l_removeAt {i : Int} (m : Nat) : ∀ (k : Int) (M : Mem), Gen4 M → 0 ≤ k → k ≤ M 2 1 - 1 → M 2 1 - k < m → J SHC mi_X2_removeAt 11 [some (vR 2), some (vI i), some (vI k)] [] M (pv (fun M1 => fr [2, 3] M M1 ∧ M1 2 1 = M 2 1 - 1 ∧ ∀ j : Int, M1 3 j = if k ≤ j ∧ j < M 2 1 - 1 then M 3 (j + 1) else M 3 j)) := by
  induction m with
  | zero => intro k M hg h0 h1 h2; omega
  | succ m ih =>
  intro k M hg h0 h1 h2
  have hg1 := hg.1
  have hg2 := hg.2
  refine j_iload_n dX2_removeAt_11 rfl ?_
  refine j_aload_n dX2_removeAt_12 rfl ?_
  refine j_getI (kz := 1) rfl dX2_removeAt_13 f_X2_15 rfl rfl ?_
  refine j_iconst dX2_removeAt_16 ?_
  refine j_isub dX2_removeAt_17 ?_
  refine j_icmp_ge 39 dX2_removeAt_18 rfl (by unfold inR; omega) (by unfold inR; omega) (fun c18 => ?_) (fun c18 => ?_)
  · refine j_aload_n dX2_removeAt_39 rfl ?_
    refine j_dup dX2_removeAt_40 (fun _ h => by cases h) ?_
    refine j_getI (kz := 1) rfl dX2_removeAt_41 f_X2_15 rfl rfl ?_
    refine j_iconst dX2_removeAt_44 ?_
    refine j_isub dX2_removeAt_45 ?_
    refine j_putI (kz := 1) rfl dX2_removeAt_46 g_X2_15 rfl rfl ?_
    refine j_vret dX2_removeAt_49 rfl ?_
    exact ⟨rfl, fr.rf.w1 (by decide), by rw [wr_self], fun j => by rw [if_neg (by omega), wr_ne _ _ (by omega)]⟩
  · refine j_aload_n dX2_removeAt_21 rfl ?_
    refine j_iload_n dX2_removeAt_22 rfl ?_
    refine j_aload_n dX2_removeAt_23 rfl ?_
    refine j_iload_n dX2_removeAt_24 rfl ?_
    refine j_iconst dX2_removeAt_25 ?_
    refine j_iadd dX2_removeAt_26 ?_
    refine j_V1p dX2_removeAt_27 ok_X2_codeAt v_X2_35 c_X2_codeAt rfl (e_X2_codeAt (by omega) (by omega)) ?_
    refine j_V2v dX2_removeAt_30 ok_X2_replace v_X2_27 c_X2_replace rfl (e_X2_replace (by omega) (by omega)) (fun M30 q30 => ?_)
    subst q30
    refine j_iinc dX2_removeAt_33 rfl (by decide) (nol rfl) (by simp only [List.set_cons_zero, List.set_cons_succ]; rfl) ?_
    refine j_goto 11 dX2_removeAt_36 rfl ?_
    have e2 : wr M 3 k (M 3 (k + 1)) 2 1 = M 2 1 := wr_ne _ _ (by omega)
    refine j_mono ?_ (ih (k + 1) (wr M 3 k (M 3 (k + 1))) (by unfold Gen4; rw [e2]; exact hg) (by omega) (by rw [e2]; omega) (by rw [e2]; omega))
    rintro v M1 ⟨rfl, hf, hs, hj⟩
    rw [e2] at hs hj
    refine ⟨rfl, (fr.rf.w1 (by decide)).tr hf, hs, fun j => ?_⟩
    rw [hj j]
    by_cases q : j = k
    · subst q
      rw [if_neg (by omega), if_pos (by omega), wr_self]
    · rw [wr_ne _ _ (fun z => q z.2)]
      by_cases q2 : k ≤ j ∧ j < M 2 1 - 1
      · rw [if_pos q2, if_pos (by omega), wr_ne _ _ (fun z => by omega)]
      · rw [if_neg q2, if_neg (by omega)]
theorem e_X2_removeAt {M : Mem} (hg : Gen4 M) {i : Int} (h0 : 0 ≤ i) (h1 : i < M 2 1) : J SHC mi_X2_removeAt 0 (ent [vR 2, vI i] 3) [] M (pv (fun M1 => fr [2, 3] M M1 ∧ M1 2 1 = M 2 1 - 1 ∧ ∀ j : Int, M1 3 j = if i ≤ j ∧ j < M 2 1 - 1 then M 3 (j + 1) else M 3 j)) := by
  have hg1 := hg.1
  have hg2 := hg.2
  show J SHC mi_X2_removeAt 0 [some (vR 2), some (vI i), none] [] M _
  refine j_aload_n dX2_removeAt_0 rfl ?_
  refine j_iload_n dX2_removeAt_1 rfl ?_
  refine j_V1z dX2_removeAt_2 ok_X2_has v_X2_31 c_X2_has rfl (e_X2_has hg (by unfold inR; omega)) (fun z2 M2 q2 => ?_)
  obtain ⟨rfl, q2⟩ := q2
  refine j_if_ne 9 dX2_removeAt_5 rfl (by unfold inR; omega) (fun c5 => ?_) (fun c5 => ?_)
  · refine j_iload_n dX2_removeAt_9 rfl ?_
    refine j_istore_n dX2_removeAt_10 (by decide) (nol rfl) (by show List.set _ 2 _ = _; simp only [List.set_cons_zero, List.set_cons_succ]; rfl) ?_
    exact l_removeAt (i := i) 5 i M hg h0 (by omega) (by omega)
  · refine j_vret dX2_removeAt_8 rfl ?_
    (exfalso; omega)
theorem e_X5_choose {M : Mem} {k n : Int} : J SHC mi_X5_choose 0 (ent [vR 1, vI k, vI n] 3) [] M (pv (fun M1 => M1 = wr (wr M 1 0 k) 1 1 n)) := by
  show J SHC mi_X5_choose 0 [some (vR 1), some (vI k), some (vI n)] [] M _
  refine j_aload_n dX5_choose_0 rfl ?_
  refine j_iload_n dX5_choose_1 rfl ?_
  refine j_putI (kz := 0) rfl dX5_choose_2 g_X5_9 rfl rfl ?_
  refine j_aload_n dX5_choose_5 rfl ?_
  refine j_iload_n dX5_choose_6 rfl ?_
  refine j_putI (kz := 1) rfl dX5_choose_7 g_X5_15 rfl rfl ?_
  refine j_vret dX5_choose_10 rfl ?_
  exact ⟨rfl, rfl⟩
/-- what a row of the history holds: the present -/
def rowOf (M : Mem) (j : Int) : Int := if j = 0 then M 1 0 else if j = 1 then M 1 1 else if j = 2 then M 2 1 else M 3 (j - 3)
def Dep (M : Mem) : Prop := 0 ≤ M 4 1 ∧ M 4 1 ≤ 4
theorem e_X4_isEmpty {M : Mem} (hd : Dep M) : J SHC mi_X4_isEmpty 0 (ent [vR 4] 1) [] M (bz (M 4 1 ≤ 0) M) := by
  unfold Dep at hd
  show J SHC mi_X4_isEmpty 0 [some (vR 4)] [] M _
  refine j_aload_n dX4_isEmpty_0 rfl ?_
  refine j_getI (kz := 1) rfl dX4_isEmpty_1 f_X4_16 rfl rfl ?_
  refine j_if_gt 11 dX4_isEmpty_4 rfl (by unfold inR; omega) (fun c4 => ?_) (fun c4 => ?_)
  · refine j_iconst dX4_isEmpty_11 ?_
    refine j_zret dX4_isEmpty_12 rfl (by first | exact Or.inl rfl | exact Or.inr rfl | omega) ?_
    exact bz_i (by omega)
  · refine j_iconst dX4_isEmpty_7 ?_
    refine j_goto 12 dX4_isEmpty_8 rfl ?_
    refine j_zret dX4_isEmpty_12 rfl (by first | exact Or.inl rfl | exact Or.inr rfl | omega) ?_
    exact bz_i (by omega)
theorem e_X4_write {M : Mem} {r : Nat} (hr : 6 ≤ r ∧ r ≤ 9) (hs : SHC[r]? = some (0, 7, [])) : J SHC mi_X4_write 0 (ent [vR r, vR 1, vR 2] 4) [] M (pv (fun M1 => fr [r] M M1 ∧ ∀ j : Int, 0 ≤ j → j < 7 → M1 r j = rowOf M j)) := by
  show J SHC mi_X4_write 0 [some (vR r), some (vR 1), some (vR 2), none] [] M _
  refine j_aload_n dX4_write_0 rfl ?_
  refine j_alen dX4_write_1 (by first | rfl | assumption) (by decide) ?_
  refine j_bipush dX4_write_2 (by decide +kernel) ?_
  refine j_icmp_ge 8 dX4_write_4 rfl (by unfold inR; omega) (by unfold inR; omega) (fun c4 => ?_) (fun c4 => ?_)
  · refine j_aload_n dX4_write_8 rfl ?_
    refine j_iconst dX4_write_9 ?_
    refine j_aload_n dX4_write_10 rfl ?_
    refine j_getI (kz := 0) rfl dX4_write_11 f_X4_34 rfl rfl ?_
    refine j_iast dX4_write_14 (by first | rfl | assumption) (by decide) (by omega) (by omega) ?_
    refine j_aload_n dX4_write_15 rfl ?_
    refine j_iconst dX4_write_16 ?_
    refine j_aload_n dX4_write_17 rfl ?_
    refine j_getI (kz := 1) rfl dX4_write_18 f_X4_39 rfl rfl ?_
    refine j_iast dX4_write_21 (by first | rfl | assumption) (by decide) (by omega) (by omega) ?_
    refine j_aload_n dX4_write_22 rfl ?_
    refine j_iconst dX4_write_23 ?_
    refine j_aload_n dX4_write_24 rfl ?_
    refine j_getI (kz := 1) rfl dX4_write_25 f_X4_42 rfl rfl ?_
    refine j_iast dX4_write_28 (by first | rfl | assumption) (by decide) (by omega) (by omega) ?_
    refine j_iconst dX4_write_29 ?_
    refine j_istore_n dX4_write_30 (by decide) (nol rfl) (by show List.set _ 3 _ = _; simp only [List.set_cons_zero, List.set_cons_succ]; rfl) ?_
    refine j_iload_n dX4_write_31 rfl ?_
    refine j_iconst dX4_write_32 ?_
    refine j_icmp_ge 52 dX4_write_33 rfl (by unfold inR; omega) (by unfold inR; omega) (fun c33 => ?_) (fun c33 => ?_)
    · exfalso; first | omega | (simp at c33; done)
    refine j_aload_n dX4_write_36 rfl ?_
    refine j_iconst dX4_write_37 ?_
    refine j_iload_n dX4_write_38 rfl ?_
    refine j_iadd dX4_write_39 ?_
    refine j_aload_n dX4_write_40 rfl ?_
    refine j_iload_n dX4_write_41 rfl ?_
    refine j_V1p dX4_write_42 ok_X2_codeAt v_X4_47 c_X2_codeAt rfl (e_X2_codeAt (by omega) (by omega)) ?_
    refine j_iast dX4_write_45 (by first | rfl | assumption) (by decide) (by omega) (by omega) ?_
    refine j_iinc dX4_write_46 rfl (by decide) (nol rfl) (by simp only [List.set_cons_zero, List.set_cons_succ]; rfl) ?_
    refine j_goto 31 dX4_write_49 rfl ?_
    refine j_iload_n dX4_write_31 rfl ?_
    refine j_iconst dX4_write_32 ?_
    refine j_icmp_ge 52 dX4_write_33 rfl (by unfold inR; omega) (by unfold inR; omega) (fun c33 => ?_) (fun c33 => ?_)
    · exfalso; first | omega | (simp at c33; done)
    refine j_aload_n dX4_write_36 rfl ?_
    refine j_iconst dX4_write_37 ?_
    refine j_iload_n dX4_write_38 rfl ?_
    refine j_iadd dX4_write_39 ?_
    refine j_aload_n dX4_write_40 rfl ?_
    refine j_iload_n dX4_write_41 rfl ?_
    refine j_V1p dX4_write_42 ok_X2_codeAt v_X4_47 c_X2_codeAt rfl (e_X2_codeAt (by omega) (by omega)) ?_
    refine j_iast dX4_write_45 (by first | rfl | assumption) (by decide) (by omega) (by omega) ?_
    refine j_iinc dX4_write_46 rfl (by decide) (nol rfl) (by simp only [List.set_cons_zero, List.set_cons_succ]; rfl) ?_
    refine j_goto 31 dX4_write_49 rfl ?_
    refine j_iload_n dX4_write_31 rfl ?_
    refine j_iconst dX4_write_32 ?_
    refine j_icmp_ge 52 dX4_write_33 rfl (by unfold inR; omega) (by unfold inR; omega) (fun c33 => ?_) (fun c33 => ?_)
    · exfalso; first | omega | (simp at c33; done)
    refine j_aload_n dX4_write_36 rfl ?_
    refine j_iconst dX4_write_37 ?_
    refine j_iload_n dX4_write_38 rfl ?_
    refine j_iadd dX4_write_39 ?_
    refine j_aload_n dX4_write_40 rfl ?_
    refine j_iload_n dX4_write_41 rfl ?_
    refine j_V1p dX4_write_42 ok_X2_codeAt v_X4_47 c_X2_codeAt rfl (e_X2_codeAt (by omega) (by omega)) ?_
    refine j_iast dX4_write_45 (by first | rfl | assumption) (by decide) (by omega) (by omega) ?_
    refine j_iinc dX4_write_46 rfl (by decide) (nol rfl) (by simp only [List.set_cons_zero, List.set_cons_succ]; rfl) ?_
    refine j_goto 31 dX4_write_49 rfl ?_
    refine j_iload_n dX4_write_31 rfl ?_
    refine j_iconst dX4_write_32 ?_
    refine j_icmp_ge 52 dX4_write_33 rfl (by unfold inR; omega) (by unfold inR; omega) (fun c33 => ?_) (fun c33 => ?_)
    · exfalso; first | omega | (simp at c33; done)
    refine j_aload_n dX4_write_36 rfl ?_
    refine j_iconst dX4_write_37 ?_
    refine j_iload_n dX4_write_38 rfl ?_
    refine j_iadd dX4_write_39 ?_
    refine j_aload_n dX4_write_40 rfl ?_
    refine j_iload_n dX4_write_41 rfl ?_
    refine j_V1p dX4_write_42 ok_X2_codeAt v_X4_47 c_X2_codeAt rfl (e_X2_codeAt (by omega) (by omega)) ?_
    refine j_iast dX4_write_45 (by first | rfl | assumption) (by decide) (by omega) (by omega) ?_
    refine j_iinc dX4_write_46 rfl (by decide) (nol rfl) (by simp only [List.set_cons_zero, List.set_cons_succ]; rfl) ?_
    refine j_goto 31 dX4_write_49 rfl ?_
    refine j_iload_n dX4_write_31 rfl ?_
    refine j_iconst dX4_write_32 ?_
    refine j_icmp_ge 52 dX4_write_33 rfl (by unfold inR; omega) (by unfold inR; omega) (fun c33 => ?_) (fun c33 => ?_)
    rotate_left
    · exfalso; first | omega | (simp at c33; done)
    refine j_vret dX4_write_52 rfl ?_
    refine ⟨rfl, fun b hb => ?_, fun j h0 h7 => ?_⟩
    · have hne : b ≠ r := fun e => hb (e ▸ List.mem_cons_self)
      funext j
      simp [wr, hne]
    · have hr1 : ¬ (1 : Nat) = r := by omega
      have hr2 : ¬ (2 : Nat) = r := by omega
      have hr3 : ¬ (3 : Nat) = r := by omega
      rcases (show j = 0 ∨ j = 1 ∨ j = 2 ∨ j = 3 ∨ j = 4 ∨ j = 5 ∨ j = 6 by omega) with rfl | rfl | rfl | rfl | rfl | rfl | rfl <;> simp [wr, rowOf, hr1, hr2, hr3]
  · refine j_vret dX4_write_7 rfl ?_
    exfalso; omega
theorem e_X4_read {M : Mem} {r : Nat} (hr : 6 ≤ r ∧ r ≤ 9) (hs : SHC[r]? = some (0, 7, [])) : J SHC mi_X4_read 0 (ent [vR r, vR 1, vR 2] 4) [] M (pv (fun M1 => fr [1, 2, 3] M M1 ∧ M1 1 0 = M r 0 ∧ M1 1 1 = M r 1 ∧ M1 2 1 = M r 2 ∧ ∀ j : Int, 0 ≤ j → j < 4 → M1 3 j = M r (3 + j))) := by
  show J SHC mi_X4_read 0 [some (vR r), some (vR 1), some (vR 2), none] [] M _
  refine j_aload_n dX4_read_0 rfl ?_
  refine j_alen dX4_read_1 (by first | rfl | assumption) (by decide) ?_
  refine j_bipush dX4_read_2 (by decide +kernel) ?_
  refine j_icmp_ge 8 dX4_read_4 rfl (by unfold inR; omega) (by unfold inR; omega) (fun c4 => ?_) (fun c4 => ?_)
  · refine j_aload_n dX4_read_8 rfl ?_
    refine j_aload_n dX4_read_9 rfl ?_
    refine j_iconst dX4_read_10 ?_
    refine j_iald dX4_read_11 (by first | rfl | assumption) (by decide) (by omega) (by omega) ?_
    refine j_aload_n dX4_read_12 rfl ?_
    refine j_iconst dX4_read_13 ?_
    refine j_iald dX4_read_14 (by first | rfl | assumption) (by decide) (by omega) (by omega) ?_
    refine j_V2v dX4_read_15 ok_X5_choose v_X4_51 c_X5_choose rfl (e_X5_choose) (fun M15 q15 => ?_)
    subst q15
    refine j_aload_n dX4_read_18 rfl ?_
    refine j_aload_n dX4_read_19 rfl ?_
    refine j_iconst dX4_read_20 ?_
    refine j_iald dX4_read_21 (by first | rfl | assumption) (by decide) (by omega) (by omega) ?_
    refine j_putI (kz := 1) rfl dX4_read_22 g_X4_42 rfl rfl ?_
    refine j_iconst dX4_read_25 ?_
    refine j_istore_n dX4_read_26 (by decide) (nol rfl) (by show List.set _ 3 _ = _; simp only [List.set_cons_zero, List.set_cons_succ]; rfl) ?_
    refine j_iload_n dX4_read_27 rfl ?_
    refine j_iconst dX4_read_28 ?_
    refine j_icmp_ge 48 dX4_read_29 rfl (by unfold inR; omega) (by unfold inR; omega) (fun c29 => ?_) (fun c29 => ?_)
    · exfalso; first | omega | (simp at c29; done)
    refine j_aload_n dX4_read_32 rfl ?_
    refine j_iload_n dX4_read_33 rfl ?_
    refine j_aload_n dX4_read_34 rfl ?_
    refine j_iconst dX4_read_35 ?_
    refine j_iload_n dX4_read_36 rfl ?_
    refine j_iadd dX4_read_37 ?_
    refine j_iald dX4_read_38 (by first | rfl | assumption) (by decide) (by omega) (by omega) ?_
    refine j_V2v dX4_read_39 ok_X2_replace v_X4_55 c_X2_replace rfl (e_X2_replace (by omega) (by omega)) (fun M39 q39 => ?_)
    subst q39
    refine j_iinc dX4_read_42 rfl (by decide) (nol rfl) (by simp only [List.set_cons_zero, List.set_cons_succ]; rfl) ?_
    refine j_goto 27 dX4_read_45 rfl ?_
    refine j_iload_n dX4_read_27 rfl ?_
    refine j_iconst dX4_read_28 ?_
    refine j_icmp_ge 48 dX4_read_29 rfl (by unfold inR; omega) (by unfold inR; omega) (fun c29 => ?_) (fun c29 => ?_)
    · exfalso; first | omega | (simp at c29; done)
    refine j_aload_n dX4_read_32 rfl ?_
    refine j_iload_n dX4_read_33 rfl ?_
    refine j_aload_n dX4_read_34 rfl ?_
    refine j_iconst dX4_read_35 ?_
    refine j_iload_n dX4_read_36 rfl ?_
    refine j_iadd dX4_read_37 ?_
    refine j_iald dX4_read_38 (by first | rfl | assumption) (by decide) (by omega) (by omega) ?_
    refine j_V2v dX4_read_39 ok_X2_replace v_X4_55 c_X2_replace rfl (e_X2_replace (by omega) (by omega)) (fun M39 q39 => ?_)
    subst q39
    refine j_iinc dX4_read_42 rfl (by decide) (nol rfl) (by simp only [List.set_cons_zero, List.set_cons_succ]; rfl) ?_
    refine j_goto 27 dX4_read_45 rfl ?_
    refine j_iload_n dX4_read_27 rfl ?_
    refine j_iconst dX4_read_28 ?_
    refine j_icmp_ge 48 dX4_read_29 rfl (by unfold inR; omega) (by unfold inR; omega) (fun c29 => ?_) (fun c29 => ?_)
    · exfalso; first | omega | (simp at c29; done)
    refine j_aload_n dX4_read_32 rfl ?_
    refine j_iload_n dX4_read_33 rfl ?_
    refine j_aload_n dX4_read_34 rfl ?_
    refine j_iconst dX4_read_35 ?_
    refine j_iload_n dX4_read_36 rfl ?_
    refine j_iadd dX4_read_37 ?_
    refine j_iald dX4_read_38 (by first | rfl | assumption) (by decide) (by omega) (by omega) ?_
    refine j_V2v dX4_read_39 ok_X2_replace v_X4_55 c_X2_replace rfl (e_X2_replace (by omega) (by omega)) (fun M39 q39 => ?_)
    subst q39
    refine j_iinc dX4_read_42 rfl (by decide) (nol rfl) (by simp only [List.set_cons_zero, List.set_cons_succ]; rfl) ?_
    refine j_goto 27 dX4_read_45 rfl ?_
    refine j_iload_n dX4_read_27 rfl ?_
    refine j_iconst dX4_read_28 ?_
    refine j_icmp_ge 48 dX4_read_29 rfl (by unfold inR; omega) (by unfold inR; omega) (fun c29 => ?_) (fun c29 => ?_)
    · exfalso; first | omega | (simp at c29; done)
    refine j_aload_n dX4_read_32 rfl ?_
    refine j_iload_n dX4_read_33 rfl ?_
    refine j_aload_n dX4_read_34 rfl ?_
    refine j_iconst dX4_read_35 ?_
    refine j_iload_n dX4_read_36 rfl ?_
    refine j_iadd dX4_read_37 ?_
    refine j_iald dX4_read_38 (by first | rfl | assumption) (by decide) (by omega) (by omega) ?_
    refine j_V2v dX4_read_39 ok_X2_replace v_X4_55 c_X2_replace rfl (e_X2_replace (by omega) (by omega)) (fun M39 q39 => ?_)
    subst q39
    refine j_iinc dX4_read_42 rfl (by decide) (nol rfl) (by simp only [List.set_cons_zero, List.set_cons_succ]; rfl) ?_
    refine j_goto 27 dX4_read_45 rfl ?_
    refine j_iload_n dX4_read_27 rfl ?_
    refine j_iconst dX4_read_28 ?_
    refine j_icmp_ge 48 dX4_read_29 rfl (by unfold inR; omega) (by unfold inR; omega) (fun c29 => ?_) (fun c29 => ?_)
    rotate_left
    · exfalso; first | omega | (simp at c29; done)
    refine j_vret dX4_read_48 rfl ?_
    have hr1 : ¬ r = 1 := by omega
    have hr2 : ¬ r = 2 := by omega
    have hr3 : ¬ r = 3 := by omega
    refine ⟨rfl, fun b hb => ?_, by simp [wr], by simp [wr], by simp [wr, hr1], fun j h0 h7 => ?_⟩
    · simp only [List.mem_cons, List.not_mem_nil, or_false, not_or] at hb
      funext j
      simp [wr, hb.1, hb.2.1, hb.2.2]
    · rcases (show j = 0 ∨ j = 1 ∨ j = 2 ∨ j = 3 by omega) with rfl | rfl | rfl | rfl <;> simp [wr, hr1, hr2, hr3]
  · refine j_vret dX4_read_7 rfl ?_
    exfalso; omega
theorem l_copy {i : Int} {s d : Nat} {Q : Option PV → Mem → Prop} (hi : 1 ≤ i ∧ i ≤ 3) (hqd : [some 6, some 7, some 8, some 9][(i - 1).toNat]? = some (some d)) (hqs : [some 6, some 7, some 8, some 9][i.toNat]? = some (some s)) (hsd : d ≠ s) (hd : SHC[d]? = some (0, 7, [])) (hs : SHC[s]? = some (0, 7, [])) (m : Nat) : ∀ (p : Int) (M : Mem), 0 ≤ p → p ≤ 7 → 7 - p < m → (∀ M1, fr [d] M M1 → (∀ j : Int, M1 d j = if p ≤ j ∧ j < 7 then M s j else M d j) → J SHC mi_X4_forgetOldest 39 [some (vR 4), some (vI i), some (vI 7)] [] M1 Q) → J SHC mi_X4_forgetOldest 9 [some (vR 4), some (vI i), some (vI p)] [] M Q := by
  induction m with
  | zero => intro p M h0 h1 h2; omega
  | succ m ih =>
  intro p M h0 h1 h2 K
  refine j_iload_n dX4_forgetOldest_9 rfl ?_
  refine j_bipush dX4_forgetOldest_10 (by decide +kernel) ?_
  refine j_icmp_ge 39 dX4_forgetOldest_12 rfl (by unfold inR; omega) (by unfold inR; omega) (fun c12 => ?_) (fun c12 => ?_)
  · have hp : p = 7 := by omega
    subst hp
    exact K M fr.rf (fun j => by rw [if_neg (by omega)])
  · refine j_aload_n dX4_forgetOldest_15 rfl ?_
    refine j_getR dX4_forgetOldest_16 f_X4_13 rfl rfl ?_
    refine j_iload_n dX4_forgetOldest_19 rfl ?_
    refine j_iconst dX4_forgetOldest_20 ?_
    refine j_isub dX4_forgetOldest_21 ?_
    refine j_aald (q := d) dX4_forgetOldest_22 rfl (by decide) (by omega) (by omega) (hqd) ?_
    refine j_iload_n dX4_forgetOldest_23 rfl ?_
    refine j_aload_n dX4_forgetOldest_24 rfl ?_
    refine j_getR dX4_forgetOldest_25 f_X4_13 rfl rfl ?_
    refine j_iload_n dX4_forgetOldest_28 rfl ?_
    refine j_aald (q := s) dX4_forgetOldest_29 rfl (by decide) (by omega) (by omega) (hqs) ?_
    refine j_iload_n dX4_forgetOldest_30 rfl ?_
    refine j_iald dX4_forgetOldest_31 (by first | rfl | assumption) (by decide) (by omega) (by omega) ?_
    refine j_iast dX4_forgetOldest_32 (by first | rfl | assumption) (by decide) (by omega) (by omega) ?_
    refine j_iinc dX4_forgetOldest_33 rfl (by decide) (nol rfl) (by simp only [List.set_cons_zero, List.set_cons_succ]; rfl) ?_
    refine j_goto 9 dX4_forgetOldest_36 rfl ?_
    refine ih (p + 1) _ (by omega) (by omega) (by omega) (fun M1 hf hj => K M1 ((fr.rf.w1 List.mem_cons_self).tr hf) (fun j => ?_))
    rw [hj j, wr_ne (b := s) _ _ (fun z => hsd z.1.symm)]
    by_cases q : j = p
    · subst q
      rw [if_neg (by omega), if_pos (by omega), wr_self]
    · rw [wr_ne _ _ (fun z => q z.2)]
      by_cases q2 : p ≤ j ∧ j < 7
      · rw [if_pos q2, if_pos (by omega)]
      · rw [if_neg q2, if_neg (by omega)]
theorem e_X4_forgetOldest {M : Mem} : J SHC mi_X4_forgetOldest 0 (ent [vR 4] 3) [] M (pv (fun M1 => fr [4, 6, 7, 8] M M1 ∧ M1 4 1 = 3 ∧ ∀ j : Int, 0 ≤ j → j < 7 → M1 6 j = M 7 j ∧ M1 7 j = M 8 j ∧ M1 8 j = M 9 j)) := by
  show J SHC mi_X4_forgetOldest 0 [some (vR 4), none, none] [] M _
  refine j_iconst dX4_forgetOldest_0 ?_
  refine j_istore_n dX4_forgetOldest_1 (by decide) (nol rfl) (by show List.set _ 1 _ = _; simp only [List.set_cons_zero, List.set_cons_succ]; rfl) ?_
  refine j_iload_n dX4_forgetOldest_2 rfl ?_
  refine j_iconst dX4_forgetOldest_3 ?_
  refine j_icmp_ge 45 dX4_forgetOldest_4 rfl (by unfold inR; omega) (by unfold inR; omega) (fun c4 => ?_) (fun c4 => ?_)
  · exfalso; first | omega | (simp at c4; done)
  refine j_iconst dX4_forgetOldest_7 ?_
  refine j_istore_n dX4_forgetOldest_8 (by decide) (nol rfl) (by show List.set _ 2 _ = _; simp only [List.set_cons_zero, List.set_cons_succ]; rfl) ?_
  refine l_copy (i := 1) (s := 7) (d := 6) (by omega) rfl rfl (by decide) rfl rfl 8 0 _ (by omega) (by omega) (by omega) (fun A1 hf1 hj1 => ?_)
  refine j_iinc dX4_forgetOldest_39 rfl (by decide) (nol rfl) (by simp only [List.set_cons_zero, List.set_cons_succ]; rfl) ?_
  refine j_goto 2 dX4_forgetOldest_42 rfl ?_
  refine j_iload_n dX4_forgetOldest_2 rfl ?_
  refine j_iconst dX4_forgetOldest_3 ?_
  refine j_icmp_ge 45 dX4_forgetOldest_4 rfl (by unfold inR; omega) (by unfold inR; omega) (fun c4 => ?_) (fun c4 => ?_)
  · exfalso; first | omega | (simp at c4; done)
  refine j_iconst dX4_forgetOldest_7 ?_
  refine j_istore_n dX4_forgetOldest_8 (by decide) (nol rfl) (by show List.set _ 2 _ = _; simp only [List.set_cons_zero, List.set_cons_succ]; rfl) ?_
  refine l_copy (i := (1 + 1)) (s := 8) (d := 7) (by omega) rfl rfl (by decide) rfl rfl 8 0 _ (by omega) (by omega) (by omega) (fun A2 hf2 hj2 => ?_)
  refine j_iinc dX4_forgetOldest_39 rfl (by decide) (nol rfl) (by simp only [List.set_cons_zero, List.set_cons_succ]; rfl) ?_
  refine j_goto 2 dX4_forgetOldest_42 rfl ?_
  refine j_iload_n dX4_forgetOldest_2 rfl ?_
  refine j_iconst dX4_forgetOldest_3 ?_
  refine j_icmp_ge 45 dX4_forgetOldest_4 rfl (by unfold inR; omega) (by unfold inR; omega) (fun c4 => ?_) (fun c4 => ?_)
  · exfalso; first | omega | (simp at c4; done)
  refine j_iconst dX4_forgetOldest_7 ?_
  refine j_istore_n dX4_forgetOldest_8 (by decide) (nol rfl) (by show List.set _ 2 _ = _; simp only [List.set_cons_zero, List.set_cons_succ]; rfl) ?_
  refine l_copy (i := (1 + 1 + 1)) (s := 9) (d := 8) (by omega) rfl rfl (by decide) rfl rfl 8 0 _ (by omega) (by omega) (by omega) (fun A3 hf3 hj3 => ?_)
  refine j_iinc dX4_forgetOldest_39 rfl (by decide) (nol rfl) (by simp only [List.set_cons_zero, List.set_cons_succ]; rfl) ?_
  refine j_goto 2 dX4_forgetOldest_42 rfl ?_
  refine j_iload_n dX4_forgetOldest_2 rfl ?_
  refine j_iconst dX4_forgetOldest_3 ?_
  refine j_icmp_ge 45 dX4_forgetOldest_4 rfl (by unfold inR; omega) (by unfold inR; omega) (fun c4 => ?_) (fun c4 => ?_)
  rotate_left
  · exfalso; first | omega | (simp at c4; done)
  refine j_aload_n dX4_forgetOldest_45 rfl ?_
  refine j_iconst dX4_forgetOldest_46 ?_
  refine j_putI (kz := 1) rfl dX4_forgetOldest_47 g_X4_16 rfl rfl ?_
  refine j_vret dX4_forgetOldest_50 rfl ?_
  refine ⟨rfl, (((hf1.up (by decide)).tr (hf2.up (by decide))).tr (hf3.up (by decide))).w1 (by decide), by rw [wr_self], fun j h0 h7 => ?_⟩
  have h := And.intro h0 h7
  rw [wr_ne (b := 6) _ _ (by omega), wr_ne (b := 7) _ _ (by omega), wr_ne (b := 8) _ _ (by omega)]
  refine ⟨?_, ?_, ?_⟩
  · rw [hf3 6 (by decide), hf2 6 (by decide), hj1 j, if_pos h]
  · rw [hf3 7 (by decide), hj2 j, if_pos h, hf1 8 (by decide)]
  · rw [hj3 j, if_pos h, hf2 9 (by decide), hf1 9 (by decide)]
