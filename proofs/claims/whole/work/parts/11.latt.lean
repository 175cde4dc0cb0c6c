/-! class Lattice and the small static methods: contracts over J -/
theorem tmod_fix {a b : Int} (hb : 0 < b) : (0 ≤ a → a.tmod b = a % b) ∧ (a < 0 → a.tmod b = 0 → a % b = 0) ∧ (a < 0 → ¬ a.tmod b = 0 → a.tmod b + b = a % b) := by
  refine ⟨fun h => Int.tmod_eq_emod_of_nonneg h, fun h h2 => ?_, fun h h2 => ?_⟩
  · rw [← Int.dvd_iff_tmod_eq_zero] at h2
    exact Int.emod_eq_zero_of_dvd h2
  · have h3 : ¬ b ∣ a := fun h4 => h2 (Int.dvd_iff_tmod_eq_zero.mp h4)
    have h5 := Int.tmod_eq_emod (a := a) (b := b)
    rw [if_neg (by omega)] at h5
    have : (b.natAbs : Int) = b := by omega
    omega
/-- what the lattice's two numbers are -/
def Lat (M : Mem) : Prop := (M 1 0 = 0 ∨ M 1 0 = 1) ∧ 1 ≤ M 1 1 ∧ M 1 1 ≤ 5 ∧ 1 ≤ M 1 1 * M 1 1 ∧ M 1 1 * M 1 1 ≤ 25
def tu (k : Int) : Int := if k = 1 then 6 else 4
theorem tu_c {k : Int} (h : k = 0 ∨ k = 1) : (k = 0 ∧ tu k = 4) ∨ (k = 1 ∧ tu k = 6) := by
  rcases h with rfl | rfl <;> simp [tu]

theorem e_max {SH : List Shp} {M : Mem} {a b : Int} (ha : inR a) (hb : inR b) : J SH mi_J9_max_7cf53 0 (ent [vI a, vI b] 2) [] M (pu (vI (max a b)) M) := by
  show J SH mi_J9_max_7cf53 0 [some (vI a), some (vI b)] [] M _
  refine j_iload_n dJ9_max_7cf53_0 rfl ?_
  refine j_iload_n dJ9_max_7cf53_1 rfl ?_
  refine j_icmp_lt 9 dJ9_max_7cf53_2 rfl (by assumption) (by assumption) (fun c2 => ?_) (fun c2 => ?_)
  · refine j_iload_n dJ9_max_7cf53_9 rfl ?_
    refine j_iret dJ9_max_7cf53_10 rfl ?_
    exact pu_i (by omega)
  · refine j_iload_n dJ9_max_7cf53_5 rfl ?_
    refine j_goto 10 dJ9_max_7cf53_6 rfl ?_
    refine j_iret dJ9_max_7cf53_10 rfl ?_
    exact pu_i (by omega)
theorem e_isInside {SH : List Shp} {M : Mem} {i l : Int} (hi : inR i) (hl : inR l) : J SH mi_X6_isInside 0 (ent [vI i, vI l] 2) [] M (bz (0 ≤ i ∧ i < l) M) := by
  show J SH mi_X6_isInside 0 [some (vI i), some (vI l)] [] M _
  refine j_iload_n dX6_isInside_0 rfl ?_
  refine j_if_lt 13 dX6_isInside_1 rfl (by first | assumption | exact inR0) (fun c1 => ?_) (fun c1 => ?_)
  · refine j_iconst dX6_isInside_13 ?_
    refine j_zret dX6_isInside_14 rfl (by first | exact Or.inl rfl | exact Or.inr rfl | omega) ?_
    exact bz_i (by omega)
  · refine j_iload_n dX6_isInside_4 rfl ?_
    refine j_iload_n dX6_isInside_5 rfl ?_
    refine j_icmp_ge 13 dX6_isInside_6 rfl (by first | assumption | exact inR0) (by first | assumption | exact inR0) (fun c6 => ?_) (fun c6 => ?_)
    · refine j_iconst dX6_isInside_13 ?_
      refine j_zret dX6_isInside_14 rfl (by first | exact Or.inl rfl | exact Or.inr rfl | omega) ?_
      exact bz_i (by omega)
    · refine j_iconst dX6_isInside_9 ?_
      refine j_goto 14 dX6_isInside_10 rfl ?_
      refine j_zret dX6_isInside_14 rfl (by first | exact Or.inl rfl | exact Or.inr rfl | omega) ?_
      exact bz_i (by omega)
theorem e_oneIf {SH : List Shp} {M : Mem} {z : Int} (h : z = 0 ∨ z = 1) : J SH mi_X6_oneIf 0 (ent [vI z] 1) [] M (pu (vI z) M) := by
  show J SH mi_X6_oneIf 0 [some (vI z)] [] M _
  refine j_iload_n dX6_oneIf_0 rfl ?_
  refine j_if_eq 8 dX6_oneIf_1 rfl (by unfold inR; omega) (fun c1 => ?_) (fun c1 => ?_)
  · refine j_iconst dX6_oneIf_8 ?_
    refine j_iret dX6_oneIf_9 rfl ?_
    exact pu_i (by omega)
  · refine j_iconst dX6_oneIf_4 ?_
    refine j_goto 9 dX6_oneIf_5 rfl ?_
    refine j_iret dX6_oneIf_9 rfl ?_
    exact pu_i (by omega)
theorem e_quotient {SH : List Shp} {M : Mem} {a b : Int} (ha : inR a) (hb : inR b) (h0 : 0 ≤ a) (hb0 : 0 < b) : J SH mi_X6_quotient 0 (ent [vI a, vI b] 2) [] M (pu (vI (a / b)) M) := by
  show J SH mi_X6_quotient 0 [some (vI a), some (vI b)] [] M _
  refine j_iload_n dX6_quotient_0 rfl ?_
  refine j_if_le 10 dX6_quotient_1 rfl (by first | assumption | exact inR0) (fun c1 => ?_) (fun c1 => ?_)
  · refine j_iconst dX6_quotient_10 ?_
    refine j_iret dX6_quotient_11 rfl ?_
    exact pu_i (by first | exact Int.tdiv_eq_ediv_of_nonneg h0 | omega)
  · refine j_iload_n dX6_quotient_4 rfl ?_
    refine j_iload_n dX6_quotient_5 rfl ?_
    refine j_idiv dX6_quotient_6 (by first | assumption | exact inR0) (by first | assumption | exact inR0) (by omega) ?_
    refine j_goto 11 dX6_quotient_7 rfl ?_
    refine j_iret dX6_quotient_11 rfl ?_
    exact pu_i (by first | exact Int.tdiv_eq_ediv_of_nonneg h0 | omega)
theorem e_remainder {SH : List Shp} {M : Mem} {a b : Int} (ha : inR a) (hb : inR b) (hb0 : 0 < b) : J SH mi_X6_remainder 0 (ent [vI a, vI b] 3) [] M (pu (vI (a % b)) M) := by
  have hm := tmod_fix (a := a) hb0
  have hm0 := Int.emod_nonneg a (show b ≠ 0 by omega)
  have hm1 := Int.emod_lt_of_pos a hb0
  have ha1 := ha.1
  have ha2 := ha.2
  have hb1 := hb.2
  have hmr : inR (a.tmod b) := by
    have h1 := Int.tmod_lt_of_pos a hb0
    have h2 := Int.lt_tmod_of_pos a hb0
    unfold inR; omega
  have hmr1 := hmr.1
  have hmr2 := hmr.2
  show J SH mi_X6_remainder 0 [some (vI a), some (vI b), none] [] M _
  refine j_iload_n dX6_remainder_0 rfl ?_
  refine j_if_le 10 dX6_remainder_1 rfl (by first | assumption | exact inR0 | (unfold inR; omega)) (fun c1 => ?_) (fun c1 => ?_)
  · refine j_iconst dX6_remainder_10 ?_
    refine j_istore_n dX6_remainder_11 (by decide) (nol rfl) (by show List.set _ 2 _ = _; simp only [List.set_cons_zero, List.set_cons_succ]; rfl) ?_
    refine j_iload_n dX6_remainder_12 rfl ?_
    refine j_if_ge 22 dX6_remainder_13 rfl (by first | assumption | exact inR0 | (unfold inR; omega)) (fun c13 => ?_) (fun c13 => ?_)
    · refine j_iload_n dX6_remainder_22 rfl ?_
      refine j_iret dX6_remainder_23 rfl ?_
      exact pu_i (by omega)
    · refine j_iload_n dX6_remainder_16 rfl ?_
      refine j_iload_n dX6_remainder_17 rfl ?_
      refine j_iadd dX6_remainder_18 ?_
      refine j_goto 23 dX6_remainder_19 rfl ?_
      refine j_iret dX6_remainder_23 rfl ?_
      exact pu_i (by omega)
  · refine j_iload_n dX6_remainder_4 rfl ?_
    refine j_iload_n dX6_remainder_5 rfl ?_
    refine j_irem dX6_remainder_6 (by first | assumption | exact inR0 | (unfold inR; omega)) (by first | assumption | exact inR0 | (unfold inR; omega)) (by omega) ?_
    refine j_goto 11 dX6_remainder_7 rfl ?_
    refine j_istore_n dX6_remainder_11 (by decide) (nol rfl) (by show List.set _ 2 _ = _; simp only [List.set_cons_zero, List.set_cons_succ]; rfl) ?_
    refine j_iload_n dX6_remainder_12 rfl ?_
    refine j_if_ge 22 dX6_remainder_13 rfl (by first | assumption | exact inR0 | (unfold inR; omega)) (fun c13 => ?_) (fun c13 => ?_)
    · refine j_iload_n dX6_remainder_22 rfl ?_
      refine j_iret dX6_remainder_23 rfl ?_
      exact pu_i (by omega)
    · refine j_iload_n dX6_remainder_16 rfl ?_
      refine j_iload_n dX6_remainder_17 rfl ?_
      refine j_iadd dX6_remainder_18 ?_
      refine j_goto 23 dX6_remainder_19 rfl ?_
      refine j_iret dX6_remainder_23 rfl ?_
      exact pu_i (by omega)
theorem e_X5_turns {M : Mem} (hL : Lat M)  : J SHC mi_X5_turns 0 (ent [vR 1] 1) [] M (pu (vI (tu (M 1 0))) M) := by
  obtain ⟨hk, hn1, hn5, hc1, hc2⟩ := id hL
  have ht := tu_c hk
  show J SHC mi_X5_turns 0 [some (vR 1)] [] M _
  refine j_aload_n dX5_turns_0 rfl ?_
  refine j_getI (kz := 0) rfl dX5_turns_1 f_X5_9 rfl rfl ?_
  refine j_iconst dX5_turns_4 ?_
  refine j_icmp_ne 13 dX5_turns_5 rfl (by unfold inR; omega) (by unfold inR; omega) (fun c5 => ?_) (fun c5 => ?_)
  · refine j_iconst dX5_turns_13 ?_
    refine j_iret dX5_turns_14 rfl ?_
    exact pu_i (by omega)
  · refine j_bipush dX5_turns_8 (by decide +kernel) ?_
    refine j_goto 14 dX5_turns_10 rfl ?_
    refine j_iret dX5_turns_14 rfl ?_
    exact pu_i (by omega)
theorem e_X5_parts {M : Mem} (hL : Lat M)  : J SHC mi_X5_parts 0 (ent [vR 1] 1) [] M (pu (vI (2 * tu (M 1 0))) M) := by
  obtain ⟨hk, hn1, hn5, hc1, hc2⟩ := id hL
  have ht := tu_c hk
  show J SHC mi_X5_parts 0 [some (vR 1)] [] M _
  refine j_iconst dX5_parts_0 ?_
  refine j_aload_n dX5_parts_1 rfl ?_
  refine j_V0p dX5_parts_2 ok_X5_turns v_X5_18 c_X5_turns rfl (e_X5_turns hL) ?_
  refine j_imul dX5_parts_5 ?_
  refine j_iret dX5_parts_6 rfl ?_
  exact pu_i (by first | rfl | omega | (simp; done))
theorem e_X5_cellCount {M : Mem} (hL : Lat M)  : J SHC mi_X5_cellCount 0 (ent [vR 1] 1) [] M (pu (vI (M 1 1 * M 1 1)) M) := by
  obtain ⟨hk, hn1, hn5, hc1, hc2⟩ := id hL
  have ht := tu_c hk
  show J SHC mi_X5_cellCount 0 [some (vR 1)] [] M _
  refine j_aload_n dX5_cellCount_0 rfl ?_
  refine j_getI (kz := 1) rfl dX5_cellCount_1 f_X5_15 rfl rfl ?_
  refine j_aload_n dX5_cellCount_4 rfl ?_
  refine j_getI (kz := 1) rfl dX5_cellCount_5 f_X5_15 rfl rfl ?_
  refine j_imul dX5_cellCount_8 ?_
  refine j_iret dX5_cellCount_9 rfl ?_
  exact pu_i (by first | rfl | omega | (simp; done))
theorem e_X5_codes {M : Mem} (hL : Lat M)  : J SHC mi_X5_codes 0 (ent [vR 1] 1) [] M (pu (vI (2 * tu (M 1 0) * (M 1 1 * M 1 1))) M) := by
  obtain ⟨hk, hn1, hn5, hc1, hc2⟩ := id hL
  have ht := tu_c hk
  show J SHC mi_X5_codes 0 [some (vR 1)] [] M _
  refine j_aload_n dX5_codes_0 rfl ?_
  refine j_V0p dX5_codes_1 ok_X5_parts v_X5_22 c_X5_parts rfl (e_X5_parts hL) ?_
  refine j_aload_n dX5_codes_4 rfl ?_
  refine j_V0p dX5_codes_5 ok_X5_cellCount v_X5_25 c_X5_cellCount rfl (e_X5_cellCount hL) ?_
  refine j_imul dX5_codes_8 ?_
  refine j_iret dX5_codes_9 rfl ?_
  exact pu_i (by first | rfl | omega | (simp; done))
theorem e_X5_hasCell {M : Mem} (hL : Lat M) {x y : Int} (hx : inR x) (hy : inR y) : J SHC mi_X5_hasCell 0 (ent [vR 1, vI x, vI y] 3) [] M (bz (0 ≤ x ∧ x < M 1 1 ∧ 0 ≤ y ∧ y < M 1 1) M) := by
  obtain ⟨hk, hn1, hn5, hc1, hc2⟩ := id hL
  have ht := tu_c hk
  show J SHC mi_X5_hasCell 0 [some (vR 1), some (vI x), some (vI y)] [] M _
  refine j_iload_n dX5_hasCell_0 rfl ?_
  refine j_aload_n dX5_hasCell_1 rfl ?_
  refine j_getI (kz := 1) rfl dX5_hasCell_2 f_X5_15 rfl rfl ?_
  refine j_N2z dX5_hasCell_5 ok_X6_isInside n_X5_28 (e_isInside (by first | assumption | (unfold inR; omega)) (by first | assumption | (unfold inR; omega))) (fun z5 M5 q5 => ?_)
  obtain ⟨rfl, q5⟩ := q5
  refine j_if_eq 26 dX5_hasCell_8 rfl (by unfold inR; omega) (fun c8 => ?_) (fun c8 => ?_)
  · refine j_iconst dX5_hasCell_26 ?_
    refine j_zret dX5_hasCell_27 rfl (by first | exact Or.inl rfl | exact Or.inr rfl | omega) ?_
    exact bz_i (by omega)
  · refine j_iload_n dX5_hasCell_11 rfl ?_
    refine j_aload_n dX5_hasCell_12 rfl ?_
    refine j_getI (kz := 1) rfl dX5_hasCell_13 f_X5_15 rfl rfl ?_
    refine j_N2z dX5_hasCell_16 ok_X6_isInside n_X5_28 (e_isInside (by first | assumption | (unfold inR; omega)) (by first | assumption | (unfold inR; omega))) (fun z16 M16 q16 => ?_)
    obtain ⟨rfl, q16⟩ := q16
    refine j_if_eq 26 dX5_hasCell_19 rfl (by unfold inR; omega) (fun c19 => ?_) (fun c19 => ?_)
    · refine j_iconst dX5_hasCell_26 ?_
      refine j_zret dX5_hasCell_27 rfl (by first | exact Or.inl rfl | exact Or.inr rfl | omega) ?_
      exact bz_i (by omega)
    · refine j_iconst dX5_hasCell_22 ?_
      refine j_goto 27 dX5_hasCell_23 rfl ?_
      refine j_zret dX5_hasCell_27 rfl (by first | exact Or.inl rfl | exact Or.inr rfl | omega) ?_
      exact bz_i (by omega)
theorem e_X5_hasMovement {M : Mem} (hL : Lat M) {p x y : Int} (hp : inR p) (hx : inR x) (hy : inR y) : J SHC mi_X5_hasMovement 0 (ent [vR 1, vI p, vI x, vI y] 4) [] M (bz (0 ≤ p ∧ p < 2 * tu (M 1 0) ∧ 0 ≤ x ∧ x < M 1 1 ∧ 0 ≤ y ∧ y < M 1 1) M) := by
  obtain ⟨hk, hn1, hn5, hc1, hc2⟩ := id hL
  have ht := tu_c hk
  show J SHC mi_X5_hasMovement 0 [some (vR 1), some (vI p), some (vI x), some (vI y)] [] M _
  refine j_iload_n dX5_hasMovement_0 rfl ?_
  refine j_aload_n dX5_hasMovement_1 rfl ?_
  refine j_V0p dX5_hasMovement_2 ok_X5_parts v_X5_22 c_X5_parts rfl (e_X5_parts hL) ?_
  refine j_N2z dX5_hasMovement_5 ok_X6_isInside n_X5_28 (e_isInside (by first | assumption | (unfold inR; omega)) (by first | assumption | (unfold inR; omega))) (fun z5 M5 q5 => ?_)
  obtain ⟨rfl, q5⟩ := q5
  refine j_if_eq 24 dX5_hasMovement_8 rfl (by unfold inR; omega) (fun c8 => ?_) (fun c8 => ?_)
  · refine j_iconst dX5_hasMovement_24 ?_
    refine j_zret dX5_hasMovement_25 rfl (by first | exact Or.inl rfl | exact Or.inr rfl | omega) ?_
    exact bz_i (by omega)
  · refine j_aload_n dX5_hasMovement_11 rfl ?_
    refine j_iload_n dX5_hasMovement_12 rfl ?_
    refine j_iload_n dX5_hasMovement_13 rfl ?_
    refine j_V2z dX5_hasMovement_14 ok_X5_hasCell v_X5_32 c_X5_hasCell rfl (e_X5_hasCell hL (by assumption) (by assumption)) (fun z14 M14 q14 => ?_)
    obtain ⟨rfl, q14⟩ := q14
    refine j_if_eq 24 dX5_hasMovement_17 rfl (by unfold inR; omega) (fun c17 => ?_) (fun c17 => ?_)
    · refine j_iconst dX5_hasMovement_24 ?_
      refine j_zret dX5_hasMovement_25 rfl (by first | exact Or.inl rfl | exact Or.inr rfl | omega) ?_
      exact bz_i (by omega)
    · refine j_iconst dX5_hasMovement_20 ?_
      refine j_goto 25 dX5_hasMovement_21 rfl ?_
      refine j_zret dX5_hasMovement_25 rfl (by first | exact Or.inl rfl | exact Or.inr rfl | omega) ?_
      exact bz_i (by omega)
theorem e_X5_hasCode {M : Mem} (hL : Lat M) {c : Int} (hc : inR c) : J SHC mi_X5_hasCode 0 (ent [vR 1, vI c] 2) [] M (bz (0 ≤ c ∧ c < 2 * tu (M 1 0) * (M 1 1 * M 1 1)) M) := by
  obtain ⟨hk, hn1, hn5, hc1, hc2⟩ := id hL
  have ht := tu_c hk
  have hcb : inR (2 * tu (M 1 0) * (M 1 1 * M 1 1)) := by
    unfold inR
    rcases ht with ⟨_, h⟩ | ⟨_, h⟩ <;> rw [h] <;> omega
  show J SHC mi_X5_hasCode 0 [some (vR 1), some (vI c)] [] M _
  refine j_iload_n dX5_hasCode_0 rfl ?_
  refine j_aload_n dX5_hasCode_1 rfl ?_
  refine j_V0p dX5_hasCode_2 ok_X5_codes v_X5_35 c_X5_codes rfl (e_X5_codes hL) ?_
  refine j_N2z dX5_hasCode_5 ok_X6_isInside n_X5_28 (e_isInside (by first | assumption | (unfold inR; omega)) (by first | assumption | (unfold inR; omega))) (fun z5 M5 q5 => ?_)
  obtain ⟨rfl, q5⟩ := q5
  refine j_zret dX5_hasCode_8 rfl (by first | exact Or.inl rfl | exact Or.inr rfl | omega) ?_
  exact bz_i (by omega)
theorem e_X5_cellOf {M : Mem} (hL : Lat M) {x y : Int} : J SHC mi_X5_cellOf 0 (ent [vR 1, vI x, vI y] 3) [] M (pu (vI (M 1 1 * x + y)) M) := by
  obtain ⟨hk, hn1, hn5, hc1, hc2⟩ := id hL
  have ht := tu_c hk
  show J SHC mi_X5_cellOf 0 [some (vR 1), some (vI x), some (vI y)] [] M _
  refine j_aload_n dX5_cellOf_0 rfl ?_
  refine j_getI (kz := 1) rfl dX5_cellOf_1 f_X5_15 rfl rfl ?_
  refine j_iload_n dX5_cellOf_4 rfl ?_
  refine j_imul dX5_cellOf_5 ?_
  refine j_iload_n dX5_cellOf_6 rfl ?_
  refine j_iadd dX5_cellOf_7 ?_
  refine j_iret dX5_cellOf_8 rfl ?_
  exact pu_i (by first | rfl | omega | (simp; done))
theorem e_X5_codeOf {M : Mem} (hL : Lat M) {p x y : Int} : J SHC mi_X5_codeOf 0 (ent [vR 1, vI p, vI x, vI y] 4) [] M (pu (vI (p * (M 1 1 * M 1 1) + (M 1 1 * x + y))) M) := by
  obtain ⟨hk, hn1, hn5, hc1, hc2⟩ := id hL
  have ht := tu_c hk
  show J SHC mi_X5_codeOf 0 [some (vR 1), some (vI p), some (vI x), some (vI y)] [] M _
  refine j_iload_n dX5_codeOf_0 rfl ?_
  refine j_aload_n dX5_codeOf_1 rfl ?_
  refine j_V0p dX5_codeOf_2 ok_X5_cellCount v_X5_25 c_X5_cellCount rfl (e_X5_cellCount hL) ?_
  refine j_imul dX5_codeOf_5 ?_
  refine j_aload_n dX5_codeOf_6 rfl ?_
  refine j_iload_n dX5_codeOf_7 rfl ?_
  refine j_iload_n dX5_codeOf_8 rfl ?_
  refine j_V2p dX5_codeOf_9 ok_X5_cellOf v_X5_38 c_X5_cellOf rfl (e_X5_cellOf hL) ?_
  refine j_iadd dX5_codeOf_12 ?_
  refine j_iret dX5_codeOf_13 rfl ?_
  exact pu_i (by first | rfl | omega | (simp; done))
theorem e_X5_partOf {M : Mem} (hL : Lat M) {c : Int} (h0 : 0 ≤ c) (h1 : c < 100000) : J SHC mi_X5_partOf 0 (ent [vR 1, vI c] 2) [] M (pu (vI (c / (M 1 1 * M 1 1))) M) := by
  obtain ⟨hk, hn1, hn5, hc1, hc2⟩ := id hL
  have ht := tu_c hk
  show J SHC mi_X5_partOf 0 [some (vR 1), some (vI c)] [] M _
  refine j_iload_n dX5_partOf_0 rfl ?_
  refine j_aload_n dX5_partOf_1 rfl ?_
  refine j_V0p dX5_partOf_2 ok_X5_cellCount v_X5_25 c_X5_cellCount rfl (e_X5_cellCount hL) ?_
  refine j_N2p dX5_partOf_5 ok_X6_quotient n_X5_42 (e_quotient (by first | assumption | (unfold inR; omega)) (by first | assumption | (unfold inR; omega)) (by omega) (by omega)) ?_
  refine j_iret dX5_partOf_8 rfl ?_
  exact pu_i (by first | rfl | omega | (simp; done))
theorem e_X5_shiftX {M : Mem} (hL : Lat M) {c : Int} (h0 : 0 ≤ c) (h1 : c < 100000) : J SHC mi_X5_shiftX 0 (ent [vR 1, vI c] 2) [] M (pu (vI (c % (M 1 1 * M 1 1) / M 1 1)) M) := by
  obtain ⟨hk, hn1, hn5, hc1, hc2⟩ := id hL
  have ht := tu_c hk
  have hm0 := Int.emod_nonneg c (show M 1 1 * M 1 1 ≠ 0 by omega)
  have hm1 := Int.emod_lt_of_pos c (show 0 < M 1 1 * M 1 1 by omega)
  show J SHC mi_X5_shiftX 0 [some (vR 1), some (vI c)] [] M _
  refine j_iload_n dX5_shiftX_0 rfl ?_
  refine j_aload_n dX5_shiftX_1 rfl ?_
  refine j_V0p dX5_shiftX_2 ok_X5_cellCount v_X5_25 c_X5_cellCount rfl (e_X5_cellCount hL) ?_
  refine j_N2p dX5_shiftX_5 ok_X6_remainder n_X5_45 (e_remainder (by first | assumption | (unfold inR; omega)) (by first | assumption | (unfold inR; omega)) (by omega)) ?_
  refine j_aload_n dX5_shiftX_8 rfl ?_
  refine j_getI (kz := 1) rfl dX5_shiftX_9 f_X5_15 rfl rfl ?_
  refine j_N2p dX5_shiftX_12 ok_X6_quotient n_X5_42 (e_quotient (by first | assumption | (unfold inR; omega)) (by first | assumption | (unfold inR; omega)) (by omega) (by omega)) ?_
  refine j_iret dX5_shiftX_15 rfl ?_
  exact pu_i (by first | rfl | omega | (simp; done))
theorem e_X5_shiftY {M : Mem} (hL : Lat M) {c : Int} (h0 : 0 ≤ c) (h1 : c < 100000) : J SHC mi_X5_shiftY 0 (ent [vR 1, vI c] 2) [] M (pu (vI (c % M 1 1)) M) := by
  obtain ⟨hk, hn1, hn5, hc1, hc2⟩ := id hL
  have ht := tu_c hk
  show J SHC mi_X5_shiftY 0 [some (vR 1), some (vI c)] [] M _
  refine j_iload_n dX5_shiftY_0 rfl ?_
  refine j_aload_n dX5_shiftY_1 rfl ?_
  refine j_getI (kz := 1) rfl dX5_shiftY_2 f_X5_15 rfl rfl ?_
  refine j_N2p dX5_shiftY_5 ok_X6_remainder n_X5_45 (e_remainder (by first | assumption | (unfold inR; omega)) (by first | assumption | (unfold inR; omega)) (by omega)) ?_
  refine j_iret dX5_shiftY_8 rfl ?_
  exact pu_i (by first | rfl | omega | (simp; done))
theorem e_X5_wrap {M : Mem} (hL : Lat M) {c : Int} (h : inR c) : J SHC mi_X5_wrap 0 (ent [vR 1, vI c] 2) [] M (pu (vI (c % M 1 1)) M) := by
  obtain ⟨hk, hn1, hn5, hc1, hc2⟩ := id hL
  have ht := tu_c hk
  show J SHC mi_X5_wrap 0 [some (vR 1), some (vI c)] [] M _
  refine j_iload_n dX5_wrap_0 rfl ?_
  refine j_aload_n dX5_wrap_1 rfl ?_
  refine j_getI (kz := 1) rfl dX5_wrap_2 f_X5_15 rfl rfl ?_
  refine j_N2p dX5_wrap_5 ok_X6_remainder n_X5_45 (e_remainder (by first | assumption | (unfold inR; omega)) (by first | assumption | (unfold inR; omega)) (by omega)) ?_
  refine j_iret dX5_wrap_8 rfl ?_
  exact pu_i (by first | rfl | omega | (simp; done))
