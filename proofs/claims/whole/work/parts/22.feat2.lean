/-! class Features: centering and the type -/
theorem l_khs_in {M : Mem} {p : Int} (hL : Lat M) (hm : M01 11 300 M) (hp : 0 ≤ p ∧ p < 2 * tu (M 1 0)) {u : Int} (hu : 0 ≤ u ∧ u < M 1 1) (hn : ¬ khs M p → True) (m : Nat) : ∀ (v : Int), 0 ≤ v → v ≤ M 1 1 → M 1 1 - v < m → (∀ v', 0 ≤ v' → v' < v → hT M u v' → kh M p u v') → ((∀ v', 0 ≤ v' → v' < M 1 1 → hT M u v' → kh M p u v') → J SHC mi_X1_keepsHalfSums 90 [some (vR 15), some (vI p), some (vI u), some (vI (M 1 1))] [] M (bz (khs M p) M)) → J SHC mi_X1_keepsHalfSums 49 [some (vR 15), some (vI p), some (vI u), some (vI v)] [] M (bz (khs M p) M) := by
  induction m with
  | zero => intro v h1 h2 h3; omega
  | succ m ih =>
  intro v h1 h2 h3 h4 K
  obtain ⟨hk, hn1, hn5, hc1, hc2⟩ := id hL
  have ht := tu_c hk
  refine j_iload_n dX1_keepsHalfSums_49 rfl ?_
  refine j_aload_n dX1_keepsHalfSums_50 rfl ?_
  refine j_getR dX1_keepsHalfSums_51 f_X1_22 rfl rfl ?_
  refine j_getI (kz := 1) rfl dX1_keepsHalfSums_54 f_X1_86 rfl rfl ?_
  refine j_icmp_ge 90 dX1_keepsHalfSums_57 rfl (by unfold inR; omega) (by unfold inR; omega) (fun c57 => ?_) (fun c57 => ?_)
  · have hv : v = M 1 1 := by omega
    subst hv
    exact K h4
  · refine j_aload_n dX1_keepsHalfSums_60 rfl ?_
    refine j_getR dX1_keepsHalfSums_61 f_X1_26 rfl rfl ?_
    refine j_iload_n dX1_keepsHalfSums_64 rfl ?_
    refine j_iload_n dX1_keepsHalfSums_65 rfl ?_
    refine j_V2z dX1_keepsHalfSums_66 ok_X3_hasTranslation v_X1_94 c_X3_hasTranslation rfl (e_X3_hasTranslation hL hm (by unfold inR; omega) (by unfold inR; omega)) (fun z66 M66 q66 => ?_)
    obtain ⟨rfl, q66⟩ := q66
    refine j_if_eq 84 dX1_keepsHalfSums_69 rfl (by unfold inR; omega) (fun c69 => ?_) (fun c69 => ?_)
    · refine j_iinc dX1_keepsHalfSums_84 rfl (by decide) (nol rfl) (by simp only [List.set_cons_zero, List.set_cons_succ]; rfl) ?_
      refine j_goto 49 dX1_keepsHalfSums_87 rfl ?_
      refine ih (v + 1) (by omega) (by omega) (by omega) (fun v' a b ht => ?_) K
      by_cases e : v' = v
      · rw [e] at ht ⊢
        rcases q66 with q | q
        · omega
        · exact absurd ht q.2
      · exact h4 v' a (by omega) ht
    · refine j_aload_n dX1_keepsHalfSums_72 rfl ?_
      refine j_iload_n dX1_keepsHalfSums_73 rfl ?_
      refine j_iload_n dX1_keepsHalfSums_74 rfl ?_
      refine j_iload_n dX1_keepsHalfSums_75 rfl ?_
      refine j_V3z dX1_keepsHalfSums_76 ok_X1_keepsHalfSum v_X1_90 c_X1_keepsHalfSum rfl (e_X1_keepsHalfSum hL hm hp (by omega) (by omega)) (fun z76 M76 q76 => ?_)
      obtain ⟨rfl, q76⟩ := q76
      refine j_if_ne 84 dX1_keepsHalfSums_79 rfl (by unfold inR; omega) (fun c79 => ?_) (fun c79 => ?_)
      · refine j_iinc dX1_keepsHalfSums_84 rfl (by decide) (nol rfl) (by simp only [List.set_cons_zero, List.set_cons_succ]; rfl) ?_
        refine j_goto 49 dX1_keepsHalfSums_87 rfl ?_
        refine ih (v + 1) (by omega) (by omega) (by omega) (fun v' a b ht => ?_) K
        by_cases e : v' = v
        · rw [e] at ht ⊢
          rcases q76 with q | q
          · exact q.2
          · omega
        · exact h4 v' a (by omega) ht
      · refine j_iconst dX1_keepsHalfSums_82 ?_
        refine j_zret dX1_keepsHalfSums_83 rfl (by first | exact Or.inl rfl | exact Or.inr rfl | omega) ?_
        refine bz_i (Or.inr ⟨rfl, fun h => ?_⟩)
        rcases q66 with q | q
        · rcases q76 with r | r
          · omega
          · exact r.2 (h.2.2 u v hu.1 hu.2 h1 (by omega) q.2)
        · omega
theorem l_khs {M : Mem} {p : Int} (hL : Lat M) (hm : M01 11 300 M) (hp : 0 ≤ p ∧ p < 2 * tu (M 1 0)) (h10 : kh M p (M 1 1) 0 ∧ kh M p 0 (M 1 1)) (m : Nat) : ∀ (u : Int) (w : Option PV), 0 ≤ u → u ≤ M 1 1 → M 1 1 - u < m → (∀ u' v', 0 ≤ u' → u' < u → 0 ≤ v' → v' < M 1 1 → hT M u' v' → kh M p u' v') → J SHC mi_X1_keepsHalfSums 36 [some (vR 15), some (vI p), some (vI u), w] [] M (bz (khs M p) M) := by
  induction m with
  | zero => intro u w h1 h2 h3; omega
  | succ m ih =>
  intro u w h1 h2 h3 h4
  obtain ⟨hk, hn1, hn5, hc1, hc2⟩ := id hL
  have ht := tu_c hk
  refine j_iload_n dX1_keepsHalfSums_36 rfl ?_
  refine j_aload_n dX1_keepsHalfSums_37 rfl ?_
  refine j_getR dX1_keepsHalfSums_38 f_X1_22 rfl rfl ?_
  refine j_getI (kz := 1) rfl dX1_keepsHalfSums_41 f_X1_86 rfl rfl ?_
  refine j_icmp_ge 96 dX1_keepsHalfSums_44 rfl (by unfold inR; omega) (by unfold inR; omega) (fun c44 => ?_) (fun c44 => ?_)
  · refine j_iconst dX1_keepsHalfSums_96 ?_
    refine j_zret dX1_keepsHalfSums_97 rfl (by first | exact Or.inl rfl | exact Or.inr rfl | omega) ?_
    exact bz_i (Or.inl ⟨rfl, h10.1, h10.2, fun u' v' a b c d ht => h4 u' v' a (by omega) c d ht⟩)
  · refine j_iconst dX1_keepsHalfSums_47 ?_
    refine j_istore_n dX1_keepsHalfSums_48 (by decide) (nol rfl) (by show List.set _ 3 _ = _; simp only [List.set_cons_zero, List.set_cons_succ]; rfl) ?_
    refine l_khs_in hL hm hp (u := u) ⟨h1, by omega⟩ (fun _ => trivial) 6 0 (by omega) (by omega) (by omega) (fun v' a b => by omega) (fun hu => ?_)
    refine j_iinc dX1_keepsHalfSums_90 rfl (by decide) (nol rfl) (by simp only [List.set_cons_zero, List.set_cons_succ]; rfl) ?_
    refine j_goto 36 dX1_keepsHalfSums_93 rfl ?_
    refine ih (u + 1) _ (by omega) (by omega) (by omega) (fun u' v' a b c d ht => ?_)
    by_cases e : u' = u
    · rw [e] at ht ⊢
      exact hu v' c d ht
    · exact h4 u' v' a (by omega) c d ht
theorem e_X1_keepsHalfSums {M : Mem} {p : Int} (hL : Lat M) (hm : M01 11 300 M) (hp : 0 ≤ p ∧ p < 2 * tu (M 1 0)) : J SHC mi_X1_keepsHalfSums 0 (ent [vR 15, vI p] 4) [] M (bz (khs M p) M) := by
  obtain ⟨hk, hn1, hn5, hc1, hc2⟩ := id hL
  have ht := tu_c hk
  show J SHC mi_X1_keepsHalfSums 0 [some (vR 15), some (vI p), none, none] [] M _
  refine j_aload_n dX1_keepsHalfSums_0 rfl ?_
  refine j_iload_n dX1_keepsHalfSums_1 rfl ?_
  refine j_aload_n dX1_keepsHalfSums_2 rfl ?_
  refine j_getR dX1_keepsHalfSums_3 f_X1_22 rfl rfl ?_
  refine j_getI (kz := 1) rfl dX1_keepsHalfSums_6 f_X1_86 rfl rfl ?_
  refine j_iconst dX1_keepsHalfSums_9 ?_
  refine j_V3z dX1_keepsHalfSums_10 ok_X1_keepsHalfSum v_X1_90 c_X1_keepsHalfSum rfl (e_X1_keepsHalfSum hL hm hp (by omega) (by omega)) (fun z10 M10 q10 => ?_)
  obtain ⟨rfl, q10⟩ := q10
  refine j_if_eq 32 dX1_keepsHalfSums_13 rfl (by unfold inR; omega) (fun c13 => ?_) (fun c13 => ?_)
  · refine j_iconst dX1_keepsHalfSums_32 ?_
    refine j_zret dX1_keepsHalfSums_33 rfl (by first | exact Or.inl rfl | exact Or.inr rfl | omega) ?_
    first
    | (rcases q26 with r | r
       · omega
       · exact bz_i (Or.inr ⟨rfl, fun h => r.2 h.2.1⟩))
    | (rcases q10 with q | q
       · omega
       · exact bz_i (Or.inr ⟨rfl, fun h => q.2 h.1⟩))
  · refine j_aload_n dX1_keepsHalfSums_16 rfl ?_
    refine j_iload_n dX1_keepsHalfSums_17 rfl ?_
    refine j_iconst dX1_keepsHalfSums_18 ?_
    refine j_aload_n dX1_keepsHalfSums_19 rfl ?_
    refine j_getR dX1_keepsHalfSums_20 f_X1_22 rfl rfl ?_
    refine j_getI (kz := 1) rfl dX1_keepsHalfSums_23 f_X1_86 rfl rfl ?_
    refine j_V3z dX1_keepsHalfSums_26 ok_X1_keepsHalfSum v_X1_90 c_X1_keepsHalfSum rfl (e_X1_keepsHalfSum hL hm hp (by omega) (by omega)) (fun z26 M26 q26 => ?_)
    obtain ⟨rfl, q26⟩ := q26
    refine j_if_ne 34 dX1_keepsHalfSums_29 rfl (by unfold inR; omega) (fun c29 => ?_) (fun c29 => ?_)
    · refine j_iconst dX1_keepsHalfSums_34 ?_
      refine j_istore_n dX1_keepsHalfSums_35 (by decide) (nol rfl) (by show List.set _ 2 _ = _; simp only [List.set_cons_zero, List.set_cons_succ]; rfl) ?_
      rcases q10 with q | q
      · rcases q26 with r | r
        · exact l_khs hL hm hp ⟨q.2, r.2⟩ 6 0 _ (by omega) (by omega) (by omega) (fun u' v' a b => by omega)
        · omega
      · omega
    · refine j_iconst dX1_keepsHalfSums_32 ?_
      refine j_zret dX1_keepsHalfSums_33 rfl (by first | exact Or.inl rfl | exact Or.inr rfl | omega) ?_
      first
      | (rcases q26 with r | r
         · omega
         · exact bz_i (Or.inr ⟨rfl, fun h => r.2 h.2.1⟩))
      | (rcases q10 with q | q
         · omega
         · exact bz_i (Or.inr ⟨rfl, fun h => q.2 h.1⟩))
theorem l_cen {M : Mem} (hL : Lat M) (hm : M01 11 300 M) (h17 : M01 17 12 M) (hmi : ∀ p : Int, 0 ≤ p → p < 12 → M 17 p = 1 → p < 2 * tu (M 1 0)) (m : Nat) : ∀ (p : Int), 0 ≤ p → p ≤ 12 → 12 - p < m → (∀ r : Int, 0 ≤ r → r < p → M 17 r = 1 → khs M r) → J SHC mi_X1_hasCentering 2 [some (vR 15), some (vI p)] [] M (bz (Cen M) M) := by
  induction m with
  | zero => intro p h1 h2 h3; omega
  | succ m ih =>
  intro p h1 h2 h3 h4
  have hz : p < 12 → M 17 p = 0 ∨ M 17 p = 1 := fun h => h17 p h1 h
  refine j_iload_n dX1_hasCentering_2 rfl ?_
  refine j_bipush dX1_hasCentering_3 (by decide +kernel) ?_
  refine j_icmp_ge 33 dX1_hasCentering_5 rfl (by first | (unfold inR; omega) | exact h17.r (by omega) (by omega)) (by first | (unfold inR; omega) | exact h17.r (by omega) (by omega)) (fun c5 => ?_) (fun c5 => ?_)
  · refine j_iconst dX1_hasCentering_33 ?_
    refine j_zret dX1_hasCentering_34 rfl (by first | exact Or.inl rfl | exact Or.inr rfl | omega) ?_
    exact bz_i (Or.inr ⟨rfl, fun ⟨r, a, b, c, d⟩ => d (h4 r a (by omega) c)⟩)
  · refine j_aload_n dX1_hasCentering_8 rfl ?_
    refine j_getR dX1_hasCentering_9 f_X1_15 rfl rfl ?_
    refine j_iload_n dX1_hasCentering_12 rfl ?_
    refine j_bald dX1_hasCentering_13 (by first | rfl | assumption) (by decide) (by omega) (by omega) ?_
    refine j_if_eq 27 dX1_hasCentering_14 rfl (by first | (unfold inR; omega) | exact h17.r (by omega) (by omega)) (fun c14 => ?_) (fun c14 => ?_)
    · refine j_iinc dX1_hasCentering_27 rfl (by decide) (nol rfl) (by simp only [List.set_cons_zero, List.set_cons_succ]; rfl) ?_
      refine j_goto 2 dX1_hasCentering_30 rfl ?_
      refine ih (p + 1) (by omega) (by omega) (by omega) (fun r a b hr => ?_)
      by_cases e : r = p
      · rw [e] at hr ⊢
        omega
      · exact h4 r a (by omega) hr
    · refine j_aload_n dX1_hasCentering_17 rfl ?_
      refine j_iload_n dX1_hasCentering_18 rfl ?_
      refine j_V1z dX1_hasCentering_19 ok_X1_keepsHalfSums v_X1_83 c_X1_keepsHalfSums rfl (e_X1_keepsHalfSums hL hm ⟨by omega, hmi p (by omega) (by omega) (by have := hz (by omega); omega)⟩) (fun z19 M19 q19 => ?_)
      obtain ⟨rfl, q19⟩ := q19
      refine j_if_ne 27 dX1_hasCentering_22 rfl (by first | (unfold inR; omega) | exact h17.r (by omega) (by omega)) (fun c22 => ?_) (fun c22 => ?_)
      · refine j_iinc dX1_hasCentering_27 rfl (by decide) (nol rfl) (by simp only [List.set_cons_zero, List.set_cons_succ]; rfl) ?_
        refine j_goto 2 dX1_hasCentering_30 rfl ?_
        refine ih (p + 1) (by omega) (by omega) (by omega) (fun r a b hr => ?_)
        by_cases e : r = p
        · rw [e] at hr ⊢
          rcases q19 with q | q
          · exact q.2
          · omega
        · exact h4 r a (by omega) hr
      · refine j_iconst dX1_hasCentering_25 ?_
        refine j_zret dX1_hasCentering_26 rfl (by first | exact Or.inl rfl | exact Or.inr rfl | omega) ?_
        rcases q19 with q | q
        · omega
        · exact bz_i (Or.inl ⟨rfl, p, by omega, by omega, by have := hz (by omega); omega, q.2⟩)
theorem e_X1_hasCentering {M : Mem} (hL : Lat M) (hm : M01 11 300 M) (h17 : M01 17 12 M) (hmi : ∀ p : Int, 0 ≤ p → p < 12 → M 17 p = 1 → p < 2 * tu (M 1 0)) : J SHC mi_X1_hasCentering 0 (ent [vR 15] 2) [] M (bz (Cen M) M) := by
  show J SHC mi_X1_hasCentering 0 [some (vR 15), none] [] M _
  refine j_iconst dX1_hasCentering_0 ?_
  refine j_istore_n dX1_hasCentering_1 (by decide) (nol rfl) (by show List.set _ 1 _ = _; simp only [List.set_cons_zero, List.set_cons_succ]; rfl) ?_
  exact l_cen hL hm h17 hmi 13 0 (by omega) (by omega) (by omega) (fun r a b => by omega)
theorem l_lea_in {M : Mem} {Q : Option PV → Mem → Prop} (hL : Lat M) (hm : M01 11 300 M) {x : Int} (hx : -M 1 1 ≤ x ∧ x ≤ M 1 1) (m : Nat) : ∀ (y z : Int) (w5 : Option PV), -M 1 1 ≤ y → y ≤ M 1 1 + 1 → M 1 1 + 1 - y < m → (0 < z ∧ z ≤ M 1 1 * M 1 1 ∧ (z = M 1 1 * M 1 1 ∨ ∃ x y : Int, -M 1 1 ≤ x ∧ x ≤ M 1 1 ∧ -M 1 1 ≤ y ∧ y ≤ M 1 1 ∧ hT M x y ∧ z = sqL x y)) → (∀ y', -M 1 1 ≤ y' → y' < y → 0 < sqL x y' → hT M x y' → z ≤ sqL x y') → (∀ (z' : Int) (w4 w5 : Option PV), (0 < z' ∧ z' ≤ M 1 1 * M 1 1 ∧ (z' = M 1 1 * M 1 1 ∨ ∃ x y : Int, -M 1 1 ≤ x ∧ x ≤ M 1 1 ∧ -M 1 1 ≤ y ∧ y ≤ M 1 1 ∧ hT M x y ∧ z' = sqL x y)) → z' ≤ z → (∀ y', -M 1 1 ≤ y' → y' ≤ M 1 1 → 0 < sqL x y' → hT M x y' → z' ≤ sqL x y') → J SHC mi_X1_leastSquaredLength 73 [some (vR 15), some (vI (M 1 1)), some (vI z'), some (vI x), w4, w5] [] M Q) → J SHC mi_X1_leastSquaredLength 26 [some (vR 15), some (vI (M 1 1)), some (vI z), some (vI x), some (vI y), w5] [] M Q := by
  induction m with
  | zero => intro y z w5 h1 h2 h3; omega
  | succ m ih =>
  intro y z w5 h1 h2 h3 hz h4 K
  obtain ⟨hk, hn1, hn5, hc1, hc2⟩ := id hL
  have ht := tu_c hk
  have hs : y ≤ M 1 1 → -75 ≤ sqL x y ∧ sqL x y ≤ 75 := fun h => sqL_b (by omega) (by omega)
  obtain ⟨hz1, hz2, hz3⟩ := id hz
  refine j_iload dX1_leastSquaredLength_26 rfl ?_
  refine j_iload_n dX1_leastSquaredLength_28 rfl ?_
  refine j_icmp_gt 73 dX1_leastSquaredLength_29 rfl (by first | (unfold inR; omega) | (have := hs (by omega); unfold inR; omega)) (by first | (unfold inR; omega) | (have := hs (by omega); unfold inR; omega)) (fun c29 => ?_) (fun c29 => ?_)
  · exact K z _ _ hz (by omega) (fun y' a b => h4 y' a (by omega))
  · refine j_iload_n dX1_leastSquaredLength_32 rfl ?_
    refine j_iload dX1_leastSquaredLength_33 rfl ?_
    refine j_S2p dX1_leastSquaredLength_35 ok_X1_squaredLength s_X1_136 (e_X1_squaredLength) ?_
    refine j_istore dX1_leastSquaredLength_38 (by decide) (nol rfl) (by show List.set _ 5 _ = _; simp only [List.set_cons_zero, List.set_cons_succ]; rfl) ?_
    refine j_iload dX1_leastSquaredLength_40 rfl ?_
    refine j_if_le 67 dX1_leastSquaredLength_42 rfl (by first | (unfold inR; omega) | (have := hs (by omega); unfold inR; omega)) (fun c42 => ?_) (fun c42 => ?_)
    · refine j_iinc dX1_leastSquaredLength_67 rfl (by decide) (nol rfl) (by simp only [List.set_cons_zero, List.set_cons_succ]; rfl) ?_
      refine j_goto 26 dX1_leastSquaredLength_70 rfl ?_
      refine ih (y + 1) z _ (by omega) (by omega) (by omega) hz (fun y' a b h0 ht => ?_) K
      by_cases e : y' = y
      · rw [e] at h0 ht ⊢
        omega
      · exact h4 y' a (by omega) h0 ht
    · refine j_iload dX1_leastSquaredLength_45 rfl ?_
      refine j_iload_n dX1_leastSquaredLength_47 rfl ?_
      refine j_icmp_ge 67 dX1_leastSquaredLength_48 rfl (by first | (unfold inR; omega) | (have := hs (by omega); unfold inR; omega)) (by first | (unfold inR; omega) | (have := hs (by omega); unfold inR; omega)) (fun c48 => ?_) (fun c48 => ?_)
      · refine j_iinc dX1_leastSquaredLength_67 rfl (by decide) (nol rfl) (by simp only [List.set_cons_zero, List.set_cons_succ]; rfl) ?_
        refine j_goto 26 dX1_leastSquaredLength_70 rfl ?_
        refine ih (y + 1) z _ (by omega) (by omega) (by omega) hz (fun y' a b h0 ht => ?_) K
        by_cases e : y' = y
        · rw [e] at h0 ht ⊢
          omega
        · exact h4 y' a (by omega) h0 ht
      · refine j_aload_n dX1_leastSquaredLength_51 rfl ?_
        refine j_getR dX1_leastSquaredLength_52 f_X1_26 rfl rfl ?_
        refine j_iload_n dX1_leastSquaredLength_55 rfl ?_
        refine j_iload dX1_leastSquaredLength_56 rfl ?_
        refine j_V2z dX1_leastSquaredLength_58 ok_X3_hasTranslation v_X1_94 c_X3_hasTranslation rfl (e_X3_hasTranslation hL hm (by unfold inR; omega) (by unfold inR; omega)) (fun z58 M58 q58 => ?_)
        obtain ⟨rfl, q58⟩ := q58
        refine j_if_eq 67 dX1_leastSquaredLength_61 rfl (by first | (unfold inR; omega) | (have := hs (by omega); unfold inR; omega)) (fun c61 => ?_) (fun c61 => ?_)
        · refine j_iinc dX1_leastSquaredLength_67 rfl (by decide) (nol rfl) (by simp only [List.set_cons_zero, List.set_cons_succ]; rfl) ?_
          refine j_goto 26 dX1_leastSquaredLength_70 rfl ?_
          refine ih (y + 1) z _ (by omega) (by omega) (by omega) hz (fun y' a b h0 ht => ?_) K
          by_cases e : y' = y
          · rw [e] at h0 ht ⊢
            rcases q58 with q | q
            · omega
            · exact absurd ht q.2
          · exact h4 y' a (by omega) h0 ht
        · refine j_iload dX1_leastSquaredLength_64 rfl ?_
          refine j_istore_n dX1_leastSquaredLength_66 (by decide) (nol rfl) (by show List.set _ 2 _ = _; simp only [List.set_cons_zero, List.set_cons_succ]; rfl) ?_
          refine j_iinc dX1_leastSquaredLength_67 rfl (by decide) (nol rfl) (by simp only [List.set_cons_zero, List.set_cons_succ]; rfl) ?_
          refine j_goto 26 dX1_leastSquaredLength_70 rfl ?_
          rcases q58 with q | q
          · refine ih (y + 1) (sqL x y) _ (by omega) (by omega) (by omega) ⟨by omega, by omega, Or.inr ⟨x, y, by omega, by omega, by omega, by omega, q.2, rfl⟩⟩ (fun y' a b h0 ht => ?_) (fun z' w4 w5 a b c => K z' w4 w5 a (by omega) c)
            by_cases e : y' = y
            · rw [e]; omega
            · have := h4 y' a (by omega) h0 ht
              omega
          · omega
theorem l_lea {M : Mem} (hL : Lat M) (hm : M01 11 300 M) (m : Nat) : ∀ (x z : Int) (w4 w5 : Option PV), -M 1 1 ≤ x → x ≤ M 1 1 + 1 → M 1 1 + 1 - x < m → (0 < z ∧ z ≤ M 1 1 * M 1 1 ∧ (z = M 1 1 * M 1 1 ∨ ∃ x y : Int, -M 1 1 ≤ x ∧ x ≤ M 1 1 ∧ -M 1 1 ≤ y ∧ y ≤ M 1 1 ∧ hT M x y ∧ z = sqL x y)) → (∀ x' y' : Int, -M 1 1 ≤ x' → x' < x → -M 1 1 ≤ y' → y' ≤ M 1 1 → 0 < sqL x' y' → hT M x' y' → z ≤ sqL x' y') → J SHC mi_X1_leastSquaredLength 17 [some (vR 15), some (vI (M 1 1)), some (vI z), some (vI x), w4, w5] [] M (pz (fun z M1 => M = M1 ∧ Lea M z)) := by
  induction m with
  | zero => intro x z w4 w5 h1 h2 h3; omega
  | succ m ih =>
  intro x z w4 w5 h1 h2 h3 hz h4
  obtain ⟨hk, hn1, hn5, hc1, hc2⟩ := id hL
  have ht := tu_c hk
  refine j_iload_n dX1_leastSquaredLength_17 rfl ?_
  refine j_iload_n dX1_leastSquaredLength_18 rfl ?_
  refine j_icmp_gt 79 dX1_leastSquaredLength_19 rfl (by unfold inR; omega) (by unfold inR; omega) (fun c19 => ?_) (fun c19 => ?_)
  · refine j_iload_n dX1_leastSquaredLength_79 rfl ?_
    refine j_iret dX1_leastSquaredLength_80 rfl ?_
    exact ⟨z, rfl, rfl, hz.1, hz.2.1, hz.2.2, fun x' y' a b c d e f => h4 x' y' a (by omega) c d e f⟩
  · refine j_iload_n dX1_leastSquaredLength_22 rfl ?_
    refine j_ineg dX1_leastSquaredLength_23 ?_
    refine j_istore dX1_leastSquaredLength_24 (by decide) (nol rfl) (by show List.set _ 4 _ = _; simp only [List.set_cons_zero, List.set_cons_succ]; rfl) ?_
    refine l_lea_in hL hm (x := x) ⟨by omega, by omega⟩ 13 (-M 1 1) z _ (by omega) (by omega) (by omega) hz (fun y' a b => by omega) (fun z' w4' w5' a b c => ?_)
    refine j_iinc dX1_leastSquaredLength_73 rfl (by decide) (nol rfl) (by simp only [List.set_cons_zero, List.set_cons_succ]; rfl) ?_
    refine j_goto 17 dX1_leastSquaredLength_76 rfl ?_
    refine ih (x + 1) z' _ _ (by omega) (by omega) (by omega) a (fun x' y' d1 d2 d3 d4 d5 d6 => ?_)
    by_cases e : x' = x
    · rw [e] at d5 d6 ⊢
      exact c y' d3 d4 d5 d6
    · have := h4 x' y' d1 (by omega) d3 d4 d5 d6
      omega
theorem e_X1_leastSquaredLength {M : Mem} (hL : Lat M) (hm : M01 11 300 M) : J SHC mi_X1_leastSquaredLength 0 (ent [vR 15] 6) [] M (pz (fun z M1 => M = M1 ∧ Lea M z)) := by
  obtain ⟨hk, hn1, hn5, hc1, hc2⟩ := id hL
  have ht := tu_c hk
  have e0 : sqL (M 1 1) 0 = M 1 1 * M 1 1 := by unfold sqL; simp
  show J SHC mi_X1_leastSquaredLength 0 [some (vR 15), none, none, none, none, none] [] M _
  refine j_aload_n dX1_leastSquaredLength_0 rfl ?_
  refine j_getR dX1_leastSquaredLength_1 f_X1_22 rfl rfl ?_
  refine j_getI (kz := 1) rfl dX1_leastSquaredLength_4 f_X1_86 rfl rfl ?_
  refine j_istore_n dX1_leastSquaredLength_7 (by decide) (nol rfl) (by show List.set _ 1 _ = _; simp only [List.set_cons_zero, List.set_cons_succ]; rfl) ?_
  refine j_iload_n dX1_leastSquaredLength_8 rfl ?_
  refine j_iconst dX1_leastSquaredLength_9 ?_
  refine j_S2p dX1_leastSquaredLength_10 ok_X1_squaredLength s_X1_136 (e_X1_squaredLength) ?_
  refine j_istore_n dX1_leastSquaredLength_13 (by decide) (nol rfl) (by show List.set _ 2 _ = _; simp only [List.set_cons_zero, List.set_cons_succ]; rfl) ?_
  refine j_iload_n dX1_leastSquaredLength_14 rfl ?_
  refine j_ineg dX1_leastSquaredLength_15 ?_
  refine j_istore_n dX1_leastSquaredLength_16 (by decide) (nol rfl) (by show List.set _ 3 _ = _; simp only [List.set_cons_zero, List.set_cons_succ]; rfl) ?_
  rw [e0]
  exact l_lea hL hm 13 (-M 1 1) (M 1 1 * M 1 1) _ _ (by omega) (by omega) (by omega) ⟨by omega, by omega, Or.inl rfl⟩ (fun x' y' a b => by omega)
theorem l_fix {M : Mem} {x y : Int} (hL : Lat M) (hm : M01 16 12 M) (hx : -5 ≤ x ∧ x ≤ 5) (hy : -5 ≤ y ∧ y ≤ 5) (m : Nat) : ∀ (p : Int), tu (M 1 0) ≤ p → p ≤ 2 * tu (M 1 0) → 2 * tu (M 1 0) - p < m → (∀ r : Int, tu (M 1 0) ≤ r → r < p → M 16 r = 1 → imx (M 1 0) r x y = x → ¬ imy (M 1 0) r x y = y) → J SHC mi_X1_isFixedByReversal 8 [some (vR 15), some (vI x), some (vI y), some (vI p)] [] M (bz (Fix M x y) M) := by
  induction m with
  | zero => intro p h1 h2 h3; omega
  | succ m ih =>
  intro p h1 h2 h3 h4
  obtain ⟨hk, hn1, hn5, hc1, hc2⟩ := id hL
  have ht := tu_c hk
  have hib := im_b5 (M 1 0) p hx hy
  refine j_iload_n dX1_isFixedByReversal_8 rfl ?_
  refine j_aload_n dX1_isFixedByReversal_9 rfl ?_
  refine j_getR dX1_isFixedByReversal_10 f_X1_22 rfl rfl ?_
  refine j_V0p dX1_isFixedByReversal_13 ok_X5_parts v_X1_80 c_X5_parts rfl (e_X5_parts hL) ?_
  refine j_icmp_ge 63 dX1_isFixedByReversal_16 rfl (by unfold inR; omega) (by unfold inR; omega) (fun c16 => ?_) (fun c16 => ?_)
  · refine j_iconst dX1_isFixedByReversal_63 ?_
    refine j_zret dX1_isFixedByReversal_64 rfl (by first | exact Or.inl rfl | exact Or.inr rfl | omega) ?_
    exact bz_i (Or.inr ⟨rfl, fun ⟨r, a, b, c, d, e⟩ => h4 r a (by omega) c d e⟩)
  · refine j_aload_n dX1_isFixedByReversal_19 rfl ?_
    refine j_iload_n dX1_isFixedByReversal_20 rfl ?_
    refine j_V1z dX1_isFixedByReversal_21 ok_X1_occurs v_X1_67 c_X1_occurs rfl (e_X1_occurs hm (by omega)) (fun z21 M21 q21 => ?_)
    obtain ⟨rfl, q21⟩ := q21
    refine j_if_eq 57 dX1_isFixedByReversal_24 rfl (by unfold inR; omega) (fun c24 => ?_) (fun c24 => ?_)
    · refine j_iinc dX1_isFixedByReversal_57 rfl (by decide) (nol rfl) (by simp only [List.set_cons_zero, List.set_cons_succ]; rfl) ?_
      refine j_goto 8 dX1_isFixedByReversal_60 rfl ?_
      refine ih (p + 1) (by omega) (by omega) (by omega) (fun r a b hr e1 e2 => ?_)
      by_cases e : r = p
      · rw [e] at hr e1 e2
        omega
      · exact h4 r a (by omega) hr e1 e2
    · refine j_aload_n dX1_isFixedByReversal_27 rfl ?_
      refine j_getR dX1_isFixedByReversal_28 f_X1_22 rfl rfl ?_
      refine j_iload_n dX1_isFixedByReversal_31 rfl ?_
      refine j_iload_n dX1_isFixedByReversal_32 rfl ?_
      refine j_iload_n dX1_isFixedByReversal_33 rfl ?_
      refine j_V3p dX1_isFixedByReversal_34 ok_X5_imageX v_X1_97 c_X5_imageX rfl (e_X5_imageX hL ⟨by omega, by omega⟩) ?_
      refine j_iload_n dX1_isFixedByReversal_37 rfl ?_
      refine j_icmp_ne 57 dX1_isFixedByReversal_38 rfl (by unfold inR; omega) (by unfold inR; omega) (fun c38 => ?_) (fun c38 => ?_)
      · refine j_iinc dX1_isFixedByReversal_57 rfl (by decide) (nol rfl) (by simp only [List.set_cons_zero, List.set_cons_succ]; rfl) ?_
        refine j_goto 8 dX1_isFixedByReversal_60 rfl ?_
        refine ih (p + 1) (by omega) (by omega) (by omega) (fun r a b hr e1 e2 => ?_)
        by_cases e : r = p
        · rw [e] at hr e1 e2
          exact c38 e1
        · exact h4 r a (by omega) hr e1 e2
      · refine j_aload_n dX1_isFixedByReversal_41 rfl ?_
        refine j_getR dX1_isFixedByReversal_42 f_X1_22 rfl rfl ?_
        refine j_iload_n dX1_isFixedByReversal_45 rfl ?_
        refine j_iload_n dX1_isFixedByReversal_46 rfl ?_
        refine j_iload_n dX1_isFixedByReversal_47 rfl ?_
        refine j_V3p dX1_isFixedByReversal_48 ok_X5_imageY v_X1_101 c_X5_imageY rfl (e_X5_imageY hL ⟨by omega, by omega⟩) ?_
        refine j_iload_n dX1_isFixedByReversal_51 rfl ?_
        refine j_icmp_ne 57 dX1_isFixedByReversal_52 rfl (by unfold inR; omega) (by unfold inR; omega) (fun c52 => ?_) (fun c52 => ?_)
        · refine j_iinc dX1_isFixedByReversal_57 rfl (by decide) (nol rfl) (by simp only [List.set_cons_zero, List.set_cons_succ]; rfl) ?_
          refine j_goto 8 dX1_isFixedByReversal_60 rfl ?_
          refine ih (p + 1) (by omega) (by omega) (by omega) (fun r a b hr e1 e2 => ?_)
          by_cases e : r = p
          · rw [e] at hr e1 e2
            exact c52 e2
          · exact h4 r a (by omega) hr e1 e2
        · refine j_iconst dX1_isFixedByReversal_55 ?_
          refine j_zret dX1_isFixedByReversal_56 rfl (by first | exact Or.inl rfl | exact Or.inr rfl | omega) ?_
          exact bz_i (Or.inl ⟨rfl, p, by omega, by omega, by omega, c38, c52⟩)
theorem e_X1_isFixedByReversal {M : Mem} {x y : Int} (hL : Lat M) (hm : M01 16 12 M) (hx : -5 ≤ x ∧ x ≤ 5) (hy : -5 ≤ y ∧ y ≤ 5) : J SHC mi_X1_isFixedByReversal 0 (ent [vR 15, vI x, vI y] 4) [] M (bz (Fix M x y) M) := by
  show J SHC mi_X1_isFixedByReversal 0 [some (vR 15), some (vI x), some (vI y), none] [] M _
  refine j_aload_n dX1_isFixedByReversal_0 rfl ?_
  refine j_getR dX1_isFixedByReversal_1 f_X1_22 rfl rfl ?_
  refine j_V0p dX1_isFixedByReversal_4 ok_X5_turns v_X1_64 c_X5_turns rfl (e_X5_turns hL) ?_
  refine j_istore_n dX1_isFixedByReversal_7 (by decide) (nol rfl) (by show List.set _ 3 _ = _; simp only [List.set_cons_zero, List.set_cons_succ]; rfl) ?_
  exact l_fix hL hm hx hy 7 _ (by omega) (by have := tu_c hL.1; omega) (by have := tu_c hL.1; omega) (fun r a b => by omega)
theorem l_fs_in {M : Mem} {ls : Int} (hL : Lat M) (hm : M01 11 300 M) (h16 : M01 16 12 M) (hls : -75 ≤ ls ∧ ls ≤ 75) {x : Int} (hx : -M 1 1 ≤ x ∧ x ≤ M 1 1) (m : Nat) : ∀ (y : Int), -M 1 1 ≤ y → y ≤ M 1 1 + 1 → M 1 1 + 1 - y < m → (∀ y', -M 1 1 ≤ y' → y' < y → sqL x y' = ls → hT M x y' → ¬ Fix M x y') → (∀ (w4 : Option PV), (∀ y', -M 1 1 ≤ y' → y' ≤ M 1 1 → sqL x y' = ls → hT M x y' → ¬ Fix M x y') → J SHC mi_X1_fixesShortestVector 72 [some (vR 15), some (vI (M 1 1)), some (vI ls), some (vI x), w4] [] M (pz (fun z M1 => M = M1 ∧ ((z = 1 ∧ FSh M ls) ∨ (z = 0 ∧ ¬ FSh M ls))))) → J SHC mi_X1_fixesShortestVector 25 [some (vR 15), some (vI (M 1 1)), some (vI ls), some (vI x), some (vI y)] [] M (pz (fun z M1 => M = M1 ∧ ((z = 1 ∧ FSh M ls) ∨ (z = 0 ∧ ¬ FSh M ls)))) := by
  induction m with
  | zero => intro y h1 h2 h3; omega
  | succ m ih =>
  intro y h1 h2 h3 h4 K
  obtain ⟨hk, hn1, hn5, hc1, hc2⟩ := id hL
  have ht := tu_c hk
  have hs : y ≤ M 1 1 → -75 ≤ sqL x y ∧ sqL x y ≤ 75 := fun h => sqL_b (by omega) (by omega)
  refine j_iload dX1_fixesShortestVector_25 rfl ?_
  refine j_iload_n dX1_fixesShortestVector_27 rfl ?_
  refine j_icmp_gt 72 dX1_fixesShortestVector_28 rfl (by first | (unfold inR; omega) | (have := hs (by omega); unfold inR; omega)) (by first | (unfold inR; omega) | (have := hs (by omega); unfold inR; omega)) (fun c28 => ?_) (fun c28 => ?_)
  · exact K _ (fun y' a b => h4 y' a (by omega))
  · refine j_iload_n dX1_fixesShortestVector_31 rfl ?_
    refine j_iload dX1_fixesShortestVector_32 rfl ?_
    refine j_S2p dX1_fixesShortestVector_34 ok_X1_squaredLength s_X1_136 (e_X1_squaredLength) ?_
    refine j_iload_n dX1_fixesShortestVector_37 rfl ?_
    refine j_icmp_ne 66 dX1_fixesShortestVector_38 rfl (by first | (unfold inR; omega) | (have := hs (by omega); unfold inR; omega)) (by first | (unfold inR; omega) | (have := hs (by omega); unfold inR; omega)) (fun c38 => ?_) (fun c38 => ?_)
    · refine j_iinc dX1_fixesShortestVector_66 rfl (by decide) (nol rfl) (by simp only [List.set_cons_zero, List.set_cons_succ]; rfl) ?_
      refine j_goto 25 dX1_fixesShortestVector_69 rfl ?_
      refine ih (y + 1) (by omega) (by omega) (by omega) (fun y' a b h0 ht => ?_) K
      by_cases e : y' = y
      · rw [e] at h0 ht ⊢
        exact absurd h0 c38
      · exact h4 y' a (by omega) h0 ht
    · refine j_aload_n dX1_fixesShortestVector_41 rfl ?_
      refine j_getR dX1_fixesShortestVector_42 f_X1_26 rfl rfl ?_
      refine j_iload_n dX1_fixesShortestVector_45 rfl ?_
      refine j_iload dX1_fixesShortestVector_46 rfl ?_
      refine j_V2z dX1_fixesShortestVector_48 ok_X3_hasTranslation v_X1_94 c_X3_hasTranslation rfl (e_X3_hasTranslation hL hm (by unfold inR; omega) (by unfold inR; omega)) (fun z48 M48 q48 => ?_)
      obtain ⟨rfl, q48⟩ := q48
      refine j_if_eq 66 dX1_fixesShortestVector_51 rfl (by first | (unfold inR; omega) | (have := hs (by omega); unfold inR; omega)) (fun c51 => ?_) (fun c51 => ?_)
      · refine j_iinc dX1_fixesShortestVector_66 rfl (by decide) (nol rfl) (by simp only [List.set_cons_zero, List.set_cons_succ]; rfl) ?_
        refine j_goto 25 dX1_fixesShortestVector_69 rfl ?_
        refine ih (y + 1) (by omega) (by omega) (by omega) (fun y' a b h0 ht => ?_) K
        by_cases e : y' = y
        · rw [e] at h0 ht ⊢
          rcases q48 with q | q
          · omega
          · exact absurd ht q.2
        · exact h4 y' a (by omega) h0 ht
      · refine j_aload_n dX1_fixesShortestVector_54 rfl ?_
        refine j_iload_n dX1_fixesShortestVector_55 rfl ?_
        refine j_iload dX1_fixesShortestVector_56 rfl ?_
        refine j_V2z dX1_fixesShortestVector_58 ok_X1_isFixedByReversal v_X1_139 c_X1_isFixedByReversal rfl (e_X1_isFixedByReversal hL h16 (by omega) (by omega)) (fun z58 M58 q58 => ?_)
        obtain ⟨rfl, q58⟩ := q58
        refine j_if_eq 66 dX1_fixesShortestVector_61 rfl (by first | (unfold inR; omega) | (have := hs (by omega); unfold inR; omega)) (fun c61 => ?_) (fun c61 => ?_)
        · refine j_iinc dX1_fixesShortestVector_66 rfl (by decide) (nol rfl) (by simp only [List.set_cons_zero, List.set_cons_succ]; rfl) ?_
          refine j_goto 25 dX1_fixesShortestVector_69 rfl ?_
          refine ih (y + 1) (by omega) (by omega) (by omega) (fun y' a b h0 ht => ?_) K
          by_cases e : y' = y
          · rw [e] at h0 ht ⊢
            rcases q58 with q | q
            · omega
            · exact q.2
          · exact h4 y' a (by omega) h0 ht
        · refine j_iconst dX1_fixesShortestVector_64 ?_
          refine j_zret dX1_fixesShortestVector_65 rfl (by first | exact Or.inl rfl | exact Or.inr rfl | omega) ?_
          rcases q48 with q | q
          · rcases q58 with r | r
            · exact ⟨1, rfl, rfl, Or.inl ⟨rfl, x, y, by omega, by omega, by omega, by omega, c38, q.2, r.2⟩⟩
            · omega
          · omega
theorem l_fs {M : Mem} {ls : Int} (hL : Lat M) (hm : M01 11 300 M) (h16 : M01 16 12 M) (hls : -75 ≤ ls ∧ ls ≤ 75) (m : Nat) : ∀ (x : Int) (w4 : Option PV), -M 1 1 ≤ x → x ≤ M 1 1 + 1 → M 1 1 + 1 - x < m → (∀ x' y' : Int, -M 1 1 ≤ x' → x' < x → -M 1 1 ≤ y' → y' ≤ M 1 1 → sqL x' y' = ls → hT M x' y' → ¬ Fix M x' y') → J SHC mi_X1_fixesShortestVector 16 [some (vR 15), some (vI (M 1 1)), some (vI ls), some (vI x), w4] [] M (pz (fun z M1 => M = M1 ∧ ((z = 1 ∧ FSh M ls) ∨ (z = 0 ∧ ¬ FSh M ls)))) := by
  induction m with
  | zero => intro x w4 h1 h2 h3; omega
  | succ m ih =>
  intro x w4 h1 h2 h3 h4
  obtain ⟨hk, hn1, hn5, hc1, hc2⟩ := id hL
  have ht := tu_c hk
  refine j_iload_n dX1_fixesShortestVector_16 rfl ?_
  refine j_iload_n dX1_fixesShortestVector_17 rfl ?_
  refine j_icmp_gt 78 dX1_fixesShortestVector_18 rfl (by unfold inR; omega) (by unfold inR; omega) (fun c18 => ?_) (fun c18 => ?_)
  · refine j_iconst dX1_fixesShortestVector_78 ?_
    refine j_zret dX1_fixesShortestVector_79 rfl (by first | exact Or.inl rfl | exact Or.inr rfl | omega) ?_
    exact ⟨0, rfl, rfl, Or.inr ⟨rfl, fun ⟨x', y', a, b, c, d, e, f, h⟩ => h4 x' y' a (by omega) c d e f h⟩⟩
  · refine j_iload_n dX1_fixesShortestVector_21 rfl ?_
    refine j_ineg dX1_fixesShortestVector_22 ?_
    refine j_istore dX1_fixesShortestVector_23 (by decide) (nol rfl) (by show List.set _ 4 _ = _; simp only [List.set_cons_zero, List.set_cons_succ]; rfl) ?_
    refine l_fs_in hL hm h16 hls (x := x) ⟨by omega, by omega⟩ 13 (-M 1 1) (by omega) (by omega) (by omega) (fun y' a b => by omega) (fun w4' c => ?_)
    refine j_iinc dX1_fixesShortestVector_72 rfl (by decide) (nol rfl) (by simp only [List.set_cons_zero, List.set_cons_succ]; rfl) ?_
    refine j_goto 16 dX1_fixesShortestVector_75 rfl ?_
    refine ih (x + 1) _ (by omega) (by omega) (by omega) (fun x' y' d1 d2 d3 d4 d5 d6 => ?_)
    by_cases e : x' = x
    · rw [e] at d5 d6 ⊢
      exact c y' d3 d4 d5 d6
    · exact h4 x' y' d1 (by omega) d3 d4 d5 d6
theorem e_X1_fixesShortestVector {M : Mem} (hL : Lat M) (hm : M01 11 300 M) (h16 : M01 16 12 M) : J SHC mi_X1_fixesShortestVector 0 (ent [vR 15] 5) [] M (pz (fun z M1 => M = M1 ∧ ∃ ls, Lea M ls ∧ ((z = 1 ∧ FSh M ls) ∨ (z = 0 ∧ ¬ FSh M ls)))) := by
  obtain ⟨hk, hn1, hn5, hc1, hc2⟩ := id hL
  have ht := tu_c hk
  show J SHC mi_X1_fixesShortestVector 0 [some (vR 15), none, none, none, none] [] M _
  refine j_aload_n dX1_fixesShortestVector_0 rfl ?_
  refine j_getR dX1_fixesShortestVector_1 f_X1_22 rfl rfl ?_
  refine j_getI (kz := 1) rfl dX1_fixesShortestVector_4 f_X1_86 rfl rfl ?_
  refine j_istore_n dX1_fixesShortestVector_7 (by decide) (nol rfl) (by show List.set _ 1 _ = _; simp only [List.set_cons_zero, List.set_cons_succ]; rfl) ?_
  refine j_aload_n dX1_fixesShortestVector_8 rfl ?_
  refine j_V0z dX1_fixesShortestVector_9 ok_X1_leastSquaredLength v_X1_133 c_X1_leastSquaredLength rfl (e_X1_leastSquaredLength (by assumption) (by assumption)) (fun z9 M9 q9 => ?_)
  obtain ⟨rfl, q9⟩ := q9
  refine j_istore_n dX1_fixesShortestVector_12 (by decide) (nol rfl) (by show List.set _ 2 _ = _; simp only [List.set_cons_zero, List.set_cons_succ]; rfl) ?_
  refine j_iload_n dX1_fixesShortestVector_13 rfl ?_
  refine j_ineg dX1_fixesShortestVector_14 ?_
  refine j_istore_n dX1_fixesShortestVector_15 (by decide) (nol rfl) (by show List.set _ 3 _ = _; simp only [List.set_cons_zero, List.set_cons_succ]; rfl) ?_
  have hz1 := q9.1
  have hz2 := q9.2.1
  refine j_mono ?_ (l_fs hL hm h16 (ls := z9) (by omega) 13 (-M 1 1) _ (by omega) (by omega) (by omega) (fun x' y' a b => by omega))
  rintro v M1 ⟨z, rfl, e, h⟩
  exact ⟨z, rfl, e, z9, q9, h⟩
