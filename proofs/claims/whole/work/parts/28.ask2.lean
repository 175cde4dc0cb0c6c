/-! class WallpaperGroups: the other questions -/
theorem e_X6_orderOf {M : Mem} {r : Row} {hs : List Row} (hI : CI M r hs) {c : Int} (hi : inR c) : J SHC mi_X6_orderOf 0 (ent [vR 0, vI c] 2) [] M (pz (fun z M1 => M = M1 ∧ ((vc r.1 r.2.1 c ∧ ∃ t : Nat, z = t + 1 ∧ t ≤ 299 ∧ (∀ i < t, pw r.1 r.2.1 c i ≠ 0) ∧ (pw r.1 r.2.1 c t = 0 ∨ t = 299)) ∨ (¬ vc r.1 r.2.1 c ∧ z = -1)))) := by
  obtain ⟨hc, ho, hh, hq, hl, hd⟩ := id hI
  have hL := Lat_of hc ho
  have hg := GV_of hc ho
  obtain ⟨hF, hZ, ⟨e9, he9, he25⟩, hv⟩ := SqP_b hI
  obtain ⟨d1, d2, d3, d4, d5⟩ := id hd
  obtain ⟨hc1, hc2, hc3, hc4⟩ := id hc
  have ho4 := ho.2.2.2.1
  obtain ⟨_, hm, h16, h17, hmi⟩ := id hF
  obtain ⟨hk, hn1, hn5, hnn1, hnn2⟩ := id hL
  have ht := tu_c hk
  have hz1 := hZ.1
  show J SHC mi_X6_orderOf 0 [some (vR 0), some (vI c)] [] M _
  refine j_aload_n dX6_orderOf_0 rfl ?_
  refine j_getR dX6_orderOf_1 f_X6_12 rfl rfl ?_
  refine j_iload_n dX6_orderOf_4 rfl ?_
  refine j_V1z dX6_orderOf_5 ok_X5_hasCode v_X6_120 c_X5_hasCode rfl (e_X5_hasCode hL hi) (fun z5 M5 q5 => ?_)
  obtain ⟨rfl, q5⟩ := q5
  rw [hc1, hc2] at q5
  refine j_if_ne 13 dX6_orderOf_8 rfl (by unfold inR; omega) (fun c8 => ?_) (fun c8 => ?_)
  · refine j_aload_n dX6_orderOf_13 rfl ?_
    refine j_getR dX6_orderOf_14 f_X6_12 rfl rfl ?_
    refine j_iload_n dX6_orderOf_17 rfl ?_
    refine j_V1z dX6_orderOf_18 ok_X5_factorsToIdentity v_X6_132 c_X5_factorsToIdentity rfl (e_X5_factorsToIdentity hL (by rcases q5 with q | q; (rw [hc1, hc2]; exact q.2); (exfalso; omega))) (fun z18 M18 q18 => ?_)
    obtain ⟨e18, q18⟩ := q18
    have e18 := e18.symm
    subst e18
    rw [hc1, hc2] at q18
    refine j_iret dX6_orderOf_21 rfl ?_
    refine ⟨_, rfl, rfl, Or.inl ⟨?_, q18⟩⟩
    rcases q5 with q | q
    · exact q.2
    · omega
  · refine j_iconst dX6_orderOf_11 ?_
    refine j_iret dX6_orderOf_12 rfl ?_
    refine ⟨_, rfl, rfl, Or.inr ⟨?_, rfl⟩⟩
    rcases q5 with q | q
    · omega
    · exact q.2
theorem e_X6_kindOf {M : Mem} {r : Row} {hs : List Row} (hI : CI M r hs) {c : Int} (hi : inR c) : J SHC mi_X6_kindOf 0 (ent [vR 0, vI c] 2) [] M (pz (fun z M1 => M = M1 ∧ ((vc r.1 r.2.1 c ∧ z = kn r.1 r.2.1 c) ∨ (¬ vc r.1 r.2.1 c ∧ z = -1)))) := by
  obtain ⟨hc, ho, hh, hq, hl, hd⟩ := id hI
  have hL := Lat_of hc ho
  have hg := GV_of hc ho
  obtain ⟨hF, hZ, ⟨e9, he9, he25⟩, hv⟩ := SqP_b hI
  obtain ⟨d1, d2, d3, d4, d5⟩ := id hd
  obtain ⟨hc1, hc2, hc3, hc4⟩ := id hc
  have ho4 := ho.2.2.2.1
  obtain ⟨_, hm, h16, h17, hmi⟩ := id hF
  obtain ⟨hk, hn1, hn5, hnn1, hnn2⟩ := id hL
  have ht := tu_c hk
  have hz1 := hZ.1
  show J SHC mi_X6_kindOf 0 [some (vR 0), some (vI c)] [] M _
  refine j_aload_n dX6_kindOf_0 rfl ?_
  refine j_getR dX6_kindOf_1 f_X6_12 rfl rfl ?_
  refine j_iload_n dX6_kindOf_4 rfl ?_
  refine j_V1z dX6_kindOf_5 ok_X5_hasCode v_X6_120 c_X5_hasCode rfl (e_X5_hasCode hL hi) (fun z5 M5 q5 => ?_)
  obtain ⟨rfl, q5⟩ := q5
  rw [hc1, hc2] at q5
  refine j_if_ne 13 dX6_kindOf_8 rfl (by unfold inR; omega) (fun c8 => ?_) (fun c8 => ?_)
  · refine j_aload_n dX6_kindOf_13 rfl ?_
    refine j_getR dX6_kindOf_14 f_X6_12 rfl rfl ?_
    refine j_iload_n dX6_kindOf_17 rfl ?_
    refine j_V1p dX6_kindOf_18 ok_X5_kindNumber v_X6_135 c_X5_kindNumber rfl (e_X5_kindNumber hL (by rcases q5 with q | q; (rw [hc1, hc2]; exact q.2); (exfalso; omega))) ?_
    refine j_iret dX6_kindOf_21 rfl ?_
    refine ⟨_, rfl, rfl, Or.inl ⟨?_, by rw [hc1, hc2]⟩⟩
    rcases q5 with q | q
    · exact q.2
    · omega
  · refine j_iconst dX6_kindOf_11 ?_
    refine j_iret dX6_kindOf_12 rfl ?_
    refine ⟨_, rfl, rfl, Or.inr ⟨?_, rfl⟩⟩
    rcases q5 with q | q
    · omega
    · exact q.2
theorem e_X6_count {M : Mem} {r : Row} {hs : List Row} (hI : CI M r hs) {d : Int} (hi : inR d) : J SHC mi_X6_count 0 (ent [vR 0, vI d] 2) [] M (pz (fun z M1 => M = M1 ∧ (((0 ≤ d ∧ d < 4) ∧ z = ((GL r).countP (fun c => decide (kn r.1 r.2.1 c = d)) : Nat)) ∨ (¬ (0 ≤ d ∧ d < 4) ∧ z = -1)))) := by
  obtain ⟨hc, ho, hh, hq, hl, hd⟩ := id hI
  have hL := Lat_of hc ho
  have hg := GV_of hc ho
  obtain ⟨hF, hZ, ⟨e9, he9, he25⟩, hv⟩ := SqP_b hI
  obtain ⟨d1, d2, d3, d4, d5⟩ := id hd
  obtain ⟨hc1, hc2, hc3, hc4⟩ := id hc
  have ho4 := ho.2.2.2.1
  obtain ⟨_, hm, h16, h17, hmi⟩ := id hF
  obtain ⟨hk, hn1, hn5, hnn1, hnn2⟩ := id hL
  have ht := tu_c hk
  have hz1 := hZ.1
  show J SHC mi_X6_count 0 [some (vR 0), some (vI d)] [] M _
  refine j_iload_n dX6_count_0 rfl ?_
  refine j_if_lt 9 dX6_count_1 rfl (by first | assumption | (unfold inR; omega)) (fun c1 => ?_) (fun c1 => ?_)
  · refine j_iconst dX6_count_9 ?_
    refine j_iret dX6_count_10 rfl ?_
    exact ⟨_, rfl, rfl, Or.inr ⟨by omega, rfl⟩⟩
  · refine j_iload_n dX6_count_4 rfl ?_
    refine j_iconst dX6_count_5 ?_
    refine j_icmp_lt 11 dX6_count_6 rfl (by first | assumption | (unfold inR; omega)) (by first | assumption | (unfold inR; omega)) (fun c6 => ?_) (fun c6 => ?_)
    · refine j_aload_n dX6_count_11 rfl ?_
      refine j_getR dX6_count_12 f_X6_44 rfl rfl ?_
      refine j_iload_n dX6_count_15 rfl ?_
      refine j_V1p dX6_count_16 ok_X1_elementsOfKind v_X6_138 c_X1_elementsOfKind rfl (e_X1_elementsOfKind (by omega) (by omega)) ?_
      refine j_iret dX6_count_19 rfl ?_
      refine ⟨_, rfl, rfl, Or.inl ⟨⟨by omega, by omega⟩, ?_⟩⟩
      have h9 := d4.2.2 d (by omega) (by omega)
      rw [hc1, hc2] at h9
      exact h9
    · refine j_iconst dX6_count_9 ?_
      refine j_iret dX6_count_10 rfl ?_
      exact ⟨_, rfl, rfl, Or.inr ⟨by omega, rfl⟩⟩
def Abe (r : Row) : Prop := ∀ a ∈ r.2.2, ∀ b ∈ r.2.2, tm r.1 r.2.1 a b = tm r.1 r.2.1 b a
theorem Abe_of {M : Mem} {r : Row} (hc : CurC M r) : (∀ a b : Int, 0 ≤ a → a < M 2 1 → 0 ≤ b → b < a → tm (M 1 0) (M 1 1) (M 3 a) (M 3 b) = tm (M 1 0) (M 1 1) (M 3 b) (M 3 a)) ↔ Abe r := by
  obtain ⟨h1, h2, h3, h4⟩ := hc
  rw [h1, h2, h3]
  constructor
  · intro h a ha b hb
    obtain ⟨i, hi⟩ := List.getElem?_of_mem ha
    obtain ⟨j, hj⟩ := List.getElem?_of_mem hb
    have li := (List.getElem?_eq_some_iff.mp hi).1
    have lj := (List.getElem?_eq_some_iff.mp hj).1
    have ei := h4 i a hi
    have ej := h4 j b hj
    rcases Nat.lt_trichotomy i j with q | q | q
    · have := h j i (by omega) (by omega) (by omega) (by omega)
      rw [ei, ej] at this
      exact this.symm
    · subst q
      rw [hi] at hj
      cases hj
      rfl
    · have := h i j (by omega) (by omega) (by omega) (by omega)
      rw [ei, ej] at this
      exact this
  · intro h a b a0 a1 b0 b1
    have la : a.toNat < r.2.2.length := by omega
    have lb : b.toNat < r.2.2.length := by omega
    have ea := h4 a.toNat _ (List.getElem?_eq_getElem la)
    have eb := h4 b.toNat _ (List.getElem?_eq_getElem lb)
    rw [show ((a.toNat : Nat) : Int) = a by omega] at ea
    rw [show ((b.toNat : Nat) : Int) = b by omega] at eb
    rw [ea, eb]
    exact h _ (List.getElem_mem la) _ (List.getElem_mem lb)
/-- classes under conjugation, as the search finds them -/
def CjR (r : Row) (wss : List (List Int)) : Prop := ∀ m ws, wss[m]? = some ws → ∃ s, BfI (vc r.1 r.2.1) (cj r.1 r.2.1) (fun g => g ∈ r.2.2) (wss.take m).flatten s ws ws.length
theorem CjR_of {M : Mem} {r : Row} (hc : CurC M r) {wss : List (List Int)} (h : CjP M wss) : CjR r wss := by
  unfold CjP CjI at h
  rw [gP_of hc, hc.1, hc.2.1] at h
  exact h
theorem e_X6_isAbelian {M : Mem} {r : Row} {hs : List Row} (hI : CI M r hs)  : J SHC mi_X6_isAbelian 0 (ent [vR 0] 1) [] M (pz (fun z M1 => M = M1 ∧ ((z = 1 ∧ Abe r) ∨ (z = 0 ∧ ¬ Abe r)))) := by
  obtain ⟨hc, ho, hh, hq, hl, hd⟩ := id hI
  have hL := Lat_of hc ho
  have hg := GV_of hc ho
  obtain ⟨hF, hZ, ⟨e9, he9, he25⟩, hv⟩ := SqP_b hI
  obtain ⟨d1, d2, d3, d4, d5⟩ := id hd
  obtain ⟨hc1, hc2, hc3, hc4⟩ := id hc
  have ho4 := ho.2.2.2.1
  obtain ⟨_, hm, h16, h17, hmi⟩ := id hF
  obtain ⟨hk, hn1, hn5, hnn1, hnn2⟩ := id hL
  have ht := tu_c hk
  have hz1 := hZ.1
  show J SHC mi_X6_isAbelian 0 [some (vR 0)] [] M _
  refine j_aload_n dX6_isAbelian_0 rfl ?_
  refine j_getR dX6_isAbelian_1 f_X6_35 rfl rfl ?_
  refine j_V0z dX6_isAbelian_4 ok_X3_commutes v_X6_141 c_X3_commutes rfl (e_X3_commutes hL hg) (fun z4 M4 q4 => ?_)
  obtain ⟨rfl, q4⟩ := q4
  rw [Abe_of hc] at q4
  refine j_S1p dX6_isAbelian_7 ok_X6_oneIf s_X6_124 (e_oneIf (by omega)) ?_
  refine j_iret dX6_isAbelian_10 rfl ?_
  exact ⟨_, rfl, rfl, q4⟩
theorem e_X6_conjugacyClasses {M : Mem} {r : Row} {hs : List Row} (hI : CI M r hs)  : J SHC mi_X6_conjugacyClasses 0 (ent [vR 0] 1) [] M (pz (fun z M1 => CI M1 r hs ∧ ∃ wss : List (List Int), z = wss.length ∧ CjR r wss ∧ (∀ x ∈ GL r, x ∈ wss.flatten) ∧ ∀ ws ∈ wss, ∃ x ∈ GL r, x ∈ ws)) := by
  obtain ⟨hc, ho, hh, hq, hl, hd⟩ := id hI
  have hL := Lat_of hc ho
  have hg := GV_of hc ho
  obtain ⟨hF, hZ, ⟨e9, he9, he25⟩, hv⟩ := SqP_b hI
  obtain ⟨d1, d2, d3, d4, d5⟩ := id hd
  obtain ⟨hc1, hc2, hc3, hc4⟩ := id hc
  have ho4 := ho.2.2.2.1
  obtain ⟨_, hm, h16, h17, hmi⟩ := id hF
  obtain ⟨hk, hn1, hn5, hnn1, hnn2⟩ := id hL
  have ht := tu_c hk
  have hz1 := hZ.1
  show J SHC mi_X6_conjugacyClasses 0 [some (vR 0)] [] M _
  refine j_aload_n dX6_conjugacyClasses_0 rfl ?_
  refine j_getR dX6_conjugacyClasses_1 f_X6_35 rfl rfl ?_
  refine j_V0z dX6_conjugacyClasses_4 ok_X3_countConjugacyClasses v_X6_144 c_X3_countConjugacyClasses rfl (e_X3_conj GL_len hL hg d1 d2 hv) (fun z4 M4 q4 => ?_)
  obtain ⟨f4, g4, wss, w1, w2, w3⟩ := q4
  refine j_iret dX6_conjugacyClasses_7 rfl ?_
  exact ⟨_, rfl, CI_keep hI (f4.up (by decide)) g4, wss, w1, CjR_of hc w2, w3⟩
theorem e_X6_linearParts {M : Mem} {r : Row} {hs : List Row} (hI : CI M r hs)  : J SHC mi_X6_linearParts 0 (ent [vR 0] 1) [] M (pu (vI (cntTo (M 16) 12)) M) := by
  obtain ⟨hc, ho, hh, hq, hl, hd⟩ := id hI
  have hL := Lat_of hc ho
  have hg := GV_of hc ho
  obtain ⟨hF, hZ, ⟨e9, he9, he25⟩, hv⟩ := SqP_b hI
  obtain ⟨d1, d2, d3, d4, d5⟩ := id hd
  obtain ⟨hc1, hc2, hc3, hc4⟩ := id hc
  have ho4 := ho.2.2.2.1
  obtain ⟨_, hm, h16, h17, hmi⟩ := id hF
  obtain ⟨hk, hn1, hn5, hnn1, hnn2⟩ := id hL
  have ht := tu_c hk
  have hz1 := hZ.1
  show J SHC mi_X6_linearParts 0 [some (vR 0)] [] M _
  refine j_aload_n dX6_linearParts_0 rfl ?_
  refine j_getR dX6_linearParts_1 f_X6_44 rfl rfl ?_
  refine j_V0p dX6_linearParts_4 ok_X1_countParts v_X6_147 c_X1_countParts rfl (e_X1_countParts h16) ?_
  refine j_iret dX6_linearParts_7 rfl ?_
  exact pu_i (by first | rfl | omega | (simp; done))
theorem e_X6_rotationOrder {M : Mem} {r : Row} {hs : List Row} (hI : CI M r hs)  : J SHC mi_X6_rotationOrder 0 (ent [vR 0] 1) [] M (pu (vI (gtf (M 16) (M 1 0) (tu (M 1 0)).toNat)) M) := by
  obtain ⟨hc, ho, hh, hq, hl, hd⟩ := id hI
  have hL := Lat_of hc ho
  have hg := GV_of hc ho
  obtain ⟨hF, hZ, ⟨e9, he9, he25⟩, hv⟩ := SqP_b hI
  obtain ⟨d1, d2, d3, d4, d5⟩ := id hd
  obtain ⟨hc1, hc2, hc3, hc4⟩ := id hc
  have ho4 := ho.2.2.2.1
  obtain ⟨_, hm, h16, h17, hmi⟩ := id hF
  obtain ⟨hk, hn1, hn5, hnn1, hnn2⟩ := id hL
  have ht := tu_c hk
  have hz1 := hZ.1
  show J SHC mi_X6_rotationOrder 0 [some (vR 0)] [] M _
  refine j_aload_n dX6_rotationOrder_0 rfl ?_
  refine j_getR dX6_rotationOrder_1 f_X6_44 rfl rfl ?_
  refine j_V0p dX6_rotationOrder_4 ok_X1_greatestTurnOrder v_X6_150 c_X1_greatestTurnOrder rfl (e_X1_greatestTurnOrder hL h16) ?_
  refine j_iret dX6_rotationOrder_7 rfl ?_
  exact pu_i (by first | rfl | omega | (simp; done))
theorem e_X6_mirrorDirections {M : Mem} {r : Row} {hs : List Row} (hI : CI M r hs)  : J SHC mi_X6_mirrorDirections 0 (ent [vR 0] 1) [] M (pu (vI (cntTo (M 17) 12)) M) := by
  obtain ⟨hc, ho, hh, hq, hl, hd⟩ := id hI
  have hL := Lat_of hc ho
  have hg := GV_of hc ho
  obtain ⟨hF, hZ, ⟨e9, he9, he25⟩, hv⟩ := SqP_b hI
  obtain ⟨d1, d2, d3, d4, d5⟩ := id hd
  obtain ⟨hc1, hc2, hc3, hc4⟩ := id hc
  have ho4 := ho.2.2.2.1
  obtain ⟨_, hm, h16, h17, hmi⟩ := id hF
  obtain ⟨hk, hn1, hn5, hnn1, hnn2⟩ := id hL
  have ht := tu_c hk
  have hz1 := hZ.1
  show J SHC mi_X6_mirrorDirections 0 [some (vR 0)] [] M _
  refine j_aload_n dX6_mirrorDirections_0 rfl ?_
  refine j_getR dX6_mirrorDirections_1 f_X6_44 rfl rfl ?_
  refine j_V0p dX6_mirrorDirections_4 ok_X1_countMirrorParts v_X6_153 c_X1_countMirrorParts rfl (e_X1_countMirrorParts h17) ?_
  refine j_iret dX6_mirrorDirections_7 rfl ?_
  exact pu_i (by first | rfl | omega | (simp; done))
theorem e_X6_isCentered {M : Mem} {r : Row} {hs : List Row} (hI : CI M r hs)  : J SHC mi_X6_isCentered 0 (ent [vR 0] 1) [] M (bz (Cen M) M) := by
  obtain ⟨hc, ho, hh, hq, hl, hd⟩ := id hI
  have hL := Lat_of hc ho
  have hg := GV_of hc ho
  obtain ⟨hF, hZ, ⟨e9, he9, he25⟩, hv⟩ := SqP_b hI
  obtain ⟨d1, d2, d3, d4, d5⟩ := id hd
  obtain ⟨hc1, hc2, hc3, hc4⟩ := id hc
  have ho4 := ho.2.2.2.1
  obtain ⟨_, hm, h16, h17, hmi⟩ := id hF
  obtain ⟨hk, hn1, hn5, hnn1, hnn2⟩ := id hL
  have ht := tu_c hk
  have hz1 := hZ.1
  show J SHC mi_X6_isCentered 0 [some (vR 0)] [] M _
  refine j_aload_n dX6_isCentered_0 rfl ?_
  refine j_getR dX6_isCentered_1 f_X6_44 rfl rfl ?_
  refine j_V0z dX6_isCentered_4 ok_X1_hasCentering v_X6_156 c_X1_hasCentering rfl (e_X1_hasCentering hL hm h17 hmi) (fun z4 M4 q4 => ?_)
  obtain ⟨rfl, q4⟩ := q4
  refine j_S1p dX6_isCentered_7 ok_X6_oneIf s_X6_124 (e_oneIf (by omega)) ?_
  refine j_iret dX6_isCentered_10 rfl ?_
  exact ⟨_, rfl, rfl, q4⟩
theorem e_X6_type {M : Mem} {r : Row} {hs : List Row} (hI : CI M r hs)  : J SHC mi_X6_type 0 (ent [vR 0] 1) [] M (pz (fun z M1 => M = M1 ∧ TY M (gtf (M 16) (M 1 0) (tu (M 1 0)).toNat) (cntTo (M 17) 12) z)) := by
  obtain ⟨hc, ho, hh, hq, hl, hd⟩ := id hI
  have hL := Lat_of hc ho
  have hg := GV_of hc ho
  obtain ⟨hF, hZ, ⟨e9, he9, he25⟩, hv⟩ := SqP_b hI
  obtain ⟨d1, d2, d3, d4, d5⟩ := id hd
  obtain ⟨hc1, hc2, hc3, hc4⟩ := id hc
  have ho4 := ho.2.2.2.1
  obtain ⟨_, hm, h16, h17, hmi⟩ := id hF
  obtain ⟨hk, hn1, hn5, hnn1, hnn2⟩ := id hL
  have ht := tu_c hk
  have hz1 := hZ.1
  show J SHC mi_X6_type 0 [some (vR 0)] [] M _
  refine j_aload_n dX6_type_0 rfl ?_
  refine j_getR dX6_type_1 f_X6_44 rfl rfl ?_
  refine j_V0z dX6_type_4 ok_X1_typeNumber v_X6_159 c_X1_typeNumber rfl (e_X1_typeNumber hF) (fun z4 M4 q4 => ?_)
  obtain ⟨rfl, q4⟩ := q4
  refine j_iret dX6_type_7 rfl ?_
  exact ⟨_, rfl, rfl, q4⟩
theorem cell_b {n x y : Int} (h : 0 ≤ x ∧ x < n ∧ 0 ≤ y ∧ y < n) : 0 ≤ n * x + y ∧ n * x + y < n * n := by
  have a := Int.mul_nonneg (show 0 ≤ n by omega) h.1
  have b : n * x ≤ n * (n - 1) := Int.mul_le_mul_of_nonneg_left (by omega) (by omega)
  rw [Int.mul_sub, Int.mul_one] at b
  omega
theorem e_X6_orbitSize {M : Mem} {r : Row} {hs : List Row} (hI : CI M r hs) {x y : Int} (hx : inR x) (hy : inR y) : J SHC mi_X6_orbitSize 0 (ent [vR 0, vI x, vI y] 3) [] M (pz (fun z M1 => M = M1 ∧ (((0 ≤ x ∧ x < r.2.1 ∧ 0 ≤ y ∧ y < r.2.1) ∧ z = M 21 (M 1 1 * x + y)) ∨ (¬ (0 ≤ x ∧ x < r.2.1 ∧ 0 ≤ y ∧ y < r.2.1) ∧ z = -1)))) := by
  obtain ⟨hc, ho, hh, hq, hl, hd⟩ := id hI
  have hL := Lat_of hc ho
  have hg := GV_of hc ho
  obtain ⟨hF, hZ, ⟨e9, he9, he25⟩, hv⟩ := SqP_b hI
  obtain ⟨d1, d2, d3, d4, d5⟩ := id hd
  obtain ⟨hc1, hc2, hc3, hc4⟩ := id hc
  have ho4 := ho.2.2.2.1
  obtain ⟨_, hm, h16, h17, hmi⟩ := id hF
  obtain ⟨hk, hn1, hn5, hnn1, hnn2⟩ := id hL
  have ht := tu_c hk
  have hz1 := hZ.1
  show J SHC mi_X6_orbitSize 0 [some (vR 0), some (vI x), some (vI y)] [] M _
  refine j_aload_n dX6_orbitSize_0 rfl ?_
  refine j_getR dX6_orbitSize_1 f_X6_12 rfl rfl ?_
  refine j_iload_n dX6_orbitSize_4 rfl ?_
  refine j_iload_n dX6_orbitSize_5 rfl ?_
  refine j_V2z dX6_orbitSize_6 ok_X5_hasCell v_X6_162 c_X5_hasCell rfl (e_X5_hasCell hL hx hy) (fun z6 M6 q6 => ?_)
  obtain ⟨rfl, q6⟩ := q6
  rw [hc2] at q6
  have hcl : (0 ≤ x ∧ x < r.2.1 ∧ 0 ≤ y ∧ y < r.2.1) → 0 ≤ M 1 1 * x + y ∧ M 1 1 * x + y < M 1 1 * M 1 1 := fun h => by rw [hc2]; exact cell_b h
  have hce : z6 = 1 → (0 ≤ x ∧ x < r.2.1 ∧ 0 ≤ y ∧ y < r.2.1) := fun h => by
    rcases q6 with q | q
    · exact q.2
    · omega
  refine j_if_ne 14 dX6_orbitSize_9 rfl (by unfold inR; omega) (fun c9 => ?_) (fun c9 => ?_)
  · refine j_aload_n dX6_orbitSize_14 rfl ?_
    refine j_getR dX6_orbitSize_15 f_X6_53 rfl rfl ?_
    refine j_aload_n dX6_orbitSize_18 rfl ?_
    refine j_getR dX6_orbitSize_19 f_X6_12 rfl rfl ?_
    refine j_iload_n dX6_orbitSize_22 rfl ?_
    refine j_iload_n dX6_orbitSize_23 rfl ?_
    refine j_V2p dX6_orbitSize_24 ok_X5_cellOf v_X6_166 c_X5_cellOf rfl (e_X5_cellOf hL) ?_
    refine j_V1p dX6_orbitSize_27 ok_X0_sizeOfOrbit v_X6_169 c_X0_sizeOfOrbit rfl (e_X0_sizeOfOrbit (by have := hcl (hce (by omega)); omega) (by have := hcl (hce (by omega)); omega)) ?_
    refine j_iret dX6_orbitSize_30 rfl ?_
    exact ⟨_, rfl, rfl, Or.inl ⟨hce (by omega), rfl⟩⟩
  · refine j_iconst dX6_orbitSize_12 ?_
    refine j_iret dX6_orbitSize_13 rfl ?_
    refine ⟨_, rfl, rfl, Or.inr ⟨?_, rfl⟩⟩
    rcases q6 with q | q
    · omega
    · exact q.2
theorem e_X6_orbitFirst {M : Mem} {r : Row} {hs : List Row} (hI : CI M r hs) {x y : Int} (hx : inR x) (hy : inR y) : J SHC mi_X6_orbitFirst 0 (ent [vR 0, vI x, vI y] 3) [] M (pz (fun z M1 => M = M1 ∧ (((0 ≤ x ∧ x < r.2.1 ∧ 0 ≤ y ∧ y < r.2.1) ∧ z = M 20 (M 1 1 * x + y)) ∨ (¬ (0 ≤ x ∧ x < r.2.1 ∧ 0 ≤ y ∧ y < r.2.1) ∧ z = -1)))) := by
  obtain ⟨hc, ho, hh, hq, hl, hd⟩ := id hI
  have hL := Lat_of hc ho
  have hg := GV_of hc ho
  obtain ⟨hF, hZ, ⟨e9, he9, he25⟩, hv⟩ := SqP_b hI
  obtain ⟨d1, d2, d3, d4, d5⟩ := id hd
  obtain ⟨hc1, hc2, hc3, hc4⟩ := id hc
  have ho4 := ho.2.2.2.1
  obtain ⟨_, hm, h16, h17, hmi⟩ := id hF
  obtain ⟨hk, hn1, hn5, hnn1, hnn2⟩ := id hL
  have ht := tu_c hk
  have hz1 := hZ.1
  show J SHC mi_X6_orbitFirst 0 [some (vR 0), some (vI x), some (vI y)] [] M _
  refine j_aload_n dX6_orbitFirst_0 rfl ?_
  refine j_getR dX6_orbitFirst_1 f_X6_12 rfl rfl ?_
  refine j_iload_n dX6_orbitFirst_4 rfl ?_
  refine j_iload_n dX6_orbitFirst_5 rfl ?_
  refine j_V2z dX6_orbitFirst_6 ok_X5_hasCell v_X6_162 c_X5_hasCell rfl (e_X5_hasCell hL hx hy) (fun z6 M6 q6 => ?_)
  obtain ⟨rfl, q6⟩ := q6
  rw [hc2] at q6
  have hcl : (0 ≤ x ∧ x < r.2.1 ∧ 0 ≤ y ∧ y < r.2.1) → 0 ≤ M 1 1 * x + y ∧ M 1 1 * x + y < M 1 1 * M 1 1 := fun h => by rw [hc2]; exact cell_b h
  have hce : z6 = 1 → (0 ≤ x ∧ x < r.2.1 ∧ 0 ≤ y ∧ y < r.2.1) := fun h => by
    rcases q6 with q | q
    · exact q.2
    · omega
  refine j_if_ne 14 dX6_orbitFirst_9 rfl (by unfold inR; omega) (fun c9 => ?_) (fun c9 => ?_)
  · refine j_aload_n dX6_orbitFirst_14 rfl ?_
    refine j_getR dX6_orbitFirst_15 f_X6_53 rfl rfl ?_
    refine j_aload_n dX6_orbitFirst_18 rfl ?_
    refine j_getR dX6_orbitFirst_19 f_X6_12 rfl rfl ?_
    refine j_iload_n dX6_orbitFirst_22 rfl ?_
    refine j_iload_n dX6_orbitFirst_23 rfl ?_
    refine j_V2p dX6_orbitFirst_24 ok_X5_cellOf v_X6_166 c_X5_cellOf rfl (e_X5_cellOf hL) ?_
    refine j_V1p dX6_orbitFirst_27 ok_X0_leastOfOrbit v_X6_172 c_X0_leastOfOrbit rfl (e_X0_leastOfOrbit (by have := hcl (hce (by omega)); omega) (by have := hcl (hce (by omega)); omega)) ?_
    refine j_iret dX6_orbitFirst_30 rfl ?_
    exact ⟨_, rfl, rfl, Or.inl ⟨hce (by omega), rfl⟩⟩
  · refine j_iconst dX6_orbitFirst_12 ?_
    refine j_iret dX6_orbitFirst_13 rfl ?_
    refine ⟨_, rfl, rfl, Or.inr ⟨?_, rfl⟩⟩
    rcases q6 with q | q
    · omega
    · exact q.2
theorem e_X6_stabilizerOrder {M : Mem} {r : Row} {hs : List Row} (hI : CI M r hs) {x y : Int} (hx : inR x) (hy : inR y) : J SHC mi_X6_stabilizerOrder 0 (ent [vR 0, vI x, vI y] 3) [] M (pz (fun z M1 => M = M1 ∧ (((0 ≤ x ∧ x < r.2.1 ∧ 0 ≤ y ∧ y < r.2.1) ∧ z = M 10 6 / M 21 (M 1 1 * x + y)) ∨ (¬ (0 ≤ x ∧ x < r.2.1 ∧ 0 ≤ y ∧ y < r.2.1) ∧ z = -1)))) := by
  obtain ⟨hc, ho, hh, hq, hl, hd⟩ := id hI
  have hL := Lat_of hc ho
  have hg := GV_of hc ho
  obtain ⟨hF, hZ, ⟨e9, he9, he25⟩, hv⟩ := SqP_b hI
  obtain ⟨d1, d2, d3, d4, d5⟩ := id hd
  obtain ⟨hc1, hc2, hc3, hc4⟩ := id hc
  have ho4 := ho.2.2.2.1
  obtain ⟨_, hm, h16, h17, hmi⟩ := id hF
  obtain ⟨hk, hn1, hn5, hnn1, hnn2⟩ := id hL
  have ht := tu_c hk
  have hz1 := hZ.1
  show J SHC mi_X6_stabilizerOrder 0 [some (vR 0), some (vI x), some (vI y)] [] M _
  refine j_aload_n dX6_stabilizerOrder_0 rfl ?_
  refine j_getR dX6_stabilizerOrder_1 f_X6_12 rfl rfl ?_
  refine j_iload_n dX6_stabilizerOrder_4 rfl ?_
  refine j_iload_n dX6_stabilizerOrder_5 rfl ?_
  refine j_V2z dX6_stabilizerOrder_6 ok_X5_hasCell v_X6_162 c_X5_hasCell rfl (e_X5_hasCell hL hx hy) (fun z6 M6 q6 => ?_)
  obtain ⟨rfl, q6⟩ := q6
  rw [hc2] at q6
  have hcl : (0 ≤ x ∧ x < r.2.1 ∧ 0 ≤ y ∧ y < r.2.1) → 0 ≤ M 1 1 * x + y ∧ M 1 1 * x + y < M 1 1 * M 1 1 := fun h => by rw [hc2]; exact cell_b h
  have hce : z6 = 1 → (0 ≤ x ∧ x < r.2.1 ∧ 0 ≤ y ∧ y < r.2.1) := fun h => by
    rcases q6 with q | q
    · exact q.2
    · omega
  refine j_if_ne 14 dX6_stabilizerOrder_9 rfl (by unfold inR; omega) (fun c9 => ?_) (fun c9 => ?_)
  · refine j_aload_n dX6_stabilizerOrder_14 rfl ?_
    refine j_getR dX6_stabilizerOrder_15 f_X6_53 rfl rfl ?_
    refine j_aload_n dX6_stabilizerOrder_18 rfl ?_
    refine j_getR dX6_stabilizerOrder_19 f_X6_12 rfl rfl ?_
    refine j_iload_n dX6_stabilizerOrder_22 rfl ?_
    refine j_iload_n dX6_stabilizerOrder_23 rfl ?_
    refine j_V2p dX6_stabilizerOrder_24 ok_X5_cellOf v_X6_166 c_X5_cellOf rfl (e_X5_cellOf hL) ?_
    refine j_V1p dX6_stabilizerOrder_27 ok_X0_sizeOfStabilizer v_X6_175 c_X0_sizeOfStabilizer rfl (e_X0_sizeOfStabilizer hL hZ (hcl (hce (by omega)))) ?_
    refine j_iret dX6_stabilizerOrder_30 rfl ?_
    exact ⟨_, rfl, rfl, Or.inl ⟨hce (by omega), rfl⟩⟩
  · refine j_iconst dX6_stabilizerOrder_12 ?_
    refine j_iret dX6_stabilizerOrder_13 rfl ?_
    refine ⟨_, rfl, rfl, Or.inr ⟨?_, rfl⟩⟩
    rcases q6 with q | q
    · omega
    · exact q.2
theorem e_X6_orbitCount {M : Mem} {r : Row} {hs : List Row} (hI : CI M r hs)  : J SHC mi_X6_orbitCount 0 (ent [vR 0] 1) [] M (pu (vI (M 19 9)) M) := by
  obtain ⟨hc, ho, hh, hq, hl, hd⟩ := id hI
  have hL := Lat_of hc ho
  have hg := GV_of hc ho
  obtain ⟨hF, hZ, ⟨e9, he9, he25⟩, hv⟩ := SqP_b hI
  obtain ⟨d1, d2, d3, d4, d5⟩ := id hd
  obtain ⟨hc1, hc2, hc3, hc4⟩ := id hc
  have ho4 := ho.2.2.2.1
  obtain ⟨_, hm, h16, h17, hmi⟩ := id hF
  obtain ⟨hk, hn1, hn5, hnn1, hnn2⟩ := id hL
  have ht := tu_c hk
  have hz1 := hZ.1
  show J SHC mi_X6_orbitCount 0 [some (vR 0)] [] M _
  refine j_aload_n dX6_orbitCount_0 rfl ?_
  refine j_getR dX6_orbitCount_1 f_X6_53 rfl rfl ?_
  refine j_V0p dX6_orbitCount_4 ok_X0_orbits v_X6_178 c_X0_orbits rfl (e_X0_orbits) ?_
  refine j_iret dX6_orbitCount_7 rfl ?_
  exact pu_i (by first | rfl | omega | (simp; done))
theorem e_X6_isSymmorphic {M : Mem} {r : Row} {hs : List Row} (hI : CI M r hs)  : J SHC mi_X6_isSymmorphic 0 (ent [vR 0] 1) [] M (bz (∃ q : Int, 0 ≤ q ∧ q < M 1 1 * M 1 1 ∧ M 10 6 / M 21 q = cntTo (M 16) 12) M) := by
  obtain ⟨hc, ho, hh, hq, hl, hd⟩ := id hI
  have hL := Lat_of hc ho
  have hg := GV_of hc ho
  obtain ⟨hF, hZ, ⟨e9, he9, he25⟩, hv⟩ := SqP_b hI
  obtain ⟨d1, d2, d3, d4, d5⟩ := id hd
  obtain ⟨hc1, hc2, hc3, hc4⟩ := id hc
  have ho4 := ho.2.2.2.1
  obtain ⟨_, hm, h16, h17, hmi⟩ := id hF
  obtain ⟨hk, hn1, hn5, hnn1, hnn2⟩ := id hL
  have ht := tu_c hk
  have hz1 := hZ.1
  have hcb := cntTo_b (M 16) 12
  show J SHC mi_X6_isSymmorphic 0 [some (vR 0)] [] M _
  refine j_aload_n dX6_isSymmorphic_0 rfl ?_
  refine j_getR dX6_isSymmorphic_1 f_X6_53 rfl rfl ?_
  refine j_aload_n dX6_isSymmorphic_4 rfl ?_
  refine j_getR dX6_isSymmorphic_5 f_X6_44 rfl rfl ?_
  refine j_V0p dX6_isSymmorphic_8 ok_X1_countParts v_X6_147 c_X1_countParts rfl (e_X1_countParts h16) ?_
  refine j_V1z dX6_isSymmorphic_11 ok_X0_hasStabilizerOf v_X6_181 c_X0_hasStabilizerOf rfl (e_X0_hasStabilizerOf hL hZ (by unfold inR; omega)) (fun z11 M11 q11 => ?_)
  obtain ⟨rfl, q11⟩ := q11
  refine j_S1p dX6_isSymmorphic_14 ok_X6_oneIf s_X6_124 (e_oneIf (by omega)) ?_
  refine j_iret dX6_isSymmorphic_17 rfl ?_
  exact ⟨_, rfl, rfl, q11⟩
theorem e_X6_invariantColorings {M : Mem} {r : Row} {hs : List Row} (hI : CI M r hs) {b : Int} (hi : inR b) : J SHC mi_X6_invariantColorings 0 (ent [vR 0, vI b] 2) [] M (pu (vL (if 1 ≤ b ∧ b ≤ 4 then b ^ (M 19 9).toNat else -1)) M) := by
  obtain ⟨hc, ho, hh, hq, hl, hd⟩ := id hI
  have hL := Lat_of hc ho
  have hg := GV_of hc ho
  obtain ⟨hF, hZ, ⟨e9, he9, he25⟩, hv⟩ := SqP_b hI
  obtain ⟨d1, d2, d3, d4, d5⟩ := id hd
  obtain ⟨hc1, hc2, hc3, hc4⟩ := id hc
  have ho4 := ho.2.2.2.1
  obtain ⟨_, hm, h16, h17, hmi⟩ := id hF
  obtain ⟨hk, hn1, hn5, hnn1, hnn2⟩ := id hL
  have ht := tu_c hk
  have hz1 := hZ.1
  show J SHC mi_X6_invariantColorings 0 [some (vR 0), some (vI b)] [] M _
  refine j_iload_n dX6_invariantColorings_0 rfl ?_
  refine j_iconst dX6_invariantColorings_1 ?_
  refine j_icmp_lt 10 dX6_invariantColorings_2 rfl (by first | assumption | (unfold inR; omega)) (by first | assumption | (unfold inR; omega)) (fun c2 => ?_) (fun c2 => ?_)
  · refine j_ldc2 (z := -1) kl_X6_184 rfl dX6_invariantColorings_10 ?_
    refine j_lret dX6_invariantColorings_13 rfl ?_
    exact pu_l (by rw [if_neg (by omega)])
  · refine j_iload_n dX6_invariantColorings_5 rfl ?_
    refine j_iconst dX6_invariantColorings_6 ?_
    refine j_icmp_le 14 dX6_invariantColorings_7 rfl (by first | assumption | (unfold inR; omega)) (by first | assumption | (unfold inR; omega)) (fun c7 => ?_) (fun c7 => ?_)
    · refine j_iload_n dX6_invariantColorings_14 rfl ?_
      refine j_aload_n dX6_invariantColorings_15 rfl ?_
      refine j_getR dX6_invariantColorings_16 f_X6_53 rfl rfl ?_
      refine j_V0p dX6_invariantColorings_19 ok_X0_orbits v_X6_178 c_X0_orbits rfl (e_X0_orbits) ?_
      rw [he9]
      refine j_S2p dX6_invariantColorings_22 ok_X6_power s_X6_186 (e_power hi (by omega)) ?_
      refine j_lret dX6_invariantColorings_25 rfl ?_
      exact pu_l (by rw [if_pos (by omega)]; simp)
    · refine j_ldc2 (z := -1) kl_X6_184 rfl dX6_invariantColorings_10 ?_
      refine j_lret dX6_invariantColorings_13 rfl ?_
      exact pu_l (by rw [if_neg (by omega)])
theorem e_X6_coloringClasses {M : Mem} {r : Row} {hs : List Row} (hI : CI M r hs) {b : Int} (hi : inR b) : J SHC mi_X6_coloringClasses 0 (ent [vR 0, vI b] 2) [] M (fun v M1 => v = some (vL (if 1 ≤ b ∧ b ≤ 4 then colS b r.1 r.2.1 (GL r) / (GL r).length else -1)) ∧ CI M1 r hs) := by
  obtain ⟨hc, ho, hh, hq, hl, hd⟩ := id hI
  have hL := Lat_of hc ho
  have hg := GV_of hc ho
  obtain ⟨hF, hZ, ⟨e9, he9, he25⟩, hv⟩ := SqP_b hI
  obtain ⟨d1, d2, d3, d4, d5⟩ := id hd
  obtain ⟨hc1, hc2, hc3, hc4⟩ := id hc
  have ho4 := ho.2.2.2.1
  obtain ⟨_, hm, h16, h17, hmi⟩ := id hF
  obtain ⟨hk, hn1, hn5, hnn1, hnn2⟩ := id hL
  have ht := tu_c hk
  have hz1 := hZ.1
  have hG0 : 0 < (GL r).length := List.length_pos_of_mem GL_0
  show J SHC mi_X6_coloringClasses 0 [some (vR 0), some (vI b)] [] M _
  refine j_iload_n dX6_coloringClasses_0 rfl ?_
  refine j_iconst dX6_coloringClasses_1 ?_
  refine j_icmp_lt 10 dX6_coloringClasses_2 rfl (by first | assumption | (unfold inR; omega)) (by first | assumption | (unfold inR; omega)) (fun c2 => ?_) (fun c2 => ?_)
  · refine j_ldc2 (z := -1) kl_X6_184 rfl dX6_coloringClasses_10 ?_
    refine j_lret dX6_coloringClasses_13 rfl ?_
    exact ⟨by rw [if_neg (by omega)], hI⟩
  · refine j_iload_n dX6_coloringClasses_5 rfl ?_
    refine j_iconst dX6_coloringClasses_6 ?_
    refine j_icmp_le 14 dX6_coloringClasses_7 rfl (by first | assumption | (unfold inR; omega)) (by first | assumption | (unfold inR; omega)) (fun c7 => ?_) (fun c7 => ?_)
    · refine j_aload_n dX6_coloringClasses_14 rfl ?_
      refine j_getR dX6_coloringClasses_15 f_X6_53 rfl rfl ?_
      refine j_iload_n dX6_coloringClasses_18 rfl ?_
      refine j_V1g dX6_coloringClasses_19 ok_X0_countColoringClasses v_X6_190 c_X0_countColoringClasses rfl (e_X0_col (b := b) (GL := GL r) ⟨by omega, by omega⟩ GL_len hG0 hL d1 d2 hv) (fun v M1 q => ?_)
      obtain ⟨rfl, f1⟩ := q
      refine j_lret dX6_coloringClasses_22 rfl ⟨?_, CI_keep hI (f1.up (by decide)) (by rw [f1 10 (by decide)])⟩
      rw [if_pos (by omega), hc1, hc2]
    · refine j_ldc2 (z := -1) kl_X6_184 rfl dX6_coloringClasses_10 ?_
      refine j_lret dX6_coloringClasses_13 rfl ?_
      exact ⟨by rw [if_neg (by omega)], hI⟩
