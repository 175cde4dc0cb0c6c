/-! class WallpaperGroups: what is asked of it -/
theorem SqP_b {M : Mem} {r : Row} {hs : List Row} (hI : CI M r hs) : FH M ∧ Sz M ∧ (∃ e : Nat, M 19 9 = e ∧ e ≤ 25) ∧ ∀ x ∈ GL r, vc (M 1 0) (M 1 1) x := by
  obtain ⟨hc, ho, hh, hq, hl, d1, d2, d3, d4, wss, w1, w2, w3⟩ := hI
  have hL := Lat_of hc ho
  have hv : ∀ x ∈ GL r, vc (M 1 0) (M 1 1) x := by rw [hc.1, hc.2.1]; exact GL_vc (M := M) ho
  have hmem : ∀ (m : Nat) (ws : List Int), wss[m]? = some ws → 1 ≤ ws.length ∧ ws.length ≤ 25 := fun m ws hm => by
    obtain ⟨s, b1, -, -⟩ := w2 m ws hm
    refine ⟨List.length_pos_of_mem b1.2.2.2.1, nd_len 25 ws b1.1 (fun x hx => ?_)⟩
    exact SqI_b hL b1 x hx
  refine ⟨⟨hL, ?_, ?_, ?_, ?_⟩, ⟨⟨by omega, by rw [d1]; have := GL_len (r := r); omega⟩, fun q q0 q1 => ?_⟩, ⟨wss.length, w1, ?_⟩, hv⟩
  · intro j a b
    rcases d3 j a b with h | h
    · exact Or.inr h.1
    · exact Or.inl h.1
  · intro j a b
    rcases d4.1 j a b with h | h
    · exact Or.inr h.1
    · exact Or.inl h.1
  · intro j a b
    rcases d4.2.1 j a b with h | h
    · exact Or.inr h.1
    · exact Or.inl h.1
  · intro p a b hp
    rcases d4.2.1 p a b with ⟨h, c, h1, h2, h3⟩ | ⟨h, _⟩
    · have := vc_b hL.1 hL.2.2.2.1 hL.2.2.2.2 (hv c h1)
      omega
    · omega
  · obtain ⟨ws, h1, h2⟩ := List.mem_flatten.mp (w3 q q0 q1)
    obtain ⟨m, hm⟩ := List.getElem?_of_mem h1
    obtain ⟨s, -, b2, -⟩ := w2 m ws hm
    rw [(b2 q h2).2]
    have := hmem m ws hm
    omega
  · have key : ∀ k : Nat, k ≤ wss.length → k ≤ (wss.take k).flatten.length := by
      intro k
      induction k with
      | zero => intro _; exact Nat.zero_le _
      | succ k ih =>
        intro hk
        have hk2 : k < wss.length := hk
        have e : wss[k]? = some wss[k] := List.getElem?_eq_getElem hk2
        have := hmem k _ e
        have h9 := ih (by omega)
        rw [List.take_add_one, e]
        simp only [Option.toList, List.flatten_append, List.length_append, List.flatten_cons, List.flatten_nil, List.append_nil]
        omega
    have hnd : ∀ k : Nat, k ≤ wss.length → (wss.take k).flatten.Nodup := by
      intro k
      induction k with
      | zero => intro _; simp
      | succ k ih =>
        intro hk
        have hk2 : k < wss.length := hk
        have e : wss[k]? = some wss[k] := List.getElem?_eq_getElem hk2
        obtain ⟨s, b1, -, -⟩ := w2 k _ e
        rw [List.take_add_one, e]
        simp only [Option.toList, List.flatten_append, List.flatten_cons, List.flatten_nil, List.append_nil]
        rw [List.nodup_append]
        exact ⟨ih (by omega), b1.1, fun a ha b hb hab => b1.2.2.1 b hb (hab ▸ ha)⟩
    have h1 := key wss.length (Nat.le_refl _)
    have h2 := hnd wss.length (Nat.le_refl _)
    rw [List.take_length] at h1 h2
    have h3 := nd_len 25 wss.flatten h2 (fun x hx => by
      obtain ⟨ws, a1, a2⟩ := List.mem_flatten.mp hx
      obtain ⟨m, hm⟩ := List.getElem?_of_mem a1
      obtain ⟨s, b1, -, -⟩ := w2 m ws hm
      exact SqI_b hL b1 x a2)
    omega
theorem CI_keep {M M1 : Mem} {r : Row} {hs : List Row} (hI : CI M r hs) (f : fr [10, 13, 14, 22, 24] M M1) (h6 : M1 10 6 = M 10 6) : CI M1 r hs := by
  obtain ⟨hc, ho, hh, hq, hl, d1, d2, d3, d4, wss, w1, w2, w3⟩ := hI
  refine ⟨CurC_fr f (by decide) (by decide) (by decide) hc, ho, HisC_fr f hl (by decide) (fun i h => by simp; omega) hh, hq, hl, by rw [h6]; exact d1, Elem_eq d2 (f 12 (by decide)), MembN_eq d3 (f 11 (by decide)), ?_, wss, by rw [f 19 (by decide)]; exact w1, ?_, by rw [f 1 (by decide)]; exact w3⟩
  · unfold FI at d4 ⊢
    rw [f 1 (by decide), f 16 (by decide), f 17 (by decide), f 18 (by decide)]
    exact d4
  · unfold OrbP SqI at w2 ⊢
    rw [gP_fr f (by decide) (by decide), f 1 (by decide), f 20 (by decide), f 21 (by decide)]
    exact w2

theorem e_X6_generator {M : Mem} {r : Row} {hs : List Row} (hI : CI M r hs) {i : Int} (hi : inR i) : J SHC mi_X6_generator 0 (ent [vR 0, vI i] 2) [] M (pu (vI (if i < 0 then -1 else if i < r.2.2.length then r.2.2.getD i.toNat 0 else -3)) M) := by
  obtain ⟨hc, ho, hh, hq, hl, hd⟩ := id hI
  have hL := Lat_of hc ho
  have hg := GV_of hc ho
  obtain ⟨hF, hZ, ⟨e9, he9, he25⟩, hv⟩ := SqP_b hI
  obtain ⟨d1, d2, d3, d4, d5⟩ := id hd
  obtain ⟨hc1, hc2, hc3, hc4⟩ := id hc
  have ho4 := ho.2.2.2.1
  obtain ⟨_, hm, h16, h17, hmi⟩ := id hF
  obtain ⟨hk, hn1, hn5, hnn1, hnn2⟩ := id hL
  have ht := tu_c hk
  have hz1 := hZ.1
  show J SHC mi_X6_generator 0 [some (vR 0), some (vI i)] [] M _
  refine j_iload_n dX6_generator_0 rfl ?_
  refine j_if_ge 6 dX6_generator_1 rfl (by first | assumption | (unfold inR; omega)) (fun c1 => ?_) (fun c1 => ?_)
  · refine j_aload_n dX6_generator_6 rfl ?_
    refine j_getR dX6_generator_7 f_X6_19 rfl rfl ?_
    refine j_iload_n dX6_generator_10 rfl ?_
    refine j_V1z dX6_generator_11 ok_X2_has v_X6_94 c_X2_has rfl (e_X2_has hg.1 hi) (fun z11 M11 q11 => ?_)
    obtain ⟨rfl, q11⟩ := q11
    rw [hc3] at q11
    refine j_if_eq 28 dX6_generator_14 rfl (by first | assumption | (unfold inR; omega)) (fun c14 => ?_) (fun c14 => ?_)
    · refine j_bipush dX6_generator_28 (by decide +kernel) ?_
      refine j_iret dX6_generator_30 rfl ?_
      apply pu_i
      first
      | (rw [if_pos (by omega)]; done)
      | (rw [if_neg (by omega), if_neg (by omega)]; done)
      | (have hin : i.toNat < r.2.2.length := by omega
         rw [if_neg (by omega), if_pos (by omega), List.getD_eq_getElem?_getD, List.getElem?_eq_getElem hin]
         have h9 := hc4 i.toNat _ (List.getElem?_eq_getElem hin)
         rw [show ((i.toNat : Nat) : Int) = i by omega] at h9
         exact h9)
    · refine j_aload_n dX6_generator_17 rfl ?_
      refine j_getR dX6_generator_18 f_X6_19 rfl rfl ?_
      refine j_iload_n dX6_generator_21 rfl ?_
      refine j_V1p dX6_generator_22 ok_X2_codeAt v_X6_101 c_X2_codeAt rfl (e_X2_codeAt (by omega) (by omega)) ?_
      refine j_goto 30 dX6_generator_25 rfl ?_
      refine j_iret dX6_generator_30 rfl ?_
      apply pu_i
      first
      | (rw [if_pos (by omega)]; done)
      | (rw [if_neg (by omega), if_neg (by omega)]; done)
      | (have hin : i.toNat < r.2.2.length := by omega
         rw [if_neg (by omega), if_pos (by omega), List.getD_eq_getElem?_getD, List.getElem?_eq_getElem hin]
         have h9 := hc4 i.toNat _ (List.getElem?_eq_getElem hin)
         rw [show ((i.toNat : Nat) : Int) = i by omega] at h9
         exact h9)
  · refine j_iconst dX6_generator_4 ?_
    refine j_iret dX6_generator_5 rfl ?_
    apply pu_i
    first
    | (rw [if_pos (by omega)]; done)
    | (rw [if_neg (by omega), if_neg (by omega)]; done)
    | (have hin : i.toNat < r.2.2.length := by omega
       rw [if_neg (by omega), if_pos (by omega), List.getD_eq_getElem?_getD, List.getElem?_eq_getElem hin]
       have h9 := hc4 i.toNat _ (List.getElem?_eq_getElem hin)
       rw [show ((i.toNat : Nat) : Int) = i by omega] at h9
       exact h9)
theorem e_X6_order {M : Mem} {r : Row} {hs : List Row} (hI : CI M r hs)  : J SHC mi_X6_order 0 (ent [vR 0] 1) [] M (pu (vI (GL r).length) M) := by
  obtain ⟨hc, ho, hh, hq, hl, hd⟩ := id hI
  have hL := Lat_of hc ho
  have hg := GV_of hc ho
  obtain ⟨hF, hZ, ⟨e9, he9, he25⟩, hv⟩ := SqP_b hI
  obtain ⟨d1, d2, d3, d4, d5⟩ := id hd
  obtain ⟨hc1, hc2, hc3, hc4⟩ := id hc
  have ho4 := ho.2.2.2.1
  obtain ⟨_, hm, h16, h17, hmi⟩ := id hF
  obtain ⟨hk, hn1, hn5, hnn1, hnn2⟩ := id hL
  have ht := tu_c hk
  have hz1 := hZ.1
  show J SHC mi_X6_order 0 [some (vR 0)] [] M _
  refine j_aload_n dX6_order_0 rfl ?_
  refine j_getR dX6_order_1 f_X6_35 rfl rfl ?_
  refine j_V0p dX6_order_4 ok_X3_size v_X6_90 c_X3_size rfl (e_X3_size) ?_
  refine j_iret dX6_order_7 rfl ?_
  exact pu_i d1
theorem e_X6_element {M : Mem} {r : Row} {hs : List Row} (hI : CI M r hs) {i : Int} (hi : inR i) : J SHC mi_X6_element 0 (ent [vR 0, vI i] 2) [] M (pu (vI (if i < 0 then -1 else if i < (GL r).length then (GL r).getD i.toNat 0 else -3)) M) := by
  obtain ⟨hc, ho, hh, hq, hl, hd⟩ := id hI
  have hL := Lat_of hc ho
  have hg := GV_of hc ho
  obtain ⟨hF, hZ, ⟨e9, he9, he25⟩, hv⟩ := SqP_b hI
  obtain ⟨d1, d2, d3, d4, d5⟩ := id hd
  obtain ⟨hc1, hc2, hc3, hc4⟩ := id hc
  have ho4 := ho.2.2.2.1
  obtain ⟨_, hm, h16, h17, hmi⟩ := id hF
  obtain ⟨hk, hn1, hn5, hnn1, hnn2⟩ := id hL
  have ht := tu_c hk
  have hz1 := hZ.1
  show J SHC mi_X6_element 0 [some (vR 0), some (vI i)] [] M _
  refine j_iload_n dX6_element_0 rfl ?_
  refine j_if_ge 6 dX6_element_1 rfl (by first | assumption | (unfold inR; omega)) (fun c1 => ?_) (fun c1 => ?_)
  · refine j_iload_n dX6_element_6 rfl ?_
    refine j_aload_n dX6_element_7 rfl ?_
    refine j_getR dX6_element_8 f_X6_35 rfl rfl ?_
    refine j_V0p dX6_element_11 ok_X3_size v_X6_90 c_X3_size rfl (e_X3_size) ?_
    refine j_icmp_ge 28 dX6_element_14 rfl (by first | assumption | (unfold inR; omega)) (by first | assumption | (unfold inR; omega)) (fun c14 => ?_) (fun c14 => ?_)
    · refine j_bipush dX6_element_28 (by decide +kernel) ?_
      refine j_iret dX6_element_30 rfl ?_
      apply pu_i
      first
      | (rw [if_pos (by omega)]; done)
      | (rw [if_neg (by omega), if_neg (by omega)]; done)
      | (have hin : i.toNat < (GL r).length := by omega
         rw [if_neg (by omega), if_pos (by omega), List.getD_eq_getElem?_getD, List.getElem?_eq_getElem hin]
         have h9 := d2 i.toNat _ (List.getElem?_eq_getElem hin)
         rw [show ((i.toNat : Nat) : Int) = i by omega] at h9
         exact h9)
    · refine j_aload_n dX6_element_17 rfl ?_
      refine j_getR dX6_element_18 f_X6_35 rfl rfl ?_
      refine j_iload_n dX6_element_21 rfl ?_
      refine j_V1p dX6_element_22 ok_X3_elementAt v_X6_117 c_X3_elementAt rfl (e_X3_elementAt (by omega) (by omega)) ?_
      refine j_goto 30 dX6_element_25 rfl ?_
      refine j_iret dX6_element_30 rfl ?_
      apply pu_i
      first
      | (rw [if_pos (by omega)]; done)
      | (rw [if_neg (by omega), if_neg (by omega)]; done)
      | (have hin : i.toNat < (GL r).length := by omega
         rw [if_neg (by omega), if_pos (by omega), List.getD_eq_getElem?_getD, List.getElem?_eq_getElem hin]
         have h9 := d2 i.toNat _ (List.getElem?_eq_getElem hin)
         rw [show ((i.toNat : Nat) : Int) = i by omega] at h9
         exact h9)
  · refine j_iconst dX6_element_4 ?_
    refine j_iret dX6_element_5 rfl ?_
    apply pu_i
    first
    | (rw [if_pos (by omega)]; done)
    | (rw [if_neg (by omega), if_neg (by omega)]; done)
    | (have hin : i.toNat < (GL r).length := by omega
       rw [if_neg (by omega), if_pos (by omega), List.getD_eq_getElem?_getD, List.getElem?_eq_getElem hin]
       have h9 := d2 i.toNat _ (List.getElem?_eq_getElem hin)
       rw [show ((i.toNat : Nat) : Int) = i by omega] at h9
       exact h9)
theorem e_X6_contains {M : Mem} {r : Row} {hs : List Row} (hI : CI M r hs) {c : Int} (hi : inR c) : J SHC mi_X6_contains 0 (ent [vR 0, vI c] 2) [] M (pz (fun z M1 => M = M1 ∧ ((vc r.1 r.2.1 c ∧ z = ind (c ∈ GL r)) ∨ (¬ vc r.1 r.2.1 c ∧ z = -1)))) := by
  obtain ⟨hc, ho, hh, hq, hl, hd⟩ := id hI
  have hL := Lat_of hc ho
  have hg := GV_of hc ho
  obtain ⟨hF, hZ, ⟨e9, he9, he25⟩, hv⟩ := SqP_b hI
  obtain ⟨d1, d2, d3, d4, d5⟩ := id hd
  obtain ⟨hc1, hc2, hc3, hc4⟩ := id hc
  have ho4 := ho.2.2.2.1
  obtain ⟨_, hm, h16, h17, hmi⟩ := id hF
  obtain ⟨hk, hn1, hn5, hnn1, hnn2⟩ := id hL
  have ht := tu_c hk
  have hz1 := hZ.1
  show J SHC mi_X6_contains 0 [some (vR 0), some (vI c)] [] M _
  refine j_aload_n dX6_contains_0 rfl ?_
  refine j_getR dX6_contains_1 f_X6_12 rfl rfl ?_
  refine j_iload_n dX6_contains_4 rfl ?_
  refine j_V1z dX6_contains_5 ok_X5_hasCode v_X6_120 c_X5_hasCode rfl (e_X5_hasCode hL hi) (fun z5 M5 q5 => ?_)
  obtain ⟨rfl, q5⟩ := q5
  rw [hc1, hc2] at q5
  refine j_if_ne 13 dX6_contains_8 rfl (by unfold inR; omega) (fun c8 => ?_) (fun c8 => ?_)
  · refine j_aload_n dX6_contains_13 rfl ?_
    refine j_getR dX6_contains_14 f_X6_35 rfl rfl ?_
    refine j_iload_n dX6_contains_17 rfl ?_
    refine j_V1z dX6_contains_18 ok_X3_has v_X6_123 c_X3_has rfl (e_X3_has hm hi) (fun z18 M18 q18 => ?_)
    obtain ⟨rfl, q18⟩ := q18
    refine j_S1p dX6_contains_21 ok_X6_oneIf s_X6_124 (e_oneIf (by omega)) ?_
    refine j_iret dX6_contains_24 rfl ?_
    refine ⟨_, rfl, rfl, Or.inl ⟨?_, ?_⟩⟩
    · rcases q5 with q | q
      · exact q.2
      · omega
    · rcases q18 with q | q
      · rcases d3 c (by omega) (by omega) with w | w
        · rw [ind_1 w.2]; exact q.1
        · omega
      · by_cases h : c ∈ GL r
        · exfalso
          have h1 := GL_mem.mp h
          rcases d3 c h1.1 h1.2.1 with w | w
          · exact q.2 ⟨h1.1, h1.2.1, w.1⟩
          · exact w.2 h
        · rw [ind_0 h]; exact q.1
  · refine j_iconst dX6_contains_11 ?_
    refine j_iret dX6_contains_12 rfl ?_
    refine ⟨_, rfl, rfl, Or.inr ⟨?_, rfl⟩⟩
    rcases q5 with q | q
    · omega
    · exact q.2
theorem e_X6_product {M : Mem} {r : Row} {hs : List Row} (hI : CI M r hs) {c d : Int} (hi : inR c) (hj : inR d) : J SHC mi_X6_product 0 (ent [vR 0, vI c, vI d] 3) [] M (pz (fun z M1 => M = M1 ∧ (((vc r.1 r.2.1 c ∧ vc r.1 r.2.1 d) ∧ z = tm r.1 r.2.1 c d) ∨ (¬ (vc r.1 r.2.1 c ∧ vc r.1 r.2.1 d) ∧ z = -1)))) := by
  obtain ⟨hc, ho, hh, hq, hl, hd⟩ := id hI
  have hL := Lat_of hc ho
  have hg := GV_of hc ho
  obtain ⟨hF, hZ, ⟨e9, he9, he25⟩, hv⟩ := SqP_b hI
  obtain ⟨d1, d2, d3, d4, d5⟩ := id hd
  obtain ⟨hc1, hc2, hc3, hc4⟩ := id hc
  have ho4 := ho.2.2.2.1
  obtain ⟨_, hm, h16, h17, hmi⟩ := id hF
  obtain ⟨hk, hn1, hn5, hnn1, hnn2⟩ := id hL
  have ht := tu_c hk
  have hz1 := hZ.1
  show J SHC mi_X6_product 0 [some (vR 0), some (vI c), some (vI d)] [] M _
  refine j_aload_n dX6_product_0 rfl ?_
  refine j_getR dX6_product_1 f_X6_12 rfl rfl ?_
  refine j_iload_n dX6_product_4 rfl ?_
  refine j_V1z dX6_product_5 ok_X5_hasCode v_X6_120 c_X5_hasCode rfl (e_X5_hasCode hL hi) (fun z5 M5 q5 => ?_)
  obtain ⟨rfl, q5⟩ := q5
  rw [hc1, hc2] at q5
  refine j_if_eq 22 dX6_product_8 rfl (by unfold inR; omega) (fun c8 => ?_) (fun c8 => ?_)
  · refine j_iconst dX6_product_22 ?_
    refine j_iret dX6_product_23 rfl ?_
    first
    | (refine ⟨_, rfl, rfl, Or.inl ⟨⟨?_, ?_⟩, by rw [hc1, hc2]⟩⟩
       · rcases q5 with q | q
         · exact q.2
         · omega
       · rcases q16 with q | q
         · exact q.2
         · omega)
    | (refine ⟨_, rfl, rfl, Or.inr ⟨?_, rfl⟩⟩
       rcases q16 with q | q
       · omega
       · exact fun h => q.2 h.2)
    | (refine ⟨_, rfl, rfl, Or.inr ⟨?_, rfl⟩⟩
       rcases q5 with q | q
       · omega
       · exact fun h => q.2 h.1)
  · refine j_aload_n dX6_product_11 rfl ?_
    refine j_getR dX6_product_12 f_X6_12 rfl rfl ?_
    refine j_iload_n dX6_product_15 rfl ?_
    refine j_V1z dX6_product_16 ok_X5_hasCode v_X6_120 c_X5_hasCode rfl (e_X5_hasCode hL hj) (fun z16 M16 q16 => ?_)
    obtain ⟨rfl, q16⟩ := q16
    rw [hc1, hc2] at q16
    refine j_if_ne 24 dX6_product_19 rfl (by unfold inR; omega) (fun c19 => ?_) (fun c19 => ?_)
    · refine j_aload_n dX6_product_24 rfl ?_
      refine j_getR dX6_product_25 f_X6_12 rfl rfl ?_
      refine j_iload_n dX6_product_28 rfl ?_
      refine j_iload_n dX6_product_29 rfl ?_
      refine j_V2p dX6_product_30 ok_X5_times v_X6_128 c_X5_times rfl (e_X5_times hL (by rcases q5 with q | q; (rw [hc1, hc2]; exact q.2); (exfalso; omega)) (by rcases q16 with q | q; (rw [hc1, hc2]; exact q.2); (exfalso; omega))) ?_
      refine j_iret dX6_product_33 rfl ?_
      first
      | (refine ⟨_, rfl, rfl, Or.inl ⟨⟨?_, ?_⟩, by rw [hc1, hc2]⟩⟩
         · rcases q5 with q | q
           · exact q.2
           · omega
         · rcases q16 with q | q
           · exact q.2
           · omega)
      | (refine ⟨_, rfl, rfl, Or.inr ⟨?_, rfl⟩⟩
         rcases q16 with q | q
         · omega
         · exact fun h => q.2 h.2)
      | (refine ⟨_, rfl, rfl, Or.inr ⟨?_, rfl⟩⟩
         rcases q5 with q | q
         · omega
         · exact fun h => q.2 h.1)
    · refine j_iconst dX6_product_22 ?_
      refine j_iret dX6_product_23 rfl ?_
      first
      | (refine ⟨_, rfl, rfl, Or.inl ⟨⟨?_, ?_⟩, by rw [hc1, hc2]⟩⟩
         · rcases q5 with q | q
           · exact q.2
           · omega
         · rcases q16 with q | q
           · exact q.2
           · omega)
      | (refine ⟨_, rfl, rfl, Or.inr ⟨?_, rfl⟩⟩
         rcases q16 with q | q
         · omega
         · exact fun h => q.2 h.2)
      | (refine ⟨_, rfl, rfl, Or.inr ⟨?_, rfl⟩⟩
         rcases q5 with q | q
         · omega
         · exact fun h => q.2 h.1)
