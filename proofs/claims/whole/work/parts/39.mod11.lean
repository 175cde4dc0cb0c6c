/-! THE MODEL: centering now; shortest vectors; the type -/
theorem MR_01 (r : Row) (p : Int) : (MR r 16 p = 1 ∨ MR r 16 p = 0) ∧ (MR r 17 p = 1 ∨ MR r 17 p = 0) := by
  constructor
  · rw [MR_o]
    rcases ind_01 (∃ c ∈ GL r, cP r.2.1 c = p) with q | q
    · exact Or.inl q.1
    · exact Or.inr q.1
  · rw [MR_r]
    rcases ind_01 (∃ c ∈ GL r, cP r.2.1 c = p ∧ kn r.1 r.2.1 c = 2) with q | q
    · exact Or.inl q.1
    · exact Or.inr q.1
theorem MR_lt {r : Row} (ho : okR r) {p : Int} (h : MR r 16 p = 1 ∨ MR r 17 p = 1) : 0 ≤ p ∧ p < 2 * tu r.1 := by
  have hnn := nn_b ho.2.1 ho.2.2.1
  rw [MR_o, MR_r, ind_iff, ind_iff] at h
  rcases h with ⟨c, a, b⟩ | ⟨c, a, b, _⟩
  · have := (vc_b ho.1 hnn.1 hnn.2 (GL_vc (M := fun _ _ => 0) ho c a)).2.2
    omega
  · have := (vc_b ho.1 hnn.1 hnn.2 (GL_vc (M := fun _ _ => 0) ho c a)).2.2
    omega

theorem l_cnow {M : Mem} {r : Row} {hs : List Row} (hI : MS M r hs) {S : Nat} (hS : S < 2 ^ 12) (hb : ∀ p : Nat, p < 12 → bit S p = MR r 17 p) (m : Nat) : ∀ (i s : Int), 0 ≤ i → i ≤ 2 * tu (M 1 0) → 2 * tu (M 1 0) - i < m → ((s = 1 ∧ (∃ q : Int, 0 ≤ q ∧ q < i ∧ MR r 17 q = 1 ∧ ¬ khs (MR r) q)) ∨ (s = 0 ∧ ¬ (∃ q : Int, 0 ≤ q ∧ q < i ∧ MR r 17 q = 1 ∧ ¬ khs (MR r) q))) → J SHM mi_X7_isCenteredNow 10 [some (vR 0), some (vI S), some (vI s), some (vI i)] [] M (bz (∃ q : Int, 0 ≤ q ∧ q < (2 * tu (M 1 0)) ∧ MR r 17 q = 1 ∧ ¬ khs (MR r) q) M) := by
  induction m with
  | zero => intro i s h0 h1 h2; omega
  | succ m ih =>
  intro i s h0 h1 h2 hs
  obtain ⟨hc, ho, hh, hq, hl, hd⟩ := id hI
  have hL := LaM_of hc ho
  have hg := GM_of hc ho
  obtain ⟨hP, es, hB, hnd, hes⟩ := id hd
  obtain ⟨hc1, hc2, hc3, hc4⟩ := id hc
  have ho4 := ho.2.2.2.1
  obtain ⟨hln, hv, hpm, hle⟩ := MS_b hI hB hnd hes
  obtain ⟨hk, hn1, hn5, hnn1, hnn2⟩ := id hL
  have ht := tu_c hk
  obtain ⟨hP1, hP2, hP3⟩ := id hP
  obtain ⟨hB1, hB2, hB3⟩ := id hB
  have hb1 := fun h => hb i.toNat h
  rw [show ((i.toNat : Nat) : Int) = i by omega] at hb1
  have hbb := bit_01 S i.toNat
  refine j_iload_n dX7_isCenteredNow_10 rfl ?_
  refine j_aload_n dX7_isCenteredNow_11 rfl ?_
  refine j_getI (kz := 3) rfl dX7_isCenteredNow_12 f_X7_36 rfl rfl ?_
  refine j_icmp_ge 51 dX7_isCenteredNow_15 rfl (by first | (unfold inR; omega) | (rw [hP1]; unfold inR; omega)) (by first | (unfold inR; omega) | (rw [hP1]; unfold inR; omega)) (fun c15 => ?_) (fun c15 => ?_)
  · refine j_iload_n dX7_isCenteredNow_51 rfl ?_
    refine j_zret dX7_isCenteredNow_52 rfl (by first | exact Or.inl rfl | exact Or.inr rfl | omega) ?_
    have hi : i = 2 * tu (M 1 0) := by omega
    subst hi
    exact bz_i hs
  · refine j_iload_n dX7_isCenteredNow_18 rfl ?_
    refine j_if_ne 39 dX7_isCenteredNow_19 rfl (by first | (unfold inR; omega) | (rw [hP1]; unfold inR; omega)) (fun c19 => ?_) (fun c19 => ?_)
    · refine j_iconst dX7_isCenteredNow_39 ?_
      refine j_goto 44 dX7_isCenteredNow_40 rfl ?_
      refine j_istore_n dX7_isCenteredNow_44 (by decide) (nol rfl) (by show List.set _ 2 _ = _; simp only [List.set_cons_zero, List.set_cons_succ]; rfl) ?_
      refine j_iinc dX7_isCenteredNow_45 rfl (by decide) (nol rfl) (by simp only [List.set_cons_zero, List.set_cons_succ]; rfl) ?_
      refine j_goto 10 dX7_isCenteredNow_48 rfl ?_
      refine ih (i + 1) _ (by omega) (by omega) (by omega) ?_
      have hb2 := hb1 (by omega)
      first
      | (exfalso; omega)
      | (refine Or.inl ⟨rfl, ?_⟩
         rcases hs with ⟨_, c, a, b, d⟩ | h
         · exact ⟨c, a, by omega, d⟩
         · omega)
      | (refine Or.inl ⟨rfl, i, h0, by omega, by omega, ?_⟩
         rcases q33 with q | q
         · exact q.2
         · omega)
      | (refine Or.inr ⟨rfl, ?_⟩
         rintro ⟨c, a, b, d, e⟩
         by_cases q : c = i
         · subst q
           first
           | omega
           | (rcases q33 with w | w
              · omega
              · exact w.2 e)
         · rcases hs with h | h
           · omega
           · exact h.2 ⟨c, a, by omega, d, e⟩)
    · refine j_iload_n dX7_isCenteredNow_22 rfl ?_
      refine j_iload_n dX7_isCenteredNow_23 rfl ?_
      refine j_ishr dX7_isCenteredNow_24 (shr_i (Nat.lt_trans hS (by decide)) (by omega)) ?_
      refine j_iconst dX7_isCenteredNow_25 ?_
      refine j_iand dX7_isCenteredNow_26 (i3_and1 _ _) ?_
      refine j_iconst dX7_isCenteredNow_27 ?_
      refine j_icmp_ne 43 dX7_isCenteredNow_28 rfl (by first | (unfold inR; omega) | (rw [hP1]; unfold inR; omega)) (by first | (unfold inR; omega) | (rw [hP1]; unfold inR; omega)) (fun c28 => ?_) (fun c28 => ?_)
      · refine j_iconst dX7_isCenteredNow_43 ?_
        refine j_istore_n dX7_isCenteredNow_44 (by decide) (nol rfl) (by show List.set _ 2 _ = _; simp only [List.set_cons_zero, List.set_cons_succ]; rfl) ?_
        refine j_iinc dX7_isCenteredNow_45 rfl (by decide) (nol rfl) (by simp only [List.set_cons_zero, List.set_cons_succ]; rfl) ?_
        refine j_goto 10 dX7_isCenteredNow_48 rfl ?_
        refine ih (i + 1) _ (by omega) (by omega) (by omega) ?_
        have hb2 := hb1 (by omega)
        first
        | (exfalso; omega)
        | (refine Or.inl ⟨rfl, ?_⟩
           rcases hs with ⟨_, c, a, b, d⟩ | h
           · exact ⟨c, a, by omega, d⟩
           · omega)
        | (refine Or.inl ⟨rfl, i, h0, by omega, by omega, ?_⟩
           rcases q33 with q | q
           · exact q.2
           · omega)
        | (refine Or.inr ⟨rfl, ?_⟩
           rintro ⟨c, a, b, d, e⟩
           by_cases q : c = i
           · subst q
             first
             | omega
             | (rcases q33 with w | w
                · omega
                · exact w.2 e)
           · rcases hs with h | h
             · omega
             · exact h.2 ⟨c, a, by omega, d, e⟩)
      · refine j_aload_n dX7_isCenteredNow_31 rfl ?_
        refine j_iload_n dX7_isCenteredNow_32 rfl ?_
        refine j_V1z dX7_isCenteredNow_33 ok_X7_isCenteredBy v_X7_149 c_X7_isCenteredBy rfl (e_X7_isCenteredBy hI (by omega)) (fun z33 M33 q33 => ?_)
        obtain ⟨rfl, q33⟩ := q33
        refine j_if_eq 43 dX7_isCenteredNow_36 rfl (by first | (unfold inR; omega) | (rw [hP1]; unfold inR; omega)) (fun c36 => ?_) (fun c36 => ?_)
        · refine j_iconst dX7_isCenteredNow_43 ?_
          refine j_istore_n dX7_isCenteredNow_44 (by decide) (nol rfl) (by show List.set _ 2 _ = _; simp only [List.set_cons_zero, List.set_cons_succ]; rfl) ?_
          refine j_iinc dX7_isCenteredNow_45 rfl (by decide) (nol rfl) (by simp only [List.set_cons_zero, List.set_cons_succ]; rfl) ?_
          refine j_goto 10 dX7_isCenteredNow_48 rfl ?_
          refine ih (i + 1) _ (by omega) (by omega) (by omega) ?_
          have hb2 := hb1 (by omega)
          first
          | (exfalso; omega)
          | (refine Or.inl ⟨rfl, ?_⟩
             rcases hs with ⟨_, c, a, b, d⟩ | h
             · exact ⟨c, a, by omega, d⟩
             · omega)
          | (refine Or.inl ⟨rfl, i, h0, by omega, by omega, ?_⟩
             rcases q33 with q | q
             · exact q.2
             · omega)
          | (refine Or.inr ⟨rfl, ?_⟩
             rintro ⟨c, a, b, d, e⟩
             by_cases q : c = i
             · subst q
               first
               | omega
               | (rcases q33 with w | w
                  · omega
                  · exact w.2 e)
             · rcases hs with h | h
               · omega
               · exact h.2 ⟨c, a, by omega, d, e⟩)
        · refine j_iconst dX7_isCenteredNow_39 ?_
          refine j_goto 44 dX7_isCenteredNow_40 rfl ?_
          refine j_istore_n dX7_isCenteredNow_44 (by decide) (nol rfl) (by show List.set _ 2 _ = _; simp only [List.set_cons_zero, List.set_cons_succ]; rfl) ?_
          refine j_iinc dX7_isCenteredNow_45 rfl (by decide) (nol rfl) (by simp only [List.set_cons_zero, List.set_cons_succ]; rfl) ?_
          refine j_goto 10 dX7_isCenteredNow_48 rfl ?_
          refine ih (i + 1) _ (by omega) (by omega) (by omega) ?_
          have hb2 := hb1 (by omega)
          first
          | (exfalso; omega)
          | (refine Or.inl ⟨rfl, ?_⟩
             rcases hs with ⟨_, c, a, b, d⟩ | h
             · exact ⟨c, a, by omega, d⟩
             · omega)
          | (refine Or.inl ⟨rfl, i, h0, by omega, by omega, ?_⟩
             rcases q33 with q | q
             · exact q.2
             · omega)
          | (refine Or.inr ⟨rfl, ?_⟩
             rintro ⟨c, a, b, d, e⟩
             by_cases q : c = i
             · subst q
               first
               | omega
               | (rcases q33 with w | w
                  · omega
                  · exact w.2 e)
             · rcases hs with h | h
               · omega
               · exact h.2 ⟨c, a, by omega, d, e⟩)
theorem e_X7_isCenteredNow {M : Mem} {r : Row} {hs : List Row} (hI : MS M r hs)  : J SHM mi_X7_isCenteredNow 0 (ent [vR 0] 4) [] M (bz (Cen (MR r)) M) := by
  obtain ⟨hc, ho, hh, hq, hl, hd⟩ := id hI
  have hL := LaM_of hc ho
  have hg := GM_of hc ho
  obtain ⟨hP, es, hB, hnd, hes⟩ := id hd
  obtain ⟨hc1, hc2, hc3, hc4⟩ := id hc
  have ho4 := ho.2.2.2.1
  obtain ⟨hln, hv, hpm, hle⟩ := MS_b hI hB hnd hes
  obtain ⟨hk, hn1, hn5, hnn1, hnn2⟩ := id hL
  have ht := tu_c hk
  obtain ⟨hP1, hP2, hP3⟩ := id hP
  obtain ⟨hB1, hB2, hB3⟩ := id hB
  show J SHM mi_X7_isCenteredNow 0 [some (vR 0), none, none, none] [] M _
  refine j_aload_n dX7_isCenteredNow_0 rfl ?_
  refine j_iconst dX7_isCenteredNow_1 ?_
  refine j_V1g dX7_isCenteredNow_2 ok_X7_partSet v_X7_126 c_X7_partSet rfl (e_X7_partSet (re := 1) hI (by decide)) (fun v M9 q9 => ?_)
  obtain ⟨hM9, S, rfl, hS, hb⟩ := q9
  subst hM9
  have hb : ∀ p : Nat, p < 12 → bit S p = MR r 17 p := hb
  refine j_istore_n dX7_isCenteredNow_5 (by decide) (nol rfl) (by show List.set _ 1 _ = _; simp only [List.set_cons_zero, List.set_cons_succ]; rfl) ?_
  refine j_iconst dX7_isCenteredNow_6 ?_
  refine j_istore_n dX7_isCenteredNow_7 (by decide) (nol rfl) (by show List.set _ 2 _ = _; simp only [List.set_cons_zero, List.set_cons_succ]; rfl) ?_
  refine j_iconst dX7_isCenteredNow_8 ?_
  refine j_istore_n dX7_isCenteredNow_9 (by decide) (nol rfl) (by show List.set _ 3 _ = _; simp only [List.set_cons_zero, List.set_cons_succ]; rfl) ?_
  refine j_mono ?_ (l_cnow hI hS hb 13 0 0 (by omega) (by omega) (by omega) (Or.inr ⟨rfl, fun ⟨q, a, b, _⟩ => by omega⟩))
  rintro v M1 ⟨z, rfl, hM, hz⟩
  refine ⟨z, rfl, hM, ?_⟩
  have key : (∃ q : Int, 0 ≤ q ∧ q < (2 * tu (M9 1 0)) ∧ MR r 17 q = 1 ∧ ¬ khs (MR r) q) ↔ Cen (MR r) := by
    unfold Cen
    constructor
    · rintro ⟨q, a, b, c, d⟩
      exact ⟨q, a, by omega, c, d⟩
    · rintro ⟨q, a, b, c, d⟩
      have := MR_lt ho (Or.inr c)
      exact ⟨q, a, by rw [hc1]; omega, c, d⟩
  rw [← key]
  exact hz
theorem e_X7_isCentered {M : Mem} {r : Row} {hs : List Row} (hI : MS M r hs)  : J SHM mi_X7_isCentered 0 (ent [vR 0] 1) [] M (bz (Cen (MR r)) M) := by
  obtain ⟨hc, ho, hh, hq, hl, hd⟩ := id hI
  have hL := LaM_of hc ho
  have hg := GM_of hc ho
  obtain ⟨hP, es, hB, hnd, hes⟩ := id hd
  obtain ⟨hc1, hc2, hc3, hc4⟩ := id hc
  have ho4 := ho.2.2.2.1
  obtain ⟨hln, hv, hpm, hle⟩ := MS_b hI hB hnd hes
  obtain ⟨hk, hn1, hn5, hnn1, hnn2⟩ := id hL
  have ht := tu_c hk
  obtain ⟨hP1, hP2, hP3⟩ := id hP
  obtain ⟨hB1, hB2, hB3⟩ := id hB
  show J SHM mi_X7_isCentered 0 [some (vR 0)] [] M _
  refine j_aload_n dX7_isCentered_0 rfl ?_
  refine j_V0z dX7_isCentered_1 ok_X7_isCenteredNow v_X7_152 c_X7_isCenteredNow rfl (e_X7_isCenteredNow hI) (fun z1 M1 q1 => ?_)
  obtain ⟨rfl, q1⟩ := q1
  refine j_if_eq 11 dX7_isCentered_4 rfl (by unfold inR; omega) (fun c4 => ?_) (fun c4 => ?_)
  · refine j_iconst dX7_isCentered_11 ?_
    refine j_iret dX7_isCentered_12 rfl ?_
    refine bz_i ?_
    rcases q1 with q | q
    · first
      | exact Or.inl ⟨rfl, q.2⟩
      | (exfalso; omega)
    · first
      | exact Or.inr ⟨rfl, q.2⟩
      | (exfalso; omega)
  · refine j_iconst dX7_isCentered_7 ?_
    refine j_goto 12 dX7_isCentered_8 rfl ?_
    refine j_iret dX7_isCentered_12 rfl ?_
    refine bz_i ?_
    rcases q1 with q | q
    · first
      | exact Or.inl ⟨rfl, q.2⟩
      | (exfalso; omega)
    · first
      | exact Or.inr ⟨rfl, q.2⟩
      | (exfalso; omega)
theorem mul10 {x y : Int} (hx : -10 ≤ x ∧ x ≤ 10) (hy : -10 ≤ y ∧ y ≤ 10) : -100 ≤ x * y ∧ x * y ≤ 100 := by
  rcases (show x = -10 ∨ x = -9 ∨ x = -8 ∨ x = -7 ∨ x = -6 ∨ x = -5 ∨ x = -4 ∨ x = -3 ∨ x = -2 ∨ x = -1 ∨ x = 0 ∨ x = 1 ∨ x = 2 ∨ x = 3 ∨ x = 4 ∨ x = 5 ∨ x = 6 ∨ x = 7 ∨ x = 8 ∨ x = 9 ∨ x = 10 by omega) with rfl | rfl | rfl | rfl | rfl | rfl | rfl | rfl | rfl | rfl | rfl | rfl | rfl | rfl | rfl | rfl | rfl | rfl | rfl | rfl | rfl <;> omega
theorem sqL_10 {x y : Int} (hx : -10 ≤ x ∧ x ≤ 10) (hy : -10 ≤ y ∧ y ≤ 10) : -300 ≤ sqL x y ∧ sqL x y ≤ 300 := by
  have h1 := mul10 hx hx
  have h2 := mul10 hx hy
  have h3 := mul10 hy hy
  unfold sqL; omega
theorem sq_fin : (List.range 6).all (fun n => (List.range 21).all (fun a => (List.range 21).all (fun b => !(decide (sqL ((a : Nat) - 10) ((b : Nat) - 10) ≤ ((n * n : Nat) : Int))) || (decide (-(n : Nat) ≤ (((a : Nat) : Int) - 10)) && decide ((((a : Nat) : Int) - 10) ≤ (n : Nat)) && decide (-(n : Nat) ≤ (((b : Nat) : Int) - 10)) && decide ((((b : Nat) : Int) - 10) ≤ (n : Nat)))))) = true := by decide +kernel
theorem sq_small {n x y : Int} (hn1 : 1 ≤ n) (hn5 : n ≤ 5) (hx : -10 ≤ x ∧ x ≤ 10) (hy : -10 ≤ y ∧ y ≤ 10) (h : sqL x y ≤ n * n) : -n ≤ x ∧ x ≤ n ∧ -n ≤ y ∧ y ≤ n := by
  have a1 := List.all_eq_true.mp sq_fin n.toNat (List.mem_range.mpr (by omega))
  have a2 := List.all_eq_true.mp a1 (x + 10).toNat (List.mem_range.mpr (by omega))
  have a3 := List.all_eq_true.mp a2 (y + 10).toNat (List.mem_range.mpr (by omega))
  rw [show ((((x + 10).toNat : Nat) : Int) - 10) = x by omega, show ((((y + 10).toNat : Nat) : Int) - 10) = y by omega, Int.natCast_mul, show ((n.toNat : Nat) : Int) = n by omega, decide_eq_true h] at a3
  simp only [Bool.not_true, Bool.false_or, Bool.and_eq_true, decide_eq_true_eq] at a3
  omega

theorem e_X7_squared {M : Mem} {x y : Int} (hk1 : M 1 0 = 1) : J SHM mi_X7_squared 0 (ent [vR 0, vI x, vI y] 3) [] M (pu (vI (sqL x y)) M) := by
  show J SHM mi_X7_squared 0 [some (vR 0), some (vI x), some (vI y)] [] M _
  refine j_iload_n dX7_squared_0 rfl ?_
  refine j_iload_n dX7_squared_1 rfl ?_
  refine j_imul dX7_squared_2 ?_
  refine j_iload_n dX7_squared_3 rfl ?_
  refine j_iload_n dX7_squared_4 rfl ?_
  refine j_imul dX7_squared_5 ?_
  refine j_iadd dX7_squared_6 ?_
  refine j_aload_n dX7_squared_7 rfl ?_
  refine j_getR dX7_squared_8 f_X7_7 rfl rfl ?_
  refine j_iconst dX7_squared_11 ?_
  refine j_iald dX7_squared_12 (by first | rfl | assumption) (by decide) (by omega) (by omega) ?_
  refine j_iconst dX7_squared_13 ?_
  refine j_icmp_ne 23 dX7_squared_14 rfl (by unfold inR; omega) (by unfold inR; omega) (fun c14 => ?_) (fun c14 => ?_)
  · refine j_iconst dX7_squared_23 ?_
    refine j_iadd dX7_squared_24 ?_
    refine j_iret dX7_squared_25 rfl ?_
    exact pu_i (by unfold sqL; omega)
  · refine j_iload_n dX7_squared_17 rfl ?_
    refine j_iload_n dX7_squared_18 rfl ?_
    refine j_imul dX7_squared_19 ?_
    refine j_goto 24 dX7_squared_20 rfl ?_
    refine j_iadd dX7_squared_24 ?_
    refine j_iret dX7_squared_25 rfl ?_
    exact pu_i (by unfold sqL; omega)
theorem l_ml_in {M : Mem} {r : Row} {hs : List Row} (hI : MS M r hs) (hk1 : M 1 0 = 1) {Q : Option PV → Mem → Prop} {x : Int} (hx : -(2 * M 1 1) ≤ x ∧ x ≤ 2 * M 1 1) (m : Nat) : ∀ (y z : Int) (w5 : Option PV), -(2 * M 1 1) ≤ y → y ≤ 2 * M 1 1 + 1 → 2 * M 1 1 + 1 - y < m → (0 < z ∧ z ≤ M 1 1 * M 1 1 ∧ (z = M 1 1 * M 1 1 ∨ ∃ x y : Int, -M 1 1 ≤ x ∧ x ≤ M 1 1 ∧ -M 1 1 ≤ y ∧ y ≤ M 1 1 ∧ hT (MR r) x y ∧ z = sqL x y)) → (∀ y', -(2 * M 1 1) ≤ y' → y' < y → 0 < sqL x y' → hT (MR r) x y' → z ≤ sqL x y') → (∀ (z' : Int) (w4 w5 : Option PV), (0 < z' ∧ z' ≤ M 1 1 * M 1 1 ∧ (z' = M 1 1 * M 1 1 ∨ ∃ x y : Int, -M 1 1 ≤ x ∧ x ≤ M 1 1 ∧ -M 1 1 ≤ y ∧ y ≤ M 1 1 ∧ hT (MR r) x y ∧ z' = sqL x y)) → z' ≤ z → (∀ y', -(2 * M 1 1) ≤ y' → y' ≤ 2 * M 1 1 → 0 < sqL x y' → hT (MR r) x y' → z' ≤ sqL x y') → J SHM mi_X7_leastSquared 88 [some (vR 0), some (vI z'), some (vI (2 * M 1 1)), some (vI x), w4, w5] [] M Q) → J SHM mi_X7_leastSquared 35 [some (vR 0), some (vI z), some (vI (2 * M 1 1)), some (vI x), some (vI y), w5] [] M Q := by
  induction m with
  | zero => intro y z w5 h1 h2 h3; omega
  | succ m ih =>
  intro y z w5 h1 h2 h3 hz h4 K
  obtain ⟨hc, ho, hh, hq, hl, hd⟩ := id hI
  have hL := LaM_of hc ho
  have hg := GM_of hc ho
  obtain ⟨hP, es, hB, hnd, hes⟩ := id hd
  obtain ⟨hc1, hc2, hc3, hc4⟩ := id hc
  have ho4 := ho.2.2.2.1
  obtain ⟨hln, hv, hpm, hle⟩ := MS_b hI hB hnd hes
  obtain ⟨hk, hn1, hn5, hnn1, hnn2⟩ := id hL
  have ht := tu_c hk
  obtain ⟨hP1, hP2, hP3⟩ := id hP
  obtain ⟨hB1, hB2, hB3⟩ := id hB
  have hs10 : y ≤ 2 * M 1 1 → -300 ≤ sqL x y ∧ sqL x y ≤ 300 := fun h => sqL_10 (by omega) (by omega)
  obtain ⟨hz1, hz2, hz3⟩ := id hz
  refine j_iload dX7_leastSquared_35 rfl ?_
  refine j_iload_n dX7_leastSquared_37 rfl ?_
  refine j_icmp_gt 88 dX7_leastSquared_38 rfl (by first | (unfold inR; omega) | (have := hs10 (by omega); unfold inR; omega)) (by first | (unfold inR; omega) | (have := hs10 (by omega); unfold inR; omega)) (fun c38 => ?_) (fun c38 => ?_)
  · exact K z _ _ hz (by omega) (fun y' a b => h4 y' a (by omega))
  · refine j_aload_n dX7_leastSquared_41 rfl ?_
    refine j_iload_n dX7_leastSquared_42 rfl ?_
    refine j_iload dX7_leastSquared_43 rfl ?_
    refine j_V2z dX7_leastSquared_45 ok_X7_isLatticeVector v_X7_142 c_X7_isLatticeVector rfl (e_X7_isLatticeVector hI (by unfold inR; omega) (by unfold inR; omega)) (fun z45 M45 q45 => ?_)
    obtain ⟨rfl, q45⟩ := q45
    refine j_if_eq 61 dX7_leastSquared_48 rfl (by first | (unfold inR; omega) | (have := hs10 (by omega); unfold inR; omega)) (fun c48 => ?_) (fun c48 => ?_)
    · refine j_iconst dX7_leastSquared_61 ?_
      refine j_istore dX7_leastSquared_62 (by decide) (nol rfl) (by show List.set _ 5 _ = _; simp only [List.set_cons_zero, List.set_cons_succ]; rfl) ?_
      refine j_iload dX7_leastSquared_64 rfl ?_
      refine j_if_le 80 dX7_leastSquared_66 rfl (by first | (unfold inR; omega) | (have := hs10 (by omega); unfold inR; omega)) (fun c66 => ?_) (fun c66 => ?_)
      · refine j_iload_n dX7_leastSquared_80 rfl ?_
        refine j_istore_n dX7_leastSquared_81 (by decide) (nol rfl) (by show List.set _ 1 _ = _; simp only [List.set_cons_zero, List.set_cons_succ]; rfl) ?_
        refine j_iinc dX7_leastSquared_82 rfl (by decide) (nol rfl) (by simp only [List.set_cons_zero, List.set_cons_succ]; rfl) ?_
        refine j_goto 35 dX7_leastSquared_85 rfl ?_
        first
        | (exfalso; omega)
        | (refine ih (y + 1) z _ (by omega) (by omega) (by omega) hz (fun y' a b h0 ht' => ?_) K
           by_cases e : y' = y
           · rw [e] at h0 ht' ⊢
             first
             | omega
             | (rcases q45 with q | q
                · omega
                · exact absurd ht' q.2)
           · exact h4 y' a (by omega) h0 ht')
        | (rcases q45 with q | q
           · have hsm := sq_small (x := x) (y := y) hn1 hn5 (by omega) (by omega) (by omega)
             refine ih (y + 1) (sqL x y) _ (by omega) (by omega) (by omega) ⟨by omega, by omega, Or.inr ⟨x, y, by omega, by omega, by omega, by omega, q.2, rfl⟩⟩ (fun y' a b h0 ht' => ?_) (fun z' w4 w5 a b c => K z' w4 w5 a (by omega) c)
             by_cases e : y' = y
             · rw [e]; omega
             · have := h4 y' a (by omega) h0 ht'
               omega
           · omega)
      · refine j_iload dX7_leastSquared_69 rfl ?_
        refine j_iload_n dX7_leastSquared_71 rfl ?_
        refine j_icmp_ge 80 dX7_leastSquared_72 rfl (by first | (unfold inR; omega) | (have := hs10 (by omega); unfold inR; omega)) (by first | (unfold inR; omega) | (have := hs10 (by omega); unfold inR; omega)) (fun c72 => ?_) (fun c72 => ?_)
        · refine j_iload_n dX7_leastSquared_80 rfl ?_
          refine j_istore_n dX7_leastSquared_81 (by decide) (nol rfl) (by show List.set _ 1 _ = _; simp only [List.set_cons_zero, List.set_cons_succ]; rfl) ?_
          refine j_iinc dX7_leastSquared_82 rfl (by decide) (nol rfl) (by simp only [List.set_cons_zero, List.set_cons_succ]; rfl) ?_
          refine j_goto 35 dX7_leastSquared_85 rfl ?_
          first
          | (exfalso; omega)
          | (refine ih (y + 1) z _ (by omega) (by omega) (by omega) hz (fun y' a b h0 ht' => ?_) K
             by_cases e : y' = y
             · rw [e] at h0 ht' ⊢
               first
               | omega
               | (rcases q45 with q | q
                  · omega
                  · exact absurd ht' q.2)
             · exact h4 y' a (by omega) h0 ht')
          | (rcases q45 with q | q
             · have hsm := sq_small (x := x) (y := y) hn1 hn5 (by omega) (by omega) (by omega)
               refine ih (y + 1) (sqL x y) _ (by omega) (by omega) (by omega) ⟨by omega, by omega, Or.inr ⟨x, y, by omega, by omega, by omega, by omega, q.2, rfl⟩⟩ (fun y' a b h0 ht' => ?_) (fun z' w4 w5 a b c => K z' w4 w5 a (by omega) c)
               by_cases e : y' = y
               · rw [e]; omega
               · have := h4 y' a (by omega) h0 ht'
                 omega
             · omega)
        · refine j_iload dX7_leastSquared_75 rfl ?_
          refine j_goto 81 dX7_leastSquared_77 rfl ?_
          refine j_istore_n dX7_leastSquared_81 (by decide) (nol rfl) (by show List.set _ 1 _ = _; simp only [List.set_cons_zero, List.set_cons_succ]; rfl) ?_
          refine j_iinc dX7_leastSquared_82 rfl (by decide) (nol rfl) (by simp only [List.set_cons_zero, List.set_cons_succ]; rfl) ?_
          refine j_goto 35 dX7_leastSquared_85 rfl ?_
          first
          | (exfalso; omega)
          | (refine ih (y + 1) z _ (by omega) (by omega) (by omega) hz (fun y' a b h0 ht' => ?_) K
             by_cases e : y' = y
             · rw [e] at h0 ht' ⊢
               first
               | omega
               | (rcases q45 with q | q
                  · omega
                  · exact absurd ht' q.2)
             · exact h4 y' a (by omega) h0 ht')
          | (rcases q45 with q | q
             · have hsm := sq_small (x := x) (y := y) hn1 hn5 (by omega) (by omega) (by omega)
               refine ih (y + 1) (sqL x y) _ (by omega) (by omega) (by omega) ⟨by omega, by omega, Or.inr ⟨x, y, by omega, by omega, by omega, by omega, q.2, rfl⟩⟩ (fun y' a b h0 ht' => ?_) (fun z' w4 w5 a b c => K z' w4 w5 a (by omega) c)
               by_cases e : y' = y
               · rw [e]; omega
               · have := h4 y' a (by omega) h0 ht'
                 omega
             · omega)
    · refine j_aload_n dX7_leastSquared_51 rfl ?_
      refine j_iload_n dX7_leastSquared_52 rfl ?_
      refine j_iload dX7_leastSquared_53 rfl ?_
      refine j_V2p dX7_leastSquared_55 ok_X7_squared v_X7_156 c_X7_squared rfl (e_X7_squared hk1) ?_
      refine j_goto 62 dX7_leastSquared_58 rfl ?_
      refine j_istore dX7_leastSquared_62 (by decide) (nol rfl) (by show List.set _ 5 _ = _; simp only [List.set_cons_zero, List.set_cons_succ]; rfl) ?_
      refine j_iload dX7_leastSquared_64 rfl ?_
      refine j_if_le 80 dX7_leastSquared_66 rfl (by first | (unfold inR; omega) | (have := hs10 (by omega); unfold inR; omega)) (fun c66 => ?_) (fun c66 => ?_)
      · refine j_iload_n dX7_leastSquared_80 rfl ?_
        refine j_istore_n dX7_leastSquared_81 (by decide) (nol rfl) (by show List.set _ 1 _ = _; simp only [List.set_cons_zero, List.set_cons_succ]; rfl) ?_
        refine j_iinc dX7_leastSquared_82 rfl (by decide) (nol rfl) (by simp only [List.set_cons_zero, List.set_cons_succ]; rfl) ?_
        refine j_goto 35 dX7_leastSquared_85 rfl ?_
        first
        | (exfalso; omega)
        | (refine ih (y + 1) z _ (by omega) (by omega) (by omega) hz (fun y' a b h0 ht' => ?_) K
           by_cases e : y' = y
           · rw [e] at h0 ht' ⊢
             first
             | omega
             | (rcases q45 with q | q
                · omega
                · exact absurd ht' q.2)
           · exact h4 y' a (by omega) h0 ht')
        | (rcases q45 with q | q
           · have hsm := sq_small (x := x) (y := y) hn1 hn5 (by omega) (by omega) (by omega)
             refine ih (y + 1) (sqL x y) _ (by omega) (by omega) (by omega) ⟨by omega, by omega, Or.inr ⟨x, y, by omega, by omega, by omega, by omega, q.2, rfl⟩⟩ (fun y' a b h0 ht' => ?_) (fun z' w4 w5 a b c => K z' w4 w5 a (by omega) c)
             by_cases e : y' = y
             · rw [e]; omega
             · have := h4 y' a (by omega) h0 ht'
               omega
           · omega)
      · refine j_iload dX7_leastSquared_69 rfl ?_
        refine j_iload_n dX7_leastSquared_71 rfl ?_
        refine j_icmp_ge 80 dX7_leastSquared_72 rfl (by first | (unfold inR; omega) | (have := hs10 (by omega); unfold inR; omega)) (by first | (unfold inR; omega) | (have := hs10 (by omega); unfold inR; omega)) (fun c72 => ?_) (fun c72 => ?_)
        · refine j_iload_n dX7_leastSquared_80 rfl ?_
          refine j_istore_n dX7_leastSquared_81 (by decide) (nol rfl) (by show List.set _ 1 _ = _; simp only [List.set_cons_zero, List.set_cons_succ]; rfl) ?_
          refine j_iinc dX7_leastSquared_82 rfl (by decide) (nol rfl) (by simp only [List.set_cons_zero, List.set_cons_succ]; rfl) ?_
          refine j_goto 35 dX7_leastSquared_85 rfl ?_
          first
          | (exfalso; omega)
          | (refine ih (y + 1) z _ (by omega) (by omega) (by omega) hz (fun y' a b h0 ht' => ?_) K
             by_cases e : y' = y
             · rw [e] at h0 ht' ⊢
               first
               | omega
               | (rcases q45 with q | q
                  · omega
                  · exact absurd ht' q.2)
             · exact h4 y' a (by omega) h0 ht')
          | (rcases q45 with q | q
             · have hsm := sq_small (x := x) (y := y) hn1 hn5 (by omega) (by omega) (by omega)
               refine ih (y + 1) (sqL x y) _ (by omega) (by omega) (by omega) ⟨by omega, by omega, Or.inr ⟨x, y, by omega, by omega, by omega, by omega, q.2, rfl⟩⟩ (fun y' a b h0 ht' => ?_) (fun z' w4 w5 a b c => K z' w4 w5 a (by omega) c)
               by_cases e : y' = y
               · rw [e]; omega
               · have := h4 y' a (by omega) h0 ht'
                 omega
             · omega)
        · refine j_iload dX7_leastSquared_75 rfl ?_
          refine j_goto 81 dX7_leastSquared_77 rfl ?_
          refine j_istore_n dX7_leastSquared_81 (by decide) (nol rfl) (by show List.set _ 1 _ = _; simp only [List.set_cons_zero, List.set_cons_succ]; rfl) ?_
          refine j_iinc dX7_leastSquared_82 rfl (by decide) (nol rfl) (by simp only [List.set_cons_zero, List.set_cons_succ]; rfl) ?_
          refine j_goto 35 dX7_leastSquared_85 rfl ?_
          first
          | (exfalso; omega)
          | (refine ih (y + 1) z _ (by omega) (by omega) (by omega) hz (fun y' a b h0 ht' => ?_) K
             by_cases e : y' = y
             · rw [e] at h0 ht' ⊢
               first
               | omega
               | (rcases q45 with q | q
                  · omega
                  · exact absurd ht' q.2)
             · exact h4 y' a (by omega) h0 ht')
          | (rcases q45 with q | q
             · have hsm := sq_small (x := x) (y := y) hn1 hn5 (by omega) (by omega) (by omega)
               refine ih (y + 1) (sqL x y) _ (by omega) (by omega) (by omega) ⟨by omega, by omega, Or.inr ⟨x, y, by omega, by omega, by omega, by omega, q.2, rfl⟩⟩ (fun y' a b h0 ht' => ?_) (fun z' w4 w5 a b c => K z' w4 w5 a (by omega) c)
               by_cases e : y' = y
               · rw [e]; omega
               · have := h4 y' a (by omega) h0 ht'
                 omega
             · omega)
theorem l_ml {M : Mem} {r : Row} {hs : List Row} (hI : MS M r hs) (hk1 : M 1 0 = 1) (m : Nat) : ∀ (x z : Int) (w4 w5 : Option PV), -(2 * M 1 1) ≤ x → x ≤ 2 * M 1 1 + 1 → 2 * M 1 1 + 1 - x < m → (0 < z ∧ z ≤ M 1 1 * M 1 1 ∧ (z = M 1 1 * M 1 1 ∨ ∃ x y : Int, -M 1 1 ≤ x ∧ x ≤ M 1 1 ∧ -M 1 1 ≤ y ∧ y ≤ M 1 1 ∧ hT (MR r) x y ∧ z = sqL x y)) → (∀ x' y' : Int, -(2 * M 1 1) ≤ x' → x' < x → -(2 * M 1 1) ≤ y' → y' ≤ 2 * M 1 1 → 0 < sqL x' y' → hT (MR r) x' y' → z ≤ sqL x' y') → J SHM mi_X7_leastSquared 26 [some (vR 0), some (vI z), some (vI (2 * M 1 1)), some (vI x), w4, w5] [] M (pz (fun z M1 => M = M1 ∧ Lea (MR r) z ∧ z ≤ M 1 1 * M 1 1 ∧ 0 < z)) := by
  induction m with
  | zero => intro x z w4 w5 h1 h2 h3; omega
  | succ m ih =>
  intro x z w4 w5 h1 h2 h3 hz h4
  obtain ⟨hc, ho, hh, hq, hl, hd⟩ := id hI
  have hL := LaM_of hc ho
  have hg := GM_of hc ho
  obtain ⟨hP, es, hB, hnd, hes⟩ := id hd
  obtain ⟨hc1, hc2, hc3, hc4⟩ := id hc
  have ho4 := ho.2.2.2.1
  obtain ⟨hln, hv, hpm, hle⟩ := MS_b hI hB hnd hes
  obtain ⟨hk, hn1, hn5, hnn1, hnn2⟩ := id hL
  have ht := tu_c hk
  obtain ⟨hP1, hP2, hP3⟩ := id hP
  obtain ⟨hB1, hB2, hB3⟩ := id hB
  refine j_iload_n dX7_leastSquared_26 rfl ?_
  refine j_iload_n dX7_leastSquared_27 rfl ?_
  refine j_icmp_gt 94 dX7_leastSquared_28 rfl (by unfold inR; omega) (by unfold inR; omega) (fun c28 => ?_) (fun c28 => ?_)
  · refine j_iload_n dX7_leastSquared_94 rfl ?_
    refine j_iret dX7_leastSquared_95 rfl ?_
    refine ⟨z, rfl, rfl, ?_, hz.2.1, hz.1⟩
    unfold Lea
    rw [MR_11, ← hc2]
    exact ⟨hz.1, hz.2.1, hz.2.2, fun x' y' a b c d e f => h4 x' y' (by omega) (by omega) (by omega) (by omega) e f⟩
  · refine j_iload_n dX7_leastSquared_31 rfl ?_
    refine j_ineg dX7_leastSquared_32 ?_
    refine j_istore dX7_leastSquared_33 (by decide) (nol rfl) (by show List.set _ 4 _ = _; simp only [List.set_cons_zero, List.set_cons_succ]; rfl) ?_
    refine l_ml_in hI hk1 (x := x) ⟨by omega, by omega⟩ 23 (-(2 * M 1 1)) z _ (by omega) (by omega) (by omega) hz (fun y' a b => by omega) (fun z' w4' w5' a b c => ?_)
    refine j_iinc dX7_leastSquared_88 rfl (by decide) (nol rfl) (by simp only [List.set_cons_zero, List.set_cons_succ]; rfl) ?_
    refine j_goto 26 dX7_leastSquared_91 rfl ?_
    refine ih (x + 1) z' _ _ (by omega) (by omega) (by omega) a (fun x' y' d1 d2 d3 d4 d5 d6 => ?_)
    by_cases e : x' = x
    · rw [e] at d5 d6 ⊢
      exact c y' d3 d4 d5 d6
    · have := h4 x' y' d1 (by omega) d3 d4 d5 d6
      omega
theorem e_X7_leastSquared {M : Mem} {r : Row} {hs : List Row} (hI : MS M r hs) (hk1 : M 1 0 = 1)  : J SHM mi_X7_leastSquared 0 (ent [vR 0] 6) [] M (pz (fun z M1 => M = M1 ∧ Lea (MR r) z ∧ z ≤ M 1 1 * M 1 1 ∧ 0 < z)) := by
  obtain ⟨hc, ho, hh, hq, hl, hd⟩ := id hI
  have hL := LaM_of hc ho
  have hg := GM_of hc ho
  obtain ⟨hP, es, hB, hnd, hes⟩ := id hd
  obtain ⟨hc1, hc2, hc3, hc4⟩ := id hc
  have ho4 := ho.2.2.2.1
  obtain ⟨hln, hv, hpm, hle⟩ := MS_b hI hB hnd hes
  obtain ⟨hk, hn1, hn5, hnn1, hnn2⟩ := id hL
  have ht := tu_c hk
  obtain ⟨hP1, hP2, hP3⟩ := id hP
  obtain ⟨hB1, hB2, hB3⟩ := id hB
  show J SHM mi_X7_leastSquared 0 [some (vR 0), none, none, none, none, none] [] M _
  refine j_aload_n dX7_leastSquared_0 rfl ?_
  refine j_getR dX7_leastSquared_1 f_X7_7 rfl rfl ?_
  refine j_iconst dX7_leastSquared_4 ?_
  refine j_iald dX7_leastSquared_5 (by first | rfl | assumption) (by decide) (by omega) (by omega) ?_
  refine j_aload_n dX7_leastSquared_6 rfl ?_
  refine j_getR dX7_leastSquared_7 f_X7_7 rfl rfl ?_
  refine j_iconst dX7_leastSquared_10 ?_
  refine j_iald dX7_leastSquared_11 (by first | rfl | assumption) (by decide) (by omega) (by omega) ?_
  refine j_imul dX7_leastSquared_12 ?_
  refine j_istore_n dX7_leastSquared_13 (by decide) (nol rfl) (by show List.set _ 1 _ = _; simp only [List.set_cons_zero, List.set_cons_succ]; rfl) ?_
  refine j_iconst dX7_leastSquared_14 ?_
  refine j_aload_n dX7_leastSquared_15 rfl ?_
  refine j_getR dX7_leastSquared_16 f_X7_7 rfl rfl ?_
  refine j_iconst dX7_leastSquared_19 ?_
  refine j_iald dX7_leastSquared_20 (by first | rfl | assumption) (by decide) (by omega) (by omega) ?_
  refine j_imul dX7_leastSquared_21 ?_
  refine j_istore_n dX7_leastSquared_22 (by decide) (nol rfl) (by show List.set _ 2 _ = _; simp only [List.set_cons_zero, List.set_cons_succ]; rfl) ?_
  refine j_iload_n dX7_leastSquared_23 rfl ?_
  refine j_ineg dX7_leastSquared_24 ?_
  refine j_istore_n dX7_leastSquared_25 (by decide) (nol rfl) (by show List.set _ 3 _ = _; simp only [List.set_cons_zero, List.set_cons_succ]; rfl) ?_
  exact l_ml hI hk1 23 (-(2 * M 1 1)) (M 1 1 * M 1 1) _ _ (by omega) (by omega) (by omega) ⟨by omega, by omega, Or.inl rfl⟩ (fun x' y' a b => by omega)
theorem l_sf0 {M : Mem} {r : Row} {hs : List Row} (hI : MS M r hs) (hk1 : M 1 0 = 1) {S : Nat} (hS : S < 2 ^ 12) (hb : ∀ p : Nat, p < 12 → bit S p = MR r 16 p) {ls : Int} (hls : ls ≤ M 1 1 * M 1 1 ∧ 0 < ls) {Q : Option PV → Mem → Prop} {A : Prop} {x y b7 : Int} (hx : -(2 * M 1 1) ≤ x ∧ x ≤ 2 * M 1 1) (hy : -(2 * M 1 1) ≤ y ∧ y ≤ 2 * M 1 1) (h7 : (b7 = 1 ∧ sqL x y = ls ∧ hT (MR r) x y) ∨ (b7 = 0 ∧ ¬ (sqL x y = ls ∧ hT (MR r) x y))) (m : Nat) : ∀ (p s : Int), tu (M 1 0) ≤ p → p ≤ 2 * tu (M 1 0) → 2 * tu (M 1 0) - p < m → ((s = 1 ∧ FSh (MR r) ls) ∨ (s = 0 ∧ A ∧ (b7 = 1 → ∀ q : Int, tu (M 1 0) ≤ q → q < p → MR r 16 q = 1 → imx (M 1 0) q x y = x → ¬ imy (M 1 0) q x y = y))) → (∀ (s' : Int) (w8 : Option PV), ((s' = 1 ∧ FSh (MR r) ls) ∨ (s' = 0 ∧ A ∧ (sqL x y = ls → hT (MR r) x y → ¬ Fix (MR r) x y))) → J SHM mi_X7_isShortestFixed 153 [some (vR 0), some (vI S), some (vI ls), some (vI (2 * M 1 1)), some (vI s'), some (vI x), some (vI y), some (vI b7), w8] [] M Q) → J SHM mi_X7_isShortestFixed 81 [some (vR 0), some (vI S), some (vI ls), some (vI (2 * M 1 1)), some (vI s), some (vI x), some (vI y), some (vI b7), some (vI p)] [] M Q := by
  induction m with
  | zero => intro p s h1 h2 h3; omega
  | succ m ih =>
  intro p s h1 h2 h3 h4 K
  obtain ⟨hc, ho, hh, hq, hl, hd⟩ := id hI
  have hL := LaM_of hc ho
  have hg := GM_of hc ho
  obtain ⟨hP, es, hB, hnd, hes⟩ := id hd
  obtain ⟨hc1, hc2, hc3, hc4⟩ := id hc
  have ho4 := ho.2.2.2.1
  obtain ⟨hln, hv, hpm, hle⟩ := MS_b hI hB hnd hes
  obtain ⟨hk, hn1, hn5, hnn1, hnn2⟩ := id hL
  have ht := tu_c hk
  obtain ⟨hP1, hP2, hP3⟩ := id hP
  obtain ⟨hB1, hB2, hB3⟩ := id hB
  have hb1 := fun h => hb p.toNat h
  rw [show ((p.toNat : Nat) : Int) = p by omega] at hb1
  have hbb := bit_01 S p.toNat
  have hsm : b7 = 1 → -M 1 1 ≤ x ∧ x ≤ M 1 1 ∧ -M 1 1 ≤ y ∧ y ≤ M 1 1 := fun h => sq_small hn1 hn5 (by omega) (by omega) (by omega)
  have hib := fun h => im_b5 (M 1 0) p (x := x) (y := y) (by have := hsm h; omega) (by have := hsm h; omega)
  refine j_iload dX7_isShortestFixed_81 rfl ?_
  refine j_aload_n dX7_isShortestFixed_83 rfl ?_
  refine j_getI (kz := 3) rfl dX7_isShortestFixed_84 f_X7_36 rfl rfl ?_
  refine j_icmp_ge 153 dX7_isShortestFixed_87 rfl (by first | (unfold inR; omega) | (rw [hP1]; unfold inR; omega) | (have hib1 := hib (by omega); unfold inR; omega)) (by first | (unfold inR; omega) | (rw [hP1]; unfold inR; omega) | (have hib1 := hib (by omega); unfold inR; omega)) (fun c87 => ?_) (fun c87 => ?_)
  · refine K s _ ?_
    rcases h4 with h | ⟨h, hA, hq4⟩
    · exact Or.inl h
    · refine Or.inr ⟨h, hA, fun e1 e2 => ?_⟩
      rcases h7 with h7 | h7
      · unfold Fix
        rw [MR_10, ← hc1]
        rintro ⟨q, a, b, c, d, e⟩
        exact hq4 h7.1 q a (by omega) c d e
      · exact absurd ⟨e1, e2⟩ h7.2
  · refine j_iload dX7_isShortestFixed_90 rfl ?_
    refine j_if_eq 153 dX7_isShortestFixed_92 rfl (by first | (unfold inR; omega) | (rw [hP1]; unfold inR; omega) | (have hib1 := hib (by omega); unfold inR; omega)) (fun c92 => ?_) (fun c92 => ?_)
    · refine K s _ ?_
      rcases h4 with h | ⟨h, hA, hq4⟩
      · exact Or.inl h
      · refine Or.inr ⟨h, hA, fun e1 e2 => ?_⟩
        rcases h7 with h7 | h7
        · unfold Fix
          rw [MR_10, ← hc1]
          rintro ⟨q, a, b, c, d, e⟩
          exact hq4 h7.1 q a (by omega) c d e
        · exact absurd ⟨e1, e2⟩ h7.2
    · refine j_iload dX7_isShortestFixed_95 rfl ?_
      refine j_if_ne 140 dX7_isShortestFixed_97 rfl (by first | (unfold inR; omega) | (rw [hP1]; unfold inR; omega) | (have hib1 := hib (by omega); unfold inR; omega)) (fun c97 => ?_) (fun c97 => ?_)
      · refine j_iconst dX7_isShortestFixed_140 ?_
        refine j_goto 145 dX7_isShortestFixed_141 rfl ?_
        refine j_istore dX7_isShortestFixed_145 (by decide) (nol rfl) (by show List.set _ 4 _ = _; simp only [List.set_cons_zero, List.set_cons_succ]; rfl) ?_
        refine j_iinc dX7_isShortestFixed_147 rfl (by decide) (nol rfl) (by simp only [List.set_cons_zero, List.set_cons_succ]; rfl) ?_
        refine j_goto 81 dX7_isShortestFixed_150 rfl ?_
        refine ih (p + 1) _ (by omega) (by omega) (by omega) ?_ K
        have hb2 := hb1 (by omega)
        first
        | (exfalso; omega)
        | (refine Or.inl ⟨rfl, ?_⟩
           rcases h4 with h | h
           · exact h.2
           · omega)
        | (refine Or.inl ⟨rfl, ?_⟩
           have h8 := hsm (by omega)
           rcases h7 with h7 | h7
           · unfold FSh Fix
             rw [MR_11, MR_10, ← hc1, ← hc2]
             exact ⟨x, y, by omega, by omega, by omega, by omega, h7.2.1, h7.2.2, p, by omega, by omega, by omega, by omega, by omega⟩
           · omega)
        | (refine Or.inr ⟨rfl, ?_⟩
           rcases h4 with h | ⟨h, hA, hq4⟩
           · omega
           · refine ⟨hA, fun g7 q a b c d => ?_⟩
             by_cases e : q = p
             · subst e
               omega
             · exact hq4 g7 q a (by omega) c d)
      · refine j_iload_n dX7_isShortestFixed_100 rfl ?_
        refine j_iload dX7_isShortestFixed_101 rfl ?_
        refine j_ishr dX7_isShortestFixed_103 (shr_i (Nat.lt_trans hS (by decide)) (by omega)) ?_
        refine j_iconst dX7_isShortestFixed_104 ?_
        refine j_iand dX7_isShortestFixed_105 (i3_and1 _ _) ?_
        refine j_iconst dX7_isShortestFixed_106 ?_
        refine j_icmp_ne 144 dX7_isShortestFixed_107 rfl (by first | (unfold inR; omega) | (rw [hP1]; unfold inR; omega) | (have hib1 := hib (by omega); unfold inR; omega)) (by first | (unfold inR; omega) | (rw [hP1]; unfold inR; omega) | (have hib1 := hib (by omega); unfold inR; omega)) (fun c107 => ?_) (fun c107 => ?_)
        · refine j_iconst dX7_isShortestFixed_144 ?_
          refine j_istore dX7_isShortestFixed_145 (by decide) (nol rfl) (by show List.set _ 4 _ = _; simp only [List.set_cons_zero, List.set_cons_succ]; rfl) ?_
          refine j_iinc dX7_isShortestFixed_147 rfl (by decide) (nol rfl) (by simp only [List.set_cons_zero, List.set_cons_succ]; rfl) ?_
          refine j_goto 81 dX7_isShortestFixed_150 rfl ?_
          refine ih (p + 1) _ (by omega) (by omega) (by omega) ?_ K
          have hb2 := hb1 (by omega)
          first
          | (exfalso; omega)
          | (refine Or.inl ⟨rfl, ?_⟩
             rcases h4 with h | h
             · exact h.2
             · omega)
          | (refine Or.inl ⟨rfl, ?_⟩
             have h8 := hsm (by omega)
             rcases h7 with h7 | h7
             · unfold FSh Fix
               rw [MR_11, MR_10, ← hc1, ← hc2]
               exact ⟨x, y, by omega, by omega, by omega, by omega, h7.2.1, h7.2.2, p, by omega, by omega, by omega, by omega, by omega⟩
             · omega)
          | (refine Or.inr ⟨rfl, ?_⟩
             rcases h4 with h | ⟨h, hA, hq4⟩
             · omega
             · refine ⟨hA, fun g7 q a b c d => ?_⟩
               by_cases e : q = p
               · subst e
                 omega
               · exact hq4 g7 q a (by omega) c d)
        · refine j_aload_n dX7_isShortestFixed_110 rfl ?_
          refine j_iload dX7_isShortestFixed_111 rfl ?_
          refine j_iload dX7_isShortestFixed_113 rfl ?_
          refine j_iload dX7_isShortestFixed_115 rfl ?_
          refine j_V3p dX7_isShortestFixed_117 ok_X7_imageX v_X7_68 c_X7_imageX rfl (e_X7_imageX hL hP (by first | assumption | (exact ⟨by omega, by omega⟩))) ?_
          refine j_iload dX7_isShortestFixed_120 rfl ?_
          refine j_icmp_ne 144 dX7_isShortestFixed_122 rfl (by first | (unfold inR; omega) | (rw [hP1]; unfold inR; omega) | (have hib1 := hib (by omega); unfold inR; omega)) (by first | (unfold inR; omega) | (rw [hP1]; unfold inR; omega) | (have hib1 := hib (by omega); unfold inR; omega)) (fun c122 => ?_) (fun c122 => ?_)
          · refine j_iconst dX7_isShortestFixed_144 ?_
            refine j_istore dX7_isShortestFixed_145 (by decide) (nol rfl) (by show List.set _ 4 _ = _; simp only [List.set_cons_zero, List.set_cons_succ]; rfl) ?_
            refine j_iinc dX7_isShortestFixed_147 rfl (by decide) (nol rfl) (by simp only [List.set_cons_zero, List.set_cons_succ]; rfl) ?_
            refine j_goto 81 dX7_isShortestFixed_150 rfl ?_
            refine ih (p + 1) _ (by omega) (by omega) (by omega) ?_ K
            have hb2 := hb1 (by omega)
            first
            | (exfalso; omega)
            | (refine Or.inl ⟨rfl, ?_⟩
               rcases h4 with h | h
               · exact h.2
               · omega)
            | (refine Or.inl ⟨rfl, ?_⟩
               have h8 := hsm (by omega)
               rcases h7 with h7 | h7
               · unfold FSh Fix
                 rw [MR_11, MR_10, ← hc1, ← hc2]
                 exact ⟨x, y, by omega, by omega, by omega, by omega, h7.2.1, h7.2.2, p, by omega, by omega, by omega, by omega, by omega⟩
               · omega)
            | (refine Or.inr ⟨rfl, ?_⟩
               rcases h4 with h | ⟨h, hA, hq4⟩
               · omega
               · refine ⟨hA, fun g7 q a b c d => ?_⟩
                 by_cases e : q = p
                 · subst e
                   omega
                 · exact hq4 g7 q a (by omega) c d)
          · refine j_aload_n dX7_isShortestFixed_125 rfl ?_
            refine j_iload dX7_isShortestFixed_126 rfl ?_
            refine j_iload dX7_isShortestFixed_128 rfl ?_
            refine j_iload dX7_isShortestFixed_130 rfl ?_
            refine j_V3p dX7_isShortestFixed_132 ok_X7_imageY v_X7_72 c_X7_imageY rfl (e_X7_imageY hL hP (by first | assumption | (exact ⟨by omega, by omega⟩))) ?_
            refine j_iload dX7_isShortestFixed_135 rfl ?_
            refine j_icmp_ne 144 dX7_isShortestFixed_137 rfl (by first | (unfold inR; omega) | (rw [hP1]; unfold inR; omega) | (have hib1 := hib (by omega); unfold inR; omega)) (by first | (unfold inR; omega) | (rw [hP1]; unfold inR; omega) | (have hib1 := hib (by omega); unfold inR; omega)) (fun c137 => ?_) (fun c137 => ?_)
            · refine j_iconst dX7_isShortestFixed_144 ?_
              refine j_istore dX7_isShortestFixed_145 (by decide) (nol rfl) (by show List.set _ 4 _ = _; simp only [List.set_cons_zero, List.set_cons_succ]; rfl) ?_
              refine j_iinc dX7_isShortestFixed_147 rfl (by decide) (nol rfl) (by simp only [List.set_cons_zero, List.set_cons_succ]; rfl) ?_
              refine j_goto 81 dX7_isShortestFixed_150 rfl ?_
              refine ih (p + 1) _ (by omega) (by omega) (by omega) ?_ K
              have hb2 := hb1 (by omega)
              first
              | (exfalso; omega)
              | (refine Or.inl ⟨rfl, ?_⟩
                 rcases h4 with h | h
                 · exact h.2
                 · omega)
              | (refine Or.inl ⟨rfl, ?_⟩
                 have h8 := hsm (by omega)
                 rcases h7 with h7 | h7
                 · unfold FSh Fix
                   rw [MR_11, MR_10, ← hc1, ← hc2]
                   exact ⟨x, y, by omega, by omega, by omega, by omega, h7.2.1, h7.2.2, p, by omega, by omega, by omega, by omega, by omega⟩
                 · omega)
              | (refine Or.inr ⟨rfl, ?_⟩
                 rcases h4 with h | ⟨h, hA, hq4⟩
                 · omega
                 · refine ⟨hA, fun g7 q a b c d => ?_⟩
                   by_cases e : q = p
                   · subst e
                     omega
                   · exact hq4 g7 q a (by omega) c d)
            · refine j_iconst dX7_isShortestFixed_140 ?_
              refine j_goto 145 dX7_isShortestFixed_141 rfl ?_
              refine j_istore dX7_isShortestFixed_145 (by decide) (nol rfl) (by show List.set _ 4 _ = _; simp only [List.set_cons_zero, List.set_cons_succ]; rfl) ?_
              refine j_iinc dX7_isShortestFixed_147 rfl (by decide) (nol rfl) (by simp only [List.set_cons_zero, List.set_cons_succ]; rfl) ?_
              refine j_goto 81 dX7_isShortestFixed_150 rfl ?_
              refine ih (p + 1) _ (by omega) (by omega) (by omega) ?_ K
              have hb2 := hb1 (by omega)
              first
              | (exfalso; omega)
              | (refine Or.inl ⟨rfl, ?_⟩
                 rcases h4 with h | h
                 · exact h.2
                 · omega)
              | (refine Or.inl ⟨rfl, ?_⟩
                 have h8 := hsm (by omega)
                 rcases h7 with h7 | h7
                 · unfold FSh Fix
                   rw [MR_11, MR_10, ← hc1, ← hc2]
                   exact ⟨x, y, by omega, by omega, by omega, by omega, h7.2.1, h7.2.2, p, by omega, by omega, by omega, by omega, by omega⟩
                 · omega)
              | (refine Or.inr ⟨rfl, ?_⟩
                 rcases h4 with h | ⟨h, hA, hq4⟩
                 · omega
                 · refine ⟨hA, fun g7 q a b c d => ?_⟩
                   by_cases e : q = p
                   · subst e
                     omega
                   · exact hq4 g7 q a (by omega) c d)
theorem l_sf1 {M : Mem} {r : Row} {hs : List Row} (hI : MS M r hs) (hk1 : M 1 0 = 1) {S : Nat} (hS : S < 2 ^ 12) (hb : ∀ p : Nat, p < 12 → bit S p = MR r 16 p) {ls : Int} (hls : ls ≤ M 1 1 * M 1 1 ∧ 0 < ls) {Q : Option PV → Mem → Prop} {A : Prop} {x : Int} (hx : -(2 * M 1 1) ≤ x ∧ x ≤ 2 * M 1 1) (m : Nat) : ∀ (y s : Int) (w7 w8 : Option PV), -(2 * M 1 1) ≤ y → y ≤ 2 * M 1 1 + 1 → 2 * M 1 1 + 1 - y < m → ((s = 1 ∧ FSh (MR r) ls) ∨ (s = 0 ∧ A ∧ ∀ y' : Int, -(2 * M 1 1) ≤ y' → y' < y → sqL x y' = ls → hT (MR r) x y' → ¬ Fix (MR r) x y')) → (∀ (s' : Int) (w6 w7 w8 : Option PV), ((s' = 1 ∧ FSh (MR r) ls) ∨ (s' = 0 ∧ A ∧ ∀ y' : Int, -(2 * M 1 1) ≤ y' → y' ≤ 2 * M 1 1 → sqL x y' = ls → hT (MR r) x y' → ¬ Fix (MR r) x y')) → J SHM mi_X7_isShortestFixed 159 [some (vR 0), some (vI S), some (vI ls), some (vI (2 * M 1 1)), some (vI s'), some (vI x), w6, w7, w8] [] M Q) → J SHM mi_X7_isShortestFixed 37 [some (vR 0), some (vI S), some (vI ls), some (vI (2 * M 1 1)), some (vI s), some (vI x), some (vI y), w7, w8] [] M Q := by
  induction m with
  | zero => intro y s w7 w8 h1 h2 h3; omega
  | succ m ih =>
  intro y s w7 w8 h1 h2 h3 h4 K
  obtain ⟨hc, ho, hh, hq, hl, hd⟩ := id hI
  have hL := LaM_of hc ho
  have hg := GM_of hc ho
  obtain ⟨hP, es, hB, hnd, hes⟩ := id hd
  obtain ⟨hc1, hc2, hc3, hc4⟩ := id hc
  have ho4 := ho.2.2.2.1
  obtain ⟨hln, hv, hpm, hle⟩ := MS_b hI hB hnd hes
  obtain ⟨hk, hn1, hn5, hnn1, hnn2⟩ := id hL
  have ht := tu_c hk
  obtain ⟨hP1, hP2, hP3⟩ := id hP
  obtain ⟨hB1, hB2, hB3⟩ := id hB
  have hs10 : y ≤ 2 * M 1 1 → -300 ≤ sqL x y ∧ sqL x y ≤ 300 := fun h => sqL_10 (by omega) (by omega)
  have e2 : (M 0 3).tdiv 2 = tu (M 1 0) := by rw [hP1, Int.tdiv_eq_ediv_of_nonneg (by omega)]; omega
  refine j_iload dX7_isShortestFixed_37 rfl ?_
  refine j_iload_n dX7_isShortestFixed_39 rfl ?_
  refine j_icmp_gt 159 dX7_isShortestFixed_40 rfl (by first | (unfold inR; omega) | (rw [hP1]; unfold inR; omega) | (have := hs10 (by omega); unfold inR; omega)) (by first | (unfold inR; omega) | (rw [hP1]; unfold inR; omega) | (have := hs10 (by omega); unfold inR; omega)) (fun c40 => ?_) (fun c40 => ?_)
  · refine K s _ _ _ ?_
    rcases h4 with h | ⟨h, hA, h4⟩
    · exact Or.inl h
    · exact Or.inr ⟨h, hA, fun y' a b => h4 y' a (by omega)⟩
  · refine j_aload_n dX7_isShortestFixed_43 rfl ?_
    refine j_iload dX7_isShortestFixed_44 rfl ?_
    refine j_iload dX7_isShortestFixed_46 rfl ?_
    refine j_V2z dX7_isShortestFixed_48 ok_X7_isLatticeVector v_X7_142 c_X7_isLatticeVector rfl (e_X7_isLatticeVector hI (by unfold inR; omega) (by unfold inR; omega)) (fun z48 M48 q48 => ?_)
    obtain ⟨rfl, q48⟩ := q48
    refine j_if_eq 70 dX7_isShortestFixed_51 rfl (by first | (unfold inR; omega) | (rw [hP1]; unfold inR; omega) | (have := hs10 (by omega); unfold inR; omega)) (fun c51 => ?_) (fun c51 => ?_)
    · refine j_iconst dX7_isShortestFixed_70 ?_
      refine j_istore dX7_isShortestFixed_71 (by decide) (nol rfl) (by show List.set _ 7 _ = _; simp only [List.set_cons_zero, List.set_cons_succ]; rfl) ?_
      refine j_aload_n dX7_isShortestFixed_73 rfl ?_
      refine j_getI (kz := 3) rfl dX7_isShortestFixed_74 f_X7_36 rfl rfl ?_
      refine j_iconst dX7_isShortestFixed_77 ?_
      refine j_idiv dX7_isShortestFixed_78 (by first | (unfold inR; omega) | (rw [hP1]; unfold inR; omega) | (have := hs10 (by omega); unfold inR; omega)) (by first | (unfold inR; omega) | (rw [hP1]; unfold inR; omega) | (have := hs10 (by omega); unfold inR; omega)) (by omega) ?_
      refine j_istore dX7_isShortestFixed_79 (by decide) (nol rfl) (by show List.set _ 8 _ = _; simp only [List.set_cons_zero, List.set_cons_succ]; rfl) ?_
      rw [e2]
      refine l_sf0 hI hk1 hS hb hls (A := A ∧ ∀ y' : Int, -(2 * M 1 1) ≤ y' → y' < y → sqL x y' = ls → hT (MR r) x y' → ¬ Fix (MR r) x y') hx ⟨by omega, by omega⟩ ?_ 13 (tu (M 1 0)) s (by omega) (by omega) (by omega) ?_ (fun s' w8 h9 => ?_)
      · first
        | (exfalso; omega)
        | exact Or.inl ⟨rfl, by omega, by rcases q48 with q | q; exact q.2; omega⟩
        | exact Or.inr ⟨rfl, fun h => by first | exact absurd h.1 (by omega) | (rcases q48 with q | q; omega; exact q.2 h.2)⟩
      · rcases h4 with h | ⟨h, hA, h4⟩
        · exact Or.inl h
        · exact Or.inr ⟨h, ⟨hA, h4⟩, fun _ q a b => by omega⟩
      · refine j_iinc dX7_isShortestFixed_153 rfl (by decide) (nol rfl) (by simp only [List.set_cons_zero, List.set_cons_succ]; rfl) ?_
        refine j_goto 37 dX7_isShortestFixed_156 rfl ?_
        refine ih (y + 1) s' _ _ (by omega) (by omega) (by omega) ?_ K
        rcases h9 with h | ⟨h, ⟨hA, h4'⟩, h6⟩
        · exact Or.inl h
        · refine Or.inr ⟨h, hA, fun y' a b => ?_⟩
          by_cases e : y' = y
          · rw [e]; exact h6
          · exact h4' y' a (by omega)
    · refine j_aload_n dX7_isShortestFixed_54 rfl ?_
      refine j_iload dX7_isShortestFixed_55 rfl ?_
      refine j_iload dX7_isShortestFixed_57 rfl ?_
      refine j_V2p dX7_isShortestFixed_59 ok_X7_squared v_X7_156 c_X7_squared rfl (e_X7_squared hk1) ?_
      refine j_iload_n dX7_isShortestFixed_62 rfl ?_
      refine j_icmp_ne 70 dX7_isShortestFixed_63 rfl (by first | (unfold inR; omega) | (rw [hP1]; unfold inR; omega) | (have := hs10 (by omega); unfold inR; omega)) (by first | (unfold inR; omega) | (rw [hP1]; unfold inR; omega) | (have := hs10 (by omega); unfold inR; omega)) (fun c63 => ?_) (fun c63 => ?_)
      · refine j_iconst dX7_isShortestFixed_70 ?_
        refine j_istore dX7_isShortestFixed_71 (by decide) (nol rfl) (by show List.set _ 7 _ = _; simp only [List.set_cons_zero, List.set_cons_succ]; rfl) ?_
        refine j_aload_n dX7_isShortestFixed_73 rfl ?_
        refine j_getI (kz := 3) rfl dX7_isShortestFixed_74 f_X7_36 rfl rfl ?_
        refine j_iconst dX7_isShortestFixed_77 ?_
        refine j_idiv dX7_isShortestFixed_78 (by first | (unfold inR; omega) | (rw [hP1]; unfold inR; omega) | (have := hs10 (by omega); unfold inR; omega)) (by first | (unfold inR; omega) | (rw [hP1]; unfold inR; omega) | (have := hs10 (by omega); unfold inR; omega)) (by omega) ?_
        refine j_istore dX7_isShortestFixed_79 (by decide) (nol rfl) (by show List.set _ 8 _ = _; simp only [List.set_cons_zero, List.set_cons_succ]; rfl) ?_
        rw [e2]
        refine l_sf0 hI hk1 hS hb hls (A := A ∧ ∀ y' : Int, -(2 * M 1 1) ≤ y' → y' < y → sqL x y' = ls → hT (MR r) x y' → ¬ Fix (MR r) x y') hx ⟨by omega, by omega⟩ ?_ 13 (tu (M 1 0)) s (by omega) (by omega) (by omega) ?_ (fun s' w8 h9 => ?_)
        · first
          | (exfalso; omega)
          | exact Or.inl ⟨rfl, by omega, by rcases q48 with q | q; exact q.2; omega⟩
          | exact Or.inr ⟨rfl, fun h => by first | exact absurd h.1 (by omega) | (rcases q48 with q | q; omega; exact q.2 h.2)⟩
        · rcases h4 with h | ⟨h, hA, h4⟩
          · exact Or.inl h
          · exact Or.inr ⟨h, ⟨hA, h4⟩, fun _ q a b => by omega⟩
        · refine j_iinc dX7_isShortestFixed_153 rfl (by decide) (nol rfl) (by simp only [List.set_cons_zero, List.set_cons_succ]; rfl) ?_
          refine j_goto 37 dX7_isShortestFixed_156 rfl ?_
          refine ih (y + 1) s' _ _ (by omega) (by omega) (by omega) ?_ K
          rcases h9 with h | ⟨h, ⟨hA, h4'⟩, h6⟩
          · exact Or.inl h
          · refine Or.inr ⟨h, hA, fun y' a b => ?_⟩
            by_cases e : y' = y
            · rw [e]; exact h6
            · exact h4' y' a (by omega)
      · refine j_iconst dX7_isShortestFixed_66 ?_
        refine j_goto 71 dX7_isShortestFixed_67 rfl ?_
        refine j_istore dX7_isShortestFixed_71 (by decide) (nol rfl) (by show List.set _ 7 _ = _; simp only [List.set_cons_zero, List.set_cons_succ]; rfl) ?_
        refine j_aload_n dX7_isShortestFixed_73 rfl ?_
        refine j_getI (kz := 3) rfl dX7_isShortestFixed_74 f_X7_36 rfl rfl ?_
        refine j_iconst dX7_isShortestFixed_77 ?_
        refine j_idiv dX7_isShortestFixed_78 (by first | (unfold inR; omega) | (rw [hP1]; unfold inR; omega) | (have := hs10 (by omega); unfold inR; omega)) (by first | (unfold inR; omega) | (rw [hP1]; unfold inR; omega) | (have := hs10 (by omega); unfold inR; omega)) (by omega) ?_
        refine j_istore dX7_isShortestFixed_79 (by decide) (nol rfl) (by show List.set _ 8 _ = _; simp only [List.set_cons_zero, List.set_cons_succ]; rfl) ?_
        rw [e2]
        refine l_sf0 hI hk1 hS hb hls (A := A ∧ ∀ y' : Int, -(2 * M 1 1) ≤ y' → y' < y → sqL x y' = ls → hT (MR r) x y' → ¬ Fix (MR r) x y') hx ⟨by omega, by omega⟩ ?_ 13 (tu (M 1 0)) s (by omega) (by omega) (by omega) ?_ (fun s' w8 h9 => ?_)
        · first
          | (exfalso; omega)
          | exact Or.inl ⟨rfl, by omega, by rcases q48 with q | q; exact q.2; omega⟩
          | exact Or.inr ⟨rfl, fun h => by first | exact absurd h.1 (by omega) | (rcases q48 with q | q; omega; exact q.2 h.2)⟩
        · rcases h4 with h | ⟨h, hA, h4⟩
          · exact Or.inl h
          · exact Or.inr ⟨h, ⟨hA, h4⟩, fun _ q a b => by omega⟩
        · refine j_iinc dX7_isShortestFixed_153 rfl (by decide) (nol rfl) (by simp only [List.set_cons_zero, List.set_cons_succ]; rfl) ?_
          refine j_goto 37 dX7_isShortestFixed_156 rfl ?_
          refine ih (y + 1) s' _ _ (by omega) (by omega) (by omega) ?_ K
          rcases h9 with h | ⟨h, ⟨hA, h4'⟩, h6⟩
          · exact Or.inl h
          · refine Or.inr ⟨h, hA, fun y' a b => ?_⟩
            by_cases e : y' = y
            · rw [e]; exact h6
            · exact h4' y' a (by omega)
theorem l_sf2 {M : Mem} {r : Row} {hs : List Row} (hI : MS M r hs) (hk1 : M 1 0 = 1) {S : Nat} (hS : S < 2 ^ 12) (hb : ∀ p : Nat, p < 12 → bit S p = MR r 16 p) {ls : Int} (hls : ls ≤ M 1 1 * M 1 1 ∧ 0 < ls) (m : Nat) : ∀ (x s : Int) (w6 w7 w8 : Option PV), -(2 * M 1 1) ≤ x → x ≤ 2 * M 1 1 + 1 → 2 * M 1 1 + 1 - x < m → ((s = 1 ∧ FSh (MR r) ls) ∨ (s = 0 ∧ ∀ x' y' : Int, -(2 * M 1 1) ≤ x' → x' < x → -(2 * M 1 1) ≤ y' → y' ≤ 2 * M 1 1 → sqL x' y' = ls → hT (MR r) x' y' → ¬ Fix (MR r) x' y')) → J SHM mi_X7_isShortestFixed 27 [some (vR 0), some (vI S), some (vI ls), some (vI (2 * M 1 1)), some (vI s), some (vI x), w6, w7, w8] [] M (pz (fun z M1 => M = M1 ∧ ((z = 1 ∧ FSh (MR r) ls) ∨ (z = 0 ∧ ¬ FSh (MR r) ls)))) := by
  induction m with
  | zero => intro x s w6 w7 w8 h1 h2 h3; omega
  | succ m ih =>
  intro x s w6 w7 w8 h1 h2 h3 h4
  obtain ⟨hc, ho, hh, hq, hl, hd⟩ := id hI
  have hL := LaM_of hc ho
  have hg := GM_of hc ho
  obtain ⟨hP, es, hB, hnd, hes⟩ := id hd
  obtain ⟨hc1, hc2, hc3, hc4⟩ := id hc
  have ho4 := ho.2.2.2.1
  obtain ⟨hln, hv, hpm, hle⟩ := MS_b hI hB hnd hes
  obtain ⟨hk, hn1, hn5, hnn1, hnn2⟩ := id hL
  have ht := tu_c hk
  obtain ⟨hP1, hP2, hP3⟩ := id hP
  obtain ⟨hB1, hB2, hB3⟩ := id hB
  refine j_iload dX7_isShortestFixed_27 rfl ?_
  refine j_iload_n dX7_isShortestFixed_29 rfl ?_
  refine j_icmp_gt 165 dX7_isShortestFixed_30 rfl (by unfold inR; omega) (by unfold inR; omega) (fun c30 => ?_) (fun c30 => ?_)
  · refine j_iload dX7_isShortestFixed_165 rfl ?_
    refine j_zret dX7_isShortestFixed_167 rfl (by first | exact Or.inl rfl | exact Or.inr rfl | omega) ?_
    refine ⟨s, rfl, rfl, ?_⟩
    rcases h4 with h | h
    · exact Or.inl h
    · refine Or.inr ⟨h.1, ?_⟩
      unfold FSh
      rw [MR_11, ← hc2]
      rintro ⟨x', y', a, b, c, d, e, f, k⟩
      exact h.2 x' y' (by omega) (by omega) (by omega) (by omega) e f k
  · refine j_iload_n dX7_isShortestFixed_33 rfl ?_
    refine j_ineg dX7_isShortestFixed_34 ?_
    refine j_istore dX7_isShortestFixed_35 (by decide) (nol rfl) (by show List.set _ 6 _ = _; simp only [List.set_cons_zero, List.set_cons_succ]; rfl) ?_
    refine l_sf1 hI hk1 hS hb hls (A := ∀ x' y' : Int, -(2 * M 1 1) ≤ x' → x' < x → -(2 * M 1 1) ≤ y' → y' ≤ 2 * M 1 1 → sqL x' y' = ls → hT (MR r) x' y' → ¬ Fix (MR r) x' y') (x := x) ⟨by omega, by omega⟩ 23 (-(2 * M 1 1)) s _ _ (by omega) (by omega) (by omega) ?_ (fun s' w6 w7 w8 h9 => ?_)
    · rcases h4 with h | h
      · exact Or.inl h
      · exact Or.inr ⟨h.1, h.2, fun y' a b => by omega⟩
    · refine j_iinc dX7_isShortestFixed_159 rfl (by decide) (nol rfl) (by simp only [List.set_cons_zero, List.set_cons_succ]; rfl) ?_
      refine j_goto 27 dX7_isShortestFixed_162 rfl ?_
      refine ih (x + 1) s' _ _ _ (by omega) (by omega) (by omega) ?_
      rcases h9 with h | ⟨h, hA, h6⟩
      · exact Or.inl h
      · refine Or.inr ⟨h, fun x' y' a b => ?_⟩
        by_cases e : x' = x
        · rw [e]; exact h6 y'
        · exact hA x' y' a (by omega)
theorem e_X7_isShortestFixed {M : Mem} {r : Row} {hs : List Row} (hI : MS M r hs) (hk1 : M 1 0 = 1)  : J SHM mi_X7_isShortestFixed 0 (ent [vR 0] 9) [] M (pz (fun z M1 => M = M1 ∧ ∃ ls, Lea (MR r) ls ∧ ((z = 1 ∧ FSh (MR r) ls) ∨ (z = 0 ∧ ¬ FSh (MR r) ls)))) := by
  obtain ⟨hc, ho, hh, hq, hl, hd⟩ := id hI
  have hL := LaM_of hc ho
  have hg := GM_of hc ho
  obtain ⟨hP, es, hB, hnd, hes⟩ := id hd
  obtain ⟨hc1, hc2, hc3, hc4⟩ := id hc
  have ho4 := ho.2.2.2.1
  obtain ⟨hln, hv, hpm, hle⟩ := MS_b hI hB hnd hes
  obtain ⟨hk, hn1, hn5, hnn1, hnn2⟩ := id hL
  have ht := tu_c hk
  obtain ⟨hP1, hP2, hP3⟩ := id hP
  obtain ⟨hB1, hB2, hB3⟩ := id hB
  show J SHM mi_X7_isShortestFixed 0 [some (vR 0), none, none, none, none, none, none, none, none] [] M _
  refine j_aload_n dX7_isShortestFixed_0 rfl ?_
  refine j_iconst dX7_isShortestFixed_1 ?_
  refine j_V1g dX7_isShortestFixed_2 ok_X7_partSet v_X7_126 c_X7_partSet rfl (e_X7_partSet (re := 0) hI (by decide)) (fun v M9 q9 => ?_)
  obtain ⟨hM9, S, rfl, hS, hb⟩ := q9
  subst hM9
  have hb : ∀ p : Nat, p < 12 → bit S p = MR r 16 p := hb
  refine j_istore_n dX7_isShortestFixed_5 (by decide) (nol rfl) (by show List.set _ 1 _ = _; simp only [List.set_cons_zero, List.set_cons_succ]; rfl) ?_
  refine j_aload_n dX7_isShortestFixed_6 rfl ?_
  refine j_V0z dX7_isShortestFixed_7 ok_X7_leastSquared v_X7_159 c_X7_leastSquared rfl (e_X7_leastSquared hI hk1) (fun z7 M7 q7 => ?_)
  obtain ⟨rfl, q7, t7, u7⟩ := q7
  refine j_istore_n dX7_isShortestFixed_10 (by decide) (nol rfl) (by show List.set _ 2 _ = _; simp only [List.set_cons_zero, List.set_cons_succ]; rfl) ?_
  refine j_iconst dX7_isShortestFixed_11 ?_
  refine j_aload_n dX7_isShortestFixed_12 rfl ?_
  refine j_getR dX7_isShortestFixed_13 f_X7_7 rfl rfl ?_
  refine j_iconst dX7_isShortestFixed_16 ?_
  refine j_iald dX7_isShortestFixed_17 (by first | rfl | assumption) (by decide) (by omega) (by omega) ?_
  refine j_imul dX7_isShortestFixed_18 ?_
  refine j_istore_n dX7_isShortestFixed_19 (by decide) (nol rfl) (by show List.set _ 3 _ = _; simp only [List.set_cons_zero, List.set_cons_succ]; rfl) ?_
  refine j_iconst dX7_isShortestFixed_20 ?_
  refine j_istore dX7_isShortestFixed_21 (by decide) (nol rfl) (by show List.set _ 4 _ = _; simp only [List.set_cons_zero, List.set_cons_succ]; rfl) ?_
  refine j_iload_n dX7_isShortestFixed_23 rfl ?_
  refine j_ineg dX7_isShortestFixed_24 ?_
  refine j_istore dX7_isShortestFixed_25 (by decide) (nol rfl) (by show List.set _ 5 _ = _; simp only [List.set_cons_zero, List.set_cons_succ]; rfl) ?_
  refine j_mono ?_ (l_sf2 hI hk1 hS hb (ls := z7) ⟨t7, u7⟩ 23 (-(2 * M9 1 1)) 0 _ _ _ (by omega) (by omega) (by omega) (Or.inr ⟨rfl, fun x' y' a b => by omega⟩))
  rintro v M1 ⟨z, rfl, e, h⟩
  exact ⟨z, rfl, e, z7, q7, h⟩
theorem gtf_3 {f : Int → Int} (h : gtf f 0 (tu 0).toNat = 3) : False := by
  have ht : (tu 0).toNat = 4 := rfl
  rw [ht] at h
  have a0 : tordF 0 ((0 : Nat) : Int) = 1 := rfl
  have a1 : tordF 0 ((1 : Nat) : Int) = 4 := rfl
  have a2 : tordF 0 ((2 : Nat) : Int) = 2 := rfl
  have a3 : tordF 0 ((3 : Nat) : Int) = 4 := rfl
  simp only [gtf, a0, a1, a2, a3] at h
  repeat' split at h
  all_goals omega
theorem S_rev {r : Row} (ho : okR r) {S : Nat} (hS : S < 2 ^ 12) (hb : ∀ p : Nat, p < 12 → bit S p = MR r 16 p) : (S >>> (tu r.1).toNat = 0 ∧ ¬ Rev (MR r)) ∨ (¬ S >>> (tu r.1).toNat = 0 ∧ Rev (MR r)) := by
  have ht := tu_c ho.1
  by_cases h : S >>> (tu r.1).toNat = 0
  · refine Or.inl ⟨h, ?_⟩
    unfold Rev
    rw [MR_10]
    rintro ⟨p, a, b, c⟩
    have h1 := hb p.toNat (by omega)
    rw [show ((p.toNat : Nat) : Int) = p by omega, c] at h1
    have h2 : S.testBit p.toNat = true := by
      rcases bit_01 S p.toNat with q | q
      · exact q.2
      · omega
    have h3 : (S >>> (tu r.1).toNat).testBit (p.toNat - (tu r.1).toNat) = true := by
      rw [Nat.testBit_shiftRight, show (tu r.1).toNat + (p.toNat - (tu r.1).toNat) = p.toNat by omega]
      exact h2
    rw [h, Nat.zero_testBit] at h3
    exact absurd h3 (by decide)
  · refine Or.inr ⟨h, ?_⟩
    obtain ⟨i, hi⟩ := Nat.exists_testBit_of_ne_zero h
    rw [Nat.testBit_shiftRight] at hi
    have h12 : (tu r.1).toNat + i < 12 := by
      apply Classical.byContradiction
      intro h9
      have := Nat.testBit_lt_two_pow (Nat.lt_of_lt_of_le hS (Nat.pow_le_pow_right (by decide) (show 12 ≤ (tu r.1).toNat + i by omega)))
      rw [this] at hi
      exact absurd hi (by decide)
    have h1 := hb _ h12
    have h2 : bit S ((tu r.1).toNat + i) = 1 := by
      rcases bit_01 S ((tu r.1).toNat + i) with q | q
      · exact q.1
      · exact absurd hi q.2
    have h3 := MR_lt ho (Or.inl (h1.symm.trans h2))
    unfold Rev
    rw [MR_10]
    exact ⟨_, by omega, h3.2, h1.symm.trans h2⟩

theorem l_mt1 {M : Mem} {r : Row} {hs : List Row} (hI : MS M r hs) {b : Int} (hbr : (b = 1 ∧ ¬ Rev (MR r)) ∨ (b = 0 ∧ Rev (MR r))) (hd : 0 ≤ (cntTo (MR r 17) 12) ∧ (cntTo (MR r 17) 12) ≤ 12) (hg1 : (gtf (MR r 16) r.1 (tu r.1).toNat) = 1) : J SHM mi_X7_type 64 [some (vR 0), some (vI (gtf (MR r 16) r.1 (tu r.1).toNat)), some (vI b), some (vI (cntTo (MR r 17) 12))] [] M (pz (fun z M1 => M = M1 ∧ TY (MR r) (gtf (MR r 16) r.1 (tu r.1).toNat) (cntTo (MR r 17) 12) z)) := by
  refine j_iload_n dX7_type_64 rfl ?_
  refine j_if_eq 72 dX7_type_65 rfl (by unfold inR; omega) (fun c65 => ?_) (fun c65 => ?_)
  · refine j_iload_n dX7_type_72 rfl ?_
    refine j_if_ne 80 dX7_type_73 rfl (by unfold inR; omega) (fun c73 => ?_) (fun c73 => ?_)
    · refine j_aload_n dX7_type_80 rfl ?_
      refine j_V0z dX7_type_81 ok_X7_isCenteredNow v_X7_152 c_X7_isCenteredNow rfl (e_X7_isCenteredNow hI) (fun z81 M81 q81 => ?_)
      obtain ⟨rfl, q81⟩ := q81
      refine j_if_eq 91 dX7_type_84 rfl (by unfold inR; omega) (fun c84 => ?_) (fun c84 => ?_)
      · refine j_iconst dX7_type_91 ?_
        refine j_iret dX7_type_92 rfl ?_
        refine ⟨_, rfl, rfl, Or.inl ⟨hg1, ?_⟩⟩
        unfold TY1
        clear hI hg1
        by_cases hR : Rev (MR r) <;> by_cases hC : Cen (MR r) <;> simp only [hR, hC, not_true_eq_false, not_false_eq_true, true_and, false_and, and_true, and_false, true_or, or_true, false_or, or_false] at * <;> omega
      · refine j_iconst dX7_type_87 ?_
        refine j_goto 92 dX7_type_88 rfl ?_
        refine j_iret dX7_type_92 rfl ?_
        refine ⟨_, rfl, rfl, Or.inl ⟨hg1, ?_⟩⟩
        unfold TY1
        clear hI hg1
        by_cases hR : Rev (MR r) <;> by_cases hC : Cen (MR r) <;> simp only [hR, hC, not_true_eq_false, not_false_eq_true, true_and, false_and, and_true, and_false, true_or, or_true, false_or, or_false] at * <;> omega
    · refine j_iconst dX7_type_76 ?_
      refine j_goto 92 dX7_type_77 rfl ?_
      refine j_iret dX7_type_92 rfl ?_
      refine ⟨_, rfl, rfl, Or.inl ⟨hg1, ?_⟩⟩
      unfold TY1
      clear hI hg1
      by_cases hR : Rev (MR r) <;> by_cases hC : Cen (MR r) <;> simp only [hR, hC, not_true_eq_false, not_false_eq_true, true_and, false_and, and_true, and_false, true_or, or_true, false_or, or_false] at * <;> omega
  · refine j_iconst dX7_type_68 ?_
    refine j_goto 92 dX7_type_69 rfl ?_
    refine j_iret dX7_type_92 rfl ?_
    refine ⟨_, rfl, rfl, Or.inl ⟨hg1, ?_⟩⟩
    unfold TY1
    clear hI hg1
    by_cases hR : Rev (MR r) <;> by_cases hC : Cen (MR r) <;> simp only [hR, hC, not_true_eq_false, not_false_eq_true, true_and, false_and, and_true, and_false, true_or, or_true, false_or, or_false] at * <;> omega
theorem l_mt2 {M : Mem} {r : Row} {hs : List Row} (hI : MS M r hs) {b : Int} (hbr : (b = 1 ∧ ¬ Rev (MR r)) ∨ (b = 0 ∧ Rev (MR r))) (hd : 0 ≤ (cntTo (MR r 17) 12) ∧ (cntTo (MR r 17) 12) ≤ 12) (hg1 : (gtf (MR r 16) r.1 (tu r.1).toNat) = 2) : J SHM mi_X7_type 93 [some (vR 0), some (vI (gtf (MR r 16) r.1 (tu r.1).toNat)), some (vI b), some (vI (cntTo (MR r 17) 12))] [] M (pz (fun z M1 => M = M1 ∧ TY (MR r) (gtf (MR r 16) r.1 (tu r.1).toNat) (cntTo (MR r 17) 12) z)) := by
  refine j_iload_n dX7_type_93 rfl ?_
  refine j_if_eq 101 dX7_type_94 rfl (by unfold inR; omega) (fun c94 => ?_) (fun c94 => ?_)
  · refine j_iload_n dX7_type_101 rfl ?_
    refine j_if_ne 109 dX7_type_102 rfl (by unfold inR; omega) (fun c102 => ?_) (fun c102 => ?_)
    · refine j_iload_n dX7_type_109 rfl ?_
      refine j_iconst dX7_type_110 ?_
      refine j_icmp_ne 119 dX7_type_111 rfl (by unfold inR; omega) (by unfold inR; omega) (fun c111 => ?_) (fun c111 => ?_)
      · refine j_aload_n dX7_type_119 rfl ?_
        refine j_V0z dX7_type_120 ok_X7_isCenteredNow v_X7_152 c_X7_isCenteredNow rfl (e_X7_isCenteredNow hI) (fun z120 M120 q120 => ?_)
        obtain ⟨rfl, q120⟩ := q120
        refine j_if_eq 131 dX7_type_123 rfl (by unfold inR; omega) (fun c123 => ?_) (fun c123 => ?_)
        · refine j_bipush dX7_type_131 (by decide +kernel) ?_
          refine j_iret dX7_type_133 rfl ?_
          refine ⟨_, rfl, rfl, Or.inr (Or.inl ⟨hg1, ?_⟩)⟩
          unfold TY2
          clear hI hg1
          by_cases hR : Rev (MR r) <;> by_cases hC : Cen (MR r) <;> simp only [hR, hC, not_true_eq_false, not_false_eq_true, true_and, false_and, and_true, and_false, true_or, or_true, false_or, or_false] at * <;> omega
        · refine j_bipush dX7_type_126 (by decide +kernel) ?_
          refine j_goto 133 dX7_type_128 rfl ?_
          refine j_iret dX7_type_133 rfl ?_
          refine ⟨_, rfl, rfl, Or.inr (Or.inl ⟨hg1, ?_⟩)⟩
          unfold TY2
          clear hI hg1
          by_cases hR : Rev (MR r) <;> by_cases hC : Cen (MR r) <;> simp only [hR, hC, not_true_eq_false, not_false_eq_true, true_and, false_and, and_true, and_false, true_or, or_true, false_or, or_false] at * <;> omega
      · refine j_bipush dX7_type_114 (by decide +kernel) ?_
        refine j_goto 133 dX7_type_116 rfl ?_
        refine j_iret dX7_type_133 rfl ?_
        refine ⟨_, rfl, rfl, Or.inr (Or.inl ⟨hg1, ?_⟩)⟩
        unfold TY2
        clear hI hg1
        by_cases hR : Rev (MR r) <;> by_cases hC : Cen (MR r) <;> simp only [hR, hC, not_true_eq_false, not_false_eq_true, true_and, false_and, and_true, and_false, true_or, or_true, false_or, or_false] at * <;> omega
    · refine j_iconst dX7_type_105 ?_
      refine j_goto 133 dX7_type_106 rfl ?_
      refine j_iret dX7_type_133 rfl ?_
      refine ⟨_, rfl, rfl, Or.inr (Or.inl ⟨hg1, ?_⟩)⟩
      unfold TY2
      clear hI hg1
      by_cases hR : Rev (MR r) <;> by_cases hC : Cen (MR r) <;> simp only [hR, hC, not_true_eq_false, not_false_eq_true, true_and, false_and, and_true, and_false, true_or, or_true, false_or, or_false] at * <;> omega
  · refine j_iconst dX7_type_97 ?_
    refine j_goto 133 dX7_type_98 rfl ?_
    refine j_iret dX7_type_133 rfl ?_
    refine ⟨_, rfl, rfl, Or.inr (Or.inl ⟨hg1, ?_⟩)⟩
    unfold TY2
    clear hI hg1
    by_cases hR : Rev (MR r) <;> by_cases hC : Cen (MR r) <;> simp only [hR, hC, not_true_eq_false, not_false_eq_true, true_and, false_and, and_true, and_false, true_or, or_true, false_or, or_false] at * <;> omega
theorem l_mt4 {M : Mem} {r : Row} {hs : List Row} (hI : MS M r hs) {b : Int} (hbr : (b = 1 ∧ ¬ Rev (MR r)) ∨ (b = 0 ∧ Rev (MR r))) (hd : 0 ≤ (cntTo (MR r 17) 12) ∧ (cntTo (MR r 17) 12) ≤ 12) (hg1 : (gtf (MR r 16) r.1 (tu r.1).toNat) = 4) : J SHM mi_X7_type 158 [some (vR 0), some (vI (gtf (MR r 16) r.1 (tu r.1).toNat)), some (vI b), some (vI (cntTo (MR r 17) 12))] [] M (pz (fun z M1 => M = M1 ∧ TY (MR r) (gtf (MR r 16) r.1 (tu r.1).toNat) (cntTo (MR r 17) 12) z)) := by
  refine j_iload_n dX7_type_158 rfl ?_
  refine j_if_eq 167 dX7_type_159 rfl (by unfold inR; omega) (fun c159 => ?_) (fun c159 => ?_)
  · refine j_iload_n dX7_type_167 rfl ?_
    refine j_iconst dX7_type_168 ?_
    refine j_icmp_ge 177 dX7_type_169 rfl (by unfold inR; omega) (by unfold inR; omega) (fun c169 => ?_) (fun c169 => ?_)
    · refine j_bipush dX7_type_177 (by decide +kernel) ?_
      refine j_iret dX7_type_179 rfl ?_
      refine ⟨_, rfl, rfl, Or.inr (Or.inr (Or.inr (Or.inl ⟨hg1, ?_⟩)))⟩
      unfold TY4
      clear hI hg1
      by_cases hR : Rev (MR r) <;> by_cases hC : Cen (MR r) <;> simp only [hR, hC, not_true_eq_false, not_false_eq_true, true_and, false_and, and_true, and_false, true_or, or_true, false_or, or_false] at * <;> omega
    · refine j_bipush dX7_type_172 (by decide +kernel) ?_
      refine j_goto 179 dX7_type_174 rfl ?_
      refine j_iret dX7_type_179 rfl ?_
      refine ⟨_, rfl, rfl, Or.inr (Or.inr (Or.inr (Or.inl ⟨hg1, ?_⟩)))⟩
      unfold TY4
      clear hI hg1
      by_cases hR : Rev (MR r) <;> by_cases hC : Cen (MR r) <;> simp only [hR, hC, not_true_eq_false, not_false_eq_true, true_and, false_and, and_true, and_false, true_or, or_true, false_or, or_false] at * <;> omega
  · refine j_bipush dX7_type_162 (by decide +kernel) ?_
    refine j_goto 179 dX7_type_164 rfl ?_
    refine j_iret dX7_type_179 rfl ?_
    refine ⟨_, rfl, rfl, Or.inr (Or.inr (Or.inr (Or.inl ⟨hg1, ?_⟩)))⟩
    unfold TY4
    clear hI hg1
    by_cases hR : Rev (MR r) <;> by_cases hC : Cen (MR r) <;> simp only [hR, hC, not_true_eq_false, not_false_eq_true, true_and, false_and, and_true, and_false, true_or, or_true, false_or, or_false] at * <;> omega
theorem l_mt5 {M : Mem} {r : Row} {hs : List Row} (hI : MS M r hs) {b : Int} (hbr : (b = 1 ∧ ¬ Rev (MR r)) ∨ (b = 0 ∧ Rev (MR r))) (hd : 0 ≤ (cntTo (MR r 17) 12) ∧ (cntTo (MR r 17) 12) ≤ 12) (hg1 : 5 ≤ (gtf (MR r 16) r.1 (tu r.1).toNat)) : J SHM mi_X7_type 180 [some (vR 0), some (vI (gtf (MR r 16) r.1 (tu r.1).toNat)), some (vI b), some (vI (cntTo (MR r 17) 12))] [] M (pz (fun z M1 => M = M1 ∧ TY (MR r) (gtf (MR r 16) r.1 (tu r.1).toNat) (cntTo (MR r 17) 12) z)) := by
  refine j_iload_n dX7_type_180 rfl ?_
  refine j_if_eq 189 dX7_type_181 rfl (by unfold inR; omega) (fun c181 => ?_) (fun c181 => ?_)
  · refine j_bipush dX7_type_189 (by decide +kernel) ?_
    refine j_iret dX7_type_191 rfl ?_
    refine ⟨_, rfl, rfl, Or.inr (Or.inr (Or.inr (Or.inr ⟨hg1, ?_⟩)))⟩
    unfold TY6
    clear hI hg1
    by_cases hR : Rev (MR r) <;> by_cases hC : Cen (MR r) <;> simp only [hR, hC, not_true_eq_false, not_false_eq_true, true_and, false_and, and_true, and_false, true_or, or_true, false_or, or_false] at * <;> omega
  · refine j_bipush dX7_type_184 (by decide +kernel) ?_
    refine j_goto 191 dX7_type_186 rfl ?_
    refine j_iret dX7_type_191 rfl ?_
    refine ⟨_, rfl, rfl, Or.inr (Or.inr (Or.inr (Or.inr ⟨hg1, ?_⟩)))⟩
    unfold TY6
    clear hI hg1
    by_cases hR : Rev (MR r) <;> by_cases hC : Cen (MR r) <;> simp only [hR, hC, not_true_eq_false, not_false_eq_true, true_and, false_and, and_true, and_false, true_or, or_true, false_or, or_false] at * <;> omega
theorem l_mt3 {M : Mem} {r : Row} {hs : List Row} (hI : MS M r hs) {b : Int} (hbr : (b = 1 ∧ ¬ Rev (MR r)) ∨ (b = 0 ∧ Rev (MR r))) (hd : 0 ≤ (cntTo (MR r 17) 12) ∧ (cntTo (MR r 17) 12) ≤ 12) (hg1 : (gtf (MR r 16) r.1 (tu r.1).toNat) = 3) : J SHM mi_X7_type 134 [some (vR 0), some (vI (gtf (MR r 16) r.1 (tu r.1).toNat)), some (vI b), some (vI (cntTo (MR r 17) 12))] [] M (pz (fun z M1 => M = M1 ∧ TY (MR r) (gtf (MR r 16) r.1 (tu r.1).toNat) (cntTo (MR r 17) 12) z)) := by
  obtain ⟨hc, ho, hh, hq, hl, hd⟩ := id hI
  have hL := LaM_of hc ho
  have hg := GM_of hc ho
  obtain ⟨hP, es, hB, hnd, hes⟩ := id hd
  obtain ⟨hc1, hc2, hc3, hc4⟩ := id hc
  have ho4 := ho.2.2.2.1
  obtain ⟨hln, hv, hpm, hle⟩ := MS_b hI hB hnd hes
  obtain ⟨hk, hn1, hn5, hnn1, hnn2⟩ := id hL
  have ht := tu_c hk
  obtain ⟨hP1, hP2, hP3⟩ := id hP
  obtain ⟨hB1, hB2, hB3⟩ := id hB
  have hk1 : M 1 0 = 1 := by
    rcases hk with h | h
    · rw [hc1] at h
      rw [h] at hg1
      exact absurd hg1 (fun z => gtf_3 z)
    · exact h
  refine j_iload_n dX7_type_134 rfl ?_
  refine j_if_eq 143 dX7_type_135 rfl (by unfold inR; omega) (fun c135 => ?_) (fun c135 => ?_)
  · refine j_aload_n dX7_type_143 rfl ?_
    refine j_V0z dX7_type_144 ok_X7_isShortestFixed v_X7_162 c_X7_isShortestFixed rfl (e_X7_isShortestFixed hI (by omega)) (fun z144 M144 q144 => ?_)
    obtain ⟨rfl, ls144, q144, r144⟩ := q144
    refine j_if_eq 155 dX7_type_147 rfl (by unfold inR; omega) (fun c147 => ?_) (fun c147 => ?_)
    · refine j_bipush dX7_type_155 (by decide +kernel) ?_
      refine j_iret dX7_type_157 rfl ?_
      refine ⟨_, rfl, rfl, Or.inr (Or.inr (Or.inl ⟨hg1, ?_⟩))⟩
      first
      | (refine Or.inl ⟨?_, rfl⟩
         rcases hbr with q | q
         · exact q.2
         · omega)
      | (refine Or.inr ⟨?_, ls144, q144, ?_⟩
         · rcases hbr with q | q
           · omega
           · exact q.2
         · rcases r144 with q | q
           · first
             | exact Or.inl ⟨q.2, rfl⟩
             | (exfalso; omega)
           · first
             | exact Or.inr ⟨q.2, rfl⟩
             | (exfalso; omega))
    · refine j_bipush dX7_type_150 (by decide +kernel) ?_
      refine j_goto 157 dX7_type_152 rfl ?_
      refine j_iret dX7_type_157 rfl ?_
      refine ⟨_, rfl, rfl, Or.inr (Or.inr (Or.inl ⟨hg1, ?_⟩))⟩
      first
      | (refine Or.inl ⟨?_, rfl⟩
         rcases hbr with q | q
         · exact q.2
         · omega)
      | (refine Or.inr ⟨?_, ls144, q144, ?_⟩
         · rcases hbr with q | q
           · omega
           · exact q.2
         · rcases r144 with q | q
           · first
             | exact Or.inl ⟨q.2, rfl⟩
             | (exfalso; omega)
           · first
             | exact Or.inr ⟨q.2, rfl⟩
             | (exfalso; omega))
  · refine j_bipush dX7_type_138 (by decide +kernel) ?_
    refine j_goto 157 dX7_type_140 rfl ?_
    refine j_iret dX7_type_157 rfl ?_
    refine ⟨_, rfl, rfl, Or.inr (Or.inr (Or.inl ⟨hg1, ?_⟩))⟩
    first
    | (refine Or.inl ⟨?_, rfl⟩
       rcases hbr with q | q
       · exact q.2
       · omega)
    | (refine Or.inr ⟨?_, ls144, q144, ?_⟩
       · rcases hbr with q | q
         · omega
         · exact q.2
       · rcases r144 with q | q
         · first
           | exact Or.inl ⟨q.2, rfl⟩
           | (exfalso; omega)
         · first
           | exact Or.inr ⟨q.2, rfl⟩
           | (exfalso; omega))
theorem e_X7_type {M : Mem} {r : Row} {hs : List Row} (hI : MS M r hs)  : J SHM mi_X7_type 0 (ent [vR 0] 4) [] M (pz (fun z M1 => M = M1 ∧ TY (MR r) (gtf (MR r 16) r.1 (tu r.1).toNat) (cntTo (MR r 17) 12) z)) := by
  obtain ⟨hc, ho, hh, hq, hl, hd⟩ := id hI
  have hL := LaM_of hc ho
  have hg := GM_of hc ho
  obtain ⟨hP, es, hB, hnd, hes⟩ := id hd
  obtain ⟨hc1, hc2, hc3, hc4⟩ := id hc
  have ho4 := ho.2.2.2.1
  obtain ⟨hln, hv, hpm, hle⟩ := MS_b hI hB hnd hes
  obtain ⟨hk, hn1, hn5, hnn1, hnn2⟩ := id hL
  have ht := tu_c hk
  obtain ⟨hP1, hP2, hP3⟩ := id hP
  obtain ⟨hB1, hB2, hB3⟩ := id hB
  have hgb := gtf_b (f := MR r 16) ho.1 (tu r.1).toNat (by have := tu_c ho.1; omega)
  have hdb := cntTo_b (MR r 17) 12
  have hdd : 0 ≤ (cntTo (MR r 17) 12) ∧ (cntTo (MR r 17) 12) ≤ 12 := ⟨hdb.1, by omega⟩
  show J SHM mi_X7_type 0 [some (vR 0), none, none, none] [] M _
  refine j_aload_n dX7_type_0 rfl ?_
  refine j_V0p dX7_type_1 ok_X7_greatestTurn v_X7_136 c_X7_greatestTurn rfl (e_X7_greatestTurn hI) ?_
  refine j_istore_n dX7_type_4 (by decide) (nol rfl) (by show List.set _ 1 _ = _; simp only [List.set_cons_zero, List.set_cons_succ]; rfl) ?_
  refine j_aload_n dX7_type_5 rfl ?_
  refine j_iconst dX7_type_6 ?_
  refine j_V1g dX7_type_7 ok_X7_partSet v_X7_126 c_X7_partSet rfl (e_X7_partSet (re := 0) hI (by decide)) (fun v M9 q9 => ?_)
  obtain ⟨hM9, S, rfl, hS, hb⟩ := q9
  subst hM9
  have hb : ∀ p : Nat, p < 12 → bit S p = MR r 16 p := hb
  have e2 : (M9 0 3).tdiv 2 = tu r.1 := by rw [hP1, Int.tdiv_eq_ediv_of_nonneg (by omega), hc1]; omega
  have hSr := S_rev ho hS hb
  have hSb : 0 ≤ ((S >>> (tu r.1).toNat : Nat) : Int) ∧ ((S >>> (tu r.1).toNat : Nat) : Int) < 4096 := ⟨Int.natCast_nonneg _, by have := Nat.shiftRight_le S (tu r.1).toNat; omega⟩
  rw [hc1] at ht
  have htr : inR (M9 0 3) := by rw [hP1, hc1]; unfold inR; omega
  refine j_aload_n dX7_type_10 rfl ?_
  refine j_getI (kz := 3) rfl dX7_type_11 f_X7_36 rfl rfl ?_
  refine j_iconst dX7_type_14 ?_
  refine j_idiv dX7_type_15 (by first | assumption | (unfold inR; omega)) (by first | assumption | (unfold inR; omega)) (by omega) ?_
  rw [e2]
  refine j_ishr dX7_type_16 (shr_i (Nat.lt_trans hS (by decide)) (by omega)) ?_
  refine j_if_ne 24 dX7_type_17 rfl (by first | assumption | (unfold inR; omega)) (fun c17 => ?_) (fun c17 => ?_)
  · refine j_iconst dX7_type_24 ?_
    refine j_istore_n dX7_type_25 (by decide) (nol rfl) (by show List.set _ 2 _ = _; simp only [List.set_cons_zero, List.set_cons_succ]; rfl) ?_
    refine j_aload_n dX7_type_26 rfl ?_
    refine j_V0p dX7_type_27 ok_X7_directions v_X7_139 c_X7_directions rfl (e_X7_directions hI) ?_
    refine j_istore_n dX7_type_30 (by decide) (nol rfl) (by show List.set _ 3 _ = _; simp only [List.set_cons_zero, List.set_cons_succ]; rfl) ?_
    refine j_iload_n dX7_type_31 rfl ?_
    have hbr : ((0 : Int) = 1 ∧ ¬ Rev (MR r)) ∨ ((0 : Int) = 0 ∧ Rev (MR r)) := by
      rcases hSr with q | q
      · first
        | exact Or.inl ⟨rfl, q.2⟩
        | (exfalso; omega)
      · first
        | exact Or.inr ⟨rfl, q.2⟩
        | (exfalso; omega)
    rcases (show (gtf (MR r 16) r.1 (tu r.1).toNat) = 1 ∨ (gtf (MR r 16) r.1 (tu r.1).toNat) = 2 ∨ (gtf (MR r 16) r.1 (tu r.1).toNat) = 3 ∨ (gtf (MR r 16) r.1 (tu r.1).toNat) = 4 ∨ 5 ≤ (gtf (MR r 16) r.1 (tu r.1).toNat) by omega) with h | h | h | h | h
    · exact j_tsIn 64 dX7_type_32 (by unfold inR; omega) (by omega) (by omega) (off := 32) (by rw [h]; rfl) rfl (l_mt1 hI hbr hdd h)
    · exact j_tsIn 93 dX7_type_32 (by unfold inR; omega) (by omega) (by omega) (off := 61) (by rw [h]; rfl) rfl (l_mt2 hI hbr hdd h)
    · exact j_tsIn 134 dX7_type_32 (by unfold inR; omega) (by omega) (by omega) (off := 102) (by rw [h]; rfl) rfl (l_mt3 hI hbr hdd h)
    · exact j_tsIn 158 dX7_type_32 (by unfold inR; omega) (by omega) (by omega) (off := 126) (by rw [h]; rfl) rfl (l_mt4 hI hbr hdd h)
    · exact j_tsOut 180 dX7_type_32 (by unfold inR; omega) (by right; omega) rfl (l_mt5 hI hbr hdd h)
  · refine j_iconst dX7_type_20 ?_
    refine j_goto 25 dX7_type_21 rfl ?_
    refine j_istore_n dX7_type_25 (by decide) (nol rfl) (by show List.set _ 2 _ = _; simp only [List.set_cons_zero, List.set_cons_succ]; rfl) ?_
    refine j_aload_n dX7_type_26 rfl ?_
    refine j_V0p dX7_type_27 ok_X7_directions v_X7_139 c_X7_directions rfl (e_X7_directions hI) ?_
    refine j_istore_n dX7_type_30 (by decide) (nol rfl) (by show List.set _ 3 _ = _; simp only [List.set_cons_zero, List.set_cons_succ]; rfl) ?_
    refine j_iload_n dX7_type_31 rfl ?_
    have hbr : ((1 : Int) = 1 ∧ ¬ Rev (MR r)) ∨ ((1 : Int) = 0 ∧ Rev (MR r)) := by
      rcases hSr with q | q
      · first
        | exact Or.inl ⟨rfl, q.2⟩
        | (exfalso; omega)
      · first
        | exact Or.inr ⟨rfl, q.2⟩
        | (exfalso; omega)
    rcases (show (gtf (MR r 16) r.1 (tu r.1).toNat) = 1 ∨ (gtf (MR r 16) r.1 (tu r.1).toNat) = 2 ∨ (gtf (MR r 16) r.1 (tu r.1).toNat) = 3 ∨ (gtf (MR r 16) r.1 (tu r.1).toNat) = 4 ∨ 5 ≤ (gtf (MR r 16) r.1 (tu r.1).toNat) by omega) with h | h | h | h | h
    · exact j_tsIn 64 dX7_type_32 (by unfold inR; omega) (by omega) (by omega) (off := 32) (by rw [h]; rfl) rfl (l_mt1 hI hbr hdd h)
    · exact j_tsIn 93 dX7_type_32 (by unfold inR; omega) (by omega) (by omega) (off := 61) (by rw [h]; rfl) rfl (l_mt2 hI hbr hdd h)
    · exact j_tsIn 134 dX7_type_32 (by unfold inR; omega) (by omega) (by omega) (off := 102) (by rw [h]; rfl) rfl (l_mt3 hI hbr hdd h)
    · exact j_tsIn 158 dX7_type_32 (by unfold inR; omega) (by omega) (by omega) (off := 126) (by rw [h]; rfl) rfl (l_mt4 hI hbr hdd h)
    · exact j_tsOut 180 dX7_type_32 (by unfold inR; omega) (by right; omega) rfl (l_mt5 hI hbr hdd h)
