/-! THE MODEL: sets of linear parts; centering -/
/-- what both sides are measured by: the lattice, the members, the parts that occur, those of reflections -/
noncomputable def MR (r : Row) : Mem := fun a j => if a = 1 then (if j = 0 then r.1 else r.2.1) else if a = 11 then ind (j ∈ GL r) else if a = 16 then ind (∃ c ∈ GL r, cP r.2.1 c = j) else if a = 17 then ind (∃ c ∈ GL r, cP r.2.1 c = j ∧ kn r.1 r.2.1 c = 2) else 0
theorem MR_10 (r : Row) : MR r 1 0 = r.1 := rfl
theorem MR_11 (r : Row) : MR r 1 1 = r.2.1 := rfl
theorem ind_01 (p : Prop) : (ind p = 1 ∧ p) ∨ (ind p = 0 ∧ ¬ p) := by
  by_cases h : p
  · exact Or.inl ⟨ind_1 h, h⟩
  · exact Or.inr ⟨ind_0 h, h⟩
theorem ind_iff {p : Prop} : ind p = 1 ↔ p := by
  rcases ind_01 p with ⟨h, q⟩ | ⟨h, q⟩
  · exact ⟨fun _ => q, fun _ => h⟩
  · exact ⟨fun z => by omega, fun z => absurd z q⟩
theorem ind_cg {p q : Prop} (h : p ↔ q) : ind p = ind q := by rw [propext h]
theorem MR_m (r : Row) (c : Int) : MR r 11 c = ind (c ∈ GL r) := rfl
theorem MR_o (r : Row) (p : Int) : MR r 16 p = ind (∃ c ∈ GL r, cP r.2.1 c = p) := rfl
theorem MR_r (r : Row) (p : Int) : MR r 17 p = ind (∃ c ∈ GL r, cP r.2.1 c = p ∧ kn r.1 r.2.1 c = 2) := rfl
theorem orL_lt2 {g : Int → Bool} {f : Int → Nat} {N : Nat} {es : List Int} (hf : ∀ c ∈ es, f c < N) : orL g f es < 2 ^ N := by
  apply Nat.lt_pow_two_of_testBit
  intro i hi
  cases h : (orL g f es).testBit i
  · rfl
  · obtain ⟨c, hc0, -, hc⟩ := (orL_bit es).mp h
    have := hf c hc0
    omega
theorem orL_step {g : Int → Bool} {f : Int → Nat} {es : List Int} {i : Nat} {x : Int} (h : es[i]? = some x) : orL g f (es.take (i + 1)) = if g x then orL g f (es.take i) ||| 2 ^ f x else orL g f (es.take i) := by
  rw [List.take_add_one, h]
  exact orL_push
theorem shl_i {b : Int} (h : 0 ≤ b ∧ b < 31) : i3 1 <<< (i3 b &&& 31) = i3 ((2 ^ b.toNat : Nat) : Int) := by
  have := i3_shl1 b.toNat (by omega)
  rw [show ((b.toNat : Nat) : Int) = b by omega] at this
  exact this
theorem shr_i {a : Nat} {b : Int} (ha : a < 2 ^ 31) (h : 0 ≤ b ∧ b < 31) : i3 (a : Int) >>> (i3 b &&& 31) = i3 ((a >>> b.toNat : Nat) : Int) := by
  have := i3_shr (p := b.toNat) ha (by omega)
  rw [show ((b.toNat : Nat) : Int) = b by omega] at this
  exact this
theorem or0_i (a : Nat) : i3 (a : Int) ||| i3 0 = i3 (a : Int) := by
  have h := i3_or a 0
  rw [Nat.or_zero] at h
  exact h
theorem bit_01 (a p : Nat) : (bit a p = 1 ∧ a.testBit p = true) ∨ (bit a p = 0 ∧ ¬ a.testBit p = true) := by
  unfold bit
  by_cases h : a.testBit p = true
  · exact Or.inl ⟨if_pos h, h⟩
  · exact Or.inr ⟨if_neg h, h⟩
theorem cntTo_cg {f h : Int → Int} : ∀ N : Nat, (∀ p : Int, 0 ≤ p → p < N → (f p = 0 ↔ h p = 0)) → cntTo f N = cntTo h N
  | 0, _ => rfl
  | N + 1, hf => by
    simp only [cntTo]
    rw [cntTo_cg N (fun p a b => hf p a (by omega))]
    have := hf N (by omega) (by omega)
    by_cases q : f N = 0
    · rw [if_pos q, if_pos (this.mp q)]
    · rw [if_neg q, if_neg (fun z => q (this.mpr z))]
theorem bit_cnt (a p : Nat) : (if bit a p = 0 then (0 : Int) else 1) = bit a p := by
  rcases bit_01 a p with ⟨h, _⟩ | ⟨h, _⟩ <;> rw [h] <;> rfl
/-- the members' parts as bits -/
def psB (k n re : Int) : Int → Bool := fun c => decide (re = 0 ∨ kn k n c = 2)
def psF (n : Int) : Int → Nat := fun c => (cP n c).toNat

theorem l_pset {M : Mem} (hL : LaM M) (hP : MPt M) {es : List Int} (hB : BM M es) (hln : es.length ≤ 300) (hv : ∀ x ∈ es, vc (M 1 0) (M 1 1) x) {re : Int} (hr : re = 0 ∨ re = 1) (m : Nat) : ∀ (i : Nat) (j : Int) (s : Nat) (w : Option PV), j = i → s = orL (psB (M 1 0) (M 1 1) re) (psF (M 1 1)) (es.take i) → i ≤ es.length → es.length - i < m → J SHM mi_X7_partSet 4 [some (vR 0), some (vI re), some (vI s), some (vI j), w] [] M (pu (vI (orL (psB (M 1 0) (M 1 1) re) (psF (M 1 1)) es : Nat)) M) := by
  induction m with
  | zero => intro i j s w hj0 hs h1 h2; omega
  | succ m ih =>
  intro i j s w hj0 hs h1 h2
  subst hj0
  obtain ⟨hk, hn1, hn5, hc1, hc2⟩ := id hL
  have ht := tu_c hk
  obtain ⟨hP1, hP2, hP3⟩ := id hP
  obtain ⟨hB1, hB2, hB3⟩ := id hB
  have hx := EsI (M := M) (i := i) hB hv
  have hkb := kn_b (M 1 0) (M 1 1) (M 6 i)
  have hpb := fun h => (vc_b hk hc1 hc2 (hx h).1).2.2
  refine j_iload_n dX7_partSet_4 rfl ?_
  refine j_aload_n dX7_partSet_5 rfl ?_
  refine j_getI (kz := 8) rfl dX7_partSet_6 f_X7_92 rfl rfl ?_
  refine j_icmp_ge 67 dX7_partSet_9 rfl (by unfold inR; omega) (by unfold inR; omega) (fun c9 => ?_) (fun c9 => ?_)
  · refine j_iload_n dX7_partSet_67 rfl ?_
    refine j_iret dX7_partSet_68 rfl ?_
    have hi : i = es.length := by omega
    subst hi
    rw [List.take_length] at hs
    exact pu_i (by rw [hs])
  · refine j_iload_n dX7_partSet_12 rfl ?_
    refine j_if_eq 30 dX7_partSet_13 rfl (by unfold inR; omega) (fun c13 => ?_) (fun c13 => ?_)
    · refine j_iconst dX7_partSet_30 ?_
      refine j_goto 35 dX7_partSet_31 rfl ?_
      refine j_istore dX7_partSet_35 (by decide) (nol rfl) (by show List.set _ 4 _ = _; simp only [List.set_cons_zero, List.set_cons_succ]; rfl) ?_
      refine j_iload_n dX7_partSet_37 rfl ?_
      refine j_iload dX7_partSet_38 rfl ?_
      refine j_if_eq 58 dX7_partSet_40 rfl (by unfold inR; omega) (fun c40 => ?_) (fun c40 => ?_)
      · refine j_iconst dX7_partSet_58 ?_
        first | refine j_ior dX7_partSet_59 (or0_i _) ?_ | refine j_ior dX7_partSet_59 (i3_or _ _) ?_
        refine j_istore_n dX7_partSet_60 (by decide) (nol rfl) (by show List.set _ 2 _ = _; simp only [List.set_cons_zero, List.set_cons_succ]; rfl) ?_
        refine j_iinc dX7_partSet_61 rfl (by decide) (nol rfl) (by simp only [List.set_cons_zero, List.set_cons_succ]; rfl) ?_
        refine j_goto 4 dX7_partSet_64 rfl ?_
        refine ih (i + 1) _ _ _ (by omega) ?_ (by omega) (by omega)
        rw [orL_step (hx (by omega)).2, hs]
        first
        | (rw [if_pos (by unfold psB; rw [decide_eq_true_eq]; omega)]; rfl)
        | (rw [if_neg (by unfold psB; rw [decide_eq_true_eq]; omega)])
        | (exfalso; omega)
      · refine j_iconst dX7_partSet_43 ?_
        refine j_aload_n dX7_partSet_44 rfl ?_
        refine j_aload_n dX7_partSet_45 rfl ?_
        refine j_getR dX7_partSet_46 f_X7_26 rfl rfl ?_
        refine j_iload_n dX7_partSet_49 rfl ?_
        refine j_iald dX7_partSet_50 (by first | rfl | assumption) (by decide) (by omega) (by omega) ?_
        refine j_V1p dX7_partSet_51 ok_X7_partOf v_X7_59 c_X7_partOf rfl (e_X7_partOf hL (vm_300 hL (hx (by omega)).1).1 (by have := vm_300 hL (hx (by omega)).1; omega)) ?_
        refine j_ishl dX7_partSet_54 (shl_i (by have := hpb (by omega); omega)) ?_
        refine j_goto 59 dX7_partSet_55 rfl ?_
        first | refine j_ior dX7_partSet_59 (or0_i _) ?_ | refine j_ior dX7_partSet_59 (i3_or _ _) ?_
        refine j_istore_n dX7_partSet_60 (by decide) (nol rfl) (by show List.set _ 2 _ = _; simp only [List.set_cons_zero, List.set_cons_succ]; rfl) ?_
        refine j_iinc dX7_partSet_61 rfl (by decide) (nol rfl) (by simp only [List.set_cons_zero, List.set_cons_succ]; rfl) ?_
        refine j_goto 4 dX7_partSet_64 rfl ?_
        refine ih (i + 1) _ _ _ (by omega) ?_ (by omega) (by omega)
        rw [orL_step (hx (by omega)).2, hs]
        first
        | (rw [if_pos (by unfold psB; rw [decide_eq_true_eq]; omega)]; rfl)
        | (rw [if_neg (by unfold psB; rw [decide_eq_true_eq]; omega)])
        | (exfalso; omega)
    · refine j_aload_n dX7_partSet_16 rfl ?_
      refine j_aload_n dX7_partSet_17 rfl ?_
      refine j_getR dX7_partSet_18 f_X7_26 rfl rfl ?_
      refine j_iload_n dX7_partSet_21 rfl ?_
      refine j_iald dX7_partSet_22 (by first | rfl | assumption) (by decide) (by omega) (by omega) ?_
      refine j_V1p dX7_partSet_23 ok_X7_kindOfCode v_X7_120 c_X7_kindOfCode rfl (e_X7_kindOfCode hL hP (hx (by omega)).1) ?_
      refine j_iconst dX7_partSet_26 ?_
      refine j_icmp_ne 34 dX7_partSet_27 rfl (by unfold inR; omega) (by unfold inR; omega) (fun c27 => ?_) (fun c27 => ?_)
      · refine j_iconst dX7_partSet_34 ?_
        refine j_istore dX7_partSet_35 (by decide) (nol rfl) (by show List.set _ 4 _ = _; simp only [List.set_cons_zero, List.set_cons_succ]; rfl) ?_
        refine j_iload_n dX7_partSet_37 rfl ?_
        refine j_iload dX7_partSet_38 rfl ?_
        refine j_if_eq 58 dX7_partSet_40 rfl (by unfold inR; omega) (fun c40 => ?_) (fun c40 => ?_)
        · refine j_iconst dX7_partSet_58 ?_
          first | refine j_ior dX7_partSet_59 (or0_i _) ?_ | refine j_ior dX7_partSet_59 (i3_or _ _) ?_
          refine j_istore_n dX7_partSet_60 (by decide) (nol rfl) (by show List.set _ 2 _ = _; simp only [List.set_cons_zero, List.set_cons_succ]; rfl) ?_
          refine j_iinc dX7_partSet_61 rfl (by decide) (nol rfl) (by simp only [List.set_cons_zero, List.set_cons_succ]; rfl) ?_
          refine j_goto 4 dX7_partSet_64 rfl ?_
          refine ih (i + 1) _ _ _ (by omega) ?_ (by omega) (by omega)
          rw [orL_step (hx (by omega)).2, hs]
          first
          | (rw [if_pos (by unfold psB; rw [decide_eq_true_eq]; omega)]; rfl)
          | (rw [if_neg (by unfold psB; rw [decide_eq_true_eq]; omega)])
          | (exfalso; omega)
        · refine j_iconst dX7_partSet_43 ?_
          refine j_aload_n dX7_partSet_44 rfl ?_
          refine j_aload_n dX7_partSet_45 rfl ?_
          refine j_getR dX7_partSet_46 f_X7_26 rfl rfl ?_
          refine j_iload_n dX7_partSet_49 rfl ?_
          refine j_iald dX7_partSet_50 (by first | rfl | assumption) (by decide) (by omega) (by omega) ?_
          refine j_V1p dX7_partSet_51 ok_X7_partOf v_X7_59 c_X7_partOf rfl (e_X7_partOf hL (vm_300 hL (hx (by omega)).1).1 (by have := vm_300 hL (hx (by omega)).1; omega)) ?_
          refine j_ishl dX7_partSet_54 (shl_i (by have := hpb (by omega); omega)) ?_
          refine j_goto 59 dX7_partSet_55 rfl ?_
          first | refine j_ior dX7_partSet_59 (or0_i _) ?_ | refine j_ior dX7_partSet_59 (i3_or _ _) ?_
          refine j_istore_n dX7_partSet_60 (by decide) (nol rfl) (by show List.set _ 2 _ = _; simp only [List.set_cons_zero, List.set_cons_succ]; rfl) ?_
          refine j_iinc dX7_partSet_61 rfl (by decide) (nol rfl) (by simp only [List.set_cons_zero, List.set_cons_succ]; rfl) ?_
          refine j_goto 4 dX7_partSet_64 rfl ?_
          refine ih (i + 1) _ _ _ (by omega) ?_ (by omega) (by omega)
          rw [orL_step (hx (by omega)).2, hs]
          first
          | (rw [if_pos (by unfold psB; rw [decide_eq_true_eq]; omega)]; rfl)
          | (rw [if_neg (by unfold psB; rw [decide_eq_true_eq]; omega)])
          | (exfalso; omega)
      · refine j_iconst dX7_partSet_30 ?_
        refine j_goto 35 dX7_partSet_31 rfl ?_
        refine j_istore dX7_partSet_35 (by decide) (nol rfl) (by show List.set _ 4 _ = _; simp only [List.set_cons_zero, List.set_cons_succ]; rfl) ?_
        refine j_iload_n dX7_partSet_37 rfl ?_
        refine j_iload dX7_partSet_38 rfl ?_
        refine j_if_eq 58 dX7_partSet_40 rfl (by unfold inR; omega) (fun c40 => ?_) (fun c40 => ?_)
        · refine j_iconst dX7_partSet_58 ?_
          first | refine j_ior dX7_partSet_59 (or0_i _) ?_ | refine j_ior dX7_partSet_59 (i3_or _ _) ?_
          refine j_istore_n dX7_partSet_60 (by decide) (nol rfl) (by show List.set _ 2 _ = _; simp only [List.set_cons_zero, List.set_cons_succ]; rfl) ?_
          refine j_iinc dX7_partSet_61 rfl (by decide) (nol rfl) (by simp only [List.set_cons_zero, List.set_cons_succ]; rfl) ?_
          refine j_goto 4 dX7_partSet_64 rfl ?_
          refine ih (i + 1) _ _ _ (by omega) ?_ (by omega) (by omega)
          rw [orL_step (hx (by omega)).2, hs]
          first
          | (rw [if_pos (by unfold psB; rw [decide_eq_true_eq]; omega)]; rfl)
          | (rw [if_neg (by unfold psB; rw [decide_eq_true_eq]; omega)])
          | (exfalso; omega)
        · refine j_iconst dX7_partSet_43 ?_
          refine j_aload_n dX7_partSet_44 rfl ?_
          refine j_aload_n dX7_partSet_45 rfl ?_
          refine j_getR dX7_partSet_46 f_X7_26 rfl rfl ?_
          refine j_iload_n dX7_partSet_49 rfl ?_
          refine j_iald dX7_partSet_50 (by first | rfl | assumption) (by decide) (by omega) (by omega) ?_
          refine j_V1p dX7_partSet_51 ok_X7_partOf v_X7_59 c_X7_partOf rfl (e_X7_partOf hL (vm_300 hL (hx (by omega)).1).1 (by have := vm_300 hL (hx (by omega)).1; omega)) ?_
          refine j_ishl dX7_partSet_54 (shl_i (by have := hpb (by omega); omega)) ?_
          refine j_goto 59 dX7_partSet_55 rfl ?_
          first | refine j_ior dX7_partSet_59 (or0_i _) ?_ | refine j_ior dX7_partSet_59 (i3_or _ _) ?_
          refine j_istore_n dX7_partSet_60 (by decide) (nol rfl) (by show List.set _ 2 _ = _; simp only [List.set_cons_zero, List.set_cons_succ]; rfl) ?_
          refine j_iinc dX7_partSet_61 rfl (by decide) (nol rfl) (by simp only [List.set_cons_zero, List.set_cons_succ]; rfl) ?_
          refine j_goto 4 dX7_partSet_64 rfl ?_
          refine ih (i + 1) _ _ _ (by omega) ?_ (by omega) (by omega)
          rw [orL_step (hx (by omega)).2, hs]
          first
          | (rw [if_pos (by unfold psB; rw [decide_eq_true_eq]; omega)]; rfl)
          | (rw [if_neg (by unfold psB; rw [decide_eq_true_eq]; omega)])
          | (exfalso; omega)
theorem e_X7_partSet {M : Mem} {r : Row} {hs : List Row} (hI : MS M r hs) {re : Int} (hr : re = 0 ∨ re = 1) : J SHM mi_X7_partSet 0 (ent [vR 0, vI re] 5) [] M (fun v M1 => M1 = M ∧ ∃ S : Nat, v = some (vI S) ∧ S < 2 ^ 12 ∧ ∀ p : Nat, p < 12 → bit S p = MR r (if re = 0 then 16 else 17) p) := by
  obtain ⟨hc, ho, hh, hq, hl, hd⟩ := id hI
  have hL := LaM_of hc ho
  have hg := GM_of hc ho
  obtain ⟨hP, es, hB, hnd, hes⟩ := id hd
  obtain ⟨hc1, hc2, hc3, hc4⟩ := id hc
  have ho4 := ho.2.2.2.1
  obtain ⟨hln, hv, hpm, hle⟩ := MS_b hI hB hnd hes
  obtain ⟨hk, hn1, hn5, hnn1, hnn2⟩ := id hL
  have ht := tu_c hk
  obtain ⟨hP1, hP2, hP3⟩ := id hP
  obtain ⟨hB1, hB2, hB3⟩ := id hB
  show J SHM mi_X7_partSet 0 [some (vR 0), some (vI re), none, none, none] [] M _
  refine j_iconst dX7_partSet_0 ?_
  refine j_istore_n dX7_partSet_1 (by decide) (nol rfl) (by show List.set _ 2 _ = _; simp only [List.set_cons_zero, List.set_cons_succ]; rfl) ?_
  refine j_iconst dX7_partSet_2 ?_
  refine j_istore_n dX7_partSet_3 (by decide) (nol rfl) (by show List.set _ 3 _ = _; simp only [List.set_cons_zero, List.set_cons_succ]; rfl) ?_
  have h9 := l_pset hL hP hB hln hv hr (es.length + 1) 0 0 0 none rfl (by simp [orL]) (by omega) (by omega)
  refine j_mono ?_ h9
  rintro v M1 ⟨rfl, rfl⟩
  have hpb : ∀ c ∈ es, 0 ≤ cP (M1 1 1) c ∧ cP (M1 1 1) c < 12 := fun c hc0 => by
    have := (vc_b hk hnn1 hnn2 (hv c hc0)).2.2
    omega
  refine ⟨rfl, _, rfl, orL_lt2 (fun c hc0 => by have := hpb c hc0; unfold psF; omega), fun p hp => ?_⟩
  have hb := @orL_bit (psB (M1 1 0) (M1 1 1) re) (psF (M1 1 1)) p es
  have hgo : (∃ c ∈ es, psB (M1 1 0) (M1 1 1) re c = true ∧ psF (M1 1 1) c = p) ↔ MR r (if re = 0 then 16 else 17) p = 1 := by
    rcases hr with h | h
    · subst h
      rw [if_pos rfl, MR_o, ind_iff]
      constructor
      · rintro ⟨c, a1, -, a2⟩
        refine ⟨c, (hes c).mp a1, ?_⟩
        have := hpb c a1
        unfold psF at a2
        rw [hc2] at a2 this
        omega
      · rintro ⟨c, a1, a2⟩
        refine ⟨c, (hes c).mpr a1, by unfold psB; rw [decide_eq_true_eq]; omega, ?_⟩
        unfold psF
        rw [hc2, a2]
        rfl
    · subst h
      rw [if_neg (by decide), MR_r, ind_iff]
      constructor
      · rintro ⟨c, a1, a3, a2⟩
        have := hpb c a1
        unfold psF at a2
        unfold psB at a3
        rw [decide_eq_true_eq] at a3
        rw [hc2] at a2 this
        rw [hc1, hc2] at a3
        exact ⟨c, (hes c).mp a1, by omega, by omega⟩
      · rintro ⟨c, a1, a2, a3⟩
        refine ⟨c, (hes c).mpr a1, by unfold psB; rw [decide_eq_true_eq, hc1, hc2]; exact Or.inr a3, ?_⟩
        unfold psF
        rw [hc2, a2]
        rfl
  have h01 : MR r (if re = 0 then 16 else 17) p = 1 ∨ MR r (if re = 0 then 16 else 17) p = 0 := by
    rcases hr with h | h
    · subst h
      rw [if_pos rfl, MR_o]
      rcases ind_01 (∃ c ∈ GL r, cP r.2.1 c = (p : Int)) with q | q
      · exact Or.inl q.1
      · exact Or.inr q.1
    · subst h
      rw [if_neg (by decide), MR_r]
      rcases ind_01 (∃ c ∈ GL r, cP r.2.1 c = (p : Int) ∧ kn r.1 r.2.1 c = 2) with q | q
      · exact Or.inl q.1
      · exact Or.inr q.1
  rcases bit_01 (orL (psB (M1 1 0) (M1 1 1) re) (psF (M1 1 1)) es) p with ⟨b1, b2⟩ | ⟨b1, b2⟩
  · rw [b1]; exact (hgo.mp (hb.mp b2)).symm
  · rw [b1]
    rcases h01 with h | h
    · exact absurd (hb.mpr (hgo.mpr h)) b2
    · exact h.symm
theorem l_ones {M : Mem} {S : Nat} (hS : S < 2 ^ 12) {f : Int → Int} (hf : ∀ p : Nat, p < 12 → bit S p = f p) (m : Nat) : ∀ (i : Nat) (j s : Int), j = i → s = cntTo f i → i ≤ 12 → 12 - i < m → J SHM mi_X7_ones 4 [some (vI S), some (vI s), some (vI j)] [] M (pu (vI (cntTo f 12)) M) := by
  induction m with
  | zero => intro i j s hj0 hs h1 h2; omega
  | succ m ih =>
  intro i j s hj0 hs h1 h2
  subst hj0
  refine j_iload_n dX7_ones_4 rfl ?_
  refine j_bipush dX7_ones_5 (by decide +kernel) ?_
  refine j_icmp_ge 24 dX7_ones_7 rfl (by unfold inR; omega) (by unfold inR; omega) (fun c7 => ?_) (fun c7 => ?_)
  · refine j_iload_n dX7_ones_24 rfl ?_
    refine j_iret dX7_ones_25 rfl ?_
    have hi : i = 12 := by omega
    subst hi
    exact pu_i hs
  · refine j_iload_n dX7_ones_10 rfl ?_
    refine j_iload_n dX7_ones_11 rfl ?_
    refine j_iload_n dX7_ones_12 rfl ?_
    refine j_ishr dX7_ones_13 (shr_i (Nat.lt_trans hS (by decide)) (by omega)) ?_
    refine j_iconst dX7_ones_14 ?_
    refine j_iand dX7_ones_15 (i3_and1 _ _) ?_
    refine j_iadd dX7_ones_16 ?_
    refine j_istore_n dX7_ones_17 (by decide) (nol rfl) (by show List.set _ 1 _ = _; simp only [List.set_cons_zero, List.set_cons_succ]; rfl) ?_
    refine j_iinc dX7_ones_18 rfl (by decide) (nol rfl) (by simp only [List.set_cons_zero, List.set_cons_succ]; rfl) ?_
    refine j_goto 4 dX7_ones_21 rfl ?_
    refine ih (i + 1) _ _ (by omega) ?_ (by omega) (by omega)
    have hi := hf i (by omega)
    have hi2 := bit_cnt S i
    simp only [cntTo]
    rw [hs, show ((i : Int).toNat) = i from rfl, ← hi2, hi]
theorem e_X7_ones {M : Mem} {S : Nat} (hS : S < 2 ^ 12) {f : Int → Int} (hf : ∀ p : Nat, p < 12 → bit S p = f p) : J SHM mi_X7_ones 0 (ent [vI S] 3) [] M (pu (vI (cntTo f 12)) M) := by
  show J SHM mi_X7_ones 0 [some (vI S), none, none] [] M _
  refine j_iconst dX7_ones_0 ?_
  refine j_istore_n dX7_ones_1 (by decide) (nol rfl) (by show List.set _ 1 _ = _; simp only [List.set_cons_zero, List.set_cons_succ]; rfl) ?_
  refine j_iconst dX7_ones_2 ?_
  refine j_istore_n dX7_ones_3 (by decide) (nol rfl) (by show List.set _ 2 _ = _; simp only [List.set_cons_zero, List.set_cons_succ]; rfl) ?_
  exact l_ones hS hf 26 0 0 0 rfl rfl (by omega) (by omega)
theorem l_many {M : Mem} {S : Nat} (hS : S < 2 ^ 25) {f : Int → Int} (hf : ∀ p : Nat, p < 25 → bit S p = f p) (m : Nat) : ∀ (i : Nat) (j s : Int), j = i → s = cntTo f i → i ≤ 25 → 25 - i < m → J SHM mi_X7_many 4 [some (vI S), some (vI s), some (vI j)] [] M (pu (vI (cntTo f 25)) M) := by
  induction m with
  | zero => intro i j s hj0 hs h1 h2; omega
  | succ m ih =>
  intro i j s hj0 hs h1 h2
  subst hj0
  refine j_iload_n dX7_many_4 rfl ?_
  refine j_bipush dX7_many_5 (by decide +kernel) ?_
  refine j_icmp_ge 24 dX7_many_7 rfl (by unfold inR; omega) (by unfold inR; omega) (fun c7 => ?_) (fun c7 => ?_)
  · refine j_iload_n dX7_many_24 rfl ?_
    refine j_iret dX7_many_25 rfl ?_
    have hi : i = 25 := by omega
    subst hi
    exact pu_i hs
  · refine j_iload_n dX7_many_10 rfl ?_
    refine j_iload_n dX7_many_11 rfl ?_
    refine j_iload_n dX7_many_12 rfl ?_
    refine j_ishr dX7_many_13 (shr_i (Nat.lt_trans hS (by decide)) (by omega)) ?_
    refine j_iconst dX7_many_14 ?_
    refine j_iand dX7_many_15 (i3_and1 _ _) ?_
    refine j_iadd dX7_many_16 ?_
    refine j_istore_n dX7_many_17 (by decide) (nol rfl) (by show List.set _ 1 _ = _; simp only [List.set_cons_zero, List.set_cons_succ]; rfl) ?_
    refine j_iinc dX7_many_18 rfl (by decide) (nol rfl) (by simp only [List.set_cons_zero, List.set_cons_succ]; rfl) ?_
    refine j_goto 4 dX7_many_21 rfl ?_
    refine ih (i + 1) _ _ (by omega) ?_ (by omega) (by omega)
    have hi := hf i (by omega)
    have hi2 := bit_cnt S i
    simp only [cntTo]
    rw [hs, show ((i : Int).toNat) = i from rfl, ← hi2, hi]
theorem e_X7_many {M : Mem} {S : Nat} (hS : S < 2 ^ 25) {f : Int → Int} (hf : ∀ p : Nat, p < 25 → bit S p = f p) : J SHM mi_X7_many 0 (ent [vI S] 3) [] M (pu (vI (cntTo f 25)) M) := by
  show J SHM mi_X7_many 0 [some (vI S), none, none] [] M _
  refine j_iconst dX7_many_0 ?_
  refine j_istore_n dX7_many_1 (by decide) (nol rfl) (by show List.set _ 1 _ = _; simp only [List.set_cons_zero, List.set_cons_succ]; rfl) ?_
  refine j_iconst dX7_many_2 ?_
  refine j_istore_n dX7_many_3 (by decide) (nol rfl) (by show List.set _ 2 _ = _; simp only [List.set_cons_zero, List.set_cons_succ]; rfl) ?_
  exact l_many hS hf 26 0 0 0 rfl rfl (by omega) (by omega)
theorem e_X7_linearParts {M : Mem} {r : Row} {hs : List Row} (hI : MS M r hs)  : J SHM mi_X7_linearParts 0 (ent [vR 0] 1) [] M (pu (vI (cntTo (MR r 16) 12)) M) := by
  obtain ⟨hc, ho, hh, hq, hl, hd⟩ := id hI
  have hL := LaM_of hc ho
  have hg := GM_of hc ho
  obtain ⟨hP, es, hB, hnd, hes⟩ := id hd
  obtain ⟨hc1, hc2, hc3, hc4⟩ := id hc
  have ho4 := ho.2.2.2.1
  obtain ⟨hln, hv, hpm, hle⟩ := MS_b hI hB hnd hes
  obtain ⟨hk, hn1, hn5, hnn1, hnn2⟩ := id hL
  have ht := tu_c hk
  obtain ⟨hP1, hP2, hP3⟩ := id hP
  obtain ⟨hB1, hB2, hB3⟩ := id hB
  show J SHM mi_X7_linearParts 0 [some (vR 0)] [] M _
  refine j_aload_n dX7_linearParts_0 rfl ?_
  refine j_iconst dX7_linearParts_1 ?_
  refine j_V1g dX7_linearParts_2 ok_X7_partSet v_X7_126 c_X7_partSet rfl (e_X7_partSet (re := 0) hI (by decide)) (fun v M9 q9 => ?_)
  obtain ⟨hM9, S, rfl, hS, hb⟩ := q9
  subst hM9
  have hb : ∀ p : Nat, p < 12 → bit S p = MR r 16 p := hb
  refine j_S1p dX7_linearParts_5 ok_X7_ones s_X7_130 (e_X7_ones hS hb) ?_
  refine j_iret dX7_linearParts_8 rfl ?_
  exact pu_i (by first | rfl | omega | (simp; done))
theorem e_X7_directions {M : Mem} {r : Row} {hs : List Row} (hI : MS M r hs)  : J SHM mi_X7_directions 0 (ent [vR 0] 1) [] M (pu (vI (cntTo (MR r 17) 12)) M) := by
  obtain ⟨hc, ho, hh, hq, hl, hd⟩ := id hI
  have hL := LaM_of hc ho
  have hg := GM_of hc ho
  obtain ⟨hP, es, hB, hnd, hes⟩ := id hd
  obtain ⟨hc1, hc2, hc3, hc4⟩ := id hc
  have ho4 := ho.2.2.2.1
  obtain ⟨hln, hv, hpm, hle⟩ := MS_b hI hB hnd hes
  obtain ⟨hk, hn1, hn5, hnn1, hnn2⟩ := id hL
  have ht := tu_c hk
  obtain ⟨hP1, hP2, hP3⟩ := id hP
  obtain ⟨hB1, hB2, hB3⟩ := id hB
  show J SHM mi_X7_directions 0 [some (vR 0)] [] M _
  refine j_aload_n dX7_directions_0 rfl ?_
  refine j_iconst dX7_directions_1 ?_
  refine j_V1g dX7_directions_2 ok_X7_partSet v_X7_126 c_X7_partSet rfl (e_X7_partSet (re := 1) hI (by decide)) (fun v M9 q9 => ?_)
  obtain ⟨hM9, S, rfl, hS, hb⟩ := q9
  subst hM9
  have hb : ∀ p : Nat, p < 12 → bit S p = MR r 17 p := hb
  refine j_S1p dX7_directions_5 ok_X7_ones s_X7_130 (e_X7_ones hS hb) ?_
  refine j_iret dX7_directions_8 rfl ?_
  exact pu_i (by first | rfl | omega | (simp; done))
theorem e_X7_mirrorDirections {M : Mem} {r : Row} {hs : List Row} (hI : MS M r hs)  : J SHM mi_X7_mirrorDirections 0 (ent [vR 0] 1) [] M (pu (vI (cntTo (MR r 17) 12)) M) := by
  obtain ⟨hc, ho, hh, hq, hl, hd⟩ := id hI
  have hL := LaM_of hc ho
  have hg := GM_of hc ho
  obtain ⟨hP, es, hB, hnd, hes⟩ := id hd
  obtain ⟨hc1, hc2, hc3, hc4⟩ := id hc
  have ho4 := ho.2.2.2.1
  obtain ⟨hln, hv, hpm, hle⟩ := MS_b hI hB hnd hes
  obtain ⟨hk, hn1, hn5, hnn1, hnn2⟩ := id hL
  have ht := tu_c hk
  obtain ⟨hP1, hP2, hP3⟩ := id hP
  obtain ⟨hB1, hB2, hB3⟩ := id hB
  show J SHM mi_X7_mirrorDirections 0 [some (vR 0)] [] M _
  refine j_aload_n dX7_mirrorDirections_0 rfl ?_
  refine j_V0p dX7_mirrorDirections_1 ok_X7_directions v_X7_139 c_X7_directions rfl (e_X7_directions hI) ?_
  refine j_iret dX7_mirrorDirections_4 rfl ?_
  exact pu_i (by first | rfl | omega | (simp; done))
def ppw (k p : Int) : Nat → Int
  | 0 => p
  | t + 1 => tp k (ppw k p t) p
theorem tp_t {k p q : Int} (hk : k = 0 ∨ k = 1) (hp : 0 ≤ p ∧ p < tu k) (hq : 0 ≤ q ∧ q < tu k) : 0 ≤ tp k p q ∧ tp k p q < tu k := by
  unfold tp
  have ht := tu_c hk
  rw [if_pos (by rw [eq_iff_iff]; omega), if_neg (by omega)]
  exact ⟨Int.emod_nonneg _ (by omega), Int.emod_lt_of_pos _ (by omega)⟩
theorem ppw_b {k p : Int} (hk : k = 0 ∨ k = 1) (hp : 0 ≤ p ∧ p < tu k) : ∀ t, 0 ≤ ppw k p t ∧ ppw k p t < tu k
  | 0 => hp
  | t + 1 => tp_t hk (ppw_b hk hp t) hp
theorem ppw_fin {k p : Int} (hk : k = 0 ∨ k = 1) (hp : 0 ≤ p ∧ p < tu k) : ∃ t0 : Nat, (t0 : Int) + 1 = tordF k p ∧ t0 < 6 ∧ ppw k p t0 = 0 ∧ ∀ i < t0, ppw k p i ≠ 0 := by
  rcases hk with rfl | rfl
  · have ht : tu 0 = 4 := rfl
    rw [ht] at hp
    rcases (show p = 0 ∨ p = 1 ∨ p = 2 ∨ p = 3 by omega) with rfl | rfl | rfl | rfl
    · exact ⟨0, by decide⟩
    · exact ⟨3, by decide⟩
    · exact ⟨1, by decide⟩
    · exact ⟨3, by decide⟩
  · have ht : tu 1 = 6 := rfl
    rw [ht] at hp
    rcases (show p = 0 ∨ p = 1 ∨ p = 2 ∨ p = 3 ∨ p = 4 ∨ p = 5 by omega) with rfl | rfl | rfl | rfl | rfl | rfl
    · exact ⟨0, by decide⟩
    · exact ⟨5, by decide⟩
    · exact ⟨2, by decide⟩
    · exact ⟨1, by decide⟩
    · exact ⟨2, by decide⟩
    · exact ⟨5, by decide⟩
theorem l_oop {M : Mem} (hL : LaM M) (hP : MPt M) {p : Int} {t0 : Nat} (hp : 0 ≤ p ∧ p < tu (M 1 0)) (ht1 : (t0 : Int) + 1 = tordF (M 1 0) p) (ht6 : t0 < 6) (ht0 : ppw (M 1 0) p t0 = 0) (hti : ∀ i < t0, ppw (M 1 0) p i ≠ 0) (m : Nat) : ∀ (t : Nat) (s a : Int), s = t + 1 → a = ppw (M 1 0) p t → t ≤ t0 → t0 - t < m → J SHM mi_X7_orderOfPart 4 [some (vR 0), some (vI p), some (vI s), some (vI a)] [] M (pu (vI (tordF (M 1 0) p)) M) := by
  induction m with
  | zero => intro t s a hs ha h1 h2; omega
  | succ m ih =>
  intro t s a hs ha h1 h2
  obtain ⟨hk, hn1, hn5, hc1, hc2⟩ := id hL
  have ht := tu_c hk
  obtain ⟨hP1, hP2, hP3⟩ := id hP
  have hpb := ppw_b hk hp t
  have he := hP3 (ppw (M 1 0) p t) p hpb.1 (by omega) hp.1 (by omega)
  refine j_iload_n dX7_orderOfPart_4 rfl ?_
  refine j_if_eq 26 dX7_orderOfPart_5 rfl (by unfold inR; omega) (fun c5 => ?_) (fun c5 => ?_)
  · refine j_iload_n dX7_orderOfPart_26 rfl ?_
    refine j_iret dX7_orderOfPart_27 rfl ?_
    have hte : t = t0 := by
      by_cases e : t = t0
      · exact e
      · exact absurd (ha.symm.trans c5) (hti t (by omega))
    exact pu_i (by omega)
  · refine j_aload_n dX7_orderOfPart_8 rfl ?_
    refine j_getR dX7_orderOfPart_9 f_X7_19 rfl rfl ?_
    refine j_bipush dX7_orderOfPart_12 (by decide +kernel) ?_
    refine j_iload_n dX7_orderOfPart_14 rfl ?_
    refine j_imul dX7_orderOfPart_15 ?_
    refine j_iload_n dX7_orderOfPart_16 rfl ?_
    refine j_iadd dX7_orderOfPart_17 ?_
    refine j_iald dX7_orderOfPart_18 (by first | rfl | assumption) (by decide) (by omega) (by omega) ?_
    refine j_istore_n dX7_orderOfPart_19 (by decide) (nol rfl) (by show List.set _ 3 _ = _; simp only [List.set_cons_zero, List.set_cons_succ]; rfl) ?_
    refine j_iinc dX7_orderOfPart_20 rfl (by decide) (nol rfl) (by simp only [List.set_cons_zero, List.set_cons_succ]; rfl) ?_
    refine j_goto 4 dX7_orderOfPart_23 rfl ?_
    have hne : t ≠ t0 := fun e => c5 (by rw [ha, e]; exact ht0)
    exact ih (t + 1) _ _ (by omega) (by rw [ha]; exact he) (by omega) (by omega)
theorem e_X7_orderOfPart {M : Mem} (hL : LaM M) (hP : MPt M) {p : Int} (hp : 0 ≤ p ∧ p < tu (M 1 0)) : J SHM mi_X7_orderOfPart 0 (ent [vR 0, vI p] 4) [] M (pu (vI (tordF (M 1 0) p)) M) := by
  obtain ⟨hk, hn1, hn5, hc1, hc2⟩ := id hL
  have ht := tu_c hk
  obtain ⟨hP1, hP2, hP3⟩ := id hP
  show J SHM mi_X7_orderOfPart 0 [some (vR 0), some (vI p), none, none] [] M _
  refine j_iconst dX7_orderOfPart_0 ?_
  refine j_istore_n dX7_orderOfPart_1 (by decide) (nol rfl) (by show List.set _ 2 _ = _; simp only [List.set_cons_zero, List.set_cons_succ]; rfl) ?_
  refine j_iload_n dX7_orderOfPart_2 rfl ?_
  refine j_istore_n dX7_orderOfPart_3 (by decide) (nol rfl) (by show List.set _ 3 _ = _; simp only [List.set_cons_zero, List.set_cons_succ]; rfl) ?_
  obtain ⟨t0, a1, a2, a3, a4⟩ := ppw_fin hk hp
  exact l_oop hL hP hp a1 a2 a3 a4 (t0 + 1) 0 1 p rfl rfl (by omega) (by omega)
theorem l_gt {M : Mem} {r : Row} (hL : LaM M) (hP : MPt M) {S : Nat} (hS : S < 2 ^ 12) (hb : ∀ p : Nat, p < 12 → bit S p = MR r 16 p) (m : Nat) : ∀ (i : Nat) (j s : Int) (w : Option PV), j = i → s = gtf (MR r 16) (M 1 0) i → i ≤ tu (M 1 0) → (tu (M 1 0)).toNat - i < m → J SHM mi_X7_greatestTurn 10 [some (vR 0), some (vI S), some (vI s), some (vI j), w] [] M (pu (vI (gtf (MR r 16) (M 1 0) (tu (M 1 0)).toNat)) M) := by
  induction m with
  | zero => intro i j s w hj0 hs h1 h2; omega
  | succ m ih =>
  intro i j s w hj0 hs h1 h2
  subst hj0
  obtain ⟨hk, hn1, hn5, hc1, hc2⟩ := id hL
  have ht := tu_c hk
  obtain ⟨hP1, hP2, hP3⟩ := id hP
  have e2 : (M 0 3).tdiv 2 = tu (M 1 0) := by rw [hP1, Int.tdiv_eq_ediv_of_nonneg (by omega)]; omega
  have hb0 := bit_01 S (i : Int).toNat
  have hb1 := fun h => hb i h
  have hgb := gtf_b (f := MR r 16) hk i h1
  have htb := fun h => tord_b hk (p := i) ⟨by omega, h⟩
  refine j_iload_n dX7_greatestTurn_10 rfl ?_
  refine j_aload_n dX7_greatestTurn_11 rfl ?_
  refine j_getI (kz := 3) rfl dX7_greatestTurn_12 f_X7_36 rfl rfl ?_
  refine j_iconst dX7_greatestTurn_15 ?_
  refine j_idiv dX7_greatestTurn_16 (by first | (unfold inR; omega) | (rw [hP1]; unfold inR; omega) | (have htb1 := htb (by omega); unfold inR; omega)) (by first | (unfold inR; omega) | (rw [hP1]; unfold inR; omega) | (have htb1 := htb (by omega); unfold inR; omega)) (by omega) ?_
  refine j_icmp_ge 59 dX7_greatestTurn_17 rfl (by first | (unfold inR; omega) | (rw [hP1]; unfold inR; omega) | (have htb1 := htb (by omega); unfold inR; omega)) (by first | (unfold inR; omega) | (rw [hP1]; unfold inR; omega) | (have htb1 := htb (by omega); unfold inR; omega)) (fun c17 => ?_) (fun c17 => ?_)
  · refine j_iload_n dX7_greatestTurn_59 rfl ?_
    refine j_iret dX7_greatestTurn_60 rfl ?_
    have hi : i = (tu (M 1 0)).toNat := by omega
    subst hi
    exact pu_i hs
  · refine j_iload_n dX7_greatestTurn_20 rfl ?_
    refine j_iload_n dX7_greatestTurn_21 rfl ?_
    refine j_ishr dX7_greatestTurn_22 (shr_i (Nat.lt_trans hS (by decide)) (by omega)) ?_
    refine j_iconst dX7_greatestTurn_23 ?_
    refine j_iand dX7_greatestTurn_24 (i3_and1 _ _) ?_
    refine j_iconst dX7_greatestTurn_25 ?_
    refine j_icmp_ne 37 dX7_greatestTurn_26 rfl (by first | (unfold inR; omega) | (rw [hP1]; unfold inR; omega) | (have htb1 := htb (by omega); unfold inR; omega)) (by first | (unfold inR; omega) | (rw [hP1]; unfold inR; omega) | (have htb1 := htb (by omega); unfold inR; omega)) (fun c26 => ?_) (fun c26 => ?_)
    · refine j_iconst dX7_greatestTurn_37 ?_
      refine j_istore dX7_greatestTurn_38 (by decide) (nol rfl) (by show List.set _ 4 _ = _; simp only [List.set_cons_zero, List.set_cons_succ]; rfl) ?_
      refine j_iload dX7_greatestTurn_40 rfl ?_
      refine j_iload_n dX7_greatestTurn_42 rfl ?_
      refine j_icmp_le 51 dX7_greatestTurn_43 rfl (by first | (unfold inR; omega) | (rw [hP1]; unfold inR; omega) | (have htb1 := htb (by omega); unfold inR; omega)) (by first | (unfold inR; omega) | (rw [hP1]; unfold inR; omega) | (have htb1 := htb (by omega); unfold inR; omega)) (fun c43 => ?_) (fun c43 => ?_)
      · refine j_iload_n dX7_greatestTurn_51 rfl ?_
        refine j_istore_n dX7_greatestTurn_52 (by decide) (nol rfl) (by show List.set _ 2 _ = _; simp only [List.set_cons_zero, List.set_cons_succ]; rfl) ?_
        refine j_iinc dX7_greatestTurn_53 rfl (by decide) (nol rfl) (by simp only [List.set_cons_zero, List.set_cons_succ]; rfl) ?_
        refine j_goto 10 dX7_greatestTurn_56 rfl ?_
        refine ih (i + 1) _ _ _ (by omega) ?_ (by omega) (by omega)
        have hb2 := hb1 (by omega)
        rw [show ((i : Int).toNat) = i from rfl] at *
        simp only [gtf]
        first
        | (rw [if_pos (by omega)]; omega)
        | (rw [if_neg (by omega)]; omega)
      · refine j_iload dX7_greatestTurn_46 rfl ?_
        refine j_goto 52 dX7_greatestTurn_48 rfl ?_
        refine j_istore_n dX7_greatestTurn_52 (by decide) (nol rfl) (by show List.set _ 2 _ = _; simp only [List.set_cons_zero, List.set_cons_succ]; rfl) ?_
        refine j_iinc dX7_greatestTurn_53 rfl (by decide) (nol rfl) (by simp only [List.set_cons_zero, List.set_cons_succ]; rfl) ?_
        refine j_goto 10 dX7_greatestTurn_56 rfl ?_
        refine ih (i + 1) _ _ _ (by omega) ?_ (by omega) (by omega)
        have hb2 := hb1 (by omega)
        rw [show ((i : Int).toNat) = i from rfl] at *
        simp only [gtf]
        first
        | (rw [if_pos (by omega)]; omega)
        | (rw [if_neg (by omega)]; omega)
    · refine j_aload_n dX7_greatestTurn_29 rfl ?_
      refine j_iload_n dX7_greatestTurn_30 rfl ?_
      refine j_V1p dX7_greatestTurn_31 ok_X7_orderOfPart v_X7_133 c_X7_orderOfPart rfl (e_X7_orderOfPart hL hP (by omega)) ?_
      refine j_goto 38 dX7_greatestTurn_34 rfl ?_
      refine j_istore dX7_greatestTurn_38 (by decide) (nol rfl) (by show List.set _ 4 _ = _; simp only [List.set_cons_zero, List.set_cons_succ]; rfl) ?_
      refine j_iload dX7_greatestTurn_40 rfl ?_
      refine j_iload_n dX7_greatestTurn_42 rfl ?_
      refine j_icmp_le 51 dX7_greatestTurn_43 rfl (by first | (unfold inR; omega) | (rw [hP1]; unfold inR; omega) | (have htb1 := htb (by omega); unfold inR; omega)) (by first | (unfold inR; omega) | (rw [hP1]; unfold inR; omega) | (have htb1 := htb (by omega); unfold inR; omega)) (fun c43 => ?_) (fun c43 => ?_)
      · refine j_iload_n dX7_greatestTurn_51 rfl ?_
        refine j_istore_n dX7_greatestTurn_52 (by decide) (nol rfl) (by show List.set _ 2 _ = _; simp only [List.set_cons_zero, List.set_cons_succ]; rfl) ?_
        refine j_iinc dX7_greatestTurn_53 rfl (by decide) (nol rfl) (by simp only [List.set_cons_zero, List.set_cons_succ]; rfl) ?_
        refine j_goto 10 dX7_greatestTurn_56 rfl ?_
        refine ih (i + 1) _ _ _ (by omega) ?_ (by omega) (by omega)
        have hb2 := hb1 (by omega)
        rw [show ((i : Int).toNat) = i from rfl] at *
        simp only [gtf]
        first
        | (rw [if_pos (by omega)]; omega)
        | (rw [if_neg (by omega)]; omega)
      · refine j_iload dX7_greatestTurn_46 rfl ?_
        refine j_goto 52 dX7_greatestTurn_48 rfl ?_
        refine j_istore_n dX7_greatestTurn_52 (by decide) (nol rfl) (by show List.set _ 2 _ = _; simp only [List.set_cons_zero, List.set_cons_succ]; rfl) ?_
        refine j_iinc dX7_greatestTurn_53 rfl (by decide) (nol rfl) (by simp only [List.set_cons_zero, List.set_cons_succ]; rfl) ?_
        refine j_goto 10 dX7_greatestTurn_56 rfl ?_
        refine ih (i + 1) _ _ _ (by omega) ?_ (by omega) (by omega)
        have hb2 := hb1 (by omega)
        rw [show ((i : Int).toNat) = i from rfl] at *
        simp only [gtf]
        first
        | (rw [if_pos (by omega)]; omega)
        | (rw [if_neg (by omega)]; omega)
theorem e_X7_greatestTurn {M : Mem} {r : Row} {hs : List Row} (hI : MS M r hs)  : J SHM mi_X7_greatestTurn 0 (ent [vR 0] 5) [] M (pu (vI (gtf (MR r 16) r.1 (tu r.1).toNat)) M) := by
  obtain ⟨hc, ho, hh, hq, hl, hd⟩ := id hI
  have hL := LaM_of hc ho
  have hg := GM_of hc ho
  obtain ⟨hP, es, hB, hnd, hes⟩ := id hd
  obtain ⟨hc1, hc2, hc3, hc4⟩ := id hc
  have ho4 := ho.2.2.2.1
  obtain ⟨hln, hv, hpm, hle⟩ := MS_b hI hB hnd hes
  obtain ⟨hk, hn1, hn5, hnn1, hnn2⟩ := id hL
  have ht := tu_c hk
  obtain ⟨hP1, hP2, hP3⟩ := id hP
  obtain ⟨hB1, hB2, hB3⟩ := id hB
  show J SHM mi_X7_greatestTurn 0 [some (vR 0), none, none, none, none] [] M _
  refine j_aload_n dX7_greatestTurn_0 rfl ?_
  refine j_iconst dX7_greatestTurn_1 ?_
  refine j_V1g dX7_greatestTurn_2 ok_X7_partSet v_X7_126 c_X7_partSet rfl (e_X7_partSet (re := 0) hI (by decide)) (fun v M9 q9 => ?_)
  obtain ⟨hM9, S, rfl, hS, hb⟩ := q9
  subst hM9
  have hb : ∀ p : Nat, p < 12 → bit S p = MR r 16 p := hb
  refine j_istore_n dX7_greatestTurn_5 (by decide) (nol rfl) (by show List.set _ 1 _ = _; simp only [List.set_cons_zero, List.set_cons_succ]; rfl) ?_
  refine j_iconst dX7_greatestTurn_6 ?_
  refine j_istore_n dX7_greatestTurn_7 (by decide) (nol rfl) (by show List.set _ 2 _ = _; simp only [List.set_cons_zero, List.set_cons_succ]; rfl) ?_
  refine j_iconst dX7_greatestTurn_8 ?_
  refine j_istore_n dX7_greatestTurn_9 (by decide) (nol rfl) (by show List.set _ 3 _ = _; simp only [List.set_cons_zero, List.set_cons_succ]; rfl) ?_
  have h9 := l_gt (r := r) hL hP hS hb 7 0 0 1 none rfl rfl (by omega) (by omega)
  rw [hc1] at h9
  exact h9
theorem e_X7_rotationOrder {M : Mem} {r : Row} {hs : List Row} (hI : MS M r hs)  : J SHM mi_X7_rotationOrder 0 (ent [vR 0] 1) [] M (pu (vI (gtf (MR r 16) r.1 (tu r.1).toNat)) M) := by
  obtain ⟨hc, ho, hh, hq, hl, hd⟩ := id hI
  have hL := LaM_of hc ho
  have hg := GM_of hc ho
  obtain ⟨hP, es, hB, hnd, hes⟩ := id hd
  obtain ⟨hc1, hc2, hc3, hc4⟩ := id hc
  have ho4 := ho.2.2.2.1
  obtain ⟨hln, hv, hpm, hle⟩ := MS_b hI hB hnd hes
  obtain ⟨hk, hn1, hn5, hnn1, hnn2⟩ := id hL
  have ht := tu_c hk
  obtain ⟨hP1, hP2, hP3⟩ := id hP
  obtain ⟨hB1, hB2, hB3⟩ := id hB
  show J SHM mi_X7_rotationOrder 0 [some (vR 0)] [] M _
  refine j_aload_n dX7_rotationOrder_0 rfl ?_
  refine j_V0p dX7_rotationOrder_1 ok_X7_greatestTurn v_X7_136 c_X7_greatestTurn rfl (e_X7_greatestTurn hI) ?_
  refine j_iret dX7_rotationOrder_4 rfl ?_
  exact pu_i (by first | rfl | omega | (simp; done))
theorem m5 {M : Mem} {r : Row} {hs : List Row} (hI : MS M r hs) : ∀ c : Int, 0 ≤ c → c < 300 → (M 5 c = 1 ∧ MR r 11 c = 1) ∨ (M 5 c = 0 ∧ ¬ MR r 11 c = 1) := by
  obtain ⟨-, -, -, -, -, -, es, hB, -, hes⟩ := hI
  intro c a b
  rw [MR_m, ind_iff, ← hes]
  exact hB.2.2 c a b
theorem mkc_P {n x y : Int} (p : Int) (hn1 : 1 ≤ n) : cP n (mkc n p x y) = p ∧ cX n (mkc n p x y) = x % n ∧ cY n (mkc n p x y) = y % n := by
  have h1 := Int.emod_nonneg x (show n ≠ 0 by omega)
  have h2 := Int.emod_lt_of_pos x (show 0 < n by omega)
  have h3 := Int.emod_nonneg y (show n ≠ 0 by omega)
  have h4 := Int.emod_lt_of_pos y (show 0 < n by omega)
  have hb := cell_b (n := n) (x := x % n) (y := y % n) ⟨h1, h2, h3, h4⟩
  have hnn : 0 < n * n := Int.mul_pos (by omega) (by omega)
  unfold cP cX cY mkc
  refine ⟨?_, ?_, ?_⟩
  · rw [Int.add_comm, Int.add_mul_ediv_right _ _ (by omega), Int.ediv_eq_zero_of_lt hb.1 hb.2, Int.zero_add]
  · rw [Int.add_comm, Int.add_mul_emod_self_right, Int.emod_eq_of_lt hb.1 hb.2, Int.add_comm, Int.add_mul_ediv_left _ _ (by omega), Int.ediv_eq_zero_of_lt h3 h4, Int.zero_add]
  · rw [show p * (n * n) + (n * (x % n) + y % n) = y % n + n * (p * n + x % n) by rw [Int.mul_add, Int.mul_left_comm n p n]; omega, Int.add_mul_emod_self_left, Int.emod_emod_of_dvd _ (Int.dvd_refl n)]
theorem mkc_self {n : Int} (c : Int) (hn1 : 1 ≤ n) : mkc n (cP n c) (cX n c) (cY n c) = c := by
  have hxy := cXY_b hn1 c
  unfold mkc
  rw [Int.emod_eq_of_lt hxy.1 hxy.2.1, Int.emod_eq_of_lt hxy.2.2.1 hxy.2.2.2]
  unfold cP cX cY
  have h1 := Int.mul_ediv_add_emod c (n * n)
  have h2 := Int.mul_ediv_add_emod (c % (n * n)) n
  rw [Int.emod_emod_of_dvd c (Int.dvd_mul_right n n)] at h2
  rw [Int.mul_comm (c / (n * n))]
  omega
theorem mkc_c {n c : Int} (hn1 : 1 ≤ n) (h0 : 0 ≤ c) (h1 : c < n * n) : mkc n 0 (cX n c) (cY n c) = c := by
  have h := mkc_self c hn1
  have e : cP n c = 0 := Int.ediv_eq_zero_of_lt h0 h1
  rw [e] at h
  exact h
theorem mkc_x {n u v : Int} (hn1 : 1 ≤ n) (hu : 0 ≤ u ∧ u < n) (hv : 0 ≤ v ∧ v < n) : cX n (mkc n 0 u v) = u ∧ cY n (mkc n 0 u v) = v := by
  have h := (mkc_P (x := u) (y := v) 0 hn1).2
  rw [Int.emod_eq_of_lt hu.1 hu.2, Int.emod_eq_of_lt hv.1 hv.2] at h
  exact h
theorem mkc_b {n x y : Int} (hn1 : 1 ≤ n) : 0 ≤ mkc n 0 x y ∧ mkc n 0 x y < n * n := by
  unfold mkc
  have h1 := Int.emod_nonneg x (show n ≠ 0 by omega)
  have h2 := Int.emod_lt_of_pos x (show 0 < n by omega)
  have h3 := Int.emod_nonneg y (show n ≠ 0 by omega)
  have h4 := Int.emod_lt_of_pos y (show 0 < n by omega)
  have := cell_b (n := n) (x := x % n) (y := y % n) ⟨h1, h2, h3, h4⟩
  omega

theorem e_X7_isLatticeVector {M : Mem} {r : Row} {hs : List Row} (hI : MS M r hs) {x y : Int} (hx : inR x) (hy : inR y) : J SHM mi_X7_isLatticeVector 0 (ent [vR 0, vI x, vI y] 3) [] M (bz (hT (MR r) x y) M) := by
  obtain ⟨hc, ho, hh, hq, hl, hd⟩ := id hI
  have hL := LaM_of hc ho
  have hg := GM_of hc ho
  obtain ⟨hP, es, hB, hnd, hes⟩ := id hd
  obtain ⟨hc1, hc2, hc3, hc4⟩ := id hc
  have ho4 := ho.2.2.2.1
  obtain ⟨hln, hv, hpm, hle⟩ := MS_b hI hB hnd hes
  obtain ⟨hk, hn1, hn5, hnn1, hnn2⟩ := id hL
  have ht := tu_c hk
  obtain ⟨hP1, hP2, hP3⟩ := id hP
  obtain ⟨hB1, hB2, hB3⟩ := id hB
  have hmb := mkc_b (n := M 1 1) (x := x) (y := y) hn1
  have hm5 := m5 hI (mkc (M 1 1) 0 x y) (by omega) (by omega)
  show J SHM mi_X7_isLatticeVector 0 [some (vR 0), some (vI x), some (vI y)] [] M _
  refine j_aload_n dX7_isLatticeVector_0 rfl ?_
  refine j_getR dX7_isLatticeVector_1 f_X7_22 rfl rfl ?_
  refine j_aload_n dX7_isLatticeVector_4 rfl ?_
  refine j_iconst dX7_isLatticeVector_5 ?_
  refine j_iload_n dX7_isLatticeVector_6 rfl ?_
  refine j_iload_n dX7_isLatticeVector_7 rfl ?_
  refine j_V3p dX7_isLatticeVector_8 ok_X7_codeOf v_X7_75 c_X7_codeOf rfl (e_X7_codeOf hL hx hy) ?_
  refine j_bald dX7_isLatticeVector_11 (by first | rfl | assumption) (by decide) (by omega) (by omega) ?_
  refine j_zret dX7_isLatticeVector_12 rfl (by first | exact Or.inl rfl | exact Or.inr rfl | omega) ?_
  refine bz_i ?_
  unfold hT
  rw [MR_11, ← hc2]
  exact hm5
theorem e_X7_isHalved {M : Mem} {r : Row} {hs : List Row} (hI : MS M r hs) {p x y : Int} (hp : 0 ≤ p ∧ p < 2 * tu (M 1 0)) (hx : -5 ≤ x ∧ x ≤ 5) (hy : -5 ≤ y ∧ y ≤ 5) : J SHM mi_X7_isHalved 0 (ent [vR 0, vI p, vI x, vI y] 6) [] M (bz (¬ kh (MR r) p x y) M) := by
  obtain ⟨hc, ho, hh, hq, hl, hd⟩ := id hI
  have hL := LaM_of hc ho
  have hg := GM_of hc ho
  obtain ⟨hP, es, hB, hnd, hes⟩ := id hd
  obtain ⟨hc1, hc2, hc3, hc4⟩ := id hc
  have ho4 := ho.2.2.2.1
  obtain ⟨hln, hv, hpm, hle⟩ := MS_b hI hB hnd hes
  obtain ⟨hk, hn1, hn5, hnn1, hnn2⟩ := id hL
  have ht := tu_c hk
  obtain ⟨hP1, hP2, hP3⟩ := id hP
  obtain ⟨hB1, hB2, hB3⟩ := id hB
  have hib := im_b5 (M 1 0) p hx hy
  have t1 := td2 (z := x + imx (M 1 0) p x y) (by omega)
  have t2 := td2 (z := y + imy (M 1 0) p x y) (by omega)
  have ek : kh (MR r) p x y ↔ (x + imx (M 1 0) p x y).tmod 2 = 0 ∧ (y + imy (M 1 0) p x y).tmod 2 = 0 ∧ hT (MR r) ((x + imx (M 1 0) p x y).tdiv 2) ((y + imy (M 1 0) p x y).tdiv 2) := by unfold kh; rw [MR_10, hc1]
  show J SHM mi_X7_isHalved 0 [some (vR 0), some (vI p), some (vI x), some (vI y), none, none] [] M _
  refine j_iload_n dX7_isHalved_0 rfl ?_
  refine j_aload_n dX7_isHalved_1 rfl ?_
  refine j_iload_n dX7_isHalved_2 rfl ?_
  refine j_iload_n dX7_isHalved_3 rfl ?_
  refine j_iload_n dX7_isHalved_4 rfl ?_
  refine j_V3p dX7_isHalved_5 ok_X7_imageX v_X7_68 c_X7_imageX rfl (e_X7_imageX hL hP (by first | assumption | (exact ⟨by omega, by omega⟩))) ?_
  refine j_iadd dX7_isHalved_8 ?_
  refine j_istore dX7_isHalved_9 (by decide) (nol rfl) (by show List.set _ 4 _ = _; simp only [List.set_cons_zero, List.set_cons_succ]; rfl) ?_
  refine j_iload_n dX7_isHalved_11 rfl ?_
  refine j_aload_n dX7_isHalved_12 rfl ?_
  refine j_iload_n dX7_isHalved_13 rfl ?_
  refine j_iload_n dX7_isHalved_14 rfl ?_
  refine j_iload_n dX7_isHalved_15 rfl ?_
  refine j_V3p dX7_isHalved_16 ok_X7_imageY v_X7_72 c_X7_imageY rfl (e_X7_imageY hL hP (by first | assumption | (exact ⟨by omega, by omega⟩))) ?_
  refine j_iadd dX7_isHalved_19 ?_
  refine j_istore dX7_isHalved_20 (by decide) (nol rfl) (by show List.set _ 5 _ = _; simp only [List.set_cons_zero, List.set_cons_succ]; rfl) ?_
  refine j_iload dX7_isHalved_22 rfl ?_
  refine j_iconst dX7_isHalved_24 ?_
  refine j_irem dX7_isHalved_25 (by unfold inR; omega) (by unfold inR; omega) (by omega) ?_
  refine j_if_ne 51 dX7_isHalved_26 rfl (by unfold inR; omega) (fun c26 => ?_) (fun c26 => ?_)
  · refine j_iconst dX7_isHalved_51 ?_
    refine j_goto 56 dX7_isHalved_52 rfl ?_
    refine j_zret dX7_isHalved_56 rfl (by first | exact Or.inl rfl | exact Or.inr rfl | omega) ?_
    refine bz_i ?_
    rw [ek]
    first
    | (exact Or.inl ⟨rfl, fun h => by first | exact c26 h.1 | exact c33 h.2.1 | (rcases q45 with q | q; omega; exact q.2 h.2.2)⟩)
    | (exact Or.inr ⟨rfl, fun h => h ⟨by omega, by omega, by rcases q45 with q | q; exact q.2; omega⟩⟩)
  · refine j_iload dX7_isHalved_29 rfl ?_
    refine j_iconst dX7_isHalved_31 ?_
    refine j_irem dX7_isHalved_32 (by unfold inR; omega) (by unfold inR; omega) (by omega) ?_
    refine j_if_ne 51 dX7_isHalved_33 rfl (by unfold inR; omega) (fun c33 => ?_) (fun c33 => ?_)
    · refine j_iconst dX7_isHalved_51 ?_
      refine j_goto 56 dX7_isHalved_52 rfl ?_
      refine j_zret dX7_isHalved_56 rfl (by first | exact Or.inl rfl | exact Or.inr rfl | omega) ?_
      refine bz_i ?_
      rw [ek]
      first
      | (exact Or.inl ⟨rfl, fun h => by first | exact c26 h.1 | exact c33 h.2.1 | (rcases q45 with q | q; omega; exact q.2 h.2.2)⟩)
      | (exact Or.inr ⟨rfl, fun h => h ⟨by omega, by omega, by rcases q45 with q | q; exact q.2; omega⟩⟩)
    · refine j_aload_n dX7_isHalved_36 rfl ?_
      refine j_iload dX7_isHalved_37 rfl ?_
      refine j_iconst dX7_isHalved_39 ?_
      refine j_idiv dX7_isHalved_40 (by unfold inR; omega) (by unfold inR; omega) (by omega) ?_
      refine j_iload dX7_isHalved_41 rfl ?_
      refine j_iconst dX7_isHalved_43 ?_
      refine j_idiv dX7_isHalved_44 (by unfold inR; omega) (by unfold inR; omega) (by omega) ?_
      refine j_V2z dX7_isHalved_45 ok_X7_isLatticeVector v_X7_142 c_X7_isLatticeVector rfl (e_X7_isLatticeVector hI (by unfold inR; omega) (by unfold inR; omega)) (fun z45 M45 q45 => ?_)
      obtain ⟨rfl, q45⟩ := q45
      refine j_if_ne 55 dX7_isHalved_48 rfl (by unfold inR; omega) (fun c48 => ?_) (fun c48 => ?_)
      · refine j_iconst dX7_isHalved_55 ?_
        refine j_zret dX7_isHalved_56 rfl (by first | exact Or.inl rfl | exact Or.inr rfl | omega) ?_
        refine bz_i ?_
        rw [ek]
        first
        | (exact Or.inl ⟨rfl, fun h => by first | exact c26 h.1 | exact c33 h.2.1 | (rcases q45 with q | q; omega; exact q.2 h.2.2)⟩)
        | (exact Or.inr ⟨rfl, fun h => h ⟨by omega, by omega, by rcases q45 with q | q; exact q.2; omega⟩⟩)
      · refine j_iconst dX7_isHalved_51 ?_
        refine j_goto 56 dX7_isHalved_52 rfl ?_
        refine j_zret dX7_isHalved_56 rfl (by first | exact Or.inl rfl | exact Or.inr rfl | omega) ?_
        refine bz_i ?_
        rw [ek]
        first
        | (exact Or.inl ⟨rfl, fun h => by first | exact c26 h.1 | exact c33 h.2.1 | (rcases q45 with q | q; omega; exact q.2 h.2.2)⟩)
        | (exact Or.inr ⟨rfl, fun h => h ⟨by omega, by omega, by rcases q45 with q | q; exact q.2; omega⟩⟩)
theorem l_cby {M : Mem} {r : Row} {hs : List Row} (hI : MS M r hs) {p : Int} (hp : 0 ≤ p ∧ p < 2 * tu (M 1 0)) (m : Nat) : ∀ (i s : Int), 0 ≤ i → i ≤ M 1 1 * M 1 1 → M 1 1 * M 1 1 - i < m → ((s = 1 ∧ (¬ kh (MR r) p (M 1 1) 0 ∨ ¬ kh (MR r) p 0 (M 1 1) ∨ ∃ c : Int, 0 ≤ c ∧ c < i ∧ MR r 11 c = 1 ∧ ¬ kh (MR r) p (cX (M 1 1) c) (cY (M 1 1) c))) ∨ (s = 0 ∧ ¬ (¬ kh (MR r) p (M 1 1) 0 ∨ ¬ kh (MR r) p 0 (M 1 1) ∨ ∃ c : Int, 0 ≤ c ∧ c < i ∧ MR r 11 c = 1 ∧ ¬ kh (MR r) p (cX (M 1 1) c) (cY (M 1 1) c)))) → J SHM mi_X7_isCenteredBy 38 [some (vR 0), some (vI p), some (vI s), some (vI i)] [] M (bz (¬ kh (MR r) p (M 1 1) 0 ∨ ¬ kh (MR r) p 0 (M 1 1) ∨ ∃ c : Int, 0 ≤ c ∧ c < (M 1 1 * M 1 1) ∧ MR r 11 c = 1 ∧ ¬ kh (MR r) p (cX (M 1 1) c) (cY (M 1 1) c)) M) := by
  induction m with
  | zero => intro i s h0 h1 h2; omega
  | succ m ih =>
  intro i s h0 h1 h2 hs
  obtain ⟨hc, ho, hh, hq, hl, hd⟩ := id hI
  have hL := LaM_of hc ho
  have hg := GM_of hc ho
  obtain ⟨hP, es, hB, hnd, hes⟩ := id hd
  obtain ⟨hc1, hc2, hc3, hc4⟩ := id hc
  have ho4 := ho.2.2.2.1
  obtain ⟨hln, hv, hpm, hle⟩ := MS_b hI hB hnd hes
  obtain ⟨hk, hn1, hn5, hnn1, hnn2⟩ := id hL
  have ht := tu_c hk
  obtain ⟨hP1, hP2, hP3⟩ := id hP
  obtain ⟨hB1, hB2, hB3⟩ := id hB
  have hm5 := m5 hI i h0
  have hcxy := cXY_b hn1 i
  refine j_iload_n dX7_isCenteredBy_38 rfl ?_
  refine j_aload_n dX7_isCenteredBy_39 rfl ?_
  refine j_V0p dX7_isCenteredBy_40 ok_X7_cells v_X7_51 c_X7_cells rfl (e_X7_cells hL) ?_
  refine j_icmp_ge 89 dX7_isCenteredBy_43 rfl (by first | (unfold inR; omega) | (have hm6 := hm5 (by omega); unfold inR; omega)) (by first | (unfold inR; omega) | (have hm6 := hm5 (by omega); unfold inR; omega)) (fun c43 => ?_) (fun c43 => ?_)
  · refine j_iload_n dX7_isCenteredBy_89 rfl ?_
    refine j_zret dX7_isCenteredBy_90 rfl (by first | exact Or.inl rfl | exact Or.inr rfl | omega) ?_
    have hi : i = M 1 1 * M 1 1 := by omega
    subst hi
    exact bz_i hs
  · refine j_iload_n dX7_isCenteredBy_46 rfl ?_
    refine j_if_ne 77 dX7_isCenteredBy_47 rfl (by first | (unfold inR; omega) | (have hm6 := hm5 (by omega); unfold inR; omega)) (fun c47 => ?_) (fun c47 => ?_)
    · refine j_iconst dX7_isCenteredBy_77 ?_
      refine j_goto 82 dX7_isCenteredBy_78 rfl ?_
      refine j_istore_n dX7_isCenteredBy_82 (by decide) (nol rfl) (by show List.set _ 2 _ = _; simp only [List.set_cons_zero, List.set_cons_succ]; rfl) ?_
      refine j_iinc dX7_isCenteredBy_83 rfl (by decide) (nol rfl) (by simp only [List.set_cons_zero, List.set_cons_succ]; rfl) ?_
      refine j_goto 38 dX7_isCenteredBy_86 rfl ?_
      refine ih (i + 1) _ (by omega) (by omega) (by omega) ?_
      first
      | (exfalso; omega)
      | (refine Or.inl ⟨rfl, ?_⟩
         rcases hs with ⟨_, h | h | ⟨c, a, b, d, e⟩⟩ | h
         · exact Or.inl h
         · exact Or.inr (Or.inl h)
         · exact Or.inr (Or.inr ⟨c, a, by omega, d, e⟩)
         · omega)
      | (refine Or.inl ⟨rfl, Or.inr (Or.inr ⟨i, h0, by omega, ?_, ?_⟩)⟩
         · rcases hm5 (by omega) with q | q
           · exact q.2
           · omega
         · rcases q71 with q | q
           · exact q.2
           · omega)
      | (refine Or.inr ⟨rfl, ?_⟩
         have hs3 : ¬ (¬ kh (MR r) p (M 1 1) 0 ∨ ¬ kh (MR r) p 0 (M 1 1) ∨ ∃ c : Int, 0 ≤ c ∧ c < i ∧ MR r 11 c = 1 ∧ ¬ kh (MR r) p (cX (M 1 1) c) (cY (M 1 1) c)) := by
           rcases hs with h | h
           · omega
           · exact h.2
         rintro (h | h | ⟨c, a, b, d, e⟩)
         · exact hs3 (Or.inl h)
         · exact hs3 (Or.inr (Or.inl h))
         · by_cases q : c = i
           · subst q
             first
             | (rcases hm5 (by omega) with w | w
                · omega
                · exact w.2 d)
             | (rcases q71 with w | w
                · omega
                · exact w.2 e)
           · exact hs3 (Or.inr (Or.inr ⟨c, a, by omega, d, e⟩)))
    · refine j_aload_n dX7_isCenteredBy_50 rfl ?_
      refine j_getR dX7_isCenteredBy_51 f_X7_22 rfl rfl ?_
      refine j_iload_n dX7_isCenteredBy_54 rfl ?_
      refine j_bald dX7_isCenteredBy_55 (by first | rfl | assumption) (by decide) (by omega) (by omega) ?_
      refine j_if_eq 81 dX7_isCenteredBy_56 rfl (by first | (unfold inR; omega) | (have hm6 := hm5 (by omega); unfold inR; omega)) (fun c56 => ?_) (fun c56 => ?_)
      · refine j_iconst dX7_isCenteredBy_81 ?_
        refine j_istore_n dX7_isCenteredBy_82 (by decide) (nol rfl) (by show List.set _ 2 _ = _; simp only [List.set_cons_zero, List.set_cons_succ]; rfl) ?_
        refine j_iinc dX7_isCenteredBy_83 rfl (by decide) (nol rfl) (by simp only [List.set_cons_zero, List.set_cons_succ]; rfl) ?_
        refine j_goto 38 dX7_isCenteredBy_86 rfl ?_
        refine ih (i + 1) _ (by omega) (by omega) (by omega) ?_
        first
        | (exfalso; omega)
        | (refine Or.inl ⟨rfl, ?_⟩
           rcases hs with ⟨_, h | h | ⟨c, a, b, d, e⟩⟩ | h
           · exact Or.inl h
           · exact Or.inr (Or.inl h)
           · exact Or.inr (Or.inr ⟨c, a, by omega, d, e⟩)
           · omega)
        | (refine Or.inl ⟨rfl, Or.inr (Or.inr ⟨i, h0, by omega, ?_, ?_⟩)⟩
           · rcases hm5 (by omega) with q | q
             · exact q.2
             · omega
           · rcases q71 with q | q
             · exact q.2
             · omega)
        | (refine Or.inr ⟨rfl, ?_⟩
           have hs3 : ¬ (¬ kh (MR r) p (M 1 1) 0 ∨ ¬ kh (MR r) p 0 (M 1 1) ∨ ∃ c : Int, 0 ≤ c ∧ c < i ∧ MR r 11 c = 1 ∧ ¬ kh (MR r) p (cX (M 1 1) c) (cY (M 1 1) c)) := by
             rcases hs with h | h
             · omega
             · exact h.2
           rintro (h | h | ⟨c, a, b, d, e⟩)
           · exact hs3 (Or.inl h)
           · exact hs3 (Or.inr (Or.inl h))
           · by_cases q : c = i
             · subst q
               first
               | (rcases hm5 (by omega) with w | w
                  · omega
                  · exact w.2 d)
               | (rcases q71 with w | w
                  · omega
                  · exact w.2 e)
             · exact hs3 (Or.inr (Or.inr ⟨c, a, by omega, d, e⟩)))
      · refine j_aload_n dX7_isCenteredBy_59 rfl ?_
        refine j_iload_n dX7_isCenteredBy_60 rfl ?_
        refine j_aload_n dX7_isCenteredBy_61 rfl ?_
        refine j_iload_n dX7_isCenteredBy_62 rfl ?_
        refine j_V1p dX7_isCenteredBy_63 ok_X7_uOf v_X7_62 c_X7_uOf rfl (e_X7_uOf hL h0 (by omega)) ?_
        refine j_aload_n dX7_isCenteredBy_66 rfl ?_
        refine j_iload_n dX7_isCenteredBy_67 rfl ?_
        refine j_V1p dX7_isCenteredBy_68 ok_X7_vOf v_X7_65 c_X7_vOf rfl (e_X7_vOf hL h0 (by omega)) ?_
        refine j_V3z dX7_isCenteredBy_71 ok_X7_isHalved v_X7_146 c_X7_isHalved rfl (e_X7_isHalved hI (by omega) (by omega) (by omega)) (fun z71 M71 q71 => ?_)
        obtain ⟨rfl, q71⟩ := q71
        refine j_if_eq 81 dX7_isCenteredBy_74 rfl (by first | (unfold inR; omega) | (have hm6 := hm5 (by omega); unfold inR; omega)) (fun c74 => ?_) (fun c74 => ?_)
        · refine j_iconst dX7_isCenteredBy_81 ?_
          refine j_istore_n dX7_isCenteredBy_82 (by decide) (nol rfl) (by show List.set _ 2 _ = _; simp only [List.set_cons_zero, List.set_cons_succ]; rfl) ?_
          refine j_iinc dX7_isCenteredBy_83 rfl (by decide) (nol rfl) (by simp only [List.set_cons_zero, List.set_cons_succ]; rfl) ?_
          refine j_goto 38 dX7_isCenteredBy_86 rfl ?_
          refine ih (i + 1) _ (by omega) (by omega) (by omega) ?_
          first
          | (exfalso; omega)
          | (refine Or.inl ⟨rfl, ?_⟩
             rcases hs with ⟨_, h | h | ⟨c, a, b, d, e⟩⟩ | h
             · exact Or.inl h
             · exact Or.inr (Or.inl h)
             · exact Or.inr (Or.inr ⟨c, a, by omega, d, e⟩)
             · omega)
          | (refine Or.inl ⟨rfl, Or.inr (Or.inr ⟨i, h0, by omega, ?_, ?_⟩)⟩
             · rcases hm5 (by omega) with q | q
               · exact q.2
               · omega
             · rcases q71 with q | q
               · exact q.2
               · omega)
          | (refine Or.inr ⟨rfl, ?_⟩
             have hs3 : ¬ (¬ kh (MR r) p (M 1 1) 0 ∨ ¬ kh (MR r) p 0 (M 1 1) ∨ ∃ c : Int, 0 ≤ c ∧ c < i ∧ MR r 11 c = 1 ∧ ¬ kh (MR r) p (cX (M 1 1) c) (cY (M 1 1) c)) := by
               rcases hs with h | h
               · omega
               · exact h.2
             rintro (h | h | ⟨c, a, b, d, e⟩)
             · exact hs3 (Or.inl h)
             · exact hs3 (Or.inr (Or.inl h))
             · by_cases q : c = i
               · subst q
                 first
                 | (rcases hm5 (by omega) with w | w
                    · omega
                    · exact w.2 d)
                 | (rcases q71 with w | w
                    · omega
                    · exact w.2 e)
               · exact hs3 (Or.inr (Or.inr ⟨c, a, by omega, d, e⟩)))
        · refine j_iconst dX7_isCenteredBy_77 ?_
          refine j_goto 82 dX7_isCenteredBy_78 rfl ?_
          refine j_istore_n dX7_isCenteredBy_82 (by decide) (nol rfl) (by show List.set _ 2 _ = _; simp only [List.set_cons_zero, List.set_cons_succ]; rfl) ?_
          refine j_iinc dX7_isCenteredBy_83 rfl (by decide) (nol rfl) (by simp only [List.set_cons_zero, List.set_cons_succ]; rfl) ?_
          refine j_goto 38 dX7_isCenteredBy_86 rfl ?_
          refine ih (i + 1) _ (by omega) (by omega) (by omega) ?_
          first
          | (exfalso; omega)
          | (refine Or.inl ⟨rfl, ?_⟩
             rcases hs with ⟨_, h | h | ⟨c, a, b, d, e⟩⟩ | h
             · exact Or.inl h
             · exact Or.inr (Or.inl h)
             · exact Or.inr (Or.inr ⟨c, a, by omega, d, e⟩)
             · omega)
          | (refine Or.inl ⟨rfl, Or.inr (Or.inr ⟨i, h0, by omega, ?_, ?_⟩)⟩
             · rcases hm5 (by omega) with q | q
               · exact q.2
               · omega
             · rcases q71 with q | q
               · exact q.2
               · omega)
          | (refine Or.inr ⟨rfl, ?_⟩
             have hs3 : ¬ (¬ kh (MR r) p (M 1 1) 0 ∨ ¬ kh (MR r) p 0 (M 1 1) ∨ ∃ c : Int, 0 ≤ c ∧ c < i ∧ MR r 11 c = 1 ∧ ¬ kh (MR r) p (cX (M 1 1) c) (cY (M 1 1) c)) := by
               rcases hs with h | h
               · omega
               · exact h.2
             rintro (h | h | ⟨c, a, b, d, e⟩)
             · exact hs3 (Or.inl h)
             · exact hs3 (Or.inr (Or.inl h))
             · by_cases q : c = i
               · subst q
                 first
                 | (rcases hm5 (by omega) with w | w
                    · omega
                    · exact w.2 d)
                 | (rcases q71 with w | w
                    · omega
                    · exact w.2 e)
               · exact hs3 (Or.inr (Or.inr ⟨c, a, by omega, d, e⟩)))
theorem e_X7_isCenteredBy {M : Mem} {r : Row} {hs : List Row} (hI : MS M r hs) {p : Int} (hp : 0 ≤ p ∧ p < 2 * tu (M 1 0)) : J SHM mi_X7_isCenteredBy 0 (ent [vR 0, vI p] 4) [] M (bz (¬ khs (MR r) p) M) := by
  obtain ⟨hc, ho, hh, hq, hl, hd⟩ := id hI
  have hL := LaM_of hc ho
  have hg := GM_of hc ho
  obtain ⟨hP, es, hB, hnd, hes⟩ := id hd
  obtain ⟨hc1, hc2, hc3, hc4⟩ := id hc
  have ho4 := ho.2.2.2.1
  obtain ⟨hln, hv, hpm, hle⟩ := MS_b hI hB hnd hes
  obtain ⟨hk, hn1, hn5, hnn1, hnn2⟩ := id hL
  have ht := tu_c hk
  obtain ⟨hP1, hP2, hP3⟩ := id hP
  obtain ⟨hB1, hB2, hB3⟩ := id hB
  show J SHM mi_X7_isCenteredBy 0 [some (vR 0), some (vI p), none, none] [] M _
  refine j_aload_n dX7_isCenteredBy_0 rfl ?_
  refine j_iload_n dX7_isCenteredBy_1 rfl ?_
  refine j_aload_n dX7_isCenteredBy_2 rfl ?_
  refine j_getR dX7_isCenteredBy_3 f_X7_7 rfl rfl ?_
  refine j_iconst dX7_isCenteredBy_6 ?_
  refine j_iald dX7_isCenteredBy_7 (by first | rfl | assumption) (by decide) (by omega) (by omega) ?_
  refine j_iconst dX7_isCenteredBy_8 ?_
  refine j_V3z dX7_isCenteredBy_9 ok_X7_isHalved v_X7_146 c_X7_isHalved rfl (e_X7_isHalved hI (by omega) (by omega) (by omega)) (fun z9 M9 q9 => ?_)
  obtain ⟨rfl, q9⟩ := q9
  refine j_if_ne 30 dX7_isCenteredBy_12 rfl (by unfold inR; omega) (fun c12 => ?_) (fun c12 => ?_)
  · refine j_iconst dX7_isCenteredBy_30 ?_
    refine j_goto 35 dX7_isCenteredBy_31 rfl ?_
    refine j_istore_n dX7_isCenteredBy_35 (by decide) (nol rfl) (by show List.set _ 2 _ = _; simp only [List.set_cons_zero, List.set_cons_succ]; rfl) ?_
    refine j_iconst dX7_isCenteredBy_36 ?_
    refine j_istore_n dX7_isCenteredBy_37 (by decide) (nol rfl) (by show List.set _ 3 _ = _; simp only [List.set_cons_zero, List.set_cons_succ]; rfl) ?_
    refine j_mono ?_ (l_cby hI hp 26 0 _ (by omega) (by omega) (by omega) ?_)
    · rintro v M1 ⟨z, rfl, rfl, hz⟩
      refine ⟨z, rfl, rfl, ?_⟩
      have key : (¬ kh (MR r) p (M 1 1) 0 ∨ ¬ kh (MR r) p 0 (M 1 1) ∨ ∃ c : Int, 0 ≤ c ∧ c < (M 1 1 * M 1 1) ∧ MR r 11 c = 1 ∧ ¬ kh (MR r) p (cX (M 1 1) c) (cY (M 1 1) c)) ↔ ¬ khs (MR r) p := by
        unfold khs
        rw [MR_11, ← hc2]
        constructor
        · rintro (h | h | ⟨c, a, b, d, e⟩) ⟨k1, k2, k3⟩
          · exact h k1
          · exact h k2
          · have hcx := cXY_b hn1 c
            have hcm : mkc (M 1 1) 0 (cX (M 1 1) c) (cY (M 1 1) c) = c := mkc_c hn1 a b
            exact e (k3 _ _ hcx.1 hcx.2.1 hcx.2.2.1 hcx.2.2.2 (by unfold hT; rw [MR_11, ← hc2, hcm]; exact d))
        · intro h
          by_cases k1 : kh (MR r) p (M 1 1) 0
          · by_cases k2 : kh (MR r) p 0 (M 1 1)
            · refine Or.inr (Or.inr ?_)
              apply Classical.byContradiction
              intro h3
              refine h ⟨k1, k2, fun u v u0 u1 v0 v1 hu => ?_⟩
              apply Classical.byContradiction
              intro h4
              have hmb := mkc_b (n := M 1 1) (x := u) (y := v) hn1
              have hcu := mkc_x (n := M 1 1) (u := u) (v := v) hn1 ⟨u0, u1⟩ ⟨v0, v1⟩
              unfold hT at hu
              rw [MR_11, ← hc2] at hu
              exact h3 ⟨mkc (M 1 1) 0 u v, hmb.1, hmb.2, hu, by rw [hcu.1, hcu.2]; exact h4⟩
            · exact Or.inr (Or.inl k2)
          · exact Or.inl k1
      rw [← key]
      exact hz
    · first
      | (refine Or.inl ⟨rfl, ?_⟩
         first
         | exact Or.inl (by rcases q9 with q | q; exact q.2; omega)
         | exact Or.inr (Or.inl (by rcases q24 with q | q; exact q.2; omega))
         | (exfalso; omega))
      | (refine Or.inr ⟨rfl, ?_⟩
         rintro (h | h | ⟨c, a, b, d, e⟩)
         · rcases q9 with q | q
           · omega
           · exact q.2 h
         · rcases q24 with q | q
           · omega
           · exact q.2 h
         · omega)
  · refine j_aload_n dX7_isCenteredBy_15 rfl ?_
    refine j_iload_n dX7_isCenteredBy_16 rfl ?_
    refine j_iconst dX7_isCenteredBy_17 ?_
    refine j_aload_n dX7_isCenteredBy_18 rfl ?_
    refine j_getR dX7_isCenteredBy_19 f_X7_7 rfl rfl ?_
    refine j_iconst dX7_isCenteredBy_22 ?_
    refine j_iald dX7_isCenteredBy_23 (by first | rfl | assumption) (by decide) (by omega) (by omega) ?_
    refine j_V3z dX7_isCenteredBy_24 ok_X7_isHalved v_X7_146 c_X7_isHalved rfl (e_X7_isHalved hI (by omega) (by omega) (by omega)) (fun z24 M24 q24 => ?_)
    obtain ⟨rfl, q24⟩ := q24
    refine j_if_eq 34 dX7_isCenteredBy_27 rfl (by unfold inR; omega) (fun c27 => ?_) (fun c27 => ?_)
    · refine j_iconst dX7_isCenteredBy_34 ?_
      refine j_istore_n dX7_isCenteredBy_35 (by decide) (nol rfl) (by show List.set _ 2 _ = _; simp only [List.set_cons_zero, List.set_cons_succ]; rfl) ?_
      refine j_iconst dX7_isCenteredBy_36 ?_
      refine j_istore_n dX7_isCenteredBy_37 (by decide) (nol rfl) (by show List.set _ 3 _ = _; simp only [List.set_cons_zero, List.set_cons_succ]; rfl) ?_
      refine j_mono ?_ (l_cby hI hp 26 0 _ (by omega) (by omega) (by omega) ?_)
      · rintro v M1 ⟨z, rfl, rfl, hz⟩
        refine ⟨z, rfl, rfl, ?_⟩
        have key : (¬ kh (MR r) p (M 1 1) 0 ∨ ¬ kh (MR r) p 0 (M 1 1) ∨ ∃ c : Int, 0 ≤ c ∧ c < (M 1 1 * M 1 1) ∧ MR r 11 c = 1 ∧ ¬ kh (MR r) p (cX (M 1 1) c) (cY (M 1 1) c)) ↔ ¬ khs (MR r) p := by
          unfold khs
          rw [MR_11, ← hc2]
          constructor
          · rintro (h | h | ⟨c, a, b, d, e⟩) ⟨k1, k2, k3⟩
            · exact h k1
            · exact h k2
            · have hcx := cXY_b hn1 c
              have hcm : mkc (M 1 1) 0 (cX (M 1 1) c) (cY (M 1 1) c) = c := mkc_c hn1 a b
              exact e (k3 _ _ hcx.1 hcx.2.1 hcx.2.2.1 hcx.2.2.2 (by unfold hT; rw [MR_11, ← hc2, hcm]; exact d))
          · intro h
            by_cases k1 : kh (MR r) p (M 1 1) 0
            · by_cases k2 : kh (MR r) p 0 (M 1 1)
              · refine Or.inr (Or.inr ?_)
                apply Classical.byContradiction
                intro h3
                refine h ⟨k1, k2, fun u v u0 u1 v0 v1 hu => ?_⟩
                apply Classical.byContradiction
                intro h4
                have hmb := mkc_b (n := M 1 1) (x := u) (y := v) hn1
                have hcu := mkc_x (n := M 1 1) (u := u) (v := v) hn1 ⟨u0, u1⟩ ⟨v0, v1⟩
                unfold hT at hu
                rw [MR_11, ← hc2] at hu
                exact h3 ⟨mkc (M 1 1) 0 u v, hmb.1, hmb.2, hu, by rw [hcu.1, hcu.2]; exact h4⟩
              · exact Or.inr (Or.inl k2)
            · exact Or.inl k1
        rw [← key]
        exact hz
      · first
        | (refine Or.inl ⟨rfl, ?_⟩
           first
           | exact Or.inl (by rcases q9 with q | q; exact q.2; omega)
           | exact Or.inr (Or.inl (by rcases q24 with q | q; exact q.2; omega))
           | (exfalso; omega))
        | (refine Or.inr ⟨rfl, ?_⟩
           rintro (h | h | ⟨c, a, b, d, e⟩)
           · rcases q9 with q | q
             · omega
             · exact q.2 h
           · rcases q24 with q | q
             · omega
             · exact q.2 h
           · omega)
    · refine j_iconst dX7_isCenteredBy_30 ?_
      refine j_goto 35 dX7_isCenteredBy_31 rfl ?_
      refine j_istore_n dX7_isCenteredBy_35 (by decide) (nol rfl) (by show List.set _ 2 _ = _; simp only [List.set_cons_zero, List.set_cons_succ]; rfl) ?_
      refine j_iconst dX7_isCenteredBy_36 ?_
      refine j_istore_n dX7_isCenteredBy_37 (by decide) (nol rfl) (by show List.set _ 3 _ = _; simp only [List.set_cons_zero, List.set_cons_succ]; rfl) ?_
      refine j_mono ?_ (l_cby hI hp 26 0 _ (by omega) (by omega) (by omega) ?_)
      · rintro v M1 ⟨z, rfl, rfl, hz⟩
        refine ⟨z, rfl, rfl, ?_⟩
        have key : (¬ kh (MR r) p (M 1 1) 0 ∨ ¬ kh (MR r) p 0 (M 1 1) ∨ ∃ c : Int, 0 ≤ c ∧ c < (M 1 1 * M 1 1) ∧ MR r 11 c = 1 ∧ ¬ kh (MR r) p (cX (M 1 1) c) (cY (M 1 1) c)) ↔ ¬ khs (MR r) p := by
          unfold khs
          rw [MR_11, ← hc2]
          constructor
          · rintro (h | h | ⟨c, a, b, d, e⟩) ⟨k1, k2, k3⟩
            · exact h k1
            · exact h k2
            · have hcx := cXY_b hn1 c
              have hcm : mkc (M 1 1) 0 (cX (M 1 1) c) (cY (M 1 1) c) = c := mkc_c hn1 a b
              exact e (k3 _ _ hcx.1 hcx.2.1 hcx.2.2.1 hcx.2.2.2 (by unfold hT; rw [MR_11, ← hc2, hcm]; exact d))
          · intro h
            by_cases k1 : kh (MR r) p (M 1 1) 0
            · by_cases k2 : kh (MR r) p 0 (M 1 1)
              · refine Or.inr (Or.inr ?_)
                apply Classical.byContradiction
                intro h3
                refine h ⟨k1, k2, fun u v u0 u1 v0 v1 hu => ?_⟩
                apply Classical.byContradiction
                intro h4
                have hmb := mkc_b (n := M 1 1) (x := u) (y := v) hn1
                have hcu := mkc_x (n := M 1 1) (u := u) (v := v) hn1 ⟨u0, u1⟩ ⟨v0, v1⟩
                unfold hT at hu
                rw [MR_11, ← hc2] at hu
                exact h3 ⟨mkc (M 1 1) 0 u v, hmb.1, hmb.2, hu, by rw [hcu.1, hcu.2]; exact h4⟩
              · exact Or.inr (Or.inl k2)
            · exact Or.inl k1
        rw [← key]
        exact hz
      · first
        | (refine Or.inl ⟨rfl, ?_⟩
           first
           | exact Or.inl (by rcases q9 with q | q; exact q.2; omega)
           | exact Or.inr (Or.inl (by rcases q24 with q | q; exact q.2; omega))
           | (exfalso; omega))
        | (refine Or.inr ⟨rfl, ?_⟩
           rintro (h | h | ⟨c, a, b, d, e⟩)
           · rcases q9 with q | q
             · omega
             · exact q.2 h
           · rcases q24 with q | q
             · omega
             · exact q.2 h
           · omega)
