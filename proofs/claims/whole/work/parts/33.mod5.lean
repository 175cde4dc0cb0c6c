/-! THE MODEL: its state against the edits -/
def CurM (M : Mem) (r : Row) : Prop := M 1 0 = r.1 ∧ M 1 1 = r.2.1 ∧ M 1 2 = r.2.2.length ∧ ∀ (j : Nat) (x : Int), r.2.2[j]? = some x → M 1 (3 + j) = x
def RowM (M : Mem) (i : Nat) (r : Row) : Prop := M 2 (7 * i) = r.1 ∧ M 2 (7 * i + 1) = r.2.1 ∧ M 2 (7 * i + 2) = r.2.2.length ∧ ∀ (j : Nat) (x : Int), r.2.2[j]? = some x → M 2 (7 * i + (3 + j)) = x
def HisM (M : Mem) (hs : List Row) : Prop := M 0 2 = hs.length ∧ ∀ (i : Nat) (r : Row), hs[i]? = some r → RowM M i r
def DerM (M : Mem) (r : Row) : Prop := MPt M ∧ ∃ es : List Int, BM M es ∧ es.Nodup ∧ ∀ c, c ∈ es ↔ c ∈ GL r
def MS (M : Mem) (r : Row) (hs : List Row) : Prop := CurM M r ∧ okR r ∧ HisM M hs ∧ (∀ q ∈ hs, okR q) ∧ hs.length ≤ 4 ∧ DerM M r
theorem LaM_of {M : Mem} {r : Row} (h : CurM M r) (ho : okR r) : LaM M := by
  obtain ⟨h1, h2, h3, h4⟩ := h
  obtain ⟨o1, o2, o3, o4, o5⟩ := ho
  unfold LaM
  rw [h1, h2]
  exact ⟨o1, o2, o3, nn_b o2 o3⟩
theorem gM_of {M : Mem} {r : Row} (h : CurM M r) : gM M = fun g => g ∈ r.2.2 := by
  obtain ⟨h1, h2, h3, h4⟩ := h
  funext g
  apply propext
  constructor
  · rintro ⟨i, a, b, rfl⟩
    have hi : i.toNat < r.2.2.length := by omega
    have e : r.2.2[i.toNat]? = some r.2.2[i.toNat] := List.getElem?_eq_getElem hi
    have := h4 i.toNat _ e
    rw [show ((i.toNat : Nat) : Int) = i from Int.toNat_of_nonneg a] at this
    rw [this]
    exact List.getElem_mem hi
  · intro hg
    obtain ⟨j, hj⟩ := List.getElem?_of_mem hg
    exact ⟨j, by omega, by rw [h3]; have := (List.getElem?_eq_some_iff.mp hj).1; omega, h4 j g hj⟩
theorem GM_of {M : Mem} {r : Row} (h : CurM M r) (ho : okR r) : GM M := by
  have hg := gM_of h
  obtain ⟨h1, h2, h3, h4⟩ := h
  refine ⟨⟨by omega, by rw [h3]; have := ho.2.2.2.1; omega⟩, fun i a b => ?_⟩
  rw [h1, h2]
  have : gM M (M 1 (3 + i)) := ⟨i, a, b, rfl⟩
  rw [hg] at this
  exact ho.2.2.2.2 _ this
theorem CurM_eq {M M1 : Mem} {r : Row} (h : M1 1 = M 1) (hc : CurM M r) : CurM M1 r := by unfold CurM at *; rw [h]; exact hc
theorem HisM_eq {M M1 : Mem} {hs : List Row} (h0 : M1 0 2 = M 0 2) (h : M1 2 = M 2) (hc : HisM M hs) : HisM M1 hs := by unfold HisM RowM at *; rw [h0, h]; exact hc
/-- derive's end in these words -/
theorem DerM_of {M : Mem} {r : Row} (h : CurM M r) (ho : okR r) (hP : MPt M) (he : ∃ es : List Int, BM M es ∧ ClN M es es.length) : DerM M r := by
  obtain ⟨es, b, c⟩ := he
  refine ⟨hP, es, b, c.1, fun x => ?_⟩
  have hall := Clo_all c x
  rw [gM_of h, h.1, h.2.1] at hall
  rw [hall, GL_mem]
  constructor
  · intro hx
    have h9 := hall.mpr hx
    have := vm_300 (LaM_of h ho) (c.2.1 x h9)
    exact ⟨this.1, this.2, hx⟩
  · exact fun hx => hx.2.2

theorem l_shift {Q : Option PV → Mem → Prop} (m : Nat) : ∀ (i : Int) (M : Mem), 0 ≤ i → i ≤ 21 → 21 - i < m → (∀ M1, fr [2] M M1 → (∀ j : Int, M1 2 j = if i ≤ j ∧ j < 21 then M 2 (j + 7) else M 2 j) → J SHM mi_X7_save 37 [some (vR 0), some (vI 21)] [] M1 Q) → J SHM mi_X7_save 10 [some (vR 0), some (vI i)] [] M Q := by
  induction m with
  | zero => intro i M h0 h1 h2; omega
  | succ m ih =>
  intro i M h0 h1 h2 K
  refine j_iload_n dX7_save_10 rfl ?_
  refine j_bipush dX7_save_11 (by decide +kernel) ?_
  refine j_icmp_ge 37 dX7_save_13 rfl (by unfold inR; omega) (by unfold inR; omega) (fun c13 => ?_) (fun c13 => ?_)
  · have hi : i = 21 := by omega
    subst hi
    exact K M fr.rf (fun j => by rw [if_neg (by omega)])
  · refine j_aload_n dX7_save_16 rfl ?_
    refine j_getR dX7_save_17 f_X7_13 rfl rfl ?_
    refine j_iload_n dX7_save_20 rfl ?_
    refine j_aload_n dX7_save_21 rfl ?_
    refine j_getR dX7_save_22 f_X7_13 rfl rfl ?_
    refine j_iload_n dX7_save_25 rfl ?_
    refine j_bipush dX7_save_26 (by decide +kernel) ?_
    refine j_iadd dX7_save_28 ?_
    refine j_iald dX7_save_29 (by first | rfl | assumption) (by decide) (by omega) (by omega) ?_
    refine j_iast dX7_save_30 (by first | rfl | assumption) (by decide) (by omega) (by omega) ?_
    refine j_iinc dX7_save_31 rfl (by decide) (nol rfl) (by simp only [List.set_cons_zero, List.set_cons_succ]; rfl) ?_
    refine j_goto 10 dX7_save_34 rfl ?_
    refine ih (i + 1) (wr M 2 i (M 2 (i + 7))) (by omega) (by omega) (by omega) (fun M1 f1 g1 => K M1 ((fr.rf.w1 (by decide)).tr f1) (fun j => ?_))
    rw [g1 j]
    by_cases e : j = i
    · rw [e, if_neg (by omega), if_pos (by omega), wr_self]
    · by_cases e2 : i ≤ j ∧ j < 21
      · rw [if_pos (by omega), if_pos e2, wr_ne _ _ (by omega)]
      · rw [if_neg (by omega), if_neg e2, wr_ne _ _ (by omega)]
theorem l_cpy {Q : Option PV → Mem → Prop} {d : Int} (hd : 0 ≤ d ∧ d ≤ 3) (m : Nat) : ∀ (i : Int) (M : Mem), M 0 2 = d → 0 ≤ i → i ≤ 7 → 7 - i < m → (∀ M1, fr [2] M M1 → (∀ j : Int, M1 2 j = if 7 * d + i ≤ j ∧ j < 7 * d + 7 then M 1 (j - 7 * d) else M 2 j) → J SHM mi_X7_save 81 [some (vR 0), some (vI 7)] [] M1 Q) → J SHM mi_X7_save 49 [some (vR 0), some (vI i)] [] M Q := by
  induction m with
  | zero => intro i M hd0 h0 h1 h2; omega
  | succ m ih =>
  intro i M hd0 h0 h1 h2 K
  refine j_iload_n dX7_save_49 rfl ?_
  refine j_bipush dX7_save_50 (by decide +kernel) ?_
  refine j_icmp_ge 81 dX7_save_52 rfl (by unfold inR; omega) (by unfold inR; omega) (fun c52 => ?_) (fun c52 => ?_)
  · have hi : i = 7 := by omega
    subst hi
    exact K M fr.rf (fun j => by rw [if_neg (by omega)])
  · refine j_aload_n dX7_save_55 rfl ?_
    refine j_getR dX7_save_56 f_X7_13 rfl rfl ?_
    refine j_bipush dX7_save_59 (by decide +kernel) ?_
    refine j_aload_n dX7_save_61 rfl ?_
    refine j_getI (kz := 2) rfl dX7_save_62 f_X7_105 rfl rfl ?_
    refine j_imul dX7_save_65 ?_
    refine j_iload_n dX7_save_66 rfl ?_
    refine j_iadd dX7_save_67 ?_
    refine j_aload_n dX7_save_68 rfl ?_
    refine j_getR dX7_save_69 f_X7_7 rfl rfl ?_
    refine j_iload_n dX7_save_72 rfl ?_
    refine j_iald dX7_save_73 (by first | rfl | assumption) (by decide) (by omega) (by omega) ?_
    refine j_iast dX7_save_74 (by first | rfl | assumption) (by decide) (by omega) (by omega) ?_
    refine j_iinc dX7_save_75 rfl (by decide) (nol rfl) (by simp only [List.set_cons_zero, List.set_cons_succ]; rfl) ?_
    refine j_goto 49 dX7_save_78 rfl ?_
    rw [hd0]
    have f : fr [2] M (wr M 2 (7 * d + i) (M 1 i)) := fr.rf.w1 (by decide)
    refine ih (i + 1) _ (by rw [f 0 (by decide)]; exact hd0) (by omega) (by omega) (by omega) (fun M1 f1 g1 => K M1 (f.tr f1) (fun j => ?_))
    rw [g1 j, f 1 (by decide)]
    by_cases e : j = 7 * d + i
    · rw [e, if_neg (by omega), if_pos (by omega), wr_self, show 7 * d + i - 7 * d = i by omega]
    · by_cases e2 : 7 * d + i ≤ j ∧ j < 7 * d + 7
      · rw [if_pos (by omega), if_pos e2]
      · rw [if_neg (by omega), if_neg e2, wr_ne _ _ (by omega)]
theorem l_sv47 {M : Mem} {d : Int} (hd : 0 ≤ d ∧ d ≤ 3) (hd0 : M 0 2 = d) {w : Option PV} : J SHM mi_X7_save 47 [some (vR 0), w] [] M (pv (fun M1 => fr [0, 2] M M1 ∧ (∀ j : Int, j ≠ 2 → M1 0 j = M 0 j) ∧ M1 0 2 = d + 1 ∧ ∀ j : Int, M1 2 j = if 7 * d ≤ j ∧ j < 7 * d + 7 then M 1 (j - 7 * d) else M 2 j)) := by
  refine j_iconst dX7_save_47 ?_
  refine j_istore_n dX7_save_48 (by decide) (nol rfl) (by show List.set _ 1 _ = _; simp only [List.set_cons_zero, List.set_cons_succ]; rfl) ?_
  refine l_cpy hd 8 0 M hd0 (by omega) (by omega) (by omega) (fun A fA gA => ?_)
  refine j_aload_n dX7_save_81 rfl ?_
  refine j_dup dX7_save_82 (fun _ h => by cases h) ?_
  refine j_getI (kz := 2) rfl dX7_save_83 f_X7_105 rfl rfl ?_
  refine j_iconst dX7_save_86 ?_
  refine j_iadd dX7_save_87 ?_
  refine j_putI (kz := 2) rfl dX7_save_88 g_X7_105 rfl rfl ?_
  refine j_vret dX7_save_91 rfl ?_
  refine ⟨rfl, (fA.up (by decide)).w1 (by decide), fun j hj => by rw [wr_ne _ _ (fun z => hj z.2), fA 0 (by decide)], by rw [wr_self, fA 0 (by decide), hd0], fun j => ?_⟩
  rw [wr_ne _ _ (by omega), gA j]
  by_cases e : 7 * d ≤ j ∧ j < 7 * d + 7
  · rw [if_pos (by omega), if_pos e]
  · rw [if_neg (by omega), if_neg e]
theorem RowM_now {M M1 : Mem} {i : Nat} {d : Int} {r : Row} (hc : CurM M r) (ho : okR r) (hd : d = i) (h : ∀ j : Int, 7 * d ≤ j → j < 7 * d + 7 → M1 2 j = M 1 (j - 7 * d)) : RowM M1 i r := by
  subst hd
  obtain ⟨h1, h2, h3, h4⟩ := hc
  have hl := ho.2.2.2.1
  refine ⟨?_, ?_, ?_, fun j x hj => ?_⟩
  · rw [h _ (by omega) (by omega), show (7 * (i : Int) - 7 * i) = 0 by omega]; exact h1
  · rw [h _ (by omega) (by omega), show (7 * (i : Int) + 1 - 7 * i) = 1 by omega]; exact h2
  · rw [h _ (by omega) (by omega), show (7 * (i : Int) + 2 - 7 * i) = 2 by omega]; exact h3
  · have hjl := (List.getElem?_eq_some_iff.mp hj).1
    rw [h _ (by omega) (by omega), show (7 * (i : Int) + (3 + (j : Int)) - 7 * i) = 3 + j by omega]
    exact h4 j x hj
theorem RowM_mv {M M1 : Mem} {i k : Nat} {r : Row} (hc : RowM M k r) (ho : okR r) (h : ∀ j : Int, 0 ≤ j → j < 7 → M1 2 (7 * i + j) = M 2 (7 * k + j)) : RowM M1 i r := by
  obtain ⟨h1, h2, h3, h4⟩ := hc
  have hl := ho.2.2.2.1
  refine ⟨?_, ?_, ?_, fun j x hj => ?_⟩
  · have := h 0 (by omega) (by omega); rw [Int.add_zero, Int.add_zero] at this; rw [this]; exact h1
  · rw [h 1 (by omega) (by omega)]; exact h2
  · rw [h 2 (by omega) (by omega)]; exact h3
  · have hjl := (List.getElem?_eq_some_iff.mp hj).1
    rw [h _ (by omega) (by omega)]
    exact h4 j x hj
theorem e_X7_save {M : Mem} {r : Row} {hs : List Row} (hc : CurM M r) (ho : okR r) (hh : HisM M hs) (hq : ∀ q ∈ hs, okR q) (hl : hs.length ≤ 4) : J SHM mi_X7_save 0 (ent [vR 0] 2) [] M (pv (fun M1 => fr [0, 2] M M1 ∧ (∀ j : Int, j ≠ 2 → M1 0 j = M 0 j) ∧ HisM M1 (push4 hs r))) := by
  obtain ⟨hh1, hh2⟩ := id hh
  show J SHM mi_X7_save 0 [some (vR 0), none] [] M _
  refine j_aload_n dX7_save_0 rfl ?_
  refine j_getI (kz := 2) rfl dX7_save_1 f_X7_105 rfl rfl ?_
  refine j_iconst dX7_save_4 ?_
  refine j_icmp_ne 47 dX7_save_5 rfl (by unfold inR; omega) (by unfold inR; omega) (fun c5 => ?_) (fun c5 => ?_)
  · have h4 : hs.length < 4 := by omega
    refine j_mono ?_ (l_sv47 (d := (hs.length : Int)) ⟨by omega, by omega⟩ hh1)
    rintro v M1 ⟨rfl, f1, f0, g2, gj⟩
    refine ⟨rfl, f1, f0, ?_⟩
    unfold push4
    rw [if_pos h4]
    refine ⟨by rw [g2]; simp, fun i q hi => ?_⟩
    rcases push_get hi with ⟨a1, a2, _⟩ | ⟨a1, a2, _⟩
    · exact RowM_mv (hh2 i q a2) (hq q (List.mem_of_getElem? a2)) (fun j j0 j7 => by rw [gj, if_neg (by omega)])
    · rw [a2]
      exact RowM_now (d := (hs.length : Int)) hc ho (by omega) (fun j j0 j7 => by rw [gj, if_pos ⟨by omega, by omega⟩])
  · refine j_iconst dX7_save_8 ?_
    refine j_istore_n dX7_save_9 (by decide) (nol rfl) (by show List.set _ 1 _ = _; simp only [List.set_cons_zero, List.set_cons_succ]; rfl) ?_
    refine l_shift 22 0 M (by omega) (by omega) (by omega) (fun A fA gA => ?_)
    refine j_aload_n dX7_save_37 rfl ?_
    refine j_dup dX7_save_38 (fun _ h => by cases h) ?_
    refine j_getI (kz := 2) rfl dX7_save_39 f_X7_105 rfl rfl ?_
    refine j_iconst dX7_save_42 ?_
    refine j_isub dX7_save_43 ?_
    refine j_putI (kz := 2) rfl dX7_save_44 g_X7_105 rfl rfl ?_
    have h4 : ¬ hs.length < 4 := by omega
    have eA0 : wr A 0 2 (A 0 2 - 1) 0 2 = 3 := by rw [wr_self, fA 0 (by decide)]; omega
    refine j_mono ?_ (l_sv47 (d := 3) (by omega) eA0)
    rintro v M1 ⟨rfl, f1, f0, g2, gj⟩
    have fB : fr [0, 2] M (wr A 0 2 (A 0 2 - 1)) := (fA.up (by decide)).w1 (by decide)
    have cB : CurM (wr A 0 2 (A 0 2 - 1)) r := CurM_eq (fB 1 (by decide)) hc
    refine ⟨rfl, fB.tr f1, fun j hj => by rw [f0 j hj, wr_ne _ _ (fun z => hj z.2), fA 0 (by decide)], ?_⟩
    unfold push4
    rw [if_neg h4]
    refine ⟨by rw [g2]; simp; omega, fun i q hi => ?_⟩
    rcases push_get hi with ⟨a1, a2, _⟩ | ⟨a1, a2, _⟩
    · rw [List.getElem?_drop] at a2
      have hi3 := (List.getElem?_eq_some_iff.mp a2).1
      refine RowM_mv (hh2 (1 + i) q a2) (hq q (List.mem_of_getElem? a2)) (fun j j0 j7 => ?_)
      rw [gj, if_neg (by omega), wr_ne _ _ (by omega), gA, if_pos ⟨by omega, by omega⟩]
      congr 1
      omega
    · rw [List.length_drop] at a1
      rw [a2]
      exact RowM_now (d := 3) cB ho (by omega) (fun j j0 j7 => by rw [gj, if_pos ⟨by omega, by omega⟩])
/-- behind an edit -/
theorem MS_edit {M1 M2 M3 : Mem} {r r' : Row} {hs : List Row} (hh : HisM M1 (push4 hs r)) (hq : ∀ q ∈ hs, okR q) (hr : okR r) (hl : hs.length ≤ 4) (f2 : fr [1] M1 M2) (hc : CurM M2 r') (ho : okR r') (f3 : fr [0, 3, 4, 5, 6] M2 M3) (f30 : ∀ j : Int, j ≠ 3 → j ≠ 8 → M3 0 j = M2 0 j) (hP : MPt M3) (he : ∃ es : List Int, BM M3 es ∧ ClN M3 es es.length) : MS M3 r' (push4 hs r) := by
  have c3 := CurM_eq (f3 1 (by decide)) hc
  exact ⟨c3, ho, HisM_eq (by rw [f30 2 (by omega) (by omega), f2 0 (by decide)]) (by rw [f3 2 (by decide), f2 2 (by decide)]) hh, push4_ok hq hr, push4_len hl, DerM_of c3 ho hP he⟩
theorem DerM_len {M : Mem} {r : Row} (h : DerM M r) : M 0 8 = (GL r).length := by
  obtain ⟨-, es, b, nd, he⟩ := h
  rw [b.1, (nd_same nd glst_nd (fun c => he c)).length_eq]
  rfl
theorem e_X7_setLattice {M : Mem} {r : Row} {hs : List Row} {k n : Int} (hI : MS M r hs) (hk : inR k) (hn : inR n) : J SHM mi_X7_setLattice 0 (ent [vR 0, vI k, vI n] 4) [] M (pz (fun z M1 => ((0 ≤ k ∧ k ≤ 1 ∧ 1 ≤ n ∧ n ≤ 5) ∧ z = r.2.1 ∧ MS M1 (k, n, []) (push4 hs r)) ∨ (¬ (0 ≤ k ∧ k ≤ 1 ∧ 1 ≤ n ∧ n ≤ 5) ∧ z = -1 ∧ M1 = M))) := by
  obtain ⟨hc, ho, hh, hq, hl, hd⟩ := id hI
  have hL := LaM_of hc ho
  have hg := GM_of hc ho
  obtain ⟨hP, es, hB, hnd, hes⟩ := id hd
  obtain ⟨hc1, hc2, hc3, hc4⟩ := id hc
  have ho4 := ho.2.2.2.1
  show J SHM mi_X7_setLattice 0 [some (vR 0), some (vI k), some (vI n), none] [] M _
  refine j_iload_n dX7_setLattice_0 rfl ?_
  refine j_iconst dX7_setLattice_1 ?_
  refine j_iconst dX7_setLattice_2 ?_
  refine j_S3z dX7_setLattice_3 ok_X7_in s_X7_78 (e_X7_in (by first | assumption | (unfold inR; omega)) (by unfold inR; omega) (by first | assumption | (unfold inR; omega))) (fun z3 M3 q3 => ?_)
  obtain ⟨rfl, q3⟩ := q3
  refine j_if_eq 18 dX7_setLattice_6 rfl (by first | assumption | (unfold inR; omega)) (fun c6 => ?_) (fun c6 => ?_)
  · refine j_iconst dX7_setLattice_18 ?_
    refine j_iret dX7_setLattice_19 rfl ?_
    exact ⟨_, rfl, Or.inr ⟨by omega, rfl, rfl⟩⟩
  · refine j_iload_n dX7_setLattice_9 rfl ?_
    refine j_iconst dX7_setLattice_10 ?_
    refine j_iconst dX7_setLattice_11 ?_
    refine j_S3z dX7_setLattice_12 ok_X7_in s_X7_78 (e_X7_in (by first | assumption | (unfold inR; omega)) (by unfold inR; omega) (by first | assumption | (unfold inR; omega))) (fun z12 M12 q12 => ?_)
    obtain ⟨rfl, q12⟩ := q12
    refine j_if_ne 20 dX7_setLattice_15 rfl (by first | assumption | (unfold inR; omega)) (fun c15 => ?_) (fun c15 => ?_)
    · refine j_aload_n dX7_setLattice_20 rfl ?_
      refine j_V0v dX7_setLattice_21 ok_X7_save v_X7_108 c_X7_save rfl (e_X7_save hc ho hh hq hl) (fun M21 q21 => ?_)
      obtain ⟨f21, z21, g21⟩ := q21
      refine j_aload_n dX7_setLattice_24 rfl ?_
      refine j_getR dX7_setLattice_25 f_X7_7 rfl rfl ?_
      refine j_iconst dX7_setLattice_28 ?_
      refine j_iald dX7_setLattice_29 (by first | rfl | assumption) (by decide) (by omega) (by omega) ?_
      refine j_istore_n dX7_setLattice_30 (by decide) (nol rfl) (by show List.set _ 3 _ = _; simp only [List.set_cons_zero, List.set_cons_succ]; rfl) ?_
      refine j_aload_n dX7_setLattice_31 rfl ?_
      refine j_getR dX7_setLattice_32 f_X7_7 rfl rfl ?_
      refine j_iconst dX7_setLattice_35 ?_
      refine j_iload_n dX7_setLattice_36 rfl ?_
      refine j_iast dX7_setLattice_37 (by first | rfl | assumption) (by decide) (by omega) (by omega) ?_
      refine j_aload_n dX7_setLattice_38 rfl ?_
      refine j_getR dX7_setLattice_39 f_X7_7 rfl rfl ?_
      refine j_iconst dX7_setLattice_42 ?_
      refine j_iload_n dX7_setLattice_43 rfl ?_
      refine j_iast dX7_setLattice_44 (by first | rfl | assumption) (by decide) (by omega) (by omega) ?_
      refine j_aload_n dX7_setLattice_45 rfl ?_
      refine j_getR dX7_setLattice_46 f_X7_7 rfl rfl ?_
      refine j_iconst dX7_setLattice_49 ?_
      refine j_iconst dX7_setLattice_50 ?_
      refine j_iast dX7_setLattice_51 (by first | rfl | assumption) (by decide) (by omega) (by omega) ?_
      refine j_aload_n dX7_setLattice_52 rfl ?_
      refine j_V0v dX7_setLattice_53 ok_X7_derive v_X7_29 c_X7_derive rfl (e_X7_derive (M := wr (wr (wr M21 1 0 k) 1 1 n) 1 2 0) (LaM_of (r := (k, n, [])) ⟨by simp [wr], by simp [wr], by simp [wr], fun j x hj => by simp at hj⟩ ⟨by show k = 0 ∨ k = 1; omega, by show 1 ≤ n; omega, by show n ≤ 5; omega, by simp, fun _ h => absurd h List.not_mem_nil⟩) (GM_of (r := (k, n, [])) ⟨by simp [wr], by simp [wr], by simp [wr], fun j x hj => by simp at hj⟩ ⟨by show k = 0 ∨ k = 1; omega, by show 1 ≤ n; omega, by show n ≤ 5; omega, by simp, fun _ h => absurd h List.not_mem_nil⟩)) (fun M53 q53 => ?_)
      obtain ⟨f53, z53, P53, g53⟩ := q53
      refine j_iload_n dX7_setLattice_56 rfl ?_
      refine j_iret dX7_setLattice_57 rfl ?_
      have c57 : CurM (wr (wr (wr M21 1 0 k) 1 1 n) 1 2 0) (k, n, []) := ⟨by simp [wr], by simp [wr], by simp [wr], fun j x hj => by simp at hj⟩
      have o57 : okR (k, n, []) := ⟨by show k = 0 ∨ k = 1; omega, by show 1 ≤ n; omega, by show n ≤ 5; omega, by simp, fun _ h => absurd h List.not_mem_nil⟩
      exact ⟨_, rfl, Or.inl ⟨by omega, by rw [f21 1 (by decide)]; exact hc2, MS_edit g21 hq ho hl (((fr.rf.w1 (by decide)).w1 (by decide)).w1 (by decide)) c57 o57 f53 z53 P53 g53⟩⟩
    · refine j_iconst dX7_setLattice_18 ?_
      refine j_iret dX7_setLattice_19 rfl ?_
      exact ⟨_, rfl, Or.inr ⟨by omega, rfl, rfl⟩⟩
