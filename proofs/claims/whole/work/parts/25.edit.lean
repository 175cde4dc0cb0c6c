/-! the class' state against the edits: the present, the history, what is derived -/
abbrev Row : Type := Int × Int × List Int
def okR (r : Row) : Prop := (r.1 = 0 ∨ r.1 = 1) ∧ 1 ≤ r.2.1 ∧ r.2.1 ≤ 5 ∧ r.2.2.length ≤ 4 ∧ ∀ g ∈ r.2.2, vc r.1 r.2.1 g
def CurC (M : Mem) (r : Row) : Prop := M 1 0 = r.1 ∧ M 1 1 = r.2.1 ∧ M 2 1 = r.2.2.length ∧ Elem 3 M r.2.2
def RowC (M : Mem) (a : Nat) (r : Row) : Prop := M a 0 = r.1 ∧ M a 1 = r.2.1 ∧ M a 2 = r.2.2.length ∧ ∀ (j : Nat) (x : Int), r.2.2[j]? = some x → M a (3 + j) = x
def HisC (M : Mem) (hs : List Row) : Prop := M 4 1 = hs.length ∧ ∀ (i : Nat) (r : Row), hs[i]? = some r → RowC M (6 + i) r
def push4 (hs : List Row) (r : Row) : List Row := if hs.length < 4 then hs ++ [r] else hs.drop 1 ++ [r]
noncomputable def ind (p : Prop) : Int := @ite Int p (Classical.propDecidable p) 1 0
theorem ind_1 {p : Prop} (h : p) : ind p = 1 := by unfold ind; exact if_pos h
theorem ind_0 {p : Prop} (h : ¬ p) : ind p = 0 := by unfold ind; exact if_neg h
/-- the group's elements, by codes -/
noncomputable def GL (r : Row) : List Int := glst (fun c => ind (inG r.1 r.2.1 (fun g => g ∈ r.2.2) c)) 300
theorem glst_congr {f g : Int → Int} : ∀ N : Nat, (∀ c : Int, 0 ≤ c → c < N → (f c = 0 ↔ g c = 0)) → glst f N = glst g N
  | 0, _ => rfl
  | N + 1, h => by
    simp only [glst]
    rw [glst_congr N (fun c a b => h c a (by omega))]
    have := h N (by omega) (by omega)
    by_cases q : f N = 0
    · simp [q, this.mp q]
    · have q2 : ¬ g N = 0 := fun z => q (this.mpr z)
      simp [q, q2]
theorem GL_mem {r : Row} {c : Int} : c ∈ GL r ↔ 0 ≤ c ∧ c < 300 ∧ inG r.1 r.2.1 (fun g => g ∈ r.2.2) c := by
  unfold GL
  rw [glst_mem]
  by_cases h : inG r.1 r.2.1 (fun g => g ∈ r.2.2) c
  · rw [ind_1 h]; simp only [h, and_true]; omega
  · rw [ind_0 h]; simp [h]
theorem GL_len {r : Row} : (GL r).length ≤ 300 := glst_len 300
def OrbC (M : Mem) : Prop := ∃ wss : List (List Int), M 19 9 = wss.length ∧ OrbP M wss ∧ ∀ p : Int, 0 ≤ p → p < M 1 1 * M 1 1 → p ∈ wss.flatten
def DerC (M : Mem) (r : Row) : Prop := M 10 6 = (GL r).length ∧ Elem 12 M (GL r) ∧ MembN 11 300 M (GL r) ∧ FI M (GL r) ∧ OrbC M
def CI (M : Mem) (r : Row) (hs : List Row) : Prop := CurC M r ∧ okR r ∧ HisC M hs ∧ (∀ q ∈ hs, okR q) ∧ hs.length ≤ 4 ∧ DerC M r
theorem nn_b {n : Int} (h1 : 1 ≤ n) (h5 : n ≤ 5) : 1 ≤ n * n ∧ n * n ≤ 25 := by
  rcases (show n = 1 ∨ n = 2 ∨ n = 3 ∨ n = 4 ∨ n = 5 by omega) with rfl | rfl | rfl | rfl | rfl <;> decide
theorem Lat_of {M : Mem} {r : Row} (h : CurC M r) (ho : okR r) : Lat M := by
  obtain ⟨h1, h2, h3, h4⟩ := h
  obtain ⟨o1, o2, o3, o4, o5⟩ := ho
  unfold Lat
  rw [h1, h2]
  exact ⟨o1, o2, o3, nn_b o2 o3⟩
theorem gP_of {M : Mem} {r : Row} (h : CurC M r) : gP M = fun g => g ∈ r.2.2 := by
  obtain ⟨h1, h2, h3, h4⟩ := h
  funext g
  apply propext
  constructor
  · rintro ⟨i, a, b, rfl⟩
    have hi : i.toNat < r.2.2.length := by omega
    have e : r.2.2[i.toNat]? = some r.2.2[i.toNat] := List.getElem?_eq_getElem hi
    have := h4 i.toNat _ e
    rw [show ((i.toNat : Nat) : Int) = i from Int.toNat_of_nonneg a] at this
    rw [this]
    exact List.getElem_mem hi
  · intro hg
    obtain ⟨j, hj⟩ := List.getElem?_of_mem hg
    exact ⟨j, by omega, by rw [h3]; have := (List.getElem?_eq_some_iff.mp hj).1; omega, h4 j g hj⟩
theorem GV_of {M : Mem} {r : Row} (h : CurC M r) (ho : okR r) : GV M := by
  have hg := gP_of h
  obtain ⟨h1, h2, h3, h4⟩ := h
  refine ⟨⟨by omega, by rw [h3]; have := ho.2.2.2.1; omega⟩, fun i a b => ?_⟩
  rw [h1, h2]
  have : gP M (M 3 i) := ⟨i, a, b, rfl⟩
  rw [hg] at this
  exact ho.2.2.2.2 _ this
theorem CurC_fr {S : List Nat} {M M1 : Mem} {r : Row} (h : fr S M M1) (h1 : 1 ∉ S) (h2 : 2 ∉ S) (h3 : 3 ∉ S) (hc : CurC M r) : CurC M1 r := by
  unfold CurC Elem at *; rw [h 1 h1, h 2 h2, h 3 h3]; exact hc
theorem GL_vc {M : Mem} {r : Row} (ho : okR r) : ∀ x ∈ GL r, vc r.1 r.2.1 x := fun x hx => by
  have h := (GL_mem.mp hx).2.2
  have hnn := nn_b ho.2.1 ho.2.2.1
  refine inG_ind (R := fun c => vc r.1 r.2.1 c) ?_ (fun c g _ _ hg => vc_tm ho.1 ho.2.1) h
  have ht := tu_c ho.1
  exact ⟨by decide, Int.mul_pos (by omega) (by omega)⟩
theorem GL_0 {r : Row} : 0 ∈ GL r := GL_mem.mpr ⟨by decide, by decide, inG_0⟩
/-- rebuild's end in these words -/
theorem GInv_GL {M : Mem} {r : Row} (h : CurC M r) (hg : GInv M) : M 10 6 = (GL r).length ∧ Elem 12 M (GL r) ∧ MembN 11 300 M (GL r) := by
  obtain ⟨g1, g2, g3⟩ := hg
  have eP := gP_of h
  rw [eP, h.1, h.2.1] at g3
  have e : glst (M 11) 300 = GL r := glst_congr 300 (fun c a b => by
    rcases g3 c a b with ⟨q1, q2⟩ | ⟨q1, q2⟩
    · rw [q1, ind_1 q2]
    · rw [q1, ind_0 q2])
  rw [e] at g1 g2
  refine ⟨g1, g2, fun c a b => ?_⟩
  rcases g3 c a b with ⟨q1, q2⟩ | ⟨q1, q2⟩
  · exact Or.inl ⟨q1, GL_mem.mpr ⟨a, b, q2⟩⟩
  · exact Or.inr ⟨q1, fun z => q2 (GL_mem.mp z).2.2⟩
theorem RowC_of {M M1 : Mem} {a : Nat} {r : Row} (h : CurC M r) (ho : okR r) (hj : ∀ j : Int, 0 ≤ j → j < 7 → M1 a j = rowOf M j) : RowC M1 a r := by
  obtain ⟨h1, h2, h3, h4⟩ := h
  refine ⟨by rw [hj 0 (by omega) (by omega)]; exact h1, by rw [hj 1 (by omega) (by omega)]; exact h2, by rw [hj 2 (by omega) (by omega)]; exact h3, fun j x hx => ?_⟩
  have hl := (List.getElem?_eq_some_iff.mp hx).1
  have := ho.2.2.2.1
  rw [hj _ (by omega) (by omega)]
  unfold rowOf
  rw [if_neg (by omega), if_neg (by omega), if_neg (by omega), show (3 : Int) + (j : Int) - 3 = j by omega]
  exact h4 j x hx
theorem RowC_eq {M M1 : Mem} {a b : Nat} {r : Row} (h : RowC M b r) (hl : r.2.2.length ≤ 4) (hj : ∀ j : Int, 0 ≤ j → j < 7 → M1 a j = M b j) : RowC M1 a r := by
  obtain ⟨h1, h2, h3, h4⟩ := h
  refine ⟨by rw [hj 0 (by omega) (by omega)]; exact h1, by rw [hj 1 (by omega) (by omega)]; exact h2, by rw [hj 2 (by omega) (by omega)]; exact h3, fun j x hx => ?_⟩
  have hl2 := (List.getElem?_eq_some_iff.mp hx).1
  rw [hj _ (by omega) (by omega)]
  exact h4 j x hx
theorem e_X4_save {M : Mem} {r : Row} {hs : List Row} (hc : CurC M r) (ho : okR r) (hh : HisC M hs) (hq : ∀ q ∈ hs, okR q) (hl : hs.length ≤ 4) : J SHC mi_X4_save 0 (ent [vR 4, vR 1, vR 2] 3) [] M (pv (fun M1 => fr [4, 6, 7, 8, 9] M M1 ∧ HisC M1 (push4 hs r))) := by
  obtain ⟨h1, h2⟩ := hh
  by_cases h4 : hs.length < 4
  · refine j_mono ?_ (e_X4_save1 ⟨by omega, by omega⟩ (by omega))
    rintro v M1 ⟨rfl, f, e4, hr, hb⟩
    have en : (M 4 1).toNat = hs.length := by omega
    rw [en] at hr hb
    refine ⟨rfl, f, ?_⟩
    unfold push4
    rw [if_pos h4]
    refine ⟨by rw [e4, h1]; simp, fun i q hi => ?_⟩
    rcases push_get hi with ⟨a1, a2, _⟩ | ⟨a1, a2, _⟩
    · have h9 := h2 i q a2
      unfold RowC at h9 ⊢
      rw [hb (6 + i) (by omega) (by omega)]
      exact h9
    · rw [a1, a2]
      exact RowC_of hc ho hr
  · refine j_mono ?_ (e_X4_save2 (by omega))
    rintro v M1 ⟨rfl, f, e4, hr⟩
    refine ⟨rfl, f, ?_⟩
    unfold push4
    rw [if_neg h4]
    refine ⟨by rw [e4]; simp; omega, fun i q hi => ?_⟩
    rcases push_get hi with ⟨a1, a2, _⟩ | ⟨a1, a2, _⟩
    · rw [List.getElem?_drop] at a2
      have h9 := h2 (1 + i) q a2
      have hql := (hq q (List.mem_of_getElem? a2)).2.2.2.1
      have hi3 := (List.getElem?_eq_some_iff.mp a2).1
      refine RowC_eq h9 hql (fun j j0 j7 => ?_)
      have h8 := hr j j0 j7
      rcases (show i = 0 ∨ i = 1 ∨ i = 2 by omega) with rfl | rfl | rfl
      · exact h8.1
      · exact h8.2.1
      · exact h8.2.2.1
    · rw [List.length_drop] at a1
      rw [a2, show 6 + i = 9 by omega]
      exact RowC_of hc ho (fun j j0 j7 => (hr j j0 j7).2.2.2)
theorem HisC_fr {S : List Nat} {M M1 : Mem} {hs : List Row} (h : fr S M M1) (hl : hs.length ≤ 4) (h4 : 4 ∉ S) (hS : ∀ i, i < 4 → 6 + i ∉ S) (hh : HisC M hs) : HisC M1 hs := by
  obtain ⟨h1, h2⟩ := hh
  refine ⟨by rw [h 4 h4]; exact h1, fun i r hi => ?_⟩
  have hi4 := (List.getElem?_eq_some_iff.mp hi).1
  have h9 := h2 i r hi
  unfold RowC at h9 ⊢
  rw [h (6 + i) (hS i (by omega))]
  exact h9

theorem e_X6_refresh {M : Mem} {r : Row} (hc : CurC M r) (ho : okR r) : J SHC mi_X6_refresh 0 (ent [vR 0] 1) [] M (pv (fun M1 => fr [10, 11, 12, 16, 17, 18, 19, 20, 21, 22, 23] M M1 ∧ DerC M1 r)) := by
  have hL := Lat_of hc ho
  have hg := GV_of hc ho
  show J SHC mi_X6_refresh 0 [some (vR 0)] [] M _
  refine j_aload_n dX6_refresh_0 rfl ?_
  refine j_getR dX6_refresh_1 f_X6_35 rfl rfl ?_
  refine j_V0v dX6_refresh_4 ok_X3_rebuild v_X6_194 c_X3_rebuild rfl (e_X3_rebuild hL hg) (fun M4 q4 => ?_)
  obtain ⟨f4, g4⟩ := q4
  have c4 := CurC_fr f4 (by decide) (by decide) (by decide) hc
  obtain ⟨a1, a2, a3⟩ := GInv_GL c4 g4
  have hL4 := Lat_of c4 ho
  have hv4 : ∀ x ∈ GL r, vc (M4 1 0) (M4 1 1) x := by rw [c4.1, c4.2.1]; exact GL_vc (M := M4) ho
  refine j_aload_n dX6_refresh_7 rfl ?_
  refine j_getR dX6_refresh_8 f_X6_44 rfl rfl ?_
  refine j_V0v dX6_refresh_11 ok_X1_survey v_X6_197 c_X1_survey rfl (e_X1_survey GL_len hL4 a1 a2 hv4) (fun M11 q11 => ?_)
  obtain ⟨f11, g11⟩ := q11
  have c11 := CurC_fr f11 (by decide) (by decide) (by decide) c4
  refine j_aload_n dX6_refresh_14 rfl ?_
  refine j_getR dX6_refresh_15 f_X6_53 rfl rfl ?_
  refine j_V0v dX6_refresh_18 ok_X0_findOrbits v_X6_200 c_X0_findOrbits rfl (e_X0_findOrbits (Lat_of c11 ho) (GV_of c11 ho)) (fun M18 q18 => ?_)
  obtain ⟨f18, wss, w1, w2, w3⟩ := q18
  refine j_vret dX6_refresh_21 rfl ?_
  have e18 := f18 1 (by decide)
  refine ⟨rfl, ((f4.up (by decide)).tr (f11.up (by decide))).tr (f18.up (by decide)), ?_, ?_, ?_, ?_, wss, w1, w2, ?_⟩
  · rw [f18 10 (by decide), f11 10 (by decide)]; exact a1
  · exact Elem_eq (Elem_eq a2 (f11 12 (by decide))) (f18 12 (by decide))
  · exact MembN_eq (MembN_eq a3 (f11 11 (by decide))) (f18 11 (by decide))
  · unfold FI at g11 ⊢
    rw [f18 1 (by decide), f18 16 (by decide), f18 17 (by decide), f18 18 (by decide)]
    exact g11
  · rw [e18]; exact w3
theorem push4_len {hs : List Row} {r : Row} (h : hs.length ≤ 4) : (push4 hs r).length ≤ 4 := by
  unfold push4
  split
  · simp; omega
  · simp; omega
theorem push4_ok {hs : List Row} {r : Row} (h : ∀ q ∈ hs, okR q) (hr : okR r) : ∀ q ∈ push4 hs r, okR q := by
  intro q hq
  unfold push4 at hq
  split at hq
  · rcases List.mem_append.mp hq with z | z
    · exact h q z
    · simp at z; rw [z]; exact hr
  · rcases List.mem_append.mp hq with z | z
    · exact h q (List.mem_of_mem_drop z)
    · simp at z; rw [z]; exact hr
theorem notS : ∀ i, i < 4 → 6 + i ∉ [1, 2, 3] := fun i h => by simp; omega
theorem notR : ∀ i, i < 4 → 6 + i ∉ [10, 11, 12, 16, 17, 18, 19, 20, 21, 22, 23] := fun i h => by simp; omega
/-- behind an edit: the history saved, the present changed, all derived anew -/
theorem CI_edit {M1 M2 M3 : Mem} {r r' : Row} {hs : List Row} (hh : HisC M1 (push4 hs r)) (hq : ∀ q ∈ hs, okR q) (hr : okR r) (hl : hs.length ≤ 4) (f2 : fr [1, 2, 3] M1 M2) (hc : CurC M2 r') (ho : okR r') (f3 : fr [10, 11, 12, 16, 17, 18, 19, 20, 21, 22, 23] M2 M3) (hd : DerC M3 r') : CI M3 r' (push4 hs r) :=
  ⟨CurC_fr f3 (by decide) (by decide) (by decide) hc, ho, HisC_fr f3 (push4_len hl) (by decide) notR (HisC_fr f2 (push4_len hl) (by decide) notS hh), push4_ok hq hr, push4_len hl, hd⟩
theorem e_X6_setLattice {M : Mem} {r : Row} {hs : List Row} {k n : Int} (hI : CI M r hs) (hk : inR k) (hn : inR n) : J SHC mi_X6_setLattice 0 (ent [vR 0, vI k, vI n] 4) [] M (pz (fun z M1 => ((0 ≤ k ∧ k ≤ 1 ∧ 1 ≤ n ∧ n ≤ 5) ∧ z = r.2.1 ∧ CI M1 (k, n, []) (push4 hs r)) ∨ (¬ (0 ≤ k ∧ k ≤ 1 ∧ 1 ≤ n ∧ n ≤ 5) ∧ z = -1 ∧ M1 = M))) := by
  obtain ⟨hc, ho, hh, hq, hl, hd⟩ := id hI
  have hL := Lat_of hc ho
  have hg := GV_of hc ho
  show J SHC mi_X6_setLattice 0 [some (vR 0), some (vI k), some (vI n), none] [] M _
  refine j_iload_n dX6_setLattice_0 rfl ?_
  refine j_if_lt 19 dX6_setLattice_1 rfl (by first | assumption | (unfold inR; omega)) (fun c1 => ?_) (fun c1 => ?_)
  · refine j_iconst dX6_setLattice_19 ?_
    refine j_iret dX6_setLattice_20 rfl ?_
    exact ⟨_, rfl, Or.inr ⟨by omega, rfl, rfl⟩⟩
  · refine j_iload_n dX6_setLattice_4 rfl ?_
    refine j_iconst dX6_setLattice_5 ?_
    refine j_icmp_gt 19 dX6_setLattice_6 rfl (by first | assumption | (unfold inR; omega)) (by first | assumption | (unfold inR; omega)) (fun c6 => ?_) (fun c6 => ?_)
    · refine j_iconst dX6_setLattice_19 ?_
      refine j_iret dX6_setLattice_20 rfl ?_
      exact ⟨_, rfl, Or.inr ⟨by omega, rfl, rfl⟩⟩
    · refine j_iload_n dX6_setLattice_9 rfl ?_
      refine j_iconst dX6_setLattice_10 ?_
      refine j_icmp_lt 19 dX6_setLattice_11 rfl (by first | assumption | (unfold inR; omega)) (by first | assumption | (unfold inR; omega)) (fun c11 => ?_) (fun c11 => ?_)
      · refine j_iconst dX6_setLattice_19 ?_
        refine j_iret dX6_setLattice_20 rfl ?_
        exact ⟨_, rfl, Or.inr ⟨by omega, rfl, rfl⟩⟩
      · refine j_iload_n dX6_setLattice_14 rfl ?_
        refine j_iconst dX6_setLattice_15 ?_
        refine j_icmp_le 21 dX6_setLattice_16 rfl (by first | assumption | (unfold inR; omega)) (by first | assumption | (unfold inR; omega)) (fun c16 => ?_) (fun c16 => ?_)
        · refine j_aload_n dX6_setLattice_21 rfl ?_
          refine j_getR dX6_setLattice_22 f_X6_12 rfl rfl ?_
          refine j_getI (kz := 1) rfl dX6_setLattice_25 f_X6_60 rfl rfl ?_
          refine j_istore_n dX6_setLattice_28 (by decide) (nol rfl) (by show List.set _ 3 _ = _; simp only [List.set_cons_zero, List.set_cons_succ]; rfl) ?_
          refine j_aload_n dX6_setLattice_29 rfl ?_
          refine j_getR dX6_setLattice_30 f_X6_26 rfl rfl ?_
          refine j_aload_n dX6_setLattice_33 rfl ?_
          refine j_getR dX6_setLattice_34 f_X6_12 rfl rfl ?_
          refine j_aload_n dX6_setLattice_37 rfl ?_
          refine j_getR dX6_setLattice_38 f_X6_19 rfl rfl ?_
          refine j_V2v dX6_setLattice_41 ok_X4_save v_X6_64 c_X4_save rfl (e_X4_save hc ho hh hq hl) (fun M41 q41 => ?_)
          obtain ⟨f41, g41⟩ := q41
          refine j_aload_n dX6_setLattice_44 rfl ?_
          refine j_getR dX6_setLattice_45 f_X6_12 rfl rfl ?_
          refine j_iload_n dX6_setLattice_48 rfl ?_
          refine j_iload_n dX6_setLattice_49 rfl ?_
          refine j_V2v dX6_setLattice_50 ok_X5_choose v_X6_67 c_X5_choose rfl (e_X5_choose) (fun M50 q50 => ?_)
          subst q50
          refine j_aload_n dX6_setLattice_53 rfl ?_
          refine j_getR dX6_setLattice_54 f_X6_19 rfl rfl ?_
          refine j_V0v dX6_setLattice_57 ok_X2_clear v_X6_71 c_X2_clear rfl (e_X2_clear) (fun M57 q57 => ?_)
          subst q57
          have c57 : CurC (wr (wr (wr M41 1 0 k) 1 1 n) 2 1 0) (k, n, []) := ⟨by simp [wr], by simp [wr], by simp [wr], fun j x hj => by simp at hj⟩
          have f57 : fr [1, 2, 3] M41 (wr (wr (wr M41 1 0 k) 1 1 n) 2 1 0) := ((fr.rf.w1 (by decide)).w1 (by decide)).w1 (by decide)
          have o57 : okR (k, n, []) := ⟨by show k = 0 ∨ k = 1; omega, by show 1 ≤ n; omega, by show n ≤ 5; omega, by simp, fun _ h => absurd h List.not_mem_nil⟩
          refine j_aload_n dX6_setLattice_60 rfl ?_
          refine j_V0v dX6_setLattice_61 ok_X6_refresh v_X6_57 c_X6_refresh rfl (e_X6_refresh c57 o57) (fun M61 q61 => ?_)
          obtain ⟨f61, g61⟩ := q61
          refine j_iload_n dX6_setLattice_64 rfl ?_
          refine j_iret dX6_setLattice_65 rfl ?_
          exact ⟨_, rfl, Or.inl ⟨by omega, hc.2.1, CI_edit g41 hq ho hl f57 c57 o57 f61 g61⟩⟩
        · refine j_iconst dX6_setLattice_19 ?_
          refine j_iret dX6_setLattice_20 rfl ?_
          exact ⟨_, rfl, Or.inr ⟨by omega, rfl, rfl⟩⟩
def cod (n p u v : Int) : Int := p * (n * n) + (n * u + v)
theorem cod_mkc {n p u v : Int} (hu : 0 ≤ u ∧ u < n) (hv : 0 ≤ v ∧ v < n) : cod n p u v = mkc n p u v := by
  unfold cod mkc
  rw [Int.emod_eq_of_lt hu.1 hu.2, Int.emod_eq_of_lt hv.1 hv.2]
theorem cod_vc {k n p u v : Int} (hn : 1 ≤ n) (hp : 0 ≤ p ∧ p < 2 * tu k) (hu : 0 ≤ u ∧ u < n) (hv : 0 ≤ v ∧ v < n) : vc k n (cod n p u v) := by
  rw [cod_mkc hu hv]; exact vc_mkc hn hp
theorem e_X6_addGenerator {M : Mem} {r : Row} {hs : List Row} {p u v : Int} (hI : CI M r hs) (hp : inR p) (hu : inR u) (hv : inR v) : J SHC mi_X6_addGenerator 0 (ent [vR 0, vI p, vI u, vI v] 4) [] M (pz (fun z M1 => (¬ (0 ≤ p ∧ p < 2 * tu r.1 ∧ 0 ≤ u ∧ u < r.2.1 ∧ 0 ≤ v ∧ v < r.2.1) ∧ z = -1 ∧ M1 = M) ∨ ((0 ≤ p ∧ p < 2 * tu r.1 ∧ 0 ≤ u ∧ u < r.2.1 ∧ 0 ≤ v ∧ v < r.2.1) ∧ ((¬ r.2.2.length < 4 ∧ z = -2 ∧ M1 = M) ∨ (r.2.2.length < 4 ∧ z = (GL (r.1, r.2.1, r.2.2 ++ [cod r.2.1 p u v])).length ∧ CI M1 (r.1, r.2.1, r.2.2 ++ [cod r.2.1 p u v]) (push4 hs r)))))) := by
  obtain ⟨hc, ho, hh, hq, hl, hd⟩ := id hI
  have hL := Lat_of hc ho
  have hg := GV_of hc ho
  obtain ⟨hc1, hc2, hc3, hc4⟩ := id hc
  have hg4 := hg.1
  have ho4 := ho.2.2.2.1
  show J SHC mi_X6_addGenerator 0 [some (vR 0), some (vI p), some (vI u), some (vI v)] [] M _
  refine j_aload_n dX6_addGenerator_0 rfl ?_
  refine j_getR dX6_addGenerator_1 f_X6_12 rfl rfl ?_
  refine j_iload_n dX6_addGenerator_4 rfl ?_
  refine j_iload_n dX6_addGenerator_5 rfl ?_
  refine j_iload_n dX6_addGenerator_6 rfl ?_
  refine j_V3z dX6_addGenerator_7 ok_X5_hasMovement v_X6_74 c_X5_hasMovement rfl (e_X5_hasMovement hL hp hu hv) (fun z7 M7 q7 => ?_)
  obtain ⟨rfl, q7⟩ := q7
  rw [hc1, hc2] at q7
  refine j_if_ne 15 dX6_addGenerator_10 rfl (by unfold inR; omega) (fun c10 => ?_) (fun c10 => ?_)
  · refine j_aload_n dX6_addGenerator_15 rfl ?_
    refine j_getR dX6_addGenerator_16 f_X6_19 rfl rfl ?_
    refine j_V0z dX6_addGenerator_19 ok_X2_isFull v_X6_78 c_X2_isFull rfl (e_X2_isFull hg4) (fun z19 M19 q19 => ?_)
    obtain ⟨rfl, q19⟩ := q19
    rw [hc3] at q19
    refine j_if_eq 28 dX6_addGenerator_22 rfl (by unfold inR; omega) (fun c22 => ?_) (fun c22 => ?_)
    · refine j_aload_n dX6_addGenerator_28 rfl ?_
      refine j_getR dX6_addGenerator_29 f_X6_26 rfl rfl ?_
      refine j_aload_n dX6_addGenerator_32 rfl ?_
      refine j_getR dX6_addGenerator_33 f_X6_12 rfl rfl ?_
      refine j_aload_n dX6_addGenerator_36 rfl ?_
      refine j_getR dX6_addGenerator_37 f_X6_19 rfl rfl ?_
      refine j_V2v dX6_addGenerator_40 ok_X4_save v_X6_64 c_X4_save rfl (e_X4_save hc ho hh hq hl) (fun M40 q40 => ?_)
      obtain ⟨f40, g40⟩ := q40
      refine j_aload_n dX6_addGenerator_43 rfl ?_
      refine j_getR dX6_addGenerator_44 f_X6_19 rfl rfl ?_
      refine j_aload_n dX6_addGenerator_47 rfl ?_
      refine j_getR dX6_addGenerator_48 f_X6_12 rfl rfl ?_
      refine j_iload_n dX6_addGenerator_51 rfl ?_
      refine j_iload_n dX6_addGenerator_52 rfl ?_
      refine j_iload_n dX6_addGenerator_53 rfl ?_
      refine j_V3p dX6_addGenerator_54 ok_X5_codeOf v_X6_82 c_X5_codeOf rfl (e_X5_codeOf (Lat_fr f40 (by decide) hL)) ?_
      refine j_V1v dX6_addGenerator_57 ok_X2_append v_X6_86 c_X2_append rfl (e_X2_append (by unfold Gen4 at *; rw [f40 2 (by decide)]; exact hg4) (by rw [f40 2 (by decide), hc3]; omega)) (fun M57 q57 => ?_)
      have e1 := f40 1 (by decide)
      have e2 := f40 2 (by decide)
      have e3 := f40 3 (by decide)
      rw [e1, e2, hc2, hc3] at q57
      have hmv : (0 ≤ p ∧ p < 2 * tu r.1 ∧ 0 ≤ u ∧ u < r.2.1 ∧ 0 ≤ v ∧ v < r.2.1) := by
        rcases q7 with q | q
        · exact q.2
        · omega
      have hlt : r.2.2.length < 4 := by omega
      have o57 : okR (r.1, r.2.1, r.2.2 ++ [cod r.2.1 p u v]) := ⟨ho.1, ho.2.1, ho.2.2.1, by show (r.2.2 ++ [cod r.2.1 p u v]).length ≤ 4; simp; omega, fun x hx => by
        rcases List.mem_append.mp hx with z | z
        · exact ho.2.2.2.2 x z
        · simp at z; rw [z]; exact cod_vc ho.2.1 ⟨hmv.1, hmv.2.1⟩ ⟨hmv.2.2.1, hmv.2.2.2.1⟩ hmv.2.2.2.2⟩
      have f57 : fr [1, 2, 3] M40 M57 := by rw [q57]; exact (fr.rf.w1 (by decide)).w1 (by decide)
      have c57 : CurC M57 (r.1, r.2.1, r.2.2 ++ [cod r.2.1 p u v]) := by
        rw [q57]
        refine ⟨by rw [wr_ne _ _ (by omega), wr_ne _ _ (by omega), e1]; exact hc1, by rw [wr_ne _ _ (by omega), wr_ne _ _ (by omega), e1]; exact hc2, by rw [wr_self]; simp, ?_⟩
        have h9 := Elem_push (c := cod r.2.1 p u v) (Elem_eq hc4 e3)
        exact Elem_eq h9 (by funext j; exact wr_ne _ _ (by omega))
      refine j_aload_n dX6_addGenerator_60 rfl ?_
      refine j_V0v dX6_addGenerator_61 ok_X6_refresh v_X6_57 c_X6_refresh rfl (e_X6_refresh c57 o57) (fun M61 q61 => ?_)
      obtain ⟨f61, g61⟩ := q61
      refine j_aload_n dX6_addGenerator_64 rfl ?_
      refine j_getR dX6_addGenerator_65 f_X6_35 rfl rfl ?_
      refine j_V0p dX6_addGenerator_68 ok_X3_size v_X6_90 c_X3_size rfl (e_X3_size) ?_
      refine j_iret dX6_addGenerator_71 rfl ?_
      exact ⟨_, rfl, Or.inr ⟨hmv, Or.inr ⟨hlt, g61.1, CI_edit g40 hq ho hl f57 c57 o57 f61 g61⟩⟩⟩
    · refine j_bipush dX6_addGenerator_25 (by decide +kernel) ?_
      refine j_iret dX6_addGenerator_27 rfl ?_
      refine ⟨_, rfl, Or.inr ⟨?_, Or.inl ⟨by omega, rfl, rfl⟩⟩⟩
      rcases q7 with q | q
      · exact q.2
      · omega
  · refine j_iconst dX6_addGenerator_13 ?_
    refine j_iret dX6_addGenerator_14 rfl ?_
    refine ⟨_, rfl, Or.inl ⟨?_, rfl, rfl⟩⟩
    rcases q7 with q | q
    · omega
    · exact q.2
