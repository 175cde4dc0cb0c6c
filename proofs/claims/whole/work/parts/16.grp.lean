/-! class Group: the closure under the generators, its list by codes -/
def gP (M : Mem) : Int → Prop := fun g => ∃ i : Int, 0 ≤ i ∧ i < M 2 1 ∧ M 3 i = g
def GV (M : Mem) : Prop := Gen4 M ∧ ∀ i : Int, 0 ≤ i → i < M 2 1 → vc (M 1 0) (M 1 1) (M 3 i)
def BS (M : Mem) (es : List Int) : Prop := M 10 6 = es.length ∧ Elem 12 M es ∧ Memb 11 M es
abbrev ClM (M : Mem) (es : List Int) (i : Nat) : Prop := Clo (M 1 0) (M 1 1) (gP M) es i
theorem gP_fr {S : List Nat} {M M1 : Mem} (h : fr S M M1) (h2 : 2 ∉ S) (h3 : 3 ∉ S) : gP M1 = gP M := by
  unfold gP; rw [h 2 h2, h 3 h3]
theorem GV_fr {S : List Nat} {M M1 : Mem} (h : fr S M M1) (h1 : 1 ∉ S) (h2 : 2 ∉ S) (h3 : 3 ∉ S) (hg : GV M) : GV M1 := by
  unfold GV Gen4 at *; rw [h 1 h1, h 2 h2, h 3 h3]; exact hg
theorem Lat_fr {S : List Nat} {M M1 : Mem} (h : fr S M M1) (h1 : 1 ∉ S) (hL : Lat M) : Lat M1 := by
  unfold Lat at *; rw [h 1 h1]; exact hL
theorem ClM_fr {S : List Nat} {M M1 : Mem} (h : fr S M M1) (h1 : 1 ∉ S) (h2 : 2 ∉ S) (h3 : 3 ∉ S) {es : List Int} {i : Nat} (hc : ClM M es i) : ClM M1 es i := by
  unfold ClM; rw [gP_fr h h2 h3, h 1 h1]; exact hc
theorem vc_300 {M : Mem} (hL : Lat M) {c : Int} (h : vc (M 1 0) (M 1 1) c) : 0 ≤ c ∧ c < 300 := by
  have := vc_b hL.1 hL.2.2.2.1 hL.2.2.2.2 h
  omega
theorem Clo_len {M : Mem} (hL : Lat M) {es : List Int} {i : Nat} (h : ClM M es i) : es.length ≤ 300 := nd_len 300 es h.1 (fun x hx => by have := vc_300 hL (h.2.1 x hx); omega)
theorem Elem_push {a : Nat} {M : Mem} {es : List Int} {c : Int} (h : Elem a M es) : Elem a (wr M a es.length c) (es ++ [c]) := by
  intro j x hj
  by_cases hl : j < es.length
  · rw [List.getElem?_append_left hl] at hj
    rw [wr_ne _ _ (by omega)]
    exact h j x hj
  · rw [List.getElem?_append_right (by omega)] at hj
    have h0 : j - es.length < 1 := (List.getElem?_eq_some_iff.mp hj).1
    have h1 : j = es.length := by omega
    subst h1
    simp at hj
    rw [wr_self, hj]
theorem Memb_push {a : Nat} {M : Mem} {es : List Int} {c : Int} (h : Memb a M es) : Memb a (wr M a c 1) (es ++ [c]) := by
  intro x h0 h1
  by_cases e : x = c
  · subst e
    left
    exact ⟨wr_self _ _ _ _, by simp⟩
  · rw [wr_ne _ _ (fun z => e z.2)]
    rcases h x h0 h1 with ⟨a1, a2⟩ | ⟨a1, a2⟩
    · exact Or.inl ⟨a1, by simp [a2]⟩
    · exact Or.inr ⟨a1, by simp [a2, e]⟩
theorem Elem_eq {a : Nat} {M M1 : Mem} {es : List Int} (h : Elem a M es) (e : M1 a = M a) : Elem a M1 es := by unfold Elem; rw [e]; exact h
theorem Memb_eq {a : Nat} {M M1 : Mem} {es : List Int} (h : Memb a M es) (e : M1 a = M a) : Memb a M1 es := by unfold Memb; rw [e]; exact h

theorem e_X3_admit {M : Mem} {es : List Int} {c : Int} (hb : BS M es) (hnd : es.Nodup) (hr : ∀ x ∈ es, 0 ≤ x ∧ x < 300) (hc : 0 ≤ c ∧ c < 300) : J SHC mi_X3_admit 0 (ent [vR 10, vI c] 2) [] M (pv (fun M1 => fr [10, 11, 12] M M1 ∧ BS M1 (add es c))) := by
  obtain ⟨hb1, hb2, hb3⟩ := hb
  have hlen := nd_len 300 es hnd (fun x hx => by have := hr x hx; omega)
  have hmc := hb3 c hc.1 hc.2
  have hlt : c ∉ es → es.length < 300 := fun h9 => by
    have := nd_len 300 (es ++ [c]) (by rw [List.nodup_append]; exact ⟨hnd, by simp, fun a ha b hb => by simp at hb; rw [hb]; exact fun e => h9 (e ▸ ha)⟩) (fun x hx => by
      rcases List.mem_append.mp hx with h | h
      · have := hr x h; omega
      · simp at h; omega)
    simp at this; omega
  have e1 : wr M 11 c 1 10 6 = M 10 6 := wr_ne _ _ (by omega)
  have e2 : wr (wr M 11 c 1) 12 (wr M 11 c 1 10 6) c 10 6 = M 10 6 := by rw [wr_ne _ _ (by omega), e1]
  have hmr : inR (M 11 c) := by unfold inR; omega
  show J SHC mi_X3_admit 0 [some (vR 10), some (vI c)] [] M _
  refine j_iload_n dX3_admit_0 rfl ?_
  refine j_sipush dX3_admit_1 (by decide +kernel) ?_
  refine j_N2z dX3_admit_4 ok_X6_isInside n_X3_37 (e_isInside (by first | assumption | (unfold inR; omega)) (by first | assumption | (unfold inR; omega))) (fun z4 M4 q4 => ?_)
  obtain ⟨rfl, q4⟩ := q4
  refine j_if_eq 59 dX3_admit_7 rfl (by first | assumption | (unfold inR; omega)) (fun c7 => ?_) (fun c7 => ?_)
  · exfalso; omega
  · refine j_aload_n dX3_admit_10 rfl ?_
    refine j_getR dX3_admit_11 f_X3_9 rfl rfl ?_
    refine j_iload_n dX3_admit_14 rfl ?_
    refine j_bald dX3_admit_15 (by first | rfl | assumption) (by decide) (by first | omega | (rw [e1, hb1]; have := hlt (by rcases hmc with h | h; (exfalso; omega); exact h.2); omega)) (by first | omega | (rw [e1, hb1]; have := hlt (by rcases hmc with h | h; (exfalso; omega); exact h.2); omega)) ?_
    refine j_if_ne 59 dX3_admit_16 rfl (by first | assumption | (unfold inR; omega)) (fun c16 => ?_) (fun c16 => ?_)
    · have hin : c ∈ es := by
        rcases hmc with h | h
        · exact h.2
        · exact absurd h.1 c16
      refine j_vret dX3_admit_59 rfl ⟨rfl, fr.rf, ?_⟩
      rw [show add es c = es from if_pos hin]
      exact ⟨hb1, hb2, hb3⟩
    · refine j_aload_n dX3_admit_19 rfl ?_
      refine j_getI (kz := 6) rfl dX3_admit_20 f_X3_33 rfl rfl ?_
      refine j_sipush dX3_admit_23 (by decide +kernel) ?_
      refine j_N2z dX3_admit_26 ok_X6_isInside n_X3_37 (e_isInside (by first | assumption | (unfold inR; omega)) (by first | assumption | (unfold inR; omega))) (fun z26 M26 q26 => ?_)
      obtain ⟨rfl, q26⟩ := q26
      refine j_if_eq 59 dX3_admit_29 rfl (by first | assumption | (unfold inR; omega)) (fun c29 => ?_) (fun c29 => ?_)
      · exfalso
        have hin : c ∉ es := by
          rcases hmc with h | h
          · omega
          · exact h.2
        have := hlt hin
        omega
      · refine j_aload_n dX3_admit_32 rfl ?_
        refine j_getR dX3_admit_33 f_X3_9 rfl rfl ?_
        refine j_iload_n dX3_admit_36 rfl ?_
        refine j_iconst dX3_admit_37 ?_
        refine j_bast dX3_admit_38 (by first | rfl | assumption) (by decide) (by first | omega | (rw [e1, hb1]; have := hlt (by rcases hmc with h | h; (exfalso; omega); exact h.2); omega)) (by first | omega | (rw [e1, hb1]; have := hlt (by rcases hmc with h | h; (exfalso; omega); exact h.2); omega)) (by first | exact Or.inl rfl | exact Or.inr rfl) ?_
        refine j_aload_n dX3_admit_39 rfl ?_
        refine j_getR dX3_admit_40 f_X3_15 rfl rfl ?_
        refine j_aload_n dX3_admit_43 rfl ?_
        refine j_getI (kz := 6) rfl dX3_admit_44 f_X3_33 rfl rfl ?_
        refine j_iload_n dX3_admit_47 rfl ?_
        refine j_iast dX3_admit_48 (by first | rfl | assumption) (by decide) (by first | omega | (rw [e1, hb1]; have := hlt (by rcases hmc with h | h; (exfalso; omega); exact h.2); omega)) (by first | omega | (rw [e1, hb1]; have := hlt (by rcases hmc with h | h; (exfalso; omega); exact h.2); omega)) ?_
        refine j_aload_n dX3_admit_49 rfl ?_
        refine j_dup dX3_admit_50 (fun _ h => by cases h) ?_
        refine j_getI (kz := 6) rfl dX3_admit_51 f_X3_33 rfl rfl ?_
        refine j_iconst dX3_admit_54 ?_
        refine j_iadd dX3_admit_55 ?_
        refine j_putI (kz := 6) rfl dX3_admit_56 g_X3_33 rfl rfl ?_
        have hin : c ∉ es := by
          rcases hmc with h | h
          · omega
          · exact h.2
        refine j_vret dX3_admit_59 rfl ⟨rfl, ((fr.rf.w1 (by decide)).w1 (by decide)).w1 (by decide), ?_⟩
        rw [show add es c = es ++ [c] from if_neg hin]
        refine ⟨by rw [wr_self, e2, hb1]; simp, ?_, ?_⟩
        · have h9 := Elem_push (c := c) (Elem_eq (M1 := wr M 11 c 1) hb2 (by funext j; exact wr_ne _ _ (by omega)))
          rw [← hb1, ← e1] at h9
          exact Elem_eq h9 (by funext j; exact wr_ne _ _ (by omega))
        · have h9 := Memb_push (c := c) hb3
          exact Memb_eq h9 (by funext j; rw [wr_ne _ _ (by omega), wr_ne _ _ (by omega)])
theorem l_list (m : Nat) : ∀ (q : Nat) (M : Mem), (∀ j : Int, 0 ≤ j → j < 300 → M 11 j = 0 ∨ M 11 j = 1) → q ≤ 300 → 300 - q < m → Elem 12 M (glst (M 11) q) → J SHC mi_X3_listByCode 4 [some (vR 10), some (vI (glst (M 11) q).length), some (vI q)] [] M (pv (fun M1 => fr [12] M M1 ∧ Elem 12 M1 (glst (M 11) 300))) := by
  induction m with
  | zero => intro q M h0 h1 h2; omega
  | succ m ih =>
  intro q M h0 h1 h2 he
  have hl := glst_len (f := M 11) q
  have hmr : inR (M 11 q) ∨ ¬ (q : Int) < 300 := by
    by_cases h9 : (q : Int) < 300
    · left
      have := h0 q (by omega) h9
      unfold inR; omega
    · exact Or.inr h9
  refine j_iload_n dX3_listByCode_4 rfl ?_
  refine j_sipush dX3_listByCode_5 (by decide +kernel) ?_
  refine j_icmp_ge 43 dX3_listByCode_8 rfl (by first | (unfold inR; omega) | (rcases hmr with h | h; exact h; exfalso; omega)) (by first | (unfold inR; omega) | (rcases hmr with h | h; exact h; exfalso; omega)) (fun c8 => ?_) (fun c8 => ?_)
  · refine j_vret dX3_listByCode_43 rfl ?_
    first
    | (have hq : q = 300 := by omega
       subst hq
       exact ⟨rfl, fr.rf, he⟩)
    | (exfalso; omega)
  · refine j_iload_n dX3_listByCode_11 rfl ?_
    refine j_sipush dX3_listByCode_12 (by decide +kernel) ?_
    refine j_icmp_ge 43 dX3_listByCode_15 rfl (by first | (unfold inR; omega) | (rcases hmr with h | h; exact h; exfalso; omega)) (by first | (unfold inR; omega) | (rcases hmr with h | h; exact h; exfalso; omega)) (fun c15 => ?_) (fun c15 => ?_)
    · refine j_vret dX3_listByCode_43 rfl ?_
      first
      | (have hq : q = 300 := by omega
         subst hq
         exact ⟨rfl, fr.rf, he⟩)
      | (exfalso; omega)
    · refine j_aload_n dX3_listByCode_18 rfl ?_
      refine j_getR dX3_listByCode_19 f_X3_9 rfl rfl ?_
      refine j_iload_n dX3_listByCode_22 rfl ?_
      refine j_bald dX3_listByCode_23 (by first | rfl | assumption) (by decide) (by omega) (by omega) ?_
      refine j_if_eq 37 dX3_listByCode_24 rfl (by first | (unfold inR; omega) | (rcases hmr with h | h; exact h; exfalso; omega)) (fun c24 => ?_) (fun c24 => ?_)
      · refine j_iinc dX3_listByCode_37 rfl (by decide) (nol rfl) (by simp only [List.set_cons_zero, List.set_cons_succ]; rfl) ?_
        refine j_goto 4 dX3_listByCode_40 rfl ?_
        have e0 : glst (M 11) (q + 1) = glst (M 11) q := by simp [glst, c24]
        have h9 := ih (q + 1) M h0 (by omega) (by omega) (by rw [e0]; exact he)
        rw [e0] at h9
        exact h9
      · refine j_aload_n dX3_listByCode_27 rfl ?_
        refine j_getR dX3_listByCode_28 f_X3_15 rfl rfl ?_
        refine j_iload_n dX3_listByCode_31 rfl ?_
        refine j_iload_n dX3_listByCode_32 rfl ?_
        refine j_iast dX3_listByCode_33 (by first | rfl | assumption) (by decide) (by omega) (by omega) ?_
        refine j_iinc dX3_listByCode_34 rfl (by decide) (nol rfl) (by simp only [List.set_cons_zero, List.set_cons_succ]; rfl) ?_
        refine j_iinc dX3_listByCode_37 rfl (by decide) (nol rfl) (by simp only [List.set_cons_zero, List.set_cons_succ]; rfl) ?_
        refine j_goto 4 dX3_listByCode_40 rfl ?_
        have e1 : wr M 12 (glst (M 11) q).length q 11 = M 11 := by funext j; exact wr_ne _ _ (by omega)
        have e0 : glst (M 11) (q + 1) = glst (M 11) q ++ [(q : Int)] := by simp [glst, c24]
        have h9 := ih (q + 1) (wr M 12 (glst (M 11) q).length q) (by rw [e1]; exact h0) (by omega) (by omega) (by rw [e1, e0]; exact Elem_push he)
        rw [e1, e0, List.length_append] at h9
        refine j_mono ?_ h9
        rintro v M1 ⟨rfl, hf, hj⟩
        exact ⟨rfl, (fr.rf.w1 (by decide)).tr hf, hj⟩
theorem e_X3_listByCode {M : Mem} (h0 : ∀ j : Int, 0 ≤ j → j < 300 → M 11 j = 0 ∨ M 11 j = 1) : J SHC mi_X3_listByCode 0 (ent [vR 10] 3) [] M (pv (fun M1 => fr [12] M M1 ∧ Elem 12 M1 (glst (M 11) 300))) := by
  show J SHC mi_X3_listByCode 0 [some (vR 10), none, none] [] M _
  refine j_iconst dX3_listByCode_0 ?_
  refine j_istore_n dX3_listByCode_1 (by decide) (nol rfl) (by show List.set _ 1 _ = _; simp only [List.set_cons_zero, List.set_cons_succ]; rfl) ?_
  refine j_iconst dX3_listByCode_2 ?_
  refine j_istore_n dX3_listByCode_3 (by decide) (nol rfl) (by show List.set _ 2 _ = _; simp only [List.set_cons_zero, List.set_cons_succ]; rfl) ?_
  exact l_list 301 0 M h0 (by omega) (by omega) (fun j x hj => by simp [glst] at hj)
