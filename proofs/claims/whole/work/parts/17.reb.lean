/-! class Group: rebuild, and what is asked of it -/
def GInv (M : Mem) : Prop := M 10 6 = (glst (M 11) 300).length ∧ Elem 12 M (glst (M 11) 300) ∧ ∀ c : Int, 0 ≤ c → c < 300 → (M 11 c = 1 ∧ inG (M 1 0) (M 1 1) (gP M) c) ∨ (M 11 c = 0 ∧ ¬ inG (M 1 0) (M 1 1) (gP M) c)
theorem Clo_next {k n : Int} {P : Int → Prop} {es : List Int} {i : Nat} {x : Int} (h : Clo k n P es i) (hx : es[i]? = some x) (hp : ∀ g, P g → tm k n x g ∈ es) : Clo k n P es (i + 1) := by
  obtain ⟨h1, h2, h3, h4, h5⟩ := h
  refine ⟨h1, h2, h3, h4, fun j hj y hy g hg => ?_⟩
  by_cases e : j = i
  · subst e
    rw [hx] at hy
    cases hy
    exact hp g hg
  · exact h5 j (by omega) y hy g hg

theorem l_reb_in {Q : Option PV → Mem → Prop} (i : Nat) (m : Nat) : ∀ (j : Int) (M : Mem) (es : List Int), Lat M → GV M → BS M es → ClM M es i → i < es.length → (∀ j' : Int, 0 ≤ j' → j' < j → ∀ x, es[i]? = some x → tm (M 1 0) (M 1 1) x (M 3 j') ∈ es) → 0 ≤ j → j ≤ M 2 1 → M 2 1 - j < m → (∀ M1 es1, fr [10, 11, 12] M M1 → BS M1 es1 → ClM M1 es1 (i + 1) → i + 1 ≤ es1.length → J SHC mi_X3_rebuild 78 [some (vR 10), some (vI i), some (vI (M 2 1))] [] M1 Q) → J SHC mi_X3_rebuild 36 [some (vR 10), some (vI i), some (vI j)] [] M Q := by
  induction m with
  | zero => intro j M es _ _ _ _ _ _ h0 h1 h2; omega
  | succ m ih =>
  intro j M es hL hg hb hcl hi hjs h0 h1 h2 K
  obtain ⟨hb1, hb2, hb3⟩ := id hb
  have hg1 := hg.1.1
  have hg2 := hg.1.2
  have hlen := Clo_len hL hcl
  obtain ⟨x0, hx0⟩ : ∃ x0, es[i]? = some x0 := ⟨_, List.getElem?_eq_getElem hi⟩
  have hxm : x0 ∈ es := List.mem_of_getElem? hx0
  have ex : M 12 i = x0 := hb2 i x0 hx0
  have hv1 : vc (M 1 0) (M 1 1) (M 12 i) := by rw [ex]; exact hcl.2.1 x0 hxm
  refine j_iload_n dX3_rebuild_36 rfl ?_
  refine j_aload_n dX3_rebuild_37 rfl ?_
  refine j_getR dX3_rebuild_38 f_X3_29 rfl rfl ?_
  refine j_getI (kz := 1) rfl dX3_rebuild_41 f_X3_63 rfl rfl ?_
  refine j_icmp_ge 78 dX3_rebuild_44 rfl (by unfold inR; omega) (by unfold inR; omega) (fun c44 => ?_) (fun c44 => ?_)
  · have hj : j = M 2 1 := by omega
    subst hj
    refine K M es fr.rf hb (Clo_next hcl hx0 (fun g hg' => ?_)) (by omega)
    obtain ⟨j', a0, a1, rfl⟩ := hg'
    exact hjs j' a0 a1 x0 hx0
  · refine j_aload_n dX3_rebuild_47 rfl ?_
    refine j_aload_n dX3_rebuild_48 rfl ?_
    refine j_getR dX3_rebuild_49 f_X3_25 rfl rfl ?_
    refine j_aload_n dX3_rebuild_52 rfl ?_
    refine j_getR dX3_rebuild_53 f_X3_15 rfl rfl ?_
    refine j_iload_n dX3_rebuild_56 rfl ?_
    refine j_iald dX3_rebuild_57 (by first | rfl | assumption) (by decide) (by omega) (by omega) ?_
    refine j_aload_n dX3_rebuild_58 rfl ?_
    refine j_getR dX3_rebuild_59 f_X3_29 rfl rfl ?_
    refine j_iload_n dX3_rebuild_62 rfl ?_
    refine j_V1p dX3_rebuild_63 ok_X2_codeAt v_X3_68 c_X2_codeAt rfl (e_X2_codeAt (by omega) (by omega)) ?_
    refine j_V2p dX3_rebuild_66 ok_X5_times v_X3_71 c_X5_times rfl (e_X5_times hL hv1 (hg.2 j h0 c44)) ?_
    refine j_V1v dX3_rebuild_69 ok_X3_admit v_X3_59 c_X3_admit rfl (e_X3_admit (c := tm (M 1 0) (M 1 1) (M 12 i) (M 3 j)) hb hcl.1 (fun x hx => vc_300 hL (hcl.2.1 x hx)) (vc_300 hL (vc_tm hL.1 hL.2.1))) (fun M69 q69 => ?_)
    refine j_iinc dX3_rebuild_72 rfl (by decide) (nol rfl) (by simp only [List.set_cons_zero, List.set_cons_succ]; rfl) ?_
    refine j_goto 36 dX3_rebuild_75 rfl ?_
    have f := q69.1
    have e1 : M69 1 = M 1 := f 1 (by decide)
    have e2 : M69 2 = M 2 := f 2 (by decide)
    have e3 : M69 3 = M 3 := f 3 (by decide)
    have hcl' : ClM M (add es (tm (M 1 0) (M 1 1) (M 12 i) (M 3 j))) i := Clo_add hL.1 hL.2.1 hcl (by omega) (by rw [ex]; exact hxm) ⟨j, h0, c44, rfl⟩
    refine ih (j + 1) M69 _ (Lat_fr f (by decide) hL) (GV_fr f (by decide) (by decide) (by decide) hg) q69.2 (ClM_fr f (by decide) (by decide) (by decide) hcl') (by have := add_len (es := es) (c := tm (M 1 0) (M 1 1) (M 12 i) (M 3 j)); omega) (fun j' h0' h1' y hy => ?_) (by omega) (by rw [e2]; omega) (by rw [e2]; omega) (fun M1 es1 f1 b1 c1 l1 => ?_)
    · rw [e1, e3]
      have hx' := add_get (c := tm (M 1 0) (M 1 1) (M 12 i) (M 3 j)) hx0
      rw [hy] at hx'
      have hyx : y = x0 := Option.some.inj hx'
      rw [hyx]
      by_cases q : j' = j
      · subst q
        exact add_mem.mpr (Or.inr (by rw [ex]))
      · exact add_mem.mpr (Or.inl (hjs j' h0' (by omega) x0 hx0))
    · rw [e2]
      exact K M1 es1 (f.tr f1) b1 c1 l1
theorem l_reb (m : Nat) : ∀ (i : Nat) (M : Mem) (es : List Int) (w : Option PV), Lat M → GV M → BS M es → ClM M es i → i ≤ es.length → 300 - i < m → J SHC mi_X3_rebuild 19 [some (vR 10), some (vI i), w] [] M (pv (fun M1 => fr [10, 11, 12] M M1 ∧ GInv M1)) := by
  induction m with
  | zero => intro i M es w hL _ _ hcl h1 h2; have := Clo_len hL hcl; omega
  | succ m ih =>
  intro i M es w hL hg hb hcl h1 h2
  obtain ⟨hb1, hb2, hb3⟩ := id hb
  have hlen := Clo_len hL hcl
  have h01 : ∀ j : Int, 0 ≤ j → j < 300 → M 11 j = 0 ∨ M 11 j = 1 := fun j a b => by
    rcases hb3 j a b with h | h
    · exact Or.inr h.1
    · exact Or.inl h.1
  refine j_iload_n dX3_rebuild_19 rfl ?_
  refine j_aload_n dX3_rebuild_20 rfl ?_
  refine j_getI (kz := 6) rfl dX3_rebuild_21 f_X3_33 rfl rfl ?_
  refine j_icmp_ge 84 dX3_rebuild_24 rfl (by unfold inR; omega) (by unfold inR; omega) (fun c24 => ?_) (fun c24 => ?_)
  · have hi : i = es.length := by omega
    refine j_aload_n dX3_rebuild_84 rfl ?_
    refine j_V0v dX3_rebuild_85 ok_X3_listByCode v_X3_75 c_X3_listByCode rfl (e_X3_listByCode h01) (fun M85 q85 => ?_)
    refine j_vret dX3_rebuild_88 rfl ⟨rfl, q85.1.up (by decide), ?_⟩
    subst hi
    have f := q85.1
    have e1 : M85 1 = M 1 := f 1 (by decide)
    have e11 : M85 11 = M 11 := f 11 (by decide)
    have e10 : M85 10 = M 10 := f 10 (by decide)
    have eP : gP M85 = gP M := gP_fr f (by decide) (by decide)
    have hall := Clo_all hcl
    have hperm : es.Perm (glst (M 11) 300) := nd_same hcl.1 glst_nd (fun c => by
      rw [glst_mem]
      constructor
      · intro hc
        have hr := vc_300 hL (hcl.2.1 c hc)
        refine ⟨hr.1, hr.2, ?_⟩
        rcases hb3 c hr.1 hr.2 with h | h
        · omega
        · exact absurd hc h.2
      · rintro ⟨a, b, d⟩
        rcases hb3 c a b with h | h
        · exact h.2
        · exact absurd h.1 d)
    refine ⟨?_, ?_, fun c a b => ?_⟩
    · rw [e10, e11, hb1, hperm.length_eq]
    · rw [e11]; exact q85.2
    · rw [e11, e1, eP]
      rcases hb3 c a b with h | h
      · exact Or.inl ⟨h.1, (hall c).mp h.2⟩
      · exact Or.inr ⟨h.1, fun h9 => h.2 ((hall c).mpr h9)⟩
  · refine j_iload_n dX3_rebuild_27 rfl ?_
    refine j_sipush dX3_rebuild_28 (by decide +kernel) ?_
    refine j_icmp_ge 84 dX3_rebuild_31 rfl (by unfold inR; omega) (by unfold inR; omega) (fun c31 => ?_) (fun c31 => ?_)
    · exfalso; omega
    · refine j_iconst dX3_rebuild_34 ?_
      refine j_istore_n dX3_rebuild_35 (by decide) (nol rfl) (by show List.set _ 2 _ = _; simp only [List.set_cons_zero, List.set_cons_succ]; rfl) ?_
      refine l_reb_in i 5 0 M es hL hg hb hcl (by omega) (fun j' a b => by omega) (by omega) hg.1.1 (by have := hg.1.2; omega) (fun M1 es1 f1 b1 c1 l1 => ?_)
      refine j_iinc dX3_rebuild_78 rfl (by decide) (nol rfl) (by simp only [List.set_cons_zero, List.set_cons_succ]; rfl) ?_
      refine j_goto 19 dX3_rebuild_81 rfl ?_
      refine j_mono ?_ (ih (i + 1) M1 es1 _ (Lat_fr f1 (by decide) hL) (GV_fr f1 (by decide) (by decide) (by decide) hg) b1 c1 l1 (by omega))
      rintro v M2 ⟨rfl, hf, hj⟩
      exact ⟨rfl, f1.tr hf, hj⟩
theorem e_X3_rebuild {M : Mem} (hL : Lat M) (hg : GV M) : J SHC mi_X3_rebuild 0 (ent [vR 10] 3) [] M (pv (fun M1 => fr [10, 11, 12] M M1 ∧ GInv M1)) := by
  show J SHC mi_X3_rebuild 0 [some (vR 10), none, none] [] M _
  refine j_aload_n dX3_rebuild_0 rfl ?_
  refine j_getR dX3_rebuild_1 f_X3_9 rfl rfl ?_
  refine j_N1v dX3_rebuild_4 ok_X6_clearMarks n_X3_55 (e_clearMarks (r := 11) (len := 300) rfl (by decide)) (fun M4 q4 => ?_)
  obtain ⟨f4, g4⟩ := q4
  refine j_aload_n dX3_rebuild_7 rfl ?_
  refine j_iconst dX3_rebuild_8 ?_
  refine j_putI (kz := 6) rfl dX3_rebuild_9 g_X3_33 rfl rfl ?_
  refine j_aload_n dX3_rebuild_12 rfl ?_
  refine j_iconst dX3_rebuild_13 ?_
  refine j_V1v dX3_rebuild_14 ok_X3_admit v_X3_59 c_X3_admit rfl (e_X3_admit (es := []) (c := 0) ⟨by rw [wr_self]; rfl, fun j x hj => by simp at hj, fun c a b => Or.inr ⟨by rw [wr_ne _ _ (by omega), g4, if_pos ⟨a, b⟩], by simp⟩⟩ (by simp) (fun x hx => by simp at hx) (by omega)) (fun M14 q14 => ?_)
  obtain ⟨f14, b14⟩ := q14
  refine j_iconst dX3_rebuild_17 ?_
  refine j_istore_n dX3_rebuild_18 (by decide) (nol rfl) (by show List.set _ 1 _ = _; simp only [List.set_cons_zero, List.set_cons_succ]; rfl) ?_
  have fA : fr [10, 11, 12] M M14 := ((f4.up (by decide)).w1 (by decide)).tr f14
  have hcl : ClM M14 [0] 0 := by
    refine ⟨by simp, fun c hc => ?_, by simp, fun c hc => ?_, fun j hj => by omega⟩
    · simp at hc
      subst hc
      have h1 := (Lat_fr fA (by decide) hL)
      obtain ⟨hk, hn1, hn5, hc1, hc2⟩ := h1
      have ht := tu_c hk
      unfold vc
      refine ⟨by omega, ?_⟩
      exact Int.mul_pos (by omega) (by omega)
    · simp at hc
      subst hc
      exact inG_0
  refine j_mono ?_ (l_reb 301 0 M14 [0] _ (Lat_fr fA (by decide) hL) (GV_fr fA (by decide) (by decide) (by decide) hg) (by simpa [add] using b14) hcl (by simp) (by omega))
  rintro v M1 ⟨rfl, hf, hj⟩
  exact ⟨rfl, fA.tr hf, hj⟩
theorem e_X3_size {M : Mem} : J SHC mi_X3_size 0 (ent [vR 10] 1) [] M (pu (vI (M 10 6)) M) := by
  show J SHC mi_X3_size 0 [some (vR 10)] [] M _
  refine j_aload_n dX3_size_0 rfl ?_
  refine j_getI (kz := 6) rfl dX3_size_1 f_X3_33 rfl rfl ?_
  refine j_iret dX3_size_4 rfl ?_
  exact pu_i (by first | rfl | omega | (simp; done))
theorem e_X3_elementAt {M : Mem} {i : Int} (h0 : 0 ≤ i) (h4 : i < 300) : J SHC mi_X3_elementAt 0 (ent [vR 10, vI i] 2) [] M (pu (vI (M 12 i)) M) := by
  show J SHC mi_X3_elementAt 0 [some (vR 10), some (vI i)] [] M _
  refine j_iload_n dX3_elementAt_0 rfl ?_
  refine j_sipush dX3_elementAt_1 (by decide +kernel) ?_
  refine j_N2z dX3_elementAt_4 ok_X6_isInside n_X3_37 (e_isInside (by first | assumption | (unfold inR; omega)) (by first | assumption | (unfold inR; omega))) (fun z4 M4 q4 => ?_)
  obtain ⟨rfl, q4⟩ := q4
  refine j_if_eq 19 dX3_elementAt_7 rfl (by unfold inR; omega) (fun c7 => ?_) (fun c7 => ?_)
  · refine j_iconst dX3_elementAt_19 ?_
    refine j_iret dX3_elementAt_20 rfl ?_
    first | (exfalso; omega) | exact pu_i rfl
  · refine j_aload_n dX3_elementAt_10 rfl ?_
    refine j_getR dX3_elementAt_11 f_X3_15 rfl rfl ?_
    refine j_iload_n dX3_elementAt_14 rfl ?_
    refine j_iald dX3_elementAt_15 (by first | rfl | assumption) (by decide) (by omega) (by omega) ?_
    refine j_goto 20 dX3_elementAt_16 rfl ?_
    refine j_iret dX3_elementAt_20 rfl ?_
    first | (exfalso; omega) | exact pu_i rfl
def M01 (a : Nat) (len : Int) (M : Mem) : Prop := ∀ j : Int, 0 ≤ j → j < len → M a j = 0 ∨ M a j = 1
theorem M01.r {a : Nat} {len : Int} {M : Mem} (h : M01 a len M) {j : Int} (h0 : 0 ≤ j) (h1 : j < len) : inR (M a j) := by
  have := h j h0 h1
  unfold inR; omega
theorem e_X3_has {M : Mem} {c : Int} (hm : M01 11 300 M) (hc : inR c) : J SHC mi_X3_has 0 (ent [vR 10, vI c] 2) [] M (bz (0 ≤ c ∧ c < 300 ∧ M 11 c = 1) M) := by
  show J SHC mi_X3_has 0 [some (vR 10), some (vI c)] [] M _
  refine j_iload_n dX3_has_0 rfl ?_
  refine j_sipush dX3_has_1 (by decide +kernel) ?_
  refine j_N2z dX3_has_4 ok_X6_isInside n_X3_37 (e_isInside (by first | assumption | (unfold inR; omega)) (by first | assumption | (unfold inR; omega))) (fun z4 M4 q4 => ?_)
  obtain ⟨rfl, q4⟩ := q4
  refine j_if_eq 23 dX3_has_7 rfl (by first | assumption | exact hm.r (by omega) (by omega) | (unfold inR; omega)) (fun c7 => ?_) (fun c7 => ?_)
  · refine j_iconst dX3_has_23 ?_
    refine j_zret dX3_has_24 rfl (by first | exact Or.inl rfl | exact Or.inr rfl | omega) ?_
    first | exact bz_i (Or.inl ⟨rfl, by omega, by omega, by have := hm c (by omega) (by omega); omega⟩) | exact bz_i (Or.inr ⟨rfl, fun h => by omega⟩)
  · refine j_aload_n dX3_has_10 rfl ?_
    refine j_getR dX3_has_11 f_X3_9 rfl rfl ?_
    refine j_iload_n dX3_has_14 rfl ?_
    refine j_bald dX3_has_15 (by first | rfl | assumption) (by decide) (by omega) (by omega) ?_
    refine j_if_eq 23 dX3_has_16 rfl (by first | assumption | exact hm.r (by omega) (by omega) | (unfold inR; omega)) (fun c16 => ?_) (fun c16 => ?_)
    · refine j_iconst dX3_has_23 ?_
      refine j_zret dX3_has_24 rfl (by first | exact Or.inl rfl | exact Or.inr rfl | omega) ?_
      first | exact bz_i (Or.inl ⟨rfl, by omega, by omega, by have := hm c (by omega) (by omega); omega⟩) | exact bz_i (Or.inr ⟨rfl, fun h => by omega⟩)
    · refine j_iconst dX3_has_19 ?_
      refine j_goto 24 dX3_has_20 rfl ?_
      refine j_zret dX3_has_24 rfl (by first | exact Or.inl rfl | exact Or.inr rfl | omega) ?_
      first | exact bz_i (Or.inl ⟨rfl, by omega, by omega, by have := hm c (by omega) (by omega); omega⟩) | exact bz_i (Or.inr ⟨rfl, fun h => by omega⟩)
theorem e_X3_hasTranslation {M : Mem} {x y : Int} (hL : Lat M) (hm : M01 11 300 M) (hx : inR x) (hy : inR y) : J SHC mi_X3_hasTranslation 0 (ent [vR 10, vI x, vI y] 3) [] M (bz (M 11 (mkc (M 1 1) 0 x y) = 1) M) := by
  obtain ⟨hk, hn1, hn5, hc1, hc2⟩ := id hL
  have ht := tu_c hk
  have hv := vc_300 hL (vc_mkc (k := M 1 0) (x := x) (y := y) hn1 (p := 0) (by omega))
  have ev : 0 * (M 1 1 * M 1 1) + (M 1 1 * (x % M 1 1) + y % M 1 1) = mkc (M 1 1) 0 x y := rfl
  show J SHC mi_X3_hasTranslation 0 [some (vR 10), some (vI x), some (vI y)] [] M _
  refine j_aload_n dX3_hasTranslation_0 rfl ?_
  refine j_aload_n dX3_hasTranslation_1 rfl ?_
  refine j_getR dX3_hasTranslation_2 f_X3_25 rfl rfl ?_
  refine j_iconst dX3_hasTranslation_5 ?_
  refine j_aload_n dX3_hasTranslation_6 rfl ?_
  refine j_getR dX3_hasTranslation_7 f_X3_25 rfl rfl ?_
  refine j_iload_n dX3_hasTranslation_10 rfl ?_
  refine j_V1p dX3_hasTranslation_11 ok_X5_wrap v_X3_41 c_X5_wrap rfl (e_X5_wrap hL (by first | assumption | (unfold inR; omega))) ?_
  refine j_aload_n dX3_hasTranslation_14 rfl ?_
  refine j_getR dX3_hasTranslation_15 f_X3_25 rfl rfl ?_
  refine j_iload_n dX3_hasTranslation_18 rfl ?_
  refine j_V1p dX3_hasTranslation_19 ok_X5_wrap v_X3_41 c_X5_wrap rfl (e_X5_wrap hL (by first | assumption | (unfold inR; omega))) ?_
  refine j_V3p dX3_hasTranslation_22 ok_X5_codeOf v_X3_47 c_X5_codeOf rfl (e_X5_codeOf hL) ?_
  refine j_V1z dX3_hasTranslation_25 ok_X3_has v_X3_51 c_X3_has rfl (e_X3_has (c := mkc (M 1 1) 0 x y) hm (by unfold inR; omega)) (fun z25 M25 q25 => ?_)
  obtain ⟨rfl, q25⟩ := q25
  refine j_zret dX3_hasTranslation_28 rfl (by first | exact Or.inl rfl | exact Or.inr rfl | omega) ?_
  refine bz_i ?_
  rcases q25 with q | q
  · exact Or.inl ⟨q.1, q.2.2.2⟩
  · exact Or.inr ⟨q.1, fun h => q.2 ⟨hv.1, hv.2, h⟩⟩
