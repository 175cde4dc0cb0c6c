/-! THE MODEL: the closure -/
def BM (M : Mem) (es : List Int) : Prop := M 0 8 = es.length ∧ Elem 6 M es ∧ MembN 5 300 M es
def gM (M : Mem) : Int → Prop := fun g => ∃ i : Int, 0 ≤ i ∧ i < M 1 2 ∧ M 1 (3 + i) = g
def GM (M : Mem) : Prop := (0 ≤ M 1 2 ∧ M 1 2 ≤ 4) ∧ ∀ i : Int, 0 ≤ i → i < M 1 2 → vc (M 1 0) (M 1 1) (M 1 (3 + i))
abbrev ClN (M : Mem) (es : List Int) (i : Nat) : Prop := Clo (M 1 0) (M 1 1) (gM M) es i
theorem gM_fr {M M1 : Mem} (h : M1 1 = M 1) : gM M1 = gM M := by unfold gM; rw [h]
theorem ClN_fr {M M1 : Mem} (h : M1 1 = M 1) {es : List Int} {i : Nat} (hc : ClN M es i) : ClN M1 es i := by unfold ClN; rw [gM_fr h, h]; exact hc
theorem LaM_fr {M M1 : Mem} (h : M1 1 = M 1) (hL : LaM M) : LaM M1 := by unfold LaM at *; rw [h]; exact hL
theorem GM_fr {M M1 : Mem} (h : M1 1 = M 1) (hL : GM M) : GM M1 := by unfold GM at *; rw [h]; exact hL
theorem MPt_fr {M M1 : Mem} (h : M1 1 = M 1) (h0 : M1 0 3 = M 0 3) (h3 : M1 3 = M 3) (h4 : M1 4 = M 4) (hL : MPt M) : MPt M1 := by unfold MPt at *; rw [h, h0, h3, h4]; exact hL
theorem vm_300 {M : Mem} (hL : LaM M) {c : Int} (h : vc (M 1 0) (M 1 1) c) : 0 ≤ c ∧ c < 300 := by
  have := vc_b hL.1 hL.2.2.2.1 hL.2.2.2.2 h
  omega
theorem MembN_p1 {a : Nat} {N : Int} {M : Mem} {S : List Int} {c : Int} (h : MembN a N M S) : MembN a N (wr M a c 1) (S ++ [c]) := MembN_one h
theorem e_X7_addElement {M : Mem} {es : List Int} {c : Int} (hb : BM M es) (hnd : es.Nodup) (hr : ∀ x ∈ es, 0 ≤ x ∧ x < 300) (hc : 0 ≤ c ∧ c < 300) : J SHM mi_X7_addElement 0 (ent [vR 0, vI c] 2) [] M (pv (fun M1 => fr [0, 5, 6] M M1 ∧ (∀ j : Int, j ≠ 8 → M1 0 j = M 0 j) ∧ BM M1 (add es c))) := by
  obtain ⟨hb1, hb2, hb3⟩ := hb
  have hlen := nd_len 300 es hnd (fun x hx => by have := hr x hx; omega)
  have hmc := hb3 c hc.1 hc.2
  have hlt : c ∉ es → es.length < 300 := fun h9 => by
    have := nd_len 300 (es ++ [c]) (by rw [List.nodup_append]; exact ⟨hnd, by simp, fun a ha b hb => by simp at hb; rw [hb]; exact fun e => h9 (e ▸ ha)⟩) (fun x hx => by
      rcases List.mem_append.mp hx with h | h
      · have := hr x h; omega
      · simp at h; omega)
    simp at this; omega
  have e1 : wr M 5 c 1 0 8 = M 0 8 := wr_ne _ _ (by omega)
  have e2 : wr (wr M 5 c 1) 6 (wr M 5 c 1 0 8) c 0 8 = M 0 8 := by rw [wr_ne _ _ (by omega), e1]
  have hmr : inR (M 5 c) := by unfold inR; omega
  show J SHM mi_X7_addElement 0 [some (vR 0), some (vI c)] [] M _
  refine j_aload_n dX7_addElement_0 rfl ?_
  refine j_getR dX7_addElement_1 f_X7_22 rfl rfl ?_
  refine j_iload_n dX7_addElement_4 rfl ?_
  refine j_bald dX7_addElement_5 (by first | rfl | assumption) (by decide) (by first | omega | (rw [e1, hb1]; have := hlt (by rcases hmc with h | h; (exfalso; omega); exact h.2); omega)) (by first | omega | (rw [e1, hb1]; have := hlt (by rcases hmc with h | h; (exfalso; omega); exact h.2); omega)) ?_
  refine j_if_ne 36 dX7_addElement_6 rfl (by first | assumption | (unfold inR; omega)) (fun c6 => ?_) (fun c6 => ?_)
  · have hin : c ∈ es := by
      rcases hmc with h | h
      · exact h.2
      · exact absurd h.1 c6
    refine j_vret dX7_addElement_36 rfl ⟨rfl, fr.rf, fun _ _ => rfl, ?_⟩
    rw [show add es c = es from if_pos hin]
    exact ⟨hb1, hb2, hb3⟩
  · refine j_aload_n dX7_addElement_9 rfl ?_
    refine j_getR dX7_addElement_10 f_X7_22 rfl rfl ?_
    refine j_iload_n dX7_addElement_13 rfl ?_
    refine j_iconst dX7_addElement_14 ?_
    refine j_bast dX7_addElement_15 (by first | rfl | assumption) (by decide) (by first | omega | (rw [e1, hb1]; have := hlt (by rcases hmc with h | h; (exfalso; omega); exact h.2); omega)) (by first | omega | (rw [e1, hb1]; have := hlt (by rcases hmc with h | h; (exfalso; omega); exact h.2); omega)) (by first | exact Or.inl rfl | exact Or.inr rfl) ?_
    refine j_aload_n dX7_addElement_16 rfl ?_
    refine j_getR dX7_addElement_17 f_X7_26 rfl rfl ?_
    refine j_aload_n dX7_addElement_20 rfl ?_
    refine j_getI (kz := 8) rfl dX7_addElement_21 f_X7_92 rfl rfl ?_
    refine j_iload_n dX7_addElement_24 rfl ?_
    refine j_iast dX7_addElement_25 (by first | rfl | assumption) (by decide) (by first | omega | (rw [e1, hb1]; have := hlt (by rcases hmc with h | h; (exfalso; omega); exact h.2); omega)) (by first | omega | (rw [e1, hb1]; have := hlt (by rcases hmc with h | h; (exfalso; omega); exact h.2); omega)) ?_
    refine j_aload_n dX7_addElement_26 rfl ?_
    refine j_dup dX7_addElement_27 (fun _ h => by cases h) ?_
    refine j_getI (kz := 8) rfl dX7_addElement_28 f_X7_92 rfl rfl ?_
    refine j_iconst dX7_addElement_31 ?_
    refine j_iadd dX7_addElement_32 ?_
    refine j_putI (kz := 8) rfl dX7_addElement_33 g_X7_92 rfl rfl ?_
    have hin : c ∉ es := by
      rcases hmc with h | h
      · omega
      · exact h.2
    refine j_vret dX7_addElement_36 rfl ⟨rfl, ((fr.rf.w1 (by decide)).w1 (by decide)).w1 (by decide), fun j hj => by rw [wr_ne _ _ (fun z => hj z.2), wr_ne _ _ (by omega), wr_ne _ _ (by omega)], ?_⟩
    rw [show add es c = es ++ [c] from if_neg hin]
    refine ⟨by rw [wr_self, e2, hb1]; simp, ?_, ?_⟩
    · have h9 := Elem_push (c := c) (Elem_eq (M1 := wr M 5 c 1) hb2 (by funext j; exact wr_ne _ _ (by omega)))
      rw [← hb1, ← e1] at h9
      exact Elem_eq h9 (by funext j; exact wr_ne _ _ (by omega))
    · have h9 := MembN_one (c := c) hb3
      exact MembN_eq h9 (by funext j; rw [wr_ne _ _ (by omega), wr_ne _ _ (by omega)])
theorem l_der_in {Q : Option PV → Mem → Prop} (i : Nat) (m : Nat) : ∀ (j : Int) (M : Mem) (es : List Int), LaM M → MPt M → GM M → BM M es → ClN M es i → i < es.length → (∀ j' : Int, 0 ≤ j' → j' < j → ∀ x, es[i]? = some x → tm (M 1 0) (M 1 1) x (M 1 (3 + j')) ∈ es) → 0 ≤ j → j ≤ M 1 2 → M 1 2 - j < m → (∀ M1 es1, fr [0, 5, 6] M M1 → (∀ j : Int, j ≠ 8 → M1 0 j = M 0 j) → BM M1 es1 → ClN M1 es1 (i + 1) → i + 1 ≤ es1.length → J SHM mi_X7_derive 86 [some (vR 0), some (vI i), some (vI (M 1 2))] [] M1 Q) → J SHM mi_X7_derive 48 [some (vR 0), some (vI i), some (vI j)] [] M Q := by
  induction m with
  | zero => intro j M es _ _ _ _ _ _ _ h0 h1 h2; omega
  | succ m ih =>
  intro j M es hL hP hg hb hcl hi hjs h0 h1 h2 K
  obtain ⟨hb1, hb2, hb3⟩ := id hb
  have hg1 := hg.1.1
  have hg2 := hg.1.2
  have hlen : es.length ≤ 300 := nd_len 300 es hcl.1 (fun x hx => by have := vm_300 hL (hcl.2.1 x hx); omega)
  obtain ⟨x0, hx0⟩ : ∃ x0, es[i]? = some x0 := ⟨_, List.getElem?_eq_getElem hi⟩
  have hxm : x0 ∈ es := List.mem_of_getElem? hx0
  have ex : M 6 i = x0 := hb2 i x0 hx0
  have hv1 : vc (M 1 0) (M 1 1) (M 6 i) := by rw [ex]; exact hcl.2.1 x0 hxm
  refine j_iload_n dX7_derive_48 rfl ?_
  refine j_aload_n dX7_derive_49 rfl ?_
  refine j_getR dX7_derive_50 f_X7_7 rfl rfl ?_
  refine j_iconst dX7_derive_53 ?_
  refine j_iald dX7_derive_54 (by first | rfl | assumption) (by decide) (by omega) (by omega) ?_
  refine j_icmp_ge 86 dX7_derive_55 rfl (by unfold inR; omega) (by unfold inR; omega) (fun c55 => ?_) (fun c55 => ?_)
  · have hj : j = M 1 2 := by omega
    subst hj
    refine K M es fr.rf (fun _ _ => rfl) hb (Clo_next hcl hx0 (fun g hg' => ?_)) (by omega)
    obtain ⟨j', a0, a1, rfl⟩ := hg'
    exact hjs j' a0 a1 x0 hx0
  · refine j_aload_n dX7_derive_58 rfl ?_
    refine j_aload_n dX7_derive_59 rfl ?_
    refine j_aload_n dX7_derive_60 rfl ?_
    refine j_getR dX7_derive_61 f_X7_26 rfl rfl ?_
    refine j_iload_n dX7_derive_64 rfl ?_
    refine j_iald dX7_derive_65 (by first | rfl | assumption) (by decide) (by omega) (by omega) ?_
    refine j_aload_n dX7_derive_66 rfl ?_
    refine j_getR dX7_derive_67 f_X7_7 rfl rfl ?_
    refine j_iconst dX7_derive_70 ?_
    refine j_iload_n dX7_derive_71 rfl ?_
    refine j_iadd dX7_derive_72 ?_
    refine j_iald dX7_derive_73 (by first | rfl | assumption) (by decide) (by omega) (by omega) ?_
    refine j_V2p dX7_derive_74 ok_X7_times v_X7_102 c_X7_times rfl (e_X7_times hL hP hv1 (hg.2 j h0 c55)) ?_
    refine j_V1v dX7_derive_77 ok_X7_addElement v_X7_98 c_X7_addElement rfl (e_X7_addElement (c := tm (M 1 0) (M 1 1) (M 6 i) (M 1 (3 + j))) hb hcl.1 (fun x hx => vm_300 hL (hcl.2.1 x hx)) (vm_300 hL (vc_tm hL.1 hL.2.1))) (fun M77 q77 => ?_)
    refine j_iinc dX7_derive_80 rfl (by decide) (nol rfl) (by simp only [List.set_cons_zero, List.set_cons_succ]; rfl) ?_
    refine j_goto 48 dX7_derive_83 rfl ?_
    obtain ⟨f, f0, b77⟩ := q77
    have e1 : M77 1 = M 1 := f 1 (by decide)
    have hcl' : ClN M (add es (tm (M 1 0) (M 1 1) (M 6 i) (M 1 (3 + j)))) i := Clo_add hL.1 hL.2.1 hcl (by omega) (by rw [ex]; exact hxm) ⟨j, h0, c55, rfl⟩
    refine ih (j + 1) M77 _ (LaM_fr e1 hL) (MPt_fr e1 (f0 3 (by omega)) (f 3 (by decide)) (f 4 (by decide)) hP) (GM_fr e1 hg) b77 (ClN_fr e1 hcl') (by have := add_len (es := es) (c := tm (M 1 0) (M 1 1) (M 6 i) (M 1 (3 + j))); omega) (fun j' h0' h1' y hy => ?_) (by omega) (by rw [e1]; omega) (by rw [e1]; omega) (fun M1 es1 f1 g1 b1 c1 l1 => ?_)
    · rw [e1]
      have hx' := add_get (c := tm (M 1 0) (M 1 1) (M 6 i) (M 1 (3 + j))) hx0
      rw [hy] at hx'
      have hyx : y = x0 := Option.some.inj hx'
      rw [hyx]
      by_cases q : j' = j
      · subst q
        exact add_mem.mpr (Or.inr (by rw [ex]))
      · exact add_mem.mpr (Or.inl (hjs j' h0' (by omega) x0 hx0))
    · rw [e1]
      exact K M1 es1 (f.tr f1) (fun z hz => (g1 z hz).trans (f0 z hz)) b1 c1 l1
theorem l_der (m : Nat) : ∀ (i : Nat) (M : Mem) (es : List Int) (w : Option PV), LaM M → MPt M → GM M → BM M es → ClN M es i → i ≤ es.length → 300 - i < m → J SHM mi_X7_derive 38 [some (vR 0), some (vI i), w] [] M (pv (fun M1 => fr [0, 5, 6] M M1 ∧ (∀ j : Int, j ≠ 8 → M1 0 j = M 0 j) ∧ (∃ es : List Int, BM M1 es ∧ ClN M1 es es.length))) := by
  induction m with
  | zero =>
    intro i M es w hL _ _ _ hcl h1 h2
    have hlen : es.length ≤ 300 := nd_len 300 es hcl.1 (fun x hx => by have := vm_300 hL (hcl.2.1 x hx); omega)
    omega
  | succ m ih =>
  intro i M es w hL hP hg hb hcl h1 h2
  obtain ⟨hb1, hb2, hb3⟩ := id hb
  have hlen : es.length ≤ 300 := nd_len 300 es hcl.1 (fun x hx => by have := vm_300 hL (hcl.2.1 x hx); omega)
  refine j_iload_n dX7_derive_38 rfl ?_
  refine j_aload_n dX7_derive_39 rfl ?_
  refine j_getI (kz := 8) rfl dX7_derive_40 f_X7_92 rfl rfl ?_
  refine j_icmp_ge 92 dX7_derive_43 rfl (by unfold inR; omega) (by unfold inR; omega) (fun c43 => ?_) (fun c43 => ?_)
  · refine j_vret dX7_derive_92 rfl ?_
    have hi : i = es.length := by omega
    subst hi
    exact ⟨rfl, fr.rf, fun _ _ => rfl, es, hb, hcl⟩
  · refine j_iconst dX7_derive_46 ?_
    refine j_istore_n dX7_derive_47 (by decide) (nol rfl) (by show List.set _ 2 _ = _; simp only [List.set_cons_zero, List.set_cons_succ]; rfl) ?_
    refine l_der_in i 5 0 M es hL hP hg hb hcl (by omega) (fun j' a b => by omega) (by omega) hg.1.1 (by have := hg.1.2; omega) (fun M1 es1 f1 g1 b1 c1 l1 => ?_)
    have e1 : M1 1 = M 1 := f1 1 (by decide)
    refine j_iinc dX7_derive_86 rfl (by decide) (nol rfl) (by simp only [List.set_cons_zero, List.set_cons_succ]; rfl) ?_
    refine j_goto 38 dX7_derive_89 rfl ?_
    refine j_mono ?_ (ih (i + 1) M1 es1 _ (LaM_fr e1 hL) (MPt_fr e1 (g1 3 (by omega)) (f1 3 (by decide)) (f1 4 (by decide)) hP) (GM_fr e1 hg) b1 c1 l1 (by omega))
    rintro v M2 ⟨rfl, hf, h0, hj⟩
    exact ⟨rfl, f1.tr hf, fun z hz => (h0 z hz).trans (g1 z hz), hj⟩
theorem l_clr {Q : Option PV → Mem → Prop} (m : Nat) : ∀ (i : Int) (M : Mem), 0 ≤ i → i ≤ 300 → 300 - i < m → (∀ M1, fr [5] M M1 → (∀ j : Int, i ≤ j → j < 300 → M1 5 j = 0) → (∀ j : Int, j < i → M1 5 j = M 5 j) → J SHM mi_X7_derive 26 [some (vR 0), some (vI 300), none] [] M1 Q) → J SHM mi_X7_derive 6 [some (vR 0), some (vI i), none] [] M Q := by
  induction m with
  | zero => intro i M h0 h1 h2; omega
  | succ m ih =>
  intro i M h0 h1 h2 K
  refine j_iload_n dX7_derive_6 rfl ?_
  refine j_sipush dX7_derive_7 (by decide +kernel) ?_
  refine j_icmp_ge 26 dX7_derive_10 rfl (by unfold inR; omega) (by unfold inR; omega) (fun c10 => ?_) (fun c10 => ?_)
  · have hi : i = 300 := by omega
    subst hi
    exact K M fr.rf (fun j a b => by omega) (fun j _ => rfl)
  · refine j_aload_n dX7_derive_13 rfl ?_
    refine j_getR dX7_derive_14 f_X7_22 rfl rfl ?_
    refine j_iload_n dX7_derive_17 rfl ?_
    refine j_iconst dX7_derive_18 ?_
    refine j_bast dX7_derive_19 (by first | rfl | assumption) (by decide) (by omega) (by omega) (by first | exact Or.inl rfl | exact Or.inr rfl) ?_
    refine j_iinc dX7_derive_20 rfl (by decide) (nol rfl) (by simp only [List.set_cons_zero, List.set_cons_succ]; rfl) ?_
    refine j_goto 6 dX7_derive_23 rfl ?_
    refine ih (i + 1) (wr M 5 i 0) (by omega) (by omega) (by omega) (fun M1 f1 g1 k1 => K M1 ((fr.rf.w1 (by decide)).tr f1) (fun j a b => ?_) (fun j a => ?_))
    · by_cases e : j = i
      · rw [e, k1 i (by omega), wr_self]
      · exact g1 j (by omega) b
    · rw [k1 j (by omega), wr_ne _ _ (by omega)]
theorem e_X7_derive {M : Mem} (hL : LaM M) (hg : GM M) : J SHM mi_X7_derive 0 (ent [vR 0] 3) [] M (pv (fun M1 => fr [0, 3, 4, 5, 6] M M1 ∧ (∀ j : Int, j ≠ 3 → j ≠ 8 → M1 0 j = M 0 j) ∧ MPt M1 ∧ (∃ es : List Int, BM M1 es ∧ ClN M1 es es.length))) := by
  have hk := hL.1
  show J SHM mi_X7_derive 0 [some (vR 0), none, none] [] M _
  refine j_aload_n dX7_derive_0 rfl ?_
  refine j_V0v dX7_derive_1 ok_X7_makeParts v_X7_95 c_X7_makeParts rfl (e_X7_makeParts hk) (fun M1 q1 => ?_)
  obtain ⟨f1, f10, P1⟩ := q1
  refine j_iconst dX7_derive_4 ?_
  refine j_istore_n dX7_derive_5 (by decide) (nol rfl) (by show List.set _ 1 _ = _; simp only [List.set_cons_zero, List.set_cons_succ]; rfl) ?_
  refine l_clr 301 0 M1 (by omega) (by omega) (by omega) (fun A fA gA kA => ?_)
  refine j_aload_n dX7_derive_26 rfl ?_
  refine j_iconst dX7_derive_27 ?_
  refine j_putI (kz := 8) rfl dX7_derive_28 g_X7_92 rfl rfl ?_
  refine j_aload_n dX7_derive_31 rfl ?_
  refine j_iconst dX7_derive_32 ?_
  refine j_V1v dX7_derive_33 ok_X7_addElement v_X7_98 c_X7_addElement rfl (e_X7_addElement (es := []) (c := 0) ⟨by rw [wr_self]; rfl, fun j x hj => by simp at hj, fun c a b => Or.inr ⟨by rw [wr_ne _ _ (by omega), gA c a b], by simp⟩⟩ (by simp) (fun x hx => by simp at hx) (by omega)) (fun M33 q33 => ?_)
  obtain ⟨f33, f330, b33⟩ := q33
  refine j_iconst dX7_derive_36 ?_
  refine j_istore_n dX7_derive_37 (by decide) (nol rfl) (by show List.set _ 1 _ = _; simp only [List.set_cons_zero, List.set_cons_succ]; rfl) ?_
  have e1 : M33 1 = M 1 := by rw [f33 1 (by decide), show wr A 0 8 0 1 = A 1 from by funext j; exact wr_ne _ _ (by omega), fA 1 (by decide), f1 1 (by decide)]
  have e1' : M33 1 = M1 1 := by rw [e1, f1 1 (by decide)]
  have e03 : M33 0 3 = M1 0 3 := by rw [f330 3 (by omega), wr_ne _ _ (by omega), fA 0 (by decide)]
  have e3 : M33 3 = M1 3 := by rw [f33 3 (by decide), show wr A 0 8 0 3 = A 3 from by funext j; exact wr_ne _ _ (by omega), fA 3 (by decide)]
  have e4 : M33 4 = M1 4 := by rw [f33 4 (by decide), show wr A 0 8 0 4 = A 4 from by funext j; exact wr_ne _ _ (by omega), fA 4 (by decide)]
  have P33 := MPt_fr e1' e03 e3 e4 P1
  have hcl : ClN M33 [0] 0 := by
    refine ⟨by simp, fun c hc => ?_, by simp, fun c hc => ?_, fun j hj => by omega⟩
    · simp at hc
      subst hc
      obtain ⟨hk, hn1, hn5, hc1, hc2⟩ := LaM_fr e1 hL
      have ht := tu_c hk
      exact ⟨by decide, Int.mul_pos (by omega) (by omega)⟩
    · simp at hc
      subst hc
      exact inG_0
  refine j_mono ?_ (l_der 301 0 M33 [0] _ (LaM_fr e1 hL) P33 (GM_fr e1 hg) (by simpa [add] using b33) hcl (by simp) (by omega))
  rintro v M2 ⟨rfl, hf, h0, es, hb, hc⟩
  have fT : fr [0, 3, 4, 5, 6] M M2 := (((f1.up (by decide)).tr (fA.up (by decide))).tr (((fr.rf.w1 (by decide)) : fr [0, 3, 4, 5, 6] A (wr A 0 8 0)).tr (f33.up (by decide)))).tr (hf.up (by decide))
  refine ⟨rfl, fT, fun j h3 h8 => ?_, MPt_fr (hf 1 (by decide)) (h0 3 (by omega)) (hf 3 (by decide)) (hf 4 (by decide)) P33, es, hb, hc⟩
  rw [h0 j h8, f330 j h8, wr_ne _ _ (fun z => h8 z.2), fA 0 (by decide), f10 j h3]
