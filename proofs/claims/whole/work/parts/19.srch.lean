/-! classify, countConjugacyClasses, findOrbit, findOrbits -/
abbrev CjI (M : Mem) (B : List Int) (s : Int) (ws : List Int) (i : Nat) : Prop := BfI (vc (M 1 0) (M 1 1)) (cj (M 1 0) (M 1 1)) (gP M) B s ws i
abbrev SqI (M : Mem) (B : List Int) (s : Int) (ws : List Int) (i : Nat) : Prop := BfI (fun q => 0 ≤ q ∧ q < M 1 1 * M 1 1) (sq (M 1 0) (M 1 1)) (gP M) B s ws i
theorem CjI_fr {S : List Nat} {M M1 : Mem} (h : fr S M M1) (h1 : 1 ∉ S) (h2 : 2 ∉ S) (h3 : 3 ∉ S) {B ws : List Int} {s : Int} {i : Nat} (hc : CjI M B s ws i) : CjI M1 B s ws i := by
  unfold CjI; rw [gP_fr h h2 h3, h 1 h1]; exact hc
theorem SqI_fr {S : List Nat} {M M1 : Mem} (h : fr S M M1) (h1 : 1 ∉ S) (h2 : 2 ∉ S) (h3 : 3 ∉ S) {B ws : List Int} {s : Int} {i : Nat} (hc : SqI M B s ws i) : SqI M1 B s ws i := by
  unfold SqI; rw [gP_fr h h2 h3, h 1 h1]; exact hc
theorem CjI_b {M : Mem} (hL : Lat M) {B ws : List Int} {s : Int} {i : Nat} (h : CjI M B s ws i) : ∀ x ∈ ws, 0 ≤ x ∧ x < 300 := fun x hx => vc_300 hL (h.2.1 x hx)
theorem SqI_b {M : Mem} (hL : Lat M) {B ws : List Int} {s : Int} {i : Nat} (h : SqI M B s ws i) : ∀ x ∈ ws, 0 ≤ x ∧ x < 25 := fun x hx => by
  have := h.2.1 x hx
  have h5 := hL.2.2.2.2
  omega

theorem l_classify_in {Q : Option PV → Mem → Prop} {s : Int} {B : List Int} (i : Nat) (m : Nat) : ∀ (j : Int) (M : Mem) (ws : List Int) (w : Option PV), Lat M → GV M → WS 10 7 13 14 300 M B ws → CjI M B s ws i → i < ws.length → (∀ j' : Int, 0 ≤ j' → j' < j → ∀ x, ws[i]? = some x → cj (M 1 0) (M 1 1) x (M 3 j') ∈ B ++ ws) → 0 ≤ j → j ≤ M 2 1 → M 2 1 - j < m → (∀ M1 ws1 (w : Option PV), fr [10, 13, 14] M M1 → (∀ j : Int, j ≠ 7 → M1 10 j = M 10 j) → WS 10 7 13 14 300 M1 B ws1 → CjI M1 B s ws1 (i + 1) → i + 1 ≤ ws1.length → J SHC mi_X3_classify 91 [some (vR 10), some (vI s), some (vI i), some (vI (M 2 1)), w] [] M1 Q) → J SHC mi_X3_classify 29 [some (vR 10), some (vI s), some (vI i), some (vI j), w] [] M Q := by
  induction m with
  | zero => intro j M ws w _ _ _ _ _ _ h0 h1 h2; omega
  | succ m ih =>
  intro j M ws w hL hg hb hcl hi hjs h0 h1 h2 K
  obtain ⟨hb1, hb2, hb3⟩ := id hb
  have hg1 := hg.1.1
  have hg2 := hg.1.2
  have hwb := CjI_b hL hcl
  have hlen := nd_len 300 ws hcl.1 (fun x hx => by have := hwb x hx; omega)
  obtain ⟨x0, hx0⟩ : ∃ x0, ws[i]? = some x0 := ⟨_, List.getElem?_eq_getElem hi⟩
  have hxm : x0 ∈ ws := List.mem_of_getElem? hx0
  have ex : M 14 i = x0 := hb2 i x0 hx0
  have hv1 := hcl.2.1 x0 hxm
  have hxb := hwb x0 hxm
  rw [← ex] at hv1 hxb
  refine j_iload_n dX3_classify_29 rfl ?_
  refine j_aload_n dX3_classify_30 rfl ?_
  refine j_getR dX3_classify_31 f_X3_29 rfl rfl ?_
  refine j_getI (kz := 1) rfl dX3_classify_34 f_X3_63 rfl rfl ?_
  refine j_icmp_ge 91 dX3_classify_37 rfl (by unfold inR; omega) (by unfold inR; omega) (fun c37 => ?_) (fun c37 => ?_)
  · have hj : j = M 2 1 := by omega
    subst hj
    refine K M ws _ fr.rf (fun _ _ => rfl) hb (BfI_next hcl hx0 (fun g hg' => ?_)) (by omega)
    obtain ⟨j', a0, a1, rfl⟩ := hg'
    exact hjs j' a0 a1 x0 hx0
  · refine j_aload_n dX3_classify_40 rfl ?_
    refine j_getR dX3_classify_41 f_X3_29 rfl rfl ?_
    refine j_iload_n dX3_classify_44 rfl ?_
    refine j_V1p dX3_classify_45 ok_X2_codeAt v_X3_68 c_X2_codeAt rfl (e_X2_codeAt (by omega) (by omega)) ?_
    refine j_istore dX3_classify_48 (by decide) (nol rfl) (by show List.set _ 4 _ = _; simp only [List.set_cons_zero, List.set_cons_succ]; rfl) ?_
    refine j_aload_n dX3_classify_50 rfl ?_
    refine j_aload_n dX3_classify_51 rfl ?_
    refine j_getR dX3_classify_52 f_X3_25 rfl rfl ?_
    refine j_aload_n dX3_classify_55 rfl ?_
    refine j_getR dX3_classify_56 f_X3_25 rfl rfl ?_
    refine j_iload dX3_classify_59 rfl ?_
    refine j_aload_n dX3_classify_61 rfl ?_
    refine j_getR dX3_classify_62 f_X3_22 rfl rfl ?_
    refine j_iload_n dX3_classify_65 rfl ?_
    refine j_iald dX3_classify_66 (by first | rfl | assumption) (by decide) (by omega) (by omega) ?_
    refine j_V2p dX3_classify_67 ok_X5_times v_X3_71 c_X5_times rfl (e_X5_times hL (hg.2 j h0 c37) hv1) ?_
    refine j_aload_n dX3_classify_70 rfl ?_
    refine j_getR dX3_classify_71 f_X3_25 rfl rfl ?_
    refine j_iload dX3_classify_74 rfl ?_
    refine j_V1p dX3_classify_76 ok_X5_inverseOf v_X3_87 c_X5_inverseOf rfl (e_X5_inverseOf hL (hg.2 j h0 c37)) ?_
    refine j_V2p dX3_classify_79 ok_X5_times v_X3_71 c_X5_times rfl (e_X5_times hL (vc_tm hL.1 hL.2.1) (vc_iv hL.1 hL.2.1 hL.2.2.2.1 hL.2.2.2.2 (hg.2 j h0 c37))) ?_
    refine j_V1v dX3_classify_82 ok_X3_admitToClass v_X3_84 c_X3_admitToClass rfl (e_X3_admitToClass (c := cj (M 1 0) (M 1 1) (M 14 i) (M 3 j)) hb hcl.1 hwb (vc_300 hL (vc_tm hL.1 hL.2.1))) (fun M82 q82 => ?_)
    refine j_iinc dX3_classify_85 rfl (by decide) (nol rfl) (by simp only [List.set_cons_zero, List.set_cons_succ]; rfl) ?_
    refine j_goto 29 dX3_classify_88 rfl ?_
    have f := q82.1
    have e1 : M82 1 = M 1 := f 1 (by decide)
    have e2 : M82 2 = M 2 := f 2 (by decide)
    have e3 : M82 3 = M 3 := f 3 (by decide)
    have hcl' : CjI M B s (add2 B ws (cj (M 1 0) (M 1 1) (M 14 i) (M 3 j))) i := BfI_add hcl (by omega) (by rw [ex]; exact hxm) ⟨j, h0, c37, rfl⟩ (vc_tm hL.1 hL.2.1)
    refine ih (j + 1) M82 _ _ (Lat_fr f (by decide) hL) (GV_fr f (by decide) (by decide) (by decide) hg) q82.2.2 (CjI_fr f (by decide) (by decide) (by decide) hcl') (by have := add2_len (B := B) (es := ws) (c := cj (M 1 0) (M 1 1) (M 14 i) (M 3 j)); omega) (fun j' h0' h1' y hy => ?_) (by omega) (by rw [e2]; omega) (by rw [e2]; omega) (fun M1 es1 w9 f1 g1 b1 c1 l1 => ?_)
    · rw [e1, e3]
      have hx' := add2_get (B := B) (c := cj (M 1 0) (M 1 1) (M 14 i) (M 3 j)) hx0
      rw [hy] at hx'
      have hyx : y = x0 := Option.some.inj hx'
      rw [hyx]
      by_cases q : j' = j
      · subst q
        rw [← ex]
        exact add2_in
      · exact add2_sub (hjs j' h0' (by omega) x0 hx0)
    · rw [e2]
      exact K M1 es1 w9 (f.tr f1) (fun j hj => (g1 j hj).trans (q82.2.1 j hj)) b1 c1 l1
theorem l_findOrbit_in {Q : Option PV → Mem → Prop} {s : Int} {B : List Int} (i : Nat) (m : Nat) : ∀ (j : Int) (M : Mem) (ws : List Int), Lat M → GV M → WS 19 8 22 23 25 M B ws → SqI M B s ws i → i < ws.length → (∀ j' : Int, 0 ≤ j' → j' < j → ∀ x, ws[i]? = some x → sq (M 1 0) (M 1 1) x (M 3 j') ∈ B ++ ws) → 0 ≤ j → j ≤ M 2 1 → M 2 1 - j < m → (∀ M1 ws1, fr [19, 22, 23] M M1 → (∀ j : Int, j ≠ 8 → M1 19 j = M 19 j) → WS 19 8 22 23 25 M1 B ws1 → SqI M1 B s ws1 (i + 1) → i + 1 ≤ ws1.length → J SHC mi_X0_findOrbit 70 [some (vR 19), some (vI s), some (vI i), some (vI (M 2 1))] [] M1 Q) → J SHC mi_X0_findOrbit 28 [some (vR 19), some (vI s), some (vI i), some (vI j)] [] M Q := by
  induction m with
  | zero => intro j M ws _ _ _ _ _ _ h0 h1 h2; omega
  | succ m ih =>
  intro j M ws hL hg hb hcl hi hjs h0 h1 h2 K
  obtain ⟨hb1, hb2, hb3⟩ := id hb
  have hg1 := hg.1.1
  have hg2 := hg.1.2
  have hwb := SqI_b hL hcl
  have hlen := nd_len 25 ws hcl.1 (fun x hx => by have := hwb x hx; omega)
  obtain ⟨x0, hx0⟩ : ∃ x0, ws[i]? = some x0 := ⟨_, List.getElem?_eq_getElem hi⟩
  have hxm : x0 ∈ ws := List.mem_of_getElem? hx0
  have ex : M 23 i = x0 := hb2 i x0 hx0
  have hv1 := hcl.2.1 x0 hxm
  have hxb := hwb x0 hxm
  rw [← ex] at hv1 hxb
  refine j_iload_n dX0_findOrbit_28 rfl ?_
  refine j_aload_n dX0_findOrbit_29 rfl ?_
  refine j_getR dX0_findOrbit_30 f_X0_32 rfl rfl ?_
  refine j_getI (kz := 1) rfl dX0_findOrbit_33 f_X0_64 rfl rfl ?_
  refine j_icmp_ge 70 dX0_findOrbit_36 rfl (by unfold inR; omega) (by unfold inR; omega) (fun c36 => ?_) (fun c36 => ?_)
  · have hj : j = M 2 1 := by omega
    subst hj
    refine K M ws fr.rf (fun _ _ => rfl) hb (BfI_next hcl hx0 (fun g hg' => ?_)) (by omega)
    obtain ⟨j', a0, a1, rfl⟩ := hg'
    exact hjs j' a0 a1 x0 hx0
  · refine j_aload_n dX0_findOrbit_39 rfl ?_
    refine j_aload_n dX0_findOrbit_40 rfl ?_
    refine j_getR dX0_findOrbit_41 f_X0_28 rfl rfl ?_
    refine j_aload_n dX0_findOrbit_44 rfl ?_
    refine j_getR dX0_findOrbit_45 f_X0_32 rfl rfl ?_
    refine j_iload_n dX0_findOrbit_48 rfl ?_
    refine j_V1p dX0_findOrbit_49 ok_X2_codeAt v_X0_69 c_X2_codeAt rfl (e_X2_codeAt (by omega) (by omega)) ?_
    refine j_aload_n dX0_findOrbit_52 rfl ?_
    refine j_getR dX0_findOrbit_53 f_X0_22 rfl rfl ?_
    refine j_iload_n dX0_findOrbit_56 rfl ?_
    refine j_iald dX0_findOrbit_57 (by first | rfl | assumption) (by decide) (by omega) (by omega) ?_
    refine j_V2p dX0_findOrbit_58 ok_X5_imageOfCell v_X0_73 c_X5_imageOfCell rfl (e_X5_imageOfCell hL (hg.2 j h0 c36) hv1) ?_
    refine j_V1v dX0_findOrbit_61 ok_X0_reach v_X0_61 c_X0_reach rfl (e_X0_reach (c := sq (M 1 0) (M 1 1) (M 23 i) (M 3 j)) hb hcl.1 hwb (by have h9 := sc_b (k := M 1 0) (c := M 3 j) (q := M 23 i) hL.2.1; have h8 := hL.2.2.2.2; exact ⟨h9.1, by unfold sq; omega⟩)) (fun M61 q61 => ?_)
    refine j_iinc dX0_findOrbit_64 rfl (by decide) (nol rfl) (by simp only [List.set_cons_zero, List.set_cons_succ]; rfl) ?_
    refine j_goto 28 dX0_findOrbit_67 rfl ?_
    have f := q61.1
    have e1 : M61 1 = M 1 := f 1 (by decide)
    have e2 : M61 2 = M 2 := f 2 (by decide)
    have e3 : M61 3 = M 3 := f 3 (by decide)
    have hcl' : SqI M B s (add2 B ws (sq (M 1 0) (M 1 1) (M 23 i) (M 3 j))) i := BfI_add hcl (by omega) (by rw [ex]; exact hxm) ⟨j, h0, c36, rfl⟩ (sc_b hL.2.1)
    refine ih (j + 1) M61 _ (Lat_fr f (by decide) hL) (GV_fr f (by decide) (by decide) (by decide) hg) q61.2.2 (SqI_fr f (by decide) (by decide) (by decide) hcl') (by have := add2_len (B := B) (es := ws) (c := sq (M 1 0) (M 1 1) (M 23 i) (M 3 j)); omega) (fun j' h0' h1' y hy => ?_) (by omega) (by rw [e2]; omega) (by rw [e2]; omega) (fun M1 es1 f1 g1 b1 c1 l1 => ?_)
    · rw [e1, e3]
      have hx' := add2_get (B := B) (c := sq (M 1 0) (M 1 1) (M 23 i) (M 3 j)) hx0
      rw [hy] at hx'
      have hyx : y = x0 := Option.some.inj hx'
      rw [hyx]
      by_cases q : j' = j
      · subst q
        rw [← ex]
        exact add2_in
      · exact add2_sub (hjs j' h0' (by omega) x0 hx0)
    · rw [e2]
      exact K M1 es1 (f.tr f1) (fun j hj => (g1 j hj).trans (q61.2.1 j hj)) b1 c1 l1
theorem l_classify {s : Int} {B : List Int} {Q : Option PV → Mem → Prop} (m : Nat) : ∀ (i : Nat) (M : Mem) (ws : List Int) (w3 w4 : Option PV), Lat M → GV M → WS 10 7 13 14 300 M B ws → CjI M B s ws i → i ≤ ws.length → 300 - i < m → (∀ M1 ws1 (w3 w4 : Option PV), fr [10, 13, 14] M M1 → (∀ j : Int, j ≠ 7 → M1 10 j = M 10 j) → WS 10 7 13 14 300 M1 B ws1 → CjI M1 B s ws1 ws1.length → J SHC mi_X3_classify 97 [some (vR 10), some (vI s), some (vI ws1.length), w3, w4] [] M1 Q) → J SHC mi_X3_classify 12 [some (vR 10), some (vI s), some (vI i), w3, w4] [] M Q := by
  induction m with
  | zero =>
    intro i M ws w3 w4 hL _ _ hcl h1 h2
    have hlen := nd_len 300 ws hcl.1 (fun x hx => by have := CjI_b hL hcl x hx; omega)
    omega
  | succ m ih =>
  intro i M ws w3 w4 hL hg hb hcl h1 h2 K
  obtain ⟨hb1, hb2, hb3⟩ := id hb
  have hlen := nd_len 300 ws hcl.1 (fun x hx => by have := CjI_b hL hcl x hx; omega)
  refine j_iload_n dX3_classify_12 rfl ?_
  refine j_aload_n dX3_classify_13 rfl ?_
  refine j_getI (kz := 7) rfl dX3_classify_14 f_X3_81 rfl rfl ?_
  refine j_icmp_ge 97 dX3_classify_17 rfl (by unfold inR; omega) (by unfold inR; omega) (fun c17 => ?_) (fun c17 => ?_)
  · have hi : i = ws.length := by omega
    subst hi
    exact K M ws w3 w4 fr.rf (fun _ _ => rfl) hb hcl
  · refine j_iload_n dX3_classify_20 rfl ?_
    refine j_sipush dX3_classify_21 (by decide +kernel) ?_
    refine j_icmp_ge 97 dX3_classify_24 rfl (by unfold inR; omega) (by unfold inR; omega) (fun c24 => ?_) (fun c24 => ?_)
    · exfalso; omega
    · refine j_iconst dX3_classify_27 ?_
      refine j_istore_n dX3_classify_28 (by decide) (nol rfl) (by show List.set _ 3 _ = _; simp only [List.set_cons_zero, List.set_cons_succ]; rfl) ?_
      refine l_classify_in i 5 0 M ws _ hL hg hb hcl (by omega) (fun j' a b => by omega) (by omega) hg.1.1 (by have := hg.1.2; omega) (fun M1 es1 w9 f1 g1 b1 c1 l1 => ?_)
      refine j_iinc dX3_classify_91 rfl (by decide) (nol rfl) (by simp only [List.set_cons_zero, List.set_cons_succ]; rfl) ?_
      refine j_goto 12 dX3_classify_94 rfl ?_
      exact ih (i + 1) M1 es1 _ _ (Lat_fr f1 (by decide) hL) (GV_fr f1 (by decide) (by decide) (by decide) hg) b1 c1 l1 (by omega) (fun M2 es2 w3 w4 f2 g2 b2 c2 => K M2 es2 w3 w4 (f1.tr f2) (fun j hj => (g2 j hj).trans (g1 j hj)) b2 c2)
theorem l_findOrbit {s : Int} {B : List Int} {Q : Option PV → Mem → Prop} (m : Nat) : ∀ (i : Nat) (M : Mem) (ws : List Int) (w3 : Option PV), Lat M → GV M → WS 19 8 22 23 25 M B ws → SqI M B s ws i → i ≤ ws.length → 25 - i < m → (∀ M1 ws1 (w3 : Option PV), fr [19, 22, 23] M M1 → (∀ j : Int, j ≠ 8 → M1 19 j = M 19 j) → WS 19 8 22 23 25 M1 B ws1 → SqI M1 B s ws1 ws1.length → J SHC mi_X0_findOrbit 76 [some (vR 19), some (vI s), some (vI ws1.length), w3] [] M1 Q) → J SHC mi_X0_findOrbit 12 [some (vR 19), some (vI s), some (vI i), w3] [] M Q := by
  induction m with
  | zero =>
    intro i M ws w3 hL _ _ hcl h1 h2
    have hlen := nd_len 25 ws hcl.1 (fun x hx => by have := SqI_b hL hcl x hx; omega)
    omega
  | succ m ih =>
  intro i M ws w3 hL hg hb hcl h1 h2 K
  obtain ⟨hb1, hb2, hb3⟩ := id hb
  have hlen := nd_len 25 ws hcl.1 (fun x hx => by have := SqI_b hL hcl x hx; omega)
  refine j_iload_n dX0_findOrbit_12 rfl ?_
  refine j_aload_n dX0_findOrbit_13 rfl ?_
  refine j_getI (kz := 8) rfl dX0_findOrbit_14 f_X0_58 rfl rfl ?_
  refine j_icmp_ge 76 dX0_findOrbit_17 rfl (by unfold inR; omega) (by unfold inR; omega) (fun c17 => ?_) (fun c17 => ?_)
  · have hi : i = ws.length := by omega
    subst hi
    exact K M ws w3 fr.rf (fun _ _ => rfl) hb hcl
  · refine j_iload_n dX0_findOrbit_20 rfl ?_
    refine j_bipush dX0_findOrbit_21 (by decide +kernel) ?_
    refine j_icmp_ge 76 dX0_findOrbit_23 rfl (by unfold inR; omega) (by unfold inR; omega) (fun c23 => ?_) (fun c23 => ?_)
    · exfalso; omega
    · refine j_iconst dX0_findOrbit_26 ?_
      refine j_istore_n dX0_findOrbit_27 (by decide) (nol rfl) (by show List.set _ 3 _ = _; simp only [List.set_cons_zero, List.set_cons_succ]; rfl) ?_
      refine l_findOrbit_in i 5 0 M ws hL hg hb hcl (by omega) (fun j' a b => by omega) (by omega) hg.1.1 (by have := hg.1.2; omega) (fun M1 es1 f1 g1 b1 c1 l1 => ?_)
      refine j_iinc dX0_findOrbit_70 rfl (by decide) (nol rfl) (by simp only [List.set_cons_zero, List.set_cons_succ]; rfl) ?_
      refine j_goto 12 dX0_findOrbit_73 rfl ?_
      exact ih (i + 1) M1 es1 _ (Lat_fr f1 (by decide) hL) (GV_fr f1 (by decide) (by decide) (by decide) hg) b1 c1 l1 (by omega) (fun M2 es2 w3 f2 g2 b2 c2 => K M2 es2 w3 (f1.tr f2) (fun j hj => (g2 j hj).trans (g1 j hj)) b2 c2)
theorem e_X3_classify {M : Mem} {B : List Int} {s : Int} (hL : Lat M) (hg : GV M) (hm : MembN 13 300 M B) (hs : vc (M 1 0) (M 1 1) s) (hsB : s ∉ B) : J SHC mi_X3_classify 0 (ent [vR 10, vI s] 5) [] M (pv (fun M1 => fr [10, 13, 14] M M1 ∧ M1 10 6 = M 10 6 ∧ ∃ ws, MembN 13 300 M1 (B ++ ws) ∧ CjI M B s ws ws.length)) := by
  show J SHC mi_X3_classify 0 [some (vR 10), some (vI s), none, none, none] [] M _
  refine j_aload_n dX3_classify_0 rfl ?_
  refine j_iconst dX3_classify_1 ?_
  refine j_putI (kz := 7) rfl dX3_classify_2 g_X3_81 rfl rfl ?_
  refine j_aload_n dX3_classify_5 rfl ?_
  refine j_iload_n dX3_classify_6 rfl ?_
  refine j_V1v dX3_classify_7 ok_X3_admitToClass v_X3_84 c_X3_admitToClass rfl (e_X3_admitToClass (B := B) (ws := []) (c := s) ⟨by rw [wr_self]; rfl, fun j x hj => by simp at hj, by rw [List.append_nil]; exact MembN_eq hm (by funext j; exact wr_ne _ _ (by omega))⟩ (by simp) (fun x hx => by simp at hx) (vc_300 hL hs)) (fun M7 q7 => ?_)
  obtain ⟨f7, g7, b7⟩ := q7
  refine j_iconst dX3_classify_10 ?_
  refine j_istore_n dX3_classify_11 (by decide) (nol rfl) (by show List.set _ 2 _ = _; simp only [List.set_cons_zero, List.set_cons_succ]; rfl) ?_
  have fA : fr [10, 13, 14] M M7 := (fr.rf.w1 (by decide)).tr f7
  have ea : add2 B [] s = [s] := by unfold add2; rw [if_neg (by simpa using hsB)]; rfl
  rw [ea] at b7
  refine l_classify (B := B) 301 0 M7 [s] _ _ (Lat_fr fA (by decide) hL) (GV_fr fA (by decide) (by decide) (by decide) hg) b7 (CjI_fr fA (by decide) (by decide) (by decide) (BfI_one hs hsB)) (by simp) (by omega) (fun M1 ws1 w3 w4 f1 g1 b1 c1 => ?_)
  have fB := fA.tr f1
  have gs : ∀ {S : List Nat} {M M1 : Mem}, fr S M M1 → 1 ∉ S → 2 ∉ S → 3 ∉ S → CjI M1 B s ws1 ws1.length → CjI M B s ws1 ws1.length := fun h h1 h2 h3 hc => by
    unfold CjI at hc; rw [gP_fr h h2 h3, h 1 h1] at hc; exact hc
  refine j_vret dX3_classify_97 rfl ⟨rfl, fB, ?_, ws1, b1.2.2, gs fB (by decide) (by decide) (by decide) c1⟩
  rw [g1 6 (by decide), g7 6 (by decide), wr_ne _ _ (by omega)]
theorem l_findOrbit2 {s : Int} {ws : List Int} (hr : ∀ x ∈ ws, 0 ≤ x ∧ x < 25) (hl : ws.length ≤ 25) (m : Nat) : ∀ (i : Nat) (M : Mem) (w3 : Option PV), M 19 8 = ws.length → Elem 23 M ws → i ≤ ws.length → 25 - i < m → J SHC mi_X0_findOrbit 78 [some (vR 19), some (vI s), some (vI i), w3] [] M (pv (fun M1 => fr [20, 21] M M1 ∧ (∀ p ∈ ws.drop i, M1 20 p = s ∧ M1 21 p = ws.length) ∧ ∀ p, p ∉ ws.drop i → M1 20 p = M 20 p ∧ M1 21 p = M 21 p)) := by
  induction m with
  | zero => intro i M w3 _ _ h1 h2; omega
  | succ m ih =>
  intro i M w3 hb1 hb2 h1 h2
  have hx0 : i < ws.length → ∃ x0, ws[i]? = some x0 ∧ M 23 i = x0 ∧ 0 ≤ x0 ∧ x0 < 25 := fun hi => by
    have e : ws[i]? = some ws[i] := List.getElem?_eq_getElem hi
    have h9 := hr _ (List.mem_of_getElem? e)
    exact ⟨_, e, hb2 i _ e, h9.1, h9.2⟩
  refine j_iload_n dX0_findOrbit_78 rfl ?_
  refine j_aload_n dX0_findOrbit_79 rfl ?_
  refine j_getI (kz := 8) rfl dX0_findOrbit_80 f_X0_58 rfl rfl ?_
  refine j_icmp_ge 131 dX0_findOrbit_83 rfl (by first | (unfold inR; omega) | (obtain ⟨x0, a1, a2, a3, a4⟩ := hx0 (by omega); unfold inR; omega)) (by first | (unfold inR; omega) | (obtain ⟨x0, a1, a2, a3, a4⟩ := hx0 (by omega); unfold inR; omega)) (fun c83 => ?_) (fun c83 => ?_)
  · have hi : i = ws.length := by omega
    subst hi
    exact j_vret dX0_findOrbit_131 rfl ⟨rfl, fr.rf, fun p hp => by simp at hp, fun p hp => ⟨rfl, rfl⟩⟩
  · refine j_iload_n dX0_findOrbit_86 rfl ?_
    refine j_bipush dX0_findOrbit_87 (by decide +kernel) ?_
    refine j_icmp_ge 131 dX0_findOrbit_89 rfl (by first | (unfold inR; omega) | (obtain ⟨x0, a1, a2, a3, a4⟩ := hx0 (by omega); unfold inR; omega)) (by first | (unfold inR; omega) | (obtain ⟨x0, a1, a2, a3, a4⟩ := hx0 (by omega); unfold inR; omega)) (fun c89 => ?_) (fun c89 => ?_)
    · exfalso; omega
    · refine j_aload_n dX0_findOrbit_92 rfl ?_
      refine j_getR dX0_findOrbit_93 f_X0_22 rfl rfl ?_
      refine j_iload_n dX0_findOrbit_96 rfl ?_
      refine j_iald dX0_findOrbit_97 (by first | rfl | assumption) (by decide) (by first | omega | (obtain ⟨x0, a1, a2, a3, a4⟩ := hx0 (by omega); omega)) (by first | omega | (obtain ⟨x0, a1, a2, a3, a4⟩ := hx0 (by omega); omega)) ?_
      refine j_istore_n dX0_findOrbit_98 (by decide) (nol rfl) (by show List.set _ 3 _ = _; simp only [List.set_cons_zero, List.set_cons_succ]; rfl) ?_
      refine j_iload_n dX0_findOrbit_99 rfl ?_
      refine j_bipush dX0_findOrbit_100 (by decide +kernel) ?_
      refine j_N2z dX0_findOrbit_102 ok_X6_isInside n_X0_77 (e_isInside (by obtain ⟨x0, a1, a2, a3, a4⟩ := hx0 (by omega); unfold inR; omega) (by unfold inR; omega)) (fun z102 M102 q102 => ?_)
      obtain ⟨rfl, q102⟩ := q102
      refine j_if_eq 125 dX0_findOrbit_105 rfl (by first | (unfold inR; omega) | (obtain ⟨x0, a1, a2, a3, a4⟩ := hx0 (by omega); unfold inR; omega)) (fun c105 => ?_) (fun c105 => ?_)
      · exfalso
        obtain ⟨x0, a1, a2, a3, a4⟩ := hx0 (by omega)
        omega
      · refine j_aload_n dX0_findOrbit_108 rfl ?_
        refine j_getR dX0_findOrbit_109 f_X0_9 rfl rfl ?_
        refine j_iload_n dX0_findOrbit_112 rfl ?_
        refine j_iload_n dX0_findOrbit_113 rfl ?_
        refine j_iast dX0_findOrbit_114 (by first | rfl | assumption) (by decide) (by first | omega | (obtain ⟨x0, a1, a2, a3, a4⟩ := hx0 (by omega); omega)) (by first | omega | (obtain ⟨x0, a1, a2, a3, a4⟩ := hx0 (by omega); omega)) ?_
        refine j_aload_n dX0_findOrbit_115 rfl ?_
        refine j_getR dX0_findOrbit_116 f_X0_15 rfl rfl ?_
        refine j_iload_n dX0_findOrbit_119 rfl ?_
        refine j_aload_n dX0_findOrbit_120 rfl ?_
        refine j_getI (kz := 8) rfl dX0_findOrbit_121 f_X0_58 rfl rfl ?_
        refine j_iast dX0_findOrbit_124 (by first | rfl | assumption) (by decide) (by first | omega | (obtain ⟨x0, a1, a2, a3, a4⟩ := hx0 (by omega); omega)) (by first | omega | (obtain ⟨x0, a1, a2, a3, a4⟩ := hx0 (by omega); omega)) ?_
        obtain ⟨x0, a1, a2, a3, a4⟩ := hx0 (by omega)
        have ec : wr M 20 (M 23 i) s 19 8 = M 19 8 := wr_ne _ _ (by omega)
        refine j_iinc dX0_findOrbit_125 rfl (by decide) (nol rfl) (by simp only [List.set_cons_zero, List.set_cons_succ]; rfl) ?_
        refine j_goto 78 dX0_findOrbit_128 rfl ?_
        refine j_mono ?_ (ih (i + 1) (wr (wr M 20 (M 23 i) s) 21 (M 23 i) (wr M 20 (M 23 i) s 19 8)) _ (by rw [wr_ne _ _ (by omega), ec]; exact hb1) (Elem_eq hb2 (by funext j; rw [wr_ne _ _ (by omega), wr_ne _ _ (by omega)])) (by omega) (by omega))
        rintro v M1 ⟨rfl, hf, h1', h2'⟩
        have hd : ws.drop i = x0 :: ws.drop (i + 1) := by
          rw [List.drop_eq_getElem_cons (List.getElem?_eq_some_iff.mp a1).1]
          rw [(List.getElem?_eq_some_iff.mp a1).2]
        refine ⟨rfl, ((fr.rf.w1 (by decide)).w1 (by decide)).tr hf, fun p hp => ?_, fun p hp => ?_⟩
        · by_cases q : p ∈ ws.drop (i + 1)
          · exact h1' p q
          · have hpx : p = x0 := by
              rw [hd] at hp
              rcases List.mem_cons.mp hp with h | h
              · exact h
              · exact absurd h q
            obtain ⟨b1, b2⟩ := h2' p q
            rw [b1, b2, hpx, ← a2]
            exact ⟨by rw [wr_ne _ _ (by omega), wr_self], by rw [wr_self, ec, hb1]⟩
        · rw [hd] at hp
          simp only [List.mem_cons, not_or] at hp
          obtain ⟨b1, b2⟩ := h2' p hp.2
          rw [b1, b2]
          have hne : ¬ p = M 23 i := by rw [a2]; exact hp.1
          exact ⟨by rw [wr_ne _ _ (by omega), wr_ne _ _ (fun z => hne z.2)], by rw [wr_ne _ _ (fun z => hne z.2), wr_ne _ _ (by omega)]⟩
theorem e_X0_findOrbit {M : Mem} {B : List Int} {s : Int} (hL : Lat M) (hg : GV M) (hm : MembN 22 25 M B) (hs : 0 ≤ s ∧ s < M 1 1 * M 1 1) (hsB : s ∉ B) : J SHC mi_X0_findOrbit 0 (ent [vR 19, vI s] 4) [] M (pv (fun M1 => fr [19, 20, 21, 22, 23] M M1 ∧ M1 19 9 = M 19 9 ∧ ∃ ws, MembN 22 25 M1 (B ++ ws) ∧ SqI M B s ws ws.length ∧ (∀ p ∈ ws, M1 20 p = s ∧ M1 21 p = ws.length) ∧ ∀ p, p ∉ ws → M1 20 p = M 20 p ∧ M1 21 p = M 21 p)) := by
  have hs25 : 0 ≤ s ∧ s < 25 := ⟨hs.1, by have := hL.2.2.2.2; omega⟩
  show J SHC mi_X0_findOrbit 0 [some (vR 19), some (vI s), none, none] [] M _
  refine j_aload_n dX0_findOrbit_0 rfl ?_
  refine j_iconst dX0_findOrbit_1 ?_
  refine j_putI (kz := 8) rfl dX0_findOrbit_2 g_X0_58 rfl rfl ?_
  refine j_aload_n dX0_findOrbit_5 rfl ?_
  refine j_iload_n dX0_findOrbit_6 rfl ?_
  refine j_V1v dX0_findOrbit_7 ok_X0_reach v_X0_61 c_X0_reach rfl (e_X0_reach (B := B) (ws := []) (c := s) ⟨by rw [wr_self]; rfl, fun j x hj => by simp at hj, by rw [List.append_nil]; exact MembN_eq hm (by funext j; exact wr_ne _ _ (by omega))⟩ (by simp) (fun x hx => by simp at hx) hs25) (fun M7 q7 => ?_)
  obtain ⟨f7, g7, b7⟩ := q7
  refine j_iconst dX0_findOrbit_10 ?_
  refine j_istore_n dX0_findOrbit_11 (by decide) (nol rfl) (by show List.set _ 2 _ = _; simp only [List.set_cons_zero, List.set_cons_succ]; rfl) ?_
  have fA : fr [19, 22, 23] M M7 := (fr.rf.w1 (by decide)).tr f7
  have ea : add2 B [] s = [s] := by unfold add2; rw [if_neg (by simpa using hsB)]; rfl
  rw [ea] at b7
  refine l_findOrbit (B := B) 26 0 M7 [s] _ (Lat_fr fA (by decide) hL) (GV_fr fA (by decide) (by decide) (by decide) hg) b7 (SqI_fr fA (by decide) (by decide) (by decide) (BfI_one hs hsB)) (by simp) (by omega) (fun M1 ws1 w3 f1 g1 b1 c1 => ?_)
  have fB := fA.tr f1
  have gs : ∀ {S : List Nat} {M M1 : Mem}, fr S M M1 → 1 ∉ S → 2 ∉ S → 3 ∉ S → SqI M1 B s ws1 ws1.length → SqI M B s ws1 ws1.length := fun h h1 h2 h3 hc => by
    unfold SqI at hc; rw [gP_fr h h2 h3, h 1 h1] at hc; exact hc
  have cM := gs fB (by decide) (by decide) (by decide) c1
  have hwb := SqI_b hL cM
  refine j_iconst dX0_findOrbit_76 ?_
  refine j_istore_n dX0_findOrbit_77 (by decide) (nol rfl) (by show List.set _ 2 _ = _; simp only [List.set_cons_zero, List.set_cons_succ]; rfl) ?_
  refine j_mono ?_ (l_findOrbit2 (s := s) (ws := ws1) hwb (nd_len 25 ws1 cM.1 hwb) 26 0 M1 w3 b1.1 b1.2.1 (by omega) (by omega))
  rintro v M2 ⟨rfl, hf, h1', h2'⟩
  rw [List.drop_zero] at h1' h2'
  refine ⟨rfl, (fB.up (by decide)).tr (hf.up (by decide)), ?_, ws1, MembN_eq b1.2.2 (hf 22 (by decide)), cM, h1', fun p hp => ?_⟩
  · rw [hf 19 (by decide), g1 9 (by decide), g7 9 (by decide), wr_ne _ _ (by omega)]
  · obtain ⟨b1', b2'⟩ := h2' p hp
    rw [b1', b2', fB 20 (by decide), fB 21 (by decide)]
    exact ⟨rfl, rfl⟩
