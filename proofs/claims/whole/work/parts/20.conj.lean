/-! countConjugacyClasses, findOrbits, commutes -/
def CjP (M : Mem) (wss : List (List Int)) : Prop := ∀ m ws, wss[m]? = some ws → ∃ s, CjI M (wss.take m).flatten s ws ws.length
def OrbP (M : Mem) (wss : List (List Int)) : Prop := ∀ m ws, wss[m]? = some ws → ∃ s, SqI M (wss.take m).flatten s ws ws.length ∧ (∀ p ∈ ws, M 20 p = s ∧ M 21 p = ws.length) ∧ ∀ p : Int, 0 ≤ p → p < s → p ∈ (wss.take m).flatten
theorem flat_push (wss : List (List Int)) (ws : List Int) : (wss ++ [ws]).flatten = wss.flatten ++ ws := by simp
theorem push_get {α : Type} {l : List α} {a b : α} {m : Nat} (h : (l ++ [a])[m]? = some b) : (m < l.length ∧ l[m]? = some b ∧ (l ++ [a]).take m = l.take m) ∨ (m = l.length ∧ b = a ∧ (l ++ [a]).take m = l) := by
  by_cases hl : m < l.length
  · left
    rw [List.getElem?_append_left hl] at h
    exact ⟨hl, h, by rw [List.take_append_of_le_length (by omega)]⟩
  · right
    rw [List.getElem?_append_right (by omega)] at h
    have h0 : m - l.length < 1 := (List.getElem?_eq_some_iff.mp h).1
    have h1 : m = l.length := by omega
    subst h1
    simp at h
    exact ⟨rfl, h.symm, by simp⟩
theorem CjP_push {M : Mem} {wss : List (List Int)} {ws : List Int} {s : Int} (h : CjP M wss) (hw : CjI M wss.flatten s ws ws.length) : CjP M (wss ++ [ws]) := by
  intro m w hm
  rcases push_get hm with ⟨h1, h2, h3⟩ | ⟨h1, h2, h3⟩
  · rw [h3]; exact h m w h2
  · rw [h3, h2]; exact ⟨s, hw⟩
theorem CjP_fr {S : List Nat} {M M1 : Mem} (h : fr S M M1) (h1 : 1 ∉ S) (h2 : 2 ∉ S) (h3 : 3 ∉ S) {wss : List (List Int)} : CjP M1 wss ↔ CjP M wss := by
  unfold CjP CjI; rw [gP_fr h h2 h3, h 1 h1]
theorem OrbP_push {M M1 : Mem} {wss : List (List Int)} {ws : List Int} {s : Int} (hf : fr [19, 20, 21, 22, 23] M M1) (h : OrbP M wss) (hw : SqI M wss.flatten s ws ws.length) (h1 : ∀ p ∈ ws, M1 20 p = s ∧ M1 21 p = ws.length) (h2 : ∀ p, p ∉ ws → M1 20 p = M 20 p ∧ M1 21 p = M 21 p) (h3 : ∀ p : Int, 0 ≤ p → p < s → p ∈ wss.flatten) : OrbP M1 (wss ++ [ws]) := by
  intro m w hm
  have e : ∀ B s ws i, SqI M B s ws i → SqI M1 B s ws i := fun B s ws i hc => SqI_fr hf (by decide) (by decide) (by decide) hc
  rcases push_get hm with ⟨a1, a2, a3⟩ | ⟨a1, a2, a3⟩
  · rw [a3]
    obtain ⟨s', b1, b2, b3⟩ := h m w a2
    refine ⟨s', e _ _ _ _ b1, fun p hp => ?_, b3⟩
    have hpB : p ∈ wss.flatten := List.mem_flatten.mpr ⟨w, List.mem_of_getElem? a2, hp⟩
    have hpw : p ∉ ws := fun q => hw.2.2.1 p q hpB
    rw [(h2 p hpw).1, (h2 p hpw).2]
    exact b2 p hp
  · rw [a3, a2]
    exact ⟨s, e _ _ _ _ hw, h1, h3⟩

theorem l_conj {GL : List Int} (hGL : GL.length ≤ 300) (m : Nat) : ∀ (i : Nat) (M : Mem) (wss : List (List Int)) (w3 : Option PV), Lat M → GV M → M 10 6 = GL.length → Elem 12 M GL → (∀ x ∈ GL, vc (M 1 0) (M 1 1) x) → MembN 13 300 M wss.flatten → CjP M wss → (∀ ws ∈ wss, ∃ x ∈ GL, x ∈ ws) → (∀ j, j < i → ∀ x, GL[j]? = some x → x ∈ wss.flatten) → i ≤ GL.length → 300 - i < m → J SHC mi_X3_countConjugacyClasses 11 [some (vR 10), some (vI wss.length), some (vI i), w3] [] M (pz (fun z M1 => fr [10, 13, 14] M M1 ∧ M1 10 6 = M 10 6 ∧ ∃ wss : List (List Int), z = wss.length ∧ CjP M wss ∧ (∀ x ∈ GL, x ∈ wss.flatten) ∧ ∀ ws ∈ wss, ∃ x ∈ GL, x ∈ ws)) := by
  induction m with
  | zero => intro i M wss w3 _ _ _ _ _ _ _ _ _ h1 h2; omega
  | succ m ih =>
  intro i M wss w3 hL hg hc he hv hm hp hn hj h1 h2
  have hlt : i < GL.length → 300 - (i + 1) < m := fun h => by omega
  have hx0 : i < GL.length → ∃ x0, GL[i]? = some x0 ∧ M 12 i = x0 ∧ vc (M 1 0) (M 1 1) x0 ∧ 0 ≤ x0 ∧ x0 < 300 := fun hi => by
    have e : GL[i]? = some GL[i] := List.getElem?_eq_getElem hi
    have h9 := hv _ (List.mem_of_getElem? e)
    exact ⟨_, e, he i _ e, h9, vc_300 hL h9⟩
  refine j_iload_n dX3_countConjugacyClasses_11 rfl ?_
  refine j_aload_n dX3_countConjugacyClasses_12 rfl ?_
  refine j_getI (kz := 6) rfl dX3_countConjugacyClasses_13 f_X3_33 rfl rfl ?_
  refine j_icmp_ge 66 dX3_countConjugacyClasses_16 rfl (by first | (unfold inR; omega) | (obtain ⟨x0, a1, a2, a3, a4, a5⟩ := hx0 (by omega); have := hm (M 12 i) (by omega) (by omega); unfold inR; omega)) (by first | (unfold inR; omega) | (obtain ⟨x0, a1, a2, a3, a4, a5⟩ := hx0 (by omega); have := hm (M 12 i) (by omega) (by omega); unfold inR; omega)) (fun c16 => ?_) (fun c16 => ?_)
  · have hi : i = GL.length := by omega
    subst hi
    refine j_iload_n dX3_countConjugacyClasses_66 rfl ?_
    refine j_iret dX3_countConjugacyClasses_67 rfl ⟨_, rfl, fr.rf, rfl, wss, rfl, hp, fun x hx => ?_, hn⟩
    obtain ⟨j, hjx⟩ := List.getElem?_of_mem hx
    exact hj j (List.getElem?_eq_some_iff.mp hjx).1 x hjx
  · refine j_iload_n dX3_countConjugacyClasses_19 rfl ?_
    refine j_sipush dX3_countConjugacyClasses_20 (by decide +kernel) ?_
    refine j_icmp_ge 66 dX3_countConjugacyClasses_23 rfl (by first | (unfold inR; omega) | (obtain ⟨x0, a1, a2, a3, a4, a5⟩ := hx0 (by omega); have := hm (M 12 i) (by omega) (by omega); unfold inR; omega)) (by first | (unfold inR; omega) | (obtain ⟨x0, a1, a2, a3, a4, a5⟩ := hx0 (by omega); have := hm (M 12 i) (by omega) (by omega); unfold inR; omega)) (fun c23 => ?_) (fun c23 => ?_)
    · exfalso; omega
    · refine j_aload_n dX3_countConjugacyClasses_26 rfl ?_
      refine j_getR dX3_countConjugacyClasses_27 f_X3_15 rfl rfl ?_
      refine j_iload_n dX3_countConjugacyClasses_30 rfl ?_
      refine j_iald dX3_countConjugacyClasses_31 (by first | rfl | assumption) (by decide) (by first | omega | (obtain ⟨x0, a1, a2, a3, a4⟩ := hx0 (by omega); omega)) (by first | omega | (obtain ⟨x0, a1, a2, a3, a4⟩ := hx0 (by omega); omega)) ?_
      refine j_istore_n dX3_countConjugacyClasses_32 (by decide) (nol rfl) (by show List.set _ 3 _ = _; simp only [List.set_cons_zero, List.set_cons_succ]; rfl) ?_
      refine j_iload_n dX3_countConjugacyClasses_33 rfl ?_
      refine j_sipush dX3_countConjugacyClasses_34 (by decide +kernel) ?_
      refine j_N2z dX3_countConjugacyClasses_37 ok_X6_isInside n_X3_37 (e_isInside (by obtain ⟨x0, a1, a2, a3, a4⟩ := hx0 (by omega); unfold inR; omega) (by unfold inR; omega)) (fun z37 M37 q37 => ?_)
      obtain ⟨rfl, q37⟩ := q37
      refine j_if_eq 60 dX3_countConjugacyClasses_40 rfl (by first | (unfold inR; omega) | (obtain ⟨x0, a1, a2, a3, a4, a5⟩ := hx0 (by omega); have := hm (M 12 i) (by omega) (by omega); unfold inR; omega)) (fun c40 => ?_) (fun c40 => ?_)
      · exfalso
        obtain ⟨x0, a1, a2, a3, a4⟩ := hx0 (by omega)
        omega
      · refine j_aload_n dX3_countConjugacyClasses_43 rfl ?_
        refine j_getR dX3_countConjugacyClasses_44 f_X3_19 rfl rfl ?_
        refine j_iload_n dX3_countConjugacyClasses_47 rfl ?_
        refine j_bald dX3_countConjugacyClasses_48 (by first | rfl | assumption) (by decide) (by first | omega | (obtain ⟨x0, a1, a2, a3, a4⟩ := hx0 (by omega); omega)) (by first | omega | (obtain ⟨x0, a1, a2, a3, a4⟩ := hx0 (by omega); omega)) ?_
        refine j_if_ne 60 dX3_countConjugacyClasses_49 rfl (by first | (unfold inR; omega) | (obtain ⟨x0, a1, a2, a3, a4, a5⟩ := hx0 (by omega); have := hm (M 12 i) (by omega) (by omega); unfold inR; omega)) (fun c49 => ?_) (fun c49 => ?_)
        · obtain ⟨x0, a1, a2, a3, a4, a5⟩ := hx0 (by omega)
          refine j_iinc dX3_countConjugacyClasses_60 rfl (by decide) (nol rfl) (by simp only [List.set_cons_zero, List.set_cons_succ]; rfl) ?_
          refine j_goto 11 dX3_countConjugacyClasses_63 rfl ?_
          refine ih (i + 1) M wss _ hL hg hc he hv hm hp hn (fun j hj' x hx => ?_) (by omega) (hlt (by omega))
          by_cases q : j = i
          · subst q
            rw [a1] at hx
            cases hx
            rcases hm (M 12 j) (by omega) (by omega) with h | h
            · rw [← a2]; exact h.2
            · exact absurd h.1 c49
          · exact hj j (by omega) x hx
        · refine j_iinc dX3_countConjugacyClasses_52 rfl (by decide) (nol rfl) (by simp only [List.set_cons_zero, List.set_cons_succ]; rfl) ?_
          refine j_aload_n dX3_countConjugacyClasses_55 rfl ?_
          refine j_iload_n dX3_countConjugacyClasses_56 rfl ?_
          refine j_V1v dX3_countConjugacyClasses_57 ok_X3_classify v_X3_78 c_X3_classify rfl (e_X3_classify (B := wss.flatten) (s := M 12 i) hL hg hm (by obtain ⟨x0, a1, a2, a3, a4⟩ := hx0 (by omega); rw [a2]; exact a3) (by obtain ⟨x0, a1, a2, a3, a4, a5⟩ := hx0 (by omega); rcases hm (M 12 i) (by omega) (by omega) with h | h; (exfalso; omega); exact h.2)) (fun M57 q57 => ?_)
          obtain ⟨x0, a1, a2, a3, a4, a5⟩ := hx0 (by omega)
          obtain ⟨f, g6, ws, w1, w2⟩ := q57
          refine j_iinc dX3_countConjugacyClasses_60 rfl (by decide) (nol rfl) (by simp only [List.set_cons_zero, List.set_cons_succ]; rfl) ?_
          refine j_goto 11 dX3_countConjugacyClasses_63 rfl ?_
          have e1 : M57 1 = M 1 := f 1 (by decide)
          have hi := ih (i + 1) M57 (wss ++ [ws]) (some (vI (M 12 i))) (Lat_fr f (by decide) hL) (GV_fr f (by decide) (by decide) (by decide) hg) (by rw [g6]; exact hc) (Elem_eq he (f 12 (by decide))) (by rw [e1]; exact hv) (by rw [flat_push]; exact w1) ((CjP_fr f (by decide) (by decide) (by decide)).mpr (CjP_push hp w2)) (fun w hw => by
            rcases List.mem_append.mp hw with q | q
            · exact hn w q
            · rw [List.mem_singleton.mp q]
              exact ⟨M 12 i, by rw [a2]; exact List.mem_of_getElem? a1, w2.2.2.2.1⟩) (fun j hj' x hx => ?_) (by omega) (by omega)
          · rw [List.length_append] at hi
            refine j_mono ?_ hi
            rintro v M1 ⟨z, rfl, f1, g1, wss1, b1, b2, b3⟩
            exact ⟨z, rfl, f.tr f1, g1.trans g6, wss1, b1, (CjP_fr f (by decide) (by decide) (by decide)).mp b2, b3⟩
          · rw [flat_push]
            by_cases q : j = i
            · subst q
              rw [a1] at hx
              cases hx
              exact List.mem_append.mpr (Or.inr (by rw [← a2]; exact w2.2.2.2.1))
            · exact List.mem_append.mpr (Or.inl (hj j (by omega) x hx))
theorem e_X3_conj {M : Mem} {GL : List Int} (hGL : GL.length ≤ 300) (hL : Lat M) (hg : GV M) (hc : M 10 6 = GL.length) (he : Elem 12 M GL) (hv : ∀ x ∈ GL, vc (M 1 0) (M 1 1) x) : J SHC mi_X3_countConjugacyClasses 0 (ent [vR 10] 4) [] M (pz (fun z M1 => fr [10, 13, 14] M M1 ∧ M1 10 6 = M 10 6 ∧ ∃ wss : List (List Int), z = wss.length ∧ CjP M wss ∧ (∀ x ∈ GL, x ∈ wss.flatten) ∧ ∀ ws ∈ wss, ∃ x ∈ GL, x ∈ ws)) := by
  show J SHC mi_X3_countConjugacyClasses 0 [some (vR 10), none, none, none] [] M _
  refine j_aload_n dX3_countConjugacyClasses_0 rfl ?_
  refine j_getR dX3_countConjugacyClasses_1 f_X3_19 rfl rfl ?_
  refine j_N1v dX3_countConjugacyClasses_4 ok_X6_clearMarks n_X3_55 (e_clearMarks (r := 13) (len := 300) rfl (by decide)) (fun M4 q4 => ?_)
  obtain ⟨f4, g4⟩ := q4
  refine j_iconst dX3_countConjugacyClasses_7 ?_
  refine j_istore_n dX3_countConjugacyClasses_8 (by decide) (nol rfl) (by show List.set _ 1 _ = _; simp only [List.set_cons_zero, List.set_cons_succ]; rfl) ?_
  refine j_iconst dX3_countConjugacyClasses_9 ?_
  refine j_istore_n dX3_countConjugacyClasses_10 (by decide) (nol rfl) (by show List.set _ 2 _ = _; simp only [List.set_cons_zero, List.set_cons_succ]; rfl) ?_
  have e1 : M4 1 = M 1 := f4 1 (by decide)
  have h0 := l_conj hGL 301 0 M4 [] none (Lat_fr f4 (by decide) hL) (GV_fr f4 (by decide) (by decide) (by decide) hg) (by rw [f4 10 (by decide)]; exact hc) (Elem_eq he (f4 12 (by decide))) (by rw [e1]; exact hv) (fun c a b => Or.inr ⟨by rw [g4, if_pos ⟨a, b⟩], by simp⟩) (fun m ws hm => by simp at hm) (fun w hw => absurd hw List.not_mem_nil) (fun j hj => by omega) (by omega) (by omega)
  refine j_mono ?_ h0
  rintro v M1 ⟨z, rfl, f1, g1, wss1, b1, b2, b3⟩
  exact ⟨z, rfl, (f4.up (by decide)).tr f1, by rw [g1, f4 10 (by decide)], wss1, b1, (CjP_fr f4 (by decide) (by decide) (by decide)).mp b2, b3⟩
theorem l_orbs (m : Nat) : ∀ (q : Nat) (M : Mem) (wss : List (List Int)), Lat M → GV M → M 19 9 = wss.length → MembN 22 25 M wss.flatten → OrbP M wss → (∀ p : Int, 0 ≤ p → p < q → p ∈ wss.flatten) → q ≤ M 1 1 * M 1 1 → 25 - q < m → J SHC mi_X0_findOrbits 14 [some (vR 19), some (vI q)] [] M (pv (fun M1 => fr [19, 20, 21, 22, 23] M M1 ∧ ∃ wss : List (List Int), M1 19 9 = wss.length ∧ OrbP M1 wss ∧ ∀ p : Int, 0 ≤ p → p < M 1 1 * M 1 1 → p ∈ wss.flatten)) := by
  induction m with
  | zero => intro q M wss hL _ _ _ _ _ h1 h2; have := hL.2.2.2.2; omega
  | succ m ih =>
  intro q M wss hL hg hc hm hp hj h1 h2
  have h25 := hL.2.2.2.2
  have hc1 := hL.2.2.2.1
  refine j_iload_n dX0_findOrbits_14 rfl ?_
  refine j_aload_n dX0_findOrbits_15 rfl ?_
  refine j_getR dX0_findOrbits_16 f_X0_28 rfl rfl ?_
  refine j_V0p dX0_findOrbits_19 ok_X5_cellCount v_X0_48 c_X5_cellCount rfl (e_X5_cellCount hL) ?_
  refine j_icmp_ge 61 dX0_findOrbits_22 rfl (by first | (unfold inR; omega) | (have := hm q (by omega) (by omega); unfold inR; omega)) (by first | (unfold inR; omega) | (have := hm q (by omega) (by omega); unfold inR; omega)) (fun c22 => ?_) (fun c22 => ?_)
  · refine j_vret dX0_findOrbits_61 rfl ⟨rfl, fr.rf, wss, hc, hp, fun p a b => hj p a (by omega)⟩
  · refine j_iload_n dX0_findOrbits_25 rfl ?_
    refine j_bipush dX0_findOrbits_26 (by decide +kernel) ?_
    refine j_icmp_ge 61 dX0_findOrbits_28 rfl (by first | (unfold inR; omega) | (have := hm q (by omega) (by omega); unfold inR; omega)) (by first | (unfold inR; omega) | (have := hm q (by omega) (by omega); unfold inR; omega)) (fun c28 => ?_) (fun c28 => ?_)
    · exfalso; omega
    · refine j_aload_n dX0_findOrbits_31 rfl ?_
      refine j_getR dX0_findOrbits_32 f_X0_18 rfl rfl ?_
      refine j_iload_n dX0_findOrbits_35 rfl ?_
      refine j_bald dX0_findOrbits_36 (by first | rfl | assumption) (by decide) (by omega) (by omega) ?_
      refine j_if_ne 55 dX0_findOrbits_37 rfl (by first | (unfold inR; omega) | (have := hm q (by omega) (by omega); unfold inR; omega)) (fun c37 => ?_) (fun c37 => ?_)
      · refine j_iinc dX0_findOrbits_55 rfl (by decide) (nol rfl) (by simp only [List.set_cons_zero, List.set_cons_succ]; rfl) ?_
        refine j_goto 14 dX0_findOrbits_58 rfl ?_
        refine ih (q + 1) M wss hL hg hc hm hp (fun p a b => ?_) (by omega) (by omega)
        by_cases e : p = q
        · subst e
          rcases hm (q : Int) (by omega) (by omega) with h | h
          · exact h.2
          · exact absurd h.1 c37
        · exact hj p a (by omega)
      · refine j_aload_n dX0_findOrbits_40 rfl ?_
        refine j_dup dX0_findOrbits_41 (fun _ h => by cases h) ?_
        refine j_getI (kz := 9) rfl dX0_findOrbits_42 f_X0_44 rfl rfl ?_
        refine j_iconst dX0_findOrbits_45 ?_
        refine j_iadd dX0_findOrbits_46 ?_
        refine j_putI (kz := 9) rfl dX0_findOrbits_47 g_X0_44 rfl rfl ?_
        refine j_aload_n dX0_findOrbits_50 rfl ?_
        refine j_iload_n dX0_findOrbits_51 rfl ?_
        refine j_V1v dX0_findOrbits_52 ok_X0_findOrbit v_X0_54 c_X0_findOrbit rfl (e_X0_findOrbit (B := wss.flatten) (s := q) (Lat_fr (fr.rf.w1 (S := [19]) (by decide)) (by decide) hL) (GV_fr (fr.rf.w1 (S := [19]) (by decide)) (by decide) (by decide) (by decide) hg) (MembN_eq hm (by funext j; exact wr_ne _ _ (by omega))) (by rw [wr_ne _ _ (by omega)]; omega) (by rcases hm q (by omega) (by omega) with h | h; (exfalso; omega); exact h.2)) (fun M52 q52 => ?_)
        obtain ⟨f, g9, ws, w1, w2, w3, w4⟩ := q52
        have fA : fr [19] M (wr M 19 9 (M 19 9 + 1)) := fr.rf.w1 (by decide)
        have fB : fr [19, 20, 21, 22, 23] M M52 := (fA.up (by decide)).tr f
        have e1 : M52 1 = M 1 := fB 1 (by decide)
        have hw : SqI M wss.flatten q ws ws.length := by
          unfold SqI at w2 ⊢
          rw [gP_fr fA (by decide) (by decide), fA 1 (by decide)] at w2
          exact w2
        have hp' := OrbP_push fB hp hw w3 (fun p hpw => by
          obtain ⟨a, b⟩ := w4 p hpw
          rw [a, b]
          exact ⟨wr_ne _ _ (by omega), wr_ne _ _ (by omega)⟩) hj
        refine j_iinc dX0_findOrbits_55 rfl (by decide) (nol rfl) (by simp only [List.set_cons_zero, List.set_cons_succ]; rfl) ?_
        refine j_goto 14 dX0_findOrbits_58 rfl ?_
        refine j_mono ?_ (ih (q + 1) M52 (wss ++ [ws]) (Lat_fr fB (by decide) hL) (GV_fr fB (by decide) (by decide) (by decide) hg) (by rw [g9, wr_self, hc]; simp) (by rw [flat_push]; exact w1) hp' (fun p a b => ?_) (by rw [e1]; omega) (by omega))
        · rintro v M1 ⟨rfl, f1, wss1, b1, b2, b3⟩
          rw [e1] at b3
          exact ⟨rfl, fB.tr f1, wss1, b1, b2, b3⟩
        · rw [flat_push]
          by_cases e : p = q
          · subst e
            exact List.mem_append.mpr (Or.inr w2.2.2.2.1)
          · exact List.mem_append.mpr (Or.inl (hj p a (by omega)))
theorem e_X0_findOrbits {M : Mem} (hL : Lat M) (hg : GV M) : J SHC mi_X0_findOrbits 0 (ent [vR 19] 2) [] M (pv (fun M1 => fr [19, 20, 21, 22, 23] M M1 ∧ ∃ wss : List (List Int), M1 19 9 = wss.length ∧ OrbP M1 wss ∧ ∀ p : Int, 0 ≤ p → p < M 1 1 * M 1 1 → p ∈ wss.flatten)) := by
  show J SHC mi_X0_findOrbits 0 [some (vR 19), none] [] M _
  refine j_aload_n dX0_findOrbits_0 rfl ?_
  refine j_getR dX0_findOrbits_1 f_X0_18 rfl rfl ?_
  refine j_N1v dX0_findOrbits_4 ok_X6_clearMarks n_X0_40 (e_clearMarks (r := 22) (len := 25) rfl (by decide)) (fun M4 q4 => ?_)
  obtain ⟨f4, g4⟩ := q4
  refine j_aload_n dX0_findOrbits_7 rfl ?_
  refine j_iconst dX0_findOrbits_8 ?_
  refine j_putI (kz := 9) rfl dX0_findOrbits_9 g_X0_44 rfl rfl ?_
  refine j_iconst dX0_findOrbits_12 ?_
  refine j_istore_n dX0_findOrbits_13 (by decide) (nol rfl) (by show List.set _ 1 _ = _; simp only [List.set_cons_zero, List.set_cons_succ]; rfl) ?_
  have fA : fr [19, 22] M (wr M4 19 9 0) := (f4.up (by decide)).w1 (by decide)
  have e1 : wr M4 19 9 0 1 = M 1 := fA 1 (by decide)
  refine j_mono ?_ (l_orbs 26 0 (wr M4 19 9 0) [] (Lat_fr fA (by decide) hL) (GV_fr fA (by decide) (by decide) (by decide) hg) (by rw [wr_self]; rfl) (fun c a b => Or.inr ⟨by rw [wr_ne _ _ (by omega), g4, if_pos ⟨a, b⟩], by simp⟩) (fun m ws hm => by simp at hm) (fun p a b => by omega) (by rw [e1]; have := hL.2.2.2.1; omega) (by omega))
  rintro v M1 ⟨rfl, f1, wss1, b1, b2, b3⟩
  rw [e1] at b3
  exact ⟨rfl, (fA.up (by decide)).tr f1, wss1, b1, b2, b3⟩
theorem l_comm_in {M : Mem} {i : Int} (hL : Lat M) (hg : GV M) (hi : 0 ≤ i ∧ i < M 2 1) (m : Nat) : ∀ (j : Int) (w3 w4 : Option PV), 0 ≤ j → j ≤ i → i - j < m → (∀ b, 0 ≤ b → b < j → tm (M 1 0) (M 1 1) (M 3 i) (M 3 b) = tm (M 1 0) (M 1 1) (M 3 b) (M 3 i)) → (∀ (w2 w3 w4 : Option PV), (∀ b, 0 ≤ b → b < i → tm (M 1 0) (M 1 1) (M 3 i) (M 3 b) = tm (M 1 0) (M 1 1) (M 3 b) (M 3 i)) → J SHC mi_X3_commutes 70 [some (vR 10), some (vI i), w2, w3, w4] [] M (bz (∀ a b : Int, 0 ≤ a → a < M 2 1 → 0 ≤ b → b < a → tm (M 1 0) (M 1 1) (M 3 a) (M 3 b) = tm (M 1 0) (M 1 1) (M 3 b) (M 3 a)) M)) → J SHC mi_X3_commutes 15 [some (vR 10), some (vI i), some (vI j), w3, w4] [] M (bz (∀ a b : Int, 0 ≤ a → a < M 2 1 → 0 ≤ b → b < a → tm (M 1 0) (M 1 1) (M 3 a) (M 3 b) = tm (M 1 0) (M 1 1) (M 3 b) (M 3 a)) M) := by
  induction m with
  | zero => intro j w3 w4 h0 h1 h2; omega
  | succ m ih =>
  intro j w3 w4 h0 h1 h2 h3 K
  have hg2 := hg.1.2
  have hr : ∀ x : Int, vc (M 1 0) (M 1 1) x → inR x := fun x hx => by
    have := vc_300 hL hx
    unfold inR; omega
  refine j_iload_n dX3_commutes_15 rfl ?_
  refine j_iload_n dX3_commutes_16 rfl ?_
  refine j_icmp_ge 70 dX3_commutes_17 rfl (by first | (unfold inR; omega) | exact hr _ (vc_tm hL.1 hL.2.1)) (by first | (unfold inR; omega) | exact hr _ (vc_tm hL.1 hL.2.1)) (fun c17 => ?_) (fun c17 => ?_)
  · exact K _ _ _ (fun b a c => h3 b a (by omega))
  · refine j_aload_n dX3_commutes_20 rfl ?_
    refine j_getR dX3_commutes_21 f_X3_29 rfl rfl ?_
    refine j_iload_n dX3_commutes_24 rfl ?_
    refine j_V1p dX3_commutes_25 ok_X2_codeAt v_X3_68 c_X2_codeAt rfl (e_X2_codeAt (by omega) (by omega)) ?_
    refine j_istore_n dX3_commutes_28 (by decide) (nol rfl) (by show List.set _ 3 _ = _; simp only [List.set_cons_zero, List.set_cons_succ]; rfl) ?_
    refine j_aload_n dX3_commutes_29 rfl ?_
    refine j_getR dX3_commutes_30 f_X3_29 rfl rfl ?_
    refine j_iload_n dX3_commutes_33 rfl ?_
    refine j_V1p dX3_commutes_34 ok_X2_codeAt v_X3_68 c_X2_codeAt rfl (e_X2_codeAt (by omega) (by omega)) ?_
    refine j_istore dX3_commutes_37 (by decide) (nol rfl) (by show List.set _ 4 _ = _; simp only [List.set_cons_zero, List.set_cons_succ]; rfl) ?_
    refine j_aload_n dX3_commutes_39 rfl ?_
    refine j_getR dX3_commutes_40 f_X3_25 rfl rfl ?_
    refine j_iload_n dX3_commutes_43 rfl ?_
    refine j_iload dX3_commutes_44 rfl ?_
    refine j_V2p dX3_commutes_46 ok_X5_times v_X3_71 c_X5_times rfl (e_X5_times hL (hg.2 _ (by omega) (by omega)) (hg.2 _ (by omega) (by omega))) ?_
    refine j_aload_n dX3_commutes_49 rfl ?_
    refine j_getR dX3_commutes_50 f_X3_25 rfl rfl ?_
    refine j_iload dX3_commutes_53 rfl ?_
    refine j_iload_n dX3_commutes_55 rfl ?_
    refine j_V2p dX3_commutes_56 ok_X5_times v_X3_71 c_X5_times rfl (e_X5_times hL (hg.2 _ (by omega) (by omega)) (hg.2 _ (by omega) (by omega))) ?_
    refine j_icmp_eq 64 dX3_commutes_59 rfl (by first | (unfold inR; omega) | exact hr _ (vc_tm hL.1 hL.2.1)) (by first | (unfold inR; omega) | exact hr _ (vc_tm hL.1 hL.2.1)) (fun c59 => ?_) (fun c59 => ?_)
    · refine j_iinc dX3_commutes_64 rfl (by decide) (nol rfl) (by simp only [List.set_cons_zero, List.set_cons_succ]; rfl) ?_
      refine j_goto 15 dX3_commutes_67 rfl ?_
      refine ih (j + 1) _ _ (by omega) (by omega) (by omega) (fun b a c => ?_) K
      by_cases e : b = j
      · rw [e]; exact c59
      · exact h3 b a (by omega)
    · refine j_iconst dX3_commutes_62 ?_
      refine j_zret dX3_commutes_63 rfl (by first | exact Or.inl rfl | exact Or.inr rfl | omega) ?_
      exact bz_i (Or.inr ⟨rfl, fun h => c59 (h i j hi.1 hi.2 h0 (by omega))⟩)
theorem l_comm {M : Mem} (hL : Lat M) (hg : GV M) (m : Nat) : ∀ (i : Int) (w2 w3 w4 : Option PV), 0 ≤ i → i ≤ M 2 1 → M 2 1 - i < m → (∀ a b : Int, 0 ≤ a → a < i → 0 ≤ b → b < a → tm (M 1 0) (M 1 1) (M 3 a) (M 3 b) = tm (M 1 0) (M 1 1) (M 3 b) (M 3 a)) → J SHC mi_X3_commutes 2 [some (vR 10), some (vI i), w2, w3, w4] [] M (bz (∀ a b : Int, 0 ≤ a → a < M 2 1 → 0 ≤ b → b < a → tm (M 1 0) (M 1 1) (M 3 a) (M 3 b) = tm (M 1 0) (M 1 1) (M 3 b) (M 3 a)) M) := by
  induction m with
  | zero => intro i w2 w3 w4 h0 h1 h2; omega
  | succ m ih =>
  intro i w2 w3 w4 h0 h1 h2 h3
  have hg2 := hg.1.2
  refine j_iload_n dX3_commutes_2 rfl ?_
  refine j_aload_n dX3_commutes_3 rfl ?_
  refine j_getR dX3_commutes_4 f_X3_29 rfl rfl ?_
  refine j_getI (kz := 1) rfl dX3_commutes_7 f_X3_63 rfl rfl ?_
  refine j_icmp_ge 76 dX3_commutes_10 rfl (by unfold inR; omega) (by unfold inR; omega) (fun c10 => ?_) (fun c10 => ?_)
  · refine j_iconst dX3_commutes_76 ?_
    refine j_zret dX3_commutes_77 rfl (by first | exact Or.inl rfl | exact Or.inr rfl | omega) ?_
    exact bz_i (Or.inl ⟨rfl, fun a b ha0 ha1 hb0 hb1 => h3 a b ha0 (by omega) hb0 hb1⟩)
  · refine j_iconst dX3_commutes_13 ?_
    refine j_istore_n dX3_commutes_14 (by decide) (nol rfl) (by show List.set _ 2 _ = _; simp only [List.set_cons_zero, List.set_cons_succ]; rfl) ?_
    refine l_comm_in hL hg ⟨h0, by omega⟩ 5 0 _ _ (by omega) (by omega) (by omega) (fun b a c => by omega) (fun w2' w3' w4' hi => ?_)
    refine j_iinc dX3_commutes_70 rfl (by decide) (nol rfl) (by simp only [List.set_cons_zero, List.set_cons_succ]; rfl) ?_
    refine j_goto 2 dX3_commutes_73 rfl ?_
    refine ih (i + 1) _ _ _ (by omega) (by omega) (by omega) (fun a b ha0 ha1 hb0 hb1 => ?_)
    by_cases e : a = i
    · rw [e]; exact hi b hb0 (by omega)
    · exact h3 a b ha0 (by omega) hb0 hb1
theorem e_X3_commutes {M : Mem} (hL : Lat M) (hg : GV M) : J SHC mi_X3_commutes 0 (ent [vR 10] 5) [] M (bz (∀ a b : Int, 0 ≤ a → a < M 2 1 → 0 ≤ b → b < a → tm (M 1 0) (M 1 1) (M 3 a) (M 3 b) = tm (M 1 0) (M 1 1) (M 3 b) (M 3 a)) M) := by
  show J SHC mi_X3_commutes 0 [some (vR 10), none, none, none, none] [] M _
  refine j_iconst dX3_commutes_0 ?_
  refine j_istore_n dX3_commutes_1 (by decide) (nol rfl) (by show List.set _ 1 _ = _; simp only [List.set_cons_zero, List.set_cons_succ]; rfl) ?_
  exact l_comm hL hg 5 0 _ _ _ (by omega) hg.1.1 (by have := hg.1.2; omega) (fun a b ha0 ha1 => by omega)
