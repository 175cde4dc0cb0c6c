/-! THE MODEL: what is asked of it -/
theorem MS_b {M : Mem} {r : Row} {hs : List Row} (hI : MS M r hs) {es : List Int} (hB : BM M es) (hnd : es.Nodup) (hes : ∀ c, c ∈ es ↔ c ∈ GL r) : es.length ≤ 300 ∧ (∀ x ∈ es, vc (M 1 0) (M 1 1) x) ∧ es.Perm (GL r) ∧ es.length = (GL r).length := by
  have hp := nd_same hnd (glst_nd (N := 300)) hes
  have hl : es.length = (GL r).length := hp.length_eq
  have := GL_len (r := r)
  refine ⟨by omega, fun x hx => ?_, hp, hl⟩
  rw [hI.1.1, hI.1.2.1]
  exact GL_vc (M := M) hI.2.1 x ((hes x).mp hx)
theorem EsI {M : Mem} {es : List Int} (hB : BM M es) (hv : ∀ x ∈ es, vc (M 1 0) (M 1 1) x) {i : Nat} : i < es.length → vc (M 1 0) (M 1 1) (M 6 i) ∧ es[i]? = some (M 6 i) := fun h => by
  have e : es[i]? = some es[i] := List.getElem?_eq_getElem h
  have e2 := hB.2.1 i _ e
  rw [e2]
  exact ⟨hv _ (List.mem_of_getElem? e), e⟩
theorem cp_step {es : List Int} {p : Int → Bool} {i : Nat} {x : Int} (h : es[i]? = some x) : (es.take (i + 1)).countP p = (es.take i).countP p + (if p x = true then 1 else 0) := by
  rw [List.take_add_one, h]
  simp [List.countP_append, List.countP_cons]
theorem sm_step {es : List Int} {p : Int → Nat} {i : Nat} {x : Int} (h : es[i]? = some x) : ((es.take (i + 1)).map p).sum = ((es.take i).map p).sum + p x := by
  rw [List.take_add_one, h]
  simp
theorem sm_b {p : Int → Nat} {b : Nat} (hp : ∀ x, p x ≤ b) : ∀ es : List Int, (es.map p).sum ≤ es.length * b
  | [] => by simp
  | x :: es => by
    have := sm_b hp es
    have := hp x
    simp only [List.map_cons, List.sum_cons, List.length_cons, Nat.succ_mul]
    omega
theorem sm_perm {p : Int → Nat} {a b : List Int} (h : a.Perm b) : (a.map p).sum = (b.map p).sum := by
  induction h with
  | nil => rfl
  | cons x _ ih => simp only [List.map_cons, List.sum_cons, ih]
  | swap x y l => simp only [List.map_cons, List.sum_cons]; omega
  | trans _ _ h1 h2 => exact h1.trans h2
/-- pairs that commute -/
def cmP (k n : Int) (es : List Int) (x : Int) : Nat := es.countP (fun y => decide (tm k n x y = tm k n y x))
def cmS (k n : Int) (es : List Int) : Nat := (es.map (cmP k n es)).sum
theorem cmS_perm {k n : Int} {a b : List Int} (h : a.Perm b) : cmS k n a = cmS k n b := by
  unfold cmS
  have : cmP k n a = cmP k n b := funext fun x => h.countP_eq _
  rw [this]
  exact sm_perm h
theorem cmP_b {k n : Int} {es : List Int} (x : Int) : cmP k n es x ≤ es.length := List.countP_le_length
theorem cmS_b {k n : Int} {es : List Int} : cmS k n es ≤ es.length * es.length := sm_b cmP_b es
theorem glst_pre {f : Int → Int} {q : Nat} (hf : ¬ f q = 0) : ∀ N : Nat, q < N → (glst f N)[(glst f q).length]? = some (q : Int)
  | 0, h => absurd h (Nat.not_lt_zero _)
  | N + 1, h => by
    simp only [glst]
    by_cases e : q = N
    · subst e
      rw [if_neg hf]
      simp
    · have h9 := glst_pre hf N (by omega)
      rw [List.getElem?_append_left ((List.getElem?_eq_some_iff.mp h9).1)]
      exact h9
theorem glst_stop {f : Int → Int} {a : Nat} : ∀ N : Nat, a ≤ N → (∀ c : Nat, a ≤ c → c < N → f c = 0) → glst f N = glst f a
  | 0, h, _ => by rw [show a = 0 by omega]
  | N + 1, h, hf => by
    by_cases e : a = N + 1
    · rw [e]
    · simp only [glst]
      rw [if_pos (hf N (by omega) (by omega)), List.append_nil]
      exact glst_stop N (by omega) (fun c x y => hf c x (by omega))
theorem glst_step0 {f : Int → Int} {q : Nat} (h : f q = 0) : glst f (q + 1) = glst f q := by simp [glst, h]
theorem glst_step1 {f : Int → Int} {q : Nat} (h : ¬ f q = 0) : (glst f (q + 1)).length = (glst f q).length + 1 := by simp [glst, h]

theorem e_X7_generator {M : Mem} {r : Row} {hs : List Row} (hI : MS M r hs) {i : Int} (hi : inR i) : J SHM mi_X7_generator 0 (ent [vR 0, vI i] 2) [] M (pu (vI (if i < 0 then -1 else if i < r.2.2.length then r.2.2.getD i.toNat 0 else -3)) M) := by
  obtain ⟨hc, ho, hh, hq, hl, hd⟩ := id hI
  have hL := LaM_of hc ho
  have hg := GM_of hc ho
  obtain ⟨hP, es, hB, hnd, hes⟩ := id hd
  obtain ⟨hc1, hc2, hc3, hc4⟩ := id hc
  have ho4 := ho.2.2.2.1
  obtain ⟨hln, hv, hpm, hle⟩ := MS_b hI hB hnd hes
  obtain ⟨hk, hn1, hn5, hnn1, hnn2⟩ := id hL
  have ht := tu_c hk
  obtain ⟨hP1, hP2, hP3⟩ := id hP
  obtain ⟨hB1, hB2, hB3⟩ := id hB
  show J SHM mi_X7_generator 0 [some (vR 0), some (vI i)] [] M _
  refine j_iload_n dX7_generator_0 rfl ?_
  refine j_if_ge 8 dX7_generator_1 rfl (by first | assumption | (unfold inR; omega)) (fun c1 => ?_) (fun c1 => ?_)
  · refine j_iload_n dX7_generator_8 rfl ?_
    refine j_aload_n dX7_generator_9 rfl ?_
    refine j_getR dX7_generator_10 f_X7_7 rfl rfl ?_
    refine j_iconst dX7_generator_13 ?_
    refine j_iald dX7_generator_14 (by first | rfl | assumption) (by decide) (by omega) (by omega) ?_
    refine j_icmp_ge 29 dX7_generator_15 rfl (by first | assumption | (unfold inR; omega)) (by first | assumption | (unfold inR; omega)) (fun c15 => ?_) (fun c15 => ?_)
    · refine j_bipush dX7_generator_29 (by decide +kernel) ?_
      refine j_iret dX7_generator_31 rfl ?_
      apply pu_i
      first
      | (rw [if_pos (by omega)]; done)
      | (rw [if_neg (by omega), if_neg (by omega)]; done)
      | (have hin : i.toNat < r.2.2.length := by omega
         rw [if_neg (by omega), if_pos (by omega), List.getD_eq_getElem?_getD, List.getElem?_eq_getElem hin]
         have h9 := hc4 i.toNat _ (List.getElem?_eq_getElem hin)
         rw [show ((i.toNat : Nat) : Int) = i by omega] at h9
         exact h9)
    · refine j_aload_n dX7_generator_18 rfl ?_
      refine j_getR dX7_generator_19 f_X7_7 rfl rfl ?_
      refine j_iconst dX7_generator_22 ?_
      refine j_iload_n dX7_generator_23 rfl ?_
      refine j_iadd dX7_generator_24 ?_
      refine j_iald dX7_generator_25 (by first | rfl | assumption) (by decide) (by omega) (by omega) ?_
      refine j_goto 31 dX7_generator_26 rfl ?_
      refine j_iret dX7_generator_31 rfl ?_
      apply pu_i
      first
      | (rw [if_pos (by omega)]; done)
      | (rw [if_neg (by omega), if_neg (by omega)]; done)
      | (have hin : i.toNat < r.2.2.length := by omega
         rw [if_neg (by omega), if_pos (by omega), List.getD_eq_getElem?_getD, List.getElem?_eq_getElem hin]
         have h9 := hc4 i.toNat _ (List.getElem?_eq_getElem hin)
         rw [show ((i.toNat : Nat) : Int) = i by omega] at h9
         exact h9)
  · refine j_iconst dX7_generator_4 ?_
    refine j_goto 31 dX7_generator_5 rfl ?_
    refine j_iret dX7_generator_31 rfl ?_
    apply pu_i
    first
    | (rw [if_pos (by omega)]; done)
    | (rw [if_neg (by omega), if_neg (by omega)]; done)
    | (have hin : i.toNat < r.2.2.length := by omega
       rw [if_neg (by omega), if_pos (by omega), List.getD_eq_getElem?_getD, List.getElem?_eq_getElem hin]
       have h9 := hc4 i.toNat _ (List.getElem?_eq_getElem hin)
       rw [show ((i.toNat : Nat) : Int) = i by omega] at h9
       exact h9)
theorem e_X7_order {M : Mem} {r : Row} {hs : List Row} (hI : MS M r hs)  : J SHM mi_X7_order 0 (ent [vR 0] 1) [] M (pu (vI (GL r).length) M) := by
  obtain ⟨hc, ho, hh, hq, hl, hd⟩ := id hI
  have hL := LaM_of hc ho
  have hg := GM_of hc ho
  obtain ⟨hP, es, hB, hnd, hes⟩ := id hd
  obtain ⟨hc1, hc2, hc3, hc4⟩ := id hc
  have ho4 := ho.2.2.2.1
  obtain ⟨hln, hv, hpm, hle⟩ := MS_b hI hB hnd hes
  obtain ⟨hk, hn1, hn5, hnn1, hnn2⟩ := id hL
  have ht := tu_c hk
  obtain ⟨hP1, hP2, hP3⟩ := id hP
  obtain ⟨hB1, hB2, hB3⟩ := id hB
  show J SHM mi_X7_order 0 [some (vR 0)] [] M _
  refine j_aload_n dX7_order_0 rfl ?_
  refine j_getI (kz := 8) rfl dX7_order_1 f_X7_92 rfl rfl ?_
  refine j_iret dX7_order_4 rfl ?_
  exact pu_i (by omega)
theorem l_elem {M : Mem} (hL : LaM M) (hP : MPt M) {i : Int} {N : Nat} (hi0 : 0 ≤ i) (hi1 : i < 2147483648) (hN : M 0 3 * (M 1 1 * M 1 1) = N) (hN3 : N ≤ 300) (hB : ∀ c : Int, 0 ≤ c → c < 300 → M 5 c = 1 ∨ M 5 c = 0) (hZ : ∀ c : Nat, N ≤ c → c < 300 → M 5 c = 0) (m : Nat) : ∀ (q : Nat) (j s : Int), j = q → s = i - (glst (M 5) q).length → 0 ≤ s → q ≤ N → N - q < m → J SHM mi_X7_element 10 [some (vR 0), some (vI i), some (vI s), some (vI j)] [] M (pu (vI (if i < (glst (M 5) 300).length then (glst (M 5) 300).getD i.toNat 0 else -3)) M) := by
  induction m with
  | zero => intro q j s hj0 hs h0 h1 h2; omega
  | succ m ih =>
  intro q j s hj0 hs h0 h1 h2
  subst hj0
  obtain ⟨hk, hn1, hn5, hnn1, hnn2⟩ := id hL
  have hst := glst_stop (f := M 5) (a := N) 300 hN3 hZ
  have hbq := fun h => hB q (by omega) h
  refine j_iload_n dX7_element_10 rfl ?_
  refine j_aload_n dX7_element_11 rfl ?_
  refine j_getI (kz := 3) rfl dX7_element_12 f_X7_36 rfl rfl ?_
  refine j_aload_n dX7_element_15 rfl ?_
  refine j_V0p dX7_element_16 ok_X7_cells v_X7_51 c_X7_cells rfl (e_X7_cells hL) ?_
  refine j_imul dX7_element_19 ?_
  refine j_icmp_ge 47 dX7_element_20 rfl (by first | (unfold inR; omega) | (unfold inR; rcases hbq (by omega) with h | h <;> omega)) (by first | (unfold inR; omega) | (unfold inR; rcases hbq (by omega) with h | h <;> omega)) (fun c20 => ?_) (fun c20 => ?_)
  · refine j_bipush dX7_element_47 (by decide +kernel) ?_
    refine j_iret dX7_element_49 rfl ?_
    apply pu_i
    first
    | (exfalso; omega)
    | (have hq : q = N := by omega
       subst hq
       rw [hst, if_neg (by omega)]
       done)
    | (have h9 := glst_pre (f := M 5) (q := q) c29 300 (by omega)
       have h8 := (List.getElem?_eq_some_iff.mp h9).1
       rw [show (glst (M 5) q).length = i.toNat by omega] at h9 h8
       rw [if_pos (by omega), List.getD_eq_getElem?_getD, h9]
       rfl)
  · refine j_aload_n dX7_element_23 rfl ?_
    refine j_getR dX7_element_24 f_X7_22 rfl rfl ?_
    refine j_iload_n dX7_element_27 rfl ?_
    refine j_bald dX7_element_28 (by first | rfl | assumption) (by decide) (by omega) (by omega) ?_
    refine j_if_eq 41 dX7_element_29 rfl (by first | (unfold inR; omega) | (unfold inR; rcases hbq (by omega) with h | h <;> omega)) (fun c29 => ?_) (fun c29 => ?_)
    · refine j_iinc dX7_element_41 rfl (by decide) (nol rfl) (by simp only [List.set_cons_zero, List.set_cons_succ]; rfl) ?_
      refine j_goto 10 dX7_element_44 rfl ?_
      refine ih (q + 1) _ _ (by omega) ?_ (by omega) (by omega) (by omega)
      rw [glst_step0 c29]
      exact hs
    · refine j_iload_n dX7_element_32 rfl ?_
      refine j_if_ne 38 dX7_element_33 rfl (by first | (unfold inR; omega) | (unfold inR; rcases hbq (by omega) with h | h <;> omega)) (fun c33 => ?_) (fun c33 => ?_)
      · refine j_iinc dX7_element_38 rfl (by decide) (nol rfl) (by simp only [List.set_cons_zero, List.set_cons_succ]; rfl) ?_
        refine j_iinc dX7_element_41 rfl (by decide) (nol rfl) (by simp only [List.set_cons_zero, List.set_cons_succ]; rfl) ?_
        refine j_goto 10 dX7_element_44 rfl ?_
        refine ih (q + 1) _ _ (by omega) ?_ (by omega) (by omega) (by omega)
        rw [glst_step1 c29]
        omega
      · refine j_iload_n dX7_element_36 rfl ?_
        refine j_iret dX7_element_37 rfl ?_
        apply pu_i
        first
        | (exfalso; omega)
        | (have hq : q = N := by omega
           subst hq
           rw [hst, if_neg (by omega)]
           done)
        | (have h9 := glst_pre (f := M 5) (q := q) c29 300 (by omega)
           have h8 := (List.getElem?_eq_some_iff.mp h9).1
           rw [show (glst (M 5) q).length = i.toNat by omega] at h9 h8
           rw [if_pos (by omega), List.getD_eq_getElem?_getD, h9]
           rfl)
theorem e_X7_element {M : Mem} {r : Row} {hs : List Row} (hI : MS M r hs) {i : Int} (hi : inR i) : J SHM mi_X7_element 0 (ent [vR 0, vI i] 4) [] M (pu (vI (if i < 0 then -1 else if i < (GL r).length then (GL r).getD i.toNat 0 else -3)) M) := by
  obtain ⟨hc, ho, hh, hq, hl, hd⟩ := id hI
  have hL := LaM_of hc ho
  have hg := GM_of hc ho
  obtain ⟨hP, es, hB, hnd, hes⟩ := id hd
  obtain ⟨hc1, hc2, hc3, hc4⟩ := id hc
  have ho4 := ho.2.2.2.1
  obtain ⟨hln, hv, hpm, hle⟩ := MS_b hI hB hnd hes
  obtain ⟨hk, hn1, hn5, hnn1, hnn2⟩ := id hL
  have ht := tu_c hk
  obtain ⟨hP1, hP2, hP3⟩ := id hP
  obtain ⟨hB1, hB2, hB3⟩ := id hB
  show J SHM mi_X7_element 0 [some (vR 0), some (vI i), none, none] [] M _
  refine j_iload_n dX7_element_0 rfl ?_
  refine j_if_ge 6 dX7_element_1 rfl (by first | assumption | (unfold inR; omega)) (fun c1 => ?_) (fun c1 => ?_)
  · refine j_iload_n dX7_element_6 rfl ?_
    refine j_istore_n dX7_element_7 (by decide) (nol rfl) (by show List.set _ 2 _ = _; simp only [List.set_cons_zero, List.set_cons_succ]; rfl) ?_
    refine j_iconst dX7_element_8 ?_
    refine j_istore_n dX7_element_9 (by decide) (nol rfl) (by show List.set _ 3 _ = _; simp only [List.set_cons_zero, List.set_cons_succ]; rfl) ?_
    have hNn : M 0 3 * (M 1 1 * M 1 1) = ((M 0 3 * (M 1 1 * M 1 1)).toNat : Nat) ∧ (M 0 3 * (M 1 1 * M 1 1)).toNat ≤ 300 ∧ M 0 3 * (M 1 1 * M 1 1) = 2 * tu (M 1 0) * (M 1 1 * M 1 1) := by
      rw [hP1]
      rcases ht with ⟨_, h⟩ | ⟨_, h⟩ <;> rw [h] <;> omega
    have e5 : glst (M 5) 300 = GL r := glst_congr 300 (fun c a b => by
      have hb5 := hB3 c a (by omega)
      have hg5 := @GL_mem r c
      by_cases h : inG r.1 r.2.1 (fun g => g ∈ r.2.2) c
      · rw [ind_1 h]
        rcases hb5 with w | w
        · omega
        · exact absurd ((hes c).mpr (hg5.mpr ⟨a, by omega, h⟩)) w.2
      · rw [ind_0 h]
        rcases hb5 with w | w
        · exact absurd (hg5.mp ((hes c).mp w.2)).2.2 h
        · omega)
    have h9 := l_elem (i := i) hL hP (by omega) (by unfold inR at hi; omega) hNn.1 hNn.2.1 (fun c a b => by rcases hB3 c a b with w | w; exact Or.inl w.1; exact Or.inr w.1) (fun c a b => by
      rcases hB3 c (by omega) (by omega) with w | w
      · have := (hv c w.2).2
        omega
      · exact w.1) 301 0 0 i rfl (by simp [glst]) (by omega) (by omega) (by omega)
    rw [e5] at h9
    rw [if_neg (by omega)]
    exact h9
  · refine j_iconst dX7_element_4 ?_
    refine j_iret dX7_element_5 rfl ?_
    apply pu_i
    rw [if_pos (by omega)]
theorem e_X7_contains {M : Mem} {r : Row} {hs : List Row} (hI : MS M r hs) {c : Int} (hi : inR c) : J SHM mi_X7_contains 0 (ent [vR 0, vI c] 2) [] M (pz (fun z M1 => M = M1 ∧ ((vc r.1 r.2.1 c ∧ z = ind (c ∈ GL r)) ∨ (¬ vc r.1 r.2.1 c ∧ z = -1)))) := by
  obtain ⟨hc, ho, hh, hq, hl, hd⟩ := id hI
  have hL := LaM_of hc ho
  have hg := GM_of hc ho
  obtain ⟨hP, es, hB, hnd, hes⟩ := id hd
  obtain ⟨hc1, hc2, hc3, hc4⟩ := id hc
  have ho4 := ho.2.2.2.1
  obtain ⟨hln, hv, hpm, hle⟩ := MS_b hI hB hnd hes
  obtain ⟨hk, hn1, hn5, hnn1, hnn2⟩ := id hL
  have ht := tu_c hk
  obtain ⟨hP1, hP2, hP3⟩ := id hP
  obtain ⟨hB1, hB2, hB3⟩ := id hB
  show J SHM mi_X7_contains 0 [some (vR 0), some (vI c)] [] M _
  refine j_aload_n dX7_contains_0 rfl ?_
  refine j_iload_n dX7_contains_1 rfl ?_
  refine j_V1z dX7_contains_2 ok_X7_isCode v_X7_117 c_X7_isCode rfl (e_X7_isCode hL hP hi) (fun z2 M2 q2 => ?_)
  obtain ⟨rfl, q2⟩ := q2
  rw [hc1, hc2] at q2
  have hv2 : z2 = 1 → 0 ≤ c ∧ c < 300 := fun h => by
    rcases q2 with q | q
    · have := vm_300 hL (c := c) (by rw [hc1, hc2]; exact q.2)
      omega
    · omega
  refine j_if_ne 12 dX7_contains_5 rfl (by first | (unfold inR; omega) | (have h3 := hv2 (by omega); unfold inR; rcases hB3 c h3.1 h3.2 with w | w <;> omega)) (fun c5 => ?_) (fun c5 => ?_)
  · refine j_aload_n dX7_contains_12 rfl ?_
    refine j_getR dX7_contains_13 f_X7_22 rfl rfl ?_
    refine j_iload_n dX7_contains_16 rfl ?_
    refine j_bald dX7_contains_17 (by first | rfl | assumption) (by decide) (by have h3 := hv2 (by omega); omega) (by have h3 := hv2 (by omega); omega) ?_
    refine j_if_eq 25 dX7_contains_18 rfl (by first | (unfold inR; omega) | (have h3 := hv2 (by omega); unfold inR; rcases hB3 c h3.1 h3.2 with w | w <;> omega)) (fun c18 => ?_) (fun c18 => ?_)
    · refine j_iconst dX7_contains_25 ?_
      refine j_iret dX7_contains_26 rfl ?_
      first
      | (refine ⟨_, rfl, rfl, Or.inr ⟨?_, rfl⟩⟩
         rcases q2 with q | q
         · omega
         · exact q.2)
      | (refine ⟨_, rfl, rfl, Or.inl ⟨?_, ?_⟩⟩
         · rcases q2 with q | q
           · exact q.2
           · omega
         · have h3 := hv2 (by omega)
           rcases hB3 c h3.1 h3.2 with w | w
           · first
             | (rw [ind_1 ((hes c).mp w.2)]; done)
             | (exfalso; omega)
           · first
             | (rw [ind_0 (fun h => w.2 ((hes c).mpr h))]; done)
             | (exfalso; omega))
    · refine j_iconst dX7_contains_21 ?_
      refine j_goto 26 dX7_contains_22 rfl ?_
      refine j_iret dX7_contains_26 rfl ?_
      first
      | (refine ⟨_, rfl, rfl, Or.inr ⟨?_, rfl⟩⟩
         rcases q2 with q | q
         · omega
         · exact q.2)
      | (refine ⟨_, rfl, rfl, Or.inl ⟨?_, ?_⟩⟩
         · rcases q2 with q | q
           · exact q.2
           · omega
         · have h3 := hv2 (by omega)
           rcases hB3 c h3.1 h3.2 with w | w
           · first
             | (rw [ind_1 ((hes c).mp w.2)]; done)
             | (exfalso; omega)
           · first
             | (rw [ind_0 (fun h => w.2 ((hes c).mpr h))]; done)
             | (exfalso; omega))
  · refine j_iconst dX7_contains_8 ?_
    refine j_goto 26 dX7_contains_9 rfl ?_
    refine j_iret dX7_contains_26 rfl ?_
    first
    | (refine ⟨_, rfl, rfl, Or.inr ⟨?_, rfl⟩⟩
       rcases q2 with q | q
       · omega
       · exact q.2)
    | (refine ⟨_, rfl, rfl, Or.inl ⟨?_, ?_⟩⟩
       · rcases q2 with q | q
         · exact q.2
         · omega
       · have h3 := hv2 (by omega)
         rcases hB3 c h3.1 h3.2 with w | w
         · first
           | (rw [ind_1 ((hes c).mp w.2)]; done)
           | (exfalso; omega)
         · first
           | (rw [ind_0 (fun h => w.2 ((hes c).mpr h))]; done)
           | (exfalso; omega))
theorem e_X7_product {M : Mem} {r : Row} {hs : List Row} (hI : MS M r hs) {c d : Int} (hi : inR c) (hj : inR d) : J SHM mi_X7_product 0 (ent [vR 0, vI c, vI d] 3) [] M (pz (fun z M1 => M = M1 ∧ (((vc r.1 r.2.1 c ∧ vc r.1 r.2.1 d) ∧ z = tm r.1 r.2.1 c d) ∨ (¬ (vc r.1 r.2.1 c ∧ vc r.1 r.2.1 d) ∧ z = -1)))) := by
  obtain ⟨hc, ho, hh, hq, hl, hd⟩ := id hI
  have hL := LaM_of hc ho
  have hg := GM_of hc ho
  obtain ⟨hP, es, hB, hnd, hes⟩ := id hd
  obtain ⟨hc1, hc2, hc3, hc4⟩ := id hc
  have ho4 := ho.2.2.2.1
  obtain ⟨hln, hv, hpm, hle⟩ := MS_b hI hB hnd hes
  obtain ⟨hk, hn1, hn5, hnn1, hnn2⟩ := id hL
  have ht := tu_c hk
  obtain ⟨hP1, hP2, hP3⟩ := id hP
  obtain ⟨hB1, hB2, hB3⟩ := id hB
  show J SHM mi_X7_product 0 [some (vR 0), some (vI c), some (vI d)] [] M _
  refine j_aload_n dX7_product_0 rfl ?_
  refine j_iload_n dX7_product_1 rfl ?_
  refine j_V1z dX7_product_2 ok_X7_isCode v_X7_117 c_X7_isCode rfl (e_X7_isCode hL hP hi) (fun z2 M2 q2 => ?_)
  obtain ⟨rfl, q2⟩ := q2
  rw [hc1, hc2] at q2
  refine j_if_eq 25 dX7_product_5 rfl (by unfold inR; omega) (fun c5 => ?_) (fun c5 => ?_)
  · refine j_iconst dX7_product_25 ?_
    refine j_iret dX7_product_26 rfl ?_
    first
    | (refine ⟨_, rfl, rfl, Or.inl ⟨⟨?_, ?_⟩, by rw [hc1, hc2]⟩⟩
       · rcases q2 with q | q
         · exact q.2
         · omega
       · rcases q10 with q | q
         · exact q.2
         · omega)
    | (refine ⟨_, rfl, rfl, Or.inr ⟨?_, rfl⟩⟩
       rcases q10 with q | q
       · omega
       · exact fun h => q.2 h.2)
    | (refine ⟨_, rfl, rfl, Or.inr ⟨?_, rfl⟩⟩
       rcases q2 with q | q
       · omega
       · exact fun h => q.2 h.1)
  · refine j_aload_n dX7_product_8 rfl ?_
    refine j_iload_n dX7_product_9 rfl ?_
    refine j_V1z dX7_product_10 ok_X7_isCode v_X7_117 c_X7_isCode rfl (e_X7_isCode hL hP hj) (fun z10 M10 q10 => ?_)
    obtain ⟨rfl, q10⟩ := q10
    rw [hc1, hc2] at q10
    refine j_if_eq 25 dX7_product_13 rfl (by unfold inR; omega) (fun c13 => ?_) (fun c13 => ?_)
    · refine j_iconst dX7_product_25 ?_
      refine j_iret dX7_product_26 rfl ?_
      first
      | (refine ⟨_, rfl, rfl, Or.inl ⟨⟨?_, ?_⟩, by rw [hc1, hc2]⟩⟩
         · rcases q2 with q | q
           · exact q.2
           · omega
         · rcases q10 with q | q
           · exact q.2
           · omega)
      | (refine ⟨_, rfl, rfl, Or.inr ⟨?_, rfl⟩⟩
         rcases q10 with q | q
         · omega
         · exact fun h => q.2 h.2)
      | (refine ⟨_, rfl, rfl, Or.inr ⟨?_, rfl⟩⟩
         rcases q2 with q | q
         · omega
         · exact fun h => q.2 h.1)
    · refine j_aload_n dX7_product_16 rfl ?_
      refine j_iload_n dX7_product_17 rfl ?_
      refine j_iload_n dX7_product_18 rfl ?_
      refine j_V2p dX7_product_19 ok_X7_times v_X7_102 c_X7_times rfl (e_X7_times hL hP (by rcases q2 with q | q; (rw [hc1, hc2]; exact q.2); (exfalso; omega)) (by rcases q10 with q | q; (rw [hc1, hc2]; exact q.2); (exfalso; omega))) ?_
      refine j_goto 26 dX7_product_22 rfl ?_
      refine j_iret dX7_product_26 rfl ?_
      first
      | (refine ⟨_, rfl, rfl, Or.inl ⟨⟨?_, ?_⟩, by rw [hc1, hc2]⟩⟩
         · rcases q2 with q | q
           · exact q.2
           · omega
         · rcases q10 with q | q
           · exact q.2
           · omega)
      | (refine ⟨_, rfl, rfl, Or.inr ⟨?_, rfl⟩⟩
         rcases q10 with q | q
         · omega
         · exact fun h => q.2 h.2)
      | (refine ⟨_, rfl, rfl, Or.inr ⟨?_, rfl⟩⟩
         rcases q2 with q | q
         · omega
         · exact fun h => q.2 h.1)
/-- each movement comes back to code 0: a finite check -/
def pwN (k n c : Int) (t : Nat) : Bool := (List.range t).any (fun i => pw k n c i == 0)
theorem pw_fin0 : (List.range 2).all (fun k => (List.range 6).all (fun n => n == 0 || (List.range ((if k = 1 then 12 else 8) * (n * n))).all (fun c => pwN k n c 12))) = true := by decide +kernel
theorem pw_fin {k n c : Int} (hk : k = 0 ∨ k = 1) (hn1 : 1 ≤ n) (hn5 : n ≤ 5) (hc : vc k n c) : ∃ t : Nat, t < 12 ∧ pw k n c t = 0 := by
  have key : ∀ k0 : Nat, k0 < 2 → k = k0 → (if k0 = 1 then 12 else 8 : Nat) = (2 * tu k).toNat → ∃ t : Nat, t < 12 ∧ pw k n c t = 0 := fun k0 h0 hk0 ht => by
    have a1 := List.all_eq_true.mp pw_fin0 k0 (List.mem_range.mpr h0)
    have a2 := List.all_eq_true.mp a1 n.toNat (List.mem_range.mpr (by omega))
    rw [Bool.or_eq_true] at a2
    rcases a2 with a2 | a2
    · rw [beq_iff_eq] at a2
      omega
    · have hcn : c.toNat < (if k0 = 1 then 12 else 8) * (n.toNat * n.toNat) := by
        rw [ht]
        have h2 : ((((2 * tu k).toNat * (n.toNat * n.toNat) : Nat)) : Int) = 2 * tu k * (n * n) := by
          rw [Int.natCast_mul, Int.natCast_mul, Int.toNat_of_nonneg (by have := tu_c hk; omega), Int.toNat_of_nonneg (by omega)]
        have := hc.1
        have := hc.2
        omega
      have a3 := List.all_eq_true.mp a2 c.toNat (List.mem_range.mpr hcn)
      unfold pwN at a3
      rw [← hk0, show ((n.toNat : Nat) : Int) = n by omega, show ((c.toNat : Nat) : Int) = c by have := hc.1; omega] at a3
      obtain ⟨t, h1, h2⟩ := List.any_eq_true.mp a3
      exact ⟨t, List.mem_range.mp h1, by simpa using h2⟩
  rcases hk with rfl | rfl
  · exact key 0 (by decide) rfl rfl
  · exact key 1 (by decide) rfl rfl
theorem l_ord {M : Mem} (hL : LaM M) (hP : MPt M) {c : Int} {t0 : Nat} (hv : vc (M 1 0) (M 1 1) c) (ht0 : pw (M 1 0) (M 1 1) c t0 = 0) (m : Nat) : ∀ (t : Nat) (s : Int), s = t + 1 → t ≤ t0 → t0 - t < m → (∀ i < t, pw (M 1 0) (M 1 1) c i ≠ 0) → J SHM mi_X7_orderOf 14 [some (vR 0), some (vI c), some (vI s), some (vI (pw (M 1 0) (M 1 1) c t))] [] M (pz (fun z M1 => M = M1 ∧ ∃ t : Nat, z = t + 1 ∧ (∀ i < t, pw (M 1 0) (M 1 1) c i ≠ 0) ∧ pw (M 1 0) (M 1 1) c t = 0)) := by
  induction m with
  | zero => intro t s hs h1 h2; omega
  | succ m ih =>
  intro t s hs h1 h2 h3
  obtain ⟨hk, hn1, hn5, hc1, hc2⟩ := id hL
  have ht := tu_c hk
  obtain ⟨hP1, hP2, hP3⟩ := id hP
  have hpv := vc_pw hk hn1 hv t
  obtain ⟨hp0, hp1, _, _⟩ := vc_b hk hc1 hc2 hpv
  refine j_iload_n dX7_orderOf_14 rfl ?_
  refine j_if_eq 31 dX7_orderOf_15 rfl (by unfold inR; omega) (fun c15 => ?_) (fun c15 => ?_)
  · refine j_iload_n dX7_orderOf_31 rfl ?_
    refine j_iret dX7_orderOf_32 rfl ?_
    exact ⟨_, rfl, rfl, t, hs, h3, c15⟩
  · refine j_aload_n dX7_orderOf_18 rfl ?_
    refine j_iload_n dX7_orderOf_19 rfl ?_
    refine j_iload_n dX7_orderOf_20 rfl ?_
    refine j_V2p dX7_orderOf_21 ok_X7_times v_X7_102 c_X7_times rfl (e_X7_times hL hP (by assumption) (by assumption)) ?_
    refine j_istore_n dX7_orderOf_24 (by decide) (nol rfl) (by show List.set _ 3 _ = _; simp only [List.set_cons_zero, List.set_cons_succ]; rfl) ?_
    refine j_iinc dX7_orderOf_25 rfl (by decide) (nol rfl) (by simp only [List.set_cons_zero, List.set_cons_succ]; rfl) ?_
    refine j_goto 14 dX7_orderOf_28 rfl ?_
    have hne : t ≠ t0 := fun e => c15 (by rw [e]; exact ht0)
    exact ih (t + 1) (s + 1) (by omega) (by omega) (by omega) (fun i hi => by
      by_cases e : i = t
      · rw [e]; exact c15
      · exact h3 i (by omega))
theorem e_X7_orderOf {M : Mem} {r : Row} {hs : List Row} (hI : MS M r hs) {c : Int} (hi : inR c) : J SHM mi_X7_orderOf 0 (ent [vR 0, vI c] 4) [] M (pz (fun z M1 => M = M1 ∧ ((vc r.1 r.2.1 c ∧ ∃ t : Nat, z = t + 1 ∧ (∀ i < t, pw r.1 r.2.1 c i ≠ 0) ∧ pw r.1 r.2.1 c t = 0) ∨ (¬ vc r.1 r.2.1 c ∧ z = -1)))) := by
  obtain ⟨hc, ho, hh, hq, hl, hd⟩ := id hI
  have hL := LaM_of hc ho
  have hg := GM_of hc ho
  obtain ⟨hP, es, hB, hnd, hes⟩ := id hd
  obtain ⟨hc1, hc2, hc3, hc4⟩ := id hc
  have ho4 := ho.2.2.2.1
  obtain ⟨hln, hv, hpm, hle⟩ := MS_b hI hB hnd hes
  obtain ⟨hk, hn1, hn5, hnn1, hnn2⟩ := id hL
  have ht := tu_c hk
  obtain ⟨hP1, hP2, hP3⟩ := id hP
  obtain ⟨hB1, hB2, hB3⟩ := id hB
  show J SHM mi_X7_orderOf 0 [some (vR 0), some (vI c), none, none] [] M _
  refine j_aload_n dX7_orderOf_0 rfl ?_
  refine j_iload_n dX7_orderOf_1 rfl ?_
  refine j_V1z dX7_orderOf_2 ok_X7_isCode v_X7_117 c_X7_isCode rfl (e_X7_isCode hL hP hi) (fun z2 M2 q2 => ?_)
  obtain ⟨rfl, q2⟩ := q2
  rw [hc1, hc2] at q2
  refine j_if_ne 10 dX7_orderOf_5 rfl (by unfold inR; omega) (fun c5 => ?_) (fun c5 => ?_)
  · refine j_iconst dX7_orderOf_10 ?_
    refine j_istore_n dX7_orderOf_11 (by decide) (nol rfl) (by show List.set _ 2 _ = _; simp only [List.set_cons_zero, List.set_cons_succ]; rfl) ?_
    refine j_iload_n dX7_orderOf_12 rfl ?_
    refine j_istore_n dX7_orderOf_13 (by decide) (nol rfl) (by show List.set _ 3 _ = _; simp only [List.set_cons_zero, List.set_cons_succ]; rfl) ?_
    have hvc : vc r.1 r.2.1 c := by
      rcases q2 with q | q
      · exact q.2
      · omega
    have hvc2 : vc (M 1 0) (M 1 1) c := by rw [hc1, hc2]; exact hvc
    obtain ⟨t0, -, h0⟩ := pw_fin hk hn1 hn5 hvc2
    refine j_mono ?_ (l_ord hL hP hvc2 h0 (t0 + 1) 0 1 rfl (by omega) (by omega) (fun i hi => absurd hi (Nat.not_lt_zero _)))
    rintro v M1 ⟨z, rfl, rfl, h⟩
    rw [hc1, hc2] at h
    exact ⟨_, rfl, rfl, Or.inl ⟨hvc, h⟩⟩
  · refine j_iconst dX7_orderOf_8 ?_
    refine j_iret dX7_orderOf_9 rfl ?_
    refine ⟨_, rfl, rfl, Or.inr ⟨?_, rfl⟩⟩
    rcases q2 with q | q
    · omega
    · exact q.2
theorem e_X7_kindOf {M : Mem} {r : Row} {hs : List Row} (hI : MS M r hs) {c : Int} (hi : inR c) : J SHM mi_X7_kindOf 0 (ent [vR 0, vI c] 2) [] M (pz (fun z M1 => M = M1 ∧ ((vc r.1 r.2.1 c ∧ z = kn r.1 r.2.1 c) ∨ (¬ vc r.1 r.2.1 c ∧ z = -1)))) := by
  obtain ⟨hc, ho, hh, hq, hl, hd⟩ := id hI
  have hL := LaM_of hc ho
  have hg := GM_of hc ho
  obtain ⟨hP, es, hB, hnd, hes⟩ := id hd
  obtain ⟨hc1, hc2, hc3, hc4⟩ := id hc
  have ho4 := ho.2.2.2.1
  obtain ⟨hln, hv, hpm, hle⟩ := MS_b hI hB hnd hes
  obtain ⟨hk, hn1, hn5, hnn1, hnn2⟩ := id hL
  have ht := tu_c hk
  obtain ⟨hP1, hP2, hP3⟩ := id hP
  obtain ⟨hB1, hB2, hB3⟩ := id hB
  show J SHM mi_X7_kindOf 0 [some (vR 0), some (vI c)] [] M _
  refine j_aload_n dX7_kindOf_0 rfl ?_
  refine j_iload_n dX7_kindOf_1 rfl ?_
  refine j_V1z dX7_kindOf_2 ok_X7_isCode v_X7_117 c_X7_isCode rfl (e_X7_isCode hL hP hi) (fun z2 M2 q2 => ?_)
  obtain ⟨rfl, q2⟩ := q2
  rw [hc1, hc2] at q2
  refine j_if_eq 16 dX7_kindOf_5 rfl (by unfold inR; omega) (fun c5 => ?_) (fun c5 => ?_)
  · refine j_iconst dX7_kindOf_16 ?_
    refine j_iret dX7_kindOf_17 rfl ?_
    first
    | (refine ⟨_, rfl, rfl, Or.inl ⟨?_, by rw [hc1, hc2]⟩⟩
       rcases q2 with q | q
       · exact q.2
       · omega)
    | (refine ⟨_, rfl, rfl, Or.inr ⟨?_, rfl⟩⟩
       rcases q2 with q | q
       · omega
       · exact q.2)
  · refine j_aload_n dX7_kindOf_8 rfl ?_
    refine j_iload_n dX7_kindOf_9 rfl ?_
    refine j_V1p dX7_kindOf_10 ok_X7_kindOfCode v_X7_120 c_X7_kindOfCode rfl (e_X7_kindOfCode hL hP (by rcases q2 with q | q; (rw [hc1, hc2]; exact q.2); (exfalso; omega))) ?_
    refine j_goto 17 dX7_kindOf_13 rfl ?_
    refine j_iret dX7_kindOf_17 rfl ?_
    first
    | (refine ⟨_, rfl, rfl, Or.inl ⟨?_, by rw [hc1, hc2]⟩⟩
       rcases q2 with q | q
       · exact q.2
       · omega)
    | (refine ⟨_, rfl, rfl, Or.inr ⟨?_, rfl⟩⟩
       rcases q2 with q | q
       · omega
       · exact q.2)
theorem l_count {M : Mem} (hL : LaM M) (hP : MPt M) {es : List Int} (hB : BM M es) (hln : es.length ≤ 300) (hv : ∀ x ∈ es, vc (M 1 0) (M 1 1) x) {d : Int} (hd : 0 ≤ d ∧ d ≤ 3) (m : Nat) : ∀ (i : Nat) (j s : Int), j = i → s = ((es.take i).countP (fun c => decide (kn (M 1 0) (M 1 1) c = d)) : Nat) → i ≤ es.length → es.length - i < m → J SHM mi_X7_count 15 [some (vR 0), some (vI d), some (vI s), some (vI j)] [] M (pu (vI (es.countP (fun c => decide (kn (M 1 0) (M 1 1) c = d)) : Nat)) M) := by
  induction m with
  | zero => intro i j s hj0 hs h1 h2; omega
  | succ m ih =>
  intro i j s hj0 hs h1 h2
  subst hj0
  obtain ⟨hk, hn1, hn5, hc1, hc2⟩ := id hL
  have ht := tu_c hk
  obtain ⟨hP1, hP2, hP3⟩ := id hP
  obtain ⟨hB1, hB2, hB3⟩ := id hB
  have hx := EsI (M := M) (i := i) hB hv
  have hkb := kn_b (M 1 0) (M 1 1) (M 6 i)
  refine j_iload_n dX7_count_15 rfl ?_
  refine j_aload_n dX7_count_16 rfl ?_
  refine j_getI (kz := 8) rfl dX7_count_17 f_X7_92 rfl rfl ?_
  refine j_icmp_ge 51 dX7_count_20 rfl (by first | (unfold inR; omega) | (unfold inR; omega)) (by first | (unfold inR; omega) | (unfold inR; omega)) (fun c20 => ?_) (fun c20 => ?_)
  · refine j_iload_n dX7_count_51 rfl ?_
    refine j_iret dX7_count_52 rfl ?_
    have hi : i = es.length := by omega
    subst hi
    rw [List.take_length] at hs
    exact pu_i hs
  · refine j_iload_n dX7_count_23 rfl ?_
    refine j_aload_n dX7_count_24 rfl ?_
    refine j_aload_n dX7_count_25 rfl ?_
    refine j_getR dX7_count_26 f_X7_26 rfl rfl ?_
    refine j_iload_n dX7_count_29 rfl ?_
    refine j_iald dX7_count_30 (by first | rfl | assumption) (by decide) (by omega) (by omega) ?_
    refine j_V1p dX7_count_31 ok_X7_kindOfCode v_X7_120 c_X7_kindOfCode rfl (e_X7_kindOfCode hL hP (hx (by omega)).1) ?_
    refine j_iload_n dX7_count_34 rfl ?_
    refine j_icmp_ne 42 dX7_count_35 rfl (by first | (unfold inR; omega) | (unfold inR; omega)) (by first | (unfold inR; omega) | (unfold inR; omega)) (fun c35 => ?_) (fun c35 => ?_)
    · refine j_iconst dX7_count_42 ?_
      refine j_iadd dX7_count_43 ?_
      refine j_istore_n dX7_count_44 (by decide) (nol rfl) (by show List.set _ 2 _ = _; simp only [List.set_cons_zero, List.set_cons_succ]; rfl) ?_
      refine j_iinc dX7_count_45 rfl (by decide) (nol rfl) (by simp only [List.set_cons_zero, List.set_cons_succ]; rfl) ?_
      refine j_goto 15 dX7_count_48 rfl ?_
      refine ih (i + 1) _ _ (by omega) ?_ (by omega) (by omega)
      rw [cp_step (hx (by omega)).2, if_neg (by simpa using c35)]
      omega
    · refine j_iconst dX7_count_38 ?_
      refine j_goto 43 dX7_count_39 rfl ?_
      refine j_iadd dX7_count_43 ?_
      refine j_istore_n dX7_count_44 (by decide) (nol rfl) (by show List.set _ 2 _ = _; simp only [List.set_cons_zero, List.set_cons_succ]; rfl) ?_
      refine j_iinc dX7_count_45 rfl (by decide) (nol rfl) (by simp only [List.set_cons_zero, List.set_cons_succ]; rfl) ?_
      refine j_goto 15 dX7_count_48 rfl ?_
      refine ih (i + 1) _ _ (by omega) ?_ (by omega) (by omega)
      rw [cp_step (hx (by omega)).2, if_pos (by simpa using c35)]
      omega
theorem e_X7_count {M : Mem} {r : Row} {hs : List Row} (hI : MS M r hs) {d : Int} (hi : inR d) : J SHM mi_X7_count 0 (ent [vR 0, vI d] 4) [] M (pz (fun z M1 => M = M1 ∧ (((0 ≤ d ∧ d < 4) ∧ z = ((GL r).countP (fun c => decide (kn r.1 r.2.1 c = d)) : Nat)) ∨ (¬ (0 ≤ d ∧ d < 4) ∧ z = -1)))) := by
  obtain ⟨hc, ho, hh, hq, hl, hd⟩ := id hI
  have hL := LaM_of hc ho
  have hg := GM_of hc ho
  obtain ⟨hP, es, hB, hnd, hes⟩ := id hd
  obtain ⟨hc1, hc2, hc3, hc4⟩ := id hc
  have ho4 := ho.2.2.2.1
  obtain ⟨hln, hv, hpm, hle⟩ := MS_b hI hB hnd hes
  obtain ⟨hk, hn1, hn5, hnn1, hnn2⟩ := id hL
  have ht := tu_c hk
  obtain ⟨hP1, hP2, hP3⟩ := id hP
  obtain ⟨hB1, hB2, hB3⟩ := id hB
  show J SHM mi_X7_count 0 [some (vR 0), some (vI d), none, none] [] M _
  refine j_iload_n dX7_count_0 rfl ?_
  refine j_iconst dX7_count_1 ?_
  refine j_iconst dX7_count_2 ?_
  refine j_S3z dX7_count_3 ok_X7_in s_X7_78 (e_X7_in hi (by unfold inR; omega) (by unfold inR; omega)) (fun z3 M3 q3 => ?_)
  obtain ⟨rfl, q3⟩ := q3
  refine j_if_ne 11 dX7_count_6 rfl (by unfold inR; omega) (fun c6 => ?_) (fun c6 => ?_)
  · refine j_iconst dX7_count_11 ?_
    refine j_istore_n dX7_count_12 (by decide) (nol rfl) (by show List.set _ 2 _ = _; simp only [List.set_cons_zero, List.set_cons_succ]; rfl) ?_
    refine j_iconst dX7_count_13 ?_
    refine j_istore_n dX7_count_14 (by decide) (nol rfl) (by show List.set _ 3 _ = _; simp only [List.set_cons_zero, List.set_cons_succ]; rfl) ?_
    refine j_mono ?_ (l_count hL hP hB hln hv (d := d) (by omega) (es.length + 1) 0 0 0 rfl (by simp) (by omega) (by omega))
    rintro v M1 ⟨rfl, rfl⟩
    rw [hc1, hc2, hpm.countP_eq]
    exact ⟨_, rfl, rfl, Or.inl ⟨by omega, rfl⟩⟩
  · refine j_iconst dX7_count_9 ?_
    refine j_iret dX7_count_10 rfl ?_
    exact ⟨_, rfl, rfl, Or.inr ⟨by omega, rfl⟩⟩
theorem l_cm1 {M : Mem} (hL : LaM M) (hP : MPt M) {es : List Int} (hB : BM M es) (hln : es.length ≤ 300) (hv : ∀ x ∈ es, vc (M 1 0) (M 1 1) x) {i0 : Nat} (hi0 : i0 < es.length) {s0 : Int} {Q : Option PV → Mem → Prop} (m : Nat) : ∀ (i : Nat) (j s : Int), j = i → s = s0 + ((es.take i).countP (fun y => decide (tm (M 1 0) (M 1 1) (M 6 i0) y = tm (M 1 0) (M 1 1) y (M 6 i0))) : Nat) → i ≤ es.length → es.length - i < m → J SHM mi_X7_commutingPairs 71 [some (vR 0), some (vI (s0 + (cmP (M 1 0) (M 1 1) es (M 6 i0) : Nat))), some (vI i0), some (vI es.length)] [] M Q → J SHM mi_X7_commutingPairs 14 [some (vR 0), some (vI s), some (vI i0), some (vI j)] [] M Q := by
  induction m with
  | zero => intro i j s hj0 hs h1 h2; omega
  | succ m ih =>
  intro i j s hj0 hs h1 h2 KK
  subst hj0
  obtain ⟨hk, hn1, hn5, hc1, hc2⟩ := id hL
  have ht := tu_c hk
  obtain ⟨hP1, hP2, hP3⟩ := id hP
  obtain ⟨hB1, hB2, hB3⟩ := id hB
  have hx := EsI (M := M) (i := i) hB hv
  have hy := EsI (M := M) (i := i0) hB hv hi0
  refine j_iload_n dX7_commutingPairs_14 rfl ?_
  refine j_aload_n dX7_commutingPairs_15 rfl ?_
  refine j_getI (kz := 8) rfl dX7_commutingPairs_16 f_X7_92 rfl rfl ?_
  refine j_icmp_ge 71 dX7_commutingPairs_19 rfl (by unfold inR; omega) (by unfold inR; omega) (fun c19 => ?_) (fun c19 => ?_)
  · have hi : i = es.length := by omega
    subst hi
    rw [List.take_length] at hs
    rw [hs]
    exact KK
  · refine j_iload_n dX7_commutingPairs_22 rfl ?_
    refine j_aload_n dX7_commutingPairs_23 rfl ?_
    refine j_aload_n dX7_commutingPairs_24 rfl ?_
    refine j_getR dX7_commutingPairs_25 f_X7_26 rfl rfl ?_
    refine j_iload_n dX7_commutingPairs_28 rfl ?_
    refine j_iald dX7_commutingPairs_29 (by first | rfl | assumption) (by decide) (by omega) (by omega) ?_
    refine j_aload_n dX7_commutingPairs_30 rfl ?_
    refine j_getR dX7_commutingPairs_31 f_X7_26 rfl rfl ?_
    refine j_iload_n dX7_commutingPairs_34 rfl ?_
    refine j_iald dX7_commutingPairs_35 (by first | rfl | assumption) (by decide) (by omega) (by omega) ?_
    refine j_V2p dX7_commutingPairs_36 ok_X7_times v_X7_102 c_X7_times rfl (e_X7_times hL hP hy.1 (hx (by omega)).1) ?_
    have hb36 := vm_300 hL (vc_tm (k := M 1 0) (g := M 6 i0) (h := M 6 i) hk hn1)
    refine j_aload_n dX7_commutingPairs_39 rfl ?_
    refine j_aload_n dX7_commutingPairs_40 rfl ?_
    refine j_getR dX7_commutingPairs_41 f_X7_26 rfl rfl ?_
    refine j_iload_n dX7_commutingPairs_44 rfl ?_
    refine j_iald dX7_commutingPairs_45 (by first | rfl | assumption) (by decide) (by omega) (by omega) ?_
    refine j_aload_n dX7_commutingPairs_46 rfl ?_
    refine j_getR dX7_commutingPairs_47 f_X7_26 rfl rfl ?_
    refine j_iload_n dX7_commutingPairs_50 rfl ?_
    refine j_iald dX7_commutingPairs_51 (by first | rfl | assumption) (by decide) (by omega) (by omega) ?_
    refine j_V2p dX7_commutingPairs_52 ok_X7_times v_X7_102 c_X7_times rfl (e_X7_times hL hP (hx (by omega)).1 hy.1) ?_
    have hb52 := vm_300 hL (vc_tm (k := M 1 0) (g := M 6 i) (h := M 6 i0) hk hn1)
    refine j_icmp_ne 62 dX7_commutingPairs_55 rfl (by unfold inR; omega) (by unfold inR; omega) (fun c55 => ?_) (fun c55 => ?_)
    · refine j_iconst dX7_commutingPairs_62 ?_
      refine j_iadd dX7_commutingPairs_63 ?_
      refine j_istore_n dX7_commutingPairs_64 (by decide) (nol rfl) (by show List.set _ 1 _ = _; simp only [List.set_cons_zero, List.set_cons_succ]; rfl) ?_
      refine j_iinc dX7_commutingPairs_65 rfl (by decide) (nol rfl) (by simp only [List.set_cons_zero, List.set_cons_succ]; rfl) ?_
      refine j_goto 14 dX7_commutingPairs_68 rfl ?_
      refine ih (i + 1) _ _ (by omega) ?_ (by omega) (by omega) KK
      rw [cp_step (hx (by omega)).2, if_neg (by simpa using c55)]
      omega
    · refine j_iconst dX7_commutingPairs_58 ?_
      refine j_goto 63 dX7_commutingPairs_59 rfl ?_
      refine j_iadd dX7_commutingPairs_63 ?_
      refine j_istore_n dX7_commutingPairs_64 (by decide) (nol rfl) (by show List.set _ 1 _ = _; simp only [List.set_cons_zero, List.set_cons_succ]; rfl) ?_
      refine j_iinc dX7_commutingPairs_65 rfl (by decide) (nol rfl) (by simp only [List.set_cons_zero, List.set_cons_succ]; rfl) ?_
      refine j_goto 14 dX7_commutingPairs_68 rfl ?_
      refine ih (i + 1) _ _ (by omega) ?_ (by omega) (by omega) KK
      rw [cp_step (hx (by omega)).2, if_pos (by simpa using c55)]
      omega
theorem l_cm2 {M : Mem} (hL : LaM M) (hP : MPt M) {es : List Int} (hB : BM M es) (hln : es.length ≤ 300) (hv : ∀ x ∈ es, vc (M 1 0) (M 1 1) x) (m : Nat) : ∀ (i : Nat) (j s : Int) (w : Option PV), j = i → s = (((es.take i).map (cmP (M 1 0) (M 1 1) es)).sum : Nat) → i ≤ es.length → es.length - i < m → J SHM mi_X7_commutingPairs 4 [some (vR 0), some (vI s), some (vI j), w] [] M (pu (vI (cmS (M 1 0) (M 1 1) es : Nat)) M) := by
  induction m with
  | zero => intro i j s w hj0 hs h1 h2; omega
  | succ m ih =>
  intro i j s w hj0 hs h1 h2
  subst hj0
  obtain ⟨hk, hn1, hn5, hc1, hc2⟩ := id hL
  have ht := tu_c hk
  obtain ⟨hP1, hP2, hP3⟩ := id hP
  obtain ⟨hB1, hB2, hB3⟩ := id hB
  have hx := EsI (M := M) (i := i) hB hv
  refine j_iload_n dX7_commutingPairs_4 rfl ?_
  refine j_aload_n dX7_commutingPairs_5 rfl ?_
  refine j_getI (kz := 8) rfl dX7_commutingPairs_6 f_X7_92 rfl rfl ?_
  refine j_icmp_ge 77 dX7_commutingPairs_9 rfl (by unfold inR; omega) (by unfold inR; omega) (fun c9 => ?_) (fun c9 => ?_)
  · refine j_iload_n dX7_commutingPairs_77 rfl ?_
    refine j_iret dX7_commutingPairs_78 rfl ?_
    have hi : i = es.length := by omega
    subst hi
    rw [List.take_length] at hs
    exact pu_i hs
  · refine j_iconst dX7_commutingPairs_12 ?_
    refine j_istore_n dX7_commutingPairs_13 (by decide) (nol rfl) (by show List.set _ 3 _ = _; simp only [List.set_cons_zero, List.set_cons_succ]; rfl) ?_
    refine l_cm1 hL hP hB hln hv (i0 := i) (s0 := s) (by omega) (es.length + 1) 0 0 s rfl (by simp) (by omega) (by omega) ?_
    refine j_iinc dX7_commutingPairs_71 rfl (by decide) (nol rfl) (by simp only [List.set_cons_zero, List.set_cons_succ]; rfl) ?_
    refine j_goto 4 dX7_commutingPairs_74 rfl ?_
    refine ih (i + 1) _ _ _ (by omega) ?_ (by omega) (by omega)
    rw [sm_step (hx (by omega)).2]
    omega
theorem e_X7_commutingPairs {M : Mem} {r : Row} {hs : List Row} (hI : MS M r hs)  : J SHM mi_X7_commutingPairs 0 (ent [vR 0] 4) [] M (pu (vI (cmS r.1 r.2.1 (GL r) : Nat)) M) := by
  obtain ⟨hc, ho, hh, hq, hl, hd⟩ := id hI
  have hL := LaM_of hc ho
  have hg := GM_of hc ho
  obtain ⟨hP, es, hB, hnd, hes⟩ := id hd
  obtain ⟨hc1, hc2, hc3, hc4⟩ := id hc
  have ho4 := ho.2.2.2.1
  obtain ⟨hln, hv, hpm, hle⟩ := MS_b hI hB hnd hes
  obtain ⟨hk, hn1, hn5, hnn1, hnn2⟩ := id hL
  have ht := tu_c hk
  obtain ⟨hP1, hP2, hP3⟩ := id hP
  obtain ⟨hB1, hB2, hB3⟩ := id hB
  show J SHM mi_X7_commutingPairs 0 [some (vR 0), none, none, none] [] M _
  refine j_iconst dX7_commutingPairs_0 ?_
  refine j_istore_n dX7_commutingPairs_1 (by decide) (nol rfl) (by show List.set _ 1 _ = _; simp only [List.set_cons_zero, List.set_cons_succ]; rfl) ?_
  refine j_iconst dX7_commutingPairs_2 ?_
  refine j_istore_n dX7_commutingPairs_3 (by decide) (nol rfl) (by show List.set _ 2 _ = _; simp only [List.set_cons_zero, List.set_cons_succ]; rfl) ?_
  have h9 := l_cm2 hL hP hB hln hv (es.length + 1) 0 0 0 none rfl (by simp) (by omega) (by omega)
  rw [hc1, hc2, cmS_perm hpm] at h9
  exact h9
theorem e_X7_isAbelian {M : Mem} {r : Row} {hs : List Row} (hI : MS M r hs)  : J SHM mi_X7_isAbelian 0 (ent [vR 0] 1) [] M (bz (cmS r.1 r.2.1 (GL r) = (GL r).length * (GL r).length) M) := by
  obtain ⟨hc, ho, hh, hq, hl, hd⟩ := id hI
  have hL := LaM_of hc ho
  have hg := GM_of hc ho
  obtain ⟨hP, es, hB, hnd, hes⟩ := id hd
  obtain ⟨hc1, hc2, hc3, hc4⟩ := id hc
  have ho4 := ho.2.2.2.1
  obtain ⟨hln, hv, hpm, hle⟩ := MS_b hI hB hnd hes
  obtain ⟨hk, hn1, hn5, hnn1, hnn2⟩ := id hL
  have ht := tu_c hk
  obtain ⟨hP1, hP2, hP3⟩ := id hP
  obtain ⟨hB1, hB2, hB3⟩ := id hB
  have hcm := cmS_b (k := r.1) (n := r.2.1) (es := GL r)
  have hll : (GL r).length * (GL r).length ≤ 300 * 300 := Nat.mul_le_mul GL_len GL_len
  have hG0 : 0 < (GL r).length := List.length_pos_of_mem GL_0
  have e8 : M 0 8 = (GL r).length := by omega
  have e88 : M 0 8 * M 0 8 = ((GL r).length * (GL r).length : Nat) := by rw [e8, Int.natCast_mul]
  show J SHM mi_X7_isAbelian 0 [some (vR 0)] [] M _
  refine j_aload_n dX7_isAbelian_0 rfl ?_
  refine j_V0p dX7_isAbelian_1 ok_X7_commutingPairs v_X7_123 c_X7_commutingPairs rfl (e_X7_commutingPairs hI) ?_
  refine j_aload_n dX7_isAbelian_4 rfl ?_
  refine j_getI (kz := 8) rfl dX7_isAbelian_5 f_X7_92 rfl rfl ?_
  refine j_aload_n dX7_isAbelian_8 rfl ?_
  refine j_getI (kz := 8) rfl dX7_isAbelian_9 f_X7_92 rfl rfl ?_
  refine j_imul dX7_isAbelian_12 ?_
  refine j_icmp_ne 20 dX7_isAbelian_13 rfl (by first | (rw [e88]; unfold inR; omega) | (unfold inR; omega)) (by first | (rw [e88]; unfold inR; omega) | (unfold inR; omega)) (fun c13 => ?_) (fun c13 => ?_)
  · refine j_iconst dX7_isAbelian_20 ?_
    refine j_iret dX7_isAbelian_21 rfl ?_
    exact bz_i (by omega)
  · refine j_iconst dX7_isAbelian_16 ?_
    refine j_goto 21 dX7_isAbelian_17 rfl ?_
    refine j_iret dX7_isAbelian_21 rfl ?_
    exact bz_i (by omega)
theorem e_X7_conjugacyClasses {M : Mem} {r : Row} {hs : List Row} (hI : MS M r hs)  : J SHM mi_X7_conjugacyClasses 0 (ent [vR 0] 1) [] M (pu (vI (cmS r.1 r.2.1 (GL r) / (GL r).length : Nat)) M) := by
  obtain ⟨hc, ho, hh, hq, hl, hd⟩ := id hI
  have hL := LaM_of hc ho
  have hg := GM_of hc ho
  obtain ⟨hP, es, hB, hnd, hes⟩ := id hd
  obtain ⟨hc1, hc2, hc3, hc4⟩ := id hc
  have ho4 := ho.2.2.2.1
  obtain ⟨hln, hv, hpm, hle⟩ := MS_b hI hB hnd hes
  obtain ⟨hk, hn1, hn5, hnn1, hnn2⟩ := id hL
  have ht := tu_c hk
  obtain ⟨hP1, hP2, hP3⟩ := id hP
  obtain ⟨hB1, hB2, hB3⟩ := id hB
  have hcm := cmS_b (k := r.1) (n := r.2.1) (es := GL r)
  have hll : (GL r).length * (GL r).length ≤ 300 * 300 := Nat.mul_le_mul GL_len GL_len
  have hG0 : 0 < (GL r).length := List.length_pos_of_mem GL_0
  have e8 : M 0 8 = (GL r).length := by omega
  show J SHM mi_X7_conjugacyClasses 0 [some (vR 0)] [] M _
  refine j_aload_n dX7_conjugacyClasses_0 rfl ?_
  refine j_V0p dX7_conjugacyClasses_1 ok_X7_commutingPairs v_X7_123 c_X7_commutingPairs rfl (e_X7_commutingPairs hI) ?_
  refine j_aload_n dX7_conjugacyClasses_4 rfl ?_
  refine j_getI (kz := 8) rfl dX7_conjugacyClasses_5 f_X7_92 rfl rfl ?_
  refine j_idiv dX7_conjugacyClasses_8 (by unfold inR; omega) (by unfold inR; omega) (by omega) ?_
  refine j_iret dX7_conjugacyClasses_9 rfl ?_
  refine pu_i ?_
  rw [e8, Int.tdiv_eq_ediv_of_nonneg (by omega)]
  rfl
