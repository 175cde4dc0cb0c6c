/-! class Cells: cycles, coloring classes -/
theorem l_fi {c : Int} (m : Nat) : ∀ (x : Int) (M : Mem) (w : Option PV), Lat M → vc (M 1 0) (M 1 1) c → 0 ≤ x → x ≤ M 1 1 → M 1 1 - x < m → (∀ q : Int, 0 ≤ q → q < M 1 1 * x → M 24 q = sc (M 1 0) (M 1 1) c q) → J SHC mi_X0_fillImages 78 [some (vR 19), some (vI c), some (vI (cP (M 1 1) c)), some (vI (en (M 1 0) (cP (M 1 1) c) 0)), some (vI (en (M 1 0) (cP (M 1 1) c) 1)), some (vI (en (M 1 0) (cP (M 1 1) c) 2)), some (vI (en (M 1 0) (cP (M 1 1) c) 3)), some (vI (cX (M 1 1) c)), some (vI (cY (M 1 1) c)), some (vI (M 1 1 * x)), some (vI x), w] [] M (pv (fun M1 => fr [24] M M1 ∧ ∀ q : Int, 0 ≤ q → q < M 1 1 * M 1 1 → M1 24 q = sc (M 1 0) (M 1 1) c q)) := by
  induction m with
  | zero => intro x M w _ _ h1 h2 h3; omega
  | succ m ih =>
  intro x M w hL hv h1 h2 h3 h4
  obtain ⟨hk, hn1, hn5, hc1, hc2⟩ := id hL
  have ht := tu_c hk
  refine j_iload dX0_fillImages_78 rfl ?_
  refine j_aload_n dX0_fillImages_80 rfl ?_
  refine j_getR dX0_fillImages_81 f_X0_28 rfl rfl ?_
  refine j_getI (kz := 1) rfl dX0_fillImages_84 f_X0_122 rfl rfl ?_
  refine j_icmp_ge 182 dX0_fillImages_87 rfl (by unfold inR; omega) (by unfold inR; omega) (fun c87 => ?_) (fun c87 => ?_)
  · refine j_vret dX0_fillImages_182 rfl ?_
    have hx : x = M 1 1 := by omega
    subst hx
    exact ⟨rfl, fr.rf, h4⟩
  · refine j_iconst dX0_fillImages_90 ?_
    refine j_istore dX0_fillImages_91 (by decide) (nol rfl) (by show List.set _ 11 _ = _; simp only [List.set_cons_zero, List.set_cons_succ]; rfl) ?_
    have e0 : M 1 1 * x + 0 = M 1 1 * x := Int.add_zero _
    have h9 := l_fi_in (c := c) (x := x) (Q := (pv (fun M1 => fr [24] M M1 ∧ ∀ q : Int, 0 ≤ q → q < M 1 1 * M 1 1 → M1 24 q = sc (M 1 0) (M 1 1) c q))) 6 0 M hL hv h1 (by omega) (by omega) (by omega) (by omega) (fun q a b => h4 q a (by omega)) (fun M1 w f1 g1 => ?_)
    · rw [e0] at h9
      exact h9
    · have e1 := f1 1 (by decide)
      refine j_iinc dX0_fillImages_176 rfl (by decide) (nol rfl) (by simp only [List.set_cons_zero, List.set_cons_succ]; rfl) ?_
      refine j_goto 78 dX0_fillImages_179 rfl ?_
      have em : M 1 1 * (x + 1) = M 1 1 * x + M 1 1 := by rw [Int.mul_add, Int.mul_one]
      have h8 := ih (x + 1) M1 w (Lat_fr f1 (by decide) hL) (by rw [e1]; exact hv) (by omega) (by rw [e1]; omega) (by rw [e1]; omega) (by rw [e1, em]; exact g1)
      rw [e1, em] at h8
      refine j_mono ?_ h8
      rintro v M2 ⟨rfl, f2, g2⟩
      exact ⟨rfl, f1.tr f2, g2⟩
theorem e_X0_fillImages {M : Mem} {c : Int} (hL : Lat M) (hv : vc (M 1 0) (M 1 1) c) : J SHC mi_X0_fillImages 0 (ent [vR 19, vI c] 12) [] M (pv (fun M1 => fr [24] M M1 ∧ ∀ q : Int, 0 ≤ q → q < M 1 1 * M 1 1 → M1 24 q = sc (M 1 0) (M 1 1) c q)) := by
  obtain ⟨hk, hn1, hn5, hc1, hc2⟩ := id hL
  have ht := tu_c hk
  obtain ⟨hc0, hc3, hcp0, hcp1⟩ := vc_b hk hc1 hc2 hv
  have hcp : 0 ≤ c / (M 1 1 * M 1 1) ∧ c / (M 1 1 * M 1 1) < 2 * tu (M 1 0) := ⟨hcp0, hcp1⟩
  show J SHC mi_X0_fillImages 0 [some (vR 19), some (vI c), none, none, none, none, none, none, none, none, none, none] [] M _
  refine j_aload_n dX0_fillImages_0 rfl ?_
  refine j_getR dX0_fillImages_1 f_X0_28 rfl rfl ?_
  refine j_iload_n dX0_fillImages_4 rfl ?_
  refine j_V1p dX0_fillImages_5 ok_X5_partOf v_X0_110 c_X5_partOf rfl (e_X5_partOf hL (by omega) (by omega)) ?_
  refine j_istore_n dX0_fillImages_8 (by decide) (nol rfl) (by show List.set _ 2 _ = _; simp only [List.set_cons_zero, List.set_cons_succ]; rfl) ?_
  refine j_aload_n dX0_fillImages_9 rfl ?_
  refine j_getR dX0_fillImages_10 f_X0_28 rfl rfl ?_
  refine j_iload_n dX0_fillImages_13 rfl ?_
  refine j_iconst dX0_fillImages_14 ?_
  refine j_V2p dX0_fillImages_15 ok_X5_entry v_X0_113 c_X5_entry rfl (e_X5_entry hL hcp (by omega)) ?_
  refine j_istore_n dX0_fillImages_18 (by decide) (nol rfl) (by show List.set _ 3 _ = _; simp only [List.set_cons_zero, List.set_cons_succ]; rfl) ?_
  refine j_aload_n dX0_fillImages_19 rfl ?_
  refine j_getR dX0_fillImages_20 f_X0_28 rfl rfl ?_
  refine j_iload_n dX0_fillImages_23 rfl ?_
  refine j_iconst dX0_fillImages_24 ?_
  refine j_V2p dX0_fillImages_25 ok_X5_entry v_X0_113 c_X5_entry rfl (e_X5_entry hL hcp (by omega)) ?_
  refine j_istore dX0_fillImages_28 (by decide) (nol rfl) (by show List.set _ 4 _ = _; simp only [List.set_cons_zero, List.set_cons_succ]; rfl) ?_
  refine j_aload_n dX0_fillImages_30 rfl ?_
  refine j_getR dX0_fillImages_31 f_X0_28 rfl rfl ?_
  refine j_iload_n dX0_fillImages_34 rfl ?_
  refine j_iconst dX0_fillImages_35 ?_
  refine j_V2p dX0_fillImages_36 ok_X5_entry v_X0_113 c_X5_entry rfl (e_X5_entry hL hcp (by omega)) ?_
  refine j_istore dX0_fillImages_39 (by decide) (nol rfl) (by show List.set _ 5 _ = _; simp only [List.set_cons_zero, List.set_cons_succ]; rfl) ?_
  refine j_aload_n dX0_fillImages_41 rfl ?_
  refine j_getR dX0_fillImages_42 f_X0_28 rfl rfl ?_
  refine j_iload_n dX0_fillImages_45 rfl ?_
  refine j_iconst dX0_fillImages_46 ?_
  refine j_V2p dX0_fillImages_47 ok_X5_entry v_X0_113 c_X5_entry rfl (e_X5_entry hL hcp (by omega)) ?_
  refine j_istore dX0_fillImages_50 (by decide) (nol rfl) (by show List.set _ 6 _ = _; simp only [List.set_cons_zero, List.set_cons_succ]; rfl) ?_
  refine j_aload_n dX0_fillImages_52 rfl ?_
  refine j_getR dX0_fillImages_53 f_X0_28 rfl rfl ?_
  refine j_iload_n dX0_fillImages_56 rfl ?_
  refine j_V1p dX0_fillImages_57 ok_X5_shiftX v_X0_116 c_X5_shiftX rfl (e_X5_shiftX hL (by omega) (by omega)) ?_
  refine j_istore dX0_fillImages_60 (by decide) (nol rfl) (by show List.set _ 7 _ = _; simp only [List.set_cons_zero, List.set_cons_succ]; rfl) ?_
  refine j_aload_n dX0_fillImages_62 rfl ?_
  refine j_getR dX0_fillImages_63 f_X0_28 rfl rfl ?_
  refine j_iload_n dX0_fillImages_66 rfl ?_
  refine j_V1p dX0_fillImages_67 ok_X5_shiftY v_X0_119 c_X5_shiftY rfl (e_X5_shiftY hL (by omega) (by omega)) ?_
  refine j_istore dX0_fillImages_70 (by decide) (nol rfl) (by show List.set _ 8 _ = _; simp only [List.set_cons_zero, List.set_cons_succ]; rfl) ?_
  refine j_iconst dX0_fillImages_72 ?_
  refine j_istore dX0_fillImages_73 (by decide) (nol rfl) (by show List.set _ 9 _ = _; simp only [List.set_cons_zero, List.set_cons_succ]; rfl) ?_
  refine j_iconst dX0_fillImages_75 ?_
  refine j_istore dX0_fillImages_76 (by decide) (nol rfl) (by show List.set _ 10 _ = _; simp only [List.set_cons_zero, List.set_cons_succ]; rfl) ?_
  have e0 : M 1 1 * 0 = 0 := Int.mul_zero _
  have h9 := l_fi (c := c) 6 0 M none hL hv (by omega) (by omega) (by omega) (fun q a b => by omega)
  rw [e0] at h9
  exact h9
/-- marks along f from q, until a marked one is met -/
def wk (f : Int → Int) : Nat → List Int → Int → List Int
  | 0, S, _ => S
  | m + 1, S, q => if q ∈ S then S else wk f m (S ++ [q]) (f q)
/-- over the first cells: the marks, and how many walks were begun -/
def cyS (f : Int → Int) : Nat → List Int × Nat
  | 0 => ([], 0)
  | q + 1 => if (q : Int) ∈ (cyS f q).1 then cyS f q else (wk f 25 (cyS f q).1 q, (cyS f q).2 + 1)
theorem cyS_b (f : Int → Int) : ∀ q : Nat, (cyS f q).2 ≤ q
  | 0 => Nat.le_refl _
  | q + 1 => by
    have := cyS_b f q
    simp only [cyS]
    split <;> simp <;> omega
theorem MembN_one {a : Nat} {N : Int} {M : Mem} {S : List Int} {c : Int} (h : MembN a N M S) : MembN a N (wr M a c 1) (S ++ [c]) := by
  have h9 := MembN_push (B := S) (es := []) (c := c) (by rw [List.append_nil]; exact h)
  simpa using h9
theorem l_walk {nn s : Int} {f : Int → Int} (hnn : nn ≤ 25) (hf : ∀ q : Int, 0 ≤ q → q < nn → 0 ≤ f q ∧ f q < nn) (m : Nat) : ∀ (S : List Int) (q : Int) (M : Mem), MembN 22 25 M S → 0 ≤ q → q < nn → (∀ q : Int, 0 ≤ q → q < nn → M 24 q = f q) → m ≤ 25 → J SHC mi_X0_walkCycle 4 [some (vR 19), some (vI s), some (vI q), some (vI (25 - m))] [] M (pv (fun M1 => fr [22] M M1 ∧ MembN 22 25 M1 (wk f m S q))) := by
  induction m with
  | zero =>
    intro S q M hm h0 h1 hi hk
    refine j_iload_n dX0_walkCycle_4 rfl ?_
    refine j_bipush dX0_walkCycle_5 (by decide +kernel) ?_
    refine j_icmp_ge 49 dX0_walkCycle_7 rfl (by unfold inR; omega) (by unfold inR; omega) (fun c => ?_) (fun c => ?_)
    · exact j_vret dX0_walkCycle_49 rfl ⟨rfl, fr.rf, hm⟩
    · exfalso; omega
  | succ m ih =>
  intro S q M hm h0 h1 hi hk
  have hq := hm q h0 (by omega)
  refine j_iload_n dX0_walkCycle_4 rfl ?_
  refine j_bipush dX0_walkCycle_5 (by decide +kernel) ?_
  refine j_icmp_ge 49 dX0_walkCycle_7 rfl (by first | (unfold inR; omega) | (have := hm q h0 (by omega); unfold inR; omega)) (by first | (unfold inR; omega) | (have := hm q h0 (by omega); unfold inR; omega)) (fun c7 => ?_) (fun c7 => ?_)
  · refine j_vret dX0_walkCycle_49 rfl ?_
    exfalso; omega
  · refine j_iload_n dX0_walkCycle_10 rfl ?_
    refine j_bipush dX0_walkCycle_11 (by decide +kernel) ?_
    refine j_N2z dX0_walkCycle_13 ok_X6_isInside n_X0_77 (e_isInside (by first | assumption | (unfold inR; omega)) (by first | assumption | (unfold inR; omega))) (fun z13 M13 q13 => ?_)
    obtain ⟨rfl, q13⟩ := q13
    refine j_if_eq 28 dX0_walkCycle_16 rfl (by first | (unfold inR; omega) | (have := hm q h0 (by omega); unfold inR; omega)) (fun c16 => ?_) (fun c16 => ?_)
    · refine j_vret dX0_walkCycle_28 rfl ?_
      first
      | (exfalso; omega)
      | (have hin : q ∈ S := by
           rcases hq with h | h
           · exact h.2
           · exact absurd h.1 c25
         have ew : wk f (m + 1) S q = S := if_pos hin
         exact ⟨rfl, fr.rf, by rw [ew]; exact hm⟩)
    · refine j_aload_n dX0_walkCycle_19 rfl ?_
      refine j_getR dX0_walkCycle_20 f_X0_18 rfl rfl ?_
      refine j_iload_n dX0_walkCycle_23 rfl ?_
      refine j_bald dX0_walkCycle_24 (by first | rfl | assumption) (by decide) (by omega) (by omega) ?_
      refine j_if_eq 29 dX0_walkCycle_25 rfl (by first | (unfold inR; omega) | (have := hm q h0 (by omega); unfold inR; omega)) (fun c25 => ?_) (fun c25 => ?_)
      · refine j_aload_n dX0_walkCycle_29 rfl ?_
        refine j_getR dX0_walkCycle_30 f_X0_18 rfl rfl ?_
        refine j_iload_n dX0_walkCycle_33 rfl ?_
        refine j_iconst dX0_walkCycle_34 ?_
        refine j_bast dX0_walkCycle_35 (by first | rfl | assumption) (by decide) (by omega) (by omega) (by first | exact Or.inl rfl | exact Or.inr rfl) ?_
        refine j_aload_n dX0_walkCycle_36 rfl ?_
        refine j_getR dX0_walkCycle_37 f_X0_25 rfl rfl ?_
        refine j_iload_n dX0_walkCycle_40 rfl ?_
        refine j_iald dX0_walkCycle_41 (by first | rfl | assumption) (by decide) (by omega) (by omega) ?_
        refine j_istore_n dX0_walkCycle_42 (by decide) (nol rfl) (by show List.set _ 2 _ = _; simp only [List.set_cons_zero, List.set_cons_succ]; rfl) ?_
        refine j_iinc dX0_walkCycle_43 rfl (by decide) (nol rfl) (by simp only [List.set_cons_zero, List.set_cons_succ]; rfl) ?_
        refine j_goto 4 dX0_walkCycle_46 rfl ?_
        have hf0 := hf q h0 h1
        have hin : q ∉ S := by
          rcases hq with h | h
          · omega
          · exact h.2
        have e24 : wr M 22 q 1 24 = M 24 := by funext j; exact wr_ne _ _ (by omega)
        have h9 := ih (S ++ [q]) (f q) (wr M 22 q 1) (MembN_one hm) hf0.1 hf0.2 (by rw [e24]; exact hi) (by omega)
        have ew : wk f (m + 1) S q = wk f m (S ++ [q]) (f q) := if_neg hin
        rw [ew, wr_ne _ _ (by omega), hi q h0 h1, show (25 : Int) - ((m + 1 : Nat) : Int) + 1 = 25 - (m : Int) by omega]
        refine j_mono ?_ h9
        rintro v M1 ⟨rfl, f1, g1⟩
        exact ⟨rfl, (fr.rf.w1 (by decide)).tr f1, g1⟩
      · refine j_vret dX0_walkCycle_28 rfl ?_
        first
        | (exfalso; omega)
        | (have hin : q ∈ S := by
             rcases hq with h | h
             · exact h.2
             · exact absurd h.1 c25
           have ew : wk f (m + 1) S q = S := if_pos hin
           exact ⟨rfl, fr.rf, by rw [ew]; exact hm⟩)
theorem e_X0_walkCycle {nn q : Int} {f : Int → Int} {S : List Int} {M : Mem} (hnn : nn ≤ 25) (hf : ∀ q : Int, 0 ≤ q → q < nn → 0 ≤ f q ∧ f q < nn) (hm : MembN 22 25 M S) (h0 : 0 ≤ q) (h1 : q < nn) (hi : ∀ q : Int, 0 ≤ q → q < nn → M 24 q = f q) : J SHC mi_X0_walkCycle 0 (ent [vR 19, vI q] 4) [] M (pv (fun M1 => fr [22] M M1 ∧ MembN 22 25 M1 (wk f 25 S q))) := by
  show J SHC mi_X0_walkCycle 0 [some (vR 19), some (vI q), none, none] [] M _
  refine j_iload_n dX0_walkCycle_0 rfl ?_
  refine j_istore_n dX0_walkCycle_1 (by decide) (nol rfl) (by show List.set _ 2 _ = _; simp only [List.set_cons_zero, List.set_cons_succ]; rfl) ?_
  refine j_iconst dX0_walkCycle_2 ?_
  refine j_istore_n dX0_walkCycle_3 (by decide) (nol rfl) (by show List.set _ 3 _ = _; simp only [List.set_cons_zero, List.set_cons_succ]; rfl) ?_
  exact l_walk hnn hf 25 S q M hm h0 h1 hi (by omega)
def cyc (k n c : Int) : Nat := (cyS (sc k n c) (n * n).toNat).2
theorem cyc_b {k n c : Int} (h : n * n ≤ 25) : cyc k n c ≤ 25 := by
  have := cyS_b (sc k n c) (n * n).toNat
  unfold cyc; omega
theorem l_cyc {c : Int} (m : Nat) : ∀ (q : Nat) (M : Mem), Lat M → (∀ r : Int, 0 ≤ r → r < M 1 1 * M 1 1 → M 24 r = sc (M 1 0) (M 1 1) c r) → MembN 22 25 M (cyS (sc (M 1 0) (M 1 1) c) q).1 → (q : Int) ≤ M 1 1 * M 1 1 → 25 - q < m → J SHC mi_X0_countCycles 16 [some (vR 19), some (vI c), some (vI (cyS (sc (M 1 0) (M 1 1) c) q).2), some (vI q)] [] M (pz (fun z M1 => fr [22] M M1 ∧ z = cyc (M 1 0) (M 1 1) c)) := by
  induction m with
  | zero => intro q M hL _ _ h1 h2; have := hL.2.2.2.2; omega
  | succ m ih =>
  intro q M hL hi hm h1 h2
  obtain ⟨hk, hn1, hn5, hc1, hc2⟩ := id hL
  have ht := tu_c hk
  have hcb := cyS_b (sc (M 1 0) (M 1 1) c) q
  have hlt : (q : Int) < M 1 1 * M 1 1 → 25 - (q + 1) < m := fun h => by omega
  refine j_iload_n dX0_countCycles_16 rfl ?_
  refine j_aload_n dX0_countCycles_17 rfl ?_
  refine j_getR dX0_countCycles_18 f_X0_28 rfl rfl ?_
  refine j_V0p dX0_countCycles_21 ok_X5_cellCount v_X0_48 c_X5_cellCount rfl (e_X5_cellCount hL) ?_
  refine j_icmp_ge 56 dX0_countCycles_24 rfl (by first | (unfold inR; omega) | (have := hm q (by omega) (by omega); unfold inR; omega)) (by first | (unfold inR; omega) | (have := hm q (by omega) (by omega); unfold inR; omega)) (fun c24 => ?_) (fun c24 => ?_)
  · refine j_iload_n dX0_countCycles_56 rfl ?_
    refine j_iret dX0_countCycles_57 rfl ⟨_, rfl, fr.rf, ?_⟩
    unfold cyc
    rw [show (M 1 1 * M 1 1).toNat = q by omega]
  · refine j_iload_n dX0_countCycles_27 rfl ?_
    refine j_bipush dX0_countCycles_28 (by decide +kernel) ?_
    refine j_icmp_ge 56 dX0_countCycles_30 rfl (by first | (unfold inR; omega) | (have := hm q (by omega) (by omega); unfold inR; omega)) (by first | (unfold inR; omega) | (have := hm q (by omega) (by omega); unfold inR; omega)) (fun c30 => ?_) (fun c30 => ?_)
    · exfalso; omega
    · refine j_aload_n dX0_countCycles_33 rfl ?_
      refine j_getR dX0_countCycles_34 f_X0_18 rfl rfl ?_
      refine j_iload_n dX0_countCycles_37 rfl ?_
      refine j_bald dX0_countCycles_38 (by first | rfl | assumption) (by decide) (by omega) (by omega) ?_
      refine j_if_ne 50 dX0_countCycles_39 rfl (by first | (unfold inR; omega) | (have := hm q (by omega) (by omega); unfold inR; omega)) (fun c39 => ?_) (fun c39 => ?_)
      · have hin : (q : Int) ∈ (cyS (sc (M 1 0) (M 1 1) c) q).1 := by
          rcases hm q (by omega) (by omega) with h | h
          · exact h.2
          · exact absurd h.1 c39
        have e0 : cyS (sc (M 1 0) (M 1 1) c) (q + 1) = cyS (sc (M 1 0) (M 1 1) c) q := if_pos hin
        refine j_iinc dX0_countCycles_50 rfl (by decide) (nol rfl) (by simp only [List.set_cons_zero, List.set_cons_succ]; rfl) ?_
        refine j_goto 16 dX0_countCycles_53 rfl ?_
        have h9 := ih (q + 1) M hL hi (by rw [e0]; exact hm) (by omega) (hlt (by omega))
        rw [e0] at h9
        exact h9
      · refine j_iinc dX0_countCycles_42 rfl (by decide) (nol rfl) (by simp only [List.set_cons_zero, List.set_cons_succ]; rfl) ?_
        refine j_aload_n dX0_countCycles_45 rfl ?_
        refine j_iload_n dX0_countCycles_46 rfl ?_
        refine j_V1v dX0_countCycles_47 ok_X0_walkCycle v_X0_107 c_X0_walkCycle rfl (e_X0_walkCycle (q := q) hc2 (fun q _ _ => sc_b hn1) hm (by omega) (by omega) hi) (fun M47 q47 => ?_)
        have hin : (q : Int) ∉ (cyS (sc (M 1 0) (M 1 1) c) q).1 := by
          rcases hm q (by omega) (by omega) with h | h
          · omega
          · exact h.2
        have e0 : cyS (sc (M 1 0) (M 1 1) c) (q + 1) = (wk (sc (M 1 0) (M 1 1) c) 25 (cyS (sc (M 1 0) (M 1 1) c) q).1 q, (cyS (sc (M 1 0) (M 1 1) c) q).2 + 1) := if_neg hin
        obtain ⟨f, g9⟩ := q47
        have e1 := f 1 (by decide)
        refine j_iinc dX0_countCycles_50 rfl (by decide) (nol rfl) (by simp only [List.set_cons_zero, List.set_cons_succ]; rfl) ?_
        refine j_goto 16 dX0_countCycles_53 rfl ?_
        have h9 := ih (q + 1) M47 (Lat_fr f (by decide) hL) (by rw [e1, f 24 (by decide)]; exact hi) (by rw [e1, e0]; exact g9) (by rw [e1]; omega) (hlt (by omega))
        rw [e1, e0] at h9
        refine j_mono ?_ h9
        rintro v M1 ⟨z, rfl, f1, g1⟩
        exact ⟨z, rfl, f.tr f1, g1⟩
theorem e_X0_countCycles {M : Mem} {c : Int} (hL : Lat M) (hv : vc (M 1 0) (M 1 1) c) : J SHC mi_X0_countCycles 0 (ent [vR 19, vI c] 4) [] M (pz (fun z M1 => fr [22, 24] M M1 ∧ z = cyc (M 1 0) (M 1 1) c)) := by
  show J SHC mi_X0_countCycles 0 [some (vR 19), some (vI c), none, none] [] M _
  refine j_aload_n dX0_countCycles_0 rfl ?_
  refine j_iload_n dX0_countCycles_1 rfl ?_
  refine j_V1v dX0_countCycles_2 ok_X0_fillImages v_X0_104 c_X0_fillImages rfl (e_X0_fillImages hL hv) (fun M2 q2 => ?_)
  obtain ⟨f2, g2⟩ := q2
  refine j_aload_n dX0_countCycles_5 rfl ?_
  refine j_getR dX0_countCycles_6 f_X0_18 rfl rfl ?_
  refine j_N1v dX0_countCycles_9 ok_X6_clearMarks n_X0_40 (e_clearMarks (r := 22) (len := 25) rfl (by decide)) (fun M9 q9 => ?_)
  obtain ⟨f9, g9⟩ := q9
  refine j_iconst dX0_countCycles_12 ?_
  refine j_istore_n dX0_countCycles_13 (by decide) (nol rfl) (by show List.set _ 2 _ = _; simp only [List.set_cons_zero, List.set_cons_succ]; rfl) ?_
  refine j_iconst dX0_countCycles_14 ?_
  refine j_istore_n dX0_countCycles_15 (by decide) (nol rfl) (by show List.set _ 3 _ = _; simp only [List.set_cons_zero, List.set_cons_succ]; rfl) ?_
  have fA : fr [22, 24] M M9 := (f2.up (by decide)).tr (f9.up (by decide))
  have e1 := fA 1 (by decide)
  refine j_mono ?_ (l_cyc (c := c) 26 0 M9 (Lat_fr fA (by decide) hL) (by rw [e1, f9 24 (by decide)]; exact g2) (fun r a b => Or.inr ⟨by rw [g9, if_pos ⟨a, b⟩], by simp [cyS]⟩) (by rw [e1]; have := hL.2.2.2.1; omega) (by omega))
  rintro v M1 ⟨z, rfl, f1, g1⟩
  rw [e1] at g1
  exact ⟨z, rfl, fA.tr (f1.up (by decide)), g1⟩
def colS (b k n : Int) (es : List Int) : Int := (es.map (fun c => b ^ cyc k n c)).sum
theorem colS_push {b k n c : Int} {es : List Int} : colS b k n (es ++ [c]) = colS b k n es + b ^ cyc k n c := by simp [colS]
theorem pow_b {b : Int} (h0 : 1 ≤ b) (h4 : b ≤ 4) : ∀ e : Nat, 1 ≤ b ^ e ∧ b ^ e ≤ 4 ^ e
  | 0 => ⟨by simp, by simp⟩
  | e + 1 => by
    have h := pow_b h0 h4 e
    rw [Int.pow_succ, Int.pow_succ]
    have h1 : b ^ e * b ≤ 4 ^ e * b := Int.mul_le_mul_of_nonneg_right h.2 (by omega)
    have h2 : (4 : Int) ^ e * b ≤ 4 ^ e * 4 := Int.mul_le_mul_of_nonneg_left h4 (by omega)
    have h3 : 1 * b ≤ b ^ e * b := Int.mul_le_mul_of_nonneg_right h.1 (by omega)
    omega
theorem pow4_b {e : Nat} (h : e ≤ 25) : (4 : Int) ^ e ≤ 1125899906842624 := by
  have key : ∀ e, e < 26 → (4 : Int) ^ e ≤ 1125899906842624 := by decide +kernel
  exact key e (by omega)
theorem colS_b {b k n : Int} (h0 : 1 ≤ b) (h4 : b ≤ 4) (hn : n * n ≤ 25) : ∀ es : List Int, 0 ≤ colS b k n es ∧ colS b k n es ≤ 1125899906842624 * es.length
  | [] => ⟨by simp [colS], by simp [colS]⟩
  | c :: es => by
    have h1 := colS_b (k := k) h0 h4 hn es
    have h2 := pow_b h0 h4 (cyc k n c)
    have h3 := pow4_b (cyc_b (k := k) (c := c) hn)
    have h5 : colS b k n (c :: es) = b ^ cyc k n c + colS b k n es := by simp [colS]
    rw [h5, List.length_cons]
    omega
theorem i6_toInt {z : Int} (h0 : -9223372036854775808 ≤ z) (h1 : z < 9223372036854775808) : (i6 z).toInt = z := by
  unfold i6
  rw [Int64.toInt_ofInt]
  have hs : (Int64.size : Int) = 18446744073709551616 := rfl
  rw [Int.bmod_def, hs]
  omega
theorem i6_div {a b : Int} (ha0 : 0 ≤ a) (ha1 : a < 4611686018427387904) (hb0 : 0 < b) (hb1 : b ≤ 300) : i6 a / i6 b = i6 (a / b) := by
  apply Int64.toInt_inj.mp
  have h1 := Int.ediv_nonneg ha0 (Int.le_of_lt hb0)
  have h2 := Int.ediv_le_self b ha0
  rw [Int64.toInt_div, i6_toInt (by omega) (by omega), i6_toInt (by omega) (by omega), i6_toInt (by omega) (by omega), Int.tdiv_eq_ediv_of_nonneg ha0, Int.bmod_def]
  omega
theorem i6_ne0 {b : Int} (hb0 : 0 < b) (hb1 : b ≤ 300) : ¬ i6 b = 0 := by
  intro h
  have := congrArg Int64.toInt h
  rw [i6_toInt (by omega) (by omega)] at this
  have h0 : (0 : Int64).toInt = 0 := rfl
  omega
theorem l_col {b : Int} {GL : List Int} (hb : 1 ≤ b ∧ b ≤ 4) (hGL : GL.length ≤ 300) (hG0 : 0 < GL.length) (m : Nat) : ∀ (i : Nat) (M : Mem), Lat M → Elem 12 M GL → (∀ x ∈ GL, vc (M 1 0) (M 1 1) x) → i ≤ GL.length → 300 - i < m → J SHC mi_X0_countColoringClasses 13 [some (vR 19), some (vI b), some (vI GL.length), some (vL (colS b (M 1 0) (M 1 1) (GL.take i))), none, some (vI i)] [] M (fun v M1 => v = some (vL (colS b (M 1 0) (M 1 1) GL / GL.length)) ∧ fr [22, 24] M M1) := by
  induction m with
  | zero => intro i M _ _ _ h1 h2; omega
  | succ m ih =>
  intro i M hL he hv h1 h2
  obtain ⟨hk, hn1, hn5, hc1, hc2⟩ := id hL
  have ht := tu_c hk
  have hlt : i < GL.length → 300 - (i + 1) < m := fun h => by omega
  have hcs := colS_b (k := M 1 0) (n := M 1 1) hb.1 hb.2 hc2 (GL.take i)
  have hlen : (GL.take i).length ≤ 300 := by rw [List.length_take]; omega
  have hx0 : i < GL.length → ∃ x0, GL[i]? = some x0 ∧ M 12 i = x0 ∧ vc (M 1 0) (M 1 1) x0 := fun hi => by
    have e : GL[i]? = some GL[i] := List.getElem?_eq_getElem hi
    exact ⟨_, e, he i _ e, hv _ (List.mem_of_getElem? e)⟩
  refine j_iload dX0_countColoringClasses_13 rfl ?_
  refine j_iload_n dX0_countColoringClasses_15 rfl ?_
  refine j_icmp_ge 45 dX0_countColoringClasses_16 rfl (by unfold inR; omega) (by unfold inR; omega) (fun c16 => ?_) (fun c16 => ?_)
  · refine j_iload_n dX0_countColoringClasses_45 rfl ?_
    refine j_if_le 56 dX0_countColoringClasses_46 rfl (by unfold inR; omega) (fun c46 => ?_) (fun c46 => ?_)
    · refine j_lconst (z := 0) dX0_countColoringClasses_56 rfl ?_
      refine j_lret dX0_countColoringClasses_57 rfl ?_
      first
      | (exfalso; omega)
      | (have hi : i = GL.length := by omega
         subst hi
         rw [List.take_length]
         exact ⟨rfl, fr.rf⟩)
    · refine j_lload_n dX0_countColoringClasses_49 rfl ?_
      refine j_iload_n dX0_countColoringClasses_50 rfl ?_
      refine j_i2l dX0_countColoringClasses_51 (by unfold inR; omega) ?_
      refine j_ldiv dX0_countColoringClasses_52 (i6_ne0 (by omega) (by omega)) (i6_div hcs.1 (by omega) (by omega) (by omega)) ?_
      refine j_goto 57 dX0_countColoringClasses_53 rfl ?_
      refine j_lret dX0_countColoringClasses_57 rfl ?_
      first
      | (exfalso; omega)
      | (have hi : i = GL.length := by omega
         subst hi
         rw [List.take_length]
         exact ⟨rfl, fr.rf⟩)
  · refine j_lload_n dX0_countColoringClasses_19 rfl ?_
    refine j_iload_n dX0_countColoringClasses_20 rfl ?_
    refine j_aload_n dX0_countColoringClasses_21 rfl ?_
    refine j_aload_n dX0_countColoringClasses_22 rfl ?_
    refine j_getR dX0_countColoringClasses_23 f_X0_36 rfl rfl ?_
    refine j_iload dX0_countColoringClasses_26 rfl ?_
    refine j_V1p dX0_countColoringClasses_28 ok_X3_elementAt v_X0_94 c_X3_elementAt rfl (e_X3_elementAt (by omega) (by omega)) ?_
    refine j_V1z dX0_countColoringClasses_31 ok_X0_countCycles v_X0_97 c_X0_countCycles rfl (e_X0_countCycles (c := M 12 i) hL (by obtain ⟨x0, a1, a2, a3⟩ := hx0 (by omega); rw [a2]; exact a3)) (fun z31 M31 q31 => ?_)
    obtain ⟨f31, g31⟩ := q31
    subst g31
    have hcb := cyc_b (k := M 1 0) (c := M 12 i) hc2
    refine j_N2p dX0_countColoringClasses_34 ok_X6_power n_X0_100 (e_power (by unfold inR; omega) (by omega)) ?_
    refine j_ladd dX0_countColoringClasses_37 ?_
    refine j_lstore_n dX0_countColoringClasses_38 (by decide) (nol rfl) (by show List.set (List.set _ 3 _) 4 _ = _; simp only [List.set_cons_zero, List.set_cons_succ]; rfl) ?_
    refine j_iinc dX0_countColoringClasses_39 rfl (by decide) (nol rfl) (by simp only [List.set_cons_zero, List.set_cons_succ]; rfl) ?_
    refine j_goto 13 dX0_countColoringClasses_42 rfl ?_
    obtain ⟨x0, a1, a2, a3⟩ := hx0 (by omega)
    have e1 := f31 1 (by decide)
    have ht : GL.take i ++ [M 12 i] = GL.take (i + 1) := by
      rw [List.take_add_one, a1, a2]; rfl
    have h9 := ih (i + 1) M31 (Lat_fr f31 (by decide) hL) (Elem_eq he (f31 12 (by decide))) (by rw [e1]; exact hv) (by omega) (hlt (by omega))
    rw [e1, ← ht, colS_push] at h9
    refine j_mono ?_ h9
    rintro v M1 ⟨rfl, f1⟩
    exact ⟨rfl, f31.tr f1⟩
theorem e_X0_col {M : Mem} {b : Int} {GL : List Int} (hb : 1 ≤ b ∧ b ≤ 4) (hGL : GL.length ≤ 300) (hG0 : 0 < GL.length) (hL : Lat M) (hc : M 10 6 = GL.length) (he : Elem 12 M GL) (hv : ∀ x ∈ GL, vc (M 1 0) (M 1 1) x) : J SHC mi_X0_countColoringClasses 0 (ent [vR 19, vI b] 6) [] M (fun v M1 => v = some (vL (colS b (M 1 0) (M 1 1) GL / GL.length)) ∧ fr [22, 24] M M1) := by
  show J SHC mi_X0_countColoringClasses 0 [some (vR 19), some (vI b), none, none, none, none] [] M _
  refine j_aload_n dX0_countColoringClasses_0 rfl ?_
  refine j_getR dX0_countColoringClasses_1 f_X0_36 rfl rfl ?_
  refine j_V0p dX0_countColoringClasses_4 ok_X3_size v_X0_81 c_X3_size rfl (e_X3_size) ?_
  refine j_istore_n dX0_countColoringClasses_7 (by decide) (nol rfl) (by show List.set _ 2 _ = _; simp only [List.set_cons_zero, List.set_cons_succ]; rfl) ?_
  refine j_lconst (z := 0) dX0_countColoringClasses_8 rfl ?_
  refine j_lstore_n dX0_countColoringClasses_9 (by decide) (nol rfl) (by show List.set (List.set _ 3 _) 4 _ = _; simp only [List.set_cons_zero, List.set_cons_succ]; rfl) ?_
  refine j_iconst dX0_countColoringClasses_10 ?_
  refine j_istore dX0_countColoringClasses_11 (by decide) (nol rfl) (by show List.set _ 5 _ = _; simp only [List.set_cons_zero, List.set_cons_succ]; rfl) ?_
  rw [hc]
  exact l_col hb hGL hG0 301 0 M hL he hv (by omega) (by omega)
