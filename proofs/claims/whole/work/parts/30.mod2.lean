/-! THE MODEL: the tables are made -/
/-- the entries of part p are those of the product of i and j -/
def mtc (E : Int → Int → Int) (i j p : Int) : Prop := E p 0 = E i 0 * E j 0 + E i 1 * E j 2 ∧ E p 1 = E i 0 * E j 1 + E i 1 * E j 3 ∧ E p 2 = E i 2 * E j 0 + E i 3 * E j 2 ∧ E p 3 = E i 2 * E j 1 + E i 3 * E j 3
def mtb (E : Int → Int → Int) (i j p : Int) : Bool := (E p 0 == E i 0 * E j 0 + E i 1 * E j 2) && (E p 1 == E i 0 * E j 1 + E i 1 * E j 3) && (E p 2 == E i 2 * E j 0 + E i 3 * E j 2) && (E p 3 == E i 2 * E j 1 + E i 3 * E j 3)
theorem mtb_iff {E : Int → Int → Int} {i j p : Int} : mtb E i j p = true ↔ mtc E i j p := by
  simp [mtb, mtc, and_assoc]
def nopF (E : Int → Int → Int) (i j : Int) : Nat → Int
  | 0 => -3
  | p + 1 => if mtb E i j p = true then p else nopF E i j p
theorem nop_tp : ∀ k, k < 2 → ∀ i, i < (if k = 1 then 12 else 8) → ∀ j, j < (if k = 1 then 12 else 8) → nopF (en (k : Nat)) (i : Nat) (j : Nat) (if k = 1 then 12 else 8) = tp (k : Nat) (i : Nat) (j : Nat) := by decide +kernel
theorem en_pow : ∀ k, k < 2 → ∀ m, m < (if k = 1 then 6 else 4) → 2 ≤ m → mtb (en (k : Nat)) ((m : Nat) - 1 : Int) 1 (m : Nat) = true := by decide +kernel
theorem en_ref : ∀ k, k < 2 → ∀ m, m < (if k = 1 then 6 else 4) → 1 ≤ m → mtb (en (k : Nat)) (m : Nat) (if k = 1 then 6 else 4) ((if k = 1 then 6 else 4) + (m : Nat)) = true := by decide +kernel
theorem nop_tp' {k i j : Int} (hk : k = 0 ∨ k = 1) (hi : 0 ≤ i ∧ i < 2 * tu k) (hj : 0 ≤ j ∧ j < 2 * tu k) : nopF (en k) i j (2 * tu k).toNat = tp k i j := by
  rcases hk with rfl | rfl
  · have ht : tu 0 = 4 := rfl
    rw [ht] at hi hj ⊢
    have h := nop_tp 0 (by decide) i.toNat (by simp; omega) j.toNat (by simp; omega)
    rw [show ((i.toNat : Nat) : Int) = i by omega, show ((j.toNat : Nat) : Int) = j by omega] at h
    exact h
  · have ht : tu 1 = 6 := rfl
    rw [ht] at hi hj ⊢
    have h := nop_tp 1 (by decide) i.toNat (by simp; omega) j.toNat (by simp; omega)
    rw [show ((i.toNat : Nat) : Int) = i by omega, show ((j.toNat : Nat) : Int) = j by omega] at h
    exact h
theorem en_pow' {k m : Int} (hk : k = 0 ∨ k = 1) (h2 : 2 ≤ m) (hm : m < tu k) : mtc (en k) (m - 1) 1 m := by
  rcases hk with rfl | rfl
  · have ht : tu 0 = 4 := rfl
    rw [ht] at hm
    have h := en_pow 0 (by decide) m.toNat (by simp; omega) (by omega)
    rw [show ((m.toNat : Nat) : Int) = m by omega] at h
    exact mtb_iff.mp h
  · have ht : tu 1 = 6 := rfl
    rw [ht] at hm
    have h := en_pow 1 (by decide) m.toNat (by simp; omega) (by omega)
    rw [show ((m.toNat : Nat) : Int) = m by omega] at h
    exact mtb_iff.mp h
theorem en_ref' {k m : Int} (hk : k = 0 ∨ k = 1) (h2 : 1 ≤ m) (hm : m < tu k) : mtc (en k) m (tu k) (tu k + m) := by
  rcases hk with rfl | rfl
  · have ht : tu 0 = 4 := rfl
    rw [ht] at hm ⊢
    have h := en_ref 0 (by decide) m.toNat (by simp; omega) (by omega)
    rw [show ((m.toNat : Nat) : Int) = m by omega] at h
    exact mtb_iff.mp h
  · have ht : tu 1 = 6 := rfl
    rw [ht] at hm ⊢
    have h := en_ref 1 (by decide) m.toNat (by simp; omega) (by omega)
    rw [show ((m.toNat : Nat) : Int) = m by omega] at h
    exact mtb_iff.mp h
/-- entries of the parts below t are there -/
def EnT (M : Mem) (k t : Int) : Prop := ∀ p q : Int, 0 ≤ p → p < t → 0 ≤ q → q ≤ 3 → M 3 (4 * p + q) = en k p q
theorem en_in {k p q : Int} (hp : 0 ≤ p ∧ p < 12) (hq : 0 ≤ q ∧ q ≤ 3) : inR (en k p q) := by
  have := en_b k p q
  unfold inR; omega
theorem EnT_put {M M1 : Mem} {k p : Int} (h : EnT M k p) (hp0 : 0 ≤ p) (hj : ∀ j : Int, ¬ (4 * p ≤ j ∧ j < 4 * p + 4) → M1 3 j = M 3 j) (h0 : M1 3 (4 * p + 0) = en k p 0) (h1 : M1 3 (4 * p + 1) = en k p 1) (h2 : M1 3 (4 * p + 2) = en k p 2) (h3 : M1 3 (4 * p + 3) = en k p 3) : EnT M1 k (p + 1) := by
  intro a q a0 a1 q0 q3
  by_cases e : a = p
  · subst e
    rcases (show q = 0 ∨ q = 1 ∨ q = 2 ∨ q = 3 by omega) with rfl | rfl | rfl | rfl
    · exact h0
    · exact h1
    · exact h2
    · exact h3
  · rw [hj _ (by omega)]
    exact h a q a0 (by omega) q0 q3

theorem l_nop36 {M : Mem} {i j : Int} {N : Nat} (hN : M 0 3 = N) (hN12 : N ≤ 12) (hi : 0 ≤ i ∧ i < 12) (hj : 0 ≤ j ∧ j < 12) (hb : ∀ q : Int, 0 ≤ q → q < 4 * N → -1 ≤ M 3 q ∧ M 3 q ≤ 1) (hbi : ∀ q : Int, 0 ≤ q → q ≤ 3 → (-1 ≤ M 3 (4 * i + q) ∧ M 3 (4 * i + q) ≤ 1) ∧ -1 ≤ M 3 (4 * j + q) ∧ M 3 (4 * j + q) ≤ 1) {p row col q0 q1 q2 q3 q4 s f : Int} {Q : Option PV → Mem → Prop} (hp : 0 ≤ p ∧ p < N) (hrow : 0 ≤ row ∧ row ≤ 1) (hcol : 0 ≤ col ∧ col ≤ 1) (e0 : 2 * row + col = q0) (e1 : 2 * row = q1) (e2 : 2 * row + 1 = q2) (e3 : 2 + col = q3) (e4 : col = q4) (hs : s = 0 ∨ s = 1) (K : ∀ s1 : Int, ((s1 = 1 ∧ s = 1 ∧ M 3 (4 * p + q0) = M 3 (4 * i + q1) * M 3 (4 * j + q4) + M 3 (4 * i + q2) * M 3 (4 * j + q3)) ∨ (s1 = 0 ∧ ¬ (s = 1 ∧ M 3 (4 * p + q0) = M 3 (4 * i + q1) * M 3 (4 * j + q4) + M 3 (4 * i + q2) * M 3 (4 * j + q3)))) → J SHM mi_X7_numberOfProduct 103 [some (vR 0), some (vI i), some (vI j), some (vI f), some (vI p), some (vI s1), some (vI row), some (vI col)] [] M Q) : J SHM mi_X7_numberOfProduct 36 [some (vR 0), some (vI i), some (vI j), some (vI f), some (vI p), some (vI s), some (vI row), some (vI col)] [] M Q := by
  have b0 := hb (4 * p + q0) (by omega) (by omega)
  have bb : ∀ x y : Int, -1 ≤ x ∧ x ≤ 1 → -1 ≤ y ∧ y ≤ 1 → -1 ≤ x * y ∧ x * y ≤ 1 := fun x y hx hy => by
    rcases (show x = -1 ∨ x = 0 ∨ x = 1 by omega) with rfl | rfl | rfl <;> omega
  have u := bb _ _ (hbi q1 (by omega) (by omega)).1 (hbi q4 (by omega) (by omega)).2
  have v := bb _ _ (hbi q2 (by omega) (by omega)).1 (hbi q3 (by omega) (by omega)).2
  subst e0; subst e1; subst e2; subst e3; subst e4
  refine j_iload dX7_numberOfProduct_36 rfl ?_
  refine j_if_eq 100 dX7_numberOfProduct_38 rfl (by unfold inR; omega) (fun c38 => ?_) (fun c38 => ?_)
  · refine j_iconst dX7_numberOfProduct_100 ?_
    refine j_istore dX7_numberOfProduct_101 (by decide) (nol rfl) (by show List.set _ 5 _ = _; simp only [List.set_cons_zero, List.set_cons_succ]; rfl) ?_
    exact K 0 (Or.inr ⟨rfl, fun h => by omega⟩)
  · refine j_aload_n dX7_numberOfProduct_41 rfl ?_
    refine j_iload dX7_numberOfProduct_42 rfl ?_
    refine j_iconst dX7_numberOfProduct_44 ?_
    refine j_iload dX7_numberOfProduct_45 rfl ?_
    refine j_imul dX7_numberOfProduct_47 ?_
    refine j_iload dX7_numberOfProduct_48 rfl ?_
    refine j_iadd dX7_numberOfProduct_50 ?_
    refine j_V2p dX7_numberOfProduct_51 ok_X7_entry v_X7_32 c_X7_entry rfl (e_X7_entry (by omega) (by omega)) ?_
    refine j_aload_n dX7_numberOfProduct_54 rfl ?_
    refine j_iload_n dX7_numberOfProduct_55 rfl ?_
    refine j_iconst dX7_numberOfProduct_56 ?_
    refine j_iload dX7_numberOfProduct_57 rfl ?_
    refine j_imul dX7_numberOfProduct_59 ?_
    refine j_V2p dX7_numberOfProduct_60 ok_X7_entry v_X7_32 c_X7_entry rfl (e_X7_entry (by omega) (by omega)) ?_
    refine j_aload_n dX7_numberOfProduct_63 rfl ?_
    refine j_iload_n dX7_numberOfProduct_64 rfl ?_
    refine j_iload dX7_numberOfProduct_65 rfl ?_
    refine j_V2p dX7_numberOfProduct_67 ok_X7_entry v_X7_32 c_X7_entry rfl (e_X7_entry (by omega) (by omega)) ?_
    refine j_imul dX7_numberOfProduct_70 ?_
    refine j_aload_n dX7_numberOfProduct_71 rfl ?_
    refine j_iload_n dX7_numberOfProduct_72 rfl ?_
    refine j_iconst dX7_numberOfProduct_73 ?_
    refine j_iload dX7_numberOfProduct_74 rfl ?_
    refine j_imul dX7_numberOfProduct_76 ?_
    refine j_iconst dX7_numberOfProduct_77 ?_
    refine j_iadd dX7_numberOfProduct_78 ?_
    refine j_V2p dX7_numberOfProduct_79 ok_X7_entry v_X7_32 c_X7_entry rfl (e_X7_entry (by omega) (by omega)) ?_
    refine j_aload_n dX7_numberOfProduct_82 rfl ?_
    refine j_iload_n dX7_numberOfProduct_83 rfl ?_
    refine j_iconst dX7_numberOfProduct_84 ?_
    refine j_iload dX7_numberOfProduct_85 rfl ?_
    refine j_iadd dX7_numberOfProduct_87 ?_
    refine j_V2p dX7_numberOfProduct_88 ok_X7_entry v_X7_32 c_X7_entry rfl (e_X7_entry (by omega) (by omega)) ?_
    refine j_imul dX7_numberOfProduct_91 ?_
    refine j_iadd dX7_numberOfProduct_92 ?_
    refine j_icmp_ne 100 dX7_numberOfProduct_93 rfl (by unfold inR; omega) (by unfold inR; omega) (fun c93 => ?_) (fun c93 => ?_)
    · refine j_iconst dX7_numberOfProduct_100 ?_
      refine j_istore dX7_numberOfProduct_101 (by decide) (nol rfl) (by show List.set _ 5 _ = _; simp only [List.set_cons_zero, List.set_cons_succ]; rfl) ?_
      exact K 0 (Or.inr ⟨rfl, fun h => c93 h.2⟩)
    · refine j_iconst dX7_numberOfProduct_96 ?_
      refine j_goto 101 dX7_numberOfProduct_97 rfl ?_
      refine j_istore dX7_numberOfProduct_101 (by decide) (nol rfl) (by show List.set _ 5 _ = _; simp only [List.set_cons_zero, List.set_cons_succ]; rfl) ?_
      exact K 1 (Or.inl ⟨rfl, by omega, c93⟩)
theorem l_nop {M : Mem} {i j : Int} {N : Nat} (hN : M 0 3 = N) (hN12 : N ≤ 12) (hi : 0 ≤ i ∧ i < 12) (hj : 0 ≤ j ∧ j < 12) (hb : ∀ q : Int, 0 ≤ q → q < 4 * N → -1 ≤ M 3 q ∧ M 3 q ≤ 1) (hbi : ∀ q : Int, 0 ≤ q → q ≤ 3 → (-1 ≤ M 3 (4 * i + q) ∧ M 3 (4 * i + q) ≤ 1) ∧ -1 ≤ M 3 (4 * j + q) ∧ M 3 (4 * j + q) ≤ 1) (m : Nat) : ∀ (p : Nat) (w5 w6 w7 : Option PV), p ≤ N → N - p < m → J SHM mi_X7_numberOfProduct 6 [some (vR 0), some (vI i), some (vI j), some (vI (nopF (fun p q => M 3 (4 * p + q)) i j p)), some (vI p), w5, w6, w7] [] M (pu (vI (nopF (fun p q => M 3 (4 * p + q)) i j N)) M) := by
  induction m with
  | zero => intro p w5 w6 w7 h1 h2; omega
  | succ m ih =>
  intro p w5 w6 w7 h1 h2
  refine j_iload dX7_numberOfProduct_6 rfl ?_
  refine j_aload_n dX7_numberOfProduct_8 rfl ?_
  refine j_getI (kz := 3) rfl dX7_numberOfProduct_9 f_X7_36 rfl rfl ?_
  refine j_icmp_ge 133 dX7_numberOfProduct_12 rfl (by unfold inR; omega) (by unfold inR; omega) (fun c12 => ?_) (fun c12 => ?_)
  · refine j_iload_n dX7_numberOfProduct_133 rfl ?_
    refine j_iret dX7_numberOfProduct_134 rfl ?_
    exact pu_i (by rw [show N = p by omega])
  · refine j_iconst dX7_numberOfProduct_15 ?_
    refine j_istore dX7_numberOfProduct_16 (by decide) (nol rfl) (by show List.set _ 5 _ = _; simp only [List.set_cons_zero, List.set_cons_succ]; rfl) ?_
    refine j_iconst dX7_numberOfProduct_18 ?_
    refine j_istore dX7_numberOfProduct_19 (by decide) (nol rfl) (by show List.set _ 6 _ = _; simp only [List.set_cons_zero, List.set_cons_succ]; rfl) ?_
    refine j_iload dX7_numberOfProduct_21 rfl ?_
    refine j_iconst dX7_numberOfProduct_23 ?_
    refine j_icmp_ge 115 dX7_numberOfProduct_24 rfl (by unfold inR; omega) (by unfold inR; omega) (fun c24 => ?_) (fun c24 => ?_)
    · exfalso; first | omega | (simp at c24; done)
    refine j_iconst dX7_numberOfProduct_27 ?_
    refine j_istore dX7_numberOfProduct_28 (by decide) (nol rfl) (by show List.set _ 7 _ = _; simp only [List.set_cons_zero, List.set_cons_succ]; rfl) ?_
    refine j_iload dX7_numberOfProduct_30 rfl ?_
    refine j_iconst dX7_numberOfProduct_32 ?_
    refine j_icmp_ge 109 dX7_numberOfProduct_33 rfl (by unfold inR; omega) (by unfold inR; omega) (fun c33 => ?_) (fun c33 => ?_)
    · exfalso; first | omega | (simp at c33; done)
    refine l_nop36 (p := p) (row := 0) (col := 0) (q0 := 0) (q1 := 0) (q2 := 1) (q3 := 2) (q4 := 0) hN hN12 hi hj hb hbi ⟨by omega, by omega⟩ (by omega) (by omega) rfl rfl rfl rfl rfl (by omega) (fun s1 hs1 => ?_)
    refine j_iinc dX7_numberOfProduct_103 rfl (by decide) (nol rfl) (by simp only [List.set_cons_zero, List.set_cons_succ]; rfl) ?_
    refine j_goto 30 dX7_numberOfProduct_106 rfl ?_
    refine j_iload dX7_numberOfProduct_30 rfl ?_
    refine j_iconst dX7_numberOfProduct_32 ?_
    refine j_icmp_ge 109 dX7_numberOfProduct_33 rfl (by unfold inR; omega) (by unfold inR; omega) (fun c33 => ?_) (fun c33 => ?_)
    · exfalso; first | omega | (simp at c33; done)
    refine l_nop36 (p := p) (row := 0) (col := (0 + 1)) (q0 := 1) (q1 := 0) (q2 := 1) (q3 := 3) (q4 := 1) hN hN12 hi hj hb hbi ⟨by omega, by omega⟩ (by omega) (by omega) rfl rfl rfl rfl rfl (by omega) (fun s2 hs2 => ?_)
    refine j_iinc dX7_numberOfProduct_103 rfl (by decide) (nol rfl) (by simp only [List.set_cons_zero, List.set_cons_succ]; rfl) ?_
    refine j_goto 30 dX7_numberOfProduct_106 rfl ?_
    refine j_iload dX7_numberOfProduct_30 rfl ?_
    refine j_iconst dX7_numberOfProduct_32 ?_
    refine j_icmp_ge 109 dX7_numberOfProduct_33 rfl (by unfold inR; omega) (by unfold inR; omega) (fun c33 => ?_) (fun c33 => ?_)
    rotate_left
    · exfalso; first | omega | (simp at c33; done)
    refine j_iinc dX7_numberOfProduct_109 rfl (by decide) (nol rfl) (by simp only [List.set_cons_zero, List.set_cons_succ]; rfl) ?_
    refine j_goto 21 dX7_numberOfProduct_112 rfl ?_
    refine j_iload dX7_numberOfProduct_21 rfl ?_
    refine j_iconst dX7_numberOfProduct_23 ?_
    refine j_icmp_ge 115 dX7_numberOfProduct_24 rfl (by unfold inR; omega) (by unfold inR; omega) (fun c24 => ?_) (fun c24 => ?_)
    · exfalso; first | omega | (simp at c24; done)
    refine j_iconst dX7_numberOfProduct_27 ?_
    refine j_istore dX7_numberOfProduct_28 (by decide) (nol rfl) (by show List.set _ 7 _ = _; simp only [List.set_cons_zero, List.set_cons_succ]; rfl) ?_
    refine j_iload dX7_numberOfProduct_30 rfl ?_
    refine j_iconst dX7_numberOfProduct_32 ?_
    refine j_icmp_ge 109 dX7_numberOfProduct_33 rfl (by unfold inR; omega) (by unfold inR; omega) (fun c33 => ?_) (fun c33 => ?_)
    · exfalso; first | omega | (simp at c33; done)
    refine l_nop36 (p := p) (row := (0 + 1)) (col := 0) (q0 := 2) (q1 := 2) (q2 := 3) (q3 := 2) (q4 := 0) hN hN12 hi hj hb hbi ⟨by omega, by omega⟩ (by omega) (by omega) rfl rfl rfl rfl rfl (by omega) (fun s3 hs3 => ?_)
    refine j_iinc dX7_numberOfProduct_103 rfl (by decide) (nol rfl) (by simp only [List.set_cons_zero, List.set_cons_succ]; rfl) ?_
    refine j_goto 30 dX7_numberOfProduct_106 rfl ?_
    refine j_iload dX7_numberOfProduct_30 rfl ?_
    refine j_iconst dX7_numberOfProduct_32 ?_
    refine j_icmp_ge 109 dX7_numberOfProduct_33 rfl (by unfold inR; omega) (by unfold inR; omega) (fun c33 => ?_) (fun c33 => ?_)
    · exfalso; first | omega | (simp at c33; done)
    refine l_nop36 (p := p) (row := (0 + 1)) (col := (0 + 1)) (q0 := 3) (q1 := 2) (q2 := 3) (q3 := 3) (q4 := 1) hN hN12 hi hj hb hbi ⟨by omega, by omega⟩ (by omega) (by omega) rfl rfl rfl rfl rfl (by omega) (fun s4 hs4 => ?_)
    refine j_iinc dX7_numberOfProduct_103 rfl (by decide) (nol rfl) (by simp only [List.set_cons_zero, List.set_cons_succ]; rfl) ?_
    refine j_goto 30 dX7_numberOfProduct_106 rfl ?_
    refine j_iload dX7_numberOfProduct_30 rfl ?_
    refine j_iconst dX7_numberOfProduct_32 ?_
    refine j_icmp_ge 109 dX7_numberOfProduct_33 rfl (by unfold inR; omega) (by unfold inR; omega) (fun c33 => ?_) (fun c33 => ?_)
    rotate_left
    · exfalso; first | omega | (simp at c33; done)
    refine j_iinc dX7_numberOfProduct_109 rfl (by decide) (nol rfl) (by simp only [List.set_cons_zero, List.set_cons_succ]; rfl) ?_
    refine j_goto 21 dX7_numberOfProduct_112 rfl ?_
    refine j_iload dX7_numberOfProduct_21 rfl ?_
    refine j_iconst dX7_numberOfProduct_23 ?_
    refine j_icmp_ge 115 dX7_numberOfProduct_24 rfl (by unfold inR; omega) (by unfold inR; omega) (fun c24 => ?_) (fun c24 => ?_)
    rotate_left
    · exfalso; first | omega | (simp at c24; done)
    refine j_iload dX7_numberOfProduct_115 rfl ?_
    refine j_if_eq 125 dX7_numberOfProduct_117 rfl (by unfold inR; omega) (fun c117 => ?_) (fun c117 => ?_)
    · refine j_iload_n dX7_numberOfProduct_125 rfl ?_
      refine j_istore_n dX7_numberOfProduct_126 (by decide) (nol rfl) (by show List.set _ 3 _ = _; simp only [List.set_cons_zero, List.set_cons_succ]; rfl) ?_
      refine j_iinc dX7_numberOfProduct_127 rfl (by decide) (nol rfl) (by simp only [List.set_cons_zero, List.set_cons_succ]; rfl) ?_
      refine j_goto 6 dX7_numberOfProduct_130 rfl ?_
      have hm : ¬ mtb (fun p q => M 3 (4 * p + q)) i j p = true := fun h => by
        obtain ⟨m0, m1, m2, m3⟩ := mtb_iff.mp h
        rcases hs1 with h1' | h1'
        · rcases hs2 with h2' | h2'
          · rcases hs3 with h3' | h3'
            · rcases hs4 with h4' | h4'
              · omega
              · exact h4'.2 ⟨h3'.1, m3⟩
            · exact h3'.2 ⟨h2'.1, m2⟩
          · exact h2'.2 ⟨h1'.1, m1⟩
        · exact h1'.2 ⟨rfl, m0⟩
      have h9 := ih (p + 1) (some (vI s4)) (some (vI (0 + 1 + 1))) (some (vI (0 + 1 + 1))) (by omega) (by omega)
      have e9 : nopF (fun p q => M 3 (4 * p + q)) i j (p + 1) = nopF (fun p q => M 3 (4 * p + q)) i j p := by
        show (if mtb (fun p q => M 3 (4 * p + q)) i j p = true then (p : Int) else nopF (fun p q => M 3 (4 * p + q)) i j p) = _
        rw [if_neg hm]
      rw [e9] at h9
      exact h9
    · refine j_iload dX7_numberOfProduct_120 rfl ?_
      refine j_goto 126 dX7_numberOfProduct_122 rfl ?_
      refine j_istore_n dX7_numberOfProduct_126 (by decide) (nol rfl) (by show List.set _ 3 _ = _; simp only [List.set_cons_zero, List.set_cons_succ]; rfl) ?_
      refine j_iinc dX7_numberOfProduct_127 rfl (by decide) (nol rfl) (by simp only [List.set_cons_zero, List.set_cons_succ]; rfl) ?_
      refine j_goto 6 dX7_numberOfProduct_130 rfl ?_
      have hm : mtb (fun p q => M 3 (4 * p + q)) i j p = true := by
        rcases hs4 with h4' | h4'
        · rcases hs3 with h3' | h3'
          · rcases hs2 with h2' | h2'
            · rcases hs1 with h1' | h1'
              · exact mtb_iff.mpr ⟨h1'.2.2, h2'.2.2, h3'.2.2, h4'.2.2⟩
              · omega
            · omega
          · omega
        · omega
      have h9 := ih (p + 1) (some (vI s4)) (some (vI (0 + 1 + 1))) (some (vI (0 + 1 + 1))) (by omega) (by omega)
      have e9 : nopF (fun p q => M 3 (4 * p + q)) i j (p + 1) = (p : Int) := by
        show (if mtb (fun p q => M 3 (4 * p + q)) i j p = true then (p : Int) else nopF (fun p q => M 3 (4 * p + q)) i j p) = _
        rw [if_pos hm]
      rw [e9] at h9
      exact h9
theorem e_X7_numberOfProduct {M : Mem} {i j : Int} {N : Nat} (hN : M 0 3 = N) (hN12 : N ≤ 12) (hi : 0 ≤ i ∧ i < 12) (hj : 0 ≤ j ∧ j < 12) (hb : ∀ q : Int, 0 ≤ q → q < 4 * N → -1 ≤ M 3 q ∧ M 3 q ≤ 1) (hbi : ∀ q : Int, 0 ≤ q → q ≤ 3 → (-1 ≤ M 3 (4 * i + q) ∧ M 3 (4 * i + q) ≤ 1) ∧ -1 ≤ M 3 (4 * j + q) ∧ M 3 (4 * j + q) ≤ 1)  : J SHM mi_X7_numberOfProduct 0 (ent [vR 0, vI i, vI j] 8) [] M (pu (vI (nopF (fun p q => M 3 (4 * p + q)) i j N)) M) := by
  show J SHM mi_X7_numberOfProduct 0 [some (vR 0), some (vI i), some (vI j), none, none, none, none, none] [] M _
  refine j_bipush dX7_numberOfProduct_0 (by decide +kernel) ?_
  refine j_istore_n dX7_numberOfProduct_2 (by decide) (nol rfl) (by show List.set _ 3 _ = _; simp only [List.set_cons_zero, List.set_cons_succ]; rfl) ?_
  refine j_iconst dX7_numberOfProduct_3 ?_
  refine j_istore dX7_numberOfProduct_4 (by decide) (nol rfl) (by show List.set _ 4 _ = _; simp only [List.set_cons_zero, List.set_cons_succ]; rfl) ?_
  exact l_nop hN hN12 hi hj hb hbi (N + 1) 0 _ _ _ (by omega) (by omega)
