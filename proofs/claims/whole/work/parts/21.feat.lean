/-! class Features -/
theorem kn_b (k n c : Int) : 0 ≤ kn k n c ∧ kn k n c ≤ 3 := by
  unfold kn
  split
  · decide
  · split
    · decide
    · split <;> decide
def FI (M : Mem) (es : List Int) : Prop :=
  (∀ p : Int, 0 ≤ p → p < 12 → (M 16 p = 1 ∧ ∃ c ∈ es, cP (M 1 1) c = p) ∨ (M 16 p = 0 ∧ ¬ ∃ c ∈ es, cP (M 1 1) c = p)) ∧
  (∀ p : Int, 0 ≤ p → p < 12 → (M 17 p = 1 ∧ ∃ c ∈ es, cP (M 1 1) c = p ∧ kn (M 1 0) (M 1 1) c = 2) ∨ (M 17 p = 0 ∧ ¬ ∃ c ∈ es, cP (M 1 1) c = p ∧ kn (M 1 0) (M 1 1) c = 2)) ∧
  ∀ d : Int, 0 ≤ d → d < 4 → M 18 d = (es.countP (fun c => decide (kn (M 1 0) (M 1 1) c = d)) : Nat)
theorem FI_push {M : Mem} {es : List Int} {c b : Int} (h : FI M es) (hb : (b = 1 ∧ (M 17 (cP (M 1 1) c) = 1 ∨ kn (M 1 0) (M 1 1) c = 2)) ∨ (b = 0 ∧ M 17 (cP (M 1 1) c) = 0 ∧ ¬ kn (M 1 0) (M 1 1) c = 2)) : FI (wr (wr (wr M 16 (cP (M 1 1) c) 1) 17 (cP (M 1 1) c) b) 18 (kn (M 1 0) (M 1 1) c) (M 18 (kn (M 1 0) (M 1 1) c) + 1)) (es ++ [c]) := by
  obtain ⟨h1, h2, h3⟩ := h
  have e1 : wr (wr (wr M 16 (cP (M 1 1) c) 1) 17 (cP (M 1 1) c) b) 18 (kn (M 1 0) (M 1 1) c) (M 18 (kn (M 1 0) (M 1 1) c) + 1) 1 = M 1 := by
    funext j; simp [wr]
  have e16 : ∀ p, wr (wr (wr M 16 (cP (M 1 1) c) 1) 17 (cP (M 1 1) c) b) 18 (kn (M 1 0) (M 1 1) c) (M 18 (kn (M 1 0) (M 1 1) c) + 1) 16 p = if p = cP (M 1 1) c then 1 else M 16 p := fun p => by simp [wr]
  have e17 : ∀ p, wr (wr (wr M 16 (cP (M 1 1) c) 1) 17 (cP (M 1 1) c) b) 18 (kn (M 1 0) (M 1 1) c) (M 18 (kn (M 1 0) (M 1 1) c) + 1) 17 p = if p = cP (M 1 1) c then b else M 17 p := fun p => by simp [wr]
  have e18 : ∀ p, wr (wr (wr M 16 (cP (M 1 1) c) 1) 17 (cP (M 1 1) c) b) 18 (kn (M 1 0) (M 1 1) c) (M 18 (kn (M 1 0) (M 1 1) c) + 1) 18 p = if p = kn (M 1 0) (M 1 1) c then M 18 (kn (M 1 0) (M 1 1) c) + 1 else M 18 p := fun p => by simp [wr]
  unfold FI
  simp only [e1, e16, e17, e18]
  refine ⟨fun p p0 p1 => ?_, fun p p0 p1 => ?_, fun d d0 d1 => ?_⟩
  · by_cases e : p = cP (M 1 1) c
    · rw [if_pos e]
      exact Or.inl ⟨rfl, c, by simp, e.symm⟩
    · rw [if_neg e]
      rcases h1 p p0 p1 with ⟨a, x, b1, b2⟩ | ⟨a, b1⟩
      · exact Or.inl ⟨a, x, by simp [b1], b2⟩
      · refine Or.inr ⟨a, ?_⟩
        rintro ⟨x, x1, x2⟩
        rcases List.mem_append.mp x1 with q | q
        · exact b1 ⟨x, q, x2⟩
        · simp at q; rw [q] at x2; exact e x2.symm
  · by_cases e : p = cP (M 1 1) c
    · rw [if_pos e]
      subst e
      rcases hb with ⟨b1, b2⟩ | ⟨b1, b2, b3⟩
      · left
        refine ⟨b1, ?_⟩
        rcases b2 with q | q
        · rcases h2 _ p0 p1 with ⟨a, x, c1, c2⟩ | ⟨a, c1⟩
          · exact ⟨x, by simp [c1], c2⟩
          · omega
        · exact ⟨c, by simp, rfl, q⟩
      · right
        refine ⟨b1, ?_⟩
        rintro ⟨x, x1, x2, x3⟩
        rcases List.mem_append.mp x1 with q | q
        · rcases h2 _ p0 p1 with ⟨a, _⟩ | ⟨a, c1⟩
          · omega
          · exact c1 ⟨x, q, x2, x3⟩
        · simp at q; rw [q] at x3; exact b3 x3
    · rw [if_neg e]
      rcases h2 p p0 p1 with ⟨a, x, b1, b2⟩ | ⟨a, b1⟩
      · exact Or.inl ⟨a, x, by simp [b1], b2⟩
      · refine Or.inr ⟨a, ?_⟩
        rintro ⟨x, x1, x2, x3⟩
        rcases List.mem_append.mp x1 with q | q
        · exact b1 ⟨x, q, x2, x3⟩
        · simp at q; rw [q] at x2; exact e x2.symm
  · rw [List.countP_append]
    have h9 := h3 d d0 d1
    by_cases e : d = kn (M 1 0) (M 1 1) c
    · subst e
      rw [if_pos rfl, h9]
      simp
    · rw [if_neg e, h9]
      have : ¬ kn (M 1 0) (M 1 1) c = d := fun q => e q.symm
      simp [this]
def tordF (k p : Int) : Int := if k = 1 then [1, 6, 3, 2, 3, 6].getD p.toNat 0 else [1, 4, 2, 4].getD p.toNat 0
theorem tord_eq {k p z : Int} (hk : k = 0 ∨ k = 1) (hp : 0 ≤ p ∧ p < tu k) (h1 : 1 ≤ z) (h12 : z ≤ 12) (h2 : ∀ i, 1 ≤ i → i < z → ¬ (i * p) % tu k = 0) (h3 : (z * p) % tu k = 0 ∨ z = 12) : z = tordF k p := by
  rcases hk with rfl | rfl
  · have ht : tu 0 = 4 := rfl
    simp only [ht] at hp h2 h3
    have a1 := h2 1
    have a2 := h2 2
    have a4 := h2 4
    clear h2 ht
    rcases (show p = 0 ∨ p = 1 ∨ p = 2 ∨ p = 3 by omega) with rfl | rfl | rfl | rfl <;> simp [tordF] at a1 a2 a4 h3 ⊢ <;> omega
  · have ht : tu 1 = 6 := rfl
    simp only [ht] at hp h2 h3
    have a1 := h2 1
    have a2 := h2 2
    have a3 := h2 3
    have a6 := h2 6
    clear h2 ht
    rcases (show p = 0 ∨ p = 1 ∨ p = 2 ∨ p = 3 ∨ p = 4 ∨ p = 5 by omega) with rfl | rfl | rfl | rfl | rfl | rfl <;> simp [tordF] at a1 a2 a3 a6 h3 ⊢ <;> omega
theorem tord_b {k p : Int} (hk : k = 0 ∨ k = 1) (hp : 0 ≤ p ∧ p < tu k) : 1 ≤ tordF k p ∧ tordF k p ≤ 6 := by
  rcases hk with rfl | rfl
  · have ht : tu 0 = 4 := rfl
    rw [ht] at hp
    rcases (show p = 0 ∨ p = 1 ∨ p = 2 ∨ p = 3 by omega) with rfl | rfl | rfl | rfl <;> decide
  · have ht : tu 1 = 6 := rfl
    rw [ht] at hp
    rcases (show p = 0 ∨ p = 1 ∨ p = 2 ∨ p = 3 ∨ p = 4 ∨ p = 5 by omega) with rfl | rfl | rfl | rfl | rfl | rfl <;> decide
def gtf (f : Int → Int) (k : Int) : Nat → Int
  | 0 => 1
  | p + 1 => if f p = 1 then max (gtf f k p) (tordF k p) else gtf f k p
theorem gtf_b {f : Int → Int} {k : Int} (hk : k = 0 ∨ k = 1) : ∀ p : Nat, (p : Int) ≤ tu k → 1 ≤ gtf f k p ∧ gtf f k p ≤ 6
  | 0, _ => ⟨by simp [gtf], by simp [gtf]⟩
  | p + 1, h => by
    have h1 := gtf_b (f := f) hk p (by omega)
    have h2 := tord_b hk (p := p) ⟨by omega, by omega⟩
    simp only [gtf]
    split <;> omega
def sqL (x y : Int) : Int := x * x + x * y + y * y
theorem mul5 {x y : Int} (hx : -5 ≤ x ∧ x ≤ 5) (hy : -5 ≤ y ∧ y ≤ 5) : -25 ≤ x * y ∧ x * y ≤ 25 := by
  rcases (show x = -5 ∨ x = -4 ∨ x = -3 ∨ x = -2 ∨ x = -1 ∨ x = 0 ∨ x = 1 ∨ x = 2 ∨ x = 3 ∨ x = 4 ∨ x = 5 by omega) with rfl | rfl | rfl | rfl | rfl | rfl | rfl | rfl | rfl | rfl | rfl <;> omega
theorem sqL_b {x y : Int} (hx : -5 ≤ x ∧ x ≤ 5) (hy : -5 ≤ y ∧ y ≤ 5) : -75 ≤ sqL x y ∧ sqL x y ≤ 75 := by
  have h1 := mul5 hx hx
  have h2 := mul5 hx hy
  have h3 := mul5 hy hy
  unfold sqL; omega
theorem im_b5 (k p : Int) {x y : Int} (hx : -5 ≤ x ∧ x ≤ 5) (hy : -5 ≤ y ∧ y ≤ 5) : (-50 ≤ imx k p x y ∧ imx k p x y ≤ 50) ∧ -50 ≤ imy k p x y ∧ imy k p x y ≤ 50 := by
  have e : ∀ q, -5 ≤ en k p q ∧ en k p q ≤ 5 := fun q => by have := en_b k p q; omega
  have h1 := mul5 (e 0) hx
  have h2 := mul5 (e 1) hy
  have h3 := mul5 (e 2) hx
  have h4 := mul5 (e 3) hy
  unfold imx imy; omega
/-- the translation (x, y), taken modulo n, is in the group -/
def hT (M : Mem) (x y : Int) : Prop := M 11 (mkc (M 1 1) 0 x y) = 1
def kh (M : Mem) (p x y : Int) : Prop := (x + imx (M 1 0) p x y).tmod 2 = 0 ∧ (y + imy (M 1 0) p x y).tmod 2 = 0 ∧ hT M ((x + imx (M 1 0) p x y).tdiv 2) ((y + imy (M 1 0) p x y).tdiv 2)
def khs (M : Mem) (p : Int) : Prop := kh M p (M 1 1) 0 ∧ kh M p 0 (M 1 1) ∧ ∀ u v : Int, 0 ≤ u → u < M 1 1 → 0 ≤ v → v < M 1 1 → hT M u v → kh M p u v
def Cen (M : Mem) : Prop := ∃ p : Int, 0 ≤ p ∧ p < 12 ∧ M 17 p = 1 ∧ ¬ khs M p
def Rev (M : Mem) : Prop := ∃ p : Int, tu (M 1 0) ≤ p ∧ p < 2 * tu (M 1 0) ∧ M 16 p = 1
def Lea (M : Mem) (z : Int) : Prop := 0 < z ∧ z ≤ M 1 1 * M 1 1 ∧ (z = M 1 1 * M 1 1 ∨ ∃ x y : Int, -M 1 1 ≤ x ∧ x ≤ M 1 1 ∧ -M 1 1 ≤ y ∧ y ≤ M 1 1 ∧ hT M x y ∧ z = sqL x y) ∧ ∀ x y : Int, -M 1 1 ≤ x → x ≤ M 1 1 → -M 1 1 ≤ y → y ≤ M 1 1 → 0 < sqL x y → hT M x y → z ≤ sqL x y
def Fix (M : Mem) (x y : Int) : Prop := ∃ p : Int, tu (M 1 0) ≤ p ∧ p < 2 * tu (M 1 0) ∧ M 16 p = 1 ∧ imx (M 1 0) p x y = x ∧ imy (M 1 0) p x y = y
def FSh (M : Mem) (z : Int) : Prop := ∃ x y : Int, -M 1 1 ≤ x ∧ x ≤ M 1 1 ∧ -M 1 1 ≤ y ∧ y ≤ M 1 1 ∧ sqL x y = z ∧ hT M x y ∧ Fix M x y
theorem td2 {z : Int} (h : -1000 ≤ z ∧ z ≤ 1000) : (-1000 ≤ z.tdiv 2 ∧ z.tdiv 2 ≤ 1000) ∧ -2 ≤ z.tmod 2 ∧ z.tmod 2 ≤ 2 := by
  rcases Int.le_total 0 z with q | q
  · rw [Int.tdiv_eq_ediv_of_nonneg q, Int.tmod_eq_emod_of_nonneg q]; omega
  · have h1 := Int.neg_tdiv (-z) 2
    have h2 := Int.neg_tmod (-z) 2
    rw [Int.neg_neg] at h1 h2
    rw [h1, h2, Int.tdiv_eq_ediv_of_nonneg (by omega), Int.tmod_eq_emod_of_nonneg (by omega)]; omega

theorem e_X1_note {M : Mem} {c : Int} (hL : Lat M) (hv : vc (M 1 0) (M 1 1) c) (hm : M01 17 12 M) : J SHC mi_X1_note 0 (ent [vR 15, vI c] 4) [] M (pv (fun M1 => ∃ b, ((b = 1 ∧ (M 17 (cP (M 1 1) c) = 1 ∨ kn (M 1 0) (M 1 1) c = 2)) ∨ (b = 0 ∧ M 17 (cP (M 1 1) c) = 0 ∧ ¬ kn (M 1 0) (M 1 1) c = 2)) ∧ M1 = wr (wr (wr M 16 (cP (M 1 1) c) 1) 17 (cP (M 1 1) c) b) 18 (kn (M 1 0) (M 1 1) c) (M 18 (kn (M 1 0) (M 1 1) c) + 1))) := by
  obtain ⟨hk, hn1, hn5, hc1, hc2⟩ := id hL
  have ht := tu_c hk
  obtain ⟨hc0, hc3, hcp0, hcp1⟩ := vc_b hk hc1 hc2 hv
  have hkb := kn_b (M 1 0) (M 1 1) c
  have hm0 := hm (cP (M 1 1) c) hcp0 (by omega)
  have e17 : wr M 16 (cP (M 1 1) c) 1 17 (cP (M 1 1) c) = M 17 (cP (M 1 1) c) := wr_ne _ _ (by omega)
  simp only [cP] at hcp0 hcp1 hm0 e17
  show J SHC mi_X1_note 0 [some (vR 15), some (vI c), none, none] [] M _
  refine j_aload_n dX1_note_0 rfl ?_
  refine j_getR dX1_note_1 f_X1_22 rfl rfl ?_
  refine j_iload_n dX1_note_4 rfl ?_
  refine j_V1p dX1_note_5 ok_X5_partOf v_X1_48 c_X5_partOf rfl (e_X5_partOf hL (by omega) (by omega)) ?_
  refine j_istore_n dX1_note_8 (by decide) (nol rfl) (by show List.set _ 2 _ = _; simp only [List.set_cons_zero, List.set_cons_succ]; rfl) ?_
  refine j_aload_n dX1_note_9 rfl ?_
  refine j_getR dX1_note_10 f_X1_22 rfl rfl ?_
  refine j_iload_n dX1_note_13 rfl ?_
  refine j_V1p dX1_note_14 ok_X5_kindNumber v_X1_53 c_X5_kindNumber rfl (e_X5_kindNumber hL (by assumption)) ?_
  refine j_istore_n dX1_note_17 (by decide) (nol rfl) (by show List.set _ 3 _ = _; simp only [List.set_cons_zero, List.set_cons_succ]; rfl) ?_
  refine j_iload_n dX1_note_18 rfl ?_
  refine j_bipush dX1_note_19 (by decide +kernel) ?_
  refine j_N2z dX1_note_21 ok_X6_isInside n_X1_56 (e_isInside (by first | assumption | (unfold inR; omega)) (by first | assumption | (unfold inR; omega))) (fun z21 M21 q21 => ?_)
  obtain ⟨rfl, q21⟩ := q21
  refine j_if_eq 77 dX1_note_24 rfl (by first | (unfold inR; omega) | (rw [e17]; unfold inR; omega)) (fun c24 => ?_) (fun c24 => ?_)
  · refine j_vret dX1_note_77 rfl ?_
    first
    | (exfalso; omega)
    | (refine ⟨rfl, 1, Or.inl ⟨rfl, ?_⟩, ?_⟩
       · first
         | (right; assumption)
         | (left; rw [e17] at c53; unfold cP; omega)
       · rw [wr_ne (b := 18) _ _ (by omega), wr_ne (b := 18) _ _ (by omega)]; rfl)
    | (refine ⟨rfl, 0, Or.inr ⟨rfl, by rw [e17] at c53; exact c53, by assumption⟩, ?_⟩
       rw [wr_ne (b := 18) _ _ (by omega), wr_ne (b := 18) _ _ (by omega)]; rfl)
  · refine j_iload_n dX1_note_27 rfl ?_
    refine j_iconst dX1_note_28 ?_
    refine j_N2z dX1_note_29 ok_X6_isInside n_X1_56 (e_isInside (by first | assumption | (unfold inR; omega)) (by first | assumption | (unfold inR; omega))) (fun z29 M29 q29 => ?_)
    obtain ⟨rfl, q29⟩ := q29
    refine j_if_eq 77 dX1_note_32 rfl (by first | (unfold inR; omega) | (rw [e17]; unfold inR; omega)) (fun c32 => ?_) (fun c32 => ?_)
    · refine j_vret dX1_note_77 rfl ?_
      first
      | (exfalso; omega)
      | (refine ⟨rfl, 1, Or.inl ⟨rfl, ?_⟩, ?_⟩
         · first
           | (right; assumption)
           | (left; rw [e17] at c53; unfold cP; omega)
         · rw [wr_ne (b := 18) _ _ (by omega), wr_ne (b := 18) _ _ (by omega)]; rfl)
      | (refine ⟨rfl, 0, Or.inr ⟨rfl, by rw [e17] at c53; exact c53, by assumption⟩, ?_⟩
         rw [wr_ne (b := 18) _ _ (by omega), wr_ne (b := 18) _ _ (by omega)]; rfl)
    · refine j_aload_n dX1_note_35 rfl ?_
      refine j_getR dX1_note_36 f_X1_9 rfl rfl ?_
      refine j_iload_n dX1_note_39 rfl ?_
      refine j_iconst dX1_note_40 ?_
      refine j_bast dX1_note_41 (by first | rfl | assumption) (by decide) (by omega) (by omega) (by first | exact Or.inl rfl | exact Or.inr rfl) ?_
      refine j_aload_n dX1_note_42 rfl ?_
      refine j_getR dX1_note_43 f_X1_15 rfl rfl ?_
      refine j_iload_n dX1_note_46 rfl ?_
      refine j_aload_n dX1_note_47 rfl ?_
      refine j_getR dX1_note_48 f_X1_15 rfl rfl ?_
      refine j_iload_n dX1_note_51 rfl ?_
      refine j_bald dX1_note_52 (by first | rfl | assumption) (by decide) (by omega) (by omega) ?_
      refine j_if_ne 61 dX1_note_53 rfl (by first | (unfold inR; omega) | (rw [e17]; unfold inR; omega)) (fun c53 => ?_) (fun c53 => ?_)
      · refine j_iconst dX1_note_61 ?_
        refine j_goto 66 dX1_note_62 rfl ?_
        refine j_bast dX1_note_66 (by first | rfl | assumption) (by decide) (by omega) (by omega) (by first | exact Or.inl rfl | exact Or.inr rfl) ?_
        refine j_aload_n dX1_note_67 rfl ?_
        refine j_getR dX1_note_68 f_X1_18 rfl rfl ?_
        refine j_iload_n dX1_note_71 rfl ?_
        refine j_dup2 dX1_note_72 (fun _ h => by cases h) (fun _ h => by cases h) ?_
        refine j_iald dX1_note_73 (by first | rfl | assumption) (by decide) (by omega) (by omega) ?_
        refine j_iconst dX1_note_74 ?_
        refine j_iadd dX1_note_75 ?_
        refine j_iast dX1_note_76 (by first | rfl | assumption) (by decide) (by omega) (by omega) ?_
        refine j_vret dX1_note_77 rfl ?_
        first
        | (exfalso; omega)
        | (refine ⟨rfl, 1, Or.inl ⟨rfl, ?_⟩, ?_⟩
           · first
             | (right; assumption)
             | (left; rw [e17] at c53; unfold cP; omega)
           · rw [wr_ne (b := 18) _ _ (by omega), wr_ne (b := 18) _ _ (by omega)]; rfl)
        | (refine ⟨rfl, 0, Or.inr ⟨rfl, by rw [e17] at c53; exact c53, by assumption⟩, ?_⟩
           rw [wr_ne (b := 18) _ _ (by omega), wr_ne (b := 18) _ _ (by omega)]; rfl)
      · refine j_iload_n dX1_note_56 rfl ?_
        refine j_iconst dX1_note_57 ?_
        refine j_icmp_ne 65 dX1_note_58 rfl (by first | (unfold inR; omega) | (rw [e17]; unfold inR; omega)) (by first | (unfold inR; omega) | (rw [e17]; unfold inR; omega)) (fun c58 => ?_) (fun c58 => ?_)
        · refine j_iconst dX1_note_65 ?_
          refine j_bast dX1_note_66 (by first | rfl | assumption) (by decide) (by omega) (by omega) (by first | exact Or.inl rfl | exact Or.inr rfl) ?_
          refine j_aload_n dX1_note_67 rfl ?_
          refine j_getR dX1_note_68 f_X1_18 rfl rfl ?_
          refine j_iload_n dX1_note_71 rfl ?_
          refine j_dup2 dX1_note_72 (fun _ h => by cases h) (fun _ h => by cases h) ?_
          refine j_iald dX1_note_73 (by first | rfl | assumption) (by decide) (by omega) (by omega) ?_
          refine j_iconst dX1_note_74 ?_
          refine j_iadd dX1_note_75 ?_
          refine j_iast dX1_note_76 (by first | rfl | assumption) (by decide) (by omega) (by omega) ?_
          refine j_vret dX1_note_77 rfl ?_
          first
          | (exfalso; omega)
          | (refine ⟨rfl, 1, Or.inl ⟨rfl, ?_⟩, ?_⟩
             · first
               | (right; assumption)
               | (left; rw [e17] at c53; unfold cP; omega)
             · rw [wr_ne (b := 18) _ _ (by omega), wr_ne (b := 18) _ _ (by omega)]; rfl)
          | (refine ⟨rfl, 0, Or.inr ⟨rfl, by rw [e17] at c53; exact c53, by assumption⟩, ?_⟩
             rw [wr_ne (b := 18) _ _ (by omega), wr_ne (b := 18) _ _ (by omega)]; rfl)
        · refine j_iconst dX1_note_61 ?_
          refine j_goto 66 dX1_note_62 rfl ?_
          refine j_bast dX1_note_66 (by first | rfl | assumption) (by decide) (by omega) (by omega) (by first | exact Or.inl rfl | exact Or.inr rfl) ?_
          refine j_aload_n dX1_note_67 rfl ?_
          refine j_getR dX1_note_68 f_X1_18 rfl rfl ?_
          refine j_iload_n dX1_note_71 rfl ?_
          refine j_dup2 dX1_note_72 (fun _ h => by cases h) (fun _ h => by cases h) ?_
          refine j_iald dX1_note_73 (by first | rfl | assumption) (by decide) (by omega) (by omega) ?_
          refine j_iconst dX1_note_74 ?_
          refine j_iadd dX1_note_75 ?_
          refine j_iast dX1_note_76 (by first | rfl | assumption) (by decide) (by omega) (by omega) ?_
          refine j_vret dX1_note_77 rfl ?_
          first
          | (exfalso; omega)
          | (refine ⟨rfl, 1, Or.inl ⟨rfl, ?_⟩, ?_⟩
             · first
               | (right; assumption)
               | (left; rw [e17] at c53; unfold cP; omega)
             · rw [wr_ne (b := 18) _ _ (by omega), wr_ne (b := 18) _ _ (by omega)]; rfl)
          | (refine ⟨rfl, 0, Or.inr ⟨rfl, by rw [e17] at c53; exact c53, by assumption⟩, ?_⟩
             rw [wr_ne (b := 18) _ _ (by omega), wr_ne (b := 18) _ _ (by omega)]; rfl)
theorem l_survey {GL : List Int} (hGL : GL.length ≤ 300) (m : Nat) : ∀ (i : Nat) (M : Mem), Lat M → M 10 6 = GL.length → Elem 12 M GL → (∀ x ∈ GL, vc (M 1 0) (M 1 1) x) → FI M (GL.take i) → i ≤ GL.length → 300 - i < m → J SHC mi_X1_survey 36 [some (vR 15), some (vI i)] [] M (pv (fun M1 => fr [16, 17, 18] M M1 ∧ FI M1 GL)) := by
  induction m with
  | zero => intro i M _ _ _ _ _ h1 h2; omega
  | succ m ih =>
  intro i M hL hc he hv hf h1 h2
  have hlt : i < GL.length → 300 - (i + 1) < m := fun h => by omega
  have hm : M01 17 12 M := fun j a b => by
    rcases hf.2.1 j a b with h | h
    · exact Or.inr h.1
    · exact Or.inl h.1
  have hx0 : i < GL.length → ∃ x0, GL[i]? = some x0 ∧ M 12 i = x0 ∧ vc (M 1 0) (M 1 1) x0 := fun hi => by
    have e : GL[i]? = some GL[i] := List.getElem?_eq_getElem hi
    exact ⟨_, e, he i _ e, hv _ (List.mem_of_getElem? e)⟩
  refine j_iload_n dX1_survey_36 rfl ?_
  refine j_aload_n dX1_survey_37 rfl ?_
  refine j_getR dX1_survey_38 f_X1_26 rfl rfl ?_
  refine j_V0p dX1_survey_41 ok_X3_size v_X1_34 c_X3_size rfl (e_X3_size) ?_
  refine j_icmp_ge 65 dX1_survey_44 rfl (by unfold inR; omega) (by unfold inR; omega) (fun c44 => ?_) (fun c44 => ?_)
  · have hi : i = GL.length := by omega
    subst hi
    rw [List.take_length] at hf
    exact j_vret dX1_survey_65 rfl ⟨rfl, fr.rf, hf⟩
  · refine j_aload_n dX1_survey_47 rfl ?_
    refine j_aload_n dX1_survey_48 rfl ?_
    refine j_getR dX1_survey_49 f_X1_26 rfl rfl ?_
    refine j_iload_n dX1_survey_52 rfl ?_
    refine j_V1p dX1_survey_53 ok_X3_elementAt v_X1_40 c_X3_elementAt rfl (e_X3_elementAt (by omega) (by omega)) ?_
    refine j_V1v dX1_survey_56 ok_X1_note v_X1_44 c_X1_note rfl (e_X1_note hL (c := M 12 i) (by obtain ⟨x0, a1, a2, a3⟩ := hx0 (by omega); rw [a2]; exact a3) hm) (fun M56 q56 => ?_)
    obtain ⟨x0, a1, a2, a3⟩ := hx0 (by omega)
    obtain ⟨b, hb, rfl⟩ := q56
    have hp := FI_push hf hb
    have ht : GL.take i ++ [M 12 i] = GL.take (i + 1) := by
      rw [List.take_add_one, a1, a2]; rfl
    rw [ht] at hp
    have f : fr [16, 17, 18] M (wr (wr (wr M 16 (cP (M 1 1) (M 12 i)) 1) 17 (cP (M 1 1) (M 12 i)) b) 18 (kn (M 1 0) (M 1 1) (M 12 i)) (M 18 (kn (M 1 0) (M 1 1) (M 12 i)) + 1)) := ((fr.rf.w1 (by decide)).w1 (by decide)).w1 (by decide)
    have e1 := f 1 (by decide)
    refine j_iinc dX1_survey_59 rfl (by decide) (nol rfl) (by simp only [List.set_cons_zero, List.set_cons_succ]; rfl) ?_
    refine j_goto 36 dX1_survey_62 rfl ?_
    refine j_mono ?_ (ih (i + 1) _ (Lat_fr f (by decide) hL) (by rw [f 10 (by decide)]; exact hc) (Elem_eq he (f 12 (by decide))) (by rw [e1]; exact hv) hp (by omega) (hlt (by omega)))
    rintro v M1 ⟨rfl, f1, g1⟩
    exact ⟨rfl, f.tr f1, g1⟩
theorem e_X1_survey {M : Mem} {GL : List Int} (hGL : GL.length ≤ 300) (hL : Lat M) (hc : M 10 6 = GL.length) (he : Elem 12 M GL) (hv : ∀ x ∈ GL, vc (M 1 0) (M 1 1) x) : J SHC mi_X1_survey 0 (ent [vR 15] 2) [] M (pv (fun M1 => fr [16, 17, 18] M M1 ∧ FI M1 GL)) := by
  show J SHC mi_X1_survey 0 [some (vR 15), none] [] M _
  refine j_aload_n dX1_survey_0 rfl ?_
  refine j_getR dX1_survey_1 f_X1_9 rfl rfl ?_
  refine j_N1v dX1_survey_4 ok_X6_clearMarks n_X1_30 (e_clearMarks (r := 16) (len := 12) rfl (by decide)) (fun M4 q4 => ?_)
  obtain ⟨f4, g4⟩ := q4
  refine j_aload_n dX1_survey_7 rfl ?_
  refine j_getR dX1_survey_8 f_X1_15 rfl rfl ?_
  refine j_N1v dX1_survey_11 ok_X6_clearMarks n_X1_30 (e_clearMarks (r := 17) (len := 12) rfl (by decide)) (fun M11 q11 => ?_)
  obtain ⟨f11, g11⟩ := q11
  refine j_iconst dX1_survey_14 ?_
  refine j_istore_n dX1_survey_15 (by decide) (nol rfl) (by show List.set _ 1 _ = _; simp only [List.set_cons_zero, List.set_cons_succ]; rfl) ?_
  refine j_iload_n dX1_survey_16 rfl ?_
  refine j_iconst dX1_survey_17 ?_
  refine j_icmp_ge 34 dX1_survey_18 rfl (by unfold inR; omega) (by unfold inR; omega) (fun c18 => ?_) (fun c18 => ?_)
  · exfalso; first | omega | (simp at c18; done)
  refine j_aload_n dX1_survey_21 rfl ?_
  refine j_getR dX1_survey_22 f_X1_18 rfl rfl ?_
  refine j_iload_n dX1_survey_25 rfl ?_
  refine j_iconst dX1_survey_26 ?_
  refine j_iast dX1_survey_27 (by first | rfl | assumption) (by decide) (by omega) (by omega) ?_
  refine j_iinc dX1_survey_28 rfl (by decide) (nol rfl) (by simp only [List.set_cons_zero, List.set_cons_succ]; rfl) ?_
  refine j_goto 16 dX1_survey_31 rfl ?_
  refine j_iload_n dX1_survey_16 rfl ?_
  refine j_iconst dX1_survey_17 ?_
  refine j_icmp_ge 34 dX1_survey_18 rfl (by unfold inR; omega) (by unfold inR; omega) (fun c18 => ?_) (fun c18 => ?_)
  · exfalso; first | omega | (simp at c18; done)
  refine j_aload_n dX1_survey_21 rfl ?_
  refine j_getR dX1_survey_22 f_X1_18 rfl rfl ?_
  refine j_iload_n dX1_survey_25 rfl ?_
  refine j_iconst dX1_survey_26 ?_
  refine j_iast dX1_survey_27 (by first | rfl | assumption) (by decide) (by omega) (by omega) ?_
  refine j_iinc dX1_survey_28 rfl (by decide) (nol rfl) (by simp only [List.set_cons_zero, List.set_cons_succ]; rfl) ?_
  refine j_goto 16 dX1_survey_31 rfl ?_
  refine j_iload_n dX1_survey_16 rfl ?_
  refine j_iconst dX1_survey_17 ?_
  refine j_icmp_ge 34 dX1_survey_18 rfl (by unfold inR; omega) (by unfold inR; omega) (fun c18 => ?_) (fun c18 => ?_)
  · exfalso; first | omega | (simp at c18; done)
  refine j_aload_n dX1_survey_21 rfl ?_
  refine j_getR dX1_survey_22 f_X1_18 rfl rfl ?_
  refine j_iload_n dX1_survey_25 rfl ?_
  refine j_iconst dX1_survey_26 ?_
  refine j_iast dX1_survey_27 (by first | rfl | assumption) (by decide) (by omega) (by omega) ?_
  refine j_iinc dX1_survey_28 rfl (by decide) (nol rfl) (by simp only [List.set_cons_zero, List.set_cons_succ]; rfl) ?_
  refine j_goto 16 dX1_survey_31 rfl ?_
  refine j_iload_n dX1_survey_16 rfl ?_
  refine j_iconst dX1_survey_17 ?_
  refine j_icmp_ge 34 dX1_survey_18 rfl (by unfold inR; omega) (by unfold inR; omega) (fun c18 => ?_) (fun c18 => ?_)
  · exfalso; first | omega | (simp at c18; done)
  refine j_aload_n dX1_survey_21 rfl ?_
  refine j_getR dX1_survey_22 f_X1_18 rfl rfl ?_
  refine j_iload_n dX1_survey_25 rfl ?_
  refine j_iconst dX1_survey_26 ?_
  refine j_iast dX1_survey_27 (by first | rfl | assumption) (by decide) (by omega) (by omega) ?_
  refine j_iinc dX1_survey_28 rfl (by decide) (nol rfl) (by simp only [List.set_cons_zero, List.set_cons_succ]; rfl) ?_
  refine j_goto 16 dX1_survey_31 rfl ?_
  refine j_iload_n dX1_survey_16 rfl ?_
  refine j_iconst dX1_survey_17 ?_
  refine j_icmp_ge 34 dX1_survey_18 rfl (by unfold inR; omega) (by unfold inR; omega) (fun c18 => ?_) (fun c18 => ?_)
  rotate_left
  · exfalso; first | omega | (simp at c18; done)
  refine j_iconst dX1_survey_34 ?_
  refine j_istore_n dX1_survey_35 (by decide) (nol rfl) (by show List.set _ 1 _ = _; simp only [List.set_cons_zero, List.set_cons_succ]; rfl) ?_
  have fA := (((((f4.up (S' := [16, 17, 18]) (by decide)).tr (f11.up (by decide))).w1 (a := 18) (i := 0) (x := 0) (by decide)).w1 (a := 18) (i := 0 + 1) (x := 0) (by decide)).w1 (a := 18) (i := 0 + 1 + 1) (x := 0) (by decide)).w1 (a := 18) (i := 0 + 1 + 1 + 1) (x := 0) (by decide)
  have e1 := fA 1 (by decide)
  refine j_mono ?_ (l_survey hGL 301 0 _ (Lat_fr fA (by decide) hL) (by rw [fA 10 (by decide)]; exact hc) (Elem_eq he (fA 12 (by decide))) (by rw [e1]; exact hv) ?_ (by omega) (by omega))
  · rintro v M1 ⟨rfl, f1, g1⟩
    exact ⟨rfl, fA.tr f1, g1⟩
  · refine ⟨fun p a b => Or.inr ⟨?_, by simp⟩, fun p a b => Or.inr ⟨?_, by simp⟩, fun d a b => ?_⟩
    · simp only [wr, show ¬ ((16 : Nat) = 18) by decide, false_and, if_false]
      rw [f11 16 (by decide), g4, if_pos ⟨a, b⟩]
    · simp only [wr, show ¬ ((17 : Nat) = 18) by decide, false_and, if_false]
      rw [g11, if_pos ⟨a, b⟩]
    · rcases (show d = 0 ∨ d = 1 ∨ d = 2 ∨ d = 3 by omega) with rfl | rfl | rfl | rfl <;> simp [wr]
theorem e_X1_elementsOfKind {M : Mem} {d : Int} (h0 : 0 ≤ d) (h4 : d < 4) : J SHC mi_X1_elementsOfKind 0 (ent [vR 15, vI d] 2) [] M (pu (vI (M 18 d)) M) := by
  show J SHC mi_X1_elementsOfKind 0 [some (vR 15), some (vI d)] [] M _
  refine j_iload_n dX1_elementsOfKind_0 rfl ?_
  refine j_iconst dX1_elementsOfKind_1 ?_
  refine j_N2z dX1_elementsOfKind_2 ok_X6_isInside n_X1_56 (e_isInside (by first | assumption | (unfold inR; omega)) (by first | assumption | (unfold inR; omega))) (fun z2 M2 q2 => ?_)
  obtain ⟨rfl, q2⟩ := q2
  refine j_if_eq 17 dX1_elementsOfKind_5 rfl (by unfold inR; omega) (fun c5 => ?_) (fun c5 => ?_)
  · refine j_iconst dX1_elementsOfKind_17 ?_
    refine j_iret dX1_elementsOfKind_18 rfl ?_
    first | (exfalso; omega) | exact pu_i rfl
  · refine j_aload_n dX1_elementsOfKind_8 rfl ?_
    refine j_getR dX1_elementsOfKind_9 f_X1_18 rfl rfl ?_
    refine j_iload_n dX1_elementsOfKind_12 rfl ?_
    refine j_iald dX1_elementsOfKind_13 (by first | rfl | assumption) (by decide) (by omega) (by omega) ?_
    refine j_goto 18 dX1_elementsOfKind_14 rfl ?_
    refine j_iret dX1_elementsOfKind_18 rfl ?_
    first | (exfalso; omega) | exact pu_i rfl
theorem e_X1_countParts {M : Mem} (hm : M01 16 12 M) : J SHC mi_X1_countParts 0 (ent [vR 15] 1) [] M (pu (vI (cntTo (M 16) 12)) M) := by
  show J SHC mi_X1_countParts 0 [some (vR 15)] [] M _
  refine j_aload_n dX1_countParts_0 rfl ?_
  refine j_getR dX1_countParts_1 f_X1_9 rfl rfl ?_
  refine j_N1p dX1_countParts_4 ok_X6_countMarks n_X1_60 (e_countMarks (r := 16) (len := 12) rfl (by decide) (fun j a b => hm.r a b)) ?_
  refine j_iret dX1_countParts_7 rfl ?_
  exact pu_i (by first | rfl | omega | (simp; done))
theorem e_X1_countMirrorParts {M : Mem} (hm : M01 17 12 M) : J SHC mi_X1_countMirrorParts 0 (ent [vR 15] 1) [] M (pu (vI (cntTo (M 17) 12)) M) := by
  show J SHC mi_X1_countMirrorParts 0 [some (vR 15)] [] M _
  refine j_aload_n dX1_countMirrorParts_0 rfl ?_
  refine j_getR dX1_countMirrorParts_1 f_X1_15 rfl rfl ?_
  refine j_N1p dX1_countMirrorParts_4 ok_X6_countMarks n_X1_60 (e_countMarks (r := 17) (len := 12) rfl (by decide) (fun j a b => hm.r a b)) ?_
  refine j_iret dX1_countMirrorParts_7 rfl ?_
  exact pu_i (by first | rfl | omega | (simp; done))
theorem e_X1_occurs {M : Mem} {p : Int} (hm : M01 16 12 M) (hp : 0 ≤ p ∧ p < 12) : J SHC mi_X1_occurs 0 (ent [vR 15, vI p] 2) [] M (bz (M 16 p = 1) M) := by
  show J SHC mi_X1_occurs 0 [some (vR 15), some (vI p)] [] M _
  refine j_iload_n dX1_occurs_0 rfl ?_
  refine j_bipush dX1_occurs_1 (by decide +kernel) ?_
  refine j_N2z dX1_occurs_3 ok_X6_isInside n_X1_56 (e_isInside (by first | assumption | (unfold inR; omega)) (by first | assumption | (unfold inR; omega))) (fun z3 M3 q3 => ?_)
  obtain ⟨rfl, q3⟩ := q3
  refine j_if_eq 22 dX1_occurs_6 rfl (by first | exact hm.r (by omega) (by omega) | (unfold inR; omega)) (fun c6 => ?_) (fun c6 => ?_)
  · refine j_iconst dX1_occurs_22 ?_
    refine j_zret dX1_occurs_23 rfl (by first | exact Or.inl rfl | exact Or.inr rfl | omega) ?_
    first | (exfalso; omega) | exact bz_i (Or.inl ⟨rfl, by have := hm p hp.1 hp.2; omega⟩) | exact bz_i (Or.inr ⟨rfl, fun h => by omega⟩)
  · refine j_aload_n dX1_occurs_9 rfl ?_
    refine j_getR dX1_occurs_10 f_X1_9 rfl rfl ?_
    refine j_iload_n dX1_occurs_13 rfl ?_
    refine j_bald dX1_occurs_14 (by first | rfl | assumption) (by decide) (by omega) (by omega) ?_
    refine j_if_eq 22 dX1_occurs_15 rfl (by first | exact hm.r (by omega) (by omega) | (unfold inR; omega)) (fun c15 => ?_) (fun c15 => ?_)
    · refine j_iconst dX1_occurs_22 ?_
      refine j_zret dX1_occurs_23 rfl (by first | exact Or.inl rfl | exact Or.inr rfl | omega) ?_
      first | (exfalso; omega) | exact bz_i (Or.inl ⟨rfl, by have := hm p hp.1 hp.2; omega⟩) | exact bz_i (Or.inr ⟨rfl, fun h => by omega⟩)
    · refine j_iconst dX1_occurs_18 ?_
      refine j_goto 23 dX1_occurs_19 rfl ?_
      refine j_zret dX1_occurs_23 rfl (by first | exact Or.inl rfl | exact Or.inr rfl | omega) ?_
      first | (exfalso; omega) | exact bz_i (Or.inl ⟨rfl, by have := hm p hp.1 hp.2; omega⟩) | exact bz_i (Or.inr ⟨rfl, fun h => by omega⟩)
theorem l_gto {M : Mem} (hL : Lat M) (hm : M01 16 12 M) (m : Nat) : ∀ (p : Nat), (p : Int) ≤ tu (M 1 0) → 6 - p < m → J SHC mi_X1_greatestTurnOrder 4 [some (vR 15), some (vI (gtf (M 16) (M 1 0) p)), some (vI p)] [] M (pu (vI (gtf (M 16) (M 1 0) (tu (M 1 0)).toNat)) M) := by
  induction m with
  | zero => intro p h1 h2; omega
  | succ m ih =>
  intro p h1 h2
  obtain ⟨hk, hn1, hn5, hc1, hc2⟩ := id hL
  have ht := tu_c hk
  have hb := gtf_b (f := M 16) hk p h1
  refine j_iload_n dX1_greatestTurnOrder_4 rfl ?_
  refine j_aload_n dX1_greatestTurnOrder_5 rfl ?_
  refine j_getR dX1_greatestTurnOrder_6 f_X1_22 rfl rfl ?_
  refine j_V0p dX1_greatestTurnOrder_9 ok_X5_turns v_X1_64 c_X5_turns rfl (e_X5_turns hL) ?_
  refine j_icmp_ge 42 dX1_greatestTurnOrder_12 rfl (by unfold inR; omega) (by unfold inR; omega) (fun c12 => ?_) (fun c12 => ?_)
  · refine j_iload_n dX1_greatestTurnOrder_42 rfl ?_
    refine j_iret dX1_greatestTurnOrder_43 rfl ?_
    exact pu_i (by congr 1; omega)
  · refine j_aload_n dX1_greatestTurnOrder_15 rfl ?_
    refine j_iload_n dX1_greatestTurnOrder_16 rfl ?_
    refine j_V1z dX1_greatestTurnOrder_17 ok_X1_occurs v_X1_67 c_X1_occurs rfl (e_X1_occurs (by assumption) (by omega)) (fun z17 M17 q17 => ?_)
    obtain ⟨rfl, q17⟩ := q17
    refine j_if_eq 36 dX1_greatestTurnOrder_20 rfl (by unfold inR; omega) (fun c20 => ?_) (fun c20 => ?_)
    · refine j_iinc dX1_greatestTurnOrder_36 rfl (by decide) (nol rfl) (by simp only [List.set_cons_zero, List.set_cons_succ]; rfl) ?_
      refine j_goto 4 dX1_greatestTurnOrder_39 rfl ?_
      have h9 := ih (p + 1) (by omega) (by omega)
      rw [show gtf (M 16) (M 1 0) (p + 1) = gtf (M 16) (M 1 0) p from if_neg (by omega)] at h9
      exact h9
    · refine j_iload_n dX1_greatestTurnOrder_23 rfl ?_
      refine j_aload_n dX1_greatestTurnOrder_24 rfl ?_
      refine j_getR dX1_greatestTurnOrder_25 f_X1_22 rfl rfl ?_
      refine j_iload_n dX1_greatestTurnOrder_28 rfl ?_
      refine j_V1z dX1_greatestTurnOrder_29 ok_X5_turnOrder v_X1_71 c_X5_turnOrder rfl (e_X5_turnOrder hL (by omega)) (fun z29 M29 q29 => ?_)
      obtain ⟨e9, t1, t2, t3, t4⟩ := q29
      have e9 := e9.symm
      subst e9
      have ez := tord_eq hk ⟨by omega, by omega⟩ t1 t2 t3 t4
      refine j_S2p dX1_greatestTurnOrder_32 ok_J9_max_7cf53 s_X1_74 (e_max (by unfold inR; omega) (by unfold inR; omega)) ?_
      refine j_istore_n dX1_greatestTurnOrder_35 (by decide) (nol rfl) (by show List.set _ 1 _ = _; simp only [List.set_cons_zero, List.set_cons_succ]; rfl) ?_
      refine j_iinc dX1_greatestTurnOrder_36 rfl (by decide) (nol rfl) (by simp only [List.set_cons_zero, List.set_cons_succ]; rfl) ?_
      refine j_goto 4 dX1_greatestTurnOrder_39 rfl ?_
      have h9 := ih (p + 1) (by omega) (by omega)
      rw [show gtf (M 16) (M 1 0) (p + 1) = max (gtf (M 16) (M 1 0) p) (tordF (M 1 0) p) from if_pos (by omega), ← ez] at h9
      exact h9
theorem e_X1_greatestTurnOrder {M : Mem} (hL : Lat M) (hm : M01 16 12 M) : J SHC mi_X1_greatestTurnOrder 0 (ent [vR 15] 3) [] M (pu (vI (gtf (M 16) (M 1 0) (tu (M 1 0)).toNat)) M) := by
  show J SHC mi_X1_greatestTurnOrder 0 [some (vR 15), none, none] [] M _
  refine j_iconst dX1_greatestTurnOrder_0 ?_
  refine j_istore_n dX1_greatestTurnOrder_1 (by decide) (nol rfl) (by show List.set _ 1 _ = _; simp only [List.set_cons_zero, List.set_cons_succ]; rfl) ?_
  refine j_iconst dX1_greatestTurnOrder_2 ?_
  refine j_istore_n dX1_greatestTurnOrder_3 (by decide) (nol rfl) (by show List.set _ 2 _ = _; simp only [List.set_cons_zero, List.set_cons_succ]; rfl) ?_
  exact l_gto hL hm 7 0 (by have := tu_c hL.1; omega) (by omega)
theorem l_rev {M : Mem} (hL : Lat M) (hm : M01 16 12 M) (m : Nat) : ∀ (p : Int), tu (M 1 0) ≤ p → p ≤ 2 * tu (M 1 0) → 2 * tu (M 1 0) - p < m → (∀ r, tu (M 1 0) ≤ r → r < p → ¬ M 16 r = 1) → J SHC mi_X1_hasReversal 8 [some (vR 15), some (vI p)] [] M (bz (Rev M) M) := by
  induction m with
  | zero => intro p h1 h2 h3; omega
  | succ m ih =>
  intro p h1 h2 h3 h4
  obtain ⟨hk, hn1, hn5, hc1, hc2⟩ := id hL
  have ht := tu_c hk
  refine j_iload_n dX1_hasReversal_8 rfl ?_
  refine j_aload_n dX1_hasReversal_9 rfl ?_
  refine j_getR dX1_hasReversal_10 f_X1_22 rfl rfl ?_
  refine j_V0p dX1_hasReversal_13 ok_X5_parts v_X1_80 c_X5_parts rfl (e_X5_parts hL) ?_
  refine j_icmp_ge 35 dX1_hasReversal_16 rfl (by unfold inR; omega) (by unfold inR; omega) (fun c16 => ?_) (fun c16 => ?_)
  · refine j_iconst dX1_hasReversal_35 ?_
    refine j_zret dX1_hasReversal_36 rfl (by first | exact Or.inl rfl | exact Or.inr rfl | omega) ?_
    exact bz_i (Or.inr ⟨rfl, fun ⟨r, a, b, c⟩ => h4 r a (by omega) c⟩)
  · refine j_aload_n dX1_hasReversal_19 rfl ?_
    refine j_iload_n dX1_hasReversal_20 rfl ?_
    refine j_V1z dX1_hasReversal_21 ok_X1_occurs v_X1_67 c_X1_occurs rfl (e_X1_occurs (by assumption) (by omega)) (fun z21 M21 q21 => ?_)
    obtain ⟨rfl, q21⟩ := q21
    refine j_if_eq 29 dX1_hasReversal_24 rfl (by unfold inR; omega) (fun c24 => ?_) (fun c24 => ?_)
    · refine j_iinc dX1_hasReversal_29 rfl (by decide) (nol rfl) (by simp only [List.set_cons_zero, List.set_cons_succ]; rfl) ?_
      refine j_goto 8 dX1_hasReversal_32 rfl ?_
      refine ih (p + 1) (by omega) (by omega) (by omega) (fun r a b => ?_)
      by_cases e : r = p
      · rw [e]; omega
      · exact h4 r a (by omega)
    · refine j_iconst dX1_hasReversal_27 ?_
      refine j_zret dX1_hasReversal_28 rfl (by first | exact Or.inl rfl | exact Or.inr rfl | omega) ?_
      exact bz_i (Or.inl ⟨rfl, p, by omega, by omega, by omega⟩)
theorem e_X1_hasReversal {M : Mem} (hL : Lat M) (hm : M01 16 12 M) : J SHC mi_X1_hasReversal 0 (ent [vR 15] 2) [] M (bz (Rev M) M) := by
  show J SHC mi_X1_hasReversal 0 [some (vR 15), none] [] M _
  refine j_aload_n dX1_hasReversal_0 rfl ?_
  refine j_getR dX1_hasReversal_1 f_X1_22 rfl rfl ?_
  refine j_V0p dX1_hasReversal_4 ok_X5_turns v_X1_64 c_X5_turns rfl (e_X5_turns hL) ?_
  refine j_istore_n dX1_hasReversal_7 (by decide) (nol rfl) (by show List.set _ 1 _ = _; simp only [List.set_cons_zero, List.set_cons_succ]; rfl) ?_
  exact l_rev hL hm 7 _ (by omega) (by have := tu_c hL.1; omega) (by have := tu_c hL.1; omega) (fun r a b => by omega)
theorem e_X1_squaredLength {SH : List Shp} {M : Mem} {x y : Int} : J SH mi_X1_squaredLength 0 (ent [vI x, vI y] 2) [] M (pu (vI (sqL x y)) M) := by
  show J SH mi_X1_squaredLength 0 [some (vI x), some (vI y)] [] M _
  refine j_iload_n dX1_squaredLength_0 rfl ?_
  refine j_iload_n dX1_squaredLength_1 rfl ?_
  refine j_imul dX1_squaredLength_2 ?_
  refine j_iload_n dX1_squaredLength_3 rfl ?_
  refine j_iload_n dX1_squaredLength_4 rfl ?_
  refine j_imul dX1_squaredLength_5 ?_
  refine j_iadd dX1_squaredLength_6 ?_
  refine j_iload_n dX1_squaredLength_7 rfl ?_
  refine j_iload_n dX1_squaredLength_8 rfl ?_
  refine j_imul dX1_squaredLength_9 ?_
  refine j_iadd dX1_squaredLength_10 ?_
  refine j_iret dX1_squaredLength_11 rfl ?_
  exact pu_i rfl
theorem e_X1_keepsHalfSum {M : Mem} {p x y : Int} (hL : Lat M) (hm : M01 11 300 M) (hp : 0 ≤ p ∧ p < 2 * tu (M 1 0)) (hx : -5 ≤ x ∧ x ≤ 5) (hy : -5 ≤ y ∧ y ≤ 5) : J SHC mi_X1_keepsHalfSum 0 (ent [vR 15, vI p, vI x, vI y] 6) [] M (bz (kh M p x y) M) := by
  have hib := im_b5 (M 1 0) p hx hy
  have d1 := td2 (z := x + imx (M 1 0) p x y) (by omega)
  have d2 := td2 (z := y + imy (M 1 0) p x y) (by omega)
  show J SHC mi_X1_keepsHalfSum 0 [some (vR 15), some (vI p), some (vI x), some (vI y), none, none] [] M _
  refine j_iload_n dX1_keepsHalfSum_0 rfl ?_
  refine j_aload_n dX1_keepsHalfSum_1 rfl ?_
  refine j_getR dX1_keepsHalfSum_2 f_X1_22 rfl rfl ?_
  refine j_iload_n dX1_keepsHalfSum_5 rfl ?_
  refine j_iload_n dX1_keepsHalfSum_6 rfl ?_
  refine j_iload_n dX1_keepsHalfSum_7 rfl ?_
  refine j_V3p dX1_keepsHalfSum_8 ok_X5_imageX v_X1_97 c_X5_imageX rfl (e_X5_imageX hL (by assumption)) ?_
  refine j_iadd dX1_keepsHalfSum_11 ?_
  refine j_istore dX1_keepsHalfSum_12 (by decide) (nol rfl) (by show List.set _ 4 _ = _; simp only [List.set_cons_zero, List.set_cons_succ]; rfl) ?_
  refine j_iload_n dX1_keepsHalfSum_14 rfl ?_
  refine j_aload_n dX1_keepsHalfSum_15 rfl ?_
  refine j_getR dX1_keepsHalfSum_16 f_X1_22 rfl rfl ?_
  refine j_iload_n dX1_keepsHalfSum_19 rfl ?_
  refine j_iload_n dX1_keepsHalfSum_20 rfl ?_
  refine j_iload_n dX1_keepsHalfSum_21 rfl ?_
  refine j_V3p dX1_keepsHalfSum_22 ok_X5_imageY v_X1_101 c_X5_imageY rfl (e_X5_imageY hL (by assumption)) ?_
  refine j_iadd dX1_keepsHalfSum_25 ?_
  refine j_istore dX1_keepsHalfSum_26 (by decide) (nol rfl) (by show List.set _ 5 _ = _; simp only [List.set_cons_zero, List.set_cons_succ]; rfl) ?_
  refine j_iload dX1_keepsHalfSum_28 rfl ?_
  refine j_iconst dX1_keepsHalfSum_30 ?_
  refine j_irem dX1_keepsHalfSum_31 (by unfold inR; omega) (by unfold inR; omega) (by omega) ?_
  refine j_if_ne 64 dX1_keepsHalfSum_32 rfl (by unfold inR; omega) (fun c32 => ?_) (fun c32 => ?_)
  · refine j_iconst dX1_keepsHalfSum_64 ?_
    refine j_zret dX1_keepsHalfSum_65 rfl (by first | exact Or.inl rfl | exact Or.inr rfl | omega) ?_
    first
    | exact bz_i (Or.inr ⟨rfl, fun h => c32 h.1⟩)
    | exact bz_i (Or.inr ⟨rfl, fun h => c39 h.2.1⟩)
    | (rcases q54 with q | q
       · first
         | exact bz_i (Or.inl ⟨rfl, c32, c39, q.2⟩)
         | (exfalso; omega)
       · first
         | exact bz_i (Or.inr ⟨rfl, fun h => q.2 h.2.2⟩)
         | (exfalso; omega))
  · refine j_iload dX1_keepsHalfSum_35 rfl ?_
    refine j_iconst dX1_keepsHalfSum_37 ?_
    refine j_irem dX1_keepsHalfSum_38 (by unfold inR; omega) (by unfold inR; omega) (by omega) ?_
    refine j_if_ne 64 dX1_keepsHalfSum_39 rfl (by unfold inR; omega) (fun c39 => ?_) (fun c39 => ?_)
    · refine j_iconst dX1_keepsHalfSum_64 ?_
      refine j_zret dX1_keepsHalfSum_65 rfl (by first | exact Or.inl rfl | exact Or.inr rfl | omega) ?_
      first
      | exact bz_i (Or.inr ⟨rfl, fun h => c32 h.1⟩)
      | exact bz_i (Or.inr ⟨rfl, fun h => c39 h.2.1⟩)
      | (rcases q54 with q | q
         · first
           | exact bz_i (Or.inl ⟨rfl, c32, c39, q.2⟩)
           | (exfalso; omega)
         · first
           | exact bz_i (Or.inr ⟨rfl, fun h => q.2 h.2.2⟩)
           | (exfalso; omega))
    · refine j_aload_n dX1_keepsHalfSum_42 rfl ?_
      refine j_getR dX1_keepsHalfSum_43 f_X1_26 rfl rfl ?_
      refine j_iload dX1_keepsHalfSum_46 rfl ?_
      refine j_iconst dX1_keepsHalfSum_48 ?_
      refine j_idiv dX1_keepsHalfSum_49 (by unfold inR; omega) (by unfold inR; omega) (by omega) ?_
      refine j_iload dX1_keepsHalfSum_50 rfl ?_
      refine j_iconst dX1_keepsHalfSum_52 ?_
      refine j_idiv dX1_keepsHalfSum_53 (by unfold inR; omega) (by unfold inR; omega) (by omega) ?_
      refine j_V2z dX1_keepsHalfSum_54 ok_X3_hasTranslation v_X1_94 c_X3_hasTranslation rfl (e_X3_hasTranslation (by assumption) (by assumption) (by first | assumption | (unfold inR; omega)) (by first | assumption | (unfold inR; omega))) (fun z54 M54 q54 => ?_)
      obtain ⟨rfl, q54⟩ := q54
      refine j_if_eq 64 dX1_keepsHalfSum_57 rfl (by unfold inR; omega) (fun c57 => ?_) (fun c57 => ?_)
      · refine j_iconst dX1_keepsHalfSum_64 ?_
        refine j_zret dX1_keepsHalfSum_65 rfl (by first | exact Or.inl rfl | exact Or.inr rfl | omega) ?_
        first
        | exact bz_i (Or.inr ⟨rfl, fun h => c32 h.1⟩)
        | exact bz_i (Or.inr ⟨rfl, fun h => c39 h.2.1⟩)
        | (rcases q54 with q | q
           · first
             | exact bz_i (Or.inl ⟨rfl, c32, c39, q.2⟩)
             | (exfalso; omega)
           · first
             | exact bz_i (Or.inr ⟨rfl, fun h => q.2 h.2.2⟩)
             | (exfalso; omega))
      · refine j_iconst dX1_keepsHalfSum_60 ?_
        refine j_goto 65 dX1_keepsHalfSum_61 rfl ?_
        refine j_zret dX1_keepsHalfSum_65 rfl (by first | exact Or.inl rfl | exact Or.inr rfl | omega) ?_
        first
        | exact bz_i (Or.inr ⟨rfl, fun h => c32 h.1⟩)
        | exact bz_i (Or.inr ⟨rfl, fun h => c39 h.2.1⟩)
        | (rcases q54 with q | q
           · first
             | exact bz_i (Or.inl ⟨rfl, c32, c39, q.2⟩)
             | (exfalso; omega)
           · first
             | exact bz_i (Or.inr ⟨rfl, fun h => q.2 h.2.2⟩)
             | (exfalso; omega))
