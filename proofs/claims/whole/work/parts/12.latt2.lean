/-! class Lattice: entries, images, products -/
def en (k p q : Int) : Int := if k = 1 then tHX.getD (4 * p + q).toNat 0 else tSQ.getD (4 * p + q).toNat 0
def imx (k p x y : Int) : Int := en k p 0 * x + en k p 1 * y
def imy (k p x y : Int) : Int := en k p 2 * x + en k p 3 * y
def cP (n c : Int) : Int := c / (n * n)
def cX (n c : Int) : Int := c % (n * n) / n
def cY (n c : Int) : Int := c % n
def tp (k p q : Int) : Int := if (tu k ≤ p) = (tu k ≤ q) then (if tu k ≤ p then p - q else p + q) % tu k else tu k + (if tu k ≤ p then p - q else p + q) % tu k
def ip (k p : Int) : Int := if p < tu k then (-p) % tu k else p
def mkc (n p x y : Int) : Int := p * (n * n) + (n * (x % n) + y % n)
def tm (k n g h : Int) : Int := mkc n (tp k (cP n g) (cP n h)) (imx k (cP n g) (cX n h) (cY n h) + cX n g) (imy k (cP n g) (cX n h) (cY n h) + cY n g)
def iv (k n g : Int) : Int := mkc n (ip k (cP n g)) (-imx k (ip k (cP n g)) (cX n g) (cY n g)) (-imy k (ip k (cP n g)) (cX n g) (cY n g))
def sc (k n c q : Int) : Int := n * ((imx k (cP n c) (q / n) (q % n) + cX n c) % n) + (imy k (cP n c) (q / n) (q % n) + cY n c) % n
def vc (k n c : Int) : Prop := 0 ≤ c ∧ c < 2 * tu k * (n * n)
theorem tHX_b : ∀ z ∈ tHX, -1 ≤ z ∧ z ≤ 1 := by decide
theorem tSQ_b : ∀ z ∈ tSQ, -1 ≤ z ∧ z ≤ 1 := by decide
theorem getD_b {l : List Int} (h : ∀ z ∈ l, -1 ≤ z ∧ z ≤ 1) (i : Nat) : -1 ≤ l.getD i 0 ∧ l.getD i 0 ≤ 1 := by
  rw [List.getD_eq_getElem?_getD]
  cases hi : l[i]? with
  | none => simp
  | some z => exact h z (List.mem_of_getElem? hi)
theorem en_b (k p q : Int) : -1 ≤ en k p q ∧ en k p q ≤ 1 := by
  unfold en
  split
  · exact getD_b tHX_b _
  · exact getD_b tSQ_b _
theorem mul_b {a x b : Int} (h : -1 ≤ a ∧ a ≤ 1) (h0 : 0 ≤ x) (h1 : x ≤ b) : -b ≤ a * x ∧ a * x ≤ b := by
  rcases (show a = -1 ∨ a = 0 ∨ a = 1 by omega) with rfl | rfl | rfl <;> omega
theorem im_b (k p : Int) {x y b : Int} (hx : 0 ≤ x ∧ x ≤ b) (hy : 0 ≤ y ∧ y ≤ b) : (-(2 * b) ≤ imx k p x y ∧ imx k p x y ≤ 2 * b) ∧ -(2 * b) ≤ imy k p x y ∧ imy k p x y ≤ 2 * b := by
  have h1 := mul_b (en_b k p 0) hx.1 hx.2
  have h2 := mul_b (en_b k p 1) hy.1 hy.2
  have h3 := mul_b (en_b k p 2) hx.1 hx.2
  have h4 := mul_b (en_b k p 3) hy.1 hy.2
  unfold imx imy
  omega
theorem vc_b {k n c : Int} (hk : k = 0 ∨ k = 1) (hc1 : 1 ≤ n * n) (hc2 : n * n ≤ 25) (h : vc k n c) : 0 ≤ c ∧ c < 300 ∧ 0 ≤ cP n c ∧ cP n c < 2 * tu k := by
  have ht := tu_c hk
  unfold vc at h
  have h3 : c < 300 := by
    rcases ht with ⟨_, q⟩ | ⟨_, q⟩ <;> rw [q] at h <;> omega
  exact ⟨h.1, h3, Int.ediv_nonneg h.1 (by omega), Int.ediv_lt_of_lt_mul (by omega) h.2⟩
theorem cXY_b {n : Int} (hn1 : 1 ≤ n) (c : Int) : 0 ≤ cX n c ∧ cX n c < n ∧ 0 ≤ cY n c ∧ cY n c < n := by
  have hnn : 0 < n * n := Int.mul_pos (by omega) (by omega)
  have h1 := Int.emod_nonneg c (show n * n ≠ 0 by omega)
  have h2 := Int.emod_lt_of_pos c hnn
  exact ⟨Int.ediv_nonneg h1 (by omega), Int.ediv_lt_of_lt_mul (by omega) h2, Int.emod_nonneg c (by omega), Int.emod_lt_of_pos c (by omega)⟩
theorem tp_b {k p q : Int} (hk : k = 0 ∨ k = 1) : 0 ≤ tp k p q ∧ tp k p q < 2 * tu k := by
  have ht : 0 < tu k := by have := tu_c hk; omega
  have h1 := Int.emod_nonneg (if tu k ≤ p then p - q else p + q) (show tu k ≠ 0 by omega)
  have h2 := Int.emod_lt_of_pos (if tu k ≤ p then p - q else p + q) ht
  unfold tp
  split <;> omega
theorem ip_b {k p : Int} (hk : k = 0 ∨ k = 1) (h : 0 ≤ p) (h2 : p < 2 * tu k) : 0 ≤ ip k p ∧ ip k p < 2 * tu k := by
  have ht : 0 < tu k := by have := tu_c hk; omega
  have h1 := Int.emod_nonneg (-p) (show tu k ≠ 0 by omega)
  have h2 := Int.emod_lt_of_pos (-p) ht
  unfold ip
  split <;> omega

theorem e_X5_entry {M : Mem} (hL : Lat M) {p q : Int} (hp : 0 ≤ p ∧ p < 2 * tu (M 1 0)) (hq : 0 ≤ q ∧ q ≤ 3) : J SHC mi_X5_entry 0 (ent [vR 1, vI p, vI q] 5) [] M (pu (vI (en (M 1 0) p q)) M) := by
  obtain ⟨hk, hn1, hn5, hc1, hc2⟩ := id hL
  have ht := tu_c hk
  show J SHC mi_X5_entry 0 [some (vR 1), some (vI p), some (vI q), none, none] [] M _
  refine j_aload_n dX5_entry_0 rfl ?_
  refine j_getI (kz := 0) rfl dX5_entry_1 f_X5_9 rfl rfl ?_
  refine j_iconst dX5_entry_4 ?_
  refine j_icmp_ne 14 dX5_entry_5 rfl (by unfold inR; omega) (by unfold inR; omega) (fun c5 => ?_) (fun c5 => ?_)
  · refine j_getSQ dX5_entry_14 st_SQ ?_
    refine j_astore_n dX5_entry_17 (by decide) (nol rfl) (by show List.set _ 3 _ = _; simp only [List.set_cons_zero, List.set_cons_succ]; rfl) ?_
    refine j_iconst dX5_entry_18 ?_
    refine j_iload_n dX5_entry_19 rfl ?_
    refine j_imul dX5_entry_20 ?_
    refine j_iload_n dX5_entry_21 rfl ?_
    refine j_iadd dX5_entry_22 ?_
    refine j_istore dX5_entry_23 (by decide) (nol rfl) (by show List.set _ 4 _ = _; simp only [List.set_cons_zero, List.set_cons_succ]; rfl) ?_
    refine j_iload dX5_entry_25 rfl ?_
    refine j_aload_n dX5_entry_27 rfl ?_
    first | refine j_lenSQ dX5_entry_28 ?_ | refine j_lenHX dX5_entry_28 ?_
    refine j_N2z dX5_entry_29 ok_X6_isInside n_X5_28 (e_isInside (by first | assumption | (unfold inR; omega)) (by first | assumption | (unfold inR; omega))) (fun z29 M29 q29 => ?_)
    obtain ⟨rfl, q29⟩ := q29
    refine j_if_eq 42 dX5_entry_32 rfl (by unfold inR; omega) (fun c32 => ?_) (fun c32 => ?_)
    · refine j_iconst dX5_entry_42 ?_
      refine j_iret dX5_entry_43 rfl ?_
      first | (exfalso; omega) | exact pu_i (by simp [en, c5])
    · refine j_aload_n dX5_entry_35 rfl ?_
      refine j_iload dX5_entry_36 rfl ?_
      first | refine j_ldSQ dX5_entry_38 (by omega) (by omega) ?_ | refine j_ldHX dX5_entry_38 (by omega) (by omega) ?_
      refine j_goto 43 dX5_entry_39 rfl ?_
      refine j_iret dX5_entry_43 rfl ?_
      first | (exfalso; omega) | exact pu_i (by simp [en, c5])
  · refine j_getHX dX5_entry_8 st_HE ?_
    refine j_goto 17 dX5_entry_11 rfl ?_
    refine j_astore_n dX5_entry_17 (by decide) (nol rfl) (by show List.set _ 3 _ = _; simp only [List.set_cons_zero, List.set_cons_succ]; rfl) ?_
    refine j_iconst dX5_entry_18 ?_
    refine j_iload_n dX5_entry_19 rfl ?_
    refine j_imul dX5_entry_20 ?_
    refine j_iload_n dX5_entry_21 rfl ?_
    refine j_iadd dX5_entry_22 ?_
    refine j_istore dX5_entry_23 (by decide) (nol rfl) (by show List.set _ 4 _ = _; simp only [List.set_cons_zero, List.set_cons_succ]; rfl) ?_
    refine j_iload dX5_entry_25 rfl ?_
    refine j_aload_n dX5_entry_27 rfl ?_
    first | refine j_lenSQ dX5_entry_28 ?_ | refine j_lenHX dX5_entry_28 ?_
    refine j_N2z dX5_entry_29 ok_X6_isInside n_X5_28 (e_isInside (by first | assumption | (unfold inR; omega)) (by first | assumption | (unfold inR; omega))) (fun z29 M29 q29 => ?_)
    obtain ⟨rfl, q29⟩ := q29
    refine j_if_eq 42 dX5_entry_32 rfl (by unfold inR; omega) (fun c32 => ?_) (fun c32 => ?_)
    · refine j_iconst dX5_entry_42 ?_
      refine j_iret dX5_entry_43 rfl ?_
      first | (exfalso; omega) | exact pu_i (by simp [en, c5])
    · refine j_aload_n dX5_entry_35 rfl ?_
      refine j_iload dX5_entry_36 rfl ?_
      first | refine j_ldSQ dX5_entry_38 (by omega) (by omega) ?_ | refine j_ldHX dX5_entry_38 (by omega) (by omega) ?_
      refine j_goto 43 dX5_entry_39 rfl ?_
      refine j_iret dX5_entry_43 rfl ?_
      first | (exfalso; omega) | exact pu_i (by simp [en, c5])
theorem e_X5_imageX {M : Mem} (hL : Lat M) {p x y : Int} (hp : 0 ≤ p ∧ p < 2 * tu (M 1 0)) : J SHC mi_X5_imageX 0 (ent [vR 1, vI p, vI x, vI y] 4) [] M (pu (vI (imx (M 1 0) p x y)) M) := by
  obtain ⟨hk, hn1, hn5, hc1, hc2⟩ := id hL
  have ht := tu_c hk
  show J SHC mi_X5_imageX 0 [some (vR 1), some (vI p), some (vI x), some (vI y)] [] M _
  refine j_aload_n dX5_imageX_0 rfl ?_
  refine j_iload_n dX5_imageX_1 rfl ?_
  refine j_iconst dX5_imageX_2 ?_
  refine j_V2p dX5_imageX_3 ok_X5_entry v_X5_55 c_X5_entry rfl (e_X5_entry hL (by assumption) (by omega)) ?_
  refine j_iload_n dX5_imageX_6 rfl ?_
  refine j_imul dX5_imageX_7 ?_
  refine j_aload_n dX5_imageX_8 rfl ?_
  refine j_iload_n dX5_imageX_9 rfl ?_
  refine j_iconst dX5_imageX_10 ?_
  refine j_V2p dX5_imageX_11 ok_X5_entry v_X5_55 c_X5_entry rfl (e_X5_entry hL (by assumption) (by omega)) ?_
  refine j_iload_n dX5_imageX_14 rfl ?_
  refine j_imul dX5_imageX_15 ?_
  refine j_iadd dX5_imageX_16 ?_
  refine j_iret dX5_imageX_17 rfl ?_
  exact pu_i (by first | rfl | omega | (simp; done))
theorem e_X5_imageY {M : Mem} (hL : Lat M) {p x y : Int} (hp : 0 ≤ p ∧ p < 2 * tu (M 1 0)) : J SHC mi_X5_imageY 0 (ent [vR 1, vI p, vI x, vI y] 4) [] M (pu (vI (imy (M 1 0) p x y)) M) := by
  obtain ⟨hk, hn1, hn5, hc1, hc2⟩ := id hL
  have ht := tu_c hk
  show J SHC mi_X5_imageY 0 [some (vR 1), some (vI p), some (vI x), some (vI y)] [] M _
  refine j_aload_n dX5_imageY_0 rfl ?_
  refine j_iload_n dX5_imageY_1 rfl ?_
  refine j_iconst dX5_imageY_2 ?_
  refine j_V2p dX5_imageY_3 ok_X5_entry v_X5_55 c_X5_entry rfl (e_X5_entry hL (by assumption) (by omega)) ?_
  refine j_iload_n dX5_imageY_6 rfl ?_
  refine j_imul dX5_imageY_7 ?_
  refine j_aload_n dX5_imageY_8 rfl ?_
  refine j_iload_n dX5_imageY_9 rfl ?_
  refine j_iconst dX5_imageY_10 ?_
  refine j_V2p dX5_imageY_11 ok_X5_entry v_X5_55 c_X5_entry rfl (e_X5_entry hL (by assumption) (by omega)) ?_
  refine j_iload_n dX5_imageY_14 rfl ?_
  refine j_imul dX5_imageY_15 ?_
  refine j_iadd dX5_imageY_16 ?_
  refine j_iret dX5_imageY_17 rfl ?_
  exact pu_i (by first | rfl | omega | (simp; done))
theorem e_X5_timesPart {M : Mem} (hL : Lat M) {p q : Int} (hp : 0 ≤ p ∧ p < 2 * tu (M 1 0)) (hq : 0 ≤ q ∧ q < 2 * tu (M 1 0)) : J SHC mi_X5_timesPart 0 (ent [vR 1, vI p, vI q] 7) [] M (pu (vI (tp (M 1 0) p q)) M) := by
  obtain ⟨hk, hn1, hn5, hc1, hc2⟩ := id hL
  have ht := tu_c hk
  show J SHC mi_X5_timesPart 0 [some (vR 1), some (vI p), some (vI q), none, none, none, none] [] M _
  refine j_aload_n dX5_timesPart_0 rfl ?_
  refine j_V0p dX5_timesPart_1 ok_X5_turns v_X5_18 c_X5_turns rfl (e_X5_turns hL) ?_
  refine j_istore_n dX5_timesPart_4 (by decide) (nol rfl) (by show List.set _ 3 _ = _; simp only [List.set_cons_zero, List.set_cons_succ]; rfl) ?_
  refine j_iload_n dX5_timesPart_5 rfl ?_
  refine j_iload_n dX5_timesPart_6 rfl ?_
  refine j_icmp_lt 14 dX5_timesPart_7 rfl (by unfold inR; omega) (by unfold inR; omega) (fun c7 => ?_) (fun c7 => ?_)
  · refine j_iconst dX5_timesPart_14 ?_
    refine j_istore dX5_timesPart_15 (by decide) (nol rfl) (by show List.set _ 4 _ = _; simp only [List.set_cons_zero, List.set_cons_succ]; rfl) ?_
    refine j_iload_n dX5_timesPart_17 rfl ?_
    refine j_iload_n dX5_timesPart_18 rfl ?_
    refine j_icmp_lt 26 dX5_timesPart_19 rfl (by unfold inR; omega) (by unfold inR; omega) (fun c19 => ?_) (fun c19 => ?_)
    · refine j_iconst dX5_timesPart_26 ?_
      refine j_istore dX5_timesPart_27 (by decide) (nol rfl) (by show List.set _ 5 _ = _; simp only [List.set_cons_zero, List.set_cons_succ]; rfl) ?_
      refine j_iload dX5_timesPart_29 rfl ?_
      refine j_if_eq 40 dX5_timesPart_31 rfl (by unfold inR; omega) (fun c31 => ?_) (fun c31 => ?_)
      · refine j_iload_n dX5_timesPart_40 rfl ?_
        refine j_iload_n dX5_timesPart_41 rfl ?_
        refine j_iadd dX5_timesPart_42 ?_
        refine j_iload_n dX5_timesPart_43 rfl ?_
        refine j_N2p dX5_timesPart_44 ok_X6_remainder n_X5_45 (e_remainder (by first | assumption | (unfold inR; omega)) (by first | assumption | (unfold inR; omega)) (by omega)) ?_
        refine j_istore dX5_timesPart_47 (by decide) (nol rfl) (by show List.set _ 6 _ = _; simp only [List.set_cons_zero, List.set_cons_succ]; rfl) ?_
        refine j_iload dX5_timesPart_49 rfl ?_
        refine j_iload dX5_timesPart_51 rfl ?_
        refine j_icmp_ne 61 dX5_timesPart_53 rfl (by unfold inR; omega) (by unfold inR; omega) (fun c53 => ?_) (fun c53 => ?_)
        · refine j_iload_n dX5_timesPart_61 rfl ?_
          refine j_iload dX5_timesPart_62 rfl ?_
          refine j_iadd dX5_timesPart_64 ?_
          refine j_iret dX5_timesPart_65 rfl ?_
          first | (exfalso; omega) | exact pu_i (by
            have e1 : (tu (M 1 0) ≤ p) = (p ≥ tu (M 1 0)) := rfl
            unfold tp
            by_cases h1 : tu (M 1 0) ≤ p <;> by_cases h2 : tu (M 1 0) ≤ q <;> first | (exfalso; omega) | simp [h1, h2])
        · refine j_iload dX5_timesPart_56 rfl ?_
          refine j_goto 65 dX5_timesPart_58 rfl ?_
          refine j_iret dX5_timesPart_65 rfl ?_
          first | (exfalso; omega) | exact pu_i (by
            have e1 : (tu (M 1 0) ≤ p) = (p ≥ tu (M 1 0)) := rfl
            unfold tp
            by_cases h1 : tu (M 1 0) ≤ p <;> by_cases h2 : tu (M 1 0) ≤ q <;> first | (exfalso; omega) | simp [h1, h2])
      · refine j_iload_n dX5_timesPart_34 rfl ?_
        refine j_iload_n dX5_timesPart_35 rfl ?_
        refine j_isub dX5_timesPart_36 ?_
        refine j_goto 43 dX5_timesPart_37 rfl ?_
        refine j_iload_n dX5_timesPart_43 rfl ?_
        refine j_N2p dX5_timesPart_44 ok_X6_remainder n_X5_45 (e_remainder (by first | assumption | (unfold inR; omega)) (by first | assumption | (unfold inR; omega)) (by omega)) ?_
        refine j_istore dX5_timesPart_47 (by decide) (nol rfl) (by show List.set _ 6 _ = _; simp only [List.set_cons_zero, List.set_cons_succ]; rfl) ?_
        refine j_iload dX5_timesPart_49 rfl ?_
        refine j_iload dX5_timesPart_51 rfl ?_
        refine j_icmp_ne 61 dX5_timesPart_53 rfl (by unfold inR; omega) (by unfold inR; omega) (fun c53 => ?_) (fun c53 => ?_)
        · refine j_iload_n dX5_timesPart_61 rfl ?_
          refine j_iload dX5_timesPart_62 rfl ?_
          refine j_iadd dX5_timesPart_64 ?_
          refine j_iret dX5_timesPart_65 rfl ?_
          first | (exfalso; omega) | exact pu_i (by
            have e1 : (tu (M 1 0) ≤ p) = (p ≥ tu (M 1 0)) := rfl
            unfold tp
            by_cases h1 : tu (M 1 0) ≤ p <;> by_cases h2 : tu (M 1 0) ≤ q <;> first | (exfalso; omega) | simp [h1, h2])
        · refine j_iload dX5_timesPart_56 rfl ?_
          refine j_goto 65 dX5_timesPart_58 rfl ?_
          refine j_iret dX5_timesPart_65 rfl ?_
          first | (exfalso; omega) | exact pu_i (by
            have e1 : (tu (M 1 0) ≤ p) = (p ≥ tu (M 1 0)) := rfl
            unfold tp
            by_cases h1 : tu (M 1 0) ≤ p <;> by_cases h2 : tu (M 1 0) ≤ q <;> first | (exfalso; omega) | simp [h1, h2])
    · refine j_iconst dX5_timesPart_22 ?_
      refine j_goto 27 dX5_timesPart_23 rfl ?_
      refine j_istore dX5_timesPart_27 (by decide) (nol rfl) (by show List.set _ 5 _ = _; simp only [List.set_cons_zero, List.set_cons_succ]; rfl) ?_
      refine j_iload dX5_timesPart_29 rfl ?_
      refine j_if_eq 40 dX5_timesPart_31 rfl (by unfold inR; omega) (fun c31 => ?_) (fun c31 => ?_)
      · refine j_iload_n dX5_timesPart_40 rfl ?_
        refine j_iload_n dX5_timesPart_41 rfl ?_
        refine j_iadd dX5_timesPart_42 ?_
        refine j_iload_n dX5_timesPart_43 rfl ?_
        refine j_N2p dX5_timesPart_44 ok_X6_remainder n_X5_45 (e_remainder (by first | assumption | (unfold inR; omega)) (by first | assumption | (unfold inR; omega)) (by omega)) ?_
        refine j_istore dX5_timesPart_47 (by decide) (nol rfl) (by show List.set _ 6 _ = _; simp only [List.set_cons_zero, List.set_cons_succ]; rfl) ?_
        refine j_iload dX5_timesPart_49 rfl ?_
        refine j_iload dX5_timesPart_51 rfl ?_
        refine j_icmp_ne 61 dX5_timesPart_53 rfl (by unfold inR; omega) (by unfold inR; omega) (fun c53 => ?_) (fun c53 => ?_)
        · refine j_iload_n dX5_timesPart_61 rfl ?_
          refine j_iload dX5_timesPart_62 rfl ?_
          refine j_iadd dX5_timesPart_64 ?_
          refine j_iret dX5_timesPart_65 rfl ?_
          first | (exfalso; omega) | exact pu_i (by
            have e1 : (tu (M 1 0) ≤ p) = (p ≥ tu (M 1 0)) := rfl
            unfold tp
            by_cases h1 : tu (M 1 0) ≤ p <;> by_cases h2 : tu (M 1 0) ≤ q <;> first | (exfalso; omega) | simp [h1, h2])
        · refine j_iload dX5_timesPart_56 rfl ?_
          refine j_goto 65 dX5_timesPart_58 rfl ?_
          refine j_iret dX5_timesPart_65 rfl ?_
          first | (exfalso; omega) | exact pu_i (by
            have e1 : (tu (M 1 0) ≤ p) = (p ≥ tu (M 1 0)) := rfl
            unfold tp
            by_cases h1 : tu (M 1 0) ≤ p <;> by_cases h2 : tu (M 1 0) ≤ q <;> first | (exfalso; omega) | simp [h1, h2])
      · refine j_iload_n dX5_timesPart_34 rfl ?_
        refine j_iload_n dX5_timesPart_35 rfl ?_
        refine j_isub dX5_timesPart_36 ?_
        refine j_goto 43 dX5_timesPart_37 rfl ?_
        refine j_iload_n dX5_timesPart_43 rfl ?_
        refine j_N2p dX5_timesPart_44 ok_X6_remainder n_X5_45 (e_remainder (by first | assumption | (unfold inR; omega)) (by first | assumption | (unfold inR; omega)) (by omega)) ?_
        refine j_istore dX5_timesPart_47 (by decide) (nol rfl) (by show List.set _ 6 _ = _; simp only [List.set_cons_zero, List.set_cons_succ]; rfl) ?_
        refine j_iload dX5_timesPart_49 rfl ?_
        refine j_iload dX5_timesPart_51 rfl ?_
        refine j_icmp_ne 61 dX5_timesPart_53 rfl (by unfold inR; omega) (by unfold inR; omega) (fun c53 => ?_) (fun c53 => ?_)
        · refine j_iload_n dX5_timesPart_61 rfl ?_
          refine j_iload dX5_timesPart_62 rfl ?_
          refine j_iadd dX5_timesPart_64 ?_
          refine j_iret dX5_timesPart_65 rfl ?_
          first | (exfalso; omega) | exact pu_i (by
            have e1 : (tu (M 1 0) ≤ p) = (p ≥ tu (M 1 0)) := rfl
            unfold tp
            by_cases h1 : tu (M 1 0) ≤ p <;> by_cases h2 : tu (M 1 0) ≤ q <;> first | (exfalso; omega) | simp [h1, h2])
        · refine j_iload dX5_timesPart_56 rfl ?_
          refine j_goto 65 dX5_timesPart_58 rfl ?_
          refine j_iret dX5_timesPart_65 rfl ?_
          first | (exfalso; omega) | exact pu_i (by
            have e1 : (tu (M 1 0) ≤ p) = (p ≥ tu (M 1 0)) := rfl
            unfold tp
            by_cases h1 : tu (M 1 0) ≤ p <;> by_cases h2 : tu (M 1 0) ≤ q <;> first | (exfalso; omega) | simp [h1, h2])
  · refine j_iconst dX5_timesPart_10 ?_
    refine j_goto 15 dX5_timesPart_11 rfl ?_
    refine j_istore dX5_timesPart_15 (by decide) (nol rfl) (by show List.set _ 4 _ = _; simp only [List.set_cons_zero, List.set_cons_succ]; rfl) ?_
    refine j_iload_n dX5_timesPart_17 rfl ?_
    refine j_iload_n dX5_timesPart_18 rfl ?_
    refine j_icmp_lt 26 dX5_timesPart_19 rfl (by unfold inR; omega) (by unfold inR; omega) (fun c19 => ?_) (fun c19 => ?_)
    · refine j_iconst dX5_timesPart_26 ?_
      refine j_istore dX5_timesPart_27 (by decide) (nol rfl) (by show List.set _ 5 _ = _; simp only [List.set_cons_zero, List.set_cons_succ]; rfl) ?_
      refine j_iload dX5_timesPart_29 rfl ?_
      refine j_if_eq 40 dX5_timesPart_31 rfl (by unfold inR; omega) (fun c31 => ?_) (fun c31 => ?_)
      · refine j_iload_n dX5_timesPart_40 rfl ?_
        refine j_iload_n dX5_timesPart_41 rfl ?_
        refine j_iadd dX5_timesPart_42 ?_
        refine j_iload_n dX5_timesPart_43 rfl ?_
        refine j_N2p dX5_timesPart_44 ok_X6_remainder n_X5_45 (e_remainder (by first | assumption | (unfold inR; omega)) (by first | assumption | (unfold inR; omega)) (by omega)) ?_
        refine j_istore dX5_timesPart_47 (by decide) (nol rfl) (by show List.set _ 6 _ = _; simp only [List.set_cons_zero, List.set_cons_succ]; rfl) ?_
        refine j_iload dX5_timesPart_49 rfl ?_
        refine j_iload dX5_timesPart_51 rfl ?_
        refine j_icmp_ne 61 dX5_timesPart_53 rfl (by unfold inR; omega) (by unfold inR; omega) (fun c53 => ?_) (fun c53 => ?_)
        · refine j_iload_n dX5_timesPart_61 rfl ?_
          refine j_iload dX5_timesPart_62 rfl ?_
          refine j_iadd dX5_timesPart_64 ?_
          refine j_iret dX5_timesPart_65 rfl ?_
          first | (exfalso; omega) | exact pu_i (by
            have e1 : (tu (M 1 0) ≤ p) = (p ≥ tu (M 1 0)) := rfl
            unfold tp
            by_cases h1 : tu (M 1 0) ≤ p <;> by_cases h2 : tu (M 1 0) ≤ q <;> first | (exfalso; omega) | simp [h1, h2])
        · refine j_iload dX5_timesPart_56 rfl ?_
          refine j_goto 65 dX5_timesPart_58 rfl ?_
          refine j_iret dX5_timesPart_65 rfl ?_
          first | (exfalso; omega) | exact pu_i (by
            have e1 : (tu (M 1 0) ≤ p) = (p ≥ tu (M 1 0)) := rfl
            unfold tp
            by_cases h1 : tu (M 1 0) ≤ p <;> by_cases h2 : tu (M 1 0) ≤ q <;> first | (exfalso; omega) | simp [h1, h2])
      · refine j_iload_n dX5_timesPart_34 rfl ?_
        refine j_iload_n dX5_timesPart_35 rfl ?_
        refine j_isub dX5_timesPart_36 ?_
        refine j_goto 43 dX5_timesPart_37 rfl ?_
        refine j_iload_n dX5_timesPart_43 rfl ?_
        refine j_N2p dX5_timesPart_44 ok_X6_remainder n_X5_45 (e_remainder (by first | assumption | (unfold inR; omega)) (by first | assumption | (unfold inR; omega)) (by omega)) ?_
        refine j_istore dX5_timesPart_47 (by decide) (nol rfl) (by show List.set _ 6 _ = _; simp only [List.set_cons_zero, List.set_cons_succ]; rfl) ?_
        refine j_iload dX5_timesPart_49 rfl ?_
        refine j_iload dX5_timesPart_51 rfl ?_
        refine j_icmp_ne 61 dX5_timesPart_53 rfl (by unfold inR; omega) (by unfold inR; omega) (fun c53 => ?_) (fun c53 => ?_)
        · refine j_iload_n dX5_timesPart_61 rfl ?_
          refine j_iload dX5_timesPart_62 rfl ?_
          refine j_iadd dX5_timesPart_64 ?_
          refine j_iret dX5_timesPart_65 rfl ?_
          first | (exfalso; omega) | exact pu_i (by
            have e1 : (tu (M 1 0) ≤ p) = (p ≥ tu (M 1 0)) := rfl
            unfold tp
            by_cases h1 : tu (M 1 0) ≤ p <;> by_cases h2 : tu (M 1 0) ≤ q <;> first | (exfalso; omega) | simp [h1, h2])
        · refine j_iload dX5_timesPart_56 rfl ?_
          refine j_goto 65 dX5_timesPart_58 rfl ?_
          refine j_iret dX5_timesPart_65 rfl ?_
          first | (exfalso; omega) | exact pu_i (by
            have e1 : (tu (M 1 0) ≤ p) = (p ≥ tu (M 1 0)) := rfl
            unfold tp
            by_cases h1 : tu (M 1 0) ≤ p <;> by_cases h2 : tu (M 1 0) ≤ q <;> first | (exfalso; omega) | simp [h1, h2])
    · refine j_iconst dX5_timesPart_22 ?_
      refine j_goto 27 dX5_timesPart_23 rfl ?_
      refine j_istore dX5_timesPart_27 (by decide) (nol rfl) (by show List.set _ 5 _ = _; simp only [List.set_cons_zero, List.set_cons_succ]; rfl) ?_
      refine j_iload dX5_timesPart_29 rfl ?_
      refine j_if_eq 40 dX5_timesPart_31 rfl (by unfold inR; omega) (fun c31 => ?_) (fun c31 => ?_)
      · refine j_iload_n dX5_timesPart_40 rfl ?_
        refine j_iload_n dX5_timesPart_41 rfl ?_
        refine j_iadd dX5_timesPart_42 ?_
        refine j_iload_n dX5_timesPart_43 rfl ?_
        refine j_N2p dX5_timesPart_44 ok_X6_remainder n_X5_45 (e_remainder (by first | assumption | (unfold inR; omega)) (by first | assumption | (unfold inR; omega)) (by omega)) ?_
        refine j_istore dX5_timesPart_47 (by decide) (nol rfl) (by show List.set _ 6 _ = _; simp only [List.set_cons_zero, List.set_cons_succ]; rfl) ?_
        refine j_iload dX5_timesPart_49 rfl ?_
        refine j_iload dX5_timesPart_51 rfl ?_
        refine j_icmp_ne 61 dX5_timesPart_53 rfl (by unfold inR; omega) (by unfold inR; omega) (fun c53 => ?_) (fun c53 => ?_)
        · refine j_iload_n dX5_timesPart_61 rfl ?_
          refine j_iload dX5_timesPart_62 rfl ?_
          refine j_iadd dX5_timesPart_64 ?_
          refine j_iret dX5_timesPart_65 rfl ?_
          first | (exfalso; omega) | exact pu_i (by
            have e1 : (tu (M 1 0) ≤ p) = (p ≥ tu (M 1 0)) := rfl
            unfold tp
            by_cases h1 : tu (M 1 0) ≤ p <;> by_cases h2 : tu (M 1 0) ≤ q <;> first | (exfalso; omega) | simp [h1, h2])
        · refine j_iload dX5_timesPart_56 rfl ?_
          refine j_goto 65 dX5_timesPart_58 rfl ?_
          refine j_iret dX5_timesPart_65 rfl ?_
          first | (exfalso; omega) | exact pu_i (by
            have e1 : (tu (M 1 0) ≤ p) = (p ≥ tu (M 1 0)) := rfl
            unfold tp
            by_cases h1 : tu (M 1 0) ≤ p <;> by_cases h2 : tu (M 1 0) ≤ q <;> first | (exfalso; omega) | simp [h1, h2])
      · refine j_iload_n dX5_timesPart_34 rfl ?_
        refine j_iload_n dX5_timesPart_35 rfl ?_
        refine j_isub dX5_timesPart_36 ?_
        refine j_goto 43 dX5_timesPart_37 rfl ?_
        refine j_iload_n dX5_timesPart_43 rfl ?_
        refine j_N2p dX5_timesPart_44 ok_X6_remainder n_X5_45 (e_remainder (by first | assumption | (unfold inR; omega)) (by first | assumption | (unfold inR; omega)) (by omega)) ?_
        refine j_istore dX5_timesPart_47 (by decide) (nol rfl) (by show List.set _ 6 _ = _; simp only [List.set_cons_zero, List.set_cons_succ]; rfl) ?_
        refine j_iload dX5_timesPart_49 rfl ?_
        refine j_iload dX5_timesPart_51 rfl ?_
        refine j_icmp_ne 61 dX5_timesPart_53 rfl (by unfold inR; omega) (by unfold inR; omega) (fun c53 => ?_) (fun c53 => ?_)
        · refine j_iload_n dX5_timesPart_61 rfl ?_
          refine j_iload dX5_timesPart_62 rfl ?_
          refine j_iadd dX5_timesPart_64 ?_
          refine j_iret dX5_timesPart_65 rfl ?_
          first | (exfalso; omega) | exact pu_i (by
            have e1 : (tu (M 1 0) ≤ p) = (p ≥ tu (M 1 0)) := rfl
            unfold tp
            by_cases h1 : tu (M 1 0) ≤ p <;> by_cases h2 : tu (M 1 0) ≤ q <;> first | (exfalso; omega) | simp [h1, h2])
        · refine j_iload dX5_timesPart_56 rfl ?_
          refine j_goto 65 dX5_timesPart_58 rfl ?_
          refine j_iret dX5_timesPart_65 rfl ?_
          first | (exfalso; omega) | exact pu_i (by
            have e1 : (tu (M 1 0) ≤ p) = (p ≥ tu (M 1 0)) := rfl
            unfold tp
            by_cases h1 : tu (M 1 0) ≤ p <;> by_cases h2 : tu (M 1 0) ≤ q <;> first | (exfalso; omega) | simp [h1, h2])
theorem e_X5_inversePart {M : Mem} (hL : Lat M) {p : Int} (hp : 0 ≤ p ∧ p < 2 * tu (M 1 0)) : J SHC mi_X5_inversePart 0 (ent [vR 1, vI p] 2) [] M (pu (vI (ip (M 1 0) p)) M) := by
  obtain ⟨hk, hn1, hn5, hc1, hc2⟩ := id hL
  have ht := tu_c hk
  show J SHC mi_X5_inversePart 0 [some (vR 1), some (vI p)] [] M _
  refine j_iload_n dX5_inversePart_0 rfl ?_
  refine j_aload_n dX5_inversePart_1 rfl ?_
  refine j_V0p dX5_inversePart_2 ok_X5_turns v_X5_18 c_X5_turns rfl (e_X5_turns hL) ?_
  refine j_icmp_ge 20 dX5_inversePart_5 rfl (by unfold inR; omega) (by unfold inR; omega) (fun c5 => ?_) (fun c5 => ?_)
  · refine j_iload_n dX5_inversePart_20 rfl ?_
    refine j_iret dX5_inversePart_21 rfl ?_
    exact pu_i (by unfold ip; first | rw [if_pos (by omega)] | rw [if_neg (by omega)])
  · refine j_iload_n dX5_inversePart_8 rfl ?_
    refine j_ineg dX5_inversePart_9 ?_
    refine j_aload_n dX5_inversePart_10 rfl ?_
    refine j_V0p dX5_inversePart_11 ok_X5_turns v_X5_18 c_X5_turns rfl (e_X5_turns hL) ?_
    refine j_N2p dX5_inversePart_14 ok_X6_remainder n_X5_45 (e_remainder (by first | assumption | (unfold inR; omega)) (by first | assumption | (unfold inR; omega)) (by omega)) ?_
    refine j_goto 21 dX5_inversePart_17 rfl ?_
    refine j_iret dX5_inversePart_21 rfl ?_
    exact pu_i (by unfold ip; first | rw [if_pos (by omega)] | rw [if_neg (by omega)])
theorem e_X5_times {M : Mem} (hL : Lat M) {g h : Int} (hg : vc (M 1 0) (M 1 1) g) (hh : vc (M 1 0) (M 1 1) h) : J SHC mi_X5_times 0 (ent [vR 1, vI g, vI h] 6) [] M (pu (vI (tm (M 1 0) (M 1 1) g h)) M) := by
  obtain ⟨hk, hn1, hn5, hc1, hc2⟩ := id hL
  have ht := tu_c hk
  obtain ⟨hg0, hg1, hgp0, hgp1⟩ := vc_b hk hc1 hc2 hg
  have hgxy := cXY_b hn1 g
  have hgp : 0 ≤ cP (M 1 1) g ∧ cP (M 1 1) g < 2 * tu (M 1 0) := ⟨hgp0, hgp1⟩
  obtain ⟨hh0, hh1, hhp0, hhp1⟩ := vc_b hk hc1 hc2 hh
  have hhxy := cXY_b hn1 h
  have hhp : 0 ≤ cP (M 1 1) h ∧ cP (M 1 1) h < 2 * tu (M 1 0) := ⟨hhp0, hhp1⟩
  have hib := im_b (M 1 0) (cP (M 1 1) g) (x := cX (M 1 1) h) (y := cY (M 1 1) h) (b := 5) ⟨by omega, by omega⟩ ⟨by omega, by omega⟩
  simp only [cP, cX, cY] at hib hgp hhp hgxy hhxy
  show J SHC mi_X5_times 0 [some (vR 1), some (vI g), some (vI h), none, none, none] [] M _
  refine j_aload_n dX5_times_0 rfl ?_
  refine j_iload_n dX5_times_1 rfl ?_
  refine j_V1p dX5_times_2 ok_X5_partOf v_X5_58 c_X5_partOf rfl (e_X5_partOf hL (by omega) (by omega)) ?_
  refine j_istore_n dX5_times_5 (by decide) (nol rfl) (by show List.set _ 3 _ = _; simp only [List.set_cons_zero, List.set_cons_succ]; rfl) ?_
  refine j_aload_n dX5_times_6 rfl ?_
  refine j_aload_n dX5_times_7 rfl ?_
  refine j_iload_n dX5_times_8 rfl ?_
  refine j_aload_n dX5_times_9 rfl ?_
  refine j_iload_n dX5_times_10 rfl ?_
  refine j_V1p dX5_times_11 ok_X5_shiftX v_X5_66 c_X5_shiftX rfl (e_X5_shiftX hL (by omega) (by omega)) ?_
  refine j_aload_n dX5_times_14 rfl ?_
  refine j_iload_n dX5_times_15 rfl ?_
  refine j_V1p dX5_times_16 ok_X5_shiftY v_X5_75 c_X5_shiftY rfl (e_X5_shiftY hL (by omega) (by omega)) ?_
  refine j_V3p dX5_times_19 ok_X5_imageX v_X5_62 c_X5_imageX rfl (e_X5_imageX hL (by assumption)) ?_
  refine j_aload_n dX5_times_22 rfl ?_
  refine j_iload_n dX5_times_23 rfl ?_
  refine j_V1p dX5_times_24 ok_X5_shiftX v_X5_66 c_X5_shiftX rfl (e_X5_shiftX hL (by omega) (by omega)) ?_
  refine j_iadd dX5_times_27 ?_
  refine j_V1p dX5_times_28 ok_X5_wrap v_X5_69 c_X5_wrap rfl (e_X5_wrap hL (by first | assumption | (unfold inR; omega))) ?_
  refine j_istore dX5_times_31 (by decide) (nol rfl) (by show List.set _ 4 _ = _; simp only [List.set_cons_zero, List.set_cons_succ]; rfl) ?_
  refine j_aload_n dX5_times_33 rfl ?_
  refine j_aload_n dX5_times_34 rfl ?_
  refine j_iload_n dX5_times_35 rfl ?_
  refine j_aload_n dX5_times_36 rfl ?_
  refine j_iload_n dX5_times_37 rfl ?_
  refine j_V1p dX5_times_38 ok_X5_shiftX v_X5_66 c_X5_shiftX rfl (e_X5_shiftX hL (by omega) (by omega)) ?_
  refine j_aload_n dX5_times_41 rfl ?_
  refine j_iload_n dX5_times_42 rfl ?_
  refine j_V1p dX5_times_43 ok_X5_shiftY v_X5_75 c_X5_shiftY rfl (e_X5_shiftY hL (by omega) (by omega)) ?_
  refine j_V3p dX5_times_46 ok_X5_imageY v_X5_72 c_X5_imageY rfl (e_X5_imageY hL (by assumption)) ?_
  refine j_aload_n dX5_times_49 rfl ?_
  refine j_iload_n dX5_times_50 rfl ?_
  refine j_V1p dX5_times_51 ok_X5_shiftY v_X5_75 c_X5_shiftY rfl (e_X5_shiftY hL (by omega) (by omega)) ?_
  refine j_iadd dX5_times_54 ?_
  refine j_V1p dX5_times_55 ok_X5_wrap v_X5_69 c_X5_wrap rfl (e_X5_wrap hL (by first | assumption | (unfold inR; omega))) ?_
  refine j_istore dX5_times_58 (by decide) (nol rfl) (by show List.set _ 5 _ = _; simp only [List.set_cons_zero, List.set_cons_succ]; rfl) ?_
  refine j_aload_n dX5_times_60 rfl ?_
  refine j_aload_n dX5_times_61 rfl ?_
  refine j_iload_n dX5_times_62 rfl ?_
  refine j_aload_n dX5_times_63 rfl ?_
  refine j_iload_n dX5_times_64 rfl ?_
  refine j_V1p dX5_times_65 ok_X5_partOf v_X5_58 c_X5_partOf rfl (e_X5_partOf hL (by omega) (by omega)) ?_
  refine j_V2p dX5_times_68 ok_X5_timesPart v_X5_78 c_X5_timesPart rfl (e_X5_timesPart hL (by assumption) (by assumption)) ?_
  refine j_iload dX5_times_71 rfl ?_
  refine j_iload dX5_times_73 rfl ?_
  refine j_V3p dX5_times_75 ok_X5_codeOf v_X5_81 c_X5_codeOf rfl (e_X5_codeOf hL) ?_
  refine j_iret dX5_times_78 rfl ?_
  exact pu_i rfl
theorem e_X5_inverseOf {M : Mem} (hL : Lat M) {c : Int} (hv : vc (M 1 0) (M 1 1) c) : J SHC mi_X5_inverseOf 0 (ent [vR 1, vI c] 5) [] M (pu (vI (iv (M 1 0) (M 1 1) c)) M) := by
  obtain ⟨hk, hn1, hn5, hc1, hc2⟩ := id hL
  have ht := tu_c hk
  obtain ⟨hc0, hc1, hcp0, hcp1⟩ := vc_b hk hc1 hc2 hv
  have hcxy := cXY_b hn1 c
  have hcp : 0 ≤ cP (M 1 1) c ∧ cP (M 1 1) c < 2 * tu (M 1 0) := ⟨hcp0, hcp1⟩
  have hip := ip_b hk hcp0 hcp1
  have hib := im_b (M 1 0) (ip (M 1 0) (cP (M 1 1) c)) (x := cX (M 1 1) c) (y := cY (M 1 1) c) (b := 5) ⟨by omega, by omega⟩ ⟨by omega, by omega⟩
  simp only [cP, cX, cY] at hib hcp hcxy hip
  show J SHC mi_X5_inverseOf 0 [some (vR 1), some (vI c), none, none, none] [] M _
  refine j_aload_n dX5_inverseOf_0 rfl ?_
  refine j_aload_n dX5_inverseOf_1 rfl ?_
  refine j_iload_n dX5_inverseOf_2 rfl ?_
  refine j_V1p dX5_inverseOf_3 ok_X5_partOf v_X5_58 c_X5_partOf rfl (e_X5_partOf hL (by omega) (by omega)) ?_
  refine j_V1p dX5_inverseOf_6 ok_X5_inversePart v_X5_84 c_X5_inversePart rfl (e_X5_inversePart hL (by assumption)) ?_
  refine j_istore_n dX5_inverseOf_9 (by decide) (nol rfl) (by show List.set _ 2 _ = _; simp only [List.set_cons_zero, List.set_cons_succ]; rfl) ?_
  refine j_aload_n dX5_inverseOf_10 rfl ?_
  refine j_aload_n dX5_inverseOf_11 rfl ?_
  refine j_iload_n dX5_inverseOf_12 rfl ?_
  refine j_aload_n dX5_inverseOf_13 rfl ?_
  refine j_iload_n dX5_inverseOf_14 rfl ?_
  refine j_V1p dX5_inverseOf_15 ok_X5_shiftX v_X5_66 c_X5_shiftX rfl (e_X5_shiftX hL (by omega) (by omega)) ?_
  refine j_aload_n dX5_inverseOf_18 rfl ?_
  refine j_iload_n dX5_inverseOf_19 rfl ?_
  refine j_V1p dX5_inverseOf_20 ok_X5_shiftY v_X5_75 c_X5_shiftY rfl (e_X5_shiftY hL (by omega) (by omega)) ?_
  refine j_V3p dX5_inverseOf_23 ok_X5_imageX v_X5_62 c_X5_imageX rfl (e_X5_imageX hL (by assumption)) ?_
  refine j_ineg dX5_inverseOf_26 ?_
  refine j_V1p dX5_inverseOf_27 ok_X5_wrap v_X5_69 c_X5_wrap rfl (e_X5_wrap hL (by first | assumption | (unfold inR; omega))) ?_
  refine j_istore_n dX5_inverseOf_30 (by decide) (nol rfl) (by show List.set _ 3 _ = _; simp only [List.set_cons_zero, List.set_cons_succ]; rfl) ?_
  refine j_aload_n dX5_inverseOf_31 rfl ?_
  refine j_aload_n dX5_inverseOf_32 rfl ?_
  refine j_iload_n dX5_inverseOf_33 rfl ?_
  refine j_aload_n dX5_inverseOf_34 rfl ?_
  refine j_iload_n dX5_inverseOf_35 rfl ?_
  refine j_V1p dX5_inverseOf_36 ok_X5_shiftX v_X5_66 c_X5_shiftX rfl (e_X5_shiftX hL (by omega) (by omega)) ?_
  refine j_aload_n dX5_inverseOf_39 rfl ?_
  refine j_iload_n dX5_inverseOf_40 rfl ?_
  refine j_V1p dX5_inverseOf_41 ok_X5_shiftY v_X5_75 c_X5_shiftY rfl (e_X5_shiftY hL (by omega) (by omega)) ?_
  refine j_V3p dX5_inverseOf_44 ok_X5_imageY v_X5_72 c_X5_imageY rfl (e_X5_imageY hL (by assumption)) ?_
  refine j_ineg dX5_inverseOf_47 ?_
  refine j_V1p dX5_inverseOf_48 ok_X5_wrap v_X5_69 c_X5_wrap rfl (e_X5_wrap hL (by first | assumption | (unfold inR; omega))) ?_
  refine j_istore dX5_inverseOf_51 (by decide) (nol rfl) (by show List.set _ 4 _ = _; simp only [List.set_cons_zero, List.set_cons_succ]; rfl) ?_
  refine j_aload_n dX5_inverseOf_53 rfl ?_
  refine j_iload_n dX5_inverseOf_54 rfl ?_
  refine j_iload_n dX5_inverseOf_55 rfl ?_
  refine j_iload dX5_inverseOf_56 rfl ?_
  refine j_V3p dX5_inverseOf_58 ok_X5_codeOf v_X5_81 c_X5_codeOf rfl (e_X5_codeOf hL) ?_
  refine j_iret dX5_inverseOf_61 rfl ?_
  exact pu_i rfl
theorem e_X5_imageOfCell {M : Mem} (hL : Lat M) {c q : Int} (hv : vc (M 1 0) (M 1 1) c) (hq : 0 ≤ q ∧ q < M 1 1 * M 1 1) : J SHC mi_X5_imageOfCell 0 (ent [vR 1, vI c, vI q] 6) [] M (pu (vI (sc (M 1 0) (M 1 1) c q)) M) := by
  obtain ⟨hk, hn1, hn5, hc1, hc2⟩ := id hL
  have ht := tu_c hk
  obtain ⟨hc0, hc1, hcp0, hcp1⟩ := vc_b hk hc1 hc2 hv
  have hcxy := cXY_b hn1 c
  have hcp : 0 ≤ cP (M 1 1) c ∧ cP (M 1 1) c < 2 * tu (M 1 0) := ⟨hcp0, hcp1⟩
  have hq1 : 0 ≤ q / M 1 1 ∧ q / M 1 1 ≤ 5 := ⟨Int.ediv_nonneg hq.1 (by omega), by have := Int.ediv_lt_of_lt_mul (show 0 < M 1 1 by omega) hq.2; omega⟩
  have hq2 : 0 ≤ q % M 1 1 ∧ q % M 1 1 ≤ 5 := ⟨Int.emod_nonneg q (by omega), by have := Int.emod_lt_of_pos q (show 0 < M 1 1 by omega); omega⟩
  have hib := im_b (M 1 0) (cP (M 1 1) c) hq1 hq2
  simp only [cP, cX, cY] at hib hcp hcxy
  show J SHC mi_X5_imageOfCell 0 [some (vR 1), some (vI c), some (vI q), none, none, none] [] M _
  refine j_aload_n dX5_imageOfCell_0 rfl ?_
  refine j_iload_n dX5_imageOfCell_1 rfl ?_
  refine j_V1p dX5_imageOfCell_2 ok_X5_partOf v_X5_58 c_X5_partOf rfl (e_X5_partOf hL (by omega) (by omega)) ?_
  refine j_istore_n dX5_imageOfCell_5 (by decide) (nol rfl) (by show List.set _ 3 _ = _; simp only [List.set_cons_zero, List.set_cons_succ]; rfl) ?_
  refine j_iload_n dX5_imageOfCell_6 rfl ?_
  refine j_aload_n dX5_imageOfCell_7 rfl ?_
  refine j_getI (kz := 1) rfl dX5_imageOfCell_8 f_X5_15 rfl rfl ?_
  refine j_N2p dX5_imageOfCell_11 ok_X6_quotient n_X5_42 (e_quotient (by first | assumption | (unfold inR; omega)) (by first | assumption | (unfold inR; omega)) (by omega) (by omega)) ?_
  refine j_istore dX5_imageOfCell_14 (by decide) (nol rfl) (by show List.set _ 4 _ = _; simp only [List.set_cons_zero, List.set_cons_succ]; rfl) ?_
  refine j_iload_n dX5_imageOfCell_16 rfl ?_
  refine j_aload_n dX5_imageOfCell_17 rfl ?_
  refine j_getI (kz := 1) rfl dX5_imageOfCell_18 f_X5_15 rfl rfl ?_
  refine j_N2p dX5_imageOfCell_21 ok_X6_remainder n_X5_45 (e_remainder (by first | assumption | (unfold inR; omega)) (by first | assumption | (unfold inR; omega)) (by omega)) ?_
  refine j_istore dX5_imageOfCell_24 (by decide) (nol rfl) (by show List.set _ 5 _ = _; simp only [List.set_cons_zero, List.set_cons_succ]; rfl) ?_
  refine j_aload_n dX5_imageOfCell_26 rfl ?_
  refine j_aload_n dX5_imageOfCell_27 rfl ?_
  refine j_aload_n dX5_imageOfCell_28 rfl ?_
  refine j_iload_n dX5_imageOfCell_29 rfl ?_
  refine j_iload dX5_imageOfCell_30 rfl ?_
  refine j_iload dX5_imageOfCell_32 rfl ?_
  refine j_V3p dX5_imageOfCell_34 ok_X5_imageX v_X5_62 c_X5_imageX rfl (e_X5_imageX hL (by assumption)) ?_
  refine j_aload_n dX5_imageOfCell_37 rfl ?_
  refine j_iload_n dX5_imageOfCell_38 rfl ?_
  refine j_V1p dX5_imageOfCell_39 ok_X5_shiftX v_X5_66 c_X5_shiftX rfl (e_X5_shiftX hL (by omega) (by omega)) ?_
  refine j_iadd dX5_imageOfCell_42 ?_
  refine j_V1p dX5_imageOfCell_43 ok_X5_wrap v_X5_69 c_X5_wrap rfl (e_X5_wrap hL (by first | assumption | (unfold inR; omega))) ?_
  refine j_aload_n dX5_imageOfCell_46 rfl ?_
  refine j_aload_n dX5_imageOfCell_47 rfl ?_
  refine j_iload_n dX5_imageOfCell_48 rfl ?_
  refine j_iload dX5_imageOfCell_49 rfl ?_
  refine j_iload dX5_imageOfCell_51 rfl ?_
  refine j_V3p dX5_imageOfCell_53 ok_X5_imageY v_X5_72 c_X5_imageY rfl (e_X5_imageY hL (by assumption)) ?_
  refine j_aload_n dX5_imageOfCell_56 rfl ?_
  refine j_iload_n dX5_imageOfCell_57 rfl ?_
  refine j_V1p dX5_imageOfCell_58 ok_X5_shiftY v_X5_75 c_X5_shiftY rfl (e_X5_shiftY hL (by omega) (by omega)) ?_
  refine j_iadd dX5_imageOfCell_61 ?_
  refine j_V1p dX5_imageOfCell_62 ok_X5_wrap v_X5_69 c_X5_wrap rfl (e_X5_wrap hL (by first | assumption | (unfold inR; omega))) ?_
  refine j_V2p dX5_imageOfCell_65 ok_X5_cellOf v_X5_38 c_X5_cellOf rfl (e_X5_cellOf hL) ?_
  refine j_iret dX5_imageOfCell_68 rfl ?_
  exact pu_i rfl
def hv2 (a b : Int) : Int × Int := if a.tmod 2 = 0 ∧ b.tmod 2 = 0 then (a.tdiv 2, b.tdiv 2) else (a, b)
def rfab (k p : Int) : Int × Int := if 1 + en k p 0 = 0 ∧ en k p 1 = 0 then hv2 (en k p 2) (1 + en k p 3) else hv2 (1 + en k p 0) (en k p 1)
def rf (k n c : Int) : Prop := ((rfab k (cP n c)).1 * cX n c + (rfab k (cP n c)).2 * cY n c) % n = 0
def kn (k n c : Int) : Int := if cP n c = 0 then 0 else if cP n c < tu k then 1 else if ((rfab k (cP n c)).1 * cX n c + (rfab k (cP n c)).2 * cY n c) % n = 0 then 2 else 3
theorem e_X5_isReflection72 {M : Mem} (hL : Lat M) {c p a b : Int} (hv : vc (M 1 0) (M 1 1) c) (ha : -4 ≤ a ∧ a ≤ 4) (hb : -4 ≤ b ∧ b ≤ 4) : J SHC mi_X5_isReflection 72 [some (vR 1), some (vI c), some (vI p), some (vI a), some (vI b)] [] M (bz ((a * cX (M 1 1) c + b * cY (M 1 1) c) % M 1 1 = 0) M) := by
  obtain ⟨hk, hn1, hn5, hc1, hc2⟩ := id hL
  have ht := tu_c hk
  obtain ⟨hc0, hc1, hcp0, hcp1⟩ := vc_b hk hc1 hc2 hv
  have hcxy := cXY_b hn1 c
  have hcp : 0 ≤ cP (M 1 1) c ∧ cP (M 1 1) c < 2 * tu (M 1 0) := ⟨hcp0, hcp1⟩
  have hma : -16 ≤ a * cX (M 1 1) c ∧ a * cX (M 1 1) c ≤ 16 := by
    rcases (show cX (M 1 1) c = 0 ∨ cX (M 1 1) c = 1 ∨ cX (M 1 1) c = 2 ∨ cX (M 1 1) c = 3 ∨ cX (M 1 1) c = 4 by omega) with h | h | h | h | h <;> rw [h] <;> omega
  have hmb : -16 ≤ b * cY (M 1 1) c ∧ b * cY (M 1 1) c ≤ 16 := by
    rcases (show cY (M 1 1) c = 0 ∨ cY (M 1 1) c = 1 ∨ cY (M 1 1) c = 2 ∨ cY (M 1 1) c = 3 ∨ cY (M 1 1) c = 4 by omega) with h | h | h | h | h <;> rw [h] <;> omega
  have hm0 := Int.emod_nonneg (a * cX (M 1 1) c + b * cY (M 1 1) c) (show M 1 1 ≠ 0 by omega)
  have hm1 := Int.emod_lt_of_pos (a * cX (M 1 1) c + b * cY (M 1 1) c) (show 0 < M 1 1 by omega)
  simp only [cX, cY] at hma hmb hm0 hm1
  refine j_aload_n dX5_isReflection_72 rfl ?_
  refine j_iload_n dX5_isReflection_73 rfl ?_
  refine j_aload_n dX5_isReflection_74 rfl ?_
  refine j_iload_n dX5_isReflection_75 rfl ?_
  refine j_V1p dX5_isReflection_76 ok_X5_shiftX v_X5_66 c_X5_shiftX rfl (e_X5_shiftX hL (by omega) (by omega)) ?_
  refine j_imul dX5_isReflection_79 ?_
  refine j_iload dX5_isReflection_80 rfl ?_
  refine j_aload_n dX5_isReflection_82 rfl ?_
  refine j_iload_n dX5_isReflection_83 rfl ?_
  refine j_V1p dX5_isReflection_84 ok_X5_shiftY v_X5_75 c_X5_shiftY rfl (e_X5_shiftY hL (by omega) (by omega)) ?_
  refine j_imul dX5_isReflection_87 ?_
  refine j_iadd dX5_isReflection_88 ?_
  refine j_V1p dX5_isReflection_89 ok_X5_wrap v_X5_69 c_X5_wrap rfl (e_X5_wrap hL (by first | assumption | (unfold inR; omega))) ?_
  refine j_if_ne 99 dX5_isReflection_92 rfl (by unfold inR; omega) (fun c92 => ?_) (fun c92 => ?_)
  · refine j_iconst dX5_isReflection_99 ?_
    refine j_zret dX5_isReflection_100 rfl (by first | exact Or.inl rfl | exact Or.inr rfl | omega) ?_
    first | exact bz_i (Or.inl ⟨rfl, c92⟩) | exact bz_i (Or.inr ⟨rfl, c92⟩)
  · refine j_iconst dX5_isReflection_95 ?_
    refine j_goto 100 dX5_isReflection_96 rfl ?_
    refine j_zret dX5_isReflection_100 rfl (by first | exact Or.inl rfl | exact Or.inr rfl | omega) ?_
    first | exact bz_i (Or.inl ⟨rfl, c92⟩) | exact bz_i (Or.inr ⟨rfl, c92⟩)
theorem e_X5_isReflection49 {M : Mem} (hL : Lat M) {c p a b : Int} (hv : vc (M 1 0) (M 1 1) c) (ha : -2 ≤ a ∧ a ≤ 2) (hb : -2 ≤ b ∧ b ≤ 2) : J SHC mi_X5_isReflection 49 [some (vR 1), some (vI c), some (vI p), some (vI a), some (vI b)] [] M (bz (((hv2 a b).1 * cX (M 1 1) c + (hv2 a b).2 * cY (M 1 1) c) % M 1 1 = 0) M) := by
  obtain ⟨hk, hn1, hn5, hc1, hc2⟩ := id hL
  have ht := tu_c hk
  have td : ∀ z : Int, -2 ≤ z ∧ z ≤ 2 → (-2 ≤ z.tdiv 2 ∧ z.tdiv 2 ≤ 2) ∧ -2 ≤ z.tmod 2 ∧ z.tmod 2 ≤ 2 := fun z hz => by
    rcases (show z = -2 ∨ z = -1 ∨ z = 0 ∨ z = 1 ∨ z = 2 by omega) with rfl | rfl | rfl | rfl | rfl <;> decide
  have ta := td a ha
  have tb := td b hb
  refine j_iload_n dX5_isReflection_49 rfl ?_
  refine j_iconst dX5_isReflection_50 ?_
  refine j_irem dX5_isReflection_51 (by unfold inR; omega) (by unfold inR; omega) (by omega) ?_
  refine j_if_ne 72 dX5_isReflection_52 rfl (by unfold inR; omega) (fun c52 => ?_) (fun c52 => ?_)
  · first
    | (have hh : hv2 a b = (a, b) := if_neg (fun h => c52 h.1)
       rw [hh]; exact e_X5_isReflection72 hL hv (by omega) (by omega))
    | (have hh : hv2 a b = (a, b) := if_neg (fun h => c59 h.2)
       rw [hh]; exact e_X5_isReflection72 hL hv (by omega) (by omega))
    | (have hh : hv2 a b = (a.tdiv 2, b.tdiv 2) := if_pos ⟨c52, c59⟩
       rw [hh]; exact e_X5_isReflection72 hL hv (by omega) (by omega))
  · refine j_iload dX5_isReflection_55 rfl ?_
    refine j_iconst dX5_isReflection_57 ?_
    refine j_irem dX5_isReflection_58 (by unfold inR; omega) (by unfold inR; omega) (by omega) ?_
    refine j_if_ne 72 dX5_isReflection_59 rfl (by unfold inR; omega) (fun c59 => ?_) (fun c59 => ?_)
    · first
      | (have hh : hv2 a b = (a, b) := if_neg (fun h => c52 h.1)
         rw [hh]; exact e_X5_isReflection72 hL hv (by omega) (by omega))
      | (have hh : hv2 a b = (a, b) := if_neg (fun h => c59 h.2)
         rw [hh]; exact e_X5_isReflection72 hL hv (by omega) (by omega))
      | (have hh : hv2 a b = (a.tdiv 2, b.tdiv 2) := if_pos ⟨c52, c59⟩
         rw [hh]; exact e_X5_isReflection72 hL hv (by omega) (by omega))
    · refine j_iload_n dX5_isReflection_62 rfl ?_
      refine j_iconst dX5_isReflection_63 ?_
      refine j_idiv dX5_isReflection_64 (by unfold inR; omega) (by unfold inR; omega) (by omega) ?_
      refine j_istore_n dX5_isReflection_65 (by decide) (nol rfl) (by show List.set _ 3 _ = _; simp only [List.set_cons_zero, List.set_cons_succ]; rfl) ?_
      refine j_iload dX5_isReflection_66 rfl ?_
      refine j_iconst dX5_isReflection_68 ?_
      refine j_idiv dX5_isReflection_69 (by unfold inR; omega) (by unfold inR; omega) (by omega) ?_
      refine j_istore dX5_isReflection_70 (by decide) (nol rfl) (by show List.set _ 4 _ = _; simp only [List.set_cons_zero, List.set_cons_succ]; rfl) ?_
      first
      | (have hh : hv2 a b = (a, b) := if_neg (fun h => c52 h.1)
         rw [hh]; exact e_X5_isReflection72 hL hv (by omega) (by omega))
      | (have hh : hv2 a b = (a, b) := if_neg (fun h => c59 h.2)
         rw [hh]; exact e_X5_isReflection72 hL hv (by omega) (by omega))
      | (have hh : hv2 a b = (a.tdiv 2, b.tdiv 2) := if_pos ⟨c52, c59⟩
         rw [hh]; exact e_X5_isReflection72 hL hv (by omega) (by omega))
theorem e_X5_isReflection {M : Mem} (hL : Lat M) {c : Int} (hv : vc (M 1 0) (M 1 1) c) : J SHC mi_X5_isReflection 0 (ent [vR 1, vI c] 5) [] M (bz (rf (M 1 0) (M 1 1) c) M) := by
  obtain ⟨hk, hn1, hn5, hc1, hc2⟩ := id hL
  have ht := tu_c hk
  obtain ⟨hc0, hc1, hcp0, hcp1⟩ := vc_b hk hc1 hc2 hv
  have hcxy := cXY_b hn1 c
  have hcp : 0 ≤ cP (M 1 1) c ∧ cP (M 1 1) c < 2 * tu (M 1 0) := ⟨hcp0, hcp1⟩
  have e0 := en_b (M 1 0) (cP (M 1 1) c) 0
  have e1 := en_b (M 1 0) (cP (M 1 1) c) 1
  have e2 := en_b (M 1 0) (cP (M 1 1) c) 2
  have e3 := en_b (M 1 0) (cP (M 1 1) c) 3
  simp only [cP] at e0 e1 e2 e3 hcp
  show J SHC mi_X5_isReflection 0 [some (vR 1), some (vI c), none, none, none] [] M _
  refine j_aload_n dX5_isReflection_0 rfl ?_
  refine j_iload_n dX5_isReflection_1 rfl ?_
  refine j_V1p dX5_isReflection_2 ok_X5_partOf v_X5_58 c_X5_partOf rfl (e_X5_partOf hL (by omega) (by omega)) ?_
  refine j_istore_n dX5_isReflection_5 (by decide) (nol rfl) (by show List.set _ 2 _ = _; simp only [List.set_cons_zero, List.set_cons_succ]; rfl) ?_
  refine j_iconst dX5_isReflection_6 ?_
  refine j_aload_n dX5_isReflection_7 rfl ?_
  refine j_iload_n dX5_isReflection_8 rfl ?_
  refine j_iconst dX5_isReflection_9 ?_
  refine j_V2p dX5_isReflection_10 ok_X5_entry v_X5_55 c_X5_entry rfl (e_X5_entry hL (by assumption) (by omega)) ?_
  refine j_iadd dX5_isReflection_13 ?_
  refine j_istore_n dX5_isReflection_14 (by decide) (nol rfl) (by show List.set _ 3 _ = _; simp only [List.set_cons_zero, List.set_cons_succ]; rfl) ?_
  refine j_aload_n dX5_isReflection_15 rfl ?_
  refine j_iload_n dX5_isReflection_16 rfl ?_
  refine j_iconst dX5_isReflection_17 ?_
  refine j_V2p dX5_isReflection_18 ok_X5_entry v_X5_55 c_X5_entry rfl (e_X5_entry hL (by assumption) (by omega)) ?_
  refine j_istore dX5_isReflection_21 (by decide) (nol rfl) (by show List.set _ 4 _ = _; simp only [List.set_cons_zero, List.set_cons_succ]; rfl) ?_
  refine j_iload_n dX5_isReflection_23 rfl ?_
  refine j_if_ne 49 dX5_isReflection_24 rfl (by unfold inR; omega) (fun c24 => ?_) (fun c24 => ?_)
  · first
    | (have hh : rfab (M 1 0) (cP (M 1 1) c) = hv2 _ _ := if_neg (fun h => c24 h.1)
       unfold rf; rw [hh]; exact e_X5_isReflection49 hL hv (by omega) (by omega))
    | (have hh : rfab (M 1 0) (cP (M 1 1) c) = hv2 _ _ := if_neg (fun h => c29 h.2)
       unfold rf; rw [hh]; exact e_X5_isReflection49 hL hv (by omega) (by omega))
    | (have hh : rfab (M 1 0) (cP (M 1 1) c) = hv2 _ _ := if_pos ⟨c24, c29⟩
       unfold rf; rw [hh]; exact e_X5_isReflection49 hL hv (by omega) (by omega))
  · refine j_iload dX5_isReflection_27 rfl ?_
    refine j_if_ne 49 dX5_isReflection_29 rfl (by unfold inR; omega) (fun c29 => ?_) (fun c29 => ?_)
    · first
      | (have hh : rfab (M 1 0) (cP (M 1 1) c) = hv2 _ _ := if_neg (fun h => c24 h.1)
         unfold rf; rw [hh]; exact e_X5_isReflection49 hL hv (by omega) (by omega))
      | (have hh : rfab (M 1 0) (cP (M 1 1) c) = hv2 _ _ := if_neg (fun h => c29 h.2)
         unfold rf; rw [hh]; exact e_X5_isReflection49 hL hv (by omega) (by omega))
      | (have hh : rfab (M 1 0) (cP (M 1 1) c) = hv2 _ _ := if_pos ⟨c24, c29⟩
         unfold rf; rw [hh]; exact e_X5_isReflection49 hL hv (by omega) (by omega))
    · refine j_aload_n dX5_isReflection_32 rfl ?_
      refine j_iload_n dX5_isReflection_33 rfl ?_
      refine j_iconst dX5_isReflection_34 ?_
      refine j_V2p dX5_isReflection_35 ok_X5_entry v_X5_55 c_X5_entry rfl (e_X5_entry hL (by assumption) (by omega)) ?_
      refine j_istore_n dX5_isReflection_38 (by decide) (nol rfl) (by show List.set _ 3 _ = _; simp only [List.set_cons_zero, List.set_cons_succ]; rfl) ?_
      refine j_iconst dX5_isReflection_39 ?_
      refine j_aload_n dX5_isReflection_40 rfl ?_
      refine j_iload_n dX5_isReflection_41 rfl ?_
      refine j_iconst dX5_isReflection_42 ?_
      refine j_V2p dX5_isReflection_43 ok_X5_entry v_X5_55 c_X5_entry rfl (e_X5_entry hL (by assumption) (by omega)) ?_
      refine j_iadd dX5_isReflection_46 ?_
      refine j_istore dX5_isReflection_47 (by decide) (nol rfl) (by show List.set _ 4 _ = _; simp only [List.set_cons_zero, List.set_cons_succ]; rfl) ?_
      first
      | (have hh : rfab (M 1 0) (cP (M 1 1) c) = hv2 _ _ := if_neg (fun h => c24 h.1)
         unfold rf; rw [hh]; exact e_X5_isReflection49 hL hv (by omega) (by omega))
      | (have hh : rfab (M 1 0) (cP (M 1 1) c) = hv2 _ _ := if_neg (fun h => c29 h.2)
         unfold rf; rw [hh]; exact e_X5_isReflection49 hL hv (by omega) (by omega))
      | (have hh : rfab (M 1 0) (cP (M 1 1) c) = hv2 _ _ := if_pos ⟨c24, c29⟩
         unfold rf; rw [hh]; exact e_X5_isReflection49 hL hv (by omega) (by omega))
theorem e_X5_kindNumber {M : Mem} (hL : Lat M) {c : Int} (hv : vc (M 1 0) (M 1 1) c) : J SHC mi_X5_kindNumber 0 (ent [vR 1, vI c] 3) [] M (pu (vI (kn (M 1 0) (M 1 1) c)) M) := by
  obtain ⟨hk, hn1, hn5, hc1, hc2⟩ := id hL
  have ht := tu_c hk
  obtain ⟨hc0, hc1, hcp0, hcp1⟩ := vc_b hk hc1 hc2 hv
  have hcxy := cXY_b hn1 c
  have hcp : 0 ≤ cP (M 1 1) c ∧ cP (M 1 1) c < 2 * tu (M 1 0) := ⟨hcp0, hcp1⟩
  simp only [cP] at hcp0 hcp1 hcp
  show J SHC mi_X5_kindNumber 0 [some (vR 1), some (vI c), none] [] M _
  refine j_aload_n dX5_kindNumber_0 rfl ?_
  refine j_iload_n dX5_kindNumber_1 rfl ?_
  refine j_V1p dX5_kindNumber_2 ok_X5_partOf v_X5_58 c_X5_partOf rfl (e_X5_partOf hL (by omega) (by omega)) ?_
  refine j_istore_n dX5_kindNumber_5 (by decide) (nol rfl) (by show List.set _ 2 _ = _; simp only [List.set_cons_zero, List.set_cons_succ]; rfl) ?_
  refine j_iload_n dX5_kindNumber_6 rfl ?_
  refine j_if_ne 12 dX5_kindNumber_7 rfl (by unfold inR; omega) (fun c7 => ?_) (fun c7 => ?_)
  · refine j_iload_n dX5_kindNumber_12 rfl ?_
    refine j_aload_n dX5_kindNumber_13 rfl ?_
    refine j_V0p dX5_kindNumber_14 ok_X5_turns v_X5_18 c_X5_turns rfl (e_X5_turns hL) ?_
    refine j_icmp_ge 22 dX5_kindNumber_17 rfl (by unfold inR; omega) (by unfold inR; omega) (fun c17 => ?_) (fun c17 => ?_)
    · refine j_aload_n dX5_kindNumber_22 rfl ?_
      refine j_iload_n dX5_kindNumber_23 rfl ?_
      refine j_V1z dX5_kindNumber_24 ok_X5_isReflection v_X5_90 c_X5_isReflection rfl (e_X5_isReflection hL (by assumption)) (fun z24 M24 q24 => ?_)
      obtain ⟨rfl, q24⟩ := q24
      refine j_if_eq 34 dX5_kindNumber_27 rfl (by unfold inR; omega) (fun c27 => ?_) (fun c27 => ?_)
      · refine j_iconst dX5_kindNumber_34 ?_
        refine j_iret dX5_kindNumber_35 rfl ?_
        exact pu_i (by
          unfold kn
          first
          | rw [if_pos (by assumption)]
          | rw [if_neg (by assumption), if_pos (by assumption)]
          | (rw [if_neg (by assumption), if_neg (by unfold cP; omega), if_pos (by rcases q24 with q | q; exact q.2; omega)])
          | (rw [if_neg (by assumption), if_neg (by unfold cP; omega), if_neg (by rcases q24 with q | q; omega; exact q.2)]))
      · refine j_iconst dX5_kindNumber_30 ?_
        refine j_goto 35 dX5_kindNumber_31 rfl ?_
        refine j_iret dX5_kindNumber_35 rfl ?_
        exact pu_i (by
          unfold kn
          first
          | rw [if_pos (by assumption)]
          | rw [if_neg (by assumption), if_pos (by assumption)]
          | (rw [if_neg (by assumption), if_neg (by unfold cP; omega), if_pos (by rcases q24 with q | q; exact q.2; omega)])
          | (rw [if_neg (by assumption), if_neg (by unfold cP; omega), if_neg (by rcases q24 with q | q; omega; exact q.2)]))
    · refine j_iconst dX5_kindNumber_20 ?_
      refine j_iret dX5_kindNumber_21 rfl ?_
      exact pu_i (by
        unfold kn
        first
        | rw [if_pos (by assumption)]
        | rw [if_neg (by assumption), if_pos (by assumption)]
        | (rw [if_neg (by assumption), if_neg (by unfold cP; omega), if_pos (by rcases q24 with q | q; exact q.2; omega)])
        | (rw [if_neg (by assumption), if_neg (by unfold cP; omega), if_neg (by rcases q24 with q | q; omega; exact q.2)]))
  · refine j_iconst dX5_kindNumber_10 ?_
    refine j_iret dX5_kindNumber_11 rfl ?_
    exact pu_i (by
      unfold kn
      first
      | rw [if_pos (by assumption)]
      | rw [if_neg (by assumption), if_pos (by assumption)]
      | (rw [if_neg (by assumption), if_neg (by unfold cP; omega), if_pos (by rcases q24 with q | q; exact q.2; omega)])
      | (rw [if_neg (by assumption), if_neg (by unfold cP; omega), if_neg (by rcases q24 with q | q; omega; exact q.2)]))
