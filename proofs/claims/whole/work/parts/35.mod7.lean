/-! THE MODEL: undo; the kind of a movement -/
theorem l_und {Q : Option PV → Mem → Prop} {d : Int} (hd : 0 ≤ d ∧ d ≤ 3) (m : Nat) : ∀ (i : Int) (M : Mem), M 0 2 = d → 0 ≤ i → i ≤ 7 → 7 - i < m → (∀ M1, fr [1] M M1 → (∀ j : Int, M1 1 j = if i ≤ j ∧ j < 7 then M 2 (7 * d + j) else M 1 j) → J SHM mi_X7_undo 54 [some (vR 0), some (vI 7)] [] M1 Q) → J SHM mi_X7_undo 22 [some (vR 0), some (vI i)] [] M Q := by
  induction m with
  | zero => intro i M hd0 h0 h1 h2; omega
  | succ m ih =>
  intro i M hd0 h0 h1 h2 K
  refine j_iload_n dX7_undo_22 rfl ?_
  refine j_bipush dX7_undo_23 (by decide +kernel) ?_
  refine j_icmp_ge 54 dX7_undo_25 rfl (by unfold inR; omega) (by unfold inR; omega) (fun c25 => ?_) (fun c25 => ?_)
  · have hi : i = 7 := by omega
    subst hi
    exact K M fr.rf (fun j => by rw [if_neg (by omega)])
  · refine j_aload_n dX7_undo_28 rfl ?_
    refine j_getR dX7_undo_29 f_X7_7 rfl rfl ?_
    refine j_iload_n dX7_undo_32 rfl ?_
    refine j_aload_n dX7_undo_33 rfl ?_
    refine j_getR dX7_undo_34 f_X7_13 rfl rfl ?_
    refine j_bipush dX7_undo_37 (by decide +kernel) ?_
    refine j_aload_n dX7_undo_39 rfl ?_
    refine j_getI (kz := 2) rfl dX7_undo_40 f_X7_105 rfl rfl ?_
    refine j_imul dX7_undo_43 ?_
    refine j_iload_n dX7_undo_44 rfl ?_
    refine j_iadd dX7_undo_45 ?_
    refine j_iald dX7_undo_46 (by first | rfl | assumption) (by decide) (by omega) (by omega) ?_
    refine j_iast dX7_undo_47 (by first | rfl | assumption) (by decide) (by omega) (by omega) ?_
    refine j_iinc dX7_undo_48 rfl (by decide) (nol rfl) (by simp only [List.set_cons_zero, List.set_cons_succ]; rfl) ?_
    refine j_goto 22 dX7_undo_51 rfl ?_
    rw [hd0]
    have f : fr [1] M (wr M 1 i (M 2 (7 * d + i))) := fr.rf.w1 (by decide)
    refine ih (i + 1) _ (by rw [f 0 (by decide)]; exact hd0) (by omega) (by omega) (by omega) (fun M1 f1 g1 => K M1 (f.tr f1) (fun j => ?_))
    rw [g1 j, f 2 (by decide)]
    by_cases e : j = i
    · rw [e, if_neg (by omega), if_pos (by omega), wr_self]
    · by_cases e2 : i ≤ j ∧ j < 7
      · rw [if_pos (by omega), if_pos e2]
      · rw [if_neg (by omega), if_neg e2, wr_ne _ _ (by omega)]
theorem e_X7_undo {M : Mem} {r : Row} {hs : List Row} (hI : MS M r hs)  : J SHM mi_X7_undo 0 (ent [vR 0] 2) [] M (pz (fun z M1 => (hs = [] ∧ z = -3 ∧ M1 = M) ∨ ∃ hs' q, hs = hs' ++ [q] ∧ z = hs'.length ∧ MS M1 q hs')) := by
  obtain ⟨hc, ho, hh, hq, hl, hd⟩ := id hI
  have hL := LaM_of hc ho
  have hg := GM_of hc ho
  obtain ⟨hP, es, hB, hnd, hes⟩ := id hd
  obtain ⟨hc1, hc2, hc3, hc4⟩ := id hc
  have ho4 := ho.2.2.2.1
  obtain ⟨hh1, hh2⟩ := id hh
  show J SHM mi_X7_undo 0 [some (vR 0), none] [] M _
  refine j_aload_n dX7_undo_0 rfl ?_
  refine j_getI (kz := 2) rfl dX7_undo_1 f_X7_105 rfl rfl ?_
  refine j_if_ne 10 dX7_undo_4 rfl (by unfold inR; omega) (fun c4 => ?_) (fun c4 => ?_)
  · refine j_aload_n dX7_undo_10 rfl ?_
    refine j_dup dX7_undo_11 (fun _ h => by cases h) ?_
    refine j_getI (kz := 2) rfl dX7_undo_12 f_X7_105 rfl rfl ?_
    refine j_iconst dX7_undo_15 ?_
    refine j_isub dX7_undo_16 ?_
    refine j_putI (kz := 2) rfl dX7_undo_17 g_X7_105 rfl rfl ?_
    refine j_iconst dX7_undo_20 ?_
    refine j_istore_n dX7_undo_21 (by decide) (nol rfl) (by show List.set _ 1 _ = _; simp only [List.set_cons_zero, List.set_cons_succ]; rfl) ?_
    have hne : hs ≠ [] := by
      intro h
      rw [h] at hh1
      exact c4 (by rw [hh1]; rfl)
    obtain ⟨hs', q, rfl⟩ : ∃ hs' q, hs = hs' ++ [q] := ⟨hs.dropLast, hs.getLast hne, (List.dropLast_concat_getLast hne).symm⟩
    have hlen : (hs' ++ [q]).length = hs'.length + 1 := by simp
    rw [hlen] at hl
    have hrow := hh2 hs'.length q (by simp)
    have hoq : okR q := hq q (by simp)
    obtain ⟨w1, w2, w3, w4⟩ := hrow
    refine l_und (d := (hs'.length : Int)) ⟨by omega, by omega⟩ 8 0 (wr M 0 2 (M 0 2 - 1)) (by rw [wr_self, hh1, hlen]; omega) (by omega) (by omega) (by omega) (fun A fA gA => ?_)
    have eB : ∀ j : Int, wr M 0 2 (M 0 2 - 1) 2 j = M 2 j := fun j => wr_ne _ _ (by omega)
    have c57 : CurM A q := by
      refine ⟨?_, ?_, ?_, fun j x hx => ?_⟩
      · rw [gA, if_pos (by omega), eB, Int.add_zero]; exact w1
      · rw [gA, if_pos (by omega), eB]; exact w2
      · rw [gA, if_pos (by omega), eB]; exact w3
      · have hl9 := (List.getElem?_eq_some_iff.mp hx).1
        have h4 := hoq.2.2.2.1
        rw [gA, if_pos (by omega), eB]
        exact w4 j x hx
    refine j_aload_n dX7_undo_54 rfl ?_
    refine j_V0v dX7_undo_55 ok_X7_derive v_X7_29 c_X7_derive rfl (e_X7_derive (LaM_of c57 hoq) (GM_of c57 hoq)) (fun M55 q55 => ?_)
    obtain ⟨f55, z55, P55, g55⟩ := q55
    refine j_aload_n dX7_undo_58 rfl ?_
    refine j_getI (kz := 2) rfl dX7_undo_59 f_X7_105 rfl rfl ?_
    refine j_iret dX7_undo_62 rfl ?_
    have e4 : M55 0 2 = hs'.length := by rw [z55 2 (by omega) (by omega), fA 0 (by decide), wr_self, hh1, hlen]; omega
    have e2 : M55 2 = M 2 := by rw [f55 2 (by decide), fA 2 (by decide)]; funext j; exact eB j
    have c3 := CurM_eq (f55 1 (by decide)) c57
    refine ⟨_, rfl, Or.inr ⟨hs', q, rfl, e4, c3, hoq, ⟨e4, fun i r' hi => ?_⟩, fun x hx => hq x (by simp [hx]), by omega, DerM_of c3 hoq P55 g55⟩⟩
    have hi4 := (List.getElem?_eq_some_iff.mp hi).1
    have h9 := hh2 i r' (by rw [List.getElem?_append_left hi4]; exact hi)
    unfold RowM at h9 ⊢
    rw [e2]
    exact h9
  · refine j_bipush dX7_undo_7 (by decide +kernel) ?_
    refine j_iret dX7_undo_9 rfl ?_
    refine ⟨_, rfl, Or.inl ⟨?_, rfl, rfl⟩⟩
    exact List.length_eq_zero_iff.mp (by omega)
def gdF : Nat → Int → Int → Int
  | 0, x, _ => x
  | m + 1, x, y => if 0 < y then gdF m y (x.tmod y) else x
def gdv (a b : Int) : Int := gdF 4 (if a < 0 then -a else a) (if b < 0 then -b else b)
theorem gdv_b {a b : Int} (ha : -2 ≤ a ∧ a ≤ 2) (hb : -2 ≤ b ∧ b ≤ 2) (h : ¬ (a = 0 ∧ b = 0)) : 1 ≤ gdv a b ∧ gdv a b ≤ 2 := by
  rcases (show a = -2 ∨ a = -1 ∨ a = 0 ∨ a = 1 ∨ a = 2 by omega) with rfl | rfl | rfl | rfl | rfl <;> rcases (show b = -2 ∨ b = -1 ∨ b = 0 ∨ b = 1 ∨ b = 2 by omega) with rfl | rfl | rfl | rfl | rfl <;> first | decide | (exfalso; omega)
theorem l_div {a b : Int} {M : Mem} (m : Nat) : ∀ (x y : Int) (w : Option PV), 0 ≤ x → x ≤ 2 → 0 ≤ y → y ≤ 2 → y < m → J SHM mi_X7_divisor 22 [some (vI a), some (vI b), some (vI x), some (vI y), w] [] M (pu (vI (gdF m x y)) M) := by
  induction m with
  | zero => intro x y w h0 h1 h2 h3 h4; omega
  | succ m ih =>
  intro x y w h0 h1 h2 h3 h4
  have ht : 0 < y → 0 ≤ x.tmod y ∧ x.tmod y < y := fun h => ⟨Int.tmod_nonneg _ h0, Int.tmod_lt_of_pos _ h⟩
  refine j_iload_n dX7_divisor_22 rfl ?_
  refine j_if_le 39 dX7_divisor_23 rfl (by unfold inR; omega) (fun c23 => ?_) (fun c23 => ?_)
  · refine j_iload_n dX7_divisor_39 rfl ?_
    refine j_iret dX7_divisor_40 rfl ?_
    exact pu_i (by rw [show gdF (m + 1) x y = x from if_neg (by omega)])
  · refine j_iload_n dX7_divisor_26 rfl ?_
    refine j_iload_n dX7_divisor_27 rfl ?_
    refine j_irem dX7_divisor_28 (by unfold inR; omega) (by unfold inR; omega) (by omega) ?_
    refine j_istore dX7_divisor_29 (by decide) (nol rfl) (by show List.set _ 4 _ = _; simp only [List.set_cons_zero, List.set_cons_succ]; rfl) ?_
    refine j_iload_n dX7_divisor_31 rfl ?_
    refine j_istore_n dX7_divisor_32 (by decide) (nol rfl) (by show List.set _ 2 _ = _; simp only [List.set_cons_zero, List.set_cons_succ]; rfl) ?_
    refine j_iload dX7_divisor_33 rfl ?_
    refine j_istore_n dX7_divisor_35 (by decide) (nol rfl) (by show List.set _ 3 _ = _; simp only [List.set_cons_zero, List.set_cons_succ]; rfl) ?_
    refine j_goto 22 dX7_divisor_36 rfl ?_
    have h9 := ht (by omega)
    rw [show gdF (m + 1) x y = gdF m y (x.tmod y) from if_pos (by omega)]
    exact ih y (x.tmod y) _ h2 h3 h9.1 (by omega) (by omega)
theorem e_X7_divisor {M : Mem} {a b : Int} (ha : -2 ≤ a ∧ a ≤ 2) (hb : -2 ≤ b ∧ b ≤ 2) : J SHM mi_X7_divisor 0 (ent [vI a, vI b] 5) [] M (pu (vI (gdv a b)) M) := by
  show J SHM mi_X7_divisor 0 [some (vI a), some (vI b), none, none, none] [] M _
  refine j_iload_n dX7_divisor_0 rfl ?_
  refine j_if_ge 9 dX7_divisor_1 rfl (by unfold inR; omega) (fun c1 => ?_) (fun c1 => ?_)
  · refine j_iload_n dX7_divisor_9 rfl ?_
    refine j_istore_n dX7_divisor_10 (by decide) (nol rfl) (by show List.set _ 2 _ = _; simp only [List.set_cons_zero, List.set_cons_succ]; rfl) ?_
    refine j_iload_n dX7_divisor_11 rfl ?_
    refine j_if_ge 20 dX7_divisor_12 rfl (by unfold inR; omega) (fun c12 => ?_) (fun c12 => ?_)
    · refine j_iload_n dX7_divisor_20 rfl ?_
      refine j_istore_n dX7_divisor_21 (by decide) (nol rfl) (by show List.set _ 3 _ = _; simp only [List.set_cons_zero, List.set_cons_succ]; rfl) ?_
      unfold gdv
      first
      | (rw [if_pos (by omega), if_pos (by omega)]; exact l_div 4 _ _ _ (by omega) (by omega) (by omega) (by omega) (by omega))
      | (rw [if_pos (by omega), if_neg (by omega)]; exact l_div 4 _ _ _ (by omega) (by omega) (by omega) (by omega) (by omega))
      | (rw [if_neg (by omega), if_pos (by omega)]; exact l_div 4 _ _ _ (by omega) (by omega) (by omega) (by omega) (by omega))
      | (rw [if_neg (by omega), if_neg (by omega)]; exact l_div 4 _ _ _ (by omega) (by omega) (by omega) (by omega) (by omega))
    · refine j_iload_n dX7_divisor_15 rfl ?_
      refine j_ineg dX7_divisor_16 ?_
      refine j_goto 21 dX7_divisor_17 rfl ?_
      refine j_istore_n dX7_divisor_21 (by decide) (nol rfl) (by show List.set _ 3 _ = _; simp only [List.set_cons_zero, List.set_cons_succ]; rfl) ?_
      unfold gdv
      first
      | (rw [if_pos (by omega), if_pos (by omega)]; exact l_div 4 _ _ _ (by omega) (by omega) (by omega) (by omega) (by omega))
      | (rw [if_pos (by omega), if_neg (by omega)]; exact l_div 4 _ _ _ (by omega) (by omega) (by omega) (by omega) (by omega))
      | (rw [if_neg (by omega), if_pos (by omega)]; exact l_div 4 _ _ _ (by omega) (by omega) (by omega) (by omega) (by omega))
      | (rw [if_neg (by omega), if_neg (by omega)]; exact l_div 4 _ _ _ (by omega) (by omega) (by omega) (by omega) (by omega))
  · refine j_iload_n dX7_divisor_4 rfl ?_
    refine j_ineg dX7_divisor_5 ?_
    refine j_goto 10 dX7_divisor_6 rfl ?_
    refine j_istore_n dX7_divisor_10 (by decide) (nol rfl) (by show List.set _ 2 _ = _; simp only [List.set_cons_zero, List.set_cons_succ]; rfl) ?_
    refine j_iload_n dX7_divisor_11 rfl ?_
    refine j_if_ge 20 dX7_divisor_12 rfl (by unfold inR; omega) (fun c12 => ?_) (fun c12 => ?_)
    · refine j_iload_n dX7_divisor_20 rfl ?_
      refine j_istore_n dX7_divisor_21 (by decide) (nol rfl) (by show List.set _ 3 _ = _; simp only [List.set_cons_zero, List.set_cons_succ]; rfl) ?_
      unfold gdv
      first
      | (rw [if_pos (by omega), if_pos (by omega)]; exact l_div 4 _ _ _ (by omega) (by omega) (by omega) (by omega) (by omega))
      | (rw [if_pos (by omega), if_neg (by omega)]; exact l_div 4 _ _ _ (by omega) (by omega) (by omega) (by omega) (by omega))
      | (rw [if_neg (by omega), if_pos (by omega)]; exact l_div 4 _ _ _ (by omega) (by omega) (by omega) (by omega) (by omega))
      | (rw [if_neg (by omega), if_neg (by omega)]; exact l_div 4 _ _ _ (by omega) (by omega) (by omega) (by omega) (by omega))
    · refine j_iload_n dX7_divisor_15 rfl ?_
      refine j_ineg dX7_divisor_16 ?_
      refine j_goto 21 dX7_divisor_17 rfl ?_
      refine j_istore_n dX7_divisor_21 (by decide) (nol rfl) (by show List.set _ 3 _ = _; simp only [List.set_cons_zero, List.set_cons_succ]; rfl) ?_
      unfold gdv
      first
      | (rw [if_pos (by omega), if_pos (by omega)]; exact l_div 4 _ _ _ (by omega) (by omega) (by omega) (by omega) (by omega))
      | (rw [if_pos (by omega), if_neg (by omega)]; exact l_div 4 _ _ _ (by omega) (by omega) (by omega) (by omega) (by omega))
      | (rw [if_neg (by omega), if_pos (by omega)]; exact l_div 4 _ _ _ (by omega) (by omega) (by omega) (by omega) (by omega))
      | (rw [if_neg (by omega), if_neg (by omega)]; exact l_div 4 _ _ _ (by omega) (by omega) (by omega) (by omega) (by omega))
/-- the model's axis of a part of determinant -1 -/
def axv (k p : Int) : Int × Int := if en k p 0 - 1 = 0 ∧ en k p 2 = 0 then (en k p 1, en k p 3 - 1) else (en k p 0 - 1, en k p 2)
def rfm (n x y u v : Int) : Prop := ∃ t : Int, 0 ≤ t ∧ t < n ∧ (t * x.tdiv (gdv x y)) % n = u ∧ (t * y.tdiv (gdv x y)) % n = v
theorem axv_b (k p : Int) : (-2 ≤ (axv k p).1 ∧ (axv k p).1 ≤ 2) ∧ -2 ≤ (axv k p).2 ∧ (axv k p).2 ≤ 2 := by
  have h0 := en_b k p 0
  have h1 := en_b k p 1
  have h2 := en_b k p 2
  have h3 := en_b k p 3
  unfold axv
  split <;> simp only <;> omega
theorem axv_ne {k p : Int} (hk : k = 0 ∨ k = 1) (hp : tu k ≤ p ∧ p < 2 * tu k) : ¬ ((axv k p).1 = 0 ∧ (axv k p).2 = 0) := by
  rcases hk with rfl | rfl
  · have ht : tu 0 = 4 := rfl
    rw [ht] at hp
    rcases (show p = 4 ∨ p = 5 ∨ p = 6 ∨ p = 7 by omega) with rfl | rfl | rfl | rfl <;> decide
  · have ht : tu 1 = 6 := rfl
    rw [ht] at hp
    rcases (show p = 6 ∨ p = 7 ∨ p = 8 ∨ p = 9 ∨ p = 10 ∨ p = 11 by omega) with rfl | rfl | rfl | rfl | rfl | rfl <;> decide
theorem td_b {x c : Int} (hx : -2 ≤ x ∧ x ≤ 2) (hc : 1 ≤ c ∧ c ≤ 2) : -2 ≤ x.tdiv c ∧ x.tdiv c ≤ 2 := by
  rcases (show x = -2 ∨ x = -1 ∨ x = 0 ∨ x = 1 ∨ x = 2 by omega) with rfl | rfl | rfl | rfl | rfl <;> rcases (show c = 1 ∨ c = 2 by omega) with rfl | rfl <;> decide
theorem l_refl {M : Mem} (hL : LaM M) (hP : MPt M) {c p x y g : Int} (hv : vc (M 1 0) (M 1 1) c) (hx : -2 ≤ x ∧ x ≤ 2) (hy : -2 ≤ y ∧ y ≤ 2) (hg : 1 ≤ g ∧ g ≤ 2) (hge : g = gdv x y) (m : Nat) : ∀ (t s : Int), 0 ≤ t → t ≤ M 1 1 → M 1 1 - t < m → ((s = 1 ∧ (∃ t' : Int, 0 ≤ t' ∧ t' < t ∧ (t' * x.tdiv g) % M 1 1 = cX (M 1 1) c ∧ (t' * y.tdiv g) % M 1 1 = cY (M 1 1) c)) ∨ (s = 0 ∧ ¬ (∃ t' : Int, 0 ≤ t' ∧ t' < t ∧ (t' * x.tdiv g) % M 1 1 = cX (M 1 1) c ∧ (t' * y.tdiv g) % M 1 1 = cY (M 1 1) c))) → J SHM mi_X7_isReflection 63 [some (vR 0), some (vI c), some (vI p), some (vI x), some (vI y), some (vI g), some (vI s), some (vI t)] [] M (bz (rfm (M 1 1) x y (cX (M 1 1) c) (cY (M 1 1) c)) M) := by
  induction m with
  | zero => intro t s h0 h1 h2; omega
  | succ m ih =>
  intro t s h0 h1 h2 hs
  obtain ⟨hk, hn1, hn5, hc1, hc2⟩ := id hL
  have ht := tu_c hk
  obtain ⟨hP1, hP2, hP3⟩ := id hP
  obtain ⟨hc0, hc1, hcp0, hcp1⟩ := vc_b hk hc1 hc2 hv
  have hcxy := cXY_b hn1 c
  have hcp : 0 ≤ cP (M 1 1) c ∧ cP (M 1 1) c < 2 * tu (M 1 0) := ⟨hcp0, hcp1⟩
  have hxg := td_b hx hg
  have hyg := td_b hy hg
  have b1 : -10 ≤ t * x.tdiv g ∧ t * x.tdiv g ≤ 10 := by
    rcases (show x.tdiv g = -2 ∨ x.tdiv g = -1 ∨ x.tdiv g = 0 ∨ x.tdiv g = 1 ∨ x.tdiv g = 2 by omega) with h | h | h | h | h <;> rw [h] <;> omega
  have b2 : -10 ≤ t * y.tdiv g ∧ t * y.tdiv g ≤ 10 := by
    rcases (show y.tdiv g = -2 ∨ y.tdiv g = -1 ∨ y.tdiv g = 0 ∨ y.tdiv g = 1 ∨ y.tdiv g = 2 by omega) with h | h | h | h | h <;> rw [h] <;> omega
  have m1 := Int.emod_nonneg (t * x.tdiv g) (show M 1 1 ≠ 0 by omega)
  have m2 := Int.emod_lt_of_pos (t * x.tdiv g) (show 0 < M 1 1 by omega)
  have m3 := Int.emod_nonneg (t * y.tdiv g) (show M 1 1 ≠ 0 by omega)
  have m4 := Int.emod_lt_of_pos (t * y.tdiv g) (show 0 < M 1 1 by omega)
  refine j_iload dX7_isReflection_63 rfl ?_
  refine j_aload_n dX7_isReflection_65 rfl ?_
  refine j_getR dX7_isReflection_66 f_X7_7 rfl rfl ?_
  refine j_iconst dX7_isReflection_69 ?_
  refine j_iald dX7_isReflection_70 (by first | rfl | assumption) (by decide) (by omega) (by omega) ?_
  refine j_icmp_ge 131 dX7_isReflection_71 rfl (by unfold inR; omega) (by unfold inR; omega) (fun c71 => ?_) (fun c71 => ?_)
  · refine j_iload dX7_isReflection_131 rfl ?_
    refine j_zret dX7_isReflection_133 rfl (by first | exact Or.inl rfl | exact Or.inr rfl | omega) ?_
    have ht1 : t = M 1 1 := by omega
    subst ht1
    subst hge
    exact bz_i hs
  · refine j_iload dX7_isReflection_74 rfl ?_
    refine j_if_ne 118 dX7_isReflection_76 rfl (by unfold inR; omega) (fun c76 => ?_) (fun c76 => ?_)
    · refine j_iconst dX7_isReflection_118 ?_
      refine j_goto 123 dX7_isReflection_119 rfl ?_
      refine j_istore dX7_isReflection_123 (by decide) (nol rfl) (by show List.set _ 6 _ = _; simp only [List.set_cons_zero, List.set_cons_succ]; rfl) ?_
      refine j_iinc dX7_isReflection_125 rfl (by decide) (nol rfl) (by simp only [List.set_cons_zero, List.set_cons_succ]; rfl) ?_
      refine j_goto 63 dX7_isReflection_128 rfl ?_
      refine ih (t + 1) _ (by omega) (by omega) (by omega) ?_
      refine Or.inl ⟨rfl, ?_⟩
      rcases hs with ⟨_, t', a, b, d⟩ | h
      · exact ⟨t', a, by omega, d⟩
      · omega
    · refine j_aload_n dX7_isReflection_79 rfl ?_
      refine j_iload dX7_isReflection_80 rfl ?_
      refine j_iload_n dX7_isReflection_82 rfl ?_
      refine j_iload dX7_isReflection_83 rfl ?_
      refine j_idiv dX7_isReflection_85 (by unfold inR; omega) (by unfold inR; omega) (by omega) ?_
      refine j_imul dX7_isReflection_86 ?_
      refine j_V1p dX7_isReflection_87 ok_X7_modulo v_X7_55 c_X7_modulo rfl (e_X7_modulo hL (by first | assumption | (unfold inR; omega))) ?_
      refine j_aload_n dX7_isReflection_90 rfl ?_
      refine j_iload_n dX7_isReflection_91 rfl ?_
      refine j_V1p dX7_isReflection_92 ok_X7_uOf v_X7_62 c_X7_uOf rfl (e_X7_uOf hL (by omega) (by omega)) ?_
      refine j_icmp_ne 122 dX7_isReflection_95 rfl (by unfold inR; omega) (by unfold inR; omega) (fun c95 => ?_) (fun c95 => ?_)
      · refine j_iconst dX7_isReflection_122 ?_
        refine j_istore dX7_isReflection_123 (by decide) (nol rfl) (by show List.set _ 6 _ = _; simp only [List.set_cons_zero, List.set_cons_succ]; rfl) ?_
        refine j_iinc dX7_isReflection_125 rfl (by decide) (nol rfl) (by simp only [List.set_cons_zero, List.set_cons_succ]; rfl) ?_
        refine j_goto 63 dX7_isReflection_128 rfl ?_
        refine ih (t + 1) _ (by omega) (by omega) (by omega) ?_
        refine Or.inr ⟨rfl, ?_⟩
        rintro ⟨t', a, b, d, e⟩
        by_cases q : t' = t
        · rw [q] at d; exact c95 d
        · rcases hs with h | h
          · omega
          · exact h.2 ⟨t', a, by omega, d, e⟩
      · refine j_aload_n dX7_isReflection_98 rfl ?_
        refine j_iload dX7_isReflection_99 rfl ?_
        refine j_iload dX7_isReflection_101 rfl ?_
        refine j_iload dX7_isReflection_103 rfl ?_
        refine j_idiv dX7_isReflection_105 (by unfold inR; omega) (by unfold inR; omega) (by omega) ?_
        refine j_imul dX7_isReflection_106 ?_
        refine j_V1p dX7_isReflection_107 ok_X7_modulo v_X7_55 c_X7_modulo rfl (e_X7_modulo hL (by first | assumption | (unfold inR; omega))) ?_
        refine j_aload_n dX7_isReflection_110 rfl ?_
        refine j_iload_n dX7_isReflection_111 rfl ?_
        refine j_V1p dX7_isReflection_112 ok_X7_vOf v_X7_65 c_X7_vOf rfl (e_X7_vOf hL (by omega) (by omega)) ?_
        refine j_icmp_ne 122 dX7_isReflection_115 rfl (by unfold inR; omega) (by unfold inR; omega) (fun c115 => ?_) (fun c115 => ?_)
        · refine j_iconst dX7_isReflection_122 ?_
          refine j_istore dX7_isReflection_123 (by decide) (nol rfl) (by show List.set _ 6 _ = _; simp only [List.set_cons_zero, List.set_cons_succ]; rfl) ?_
          refine j_iinc dX7_isReflection_125 rfl (by decide) (nol rfl) (by simp only [List.set_cons_zero, List.set_cons_succ]; rfl) ?_
          refine j_goto 63 dX7_isReflection_128 rfl ?_
          refine ih (t + 1) _ (by omega) (by omega) (by omega) ?_
          refine Or.inr ⟨rfl, ?_⟩
          rintro ⟨t', a, b, d, e⟩
          by_cases q : t' = t
          · rw [q] at e; exact c115 e
          · rcases hs with h | h
            · omega
            · exact h.2 ⟨t', a, by omega, d, e⟩
        · refine j_iconst dX7_isReflection_118 ?_
          refine j_goto 123 dX7_isReflection_119 rfl ?_
          refine j_istore dX7_isReflection_123 (by decide) (nol rfl) (by show List.set _ 6 _ = _; simp only [List.set_cons_zero, List.set_cons_succ]; rfl) ?_
          refine j_iinc dX7_isReflection_125 rfl (by decide) (nol rfl) (by simp only [List.set_cons_zero, List.set_cons_succ]; rfl) ?_
          refine j_goto 63 dX7_isReflection_128 rfl ?_
          refine ih (t + 1) _ (by omega) (by omega) (by omega) ?_
          exact Or.inl ⟨rfl, t, h0, by omega, c95, c115⟩
theorem e_X7_isReflection {M : Mem} (hL : LaM M) (hP : MPt M) {c : Int} (hv : vc (M 1 0) (M 1 1) c) (hr : tu (M 1 0) ≤ cP (M 1 1) c) : J SHM mi_X7_isReflection 0 (ent [vR 0, vI c] 8) [] M (bz (rfm (M 1 1) (axv (M 1 0) (cP (M 1 1) c)).1 (axv (M 1 0) (cP (M 1 1) c)).2 (cX (M 1 1) c) (cY (M 1 1) c)) M) := by
  obtain ⟨hk, hn1, hn5, hc1, hc2⟩ := id hL
  have ht := tu_c hk
  obtain ⟨hP1, hP2, hP3⟩ := id hP
  obtain ⟨hc0, hc1, hcp0, hcp1⟩ := vc_b hk hc1 hc2 hv
  have hcxy := cXY_b hn1 c
  have hcp : 0 ≤ cP (M 1 1) c ∧ cP (M 1 1) c < 2 * tu (M 1 0) := ⟨hcp0, hcp1⟩
  have hab := axv_b (M 1 0) (cP (M 1 1) c)
  have hne := axv_ne hk ⟨hr, hcp1⟩
  have hgb := gdv_b hab.1 hab.2 hne
  have E0 := hP2 (cP (M 1 1) c) 0 hcp0 hcp1 (by omega) (by omega)
  have E1 := hP2 (cP (M 1 1) c) 1 hcp0 hcp1 (by omega) (by omega)
  have E2 := hP2 (cP (M 1 1) c) 2 hcp0 hcp1 (by omega) (by omega)
  have E3 := hP2 (cP (M 1 1) c) 3 hcp0 hcp1 (by omega) (by omega)
  have B0 := en_b (M 1 0) (cP (M 1 1) c) 0
  have B2 := en_b (M 1 0) (cP (M 1 1) c) 2
  show J SHM mi_X7_isReflection 0 [some (vR 0), some (vI c), none, none, none, none, none, none] [] M _
  refine j_aload_n dX7_isReflection_0 rfl ?_
  refine j_iload_n dX7_isReflection_1 rfl ?_
  refine j_V1p dX7_isReflection_2 ok_X7_partOf v_X7_59 c_X7_partOf rfl (e_X7_partOf hL (by omega) (by omega)) ?_
  refine j_istore_n dX7_isReflection_5 (by decide) (nol rfl) (by show List.set _ 2 _ = _; simp only [List.set_cons_zero, List.set_cons_succ]; rfl) ?_
  refine j_aload_n dX7_isReflection_6 rfl ?_
  refine j_iload_n dX7_isReflection_7 rfl ?_
  refine j_iconst dX7_isReflection_8 ?_
  refine j_V2p dX7_isReflection_9 ok_X7_entry v_X7_32 c_X7_entry rfl (e_X7_entry (by omega) (by omega)) ?_
  refine j_iconst dX7_isReflection_12 ?_
  refine j_isub dX7_isReflection_13 ?_
  refine j_istore_n dX7_isReflection_14 (by decide) (nol rfl) (by show List.set _ 3 _ = _; simp only [List.set_cons_zero, List.set_cons_succ]; rfl) ?_
  refine j_aload_n dX7_isReflection_15 rfl ?_
  refine j_iload_n dX7_isReflection_16 rfl ?_
  refine j_iconst dX7_isReflection_17 ?_
  refine j_V2p dX7_isReflection_18 ok_X7_entry v_X7_32 c_X7_entry rfl (e_X7_entry (by omega) (by omega)) ?_
  refine j_istore dX7_isReflection_21 (by decide) (nol rfl) (by show List.set _ 4 _ = _; simp only [List.set_cons_zero, List.set_cons_succ]; rfl) ?_
  refine j_iload_n dX7_isReflection_23 rfl ?_
  refine j_if_ne 49 dX7_isReflection_24 rfl (by first | (rw [E0]; unfold inR; omega) | (rw [E2]; unfold inR; omega) | (unfold inR; omega)) (fun c24 => ?_) (fun c24 => ?_)
  · rw [E0, E2] at *
    have ha : axv (M 1 0) (cP (M 1 1) c) = (en (M 1 0) (cP (M 1 1) c) 0 - 1, en (M 1 0) (cP (M 1 1) c) 2) := if_neg (fun h => c24 h.1)
    rw [ha] at hab hgb ⊢
    simp only at hab hgb ⊢
    refine j_iload_n dX7_isReflection_49 rfl ?_
    refine j_iload dX7_isReflection_50 rfl ?_
    refine j_S2p dX7_isReflection_52 ok_X7_divisor s_X7_82 (e_X7_divisor (by omega) (by omega)) ?_
    refine j_istore dX7_isReflection_55 (by decide) (nol rfl) (by show List.set _ 5 _ = _; simp only [List.set_cons_zero, List.set_cons_succ]; rfl) ?_
    refine j_iconst dX7_isReflection_57 ?_
    refine j_istore dX7_isReflection_58 (by decide) (nol rfl) (by show List.set _ 6 _ = _; simp only [List.set_cons_zero, List.set_cons_succ]; rfl) ?_
    refine j_iconst dX7_isReflection_60 ?_
    refine j_istore dX7_isReflection_61 (by decide) (nol rfl) (by show List.set _ 7 _ = _; simp only [List.set_cons_zero, List.set_cons_succ]; rfl) ?_
    exact l_refl hL hP hv (by omega) (by omega) hgb rfl 6 0 0 (by omega) (by omega) (by omega) (Or.inr ⟨rfl, fun ⟨t, a, b, _⟩ => by omega⟩)
  · refine j_iload dX7_isReflection_27 rfl ?_
    refine j_if_ne 49 dX7_isReflection_29 rfl (by first | (rw [E0]; unfold inR; omega) | (rw [E2]; unfold inR; omega) | (unfold inR; omega)) (fun c29 => ?_) (fun c29 => ?_)
    · rw [E0, E2] at *
      have ha : axv (M 1 0) (cP (M 1 1) c) = (en (M 1 0) (cP (M 1 1) c) 0 - 1, en (M 1 0) (cP (M 1 1) c) 2) := if_neg (fun h => c29 h.2)
      rw [ha] at hab hgb ⊢
      simp only at hab hgb ⊢
      refine j_iload_n dX7_isReflection_49 rfl ?_
      refine j_iload dX7_isReflection_50 rfl ?_
      refine j_S2p dX7_isReflection_52 ok_X7_divisor s_X7_82 (e_X7_divisor (by omega) (by omega)) ?_
      refine j_istore dX7_isReflection_55 (by decide) (nol rfl) (by show List.set _ 5 _ = _; simp only [List.set_cons_zero, List.set_cons_succ]; rfl) ?_
      refine j_iconst dX7_isReflection_57 ?_
      refine j_istore dX7_isReflection_58 (by decide) (nol rfl) (by show List.set _ 6 _ = _; simp only [List.set_cons_zero, List.set_cons_succ]; rfl) ?_
      refine j_iconst dX7_isReflection_60 ?_
      refine j_istore dX7_isReflection_61 (by decide) (nol rfl) (by show List.set _ 7 _ = _; simp only [List.set_cons_zero, List.set_cons_succ]; rfl) ?_
      exact l_refl hL hP hv (by omega) (by omega) hgb rfl 6 0 0 (by omega) (by omega) (by omega) (Or.inr ⟨rfl, fun ⟨t, a, b, _⟩ => by omega⟩)
    · refine j_aload_n dX7_isReflection_32 rfl ?_
      refine j_iload_n dX7_isReflection_33 rfl ?_
      refine j_iconst dX7_isReflection_34 ?_
      refine j_V2p dX7_isReflection_35 ok_X7_entry v_X7_32 c_X7_entry rfl (e_X7_entry (by omega) (by omega)) ?_
      refine j_istore_n dX7_isReflection_38 (by decide) (nol rfl) (by show List.set _ 3 _ = _; simp only [List.set_cons_zero, List.set_cons_succ]; rfl) ?_
      refine j_aload_n dX7_isReflection_39 rfl ?_
      refine j_iload_n dX7_isReflection_40 rfl ?_
      refine j_iconst dX7_isReflection_41 ?_
      refine j_V2p dX7_isReflection_42 ok_X7_entry v_X7_32 c_X7_entry rfl (e_X7_entry (by omega) (by omega)) ?_
      refine j_iconst dX7_isReflection_45 ?_
      refine j_isub dX7_isReflection_46 ?_
      refine j_istore dX7_isReflection_47 (by decide) (nol rfl) (by show List.set _ 4 _ = _; simp only [List.set_cons_zero, List.set_cons_succ]; rfl) ?_
      rw [E0, E1, E2, E3] at *
      have ha : axv (M 1 0) (cP (M 1 1) c) = (en (M 1 0) (cP (M 1 1) c) 1, en (M 1 0) (cP (M 1 1) c) 3 - 1) := if_pos ⟨c24, c29⟩
      rw [ha] at hab hgb ⊢
      simp only at hab hgb ⊢
      refine j_iload_n dX7_isReflection_49 rfl ?_
      refine j_iload dX7_isReflection_50 rfl ?_
      refine j_S2p dX7_isReflection_52 ok_X7_divisor s_X7_82 (e_X7_divisor (by omega) (by omega)) ?_
      refine j_istore dX7_isReflection_55 (by decide) (nol rfl) (by show List.set _ 5 _ = _; simp only [List.set_cons_zero, List.set_cons_succ]; rfl) ?_
      refine j_iconst dX7_isReflection_57 ?_
      refine j_istore dX7_isReflection_58 (by decide) (nol rfl) (by show List.set _ 6 _ = _; simp only [List.set_cons_zero, List.set_cons_succ]; rfl) ?_
      refine j_iconst dX7_isReflection_60 ?_
      refine j_istore dX7_isReflection_61 (by decide) (nol rfl) (by show List.set _ 7 _ = _; simp only [List.set_cons_zero, List.set_cons_succ]; rfl) ?_
      exact l_refl hL hP hv (by omega) (by omega) hgb rfl 6 0 0 (by omega) (by omega) (by omega) (Or.inr ⟨rfl, fun ⟨t, a, b, _⟩ => by omega⟩)
