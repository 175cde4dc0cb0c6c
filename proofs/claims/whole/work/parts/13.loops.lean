/-! loops of the lattice, and the three static ones -/
theorem vc_mkc {k n p x y : Int} (hn1 : 1 ≤ n) (hp : 0 ≤ p ∧ p < 2 * tu k) : vc k n (mkc n p x y) := by
  have hn0 : 0 < n := by omega
  have h1 := Int.emod_nonneg x (show n ≠ 0 by omega)
  have h2 := Int.emod_lt_of_pos x hn0
  have h3 := Int.emod_nonneg y (show n ≠ 0 by omega)
  have h4 := Int.emod_lt_of_pos y hn0
  have h5 : 0 ≤ n * (x % n) := Int.mul_nonneg (by omega) h1
  have h6 : n * (x % n) ≤ n * (n - 1) := Int.mul_le_mul_of_nonneg_left (by omega) (by omega)
  have h7 : n * (n - 1) = n * n - n := by rw [Int.mul_sub, Int.mul_one]
  have h8 : 0 < n * n := Int.mul_pos hn0 hn0
  have h9 : 0 ≤ p * (n * n) := Int.mul_nonneg hp.1 (by omega)
  have h10 : p * (n * n) ≤ (2 * tu k - 1) * (n * n) := Int.mul_le_mul_of_nonneg_right (by omega) (by omega)
  have h11 : (2 * tu k - 1) * (n * n) = 2 * tu k * (n * n) - n * n := by rw [Int.sub_mul, Int.one_mul]
  unfold vc mkc
  omega
theorem vc_tm {k n g h : Int} (hk : k = 0 ∨ k = 1) (hn1 : 1 ≤ n) : vc k n (tm k n g h) := vc_mkc hn1 (tp_b hk)
theorem vc_iv {k n g : Int} (hk : k = 0 ∨ k = 1) (hn1 : 1 ≤ n) (hc1 : 1 ≤ n * n) (hc2 : n * n ≤ 25) (hg : vc k n g) : vc k n (iv k n g) := by
  obtain ⟨_, _, h3, h4⟩ := vc_b hk hc1 hc2 hg
  exact vc_mkc hn1 (ip_b hk h3 h4)
/-- c times itself, i more times -/
def pw (k n c : Int) : Nat → Int
  | 0 => c
  | i + 1 => tm k n (pw k n c i) c
theorem vc_pw {k n c : Int} (hk : k = 0 ∨ k = 1) (hn1 : 1 ≤ n) (hc : vc k n c) : ∀ i, vc k n (pw k n c i)
  | 0 => hc
  | _ + 1 => vc_tm hk hn1
/-- agrees outside some cells -/
def fr (S : List Nat) (M M1 : Mem) : Prop := ∀ b, b ∉ S → M1 b = M b
theorem fr.rf {S : List Nat} {M : Mem} : fr S M M := fun _ _ => rfl
theorem fr.tr {S : List Nat} {M M1 M2 : Mem} (h1 : fr S M M1) (h2 : fr S M1 M2) : fr S M M2 := fun b hb => (h2 b hb).trans (h1 b hb)
theorem fr.up {S S' : List Nat} {M M1 : Mem} (h : fr S M M1) (hs : ∀ b ∈ S, b ∈ S') : fr S' M M1 := fun b hb => h b (fun q => hb (hs b q))
theorem fr.w1 {S : List Nat} {M M1 : Mem} (h : fr S M M1) {a : Nat} {i x : Int} (ha : a ∈ S) : fr S M (wr M1 a i x) := fun b hb => by
  have hne : b ≠ a := fun e => hb (e ▸ ha)
  rw [← h b hb]
  funext j
  simp [wr, hne]
def cntTo (f : Int → Int) : Nat → Int
  | 0 => 0
  | i + 1 => cntTo f i + (if f i = 0 then 0 else 1)
theorem cntTo_b (f : Int → Int) : ∀ i : Nat, 0 ≤ cntTo f i ∧ cntTo f i ≤ i
  | 0 => ⟨Int.le_refl _, Int.le_refl _⟩
  | i + 1 => by
    have := cntTo_b f i
    simp only [cntTo]
    split <;> omega

theorem l_factors {M : Mem} {c : Int} (hL : Lat M) (hv : vc (M 1 0) (M 1 1) c) (m : Nat) : ∀ t : Nat, t ≤ 299 → 299 - t < m → (∀ i < t, pw (M 1 0) (M 1 1) c i ≠ 0) → J SHC mi_X5_factorsToIdentity 4 [some (vR 1), some (vI c), some (vI (t + 1)), some (vI (pw (M 1 0) (M 1 1) c t))] [] M (pz (fun z M1 => M1 = M ∧ ∃ t : Nat, z = t + 1 ∧ t ≤ 299 ∧ (∀ i < t, pw (M 1 0) (M 1 1) c i ≠ 0) ∧ (pw (M 1 0) (M 1 1) c t = 0 ∨ t = 299))) := by
  induction m with
  | zero => intro t h1 h2; omega
  | succ m ih =>
  intro t h1 h2 h3
  obtain ⟨hk, hn1, hn5, hc1, hc2⟩ := id hL
  have ht := tu_c hk
  have hpv := vc_pw hk hn1 hv t
  obtain ⟨hp0, hp1, _, _⟩ := vc_b hk hc1 hc2 hpv
  refine j_iload_n dX5_factorsToIdentity_4 rfl ?_
  refine j_if_eq 28 dX5_factorsToIdentity_5 rfl (by unfold inR; omega) (fun c5 => ?_) (fun c5 => ?_)
  · refine j_iload_n dX5_factorsToIdentity_28 rfl ?_
    refine j_iret dX5_factorsToIdentity_29 rfl ?_
    exact ⟨_, rfl, rfl, t, rfl, h1, h3, by first | exact Or.inl c5 | (right; omega)⟩
  · refine j_iload_n dX5_factorsToIdentity_8 rfl ?_
    refine j_sipush dX5_factorsToIdentity_9 (by decide +kernel) ?_
    refine j_icmp_ge 28 dX5_factorsToIdentity_12 rfl (by unfold inR; omega) (by unfold inR; omega) (fun c12 => ?_) (fun c12 => ?_)
    · refine j_iload_n dX5_factorsToIdentity_28 rfl ?_
      refine j_iret dX5_factorsToIdentity_29 rfl ?_
      exact ⟨_, rfl, rfl, t, rfl, h1, h3, by first | exact Or.inl c5 | (right; omega)⟩
    · refine j_aload_n dX5_factorsToIdentity_15 rfl ?_
      refine j_iload_n dX5_factorsToIdentity_16 rfl ?_
      refine j_iload_n dX5_factorsToIdentity_17 rfl ?_
      refine j_V2p dX5_factorsToIdentity_18 ok_X5_times v_X5_87 c_X5_times rfl (e_X5_times hL (by assumption) (by assumption)) ?_
      refine j_istore_n dX5_factorsToIdentity_21 (by decide) (nol rfl) (by show List.set _ 3 _ = _; simp only [List.set_cons_zero, List.set_cons_succ]; rfl) ?_
      refine j_iinc dX5_factorsToIdentity_22 rfl (by decide) (nol rfl) (by simp only [List.set_cons_zero, List.set_cons_succ]; rfl) ?_
      refine j_goto 4 dX5_factorsToIdentity_25 rfl ?_
      refine ih (t + 1) (by omega) (by omega) (fun i hi => ?_)
      rcases Nat.lt_succ_iff_lt_or_eq.mp hi with q | rfl
      · exact h3 i q
      · exact c5
theorem e_X5_factorsToIdentity {M : Mem} {c : Int} (hL : Lat M) (hv : vc (M 1 0) (M 1 1) c) : J SHC mi_X5_factorsToIdentity 0 (ent [vR 1, vI c] 4) [] M (pz (fun z M1 => M1 = M ∧ ∃ t : Nat, z = t + 1 ∧ t ≤ 299 ∧ (∀ i < t, pw (M 1 0) (M 1 1) c i ≠ 0) ∧ (pw (M 1 0) (M 1 1) c t = 0 ∨ t = 299))) := by
  show J SHC mi_X5_factorsToIdentity 0 [some (vR 1), some (vI c), none, none] [] M _
  refine j_iconst dX5_factorsToIdentity_0 ?_
  refine j_istore_n dX5_factorsToIdentity_1 (by decide) (nol rfl) (by show List.set _ 2 _ = _; simp only [List.set_cons_zero, List.set_cons_succ]; rfl) ?_
  refine j_iload_n dX5_factorsToIdentity_2 rfl ?_
  refine j_istore_n dX5_factorsToIdentity_3 (by decide) (nol rfl) (by show List.set _ 3 _ = _; simp only [List.set_cons_zero, List.set_cons_succ]; rfl) ?_
  exact l_factors hL hv 300 0 (by omega) (by omega) (fun i hi => absurd hi (by omega))
theorem l_turnOrder {M : Mem} {p : Int} (hL : Lat M) (hp : 0 ≤ p ∧ p < 12) (m : Nat) : ∀ t : Int, 1 ≤ t → t ≤ 12 → 12 - t < m → (∀ i, 1 ≤ i → i < t → ¬ (i * p) % tu (M 1 0) = 0) → J SHC mi_X5_turnOrder 2 [some (vR 1), some (vI p), some (vI t)] [] M (pz (fun z M1 => M1 = M ∧ 1 ≤ z ∧ z ≤ 12 ∧ (∀ i, 1 ≤ i → i < z → ¬ (i * p) % tu (M 1 0) = 0) ∧ ((z * p) % tu (M 1 0) = 0 ∨ z = 12))) := by
  induction m with
  | zero => intro t h1 h2; omega
  | succ m ih =>
  intro t h1 h2 h4 h3
  obtain ⟨hk, hn1, hn5, hc1, hc2⟩ := id hL
  have ht := tu_c hk
  have hb0 : 0 ≤ t * p := Int.mul_nonneg (by omega) hp.1
  have hb1 : t * p ≤ 12 * p := Int.mul_le_mul_of_nonneg_right h2 hp.1
  have hm0 := Int.emod_nonneg (t * p) (show tu (M 1 0) ≠ 0 by omega)
  have hm1 := Int.emod_lt_of_pos (t * p) (show 0 < tu (M 1 0) by omega)
  refine j_iload_n dX5_turnOrder_2 rfl ?_
  refine j_bipush dX5_turnOrder_3 (by decide +kernel) ?_
  refine j_icmp_ge 27 dX5_turnOrder_5 rfl (by unfold inR; omega) (by unfold inR; omega) (fun c5 => ?_) (fun c5 => ?_)
  · refine j_iload_n dX5_turnOrder_27 rfl ?_
    refine j_iret dX5_turnOrder_28 rfl ?_
    exact ⟨_, rfl, rfl, h1, h2, h3, by first | exact Or.inl c18 | (right; omega)⟩
  · refine j_iload_n dX5_turnOrder_8 rfl ?_
    refine j_iload_n dX5_turnOrder_9 rfl ?_
    refine j_imul dX5_turnOrder_10 ?_
    refine j_aload_n dX5_turnOrder_11 rfl ?_
    refine j_V0p dX5_turnOrder_12 ok_X5_turns v_X5_18 c_X5_turns rfl (e_X5_turns hL) ?_
    refine j_N2p dX5_turnOrder_15 ok_X6_remainder n_X5_45 (e_remainder (by first | assumption | (unfold inR; omega)) (by first | assumption | (unfold inR; omega)) (by omega)) ?_
    refine j_if_eq 27 dX5_turnOrder_18 rfl (by unfold inR; omega) (fun c18 => ?_) (fun c18 => ?_)
    · refine j_iload_n dX5_turnOrder_27 rfl ?_
      refine j_iret dX5_turnOrder_28 rfl ?_
      exact ⟨_, rfl, rfl, h1, h2, h3, by first | exact Or.inl c18 | (right; omega)⟩
    · refine j_iinc dX5_turnOrder_21 rfl (by decide) (nol rfl) (by simp only [List.set_cons_zero, List.set_cons_succ]; rfl) ?_
      refine j_goto 2 dX5_turnOrder_24 rfl ?_
      refine ih (t + 1) (by omega) (by omega) (by omega) (fun i hi0 hi => ?_)
      by_cases q : i = t
      · rw [q]; exact c18
      · exact h3 i hi0 (by omega)
theorem e_X5_turnOrder {M : Mem} {p : Int} (hL : Lat M) (hp : 0 ≤ p ∧ p < 12) : J SHC mi_X5_turnOrder 0 (ent [vR 1, vI p] 3) [] M (pz (fun z M1 => M1 = M ∧ 1 ≤ z ∧ z ≤ 12 ∧ (∀ i, 1 ≤ i → i < z → ¬ (i * p) % tu (M 1 0) = 0) ∧ ((z * p) % tu (M 1 0) = 0 ∨ z = 12))) := by
  show J SHC mi_X5_turnOrder 0 [some (vR 1), some (vI p), none] [] M _
  refine j_iconst dX5_turnOrder_0 ?_
  refine j_istore_n dX5_turnOrder_1 (by decide) (nol rfl) (by show List.set _ 2 _ = _; simp only [List.set_cons_zero, List.set_cons_succ]; rfl) ?_
  exact l_turnOrder hL hp 13 1 (by omega) (by omega) (by omega) (fun i h0 h1 => by omega)
theorem l_clearMarks {SH : List Shp} {r len : Nat} {refs : List (Option Nat)} (hs : SH[r]? = some (1, len, refs)) (hlen : len ≤ 1000) (m : Nat) : ∀ (i : Int) (M : Mem), 0 ≤ i → i ≤ len → len - i < m → J SH mi_X6_clearMarks 2 [some (vR r), some (vI i)] [] M (pv (fun M1 => fr [r] M M1 ∧ ∀ j : Int, M1 r j = if i ≤ j ∧ j < len then 0 else M r j)) := by
  induction m with
  | zero => intro i M h1 h2; omega
  | succ m ih =>
  intro i M h1 h2 h3
  refine j_iload_n dX6_clearMarks_2 rfl ?_
  refine j_aload_n dX6_clearMarks_3 rfl ?_
  refine j_alen dX6_clearMarks_4 hs (by decide) ?_
  refine j_icmp_ge 18 dX6_clearMarks_5 rfl (by unfold inR; omega) (by unfold inR; omega) (fun c5 => ?_) (fun c5 => ?_)
  · refine j_vret dX6_clearMarks_18 rfl ?_
    exact ⟨rfl, fr.rf, fun j => by rw [if_neg (by omega)]⟩
  · refine j_aload_n dX6_clearMarks_8 rfl ?_
    refine j_iload_n dX6_clearMarks_9 rfl ?_
    refine j_iconst dX6_clearMarks_10 ?_
    refine j_bast dX6_clearMarks_11 hs (by omega) (by omega) (by omega) (Or.inl rfl) ?_
    refine j_iinc dX6_clearMarks_12 rfl (by decide) (nol rfl) (by simp only [List.set_cons_zero, List.set_cons_succ]; rfl) ?_
    refine j_goto 2 dX6_clearMarks_15 rfl ?_
    refine j_mono ?_ (ih (i + 1) _ (by omega) (by omega) (by omega))
    rintro v M1 ⟨rfl, hf, hj⟩
    refine ⟨rfl, (fr.rf.w1 (List.mem_cons_self)).tr hf, fun j => ?_⟩
    rw [hj j]
    by_cases q : j = i
    · subst q
      rw [if_neg (by omega), if_pos (by omega), wr_self]
    · rw [wr_ne _ _ (fun z => q z.2)]
      by_cases q2 : i ≤ j ∧ j < len
      · rw [if_pos q2, if_pos (by omega)]
      · rw [if_neg q2, if_neg (by omega)]
theorem e_clearMarks {SH : List Shp} {M : Mem} {r len : Nat} {refs : List (Option Nat)} (hs : SH[r]? = some (1, len, refs)) (hlen : len ≤ 1000) : J SH mi_X6_clearMarks 0 (ent [vR r] 2) [] M (pv (fun M1 => fr [r] M M1 ∧ ∀ j : Int, M1 r j = if 0 ≤ j ∧ j < len then 0 else M r j)) := by
  show J SH mi_X6_clearMarks 0 [some (vR r), none] [] M _
  refine j_iconst dX6_clearMarks_0 ?_
  refine j_istore_n dX6_clearMarks_1 (by decide) (nol rfl) (by show List.set _ 1 _ = _; simp only [List.set_cons_zero, List.set_cons_succ]; rfl) ?_
  exact l_clearMarks hs hlen (len + 1) 0 M (by omega) (by omega) (by omega)
theorem l_countMarks {SH : List Shp} {M : Mem} {r len : Nat} {refs : List (Option Nat)} (hs : SH[r]? = some (1, len, refs)) (hlen : len ≤ 1000) (hm : ∀ j : Int, 0 ≤ j → j < len → inR (M r j)) (m : Nat) : ∀ (i : Nat), i ≤ len → len - i < m → J SH mi_X6_countMarks 4 [some (vR r), some (vI (cntTo (M r) i)), some (vI i)] [] M (pu (vI (cntTo (M r) len)) M) := by
  induction m with
  | zero => intro i h2 h3; omega
  | succ m ih =>
  intro i h2 h3
  have hcb := cntTo_b (M r) i
  refine j_iload_n dX6_countMarks_4 rfl ?_
  refine j_aload_n dX6_countMarks_5 rfl ?_
  refine j_alen dX6_countMarks_6 hs (by decide) ?_
  refine j_icmp_ge 25 dX6_countMarks_7 rfl (by unfold inR; omega) (by unfold inR; omega) (fun c7 => ?_) (fun c7 => ?_)
  · refine j_iload_n dX6_countMarks_25 rfl ?_
    refine j_iret dX6_countMarks_26 rfl ?_
    exact pu_i (by rw [show i = len by omega])
  · refine j_aload_n dX6_countMarks_10 rfl ?_
    refine j_iload_n dX6_countMarks_11 rfl ?_
    refine j_bald dX6_countMarks_12 hs (by omega) (by omega) (by omega) ?_
    have hmi := hm i (by omega) (by omega)
    have ih1 := ih (i + 1) (by omega) (by omega)
    refine j_if_eq 19 dX6_countMarks_13 rfl hmi (fun c13 => ?_) (fun c13 => ?_)
    · simp only [cntTo, c13, if_true, Int.add_zero] at ih1
      refine j_iinc dX6_countMarks_19 rfl (by decide) (nol rfl) (by simp only [List.set_cons_zero, List.set_cons_succ]; rfl) ?_
      exact j_goto 4 dX6_countMarks_22 rfl ih1
    · simp only [cntTo, c13, if_false] at ih1
      refine j_iinc dX6_countMarks_16 rfl (by decide) (nol rfl) (by simp only [List.set_cons_zero, List.set_cons_succ]; rfl) ?_
      refine j_iinc dX6_countMarks_19 rfl (by decide) (nol rfl) (by simp only [List.set_cons_zero, List.set_cons_succ]; rfl) ?_
      exact j_goto 4 dX6_countMarks_22 rfl ih1
theorem e_countMarks {SH : List Shp} {M : Mem} {r len : Nat} {refs : List (Option Nat)} (hs : SH[r]? = some (1, len, refs)) (hlen : len ≤ 1000) (hm : ∀ j : Int, 0 ≤ j → j < len → inR (M r j)) : J SH mi_X6_countMarks 0 (ent [vR r] 3) [] M (pu (vI (cntTo (M r) len)) M) := by
  show J SH mi_X6_countMarks 0 [some (vR r), none, none] [] M _
  refine j_iconst dX6_countMarks_0 ?_
  refine j_istore_n dX6_countMarks_1 (by decide) (nol rfl) (by show List.set _ 1 _ = _; simp only [List.set_cons_zero, List.set_cons_succ]; rfl) ?_
  refine j_iconst dX6_countMarks_2 ?_
  refine j_istore_n dX6_countMarks_3 (by decide) (nol rfl) (by show List.set _ 2 _ = _; simp only [List.set_cons_zero, List.set_cons_succ]; rfl) ?_
  exact l_countMarks hs hlen hm (len + 1) 0 (by omega) (by omega)
theorem l_power {SH : List Shp} {M : Mem} {b : Int} {e : Nat} (hb : inR b) (he : e ≤ 1000) (m : Nat) : ∀ (i : Nat), i ≤ e → e - i < m → J SH mi_X6_power 5 [some (vI b), some (vI e), some (vL (b ^ i)), none, some (vI i)] [] M (pu (vL (b ^ e)) M) := by
  induction m with
  | zero => intro i h2 h3; omega
  | succ m ih =>
  intro i h2 h3
  refine j_iload dX6_power_5 rfl ?_
  refine j_iload_n dX6_power_7 rfl ?_
  refine j_icmp_ge 22 dX6_power_8 rfl (by first | assumption | (unfold inR; omega)) (by first | assumption | (unfold inR; omega)) (fun c8 => ?_) (fun c8 => ?_)
  · refine j_lload_n dX6_power_22 rfl ?_
    refine j_lret dX6_power_23 rfl ?_
    exact pu_l (by rw [show i = e by omega])
  · refine j_lload_n dX6_power_11 rfl ?_
    refine j_iload_n dX6_power_12 rfl ?_
    refine j_i2l dX6_power_13 (by first | assumption | (unfold inR; omega)) ?_
    refine j_lmul dX6_power_14 ?_
    refine j_lstore_n dX6_power_15 (by decide) (nol rfl) (by show List.set (List.set _ 2 _) 3 _ = _; simp only [List.set_cons_zero, List.set_cons_succ]; rfl) ?_
    refine j_iinc dX6_power_16 rfl (by decide) (nol rfl) (by simp only [List.set_cons_zero, List.set_cons_succ]; rfl) ?_
    refine j_goto 5 dX6_power_19 rfl ?_
    have ih1 := ih (i + 1) (by omega) (by omega)
    rw [Int.pow_succ] at ih1
    exact ih1
theorem e_power {SH : List Shp} {M : Mem} {b : Int} {e : Nat} (hb : inR b) (he : e ≤ 1000) : J SH mi_X6_power 0 (ent [vI b, vI e] 5) [] M (pu (vL (b ^ e)) M) := by
  show J SH mi_X6_power 0 [some (vI b), some (vI e), none, none, none] [] M _
  refine j_lconst (z := 1) dX6_power_0 rfl ?_
  refine j_lstore_n dX6_power_1 (by decide) (nol rfl) (by show List.set (List.set _ 2 _) 3 _ = _; simp only [List.set_cons_zero, List.set_cons_succ]; rfl) ?_
  refine j_iconst dX6_power_2 ?_
  refine j_istore dX6_power_3 (by decide) (nol rfl) (by show List.set _ 4 _ = _; simp only [List.set_cons_zero, List.set_cons_succ]; rfl) ?_
  have h0 := l_power (SH := SH) (M := M) hb he (e + 1) 0 (by omega) (by omega)
  rw [Int.pow_zero] at h0
  exact h0
