/-! THE MODEL: orbits, stabilizers, colorings -/
def onO (r : Row) (q p : Int) : Prop := ∃ c ∈ GL r, sc r.1 r.2.1 c q = p
noncomputable def stb (r : Row) (q : Int) : Nat := (GL r).countP (fun c => decide (sc r.1 r.2.1 c q = q))
def lst (r : Row) (q p : Int) : Prop := onO r q p ∧ ∀ i : Int, 0 ≤ i → i < p → ¬ onO r q i
theorem sc_0 {k n q : Int} (hn1 : 1 ≤ n) (h0 : 0 ≤ q) (h1 : q < n * n) : sc k n 0 q = q := by
  have e1 : en k 0 0 = 1 := by unfold en; split <;> rfl
  have e2 : en k 0 1 = 0 := by unfold en; split <;> rfl
  have e3 : en k 0 2 = 0 := by unfold en; split <;> rfl
  have e4 : en k 0 3 = 1 := by unfold en; split <;> rfl
  have hd := Int.ediv_nonneg h0 (show 0 ≤ n by omega)
  have hd2 := Int.ediv_lt_of_lt_mul (show 0 < n by omega) h1
  have hm := Int.emod_nonneg q (show n ≠ 0 by omega)
  have hm2 := Int.emod_lt_of_pos q (show 0 < n by omega)
  have hq := Int.mul_ediv_add_emod q n
  unfold sc imx imy cP cX cY
  rw [Int.zero_ediv, Int.zero_emod, Int.zero_ediv, Int.zero_emod, e1, e2, e3, e4, Int.one_mul, Int.zero_mul, Int.one_mul, Int.zero_mul, Int.add_zero, Int.add_zero, Int.zero_add, Int.add_zero, Int.emod_eq_of_lt hd hd2, Int.emod_eq_of_lt hm hm2]
  exact hq
theorem onO_self {r : Row} (ho : okR r) {q : Int} (h0 : 0 ≤ q) (h1 : q < r.2.1 * r.2.1) : onO r q q := ⟨0, GL_0, sc_0 ho.2.1 h0 h1⟩
theorem least_bit {S : Nat} : ∀ (q : Nat), S.testBit q = true → ∃ p, p ≤ q ∧ S.testBit p = true ∧ ∀ i < p, ¬ S.testBit i = true := by
  intro q
  induction q using Nat.strongRecOn with
  | ind q ih =>
    intro h
    by_cases hh : ∃ i, i < q ∧ S.testBit i = true
    · obtain ⟨i, h1, h2⟩ := hh
      obtain ⟨p, a, b⟩ := ih i h1 h2
      exact ⟨p, by omega, b⟩
    · exact ⟨q, Nat.le_refl _, h, fun i hi z => hh ⟨i, hi, z⟩⟩

def oF (k n q : Int) : Int → Nat := fun c => (sc k n c q).toNat
theorem l_orb {M : Mem} (hL : LaM M) (hP : MPt M) {es : List Int} (hB : BM M es) (hln : es.length ≤ 300) (hv : ∀ x ∈ es, vc (M 1 0) (M 1 1) x) {q : Int} (hqq : 0 ≤ q ∧ q < M 1 1 * M 1 1) (m : Nat) : ∀ (i : Nat) (j : Int) (s : Nat), j = i → s = orL (fun _ => true) (oF (M 1 0) (M 1 1) q) (es.take i) → i ≤ es.length → es.length - i < m → J SHM mi_X7_orbit 4 [some (vR 0), some (vI q), some (vI s), some (vI j)] [] M (pu (vI (orL (fun _ => true) (oF (M 1 0) (M 1 1) q) es : Nat)) M) := by
  induction m with
  | zero => intro i j s hj0 hs h1 h2; omega
  | succ m ih =>
  intro i j s hj0 hs h1 h2
  subst hj0
  obtain ⟨hk, hn1, hn5, hc1, hc2⟩ := id hL
  have ht := tu_c hk
  obtain ⟨hP1, hP2, hP3⟩ := id hP
  obtain ⟨hB1, hB2, hB3⟩ := id hB
  have hx := EsI (M := M) (i := i) hB hv
  have hsb := sc_b (k := M 1 0) (n := M 1 1) (c := M 6 i) (q := q) hn1
  refine j_iload_n dX7_orbit_4 rfl ?_
  refine j_aload_n dX7_orbit_5 rfl ?_
  refine j_getI (kz := 8) rfl dX7_orbit_6 f_X7_92 rfl rfl ?_
  refine j_icmp_ge 34 dX7_orbit_9 rfl (by unfold inR; omega) (by unfold inR; omega) (fun c9 => ?_) (fun c9 => ?_)
  · refine j_iload_n dX7_orbit_34 rfl ?_
    refine j_iret dX7_orbit_35 rfl ?_
    have hi : i = es.length := by omega
    subst hi
    rw [List.take_length] at hs
    exact pu_i (by rw [hs])
  · refine j_iload_n dX7_orbit_12 rfl ?_
    refine j_iconst dX7_orbit_13 ?_
    refine j_aload_n dX7_orbit_14 rfl ?_
    refine j_aload_n dX7_orbit_15 rfl ?_
    refine j_getR dX7_orbit_16 f_X7_26 rfl rfl ?_
    refine j_iload_n dX7_orbit_19 rfl ?_
    refine j_iald dX7_orbit_20 (by first | rfl | assumption) (by decide) (by omega) (by omega) ?_
    refine j_iload_n dX7_orbit_21 rfl ?_
    refine j_V2p dX7_orbit_22 ok_X7_sends v_X7_165 c_X7_sends rfl (e_X7_sends hL hP (hx (by omega)).1 hqq) ?_
    refine j_ishl dX7_orbit_25 (shl_i (by omega)) ?_
    refine j_ior dX7_orbit_26 (i3_or _ _) ?_
    refine j_istore_n dX7_orbit_27 (by decide) (nol rfl) (by show List.set _ 2 _ = _; simp only [List.set_cons_zero, List.set_cons_succ]; rfl) ?_
    refine j_iinc dX7_orbit_28 rfl (by decide) (nol rfl) (by simp only [List.set_cons_zero, List.set_cons_succ]; rfl) ?_
    refine j_goto 4 dX7_orbit_31 rfl ?_
    refine ih (i + 1) _ _ (by omega) ?_ (by omega) (by omega)
    rw [orL_step (hx (by omega)).2, hs, if_pos rfl]
    rfl
theorem e_X7_orbit {M : Mem} {r : Row} {hs : List Row} (hI : MS M r hs) {q : Int} (hqq : 0 ≤ q ∧ q < M 1 1 * M 1 1) : J SHM mi_X7_orbit 0 (ent [vR 0, vI q] 4) [] M (fun v M1 => M1 = M ∧ ∃ S : Nat, v = some (vI S) ∧ S < 2 ^ 25 ∧ ∀ p : Nat, (S.testBit p = true ↔ onO r q p)) := by
  obtain ⟨hc, ho, hh, hq, hl, hd⟩ := id hI
  have hL := LaM_of hc ho
  have hg := GM_of hc ho
  obtain ⟨hP, es, hB, hnd, hes⟩ := id hd
  obtain ⟨hc1, hc2, hc3, hc4⟩ := id hc
  have ho4 := ho.2.2.2.1
  obtain ⟨hln, hv, hpm, hle⟩ := MS_b hI hB hnd hes
  obtain ⟨hk, hn1, hn5, hnn1, hnn2⟩ := id hL
  have ht := tu_c hk
  obtain ⟨hP1, hP2, hP3⟩ := id hP
  obtain ⟨hB1, hB2, hB3⟩ := id hB
  show J SHM mi_X7_orbit 0 [some (vR 0), some (vI q), none, none] [] M _
  refine j_iconst dX7_orbit_0 ?_
  refine j_istore_n dX7_orbit_1 (by decide) (nol rfl) (by show List.set _ 2 _ = _; simp only [List.set_cons_zero, List.set_cons_succ]; rfl) ?_
  refine j_iconst dX7_orbit_2 ?_
  refine j_istore_n dX7_orbit_3 (by decide) (nol rfl) (by show List.set _ 3 _ = _; simp only [List.set_cons_zero, List.set_cons_succ]; rfl) ?_
  have h9 := l_orb hL hP hB hln hv hqq (es.length + 1) 0 0 0 rfl (by simp [orL]) (by omega) (by omega)
  refine j_mono ?_ h9
  rintro v M1 ⟨rfl, rfl⟩
  refine ⟨rfl, _, rfl, orL_lt2 (fun c hc0 => by have := sc_b (k := M1 1 0) (n := M1 1 1) (c := c) (q := q) hn1; unfold oF; omega), fun p => ?_⟩
  rw [orL_bit]
  unfold onO oF
  rw [← hc1, ← hc2]
  constructor
  · rintro ⟨c, a, -, b⟩
    have := sc_b (k := M1 1 0) (n := M1 1 1) (c := c) (q := q) hn1
    exact ⟨c, (hes c).mp a, by omega⟩
  · rintro ⟨c, a, b⟩
    exact ⟨c, (hes c).mpr a, rfl, by omega⟩
theorem l_first {M : Mem} {S p0 : Nat} (hS : S < 2 ^ 25) (hp : p0 < 25) (hb : S.testBit p0 = true) (hl : ∀ i < p0, ¬ S.testBit i = true) (m : Nat) : ∀ (i : Nat) (j : Int), j = i → i ≤ p0 → p0 - i < m → J SHM mi_X7_first 2 [some (vI S), some (vI j)] [] M (pu (vI p0) M) := by
  induction m with
  | zero => intro i j hj0 h1 h2; omega
  | succ m ih =>
  intro i j hj0 h1 h2
  subst hj0
  have hbi := bit_01 S (i : Int).toNat
  refine j_iload_n dX7_first_2 rfl ?_
  refine j_iload_n dX7_first_3 rfl ?_
  refine j_ishr dX7_first_4 (shr_i (Nat.lt_trans hS (by decide)) (by omega)) ?_
  refine j_iconst dX7_first_5 ?_
  refine j_iand dX7_first_6 (i3_and1 _ _) ?_
  refine j_if_ne 16 dX7_first_7 rfl (by unfold inR; omega) (fun c7 => ?_) (fun c7 => ?_)
  · refine j_iload_n dX7_first_16 rfl ?_
    refine j_iret dX7_first_17 rfl ?_
    have hi : i = p0 := by
      by_cases e : i = p0
      · exact e
      · have h9 := hl i (by omega)
        rw [show ((i : Int).toNat) = i from rfl] at *
        rcases hbi with h | h
        · exact absurd h.2 h9
        · omega
    exact pu_i (by rw [hi])
  · refine j_iinc dX7_first_10 rfl (by decide) (nol rfl) (by simp only [List.set_cons_zero, List.set_cons_succ]; rfl) ?_
    refine j_goto 2 dX7_first_13 rfl ?_
    have hne : i ≠ p0 := by
      rintro rfl
      rw [show ((i : Int).toNat) = i from rfl] at *
      rcases hbi with h | h
      · omega
      · exact h.2 hb
    exact ih (i + 1) _ (by omega) (by omega) (by omega)
theorem e_X7_first {M : Mem} {S p0 : Nat} (hS : S < 2 ^ 25) (hp : p0 < 25) (hb : S.testBit p0 = true) (hl : ∀ i < p0, ¬ S.testBit i = true) : J SHM mi_X7_first 0 (ent [vI S] 2) [] M (pu (vI p0) M) := by
  show J SHM mi_X7_first 0 [some (vI S), none] [] M _
  refine j_iconst dX7_first_0 ?_
  refine j_istore_n dX7_first_1 (by decide) (nol rfl) (by show List.set _ 1 _ = _; simp only [List.set_cons_zero, List.set_cons_succ]; rfl) ?_
  exact l_first hS hp hb hl (p0 + 1) 0 0 rfl (by omega) (by omega)
theorem lst_iff {r : Row} {q p1 p2 : Int} (h1 : lst r q p1) (h2 : lst r q p2) (a1 : 0 ≤ p1) (a2 : 0 ≤ p2) : p1 = p2 := by
  by_cases h : p1 < p2
  · exact absurd h1.1 (h2.2 p1 a1 h)
  · by_cases h' : p2 < p1
    · exact absurd h2.1 (h1.2 p2 a2 h')
    · omega
noncomputable def oct (r : Row) : Nat → Int := cntTo (fun q => ind (lst r q q))
theorem e_X7_isCell {M : Mem} (hL : LaM M) {x y : Int} (hx : inR x) (hy : inR y) : J SHM mi_X7_isCell 0 (ent [vR 0, vI x, vI y] 3) [] M (bz (0 ≤ x ∧ x < M 1 1 ∧ 0 ≤ y ∧ y < M 1 1) M) := by
  obtain ⟨hk, hn1, hn5, hnn1, hnn2⟩ := id hL
  show J SHM mi_X7_isCell 0 [some (vR 0), some (vI x), some (vI y)] [] M _
  refine j_iload_n dX7_isCell_0 rfl ?_
  refine j_iconst dX7_isCell_1 ?_
  refine j_aload_n dX7_isCell_2 rfl ?_
  refine j_getR dX7_isCell_3 f_X7_7 rfl rfl ?_
  refine j_iconst dX7_isCell_6 ?_
  refine j_iald dX7_isCell_7 (by first | rfl | assumption) (by decide) (by omega) (by omega) ?_
  refine j_iconst dX7_isCell_8 ?_
  refine j_isub dX7_isCell_9 ?_
  refine j_S3z dX7_isCell_10 ok_X7_in s_X7_78 (e_X7_in (by first | assumption | (unfold inR; omega)) (by unfold inR; omega) (by first | assumption | (unfold inR; omega))) (fun z10 M10 q10 => ?_)
  obtain ⟨rfl, q10⟩ := q10
  refine j_if_eq 36 dX7_isCell_13 rfl (by first | assumption | (unfold inR; omega)) (fun c13 => ?_) (fun c13 => ?_)
  · refine j_iconst dX7_isCell_36 ?_
    refine j_zret dX7_isCell_37 rfl (by first | exact Or.inl rfl | exact Or.inr rfl | omega) ?_
    exact bz_i (by omega)
  · refine j_iload_n dX7_isCell_16 rfl ?_
    refine j_iconst dX7_isCell_17 ?_
    refine j_aload_n dX7_isCell_18 rfl ?_
    refine j_getR dX7_isCell_19 f_X7_7 rfl rfl ?_
    refine j_iconst dX7_isCell_22 ?_
    refine j_iald dX7_isCell_23 (by first | rfl | assumption) (by decide) (by omega) (by omega) ?_
    refine j_iconst dX7_isCell_24 ?_
    refine j_isub dX7_isCell_25 ?_
    refine j_S3z dX7_isCell_26 ok_X7_in s_X7_78 (e_X7_in (by first | assumption | (unfold inR; omega)) (by unfold inR; omega) (by first | assumption | (unfold inR; omega))) (fun z26 M26 q26 => ?_)
    obtain ⟨rfl, q26⟩ := q26
    refine j_if_eq 36 dX7_isCell_29 rfl (by first | assumption | (unfold inR; omega)) (fun c29 => ?_) (fun c29 => ?_)
    · refine j_iconst dX7_isCell_36 ?_
      refine j_zret dX7_isCell_37 rfl (by first | exact Or.inl rfl | exact Or.inr rfl | omega) ?_
      exact bz_i (by omega)
    · refine j_iconst dX7_isCell_32 ?_
      refine j_goto 37 dX7_isCell_33 rfl ?_
      refine j_zret dX7_isCell_37 rfl (by first | exact Or.inl rfl | exact Or.inr rfl | omega) ?_
      exact bz_i (by omega)
theorem e_X7_orbitSize {M : Mem} {r : Row} {hs : List Row} (hI : MS M r hs) {x y : Int} (hx : inR x) (hy : inR y) : J SHM mi_X7_orbitSize 0 (ent [vR 0, vI x, vI y] 3) [] M (pz (fun z M1 => M = M1 ∧ (((0 ≤ x ∧ x < r.2.1 ∧ 0 ≤ y ∧ y < r.2.1) ∧ z = cntTo (fun p => ind (onO r (r.2.1 * x + y) p)) 25) ∨ (¬ (0 ≤ x ∧ x < r.2.1 ∧ 0 ≤ y ∧ y < r.2.1) ∧ z = -1)))) := by
  obtain ⟨hc, ho, hh, hq, hl, hd⟩ := id hI
  have hL := LaM_of hc ho
  have hg := GM_of hc ho
  obtain ⟨hP, es, hB, hnd, hes⟩ := id hd
  obtain ⟨hc1, hc2, hc3, hc4⟩ := id hc
  have ho4 := ho.2.2.2.1
  obtain ⟨hln, hv, hpm, hle⟩ := MS_b hI hB hnd hes
  obtain ⟨hk, hn1, hn5, hnn1, hnn2⟩ := id hL
  have ht := tu_c hk
  obtain ⟨hP1, hP2, hP3⟩ := id hP
  obtain ⟨hB1, hB2, hB3⟩ := id hB
  have hcb := fun (h : 0 ≤ x ∧ x < M 1 1 ∧ 0 ≤ y ∧ y < M 1 1) => cell_b (n := M 1 1) (x := x) (y := y) h
  show J SHM mi_X7_orbitSize 0 [some (vR 0), some (vI x), some (vI y)] [] M _
  refine j_aload_n dX7_orbitSize_0 rfl ?_
  refine j_iload_n dX7_orbitSize_1 rfl ?_
  refine j_iload_n dX7_orbitSize_2 rfl ?_
  refine j_V2z dX7_orbitSize_3 ok_X7_isCell v_X7_168 c_X7_isCell rfl (e_X7_isCell hL hx hy) (fun z3 M3 q3 => ?_)
  obtain ⟨rfl, q3⟩ := q3
  refine j_if_eq 29 dX7_orbitSize_6 rfl (by unfold inR; omega) (fun c6 => ?_) (fun c6 => ?_)
  · refine j_iconst dX7_orbitSize_29 ?_
    refine j_iret dX7_orbitSize_30 rfl ?_
    first
    | exact ⟨_, rfl, rfl, Or.inl ⟨hqr, rfl⟩⟩
    | exact ⟨_, rfl, rfl, Or.inr ⟨by rw [← hc2]; rcases q3 with q | q; omega; exact q.2, rfl⟩⟩
  · refine j_aload_n dX7_orbitSize_9 rfl ?_
    refine j_aload_n dX7_orbitSize_10 rfl ?_
    refine j_getR dX7_orbitSize_11 f_X7_7 rfl rfl ?_
    refine j_iconst dX7_orbitSize_14 ?_
    refine j_iald dX7_orbitSize_15 (by first | rfl | assumption) (by decide) (by omega) (by omega) ?_
    refine j_iload_n dX7_orbitSize_16 rfl ?_
    refine j_imul dX7_orbitSize_17 ?_
    refine j_iload_n dX7_orbitSize_18 rfl ?_
    refine j_iadd dX7_orbitSize_19 ?_
    have hq3 : 0 ≤ x ∧ x < M 1 1 ∧ 0 ≤ y ∧ y < M 1 1 := by
      rcases q3 with q | q
      · exact q.2
      · omega
    have hcq := hcb hq3
    have hqr : 0 ≤ x ∧ x < r.2.1 ∧ 0 ≤ y ∧ y < r.2.1 := by rw [← hc2]; exact hq3
    refine j_V1g dX7_orbitSize_20 ok_X7_orbit v_X7_171 c_X7_orbit rfl (e_X7_orbit (q := M 1 1 * x + y) hI (by assumption)) (fun v M9 q9 => ?_)
    obtain ⟨hM9, S, rfl, hS, hb⟩ := q9
    subst hM9
    have hbf : ∀ p : Nat, p < 25 → bit S p = ind (onO r (r.2.1 * x + y) p) := fun p _ => by
      have h1 := hb p
      rw [hc2] at h1
      rcases bit_01 S p with ⟨b1, b2⟩ | ⟨b1, b2⟩
      · rw [b1, ind_1 (h1.mp b2)]
      · rw [b1, ind_0 (fun z => b2 (h1.mpr z))]
    refine j_S1p dX7_orbitSize_23 ok_X7_many s_X7_174 (e_X7_many (f := fun p => ind (onO r (r.2.1 * x + y) p)) hS hbf) ?_
    refine j_goto 30 dX7_orbitSize_26 rfl ?_
    refine j_iret dX7_orbitSize_30 rfl ?_
    first
    | exact ⟨_, rfl, rfl, Or.inl ⟨hqr, rfl⟩⟩
    | exact ⟨_, rfl, rfl, Or.inr ⟨by rw [← hc2]; rcases q3 with q | q; omega; exact q.2, rfl⟩⟩
theorem e_X7_orbitFirst {M : Mem} {r : Row} {hs : List Row} (hI : MS M r hs) {x y : Int} (hx : inR x) (hy : inR y) : J SHM mi_X7_orbitFirst 0 (ent [vR 0, vI x, vI y] 3) [] M (pz (fun z M1 => M = M1 ∧ (((0 ≤ x ∧ x < r.2.1 ∧ 0 ≤ y ∧ y < r.2.1) ∧ ∃ p : Nat, z = p ∧ lst r (r.2.1 * x + y) p) ∨ (¬ (0 ≤ x ∧ x < r.2.1 ∧ 0 ≤ y ∧ y < r.2.1) ∧ z = -1)))) := by
  obtain ⟨hc, ho, hh, hq, hl, hd⟩ := id hI
  have hL := LaM_of hc ho
  have hg := GM_of hc ho
  obtain ⟨hP, es, hB, hnd, hes⟩ := id hd
  obtain ⟨hc1, hc2, hc3, hc4⟩ := id hc
  have ho4 := ho.2.2.2.1
  obtain ⟨hln, hv, hpm, hle⟩ := MS_b hI hB hnd hes
  obtain ⟨hk, hn1, hn5, hnn1, hnn2⟩ := id hL
  have ht := tu_c hk
  obtain ⟨hP1, hP2, hP3⟩ := id hP
  obtain ⟨hB1, hB2, hB3⟩ := id hB
  have hcb := fun (h : 0 ≤ x ∧ x < M 1 1 ∧ 0 ≤ y ∧ y < M 1 1) => cell_b (n := M 1 1) (x := x) (y := y) h
  show J SHM mi_X7_orbitFirst 0 [some (vR 0), some (vI x), some (vI y)] [] M _
  refine j_aload_n dX7_orbitFirst_0 rfl ?_
  refine j_iload_n dX7_orbitFirst_1 rfl ?_
  refine j_iload_n dX7_orbitFirst_2 rfl ?_
  refine j_V2z dX7_orbitFirst_3 ok_X7_isCell v_X7_168 c_X7_isCell rfl (e_X7_isCell hL hx hy) (fun z3 M3 q3 => ?_)
  obtain ⟨rfl, q3⟩ := q3
  refine j_if_eq 29 dX7_orbitFirst_6 rfl (by unfold inR; omega) (fun c6 => ?_) (fun c6 => ?_)
  · refine j_iconst dX7_orbitFirst_29 ?_
    refine j_iret dX7_orbitFirst_30 rfl ?_
    first
    | exact ⟨_, rfl, rfl, Or.inl ⟨hqr, p0, rfl, by rw [← hc2]; exact hlst⟩⟩
    | exact ⟨_, rfl, rfl, Or.inr ⟨by rw [← hc2]; rcases q3 with q | q; omega; exact q.2, rfl⟩⟩
  · refine j_aload_n dX7_orbitFirst_9 rfl ?_
    refine j_aload_n dX7_orbitFirst_10 rfl ?_
    refine j_getR dX7_orbitFirst_11 f_X7_7 rfl rfl ?_
    refine j_iconst dX7_orbitFirst_14 ?_
    refine j_iald dX7_orbitFirst_15 (by first | rfl | assumption) (by decide) (by omega) (by omega) ?_
    refine j_iload_n dX7_orbitFirst_16 rfl ?_
    refine j_imul dX7_orbitFirst_17 ?_
    refine j_iload_n dX7_orbitFirst_18 rfl ?_
    refine j_iadd dX7_orbitFirst_19 ?_
    have hq3 : 0 ≤ x ∧ x < M 1 1 ∧ 0 ≤ y ∧ y < M 1 1 := by
      rcases q3 with q | q
      · exact q.2
      · omega
    have hcq := hcb hq3
    have hqr : 0 ≤ x ∧ x < r.2.1 ∧ 0 ≤ y ∧ y < r.2.1 := by rw [← hc2]; exact hq3
    refine j_V1g dX7_orbitFirst_20 ok_X7_orbit v_X7_171 c_X7_orbit rfl (e_X7_orbit (q := M 1 1 * x + y) hI (by assumption)) (fun v M9 q9 => ?_)
    obtain ⟨hM9, S, rfl, hS, hb⟩ := q9
    subst hM9
    have hself : S.testBit (M9 1 1 * x + y).toNat = true := (hb _).mpr (by rw [Int.toNat_of_nonneg (by omega)]; exact onO_self ho (by omega) (by rw [← hc2]; omega))
    obtain ⟨p0, hp0, hpb, hpl⟩ := least_bit _ hself
    have hlst : lst r (M9 1 1 * x + y) p0 := ⟨(hb p0).mp hpb, fun i a b z => hpl i.toNat (by omega) ((hb _).mpr (by rw [Int.toNat_of_nonneg a]; exact z))⟩
    refine j_S1p dX7_orbitFirst_23 ok_X7_first s_X7_177 (e_X7_first hS (by omega) hpb hpl) ?_
    refine j_goto 30 dX7_orbitFirst_26 rfl ?_
    refine j_iret dX7_orbitFirst_30 rfl ?_
    first
    | exact ⟨_, rfl, rfl, Or.inl ⟨hqr, p0, rfl, by rw [← hc2]; exact hlst⟩⟩
    | exact ⟨_, rfl, rfl, Or.inr ⟨by rw [← hc2]; rcases q3 with q | q; omega; exact q.2, rfl⟩⟩
theorem l_stb {M : Mem} (hL : LaM M) (hP : MPt M) {es : List Int} (hB : BM M es) (hln : es.length ≤ 300) (hv : ∀ x ∈ es, vc (M 1 0) (M 1 1) x) {q : Int} (hqq : 0 ≤ q ∧ q < M 1 1 * M 1 1) (m : Nat) : ∀ (i : Nat) (j s : Int), j = i → s = ((es.take i).countP (fun c => decide (sc (M 1 0) (M 1 1) c q = q)) : Nat) → i ≤ es.length → es.length - i < m → J SHM mi_X7_stabilizer 4 [some (vR 0), some (vI q), some (vI s), some (vI j)] [] M (pu (vI (es.countP (fun c => decide (sc (M 1 0) (M 1 1) c q = q)) : Nat)) M) := by
  induction m with
  | zero => intro i j s hj0 hs h1 h2; omega
  | succ m ih =>
  intro i j s hj0 hs h1 h2
  subst hj0
  obtain ⟨hk, hn1, hn5, hc1, hc2⟩ := id hL
  have ht := tu_c hk
  obtain ⟨hP1, hP2, hP3⟩ := id hP
  obtain ⟨hB1, hB2, hB3⟩ := id hB
  have hx := EsI (M := M) (i := i) hB hv
  have hsb := sc_b (k := M 1 0) (n := M 1 1) (c := M 6 i) (q := q) hn1
  refine j_iload_n dX7_stabilizer_4 rfl ?_
  refine j_aload_n dX7_stabilizer_5 rfl ?_
  refine j_getI (kz := 8) rfl dX7_stabilizer_6 f_X7_92 rfl rfl ?_
  refine j_icmp_ge 41 dX7_stabilizer_9 rfl (by unfold inR; omega) (by unfold inR; omega) (fun c9 => ?_) (fun c9 => ?_)
  · refine j_iload_n dX7_stabilizer_41 rfl ?_
    refine j_iret dX7_stabilizer_42 rfl ?_
    have hi : i = es.length := by omega
    subst hi
    rw [List.take_length] at hs
    exact pu_i hs
  · refine j_iload_n dX7_stabilizer_12 rfl ?_
    refine j_aload_n dX7_stabilizer_13 rfl ?_
    refine j_aload_n dX7_stabilizer_14 rfl ?_
    refine j_getR dX7_stabilizer_15 f_X7_26 rfl rfl ?_
    refine j_iload_n dX7_stabilizer_18 rfl ?_
    refine j_iald dX7_stabilizer_19 (by first | rfl | assumption) (by decide) (by omega) (by omega) ?_
    refine j_iload_n dX7_stabilizer_20 rfl ?_
    refine j_V2p dX7_stabilizer_21 ok_X7_sends v_X7_165 c_X7_sends rfl (e_X7_sends hL hP (hx (by omega)).1 hqq) ?_
    refine j_iload_n dX7_stabilizer_24 rfl ?_
    refine j_icmp_ne 32 dX7_stabilizer_25 rfl (by unfold inR; omega) (by unfold inR; omega) (fun c25 => ?_) (fun c25 => ?_)
    · refine j_iconst dX7_stabilizer_32 ?_
      refine j_iadd dX7_stabilizer_33 ?_
      refine j_istore_n dX7_stabilizer_34 (by decide) (nol rfl) (by show List.set _ 2 _ = _; simp only [List.set_cons_zero, List.set_cons_succ]; rfl) ?_
      refine j_iinc dX7_stabilizer_35 rfl (by decide) (nol rfl) (by simp only [List.set_cons_zero, List.set_cons_succ]; rfl) ?_
      refine j_goto 4 dX7_stabilizer_38 rfl ?_
      refine ih (i + 1) _ _ (by omega) ?_ (by omega) (by omega)
      rw [cp_step (hx (by omega)).2, if_neg (by simpa using c25)]
      omega
    · refine j_iconst dX7_stabilizer_28 ?_
      refine j_goto 33 dX7_stabilizer_29 rfl ?_
      refine j_iadd dX7_stabilizer_33 ?_
      refine j_istore_n dX7_stabilizer_34 (by decide) (nol rfl) (by show List.set _ 2 _ = _; simp only [List.set_cons_zero, List.set_cons_succ]; rfl) ?_
      refine j_iinc dX7_stabilizer_35 rfl (by decide) (nol rfl) (by simp only [List.set_cons_zero, List.set_cons_succ]; rfl) ?_
      refine j_goto 4 dX7_stabilizer_38 rfl ?_
      refine ih (i + 1) _ _ (by omega) ?_ (by omega) (by omega)
      rw [cp_step (hx (by omega)).2, if_pos (by simpa using c25)]
      omega
theorem e_X7_stabilizer {M : Mem} {r : Row} {hs : List Row} (hI : MS M r hs) {q : Int} (hqq : 0 ≤ q ∧ q < M 1 1 * M 1 1) : J SHM mi_X7_stabilizer 0 (ent [vR 0, vI q] 4) [] M (pu (vI (stb r q)) M) := by
  obtain ⟨hc, ho, hh, hq, hl, hd⟩ := id hI
  have hL := LaM_of hc ho
  have hg := GM_of hc ho
  obtain ⟨hP, es, hB, hnd, hes⟩ := id hd
  obtain ⟨hc1, hc2, hc3, hc4⟩ := id hc
  have ho4 := ho.2.2.2.1
  obtain ⟨hln, hv, hpm, hle⟩ := MS_b hI hB hnd hes
  obtain ⟨hk, hn1, hn5, hnn1, hnn2⟩ := id hL
  have ht := tu_c hk
  obtain ⟨hP1, hP2, hP3⟩ := id hP
  obtain ⟨hB1, hB2, hB3⟩ := id hB
  show J SHM mi_X7_stabilizer 0 [some (vR 0), some (vI q), none, none] [] M _
  refine j_iconst dX7_stabilizer_0 ?_
  refine j_istore_n dX7_stabilizer_1 (by decide) (nol rfl) (by show List.set _ 2 _ = _; simp only [List.set_cons_zero, List.set_cons_succ]; rfl) ?_
  refine j_iconst dX7_stabilizer_2 ?_
  refine j_istore_n dX7_stabilizer_3 (by decide) (nol rfl) (by show List.set _ 3 _ = _; simp only [List.set_cons_zero, List.set_cons_succ]; rfl) ?_
  have h9 := l_stb hL hP hB hln hv hqq (es.length + 1) 0 0 0 rfl (by simp) (by omega) (by omega)
  rw [hc1, hc2, hpm.countP_eq] at h9
  exact h9
theorem e_X7_stabilizerOrder {M : Mem} {r : Row} {hs : List Row} (hI : MS M r hs) {x y : Int} (hx : inR x) (hy : inR y) : J SHM mi_X7_stabilizerOrder 0 (ent [vR 0, vI x, vI y] 3) [] M (pz (fun z M1 => M = M1 ∧ (((0 ≤ x ∧ x < r.2.1 ∧ 0 ≤ y ∧ y < r.2.1) ∧ z = stb r (r.2.1 * x + y)) ∨ (¬ (0 ≤ x ∧ x < r.2.1 ∧ 0 ≤ y ∧ y < r.2.1) ∧ z = -1)))) := by
  obtain ⟨hc, ho, hh, hq, hl, hd⟩ := id hI
  have hL := LaM_of hc ho
  have hg := GM_of hc ho
  obtain ⟨hP, es, hB, hnd, hes⟩ := id hd
  obtain ⟨hc1, hc2, hc3, hc4⟩ := id hc
  have ho4 := ho.2.2.2.1
  obtain ⟨hln, hv, hpm, hle⟩ := MS_b hI hB hnd hes
  obtain ⟨hk, hn1, hn5, hnn1, hnn2⟩ := id hL
  have ht := tu_c hk
  obtain ⟨hP1, hP2, hP3⟩ := id hP
  obtain ⟨hB1, hB2, hB3⟩ := id hB
  have hcb := fun (h : 0 ≤ x ∧ x < M 1 1 ∧ 0 ≤ y ∧ y < M 1 1) => cell_b (n := M 1 1) (x := x) (y := y) h
  show J SHM mi_X7_stabilizerOrder 0 [some (vR 0), some (vI x), some (vI y)] [] M _
  refine j_aload_n dX7_stabilizerOrder_0 rfl ?_
  refine j_iload_n dX7_stabilizerOrder_1 rfl ?_
  refine j_iload_n dX7_stabilizerOrder_2 rfl ?_
  refine j_V2z dX7_stabilizerOrder_3 ok_X7_isCell v_X7_168 c_X7_isCell rfl (e_X7_isCell hL hx hy) (fun z3 M3 q3 => ?_)
  obtain ⟨rfl, q3⟩ := q3
  refine j_if_eq 26 dX7_stabilizerOrder_6 rfl (by unfold inR; omega) (fun c6 => ?_) (fun c6 => ?_)
  · refine j_iconst dX7_stabilizerOrder_26 ?_
    refine j_iret dX7_stabilizerOrder_27 rfl ?_
    first
    | (refine ⟨_, rfl, rfl, Or.inl ⟨?_, by rw [hc2]⟩⟩
       rw [← hc2]
       rcases q3 with q | q
       · exact q.2
       · omega)
    | exact ⟨_, rfl, rfl, Or.inr ⟨by rw [← hc2]; rcases q3 with q | q; omega; exact q.2, rfl⟩⟩
  · refine j_aload_n dX7_stabilizerOrder_9 rfl ?_
    refine j_aload_n dX7_stabilizerOrder_10 rfl ?_
    refine j_getR dX7_stabilizerOrder_11 f_X7_7 rfl rfl ?_
    refine j_iconst dX7_stabilizerOrder_14 ?_
    refine j_iald dX7_stabilizerOrder_15 (by first | rfl | assumption) (by decide) (by omega) (by omega) ?_
    refine j_iload_n dX7_stabilizerOrder_16 rfl ?_
    refine j_imul dX7_stabilizerOrder_17 ?_
    refine j_iload_n dX7_stabilizerOrder_18 rfl ?_
    refine j_iadd dX7_stabilizerOrder_19 ?_
    refine j_V1p dX7_stabilizerOrder_20 ok_X7_stabilizer v_X7_180 c_X7_stabilizer rfl (e_X7_stabilizer (q := M 1 1 * x + y) hI (hcb (by rcases q3 with q | q; exact q.2; omega))) ?_
    refine j_goto 27 dX7_stabilizerOrder_23 rfl ?_
    refine j_iret dX7_stabilizerOrder_27 rfl ?_
    first
    | (refine ⟨_, rfl, rfl, Or.inl ⟨?_, by rw [hc2]⟩⟩
       rw [← hc2]
       rcases q3 with q | q
       · exact q.2
       · omega)
    | exact ⟨_, rfl, rfl, Or.inr ⟨by rw [← hc2]; rcases q3 with q | q; omega; exact q.2, rfl⟩⟩
theorem l_mcell {M : Mem} {r : Row} {hs : List Row} (hI : MS M r hs) (m : Nat) : ∀ (i : Nat) (j s : Int), j = i → s = oct r i → i ≤ M 1 1 * M 1 1 → 25 - i < m → J SHM mi_X7_orbits 4 [some (vR 0), some (vI s), some (vI j)] [] M (pu (vI (oct r (M 1 1 * M 1 1).toNat)) M) := by
  induction m with
  | zero => intro i j s hj0 hs1 h1 h2; have := (LaM_of hI.1 hI.2.1).2.2.2.2; omega
  | succ m ih =>
  intro i j s hj0 hs1 h1 h2
  subst hj0
  obtain ⟨hc, ho, hh, hq, hl, hd⟩ := id hI
  have hL := LaM_of hc ho
  have hg := GM_of hc ho
  obtain ⟨hP, es, hB, hnd, hes⟩ := id hd
  obtain ⟨hc1, hc2, hc3, hc4⟩ := id hc
  have ho4 := ho.2.2.2.1
  obtain ⟨hln, hv, hpm, hle⟩ := MS_b hI hB hnd hes
  obtain ⟨hk, hn1, hn5, hnn1, hnn2⟩ := id hL
  have ht := tu_c hk
  obtain ⟨hP1, hP2, hP3⟩ := id hP
  obtain ⟨hB1, hB2, hB3⟩ := id hB
  refine j_iload_n dX7_orbits_4 rfl ?_
  refine j_aload_n dX7_orbits_5 rfl ?_
  refine j_V0p dX7_orbits_6 ok_X7_cells v_X7_51 c_X7_cells rfl (e_X7_cells hL) ?_
  refine j_icmp_ge 38 dX7_orbits_9 rfl (by unfold inR; omega) (by unfold inR; omega) (fun c9 => ?_) (fun c9 => ?_)
  · refine j_iload_n dX7_orbits_38 rfl ?_
    refine j_iret dX7_orbits_39 rfl ?_
    have hi : (M 1 1 * M 1 1).toNat = i := by omega
    exact pu_i (by rw [hi]; exact hs1)
  · refine j_iload_n dX7_orbits_12 rfl ?_
    refine j_aload_n dX7_orbits_13 rfl ?_
    refine j_iload_n dX7_orbits_14 rfl ?_
    have hqi : 0 ≤ (i : Int) ∧ (i : Int) < M 1 1 * M 1 1 := by omega
    refine j_V1g dX7_orbits_15 ok_X7_orbit v_X7_171 c_X7_orbit rfl (e_X7_orbit (q := (i : Int)) hI (by assumption)) (fun v M9 q9 => ?_)
    obtain ⟨hM9, S, rfl, hS, hb⟩ := q9
    subst hM9
    have hself : S.testBit ((i : Int)).toNat = true := (hb _).mpr (by rw [Int.toNat_of_nonneg (by omega)]; exact onO_self ho (by omega) (by rw [← hc2]; omega))
    obtain ⟨p0, hp0, hpb, hpl⟩ := least_bit _ hself
    have hlst : lst r ((i : Int)) p0 := ⟨(hb p0).mp hpb, fun i a b z => hpl i.toNat (by omega) ((hb _).mpr (by rw [Int.toNat_of_nonneg a]; exact z))⟩
    refine j_S1p dX7_orbits_18 ok_X7_first s_X7_177 (e_X7_first hS (by omega) hpb hpl) ?_
    refine j_iload_n dX7_orbits_21 rfl ?_
    refine j_icmp_ne 29 dX7_orbits_22 rfl (by unfold inR; omega) (by unfold inR; omega) (fun c22 => ?_) (fun c22 => ?_)
    · refine j_iconst dX7_orbits_29 ?_
      refine j_iadd dX7_orbits_30 ?_
      refine j_istore_n dX7_orbits_31 (by decide) (nol rfl) (by show List.set _ 1 _ = _; simp only [List.set_cons_zero, List.set_cons_succ]; rfl) ?_
      refine j_iinc dX7_orbits_32 rfl (by decide) (nol rfl) (by simp only [List.set_cons_zero, List.set_cons_succ]; rfl) ?_
      refine j_goto 4 dX7_orbits_35 rfl ?_
      refine ih (i + 1) _ _ (by omega) ?_ (by omega) (by omega)
      have e9 : oct r (i + 1) = oct r i + (if ind (lst r i i) = 0 then 0 else 1) := rfl
      rw [e9]
      rw [ind_0 (fun z => c22 (lst_iff hlst z (by omega) (by omega))), if_pos rfl]
      omega
    · refine j_iconst dX7_orbits_25 ?_
      refine j_goto 30 dX7_orbits_26 rfl ?_
      refine j_iadd dX7_orbits_30 ?_
      refine j_istore_n dX7_orbits_31 (by decide) (nol rfl) (by show List.set _ 1 _ = _; simp only [List.set_cons_zero, List.set_cons_succ]; rfl) ?_
      refine j_iinc dX7_orbits_32 rfl (by decide) (nol rfl) (by simp only [List.set_cons_zero, List.set_cons_succ]; rfl) ?_
      refine j_goto 4 dX7_orbits_35 rfl ?_
      refine ih (i + 1) _ _ (by omega) ?_ (by omega) (by omega)
      have e9 : oct r (i + 1) = oct r i + (if ind (lst r i i) = 0 then 0 else 1) := rfl
      rw [e9]
      rw [ind_1 (by have h9 := hlst; rw [c22] at h9; exact h9), if_neg (by decide)]
      omega
theorem e_X7_orbits {M : Mem} {r : Row} {hs : List Row} (hI : MS M r hs)  : J SHM mi_X7_orbits 0 (ent [vR 0] 3) [] M (pu (vI (oct r (r.2.1 * r.2.1).toNat)) M) := by
  obtain ⟨hc, ho, hh, hq, hl, hd⟩ := id hI
  have hL := LaM_of hc ho
  have hg := GM_of hc ho
  obtain ⟨hP, es, hB, hnd, hes⟩ := id hd
  obtain ⟨hc1, hc2, hc3, hc4⟩ := id hc
  have ho4 := ho.2.2.2.1
  obtain ⟨hln, hv, hpm, hle⟩ := MS_b hI hB hnd hes
  obtain ⟨hk, hn1, hn5, hnn1, hnn2⟩ := id hL
  have ht := tu_c hk
  obtain ⟨hP1, hP2, hP3⟩ := id hP
  obtain ⟨hB1, hB2, hB3⟩ := id hB
  show J SHM mi_X7_orbits 0 [some (vR 0), none, none] [] M _
  refine j_iconst dX7_orbits_0 ?_
  refine j_istore_n dX7_orbits_1 (by decide) (nol rfl) (by show List.set _ 1 _ = _; simp only [List.set_cons_zero, List.set_cons_succ]; rfl) ?_
  refine j_iconst dX7_orbits_2 ?_
  refine j_istore_n dX7_orbits_3 (by decide) (nol rfl) (by show List.set _ 2 _ = _; simp only [List.set_cons_zero, List.set_cons_succ]; rfl) ?_
  have h9 := l_mcell hI 26 0 0 0 rfl rfl (by omega) (by omega)
  rw [hc2] at h9
  exact h9
theorem e_X7_orbitCount {M : Mem} {r : Row} {hs : List Row} (hI : MS M r hs)  : J SHM mi_X7_orbitCount 0 (ent [vR 0] 1) [] M (pu (vI (oct r (r.2.1 * r.2.1).toNat)) M) := by
  obtain ⟨hc, ho, hh, hq, hl, hd⟩ := id hI
  have hL := LaM_of hc ho
  have hg := GM_of hc ho
  obtain ⟨hP, es, hB, hnd, hes⟩ := id hd
  obtain ⟨hc1, hc2, hc3, hc4⟩ := id hc
  have ho4 := ho.2.2.2.1
  obtain ⟨hln, hv, hpm, hle⟩ := MS_b hI hB hnd hes
  obtain ⟨hk, hn1, hn5, hnn1, hnn2⟩ := id hL
  have ht := tu_c hk
  obtain ⟨hP1, hP2, hP3⟩ := id hP
  obtain ⟨hB1, hB2, hB3⟩ := id hB
  show J SHM mi_X7_orbitCount 0 [some (vR 0)] [] M _
  refine j_aload_n dX7_orbitCount_0 rfl ?_
  refine j_V0p dX7_orbitCount_1 ok_X7_orbits v_X7_183 c_X7_orbits rfl (e_X7_orbits hI) ?_
  refine j_iret dX7_orbitCount_4 rfl ?_
  exact pu_i (by first | rfl | omega | (simp; done))
theorem l_sym {M : Mem} {r : Row} {hs : List Row} (hI : MS M r hs) {d : Int} (hd : inR d) (m : Nat) : ∀ (i s : Int), 0 ≤ i → i ≤ M 1 1 * M 1 1 → M 1 1 * M 1 1 - i < m → ((s = 1 ∧ (∃ q : Int, 0 ≤ q ∧ q < i ∧ (stb r q : Int) = d)) ∨ (s = 0 ∧ ¬ (∃ q : Int, 0 ≤ q ∧ q < i ∧ (stb r q : Int) = d))) → J SHM mi_X7_isSymmorphic 13 [some (vR 0), some (vI d), some (vI s), some (vI i)] [] M (bz (∃ q : Int, 0 ≤ q ∧ q < (M 1 1 * M 1 1) ∧ (stb r q : Int) = d) M) := by
  induction m with
  | zero => intro i s h0 h1 h2; omega
  | succ m ih =>
  intro i s h0 h1 h2 hs3
  obtain ⟨hc, ho, hh, hq, hl, hd⟩ := id hI
  have hL := LaM_of hc ho
  have hg := GM_of hc ho
  obtain ⟨hP, es, hB, hnd, hes⟩ := id hd
  obtain ⟨hc1, hc2, hc3, hc4⟩ := id hc
  have ho4 := ho.2.2.2.1
  obtain ⟨hln, hv, hpm, hle⟩ := MS_b hI hB hnd hes
  obtain ⟨hk, hn1, hn5, hnn1, hnn2⟩ := id hL
  have ht := tu_c hk
  obtain ⟨hP1, hP2, hP3⟩ := id hP
  obtain ⟨hB1, hB2, hB3⟩ := id hB
  have hsb : (stb r i : Int) ≤ 300 := by
    have h8 := List.countP_le_length (p := fun c => decide (sc r.1 r.2.1 c i = i)) (l := GL r)
    have h7 := GL_len (r := r)
    unfold stb
    omega
  refine j_iload_n dX7_isSymmorphic_13 rfl ?_
  refine j_aload_n dX7_isSymmorphic_14 rfl ?_
  refine j_V0p dX7_isSymmorphic_15 ok_X7_cells v_X7_51 c_X7_cells rfl (e_X7_cells hL) ?_
  refine j_icmp_ge 46 dX7_isSymmorphic_18 rfl (by first | assumption | (unfold inR; omega)) (by first | assumption | (unfold inR; omega)) (fun c18 => ?_) (fun c18 => ?_)
  · refine j_iload_n dX7_isSymmorphic_46 rfl ?_
    refine j_if_eq 54 dX7_isSymmorphic_47 rfl (by first | assumption | (unfold inR; omega)) (fun c47 => ?_) (fun c47 => ?_)
    · refine j_iconst dX7_isSymmorphic_54 ?_
      refine j_iret dX7_isSymmorphic_55 rfl ?_
      have hi : i = M 1 1 * M 1 1 := by omega
      subst hi
      refine bz_i ?_
      rcases hs3 with q | q
      · first
        | exact Or.inl ⟨rfl, q.2⟩
        | (exfalso; omega)
      · first
        | exact Or.inr ⟨rfl, q.2⟩
        | (exfalso; omega)
    · refine j_iconst dX7_isSymmorphic_50 ?_
      refine j_goto 55 dX7_isSymmorphic_51 rfl ?_
      refine j_iret dX7_isSymmorphic_55 rfl ?_
      have hi : i = M 1 1 * M 1 1 := by omega
      subst hi
      refine bz_i ?_
      rcases hs3 with q | q
      · first
        | exact Or.inl ⟨rfl, q.2⟩
        | (exfalso; omega)
      · first
        | exact Or.inr ⟨rfl, q.2⟩
        | (exfalso; omega)
  · refine j_iload_n dX7_isSymmorphic_21 rfl ?_
    refine j_if_ne 34 dX7_isSymmorphic_22 rfl (by first | assumption | (unfold inR; omega)) (fun c22 => ?_) (fun c22 => ?_)
    · refine j_iconst dX7_isSymmorphic_34 ?_
      refine j_goto 39 dX7_isSymmorphic_35 rfl ?_
      refine j_istore_n dX7_isSymmorphic_39 (by decide) (nol rfl) (by show List.set _ 2 _ = _; simp only [List.set_cons_zero, List.set_cons_succ]; rfl) ?_
      refine j_iinc dX7_isSymmorphic_40 rfl (by decide) (nol rfl) (by simp only [List.set_cons_zero, List.set_cons_succ]; rfl) ?_
      refine j_goto 13 dX7_isSymmorphic_43 rfl ?_
      refine ih (i + 1) _ (by omega) (by omega) (by omega) ?_
      first
      | (exfalso; omega)
      | (refine Or.inl ⟨rfl, ?_⟩
         rcases hs3 with ⟨_, q, a, b, c⟩ | h
         · exact ⟨q, a, by omega, c⟩
         · omega)
      | exact Or.inl ⟨rfl, i, h0, by omega, by assumption⟩
      | (refine Or.inr ⟨rfl, ?_⟩
         have hs4 : ¬ (∃ q : Int, 0 ≤ q ∧ q < i ∧ (stb r q : Int) = d) := by
           rcases hs3 with h | h
           · omega
           · exact h.2
         rintro ⟨q, a, b, c⟩
         by_cases e : q = i
         · subst e
           exact absurd c (by assumption)
         · exact hs4 ⟨q, a, by omega, c⟩)
    · refine j_aload_n dX7_isSymmorphic_25 rfl ?_
      refine j_iload_n dX7_isSymmorphic_26 rfl ?_
      refine j_V1p dX7_isSymmorphic_27 ok_X7_stabilizer v_X7_180 c_X7_stabilizer rfl (e_X7_stabilizer (q := i) hI ⟨h0, by omega⟩) ?_
      refine j_iload_n dX7_isSymmorphic_30 rfl ?_
      refine j_icmp_ne 38 dX7_isSymmorphic_31 rfl (by first | assumption | (unfold inR; omega)) (by first | assumption | (unfold inR; omega)) (fun c31 => ?_) (fun c31 => ?_)
      · refine j_iconst dX7_isSymmorphic_38 ?_
        refine j_istore_n dX7_isSymmorphic_39 (by decide) (nol rfl) (by show List.set _ 2 _ = _; simp only [List.set_cons_zero, List.set_cons_succ]; rfl) ?_
        refine j_iinc dX7_isSymmorphic_40 rfl (by decide) (nol rfl) (by simp only [List.set_cons_zero, List.set_cons_succ]; rfl) ?_
        refine j_goto 13 dX7_isSymmorphic_43 rfl ?_
        refine ih (i + 1) _ (by omega) (by omega) (by omega) ?_
        first
        | (exfalso; omega)
        | (refine Or.inl ⟨rfl, ?_⟩
           rcases hs3 with ⟨_, q, a, b, c⟩ | h
           · exact ⟨q, a, by omega, c⟩
           · omega)
        | exact Or.inl ⟨rfl, i, h0, by omega, by assumption⟩
        | (refine Or.inr ⟨rfl, ?_⟩
           have hs4 : ¬ (∃ q : Int, 0 ≤ q ∧ q < i ∧ (stb r q : Int) = d) := by
             rcases hs3 with h | h
             · omega
             · exact h.2
           rintro ⟨q, a, b, c⟩
           by_cases e : q = i
           · subst e
             exact absurd c (by assumption)
           · exact hs4 ⟨q, a, by omega, c⟩)
      · refine j_iconst dX7_isSymmorphic_34 ?_
        refine j_goto 39 dX7_isSymmorphic_35 rfl ?_
        refine j_istore_n dX7_isSymmorphic_39 (by decide) (nol rfl) (by show List.set _ 2 _ = _; simp only [List.set_cons_zero, List.set_cons_succ]; rfl) ?_
        refine j_iinc dX7_isSymmorphic_40 rfl (by decide) (nol rfl) (by simp only [List.set_cons_zero, List.set_cons_succ]; rfl) ?_
        refine j_goto 13 dX7_isSymmorphic_43 rfl ?_
        refine ih (i + 1) _ (by omega) (by omega) (by omega) ?_
        first
        | (exfalso; omega)
        | (refine Or.inl ⟨rfl, ?_⟩
           rcases hs3 with ⟨_, q, a, b, c⟩ | h
           · exact ⟨q, a, by omega, c⟩
           · omega)
        | exact Or.inl ⟨rfl, i, h0, by omega, by assumption⟩
        | (refine Or.inr ⟨rfl, ?_⟩
           have hs4 : ¬ (∃ q : Int, 0 ≤ q ∧ q < i ∧ (stb r q : Int) = d) := by
             rcases hs3 with h | h
             · omega
             · exact h.2
           rintro ⟨q, a, b, c⟩
           by_cases e : q = i
           · subst e
             exact absurd c (by assumption)
           · exact hs4 ⟨q, a, by omega, c⟩)
theorem e_X7_isSymmorphic {M : Mem} {r : Row} {hs : List Row} (hI : MS M r hs)  : J SHM mi_X7_isSymmorphic 0 (ent [vR 0] 4) [] M (bz (∃ q : Int, 0 ≤ q ∧ q < r.2.1 * r.2.1 ∧ (stb r q : Int) = cntTo (MR r 16) 12) M) := by
  obtain ⟨hc, ho, hh, hq, hl, hd⟩ := id hI
  have hL := LaM_of hc ho
  have hg := GM_of hc ho
  obtain ⟨hP, es, hB, hnd, hes⟩ := id hd
  obtain ⟨hc1, hc2, hc3, hc4⟩ := id hc
  have ho4 := ho.2.2.2.1
  obtain ⟨hln, hv, hpm, hle⟩ := MS_b hI hB hnd hes
  obtain ⟨hk, hn1, hn5, hnn1, hnn2⟩ := id hL
  have ht := tu_c hk
  obtain ⟨hP1, hP2, hP3⟩ := id hP
  obtain ⟨hB1, hB2, hB3⟩ := id hB
  show J SHM mi_X7_isSymmorphic 0 [some (vR 0), none, none, none] [] M _
  refine j_aload_n dX7_isSymmorphic_0 rfl ?_
  refine j_iconst dX7_isSymmorphic_1 ?_
  refine j_V1g dX7_isSymmorphic_2 ok_X7_partSet v_X7_126 c_X7_partSet rfl (e_X7_partSet (re := 0) hI (by decide)) (fun v M9 q9 => ?_)
  obtain ⟨hM9, S, rfl, hS, hb⟩ := q9
  subst hM9
  have hb : ∀ p : Nat, p < 12 → bit S p = MR r 16 p := hb
  have hdb := cntTo_b (MR r 16) 12
  refine j_S1p dX7_isSymmorphic_5 ok_X7_ones s_X7_130 (e_X7_ones hS hb) ?_
  refine j_istore_n dX7_isSymmorphic_8 (by decide) (nol rfl) (by show List.set _ 1 _ = _; simp only [List.set_cons_zero, List.set_cons_succ]; rfl) ?_
  refine j_iconst dX7_isSymmorphic_9 ?_
  refine j_istore_n dX7_isSymmorphic_10 (by decide) (nol rfl) (by show List.set _ 2 _ = _; simp only [List.set_cons_zero, List.set_cons_succ]; rfl) ?_
  refine j_iconst dX7_isSymmorphic_11 ?_
  refine j_istore_n dX7_isSymmorphic_12 (by decide) (nol rfl) (by show List.set _ 3 _ = _; simp only [List.set_cons_zero, List.set_cons_succ]; rfl) ?_
  have h9 := l_sym hI (d := cntTo (MR r 16) 12) (by unfold inR; omega) 26 0 0 (by omega) (by omega) (by omega) (Or.inr ⟨rfl, fun ⟨q, a, b, _⟩ => by omega⟩)
  rw [hc2] at h9
  exact h9
theorem l_power7 {M : Mem} {b : Int} {e : Nat} (hb : inR b) (he : e ≤ 1000) (m : Nat) : ∀ (i : Nat), i ≤ e → e - i < m → J SHM mi_X7_power 5 [some (vI b), some (vI e), some (vL (b ^ i)), none, some (vI i)] [] M (pu (vL (b ^ e)) M) := by
  induction m with
  | zero => intro i h1 h2; omega
  | succ m ih =>
  intro i h1 h2
  refine j_iload dX7_power_5 rfl ?_
  refine j_iload_n dX7_power_7 rfl ?_
  refine j_icmp_ge 22 dX7_power_8 rfl (by first | assumption | (unfold inR; omega)) (by first | assumption | (unfold inR; omega)) (fun c8 => ?_) (fun c8 => ?_)
  · refine j_lload_n dX7_power_22 rfl ?_
    refine j_lret dX7_power_23 rfl ?_
    have hi : i = e := by omega
    subst hi
    exact pu_l rfl
  · refine j_lload_n dX7_power_11 rfl ?_
    refine j_iload_n dX7_power_12 rfl ?_
    refine j_i2l dX7_power_13 (by first | assumption | (unfold inR; omega)) ?_
    refine j_lmul dX7_power_14 ?_
    refine j_lstore_n dX7_power_15 (by decide) (nol rfl) (by show List.set (List.set _ 2 _) 3 _ = _; simp only [List.set_cons_zero, List.set_cons_succ]; rfl) ?_
    refine j_iinc dX7_power_16 rfl (by decide) (nol rfl) (by simp only [List.set_cons_zero, List.set_cons_succ]; rfl) ?_
    refine j_goto 5 dX7_power_19 rfl ?_
    have h9 := ih (i + 1) (by omega) (by omega)
    rw [Int.pow_succ] at h9
    exact h9
theorem e_X7_power {M : Mem} {b : Int} {e : Nat} (hb : inR b) (he : e ≤ 1000) : J SHM mi_X7_power 0 (ent [vI b, vI e] 5) [] M (pu (vL (b ^ e)) M) := by
  show J SHM mi_X7_power 0 [some (vI b), some (vI e), none, none, none] [] M _
  refine j_lconst (z := 1) dX7_power_0 rfl ?_
  refine j_lstore_n dX7_power_1 (by decide) (nol rfl) (by show List.set (List.set _ 2 _) 3 _ = _; simp only [List.set_cons_zero, List.set_cons_succ]; rfl) ?_
  refine j_iconst dX7_power_2 ?_
  refine j_istore dX7_power_3 (by decide) (nol rfl) (by show List.set _ 4 _ = _; simp only [List.set_cons_zero, List.set_cons_succ]; rfl) ?_
  have h9 := l_power7 (M := M) hb he (e + 1) 0 (by omega) (by omega)
  rw [Int.pow_zero] at h9
  exact h9
theorem cntTo_n (f : Int → Int) (N : Nat) : ∃ e : Nat, cntTo f N = e ∧ e ≤ N := by
  have := cntTo_b f N
  exact ⟨(cntTo f N).toNat, by omega, by omega⟩
theorem e_X7_invariantColorings {M : Mem} {r : Row} {hs : List Row} (hI : MS M r hs) {b : Int} (hi : inR b) : J SHM mi_X7_invariantColorings 0 (ent [vR 0, vI b] 2) [] M (pu (vL (if 1 ≤ b ∧ b ≤ 4 then b ^ (oct r (r.2.1 * r.2.1).toNat).toNat else -1)) M) := by
  obtain ⟨hc, ho, hh, hq, hl, hd⟩ := id hI
  have hL := LaM_of hc ho
  have hg := GM_of hc ho
  obtain ⟨hP, es, hB, hnd, hes⟩ := id hd
  obtain ⟨hc1, hc2, hc3, hc4⟩ := id hc
  have ho4 := ho.2.2.2.1
  obtain ⟨hln, hv, hpm, hle⟩ := MS_b hI hB hnd hes
  obtain ⟨hk, hn1, hn5, hnn1, hnn2⟩ := id hL
  have ht := tu_c hk
  obtain ⟨hP1, hP2, hP3⟩ := id hP
  obtain ⟨hB1, hB2, hB3⟩ := id hB
  obtain ⟨e, he, hel⟩ := cntTo_n (fun q => ind (lst r q q)) (r.2.1 * r.2.1).toNat
  have heo : oct r (r.2.1 * r.2.1).toNat = e := he
  rw [heo]
  have he25 : e ≤ 25 := by rw [← hc2] at hel; omega
  show J SHM mi_X7_invariantColorings 0 [some (vR 0), some (vI b)] [] M _
  refine j_iload_n dX7_invariantColorings_0 rfl ?_
  refine j_iconst dX7_invariantColorings_1 ?_
  refine j_iconst dX7_invariantColorings_2 ?_
  refine j_S3z dX7_invariantColorings_3 ok_X7_in s_X7_78 (e_X7_in (by first | assumption | (unfold inR; omega)) (by unfold inR; omega) (by first | assumption | (unfold inR; omega))) (fun z3 M3 q3 => ?_)
  obtain ⟨rfl, q3⟩ := q3
  refine j_if_eq 20 dX7_invariantColorings_6 rfl (by unfold inR; omega) (fun c6 => ?_) (fun c6 => ?_)
  · refine j_ldc2 (z := -1) kl_X7_190 rfl dX7_invariantColorings_20 ?_
    refine j_lret dX7_invariantColorings_23 rfl ?_
    first
    | (exact pu_l (by rw [if_pos (by omega)]; rfl))
    | (exact pu_l (by rw [if_neg (by omega)]))
  · refine j_iload_n dX7_invariantColorings_9 rfl ?_
    refine j_aload_n dX7_invariantColorings_10 rfl ?_
    refine j_V0p dX7_invariantColorings_11 ok_X7_orbits v_X7_183 c_X7_orbits rfl ((by rw [← heo]; exact e_X7_orbits hI : J SHM mi_X7_orbits 0 (ent [vR 0] 3) [] M (pu (vI e) M))) ?_
    refine j_S2p dX7_invariantColorings_14 ok_X7_power s_X7_186 (e_X7_power (by unfold inR; omega) (by omega)) ?_
    refine j_goto 23 dX7_invariantColorings_17 rfl ?_
    refine j_lret dX7_invariantColorings_23 rfl ?_
    first
    | (exact pu_l (by rw [if_pos (by omega)]; rfl))
    | (exact pu_l (by rw [if_neg (by omega)]))
/-- marks as bits -/
def MB (T : Nat) (S : List Int) : Prop := T < 2 ^ 25 ∧ ∀ p : Nat, p < 25 → (T.testBit p = true ↔ (p : Int) ∈ S)
def NB (nn : Int) (S : List Int) : Prop := S.Nodup ∧ ∀ x ∈ S, 0 ≤ x ∧ x < nn
theorem NB_push {nn : Int} {S : List Int} {q : Int} (h : NB nn S) (hq : q ∉ S) (h0 : 0 ≤ q) (h1 : q < nn) : NB nn (S ++ [q]) := by
  refine ⟨List.nodup_append.mpr ⟨h.1, by simp, ?_⟩, fun x hx => ?_⟩
  · intro a ha b hb
    rw [List.mem_singleton] at hb
    subst hb
    rintro rfl
    exact hq ha
  · rcases List.mem_append.mp hx with hx | hx
    · exact h.2 x hx
    · rw [List.mem_singleton.mp hx]; exact ⟨h0, h1⟩
theorem NB_wk {nn : Int} {f : Int → Int} (hf : ∀ q : Int, 0 ≤ q → q < nn → 0 ≤ f q ∧ f q < nn) : ∀ (m : Nat) (S : List Int) (q : Int), NB nn S → 0 ≤ q → q < nn → NB nn (wk f m S q)
  | 0, S, q, h, _, _ => h
  | m + 1, S, q, h, h0, h1 => by
    simp only [wk]
    by_cases e : q ∈ S
    · rw [if_pos e]; exact h
    · rw [if_neg e]
      exact NB_wk hf m _ _ (NB_push h e h0 h1) (hf q h0 h1).1 (hf q h0 h1).2
theorem NB_cyS {nn : Int} {f : Int → Int} (hf : ∀ q : Int, 0 ≤ q → q < nn → 0 ≤ f q ∧ f q < nn) : ∀ q : Nat, (q : Int) ≤ nn → NB nn (cyS f q).1
  | 0, _ => ⟨by simp [cyS], fun x hx => by simp [cyS] at hx⟩
  | q + 1, h => by
    simp only [cyS]
    split
    · exact NB_cyS hf q (by omega)
    · exact NB_wk hf 25 _ _ (NB_cyS hf q (by omega)) (by omega) (by omega)
theorem MB_push {T : Nat} {S : List Int} {q : Int} (h : MB T S) (h0 : 0 ≤ q) (h1 : q < 25) : MB (T ||| 2 ^ q.toNat) (S ++ [q]) := by
  have h2 : (2 : Nat) ^ q.toNat < 2 ^ 25 := Nat.pow_lt_pow_right (by decide) (by omega)
  refine ⟨Nat.or_lt_two_pow h.1 h2, fun p hp => ?_⟩
  rw [Nat.testBit_or, Nat.testBit_two_pow, Bool.or_eq_true, decide_eq_true_eq, h.2 p hp, List.mem_append, List.mem_singleton]
  constructor
  · rintro (a | a)
    · exact Or.inl a
    · exact Or.inr (by omega)
  · rintro (a | a)
    · exact Or.inl a
    · exact Or.inr (by omega)
theorem l_cyw {M : Mem} (hL : LaM M) (hP : MPt M) {c s cl : Int} (hv : vc (M 1 0) (M 1 1) c) {Q : Option PV → Mem → Prop} (m : Nat) : ∀ (S : List Int) (T : Nat) (q : Int), NB (M 1 1 * M 1 1) S → MB T S → 0 ≤ q → q < M 1 1 * M 1 1 → 25 ≤ S.length + m → (∀ (T1 : Nat) (w : Int), MB T1 (wk (sc (M 1 0) (M 1 1) c) m S q) → J SHM mi_X7_cycles 65 [some (vR 0), some (vI c), some (vI T1), some (vI s), some (vI cl), some (vI w)] [] M Q) → J SHM mi_X7_cycles 37 [some (vR 0), some (vI c), some (vI T), some (vI s), some (vI cl), some (vI q)] [] M Q := by
  induction m with
  | zero =>
  intro S T q hn hm h0 h1 h2 KK
  obtain ⟨hk, hn1, hn5, hc1, hc2⟩ := id hL
  have ht := tu_c hk
  obtain ⟨hP1, hP2, hP3⟩ := id hP
  have hbi := bit_01 T q.toNat
  have hmq := hm.2 q.toNat (by omega)
  rw [Int.toNat_of_nonneg h0] at hmq
  have hqS : q ∈ S := by
    apply Classical.byContradiction
    intro e
    have h9 := NB_push hn e h0 h1
    have h8 := nd_len 25 _ h9.1 (fun x hx => by have := h9.2 x hx; omega)
    rw [List.length_append] at h8
    simp only [List.length_singleton] at h8
    omega
  refine j_iload_n dX7_cycles_37 rfl ?_
  refine j_iload dX7_cycles_38 rfl ?_
  refine j_ishr dX7_cycles_40 (shr_i (Nat.lt_trans hm.1 (by decide)) (by omega)) ?_
  refine j_iconst dX7_cycles_41 ?_
  refine j_iand dX7_cycles_42 (i3_and1 _ _) ?_
  refine j_if_ne 65 dX7_cycles_43 rfl (by unfold inR; omega) (fun c43 => ?_) (fun c43 => ?_)
  · exact KK T q hm
  · exfalso
    rcases hbi with h | h
    · omega
    · exact h.2 (hmq.mpr hqS)
  | succ m ih =>
  intro S T q hn hm h0 h1 h2 KK
  obtain ⟨hk, hn1, hn5, hc1, hc2⟩ := id hL
  have ht := tu_c hk
  obtain ⟨hP1, hP2, hP3⟩ := id hP
  have hbi := bit_01 T q.toNat
  have hmq := hm.2 q.toNat (by omega)
  rw [Int.toNat_of_nonneg h0] at hmq
  refine j_iload_n dX7_cycles_37 rfl ?_
  refine j_iload dX7_cycles_38 rfl ?_
  refine j_ishr dX7_cycles_40 (shr_i (Nat.lt_trans hm.1 (by decide)) (by omega)) ?_
  refine j_iconst dX7_cycles_41 ?_
  refine j_iand dX7_cycles_42 (i3_and1 _ _) ?_
  refine j_if_ne 65 dX7_cycles_43 rfl (by unfold inR; omega) (fun c43 => ?_) (fun c43 => ?_)
  · have hin : q ∈ S := by
      rcases hbi with h | h
      · exact hmq.mp h.2
      · omega
    exact KK T q (by have ew : wk (sc (M 1 0) (M 1 1) c) (m + 1) S q = S := if_pos hin
                     rw [ew]; exact hm)
  · refine j_iload_n dX7_cycles_46 rfl ?_
    refine j_iconst dX7_cycles_47 ?_
    refine j_iload dX7_cycles_48 rfl ?_
    refine j_ishl dX7_cycles_50 (shl_i (by omega)) ?_
    refine j_ior dX7_cycles_51 (i3_or _ _) ?_
    refine j_istore_n dX7_cycles_52 (by decide) (nol rfl) (by show List.set _ 2 _ = _; simp only [List.set_cons_zero, List.set_cons_succ]; rfl) ?_
    refine j_aload_n dX7_cycles_53 rfl ?_
    refine j_iload_n dX7_cycles_54 rfl ?_
    refine j_iload dX7_cycles_55 rfl ?_
    refine j_V2p dX7_cycles_57 ok_X7_sends v_X7_165 c_X7_sends rfl (e_X7_sends hL hP hv ⟨h0, h1⟩) ?_
    refine j_istore dX7_cycles_60 (by decide) (nol rfl) (by show List.set _ 5 _ = _; simp only [List.set_cons_zero, List.set_cons_succ]; rfl) ?_
    refine j_goto 37 dX7_cycles_62 rfl ?_
    have hin : q ∉ S := by
      intro z
      rcases hbi with h | h
      · omega
      · exact h.2 (hmq.mpr z)
    have hsb := sc_b (k := M 1 0) (n := M 1 1) (c := c) (q := q) hn1
    refine ih (S ++ [q]) _ _ (NB_push hn hin h0 h1) (MB_push hm h0 (by omega)) hsb.1 hsb.2 (by rw [List.length_append, List.length_singleton]; omega) (fun T1 w hT => KK T1 w ?_)
    have ew : wk (sc (M 1 0) (M 1 1) c) (m + 1) S q = wk (sc (M 1 0) (M 1 1) c) m (S ++ [q]) ((sc (M 1 0) (M 1 1) c) q) := if_neg hin
    rw [ew]
    exact hT
theorem l_cy7 {M : Mem} (hL : LaM M) (hP : MPt M) {c : Int} (hv : vc (M 1 0) (M 1 1) c) (m : Nat) : ∀ (i : Nat) (j s : Int) (T : Nat) (w : Option PV), j = i → s = (cyS (sc (M 1 0) (M 1 1) c) i).2 → MB T (cyS (sc (M 1 0) (M 1 1) c) i).1 → (i : Int) ≤ M 1 1 * M 1 1 → 25 - i < m → J SHM mi_X7_cycles 7 [some (vR 0), some (vI c), some (vI T), some (vI s), some (vI j), w] [] M (pu (vI (cyc (M 1 0) (M 1 1) c)) M) := by
  induction m with
  | zero => intro i j s T w hj0 hs hm h1 h2; have := hL.2.2.2.2; omega
  | succ m ih =>
  intro i j s T w hj0 hs hm h1 h2
  subst hj0
  obtain ⟨hk, hn1, hn5, hc1, hc2⟩ := id hL
  have ht := tu_c hk
  obtain ⟨hP1, hP2, hP3⟩ := id hP
  have hcb := cyS_b (sc (M 1 0) (M 1 1) c) i
  have hbi := bit_01 T (i : Int).toNat
  have hNB := NB_cyS (nn := M 1 1 * M 1 1) (f := sc (M 1 0) (M 1 1) c) (fun q _ _ => sc_b hn1) i h1
  refine j_iload dX7_cycles_7 rfl ?_
  refine j_aload_n dX7_cycles_9 rfl ?_
  refine j_V0p dX7_cycles_10 ok_X7_cells v_X7_51 c_X7_cells rfl (e_X7_cells hL) ?_
  refine j_icmp_ge 71 dX7_cycles_13 rfl (by unfold inR; omega) (by unfold inR; omega) (fun c13 => ?_) (fun c13 => ?_)
  · refine j_iload_n dX7_cycles_71 rfl ?_
    refine j_iret dX7_cycles_72 rfl ?_
    have hi : (M 1 1 * M 1 1).toNat = i := by omega
    exact pu_i (by unfold cyc; rw [hi]; exact hs)
  · refine j_iload_n dX7_cycles_16 rfl ?_
    refine j_iload_n dX7_cycles_17 rfl ?_
    refine j_iload dX7_cycles_18 rfl ?_
    refine j_ishr dX7_cycles_20 (shr_i (Nat.lt_trans hm.1 (by decide)) (by omega)) ?_
    refine j_iconst dX7_cycles_21 ?_
    refine j_iand dX7_cycles_22 (i3_and1 _ _) ?_
    refine j_if_ne 30 dX7_cycles_23 rfl (by unfold inR; omega) (fun c23 => ?_) (fun c23 => ?_)
    · refine j_iconst dX7_cycles_30 ?_
      refine j_iadd dX7_cycles_31 ?_
      refine j_istore_n dX7_cycles_32 (by decide) (nol rfl) (by show List.set _ 3 _ = _; simp only [List.set_cons_zero, List.set_cons_succ]; rfl) ?_
      refine j_iload dX7_cycles_33 rfl ?_
      refine j_istore dX7_cycles_35 (by decide) (nol rfl) (by show List.set _ 5 _ = _; simp only [List.set_cons_zero, List.set_cons_succ]; rfl) ?_
      have hmi := hm.2 i (by omega)
      rw [show ((i : Int).toNat) = i from rfl] at hbi c23
      refine l_cyw hL hP hv 25 (cyS (sc (M 1 0) (M 1 1) c) i).1 T i hNB hm (by omega) (by omega) (by omega) (fun T1 w hT => ?_)
      refine j_iinc dX7_cycles_65 rfl (by decide) (nol rfl) (by simp only [List.set_cons_zero, List.set_cons_succ]; rfl) ?_
      refine j_goto 7 dX7_cycles_68 rfl ?_
      have hin : (i : Int) ∈ (cyS (sc (M 1 0) (M 1 1) c) i).1 := by
        rcases hbi with h | h
        · exact hmi.mp h.2
        · omega
      have e0 : cyS (sc (M 1 0) (M 1 1) c) (i + 1) = (cyS (sc (M 1 0) (M 1 1) c) i) := if_pos hin
      have ew : wk (sc (M 1 0) (M 1 1) c) 25 (cyS (sc (M 1 0) (M 1 1) c) i).1 i = (cyS (sc (M 1 0) (M 1 1) c) i).1 := if_pos hin
      rw [ew] at hT
      exact ih (i + 1) _ _ T1 _ (by omega) (by rw [e0]; omega) (by rw [e0]; exact hT) (by omega) (by omega)
    · refine j_iconst dX7_cycles_26 ?_
      refine j_goto 31 dX7_cycles_27 rfl ?_
      refine j_iadd dX7_cycles_31 ?_
      refine j_istore_n dX7_cycles_32 (by decide) (nol rfl) (by show List.set _ 3 _ = _; simp only [List.set_cons_zero, List.set_cons_succ]; rfl) ?_
      refine j_iload dX7_cycles_33 rfl ?_
      refine j_istore dX7_cycles_35 (by decide) (nol rfl) (by show List.set _ 5 _ = _; simp only [List.set_cons_zero, List.set_cons_succ]; rfl) ?_
      have hmi := hm.2 i (by omega)
      rw [show ((i : Int).toNat) = i from rfl] at hbi c23
      refine l_cyw hL hP hv 25 (cyS (sc (M 1 0) (M 1 1) c) i).1 T i hNB hm (by omega) (by omega) (by omega) (fun T1 w hT => ?_)
      refine j_iinc dX7_cycles_65 rfl (by decide) (nol rfl) (by simp only [List.set_cons_zero, List.set_cons_succ]; rfl) ?_
      refine j_goto 7 dX7_cycles_68 rfl ?_
      have hin : (i : Int) ∉ (cyS (sc (M 1 0) (M 1 1) c) i).1 := by
        intro z
        rcases hbi with h | h
        · omega
        · exact h.2 (hmi.mpr z)
      have e0 : cyS (sc (M 1 0) (M 1 1) c) (i + 1) = (wk (sc (M 1 0) (M 1 1) c) 25 (cyS (sc (M 1 0) (M 1 1) c) i).1 i, (cyS (sc (M 1 0) (M 1 1) c) i).2 + 1) := if_neg hin
      exact ih (i + 1) _ _ T1 _ (by omega) (by rw [e0]; show _ = (((cyS (sc (M 1 0) (M 1 1) c) i).2 + 1 : Nat) : Int); omega) (by rw [e0]; exact hT) (by omega) (by omega)
theorem e_X7_cycles {M : Mem} (hL : LaM M) (hP : MPt M) {c : Int} (hv : vc (M 1 0) (M 1 1) c) : J SHM mi_X7_cycles 0 (ent [vR 0, vI c] 6) [] M (pu (vI (cyc (M 1 0) (M 1 1) c)) M) := by
  obtain ⟨hk, hn1, hn5, hc1, hc2⟩ := id hL
  have ht := tu_c hk
  obtain ⟨hP1, hP2, hP3⟩ := id hP
  show J SHM mi_X7_cycles 0 [some (vR 0), some (vI c), none, none, none, none] [] M _
  refine j_iconst dX7_cycles_0 ?_
  refine j_istore_n dX7_cycles_1 (by decide) (nol rfl) (by show List.set _ 2 _ = _; simp only [List.set_cons_zero, List.set_cons_succ]; rfl) ?_
  refine j_iconst dX7_cycles_2 ?_
  refine j_istore_n dX7_cycles_3 (by decide) (nol rfl) (by show List.set _ 3 _ = _; simp only [List.set_cons_zero, List.set_cons_succ]; rfl) ?_
  refine j_iconst dX7_cycles_4 ?_
  refine j_istore dX7_cycles_5 (by decide) (nol rfl) (by show List.set _ 4 _ = _; simp only [List.set_cons_zero, List.set_cons_succ]; rfl) ?_
  exact l_cy7 hL hP hv 26 0 0 0 0 none rfl rfl ⟨by decide, fun p hp => by simp [cyS]⟩ (by omega) (by omega)
theorem colS_perm {b k n : Int} {x y : List Int} (h : x.Perm y) : colS b k n x = colS b k n y := by
  unfold colS
  induction h with
  | nil => rfl
  | cons x _ ih => simp only [List.map_cons, List.sum_cons, ih]
  | swap x y l => simp only [List.map_cons, List.sum_cons]; omega
  | trans _ _ h1 h2 => exact h1.trans h2
theorem colS_step {b k n x : Int} {es : List Int} {i : Nat} (h : es[i]? = some x) : colS b k n (es.take (i + 1)) = colS b k n (es.take i) + b ^ cyc k n x := by
  rw [List.take_add_one, h]
  exact colS_push
theorem l_col7 {M : Mem} (hL : LaM M) (hP : MPt M) {es : List Int} (hB : BM M es) (hln : es.length ≤ 300) (hv : ∀ x ∈ es, vc (M 1 0) (M 1 1) x) {b : Int} (hb : 1 ≤ b ∧ b ≤ 4) (hG0 : 0 < es.length) (m : Nat) : ∀ (i : Nat) (j : Int), j = i → i ≤ es.length → es.length - i < m → J SHM mi_X7_coloringClasses 18 [some (vR 0), some (vI b), some (vL (colS b (M 1 0) (M 1 1) (es.take i))), none, some (vI j)] [] M (pu (vL (colS b (M 1 0) (M 1 1) es / es.length)) M) := by
  induction m with
  | zero => intro i j hj0 h1 h2; omega
  | succ m ih =>
  intro i j hj0 h1 h2
  subst hj0
  obtain ⟨hk, hn1, hn5, hc1, hc2⟩ := id hL
  have ht := tu_c hk
  obtain ⟨hP1, hP2, hP3⟩ := id hP
  obtain ⟨hB1, hB2, hB3⟩ := id hB
  have hx := EsI (M := M) (i := i) hB hv
  have hcb := cyc_b (k := M 1 0) (c := M 6 i) hc2
  have hlen : (es.take i).length ≤ 300 := by rw [List.length_take]; omega
  have hcs := colS_b (k := M 1 0) (n := M 1 1) hb.1 hb.2 hc2 (es.take i)
  refine j_iload dX7_coloringClasses_18 rfl ?_
  refine j_aload_n dX7_coloringClasses_20 rfl ?_
  refine j_getI (kz := 8) rfl dX7_coloringClasses_21 f_X7_92 rfl rfl ?_
  refine j_icmp_ge 51 dX7_coloringClasses_24 rfl (by first | assumption | (unfold inR; omega)) (by first | assumption | (unfold inR; omega)) (fun c24 => ?_) (fun c24 => ?_)
  · refine j_lload_n dX7_coloringClasses_51 rfl ?_
    refine j_aload_n dX7_coloringClasses_52 rfl ?_
    refine j_getI (kz := 8) rfl dX7_coloringClasses_53 f_X7_92 rfl rfl ?_
    refine j_i2l dX7_coloringClasses_56 (by first | assumption | (unfold inR; omega)) ?_
    have e08 : i6 (M 0 8) = i6 es.length := by rw [hB1]
    rw [hB1]
    refine j_ldiv dX7_coloringClasses_57 (i6_ne0 (by omega) (by omega)) (i6_div hcs.1 (by omega) (by omega) (by omega)) ?_
    refine j_lret dX7_coloringClasses_58 rfl ?_
    have hi : i = es.length := by omega
    subst hi
    rw [List.take_length]
    exact pu_l rfl
  · refine j_lload_n dX7_coloringClasses_27 rfl ?_
    refine j_iload_n dX7_coloringClasses_28 rfl ?_
    refine j_aload_n dX7_coloringClasses_29 rfl ?_
    refine j_aload_n dX7_coloringClasses_30 rfl ?_
    refine j_getR dX7_coloringClasses_31 f_X7_26 rfl rfl ?_
    refine j_iload dX7_coloringClasses_34 rfl ?_
    refine j_iald dX7_coloringClasses_36 (by first | rfl | assumption) (by decide) (by omega) (by omega) ?_
    refine j_V1p dX7_coloringClasses_37 ok_X7_cycles v_X7_192 c_X7_cycles rfl (e_X7_cycles hL hP (hx (by omega)).1) ?_
    refine j_S2p dX7_coloringClasses_40 ok_X7_power s_X7_186 (e_X7_power (by unfold inR; omega) (by omega)) ?_
    refine j_ladd dX7_coloringClasses_43 ?_
    refine j_lstore_n dX7_coloringClasses_44 (by decide) (nol rfl) (by show List.set (List.set _ 2 _) 3 _ = _; simp only [List.set_cons_zero, List.set_cons_succ]; rfl) ?_
    refine j_iinc dX7_coloringClasses_45 rfl (by decide) (nol rfl) (by simp only [List.set_cons_zero, List.set_cons_succ]; rfl) ?_
    refine j_goto 18 dX7_coloringClasses_48 rfl ?_
    have h9 := ih (i + 1) ((i : Int) + 1) (by omega) (by omega) (by omega)
    rw [colS_step (hx (by omega)).2] at h9
    exact h9
theorem e_X7_coloringClasses {M : Mem} {r : Row} {hs : List Row} (hI : MS M r hs) {b : Int} (hi : inR b) : J SHM mi_X7_coloringClasses 0 (ent [vR 0, vI b] 5) [] M (pu (vL (if 1 ≤ b ∧ b ≤ 4 then colS b r.1 r.2.1 (GL r) / (GL r).length else -1)) M) := by
  obtain ⟨hc, ho, hh, hq, hl, hd⟩ := id hI
  have hL := LaM_of hc ho
  have hg := GM_of hc ho
  obtain ⟨hP, es, hB, hnd, hes⟩ := id hd
  obtain ⟨hc1, hc2, hc3, hc4⟩ := id hc
  have ho4 := ho.2.2.2.1
  obtain ⟨hln, hv, hpm, hle⟩ := MS_b hI hB hnd hes
  obtain ⟨hk, hn1, hn5, hnn1, hnn2⟩ := id hL
  have ht := tu_c hk
  obtain ⟨hP1, hP2, hP3⟩ := id hP
  obtain ⟨hB1, hB2, hB3⟩ := id hB
  have hG0 : 0 < (GL r).length := List.length_pos_of_mem GL_0
  show J SHM mi_X7_coloringClasses 0 [some (vR 0), some (vI b), none, none, none] [] M _
  refine j_iload_n dX7_coloringClasses_0 rfl ?_
  refine j_iconst dX7_coloringClasses_1 ?_
  refine j_iconst dX7_coloringClasses_2 ?_
  refine j_S3z dX7_coloringClasses_3 ok_X7_in s_X7_78 (e_X7_in (by first | assumption | (unfold inR; omega)) (by unfold inR; omega) (by first | assumption | (unfold inR; omega))) (fun z3 M3 q3 => ?_)
  obtain ⟨rfl, q3⟩ := q3
  refine j_if_ne 13 dX7_coloringClasses_6 rfl (by unfold inR; omega) (fun c6 => ?_) (fun c6 => ?_)
  · refine j_lconst (z := 0) dX7_coloringClasses_13 rfl ?_
    refine j_lstore_n dX7_coloringClasses_14 (by decide) (nol rfl) (by show List.set (List.set _ 2 _) 3 _ = _; simp only [List.set_cons_zero, List.set_cons_succ]; rfl) ?_
    refine j_iconst dX7_coloringClasses_15 ?_
    refine j_istore dX7_coloringClasses_16 (by decide) (nol rfl) (by show List.set _ 4 _ = _; simp only [List.set_cons_zero, List.set_cons_succ]; rfl) ?_
    have h9 := l_col7 hL hP hB hln hv (b := b) (by omega) (by omega) (es.length + 1) 0 0 rfl (by omega) (by omega)
    rw [hc1, hc2, colS_perm hpm, hle] at h9
    rw [if_pos (by omega)]
    exact h9
  · refine j_ldc2 (z := -1) kl_X7_190 rfl dX7_coloringClasses_9 ?_
    refine j_lret dX7_coloringClasses_12 rfl ?_
    exact pu_l (by rw [if_neg (by omega)])
