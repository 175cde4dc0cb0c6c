/-! THE MODEL: bits; sets of parts and of cells (bt .. nx_and: out of the kit's BITS.to-paste) -/
def bt (x : Int32) (i : Nat) : Bool := x.toBitVec.getLsbD i
theorem b_ext {x y : Int32} (h : ∀ i, i < 32 → bt x i = bt y i) : x = y := Int32.toBitVec_inj.mp (BitVec.eq_of_getLsbD_eq (fun i hi => h i hi))
theorem s_l : ∀ n, n < 32 → ((nI n &&& 31).toBitVec.smod 32).toNat = n := by decide +kernel
theorem b_sshr (n : Nat) (hn : n < 32) (x : Int32) {i : Nat} (hi : i < 32) : bt (x >>> (nI n &&& 31)) i = if n + i < 32 then bt x (n + i) else bt x 31 := by
  unfold bt
  rw [Int32.toBitVec_shiftRight]
  show (x.toBitVec.sshiftRight ((nI n &&& 31).toBitVec.smod 32).toNat).getLsbD i = _
  rw [s_l n hn, BitVec.getLsbD_sshiftRight, BitVec.msb_eq_getLsbD_last]
  simp [hi]
theorem nx_and (a b : Nat) : nI a &&& nI b = nI (a &&& b) := by
  apply Int32.toBitVec_inj.1
  show BitVec.ofNat 32 a &&& BitVec.ofNat 32 b = BitVec.ofNat 32 (a &&& b)
  apply BitVec.eq_of_getLsbD_eq
  intro i hi
  simp [hi]
theorem nx_or (a b : Nat) : nI a ||| nI b = nI (a ||| b) := by
  apply Int32.toBitVec_inj.1
  show BitVec.ofNat 32 a ||| BitVec.ofNat 32 b = BitVec.ofNat 32 (a ||| b)
  apply BitVec.eq_of_getLsbD_eq
  intro i hi
  simp [hi]
theorem i3_nI (n : Nat) : i3 (n : Int) = nI n := by
  apply Int32.toBitVec_inj.1
  show BitVec.ofInt 32 (n : Int) = BitVec.ofNat 32 n
  simp
theorem bt_nI (a i : Nat) (hi : i < 32) : bt (nI a) i = a.testBit i := by
  show (BitVec.ofNat 32 a).getLsbD i = a.testBit i
  rw [BitVec.getLsbD_ofNat, decide_eq_true hi, Bool.true_and]
theorem i3_or (a b : Nat) : i3 (a : Int) ||| i3 (b : Int) = i3 ((a ||| b : Nat) : Int) := by rw [i3_nI, i3_nI, i3_nI, nx_or]
theorem i3_shl1 : ∀ p, p < 31 → i3 1 <<< (i3 (p : Nat) &&& 31) = i3 ((2 ^ p : Nat) : Int) := by decide +kernel
theorem i3_shr {a p : Nat} (ha : a < 2 ^ 31) (hp : p < 31) : i3 (a : Int) >>> (i3 (p : Int) &&& 31) = i3 ((a >>> p : Nat) : Int) := by
  rw [i3_nI, i3_nI, i3_nI]
  apply b_ext
  intro i hi
  rw [b_sshr p (by omega) _ hi, bt_nI _ i hi, Nat.testBit_shiftRight]
  split
  · rw [bt_nI _ _ (by omega)]
  · rw [bt_nI _ _ (by omega), Nat.testBit_lt_two_pow ha, Nat.testBit_lt_two_pow (Nat.lt_of_lt_of_le ha (Nat.pow_le_pow_right (by decide) (by omega)))]
def bit (a : Nat) (p : Nat) : Int := if a.testBit p then 1 else 0
theorem i3_and1 (a p : Nat) : i3 ((a >>> p : Nat) : Int) &&& i3 1 = i3 (bit a p) := by
  have h1 : i3 1 = nI 1 := rfl
  rw [i3_nI, h1, nx_and, Nat.and_one_is_mod]
  unfold bit Nat.testBit
  rw [Nat.one_and_eq_mod_two]
  rcases Nat.mod_two_eq_zero_or_one (a >>> p) with h | h <;> rw [h] <;> rfl
def orL (g : Int → Bool) (f : Int → Nat) (es : List Int) : Nat := es.foldl (fun a c => if g c then a ||| 2 ^ f c else a) 0
theorem orL_push {g : Int → Bool} {f : Int → Nat} {es : List Int} {c : Int} : orL g f (es ++ [c]) = if g c then orL g f es ||| 2 ^ f c else orL g f es := by simp [orL]
theorem orL_bit {g : Int → Bool} {f : Int → Nat} {p : Nat} (es : List Int) : (orL g f es).testBit p = true ↔ ∃ c ∈ es, g c = true ∧ f c = p := by
  have key : ∀ (es : List Int) (a : Nat), (es.foldl (fun a c => if g c then a ||| 2 ^ f c else a) a).testBit p = true ↔ a.testBit p = true ∨ ∃ c ∈ es, g c = true ∧ f c = p := by
    intro es
    induction es with
    | nil => intro a; simp
    | cons c es ih =>
      intro a
      rw [List.foldl_cons, ih]
      by_cases hg : g c = true
      · rw [if_pos hg, Nat.testBit_or, Nat.testBit_two_pow]
        simp only [Bool.or_eq_true, decide_eq_true_eq, List.mem_cons]
        constructor
        · rintro ((h | h) | ⟨x, h1, h2⟩)
          · exact Or.inl h
          · exact Or.inr ⟨c, Or.inl rfl, hg, h⟩
          · exact Or.inr ⟨x, Or.inr h1, h2⟩
        · rintro (h | ⟨x, rfl | h1, h2⟩)
          · exact Or.inl (Or.inl h)
          · exact Or.inl (Or.inr h2.2)
          · exact Or.inr ⟨x, h1, h2⟩
      · rw [if_neg hg]
        constructor
        · rintro (h | ⟨x, h1, h2⟩)
          · exact Or.inl h
          · exact Or.inr ⟨x, List.mem_cons_of_mem _ h1, h2⟩
        · rintro (h | ⟨x, h1, h2⟩)
          · exact Or.inl h
          · rcases List.mem_cons.mp h1 with rfl | h3
            · exact absurd h2.1 hg
            · exact Or.inr ⟨x, h3, h2⟩
  have := key es 0
  simpa [orL] using this
theorem orL_lt {g : Int → Bool} {f : Int → Nat} {N : Nat} (hf : ∀ c, f c < N) (es : List Int) : orL g f es < 2 ^ N := by
  apply Nat.lt_pow_two_of_testBit
  intro i hi
  cases h : (orL g f es).testBit i
  · rfl
  · obtain ⟨c, -, -, hc⟩ := (orL_bit es).mp h
    have := hf c
    omega
/-- the two ways to know a reflection agree: a finite check -/
def rfmB (n : Nat) (x y : Int) (u v : Nat) : Bool := (List.range n).any (fun t => ((((t : Nat) : Int) * x.tdiv (gdv x y)) % (n : Int) == (u : Int)) && ((((t : Nat) : Int) * y.tdiv (gdv x y)) % (n : Int) == (v : Int)))
theorem rf_fin0 : (List.range 2).all (fun k => (List.range 6).all (fun n => (List.range 12).all (fun p => (List.range n).all (fun u => (List.range n).all (fun v => (!(decide ((if k = 1 then 6 else 4) ≤ p) && decide (p < (if k = 1 then 12 else 8)))) || (rfmB n (axv (k : Nat) (p : Nat)).1 (axv (k : Nat) (p : Nat)).2 u v == decide (((rfab (k : Nat) (p : Nat)).1 * (u : Nat) + (rfab (k : Nat) (p : Nat)).2 * (v : Nat)) % ((n : Nat) : Int) = 0))))))) = true := by decide +kernel
theorem rf_fin {k n p u v : Nat} (hk : k < 2) (hn : n < 6) (hp : p < 12) (h1 : (if k = 1 then 6 else 4) ≤ p) (h2 : p < (if k = 1 then 12 else 8)) (hu : u < n) (hv : v < n) : rfmB n (axv (k : Nat) (p : Nat)).1 (axv (k : Nat) (p : Nat)).2 u v = decide (((rfab (k : Nat) (p : Nat)).1 * (u : Nat) + (rfab (k : Nat) (p : Nat)).2 * (v : Nat)) % ((n : Nat) : Int) = 0) := by
  have a1 := List.all_eq_true.mp rf_fin0 k (List.mem_range.mpr hk)
  have a2 := List.all_eq_true.mp a1 n (List.mem_range.mpr hn)
  have a3 := List.all_eq_true.mp a2 p (List.mem_range.mpr hp)
  have a4 := List.all_eq_true.mp a3 u (List.mem_range.mpr hu)
  have a5 := List.all_eq_true.mp a4 v (List.mem_range.mpr hv)
  rw [decide_eq_true h1, decide_eq_true h2] at a5
  simpa using a5
theorem rfmB_iff {n u v : Nat} {x y : Int} : rfmB n x y u v = true ↔ rfm n x y u v := by
  unfold rfmB rfm
  rw [List.any_eq_true]
  constructor
  · rintro ⟨t, h1, h2⟩
    rw [List.mem_range] at h1
    simp only [Bool.and_eq_true, beq_iff_eq] at h2
    exact ⟨t, by omega, by omega, h2.1, h2.2⟩
  · rintro ⟨t, h1, h2, h3, h4⟩
    refine ⟨t.toNat, List.mem_range.mpr (by omega), ?_⟩
    simp only [Bool.and_eq_true, beq_iff_eq]
    rw [show ((t.toNat : Nat) : Int) = t by omega]
    exact ⟨h3, h4⟩
theorem rf_same {k n p u v : Int} (hk : k = 0 ∨ k = 1) (hn1 : 1 ≤ n) (hn5 : n ≤ 5) (hp : tu k ≤ p ∧ p < 2 * tu k) (hu : 0 ≤ u ∧ u < n) (hv : 0 ≤ v ∧ v < n) : rfm n (axv k p).1 (axv k p).2 u v ↔ ((rfab k p).1 * u + (rfab k p).2 * v) % n = 0 := by
  have key : ∀ k0 : Nat, k0 < 2 → k = k0 → (if k0 = 1 then 6 else 4 : Nat) = (tu k).toNat → (rfm n (axv k p).1 (axv k p).2 u v ↔ ((rfab k p).1 * u + (rfab k p).2 * v) % n = 0) := fun k0 h0 hk0 ht => by
    have ht1 : (if k0 = 1 then 12 else 8 : Nat) = 2 * (tu k).toNat := by rw [← ht]; split <;> rfl
    have h := rf_fin (k := k0) (n := n.toNat) (p := p.toNat) (u := u.toNat) (v := v.toNat) h0 (by omega) (by have := tu_c hk; omega) (by rw [ht]; omega) (by rw [ht1]; omega) (by omega) (by omega)
    rw [← hk0, show ((p.toNat : Nat) : Int) = p by omega, show ((u.toNat : Nat) : Int) = u by omega, show ((v.toNat : Nat) : Int) = v by omega, show ((n.toNat : Nat) : Int) = n by omega] at h
    have h2 := @rfmB_iff n.toNat u.toNat v.toNat (axv k p).1 (axv k p).2
    rw [show ((u.toNat : Nat) : Int) = u by omega, show ((v.toNat : Nat) : Int) = v by omega, show ((n.toNat : Nat) : Int) = n by omega] at h2
    rw [← h2, h, decide_eq_true_eq]
  rcases hk with rfl | rfl
  · exact key 0 (by decide) rfl rfl
  · exact key 1 (by decide) rfl rfl
theorem e_X7_kindOfCode {M : Mem} (hL : LaM M) (hP : MPt M) {c : Int} (hv : vc (M 1 0) (M 1 1) c) : J SHM mi_X7_kindOfCode 0 (ent [vR 0, vI c] 3) [] M (pu (vI (kn (M 1 0) (M 1 1) c)) M) := by
  obtain ⟨hk, hn1, hn5, hc1, hc2⟩ := id hL
  have ht := tu_c hk
  obtain ⟨hP1, hP2, hP3⟩ := id hP
  obtain ⟨hc0, hc1, hcp0, hcp1⟩ := vc_b hk hc1 hc2 hv
  have hcxy := cXY_b hn1 c
  have hcp : 0 ≤ cP (M 1 1) c ∧ cP (M 1 1) c < 2 * tu (M 1 0) := ⟨hcp0, hcp1⟩
  have hrs := fun (h : tu (M 1 0) ≤ cP (M 1 1) c) => rf_same hk hn1 hn5 ⟨h, hcp1⟩ ⟨hcxy.1, hcxy.2.1⟩ ⟨hcxy.2.2.1, hcxy.2.2.2⟩
  show J SHM mi_X7_kindOfCode 0 [some (vR 0), some (vI c), none] [] M _
  refine j_aload_n dX7_kindOfCode_0 rfl ?_
  refine j_iload_n dX7_kindOfCode_1 rfl ?_
  refine j_V1p dX7_kindOfCode_2 ok_X7_partOf v_X7_59 c_X7_partOf rfl (e_X7_partOf hL (by omega) (by omega)) ?_
  refine j_istore_n dX7_kindOfCode_5 (by decide) (nol rfl) (by show List.set _ 2 _ = _; simp only [List.set_cons_zero, List.set_cons_succ]; rfl) ?_
  refine j_iload_n dX7_kindOfCode_6 rfl ?_
  refine j_if_ne 14 dX7_kindOfCode_7 rfl (by unfold inR; omega) (fun c7 => ?_) (fun c7 => ?_)
  · refine j_aload_n dX7_kindOfCode_14 rfl ?_
    refine j_iload_n dX7_kindOfCode_15 rfl ?_
    refine j_V1z dX7_kindOfCode_16 ok_X7_isTurn v_X7_85 c_X7_isTurn rfl (e_X7_isTurn hL hP (by omega)) (fun z16 M16 q16 => ?_)
    obtain ⟨rfl, q16⟩ := q16
    refine j_if_eq 26 dX7_kindOfCode_19 rfl (by unfold inR; omega) (fun c19 => ?_) (fun c19 => ?_)
    · refine j_aload_n dX7_kindOfCode_26 rfl ?_
      refine j_iload_n dX7_kindOfCode_27 rfl ?_
      refine j_V1z dX7_kindOfCode_28 ok_X7_isReflection v_X7_89 c_X7_isReflection rfl (e_X7_isReflection hL hP hv (by omega)) (fun z28 M28 q28 => ?_)
      obtain ⟨rfl, q28⟩ := q28
      refine j_if_eq 38 dX7_kindOfCode_31 rfl (by unfold inR; omega) (fun c31 => ?_) (fun c31 => ?_)
      · refine j_iconst dX7_kindOfCode_38 ?_
        refine j_iret dX7_kindOfCode_39 rfl ?_
        apply pu_i
        unfold kn
        first
        | rw [if_pos (by assumption)]
        | (rw [if_neg (by assumption), if_pos (by omega)]; done)
        | (rw [if_neg (by assumption), if_neg (by omega), if_pos (by rcases q28 with q | q; exact (hrs (by omega)).mp q.2; omega)]; done)
        | (rw [if_neg (by assumption), if_neg (by omega), if_neg (by rcases q28 with q | q; omega; exact fun h => q.2 ((hrs (by omega)).mpr h))]; done)
      · refine j_iconst dX7_kindOfCode_34 ?_
        refine j_goto 39 dX7_kindOfCode_35 rfl ?_
        refine j_iret dX7_kindOfCode_39 rfl ?_
        apply pu_i
        unfold kn
        first
        | rw [if_pos (by assumption)]
        | (rw [if_neg (by assumption), if_pos (by omega)]; done)
        | (rw [if_neg (by assumption), if_neg (by omega), if_pos (by rcases q28 with q | q; exact (hrs (by omega)).mp q.2; omega)]; done)
        | (rw [if_neg (by assumption), if_neg (by omega), if_neg (by rcases q28 with q | q; omega; exact fun h => q.2 ((hrs (by omega)).mpr h))]; done)
    · refine j_iconst dX7_kindOfCode_22 ?_
      refine j_goto 39 dX7_kindOfCode_23 rfl ?_
      refine j_iret dX7_kindOfCode_39 rfl ?_
      apply pu_i
      unfold kn
      first
      | rw [if_pos (by assumption)]
      | (rw [if_neg (by assumption), if_pos (by omega)]; done)
      | (rw [if_neg (by assumption), if_neg (by omega), if_pos (by rcases q28 with q | q; exact (hrs (by omega)).mp q.2; omega)]; done)
      | (rw [if_neg (by assumption), if_neg (by omega), if_neg (by rcases q28 with q | q; omega; exact fun h => q.2 ((hrs (by omega)).mpr h))]; done)
  · refine j_iconst dX7_kindOfCode_10 ?_
    refine j_goto 39 dX7_kindOfCode_11 rfl ?_
    refine j_iret dX7_kindOfCode_39 rfl ?_
    apply pu_i
    unfold kn
    first
    | rw [if_pos (by assumption)]
    | (rw [if_neg (by assumption), if_pos (by omega)]; done)
    | (rw [if_neg (by assumption), if_neg (by omega), if_pos (by rcases q28 with q | q; exact (hrs (by omega)).mp q.2; omega)]; done)
    | (rw [if_neg (by assumption), if_neg (by omega), if_neg (by rcases q28 with q | q; omega; exact fun h => q.2 ((hrs (by omega)).mpr h))]; done)
