/-! MATHS: the movements are a group, and it acts on the cells -/
theorem md_add {n a b : Int} (x : Int) (h : a % n = b % n) : (a + x) % n = (b + x) % n := by
  rw [← Int.emod_add_emod, h, Int.emod_add_emod]
theorem md_lin {n : Int} (a b x y u : Int) : (a * (x % n) + b * (y % n) + u) % n = (a * x + b * y + u) % n := by
  have hx := Int.mul_ediv_add_emod x n
  have hy := Int.mul_ediv_add_emod y n
  have e : a * x + b * y + u = a * (x % n) + b * (y % n) + u + n * (a * (x / n) + b * (y / n)) := by
    have h1 : a * x = a * (n * (x / n) + x % n) := by rw [hx]
    have h2 : b * y = b * (n * (y / n) + y % n) := by rw [hy]
    rw [h1, h2]
    grind
  rw [e, Int.add_mul_emod_self_left]
theorem mkc_cg {n p x y x' y' : Int} (h1 : x % n = x' % n) (h2 : y % n = y' % n) : mkc n p x y = mkc n p x' y' := by
  unfold mkc; rw [h1, h2]
/-- finite tables of the linear parts -/
theorem fin_comp : ∀ k, k < 2 → ∀ i, i < (if k = 1 then 12 else 8) → ∀ j, j < (if k = 1 then 12 else 8) → mtb (en (k : Nat)) (i : Nat) (j : Nat) (tp (k : Nat) (i : Nat) (j : Nat)) = true := by decide +kernel
theorem fin_assoc : (List.range 2).all (fun k => (List.range (if k = 1 then 12 else 8)).all (fun i => (List.range (if k = 1 then 12 else 8)).all (fun j => (List.range (if k = 1 then 12 else 8)).all (fun m => tp (k : Nat) (tp (k : Nat) (i : Nat) (j : Nat)) (m : Nat) == tp (k : Nat) (i : Nat) (tp (k : Nat) (j : Nat) (m : Nat)))))) = true := by decide +kernel
theorem fin_unit : (List.range 2).all (fun k => (List.range (if k = 1 then 12 else 8)).all (fun i => tp (k : Nat) 0 (i : Nat) == (i : Nat) && tp (k : Nat) (i : Nat) 0 == (i : Nat) && tp (k : Nat) (ip (k : Nat) (i : Nat)) (i : Nat) == 0 && tp (k : Nat) (i : Nat) (ip (k : Nat) (i : Nat)) == 0)) = true := by decide +kernel
theorem k_nat {k : Int} (hk : k = 0 ∨ k = 1) : ∃ k0 : Nat, k0 < 2 ∧ k = k0 ∧ ((if k0 = 1 then 12 else 8 : Nat) : Int) = 2 * tu k := by
  rcases hk with rfl | rfl
  · exact ⟨0, by decide, rfl, rfl⟩
  · exact ⟨1, by decide, rfl, rfl⟩
theorem tp_comp {k i j : Int} (hk : k = 0 ∨ k = 1) (hi : 0 ≤ i ∧ i < 2 * tu k) (hj : 0 ≤ j ∧ j < 2 * tu k) : mtc (en k) i j (tp k i j) := by
  obtain ⟨k0, h1, h2, h3⟩ := k_nat hk
  have h := fin_comp k0 h1 i.toNat (by omega) j.toNat (by omega)
  rw [← h2, Int.toNat_of_nonneg hi.1, Int.toNat_of_nonneg hj.1] at h
  exact mtb_iff.mp h
theorem tp_assoc {k i j m : Int} (hk : k = 0 ∨ k = 1) (hi : 0 ≤ i ∧ i < 2 * tu k) (hj : 0 ≤ j ∧ j < 2 * tu k) (hm : 0 ≤ m ∧ m < 2 * tu k) : tp k (tp k i j) m = tp k i (tp k j m) := by
  obtain ⟨k0, h1, h2, h3⟩ := k_nat hk
  have a1 := List.all_eq_true.mp fin_assoc k0 (List.mem_range.mpr h1)
  have a2 := List.all_eq_true.mp a1 i.toNat (List.mem_range.mpr (by omega))
  have a3 := List.all_eq_true.mp a2 j.toNat (List.mem_range.mpr (by omega))
  have a4 := List.all_eq_true.mp a3 m.toNat (List.mem_range.mpr (by omega))
  rw [← h2, Int.toNat_of_nonneg hi.1, Int.toNat_of_nonneg hj.1, Int.toNat_of_nonneg hm.1, beq_iff_eq] at a4
  exact a4
theorem tp_unit {k i : Int} (hk : k = 0 ∨ k = 1) (hi : 0 ≤ i ∧ i < 2 * tu k) : tp k 0 i = i ∧ tp k i 0 = i ∧ tp k (ip k i) i = 0 ∧ tp k i (ip k i) = 0 := by
  obtain ⟨k0, h1, h2, h3⟩ := k_nat hk
  have a1 := List.all_eq_true.mp fin_unit k0 (List.mem_range.mpr h1)
  have a2 := List.all_eq_true.mp a1 i.toNat (List.mem_range.mpr (by omega))
  rw [← h2, Int.toNat_of_nonneg hi.1] at a2
  simp only [Bool.and_eq_true, beq_iff_eq] at a2
  exact ⟨a2.1.1.1, a2.1.1.2, a2.1.2, a2.2⟩
theorem im_comp {k i j : Int} (hk : k = 0 ∨ k = 1) (hi : 0 ≤ i ∧ i < 2 * tu k) (hj : 0 ≤ j ∧ j < 2 * tu k) (x y : Int) : imx k (tp k i j) x y = imx k i (imx k j x y) (imy k j x y) ∧ imy k (tp k i j) x y = imy k i (imx k j x y) (imy k j x y) := by
  obtain ⟨h1, h2, h3, h4⟩ := tp_comp hk hi hj
  unfold imx imy
  rw [h1, h2, h3, h4]
  constructor <;> grind
theorem im_0 (k x y : Int) : imx k 0 x y = x ∧ imy k 0 x y = y := by
  have e1 : en k 0 0 = 1 := by unfold en; split <;> rfl
  have e2 : en k 0 1 = 0 := by unfold en; split <;> rfl
  have e3 : en k 0 2 = 0 := by unfold en; split <;> rfl
  have e4 : en k 0 3 = 1 := by unfold en; split <;> rfl
  unfold imx imy
  rw [e1, e2, e3, e4]
  constructor <;> omega
theorem im_add (k p x y u v : Int) : imx k p (x + u) (y + v) = imx k p x y + imx k p u v ∧ imy k p (x + u) (y + v) = imy k p x y + imy k p u v := by
  unfold imx imy; constructor <;> grind
theorem im_neg (k p x y : Int) : imx k p (-x) (-y) = -imx k p x y ∧ imy k p (-x) (-y) = -imy k p x y := by
  unfold imx imy; constructor <;> grind
theorem im_00 (k p : Int) : imx k p 0 0 = 0 ∧ imy k p 0 0 = 0 := by
  unfold imx imy; constructor <;> omega
theorem mkc_0 {n x y : Int} (hx : x = 0) (hy : y = 0) : mkc n 0 x y = 0 := by
  subst hx; subst hy; unfold mkc; simp
theorem mkc_eq {n c : Int} (hn1 : 1 ≤ n) : mkc n (cP n c) (cX n c) (cY n c) = c := mkc_self c hn1
theorem tm_mk {k n : Int} (hn1 : 1 ≤ n) (p u v q s t : Int) : tm k n (mkc n p u v) (mkc n q s t) = mkc n (tp k p q) (imx k p s t + u) (imy k p s t + v) := by
  unfold tm
  have h1 := mkc_P (x := u) (y := v) p hn1
  have h2 := mkc_P (x := s) (y := t) q hn1
  rw [h1.1, h1.2.1, h1.2.2, h2.1, h2.2.1, h2.2.2]
  refine mkc_cg ?_ ?_
  · unfold imx
    rw [md_lin, Int.add_emod_emod]
  · unfold imy
    rw [md_lin, Int.add_emod_emod]
theorem iv_mk {k n : Int} (hn1 : 1 ≤ n) (p u v : Int) : iv k n (mkc n p u v) = mkc n (ip k p) (-imx k (ip k p) u v) (-imy k (ip k p) u v) := by
  unfold iv
  have h1 := mkc_P (x := u) (y := v) p hn1
  rw [h1.1, h1.2.1, h1.2.2]
  refine mkc_cg ?_ ?_
  · have := md_lin (n := n) (-en k (ip k p) 0) (-en k (ip k p) 1) u v 0
    unfold imx
    rw [show -(en k (ip k p) 0 * (u % n) + en k (ip k p) 1 * (v % n)) = -en k (ip k p) 0 * (u % n) + -en k (ip k p) 1 * (v % n) + 0 by grind, this]
    congr 1
    grind
  · have := md_lin (n := n) (-en k (ip k p) 2) (-en k (ip k p) 3) u v 0
    unfold imy
    rw [show -(en k (ip k p) 2 * (u % n) + en k (ip k p) 3 * (v % n)) = -en k (ip k p) 2 * (u % n) + -en k (ip k p) 3 * (v % n) + 0 by grind, this]
    congr 1
    grind
theorem sc_mk {k n : Int} (hn1 : 1 ≤ n) (p u v x y : Int) : sc k n (mkc n p u v) (mkc n 0 x y) = mkc n 0 (imx k p x y + u) (imy k p x y + v) := by
  have h1 := mkc_P (x := u) (y := v) p hn1
  have a1 := Int.emod_nonneg x (show n ≠ 0 by omega)
  have a2 := Int.emod_lt_of_pos x (show 0 < n by omega)
  have a3 := Int.emod_nonneg y (show n ≠ 0 by omega)
  have a4 := Int.emod_lt_of_pos y (show 0 < n by omega)
  have e : mkc n 0 x y = n * (x % n) + y % n := by unfold mkc; omega
  have e1 : mkc n 0 x y / n = x % n := by
    rw [e, Int.add_comm, Int.add_mul_ediv_left _ _ (by omega), Int.ediv_eq_zero_of_lt a3 a4, Int.zero_add]
  have e2 : mkc n 0 x y % n = y % n := by
    rw [e, Int.add_comm, Int.add_mul_emod_self_left, Int.emod_emod_of_dvd _ (Int.dvd_refl n)]
  unfold sc
  rw [h1.1, h1.2.1, h1.2.2, e1, e2]
  have e3 : mkc n 0 (imx k p x y + u) (imy k p x y + v) = n * ((imx k p x y + u) % n) + (imy k p x y + v) % n := by unfold mkc; omega
  rw [e3]
  unfold imx imy
  rw [Int.add_emod_emod, Int.add_emod_emod, md_lin, md_lin]
theorem cell_mk {n q : Int} (hn1 : 1 ≤ n) (h0 : 0 ≤ q) (h1 : q < n * n) : mkc n 0 (q / n) (q % n) = q := by
  have hd := Int.ediv_nonneg h0 (show 0 ≤ n by omega)
  have hd2 := Int.ediv_lt_of_lt_mul (show 0 < n by omega) h1
  have hm := Int.emod_nonneg q (show n ≠ 0 by omega)
  have hm2 := Int.emod_lt_of_pos q (show 0 < n by omega)
  have hq := Int.mul_ediv_add_emod q n
  unfold mkc
  rw [Int.emod_eq_of_lt hd hd2, Int.emod_eq_of_lt hm hm2]
  omega
section GRP
variable {k n : Int}
theorem tm_assoc (hk : k = 0 ∨ k = 1) (hn1 : 1 ≤ n) (hc : 1 ≤ n * n ∧ n * n ≤ 25) {a b c : Int} (ha : vc k n a) (hb : vc k n b) (hcc : vc k n c) : tm k n (tm k n a b) c = tm k n a (tm k n b c) := by
  have pa := (vc_b hk hc.1 hc.2 ha).2.2
  have pb := (vc_b hk hc.1 hc.2 hb).2.2
  have pc := (vc_b hk hc.1 hc.2 hcc).2.2
  rw [← mkc_eq (c := a) hn1, ← mkc_eq (c := b) hn1, ← mkc_eq (c := c) hn1]
  simp only [tm_mk hn1]
  rw [tp_assoc hk pa pb pc]
  have h := im_comp hk pa pb (cX n c) (cY n c)
  have h2 := im_add k (cP n a) (imx k (cP n b) (cX n c) (cY n c)) (imy k (cP n b) (cX n c) (cY n c)) (cX n b) (cY n b)
  rw [h.1, h.2, h2.1, h2.2, Int.add_assoc, Int.add_assoc]
theorem zero_mk : (0 : Int) = mkc n 0 0 0 := (mkc_0 rfl rfl).symm
theorem tm_0l (hk : k = 0 ∨ k = 1) (hn1 : 1 ≤ n) (hc : 1 ≤ n * n ∧ n * n ≤ 25) {a : Int} (ha : vc k n a) : tm k n 0 a = a := by
  have pa := (vc_b hk hc.1 hc.2 ha).2.2
  rw [← mkc_eq (c := a) hn1]
  conv => lhs; rw [zero_mk (n := n)]
  rw [tm_mk hn1, (tp_unit hk pa).1, (im_0 _ _ _).1, (im_0 _ _ _).2, Int.add_zero, Int.add_zero]
theorem tm_0r (hk : k = 0 ∨ k = 1) (hn1 : 1 ≤ n) (hc : 1 ≤ n * n ∧ n * n ≤ 25) {a : Int} (ha : vc k n a) : tm k n a 0 = a := by
  have pa := (vc_b hk hc.1 hc.2 ha).2.2
  rw [← mkc_eq (c := a) hn1]
  conv => lhs; rw [zero_mk (n := n)]
  rw [tm_mk hn1, (tp_unit hk pa).2.1, (im_00 _ _).1, (im_00 _ _).2, Int.zero_add, Int.zero_add]
theorem tm_iv (hk : k = 0 ∨ k = 1) (hn1 : 1 ≤ n) (hc : 1 ≤ n * n ∧ n * n ≤ 25) {a : Int} (ha : vc k n a) : tm k n (iv k n a) a = 0 ∧ tm k n a (iv k n a) = 0 := by
  have pa := (vc_b hk hc.1 hc.2 ha).2.2
  have pi := ip_b hk pa.1 pa.2
  have hu := tp_unit hk pa
  rw [← mkc_eq (c := a) hn1, iv_mk hn1, tm_mk hn1, tm_mk hn1, hu.2.2.1, hu.2.2.2]
  have hcm := im_comp hk pa pi (cX n a) (cY n a)
  have h0 := im_0 k (cX n a) (cY n a)
  have hng := im_neg k (cP n a) (imx k (ip k (cP n a)) (cX n a) (cY n a)) (imy k (ip k (cP n a)) (cX n a) (cY n a))
  rw [hu.2.2.2] at hcm
  constructor
  · exact mkc_0 (by omega) (by omega)
  · refine mkc_0 ?_ ?_
    · rw [hng.1, ← hcm.1, h0.1]; omega
    · rw [hng.2, ← hcm.2, h0.2]; omega
theorem sc_tm (hk : k = 0 ∨ k = 1) (hn1 : 1 ≤ n) (hc : 1 ≤ n * n ∧ n * n ≤ 25) {a b q : Int} (ha : vc k n a) (hb : vc k n b) (h0 : 0 ≤ q) (h1 : q < n * n) : sc k n (tm k n a b) q = sc k n a (sc k n b q) := by
  have pa := (vc_b hk hc.1 hc.2 ha).2.2
  have pb := (vc_b hk hc.1 hc.2 hb).2.2
  rw [← mkc_eq (c := a) hn1, ← mkc_eq (c := b) hn1, ← cell_mk hn1 h0 h1]
  simp only [tm_mk hn1, sc_mk hn1]
  have h := im_comp hk pa pb (q / n) (q % n)
  have h2 := im_add k (cP n a) (imx k (cP n b) (q / n) (q % n)) (imy k (cP n b) (q / n) (q % n)) (cX n b) (cY n b)
  rw [h.1, h.2, h2.1, h2.2, Int.add_assoc, Int.add_assoc]
theorem tm_canc (hk : k = 0 ∨ k = 1) (hn1 : 1 ≤ n) (hc : 1 ≤ n * n ∧ n * n ≤ 25) {a b c : Int} (ha : vc k n a) (hb : vc k n b) (hcc : vc k n c) (h : tm k n a c = tm k n b c) : a = b := by
  have vi := vc_iv hk hn1 hc.1 hc.2 hcc
  have h1 := congrArg (fun z => tm k n z (iv k n c)) h
  simp only [tm_assoc hk hn1 hc ha hcc vi, tm_assoc hk hn1 hc hb hcc vi, (tm_iv hk hn1 hc hcc).2] at h1
  rwa [tm_0r hk hn1 hc ha, tm_0r hk hn1 hc hb] at h1
theorem iv_tm (hk : k = 0 ∨ k = 1) (hn1 : 1 ≤ n) (hc : 1 ≤ n * n ∧ n * n ≤ 25) {a b : Int} (ha : vc k n a) (hb : vc k n b) : iv k n (tm k n a b) = tm k n (iv k n b) (iv k n a) := by
  have va := vc_iv hk hn1 hc.1 hc.2 ha
  have vb := vc_iv hk hn1 hc.1 hc.2 hb
  have vab : vc k n (tm k n a b) := vc_tm hk hn1
  refine tm_canc hk hn1 hc (vc_iv hk hn1 hc.1 hc.2 vab) (vc_tm hk hn1) vab ?_
  rw [(tm_iv hk hn1 hc vab).1, tm_assoc hk hn1 hc vb va vab, ← tm_assoc hk hn1 hc va ha hb, (tm_iv hk hn1 hc ha).1, tm_0l hk hn1 hc hb, (tm_iv hk hn1 hc hb).1]
end GRP
