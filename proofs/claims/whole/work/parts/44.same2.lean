/-! MATHS: the class's features and orbits in words of the row -/
section FTS
variable {M : Mem} {r : Row} {hs : List Row}
theorem ft_b (hI : CI M r hs) : M 1 0 = MR r 1 0 ∧ M 1 1 = MR r 1 1 ∧ (∀ c : Int, 0 ≤ c → c < 300 → M 11 c = MR r 11 c) ∧ (∀ p : Int, 0 ≤ p → p < 12 → M 16 p = MR r 16 p) ∧ ∀ p : Int, 0 ≤ p → p < 12 → M 17 p = MR r 17 p := by
  obtain ⟨hc, ho, hh, hq, hl, d1, d2, d3, ⟨f1, f2, f3⟩, d5⟩ := hI
  obtain ⟨hc1, hc2, hc3, hc4⟩ := id hc
  rw [hc1, hc2] at f2
  rw [hc2] at f1
  refine ⟨hc1, hc2, fun c a b => ?_, fun p a b => ?_, fun p a b => ?_⟩
  · rw [MR_m]
    rcases d3 c a b with ⟨x, y⟩ | ⟨x, y⟩
    · rw [x, ind_1 y]
    · rw [x, ind_0 y]
  · rw [MR_o]
    rcases f1 p a b with ⟨x, y⟩ | ⟨x, y⟩
    · rw [x, ind_1 y]
    · rw [x, ind_0 y]
  · rw [MR_r]
    rcases f2 p a b with ⟨x, y⟩ | ⟨x, y⟩
    · rw [x, ind_1 y]
    · rw [x, ind_0 y]
theorem gtf_cg {f h : Int → Int} {k : Int} : ∀ N : Nat, (∀ p : Int, 0 ≤ p → p < N → f p = h p) → gtf f k N = gtf h k N
  | 0, _ => rfl
  | N + 1, hf => by
    simp only [gtf]
    rw [gtf_cg N (fun p a b => hf p a (by omega)), hf N (by omega) (by omega)]
theorem ft_cnt (hI : CI M r hs) : cntTo (M 16) 12 = cntTo (MR r 16) 12 ∧ cntTo (M 17) 12 = cntTo (MR r 17) 12 ∧ gtf (M 16) (M 1 0) (tu (M 1 0)).toNat = gtf (MR r 16) r.1 (tu r.1).toNat := by
  obtain ⟨h0, h1, h2, h3, h4⟩ := ft_b hI
  refine ⟨cntTo_cg 12 (fun p a b => by rw [h3 p a b]), cntTo_cg 12 (fun p a b => by rw [h4 p a b]), ?_⟩
  rw [h0]
  have ht := tu_c hI.2.1.1
  exact gtf_cg _ (fun p a b => h3 p a (by rw [MR_10] at b; omega))
theorem ft_hT (hI : CI M r hs) (x y : Int) : hT M x y ↔ hT (MR r) x y := by
  obtain ⟨h0, h1, h2, h3, h4⟩ := ft_b hI
  obtain ⟨hk, hn1, hn5, hc⟩ := r_b hI.2.1
  have hb := mkc_b (n := r.2.1) (x := x) (y := y) hn1
  unfold hT
  rw [h1, MR_11, h2 _ hb.1 (by omega)]
theorem ft_kh (hI : CI M r hs) (p x y : Int) : kh M p x y ↔ kh (MR r) p x y := by
  unfold kh
  rw [(ft_b hI).1, ft_hT hI]
theorem ft_khs (hI : CI M r hs) (p : Int) : khs M p ↔ khs (MR r) p := by
  unfold khs
  rw [(ft_b hI).2.1]
  simp only [ft_kh hI, ft_hT hI]
theorem ft_Cen (hI : CI M r hs) : Cen M ↔ Cen (MR r) := by
  obtain ⟨h0, h1, h2, h3, h4⟩ := ft_b hI
  unfold Cen
  constructor
  · rintro ⟨p, a, b, c, d⟩
    exact ⟨p, a, b, by rw [← h4 p a b]; exact c, fun z => d ((ft_khs hI p).mpr z)⟩
  · rintro ⟨p, a, b, c, d⟩
    exact ⟨p, a, b, by rw [h4 p a b]; exact c, fun z => d ((ft_khs hI p).mp z)⟩
theorem ft_Rev (hI : CI M r hs) : Rev M ↔ Rev (MR r) := by
  obtain ⟨h0, h1, h2, h3, h4⟩ := ft_b hI
  have ht := tu_c hI.2.1.1
  unfold Rev
  rw [h0, MR_10]
  constructor
  · rintro ⟨p, a, b, c⟩
    exact ⟨p, a, b, by rw [← h3 p (by omega) (by omega)]; exact c⟩
  · rintro ⟨p, a, b, c⟩
    exact ⟨p, a, b, by rw [h3 p (by omega) (by omega)]; exact c⟩
theorem ft_Lea (hI : CI M r hs) (z : Int) : Lea M z ↔ Lea (MR r) z := by
  unfold Lea
  rw [(ft_b hI).2.1]
  simp only [ft_hT hI]
theorem ft_Fix (hI : CI M r hs) (x y : Int) : Fix M x y ↔ Fix (MR r) x y := by
  obtain ⟨h0, h1, h2, h3, h4⟩ := ft_b hI
  have ht := tu_c hI.2.1.1
  unfold Fix
  rw [h0, MR_10]
  constructor
  · rintro ⟨p, a, b, c, d⟩
    exact ⟨p, a, b, by rw [← h3 p (by omega) (by omega)]; exact c, d⟩
  · rintro ⟨p, a, b, c, d⟩
    exact ⟨p, a, b, by rw [h3 p (by omega) (by omega)]; exact c, d⟩
theorem ft_FSh (hI : CI M r hs) (z : Int) : FSh M z ↔ FSh (MR r) z := by
  unfold FSh
  rw [(ft_b hI).2.1]
  simp only [ft_hT hI, ft_Fix hI]
theorem ft_TY (hI : CI M r hs) (t d z : Int) : TY M t d z ↔ TY (MR r) t d z := by
  unfold TY TY1 TY2 TY3 TY4 TY6
  simp only [ft_Rev hI, ft_Cen hI, ft_Lea hI, ft_FSh hI]
end FTS
theorem Lea_le {M : Mem} {a b : Int} (ha : Lea M a) (hb : Lea M b) : a ≤ b := by
  obtain ⟨a1, a2, a3, a4⟩ := ha
  obtain ⟨b1, b2, b3, b4⟩ := hb
  rcases b3 with q | ⟨x, y, x1, x2, y1, y2, h, e⟩
  · omega
  · have := a4 x y x1 x2 y1 y2 (by omega) h
    omega
theorem TY_uq {M : Mem} {t d z1 z2 : Int} (h1 : TY M t d z1) (h2 : TY M t d z2) : z1 = z2 := by
  unfold TY TY1 TY2 TY3 TY4 TY6 at h1 h2
  rcases h1 with ⟨t1, h1⟩ | ⟨t1, h1⟩ | ⟨t1, h1⟩ | ⟨t1, h1⟩ | ⟨t1, h1⟩ <;> rcases h2 with ⟨t2, h2⟩ | ⟨t2, h2⟩ | ⟨t2, h2⟩ | ⟨t2, h2⟩ | ⟨t2, h2⟩ <;> first | (exfalso; omega) | skip
  · by_cases hR : Rev M <;> by_cases hC : Cen M <;> simp only [hR, hC, not_true, not_false_iff, true_and, false_and, and_false, and_true, false_or, or_false] at h1 h2 <;> omega
  · by_cases hR : Rev M <;> by_cases hC : Cen M <;> simp only [hR, hC, not_true, not_false_iff, true_and, false_and, and_false, and_true, false_or, or_false] at h1 h2 <;> omega
  · rcases h1 with ⟨a, h1⟩ | ⟨a, l1, b1, h1⟩ <;> rcases h2 with ⟨c, h2⟩ | ⟨c, l2, b2, h2⟩
    · omega
    · exact absurd c a
    · exact absurd a c
    · have e : l1 = l2 := Int.le_antisymm (Lea_le b1 b2) (Lea_le b2 b1)
      subst e
      rcases h1 with ⟨p, h1⟩ | ⟨p, h1⟩ <;> rcases h2 with ⟨q, h2⟩ | ⟨q, h2⟩
      · omega
      · exact absurd p q
      · exact absurd q p
      · omega
  · by_cases hR : Rev M <;> simp only [hR, not_true, not_false_iff, true_and, false_and, false_or, or_false] at h1 h2 <;> omega
  · by_cases hR : Rev M <;> simp only [hR, not_true, not_false_iff, true_and, false_and, false_or, or_false] at h1 h2 <;> omega
section ORB
variable {M : Mem} {r : Row} {hs : List Row}
theorem seqs_of (hI : CI M r hs) {wss : List (List Int)} (hO : OrbP M wss) : Seqs (cX2 r) (sq r.1 r.2.1) (fun g => g ∈ r.2.2) wss := by
  intro m ws hm
  obtain ⟨s, h1, -⟩ := hO m ws hm
  have e := gP_of hI.1
  unfold SqI at h1
  rw [e, hI.1.1, hI.1.2.1] at h1
  exact ⟨s, h1⟩
/-- what is known of a cell: its class, with the least of it -/
theorem orb_at (hI : CI M r hs) {wss : List (List Int)} (hO : OrbP M wss) {q : Int} (hq : q ∈ wss.flatten) : ∃ ws s, ws ∈ wss ∧ ws.Nodup ∧ q ∈ ws ∧ s ∈ ws ∧ M 20 q = s ∧ M 21 q = ws.length ∧ (∀ y, y ∈ ws ↔ onO r q y) ∧ lst r q s := by
  obtain ⟨ws, h1, h2⟩ := List.mem_flatten.mp hq
  obtain ⟨m, hm⟩ := List.getElem?_of_mem h1
  have ho := hI.2.1
  have hS := seqs_of hI hO
  obtain ⟨s, c1, c2, c3, c4⟩ := cls_orb (GL_grp ho) (act_sc ho) hS (fun _ _ => rfl) (fun g hg => GL_g ho hg) (GL_ind ho) hm
  obtain ⟨s', o1, o2, o3⟩ := hO m ws hm
  have hV := c2.2.1
  have hoq : ∀ y, y ∈ ws ↔ onO r q y := fun y => by
    rw [c3]
    exact orb_same (GL_grp ho) (act_sc ho) (hV s c1) ((c3 q).mp h2)
  have hs' : s' ∈ ws := o1.2.2.2.1
  refine ⟨ws, s', h1, c2.1, h2, hs', (o2 q h2).1, (o2 q h2).2, hoq, (hoq s').mp hs', fun i a b z => ?_⟩
  have hiB := o3 i a b
  obtain ⟨g, hg, he⟩ := z
  have hiv := c4 _ (GL_iv ho hg) i hiB
  rw [← he, (act_inv (GL_grp ho) (act_sc ho) (GL_v ho hg) (hV q h2)).1] at hiv
  exact c2.2.2.1 q h2 hiv
theorem orb_all (hI : CI M r hs) : ∃ wss : List (List Int), M 19 9 = wss.length ∧ OrbP M wss ∧ ∀ q, q ∈ wss.flatten ↔ 0 ≤ q ∧ q < r.2.1 * r.2.1 := by
  obtain ⟨wss, h1, h2, h3⟩ := hI.2.2.2.2.2.2.2.2.2
  refine ⟨wss, h1, h2, fun q => ⟨fun h => ?_, fun h => h3 q h.1 (by rw [hI.1.2.1]; exact h.2)⟩⟩
  have h9 := cls_V (seqs_of hI h2) (m := wss.length) (x := q) (by rw [List.take_length]; exact h)
  exact h9
theorem orb_size (hI : CI M r hs) {q : Int} (h0 : 0 ≤ q) (h1 : q < r.2.1 * r.2.1) : M 21 q = cntTo (fun p => ind (onO r q p)) 25 := by
  obtain ⟨wss, a1, a2, a3⟩ := orb_all hI
  obtain ⟨ws, s, b1, b2, b3, b4, b5, b6, b7, b8⟩ := orb_at hI a2 ((a3 q).mpr ⟨h0, h1⟩)
  obtain ⟨hk, hn1, hn5, hc⟩ := r_b hI.2.1
  have e : ws.Perm (glst (fun p => ind (onO r q p)) 25) := by
    refine nd_same b2 glst_nd (fun c => ?_)
    rw [glst_mem, b7]
    constructor
    · intro h
      have hcb : 0 ≤ c ∧ c < r.2.1 * r.2.1 := by
        obtain ⟨g, hg, rfl⟩ := h
        exact sc_b hn1
      refine ⟨hcb.1, by omega, ?_⟩
      show ind (onO r q c) ≠ 0
      rw [ind_1 h]
      decide
    · rintro ⟨-, -, h⟩
      apply Classical.byContradiction
      intro z
      exact h (ind_0 z)
  have e2 := cnt_len (fun p => ind (onO r q p)) 25
  rw [b6, e2, e.length_eq]
theorem orb_first (hI : CI M r hs) {q : Int} (h0 : 0 ≤ q) (h1 : q < r.2.1 * r.2.1) : ∃ p : Nat, M 20 q = p ∧ lst r q p := by
  obtain ⟨wss, a1, a2, a3⟩ := orb_all hI
  obtain ⟨ws, s, b1, b2, b3, b4, b5, b6, b7, b8⟩ := orb_at hI a2 ((a3 q).mpr ⟨h0, h1⟩)
  have hs0 := (a3 s).mp (List.mem_flatten.mpr ⟨ws, b1, b4⟩)
  exact ⟨s.toNat, by omega, by rw [Int.toNat_of_nonneg hs0.1]; exact b8⟩
theorem orb_stb (hI : CI M r hs) {q : Int} (h0 : 0 ≤ q) (h1 : q < r.2.1 * r.2.1) : M 10 6 / M 21 q = stb r q := by
  obtain ⟨wss, a1, a2, a3⟩ := orb_all hI
  obtain ⟨ws, s, b1, b2, b3, b4, b5, b6, b7, b8⟩ := orb_at hI a2 ((a3 q).mpr ⟨h0, h1⟩)
  have ho := hI.2.1
  have e : (GL r).length = ws.length * stb r q := orb_stab (GL_grp ho) (act_sc ho) (x := q) ⟨h0, h1⟩ b2 b7
  have hpos := List.length_pos_of_mem b3
  rw [hI.2.2.2.2.2.1, b6, e, Int.natCast_mul]
  exact Int.mul_ediv_cancel_left _ (by omega)
theorem cnt_one {f : Int → Int} {s : Int} : ∀ {ws : List Int}, ws.Nodup → s ∈ ws → (∀ p ∈ ws, f p = s) → ws.countP (fun q => decide (f q = q)) = 1
  | [], _, h, _ => absurd h List.not_mem_nil
  | a :: t, hn, h, hf => by
    have hn' := List.nodup_cons.mp hn
    rw [List.countP_cons]
    have ha := hf a List.mem_cons_self
    by_cases e : s = a
    · have h0 : t.countP (fun q => decide (f q = q)) = 0 := List.countP_eq_zero.mpr (fun x hx => by
        rw [decide_eq_true_eq, hf x (List.mem_cons_of_mem _ hx)]
        intro z
        exact hn'.1 (by rw [← e, z]; exact hx))
      rw [h0, ha, e]
      simp
    · have h1 := cnt_one hn'.2 (by rcases List.mem_cons.mp h with q | q; exact absurd q e; exact q) (fun p hp => hf p (List.mem_cons_of_mem _ hp))
      rw [h1, ha]
      simp [e]
theorem cnt_cls {f : Int → Int} : ∀ {wss : List (List Int)}, (∀ ws ∈ wss, ∃ s, ws.Nodup ∧ s ∈ ws ∧ ∀ p ∈ ws, f p = s) → wss.flatten.countP (fun q => decide (f q = q)) = wss.length
  | [], _ => by simp
  | ws :: t, h => by
    rw [List.flatten_cons, List.countP_append, List.length_cons, cnt_cls (fun w hw => h w (List.mem_cons_of_mem _ hw))]
    obtain ⟨s, h1, h2, h3⟩ := h ws List.mem_cons_self
    rw [cnt_one h1 h2 h3]
    omega
theorem orb_cnt (hI : CI M r hs) : M 19 9 = oct r (r.2.1 * r.2.1).toNat := by
  obtain ⟨wss, a1, a2, a3⟩ := orb_all hI
  have hS := seqs_of hI a2
  have e1 : wss.flatten.countP (fun q => decide (M 20 q = q)) = wss.length := cnt_cls (fun ws hws => by
    obtain ⟨m, hm⟩ := List.getElem?_of_mem hws
    obtain ⟨s, o1, o2, o3⟩ := a2 m ws hm
    exact ⟨s, o1.1, o1.2.2.2.1, fun p hp => (o2 p hp).1⟩)
  unfold oct
  rw [a1, ← e1, cnt_len, List.countP_eq_length_filter]
  congr 1
  refine (nd_same ((fl_nd' hS).filter _) glst_nd (fun q => ?_)).length_eq
  rw [List.mem_filter, decide_eq_true_eq, glst_mem, a3]
  constructor
  · rintro ⟨⟨h0, h1⟩, h2⟩
    obtain ⟨p, p1, p2⟩ := orb_first hI h0 h1
    exact ⟨h0, by omega, by rw [ind_1 (by rw [← p1, h2] at p2; exact p2)]; decide⟩
  · rintro ⟨h0, h1, h2⟩
    have h3 : lst r q q := Classical.byContradiction (fun z => h2 (ind_0 z))
    obtain ⟨p, p1, p2⟩ := orb_first hI h0 (by omega)
    exact ⟨⟨h0, by omega⟩, by rw [p1]; exact lst_iff p2 h3 (by omega) h0⟩
end ORB
