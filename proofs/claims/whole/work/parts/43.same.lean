/-! MATHS: the group of a row; both sides answer alike -/
section GLS
variable {r : Row}
theorem r_b (ho : okR r) : (r.1 = 0 ∨ r.1 = 1) ∧ 1 ≤ r.2.1 ∧ r.2.1 ≤ 5 ∧ (1 ≤ r.2.1 * r.2.1 ∧ r.2.1 * r.2.1 ≤ 25) := ⟨ho.1, ho.2.1, ho.2.2.1, nn_b ho.2.1 ho.2.2.1⟩
theorem vc_lt (ho : okR r) {c : Int} (h : vc r.1 r.2.1 c) : 0 ≤ c ∧ c < 300 := by
  obtain ⟨hk, hn1, hn5, hc⟩ := r_b ho
  have := vc_b hk hc.1 hc.2 h
  exact ⟨this.1, this.2.1⟩
theorem vc_0 (ho : okR r) : vc r.1 r.2.1 0 := GL_vc (M := fun _ _ => 0) ho 0 GL_0
theorem GL_v (ho : okR r) {c : Int} (h : c ∈ GL r) : vc r.1 r.2.1 c := GL_vc (M := fun _ _ => 0) ho c h
theorem vc_fold (ho : okR r) : ∀ (w : List Int) (a : Int), vc r.1 r.2.1 a → vc r.1 r.2.1 (w.foldl (tm r.1 r.2.1) a)
  | [], a, h => h
  | g :: w, a, _ => vc_fold ho w _ (vc_tm ho.1 ho.2.1)
theorem fold_tm (ho : okR r) : ∀ (w : List Int) (a : Int), (∀ g ∈ w, vc r.1 r.2.1 g) → vc r.1 r.2.1 a → w.foldl (tm r.1 r.2.1) a = tm r.1 r.2.1 a (w.foldl (tm r.1 r.2.1) 0)
  | [], a, _, ha => by
    obtain ⟨hk, hn1, hn5, hc⟩ := r_b ho
    exact (tm_0r hk hn1 hc ha).symm
  | g :: w, a, hw, ha => by
    obtain ⟨hk, hn1, hn5, hc⟩ := r_b ho
    have hg := hw g List.mem_cons_self
    have hw' := fun x hx => hw x (List.mem_cons_of_mem g hx)
    rw [List.foldl_cons, List.foldl_cons, fold_tm ho w _ hw' (vc_tm hk hn1), fold_tm ho w (tm r.1 r.2.1 0 g) hw' (vc_tm hk hn1), tm_0l hk hn1 hc hg, tm_assoc hk hn1 hc ha hg (vc_fold ho w 0 (vc_0 ho))]
theorem GL_iff (ho : okR r) {c : Int} : c ∈ GL r ↔ inG r.1 r.2.1 (fun g => g ∈ r.2.2) c := by
  rw [GL_mem]
  refine ⟨fun h => h.2.2, fun h => ?_⟩
  obtain ⟨w, h1, rfl⟩ := id h
  have := vc_lt ho (vc_fold ho w 0 (vc_0 ho))
  exact ⟨this.1, this.2, h⟩
theorem GL_g (ho : okR r) {g : Int} (h : g ∈ r.2.2) : g ∈ GL r := by
  obtain ⟨hk, hn1, hn5, hc⟩ := r_b ho
  rw [GL_iff ho]
  refine ⟨[g], fun x hx => by rw [List.mem_singleton.mp hx]; exact h, ?_⟩
  exact (tm_0l hk hn1 hc (ho.2.2.2.2 g h)).symm
theorem GL_tm (ho : okR r) {a b : Int} (ha : a ∈ GL r) (hb : b ∈ GL r) : tm r.1 r.2.1 a b ∈ GL r := by
  have va := GL_v ho ha
  rw [GL_iff ho] at ha hb ⊢
  obtain ⟨w1, h1, e1⟩ := ha
  obtain ⟨w2, h2, e2⟩ := hb
  refine ⟨w1 ++ w2, fun g hg => by rcases List.mem_append.mp hg with q | q; exact h1 g q; exact h2 g q, ?_⟩
  rw [List.foldl_append, ← e1, fold_tm ho w2 a (fun g hg => ho.2.2.2.2 g (h2 g hg)) va, ← e2]
theorem GL_pw (ho : okR r) {c : Int} (hc : c ∈ GL r) : ∀ t, pw r.1 r.2.1 c t ∈ GL r
  | 0 => hc
  | t + 1 => GL_tm ho (GL_pw ho hc t) hc
theorem GL_iv (ho : okR r) {c : Int} (hcG : c ∈ GL r) : iv r.1 r.2.1 c ∈ GL r := by
  obtain ⟨hk, hn1, hn5, hc⟩ := r_b ho
  have vcc := GL_v ho hcG
  have vi := vc_iv hk hn1 hc.1 hc.2 vcc
  obtain ⟨t, -, h0⟩ := pw_fin hk hn1 hn5 vcc
  cases t with
  | zero =>
    have e0 : c = 0 := h0
    subst e0
    have h := (tm_iv hk hn1 hc vcc).1
    rw [tm_0r hk hn1 hc vi] at h
    rw [h]
    exact GL_0
  | succ t =>
    have e1 : tm r.1 r.2.1 (pw r.1 r.2.1 c t) c = 0 := h0
    have e2 := tm_canc hk hn1 hc (vc_pw hk hn1 vcc t) vi vcc (e1.trans (tm_iv hk hn1 hc vcc).1.symm)
    rw [← e2]
    exact GL_pw ho hcG t
theorem GL_grp (ho : okR r) : GrpL (vc r.1 r.2.1) (tm r.1 r.2.1) (iv r.1 r.2.1) (GL r) := by
  obtain ⟨hk, hn1, hn5, hc⟩ := r_b ho
  exact ⟨glst_nd, GL_0, fun a ha => GL_v ho ha, fun a ha b hb => GL_tm ho ha hb, fun a ha => GL_iv ho ha,
    fun a ha => ⟨(tm_iv hk hn1 hc ha).1, (tm_iv hk hn1 hc ha).2, tm_0l hk hn1 hc ha, tm_0r hk hn1 hc ha, vc_iv hk hn1 hc.1 hc.2 ha⟩,
    fun a b c ha hb hcc => tm_assoc hk hn1 hc ha hb hcc⟩
theorem GL_ind (ho : okR r) : ∀ R : Int → Prop, R 0 → (∀ c g, vc r.1 r.2.1 c → R c → g ∈ r.2.2 → R (tm r.1 r.2.1 c g)) → ∀ c ∈ GL r, R c := by
  obtain ⟨hk, hn1, hn5, hc⟩ := r_b ho
  intro R h0 hs c hcG
  have h := inG_ind (R := fun c => vc r.1 r.2.1 c ∧ R c) ⟨vc_0 ho, h0⟩ (fun c g _ hc hg => ⟨vc_tm hk hn1, hs c g hc.1 hc.2 hg⟩) ((GL_iff ho).mp hcG)
  exact h.2
def cX2 (r : Row) (q : Int) : Prop := 0 ≤ q ∧ q < r.2.1 * r.2.1
theorem act_sc (ho : okR r) : ActL (vc r.1 r.2.1) (tm r.1 r.2.1) (cX2 r) (sc r.1 r.2.1) := by
  obtain ⟨hk, hn1, hn5, hc⟩ := r_b ho
  exact ⟨fun x hx => sc_0 hn1 hx.1 hx.2, fun a x _ _ => sc_b hn1, fun a b x ha hb hx => sc_tm hk hn1 hc ha hb hx.1 hx.2⟩
def cjA (r : Row) (g x : Int) : Int := tm r.1 r.2.1 (tm r.1 r.2.1 g x) (iv r.1 r.2.1 g)
theorem act_cj (ho : okR r) : ActL (vc r.1 r.2.1) (tm r.1 r.2.1) (vc r.1 r.2.1) (cjA r) := by
  obtain ⟨hk, hn1, hn5, hc⟩ := r_b ho
  have h0 := vc_0 ho
  have e0 : iv r.1 r.2.1 0 = 0 := by
    have h := (tm_iv hk hn1 hc h0).1
    rwa [tm_0r hk hn1 hc (vc_iv hk hn1 hc.1 hc.2 h0)] at h
  refine ⟨fun x hx => ?_, fun a x _ _ => vc_tm hk hn1, fun a b x ha hb hx => ?_⟩
  · unfold cjA
    rw [e0, tm_0l hk hn1 hc hx, tm_0r hk hn1 hc hx]
  · unfold cjA
    have va := vc_iv hk hn1 hc.1 hc.2 ha
    have vb := vc_iv hk hn1 hc.1 hc.2 hb
    have vbx : vc r.1 r.2.1 (tm r.1 r.2.1 b x) := vc_tm hk hn1
    rw [iv_tm hk hn1 hc ha hb, tm_assoc hk hn1 hc ha hb hx, ← tm_assoc hk hn1 hc (vc_tm hk hn1) vb va, tm_assoc hk hn1 hc ha vbx vb]
theorem cj_fix (ho : okR r) {a x : Int} (ha : vc r.1 r.2.1 a) (hx : vc r.1 r.2.1 x) : cjA r a x = x ↔ tm r.1 r.2.1 x a = tm r.1 r.2.1 a x := by
  obtain ⟨hk, hn1, hn5, hc⟩ := r_b ho
  have va := vc_iv hk hn1 hc.1 hc.2 ha
  unfold cjA
  constructor
  · intro h
    have h1 := congrArg (fun z => tm r.1 r.2.1 z a) h
    have h1 : tm r.1 r.2.1 (tm r.1 r.2.1 (tm r.1 r.2.1 a x) (iv r.1 r.2.1 a)) a = tm r.1 r.2.1 x a := h1
    rw [tm_assoc hk hn1 hc (vc_tm hk hn1) va ha, (tm_iv hk hn1 hc ha).1, tm_0r hk hn1 hc (vc_tm hk hn1)] at h1
    exact h1.symm
  · intro h
    rw [← h, tm_assoc hk hn1 hc hx ha va, (tm_iv hk hn1 hc ha).2, tm_0r hk hn1 hc hx]
theorem cm_stab (ho : okR r) {x : Int} (hx : vc r.1 r.2.1 x) : cmP r.1 r.2.1 (GL r) x = (GL r).countP (fun a => decide (cjA r a x = x)) := by
  unfold cmP
  refine List.countP_congr (fun a ha => ?_)
  rw [decide_eq_true_eq, decide_eq_true_eq]
  exact (cj_fix ho (GL_v ho ha) hx).symm
-- abelian
theorem sum_le {p : Int → Nat} {b : Nat} : ∀ {l : List Int}, (∀ x ∈ l, p x ≤ b) → (l.map p).sum ≤ l.length * b
  | [], _ => by simp
  | a :: t, h => by
    have h1 := h a List.mem_cons_self
    have h2 := sum_le (p := p) (b := b) (l := t) (fun x hx => h x (List.mem_cons_of_mem _ hx))
    rw [List.map_cons, List.sum_cons, List.length_cons, Nat.succ_mul]
    omega
theorem sum_lt {p : Int → Nat} {b : Nat} : ∀ {l : List Int}, (∀ x ∈ l, p x ≤ b) → (∃ x ∈ l, p x < b) → (l.map p).sum < l.length * b
  | [], _, ⟨_, h, _⟩ => absurd h List.not_mem_nil
  | a :: t, h, ⟨x, hx, hlt⟩ => by
    have h1 := h a List.mem_cons_self
    have h2 := sum_le (p := p) (b := b) (l := t) (fun x hx => h x (List.mem_cons_of_mem _ hx))
    rw [List.map_cons, List.sum_cons, List.length_cons, Nat.succ_mul]
    rcases List.mem_cons.mp hx with rfl | q
    · omega
    · have := sum_lt (p := p) (b := b) (l := t) (fun x hx => h x (List.mem_cons_of_mem _ hx)) ⟨x, q, hlt⟩
      omega
theorem ab_all (ho : okR r) (hA : Abe r) : ∀ d ∈ GL r, ∀ c ∈ GL r, tm r.1 r.2.1 c d = tm r.1 r.2.1 d c := by
  obtain ⟨hk, hn1, hn5, hc⟩ := r_b ho
  have h1 : ∀ c ∈ GL r, ∀ g ∈ r.2.2, tm r.1 r.2.1 c g = tm r.1 r.2.1 g c := GL_ind ho _ (fun g hg => by
    rw [tm_0l hk hn1 hc (ho.2.2.2.2 g hg), tm_0r hk hn1 hc (ho.2.2.2.2 g hg)]) (fun c h vcc ih hh g hg => by
    have vh := ho.2.2.2.2 h hh
    have vg := ho.2.2.2.2 g hg
    rw [tm_assoc hk hn1 hc vcc vh vg, hA h hh g hg, ← tm_assoc hk hn1 hc vcc vg vh, ih g hg, tm_assoc hk hn1 hc vg vcc vh])
  refine GL_ind ho _ (fun c hcG => ?_) (fun d g vd ih hg c hcG => ?_)
  · rw [tm_0l hk hn1 hc (GL_v ho hcG), tm_0r hk hn1 hc (GL_v ho hcG)]
  · have vg := ho.2.2.2.2 g hg
    have vcc := GL_v ho hcG
    rw [← tm_assoc hk hn1 hc vcc vd vg, ih c hcG, tm_assoc hk hn1 hc vd vcc vg, h1 c hcG g hg, ← tm_assoc hk hn1 hc vd vg vcc]
theorem ab_iff (ho : okR r) : cmS r.1 r.2.1 (GL r) = (GL r).length * (GL r).length ↔ Abe r := by
  constructor
  · intro h a ha b hb
    apply Classical.byContradiction
    intro hne
    have haG := GL_g ho ha
    have hbG := GL_g ho hb
    have hlt : cmP r.1 r.2.1 (GL r) a < (GL r).length := by
      have hle := cmP_b (k := r.1) (n := r.2.1) (es := GL r) a
      rcases Nat.lt_or_ge (cmP r.1 r.2.1 (GL r) a) (GL r).length with q | q
      · exact q
      · have he : (GL r).countP (fun y => decide (tm r.1 r.2.1 a y = tm r.1 r.2.1 y a)) = (GL r).length := Nat.le_antisymm hle q
        have := List.countP_eq_length.mp he b hbG
        rw [decide_eq_true_eq] at this
        exact absurd this hne
    have := sum_lt (p := cmP r.1 r.2.1 (GL r)) (l := GL r) (fun x _ => cmP_b x) ⟨a, haG, hlt⟩
    unfold cmS at h
    omega
  · intro hA
    unfold cmS
    rw [← sum_cst (l := GL r)]
    refine sum_cg (fun x hx => ?_)
    unfold cmP
    rw [List.countP_eq_length]
    intro y hy
    rw [decide_eq_true_eq]
    exact ab_all ho hA y hy x hx
-- conjugacy classes
theorem sum_fl {p : Int → Nat} : ∀ {wss : List (List Int)}, (wss.flatten.map p).sum = (wss.map (fun ws => (ws.map p).sum)).sum
  | [] => rfl
  | ws :: t => by
    rw [List.flatten_cons, List.map_append, List.sum_append, sum_fl, List.map_cons, List.sum_cons]
theorem sum_cst2 {c : Nat} {p : List Int → Nat} : ∀ {l : List (List Int)}, (∀ x ∈ l, p x = c) → (l.map p).sum = l.length * c
  | [], _ => by simp
  | a :: t, h => by
    rw [List.map_cons, List.sum_cons, h a List.mem_cons_self, sum_cst2 (fun x hx => h x (List.mem_cons_of_mem _ hx)), List.length_cons, Nat.succ_mul]; omega
theorem cj_cls (ho : okR r) {wss : List (List Int)} (hw : CjR r wss) {m : Nat} {ws : List Int} (hm : wss[m]? = some ws) : ∃ s, s ∈ ws ∧ BfI (vc r.1 r.2.1) (cj r.1 r.2.1) (fun g => g ∈ r.2.2) (wss.take m).flatten s ws ws.length ∧ (∀ y, y ∈ ws ↔ ∃ a ∈ GL r, cjA r a s = y) ∧ ∀ c ∈ GL r, ∀ x ∈ (wss.take m).flatten, cjA r c x ∈ (wss.take m).flatten :=
  cls_orb (GL_grp ho) (act_cj ho) (P := fun g => g ∈ r.2.2) hw (fun _ _ => rfl) (fun g hg => GL_g ho hg) (GL_ind ho) hm
theorem cls_sum (ho : okR r) {wss : List (List Int)} (hw : CjR r wss) {ws : List Int} (hm : ws ∈ wss) : (ws.map (cmP r.1 r.2.1 (GL r))).sum = (GL r).length := by
  obtain ⟨m, hm⟩ := List.getElem?_of_mem hm
  obtain ⟨s, h1, h2, h3, -⟩ := cj_cls ho hw hm
  have hpos := List.length_pos_of_mem h1
  have hV := h2.2.1
  have key : ∀ x ∈ ws, (GL r).length = ws.length * cmP r.1 r.2.1 (GL r) x := fun x hx => by
    rw [cm_stab ho (hV x hx)]
    refine orb_stab (GL_grp ho) (act_cj ho) (hV x hx) h2.1 (fun y => ?_)
    rw [h3]
    exact orb_same (GL_grp ho) (act_cj ho) (hV s h1) ((h3 x).mp hx)
  have e : ∀ x ∈ ws, cmP r.1 r.2.1 (GL r) x = (GL r).length / ws.length := fun x hx => by
    have h9 := Nat.mul_div_cancel_left (cmP r.1 r.2.1 (GL r) x) hpos
    rw [← key x hx] at h9
    exact h9.symm
  rw [sum_cg e, sum_cst]
  have := key s h1
  rw [e s h1] at this
  exact this.symm
theorem cj_same (ho : okR r) {wss : List (List Int)} (hw : CjR r wss) (hall : ∀ x ∈ GL r, x ∈ wss.flatten) (hin : ∀ x ∈ wss.flatten, x ∈ GL r) : cmS r.1 r.2.1 (GL r) / (GL r).length = wss.length := by
  have hp : (GL r).Perm wss.flatten := nd_same glst_nd (fl_nd' (P := fun g => g ∈ r.2.2) hw) (fun c => ⟨hall c, hin c⟩)
  unfold cmS
  rw [sm_perm hp, sum_fl, sum_cst2 (fun ws hws => cls_sum ho hw hws)]
  exact Nat.mul_div_cancel _ (List.length_pos_of_mem GL_0)
end GLS
