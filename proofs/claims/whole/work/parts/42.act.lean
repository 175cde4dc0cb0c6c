/-! MATHS: finite lists; orbits and stabilizers of a finite group that acts -/
theorem nd_sub {l1 : List Int} : ∀ {l2 : List Int}, l1.Nodup → (∀ x ∈ l1, x ∈ l2) → l1.length ≤ l2.length := by
  induction l1 with
  | nil => intro l2 _ _; simp
  | cons a t ih =>
    intro l2 hn hs
    have ha : a ∈ l2 := hs a List.mem_cons_self
    have hn' := List.nodup_cons.mp hn
    have h := ih (l2 := l2.erase a) hn'.2 (fun x hx => by
      have hne : x ≠ a := fun e => hn'.1 (e ▸ hx)
      exact (List.mem_erase_of_ne hne).mpr (hs x (List.mem_cons_of_mem _ hx)))
    rw [List.length_erase_of_mem ha] at h
    have := List.length_pos_of_mem ha
    rw [List.length_cons]
    omega
theorem nd_map {f : Int → Int} : ∀ {l : List Int}, l.Nodup → (∀ x ∈ l, ∀ y ∈ l, f x = f y → x = y) → (l.map f).Nodup
  | [], _, _ => by simp
  | a :: t, hn, hi => by
    have hn' := List.nodup_cons.mp hn
    rw [List.map_cons, List.nodup_cons]
    refine ⟨fun h => ?_, nd_map hn'.2 (fun x hx y hy => hi x (List.mem_cons_of_mem _ hx) y (List.mem_cons_of_mem _ hy))⟩
    obtain ⟨x, hx, he⟩ := List.mem_map.mp h
    have := hi x (List.mem_cons_of_mem _ hx) a List.mem_cons_self he
    exact hn'.1 (this ▸ hx)
theorem inj_len {f : Int → Int} {l1 l2 : List Int} (hn : l1.Nodup) (hi : ∀ x ∈ l1, ∀ y ∈ l1, f x = f y → x = y) (hm : ∀ x ∈ l1, f x ∈ l2) : l1.length ≤ l2.length := by
  have := nd_sub (l2 := l2) (nd_map hn hi) (fun y hy => by
    obtain ⟨x, hx, rfl⟩ := List.mem_map.mp hy
    exact hm x hx)
  rwa [List.length_map] at this
theorem sum_cg {p q : Int → Nat} : ∀ {l : List Int}, (∀ x ∈ l, p x = q x) → (l.map p).sum = (l.map q).sum
  | [], _ => rfl
  | a :: t, h => by
    rw [List.map_cons, List.map_cons, List.sum_cons, List.sum_cons, h a List.mem_cons_self, sum_cg (fun x hx => h x (List.mem_cons_of_mem _ hx))]
theorem sum_cst {c : Nat} : ∀ {l : List Int}, (l.map (fun _ => c)).sum = l.length * c
  | [] => by simp
  | a :: t => by rw [List.map_cons, List.sum_cons, sum_cst, List.length_cons, Nat.succ_mul]; omega
theorem sum_add {p q : Int → Nat} : ∀ {l : List Int}, (l.map (fun x => p x + q x)).sum = (l.map p).sum + (l.map q).sum
  | [] => rfl
  | a :: t => by simp only [List.map_cons, List.sum_cons]; rw [sum_add]; omega
theorem sum_one {z : Int} : ∀ {l : List Int}, l.Nodup → z ∈ l → (l.map (fun y => if z = y then 1 else 0)).sum = 1
  | [], _, h => absurd h List.not_mem_nil
  | a :: t, hn, h => by
    have hn' := List.nodup_cons.mp hn
    rw [List.map_cons, List.sum_cons]
    by_cases e : z = a
    · subst e
      have e0 : (t.map (fun y => if z = y then 1 else 0)).sum = (t.map (fun _ => 0)).sum := sum_cg (fun x hx => if_neg (fun e => hn'.1 (by rw [e]; exact hx)))
      rw [if_pos rfl, e0, sum_cst]
      omega
    · rw [if_neg e, sum_one hn'.2 (by rcases List.mem_cons.mp h with q | q; exact absurd q e; exact q)]
theorem fib_sum {h : Int → Int} {O : List Int} (hO : O.Nodup) : ∀ {G : List Int}, (∀ a ∈ G, h a ∈ O) → G.length = (O.map (fun y => G.countP (fun a => decide (h a = y)))).sum
  | [], _ => by simp [sum_cst]
  | a :: t, hm => by
    have e : ∀ y ∈ O, (a :: t).countP (fun a => decide (h a = y)) = t.countP (fun a => decide (h a = y)) + (if h a = y then 1 else 0) := fun y _ => by
      rw [List.countP_cons]
      simp only [decide_eq_true_eq]
    rw [sum_cg e, sum_add, ← fib_sum hO (fun x hx => hm x (List.mem_cons_of_mem _ hx)), sum_one hO (hm a List.mem_cons_self), List.length_cons]
theorem cP_fil {p : Int → Bool} {G : List Int} : G.countP p = (G.filter p).length := List.countP_eq_length_filter
theorem nd_fil {p : Int → Bool} {G : List Int} (h : G.Nodup) : (G.filter p).Nodup := h.filter p
/-- a finite group that acts -/
def GrpL (V : Int → Prop) (op : Int → Int → Int) (inv : Int → Int) (G : List Int) : Prop :=
  G.Nodup ∧ 0 ∈ G ∧ (∀ a ∈ G, V a) ∧ (∀ a ∈ G, ∀ b ∈ G, op a b ∈ G) ∧ (∀ a ∈ G, inv a ∈ G) ∧ (∀ a, V a → op (inv a) a = 0 ∧ op a (inv a) = 0 ∧ op 0 a = a ∧ op a 0 = a ∧ V (inv a)) ∧ ∀ a b c, V a → V b → V c → op (op a b) c = op a (op b c)
def ActL (V : Int → Prop) (op : Int → Int → Int) (X : Int → Prop) (f : Int → Int → Int) : Prop :=
  (∀ x, X x → f 0 x = x) ∧ (∀ a x, V a → X x → X (f a x)) ∧ ∀ a b x, V a → V b → X x → f (op a b) x = f a (f b x)
section ACT
variable {V X : Int → Prop} {op f : Int → Int → Int} {inv : Int → Int} {G : List Int}
theorem act_inv (hG : GrpL V op inv G) (hA : ActL V op X f) {a x : Int} (ha : V a) (hx : X x) : f (inv a) (f a x) = x ∧ f a (f (inv a) x) = x := by
  obtain ⟨g1, g2, g3, g4, g5, g6, g7⟩ := hG
  obtain ⟨a1, a2, a3⟩ := hA
  have h6 := g6 a ha
  constructor
  · rw [← a3 _ _ _ h6.2.2.2.2 ha hx, h6.1, a1 x hx]
  · rw [← a3 _ _ _ ha h6.2.2.2.2 hx, h6.2.1, a1 x hx]
theorem fib_le (hG : GrpL V op inv G) (hA : ActL V op X f) {b x y z : Int} (hb : b ∈ G) (hx : X x) (hz : f b y = z) (hy : X y) : G.countP (fun a => decide (f a x = y)) ≤ G.countP (fun a => decide (f a x = z)) := by
  rw [cP_fil, cP_fil]
  obtain ⟨g1, g2, g3, g4, g5, g6, g7⟩ := id hG
  obtain ⟨a1, a2, a3⟩ := id hA
  refine inj_len (f := fun a => op b a) (nd_fil g1) (fun p hp q hq e => ?_) (fun p hp => ?_)
  · have hp1 := g3 p (List.mem_filter.mp hp).1
    have hq1 := g3 q (List.mem_filter.mp hq).1
    have hb1 := g3 b hb
    have h6 := g6 b hb1
    have e2 := congrArg (fun z => op (inv b) z) e
    have e2 : op (inv b) (op b p) = op (inv b) (op b q) := e2
    rw [← g7 _ _ _ h6.2.2.2.2 hb1 hp1, ← g7 _ _ _ h6.2.2.2.2 hb1 hq1, h6.1, (g6 p hp1).2.2.1, (g6 q hq1).2.2.1] at e2
    exact e2
  · have h := List.mem_filter.mp hp
    rw [decide_eq_true_eq] at h
    rw [List.mem_filter, decide_eq_true_eq]
    exact ⟨g4 b hb p h.1, by rw [a3 _ _ _ (g3 b hb) (g3 p h.1) hx, h.2, hz]⟩
/-- orbit and stabilizer -/
theorem orb_stab (hG : GrpL V op inv G) (hA : ActL V op X f) {x : Int} (hx : X x) {O : List Int} (hO : O.Nodup) (hm : ∀ y, y ∈ O ↔ ∃ a ∈ G, f a x = y) : G.length = O.length * G.countP (fun a => decide (f a x = x)) := by
  have h1 := fib_sum (h := fun a => f a x) hO (G := G) (fun a ha => (hm _).mpr ⟨a, ha, rfl⟩)
  rw [h1, ← sum_cst (l := O)]
  refine sum_cg (fun y hy => ?_)
  obtain ⟨a, ha, he⟩ := (hm y).mp hy
  have hV := hG.2.2.1 a ha
  have hxy : X y := he ▸ hA.2.1 a x hV hx
  have i1 := act_inv hG hA hV hx
  rw [he] at i1
  exact Nat.le_antisymm (fib_le hG hA (hG.2.2.2.2.1 a ha) hx i1.1 hxy) (fib_le hG hA ha hx he hx)
/-- one orbit for all its members -/
theorem orb_same (hG : GrpL V op inv G) (hA : ActL V op X f) {x y z : Int} (hx : X x) (h : ∃ a ∈ G, f a x = y) : (∃ a ∈ G, f a x = z) ↔ ∃ a ∈ G, f a y = z := by
  obtain ⟨a, ha, rfl⟩ := h
  obtain ⟨g1, g2, g3, g4, g5, g6, g7⟩ := id hG
  obtain ⟨a1, a2, a3⟩ := id hA
  constructor
  · rintro ⟨b, hb, rfl⟩
    refine ⟨op b (inv a), g4 b hb _ (g5 a ha), ?_⟩
    rw [a3 _ _ _ (g3 b hb) (g3 _ (g5 a ha)) (a2 a x (g3 a ha) hx), (act_inv hG hA (g3 a ha) hx).1]
  · rintro ⟨b, hb, rfl⟩
    exact ⟨op b a, g4 b hb a ha, a3 _ _ _ (g3 b hb) (g3 a ha) hx⟩
end ACT
-- classes found one after the other are the orbits
section CLS
variable {V X : Int → Prop} {op f st : Int → Int → Int} {inv : Int → Int} {G : List Int} {P : Int → Prop} {wss : List (List Int)}
def Seqs (X : Int → Prop) (st : Int → Int → Int) (P : Int → Prop) (wss : List (List Int)) : Prop := ∀ m ws, wss[m]? = some ws → ∃ s, BfI X st P (wss.take m).flatten s ws ws.length
theorem fl_mem {m : Nat} {x : Int} (h : x ∈ (wss.take m).flatten) : ∃ j ws, j < m ∧ wss[j]? = some ws ∧ x ∈ ws := by
  obtain ⟨ws, h1, h2⟩ := List.mem_flatten.mp h
  obtain ⟨j, hj⟩ := List.getElem?_of_mem h1
  have hlt := (List.getElem?_eq_some_iff.mp hj).1
  rw [List.length_take] at hlt
  rw [List.getElem?_take] at hj
  exact ⟨j, ws, by omega, by rwa [if_pos (by omega)] at hj, h2⟩
theorem fl_in {m j : Nat} {ws : List Int} {x : Int} (h : j < m) (hj : wss[j]? = some ws) (hx : x ∈ ws) : x ∈ (wss.take m).flatten := by
  refine List.mem_flatten.mpr ⟨ws, List.mem_of_getElem? (i := j) ?_, hx⟩
  rw [List.getElem?_take, if_pos h, hj]
theorem cls_step (hS : Seqs X st P wss) (hst : ∀ x g, st x g = f g x) {m : Nat} {x g : Int} (hx : x ∈ (wss.take m).flatten) (hg : P g) : f g x ∈ (wss.take m).flatten := by
  obtain ⟨j, ws, h1, h2, h3⟩ := fl_mem hx
  obtain ⟨s, b1, b2, b3, b4, b5, b6⟩ := hS j ws h2
  obtain ⟨i, hi⟩ := List.getElem?_of_mem h3
  have h9 := b6 i (List.getElem?_eq_some_iff.mp hi).1 x hi g hg
  rw [hst] at h9
  rcases List.mem_append.mp h9 with q | q
  · obtain ⟨j', ws', c1, c2, c3⟩ := fl_mem q
    exact fl_in (by omega) c2 c3
  · exact fl_in h1 h2 q
theorem cls_V (hS : Seqs X st P wss) {m : Nat} {x : Int} (hx : x ∈ (wss.take m).flatten) : X x := by
  obtain ⟨j, ws, h1, h2, h3⟩ := fl_mem hx
  obtain ⟨s, b1, b2, b3, b4, b5, b6⟩ := hS j ws h2
  exact b2 x h3
theorem cls_orb (hG : GrpL V op inv G) (hA : ActL V op X f) (hS : Seqs X st P wss) (hst : ∀ x g, st x g = f g x) (hP : ∀ g, P g → g ∈ G) (hind : ∀ R : Int → Prop, R 0 → (∀ c g, V c → R c → P g → R (op c g)) → ∀ c ∈ G, R c) {m : Nat} {ws : List Int} (hm : wss[m]? = some ws) : ∃ s, s ∈ ws ∧ BfI X st P (wss.take m).flatten s ws ws.length ∧ (∀ y, y ∈ ws ↔ ∃ a ∈ G, f a s = y) ∧ ∀ c ∈ G, ∀ x ∈ (wss.take m).flatten, f c x ∈ (wss.take m).flatten := by
  obtain ⟨g1, g2, g3, g4, g5, g6, g7⟩ := id hG
  obtain ⟨a1, a2, a3⟩ := id hA
  have hcl : ∀ m, ∀ c ∈ G, ∀ x ∈ (wss.take m).flatten, f c x ∈ (wss.take m).flatten := fun m => hind _ (fun x hx => by rw [a1 x (cls_V hS hx)]; exact hx) (fun c g hc ih hg x hx => by
    rw [a3 c g x hc (g3 g (hP g hg)) (cls_V hS hx)]
    exact ih _ (cls_step hS hst hx hg))
  obtain ⟨s, hb⟩ := hS m ws hm
  obtain ⟨b1, b2, b3, b4, b5, b6⟩ := id hb
  refine ⟨s, b4, hb, fun y => ⟨fun hy => ?_, ?_⟩, hcl m⟩
  · obtain ⟨w, w1, w2⟩ := b5 y hy
    have key : ∀ w : List Int, (∀ g ∈ w, P g) → ∀ z, (∃ a ∈ G, f a s = z) → ∃ a ∈ G, f a s = w.foldl st z := by
      intro w
      induction w with
      | nil => intro _ z hz; exact hz
      | cons g w ih =>
        intro hw z hz
        rw [List.foldl_cons]
        refine ih (fun g hg => hw g (List.mem_cons_of_mem _ hg)) _ ?_
        obtain ⟨a, ha, rfl⟩ := hz
        have hgG := hP g (hw g List.mem_cons_self)
        exact ⟨op g a, g4 g hgG a ha, by rw [hst, a3 g a s (g3 g hgG) (g3 a ha) (b2 s b4)]⟩
    rw [w2]
    exact key w w1 s ⟨0, g2, a1 s (b2 s b4)⟩
  · rintro ⟨a, ha, rfl⟩
    have h9 := hcl (m + 1) a ha s (fl_in (by omega) hm b4)
    rw [List.take_add_one, hm, List.flatten_append] at h9
    rcases List.mem_append.mp h9 with q | q
    · have h8 := hcl m (inv a) (g5 a ha) _ q
      rw [(act_inv hG hA (g3 a ha) (b2 s b4)).1] at h8
      exact absurd h8 (b3 s b4)
    · simpa using q
/-- the classes together are without repetition -/
theorem fl_nd (hS : Seqs X st P wss) : ∀ m, (wss.take m).flatten.Nodup
  | 0 => by simp
  | m + 1 => by
    rw [List.take_add_one]
    cases h : wss[m]? with
    | none => rw [List.flatten_append]; simpa using fl_nd hS m
    | some ws =>
      obtain ⟨s, b1, b2, b3, b4, b5, b6⟩ := hS m ws h
      rw [List.flatten_append, List.nodup_append]
      refine ⟨fl_nd hS m, by simpa using b1, fun a ha b hb => ?_⟩
      have hb' : b ∈ ws := by simpa using hb
      rintro rfl
      exact b3 a hb' ha
theorem fl_nd' (hS : Seqs X st P wss) : wss.flatten.Nodup := by
  have h := fl_nd hS wss.length
  rwa [List.take_length] at h
end CLS
theorem cnt_len (f : Int → Int) : ∀ N : Nat, cntTo f N = (glst f N).length
  | 0 => rfl
  | N + 1 => by
    simp only [cntTo, glst]
    rw [cnt_len f N, List.length_append]
    by_cases h : f N = 0
    · rw [if_pos h, if_pos h]; simp
    · rw [if_neg h, if_neg h]; simp
