/-! history: save, restore; lists that arrays hold; the closure of a list under generators -/
theorem ref4 {d : Int} (h0 : 0 ≤ d) (h4 : d < 4) : [some 6, some 7, some 8, some 9][d.toNat]? = some (some (6 + d.toNat)) ∧ SHC[6 + d.toNat]? = some (0, 7, []) ∧ 6 ≤ 6 + d.toNat ∧ 6 + d.toNat ≤ 9 := by
  rcases (show d = 0 ∨ d = 1 ∨ d = 2 ∨ d = 3 by omega) with rfl | rfl | rfl | rfl <;> refine ⟨rfl, rfl, ?_, ?_⟩ <;> decide
theorem e_X4_save1 {M : Mem} (hd : Dep M) (h4 : M 4 1 < 4) : J SHC mi_X4_save 0 (ent [vR 4, vR 1, vR 2] 3) [] M (pv (fun M1 => fr [4, 6, 7, 8, 9] M M1 ∧ M1 4 1 = M 4 1 + 1 ∧ (∀ j : Int, 0 ≤ j → j < 7 → M1 (6 + (M 4 1).toNat) j = rowOf M j) ∧ ∀ b : Nat, b ≠ 4 → b ≠ 6 + (M 4 1).toNat → M1 b = M b)) := by
  have hd0 := hd.1
  obtain ⟨r1, r2, r3⟩ := ref4 hd0 h4
  show J SHC mi_X4_save 0 [some (vR 4), some (vR 1), some (vR 2)] [] M _
  refine j_aload_n dX4_save_0 rfl ?_
  refine j_getI (kz := 1) rfl dX4_save_1 f_X4_16 rfl rfl ?_
  refine j_iconst dX4_save_4 ?_
  refine j_icmp_lt 12 dX4_save_5 rfl (by unfold inR; omega) (by unfold inR; omega) (fun c5 => ?_) (fun c5 => ?_)
  · refine j_aload_n dX4_save_12 rfl ?_
    refine j_getI (kz := 1) rfl dX4_save_13 f_X4_16 rfl rfl ?_
    refine j_iconst dX4_save_16 ?_
    refine j_N2z dX4_save_17 ok_X6_isInside n_X4_23 (e_isInside (by first | assumption | (unfold inR; omega)) (by first | assumption | (unfold inR; omega))) (fun z17 M17 q17 => ?_)
    obtain ⟨rfl, q17⟩ := q17
    refine j_if_eq 47 dX4_save_20 rfl (by unfold inR; omega) (fun c20 => ?_) (fun c20 => ?_)
    · refine j_vret dX4_save_47 rfl ?_
      first
      | (exfalso; omega)
      | (have hne : (4 : Nat) ∉ [6 + (M 4 1).toNat] := by simp; omega
         refine ⟨rfl, ((q34.1.up ?_).w1 (by decide)), by rw [wr_self, q34.1 4 hne], fun j h0 h7 => ?_, fun b hb4 hbr => ?_⟩
         · intro b hb
           simp only [List.mem_cons, List.not_mem_nil, or_false] at hb ⊢
           omega
         · rw [wr_ne _ _ (by omega)]
           exact q34.2 j h0 h7
         · funext j
           rw [wr_ne _ _ (fun z => hb4 z.1), q34.1 b (by simpa using hbr)])
    · refine j_aload_n dX4_save_23 rfl ?_
      refine j_getR dX4_save_24 f_X4_13 rfl rfl ?_
      refine j_aload_n dX4_save_27 rfl ?_
      refine j_getI (kz := 1) rfl dX4_save_28 f_X4_16 rfl rfl ?_
      refine j_aald (q := 6 + (M 4 1).toNat) dX4_save_31 rfl (by decide) (by omega) (by omega) (r1) ?_
      refine j_aload_n dX4_save_32 rfl ?_
      refine j_aload_n dX4_save_33 rfl ?_
      refine j_S3v dX4_save_34 ok_X4_write s_X4_27 (e_X4_write r3 r2) (fun M34 q34 => ?_)
      refine j_aload_n dX4_save_37 rfl ?_
      refine j_dup dX4_save_38 (fun _ h => by cases h) ?_
      refine j_getI (kz := 1) rfl dX4_save_39 f_X4_16 rfl rfl ?_
      refine j_iconst dX4_save_42 ?_
      refine j_iadd dX4_save_43 ?_
      refine j_putI (kz := 1) rfl dX4_save_44 g_X4_16 rfl rfl ?_
      refine j_vret dX4_save_47 rfl ?_
      first
      | (exfalso; omega)
      | (have hne : (4 : Nat) ∉ [6 + (M 4 1).toNat] := by simp; omega
         refine ⟨rfl, ((q34.1.up ?_).w1 (by decide)), by rw [wr_self, q34.1 4 hne], fun j h0 h7 => ?_, fun b hb4 hbr => ?_⟩
         · intro b hb
           simp only [List.mem_cons, List.not_mem_nil, or_false] at hb ⊢
           omega
         · rw [wr_ne _ _ (by omega)]
           exact q34.2 j h0 h7
         · funext j
           rw [wr_ne _ _ (fun z => hb4 z.1), q34.1 b (by simpa using hbr)])
  · exfalso; omega
theorem e_X4_save2 {M : Mem} (h4 : M 4 1 = 4) : J SHC mi_X4_save 0 (ent [vR 4, vR 1, vR 2] 3) [] M (pv (fun M1 => fr [4, 6, 7, 8, 9] M M1 ∧ M1 4 1 = 4 ∧ ∀ j : Int, 0 ≤ j → j < 7 → M1 6 j = M 7 j ∧ M1 7 j = M 8 j ∧ M1 8 j = M 9 j ∧ M1 9 j = rowOf M j)) := by
  show J SHC mi_X4_save 0 [some (vR 4), some (vR 1), some (vR 2)] [] M _
  refine j_aload_n dX4_save_0 rfl ?_
  refine j_getI (kz := 1) rfl dX4_save_1 f_X4_16 rfl rfl ?_
  refine j_iconst dX4_save_4 ?_
  refine j_icmp_lt 12 dX4_save_5 rfl (by unfold inR; omega) (by unfold inR; omega) (fun c5 => ?_) (fun c5 => ?_)
  · exfalso; omega
  · refine j_aload_n dX4_save_8 rfl ?_
    refine j_V0v dX4_save_9 ok_X4_forgetOldest v_X4_20 c_X4_forgetOldest rfl (e_X4_forgetOldest) (fun M9 q9 => ?_)
    have q91 := q9.2.1
    skip
    refine j_aload_n dX4_save_12 rfl ?_
    refine j_getI (kz := 1) rfl dX4_save_13 f_X4_16 rfl rfl ?_
    refine j_iconst dX4_save_16 ?_
    refine j_N2z dX4_save_17 ok_X6_isInside n_X4_23 (e_isInside (by first | assumption | (unfold inR; omega)) (by first | assumption | (unfold inR; omega))) (fun z17 M17 q17 => ?_)
    obtain ⟨rfl, q17⟩ := q17
    refine j_if_eq 47 dX4_save_20 rfl (by unfold inR; omega) (fun c20 => ?_) (fun c20 => ?_)
    · refine j_vret dX4_save_47 rfl ?_
      first
      | (exfalso; omega)
      | (have hr : ∀ j, rowOf M9 j = rowOf M j := fun j => by
           unfold rowOf
           rw [q9.1 1 (by decide), q9.1 2 (by decide), q9.1 3 (by decide)]
         refine ⟨rfl, ((q9.1.up (by decide)).tr (q34.1.up (by decide))).w1 (by decide), by rw [wr_self, q34.1 4 (by decide), q9.2.1]; rfl, fun j h0 h7 => ?_⟩
         have h := q9.2.2 j h0 h7
         rw [wr_ne (b := 6) _ _ (by omega), wr_ne (b := 7) _ _ (by omega), wr_ne (b := 8) _ _ (by omega), wr_ne (b := 9) _ _ (by omega), q34.1 6 (by decide), q34.1 7 (by decide), q34.1 8 (by decide)]
         exact ⟨h.1, h.2.1, h.2.2, by rw [q34.2 j h0 h7, hr]⟩)
    · refine j_aload_n dX4_save_23 rfl ?_
      refine j_getR dX4_save_24 f_X4_13 rfl rfl ?_
      refine j_aload_n dX4_save_27 rfl ?_
      refine j_getI (kz := 1) rfl dX4_save_28 f_X4_16 rfl rfl ?_
      refine j_aald (q := 9) dX4_save_31 rfl (by decide) (by omega) (by omega) (by rw [q9.2.1]; rfl) ?_
      refine j_aload_n dX4_save_32 rfl ?_
      refine j_aload_n dX4_save_33 rfl ?_
      refine j_S3v dX4_save_34 ok_X4_write s_X4_27 (e_X4_write (r := 9) (by omega) rfl) (fun M34 q34 => ?_)
      refine j_aload_n dX4_save_37 rfl ?_
      refine j_dup dX4_save_38 (fun _ h => by cases h) ?_
      refine j_getI (kz := 1) rfl dX4_save_39 f_X4_16 rfl rfl ?_
      refine j_iconst dX4_save_42 ?_
      refine j_iadd dX4_save_43 ?_
      refine j_putI (kz := 1) rfl dX4_save_44 g_X4_16 rfl rfl ?_
      refine j_vret dX4_save_47 rfl ?_
      first
      | (exfalso; omega)
      | (have hr : ∀ j, rowOf M9 j = rowOf M j := fun j => by
           unfold rowOf
           rw [q9.1 1 (by decide), q9.1 2 (by decide), q9.1 3 (by decide)]
         refine ⟨rfl, ((q9.1.up (by decide)).tr (q34.1.up (by decide))).w1 (by decide), by rw [wr_self, q34.1 4 (by decide), q9.2.1]; rfl, fun j h0 h7 => ?_⟩
         have h := q9.2.2 j h0 h7
         rw [wr_ne (b := 6) _ _ (by omega), wr_ne (b := 7) _ _ (by omega), wr_ne (b := 8) _ _ (by omega), wr_ne (b := 9) _ _ (by omega), q34.1 6 (by decide), q34.1 7 (by decide), q34.1 8 (by decide)]
         exact ⟨h.1, h.2.1, h.2.2, by rw [q34.2 j h0 h7, hr]⟩)
theorem e_X4_restore {M : Mem} (hd : Dep M) (h4 : 0 < M 4 1) : J SHC mi_X4_restore 0 (ent [vR 4, vR 1, vR 2] 3) [] M (pv (fun M1 => fr [1, 2, 3, 4] M M1 ∧ M1 4 1 = M 4 1 - 1 ∧ M1 1 0 = M (6 + (M 4 1 - 1).toNat) 0 ∧ M1 1 1 = M (6 + (M 4 1 - 1).toNat) 1 ∧ M1 2 1 = M (6 + (M 4 1 - 1).toNat) 2 ∧ ∀ j : Int, 0 ≤ j → j < 4 → M1 3 j = M (6 + (M 4 1 - 1).toNat) (3 + j))) := by
  have hd0 := hd.1
  have hd1 := hd.2
  obtain ⟨r1, r2, r3⟩ := ref4 (d := M 4 1 - 1) (by omega) (by omega)
  have e4 : wr M 4 1 (M 4 1 - 1) 4 1 = M 4 1 - 1 := wr_self _ _ _ _
  show J SHC mi_X4_restore 0 [some (vR 4), some (vR 1), some (vR 2)] [] M _
  refine j_aload_n dX4_restore_0 rfl ?_
  refine j_getI (kz := 1) rfl dX4_restore_1 f_X4_16 rfl rfl ?_
  refine j_iconst dX4_restore_4 ?_
  refine j_isub dX4_restore_5 ?_
  refine j_iconst dX4_restore_6 ?_
  refine j_N2z dX4_restore_7 ok_X6_isInside n_X4_23 (e_isInside (by first | assumption | (unfold inR; omega)) (by first | assumption | (unfold inR; omega))) (fun z7 M7 q7 => ?_)
  obtain ⟨rfl, q7⟩ := q7
  refine j_if_eq 37 dX4_restore_10 rfl (by unfold inR; omega) (fun c10 => ?_) (fun c10 => ?_)
  · refine j_vret dX4_restore_37 rfl ?_
    first
    | (exfalso; omega)
    | (obtain ⟨f1, f2, f3, f4, f5⟩ := q34
       have hne : ∀ j : Int, wr M 4 1 (M 4 1 - 1) (6 + (M 4 1 - 1).toNat) j = M (6 + (M 4 1 - 1).toNat) j := fun j => wr_ne _ _ (by omega)
       refine ⟨rfl, (fr.rf.w1 (by decide)).tr (f1.up (by decide)), by rw [f1 4 (by decide), e4], by rw [f2, hne], by rw [f3, hne], by rw [f4, hne], fun j h0 h4 => by rw [f5 j h0 h4, hne]⟩)
  · refine j_aload_n dX4_restore_13 rfl ?_
    refine j_dup dX4_restore_14 (fun _ h => by cases h) ?_
    refine j_getI (kz := 1) rfl dX4_restore_15 f_X4_16 rfl rfl ?_
    refine j_iconst dX4_restore_18 ?_
    refine j_isub dX4_restore_19 ?_
    refine j_putI (kz := 1) rfl dX4_restore_20 g_X4_16 rfl rfl ?_
    refine j_aload_n dX4_restore_23 rfl ?_
    refine j_getR dX4_restore_24 f_X4_13 rfl rfl ?_
    refine j_aload_n dX4_restore_27 rfl ?_
    refine j_getI (kz := 1) rfl dX4_restore_28 f_X4_16 rfl rfl ?_
    rw [e4]
    refine j_aald (q := 6 + (M 4 1 - 1).toNat) dX4_restore_31 rfl (by decide) (by omega) (by omega) (r1) ?_
    refine j_aload_n dX4_restore_32 rfl ?_
    refine j_aload_n dX4_restore_33 rfl ?_
    refine j_S3v dX4_restore_34 ok_X4_read s_X4_31 (e_X4_read r3 r2) (fun M34 q34 => ?_)
    refine j_vret dX4_restore_37 rfl ?_
    first
    | (exfalso; omega)
    | (obtain ⟨f1, f2, f3, f4, f5⟩ := q34
       have hne : ∀ j : Int, wr M 4 1 (M 4 1 - 1) (6 + (M 4 1 - 1).toNat) j = M (6 + (M 4 1 - 1).toNat) j := fun j => wr_ne _ _ (by omega)
       refine ⟨rfl, (fr.rf.w1 (by decide)).tr (f1.up (by decide)), by rw [f1 4 (by decide), e4], by rw [f2, hne], by rw [f3, hne], by rw [f4, hne], fun j h0 h4 => by rw [f5 j h0 h4, hne]⟩)
def Elem (a : Nat) (M : Mem) (es : List Int) : Prop := ∀ (j : Nat) (x : Int), es[j]? = some x → M a j = x
def Memb (a : Nat) (M : Mem) (es : List Int) : Prop := ∀ c : Int, 0 ≤ c → c < 300 → (M a c = 1 ∧ c ∈ es) ∨ (M a c = 0 ∧ c ∉ es)
theorem nd_len : ∀ (N : Nat) (l : List Int), l.Nodup → (∀ x ∈ l, 0 ≤ x ∧ x < N) → l.length ≤ N
  | 0, l, _, h => by
    cases l with
    | nil => exact Nat.le_refl _
    | cons x l => have := h x List.mem_cons_self; omega
  | N + 1, l, hn, h => by
    by_cases hm : (N : Int) ∈ l
    · have h1 := nd_len N (l.erase (N : Int)) (hn.erase _) (fun x hx => by
        have h2 := (List.Nodup.mem_erase_iff hn).mp hx
        have h3 := h x h2.2
        have h4 := h2.1
        omega)
      have h5 := List.length_erase_of_mem hm
      omega
    · have h1 := nd_len N l hn (fun x hx => by
        have h3 := h x hx
        have h4 : x ≠ N := fun e => hm (e ▸ hx)
        omega)
      omega
def inG (k n : Int) (P : Int → Prop) (c : Int) : Prop := ∃ w : List Int, (∀ g ∈ w, P g) ∧ c = w.foldl (tm k n) 0
theorem inG_0 {k n : Int} {P : Int → Prop} : inG k n P 0 := ⟨[], (fun _ h => absurd h List.not_mem_nil), rfl⟩
theorem inG_step {k n : Int} {P : Int → Prop} {c g : Int} (h : inG k n P c) (hg : P g) : inG k n P (tm k n c g) := by
  obtain ⟨w, h1, rfl⟩ := h
  refine ⟨w ++ [g], fun x hx => ?_, by simp⟩
  rcases List.mem_append.mp hx with h | h
  · exact h1 x h
  · simp only [List.mem_cons, List.not_mem_nil, or_false] at h
    rw [h]; exact hg
theorem inG_ind {k n : Int} {P : Int → Prop} {R : Int → Prop} (h0 : R 0) (hs : ∀ c g, inG k n P c → R c → P g → R (tm k n c g)) {c : Int} (h : inG k n P c) : R c := by
  obtain ⟨w, h1, rfl⟩ := h
  have key : ∀ (v : List Int) (a : Int), inG k n P a → R a → (∀ g ∈ v, P g) → R (v.foldl (tm k n) a) := by
    intro v
    induction v with
    | nil => intro a _ ha _; exact ha
    | cons g v ih =>
      intro a hi ha hv
      exact ih _ (inG_step hi (hv g List.mem_cons_self)) (hs a g hi ha (hv g List.mem_cons_self)) (fun x hx => hv x (List.mem_cons_of_mem _ hx))
  exact key w 0 inG_0 h0 h1
def add (es : List Int) (c : Int) : List Int := if c ∈ es then es else es ++ [c]
theorem add_mem {es : List Int} {c x : Int} : x ∈ add es c ↔ x ∈ es ∨ x = c := by
  unfold add
  split
  · constructor
    · exact Or.inl
    · rintro (h | rfl) <;> assumption
  · simp
theorem add_get {es : List Int} {c x : Int} {j : Nat} (h : es[j]? = some x) : (add es c)[j]? = some x := by
  unfold add
  split
  · exact h
  · rw [List.getElem?_append_left (List.getElem?_eq_some_iff.mp h).1]; exact h
theorem add_len {es : List Int} {c : Int} : es.length ≤ (add es c).length := by
  unfold add
  split <;> simp
theorem add_nd {es : List Int} {c : Int} (h : es.Nodup) : (add es c).Nodup := by
  unfold add
  split
  · exact h
  · rename_i hc
    rw [List.nodup_append]
    refine ⟨h, by simp, fun a ha b hb => ?_⟩
    simp only [List.mem_cons, List.not_mem_nil, or_false] at hb
    rw [hb]
    exact fun e => hc (e ▸ ha)
/-- a list that is being closed: the first i have all their products in it -/
def Clo (k n : Int) (P : Int → Prop) (es : List Int) (i : Nat) : Prop := es.Nodup ∧ (∀ c ∈ es, vc k n c) ∧ 0 ∈ es ∧ (∀ c ∈ es, inG k n P c) ∧ ∀ j, j < i → ∀ x, es[j]? = some x → ∀ g, P g → tm k n x g ∈ es
theorem Clo_add {k n : Int} {P : Int → Prop} {es : List Int} {i : Nat} {x g : Int} (hk : k = 0 ∨ k = 1) (hn1 : 1 ≤ n) (h : Clo k n P es i) (hi : i ≤ es.length) (hx : x ∈ es) (hg : P g) : Clo k n P (add es (tm k n x g)) i := by
  obtain ⟨h1, h2, h3, h4, h5⟩ := h
  refine ⟨add_nd h1, fun c hc => ?_, add_mem.mpr (Or.inl h3), fun c hc => ?_, fun j hj y hy g' hg' => ?_⟩
  · rcases add_mem.mp hc with q | rfl
    · exact h2 c q
    · exact vc_tm hk hn1
  · rcases add_mem.mp hc with q | rfl
    · exact h4 c q
    · exact inG_step (h4 x hx) hg
  · have hjl : j < es.length := by omega
    have e1 : es[j]? = some es[j] := List.getElem?_eq_getElem hjl
    have e2 := add_get (c := tm k n x g) e1
    rw [hy] at e2
    exact add_mem.mpr (Or.inl (h5 j hj y (by rw [e1, ← e2]) g' hg'))
theorem Clo_all {k n : Int} {P : Int → Prop} {es : List Int} (h : Clo k n P es es.length) (c : Int) : c ∈ es ↔ inG k n P c := by
  obtain ⟨h1, h2, h3, h4, h5⟩ := h
  refine ⟨h4 c, fun hc => ?_⟩
  refine inG_ind (R := fun c => c ∈ es) h3 (fun x g _ hx hg => ?_) hc
  obtain ⟨j, hj⟩ := List.getElem?_of_mem hx
  exact h5 j (List.getElem?_eq_some_iff.mp hj).1 x hj g hg
def glst (f : Int → Int) : Nat → List Int
  | 0 => []
  | i + 1 => glst f i ++ (if f i = 0 then [] else [(i : Int)])
theorem glst_mem {f : Int → Int} {c : Int} : ∀ {N : Nat}, c ∈ glst f N ↔ 0 ≤ c ∧ c < N ∧ f c ≠ 0
  | 0 => by simp [glst]; omega
  | N + 1 => by
    simp only [glst, List.mem_append, glst_mem (N := N)]
    by_cases h : f N = 0
    · simp only [h, if_true, List.not_mem_nil, or_false]
      constructor
      · rintro ⟨a, b, d⟩; exact ⟨a, by omega, d⟩
      · rintro ⟨a, b, d⟩
        refine ⟨a, ?_, d⟩
        have : c ≠ N := fun e => d (e ▸ h)
        omega
    · simp only [h, if_false, List.mem_cons, List.not_mem_nil, or_false]
      constructor
      · rintro (⟨a, b, d⟩ | rfl)
        · exact ⟨a, by omega, d⟩
        · exact ⟨by omega, by omega, h⟩
      · rintro ⟨a, b, d⟩
        by_cases e : c = N
        · exact Or.inr e
        · exact Or.inl ⟨a, by omega, d⟩
theorem glst_nd {f : Int → Int} : ∀ {N : Nat}, (glst f N).Nodup
  | 0 => by simp [glst]
  | N + 1 => by
    simp only [glst]
    rw [List.nodup_append]
    refine ⟨glst_nd, by split <;> simp, fun a ha b hb => ?_⟩
    have h1 := glst_mem.mp ha
    split at hb
    · cases hb
    · simp only [List.mem_cons, List.not_mem_nil, or_false] at hb
      omega
theorem nd_same {l1 l2 : List Int} (h1 : l1.Nodup) (h2 : l2.Nodup) (h : ∀ c, c ∈ l1 ↔ c ∈ l2) : l1.Perm l2 := (List.perm_ext_iff_of_nodup h1 h2).mpr h
theorem glst_len {f : Int → Int} (N : Nat) : (glst f N).length ≤ N := nd_len N _ glst_nd (fun x hx => by have := glst_mem.mp hx; exact ⟨this.1, this.2.1⟩)

