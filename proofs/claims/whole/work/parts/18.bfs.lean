/-! searches: a list grows from a start by steps, beside a list B that was marked before; classify, findOrbit -/
def MembN (a : Nat) (N : Int) (M : Mem) (es : List Int) : Prop := ∀ c : Int, 0 ≤ c → c < N → (M a c = 1 ∧ c ∈ es) ∨ (M a c = 0 ∧ c ∉ es)
def add2 (B ws : List Int) (c : Int) : List Int := if c ∈ B ++ ws then ws else ws ++ [c]
def WS (o : Nat) (sl : Int) (mk wt : Nat) (N : Int) (M : Mem) (B ws : List Int) : Prop := M o sl = ws.length ∧ Elem wt M ws ∧ MembN mk N M (B ++ ws)
theorem MembN_push {a : Nat} {N : Int} {M : Mem} {B es : List Int} {c : Int} (h : MembN a N M (B ++ es)) : MembN a N (wr M a c 1) (B ++ (es ++ [c])) := by
  intro x h0 h1
  by_cases e : x = c
  · subst e
    left
    exact ⟨wr_self _ _ _ _, by simp⟩
  · rw [wr_ne _ _ (fun z => e z.2)]
    rcases h x h0 h1 with ⟨a1, a2⟩ | ⟨a1, a2⟩
    · exact Or.inl ⟨a1, by rcases List.mem_append.mp a2 with q | q <;> simp [q]⟩
    · refine Or.inr ⟨a1, fun q => ?_⟩
      rcases List.mem_append.mp q with q | q
      · exact a2 (List.mem_append.mpr (Or.inl q))
      · rcases List.mem_append.mp q with q | q
        · exact a2 (List.mem_append.mpr (Or.inr q))
        · simp at q; exact e q
theorem MembN_eq {a : Nat} {N : Int} {M M1 : Mem} {es : List Int} (h : MembN a N M es) (e : M1 a = M a) : MembN a N M1 es := by unfold MembN; rw [e]; exact h
theorem add2_sub {B ws : List Int} {c x : Int} (h : x ∈ B ++ ws) : x ∈ B ++ add2 B ws c := by
  unfold add2
  split
  · exact h
  · rcases List.mem_append.mp h with q | q <;> simp [q]
theorem add2_in {B ws : List Int} {c : Int} : c ∈ B ++ add2 B ws c := by
  unfold add2
  split
  · assumption
  · simp
theorem add2_get {B es : List Int} {c x : Int} {j : Nat} (h : es[j]? = some x) : (add2 B es c)[j]? = some x := by
  unfold add2
  split
  · exact h
  · rw [List.getElem?_append_left (List.getElem?_eq_some_iff.mp h).1]; exact h
theorem add2_len {B es : List Int} {c : Int} : es.length ≤ (add2 B es c).length := by
  unfold add2
  split <;> simp
def Rch (st : Int → Int → Int) (P : Int → Prop) (s x : Int) : Prop := ∃ w : List Int, (∀ g ∈ w, P g) ∧ x = w.foldl st s
theorem Rch_step {st : Int → Int → Int} {P : Int → Prop} {s x g : Int} (h : Rch st P s x) (hg : P g) : Rch st P s (st x g) := by
  obtain ⟨w, h1, rfl⟩ := h
  refine ⟨w ++ [g], fun y hy => ?_, by simp⟩
  rcases List.mem_append.mp hy with h | h
  · exact h1 y h
  · simp only [List.mem_cons, List.not_mem_nil, or_false] at h
    rw [h]; exact hg
def BfI (V : Int → Prop) (st : Int → Int → Int) (P : Int → Prop) (B : List Int) (s : Int) (ws : List Int) (i : Nat) : Prop := ws.Nodup ∧ (∀ x ∈ ws, V x) ∧ (∀ x ∈ ws, x ∉ B) ∧ s ∈ ws ∧ (∀ x ∈ ws, Rch st P s x) ∧ ∀ j, j < i → ∀ x, ws[j]? = some x → ∀ g, P g → st x g ∈ B ++ ws
theorem BfI_add {V : Int → Prop} {st : Int → Int → Int} {P : Int → Prop} {B : List Int} {s : Int} {ws : List Int} {i : Nat} {x g : Int} (h : BfI V st P B s ws i) (hi : i ≤ ws.length) (hx : x ∈ ws) (hg : P g) (hV : V (st x g)) : BfI V st P B s (add2 B ws (st x g)) i := by
  obtain ⟨h1, h2, h3, h4, h5, h6⟩ := h
  by_cases hm : st x g ∈ B ++ ws
  · rw [show add2 B ws (st x g) = ws from if_pos hm]
    exact ⟨h1, h2, h3, h4, h5, h6⟩
  · have ha : add2 B ws (st x g) = ws ++ [st x g] := if_neg hm
    rw [ha]
    have hmem : ∀ y, y ∈ ws ++ [st x g] → y ∈ ws ∨ y = st x g := fun y hy => by simpa using hy
    refine ⟨?_, fun y hy => ?_, fun y hy => ?_, by simp [h4], fun y hy => ?_, fun j hj y hy g' hg' => ?_⟩
    · rw [List.nodup_append]
      refine ⟨h1, by simp, fun a ha b hb => ?_⟩
      simp at hb
      rw [hb]
      exact fun e => hm (List.mem_append.mpr (Or.inr (e ▸ ha)))
    · rcases hmem y hy with q | rfl
      · exact h2 y q
      · exact hV
    · rcases hmem y hy with q | rfl
      · exact h3 y q
      · exact fun q => hm (List.mem_append.mpr (Or.inl q))
    · rcases hmem y hy with q | rfl
      · exact h5 y q
      · exact Rch_step (h5 x hx) hg
    · have hjl : j < ws.length := by omega
      rw [List.getElem?_append_left hjl] at hy
      rcases List.mem_append.mp (h6 j hj y hy g' hg') with q | q <;> simp [q]
theorem BfI_next {V : Int → Prop} {st : Int → Int → Int} {P : Int → Prop} {B : List Int} {s : Int} {ws : List Int} {i : Nat} {x : Int} (h : BfI V st P B s ws i) (hx : ws[i]? = some x) (hp : ∀ g, P g → st x g ∈ B ++ ws) : BfI V st P B s ws (i + 1) := by
  obtain ⟨h1, h2, h3, h4, h5, h6⟩ := h
  refine ⟨h1, h2, h3, h4, h5, fun j hj y hy g hg => ?_⟩
  by_cases e : j = i
  · subst e
    rw [hx] at hy
    cases hy
    exact hp g hg
  · exact h6 j (by omega) y hy g hg
theorem BfI_one {V : Int → Prop} {st : Int → Int → Int} {P : Int → Prop} {B : List Int} {s : Int} (hV : V s) (hB : s ∉ B) : BfI V st P B s [s] 0 := by
  refine ⟨by simp, fun x hx => ?_, fun x hx => ?_, by simp, fun x hx => ?_, fun j hj => by omega⟩
  · simp at hx; rw [hx]; exact hV
  · simp at hx; rw [hx]; exact hB
  · simp at hx; rw [hx]; exact ⟨[], (fun _ h => absurd h List.not_mem_nil), rfl⟩
theorem sc_b {k n c q : Int} (hn1 : 1 ≤ n) : 0 ≤ sc k n c q ∧ sc k n c q < n * n := by
  have hn0 : 0 < n := by omega
  have key : ∀ x y : Int, 0 ≤ n * (x % n) + y % n ∧ n * (x % n) + y % n < n * n := fun x y => by
    have h1 := Int.emod_nonneg x (show n ≠ 0 by omega)
    have h2 := Int.emod_lt_of_pos x hn0
    have h3 := Int.emod_nonneg y (show n ≠ 0 by omega)
    have h4 := Int.emod_lt_of_pos y hn0
    have h5 : 0 ≤ n * (x % n) := Int.mul_nonneg (by omega) h1
    have h6 : n * (x % n) ≤ n * (n - 1) := Int.mul_le_mul_of_nonneg_left (by omega) (by omega)
    have h7 : n * (n - 1) = n * n - n := by rw [Int.mul_sub, Int.mul_one]
    omega
  exact key _ _
def cj (k n : Int) (x g : Int) : Int := tm k n (tm k n g x) (iv k n g)
def sq (k n : Int) (q g : Int) : Int := sc k n g q
theorem e_X3_admitToClass {M : Mem} {B ws : List Int} {c : Int} (hb : WS 10 7 13 14 300 M B ws) (hnd : ws.Nodup) (hr : ∀ x ∈ ws, 0 ≤ x ∧ x < 300) (hc : 0 ≤ c ∧ c < 300) : J SHC mi_X3_admitToClass 0 (ent [vR 10, vI c] 2) [] M (pv (fun M1 => fr [10, 13, 14] M M1 ∧ (∀ j : Int, j ≠ 7 → M1 10 j = M 10 j) ∧ WS 10 7 13 14 300 M1 B (add2 B ws c))) := by
  obtain ⟨hb1, hb2, hb3⟩ := hb
  have hlen := nd_len 300 ws hnd (fun x hx => by have := hr x hx; omega)
  have hmc := hb3 c hc.1 hc.2
  have hlt : c ∉ B ++ ws → ws.length < 300 := fun h9 => by
    have h8 : c ∉ ws := fun q => h9 (List.mem_append.mpr (Or.inr q))
    have := nd_len 300 (ws ++ [c]) (by rw [List.nodup_append]; exact ⟨hnd, by simp, fun a ha b hb => by simp at hb; rw [hb]; exact fun e => h8 (e ▸ ha)⟩) (fun x hx => by
      rcases List.mem_append.mp hx with h | h
      · have := hr x h; omega
      · simp at h; omega)
    simp at this; omega
  have e1 : wr M 13 c 1 10 7 = M 10 7 := wr_ne _ _ (by omega)
  have e2 : wr (wr M 13 c 1) 14 (wr M 13 c 1 10 7) c 10 7 = M 10 7 := by rw [wr_ne _ _ (by omega), e1]
  have hmr : inR (M 13 c) := by unfold inR; omega
  show J SHC mi_X3_admitToClass 0 [some (vR 10), some (vI c)] [] M _
  refine j_iload_n dX3_admitToClass_0 rfl ?_
  refine j_sipush dX3_admitToClass_1 (by decide +kernel) ?_
  refine j_N2z dX3_admitToClass_4 ok_X6_isInside n_X3_37 (e_isInside (by first | assumption | (unfold inR; omega)) (by first | assumption | (unfold inR; omega))) (fun z4 M4 q4 => ?_)
  obtain ⟨rfl, q4⟩ := q4
  refine j_if_eq 59 dX3_admitToClass_7 rfl (by first | assumption | (unfold inR; omega)) (fun c7 => ?_) (fun c7 => ?_)
  · exfalso; omega
  · refine j_aload_n dX3_admitToClass_10 rfl ?_
    refine j_getR dX3_admitToClass_11 f_X3_19 rfl rfl ?_
    refine j_iload_n dX3_admitToClass_14 rfl ?_
    refine j_bald dX3_admitToClass_15 (by first | rfl | assumption) (by decide) (by first | omega | (rw [e1, hb1]; have := hlt (by rcases hmc with h | h; (exfalso; omega); exact h.2); omega)) (by first | omega | (rw [e1, hb1]; have := hlt (by rcases hmc with h | h; (exfalso; omega); exact h.2); omega)) ?_
    refine j_if_ne 59 dX3_admitToClass_16 rfl (by first | assumption | (unfold inR; omega)) (fun c16 => ?_) (fun c16 => ?_)
    · have hin : c ∈ B ++ ws := by
        rcases hmc with h | h
        · exact h.2
        · exact absurd h.1 c16
      refine j_vret dX3_admitToClass_59 rfl ⟨rfl, fr.rf, fun j hj => rfl, ?_⟩
      rw [show add2 B ws c = ws from if_pos hin]
      exact ⟨hb1, hb2, hb3⟩
    · refine j_aload_n dX3_admitToClass_19 rfl ?_
      refine j_getI (kz := 7) rfl dX3_admitToClass_20 f_X3_81 rfl rfl ?_
      refine j_sipush dX3_admitToClass_23 (by decide +kernel) ?_
      refine j_N2z dX3_admitToClass_26 ok_X6_isInside n_X3_37 (e_isInside (by first | assumption | (unfold inR; omega)) (by first | assumption | (unfold inR; omega))) (fun z26 M26 q26 => ?_)
      obtain ⟨rfl, q26⟩ := q26
      refine j_if_eq 59 dX3_admitToClass_29 rfl (by first | assumption | (unfold inR; omega)) (fun c29 => ?_) (fun c29 => ?_)
      · exfalso
        have hin : c ∉ B ++ ws := by
          rcases hmc with h | h
          · omega
          · exact h.2
        have := hlt hin
        omega
      · refine j_aload_n dX3_admitToClass_32 rfl ?_
        refine j_getR dX3_admitToClass_33 f_X3_19 rfl rfl ?_
        refine j_iload_n dX3_admitToClass_36 rfl ?_
        refine j_iconst dX3_admitToClass_37 ?_
        refine j_bast dX3_admitToClass_38 (by first | rfl | assumption) (by decide) (by first | omega | (rw [e1, hb1]; have := hlt (by rcases hmc with h | h; (exfalso; omega); exact h.2); omega)) (by first | omega | (rw [e1, hb1]; have := hlt (by rcases hmc with h | h; (exfalso; omega); exact h.2); omega)) (by first | exact Or.inl rfl | exact Or.inr rfl) ?_
        refine j_aload_n dX3_admitToClass_39 rfl ?_
        refine j_getR dX3_admitToClass_40 f_X3_22 rfl rfl ?_
        refine j_aload_n dX3_admitToClass_43 rfl ?_
        refine j_getI (kz := 7) rfl dX3_admitToClass_44 f_X3_81 rfl rfl ?_
        refine j_iload_n dX3_admitToClass_47 rfl ?_
        refine j_iast dX3_admitToClass_48 (by first | rfl | assumption) (by decide) (by first | omega | (rw [e1, hb1]; have := hlt (by rcases hmc with h | h; (exfalso; omega); exact h.2); omega)) (by first | omega | (rw [e1, hb1]; have := hlt (by rcases hmc with h | h; (exfalso; omega); exact h.2); omega)) ?_
        refine j_aload_n dX3_admitToClass_49 rfl ?_
        refine j_dup dX3_admitToClass_50 (fun _ h => by cases h) ?_
        refine j_getI (kz := 7) rfl dX3_admitToClass_51 f_X3_81 rfl rfl ?_
        refine j_iconst dX3_admitToClass_54 ?_
        refine j_iadd dX3_admitToClass_55 ?_
        refine j_putI (kz := 7) rfl dX3_admitToClass_56 g_X3_81 rfl rfl ?_
        have hin : c ∉ B ++ ws := by
          rcases hmc with h | h
          · omega
          · exact h.2
        refine j_vret dX3_admitToClass_59 rfl ⟨rfl, ((fr.rf.w1 (by decide)).w1 (by decide)).w1 (by decide), fun j hj => by rw [wr_ne _ _ (fun z => hj z.2), wr_ne _ _ (by omega), wr_ne _ _ (by omega)], ?_⟩
        rw [show add2 B ws c = ws ++ [c] from if_neg hin]
        refine ⟨by rw [wr_self, e2, hb1]; simp, ?_, ?_⟩
        · have h9 := Elem_push (c := c) (Elem_eq (M1 := wr M 13 c 1) hb2 (by funext j; exact wr_ne _ _ (by omega)))
          rw [← hb1, ← e1] at h9
          exact Elem_eq h9 (by funext j; exact wr_ne _ _ (by omega))
        · have h9 := MembN_push (c := c) hb3
          exact MembN_eq h9 (by funext j; rw [wr_ne _ _ (by omega), wr_ne _ _ (by omega)])
theorem e_X0_reach {M : Mem} {B ws : List Int} {c : Int} (hb : WS 19 8 22 23 25 M B ws) (hnd : ws.Nodup) (hr : ∀ x ∈ ws, 0 ≤ x ∧ x < 25) (hc : 0 ≤ c ∧ c < 25) : J SHC mi_X0_reach 0 (ent [vR 19, vI c] 2) [] M (pv (fun M1 => fr [19, 22, 23] M M1 ∧ (∀ j : Int, j ≠ 8 → M1 19 j = M 19 j) ∧ WS 19 8 22 23 25 M1 B (add2 B ws c))) := by
  obtain ⟨hb1, hb2, hb3⟩ := hb
  have hlen := nd_len 25 ws hnd (fun x hx => by have := hr x hx; omega)
  have hmc := hb3 c hc.1 hc.2
  have hlt : c ∉ B ++ ws → ws.length < 25 := fun h9 => by
    have h8 : c ∉ ws := fun q => h9 (List.mem_append.mpr (Or.inr q))
    have := nd_len 25 (ws ++ [c]) (by rw [List.nodup_append]; exact ⟨hnd, by simp, fun a ha b hb => by simp at hb; rw [hb]; exact fun e => h8 (e ▸ ha)⟩) (fun x hx => by
      rcases List.mem_append.mp hx with h | h
      · have := hr x h; omega
      · simp at h; omega)
    simp at this; omega
  have e1 : wr M 22 c 1 19 8 = M 19 8 := wr_ne _ _ (by omega)
  have e2 : wr (wr M 22 c 1) 23 (wr M 22 c 1 19 8) c 19 8 = M 19 8 := by rw [wr_ne _ _ (by omega), e1]
  have hmr : inR (M 22 c) := by unfold inR; omega
  show J SHC mi_X0_reach 0 [some (vR 19), some (vI c)] [] M _
  refine j_iload_n dX0_reach_0 rfl ?_
  refine j_bipush dX0_reach_1 (by decide +kernel) ?_
  refine j_N2z dX0_reach_3 ok_X6_isInside n_X0_77 (e_isInside (by first | assumption | (unfold inR; omega)) (by first | assumption | (unfold inR; omega))) (fun z3 M3 q3 => ?_)
  obtain ⟨rfl, q3⟩ := q3
  refine j_if_eq 57 dX0_reach_6 rfl (by first | assumption | (unfold inR; omega)) (fun c6 => ?_) (fun c6 => ?_)
  · exfalso; omega
  · refine j_aload_n dX0_reach_9 rfl ?_
    refine j_getR dX0_reach_10 f_X0_18 rfl rfl ?_
    refine j_iload_n dX0_reach_13 rfl ?_
    refine j_bald dX0_reach_14 (by first | rfl | assumption) (by decide) (by first | omega | (rw [e1, hb1]; have := hlt (by rcases hmc with h | h; (exfalso; omega); exact h.2); omega)) (by first | omega | (rw [e1, hb1]; have := hlt (by rcases hmc with h | h; (exfalso; omega); exact h.2); omega)) ?_
    refine j_if_ne 57 dX0_reach_15 rfl (by first | assumption | (unfold inR; omega)) (fun c15 => ?_) (fun c15 => ?_)
    · have hin : c ∈ B ++ ws := by
        rcases hmc with h | h
        · exact h.2
        · exact absurd h.1 c15
      refine j_vret dX0_reach_57 rfl ⟨rfl, fr.rf, fun j hj => rfl, ?_⟩
      rw [show add2 B ws c = ws from if_pos hin]
      exact ⟨hb1, hb2, hb3⟩
    · refine j_aload_n dX0_reach_18 rfl ?_
      refine j_getI (kz := 8) rfl dX0_reach_19 f_X0_58 rfl rfl ?_
      refine j_bipush dX0_reach_22 (by decide +kernel) ?_
      refine j_N2z dX0_reach_24 ok_X6_isInside n_X0_77 (e_isInside (by first | assumption | (unfold inR; omega)) (by first | assumption | (unfold inR; omega))) (fun z24 M24 q24 => ?_)
      obtain ⟨rfl, q24⟩ := q24
      refine j_if_eq 57 dX0_reach_27 rfl (by first | assumption | (unfold inR; omega)) (fun c27 => ?_) (fun c27 => ?_)
      · exfalso
        have hin : c ∉ B ++ ws := by
          rcases hmc with h | h
          · omega
          · exact h.2
        have := hlt hin
        omega
      · refine j_aload_n dX0_reach_30 rfl ?_
        refine j_getR dX0_reach_31 f_X0_18 rfl rfl ?_
        refine j_iload_n dX0_reach_34 rfl ?_
        refine j_iconst dX0_reach_35 ?_
        refine j_bast dX0_reach_36 (by first | rfl | assumption) (by decide) (by first | omega | (rw [e1, hb1]; have := hlt (by rcases hmc with h | h; (exfalso; omega); exact h.2); omega)) (by first | omega | (rw [e1, hb1]; have := hlt (by rcases hmc with h | h; (exfalso; omega); exact h.2); omega)) (by first | exact Or.inl rfl | exact Or.inr rfl) ?_
        refine j_aload_n dX0_reach_37 rfl ?_
        refine j_getR dX0_reach_38 f_X0_22 rfl rfl ?_
        refine j_aload_n dX0_reach_41 rfl ?_
        refine j_getI (kz := 8) rfl dX0_reach_42 f_X0_58 rfl rfl ?_
        refine j_iload_n dX0_reach_45 rfl ?_
        refine j_iast dX0_reach_46 (by first | rfl | assumption) (by decide) (by first | omega | (rw [e1, hb1]; have := hlt (by rcases hmc with h | h; (exfalso; omega); exact h.2); omega)) (by first | omega | (rw [e1, hb1]; have := hlt (by rcases hmc with h | h; (exfalso; omega); exact h.2); omega)) ?_
        refine j_aload_n dX0_reach_47 rfl ?_
        refine j_dup dX0_reach_48 (fun _ h => by cases h) ?_
        refine j_getI (kz := 8) rfl dX0_reach_49 f_X0_58 rfl rfl ?_
        refine j_iconst dX0_reach_52 ?_
        refine j_iadd dX0_reach_53 ?_
        refine j_putI (kz := 8) rfl dX0_reach_54 g_X0_58 rfl rfl ?_
        have hin : c ∉ B ++ ws := by
          rcases hmc with h | h
          · omega
          · exact h.2
        refine j_vret dX0_reach_57 rfl ⟨rfl, ((fr.rf.w1 (by decide)).w1 (by decide)).w1 (by decide), fun j hj => by rw [wr_ne _ _ (fun z => hj z.2), wr_ne _ _ (by omega), wr_ne _ _ (by omega)], ?_⟩
        rw [show add2 B ws c = ws ++ [c] from if_neg hin]
        refine ⟨by rw [wr_self, e2, hb1]; simp, ?_, ?_⟩
        · have h9 := Elem_push (c := c) (Elem_eq (M1 := wr M 22 c 1) hb2 (by funext j; exact wr_ne _ _ (by omega)))
          rw [← hb1, ← e1] at h9
          exact Elem_eq h9 (by funext j; exact wr_ne _ _ (by omega))
        · have h9 := MembN_push (c := c) hb3
          exact MembN_eq h9 (by funext j; rw [wr_ne _ _ (by omega), wr_ne _ _ (by omega)])
