/-! THE ENGINE, third part: a method's contract out of J at its entry; calls -/
def mOK (mi : MI) : Prop := plainFor mi.1 = true ∧ Cond.code mi.1 mi.2.1 mi.2.2.1 mi.2.2.2.1 ∈ wTbl ∧ mi.2.2.1 ≤ 13 ∧ (mi.1.cls ≠ "java/lang/invoke/MethodHandle" ∧ mi.1.cls ≠ "java/lang/invoke/VarHandle") ∧ Cond.initialized mi.1.cls ∈ wTbl
def ent (vs : List PV) (nL : Nat) : List (Option PV) := vs.map some ++ List.replicate (nL - vs.length) none
def noLongs (vs : List PV) : Bool := vs.all (fun v => match v with
  | .inr (.inl _) => false
  | _ => true)
theorem noLongs_mem {vs : List PV} (h : noLongs vs = true) {v : PV} (hv : v ∈ vs) : ¬ ∃ z, v = vL z := by
  rintro ⟨z, rfl⟩
  have := List.all_eq_true.mp h _ hv
  cases this
theorem ent_sl {ad : Nat → Nat} : ∀ {vs : List PV}, noLongs vs = true → (lg_sl (vs.map (rv ad))).length = vs.length
  | [], _ => rfl
  | v :: vs, h => by
    have h1 : ¬ (rv ad v).category = 2 := by rw [rv_cat2 (noLongs_mem h List.mem_cons_self)]; decide
    have h2 : noLongs vs = true := by
      simp only [noLongs, List.all_cons, Bool.and_eq_true] at h
      exact h.2
    have := ent_sl (ad := ad) h2
    simp only [lg_sl, List.map_cons, List.flatMap_cons, h1, if_false, List.length_append, List.length_cons, List.length_nil] at this ⊢
    omega
theorem ent_args {ad : Nat → Nat} : ∀ {vs : List PV}, noLongs vs = true → ∀ (o i : Nat) (v : PV), vs[i]? = some v → (o + i, rv ad v) ∈ lv_args o (vs.map (rv ad))
  | [], _, o, i, v, hi => by simp at hi
  | w :: vs, h, o, i, v, hi => by
    have h1 : ¬ (rv ad w).category = 2 := by rw [rv_cat2 (noLongs_mem h List.mem_cons_self)]; decide
    have h2 : noLongs vs = true := by
      simp only [noLongs, List.all_cons, Bool.and_eq_true] at h
      exact h.2
    simp only [List.map_cons, lv_args, h1, if_false]
    cases i with
    | zero =>
      simp at hi
      subst hi
      exact List.mem_cons_self
    | succ i =>
      rw [List.getElem?_cons_succ] at hi
      have := ent_args (ad := ad) h2 (o + 1) i v hi
      refine List.mem_cons_of_mem _ ?_
      rw [show o + (i + 1) = o + 1 + i by omega]
      exact this
section JC
variable {SH : List Shp} {mi mj : MI} {pc : Nat} {L : List (Option PV)} {st : List PV} {M : Mem} {Q Q1 : Option PV → Mem → Prop}
theorem wC_frame {ad : Nat → Nat} {D : va_G} {cI cZ cA : ClassId} {U : State} {g : JFrame} {mk : MethodId} {a : Array Value} (h : wC ad D cI cZ cA SH U) : wC ad D cI cZ cA SH (U.calling g mk a) := by
  obtain ⟨h1, h2, h3, h4, h5, h6, h7⟩ := h
  exact ⟨h1, va_K.moved (u := U) (U := U.calling g mk a) (Vm.Alike.refl U.vm) h2, va_Z.moved (u := U) (U := U.calling g mk a) (Vm.Alike.refl U.vm) h3, va_T.moved (u := U) (U := U.calling g mk a) (Vm.Alike.refl U.vm) h4, va_Z.moved (u := U) (U := U.calling g mk a) (Vm.Alike.refl U.vm) h5, va_T.moved (u := U) (U := U.calling g mk a) (Vm.Alike.refl U.vm) h6, fun q hq => va_Nw.same rfl (u := U) (U := U.calling g mk a) rfl (h7 q hq)⟩
theorem wC_moved {ad : Nat → Nat} {D : va_G} {cI cZ cA : ClassId} {s U : State} {H : Heap} {locs : List Loc} (h : wC ad D cI cZ cA SH s) (hS : va_S (wF ad SH) s.heap H locs) (hU : U.heap = H) (hW : s.WarmedH U.vm) : wC ad D cI cZ cA SH U := by
  obtain ⟨h1, h2, h3, h4, h5, h6, h7⟩ := h
  subst hU
  have hvm := hW.alike
  exact ⟨h1, h2.moved hvm, (h3.kept hS.2.1).moved hvm, (h4.kept hS.2.1).moved hvm, (h5.kept hS.2.1).moved hvm, (h6.kept hS.2.1).moved hvm, fun q hq => va_Nw.warmM hW (h7 q hq)⟩
abbrev jP (ad : Nat → Nat) (D : va_G) (cI cZ cA : ClassId) (SH : List Shp) (M : Mem) (vs : List PV) : Array Value → State → Prop := va_Pc (vs.map (rv ad)) (fun U => wC ad D cI cZ cA SH U ∧ va_P D clW (wW ad cI cZ cA SH M) U.heap)
theorem jP_blind {ad : Nat → Nat} {D : va_G} {cI cZ cA : ClassId} {vs : List PV} : FrameBlind (jP ad D cI cZ cA SH M vs) := by
  intro a U g mk h
  exact ⟨h.1, wC_frame h.2.1, h.2.2⟩
theorem j_met (hok : mOK mi) {vs : List PV} (hv : noLongs vs = true) (hn : vs.length ≤ mi.2.2.1) (h : J SH mi 0 (ent vs mi.2.2.1) [] M Q) (ad : Nat → Nat) (D : va_G) (cI cZ cA : ClassId) (l : Launch) :
    Met l mi.1 (mW mi) (mRm mi) (jP ad D cI cZ cA SH M vs) (jQ ad D cI cZ cA SH Q) 0 0 (wF ad SH) := by
  refine va_MetF (cc := mi.2.1) (maxL := mi.2.2.1) (ret := mi.2.2.2.1) hok.1 rfl ?_
  intro p e s m args below meth c s₁ B hml hP
  obtain ⟨rfl, hC, hP⟩ := hP
  have hl := lv_entry (vs.map (rv ad)) (n := mi.2.2.1) (by rw [ent_sl hv]; exact hn)
  rw [lg_entry_eq]
  refine h ad D cI cZ cA l p e s m _ below meth c ⟨B.exec, B.bytes, B.returns, hml, findClass_of_methodNamed B.named, B.notSynchronized, atoms_spec (ws := mW mi) B.pre, hC⟩ s.heap [] _ ⟨hl.1, hl.2.1, by simp [ent]; omega, fun i v hi => ?_⟩ hP va_S.rf
  refine hl.2.2 (i, rv ad v) ?_
  have : vs[i]? = some v := by
    unfold ent at hi
    by_cases hlt : i < vs.length
    · rw [List.getElem?_append_left (by simpa using hlt), List.getElem?_map] at hi
      cases h9 : vs[i]? with
      | none => rw [h9] at hi; cases hi
      | some w => rw [h9] at hi; simpa using hi
    · rw [List.getElem?_append_right (by simpa using hlt), List.getElem?_replicate] at hi
      split at hi <;> cases hi
  have := ent_args (ad := ad) hv 0 i v this
  rwa [Nat.zero_add] at this
/-- behind a call -/
theorem j_back {st0 rest : List PV} {a : Array Value} {ad : Nat → Nat} {D : va_G} {cI cZ cA : ClassId} {l : Launch} {p : Program} {e : Env} {s : State} {m : MethodId} {args : Array Value} {below : List Frame} {meth : Method} {c : Code} {H : Heap} {locs : List Loc} {ls : Array Slot} (h : jX mi ad D cI cZ cA SH p s m args meth c) (hl : wL ad ls mi.2.2.1 L) (hS : va_S (wF ad SH) s.heap H locs)
    (hr : va_Run p l e (mRm mi) s m args below meth c H locs 0 0 0 0 (F0 m pc ls (st0.map (rv ad))) (rest.map (rv ad)) (jQ ad D cI cZ cA SH Q1 a) (wF ad SH))
    (k : ∀ v M1, Q1 v M1 → J SH mi (pc + 3) L (v.toList ++ rest) M1 Q) :
    W p l e (mRm mi) s m args below meth c H locs 0 0 (MQ below (jQ ad D cI cZ cA SH Q) args s 0 0 (wF ad SH)) (F0 m pc ls (st0.map (rv ad))) := by
  intro T hT X
  obtain ⟨v, st₀, t, T', L', h0, X', hL, e1, e2, ⟨⟨v', M1, hv, hq, hp⟩, hz, hk⟩, st⟩ := hr T hT X
  cases hv
  rw [h0] at hz hk
  obtain ⟨t2, a1, b1⟩ := k v' M1 hq ad D cI cZ cA l p e s m args below meth c h T'.heap (locs ++ L') ls hl (by rw [e1]; exact hp)
    ⟨Nat.le_trans hS.1 (by rw [e1]; exact hz), fun q h1 h2 => by rw [e1, hk q (Nat.lt_of_lt_of_le h1 hS.1) h2]; exact hS.2.1 q h1 h2, fun q hq => by
      rcases List.mem_append.mp hq with h | h
      · exact hS.2.2 q h
      · exact hL q h⟩ T' rfl X'
  refine ⟨t2, st t2 ?_, b1⟩
  cases v' with
  | none => exact a1
  | some w => exact a1
theorem in_good (hg : ∀ w ∈ wTbl, (w.onTables && w.keeps) = true ∨ ∃ ty, w = .arrayClass ty) (hok : mOK mj) : ∀ w ∈ mW mj, w ∈ mW mi ∧ ((w.onTables && w.keeps) = true ∨ ∃ ty, w = .arrayClass ty) := by
  intro w hw
  rcases List.mem_cons.mp hw with rfl | hw
  · exact ⟨List.mem_cons_of_mem _ hok.2.1, hg _ hok.2.1⟩
  · exact ⟨List.mem_cons_of_mem _ hw, hg _ hw⟩
theorem lev_room (hok : mOK mj) (hlev : mj.2.2.2.2 < mi.2.2.2.2) : (mRm mj).frames + 1 ≤ (mRm mi).frames ∧ 8 + (mj.2.2.1 + 11) + (mRm mj).locals ≤ (mRm mi).locals := by
  have := hok.2.2.1
  simp only [mRm]
  omega
/-- instance call: the words that it needs -/
def vOK (own : String) (idx n : Nat) (mj : MI) : Prop := Cond.methodLink own idx mj.1 ∈ wTbl ∧ Cond.instanceMethod mj.1 ∈ wTbl ∧ Cond.selects mj.1.cls mj.1 mj.1 ∈ wTbl ∧ (parseMethodDescriptor mj.1.desc).map (fun d => d.parameters.length) = some n
def sOK (own : String) (idx n : Nat) (mj : MI) : Prop := Cond.methodLink own idx mj.1 ∈ wTbl ∧ Cond.static mj.1 ∈ wTbl ∧ (parseMethodDescriptor mj.1.desc).map (fun d => d.parameters.length) = some n
def nOK (own : String) (idx n : Nat) (mj : MI) : Prop := (own, idx, mj.1) ∈ nestL ∧ Cond.static mj.1 ∈ wTbl ∧ (parseMethodDescriptor mj.1.desc).map (fun d => d.parameters.length) = some n
def cOK (ci : Nat) (mj : MI) : Prop := ∃ q : vw_C, clW[ci]? = some q ∧ q.1 = mj.1.cls
theorem tbl_good : ∀ w ∈ wTbl, (w.onTables && w.keeps) = true ∨ ∃ ty, w = .arrayClass ty := by
  intro w hw
  exact good_of_word (List.mem_filter.mp hw).2
theorem rest8 {ad : Nat → Nat} {rest : List PV} (h : rest.length ≤ 4) : ((rest.map (rv ad)).map fun v => v.category).sum ≤ 8 := by
  have key : ∀ (r : List PV), ((r.map (rv ad)).map fun v => v.category).sum ≤ 2 * r.length := by
    intro r
    induction r with
    | nil => exact Nat.le_refl _
    | cons v r ih =>
      have : (rv ad v).category ≤ 2 := by
        rcases lv_cat (rv ad v) with q | q <;> omega
      simp only [List.map_cons, List.sum_cons, List.length_cons] at ih ⊢
      omega
  have := key rest
  omega
theorem j_V {idx ci r n len : Nat} {refs : List (Option Nat)} {As rest st0 : List PV} (hd : decode mi.2.1 pc = .ok (.invokevirtual idx, 3)) (hok : mOK mj) (hw : vOK mi.1.cls idx n mj) (hlev : mj.2.2.2.2 < mi.2.2.2.2) (hc : cOK ci mj) (hs : SH[r]? = some (ci + 3, len, refs)) (hn : As.length = n) (hnl : noLongs As = true) (hnL : n + 1 ≤ mj.2.2.1) (hr4 : rest.length ≤ 4) (hst : st0 = As.reverse ++ vR r :: rest)
    (h1 : J SH mj 0 (ent (vR r :: As) mj.2.2.1) [] M Q1) (k : ∀ v M1, Q1 v M1 → J SH mi (pc + 3) L (v.toList ++ rest) M1 Q) : J SH mi pc L st0 M Q := by
  intro ad D cI cZ cA l p e s m args below meth c h H locs ls hl hP hS
  obtain ⟨hx, hb, hret, hml, hown, hlk, hts, hC⟩ := id h
  obtain ⟨q, hq1, hq2⟩ := hc
  refine j_back (a := (Value.ref (ad r) :: As.map (rv ad)).toArray) h hl hS ?_ k
  refine va_runV (Ts := mW mi) (own := mi.1.cls) (C := mj.1.cls) (b := ad r) (As := As.map (rv ad)) (rest := rest.map (rv ad)) ⟨hx, hb, hml, hown, hts⟩ (j_met hok (vs := vR r :: As) (by simpa [noLongs] using hnl) (by simp [hn]; omega) h1 ad D cI cZ cA l) (cwV n hts ?_ rfl rfl rfl ⟨rfl, hok.2.2.2.1.1, hok.2.2.2.1.2, hw.2.2.2⟩ (lev_room hok hlev)) ⟨jP_blind, by rw [← hq2]; exact va_recv hC.2.1 hP hq1 (wW_get hs), fun U hU hW => ⟨rfl, wC_moved hC hS hU hW, by rw [hU]; exact hP⟩⟩ rfl (by simp [hn]) (hl.1) ?_ (lv_room (rest8 hr4)) hd ⟨Nat.le_refl _, Nat.le_refl _⟩
  · intro w hw0
    rcases List.mem_append.mp hw0 with h9 | h9
    · have hm : w ∈ wTbl := by
        simp only [List.mem_cons, List.not_mem_nil, or_false] at h9
        rcases h9 with rfl | rfl | rfl | rfl
        · exact hw.1
        · exact hw.2.1
        · exact hw.2.2.1
        · exact hok.2.2.2.2
      exact ⟨List.mem_cons_of_mem _ hm, tbl_good _ hm⟩
    · exact in_good tbl_good hok w h9
  · subst hst
    simp [rv]
theorem j_S {idx n : Nat} {As rest st0 : List PV} (hd : decode mi.2.1 pc = .ok (.invokestatic idx, 3)) (hok : mOK mj) (hw : sOK mi.1.cls idx n mj) (hlev : mj.2.2.2.2 < mi.2.2.2.2) (hn : As.length = n) (hnl : noLongs As = true) (hnL : n ≤ mj.2.2.1) (hr4 : rest.length ≤ 4) (hst : st0 = As.reverse ++ rest)
    (h1 : J SH mj 0 (ent As mj.2.2.1) [] M Q1) (k : ∀ v M1, Q1 v M1 → J SH mi (pc + 3) L (v.toList ++ rest) M1 Q) : J SH mi pc L st0 M Q := by
  intro ad D cI cZ cA l p e s m args below meth c h H locs ls hl hP hS
  obtain ⟨hx, hb, hret, hml, hown, hlk, hts, hC⟩ := id h
  refine j_back (a := (As.map (rv ad)).toArray) h hl hS ?_ k
  refine va_runS (Ts := mW mi) (own := mi.1.cls) (As := As.map (rv ad)) (rest := rest.map (rv ad)) ⟨hx, hb, hml, hown, hts⟩ (j_met hok (vs := As) hnl (by omega) h1 ad D cI cZ cA l) (va_cwS n hts ?_ rfl rfl rfl ⟨hok.2.2.2.1.1, hok.2.2.2.1.2, hw.2.2⟩ (lev_room hok hlev)) ⟨jP_blind, fun U hU hW => ⟨rfl, wC_moved hC hS hU hW, by rw [hU]; exact hP⟩⟩ rfl (by simp [hn]) (hl.1) ?_ (lv_room (rest8 hr4)) hd ⟨Nat.le_refl _, Nat.le_refl _⟩
  · intro w hw0
    rcases List.mem_append.mp hw0 with h9 | h9
    · have hm : w ∈ wTbl := by
        simp only [List.mem_cons, List.not_mem_nil, or_false] at h9
        rcases h9 with rfl | rfl | rfl
        · exact hw.1
        · exact hw.2.1
        · exact hok.2.2.2.2
      exact ⟨List.mem_cons_of_mem _ hm, tbl_good _ hm⟩
    · exact in_good tbl_good hok w h9
  · subst hst
    simp
theorem j_N {idx n : Nat} {As rest st0 : List PV} (hd : decode mi.2.1 pc = .ok (.invokestatic idx, 3)) (hok : mOK mj) (hw : nOK mi.1.cls idx n mj) (hlev : mj.2.2.2.2 < mi.2.2.2.2) (hn : As.length = n) (hnl : noLongs As = true) (hnL : n ≤ mj.2.2.1) (hr4 : rest.length ≤ 4) (hst : st0 = As.reverse ++ rest)
    (h1 : J SH mj 0 (ent As mj.2.2.1) [] M Q1) (k : ∀ v M1, Q1 v M1 → J SH mi (pc + 3) L (v.toList ++ rest) M1 Q) : J SH mi pc L st0 M Q := by
  intro ad D cI cZ cA l p e s m args below meth c h H locs ls hl hP hS
  obtain ⟨hx, hb, hret, hml, hown, hlk, hts, hC⟩ := id h
  refine j_back (a := (As.map (rv ad)).toArray) h hl hS ?_ k
  refine va_runSN (Ts := mW mi) (own := mi.1.cls) (host := "WallpaperGroups") (As := As.map (rv ad)) (rest := rest.map (rv ad)) ⟨hx, hb, hml, hown, hts⟩ (j_met hok (vs := As) hnl (by omega) h1 ad D cI cZ cA l) ⟨va_cnB n hts (in_good tbl_good hok) rfl rfl rfl (hC.2.2.2.2.2.2 _ hw.1) (hts _ (List.mem_cons_of_mem _ hok.2.2.2.2)) ⟨hok.2.2.2.1.1, hok.2.2.2.1.2, hw.2.2⟩ (lev_room hok hlev), hts _ (List.mem_cons_of_mem _ hw.2.1), trivial⟩ ⟨jP_blind, fun U hU hW => ⟨rfl, wC_moved hC hS hU hW, by rw [hU]; exact hP⟩⟩ rfl (by simp [hn]) (hl.1) ?_ (lv_room (rest8 hr4)) hd ⟨Nat.le_refl _, Nat.le_refl _⟩
  subst hst
  simp
end JC
