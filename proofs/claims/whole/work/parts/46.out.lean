/-! CALLS OUT OF ANY WALK: a method of J, where its world is a part of the cells -/
def wT2 (tS tH : Nat) (A : Nat → Prop) (U : State) (H : Heap) : Prop :=
  va_Z RX5 "SQUARE_PARTS" "[I" (.ref tS) A U H ∧ va_T .int tS 32 (fun j => .int (i3 (tSQ.getD j 0))) A U H ∧
  va_Z RX5 "HEXAGONAL_PARTS" "[I" (.ref tH) A U H ∧ va_T .int tH 48 (fun j => .int (i3 (tHX.getD j 0))) A U H ∧ wN U
theorem wZ_mono {C n d : String} {v : Value} {A A' : Nat → Prop} {U : State} {H : Heap} (h : ∀ q, A' q → A q) (hz : va_Z C n d v A U H) : va_Z C n d v A' U H := by
  obtain ⟨cf, kf, fi, f, a, cell, h1, h2, h3, h4, h5, h6, h7, h8⟩ := hz
  exact ⟨cf, kf, fi, f, a, cell, h1, h2, h3, h4, h5, h6, h7, fun z => h8 (h a z)⟩
theorem wTt_mono {ty : FieldType} {t N : Nat} {f : Nat → Value} {A A' : Nat → Prop} {U : State} {H : Heap} (h : ∀ q, A' q → A q) (hz : va_T ty t N f A U H) : va_T ty t N f A' U H := by
  obtain ⟨cell, h1, h2, h3, h4, h5, h6, h7⟩ := hz
  exact ⟨cell, h1, h2, h3, h4, h5, h6, fun z => h7 (h t z)⟩
theorem wT2_mono {tS tH : Nat} {A A' : Nat → Prop} {U : State} {H : Heap} (h : ∀ q, A' q → A q) (hz : wT2 tS tH A U H) : wT2 tS tH A' U H :=
  ⟨wZ_mono h hz.1, wTt_mono h hz.2.1, wZ_mono h hz.2.2.1, wTt_mono h hz.2.2.2.1, hz.2.2.2.2⟩
theorem wT2_moved {tS tH : Nat} {A : Nat → Prop} {s U : State} {H : Heap} {locs : List Loc} (h : wT2 tS tH A s s.heap) (hS : va_S A s.heap H locs) (hU : U.heap = H) (hW : s.WarmedH U.vm) : wT2 tS tH A U U.heap := by
  obtain ⟨h3, h4, h5, h6, h7⟩ := h
  subst hU
  have hvm := hW.alike
  exact ⟨(h3.kept hS.2.1).moved hvm, (h4.kept hS.2.1).moved hvm, (h5.kept hS.2.1).moved hvm, (h6.kept hS.2.1).moved hvm, fun q hq => va_Nw.warmM hW (h7 q hq)⟩
theorem wT2_frame {tS tH : Nat} {A : Nat → Prop} {U : State} {g : JFrame} {mk : MethodId} {a : Array Value} (h : wT2 tS tH A U U.heap) : wT2 tS tH A (U.calling g mk a) (U.calling g mk a).heap := by
  obtain ⟨h3, h4, h5, h6, h7⟩ := h
  exact ⟨va_Z.moved (u := U) (U := U.calling g mk a) (Vm.Alike.refl U.vm) h3, va_T.moved (u := U) (U := U.calling g mk a) (Vm.Alike.refl U.vm) h4, va_Z.moved (u := U) (U := U.calling g mk a) (Vm.Alike.refl U.vm) h5, va_T.moved (u := U) (U := U.calling g mk a) (Vm.Alike.refl U.vm) h6, fun q hq => va_Nw.same rfl (u := U) (U := U.calling g mk a) rfl (h7 q hq)⟩
theorem jc_V {SH : List Shp} {mj : MI} {M : Mem} {Q1 : Option PV → Mem → Prop} {ad : Nat → Nat} {D : va_G} {cI cZ cA : ClassId} {l : Launch} {p : Program} {e : Env} {R : Room} {s : State} {m : MethodId} {args : Array Value} {below : List Frame} {meth : Method} {c : Code} {H : Heap} {locs : List Loc} {cells slots : Nat} {Q : State → Prop} {own : String} {Ts : List Cond} {cc : ByteArray} {nL : Nat} {A : Nat → Prop}
    (hx : p.tables.exec = Jvm.exec) (hb : c.code = cc) (hml : c.maxLocals = nL) (hown : s.vm.findClass own = some m.cls) (hts : ∀ w ∈ Ts, w.before args s = true) (hsub : ∀ w ∈ wTbl, w ∈ Ts)
    (hi : ∀ i j, i < SH.length → j < SH.length → ad i = ad j → i = j) (hK : va_K D clW (wTy cI cZ cA) s) (hT2 : wT2 (ad 1000) (ad 1001) A s s.heap) (hA : ∀ q, wF ad SH q → A q) (hS : va_S A s.heap H locs) (hP : va_P D clW (wW ad cI cZ cA SH M) H)
    {idx ci r n len : Nat} {refs : List (Option Nat)} {As : List PV} {rest st0 : List Value} {pc : Nat} {ls : Array Slot} (hd : decode cc pc = .ok (.invokevirtual idx, 3)) (hok : mOK mj) (hw : vOK own idx n mj) (hc : cOK ci mj) (hs : SH[r]? = some (ci + 3, len, refs)) (hn : As.length = n) (hnl : noLongs As = true) (hnL : n + 1 ≤ mj.2.2.1)
    (hR : (mRm mj).frames + 1 ≤ R.frames ∧ 8 + (mj.2.2.1 + 11) + (mRm mj).locals ≤ R.locals) (hsz : ls.size = nL) (hcat : (rest.map fun v => v.category).sum ≤ 8) (hst : st0 = (As.map (rv ad)).reverse ++ .ref (ad r) :: rest) (hfit : cells ≤ R.cells ∧ slots ≤ R.slots)
    (h1 : J SH mj 0 (ent (vR r :: As) mj.2.2.1) [] M Q1)
    (k : ∀ (v : Option PV) (M1 : Mem) (H1 : Heap) (locs1 : List Loc), Q1 v M1 → va_P D clW (wW ad cI cZ cA SH M1) H1 → H.size ≤ H1.size → (∀ q : Nat, q < H.size → ¬ wF ad SH q → H1[q]? = H[q]?) → va_S A s.heap H1 locs1 → W p l e R s m args below meth c H1 locs1 cells slots Q (F0 m (pc + 3) ls ((v.map (rv ad)).toList ++ rest))) :
    W p l e R s m args below meth c H locs cells slots Q (F0 m pc ls st0) := by
  obtain ⟨q, hq1, hq2⟩ := hc
  have hr : va_Run p l e R s m args below meth c H locs cells slots 0 0 (F0 m pc ls st0) rest (jQ ad D cI cZ cA SH Q1 (Value.ref (ad r) :: As.map (rv ad)).toArray) (wF ad SH) := by
    refine va_runV (Ts := Ts) (own := own) (C := mj.1.cls) (b := ad r) (As := As.map (rv ad)) (rest := rest) ⟨hx, hb, hml, hown, hts⟩ (j_met hok (vs := vR r :: As) (by simpa [noLongs] using hnl) (by simp [hn]; omega) h1 ad D cI cZ cA l) (cwV n hts ?_ rfl rfl rfl ⟨rfl, hok.2.2.2.1.1, hok.2.2.2.1.2, hw.2.2.2⟩ hR) ⟨jP_blind, by rw [← hq2]; exact va_recv hK hP hq1 (wW_get hs), fun U hU hW => ⟨rfl, ⟨hi, hK.moved hW.alike, wT2_mono hA (wT2_moved hT2 hS hU hW)⟩, by rw [hU]; exact hP⟩⟩ rfl (by simp [hn]) hsz ?_ (lv_room hcat) hd ⟨hfit.1, hfit.2⟩
    · intro w hw0
      rcases List.mem_append.mp hw0 with h9 | h9
      · have hm : w ∈ wTbl := by
          simp only [List.mem_cons, List.not_mem_nil, or_false] at h9
          rcases h9 with rfl | rfl | rfl | rfl
          · exact hw.1
          · exact hw.2.1
          · exact hw.2.2.1
          · exact hok.2.2.2.2
        exact ⟨hsub _ hm, tbl_good _ hm⟩
      · rcases List.mem_cons.mp h9 with rfl | h9
        · exact ⟨hsub _ hok.2.1, tbl_good _ hok.2.1⟩
        · exact ⟨hsub _ h9, tbl_good _ h9⟩
    · exact hst
  intro T hT X
  obtain ⟨v, st₀, t, T', L', h0, X', hL, e1, e2, ⟨⟨v', M1, hv, hq, hp⟩, hz, hk⟩, st⟩ := hr T hT X
  cases hv
  rw [h0] at hz hk
  obtain ⟨t2, a1, b1⟩ := k v' M1 T'.heap (locs ++ L') hq (by rw [e1]; exact hp) (by rw [e1]; exact hz) (fun q h1 h2 => by rw [e1]; exact hk q h1 h2)
    ⟨Nat.le_trans hS.1 (by rw [e1]; exact hz), fun q h1 h2 => by rw [e1, hk q (Nat.lt_of_lt_of_le h1 hS.1) (fun z => h2 (hA q z))]; exact hS.2.1 q h1 h2, fun q hq => by
      rcases List.mem_append.mp hq with h | h
      · exact hS.2.2 q h
      · exact hA _ (hL q h)⟩ T' rfl X'
  exact ⟨t2, st t2 a1, b1⟩
-- the array classes are known by their names
theorem ra_uq {U : State} {c1 c2 : ClassId} {ty : FieldType} (hty : ∀ C, ty ≠ .object C) (h1 : va_RA U c1 ty) (h2 : va_RA U c2 ty) : c1 = c2 := by
  cases ty with
  | object C => exact absurd rfl (hty C)
  | _ => exact Option.some.inj (h1.symm.trans h2)
