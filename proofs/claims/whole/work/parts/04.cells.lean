/-! THE ENGINE, second part: fields, arrays, the static tables, returns, switches -/
section JM
variable {SH : List Shp} {mi : MI} {pc : Nat} {L : List (Option PV)} {st : List PV} {M : Mem} {Q : Option PV → Mem → Prop} {a b : Int}
def fOK (own : String) (idx ci k : Nat) : Prop := ∃ (C : String) (T : u_T) (N : Nat), clW[ci]? = some (C, T, N) ∧ k < N ∧ Cond.fieldLink own idx (T k).1 (T k).2.1 (T k).2.2.1 ∈ wTbl ∧ ∀ w ∈ u_ws C T N, w ∈ wTbl
def gOK (own : String) (idx ci k : Nat) : Prop := ∃ (C : String) (T : u_T) (N : Nat) (ty0 : Nat → FieldType), clW[ci]? = some (C, T, N) ∧ k < N ∧ Cond.fieldLink own idx (T k).1 (T k).2.1 (T k).2.2.1 ∈ wTbl ∧ (∀ w ∈ u_ws C T N, w ∈ wTbl) ∧ (∀ k, k < N → parseFieldDescriptor (T k).2.2.1 = some (ty0 k)) ∧ (∀ a, a < N → ∀ b, b < N → a ≠ b → (T a).2.1 ≠ (T b).2.1) ∧ (T k).2.2.2 = false ∧ parseFieldDescriptor (T k).2.2.1 = some .int
theorem j_getI {r ci k idx len : Nat} {kz : Int} {refs : List (Option Nat)} (hkz : kz = (k : Int)) (hd : decode mi.2.1 pc = .ok (.getfield idx, 3)) (hf : fOK mi.1.cls idx ci k) (hs : SH[r]? = some (ci + 3, len, refs)) (hr : refs[k]? = some none) (K : J SH mi (pc + 3) L (vI (M r kz) :: st) M Q) : J SH mi pc L (vR r :: st) M Q := by
  subst hkz
  intro ad D cI cZ cA l p e s m args below meth c h H locs ls hl hP hS
  obtain ⟨C, T, N, f1, f2, f3, f4⟩ := hf
  obtain ⟨hx, hb, hret, hml, hown, hlk, hts, hC⟩ := id h
  exact va_get (v := .int (i3 (M r k))) hx hb hts (fun w hw => List.mem_cons_of_mem _ (f4 w hw)) hown hC.2.1 hP r (wW_get hs) f1 k f2 (hts _ (List.mem_cons_of_mem _ f3)) (fun _ z => z) (by simp [hr, wfld]) hd (K ad D cI cZ cA l p e s m args below meth c h H locs ls hl hP hS)
theorem j_getR {r ci k idx len q : Nat} {refs : List (Option Nat)} (hd : decode mi.2.1 pc = .ok (.getfield idx, 3)) (hf : fOK mi.1.cls idx ci k) (hs : SH[r]? = some (ci + 3, len, refs)) (hr : refs[k]? = some (some q)) (K : J SH mi (pc + 3) L (vR q :: st) M Q) : J SH mi pc L (vR r :: st) M Q := by
  intro ad D cI cZ cA l p e s m args below meth c h H locs ls hl hP hS
  obtain ⟨C, T, N, f1, f2, f3, f4⟩ := hf
  obtain ⟨hx, hb, hret, hml, hown, hlk, hts, hC⟩ := id h
  exact va_get (v := .ref (ad q)) hx hb hts (fun w hw => List.mem_cons_of_mem _ (f4 w hw)) hown hC.2.1 hP r (wW_get hs) f1 k f2 (hts _ (List.mem_cons_of_mem _ f3)) (fun _ z => z) (by simp [hr, wfld]) hd (K ad D cI cZ cA l p e s m args below meth c h H locs ls hl hP hS)
theorem wE_put {ad : Nat → Nat} {M : Mem} {r k : Nat} {x : Int} {refs : List (Option Nat)} (hr : refs[k]? = some none) : (refs.mapIdx (fun j q => wfld ad M r j q)).set k (.int (i3 x)) = refs.mapIdx (fun j q => wfld ad (wr M r k x) r j q) := by
  apply List.ext_getElem?
  intro j
  by_cases e : j = k
  · subst e
    rw [List.getElem?_set_self (by rw [List.length_mapIdx]; exact (List.getElem?_eq_some_iff.mp hr).1), List.getElem?_mapIdx, hr]
    simp [wfld, wr]
  · rw [List.getElem?_set_ne (Ne.symm e), List.getElem?_mapIdx, List.getElem?_mapIdx]
    cases refs[j]? with
    | none => rfl
    | some o =>
      have e2 : ¬ (j : Int) = (k : Int) := by omega
      cases o <;> simp [wfld, wr, e2]
theorem j_putI {r ci k idx len : Nat} {kz : Int} {refs : List (Option Nat)} (hkz : kz = (k : Int)) (hd : decode mi.2.1 pc = .ok (.putfield idx, 3)) (hf : gOK mi.1.cls idx ci k) (hs : SH[r]? = some (ci + 3, len, refs)) (hr : refs[k]? = some none) (K : J SH mi (pc + 3) L st (wr M r kz a) Q) : J SH mi pc L (vI a :: vR r :: st) M Q := by
  subst hkz
  intro ad D cI cZ cA l p e s m args below meth c h H locs ls hl hP hS
  obtain ⟨C, T, N, ty0, f1, f2, f3, f4, f5, f6, f7, f8⟩ := hf
  obtain ⟨hx, hb, hret, hml, hown, hlk, hts, hC⟩ := id h
  refine va_put (v := .int (i3 a)) (ty := .int) hx hb hts (fun w hw => List.mem_cons_of_mem _ (f4 w hw)) ty0 f5 f6 hown hC.2.1 hP (wW_D hC.1) hS r (wW_get hs) f1 k f2 (hts _ (List.mem_cons_of_mem _ f3)) (fun _ z => z) f7 f8 rfl rfl (by rw [List.length_mapIdx]; exact (List.getElem?_eq_some_iff.mp hr).1) hd (fun H1 locs1 hP1 _ hS1 => ?_)
  refine K ad D cI cZ cA l p e s m args below meth c h H1 locs1 ls hl ?_ hS1
  rw [← wW_set (s := (ci + 3, len, refs)) hs]
  rw [wE_put hr] at hP1
  exact hP1
theorem inR_lt {i : Int} {n : Nat} (h0 : 0 ≤ i) (h1 : i < n) (hn : n ≤ 100000) : inR i := ⟨by omega, by omega⟩
theorem vp_in_i3 {i : Int} {n : Nat} (h0 : 0 ≤ i) (h1 : i < n) (hn : n ≤ 100000) : vp_in (i3 i) n := by
  have hi := inR_lt h0 h1 hn
  intro q
  rcases q with q | q
  · rw [← i3_zero, i3_lt hi inR0] at q; omega
  · rw [i3_clamp hi h0] at q; omega
theorem j_iald {r n : Nat} {refs : List (Option Nat)} (hd : decode mi.2.1 pc = .ok (.iaload, 1)) (hs : SH[r]? = some (0, n, refs)) (hn : n ≤ 100000) (h0 : 0 ≤ a) (h1 : a < n) (K : J SH mi (pc + 1) L (vI (M r a) :: st) M Q) : J SH mi pc L (vI a :: vR r :: st) M Q := by
  intro ad D cI cZ cA l p e s m args below meth c h H locs ls hl hP hS
  obtain ⟨hx, hb, hret, hml, hown, hlk, hts, hC⟩ := id h
  refine va_iald (i := i3 a) hx hb hC.2.1 hP r 0 (wW_get hs) rfl (vp_in_i3 h0 h1 hn) hd ?_
  have e1 : (((i3 a).toNatClampNeg : Nat) : Int) = a := by rw [i3_clamp (inR_lt h0 h1 hn) h0]; exact Int.toNat_of_nonneg h0
  simp only [e1]
  exact K ad D cI cZ cA l p e s m args below meth c h H locs ls hl hP hS
theorem j_bald {r n : Nat} {refs : List (Option Nat)} (hd : decode mi.2.1 pc = .ok (.baload, 1)) (hs : SH[r]? = some (1, n, refs)) (hn : n ≤ 100000) (h0 : 0 ≤ a) (h1 : a < n) (K : J SH mi (pc + 1) L (vI (M r a) :: st) M Q) : J SH mi pc L (vI a :: vR r :: st) M Q := by
  intro ad D cI cZ cA l p e s m args below meth c h H locs ls hl hP hS
  obtain ⟨hx, hb, hret, hml, hown, hlk, hts, hC⟩ := id h
  refine va_zald (i := i3 a) hx hb hC.2.1 hP r 1 (wW_get hs) rfl (vp_in_i3 h0 h1 hn) hd ?_
  have e1 : (((i3 a).toNatClampNeg : Nat) : Int) = a := by rw [i3_clamp (inR_lt h0 h1 hn) h0]; exact Int.toNat_of_nonneg h0
  simp only [e1]
  exact K ad D cI cZ cA l p e s m args below meth c h H locs ls hl hP hS
theorem wr_upd {r : Nat} (h0 : 0 ≤ a) (hi : inR a) : upd (fun j : Nat => i3 (M r j)) (i3 a).toNatClampNeg (i3 b) = fun j : Nat => i3 (wr M r a b r j) := by
  funext j
  rw [i3_clamp hi h0]
  by_cases e : j = a.toNat
  · subst e
    simp [upd, wr, Int.toNat_of_nonneg h0]
  · have e2 : ¬ (j : Int) = a := by omega
    simp [upd, wr, e, e2]
theorem j_iast {r n : Nat} {refs : List (Option Nat)} (hd : decode mi.2.1 pc = .ok (.iastore, 1)) (hs : SH[r]? = some (0, n, refs)) (hn : n ≤ 100000) (h0 : 0 ≤ a) (h1 : a < n) (K : J SH mi (pc + 1) L st (wr M r a b) Q) : J SH mi pc L (vI b :: vI a :: vR r :: st) M Q := by
  intro ad D cI cZ cA l p e s m args below meth c h H locs ls hl hP hS
  obtain ⟨hx, hb, hret, hml, hown, hlk, hts, hC⟩ := id h
  refine va_iast (i := i3 a) (x := i3 b) hx hb hC.2.1 hP (wW_D hC.1) hS r 0 (wW_get hs) rfl (vp_in_i3 h0 h1 hn) hd (fun H1 locs1 hP1 _ hS1 => ?_)
  refine K ad D cI cZ cA l p e s m args below meth c h H1 locs1 ls hl ?_ hS1
  rw [← wW_set (s := (0, n, refs)) hs]
  rw [wr_upd h0 (inR_lt h0 h1 hn)] at hP1
  exact hP1
theorem nar01 (hb : b = 0 ∨ b = 1) : vp_nar .boolean (i3 b) = i3 b := by
  rcases hb with rfl | rfl <;> decide +kernel
theorem j_bast {r n : Nat} {refs : List (Option Nat)} (hd : decode mi.2.1 pc = .ok (.bastore, 1)) (hs : SH[r]? = some (1, n, refs)) (hn : n ≤ 100000) (h0 : 0 ≤ a) (h1 : a < n) (hb01 : b = 0 ∨ b = 1) (K : J SH mi (pc + 1) L st (wr M r a b) Q) : J SH mi pc L (vI b :: vI a :: vR r :: st) M Q := by
  intro ad D cI cZ cA l p e s m args below meth c h H locs ls hl hP hS
  obtain ⟨hx, hb, hret, hml, hown, hlk, hts, hC⟩ := id h
  refine va_zast (i := i3 a) (x := i3 b) hx hb hC.2.1 hP (wW_D hC.1) hS r 1 (wW_get hs) rfl (vp_in_i3 h0 h1 hn) hd (fun H1 locs1 hP1 _ hS1 => ?_)
  refine K ad D cI cZ cA l p e s m args below meth c h H1 locs1 ls hl ?_ hS1
  rw [← wW_set (s := (1, n, refs)) hs]
  rw [nar01 hb01, wr_upd h0 (inR_lt h0 h1 hn)] at hP1
  exact hP1
theorem j_aald {r n q : Nat} {refs : List (Option Nat)} (hd : decode mi.2.1 pc = .ok (.aaload, 1)) (hs : SH[r]? = some (2, n, refs)) (hn : n ≤ 100000) (h0 : 0 ≤ a) (h1 : a < n) (hq : refs[a.toNat]? = some (some q)) (K : J SH mi (pc + 1) L (vR q :: st) M Q) : J SH mi pc L (vI a :: vR r :: st) M Q := by
  intro ad D cI cZ cA l p e s m args below meth c h H locs ls hl hP hS
  obtain ⟨hx, hb, hret, hml, hown, hlk, hts, hC⟩ := id h
  have hin := vp_in_i3 h0 h1 hn
  have hlt : (i3 a).toNatClampNeg < n := Nat.not_le.mp fun q => hin (Or.inr q)
  have e1 : (i3 a).toNatClampNeg = a.toNat := i3_clamp (inR_lt h0 h1 hn) h0
  have e2 : va_rf ((refs.getD (i3 a).toNatClampNeg none).map ad) = .ref (ad q) := by
    rw [e1, List.getD_eq_getElem?_getD, hq]; rfl
  refine W.aald (v := .ref (ad q)) (ty := .array .int) hx hb (hP r _ (wW_get hs)) ((hC.2.1.2 2 _ rfl).1 n (fun j => va_rf ((refs.getD j none).map ad))) rfl (fun q => by cases q) (by show ¬ (i3 a < 0 ∨ (arrV _ _ _).slots.size ≤ _); rw [arrV_size]; exact hin) (by show (arrV _ _ _).slots[_]? = _; rw [arrV_read _ _ hlt, e2]) rfl rfl hd (K ad D cI cZ cA l p e s m args below meth c h H locs ls hl hP hS)
theorem j_alen {r t n : Nat} {refs : List (Option Nat)} (hd : decode mi.2.1 pc = .ok (.arraylength, 1)) (hs : SH[r]? = some (t, n, refs)) (ht : t ≤ 2) (K : J SH mi (pc + 1) L (vI n :: st) M Q) : J SH mi pc L (vR r :: st) M Q := by
  intro ad D cI cZ cA l p e s m args below meth c h H locs ls hl hP hS
  obtain ⟨hx, hb, hret, hml, hown, hlk, hts, hC⟩ := id h
  have K1 := K ad D cI cZ cA l p e s m args below meth c h H locs ls hl hP hS
  match t, ht with
  | 0, _ => exact va_alen (v := i3 n) hx hb hC.2.1 hP r 0 (wW_get hs) rfl rfl hd K1
  | 1, _ => exact va_alen (v := i3 n) hx hb hC.2.1 hP r 1 (wW_get hs) rfl rfl hd K1
  | 2, _ => exact va_alen (v := i3 n) hx hb hC.2.1 hP r 2 (wW_get hs) rfl rfl hd K1
-- static tables
theorem j_getSQ {idx : Nat} (hd : decode mi.2.1 pc = .ok (.getstatic idx, 3)) (hw : Cond.fieldLink mi.1.cls idx RX5 "SQUARE_PARTS" "[I" ∈ wTbl) (K : J SH mi (pc + 3) L (vR 1000 :: st) M Q) : J SH mi pc L st M Q := by
  intro ad D cI cZ cA l p e s m args below meth c h H locs ls hl hP hS
  obtain ⟨hx, hb, hret, hml, hown, hlk, hts, hC⟩ := id h
  exact va_gets hx hb hC.2.2.1 hS hown (hts _ (List.mem_cons_of_mem _ hw)) (fun _ z => z) hd (K ad D cI cZ cA l p e s m args below meth c h H locs ls hl hP hS)
theorem j_getHX {idx : Nat} (hd : decode mi.2.1 pc = .ok (.getstatic idx, 3)) (hw : Cond.fieldLink mi.1.cls idx RX5 "HEXAGONAL_PARTS" "[I" ∈ wTbl) (K : J SH mi (pc + 3) L (vR 1001 :: st) M Q) : J SH mi pc L st M Q := by
  intro ad D cI cZ cA l p e s m args below meth c h H locs ls hl hP hS
  obtain ⟨hx, hb, hret, hml, hown, hlk, hts, hC⟩ := id h
  exact va_gets hx hb hC.2.2.2.2.1 hS hown (hts _ (List.mem_cons_of_mem _ hw)) (fun _ z => z) hd (K ad D cI cZ cA l p e s m args below meth c h H locs ls hl hP hS)
theorem j_ldSQ (hd : decode mi.2.1 pc = .ok (.iaload, 1)) (h0 : 0 ≤ a) (h1 : a < 32) (K : J SH mi (pc + 1) L (vI (tSQ.getD a.toNat 0) :: st) M Q) : J SH mi pc L (vI a :: vR 1000 :: st) M Q := by
  intro ad D cI cZ cA l p e s m args below meth c h H locs ls hl hP hS
  obtain ⟨hx, hb, hret, hml, hown, hlk, hts, hC⟩ := id h
  exact va_ti (i := i3 a) (v := .int (i3 (tSQ.getD a.toNat 0))) hx hb hC.2.2.2.1 hS (vp_in_i3 (n := 32) h0 h1 (by decide)) (by rw [i3_clamp (inR_lt (n := 32) h0 h1 (by decide)) h0]) hd (K ad D cI cZ cA l p e s m args below meth c h H locs ls hl hP hS)
theorem j_ldHX (hd : decode mi.2.1 pc = .ok (.iaload, 1)) (h0 : 0 ≤ a) (h1 : a < 48) (K : J SH mi (pc + 1) L (vI (tHX.getD a.toNat 0) :: st) M Q) : J SH mi pc L (vI a :: vR 1001 :: st) M Q := by
  intro ad D cI cZ cA l p e s m args below meth c h H locs ls hl hP hS
  obtain ⟨hx, hb, hret, hml, hown, hlk, hts, hC⟩ := id h
  exact va_ti (i := i3 a) (v := .int (i3 (tHX.getD a.toNat 0))) hx hb hC.2.2.2.2.2.1 hS (vp_in_i3 (n := 48) h0 h1 (by decide)) (by rw [i3_clamp (inR_lt (n := 48) h0 h1 (by decide)) h0]) hd (K ad D cI cZ cA l p e s m args below meth c h H locs ls hl hP hS)
theorem j_lenSQ (hd : decode mi.2.1 pc = .ok (.arraylength, 1)) (K : J SH mi (pc + 1) L (vI 32 :: st) M Q) : J SH mi pc L (vR 1000 :: st) M Q := by
  intro ad D cI cZ cA l p e s m args below meth c h H locs ls hl hP hS
  obtain ⟨hx, hb, hret, hml, hown, hlk, hts, hC⟩ := id h
  exact va_tlen (v := i3 32) hx hb hC.2.2.2.1 hS rfl hd (K ad D cI cZ cA l p e s m args below meth c h H locs ls hl hP hS)
theorem j_lenHX (hd : decode mi.2.1 pc = .ok (.arraylength, 1)) (K : J SH mi (pc + 1) L (vI 48 :: st) M Q) : J SH mi pc L (vR 1001 :: st) M Q := by
  intro ad D cI cZ cA l p e s m args below meth c h H locs ls hl hP hS
  obtain ⟨hx, hb, hret, hml, hown, hlk, hts, hC⟩ := id h
  exact va_tlen (v := i3 48) hx hb hC.2.2.2.2.2.1 hS rfl hd (K ad D cI cZ cA l p e s m args below meth c h H locs ls hl hP hS)
-- returns
theorem j_iret (hd : decode mi.2.1 pc = .ok (.ireturn, 1)) (hr : mi.2.2.2.1 = some .int) (hq : Q (some (vI a)) M) : J SH mi pc L [vI a] M Q := by
  intro ad D cI cZ cA l p e s m args below meth c h H locs ls hl hP hS
  obtain ⟨hx, hb, hret, hml, hown, hlk, hts, hC⟩ := id h
  exact W.iret (v := i3 a) hx hb (hret.trans hr) (fun t ht _ => ⟨⟨some (vI a), M, rfl, hq, by rw [ht]; exact hP⟩, hS.F ht⟩) hS.2.2 hd hlk
theorem nar01' (hb : b = 0 ∨ b = 1) : narrow .boolean (.int (i3 b)) = .int (i3 b) := by
  rcases hb with rfl | rfl <;> decide +kernel
theorem j_zret (hd : decode mi.2.1 pc = .ok (.ireturn, 1)) (hr : mi.2.2.2.1 = some .boolean) (h01 : a = 0 ∨ a = 1) (hq : Q (some (vI a)) M) : J SH mi pc L [vI a] M Q := by
  intro ad D cI cZ cA l p e s m args below meth c h H locs ls hl hP hS
  obtain ⟨hx, hb, hret, hml, hown, hlk, hts, hC⟩ := id h
  exact W.zret (v := i3 a) hx hb (hret.trans hr) (nar01' h01) (fun t ht _ => ⟨⟨some (vI a), M, rfl, hq, by rw [ht]; exact hP⟩, hS.F ht⟩) hS.2.2 hd hlk
theorem j_lret (hd : decode mi.2.1 pc = .ok (.lreturn, 1)) (hr : mi.2.2.2.1 = some .long) (hq : Q (some (vL a)) M) : J SH mi pc L [vL a] M Q := by
  intro ad D cI cZ cA l p e s m args below meth c h H locs ls hl hP hS
  obtain ⟨hx, hb, hret, hml, hown, hlk, hts, hC⟩ := id h
  exact W.lret (v := i6 a) hx hb (hret.trans hr) (fun t ht _ => ⟨⟨some (vL a), M, rfl, hq, by rw [ht]; exact hP⟩, hS.F ht⟩) hS.2.2 hd hlk
theorem j_vret (hd : decode mi.2.1 pc = .ok (.return_, 1)) (hr : mi.2.2.2.1 = none) (hq : Q none M) : J SH mi pc L [] M Q := by
  intro ad D cI cZ cA l p e s m args below meth c h H locs ls hl hP hS
  obtain ⟨hx, hb, hret, hml, hown, hlk, hts, hC⟩ := id h
  exact W.vret hx hb (hret.trans hr) (fun t ht _ => ⟨⟨none, M, rfl, hq, by rw [ht]; exact hP⟩, hS.F ht⟩) hS.2.2 hd hlk
-- switches
theorem j_tsIn {dflt lo hi off : Int} {offs : Array Int} {len : Nat} (tgt : Nat) (hd : decode mi.2.1 pc = .ok (.tableswitch dflt lo hi offs, len)) (ha : inR a) (h1 : lo ≤ a) (h2 : a ≤ hi) (ho : offs[(a - lo).toNat]? = some off) (ht : (pc : Int) + off = (tgt : Int)) (K : J SH mi tgt L st M Q) : J SH mi pc L (vI a :: st) M Q := by
  intro ad D cI cZ cA l p e s m args below meth c h H locs ls hl hP hS
  exact lv_tableIn (x := i3 a) (off := off) (tgt := tgt) h.1 h.2.1 hd (by rw [i3_toInt ha]; omega) (by rw [i3_toInt ha]; omega) (by rw [i3_toInt ha]; exact ho) ht (K ad D cI cZ cA l p e s m args below meth c h H locs ls hl hP hS)
theorem j_tsOut {dflt lo hi : Int} {offs : Array Int} {len : Nat} (tgt : Nat) (hd : decode mi.2.1 pc = .ok (.tableswitch dflt lo hi offs, len)) (ha : inR a) (h1 : a < lo ∨ hi < a) (ht : (pc : Int) + dflt = (tgt : Int)) (K : J SH mi tgt L st M Q) : J SH mi pc L (vI a :: st) M Q := by
  intro ad D cI cZ cA l p e s m args below meth c h H locs ls hl hP hS
  exact lv_tableOut (x := i3 a) (tgt := tgt) h.1 h.2.1 hd (by rw [i3_toInt ha]; exact h1) ht (K ad D cI cZ cA l p e s m args below meth c h H locs ls hl hP hS)
/-- a weaker end -/
theorem j_mono {Q' : Option PV → Mem → Prop} (hq : ∀ v M1, Q v M1 → Q' v M1) (K : J SH mi pc L st M Q) : J SH mi pc L st M Q' := by
  intro ad D cI cZ cA l p e s m args below meth c h H locs ls hl hP hS T hT X
  obtain ⟨t, h1, o, h2, h3, ⟨⟨v, M1, h4, h5, h6⟩, h7⟩, h8⟩ := K ad D cI cZ cA l p e s m args below meth c h H locs ls hl hP hS T hT X
  exact ⟨t, h1, o, h2, h3, ⟨⟨v, M1, h4, hq _ _ h5, h6⟩, h7⟩, h8⟩
end JM
