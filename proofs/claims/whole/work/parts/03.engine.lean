/-! THE ENGINE: a judgement J over pure cells (ints as Int at abstract addresses), derived from the kit's rows; its rows need no world, no room, no frame. -/
-- whole numbers and the machine's
def i3 (z : Int) : Int32 := Int32.ofInt z
def i6 (z : Int) : Int64 := Int64.ofInt z
def inR (z : Int) : Prop := -2147483648 ≤ z ∧ z < 2147483648
theorem i3_toInt {z : Int} (h : inR z) : (i3 z).toInt = z := by
  unfold i3
  rw [Int32.toInt_ofInt]
  have h1 := h.1
  have h2 := h.2
  have hs : (Int32.size : Int) = 4294967296 := rfl
  rw [Int.bmod_def, hs]
  omega
theorem i3_add (a b : Int) : i3 a + i3 b = i3 (a + b) := (Int32.ofInt_add ..).symm
theorem i3_sub (a b : Int) : i3 a - i3 b = i3 (a - b) := (Int32.ofInt_sub ..).symm
theorem i3_mul (a b : Int) : i3 a * i3 b = i3 (a * b) := (Int32.ofInt_mul ..).symm
theorem i3_neg (a : Int) : - i3 a = i3 (- a) := (Int32.ofInt_neg ..).symm
theorem i6_add (a b : Int) : i6 a + i6 b = i6 (a + b) := (Int64.ofInt_add ..).symm
theorem i6_mul (a b : Int) : i6 a * i6 b = i6 (a * b) := (Int64.ofInt_mul ..).symm
theorem i3_inj {a b : Int} (ha : inR a) (hb : inR b) : i3 a = i3 b ↔ a = b := by
  constructor
  · intro h
    have := congrArg Int32.toInt h
    rwa [i3_toInt ha, i3_toInt hb] at this
  · intro h; rw [h]
theorem i3_lt {a b : Int} (ha : inR a) (hb : inR b) : i3 a < i3 b ↔ a < b := by
  rw [Int32.lt_iff_toInt_lt, i3_toInt ha, i3_toInt hb]
theorem i3_le {a b : Int} (ha : inR a) (hb : inR b) : i3 a ≤ i3 b ↔ a ≤ b := by
  rw [Int32.le_iff_toInt_le, i3_toInt ha, i3_toInt hb]
theorem i3_zero : i3 0 = 0 := rfl
theorem inR0 : inR 0 := ⟨by decide, by decide⟩
theorem i3_eq0 {a : Int} (ha : inR a) : i3 a = 0 ↔ a = 0 := i3_inj ha inR0
theorem i3_of (x : Int32) : i3 x.toInt = x := by
  unfold i3
  exact Int32.ofInt_toInt x
theorem inR_of (x : Int32) : inR x.toInt := ⟨Int32.le_toInt x, Int32.toInt_lt x⟩
theorem i3_clamp {z : Int} (h : inR z) (h0 : 0 ≤ z) : (i3 z).toNatClampNeg = z.toNat := by
  rw [← Int32.toNat_toInt, i3_toInt h]
theorem i3_div {a b : Int} (ha : inR a) (hb : inR b) (hb0 : 0 < b) : i3 a / i3 b = i3 (a.tdiv b) := by
  apply Int32.toInt_inj.mp
  have h1 : inR (a.tdiv b) := by
    have := Int.natAbs_tdiv_le_natAbs a b
    have := ha.1
    have := ha.2
    rcases Int.le_total 0 a with h | h
    · have := Int.tdiv_nonneg h (Int.le_of_lt hb0)
      constructor <;> omega
    · have h4 := Int.tdiv_nonneg (show 0 ≤ -a by omega) (Int.le_of_lt hb0)
      rw [Int.neg_tdiv] at h4
      constructor <;> omega
  rw [Int32.toInt_div, i3_toInt ha, i3_toInt hb, i3_toInt h1, Int.bmod_def]
  have := h1.1
  have := h1.2
  omega
theorem i3_mod {a b : Int} (ha : inR a) (hb : inR b) (hb0 : 0 < b) : i3 a - i3 a / i3 b * i3 b = i3 (a.tmod b) := by
  rw [i3_div ha hb hb0, i3_mul, i3_sub]
  congr 1
  have := Int.tmod_add_tdiv_mul a b
  omega
theorem i3_ne0 {b : Int} (hb : inR b) (hb0 : 0 < b) : ¬ i3 b = 0 := by
  rw [i3_eq0 hb]; omega
-- values
abbrev PV : Type := Int ⊕ Int ⊕ Nat
abbrev vI (z : Int) : PV := .inl z
abbrev vL (z : Int) : PV := .inr (.inl z)
abbrev vR (k : Nat) : PV := .inr (.inr k)
abbrev Mem : Type := Nat → Int → Int
def rv (ad : Nat → Nat) : PV → Value
  | .inl z => .int (i3 z)
  | .inr (.inl z) => .long (i6 z)
  | .inr (.inr k) => .ref (ad k)
def wr (M : Mem) (a : Nat) (i x : Int) : Mem := fun b j => if b = a ∧ j = i then x else M b j
theorem wr_self (M : Mem) (a : Nat) (i x : Int) : wr M a i x a i = x := by simp [wr]
theorem wr_ne (M : Mem) {a b : Nat} {i j : Int} (x : Int) (h : ¬ (b = a ∧ j = i)) : wr M a i x b j = M b j := by simp [wr, h]
-- shapes: tag 0 int[], 1 boolean[], 2 int[][] (its rows), t+3 an object of class t (none: an int, some: a reference that stays)
abbrev Shp : Type := Nat × Nat × List (Option Nat)
def wF (ad : Nat → Nat) (SH : List Shp) : Nat → Prop := fun q => ∃ k, k < SH.length ∧ ad k = q
def clW : List vw_C := [(RX0, TX0, 10), (RX1, TX1, 5), (RX2, TX2, 2), (RX3, TX3, 8), (RX4, TX4, 2), (RX5, TX5, 2), (RX6, TX6, 6), (RX7, TX7, 9)]
def wfld (ad : Nat → Nat) (M : Mem) (a : Nat) (k : Nat) (r : Option Nat) : Value := match r with
  | none => .int (i3 (M a k))
  | some q => .ref (ad q)
def wE (ad : Nat → Nat) (cI cZ cA : ClassId) (M : Mem) (a : Nat) (s : Shp) : va_E := match s.1 with
  | 0 => .inl (cI, s.2.1, .inl (fun j => i3 (M a j)))
  | 1 => .inl (cZ, s.2.1, .inl (fun j => i3 (M a j)))
  | 2 => .inl (cA, s.2.1, .inr (.inr (.inr (.inr (fun j => (s.2.2.getD j none).map ad)))))
  | t + 3 => .inr (t, s.2.2.mapIdx (fun k r => wfld ad M a k r))
def wW (ad : Nat → Nat) (cI cZ cA : ClassId) (SH : List Shp) (M : Mem) : va_W := SH.mapIdx (fun a s => (ad a, wE ad cI cZ cA M a s))
theorem wW_get {ad : Nat → Nat} {cI cZ cA : ClassId} {SH : List Shp} {M : Mem} {a : Nat} {s : Shp} (h : SH[a]? = some s) : (wW ad cI cZ cA SH M)[a]? = some (ad a, wE ad cI cZ cA M a s) := by
  simp [wW, h]
theorem wW_get' {ad : Nat → Nat} {cI cZ cA : ClassId} {SH : List Shp} {M : Mem} {a : Nat} {q : Nat × va_E} (h : (wW ad cI cZ cA SH M)[a]? = some q) : ∃ s, SH[a]? = some s ∧ q = (ad a, wE ad cI cZ cA M a s) := by
  simp only [wW, List.getElem?_mapIdx, Option.map_eq_some_iff] at h
  obtain ⟨s, h1, h2⟩ := h
  exact ⟨s, h1, h2.symm⟩
theorem wW_D {ad : Nat → Nat} {cI cZ cA : ClassId} {SH : List Shp} {M : Mem} (hi : ∀ i j, i < SH.length → j < SH.length → ad i = ad j → i = j) : va_D (wF ad SH) (wW ad cI cZ cA SH M) := by
  constructor
  · intro i j p q h1 h2 h3
    obtain ⟨s1, a1, rfl⟩ := wW_get' h1
    obtain ⟨s2, a2, rfl⟩ := wW_get' h2
    exact hi i j (List.getElem?_eq_some_iff.mp a1).1 (List.getElem?_eq_some_iff.mp a2).1 h3
  · intro k q h
    obtain ⟨s, a1, rfl⟩ := wW_get' h
    exact ⟨k, (List.getElem?_eq_some_iff.mp a1).1, rfl⟩
/-- one cell is set: the others' entries don't look at it -/
theorem wW_set {ad : Nat → Nat} {cI cZ cA : ClassId} {SH : List Shp} {M : Mem} {a : Nat} {s : Shp} {i x : Int} (h : SH[a]? = some s) : (wW ad cI cZ cA SH M).set a (ad a, wE ad cI cZ cA (wr M a i x) a s) = wW ad cI cZ cA SH (wr M a i x) := by
  apply List.ext_getElem?
  intro k
  by_cases hk : k = a
  · subst hk
    rw [List.getElem?_set_self (by rw [wW, List.length_mapIdx]; exact (List.getElem?_eq_some_iff.mp h).1), wW_get h]
  · rw [List.getElem?_set_ne (Ne.symm hk)]
    simp only [wW, List.getElem?_mapIdx]
    cases hs : SH[k]? with
    | none => rfl
    | some t =>
      simp only [Option.map_some]
      congr 2
      obtain ⟨t1, t2, t3⟩ := t
      match t1 with
      | 0 => simp [wE, wr, hk]
      | 1 => simp [wE, wr, hk]
      | 2 => simp [wE]
      | u + 3 =>
        simp only [wE]
        congr 3
        funext k2 r
        cases r <;> simp [wfld, wr, hk]
-- static tables of the lattice
def tSQ : List Int := [1, 0, 0, 1, 0, -1, 1, 0, -1, 0, 0, -1, 0, 1, -1, 0, 1, 0, 0, -1, 0, 1, 1, 0, -1, 0, 0, 1, 0, -1, -1, 0]
def tHX : List Int := [1, 0, 0, 1, 0, -1, 1, 1, -1, -1, 1, 0, -1, 0, 0, -1, 0, 1, -1, -1, 1, 1, -1, 0, 0, 1, 1, 0, -1, 0, 1, 1, -1, -1, 0, 1, 0, -1, -1, 0, 1, 0, -1, -1, 1, 1, 0, -1]
/-- calls of nest mates' private static methods: their link words are carried with the cells -/
def nestL : List (String × Nat × MethodName) := [(RX3, 55, yX6_clearMarks), (RX3, 37, yX6_isInside), (RX2, 19, yX6_isInside), (RX5, 42, yX6_quotient), (RX5, 45, yX6_remainder), (RX5, 28, yX6_isInside), (RX1, 30, yX6_clearMarks), (RX1, 56, yX6_isInside), (RX0, 40, yX6_clearMarks), (RX0, 77, yX6_isInside), (RX4, 23, yX6_isInside), (RX1, 60, yX6_countMarks), (RX0, 88, yX6_quotient), (RX0, 100, yX6_power)]
def wN (U : State) : Prop := ∀ q ∈ nestL, va_Nw (.methodLinkNest q.1 q.2.1 q.2.2 "WallpaperGroups") U
def wT (ad : Nat → Nat) (A : Nat → Prop) (U : State) (H : Heap) : Prop :=
  va_Z RX5 "SQUARE_PARTS" "[I" (.ref (ad 1000)) A U H ∧ va_T .int (ad 1000) 32 (fun j => .int (i3 (tSQ.getD j 0))) A U H ∧
  va_Z RX5 "HEXAGONAL_PARTS" "[I" (.ref (ad 1001)) A U H ∧ va_T .int (ad 1001) 48 (fun j => .int (i3 (tHX.getD j 0))) A U H ∧ wN U
/-- the tables' words that any later state keeps -/
def wTbl : List Cond := lw_tbl.filter goodWord
theorem wTbl_p {w : Cond} (h : w ∈ tables_1) (hg : goodWord w = true) : w ∈ wTbl := List.mem_filter.mpr ⟨List.mem_append_right _ h, hg⟩
theorem wTbl_1 {w : Cond} (i : Nat) (h0 : tables_1_1[i]? = some w) (hg : goodWord w = true) : w ∈ wTbl := wTbl_p (by have h := List.mem_of_getElem? h0; exact List.mem_append_left _ h) hg
theorem wTbl_2 {w : Cond} (i : Nat) (h0 : tables_1_2[i]? = some w) (hg : goodWord w = true) : w ∈ wTbl := wTbl_p (by have h := List.mem_of_getElem? h0; exact List.mem_append_right _ (List.mem_append_left _ h)) hg
theorem wTbl_3 {w : Cond} (i : Nat) (h0 : tables_1_3[i]? = some w) (hg : goodWord w = true) : w ∈ wTbl := wTbl_p (by have h := List.mem_of_getElem? h0; exact List.mem_append_right _ (List.mem_append_right _ (List.mem_append_left _ h))) hg
theorem wTbl_4 {w : Cond} (i : Nat) (h0 : tables_1_4[i]? = some w) (hg : goodWord w = true) : w ∈ wTbl := wTbl_p (by have h := List.mem_of_getElem? h0; exact List.mem_append_right _ (List.mem_append_right _ (List.mem_append_right _ (List.mem_append_left _ h)))) hg
theorem wTbl_5 {w : Cond} (i : Nat) (h0 : tables_1_5[i]? = some w) (hg : goodWord w = true) : w ∈ wTbl := wTbl_p (by have h := List.mem_of_getElem? h0; exact List.mem_append_right _ (List.mem_append_right _ (List.mem_append_right _ (List.mem_append_right _ h)))) hg
theorem wTbl_s {y : MethodName} (i : Nat) {n : Nat} (h : lw_privs[i]? = some (y, n)) : Cond.selects y.cls y y ∈ wTbl := List.mem_filter.mpr ⟨List.mem_append_left _ (List.mem_map.mpr ⟨(y, n), List.mem_of_getElem? h, rfl⟩), rfl⟩
abbrev MI : Type := MethodName × ByteArray × Nat × Option FieldType × Nat
def mW (mi : MI) : List Cond := .code mi.1 mi.2.1 mi.2.2.1 mi.2.2.2.1 :: wTbl
def mRm (mi : MI) : Room := { frames := mi.2.2.2.2, cells := 0, slots := 0, locals := 32 * mi.2.2.2.2 }
abbrev wTy (cI cZ cA : ClassId) : List (ClassId × FieldType) := [(cI, .int), (cZ, .boolean), (cA, .array .int)]
def wC (ad : Nat → Nat) (D : va_G) (cI cZ cA : ClassId) (SH : List Shp) (U : State) : Prop :=
  (∀ i j, i < SH.length → j < SH.length → ad i = ad j → i = j) ∧ va_K D clW (wTy cI cZ cA) U ∧ wT ad (wF ad SH) U U.heap
def wL (ad : Nat → Nat) (ls : Array Slot) (nL : Nat) (L : List (Option PV)) : Prop := ls.size = nL ∧ lv_wf ls ∧ L.length = nL ∧ ∀ (i : Nat) (v : PV), L[i]? = some (some v) → ls[i]? = some (.val (rv ad v))
def jQ (ad : Nat → Nat) (D : va_G) (cI cZ cA : ClassId) (SH : List Shp) (Q : Option PV → Mem → Prop) : Array Value → State → Outcome → State → Prop := fun _ st oc t =>
  (∃ (v : Option PV) (M : Mem), oc = .returned (v.map (rv ad)) ∧ Q v M ∧ va_P D clW (wW ad cI cZ cA SH M) t.heap) ∧ va_F (wF ad SH) st t
def jX (mi : MI) (ad : Nat → Nat) (D : va_G) (cI cZ cA : ClassId) (SH : List Shp) (p : Program) (s : State) (m : MethodId) (args : Array Value) (meth : Method) (c : Code) : Prop :=
  p.tables.exec = Jvm.exec ∧ c.code = mi.2.1 ∧ meth.sig.returnType = mi.2.2.2.1 ∧ c.maxLocals = mi.2.2.1 ∧ s.vm.findClass mi.1.cls = some m.cls ∧ meth.locks = false ∧ (∀ w ∈ mW mi, w.before args s = true) ∧ wC ad D cI cZ cA SH s
/-- from here the method comes to its end: with an answer v and cells M that Q allows -/
def J (SH : List Shp) (mi : MI) (pc : Nat) (L : List (Option PV)) (st : List PV) (M : Mem) (Q : Option PV → Mem → Prop) : Prop :=
  ∀ (ad : Nat → Nat) (D : va_G) (cI cZ cA : ClassId) (l : Launch) (p : Program) (e : Env) (s : State) (m : MethodId) (args : Array Value) (below : List Frame) (meth : Method) (c : Code), jX mi ad D cI cZ cA SH p s m args meth c →
    ∀ (H : Heap) (locs : List Loc) (ls : Array Slot), wL ad ls mi.2.2.1 L → va_P D clW (wW ad cI cZ cA SH M) H → va_S (wF ad SH) s.heap H locs →
    W p l e (mRm mi) s m args below meth c H locs 0 0 (MQ below (jQ ad D cI cZ cA SH Q) args s 0 0 (wF ad SH)) (F0 m pc ls (st.map (rv ad)))
section JR
variable {SH : List Shp} {mi : MI} {pc : Nat} {L : List (Option PV)} {st : List PV} {M : Mem} {Q : Option PV → Mem → Prop} {a b : Int}
theorem j_iadd (hd : decode mi.2.1 pc = .ok (.iadd, 1)) (k : J SH mi (pc + 1) L (vI (a + b) :: st) M Q) : J SH mi pc L (vI b :: vI a :: st) M Q := by
  intro ad D cI cZ cA l p e s m args below meth c h H locs ls hl hP hS
  have K := k ad D cI cZ cA l p e s m args below meth c h H locs ls hl hP hS
  refine lv_iadd (x := i3 a) (y := i3 b) h.1 h.2.1 hd ?_
  rw [i3_add]
  exact K
theorem j_isub (hd : decode mi.2.1 pc = .ok (.isub, 1)) (k : J SH mi (pc + 1) L (vI (a - b) :: st) M Q) : J SH mi pc L (vI b :: vI a :: st) M Q := by
  intro ad D cI cZ cA l p e s m args below meth c h H locs ls hl hP hS
  have K := k ad D cI cZ cA l p e s m args below meth c h H locs ls hl hP hS
  refine lv_isub (x := i3 a) (y := i3 b) h.1 h.2.1 hd ?_
  rw [i3_sub]
  exact K
theorem j_imul (hd : decode mi.2.1 pc = .ok (.imul, 1)) (k : J SH mi (pc + 1) L (vI (a * b) :: st) M Q) : J SH mi pc L (vI b :: vI a :: st) M Q := by
  intro ad D cI cZ cA l p e s m args below meth c h H locs ls hl hP hS
  have K := k ad D cI cZ cA l p e s m args below meth c h H locs ls hl hP hS
  refine lv_imul (x := i3 a) (y := i3 b) h.1 h.2.1 hd ?_
  rw [i3_mul]
  exact K
theorem j_ineg (hd : decode mi.2.1 pc = .ok (.ineg, 1)) (k : J SH mi (pc + 1) L (vI (-a) :: st) M Q) : J SH mi pc L (vI a :: st) M Q := by
  intro ad D cI cZ cA l p e s m args below meth c h H locs ls hl hP hS
  have K := k ad D cI cZ cA l p e s m args below meth c h H locs ls hl hP hS
  refine lv_ineg (x := i3 a) h.1 h.2.1 hd ?_
  rw [i3_neg]
  exact K
theorem j_idiv (hd : decode mi.2.1 pc = .ok (.idiv, 1)) (ha : inR a) (hb : inR b) (hb0 : 0 < b) (k : J SH mi (pc + 1) L (vI (a.tdiv b) :: st) M Q) : J SH mi pc L (vI b :: vI a :: st) M Q := by
  intro ad D cI cZ cA l p e s m args below meth c h H locs ls hl hP hS
  have K := k ad D cI cZ cA l p e s m args below meth c h H locs ls hl hP hS
  refine lv_idiv (x := i3 a) (y := i3 b) h.1 h.2.1 hd (i3_ne0 hb hb0) ?_
  rw [i3_div ha hb hb0]
  exact K
theorem j_irem (hd : decode mi.2.1 pc = .ok (.irem, 1)) (ha : inR a) (hb : inR b) (hb0 : 0 < b) (k : J SH mi (pc + 1) L (vI (a.tmod b) :: st) M Q) : J SH mi pc L (vI b :: vI a :: st) M Q := by
  intro ad D cI cZ cA l p e s m args below meth c h H locs ls hl hP hS
  have K := k ad D cI cZ cA l p e s m args below meth c h H locs ls hl hP hS
  refine lv_irem (x := i3 a) (y := i3 b) h.1 h.2.1 hd (i3_ne0 hb hb0) ?_
  rw [i3_mod ha hb hb0]
  exact K
/-- a row whose answer is any int32: bits -/
theorem j_iand (hd : decode mi.2.1 pc = .ok (.iand, 1)) {z : Int} (hz : i3 a &&& i3 b = i3 z) (k : J SH mi (pc + 1) L (vI z :: st) M Q) : J SH mi pc L (vI b :: vI a :: st) M Q := by
  intro ad D cI cZ cA l p e s m args below meth c h H locs ls hl hP hS
  have K := k ad D cI cZ cA l p e s m args below meth c h H locs ls hl hP hS
  refine lv_iand (x := i3 a) (y := i3 b) h.1 h.2.1 hd ?_
  rw [hz]
  exact K
theorem j_ior (hd : decode mi.2.1 pc = .ok (.ior, 1)) {z : Int} (hz : i3 a ||| i3 b = i3 z) (k : J SH mi (pc + 1) L (vI z :: st) M Q) : J SH mi pc L (vI b :: vI a :: st) M Q := by
  intro ad D cI cZ cA l p e s m args below meth c h H locs ls hl hP hS
  have K := k ad D cI cZ cA l p e s m args below meth c h H locs ls hl hP hS
  refine lv_ior (x := i3 a) (y := i3 b) h.1 h.2.1 hd ?_
  rw [hz]
  exact K
theorem j_ixor (hd : decode mi.2.1 pc = .ok (.ixor, 1)) {z : Int} (hz : i3 a ^^^ i3 b = i3 z) (k : J SH mi (pc + 1) L (vI z :: st) M Q) : J SH mi pc L (vI b :: vI a :: st) M Q := by
  intro ad D cI cZ cA l p e s m args below meth c h H locs ls hl hP hS
  have K := k ad D cI cZ cA l p e s m args below meth c h H locs ls hl hP hS
  refine lv_ixor (x := i3 a) (y := i3 b) h.1 h.2.1 hd ?_
  rw [hz]
  exact K
theorem j_ishl (hd : decode mi.2.1 pc = .ok (.ishl, 1)) {z : Int} (hz : i3 a <<< (i3 b &&& 31) = i3 z) (k : J SH mi (pc + 1) L (vI z :: st) M Q) : J SH mi pc L (vI b :: vI a :: st) M Q := by
  intro ad D cI cZ cA l p e s m args below meth c h H locs ls hl hP hS
  have K := k ad D cI cZ cA l p e s m args below meth c h H locs ls hl hP hS
  refine lv_ishl (x := i3 a) (y := i3 b) h.1 h.2.1 hd ?_
  rw [hz]
  exact K
theorem j_ishr (hd : decode mi.2.1 pc = .ok (.ishr, 1)) {z : Int} (hz : i3 a >>> (i3 b &&& 31) = i3 z) (k : J SH mi (pc + 1) L (vI z :: st) M Q) : J SH mi pc L (vI b :: vI a :: st) M Q := by
  intro ad D cI cZ cA l p e s m args below meth c h H locs ls hl hP hS
  have K := k ad D cI cZ cA l p e s m args below meth c h H locs ls hl hP hS
  refine lv_ishr (x := i3 a) (y := i3 b) h.1 h.2.1 hd ?_
  rw [hz]
  exact K
theorem j_ladd (hd : decode mi.2.1 pc = .ok (.ladd, 1)) (k : J SH mi (pc + 1) L (vL (a + b) :: st) M Q) : J SH mi pc L (vL b :: vL a :: st) M Q := by
  intro ad D cI cZ cA l p e s m args below meth c h H locs ls hl hP hS
  have K := k ad D cI cZ cA l p e s m args below meth c h H locs ls hl hP hS
  refine lv_ladd (x := i6 a) (y := i6 b) h.1 h.2.1 hd ?_
  rw [i6_add]
  exact K
theorem j_lmul (hd : decode mi.2.1 pc = .ok (.lmul, 1)) (k : J SH mi (pc + 1) L (vL (a * b) :: st) M Q) : J SH mi pc L (vL b :: vL a :: st) M Q := by
  intro ad D cI cZ cA l p e s m args below meth c h H locs ls hl hP hS
  have K := k ad D cI cZ cA l p e s m args below meth c h H locs ls hl hP hS
  refine lv_lmul (x := i6 a) (y := i6 b) h.1 h.2.1 hd ?_
  rw [i6_mul]
  exact K
theorem j_ldiv (hd : decode mi.2.1 pc = .ok (.ldiv, 1)) (hb : ¬ i6 b = 0) {z : Int} (hz : i6 a / i6 b = i6 z) (k : J SH mi (pc + 1) L (vL z :: st) M Q) : J SH mi pc L (vL b :: vL a :: st) M Q := by
  intro ad D cI cZ cA l p e s m args below meth c h H locs ls hl hP hS
  have K := k ad D cI cZ cA l p e s m args below meth c h H locs ls hl hP hS
  refine lv_ldiv (x := i6 a) (y := i6 b) h.1 h.2.1 hd hb ?_
  rw [hz]
  exact K
theorem j_i2l (hd : decode mi.2.1 pc = .ok (.i2l, 1)) (ha : inR a) (k : J SH mi (pc + 1) L (vL a :: st) M Q) : J SH mi pc L (vI a :: st) M Q := by
  intro ad D cI cZ cA l p e s m args below meth c h H locs ls hl hP hS
  have K := k ad D cI cZ cA l p e s m args below meth c h H locs ls hl hP hS
  refine lv_i2l (x := i3 a) (v := i6 a) h.1 h.2.1 hd ?_ K
  show Int64.ofInt (i3 a).toInt = i6 a
  rw [i3_toInt ha]
  rfl
theorem j_iconst {n : Int} (hd : decode mi.2.1 pc = .ok (.iconst n, 1)) (k : J SH mi (pc + 1) L (vI n :: st) M Q) : J SH mi pc L st M Q := by
  intro ad D cI cZ cA l p e s m args below meth c h H locs ls hl hP hS
  exact lv_iconst (v := i3 n) h.1 h.2.1 hd rfl (k ad D cI cZ cA l p e s m args below meth c h H locs ls hl hP hS)
theorem j_bipush {n : Int} (hd : decode mi.2.1 pc = .ok (.bipush n, 2)) (hn : (Int8.ofInt n).toInt32 = i3 n) (k : J SH mi (pc + 2) L (vI n :: st) M Q) : J SH mi pc L st M Q := by
  intro ad D cI cZ cA l p e s m args below meth c h H locs ls hl hP hS
  exact lv_bipush (v := i3 n) h.1 h.2.1 hd hn (k ad D cI cZ cA l p e s m args below meth c h H locs ls hl hP hS)
theorem j_sipush {n : Int} (hd : decode mi.2.1 pc = .ok (.sipush n, 3)) (hn : (Int16.ofInt n).toInt32 = i3 n) (k : J SH mi (pc + 3) L (vI n :: st) M Q) : J SH mi pc L st M Q := by
  intro ad D cI cZ cA l p e s m args below meth c h H locs ls hl hP hS
  exact lv_sipush (v := i3 n) h.1 h.2.1 hd hn (k ad D cI cZ cA l p e s m args below meth c h H locs ls hl hP hS)
theorem j_lconst {n : Fin 2} (hd : decode mi.2.1 pc = .ok (.lconst n, 1)) {z : Int} (hz : Int64.ofNat (n : Nat) = i6 z) (k : J SH mi (pc + 1) L (vL z :: st) M Q) : J SH mi pc L st M Q := by
  intro ad D cI cZ cA l p e s m args below meth c h H locs ls hl hP hS
  exact lv_lconst (v := i6 z) h.1 h.2.1 hd hz (k ad D cI cZ cA l p e s m args below meth c h H locs ls hl hP hS)
theorem j_ldc2 {index : Nat} {z : Int} {v : Int64} (hw : Cond.constantLong mi.1.cls index v ∈ wTbl) (hz : v = i6 z) (hd : decode mi.2.1 pc = .ok (.ldc2_w index, 3)) (k : J SH mi (pc + 3) L (vL z :: st) M Q) : J SH mi pc L st M Q := by
  intro ad D cI cZ cA l p e s m args below meth c h H locs ls hl hP hS
  subst hz
  exact lv_ldc2 h.1 h.2.1 h.2.2.2.2.1 (h.2.2.2.2.2.2.1 _ (List.mem_cons_of_mem _ hw)) hd (k ad D cI cZ cA l p e s m args below meth c h H locs ls hl hP hS)
theorem j_iload_n {i : Fin 4} (hd : decode mi.2.1 pc = .ok (.iload_n i, 1)) (hL : L[(i : Nat)]? = some (some (vI a))) (k : J SH mi (pc + 1) L (vI a :: st) M Q) : J SH mi pc L st M Q := by
  intro ad D cI cZ cA l p e s m args below meth c h H locs ls hl hP hS
  exact lv_iload_n (x := i3 a) h.1 h.2.1 hd rfl (hl.2.2.2 _ _ hL) (k ad D cI cZ cA l p e s m args below meth c h H locs ls hl hP hS)
theorem j_iload {i : Nat} (hd : decode mi.2.1 pc = .ok (.iload i, 2)) (hL : L[i]? = some (some (vI a))) (k : J SH mi (pc + 2) L (vI a :: st) M Q) : J SH mi pc L st M Q := by
  intro ad D cI cZ cA l p e s m args below meth c h H locs ls hl hP hS
  exact lv_iload (x := i3 a) h.1 h.2.1 hd (hl.2.2.2 _ _ hL) (k ad D cI cZ cA l p e s m args below meth c h H locs ls hl hP hS)
theorem j_lload_n {i : Fin 4} (hd : decode mi.2.1 pc = .ok (.lload_n i, 1)) (hL : L[(i : Nat)]? = some (some (vL a))) (k : J SH mi (pc + 1) L (vL a :: st) M Q) : J SH mi pc L st M Q := by
  intro ad D cI cZ cA l p e s m args below meth c h H locs ls hl hP hS
  exact lv_lload_n (x := i6 a) h.1 h.2.1 hd rfl (hl.2.2.2 _ _ hL) (k ad D cI cZ cA l p e s m args below meth c h H locs ls hl hP hS)
theorem j_aload_n {i : Fin 4} {r : Nat} (hd : decode mi.2.1 pc = .ok (.aload_n i, 1)) (hL : L[(i : Nat)]? = some (some (vR r))) (k : J SH mi (pc + 1) L (vR r :: st) M Q) : J SH mi pc L st M Q := by
  intro ad D cI cZ cA l p e s m args below meth c h H locs ls hl hP hS
  exact lv_aload_n (x := ad r) h.1 h.2.1 hd rfl (hl.2.2.2 _ _ hL) (k ad D cI cZ cA l p e s m args below meth c h H locs ls hl hP hS)
-- stores
def wPairs (ad : Nat → Nat) (L : List (Option PV)) : List (Nat × Value) := (List.range L.length).filterMap (fun i => ((L[i]?).join).map (fun v => (i, rv ad v)))
theorem wPairs_mem {ad : Nat → Nat} {L : List (Option PV)} {q : Nat × Value} : q ∈ wPairs ad L ↔ ∃ v, L[q.1]? = some (some v) ∧ q.2 = rv ad v := by
  unfold wPairs
  rw [List.mem_filterMap]
  constructor
  · rintro ⟨i, -, h⟩
    rw [Option.map_eq_some_iff] at h
    obtain ⟨v, h1, rfl⟩ := h
    exact ⟨v, by cases h2 : L[i]? with
      | none => rw [h2] at h1; cases h1
      | some o => rw [h2] at h1; simp at h1; rw [h1], rfl⟩
  · rintro ⟨v, h1, h2⟩
    refine ⟨q.1, List.mem_range.mpr (List.getElem?_eq_some_iff.mp h1).1, ?_⟩
    rw [h1]
    simp [← h2]
theorem wL_has {ad : Nat → Nat} {ls : Array Slot} {nL : Nat} (h : wL ad ls nL L) : lv_has ls nL (wPairs ad L) := by
  refine ⟨h.1, h.2.1, fun q hq => ?_⟩
  obtain ⟨v, h1, h2⟩ := wPairs_mem.mp hq
  rw [h2]
  exact h.2.2.2 _ _ h1
/-- no long stands just below place i -/
def noL (L : List (Option PV)) (i : Nat) : Prop := ∀ j z, j + 1 = i → L[j]? ≠ some (some (vL z))
theorem rv_cat2 {ad : Nat → Nat} {v : PV} (h : ¬ ∃ z, v = vL z) : (rv ad v).category = 1 := by
  match v, h with
  | .inl z, _ => rfl
  | .inr (.inl z), h => exact absurd ⟨z, rfl⟩ h
  | .inr (.inr z), _ => rfl
theorem wL_set1 {ad : Nat → Nat} {ls ls' : Array Slot} {nL i : Nat} {v : PV} (h : wL ad ls nL L) (hi : i < nL) (hn : noL L i) (h2 : lv_has ls' nL ((i, rv ad v) :: (wPairs ad L).filter (fun q => !(q.1 == i) && !(q.1 + 1 == i && q.2.category == 2)))) : wL ad ls' nL (L.set i (some v)) := by
  refine ⟨h2.1, h2.2.1, by rw [List.length_set]; exact h.2.2.1, fun j w hj => ?_⟩
  by_cases e : j = i
  · subst e
    rw [List.getElem?_set_self (by rw [h.2.2.1]; exact hi)] at hj
    cases hj
    exact h2.2.2 _ List.mem_cons_self
  · rw [List.getElem?_set_ne (Ne.symm e)] at hj
    refine h2.2.2 (j, rv ad w) (List.mem_cons_of_mem _ (List.mem_filter.mpr ⟨wPairs_mem.mpr ⟨w, hj, rfl⟩, ?_⟩))
    have e2 : ¬ (j + 1 = i ∧ (rv ad w).category = 2) := by
      rintro ⟨e3, e4⟩
      rw [rv_cat2 (fun ⟨z, hz⟩ => hn j z e3 (by rw [hj, hz]))] at e4
      exact absurd e4 (by decide)
    simp only [Bool.and_eq_true, Bool.not_eq_true', beq_eq_false_iff_ne, ne_eq, Bool.and_eq_false_iff]
    refine ⟨e, ?_⟩
    by_cases e3 : j + 1 = i
    · right; exact fun e4 => e2 ⟨e3, e4⟩
    · left; exact e3
theorem j_istore_n {i : Fin 4} {L' : List (Option PV)} (hd : decode mi.2.1 pc = .ok (.istore_n i, 1)) (hi : (i : Nat) < mi.2.2.1) (hn : noL L i) (hL : L.set i (some (vI a)) = L') (k : J SH mi (pc + 1) L' st M Q) : J SH mi pc L (vI a :: st) M Q := by
  intro ad D cI cZ cA l p e s m args below meth c h H locs ls hl hP hS
  subst hL
  exact lv_istore_n (x := i3 a) h.1 h.2.1 hd rfl (wL_has hl) hi rfl (fun ls' h2 => k ad D cI cZ cA l p e s m args below meth c h H locs ls' (wL_set1 (v := vI a) hl hi hn h2) hP hS)
theorem j_istore {i : Nat} {L' : List (Option PV)} (hd : decode mi.2.1 pc = .ok (.istore i, 2)) (hi : i < mi.2.2.1) (hn : noL L i) (hL : L.set i (some (vI a)) = L') (k : J SH mi (pc + 2) L' st M Q) : J SH mi pc L (vI a :: st) M Q := by
  intro ad D cI cZ cA l p e s m args below meth c h H locs ls hl hP hS
  subst hL
  exact lv_istore (x := i3 a) h.1 h.2.1 hd (wL_has hl) hi rfl (fun ls' h2 => k ad D cI cZ cA l p e s m args below meth c h H locs ls' (wL_set1 (v := vI a) hl hi hn h2) hP hS)
theorem j_astore_n {i : Fin 4} {r : Nat} {L' : List (Option PV)} (hd : decode mi.2.1 pc = .ok (.astore_n i, 1)) (hi : (i : Nat) < mi.2.2.1) (hn : noL L i) (hL : L.set i (some (vR r)) = L') (k : J SH mi (pc + 1) L' st M Q) : J SH mi pc L (vR r :: st) M Q := by
  intro ad D cI cZ cA l p e s m args below meth c h H locs ls hl hP hS
  subst hL
  exact lv_astore_n (x := ad r) h.1 h.2.1 hd rfl (wL_has hl) hi rfl (fun ls' h2 => k ad D cI cZ cA l p e s m args below meth c h H locs ls' (wL_set1 (v := vR r) hl hi hn h2) hP hS)
theorem j_iinc {i : Nat} {n : Int} {L' : List (Option PV)} (hd : decode mi.2.1 pc = .ok (.iinc i n, 3)) (hg : L[i]? = some (some (vI a))) (hi : i < mi.2.2.1) (hn : noL L i) (hL : L.set i (some (vI (a + n))) = L') (k : J SH mi (pc + 3) L' st M Q) : J SH mi pc L st M Q := by
  intro ad D cI cZ cA l p e s m args below meth c h H locs ls hl hP hS
  subst hL
  obtain ⟨k0, hk0⟩ := List.getElem?_of_mem (wPairs_mem (ad := ad) (q := (i, rv ad (vI a))).mpr ⟨vI a, hg, rfl⟩)
  exact lv_iinc (x := i3 a) (v := i3 (a + n)) h.1 h.2.1 hd (wL_has hl) hk0 (i3_add a n) hi rfl (fun ls' h2 => k ad D cI cZ cA l p e s m args below meth c h H locs ls' (wL_set1 (v := vI (a + n)) hl hi hn h2) hP hS)
theorem j_lstore_n {i : Fin 4} {L' : List (Option PV)} (hd : decode mi.2.1 pc = .ok (.lstore_n i, 1)) (hi : (i : Nat) + 1 < mi.2.2.1) (hn : noL L i) (hL : (L.set i (some (vL a))).set ((i : Nat) + 1) none = L') (k : J SH mi (pc + 1) L' st M Q) : J SH mi pc L (vL a :: st) M Q := by
  intro ad D cI cZ cA l p e s m args below meth c h H locs ls hl hP hS
  subst hL
  refine lv_lstore_n (x := i6 a) h.1 h.2.1 hd rfl (wL_has hl) hi rfl (fun ls' h2 => k ad D cI cZ cA l p e s m args below meth c h H locs ls' ?_ hP hS)
  refine ⟨h2.1, h2.2.1, by rw [List.length_set, List.length_set]; exact hl.2.2.1, fun j w hj => ?_⟩
  by_cases e2 : j = (i : Nat) + 1
  · subst e2
    rw [List.getElem?_set_self (by rw [List.length_set, hl.2.2.1]; exact hi)] at hj
    cases hj
  · rw [List.getElem?_set_ne (Ne.symm e2)] at hj
    by_cases e : j = i
    · subst e
      rw [List.getElem?_set_self (by rw [hl.2.2.1]; omega)] at hj
      cases hj
      exact h2.2.2 _ List.mem_cons_self
    · rw [List.getElem?_set_ne (Ne.symm e)] at hj
      refine h2.2.2 (j, rv ad w) (List.mem_cons_of_mem _ (List.mem_filter.mpr ⟨wPairs_mem.mpr ⟨w, hj, rfl⟩, ?_⟩))
      have e5 : ¬ (j + 1 = i ∧ (rv ad w).category = 2) := by
        rintro ⟨e3, e4⟩
        rw [rv_cat2 (fun ⟨z, hz⟩ => hn j z e3 (by rw [hj, hz]))] at e4
        exact absurd e4 (by decide)
      simp only [Bool.and_eq_true, Bool.not_eq_true', beq_eq_false_iff_ne, ne_eq, Bool.and_eq_false_iff]
      refine ⟨e, e2, ?_⟩
      by_cases e3 : j + 1 = i
      · right; exact fun e4 => e5 ⟨e3, e4⟩
      · left; exact e3
theorem j_dup {v : PV} (hd : decode mi.2.1 pc = .ok (.dup, 1)) (hv : ∀ z, v ≠ vL z) (k : J SH mi (pc + 1) L (v :: v :: st) M Q) : J SH mi pc L (v :: st) M Q := by
  intro ad D cI cZ cA l p e s m args below meth c h H locs ls hl hP hS
  exact lv_dup h.1 h.2.1 hd (rv_cat2 (fun ⟨z, hz⟩ => hv z hz)) (k ad D cI cZ cA l p e s m args below meth c h H locs ls hl hP hS)
theorem j_pop {v : PV} (hd : decode mi.2.1 pc = .ok (.pop, 1)) (hv : ∀ z, v ≠ vL z) (k : J SH mi (pc + 1) L st M Q) : J SH mi pc L (v :: st) M Q := by
  intro ad D cI cZ cA l p e s m args below meth c h H locs ls hl hP hS
  exact lv_pop h.1 h.2.1 hd (rv_cat2 (fun ⟨z, hz⟩ => hv z hz)) (k ad D cI cZ cA l p e s m args below meth c h H locs ls hl hP hS)
theorem j_dup2 {v w : PV} (hd : decode mi.2.1 pc = .ok (.dup2, 1)) (hv : ∀ z, v ≠ vL z) (hw : ∀ z, w ≠ vL z) (k : J SH mi (pc + 1) L (v :: w :: v :: w :: st) M Q) : J SH mi pc L (v :: w :: st) M Q := by
  intro ad D cI cZ cA l p e s m args below meth c h H locs ls hl hP hS
  exact lv_dup2_11 h.1 h.2.1 hd (rv_cat2 (fun ⟨z, hz⟩ => hv z hz)) (rv_cat2 (fun ⟨z, hz⟩ => hw z hz)) (k ad D cI cZ cA l p e s m args below meth c h H locs ls hl hP hS)
theorem j_goto {off : Int} (tgt : Nat) (hd : decode mi.2.1 pc = .ok (.goto off, 3)) (ht : (pc : Int) + off = (tgt : Int)) (k : J SH mi tgt L st M Q) : J SH mi pc L st M Q := by
  intro ad D cI cZ cA l p e s m args below meth c h H locs ls hl hP hS
  exact lv_goto h.1 h.2.1 hd ht (k ad D cI cZ cA l p e s m args below meth c h H locs ls hl hP hS)
theorem j_if_eq {off : Int} (tgt : Nat) (hd : decode mi.2.1 pc = .ok (.ifCond .eq off, 3)) (ht : (pc : Int) + off = (tgt : Int)) (ha : inR a) (kt : a = 0 → J SH mi tgt L st M Q) (kf : ¬ a = 0 → J SH mi (pc + 3) L st M Q) : J SH mi pc L (vI a :: st) M Q := by
  intro ad D cI cZ cA l p e s m args below meth c h H locs ls hl hP hS
  refine lv_if_eq (x := i3 a) (tgt := tgt) h.1 h.2.1 hd ht (fun q => kt ?_ ad D cI cZ cA l p e s m args below meth c h H locs ls hl hP hS) (fun q => kf ?_ ad D cI cZ cA l p e s m args below meth c h H locs ls hl hP hS)
  all_goals (rw [← i3_zero] at q; simp only [ge_iff_le, gt_iff_lt, ne_eq, i3_inj ha inR0, i3_lt ha inR0, i3_lt inR0 ha, i3_le ha inR0, i3_le inR0 ha] at q; omega)
theorem j_icmp_eq {off : Int} (tgt : Nat) (hd : decode mi.2.1 pc = .ok (.if_icmp .eq off, 3)) (ht : (pc : Int) + off = (tgt : Int)) (ha : inR a) (hb : inR b) (kt : a = b → J SH mi tgt L st M Q) (kf : ¬ a = b → J SH mi (pc + 3) L st M Q) : J SH mi pc L (vI b :: vI a :: st) M Q := by
  intro ad D cI cZ cA l p e s m args below meth c h H locs ls hl hP hS
  refine lv_icmp_eq (x := i3 a) (y := i3 b) (tgt := tgt) h.1 h.2.1 hd ht (fun q => kt ?_ ad D cI cZ cA l p e s m args below meth c h H locs ls hl hP hS) (fun q => kf ?_ ad D cI cZ cA l p e s m args below meth c h H locs ls hl hP hS)
  all_goals (simp only [ge_iff_le, gt_iff_lt, ne_eq, i3_inj ha hb, i3_lt ha hb, i3_lt hb ha, i3_le ha hb, i3_le hb ha] at q; omega)
theorem j_if_ne {off : Int} (tgt : Nat) (hd : decode mi.2.1 pc = .ok (.ifCond .ne off, 3)) (ht : (pc : Int) + off = (tgt : Int)) (ha : inR a) (kt : ¬ a = 0 → J SH mi tgt L st M Q) (kf : a = 0 → J SH mi (pc + 3) L st M Q) : J SH mi pc L (vI a :: st) M Q := by
  intro ad D cI cZ cA l p e s m args below meth c h H locs ls hl hP hS
  refine lv_if_ne (x := i3 a) (tgt := tgt) h.1 h.2.1 hd ht (fun q => kt ?_ ad D cI cZ cA l p e s m args below meth c h H locs ls hl hP hS) (fun q => kf ?_ ad D cI cZ cA l p e s m args below meth c h H locs ls hl hP hS)
  all_goals (rw [← i3_zero] at q; simp only [ge_iff_le, gt_iff_lt, ne_eq, i3_inj ha inR0, i3_lt ha inR0, i3_lt inR0 ha, i3_le ha inR0, i3_le inR0 ha] at q; omega)
theorem j_icmp_ne {off : Int} (tgt : Nat) (hd : decode mi.2.1 pc = .ok (.if_icmp .ne off, 3)) (ht : (pc : Int) + off = (tgt : Int)) (ha : inR a) (hb : inR b) (kt : ¬ a = b → J SH mi tgt L st M Q) (kf : a = b → J SH mi (pc + 3) L st M Q) : J SH mi pc L (vI b :: vI a :: st) M Q := by
  intro ad D cI cZ cA l p e s m args below meth c h H locs ls hl hP hS
  refine lv_icmp_ne (x := i3 a) (y := i3 b) (tgt := tgt) h.1 h.2.1 hd ht (fun q => kt ?_ ad D cI cZ cA l p e s m args below meth c h H locs ls hl hP hS) (fun q => kf ?_ ad D cI cZ cA l p e s m args below meth c h H locs ls hl hP hS)
  all_goals (simp only [ge_iff_le, gt_iff_lt, ne_eq, i3_inj ha hb, i3_lt ha hb, i3_lt hb ha, i3_le ha hb, i3_le hb ha] at q; omega)
theorem j_if_lt {off : Int} (tgt : Nat) (hd : decode mi.2.1 pc = .ok (.ifCond .lt off, 3)) (ht : (pc : Int) + off = (tgt : Int)) (ha : inR a) (kt : a < 0 → J SH mi tgt L st M Q) (kf : 0 ≤ a → J SH mi (pc + 3) L st M Q) : J SH mi pc L (vI a :: st) M Q := by
  intro ad D cI cZ cA l p e s m args below meth c h H locs ls hl hP hS
  refine lv_if_lt (x := i3 a) (tgt := tgt) h.1 h.2.1 hd ht (fun q => kt ?_ ad D cI cZ cA l p e s m args below meth c h H locs ls hl hP hS) (fun q => kf ?_ ad D cI cZ cA l p e s m args below meth c h H locs ls hl hP hS)
  all_goals (rw [← i3_zero] at q; simp only [ge_iff_le, gt_iff_lt, ne_eq, i3_inj ha inR0, i3_lt ha inR0, i3_lt inR0 ha, i3_le ha inR0, i3_le inR0 ha] at q; omega)
theorem j_icmp_lt {off : Int} (tgt : Nat) (hd : decode mi.2.1 pc = .ok (.if_icmp .lt off, 3)) (ht : (pc : Int) + off = (tgt : Int)) (ha : inR a) (hb : inR b) (kt : a < b → J SH mi tgt L st M Q) (kf : b ≤ a → J SH mi (pc + 3) L st M Q) : J SH mi pc L (vI b :: vI a :: st) M Q := by
  intro ad D cI cZ cA l p e s m args below meth c h H locs ls hl hP hS
  refine lv_icmp_lt (x := i3 a) (y := i3 b) (tgt := tgt) h.1 h.2.1 hd ht (fun q => kt ?_ ad D cI cZ cA l p e s m args below meth c h H locs ls hl hP hS) (fun q => kf ?_ ad D cI cZ cA l p e s m args below meth c h H locs ls hl hP hS)
  all_goals (simp only [ge_iff_le, gt_iff_lt, ne_eq, i3_inj ha hb, i3_lt ha hb, i3_lt hb ha, i3_le ha hb, i3_le hb ha] at q; omega)
theorem j_if_ge {off : Int} (tgt : Nat) (hd : decode mi.2.1 pc = .ok (.ifCond .ge off, 3)) (ht : (pc : Int) + off = (tgt : Int)) (ha : inR a) (kt : 0 ≤ a → J SH mi tgt L st M Q) (kf : a < 0 → J SH mi (pc + 3) L st M Q) : J SH mi pc L (vI a :: st) M Q := by
  intro ad D cI cZ cA l p e s m args below meth c h H locs ls hl hP hS
  refine lv_if_ge (x := i3 a) (tgt := tgt) h.1 h.2.1 hd ht (fun q => kt ?_ ad D cI cZ cA l p e s m args below meth c h H locs ls hl hP hS) (fun q => kf ?_ ad D cI cZ cA l p e s m args below meth c h H locs ls hl hP hS)
  all_goals (rw [← i3_zero] at q; simp only [ge_iff_le, gt_iff_lt, ne_eq, i3_inj ha inR0, i3_lt ha inR0, i3_lt inR0 ha, i3_le ha inR0, i3_le inR0 ha] at q; omega)
theorem j_icmp_ge {off : Int} (tgt : Nat) (hd : decode mi.2.1 pc = .ok (.if_icmp .ge off, 3)) (ht : (pc : Int) + off = (tgt : Int)) (ha : inR a) (hb : inR b) (kt : b ≤ a → J SH mi tgt L st M Q) (kf : a < b → J SH mi (pc + 3) L st M Q) : J SH mi pc L (vI b :: vI a :: st) M Q := by
  intro ad D cI cZ cA l p e s m args below meth c h H locs ls hl hP hS
  refine lv_icmp_ge (x := i3 a) (y := i3 b) (tgt := tgt) h.1 h.2.1 hd ht (fun q => kt ?_ ad D cI cZ cA l p e s m args below meth c h H locs ls hl hP hS) (fun q => kf ?_ ad D cI cZ cA l p e s m args below meth c h H locs ls hl hP hS)
  all_goals (simp only [ge_iff_le, gt_iff_lt, ne_eq, i3_inj ha hb, i3_lt ha hb, i3_lt hb ha, i3_le ha hb, i3_le hb ha] at q; omega)
theorem j_if_gt {off : Int} (tgt : Nat) (hd : decode mi.2.1 pc = .ok (.ifCond .gt off, 3)) (ht : (pc : Int) + off = (tgt : Int)) (ha : inR a) (kt : 0 < a → J SH mi tgt L st M Q) (kf : a ≤ 0 → J SH mi (pc + 3) L st M Q) : J SH mi pc L (vI a :: st) M Q := by
  intro ad D cI cZ cA l p e s m args below meth c h H locs ls hl hP hS
  refine lv_if_gt (x := i3 a) (tgt := tgt) h.1 h.2.1 hd ht (fun q => kt ?_ ad D cI cZ cA l p e s m args below meth c h H locs ls hl hP hS) (fun q => kf ?_ ad D cI cZ cA l p e s m args below meth c h H locs ls hl hP hS)
  all_goals (rw [← i3_zero] at q; simp only [ge_iff_le, gt_iff_lt, ne_eq, i3_inj ha inR0, i3_lt ha inR0, i3_lt inR0 ha, i3_le ha inR0, i3_le inR0 ha] at q; omega)
theorem j_icmp_gt {off : Int} (tgt : Nat) (hd : decode mi.2.1 pc = .ok (.if_icmp .gt off, 3)) (ht : (pc : Int) + off = (tgt : Int)) (ha : inR a) (hb : inR b) (kt : b < a → J SH mi tgt L st M Q) (kf : a ≤ b → J SH mi (pc + 3) L st M Q) : J SH mi pc L (vI b :: vI a :: st) M Q := by
  intro ad D cI cZ cA l p e s m args below meth c h H locs ls hl hP hS
  refine lv_icmp_gt (x := i3 a) (y := i3 b) (tgt := tgt) h.1 h.2.1 hd ht (fun q => kt ?_ ad D cI cZ cA l p e s m args below meth c h H locs ls hl hP hS) (fun q => kf ?_ ad D cI cZ cA l p e s m args below meth c h H locs ls hl hP hS)
  all_goals (simp only [ge_iff_le, gt_iff_lt, ne_eq, i3_inj ha hb, i3_lt ha hb, i3_lt hb ha, i3_le ha hb, i3_le hb ha] at q; omega)
theorem j_if_le {off : Int} (tgt : Nat) (hd : decode mi.2.1 pc = .ok (.ifCond .le off, 3)) (ht : (pc : Int) + off = (tgt : Int)) (ha : inR a) (kt : a ≤ 0 → J SH mi tgt L st M Q) (kf : 0 < a → J SH mi (pc + 3) L st M Q) : J SH mi pc L (vI a :: st) M Q := by
  intro ad D cI cZ cA l p e s m args below meth c h H locs ls hl hP hS
  refine lv_if_le (x := i3 a) (tgt := tgt) h.1 h.2.1 hd ht (fun q => kt ?_ ad D cI cZ cA l p e s m args below meth c h H locs ls hl hP hS) (fun q => kf ?_ ad D cI cZ cA l p e s m args below meth c h H locs ls hl hP hS)
  all_goals (rw [← i3_zero] at q; simp only [ge_iff_le, gt_iff_lt, ne_eq, i3_inj ha inR0, i3_lt ha inR0, i3_lt inR0 ha, i3_le ha inR0, i3_le inR0 ha] at q; omega)
theorem j_icmp_le {off : Int} (tgt : Nat) (hd : decode mi.2.1 pc = .ok (.if_icmp .le off, 3)) (ht : (pc : Int) + off = (tgt : Int)) (ha : inR a) (hb : inR b) (kt : a ≤ b → J SH mi tgt L st M Q) (kf : b < a → J SH mi (pc + 3) L st M Q) : J SH mi pc L (vI b :: vI a :: st) M Q := by
  intro ad D cI cZ cA l p e s m args below meth c h H locs ls hl hP hS
  refine lv_icmp_le (x := i3 a) (y := i3 b) (tgt := tgt) h.1 h.2.1 hd ht (fun q => kt ?_ ad D cI cZ cA l p e s m args below meth c h H locs ls hl hP hS) (fun q => kf ?_ ad D cI cZ cA l p e s m args below meth c h H locs ls hl hP hS)
  all_goals (simp only [ge_iff_le, gt_iff_lt, ne_eq, i3_inj ha hb, i3_lt ha hb, i3_lt hb ha, i3_le ha hb, i3_le hb ha] at q; omega)
end JR
