/-! THE CALLS: each of both sides in one form -/
/-- the answer z, and the row and history behind the call -/
def AnsI (I : Mem → Row → List Row → Prop) (A : Int → Row → List Row → Prop) : Option PV → Mem → Prop := fun v M1 => ∃ z r' hs', v = some (vI z) ∧ A z r' hs' ∧ I M1 r' hs'
def AnsL (I : Mem → Row → List Row → Prop) (A : Int → Row → List Row → Prop) : Option PV → Mem → Prop := fun v M1 => ∃ z r' hs', v = some (vL z) ∧ A z r' hs' ∧ I M1 r' hs'
def Fnl (A : Int → Row → List Row → Prop) : Prop := ∀ z1 r1 h1 z2 r2 h2, A z1 r1 h1 → A z2 r2 h2 → z1 = z2 ∧ r1 = r2 ∧ h1 = h2
def Qv (R : Int → Prop) (r : Row) (hs : List Row) : Int → Row → List Row → Prop := fun z r' hs' => R z ∧ r' = r ∧ hs' = hs
theorem Fnl_Q {R : Int → Prop} {r : Row} {hs : List Row} (h : ∀ z1 z2, R z1 → R z2 → z1 = z2) : Fnl (Qv R r hs) := by
  rintro z1 r1 h1 z2 r2 h2 ⟨a, rfl, rfl⟩ ⟨b, rfl, rfl⟩
  exact ⟨h z1 z2 a b, rfl, rfl⟩
/-- an answer under a condition, else z0 -/
def Cnd (C : Prop) (R : Int → Prop) (z0 : Int) : Int → Prop := fun z => (C ∧ R z) ∨ (¬ C ∧ z = z0)
theorem Cnd_uq {C : Prop} {R : Int → Prop} {z0 : Int} (h : ∀ z1 z2, R z1 → R z2 → z1 = z2) : ∀ z1 z2, Cnd C R z0 z1 → Cnd C R z0 z2 → z1 = z2 := by
  rintro z1 z2 (⟨a, b⟩ | ⟨a, b⟩) (⟨c, d⟩ | ⟨c, d⟩)
  · exact h z1 z2 b d
  · exact absurd a c
  · exact absurd c a
  · rw [b, d]
def Yn (p : Prop) : Int → Prop := fun z => (z = 1 ∧ p) ∨ (z = 0 ∧ ¬ p)
theorem Yn_uq {p : Prop} : ∀ z1 z2, Yn p z1 → Yn p z2 → z1 = z2 := by
  rintro z1 z2 (⟨a, b⟩ | ⟨a, b⟩) (⟨c, d⟩ | ⟨c, d⟩)
  · rw [a, c]
  · exact absurd b d
  · exact absurd d b
  · rw [a, c]
theorem eq_uq {v : Int} : ∀ z1 z2 : Int, z1 = v → z2 = v → z1 = z2 := fun _ _ a b => a.trans b.symm
section AN
variable {M : Mem} {r : Row} {hs : List Row} {SH : List Shp} {mi : MI} {L : List (Option PV)} {I : Mem → Row → List Row → Prop}
theorem an_pu {v : Int} {R : Int → Prop} (hI : I M r hs) (hR : R v) (h : J SH mi 0 L [] M (pu (vI v) M)) : J SH mi 0 L [] M (AnsI I (Qv R r hs)) := j_mono (fun v M1 q => by obtain ⟨rfl, rfl⟩ := q; exact ⟨_, r, hs, rfl, ⟨hR, rfl, rfl⟩, hI⟩) h
theorem an_pul {v : Int} {R : Int → Prop} (hI : I M r hs) (hR : R v) (h : J SH mi 0 L [] M (pu (vL v) M)) : J SH mi 0 L [] M (AnsL I (Qv R r hs)) := j_mono (fun v M1 q => by obtain ⟨rfl, rfl⟩ := q; exact ⟨_, r, hs, rfl, ⟨hR, rfl, rfl⟩, hI⟩) h
theorem an_pz {R R2 : Int → Prop} (hI : I M r hs) (hR : ∀ z, R2 z → R z) (h : J SH mi 0 L [] M (pz (fun z M1 => M = M1 ∧ R2 z))) : J SH mi 0 L [] M (AnsI I (Qv R r hs)) := j_mono (fun v M1 q => by obtain ⟨z, rfl, rfl, q⟩ := q; exact ⟨_, r, hs, rfl, ⟨hR z q, rfl, rfl⟩, hI⟩) h
end AN
section OPS
variable {M : Mem} {r : Row} {hs : List Row}

noncomputable def A_setLattice (r : Row) (hs : List Row) (k n : Int) : Int → Row → List Row → Prop := fun z r' hs' => ((0 ≤ k ∧ k ≤ 1 ∧ 1 ≤ n ∧ n ≤ 5) ∧ z = r.2.1 ∧ r' = (k, n, []) ∧ hs' = push4 hs r) ∨ (¬ (0 ≤ k ∧ k ≤ 1 ∧ 1 ≤ n ∧ n ≤ 5) ∧ z = -1 ∧ r' = r ∧ hs' = hs)
theorem fn_setLattice {k n : Int} : Fnl (A_setLattice r hs k n) := by
  rintro z1 r1 h1 z2 r2 h2 (⟨a, b, rfl, rfl⟩ | ⟨a, b, rfl, rfl⟩) (⟨c, d, rfl, rfl⟩ | ⟨c, d, rfl, rfl⟩)
  · exact ⟨b.trans d.symm, rfl, rfl⟩
  · exact absurd a c
  · exact absurd c a
  · exact ⟨b.trans d.symm, rfl, rfl⟩
theorem cl_setLattice {k n : Int} (hI : CI M r hs) (hk : inR k) (hn : inR n) : J SHC mi_X6_setLattice 0 (ent [vR 0, vI k, vI n] 4) [] M (AnsI CI (A_setLattice r hs k n)) := j_mono (fun v M1 q => by
  obtain ⟨z, rfl, ⟨a, b, c⟩ | ⟨a, b, rfl⟩⟩ := q
  · exact ⟨_, _, _, rfl, Or.inl ⟨a, b, rfl, rfl⟩, c⟩
  · exact ⟨_, _, _, rfl, Or.inr ⟨a, b, rfl, rfl⟩, hI⟩) (e_X6_setLattice hI hk hn)
theorem ml_setLattice {k n : Int} (hI : MS M r hs) (hk : inR k) (hn : inR n) : J SHM mi_X7_setLattice 0 (ent [vR 0, vI k, vI n] 4) [] M (AnsI MS (A_setLattice r hs k n)) := j_mono (fun v M1 q => by
  obtain ⟨z, rfl, ⟨a, b, c⟩ | ⟨a, b, rfl⟩⟩ := q
  · exact ⟨_, _, _, rfl, Or.inl ⟨a, b, rfl, rfl⟩, c⟩
  · exact ⟨_, _, _, rfl, Or.inr ⟨a, b, rfl, rfl⟩, hI⟩) (e_X7_setLattice hI hk hn)
noncomputable def A_addGenerator (r : Row) (hs : List Row) (p u v : Int) : Int → Row → List Row → Prop := fun z r' hs' => (¬ (0 ≤ p ∧ p < 2 * tu r.1 ∧ 0 ≤ u ∧ u < r.2.1 ∧ 0 ≤ v ∧ v < r.2.1) ∧ z = -1 ∧ r' = r ∧ hs' = hs) ∨ ((0 ≤ p ∧ p < 2 * tu r.1 ∧ 0 ≤ u ∧ u < r.2.1 ∧ 0 ≤ v ∧ v < r.2.1) ∧ ((¬ r.2.2.length < 4 ∧ z = -2 ∧ r' = r ∧ hs' = hs) ∨ (r.2.2.length < 4 ∧ z = (GL (r.1, r.2.1, r.2.2 ++ [cod r.2.1 p u v])).length ∧ r' = (r.1, r.2.1, r.2.2 ++ [cod r.2.1 p u v]) ∧ hs' = push4 hs r)))
theorem fn_addGenerator {p u v : Int} : Fnl (A_addGenerator r hs p u v) := by
  rintro z1 r1 h1 z2 r2 h2 (⟨a, b, rfl, rfl⟩ | ⟨a, ⟨e, b, rfl, rfl⟩ | ⟨e, b, rfl, rfl⟩⟩) (⟨c, d, rfl, rfl⟩ | ⟨c, ⟨f, d, rfl, rfl⟩ | ⟨f, d, rfl, rfl⟩⟩)
  · exact ⟨b.trans d.symm, rfl, rfl⟩
  · exact absurd c a
  · exact absurd c a
  · exact absurd a c
  · exact ⟨b.trans d.symm, rfl, rfl⟩
  · exact absurd f e
  · exact absurd a c
  · exact absurd e f
  · exact ⟨b.trans d.symm, rfl, rfl⟩
theorem cl_addGenerator {p u v : Int} (hI : CI M r hs) (hp : inR p) (hu : inR u) (hv : inR v) : J SHC mi_X6_addGenerator 0 (ent [vR 0, vI p, vI u, vI v] 4) [] M (AnsI CI (A_addGenerator r hs p u v)) := j_mono (fun w M1 q => by
  obtain ⟨z, rfl, ⟨a, b, rfl⟩ | ⟨a, ⟨c, b, rfl⟩ | ⟨c, b, d⟩⟩⟩ := q
  · exact ⟨_, _, _, rfl, Or.inl ⟨a, b, rfl, rfl⟩, hI⟩
  · exact ⟨_, _, _, rfl, Or.inr ⟨a, Or.inl ⟨c, b, rfl, rfl⟩⟩, hI⟩
  · exact ⟨_, _, _, rfl, Or.inr ⟨a, Or.inr ⟨c, b, rfl, rfl⟩⟩, d⟩) (e_X6_addGenerator hI hp hu hv)
theorem ml_addGenerator {p u v : Int} (hI : MS M r hs) (hp : inR p) (hu : inR u) (hv : inR v) : J SHM mi_X7_addGenerator 0 (ent [vR 0, vI p, vI u, vI v] 4) [] M (AnsI MS (A_addGenerator r hs p u v)) := j_mono (fun w M1 q => by
  obtain ⟨z, rfl, ⟨a, b, rfl⟩ | ⟨a, ⟨c, b, rfl⟩ | ⟨c, b, d⟩⟩⟩ := q
  · exact ⟨_, _, _, rfl, Or.inl ⟨a, b, rfl, rfl⟩, hI⟩
  · exact ⟨_, _, _, rfl, Or.inr ⟨a, Or.inl ⟨c, b, rfl, rfl⟩⟩, hI⟩
  · exact ⟨_, _, _, rfl, Or.inr ⟨a, Or.inr ⟨c, b, rfl, rfl⟩⟩, d⟩) (e_X7_addGenerator hI hp hu hv)
noncomputable def A_removeGenerator (r : Row) (hs : List Row) (i : Int) : Int → Row → List Row → Prop := fun z r' hs' => (¬ (0 ≤ i ∧ i < r.2.2.length) ∧ z = -1 ∧ r' = r ∧ hs' = hs) ∨ ((0 ≤ i ∧ i < r.2.2.length) ∧ z = (GL (r.1, r.2.1, r.2.2.eraseIdx i.toNat)).length ∧ r' = (r.1, r.2.1, r.2.2.eraseIdx i.toNat) ∧ hs' = push4 hs r)
theorem fn_removeGenerator {i : Int} : Fnl (A_removeGenerator r hs i) := by
  rintro z1 r1 h1 z2 r2 h2 (⟨a, b, rfl, rfl⟩ | ⟨a, b, rfl, rfl⟩) (⟨c, d, rfl, rfl⟩ | ⟨c, d, rfl, rfl⟩)
  · exact ⟨b.trans d.symm, rfl, rfl⟩
  · exact absurd c a
  · exact absurd a c
  · exact ⟨b.trans d.symm, rfl, rfl⟩
theorem cl_removeGenerator {i : Int} (hI : CI M r hs) (hi : inR i) : J SHC mi_X6_removeGenerator 0 (ent [vR 0, vI i] 2) [] M (AnsI CI (A_removeGenerator r hs i)) := j_mono (fun w M1 q => by
  obtain ⟨z, rfl, ⟨a, b, rfl⟩ | ⟨a, b, c⟩⟩ := q
  · exact ⟨_, _, _, rfl, Or.inl ⟨a, b, rfl, rfl⟩, hI⟩
  · exact ⟨_, _, _, rfl, Or.inr ⟨a, b, rfl, rfl⟩, c⟩) (e_X6_removeGenerator hI hi)
theorem ml_removeGenerator {i : Int} (hI : MS M r hs) (hi : inR i) : J SHM mi_X7_removeGenerator 0 (ent [vR 0, vI i] 3) [] M (AnsI MS (A_removeGenerator r hs i)) := j_mono (fun w M1 q => by
  obtain ⟨z, rfl, ⟨a, b, rfl⟩ | ⟨a, b, c⟩⟩ := q
  · exact ⟨_, _, _, rfl, Or.inl ⟨a, b, rfl, rfl⟩, hI⟩
  · exact ⟨_, _, _, rfl, Or.inr ⟨a, b, rfl, rfl⟩, c⟩) (e_X7_removeGenerator hI hi)
noncomputable def A_setGenerator (r : Row) (hs : List Row) (i p u v : Int) : Int → Row → List Row → Prop := fun z r' hs' => (¬ ((0 ≤ i ∧ i < r.2.2.length) ∧ (0 ≤ p ∧ p < 2 * tu r.1 ∧ 0 ≤ u ∧ u < r.2.1 ∧ 0 ≤ v ∧ v < r.2.1)) ∧ z = -1 ∧ r' = r ∧ hs' = hs) ∨ (((0 ≤ i ∧ i < r.2.2.length) ∧ (0 ≤ p ∧ p < 2 * tu r.1 ∧ 0 ≤ u ∧ u < r.2.1 ∧ 0 ≤ v ∧ v < r.2.1)) ∧ z = r.2.2.getD i.toNat 0 ∧ r' = (r.1, r.2.1, r.2.2.set i.toNat (cod r.2.1 p u v)) ∧ hs' = push4 hs r)
theorem fn_setGenerator {i p u v : Int} : Fnl (A_setGenerator r hs i p u v) := by
  rintro z1 r1 h1 z2 r2 h2 (⟨a, b, rfl, rfl⟩ | ⟨a, b, rfl, rfl⟩) (⟨c, d, rfl, rfl⟩ | ⟨c, d, rfl, rfl⟩)
  · exact ⟨b.trans d.symm, rfl, rfl⟩
  · exact absurd c a
  · exact absurd a c
  · exact ⟨b.trans d.symm, rfl, rfl⟩
theorem cl_setGenerator {i p u v : Int} (hI : CI M r hs) (hi : inR i) (hp : inR p) (hu : inR u) (hv : inR v) : J SHC mi_X6_setGenerator 0 (ent [vR 0, vI i, vI p, vI u, vI v] 6) [] M (AnsI CI (A_setGenerator r hs i p u v)) := j_mono (fun w M1 q => by
  obtain ⟨z, rfl, ⟨a, b, rfl⟩ | ⟨a, b, c⟩⟩ := q
  · exact ⟨_, _, _, rfl, Or.inl ⟨a, b, rfl, rfl⟩, hI⟩
  · exact ⟨_, _, _, rfl, Or.inr ⟨a, b, rfl, rfl⟩, c⟩) (e_X6_setGenerator hI hi hp hu hv)
theorem ml_setGenerator {i p u v : Int} (hI : MS M r hs) (hi : inR i) (hp : inR p) (hu : inR u) (hv : inR v) : J SHM mi_X7_setGenerator 0 (ent [vR 0, vI i, vI p, vI u, vI v] 6) [] M (AnsI MS (A_setGenerator r hs i p u v)) := j_mono (fun w M1 q => by
  obtain ⟨z, rfl, ⟨a, b, rfl⟩ | ⟨a, b, c⟩⟩ := q
  · exact ⟨_, _, _, rfl, Or.inl ⟨a, b, rfl, rfl⟩, hI⟩
  · exact ⟨_, _, _, rfl, Or.inr ⟨a, b, rfl, rfl⟩, c⟩) (e_X7_setGenerator hI hi hp hu hv)
noncomputable def A_undo (r : Row) (hs : List Row) : Int → Row → List Row → Prop := fun z r' hs' => (hs = [] ∧ z = -3 ∧ r' = r ∧ hs' = hs) ∨ (hs = hs' ++ [r'] ∧ z = hs'.length)
theorem fn_undo  : Fnl (A_undo r hs) := by
  rintro z1 r1 h1 z2 r2 h2 (⟨a, b, rfl, rfl⟩ | ⟨a, b⟩) (⟨c, d, rfl, rfl⟩ | ⟨c, d⟩)
  · exact ⟨b.trans d.symm, rfl, rfl⟩
  · rw [a] at c; simp at c
  · rw [c] at a; simp at a
  · rw [a] at c
    obtain ⟨e1, e2⟩ := List.append_inj' c rfl
    subst e1
    simp at e2
    exact ⟨b.trans d.symm, e2, rfl⟩
theorem cl_undo  (hI : CI M r hs) : J SHC mi_X6_undo 0 (ent [vR 0] 1) [] M (AnsI CI (A_undo r hs)) := j_mono (fun w M1 q => by
  obtain ⟨z, rfl, ⟨a, b, rfl⟩ | ⟨h1, q, a, b, c⟩⟩ := q
  · exact ⟨_, _, _, rfl, Or.inl ⟨a, b, rfl, rfl⟩, hI⟩
  · exact ⟨_, _, _, rfl, Or.inr ⟨a, b⟩, c⟩) (e_X6_undo hI)
theorem ml_undo  (hI : MS M r hs) : J SHM mi_X7_undo 0 (ent [vR 0] 2) [] M (AnsI MS (A_undo r hs)) := j_mono (fun w M1 q => by
  obtain ⟨z, rfl, ⟨a, b, rfl⟩ | ⟨h1, q, a, b, c⟩⟩ := q
  · exact ⟨_, _, _, rfl, Or.inl ⟨a, b, rfl, rfl⟩, hI⟩
  · exact ⟨_, _, _, rfl, Or.inr ⟨a, b⟩, c⟩) (e_X7_undo hI)
noncomputable def A_generator (r : Row) (hs : List Row) (i : Int) : Int → Row → List Row → Prop := Qv (fun z => z = (if i < 0 then -1 else if i < r.2.2.length then r.2.2.getD i.toNat 0 else -3)) r hs
theorem fn_generator {i : Int} : Fnl (A_generator r hs i) := Fnl_Q (eq_uq)
theorem cl_generator {i : Int} (hI : CI M r hs) (hi : inR i) : J SHC mi_X6_generator 0 (ent [vR 0, vI i] 2) [] M (AnsI CI (A_generator r hs i)) := an_pu hI (rfl) (e_X6_generator hI hi)
theorem ml_generator {i : Int} (hI : MS M r hs) (hi : inR i) : J SHM mi_X7_generator 0 (ent [vR 0, vI i] 2) [] M (AnsI MS (A_generator r hs i)) := an_pu hI (rfl) (e_X7_generator hI hi)
noncomputable def A_order (r : Row) (hs : List Row) : Int → Row → List Row → Prop := Qv (fun z => z = (GL r).length) r hs
theorem fn_order  : Fnl (A_order r hs) := Fnl_Q (eq_uq)
theorem cl_order  (hI : CI M r hs) : J SHC mi_X6_order 0 (ent [vR 0] 1) [] M (AnsI CI (A_order r hs)) := an_pu hI (rfl) (e_X6_order hI)
theorem ml_order  (hI : MS M r hs) : J SHM mi_X7_order 0 (ent [vR 0] 1) [] M (AnsI MS (A_order r hs)) := an_pu hI (rfl) (e_X7_order hI)
noncomputable def A_element (r : Row) (hs : List Row) (i : Int) : Int → Row → List Row → Prop := Qv (fun z => z = (if i < 0 then -1 else if i < (GL r).length then (GL r).getD i.toNat 0 else -3)) r hs
theorem fn_element {i : Int} : Fnl (A_element r hs i) := Fnl_Q (eq_uq)
theorem cl_element {i : Int} (hI : CI M r hs) (hi : inR i) : J SHC mi_X6_element 0 (ent [vR 0, vI i] 2) [] M (AnsI CI (A_element r hs i)) := an_pu hI (rfl) (e_X6_element hI hi)
theorem ml_element {i : Int} (hI : MS M r hs) (hi : inR i) : J SHM mi_X7_element 0 (ent [vR 0, vI i] 4) [] M (AnsI MS (A_element r hs i)) := an_pu hI (rfl) (e_X7_element hI hi)
noncomputable def A_contains (r : Row) (hs : List Row) (c : Int) : Int → Row → List Row → Prop := Qv (Cnd (vc r.1 r.2.1 c) (fun z => z = ind (c ∈ GL r)) (-1)) r hs
theorem fn_contains {c : Int} : Fnl (A_contains r hs c) := Fnl_Q (Cnd_uq eq_uq)
theorem cl_contains {c : Int} (hI : CI M r hs) (hc : inR c) : J SHC mi_X6_contains 0 (ent [vR 0, vI c] 2) [] M (AnsI CI (A_contains r hs c)) := an_pz hI (fun _ q => q) (e_X6_contains hI hc)
theorem ml_contains {c : Int} (hI : MS M r hs) (hc : inR c) : J SHM mi_X7_contains 0 (ent [vR 0, vI c] 2) [] M (AnsI MS (A_contains r hs c)) := an_pz hI (fun _ q => q) (e_X7_contains hI hc)
noncomputable def A_product (r : Row) (hs : List Row) (c d : Int) : Int → Row → List Row → Prop := Qv (Cnd (vc r.1 r.2.1 c ∧ vc r.1 r.2.1 d) (fun z => z = tm r.1 r.2.1 c d) (-1)) r hs
theorem fn_product {c d : Int} : Fnl (A_product r hs c d) := Fnl_Q (Cnd_uq eq_uq)
theorem cl_product {c d : Int} (hI : CI M r hs) (hc : inR c) (hd : inR d) : J SHC mi_X6_product 0 (ent [vR 0, vI c, vI d] 3) [] M (AnsI CI (A_product r hs c d)) := an_pz hI (fun _ q => q) (e_X6_product hI hc hd)
theorem ml_product {c d : Int} (hI : MS M r hs) (hc : inR c) (hd : inR d) : J SHM mi_X7_product 0 (ent [vR 0, vI c, vI d] 3) [] M (AnsI MS (A_product r hs c d)) := an_pz hI (fun _ q => q) (e_X7_product hI hc hd)
def OrdR (r : Row) (c : Int) : Int → Prop := fun z => ∃ t : Nat, z = t + 1 ∧ (∀ i < t, pw r.1 r.2.1 c i ≠ 0) ∧ pw r.1 r.2.1 c t = 0
theorem OrdR_uq {r : Row} {c : Int} : ∀ z1 z2, OrdR r c z1 → OrdR r c z2 → z1 = z2 := by
  rintro z1 z2 ⟨t, a, b, e⟩ ⟨u, c, d, f⟩
  have : t = u := by
    rcases Nat.lt_trichotomy t u with q | q | q
    · exact absurd e (d t q)
    · exact q
    · exact absurd f (b u q)
  omega
noncomputable def A_orderOf (r : Row) (hs : List Row) (c : Int) : Int → Row → List Row → Prop := Qv (Cnd (vc r.1 r.2.1 c) (OrdR r c) (-1)) r hs
theorem fn_orderOf {c : Int} : Fnl (A_orderOf r hs c) := Fnl_Q (Cnd_uq OrdR_uq)
theorem cl_orderOf {c : Int} (hI : CI M r hs) (hc : inR c) : J SHC mi_X6_orderOf 0 (ent [vR 0, vI c] 2) [] M (AnsI CI (A_orderOf r hs c)) := an_pz hI (fun z q => by
  rcases q with ⟨a, t, h1, h2, h3, h4⟩ | q
  · obtain ⟨hk, hn1, hn5, hc⟩ := r_b hI.2.1
    obtain ⟨t0, b1, b2⟩ := pw_fin hk hn1 hn5 a
    refine Or.inl ⟨a, t, h1, h3, ?_⟩
    rcases h4 with h4 | h4
    · exact h4
    · exact absurd b2 (h3 t0 (by omega))
  · exact Or.inr q) (e_X6_orderOf hI hc)
theorem ml_orderOf {c : Int} (hI : MS M r hs) (hc : inR c) : J SHM mi_X7_orderOf 0 (ent [vR 0, vI c] 4) [] M (AnsI MS (A_orderOf r hs c)) := an_pz hI (fun _ q => q) (e_X7_orderOf hI hc)
noncomputable def A_kindOf (r : Row) (hs : List Row) (c : Int) : Int → Row → List Row → Prop := Qv (Cnd (vc r.1 r.2.1 c) (fun z => z = kn r.1 r.2.1 c) (-1)) r hs
theorem fn_kindOf {c : Int} : Fnl (A_kindOf r hs c) := Fnl_Q (Cnd_uq eq_uq)
theorem cl_kindOf {c : Int} (hI : CI M r hs) (hc : inR c) : J SHC mi_X6_kindOf 0 (ent [vR 0, vI c] 2) [] M (AnsI CI (A_kindOf r hs c)) := an_pz hI (fun _ q => q) (e_X6_kindOf hI hc)
theorem ml_kindOf {c : Int} (hI : MS M r hs) (hc : inR c) : J SHM mi_X7_kindOf 0 (ent [vR 0, vI c] 2) [] M (AnsI MS (A_kindOf r hs c)) := an_pz hI (fun _ q => q) (e_X7_kindOf hI hc)
noncomputable def A_count (r : Row) (hs : List Row) (d : Int) : Int → Row → List Row → Prop := Qv (Cnd (0 ≤ d ∧ d < 4) (fun z => z = ((GL r).countP (fun c => decide (kn r.1 r.2.1 c = d)) : Nat)) (-1)) r hs
theorem fn_count {d : Int} : Fnl (A_count r hs d) := Fnl_Q (Cnd_uq eq_uq)
theorem cl_count {d : Int} (hI : CI M r hs) (hd : inR d) : J SHC mi_X6_count 0 (ent [vR 0, vI d] 2) [] M (AnsI CI (A_count r hs d)) := an_pz hI (fun _ q => q) (e_X6_count hI hd)
theorem ml_count {d : Int} (hI : MS M r hs) (hd : inR d) : J SHM mi_X7_count 0 (ent [vR 0, vI d] 4) [] M (AnsI MS (A_count r hs d)) := an_pz hI (fun _ q => q) (e_X7_count hI hd)
noncomputable def A_isAbelian (r : Row) (hs : List Row) : Int → Row → List Row → Prop := Qv (Yn (Abe r)) r hs
theorem fn_isAbelian  : Fnl (A_isAbelian r hs) := Fnl_Q (Yn_uq)
theorem cl_isAbelian  (hI : CI M r hs) : J SHC mi_X6_isAbelian 0 (ent [vR 0] 1) [] M (AnsI CI (A_isAbelian r hs)) := an_pz hI (fun _ q => q) (e_X6_isAbelian hI)
theorem ml_isAbelian  (hI : MS M r hs) : J SHM mi_X7_isAbelian 0 (ent [vR 0] 1) [] M (AnsI MS (A_isAbelian r hs)) := an_pz hI (fun z q => by
  rw [ab_iff hI.2.1] at q
  exact q) (e_X7_isAbelian hI)
noncomputable def A_conjugacyClasses (r : Row) (hs : List Row) : Int → Row → List Row → Prop := Qv (fun z => z = (cmS r.1 r.2.1 (GL r) / (GL r).length : Nat)) r hs
theorem fn_conjugacyClasses  : Fnl (A_conjugacyClasses r hs) := Fnl_Q (eq_uq)
theorem cl_conjugacyClasses  (hI : CI M r hs) : J SHC mi_X6_conjugacyClasses 0 (ent [vR 0] 1) [] M (AnsI CI (A_conjugacyClasses r hs)) := j_mono (fun w M1 q => by
  obtain ⟨z, rfl, h, wss, h1, h2, h3, h4⟩ := q
  refine ⟨_, _, _, rfl, ⟨?_, rfl, rfl⟩, h⟩
  have ho := hI.2.1
  have hin : ∀ x ∈ wss.flatten, x ∈ GL r := fun x hx => by
    obtain ⟨ws, w1, w2⟩ := List.mem_flatten.mp hx
    obtain ⟨m, hm⟩ := List.getElem?_of_mem w1
    obtain ⟨s, c1, c2, c3, c4⟩ := cj_cls ho h2 hm
    obtain ⟨y, y1, y2⟩ := h4 ws w1
    have hV := c2.2.1
    obtain ⟨a, a1, a2⟩ := (orb_same (GL_grp ho) (act_cj ho) (z := x) (hV s c1) ((c3 y).mp y2)).mp ((c3 x).mp w2)
    rw [← a2]
    exact GL_tm ho (GL_tm ho a1 y1) (GL_iv ho a1)
  show z = _
  rw [cj_same ho h2 h3 hin, h1]) (e_X6_conjugacyClasses hI)
theorem ml_conjugacyClasses  (hI : MS M r hs) : J SHM mi_X7_conjugacyClasses 0 (ent [vR 0] 1) [] M (AnsI MS (A_conjugacyClasses r hs)) := an_pu hI rfl (e_X7_conjugacyClasses hI)
noncomputable def A_linearParts (r : Row) (hs : List Row) : Int → Row → List Row → Prop := Qv (fun z => z = cntTo (MR r 16) 12) r hs
theorem fn_linearParts  : Fnl (A_linearParts r hs) := Fnl_Q (eq_uq)
theorem cl_linearParts  (hI : CI M r hs) : J SHC mi_X6_linearParts 0 (ent [vR 0] 1) [] M (AnsI CI (A_linearParts r hs)) := an_pu hI ((ft_cnt hI).1) (e_X6_linearParts hI)
theorem ml_linearParts  (hI : MS M r hs) : J SHM mi_X7_linearParts 0 (ent [vR 0] 1) [] M (AnsI MS (A_linearParts r hs)) := an_pu hI (rfl) (e_X7_linearParts hI)
noncomputable def A_rotationOrder (r : Row) (hs : List Row) : Int → Row → List Row → Prop := Qv (fun z => z = gtf (MR r 16) r.1 (tu r.1).toNat) r hs
theorem fn_rotationOrder  : Fnl (A_rotationOrder r hs) := Fnl_Q (eq_uq)
theorem cl_rotationOrder  (hI : CI M r hs) : J SHC mi_X6_rotationOrder 0 (ent [vR 0] 1) [] M (AnsI CI (A_rotationOrder r hs)) := an_pu hI ((ft_cnt hI).2.2) (e_X6_rotationOrder hI)
theorem ml_rotationOrder  (hI : MS M r hs) : J SHM mi_X7_rotationOrder 0 (ent [vR 0] 1) [] M (AnsI MS (A_rotationOrder r hs)) := an_pu hI (rfl) (e_X7_rotationOrder hI)
noncomputable def A_mirrorDirections (r : Row) (hs : List Row) : Int → Row → List Row → Prop := Qv (fun z => z = cntTo (MR r 17) 12) r hs
theorem fn_mirrorDirections  : Fnl (A_mirrorDirections r hs) := Fnl_Q (eq_uq)
theorem cl_mirrorDirections  (hI : CI M r hs) : J SHC mi_X6_mirrorDirections 0 (ent [vR 0] 1) [] M (AnsI CI (A_mirrorDirections r hs)) := an_pu hI ((ft_cnt hI).2.1) (e_X6_mirrorDirections hI)
theorem ml_mirrorDirections  (hI : MS M r hs) : J SHM mi_X7_mirrorDirections 0 (ent [vR 0] 1) [] M (AnsI MS (A_mirrorDirections r hs)) := an_pu hI (rfl) (e_X7_mirrorDirections hI)
noncomputable def A_isCentered (r : Row) (hs : List Row) : Int → Row → List Row → Prop := Qv (Yn (Cen (MR r))) r hs
theorem fn_isCentered  : Fnl (A_isCentered r hs) := Fnl_Q (Yn_uq)
theorem cl_isCentered  (hI : CI M r hs) : J SHC mi_X6_isCentered 0 (ent [vR 0] 1) [] M (AnsI CI (A_isCentered r hs)) := an_pz hI (fun z q => by
  rw [ft_Cen hI] at q
  exact q) (e_X6_isCentered hI)
theorem ml_isCentered  (hI : MS M r hs) : J SHM mi_X7_isCentered 0 (ent [vR 0] 1) [] M (AnsI MS (A_isCentered r hs)) := an_pz hI (fun _ q => q) (e_X7_isCentered hI)
noncomputable def A_type (r : Row) (hs : List Row) : Int → Row → List Row → Prop := Qv (fun z => TY (MR r) (gtf (MR r 16) r.1 (tu r.1).toNat) (cntTo (MR r 17) 12) z) r hs
theorem fn_type  : Fnl (A_type r hs) := Fnl_Q (fun _ _ => TY_uq)
theorem cl_type  (hI : CI M r hs) : J SHC mi_X6_type 0 (ent [vR 0] 1) [] M (AnsI CI (A_type r hs)) := an_pz hI (fun z q => by
  rw [(ft_cnt hI).2.1, (ft_cnt hI).2.2] at q
  exact (ft_TY hI _ _ z).mp q) (e_X6_type hI)
theorem ml_type  (hI : MS M r hs) : J SHM mi_X7_type 0 (ent [vR 0] 4) [] M (AnsI MS (A_type r hs)) := an_pz hI (fun _ q => q) (e_X7_type hI)
noncomputable def A_orbitSize (r : Row) (hs : List Row) (x y : Int) : Int → Row → List Row → Prop := Qv (Cnd (0 ≤ x ∧ x < r.2.1 ∧ 0 ≤ y ∧ y < r.2.1) (fun z => z = cntTo (fun p => ind (onO r (r.2.1 * x + y) p)) 25) (-1)) r hs
theorem fn_orbitSize {x y : Int} : Fnl (A_orbitSize r hs x y) := Fnl_Q (Cnd_uq eq_uq)
theorem cl_orbitSize {x y : Int} (hI : CI M r hs) (hx : inR x) (hy : inR y) : J SHC mi_X6_orbitSize 0 (ent [vR 0, vI x, vI y] 3) [] M (AnsI CI (A_orbitSize r hs x y)) := an_pz hI (fun z q => by
  have e1 := hI.1.2.1
  rcases q with ⟨a, b⟩ | q
  · have hb := cell_b a
    rw [e1] at b
    exact Or.inl ⟨a, b.trans (orb_size hI hb.1 hb.2)⟩
  · exact Or.inr q) (e_X6_orbitSize hI hx hy)
theorem ml_orbitSize {x y : Int} (hI : MS M r hs) (hx : inR x) (hy : inR y) : J SHM mi_X7_orbitSize 0 (ent [vR 0, vI x, vI y] 3) [] M (AnsI MS (A_orbitSize r hs x y)) := an_pz hI (fun _ q => q) (e_X7_orbitSize hI hx hy)
def FirR (r : Row) (q : Int) : Int → Prop := fun z => ∃ p : Nat, z = p ∧ lst r q p
theorem FirR_uq {r : Row} {q : Int} : ∀ z1 z2, FirR r q z1 → FirR r q z2 → z1 = z2 := by
  rintro z1 z2 ⟨p, a, b⟩ ⟨p', c, d⟩
  have := lst_iff b d (by omega) (by omega)
  omega
noncomputable def A_orbitFirst (r : Row) (hs : List Row) (x y : Int) : Int → Row → List Row → Prop := Qv (Cnd (0 ≤ x ∧ x < r.2.1 ∧ 0 ≤ y ∧ y < r.2.1) (FirR r (r.2.1 * x + y)) (-1)) r hs
theorem fn_orbitFirst {x y : Int} : Fnl (A_orbitFirst r hs x y) := Fnl_Q (Cnd_uq FirR_uq)
theorem cl_orbitFirst {x y : Int} (hI : CI M r hs) (hx : inR x) (hy : inR y) : J SHC mi_X6_orbitFirst 0 (ent [vR 0, vI x, vI y] 3) [] M (AnsI CI (A_orbitFirst r hs x y)) := an_pz hI (fun z q => by
  have e1 := hI.1.2.1
  rcases q with ⟨a, b⟩ | q
  · have hb := cell_b a
    rw [e1] at b
    exact Or.inl ⟨a, by obtain ⟨p, p1, p2⟩ := orb_first hI hb.1 hb.2; exact ⟨p, b.trans p1, p2⟩⟩
  · exact Or.inr q) (e_X6_orbitFirst hI hx hy)
theorem ml_orbitFirst {x y : Int} (hI : MS M r hs) (hx : inR x) (hy : inR y) : J SHM mi_X7_orbitFirst 0 (ent [vR 0, vI x, vI y] 3) [] M (AnsI MS (A_orbitFirst r hs x y)) := an_pz hI (fun _ q => q) (e_X7_orbitFirst hI hx hy)
noncomputable def A_stabilizerOrder (r : Row) (hs : List Row) (x y : Int) : Int → Row → List Row → Prop := Qv (Cnd (0 ≤ x ∧ x < r.2.1 ∧ 0 ≤ y ∧ y < r.2.1) (fun z => z = stb r (r.2.1 * x + y)) (-1)) r hs
theorem fn_stabilizerOrder {x y : Int} : Fnl (A_stabilizerOrder r hs x y) := Fnl_Q (Cnd_uq eq_uq)
theorem cl_stabilizerOrder {x y : Int} (hI : CI M r hs) (hx : inR x) (hy : inR y) : J SHC mi_X6_stabilizerOrder 0 (ent [vR 0, vI x, vI y] 3) [] M (AnsI CI (A_stabilizerOrder r hs x y)) := an_pz hI (fun z q => by
  have e1 := hI.1.2.1
  rcases q with ⟨a, b⟩ | q
  · have hb := cell_b a
    rw [e1] at b
    exact Or.inl ⟨a, b.trans (orb_stb hI hb.1 hb.2)⟩
  · exact Or.inr q) (e_X6_stabilizerOrder hI hx hy)
theorem ml_stabilizerOrder {x y : Int} (hI : MS M r hs) (hx : inR x) (hy : inR y) : J SHM mi_X7_stabilizerOrder 0 (ent [vR 0, vI x, vI y] 3) [] M (AnsI MS (A_stabilizerOrder r hs x y)) := an_pz hI (fun _ q => q) (e_X7_stabilizerOrder hI hx hy)
noncomputable def A_orbitCount (r : Row) (hs : List Row) : Int → Row → List Row → Prop := Qv (fun z => z = oct r (r.2.1 * r.2.1).toNat) r hs
theorem fn_orbitCount  : Fnl (A_orbitCount r hs) := Fnl_Q (eq_uq)
theorem cl_orbitCount  (hI : CI M r hs) : J SHC mi_X6_orbitCount 0 (ent [vR 0] 1) [] M (AnsI CI (A_orbitCount r hs)) := an_pu hI (orb_cnt hI) (e_X6_orbitCount hI)
theorem ml_orbitCount  (hI : MS M r hs) : J SHM mi_X7_orbitCount 0 (ent [vR 0] 1) [] M (AnsI MS (A_orbitCount r hs)) := an_pu hI (rfl) (e_X7_orbitCount hI)
noncomputable def A_isSymmorphic (r : Row) (hs : List Row) : Int → Row → List Row → Prop := Qv (Yn (∃ q : Int, 0 ≤ q ∧ q < r.2.1 * r.2.1 ∧ (stb r q : Int) = cntTo (MR r 16) 12)) r hs
theorem fn_isSymmorphic  : Fnl (A_isSymmorphic r hs) := Fnl_Q (Yn_uq)
theorem cl_isSymmorphic  (hI : CI M r hs) : J SHC mi_X6_isSymmorphic 0 (ent [vR 0] 1) [] M (AnsI CI (A_isSymmorphic r hs)) := an_pz hI (fun z q => by
  have e : (∃ q : Int, 0 ≤ q ∧ q < M 1 1 * M 1 1 ∧ M 10 6 / M 21 q = cntTo (M 16) 12) ↔ (∃ q : Int, 0 ≤ q ∧ q < r.2.1 * r.2.1 ∧ (stb r q : Int) = cntTo (MR r 16) 12) := by
    rw [hI.1.2.1, (ft_cnt hI).1]
    constructor
    · rintro ⟨q, a, b, c⟩
      exact ⟨q, a, b, by rw [← orb_stb hI a b]; exact c⟩
    · rintro ⟨q, a, b, c⟩
      exact ⟨q, a, b, by rw [orb_stb hI a b]; exact c⟩
  rw [e] at q
  exact q) (e_X6_isSymmorphic hI)
theorem ml_isSymmorphic  (hI : MS M r hs) : J SHM mi_X7_isSymmorphic 0 (ent [vR 0] 4) [] M (AnsI MS (A_isSymmorphic r hs)) := an_pz hI (fun _ q => q) (e_X7_isSymmorphic hI)
noncomputable def A_invariantColorings (r : Row) (hs : List Row) (b : Int) : Int → Row → List Row → Prop := Qv (fun z => z = (if 1 ≤ b ∧ b ≤ 4 then b ^ (oct r (r.2.1 * r.2.1).toNat).toNat else -1)) r hs
theorem fn_invariantColorings {b : Int} : Fnl (A_invariantColorings r hs b) := Fnl_Q (eq_uq)
theorem cl_invariantColorings {b : Int} (hI : CI M r hs) (hb : inR b) : J SHC mi_X6_invariantColorings 0 (ent [vR 0, vI b] 2) [] M (AnsL CI (A_invariantColorings r hs b)) := an_pul hI (by rw [orb_cnt hI]) (e_X6_invariantColorings hI hb)
theorem ml_invariantColorings {b : Int} (hI : MS M r hs) (hb : inR b) : J SHM mi_X7_invariantColorings 0 (ent [vR 0, vI b] 2) [] M (AnsL MS (A_invariantColorings r hs b)) := an_pul hI (rfl) (e_X7_invariantColorings hI hb)
noncomputable def A_coloringClasses (r : Row) (hs : List Row) (b : Int) : Int → Row → List Row → Prop := Qv (fun z => z = (if 1 ≤ b ∧ b ≤ 4 then colS b r.1 r.2.1 (GL r) / (GL r).length else -1)) r hs
theorem fn_coloringClasses {b : Int} : Fnl (A_coloringClasses r hs b) := Fnl_Q (eq_uq)
theorem cl_coloringClasses {b : Int} (hI : CI M r hs) (hb : inR b) : J SHC mi_X6_coloringClasses 0 (ent [vR 0, vI b] 2) [] M (AnsL CI (A_coloringClasses r hs b)) := j_mono (fun w M1 q => by
  obtain ⟨rfl, h⟩ := q
  exact ⟨_, _, _, rfl, ⟨rfl, rfl, rfl⟩, h⟩) (e_X6_coloringClasses hI hb)
theorem ml_coloringClasses {b : Int} (hI : MS M r hs) (hb : inR b) : J SHM mi_X7_coloringClasses 0 (ent [vR 0, vI b] 5) [] M (AnsL MS (A_coloringClasses r hs b)) := an_pul hI rfl (e_X7_coloringClasses hI hb)
end OPS
