/-! THE MAKERS: the two new worlds, in the engine's form -/
def adX (aL : List Nat) (tS tH : Nat) : Nat → Nat := fun k => if k = 1000 then tS else if k = 1001 then tH else aL.getD k 0
def wWl (ad : Nat → Nat) (cI cZ cA : ClassId) (M : Mem) : Nat → List Shp → va_W
  | _, [] => []
  | i, s :: l => (ad i, wE ad cI cZ cA M i s) :: wWl ad cI cZ cA M (i + 1) l
theorem wWl_get {ad : Nat → Nat} {cI cZ cA : ClassId} {M : Mem} : ∀ (l : List Shp) (i k : Nat), (wWl ad cI cZ cA M i l)[k]? = (l[k]?).map (fun s => (ad (i + k), wE ad cI cZ cA M (i + k) s))
  | [], i, k => by simp [wWl]
  | s :: l, i, 0 => by simp [wWl]
  | s :: l, i, k + 1 => by
    rw [wWl, List.getElem?_cons_succ, List.getElem?_cons_succ, wWl_get l (i + 1) k, show i + 1 + k = i + (k + 1) by omega]
theorem wW_l {ad : Nat → Nat} {cI cZ cA : ClassId} {M : Mem} {SH : List Shp} : wW ad cI cZ cA SH M = wWl ad cI cZ cA M 0 SH := by
  apply List.ext_getElem?
  intro k
  rw [wWl_get, wW, List.getElem?_mapIdx, Nat.zero_add]
theorem rows_f {ad : Nat → Nat} {a b c d : Nat} : (fun j : Nat => ([some a, some b, some c, some d].getD j none).map ad) = (fun j => [some (ad a), some (ad b), some (ad c), some (ad d)].getD j none) := by
  funext j
  match j with
  | 0 => rfl
  | 1 => rfl
  | 2 => rfl
  | 3 => rfl
  | j + 4 => rfl
theorem wE_i {ad : Nat → Nat} {cI cZ cA : ClassId} {M : Mem} {a n : Nat} {rs : List (Option Nat)} : wE ad cI cZ cA M a (0, n, rs) = .inl (cI, n, .inl (fun j => i3 (M a j))) := rfl
theorem wE_z {ad : Nat → Nat} {cI cZ cA : ClassId} {M : Mem} {a n : Nat} {rs : List (Option Nat)} : wE ad cI cZ cA M a (1, n, rs) = .inl (cZ, n, .inl (fun j => i3 (M a j))) := rfl
theorem wE_q {ad : Nat → Nat} {cI cZ cA : ClassId} {M : Mem} {a n : Nat} {rs : List (Option Nat)} : wE ad cI cZ cA M a (2, n, rs) = .inl (cA, n, .inr (.inr (.inr (.inr (fun j => (rs.getD j none).map ad))))) := rfl
theorem wE_o {ad : Nat → Nat} {cI cZ cA : ClassId} {M : Mem} {a n t : Nat} {rs : List (Option Nat)} : wE ad cI cZ cA M a (t + 3, n, rs) = .inr (t, rs.mapIdx (fun k r => wfld ad M a k r)) := rfl
theorem wf_n {ad : Nat → Nat} {M : Mem} {a k : Nat} : wfld ad M a k none = .int (i3 (M a k)) := rfl
theorem wf_s {ad : Nat → Nat} {M : Mem} {a k q : Nat} : wfld ad M a k (some q) = .ref (ad q) := rfl
theorem M4_a {a : Nat} (h : a ≠ 1) (j : Int) : M4 a j = 0 := if_neg h

set_option maxRecDepth 20000 in
theorem world_SHC {D : va_G} {cI cZ cA : ClassId} {H : Heap} {tS tH h0 a1 a2 a3 a4 a5 a6 a7 a8 a9 a10 a11 a12 a13 a14 a15 a16 a17 a18 a19 a20 a21 a22 a23 a24 : Nat} (hP : va_P D clW [(h0, .inr (6, [.ref a1, .ref a2, .ref a4, .ref a10, .ref a15, .ref a19])), (a1, .inr (5, [.int 0, .int 4])), (a2, .inr (2, [.ref a3, .int 0])), (a3, .inl (cI, 4, .inl (fun _ => i3 0))), (a4, .inr (4, [.ref a5, .int 0])), (a5, .inl (cA, 4, .inr (.inr (.inr (.inr (fun j => [some a6, some a7, some a8, some a9].getD j none)))))), (a6, .inl (cI, 7, .inl (fun _ => i3 0))), (a7, .inl (cI, 7, .inl (fun _ => i3 0))), (a8, .inl (cI, 7, .inl (fun _ => i3 0))), (a9, .inl (cI, 7, .inl (fun _ => i3 0))), (a10, .inr (3, [.ref a1, .ref a2, .ref a11, .ref a12, .ref a13, .ref a14, .int 0, .int 0])), (a11, .inl (cZ, 300, .inl (fun _ => i3 0))), (a12, .inl (cI, 300, .inl (fun _ => i3 0))), (a13, .inl (cZ, 300, .inl (fun _ => i3 0))), (a14, .inl (cI, 300, .inl (fun _ => i3 0))), (a15, .inr (1, [.ref a1, .ref a10, .ref a16, .ref a17, .ref a18])), (a16, .inl (cZ, 12, .inl (fun _ => i3 0))), (a17, .inl (cZ, 12, .inl (fun _ => i3 0))), (a18, .inl (cI, 4, .inl (fun _ => i3 0))), (a19, .inr (0, [.ref a1, .ref a2, .ref a10, .ref a20, .ref a21, .ref a22, .ref a23, .ref a24, .int 0, .int 0])), (a20, .inl (cI, 25, .inl (fun _ => i3 0))), (a21, .inl (cI, 25, .inl (fun _ => i3 0))), (a22, .inl (cZ, 25, .inl (fun _ => i3 0))), (a23, .inl (cI, 25, .inl (fun _ => i3 0))), (a24, .inl (cI, 25, .inl (fun _ => i3 0)))] H) : va_P D clW (wW (adX [h0, a1, a2, a3, a4, a5, a6, a7, a8, a9, a10, a11, a12, a13, a14, a15, a16, a17, a18, a19, a20, a21, a22, a23, a24] tS tH) cI cZ cA SHC M4) H := by
  obtain ⟨ad, had⟩ : ∃ ad : Nat → Nat, ad = adX [h0, a1, a2, a3, a4, a5, a6, a7, a8, a9, a10, a11, a12, a13, a14, a15, a16, a17, a18, a19, a20, a21, a22, a23, a24] tS tH := ⟨_, rfl⟩
  have e0 : ad 0 = h0 := by rw [had]; rfl
  have e1 : ad 1 = a1 := by rw [had]; rfl
  have e2 : ad 2 = a2 := by rw [had]; rfl
  have e3 : ad 3 = a3 := by rw [had]; rfl
  have e4 : ad 4 = a4 := by rw [had]; rfl
  have e5 : ad 5 = a5 := by rw [had]; rfl
  have e6 : ad 6 = a6 := by rw [had]; rfl
  have e7 : ad 7 = a7 := by rw [had]; rfl
  have e8 : ad 8 = a8 := by rw [had]; rfl
  have e9 : ad 9 = a9 := by rw [had]; rfl
  have e10 : ad 10 = a10 := by rw [had]; rfl
  have e11 : ad 11 = a11 := by rw [had]; rfl
  have e12 : ad 12 = a12 := by rw [had]; rfl
  have e13 : ad 13 = a13 := by rw [had]; rfl
  have e14 : ad 14 = a14 := by rw [had]; rfl
  have e15 : ad 15 = a15 := by rw [had]; rfl
  have e16 : ad 16 = a16 := by rw [had]; rfl
  have e17 : ad 17 = a17 := by rw [had]; rfl
  have e18 : ad 18 = a18 := by rw [had]; rfl
  have e19 : ad 19 = a19 := by rw [had]; rfl
  have e20 : ad 20 = a20 := by rw [had]; rfl
  have e21 : ad 21 = a21 := by rw [had]; rfl
  have e22 : ad 22 = a22 := by rw [had]; rfl
  have e23 : ad 23 = a23 := by rw [had]; rfl
  have e24 : ad 24 = a24 := by rw [had]; rfl
  rw [← had, wW_l]
  have eq : wWl ad cI cZ cA M4 0 SHC = [(h0, .inr (6, [.ref a1, .ref a2, .ref a4, .ref a10, .ref a15, .ref a19])), (a1, .inr (5, [.int 0, .int 4])), (a2, .inr (2, [.ref a3, .int 0])), (a3, .inl (cI, 4, .inl (fun _ => i3 0))), (a4, .inr (4, [.ref a5, .int 0])), (a5, .inl (cA, 4, .inr (.inr (.inr (.inr (fun j => [some a6, some a7, some a8, some a9].getD j none)))))), (a6, .inl (cI, 7, .inl (fun _ => i3 0))), (a7, .inl (cI, 7, .inl (fun _ => i3 0))), (a8, .inl (cI, 7, .inl (fun _ => i3 0))), (a9, .inl (cI, 7, .inl (fun _ => i3 0))), (a10, .inr (3, [.ref a1, .ref a2, .ref a11, .ref a12, .ref a13, .ref a14, .int 0, .int 0])), (a11, .inl (cZ, 300, .inl (fun _ => i3 0))), (a12, .inl (cI, 300, .inl (fun _ => i3 0))), (a13, .inl (cZ, 300, .inl (fun _ => i3 0))), (a14, .inl (cI, 300, .inl (fun _ => i3 0))), (a15, .inr (1, [.ref a1, .ref a10, .ref a16, .ref a17, .ref a18])), (a16, .inl (cZ, 12, .inl (fun _ => i3 0))), (a17, .inl (cZ, 12, .inl (fun _ => i3 0))), (a18, .inl (cI, 4, .inl (fun _ => i3 0))), (a19, .inr (0, [.ref a1, .ref a2, .ref a10, .ref a20, .ref a21, .ref a22, .ref a23, .ref a24, .int 0, .int 0])), (a20, .inl (cI, 25, .inl (fun _ => i3 0))), (a21, .inl (cI, 25, .inl (fun _ => i3 0))), (a22, .inl (cZ, 25, .inl (fun _ => i3 0))), (a23, .inl (cI, 25, .inl (fun _ => i3 0))), (a24, .inl (cI, 25, .inl (fun _ => i3 0)))] := by
    unfold SHC
    simp only [wWl, wE_i, wE_z, wE_q, wE_o, List.mapIdx_cons, List.mapIdx_nil, wf_n, wf_s, rows_f, Nat.zero_add, Nat.reduceAdd, e0, e1, e2, e3, e4, e5, e6, e7, e8, e9, e10, e11, e12, e13, e14, e15, e16, e17, e18, e19, e20, e21, e22, e23, e24]
    simp [M4, wE, List.mapIdx_cons, wfld, rows_f, e0, e1, e2, e3, e4, e5, e6, e7, e8, e9, e10, e11, e12, e13, e14, e15, e16, e17, e18, e19, e20, e21, e22, e23, e24]
    first
    | exact ⟨⟨rfl, rfl⟩, rfl⟩
    | rfl
  rw [eq]
  exact hP
set_option maxRecDepth 20000 in
theorem world_SHM {D : va_G} {cI cZ cA : ClassId} {H : Heap} {tS tH h0 a1 a2 a3 a4 a5 a6 : Nat} (hP : va_P D clW [(h0, .inr (7, [.ref a1, .ref a2, .int 0, .int 0, .ref a3, .ref a4, .ref a5, .ref a6, .int 0])), (a1, .inl (cI, 7, .inl (fun j : Nat => i3 (M4 1 (j : Int))))), (a2, .inl (cI, 28, .inl (fun _ => i3 0))), (a3, .inl (cI, 48, .inl (fun _ => i3 0))), (a4, .inl (cI, 144, .inl (fun _ => i3 0))), (a5, .inl (cZ, 300, .inl (fun _ => i3 0))), (a6, .inl (cI, 300, .inl (fun _ => i3 0)))] H) : va_P D clW (wW (adX [h0, a1, a2, a3, a4, a5, a6] tS tH) cI cZ cA SHM M4) H := by
  obtain ⟨ad, had⟩ : ∃ ad : Nat → Nat, ad = adX [h0, a1, a2, a3, a4, a5, a6] tS tH := ⟨_, rfl⟩
  have e0 : ad 0 = h0 := by rw [had]; rfl
  have e1 : ad 1 = a1 := by rw [had]; rfl
  have e2 : ad 2 = a2 := by rw [had]; rfl
  have e3 : ad 3 = a3 := by rw [had]; rfl
  have e4 : ad 4 = a4 := by rw [had]; rfl
  have e5 : ad 5 = a5 := by rw [had]; rfl
  have e6 : ad 6 = a6 := by rw [had]; rfl
  rw [← had, wW_l]
  have eq : wWl ad cI cZ cA M4 0 SHM = [(h0, .inr (7, [.ref a1, .ref a2, .int 0, .int 0, .ref a3, .ref a4, .ref a5, .ref a6, .int 0])), (a1, .inl (cI, 7, .inl (fun j : Nat => i3 (M4 1 (j : Int))))), (a2, .inl (cI, 28, .inl (fun _ => i3 0))), (a3, .inl (cI, 48, .inl (fun _ => i3 0))), (a4, .inl (cI, 144, .inl (fun _ => i3 0))), (a5, .inl (cZ, 300, .inl (fun _ => i3 0))), (a6, .inl (cI, 300, .inl (fun _ => i3 0)))] := by
    unfold SHM
    simp only [wWl, wE_i, wE_z, wE_q, wE_o, List.mapIdx_cons, List.mapIdx_nil, wf_n, wf_s, rows_f, Nat.zero_add, Nat.reduceAdd, e0, e1, e2, e3, e4, e5, e6]
    simp [M4, wE, List.mapIdx_cons, wfld, rows_f, e0, e1, e2, e3, e4, e5, e6]
    first
    | exact ⟨⟨rfl, rfl⟩, rfl⟩
    | rfl
  rw [eq]
  exact hP
