/-! THE WHOLE -/
theorem good_law {mj : MI} (h : Cond.code mj.1 mj.2.1 mj.2.2.1 mj.2.2.2.1 ∈ wTbl) : GoodIn lw_tbl (mW mj) := by
  intro w hw
  rcases List.mem_cons.mp hw with rfl | hw
  · exact ⟨tbl_sub _ h, tbl_good _ h⟩
  · exact ⟨tbl_sub _ hw, tbl_good _ hw⟩
theorem nest_mem : ∀ q ∈ nestL, Cond.methodLinkNest q.1 q.2.1 q.2.2 "WallpaperGroups" ∈ lw_tbl := by decide +kernel
theorem nesti_mem : ∀ q ∈ nestI, Cond.methodLinkNest q.1 q.2.1 q.2.2 "WallpaperGroups" ∈ lw_tbl := by decide +kernel
theorem elSQ : ∀ j, j < 32 → Cond.eq (.elem (.static RX5 "SQUARE_PARTS" "[I") (.int (Int32.ofNat j))) (.int (i3 (tSQ.getD j 0))) ∈ flatC (Jvm.Cond.and given_1 narrow_1) := by decide +kernel
theorem elHX : ∀ j, j < 48 → Cond.eq (.elem (.static RX5 "HEXAGONAL_PARTS" "[I") (.int (Int32.ofNat j))) (.int (i3 (tHX.getD j 0))) ∈ flatC (Jvm.Cond.and given_1 narrow_1) := by decide +kernel
set_option maxHeartbeats 4000000 in
set_option maxRecDepth 100000 in
theorem whole_start {p : Program} {e : Env} {s : State} {m : MethodId} {below : List Frame} {meth : Method} {c : Code} (l : Launch) (hflags : l.flags = flags0) {b L : Nat} {xs : Nat → Int32} (hL : L ≤ 2560) (C0 : lw_At p s m meth c b L xs) : W p l e room_1 s m #[Value.ref b] below meth c s.heap [] 0 0 (lw_Z below #[Value.ref b] s) (entryFrame m ([Value.ref b] : List Value).toArray 4) := by
  obtain ⟨hx, hb, hr, hml, hown, hts, hXX, hbl, hlocks, hgv⟩ := id C0
  have hA : ∀ q : Nat, s.heap.size ≤ q → lA s q := fun _ h => h
  obtain ⟨cC0, iS0, kK0⟩ := u_known (C := RX0) (T := TX0) (N := 10) (n := 10) hts (fun w hw => tbl_sub w (uX0 w hw)) (hts _ (tbl_sub _ (wTbl_1 124 (by rfl) (by decide +kernel))))
  obtain ⟨cC1, iS1, kK1⟩ := u_known (C := RX1) (T := TX1) (N := 5) (n := 5) hts (fun w hw => tbl_sub w (uX1 w hw)) (hts _ (tbl_sub _ (wTbl_1 102 (by rfl) (by decide +kernel))))
  obtain ⟨cC2, iS2, kK2⟩ := u_known (C := RX2) (T := TX2) (N := 2) (n := 2) hts (fun w hw => tbl_sub w (uX2 w hw)) (hts _ (tbl_sub _ (wTbl_1 37 (by rfl) (by decide +kernel))))
  obtain ⟨cC3, iS3, kK3⟩ := u_known (C := RX3) (T := TX3) (N := 8) (n := 8) hts (fun w hw => tbl_sub w (uX3 w hw)) (hts _ (tbl_sub _ (wTbl_1 70 (by rfl) (by decide +kernel))))
  obtain ⟨cC4, iS4, kK4⟩ := u_known (C := RX4) (T := TX4) (N := 2) (n := 2) hts (fun w hw => tbl_sub w (uX4 w hw)) (hts _ (tbl_sub _ (wTbl_1 54 (by rfl) (by decide +kernel))))
  obtain ⟨cC5, iS5, kK5⟩ := u_known (C := RX5) (T := TX5) (N := 2) (n := 2) hts (fun w hw => tbl_sub w (uX5 w hw)) (hts _ (tbl_sub _ (wTbl_1 19 (by rfl) (by decide +kernel))))
  obtain ⟨cC6, iS6, kK6⟩ := u_known (C := RX6) (T := TX6) (N := 6) (n := 6) hts (fun w hw => tbl_sub w (uX6 w hw)) (hts _ (tbl_sub _ (wTbl_1 11 (by rfl) (by decide +kernel))))
  obtain ⟨cC7, iS7, kK7⟩ := u_known (C := RX7) (T := TX7) (N := 9) (n := 9) hts (fun w hw => tbl_sub w (uX7 w hw)) (hts _ (tbl_sub _ (wTbl_3 214 (by rfl) (by decide +kernel))))
  obtain ⟨D, hKc⟩ : ∃ D : va_G, ∀ (k : Nat) (q : vw_C), clW[k]? = some q → u_Kn s q.1 q.2.1 q.2.2 (D.1 k) (D.2 k) := by
    refine ⟨(fun k => [cC0, cC1, cC2, cC3, cC4, cC5, cC6, cC7].getD k cC0, fun k => [iS0, iS1, iS2, iS3, iS4, iS5, iS6, iS7].getD k iS0), ?_⟩
    intro k q hq
    match k, hq with
    | 0, hq => cases hq; exact kK0
    | 1, hq => cases hq; exact kK1
    | 2, hq => cases hq; exact kK2
    | 3, hq => cases hq; exact kK3
    | 4, hq => cases hq; exact kK4
    | 5, hq => cases hq; exact kK5
    | 6, hq => cases hq; exact kK6
    | 7, hq => cases hq; exact kK7
    | k + 8, hq => simp [clW] at hq
  obtain ⟨cI, kI, ccI, fI, gI, hI⟩ := Cond.arrayClass_spec (hts (.arrayClass .int) (tbl_sub _ (wTbl_1 52 (by rfl) (by decide +kernel))))
  obtain ⟨cZ, kZ, ccZ, fZ, gZ, hZ⟩ := Cond.arrayClass_spec (hts (.arrayClass .boolean) (tbl_sub _ (wTbl_1 100 (by rfl) (by decide +kernel))))
  have hAO0 := hts (.arrayOver (.array .int)) (by decide +kernel)
  obtain ⟨cmp, cA, kA, _, _, gA, hAk, fA⟩ := arrayOverA_spec hAO0
  have hAO : (Cond.arrayOver (.array .int)).before #[] s = true := over_moved (Vm.Alike.refl s.vm) hAO0
  have hK : va_K D clW (wTy cI cZ cA) s := ⟨hKc, fun k q hq => by
    match k, hq with
    | 0, hq => cases hq; exact ⟨fun n z => ⟨fun k h => (by cases h), kI, gI, ccI, hI⟩, fI⟩
    | 1, hq => cases hq; exact ⟨fun n z => ⟨fun k h => (by cases h), kZ, gZ, ccZ, hZ⟩, fZ⟩
    | 2, hq => cases hq; exact ⟨fun n z => ⟨fun k h => (by cases h), kA, gA, cmp, hAk⟩, fA⟩
    | k + 3, hq => simp [wTy] at hq⟩
  have hfl := flat_of_before _ hgv
  have hno : ∀ a : Nat, a < s.heap.size → ¬ lA s a := fun a h => Nat.not_le.mpr h
  obtain ⟨tS, hvS, hTS⟩ := va_Tof (tm := .static RX5 "SQUARE_PARTS" "[I") (ty := .int) (N := 32) (f := fun j => .int (i3 (tSQ.getD j 0))) (A := lA s) (by decide) (hfl (.arrayOf (.static RX5 "SQUARE_PARTS" "[I") .int) (by decide +kernel)) (va_eqt (hfl (.eq (.length (.static RX5 "SQUARE_PARTS" "[I")) (.int 32)) (by decide +kernel))) (fun j hj => va_eqt (hfl _ (elSQ j hj))) hno
  have hZS := va_Zof (hts (.laysStatic RX5 "SQUARE_PARTS" "[I") (by decide +kernel)) (hts _ (tbl_sub _ (wTbl_1 2 (by rfl) (by decide +kernel)))) hvS hno
  obtain ⟨tH, hvH, hTH⟩ := va_Tof (tm := .static RX5 "HEXAGONAL_PARTS" "[I") (ty := .int) (N := 48) (f := fun j => .int (i3 (tHX.getD j 0))) (A := lA s) (by decide) (hfl (.arrayOf (.static RX5 "HEXAGONAL_PARTS" "[I") .int) (by decide +kernel)) (va_eqt (hfl (.eq (.length (.static RX5 "HEXAGONAL_PARTS" "[I")) (.int 48)) (by decide +kernel))) (fun j hj => va_eqt (hfl _ (elHX j hj))) hno
  have hZH := va_Zof (hts (.laysStatic RX5 "HEXAGONAL_PARTS" "[I") (by decide +kernel)) (hts _ (tbl_sub _ (wTbl_1 2 (by rfl) (by decide +kernel)))) hvH hno
  have hT2 : wT2 tS tH (lA s) s s.heap := ⟨hZS, hTS, hZH, hTH, fun q hq => va_Nw.of rfl (hts _ (nest_mem q hq))⟩
  have hNI : wNI s := fun q hq => va_Nw.of rfl (hts _ (nesti_mem q hq))
  have hS : va_S (lA s) s.heap s.heap [] := va_S.rf
  have hP0 : va_P D clW [] s.heap := fun k q h => by simp at h
  have hD0 : va_D (lA s) [] := ⟨fun i j p q h => by simp at h, fun k q h => by simp at h⟩
  have hl := lv_entry ([.ref b]) (n := 4) (Nat.le_of_ble_eq_true rfl)
  rw [lg_entry_eq]
  generalize (lg_sl ([.ref b]) ++ List.replicate (4 - (lg_sl ([.ref b])).length) Slot.unset).toArray = ls at hl ⊢
  have hl : lv_has ls 4 [(0, .ref b)] := hl
  refine va_new (ci := 6) (fs := [.null, .null, .null, .null, .null, .null]) (C := RX6) (T := TX6) (N := 6) hx hb hts (fun w hw => tbl_sub w (uX6 w hw)) tyX6 tyX6_ok hown (hts _ (tbl_sub _ (wTbl_1 10 (by rfl) (by decide +kernel)))) (hts _ (tbl_sub _ (wTbl_1 11 (by rfl) (by decide +kernel)))) (hts _ (tbl_sub _ (wTbl_1 1 (by rfl) (by decide +kernel)))) hK hP0 hD0 hS hA rfl (fun j hj => by rcases (show j = 0 ∨ j = 1 ∨ j = 2 ∨ j = 3 ∨ j = 4 ∨ j = 5 by omega) with rfl | rfl | rfl | rfl | rfl | rfl <;> rfl) (Nat.le_of_ble_eq_true rfl) (Nat.le_of_ble_eq_true rfl) dl_0 (fun q6 Ha hP hD hS => ?_)
  have hP6 : va_P D clW [(q6, .inr (6, [.null, .null, .null, .null, .null, .null]))] Ha := hP
  have hD6 : va_D (lA s) [(q6, .inr (6, [.null, .null, .null, .null, .null, .null]))] := hD
  have hF6 := va_free (wc := [(q6, .inr (6, [.null, .null, .null, .null, .null, .null]))]) hD6 hS hA [0] rfl
  refine lv_dup hx hb dl_3 rfl ?_
  refine va_callv (va_runI (As := []) (rest := [.ref q6]) ⟨hx, hb, hml, hown, hts⟩ (k_X6_init l D cI cZ cA q6 Ha.size tS tH) (cwI 0 hts (good_law cw_X6_init) rfl rfl rfl (hts _ (tbl_sub _ (wTbl_1 1 (by rfl) (by decide +kernel)))) (hts _ (tbl_sub _ (wTbl_1 12 (by rfl) (by decide +kernel)))) (hts _ (tbl_sub _ (wTbl_1 13 (by rfl) (by decide +kernel)))) rfl (by decide +kernel) ⟨Nat.le_of_ble_eq_true rfl, Nat.le_of_ble_eq_true rfl⟩) ⟨kPre2_blind, fun U hU hW => ⟨rfl, ⟨by rw [hU], by rw [hU]; exact hP6, va_K.moved hW.alike hK, hD6.weaken (fun _ _ _ _ => trivial), over_moved hW.alike hAO⟩, wT2_mono hF6 (wT2_moved hT2 hS hU hW), fun q hq => va_Nw.warmM hW (hNI q hq)⟩⟩ rfl rfl hl.1 rfl (lv_room (Nat.le_of_ble_eq_true rfl)) dl_4 ⟨Nat.le_of_ble_eq_true rfl, Nat.le_of_ble_eq_true rfl⟩) hS (fun q _ h => hF6 q h) hF6 (fun u t Hb locs ht hvm h5 hB hz1 hk1 hS => ?_)
  obtain ⟨ad1, M1, e10, e11, e12, hi1, hw1, hC, hP1⟩ := hB
  rw [ht] at hP1
  refine lv_astore_n (lv' := [(1, .ref q6), (0, .ref b)]) hx hb dl_7 rfl hl (by decide) rfl (fun ls hl => ?_)
  have hD1 : va_D (lA s) (wW ad1 cI cZ cA SHC M1) := (wW_D hi1).weaken (fun k q _ h => hF6 q.1 (hw1 q.1 h))
  refine va_new (ci := 7) (fs := [.null, .null, .int 0, .int 0, .null, .null, .null, .null, .int 0]) (C := RX7) (T := TX7) (N := 9) hx hb hts (fun w hw => tbl_sub w (uX7 w hw)) tyX7 tyX7_ok hown (hts _ (tbl_sub _ (wTbl_3 213 (by rfl) (by decide +kernel)))) (hts _ (tbl_sub _ (wTbl_3 214 (by rfl) (by decide +kernel)))) (hts _ (tbl_sub _ (wTbl_1 8 (by rfl) (by decide +kernel)))) hK hP1 hD1 hS hA rfl (fun j hj => by rcases (show j = 0 ∨ j = 1 ∨ j = 2 ∨ j = 3 ∨ j = 4 ∨ j = 5 ∨ j = 6 ∨ j = 7 ∨ j = 8 by omega) with rfl | rfl | rfl | rfl | rfl | rfl | rfl | rfl | rfl <;> rfl) (Nat.le_of_ble_eq_true rfl) (Nat.le_of_ble_eq_true rfl) dl_8 (fun q7 Hc hP hD hS => ?_)
  have hlen : (wW ad1 cI cZ cA SHC M1).length = 25 := by rw [wW, List.length_mapIdx]; rfl
  have hPC : va_P D clW (wW ad1 cI cZ cA SHC M1) Hc := fun k q hk => hP k q (by rw [List.getElem?_append_left (List.getElem?_eq_some_iff.mp hk).1]; exact hk)
  have h25 : ∀ (k : Nat) (q : Nat × va_E), [((q7, .inr (7, [.null, .null, .int 0, .int 0, .null, .null, .null, .null, .int 0])) : Nat × va_E)][k]? = some q → (wW ad1 cI cZ cA SHC M1 ++ [((q7, .inr (7, [.null, .null, .int 0, .int 0, .null, .null, .null, .null, .int 0])) : Nat × va_E)])[25 + k]? = some q := fun k q hk => by
    rw [List.getElem?_append_right (by omega), hlen, Nat.add_sub_cancel_left]
    exact hk
  have hP7 : va_P D clW [(q7, .inr (7, [.null, .null, .int 0, .int 0, .null, .null, .null, .null, .int 0]))] Hc := fun k q hk => hP (25 + k) q (h25 k q hk)
  have hD7 : va_D (lA s) [(q7, .inr (7, [.null, .null, .int 0, .int 0, .null, .null, .null, .null, .int 0]))] := ⟨fun i j p q h1 h2 _ => by
    have a1 : i < 1 := (List.getElem?_eq_some_iff.mp h1).1
    have a2 : j < 1 := (List.getElem?_eq_some_iff.mp h2).1
    omega, fun k q hk => hD.2 (25 + k) q (h25 k q hk)⟩
  have hne : ∀ i, i < SHC.length → ad1 i ≠ q7 := fun i h1 z => by
    obtain ⟨sh, hsh⟩ : ∃ sh, SHC[i]? = some sh := ⟨_, List.getElem?_eq_getElem h1⟩
    have hg := wW_get (ad := ad1) (cI := cI) (cZ := cZ) (cA := cA) (M := M1) hsh
    have hg2 : (wW ad1 cI cZ cA SHC M1 ++ [((q7, .inr (7, [.null, .null, .int 0, .int 0, .null, .null, .null, .null, .int 0])) : Nat × va_E)])[i]? = some (ad1 i, wE ad1 cI cZ cA M1 i sh) := by
      rw [List.getElem?_append_left (List.getElem?_eq_some_iff.mp hg).1]
      exact hg
    have h9 := hD.1 i (25 + 0) _ _ hg2 (h25 0 _ rfl) z
    have h8 : i < 25 := h1
    omega
  have hlt : ∀ i, i < SHC.length → ad1 i < Hc.size := fun i h1 => by
    obtain ⟨sh, hsh⟩ : ∃ sh, SHC[i]? = some sh := ⟨_, List.getElem?_eq_getElem h1⟩
    exact (hPC i _ (wW_get hsh)).lt
  have hF7 := va_free (wc := [(q7, .inr (7, [.null, .null, .int 0, .int 0, .null, .null, .null, .null, .int 0]))]) hD7 hS hA [0] rfl
  refine lv_dup hx hb dl_11 rfl ?_
  refine va_callv (va_runI (As := []) (rest := [.ref q7]) ⟨hx, hb, hml, hown, hts⟩ (k_X7_init l D cI cZ cA q7 Hc.size tS tH) (cwI 0 hts (good_law cw_X7_init) rfl rfl rfl (hts _ (tbl_sub _ (wTbl_1 8 (by rfl) (by decide +kernel)))) (hts _ (tbl_sub _ (wTbl_3 215 (by rfl) (by decide +kernel)))) (hts _ (tbl_sub _ (wTbl_3 216 (by rfl) (by decide +kernel)))) rfl (by decide +kernel) ⟨Nat.le_of_ble_eq_true rfl, Nat.le_of_ble_eq_true rfl⟩) ⟨kPre2_blind, fun U hU hW => ⟨rfl, ⟨by rw [hU], by rw [hU]; exact hP7, va_K.moved hW.alike hK, hD7.weaken (fun _ _ _ _ => trivial), over_moved hW.alike hAO⟩, wT2_mono hF7 (wT2_moved hT2 hS hU hW), fun q hq => va_Nw.warmM hW (hNI q hq)⟩⟩ rfl rfl hl.1 rfl (lv_room (Nat.le_of_ble_eq_true rfl)) dl_12 ⟨Nat.le_of_ble_eq_true rfl, Nat.le_of_ble_eq_true rfl⟩) hS (fun q _ h => hF7 q h) hF7 (fun u t Hd locs ht hvm h5 hB hz1 hk1 hS => ?_)
  obtain ⟨ad2, M2, e20, e21, e22, hi2, hw2, hM, hP2⟩ := hB
  rw [ht] at hP2
  have hap : ∀ i, i < SHC.length → ¬ va_A [(q7, .inr (7, [.null, .null, .int 0, .int 0, .null, .null, .null, .null, .int 0]))] Hc.size (ad1 i) := fun i h1 z => by
    rcases z with ⟨k, e, h4⟩ | h4
    · have a1 : k < 1 := (List.getElem?_eq_some_iff.mp h4).1
      have a2 : k = 0 := by omega
      subst a2
      cases h4
      exact hne i h1 rfl
    · exact absurd (hlt i h1) (Nat.not_lt.mpr h4)
  have hdis : ∀ i j, i < SHC.length → j < SHM.length → ad1 i ≠ ad2 j := fun i j h1 h2 z => hap i h1 (by rw [z]; exact hw2 _ ⟨j, h2, rfl⟩)
  have hPC2 : va_P D clW (wW ad1 cI cZ cA SHC M1) Hd := hPC.kept (fun k x hx => by
    obtain ⟨sh, h1, rfl⟩ := wW_get' hx
    have h2 := (List.getElem?_eq_some_iff.mp h1).1
    exact hk1 _ (hlt k h2) (hap k h2))
  refine lv_astore_n (lv' := [(2, .ref q7), (1, .ref q6), (0, .ref b)]) hx hb dl_15 rfl hl (by decide) rfl (fun ls hl => ?_)
  refine lv_iconst (v := i3 ((0 : Nat) : Int)) hx hb dl_16 rfl ?_
  refine lv_istore_n (lv' := [(3, .int (i3 ((0 : Nat) : Int))), (2, .ref q7), (1, .ref q6), (0, .ref b)]) hx hb dl_17 rfl hl (by decide) rfl (fun ls hl => ?_)
  refine W.widen (k := 32) (n := 2260) (Nat.le_of_ble_eq_true rfl) (Nat.le_of_ble_eq_true rfl) ?_
  exact law_loop ⟨C0, hK, by rw [e11, e12]; exact hT2, by rw [e21, e22]; exact hT2, hi1, hi2, fun q h => hF6 q (hw1 q h), fun q h => hF7 q (hw2 q h), hdis⟩ hL (L + 1) 0 (Nat.zero_le _) (by omega) M1 M2 (0, 4, []) [] Hd locs ls hC hM hPC2 hP2 hS (by rw [e10, e20]; exact hl)
-- ===== YOUR PART ENDS =====
set_option maxHeartbeats 4000000 in
theorem lw_walk (l : Launch) (hflags : l.flags = flags0) (b : Addr) (xs : List Int32) : MetFree l x (headSpec (Jvm.Cond.code x code maxLocals ret :: tables_1) room_1) (lw_P b xs) (fun _ _ _ _ _ => True) lw_Q := by
  refine MetFree.of_bodyS (code := code) (maxLocals := maxLocals) (ret := ret) (by decide) ?_ ?_
  · intro args s m h hn
    obtain ⟨meth, c, h1, h2, h3, h4, h5, h6, -, -⟩ := Cond.code_spec hn (atoms_spec (ws := Jvm.Cond.code x code maxLocals ret :: tables_1) h _ List.mem_cons_self)
    exact ⟨meth, c, h1, h2, h3, h4, h5, h6⟩
  · intro p e s m args below meth c s₁ B hml0 hP _
    obtain ⟨rfl, hx, hbd, hgv⟩ := hP
    obtain ⟨scr, harrAt, hlist, hof, hsmall⟩ := hx
    obtain ⟨hcb, hkn, -, -⟩ := State.arrayAt?_spec harrAt
    have hown : s.vm.findClass R_law = some m.cls := findClass_of_methodNamed B.named
    have hts0 : ∀ c ∈ (Jvm.Cond.code x code maxLocals ret :: tables_1), c.before #[Value.ref b] s = true := atoms_spec (ws := Jvm.Cond.code x code maxLocals ret :: tables_1) B.pre
    have hts : ∀ w ∈ lw_tbl, w.before #[Value.ref b] s = true := k2_hts_sels lw_privs (fun w hw => hts0 w (List.mem_cons_of_mem _ hw)) lw_privs_ok
    have hml : c.maxLocals = 4 := B.maxLocals_eq (hts0 _ List.mem_cons_self)
    have X₀ : Stand p l e room_1 s m #[Value.ref b] below meth c s₁ [] 0 0 := Stand.of_body B
    have hh0 : s₁.heap = s.heap := by rw [B.state]; rfl
    have hsz : scr.slots.size = xs.length := by rw [← Array.length_toList, hlist, List.length_map]
    have hval : ∀ j : Nat, j < xs.length → scr.slots[j]? = some (.int (xs.getD j 0)) := fun j hj => by
      rw [← Array.getElem?_toList, hlist]
      simp [hj]
    have hbl : b < s.heap.size := (Array.getElem?_eq_some_iff.mp hcb).1
    have hX : va_X b xs.length (fun j => xs.getD j 0) s s.heap := ⟨scr, hcb, hof, hkn, hsz, hval⟩
    have K : W p l e room_1 s m #[Value.ref b] below meth c s₁.heap [] 0 0 (lw_Z below #[Value.ref b] s) (entryFrame m ([Value.ref b] : List Value).toArray 4) := by
      rw [hh0]
      exact whole_start l hflags hbd ⟨B.exec, B.bytes, B.returns, hml, hown, hts, hX, hbl, B.notSynchronized, hgv⟩
    obtain ⟨t, a1, o, b1, b2, b3⟩ := K s₁ rfl X₀
    exact ⟨t, o, a1, b1, b2, b3⟩
theorem lw_pre_spec {args : Array Value} {s : State} (h : (Jvm.Cond.and given_1 narrow_1).before args s = true) (hr : rest_1_c.before args s = true) : ∃ (b : Addr) (xs : List Int32), lw_P b xs args s := by
  have hs := flat_of_before _ h
  have hq := flat_of_before _ hr
  have hc : (Cond.count 1).before args s = true := hs _ (by decide +kernel)
  have harr : (Cond.arrayOf (.arg 0) .int).before args s = true := hs _ (by decide +kernel)
  have hle : (Cond.le (.length (.arg 0)) (.int 2560)).before args s = true := hs _ (by decide +kernel)
  have hlen : (Cond.isInt (.length (.arg 0))).before args s = true := hq _ (by decide +kernel)
  have hall : (Cond.all (.arg 0) (.isInt (.elem (.arg 0) (.index 0)))).before args s = true := hq _ (by decide +kernel)
  obtain ⟨b, xs, hb, hx⟩ := State.ints_of_pre rfl harr hlen hall
  have hsm : xs.length < 2 ^ 31 := hx.choose_spec.2.2.2
  have hev : (Term.length (.arg 0)).eval args s none [] s = some (.int xs.length.toInt32) := hx.length_eval hb
  have hv := Cond.le_ints hev (show (Term.int 2560).eval args s none [] s = some (.int 2560) from rfl)
  have hd : xs.length.toInt32 ≤ 2560 := by
    simpa [Cond.before, Cond.holds, hv] using hle
  have hN : xs.length ≤ 2560 := (Int32.ofNat_le_ofNat hsm (by decide)).mp (show Int32.ofNat xs.length ≤ Int32.ofNat 2560 from hd)
  exact ⟨b, xs, Cond.one_arg hc (show args[0]? = some (.ref b) from hb), hx, hN, h⟩
theorem lw_comes (l : Launch) (hflags : l.flags = flags0) : Comes l x (Jvm.Cond.code x code maxLocals ret :: tables_1) room_1 (fun tb e args s => Calls_1 tb e args s ∧ rest_1 tb e args s ∧ Pre_1 tb e args s)
    (fun _ _ args s o t => lw_Q args s o t) := by
  intro p e ha hc hk s m args below hf hfit hheap happ hpre
  obtain ⟨b, xs, hP⟩ := lw_pre_spec hpre.2.2 hpre.2.1
  obtain ⟨k, o, h1, h2, h3, hQ⟩ := lw_walk l hflags b xs p e ha hc hk s m args below hf ((Spec.applies_iff_loose hf).mp happ).1 hP trivial
  exact ⟨k, o, h1, h2, h3, hQ⟩
theorem lw_frame {s t : State} {o : Outcome} {args : Array Value} (h : Framed s o t [] 600000 7302250) :
    Framed s o t (fieldLocs frame_1_writes args s ++ arrayLocs frame_1_arrays args s ++ staticLocs frame_1_statics s) 600000 7302250 := h
theorem lw_limb (L : Cond) (hL : ∀ (args : Array Value) (s t : State), L.after args s (.returned (some (.int 1))) t = true) :
    ArmFor flags0 classFile x code maxLocals ret World_1 tables_1 room_1 Calls_1 rest_1 Pre_1
      (fun tb e a s o t => postC L tb e a s o t ∧ Framed s o t (fieldLocs frame_1_writes a s ++ arrayLocs frame_1_arrays a s ++ staticLocs frame_1_statics s) 600000 7302250) := by
  intro l hflags _ _ p e ha hc hk s m args below hf hfit hheap happ hpre
  obtain ⟨k, o, h1, h2, h3, rfl, hF⟩ := lw_comes l hflags p e ha hc hk s m args below hf hfit hheap happ hpre
  exact ⟨k, _, h1, h2, h3, hL args s _, lw_frame hF⟩
theorem i_vc : Claimed_1_1 ∧ Claimed_1_2 := ⟨lw_limb limb_1_1 (fun args s t => by simp [limb_1_1, Cond.after, Cond.holds, Cond.value]), lw_limb limb_1_2 (fun args s t => Cond.after_iff.mpr (by
  first | (rw [show limb_1_2 = Cond.eq .result (.int 1) from rfl, Cond.eq_ints (x := 1) (y := 1) rfl rfl]; simp; done) | (simp [limb_1_2, Cond.value, Term.eval]; done)))⟩
