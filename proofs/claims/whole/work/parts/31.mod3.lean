/-! THE MODEL: makeParts -/
theorem j_V5v {SH : List Shp} {mi mj : MI} {pc : Nat} {L : List (Option PV)} {st : List PV} {M : Mem} {Q : Option PV → Mem → Prop} {idx ci r len : Nat} {refs : List (Option Nat)} {a0 a1 a2 a3 a4 : PV} {P : Mem → Prop} (hd : decode mi.2.1 pc = .ok (.invokevirtual idx, 3)) (hok : mOK mj) (hw : vOK mi.1.cls idx 5 mj) (hc : cOK ci mj) (hs : SH[r]? = some (ci + 3, len, refs)) (h1 : J SH mj 0 (ent [vR r, a0, a1, a2, a3, a4] mj.2.2.1) [] M (pv P)) (k : ∀ M1, P M1 → J SH mi (pc + 3) L st M1 Q) (hlev : mj.2.2.2.2 < mi.2.2.2.2 := by decide) (hnl : noLongs [a0, a1, a2, a3, a4] = true := by rfl) (hnL : 6 ≤ mj.2.2.1 := by decide) (hr4 : st.length ≤ 4 := by first | decide | (simp; done)) : J SH mi pc L (a4 :: a3 :: a2 :: a1 :: a0 :: vR r :: st) M Q := j_V (As := [a0, a1, a2, a3, a4]) hd hok hw hlev hc hs rfl hnl hnL hr4 rfl h1 (fun v M1 q => by obtain ⟨rfl, q⟩ := q; exact k M1 q)
theorem nopF_congr {E F : Int → Int → Int} {i j : Int} : ∀ N : Nat, (∀ q : Int, 0 ≤ q → q ≤ 3 → E i q = F i q) → (∀ q : Int, 0 ≤ q → q ≤ 3 → E j q = F j q) → (∀ p q : Int, 0 ≤ p → p < N → 0 ≤ q → q ≤ 3 → E p q = F p q) → nopF E i j N = nopF F i j N
  | 0, _, _, _ => rfl
  | N + 1, h1, h2, h3 => by
    have ih := nopF_congr N h1 h2 (fun p q a b => h3 p q a (by omega))
    have em : mtb E i j N = mtb F i j N := by
      unfold mtb
      rw [h1 0 (by omega) (by omega), h1 1 (by omega) (by omega), h1 2 (by omega) (by omega), h1 3 (by omega) (by omega), h2 0 (by omega) (by omega), h2 1 (by omega) (by omega), h2 2 (by omega) (by omega), h2 3 (by omega) (by omega), h3 N 0 (by omega) (by omega) (by omega) (by omega), h3 N 1 (by omega) (by omega) (by omega) (by omega), h3 N 2 (by omega) (by omega) (by omega) (by omega), h3 N 3 (by omega) (by omega) (by omega) (by omega)]
    simp only [nopF, em, ih]
theorem EnT_b {M : Mem} {k t : Int} (h : EnT M k t) : ∀ q : Int, 0 ≤ q → q < 4 * t → -1 ≤ M 3 q ∧ M 3 q ≤ 1 := fun q a b => by
  have h9 := h (q / 4) (q % 4) (by omega) (by omega) (by omega) (by omega)
  rw [show 4 * (q / 4) + q % 4 = q by omega] at h9
  rw [h9]; exact en_b _ _ _
theorem EnT_prod {M M1 : Mem} {k a b p : Int} (h : EnT M k p) (ha : 0 ≤ a ∧ a < p) (hb : 0 ≤ b ∧ b < p) (hm : mtc (en k) a b p) (hp0 : 0 ≤ p) (hj : ∀ j : Int, ¬ (4 * p ≤ j ∧ j < 4 * p + 4) → M1 3 j = M 3 j)
    (h0 : M1 3 (4 * p + 0) = M 3 (4 * a + 0) * M 3 (4 * b + 0) + M 3 (4 * a + 1) * M 3 (4 * b + 2)) (h1 : M1 3 (4 * p + 1) = M 3 (4 * a + 0) * M 3 (4 * b + 1) + M 3 (4 * a + 1) * M 3 (4 * b + 3)) (h2 : M1 3 (4 * p + 2) = M 3 (4 * a + 2) * M 3 (4 * b + 0) + M 3 (4 * a + 3) * M 3 (4 * b + 2)) (h3 : M1 3 (4 * p + 3) = M 3 (4 * a + 2) * M 3 (4 * b + 1) + M 3 (4 * a + 3) * M 3 (4 * b + 3)) : EnT M1 k (p + 1) := by
  obtain ⟨m0, m1, m2, m3⟩ := hm
  have ea : ∀ q : Int, 0 ≤ q → q ≤ 3 → M 3 (4 * a + q) = en k a q := fun q x y => h a q ha.1 ha.2 x y
  have eb : ∀ q : Int, 0 ≤ q → q ≤ 3 → M 3 (4 * b + q) = en k b q := fun q x y => h b q hb.1 hb.2 x y
  rw [ea 0 (by omega) (by omega), ea 1 (by omega) (by omega), eb 0 (by omega) (by omega), eb 2 (by omega) (by omega)] at h0
  rw [ea 0 (by omega) (by omega), ea 1 (by omega) (by omega), eb 1 (by omega) (by omega), eb 3 (by omega) (by omega)] at h1
  rw [ea 2 (by omega) (by omega), ea 3 (by omega) (by omega), eb 0 (by omega) (by omega), eb 2 (by omega) (by omega)] at h2
  rw [ea 2 (by omega) (by omega), ea 3 (by omega) (by omega), eb 1 (by omega) (by omega), eb 3 (by omega) (by omega)] at h3
  exact EnT_put h hp0 hj (h0.trans m0.symm) (h1.trans m1.symm) (h2.trans m2.symm) (h3.trans m3.symm)

theorem l_mk1 {k sq : Int} {Q : Option PV → Mem → Prop} (hk : k = 0 ∨ k = 1) (m : Nat) : ∀ (p : Int) (M : Mem), 2 ≤ p → p ≤ tu k → tu k - p < m → EnT M k p → (∀ M1, fr [3] M M1 → EnT M1 k (tu k) → J SHM mi_X7_makeParts 81 [some (vR 0), some (vI sq), some (vI (tu k)), some (vI (tu k)), none] [] M1 Q) → J SHM mi_X7_makeParts 61 [some (vR 0), some (vI sq), some (vI (tu k)), some (vI p), none] [] M Q := by
  induction m with
  | zero => intro p M h0 h1 h2; omega
  | succ m ih =>
  intro p M h0 h1 h2 he K
  have ht := tu_c hk
  refine j_iload_n dX7_makeParts_61 rfl ?_
  refine j_iload_n dX7_makeParts_62 rfl ?_
  refine j_icmp_ge 81 dX7_makeParts_63 rfl (by unfold inR; omega) (by unfold inR; omega) (fun c63 => ?_) (fun c63 => ?_)
  · have hp : p = tu k := by omega
    subst hp
    exact K M fr.rf (by simpa only [show 2 * tu k = tu k + tu k by omega] using he)
  · refine j_aload_n dX7_makeParts_66 rfl ?_
    refine j_iload_n dX7_makeParts_67 rfl ?_
    refine j_iconst dX7_makeParts_68 ?_
    refine j_isub dX7_makeParts_69 ?_
    refine j_iconst dX7_makeParts_70 ?_
    refine j_iload_n dX7_makeParts_71 rfl ?_
    refine j_V3v dX7_makeParts_72 ok_X7_putProduct v_X7_44 c_X7_putProduct rfl (e_X7_putProduct (a := p - 1) (b := 1) (p := p) (by omega) (by omega) (by omega) (by omega) (by omega)) (fun M72 q72 => ?_)
    obtain ⟨f72, j72, w0, w1, w2, w3⟩ := q72
    refine j_iinc dX7_makeParts_75 rfl (by decide) (nol rfl) (by simp only [List.set_cons_zero, List.set_cons_succ]; rfl) ?_
    refine j_goto 61 dX7_makeParts_78 rfl ?_
    have h9 := EnT_prod he ⟨by omega, by omega⟩ ⟨by omega, by omega⟩ (en_pow' hk h0 (by omega)) (by omega) j72 w0 w1 w2 w3
    exact ih (p + 1) M72 (by omega) (by omega) (by omega) h9 (fun M1 f1 e1 => K M1 (f72.tr f1) e1)
theorem l_mk2 {k sq : Int} {Q : Option PV → Mem → Prop} (hk : k = 0 ∨ k = 1) (m : Nat) : ∀ (p : Int) (M : Mem), 1 ≤ p → p ≤ tu k → tu k - p < m → EnT M k (tu k + p) → (∀ M1, fr [3] M M1 → EnT M1 k (2 * tu k) → J SHM mi_X7_makeParts 144 [some (vR 0), some (vI sq), some (vI (tu k)), some (vI (tu k)), none] [] M1 Q) → J SHM mi_X7_makeParts 124 [some (vR 0), some (vI sq), some (vI (tu k)), some (vI p), none] [] M Q := by
  induction m with
  | zero => intro p M h0 h1 h2; omega
  | succ m ih =>
  intro p M h0 h1 h2 he K
  have ht := tu_c hk
  refine j_iload_n dX7_makeParts_124 rfl ?_
  refine j_iload_n dX7_makeParts_125 rfl ?_
  refine j_icmp_ge 144 dX7_makeParts_126 rfl (by unfold inR; omega) (by unfold inR; omega) (fun c126 => ?_) (fun c126 => ?_)
  · have hp : p = tu k := by omega
    subst hp
    exact K M fr.rf (by simpa only [show 2 * tu k = tu k + tu k by omega] using he)
  · refine j_aload_n dX7_makeParts_129 rfl ?_
    refine j_iload_n dX7_makeParts_130 rfl ?_
    refine j_iload_n dX7_makeParts_131 rfl ?_
    refine j_iload_n dX7_makeParts_132 rfl ?_
    refine j_iload_n dX7_makeParts_133 rfl ?_
    refine j_iadd dX7_makeParts_134 ?_
    refine j_V3v dX7_makeParts_135 ok_X7_putProduct v_X7_44 c_X7_putProduct rfl (e_X7_putProduct (a := p) (b := tu k) (p := tu k + p) (by omega) (by omega) (by omega) (by omega) (by omega)) (fun M135 q135 => ?_)
    obtain ⟨f72, j72, w0, w1, w2, w3⟩ := q135
    refine j_iinc dX7_makeParts_138 rfl (by decide) (nol rfl) (by simp only [List.set_cons_zero, List.set_cons_succ]; rfl) ?_
    refine j_goto 124 dX7_makeParts_141 rfl ?_
    have h9 := EnT_prod he ⟨by omega, by omega⟩ ⟨by omega, by omega⟩ (en_ref' hk h0 (by omega)) (by omega) j72 w0 w1 w2 w3
    have e2 : tu k + p + 1 = tu k + (p + 1) := by omega
    rw [e2] at h9
    exact ih (p + 1) M135 (by omega) (by omega) (by omega) h9 (fun M1 f1 e1 => K M1 (f72.tr f1) e1)
theorem l_mk3in {k sq i : Int} {Q : Option PV → Mem → Prop} (hk : k = 0 ∨ k = 1) (hi : 0 ≤ i ∧ i < 2 * tu k) (m : Nat) : ∀ (j : Int) (M : Mem), 0 ≤ j → j ≤ 2 * tu k → 2 * tu k - j < m → M 0 3 = 2 * tu k → EnT M k (2 * tu k) → (∀ (M1 : Mem) (w : Option PV), fr [4] M M1 → (∀ q : Int, j ≤ q → q < 2 * tu k → M1 4 (12 * i + q) = tp k i q) → (∀ z : Int, ¬ (12 * i + j ≤ z ∧ z < 12 * i + 2 * tu k) → M1 4 z = M 4 z) → J SHM mi_X7_makeParts 191 [some (vR 0), some (vI sq), some (vI (tu k)), some (vI i), w] [] M1 Q) → J SHM mi_X7_makeParts 157 [some (vR 0), some (vI sq), some (vI (tu k)), some (vI i), some (vI j)] [] M Q := by
  induction m with
  | zero => intro j M h0 h1 h2; omega
  | succ m ih =>
  intro j M h0 h1 h2 hN he K
  have ht := tu_c hk
  have hbb := EnT_b he
  have hNn : M 0 3 = ((2 * tu k).toNat : Nat) := by omega
  have hval : j < 2 * tu k → nopF (fun p q => M 3 (4 * p + q)) i j (2 * tu k).toNat = tp k i j := fun h => by
    rw [← nop_tp' hk hi ⟨h0, h⟩]
    exact nopF_congr _ (fun q a b => he i q hi.1 hi.2 a b) (fun q a b => he j q h0 h a b) (fun p q a b c d => he p q a (by omega) c d)
  refine j_iload dX7_makeParts_157 rfl ?_
  refine j_aload_n dX7_makeParts_159 rfl ?_
  refine j_getI (kz := 3) rfl dX7_makeParts_160 f_X7_36 rfl rfl ?_
  refine j_icmp_ge 191 dX7_makeParts_163 rfl (by unfold inR; omega) (by unfold inR; omega) (fun c163 => ?_) (fun c163 => ?_)
  · have hj : j = 2 * tu k := by omega
    subst hj
    exact K M _ fr.rf (fun q a b => by omega) (fun z _ => rfl)
  · refine j_aload_n dX7_makeParts_166 rfl ?_
    refine j_getR dX7_makeParts_167 f_X7_19 rfl rfl ?_
    refine j_bipush dX7_makeParts_170 (by decide +kernel) ?_
    refine j_iload_n dX7_makeParts_172 rfl ?_
    refine j_imul dX7_makeParts_173 ?_
    refine j_iload dX7_makeParts_174 rfl ?_
    refine j_iadd dX7_makeParts_176 ?_
    refine j_aload_n dX7_makeParts_177 rfl ?_
    refine j_iload_n dX7_makeParts_178 rfl ?_
    refine j_iload dX7_makeParts_179 rfl ?_
    refine j_V2p dX7_makeParts_181 ok_X7_numberOfProduct v_X7_48 c_X7_numberOfProduct rfl (e_X7_numberOfProduct (N := (2 * tu k).toNat) hNn (by omega) ⟨by omega, by omega⟩ ⟨by omega, by omega⟩ (fun q a b => hbb q a (by omega)) (fun q a b => ⟨hbb _ (by omega) (by omega), hbb _ (by omega) (by omega)⟩)) ?_
    rw [hval (by omega)]
    refine j_iast dX7_makeParts_184 (by first | rfl | assumption) (by decide) (by omega) (by omega) ?_
    refine j_iinc dX7_makeParts_185 rfl (by decide) (nol rfl) (by simp only [List.set_cons_zero, List.set_cons_succ]; rfl) ?_
    refine j_goto 157 dX7_makeParts_188 rfl ?_
    have f : fr [4] M (wr M 4 (12 * i + j) (tp k i j)) := fr.rf.w1 (by decide)
    refine ih (j + 1) (wr M 4 (12 * i + j) (tp k i j)) (by omega) (by omega) (by omega) (by rw [f 0 (by decide)]; exact hN) (by unfold EnT; rw [f 3 (by decide)]; exact he) (fun M1 w f1 g1 k1 => K M1 w (f.tr f1) (fun q a b => ?_) (fun z hz => ?_))
    · by_cases e : q = j
      · rw [e, k1 _ (by omega), wr_self]
      · exact g1 q (by omega) b
    · rw [k1 z (by omega), wr_ne _ _ (by omega)]
theorem l_mk3 {k sq : Int} (hk : k = 0 ∨ k = 1) (m : Nat) : ∀ (i : Int) (M : Mem) (w : Option PV), M 1 0 = k → 0 ≤ i → i ≤ 2 * tu k → 2 * tu k - i < m → M 0 3 = 2 * tu k → EnT M k (2 * tu k) → (∀ p q : Int, 0 ≤ p → p < i → 0 ≤ q → q < 2 * tu k → M 4 (12 * p + q) = tp k p q) → J SHM mi_X7_makeParts 146 [some (vR 0), some (vI sq), some (vI (tu k)), some (vI i), w] [] M (pv (fun M1 => fr [4] M M1 ∧ MPt M1)) := by
  induction m with
  | zero => intro i M w hk0 h0 h1 h2; omega
  | succ m ih =>
  intro i M w hk0 h0 h1 h2 hN he hp
  have ht := tu_c hk
  refine j_iload_n dX7_makeParts_146 rfl ?_
  refine j_aload_n dX7_makeParts_147 rfl ?_
  refine j_getI (kz := 3) rfl dX7_makeParts_148 f_X7_36 rfl rfl ?_
  refine j_icmp_ge 197 dX7_makeParts_151 rfl (by unfold inR; omega) (by unfold inR; omega) (fun c151 => ?_) (fun c151 => ?_)
  · refine j_vret dX7_makeParts_197 rfl ?_
    refine ⟨rfl, fr.rf, ?_⟩
    unfold MPt
    rw [hk0]
    exact ⟨hN, fun p q a b c d => he p q a b c d, fun p q a b c d => hp p q a (by omega) c d⟩
  · refine j_iconst dX7_makeParts_154 ?_
    refine j_istore dX7_makeParts_155 (by decide) (nol rfl) (by show List.set _ 4 _ = _; simp only [List.set_cons_zero, List.set_cons_succ]; rfl) ?_
    refine l_mk3in hk ⟨h0, by omega⟩ 13 0 M (by omega) (by omega) (by omega) hN he (fun M1 w f1 g1 k1 => ?_)
    refine j_iinc dX7_makeParts_191 rfl (by decide) (nol rfl) (by simp only [List.set_cons_zero, List.set_cons_succ]; rfl) ?_
    refine j_goto 146 dX7_makeParts_194 rfl ?_
    refine j_mono ?_ (ih (i + 1) M1 w (by rw [f1 1 (by decide)]; exact hk0) (by omega) (by omega) (by omega) (by rw [f1 0 (by decide)]; exact hN) (by unfold EnT; rw [f1 3 (by decide)]; exact he) (fun p q a b c d => ?_))
    · rintro v M2 ⟨rfl, f2, g2⟩
      exact ⟨rfl, f1.tr f2, g2⟩
    · by_cases e : p = i
      · rw [e]; exact g1 q (by omega) d
      · rw [k1 _ (by omega)]
        exact hp p q a (by omega) c d
theorem l_mkA0 {M : Mem} (h0 : M 1 0 = 0) : J SHM mi_X7_makeParts 0 (ent [vR 0] 5) [] M (pv (fun M1 => fr [0, 3, 4] M M1 ∧ (∀ j : Int, j ≠ 3 → M1 0 j = M 0 j) ∧ MPt M1)) := by
  have ht : tu 0 = 4 := rfl
  have hk : (0 : Int) = 0 ∨ (0 : Int) = 1 := by omega
  show J SHM mi_X7_makeParts 0 [some (vR 0), none, none, none, none] [] M _
  refine j_aload_n dX7_makeParts_0 rfl ?_
  refine j_getR dX7_makeParts_1 f_X7_7 rfl rfl ?_
  refine j_iconst dX7_makeParts_4 ?_
  refine j_iald dX7_makeParts_5 (by first | rfl | assumption) (by decide) (by omega) (by omega) ?_
  refine j_if_ne 13 dX7_makeParts_6 rfl (by first | (unfold inR; omega)) (fun c6 => ?_) (fun c6 => ?_)
  · exfalso; first | omega | (simp at c6; done)
  refine j_iconst dX7_makeParts_9 ?_
  refine j_goto 14 dX7_makeParts_10 rfl ?_
  refine j_istore_n dX7_makeParts_14 (by decide) (nol rfl) (by show List.set _ 1 _ = _; simp only [List.set_cons_zero, List.set_cons_succ]; rfl) ?_
  refine j_iload_n dX7_makeParts_15 rfl ?_
  refine j_if_eq 23 dX7_makeParts_16 rfl (by first | (unfold inR; omega)) (fun c16 => ?_) (fun c16 => ?_)
  · exfalso; first | omega | (simp at c16; done)
  refine j_iconst dX7_makeParts_19 ?_
  refine j_goto 25 dX7_makeParts_20 rfl ?_
  refine j_istore_n dX7_makeParts_25 (by decide) (nol rfl) (by show List.set _ 2 _ = _; simp only [List.set_cons_zero, List.set_cons_succ]; rfl) ?_
  refine j_aload_n dX7_makeParts_26 rfl ?_
  refine j_iconst dX7_makeParts_27 ?_
  refine j_iload_n dX7_makeParts_28 rfl ?_
  refine j_imul dX7_makeParts_29 ?_
  refine j_putI (kz := 3) rfl dX7_makeParts_30 g_X7_36 rfl rfl ?_
  refine j_aload_n dX7_makeParts_33 rfl ?_
  refine j_iconst dX7_makeParts_34 ?_
  refine j_iconst dX7_makeParts_35 ?_
  refine j_iconst dX7_makeParts_36 ?_
  refine j_iconst dX7_makeParts_37 ?_
  refine j_iconst dX7_makeParts_38 ?_
  refine j_V5v dX7_makeParts_39 ok_X7_putPart v_X7_40 c_X7_putPart rfl (e_X7_putPart (p := 0) (by omega)) (fun M39 q39 => ?_)
  obtain ⟨f39, j39, x0, x1, x2, x3⟩ := q39
  refine j_aload_n dX7_makeParts_42 rfl ?_
  refine j_iconst dX7_makeParts_43 ?_
  refine j_iconst dX7_makeParts_44 ?_
  refine j_iconst dX7_makeParts_45 ?_
  refine j_iconst dX7_makeParts_46 ?_
  refine j_iload_n dX7_makeParts_47 rfl ?_
  refine j_if_eq 55 dX7_makeParts_48 rfl (by first | (unfold inR; omega)) (fun c48 => ?_) (fun c48 => ?_)
  · exfalso; first | omega | (simp at c48; done)
  refine j_iconst dX7_makeParts_51 ?_
  refine j_goto 56 dX7_makeParts_52 rfl ?_
  refine j_V5v dX7_makeParts_56 ok_X7_putPart v_X7_40 c_X7_putPart rfl (e_X7_putPart (p := 1) (by omega)) (fun M56 q56 => ?_)
  obtain ⟨f56, j56, y0, y1, y2, y3⟩ := q56
  refine j_iconst dX7_makeParts_59 ?_
  refine j_istore_n dX7_makeParts_60 (by decide) (nol rfl) (by show List.set _ 3 _ = _; simp only [List.set_cons_zero, List.set_cons_succ]; rfl) ?_
  have E1 : EnT M39 0 1 := EnT_put (M := M) (p := 0) (fun p q a b => by omega) (by omega) j39 x0 x1 x2 x3
  have E2 : EnT M56 0 2 := EnT_put (M := M39) (p := 1) E1 (by omega) j56 y0 y1 y2 y3
  refine l_mk1 (k := 0) hk 7 2 M56 (by omega) (by omega) (by omega) E2 (fun A1 fA1 E3 => ?_)
  rw [ht] at E3
  refine j_aload_n dX7_makeParts_81 rfl ?_
  refine j_iload_n dX7_makeParts_82 rfl ?_
  refine j_iload_n dX7_makeParts_83 rfl ?_
  refine j_if_eq 91 dX7_makeParts_84 rfl (by first | (unfold inR; omega)) (fun c84 => ?_) (fun c84 => ?_)
  · exfalso; first | omega | (simp at c84; done)
  refine j_iconst dX7_makeParts_87 ?_
  refine j_goto 92 dX7_makeParts_88 rfl ?_
  refine j_iload_n dX7_makeParts_92 rfl ?_
  refine j_if_eq 100 dX7_makeParts_93 rfl (by first | (unfold inR; omega)) (fun c93 => ?_) (fun c93 => ?_)
  · exfalso; first | omega | (simp at c93; done)
  refine j_iconst dX7_makeParts_96 ?_
  refine j_goto 101 dX7_makeParts_97 rfl ?_
  refine j_iload_n dX7_makeParts_101 rfl ?_
  refine j_if_eq 109 dX7_makeParts_102 rfl (by first | (unfold inR; omega)) (fun c102 => ?_) (fun c102 => ?_)
  · exfalso; first | omega | (simp at c102; done)
  refine j_iconst dX7_makeParts_105 ?_
  refine j_goto 110 dX7_makeParts_106 rfl ?_
  refine j_iload_n dX7_makeParts_110 rfl ?_
  refine j_if_eq 118 dX7_makeParts_111 rfl (by first | (unfold inR; omega)) (fun c111 => ?_) (fun c111 => ?_)
  · exfalso; first | omega | (simp at c111; done)
  refine j_iconst dX7_makeParts_114 ?_
  refine j_goto 119 dX7_makeParts_115 rfl ?_
  refine j_V5v dX7_makeParts_119 ok_X7_putPart v_X7_40 c_X7_putPart rfl (e_X7_putPart (p := 4) (by omega)) (fun M119 q119 => ?_)
  obtain ⟨f119, j119, z0, z1, z2, z3⟩ := q119
  refine j_iconst dX7_makeParts_122 ?_
  refine j_istore_n dX7_makeParts_123 (by decide) (nol rfl) (by show List.set _ 3 _ = _; simp only [List.set_cons_zero, List.set_cons_succ]; rfl) ?_
  have E4 : EnT M119 0 (4 + 1) := EnT_put (M := A1) (p := 4) E3 (by omega) j119 z0 z1 z2 z3
  refine l_mk2 (k := 0) hk 7 1 M119 (by omega) (by omega) (by omega) E4 (fun A2 fA2 E5 => ?_)
  refine j_iconst dX7_makeParts_144 ?_
  refine j_istore_n dX7_makeParts_145 (by decide) (nol rfl) (by show List.set _ 3 _ = _; simp only [List.set_cons_zero, List.set_cons_succ]; rfl) ?_
  have fT : fr [3] (wr M 0 3 (2 * 4)) A2 := ((((f39.tr f56).tr fA1).tr f119).tr fA2)
  have fT0 := fT 0 (by decide)
  refine j_mono ?_ (l_mk3 (k := 0) hk 13 0 A2 none (by rw [fT 1 (by decide), wr_ne _ _ (by omega)]; exact h0) (by omega) (by omega) (by omega) (by rw [fT0, wr_self]; rfl) E5 (fun p q a b => by omega))
  rintro v M2 ⟨rfl, f2, g2⟩
  refine ⟨rfl, ((fr.rf.w1 (by decide)).tr (fT.up (by decide))).tr (f2.up (by decide)), fun j hj => ?_, g2⟩
  rw [f2 0 (by decide), fT0, wr_ne _ _ (fun z => hj z.2)]
theorem l_mkA1 {M : Mem} (h0 : M 1 0 = 1) : J SHM mi_X7_makeParts 0 (ent [vR 0] 5) [] M (pv (fun M1 => fr [0, 3, 4] M M1 ∧ (∀ j : Int, j ≠ 3 → M1 0 j = M 0 j) ∧ MPt M1)) := by
  have ht : tu 1 = 6 := rfl
  have hk : (1 : Int) = 0 ∨ (1 : Int) = 1 := by omega
  show J SHM mi_X7_makeParts 0 [some (vR 0), none, none, none, none] [] M _
  refine j_aload_n dX7_makeParts_0 rfl ?_
  refine j_getR dX7_makeParts_1 f_X7_7 rfl rfl ?_
  refine j_iconst dX7_makeParts_4 ?_
  refine j_iald dX7_makeParts_5 (by first | rfl | assumption) (by decide) (by omega) (by omega) ?_
  refine j_if_ne 13 dX7_makeParts_6 rfl (by first | (unfold inR; omega)) (fun c6 => ?_) (fun c6 => ?_)
  rotate_left
  · exfalso; first | omega | (simp at c6; done)
  refine j_iconst dX7_makeParts_13 ?_
  refine j_istore_n dX7_makeParts_14 (by decide) (nol rfl) (by show List.set _ 1 _ = _; simp only [List.set_cons_zero, List.set_cons_succ]; rfl) ?_
  refine j_iload_n dX7_makeParts_15 rfl ?_
  refine j_if_eq 23 dX7_makeParts_16 rfl (by first | (unfold inR; omega)) (fun c16 => ?_) (fun c16 => ?_)
  rotate_left
  · exfalso; first | omega | (simp at c16; done)
  refine j_bipush dX7_makeParts_23 (by decide +kernel) ?_
  refine j_istore_n dX7_makeParts_25 (by decide) (nol rfl) (by show List.set _ 2 _ = _; simp only [List.set_cons_zero, List.set_cons_succ]; rfl) ?_
  refine j_aload_n dX7_makeParts_26 rfl ?_
  refine j_iconst dX7_makeParts_27 ?_
  refine j_iload_n dX7_makeParts_28 rfl ?_
  refine j_imul dX7_makeParts_29 ?_
  refine j_putI (kz := 3) rfl dX7_makeParts_30 g_X7_36 rfl rfl ?_
  refine j_aload_n dX7_makeParts_33 rfl ?_
  refine j_iconst dX7_makeParts_34 ?_
  refine j_iconst dX7_makeParts_35 ?_
  refine j_iconst dX7_makeParts_36 ?_
  refine j_iconst dX7_makeParts_37 ?_
  refine j_iconst dX7_makeParts_38 ?_
  refine j_V5v dX7_makeParts_39 ok_X7_putPart v_X7_40 c_X7_putPart rfl (e_X7_putPart (p := 0) (by omega)) (fun M39 q39 => ?_)
  obtain ⟨f39, j39, x0, x1, x2, x3⟩ := q39
  refine j_aload_n dX7_makeParts_42 rfl ?_
  refine j_iconst dX7_makeParts_43 ?_
  refine j_iconst dX7_makeParts_44 ?_
  refine j_iconst dX7_makeParts_45 ?_
  refine j_iconst dX7_makeParts_46 ?_
  refine j_iload_n dX7_makeParts_47 rfl ?_
  refine j_if_eq 55 dX7_makeParts_48 rfl (by first | (unfold inR; omega)) (fun c48 => ?_) (fun c48 => ?_)
  rotate_left
  · exfalso; first | omega | (simp at c48; done)
  refine j_iconst dX7_makeParts_55 ?_
  refine j_V5v dX7_makeParts_56 ok_X7_putPart v_X7_40 c_X7_putPart rfl (e_X7_putPart (p := 1) (by omega)) (fun M56 q56 => ?_)
  obtain ⟨f56, j56, y0, y1, y2, y3⟩ := q56
  refine j_iconst dX7_makeParts_59 ?_
  refine j_istore_n dX7_makeParts_60 (by decide) (nol rfl) (by show List.set _ 3 _ = _; simp only [List.set_cons_zero, List.set_cons_succ]; rfl) ?_
  have E1 : EnT M39 1 1 := EnT_put (M := M) (p := 0) (fun p q a b => by omega) (by omega) j39 x0 x1 x2 x3
  have E2 : EnT M56 1 2 := EnT_put (M := M39) (p := 1) E1 (by omega) j56 y0 y1 y2 y3
  refine l_mk1 (k := 1) hk 7 2 M56 (by omega) (by omega) (by omega) E2 (fun A1 fA1 E3 => ?_)
  rw [ht] at E3
  refine j_aload_n dX7_makeParts_81 rfl ?_
  refine j_iload_n dX7_makeParts_82 rfl ?_
  refine j_iload_n dX7_makeParts_83 rfl ?_
  refine j_if_eq 91 dX7_makeParts_84 rfl (by first | (unfold inR; omega)) (fun c84 => ?_) (fun c84 => ?_)
  rotate_left
  · exfalso; first | omega | (simp at c84; done)
  refine j_iconst dX7_makeParts_91 ?_
  refine j_iload_n dX7_makeParts_92 rfl ?_
  refine j_if_eq 100 dX7_makeParts_93 rfl (by first | (unfold inR; omega)) (fun c93 => ?_) (fun c93 => ?_)
  rotate_left
  · exfalso; first | omega | (simp at c93; done)
  refine j_iconst dX7_makeParts_100 ?_
  refine j_iload_n dX7_makeParts_101 rfl ?_
  refine j_if_eq 109 dX7_makeParts_102 rfl (by first | (unfold inR; omega)) (fun c102 => ?_) (fun c102 => ?_)
  rotate_left
  · exfalso; first | omega | (simp at c102; done)
  refine j_iconst dX7_makeParts_109 ?_
  refine j_iload_n dX7_makeParts_110 rfl ?_
  refine j_if_eq 118 dX7_makeParts_111 rfl (by first | (unfold inR; omega)) (fun c111 => ?_) (fun c111 => ?_)
  rotate_left
  · exfalso; first | omega | (simp at c111; done)
  refine j_iconst dX7_makeParts_118 ?_
  refine j_V5v dX7_makeParts_119 ok_X7_putPart v_X7_40 c_X7_putPart rfl (e_X7_putPart (p := 6) (by omega)) (fun M119 q119 => ?_)
  obtain ⟨f119, j119, z0, z1, z2, z3⟩ := q119
  refine j_iconst dX7_makeParts_122 ?_
  refine j_istore_n dX7_makeParts_123 (by decide) (nol rfl) (by show List.set _ 3 _ = _; simp only [List.set_cons_zero, List.set_cons_succ]; rfl) ?_
  have E4 : EnT M119 1 (6 + 1) := EnT_put (M := A1) (p := 6) E3 (by omega) j119 z0 z1 z2 z3
  refine l_mk2 (k := 1) hk 7 1 M119 (by omega) (by omega) (by omega) E4 (fun A2 fA2 E5 => ?_)
  refine j_iconst dX7_makeParts_144 ?_
  refine j_istore_n dX7_makeParts_145 (by decide) (nol rfl) (by show List.set _ 3 _ = _; simp only [List.set_cons_zero, List.set_cons_succ]; rfl) ?_
  have fT : fr [3] (wr M 0 3 (2 * 6)) A2 := ((((f39.tr f56).tr fA1).tr f119).tr fA2)
  have fT0 := fT 0 (by decide)
  refine j_mono ?_ (l_mk3 (k := 1) hk 13 0 A2 none (by rw [fT 1 (by decide), wr_ne _ _ (by omega)]; exact h0) (by omega) (by omega) (by omega) (by rw [fT0, wr_self]; rfl) E5 (fun p q a b => by omega))
  rintro v M2 ⟨rfl, f2, g2⟩
  refine ⟨rfl, ((fr.rf.w1 (by decide)).tr (fT.up (by decide))).tr (f2.up (by decide)), fun j hj => ?_, g2⟩
  rw [f2 0 (by decide), fT0, wr_ne _ _ (fun z => hj z.2)]
theorem e_X7_makeParts {M : Mem} (hk : M 1 0 = 0 ∨ M 1 0 = 1) : J SHM mi_X7_makeParts 0 (ent [vR 0] 5) [] M (pv (fun M1 => fr [0, 3, 4] M M1 ∧ (∀ j : Int, j ≠ 3 → M1 0 j = M 0 j) ∧ MPt M1)) := by
  rcases hk with h | h
  · exact l_mkA0 h
  · exact l_mkA1 h
