/-! THE LAW: its cases -/
section CAS
variable {p : Program} {l : Launch} {e : Env} {s : State} {m : MethodId} {below : List Frame} {meth : Method} {c : Code} {b L : Nat} {xs : Nat → Int32} {ad1 ad2 : Nat → Nat} {D : va_G} {cI cZ cA : ClassId} {H : Heap} {locs : List Loc} {M1 M2 : Mem} {r : Row} {hs : List Row} {ls : Array Slot}
theorem law_c0 (hX : LX p s m meth c b L xs ad1 ad2 D cI cZ cA) (hL : L ≤ 2560) {i : Nat} (hi : i + 5 ≤ L) (hC : CI M1 r hs) (hM : MS M2 r hs) (hP1 : va_P D clW (wW ad1 cI cZ cA SHC M1) H) (hP2 : va_P D clW (wW ad2 cI cZ cA SHM M2) H) (hS : va_S (lA s) s.heap H locs) (hl : lv_has ls 4 [(3, .int (i3 i)), (2, .ref (ad2 0)), (1, .ref (ad1 0)), (0, .ref b)]) (hend : ∀ (M1 M2 : Mem) (r : Row) (hs : List Row) (H : Heap) (locs : List Loc), CI M1 r hs → MS M2 r hs → va_P D clW (wW ad1 cI cZ cA SHC M1) H → va_P D clW (wW ad2 cI cZ cA SHM M2) H → va_S (lA s) s.heap H locs → W p l e room_1 s m #[Value.ref b] below meth c H locs 32 2260 (lw_Z below #[Value.ref b] s) (F0 m 769 ls [])) : W p l e room_1 s m #[Value.ref b] below meth c H locs 32 2260 (lw_Z below #[Value.ref b] s) (F0 m 156 ls []) := by
  obtain ⟨hx, hb, hr, hml, hown, hts, hXX, hbl, hlocks, hgv⟩ := id hX.1
  refine lv_aload_n hx hb dl_156 rfl (lv_at hl 2 rfl) ?_
  refine ld hX.1 hL 1 (by omega) hS hl dl_157 dl_158 dl_159 dl_160 dl_161 ?_
  refine ld hX.1 hL 2 (by omega) hS hl dl_162 dl_163 dl_164 dl_165 dl_166 ?_
  refine lw_Ci hX hP1 hP2 hS hl.1 (mj := mi_X6_setLattice) (rest := []) [vI (xs (i + 1)).toInt, vI (xs (i + 2)).toInt] dl_167 ok_X6_setLattice vL_13 c_X6_setLattice rfl rfl (by decide) ⟨by decide, by decide⟩ (by decide) (by simp [rv, i3_of]) ⟨Nat.le_of_ble_eq_true rfl, Nat.le_of_ble_eq_true rfl⟩ (cl_setLattice hC (inR_of _) (inR_of _)) (fun z1 r1 hs1 N1 H locs a1 hC1 hP1 hP2 hS => ?_)
  refine lv_aload_n hx hb dl_170 rfl (lv_at hl 1 rfl) ?_
  refine ld hX.1 hL 1 (by omega) hS hl dl_171 dl_172 dl_173 dl_174 dl_175 ?_
  refine ld hX.1 hL 2 (by omega) hS hl dl_176 dl_177 dl_178 dl_179 dl_180 ?_
  refine lw_Mi hX hP1 hP2 hS hl.1 (mj := mi_X7_setLattice) (rest := [.int (i3 z1)]) [vI (xs (i + 1)).toInt, vI (xs (i + 2)).toInt] dl_181 ok_X7_setLattice vL_17 c_X7_setLattice rfl rfl (by decide) ⟨by decide, by decide⟩ (by simp [Value.category]) (by simp [rv, i3_of]) ⟨Nat.le_of_ble_eq_true rfl, Nat.le_of_ble_eq_true rfl⟩ (ml_setLattice hM (inR_of _) (inR_of _)) (fun z2 r2 hs2 N2 H locs a2 hM1 hP2 hP1 hS => ?_)
  obtain ⟨rfl, rfl, rfl⟩ := fn_setLattice _ _ _ _ _ _ a1 a2
  exact lv_icmp_eq (tgt := 769) hx hb dl_184 (by decide) (fun _ => hend _ _ _ _ _ _ hC1 hM1 hP1 hP2 hS) (fun cc => absurd rfl cc)
theorem law_c1 (hX : LX p s m meth c b L xs ad1 ad2 D cI cZ cA) (hL : L ≤ 2560) {i : Nat} (hi : i + 5 ≤ L) (hC : CI M1 r hs) (hM : MS M2 r hs) (hP1 : va_P D clW (wW ad1 cI cZ cA SHC M1) H) (hP2 : va_P D clW (wW ad2 cI cZ cA SHM M2) H) (hS : va_S (lA s) s.heap H locs) (hl : lv_has ls 4 [(3, .int (i3 i)), (2, .ref (ad2 0)), (1, .ref (ad1 0)), (0, .ref b)]) (hend : ∀ (M1 M2 : Mem) (r : Row) (hs : List Row) (H : Heap) (locs : List Loc), CI M1 r hs → MS M2 r hs → va_P D clW (wW ad1 cI cZ cA SHC M1) H → va_P D clW (wW ad2 cI cZ cA SHM M2) H → va_S (lA s) s.heap H locs → W p l e room_1 s m #[Value.ref b] below meth c H locs 32 2260 (lw_Z below #[Value.ref b] s) (F0 m 769 ls [])) : W p l e room_1 s m #[Value.ref b] below meth c H locs 32 2260 (lw_Z below #[Value.ref b] s) (F0 m 189 ls []) := by
  obtain ⟨hx, hb, hr, hml, hown, hts, hXX, hbl, hlocks, hgv⟩ := id hX.1
  refine lv_aload_n hx hb dl_189 rfl (lv_at hl 2 rfl) ?_
  refine ld hX.1 hL 1 (by omega) hS hl dl_190 dl_191 dl_192 dl_193 dl_194 ?_
  refine ld hX.1 hL 2 (by omega) hS hl dl_195 dl_196 dl_197 dl_198 dl_199 ?_
  refine ld hX.1 hL 3 (by omega) hS hl dl_200 dl_201 dl_202 dl_203 dl_204 ?_
  refine lw_Ci hX hP1 hP2 hS hl.1 (mj := mi_X6_addGenerator) (rest := []) [vI (xs (i + 1)).toInt, vI (xs (i + 2)).toInt, vI (xs (i + 3)).toInt] dl_205 ok_X6_addGenerator vL_18 c_X6_addGenerator rfl rfl (by decide) ⟨by decide, by decide⟩ (by decide) (by simp [rv, i3_of]) ⟨Nat.le_of_ble_eq_true rfl, Nat.le_of_ble_eq_true rfl⟩ (cl_addGenerator hC (inR_of _) (inR_of _) (inR_of _)) (fun z1 r1 hs1 N1 H locs a1 hC1 hP1 hP2 hS => ?_)
  refine lv_aload_n hx hb dl_208 rfl (lv_at hl 1 rfl) ?_
  refine ld hX.1 hL 1 (by omega) hS hl dl_209 dl_210 dl_211 dl_212 dl_213 ?_
  refine ld hX.1 hL 2 (by omega) hS hl dl_214 dl_215 dl_216 dl_217 dl_218 ?_
  refine ld hX.1 hL 3 (by omega) hS hl dl_219 dl_220 dl_221 dl_222 dl_223 ?_
  refine lw_Mi hX hP1 hP2 hS hl.1 (mj := mi_X7_addGenerator) (rest := [.int (i3 z1)]) [vI (xs (i + 1)).toInt, vI (xs (i + 2)).toInt, vI (xs (i + 3)).toInt] dl_224 ok_X7_addGenerator vL_22 c_X7_addGenerator rfl rfl (by decide) ⟨by decide, by decide⟩ (by simp [Value.category]) (by simp [rv, i3_of]) ⟨Nat.le_of_ble_eq_true rfl, Nat.le_of_ble_eq_true rfl⟩ (ml_addGenerator hM (inR_of _) (inR_of _) (inR_of _)) (fun z2 r2 hs2 N2 H locs a2 hM1 hP2 hP1 hS => ?_)
  obtain ⟨rfl, rfl, rfl⟩ := fn_addGenerator _ _ _ _ _ _ a1 a2
  exact lv_icmp_eq (tgt := 769) hx hb dl_227 (by decide) (fun _ => hend _ _ _ _ _ _ hC1 hM1 hP1 hP2 hS) (fun cc => absurd rfl cc)
theorem law_c2 (hX : LX p s m meth c b L xs ad1 ad2 D cI cZ cA) (hL : L ≤ 2560) {i : Nat} (hi : i + 5 ≤ L) (hC : CI M1 r hs) (hM : MS M2 r hs) (hP1 : va_P D clW (wW ad1 cI cZ cA SHC M1) H) (hP2 : va_P D clW (wW ad2 cI cZ cA SHM M2) H) (hS : va_S (lA s) s.heap H locs) (hl : lv_has ls 4 [(3, .int (i3 i)), (2, .ref (ad2 0)), (1, .ref (ad1 0)), (0, .ref b)]) (hend : ∀ (M1 M2 : Mem) (r : Row) (hs : List Row) (H : Heap) (locs : List Loc), CI M1 r hs → MS M2 r hs → va_P D clW (wW ad1 cI cZ cA SHC M1) H → va_P D clW (wW ad2 cI cZ cA SHM M2) H → va_S (lA s) s.heap H locs → W p l e room_1 s m #[Value.ref b] below meth c H locs 32 2260 (lw_Z below #[Value.ref b] s) (F0 m 769 ls [])) : W p l e room_1 s m #[Value.ref b] below meth c H locs 32 2260 (lw_Z below #[Value.ref b] s) (F0 m 232 ls []) := by
  obtain ⟨hx, hb, hr, hml, hown, hts, hXX, hbl, hlocks, hgv⟩ := id hX.1
  refine lv_aload_n hx hb dl_232 rfl (lv_at hl 2 rfl) ?_
  refine ld hX.1 hL 1 (by omega) hS hl dl_233 dl_234 dl_235 dl_236 dl_237 ?_
  refine lw_Ci hX hP1 hP2 hS hl.1 (mj := mi_X6_removeGenerator) (rest := []) [vI (xs (i + 1)).toInt] dl_238 ok_X6_removeGenerator vL_23 c_X6_removeGenerator rfl rfl (by decide) ⟨by decide, by decide⟩ (by decide) (by simp [rv, i3_of]) ⟨Nat.le_of_ble_eq_true rfl, Nat.le_of_ble_eq_true rfl⟩ (cl_removeGenerator hC (inR_of _)) (fun z1 r1 hs1 N1 H locs a1 hC1 hP1 hP2 hS => ?_)
  refine lv_aload_n hx hb dl_241 rfl (lv_at hl 1 rfl) ?_
  refine ld hX.1 hL 1 (by omega) hS hl dl_242 dl_243 dl_244 dl_245 dl_246 ?_
  refine lw_Mi hX hP1 hP2 hS hl.1 (mj := mi_X7_removeGenerator) (rest := [.int (i3 z1)]) [vI (xs (i + 1)).toInt] dl_247 ok_X7_removeGenerator vL_27 c_X7_removeGenerator rfl rfl (by decide) ⟨by decide, by decide⟩ (by simp [Value.category]) (by simp [rv, i3_of]) ⟨Nat.le_of_ble_eq_true rfl, Nat.le_of_ble_eq_true rfl⟩ (ml_removeGenerator hM (inR_of _)) (fun z2 r2 hs2 N2 H locs a2 hM1 hP2 hP1 hS => ?_)
  obtain ⟨rfl, rfl, rfl⟩ := fn_removeGenerator _ _ _ _ _ _ a1 a2
  exact lv_icmp_eq (tgt := 769) hx hb dl_250 (by decide) (fun _ => hend _ _ _ _ _ _ hC1 hM1 hP1 hP2 hS) (fun cc => absurd rfl cc)
theorem law_c3 (hX : LX p s m meth c b L xs ad1 ad2 D cI cZ cA) (hL : L ≤ 2560) {i : Nat} (hi : i + 5 ≤ L) (hC : CI M1 r hs) (hM : MS M2 r hs) (hP1 : va_P D clW (wW ad1 cI cZ cA SHC M1) H) (hP2 : va_P D clW (wW ad2 cI cZ cA SHM M2) H) (hS : va_S (lA s) s.heap H locs) (hl : lv_has ls 4 [(3, .int (i3 i)), (2, .ref (ad2 0)), (1, .ref (ad1 0)), (0, .ref b)]) (hend : ∀ (M1 M2 : Mem) (r : Row) (hs : List Row) (H : Heap) (locs : List Loc), CI M1 r hs → MS M2 r hs → va_P D clW (wW ad1 cI cZ cA SHC M1) H → va_P D clW (wW ad2 cI cZ cA SHM M2) H → va_S (lA s) s.heap H locs → W p l e room_1 s m #[Value.ref b] below meth c H locs 32 2260 (lw_Z below #[Value.ref b] s) (F0 m 769 ls [])) : W p l e room_1 s m #[Value.ref b] below meth c H locs 32 2260 (lw_Z below #[Value.ref b] s) (F0 m 255 ls []) := by
  obtain ⟨hx, hb, hr, hml, hown, hts, hXX, hbl, hlocks, hgv⟩ := id hX.1
  refine lv_aload_n hx hb dl_255 rfl (lv_at hl 2 rfl) ?_
  refine ld hX.1 hL 1 (by omega) hS hl dl_256 dl_257 dl_258 dl_259 dl_260 ?_
  refine ld hX.1 hL 2 (by omega) hS hl dl_261 dl_262 dl_263 dl_264 dl_265 ?_
  refine ld hX.1 hL 3 (by omega) hS hl dl_266 dl_267 dl_268 dl_269 dl_270 ?_
  refine ld hX.1 hL 4 (by omega) hS hl dl_271 dl_272 dl_273 dl_274 dl_275 ?_
  refine lw_Ci hX hP1 hP2 hS hl.1 (mj := mi_X6_setGenerator) (rest := []) [vI (xs (i + 1)).toInt, vI (xs (i + 2)).toInt, vI (xs (i + 3)).toInt, vI (xs (i + 4)).toInt] dl_276 ok_X6_setGenerator vL_28 c_X6_setGenerator rfl rfl (by decide) ⟨by decide, by decide⟩ (by decide) (by simp [rv, i3_of]) ⟨Nat.le_of_ble_eq_true rfl, Nat.le_of_ble_eq_true rfl⟩ (cl_setGenerator hC (inR_of _) (inR_of _) (inR_of _) (inR_of _)) (fun z1 r1 hs1 N1 H locs a1 hC1 hP1 hP2 hS => ?_)
  refine lv_aload_n hx hb dl_279 rfl (lv_at hl 1 rfl) ?_
  refine ld hX.1 hL 1 (by omega) hS hl dl_280 dl_281 dl_282 dl_283 dl_284 ?_
  refine ld hX.1 hL 2 (by omega) hS hl dl_285 dl_286 dl_287 dl_288 dl_289 ?_
  refine ld hX.1 hL 3 (by omega) hS hl dl_290 dl_291 dl_292 dl_293 dl_294 ?_
  refine ld hX.1 hL 4 (by omega) hS hl dl_295 dl_296 dl_297 dl_298 dl_299 ?_
  refine lw_Mi hX hP1 hP2 hS hl.1 (mj := mi_X7_setGenerator) (rest := [.int (i3 z1)]) [vI (xs (i + 1)).toInt, vI (xs (i + 2)).toInt, vI (xs (i + 3)).toInt, vI (xs (i + 4)).toInt] dl_300 ok_X7_setGenerator vL_32 c_X7_setGenerator rfl rfl (by decide) ⟨by decide, by decide⟩ (by simp [Value.category]) (by simp [rv, i3_of]) ⟨Nat.le_of_ble_eq_true rfl, Nat.le_of_ble_eq_true rfl⟩ (ml_setGenerator hM (inR_of _) (inR_of _) (inR_of _) (inR_of _)) (fun z2 r2 hs2 N2 H locs a2 hM1 hP2 hP1 hS => ?_)
  obtain ⟨rfl, rfl, rfl⟩ := fn_setGenerator _ _ _ _ _ _ a1 a2
  exact lv_icmp_eq (tgt := 769) hx hb dl_303 (by decide) (fun _ => hend _ _ _ _ _ _ hC1 hM1 hP1 hP2 hS) (fun cc => absurd rfl cc)
theorem law_c4 (hX : LX p s m meth c b L xs ad1 ad2 D cI cZ cA) (hL : L ≤ 2560) {i : Nat} (hi : i + 5 ≤ L) (hC : CI M1 r hs) (hM : MS M2 r hs) (hP1 : va_P D clW (wW ad1 cI cZ cA SHC M1) H) (hP2 : va_P D clW (wW ad2 cI cZ cA SHM M2) H) (hS : va_S (lA s) s.heap H locs) (hl : lv_has ls 4 [(3, .int (i3 i)), (2, .ref (ad2 0)), (1, .ref (ad1 0)), (0, .ref b)]) (hend : ∀ (M1 M2 : Mem) (r : Row) (hs : List Row) (H : Heap) (locs : List Loc), CI M1 r hs → MS M2 r hs → va_P D clW (wW ad1 cI cZ cA SHC M1) H → va_P D clW (wW ad2 cI cZ cA SHM M2) H → va_S (lA s) s.heap H locs → W p l e room_1 s m #[Value.ref b] below meth c H locs 32 2260 (lw_Z below #[Value.ref b] s) (F0 m 769 ls [])) : W p l e room_1 s m #[Value.ref b] below meth c H locs 32 2260 (lw_Z below #[Value.ref b] s) (F0 m 308 ls []) := by
  obtain ⟨hx, hb, hr, hml, hown, hts, hXX, hbl, hlocks, hgv⟩ := id hX.1
  refine lv_aload_n hx hb dl_308 rfl (lv_at hl 2 rfl) ?_
  refine lw_Ci hX hP1 hP2 hS hl.1 (mj := mi_X6_undo) (rest := []) [] dl_309 ok_X6_undo vL_33 c_X6_undo rfl rfl (by decide) ⟨by decide, by decide⟩ (by decide) (by simp [rv, i3_of]) ⟨Nat.le_of_ble_eq_true rfl, Nat.le_of_ble_eq_true rfl⟩ (cl_undo hC) (fun z1 r1 hs1 N1 H locs a1 hC1 hP1 hP2 hS => ?_)
  refine lv_aload_n hx hb dl_312 rfl (lv_at hl 1 rfl) ?_
  refine lw_Mi hX hP1 hP2 hS hl.1 (mj := mi_X7_undo) (rest := [.int (i3 z1)]) [] dl_313 ok_X7_undo vL_37 c_X7_undo rfl rfl (by decide) ⟨by decide, by decide⟩ (by simp [Value.category]) (by simp [rv, i3_of]) ⟨Nat.le_of_ble_eq_true rfl, Nat.le_of_ble_eq_true rfl⟩ (ml_undo hM) (fun z2 r2 hs2 N2 H locs a2 hM1 hP2 hP1 hS => ?_)
  obtain ⟨rfl, rfl, rfl⟩ := fn_undo _ _ _ _ _ _ a1 a2
  exact lv_icmp_eq (tgt := 769) hx hb dl_316 (by decide) (fun _ => hend _ _ _ _ _ _ hC1 hM1 hP1 hP2 hS) (fun cc => absurd rfl cc)
theorem law_c5 (hX : LX p s m meth c b L xs ad1 ad2 D cI cZ cA) (hL : L ≤ 2560) {i : Nat} (hi : i + 5 ≤ L) (hC : CI M1 r hs) (hM : MS M2 r hs) (hP1 : va_P D clW (wW ad1 cI cZ cA SHC M1) H) (hP2 : va_P D clW (wW ad2 cI cZ cA SHM M2) H) (hS : va_S (lA s) s.heap H locs) (hl : lv_has ls 4 [(3, .int (i3 i)), (2, .ref (ad2 0)), (1, .ref (ad1 0)), (0, .ref b)]) (hend : ∀ (M1 M2 : Mem) (r : Row) (hs : List Row) (H : Heap) (locs : List Loc), CI M1 r hs → MS M2 r hs → va_P D clW (wW ad1 cI cZ cA SHC M1) H → va_P D clW (wW ad2 cI cZ cA SHM M2) H → va_S (lA s) s.heap H locs → W p l e room_1 s m #[Value.ref b] below meth c H locs 32 2260 (lw_Z below #[Value.ref b] s) (F0 m 769 ls [])) : W p l e room_1 s m #[Value.ref b] below meth c H locs 32 2260 (lw_Z below #[Value.ref b] s) (F0 m 321 ls []) := by
  obtain ⟨hx, hb, hr, hml, hown, hts, hXX, hbl, hlocks, hgv⟩ := id hX.1
  refine lv_aload_n hx hb dl_321 rfl (lv_at hl 2 rfl) ?_
  refine ld hX.1 hL 1 (by omega) hS hl dl_322 dl_323 dl_324 dl_325 dl_326 ?_
  refine lw_Ci hX hP1 hP2 hS hl.1 (mj := mi_X6_generator) (rest := []) [vI (xs (i + 1)).toInt] dl_327 ok_X6_generator vL_38 c_X6_generator rfl rfl (by decide) ⟨by decide, by decide⟩ (by decide) (by simp [rv, i3_of]) ⟨Nat.le_of_ble_eq_true rfl, Nat.le_of_ble_eq_true rfl⟩ (cl_generator hC (inR_of _)) (fun z1 r1 hs1 N1 H locs a1 hC1 hP1 hP2 hS => ?_)
  refine lv_aload_n hx hb dl_330 rfl (lv_at hl 1 rfl) ?_
  refine ld hX.1 hL 1 (by omega) hS hl dl_331 dl_332 dl_333 dl_334 dl_335 ?_
  refine lw_Mi hX hP1 hP2 hS hl.1 (mj := mi_X7_generator) (rest := [.int (i3 z1)]) [vI (xs (i + 1)).toInt] dl_336 ok_X7_generator vL_41 c_X7_generator rfl rfl (by decide) ⟨by decide, by decide⟩ (by simp [Value.category]) (by simp [rv, i3_of]) ⟨Nat.le_of_ble_eq_true rfl, Nat.le_of_ble_eq_true rfl⟩ (ml_generator hM (inR_of _)) (fun z2 r2 hs2 N2 H locs a2 hM1 hP2 hP1 hS => ?_)
  obtain ⟨rfl, rfl, rfl⟩ := fn_generator _ _ _ _ _ _ a1 a2
  exact lv_icmp_eq (tgt := 769) hx hb dl_339 (by decide) (fun _ => hend _ _ _ _ _ _ hC1 hM1 hP1 hP2 hS) (fun cc => absurd rfl cc)
theorem law_c6 (hX : LX p s m meth c b L xs ad1 ad2 D cI cZ cA) (hL : L ≤ 2560) {i : Nat} (hi : i + 5 ≤ L) (hC : CI M1 r hs) (hM : MS M2 r hs) (hP1 : va_P D clW (wW ad1 cI cZ cA SHC M1) H) (hP2 : va_P D clW (wW ad2 cI cZ cA SHM M2) H) (hS : va_S (lA s) s.heap H locs) (hl : lv_has ls 4 [(3, .int (i3 i)), (2, .ref (ad2 0)), (1, .ref (ad1 0)), (0, .ref b)]) (hend : ∀ (M1 M2 : Mem) (r : Row) (hs : List Row) (H : Heap) (locs : List Loc), CI M1 r hs → MS M2 r hs → va_P D clW (wW ad1 cI cZ cA SHC M1) H → va_P D clW (wW ad2 cI cZ cA SHM M2) H → va_S (lA s) s.heap H locs → W p l e room_1 s m #[Value.ref b] below meth c H locs 32 2260 (lw_Z below #[Value.ref b] s) (F0 m 769 ls [])) : W p l e room_1 s m #[Value.ref b] below meth c H locs 32 2260 (lw_Z below #[Value.ref b] s) (F0 m 344 ls []) := by
  obtain ⟨hx, hb, hr, hml, hown, hts, hXX, hbl, hlocks, hgv⟩ := id hX.1
  refine lv_aload_n hx hb dl_344 rfl (lv_at hl 2 rfl) ?_
  refine lw_Ci hX hP1 hP2 hS hl.1 (mj := mi_X6_order) (rest := []) [] dl_345 ok_X6_order vL_42 c_X6_order rfl rfl (by decide) ⟨by decide, by decide⟩ (by decide) (by simp [rv, i3_of]) ⟨Nat.le_of_ble_eq_true rfl, Nat.le_of_ble_eq_true rfl⟩ (cl_order hC) (fun z1 r1 hs1 N1 H locs a1 hC1 hP1 hP2 hS => ?_)
  refine lv_aload_n hx hb dl_348 rfl (lv_at hl 1 rfl) ?_
  refine lw_Mi hX hP1 hP2 hS hl.1 (mj := mi_X7_order) (rest := [.int (i3 z1)]) [] dl_349 ok_X7_order vL_45 c_X7_order rfl rfl (by decide) ⟨by decide, by decide⟩ (by simp [Value.category]) (by simp [rv, i3_of]) ⟨Nat.le_of_ble_eq_true rfl, Nat.le_of_ble_eq_true rfl⟩ (ml_order hM) (fun z2 r2 hs2 N2 H locs a2 hM1 hP2 hP1 hS => ?_)
  obtain ⟨rfl, rfl, rfl⟩ := fn_order _ _ _ _ _ _ a1 a2
  exact lv_icmp_eq (tgt := 769) hx hb dl_352 (by decide) (fun _ => hend _ _ _ _ _ _ hC1 hM1 hP1 hP2 hS) (fun cc => absurd rfl cc)
theorem law_c7 (hX : LX p s m meth c b L xs ad1 ad2 D cI cZ cA) (hL : L ≤ 2560) {i : Nat} (hi : i + 5 ≤ L) (hC : CI M1 r hs) (hM : MS M2 r hs) (hP1 : va_P D clW (wW ad1 cI cZ cA SHC M1) H) (hP2 : va_P D clW (wW ad2 cI cZ cA SHM M2) H) (hS : va_S (lA s) s.heap H locs) (hl : lv_has ls 4 [(3, .int (i3 i)), (2, .ref (ad2 0)), (1, .ref (ad1 0)), (0, .ref b)]) (hend : ∀ (M1 M2 : Mem) (r : Row) (hs : List Row) (H : Heap) (locs : List Loc), CI M1 r hs → MS M2 r hs → va_P D clW (wW ad1 cI cZ cA SHC M1) H → va_P D clW (wW ad2 cI cZ cA SHM M2) H → va_S (lA s) s.heap H locs → W p l e room_1 s m #[Value.ref b] below meth c H locs 32 2260 (lw_Z below #[Value.ref b] s) (F0 m 769 ls [])) : W p l e room_1 s m #[Value.ref b] below meth c H locs 32 2260 (lw_Z below #[Value.ref b] s) (F0 m 357 ls []) := by
  obtain ⟨hx, hb, hr, hml, hown, hts, hXX, hbl, hlocks, hgv⟩ := id hX.1
  refine lv_aload_n hx hb dl_357 rfl (lv_at hl 2 rfl) ?_
  refine ld hX.1 hL 1 (by omega) hS hl dl_358 dl_359 dl_360 dl_361 dl_362 ?_
  refine lw_Ci hX hP1 hP2 hS hl.1 (mj := mi_X6_element) (rest := []) [vI (xs (i + 1)).toInt] dl_363 ok_X6_element vL_46 c_X6_element rfl rfl (by decide) ⟨by decide, by decide⟩ (by decide) (by simp [rv, i3_of]) ⟨Nat.le_of_ble_eq_true rfl, Nat.le_of_ble_eq_true rfl⟩ (cl_element hC (inR_of _)) (fun z1 r1 hs1 N1 H locs a1 hC1 hP1 hP2 hS => ?_)
  refine lv_aload_n hx hb dl_366 rfl (lv_at hl 1 rfl) ?_
  refine ld hX.1 hL 1 (by omega) hS hl dl_367 dl_368 dl_369 dl_370 dl_371 ?_
  refine lw_Mi hX hP1 hP2 hS hl.1 (mj := mi_X7_element) (rest := [.int (i3 z1)]) [vI (xs (i + 1)).toInt] dl_372 ok_X7_element vL_49 c_X7_element rfl rfl (by decide) ⟨by decide, by decide⟩ (by simp [Value.category]) (by simp [rv, i3_of]) ⟨Nat.le_of_ble_eq_true rfl, Nat.le_of_ble_eq_true rfl⟩ (ml_element hM (inR_of _)) (fun z2 r2 hs2 N2 H locs a2 hM1 hP2 hP1 hS => ?_)
  obtain ⟨rfl, rfl, rfl⟩ := fn_element _ _ _ _ _ _ a1 a2
  exact lv_icmp_eq (tgt := 769) hx hb dl_375 (by decide) (fun _ => hend _ _ _ _ _ _ hC1 hM1 hP1 hP2 hS) (fun cc => absurd rfl cc)
theorem law_c8 (hX : LX p s m meth c b L xs ad1 ad2 D cI cZ cA) (hL : L ≤ 2560) {i : Nat} (hi : i + 5 ≤ L) (hC : CI M1 r hs) (hM : MS M2 r hs) (hP1 : va_P D clW (wW ad1 cI cZ cA SHC M1) H) (hP2 : va_P D clW (wW ad2 cI cZ cA SHM M2) H) (hS : va_S (lA s) s.heap H locs) (hl : lv_has ls 4 [(3, .int (i3 i)), (2, .ref (ad2 0)), (1, .ref (ad1 0)), (0, .ref b)]) (hend : ∀ (M1 M2 : Mem) (r : Row) (hs : List Row) (H : Heap) (locs : List Loc), CI M1 r hs → MS M2 r hs → va_P D clW (wW ad1 cI cZ cA SHC M1) H → va_P D clW (wW ad2 cI cZ cA SHM M2) H → va_S (lA s) s.heap H locs → W p l e room_1 s m #[Value.ref b] below meth c H locs 32 2260 (lw_Z below #[Value.ref b] s) (F0 m 769 ls [])) : W p l e room_1 s m #[Value.ref b] below meth c H locs 32 2260 (lw_Z below #[Value.ref b] s) (F0 m 380 ls []) := by
  obtain ⟨hx, hb, hr, hml, hown, hts, hXX, hbl, hlocks, hgv⟩ := id hX.1
  refine lv_aload_n hx hb dl_380 rfl (lv_at hl 2 rfl) ?_
  refine ld hX.1 hL 1 (by omega) hS hl dl_381 dl_382 dl_383 dl_384 dl_385 ?_
  refine lw_Ci hX hP1 hP2 hS hl.1 (mj := mi_X6_contains) (rest := []) [vI (xs (i + 1)).toInt] dl_386 ok_X6_contains vL_50 c_X6_contains rfl rfl (by decide) ⟨by decide, by decide⟩ (by decide) (by simp [rv, i3_of]) ⟨Nat.le_of_ble_eq_true rfl, Nat.le_of_ble_eq_true rfl⟩ (cl_contains hC (inR_of _)) (fun z1 r1 hs1 N1 H locs a1 hC1 hP1 hP2 hS => ?_)
  refine lv_aload_n hx hb dl_389 rfl (lv_at hl 1 rfl) ?_
  refine ld hX.1 hL 1 (by omega) hS hl dl_390 dl_391 dl_392 dl_393 dl_394 ?_
  refine lw_Mi hX hP1 hP2 hS hl.1 (mj := mi_X7_contains) (rest := [.int (i3 z1)]) [vI (xs (i + 1)).toInt] dl_395 ok_X7_contains vL_53 c_X7_contains rfl rfl (by decide) ⟨by decide, by decide⟩ (by simp [Value.category]) (by simp [rv, i3_of]) ⟨Nat.le_of_ble_eq_true rfl, Nat.le_of_ble_eq_true rfl⟩ (ml_contains hM (inR_of _)) (fun z2 r2 hs2 N2 H locs a2 hM1 hP2 hP1 hS => ?_)
  obtain ⟨rfl, rfl, rfl⟩ := fn_contains _ _ _ _ _ _ a1 a2
  exact lv_icmp_eq (tgt := 769) hx hb dl_398 (by decide) (fun _ => hend _ _ _ _ _ _ hC1 hM1 hP1 hP2 hS) (fun cc => absurd rfl cc)
theorem law_c9 (hX : LX p s m meth c b L xs ad1 ad2 D cI cZ cA) (hL : L ≤ 2560) {i : Nat} (hi : i + 5 ≤ L) (hC : CI M1 r hs) (hM : MS M2 r hs) (hP1 : va_P D clW (wW ad1 cI cZ cA SHC M1) H) (hP2 : va_P D clW (wW ad2 cI cZ cA SHM M2) H) (hS : va_S (lA s) s.heap H locs) (hl : lv_has ls 4 [(3, .int (i3 i)), (2, .ref (ad2 0)), (1, .ref (ad1 0)), (0, .ref b)]) (hend : ∀ (M1 M2 : Mem) (r : Row) (hs : List Row) (H : Heap) (locs : List Loc), CI M1 r hs → MS M2 r hs → va_P D clW (wW ad1 cI cZ cA SHC M1) H → va_P D clW (wW ad2 cI cZ cA SHM M2) H → va_S (lA s) s.heap H locs → W p l e room_1 s m #[Value.ref b] below meth c H locs 32 2260 (lw_Z below #[Value.ref b] s) (F0 m 769 ls [])) : W p l e room_1 s m #[Value.ref b] below meth c H locs 32 2260 (lw_Z below #[Value.ref b] s) (F0 m 403 ls []) := by
  obtain ⟨hx, hb, hr, hml, hown, hts, hXX, hbl, hlocks, hgv⟩ := id hX.1
  refine lv_aload_n hx hb dl_403 rfl (lv_at hl 2 rfl) ?_
  refine ld hX.1 hL 1 (by omega) hS hl dl_404 dl_405 dl_406 dl_407 dl_408 ?_
  refine ld hX.1 hL 2 (by omega) hS hl dl_409 dl_410 dl_411 dl_412 dl_413 ?_
  refine lw_Ci hX hP1 hP2 hS hl.1 (mj := mi_X6_product) (rest := []) [vI (xs (i + 1)).toInt, vI (xs (i + 2)).toInt] dl_414 ok_X6_product vL_54 c_X6_product rfl rfl (by decide) ⟨by decide, by decide⟩ (by decide) (by simp [rv, i3_of]) ⟨Nat.le_of_ble_eq_true rfl, Nat.le_of_ble_eq_true rfl⟩ (cl_product hC (inR_of _) (inR_of _)) (fun z1 r1 hs1 N1 H locs a1 hC1 hP1 hP2 hS => ?_)
  refine lv_aload_n hx hb dl_417 rfl (lv_at hl 1 rfl) ?_
  refine ld hX.1 hL 1 (by omega) hS hl dl_418 dl_419 dl_420 dl_421 dl_422 ?_
  refine ld hX.1 hL 2 (by omega) hS hl dl_423 dl_424 dl_425 dl_426 dl_427 ?_
  refine lw_Mi hX hP1 hP2 hS hl.1 (mj := mi_X7_product) (rest := [.int (i3 z1)]) [vI (xs (i + 1)).toInt, vI (xs (i + 2)).toInt] dl_428 ok_X7_product vL_57 c_X7_product rfl rfl (by decide) ⟨by decide, by decide⟩ (by simp [Value.category]) (by simp [rv, i3_of]) ⟨Nat.le_of_ble_eq_true rfl, Nat.le_of_ble_eq_true rfl⟩ (ml_product hM (inR_of _) (inR_of _)) (fun z2 r2 hs2 N2 H locs a2 hM1 hP2 hP1 hS => ?_)
  obtain ⟨rfl, rfl, rfl⟩ := fn_product _ _ _ _ _ _ a1 a2
  exact lv_icmp_eq (tgt := 769) hx hb dl_431 (by decide) (fun _ => hend _ _ _ _ _ _ hC1 hM1 hP1 hP2 hS) (fun cc => absurd rfl cc)
theorem law_c10 (hX : LX p s m meth c b L xs ad1 ad2 D cI cZ cA) (hL : L ≤ 2560) {i : Nat} (hi : i + 5 ≤ L) (hC : CI M1 r hs) (hM : MS M2 r hs) (hP1 : va_P D clW (wW ad1 cI cZ cA SHC M1) H) (hP2 : va_P D clW (wW ad2 cI cZ cA SHM M2) H) (hS : va_S (lA s) s.heap H locs) (hl : lv_has ls 4 [(3, .int (i3 i)), (2, .ref (ad2 0)), (1, .ref (ad1 0)), (0, .ref b)]) (hend : ∀ (M1 M2 : Mem) (r : Row) (hs : List Row) (H : Heap) (locs : List Loc), CI M1 r hs → MS M2 r hs → va_P D clW (wW ad1 cI cZ cA SHC M1) H → va_P D clW (wW ad2 cI cZ cA SHM M2) H → va_S (lA s) s.heap H locs → W p l e room_1 s m #[Value.ref b] below meth c H locs 32 2260 (lw_Z below #[Value.ref b] s) (F0 m 769 ls [])) : W p l e room_1 s m #[Value.ref b] below meth c H locs 32 2260 (lw_Z below #[Value.ref b] s) (F0 m 436 ls []) := by
  obtain ⟨hx, hb, hr, hml, hown, hts, hXX, hbl, hlocks, hgv⟩ := id hX.1
  refine lv_aload_n hx hb dl_436 rfl (lv_at hl 2 rfl) ?_
  refine ld hX.1 hL 1 (by omega) hS hl dl_437 dl_438 dl_439 dl_440 dl_441 ?_
  refine lw_Ci hX hP1 hP2 hS hl.1 (mj := mi_X6_orderOf) (rest := []) [vI (xs (i + 1)).toInt] dl_442 ok_X6_orderOf vL_58 c_X6_orderOf rfl rfl (by decide) ⟨by decide, by decide⟩ (by decide) (by simp [rv, i3_of]) ⟨Nat.le_of_ble_eq_true rfl, Nat.le_of_ble_eq_true rfl⟩ (cl_orderOf hC (inR_of _)) (fun z1 r1 hs1 N1 H locs a1 hC1 hP1 hP2 hS => ?_)
  refine lv_aload_n hx hb dl_445 rfl (lv_at hl 1 rfl) ?_
  refine ld hX.1 hL 1 (by omega) hS hl dl_446 dl_447 dl_448 dl_449 dl_450 ?_
  refine lw_Mi hX hP1 hP2 hS hl.1 (mj := mi_X7_orderOf) (rest := [.int (i3 z1)]) [vI (xs (i + 1)).toInt] dl_451 ok_X7_orderOf vL_61 c_X7_orderOf rfl rfl (by decide) ⟨by decide, by decide⟩ (by simp [Value.category]) (by simp [rv, i3_of]) ⟨Nat.le_of_ble_eq_true rfl, Nat.le_of_ble_eq_true rfl⟩ (ml_orderOf hM (inR_of _)) (fun z2 r2 hs2 N2 H locs a2 hM1 hP2 hP1 hS => ?_)
  obtain ⟨rfl, rfl, rfl⟩ := fn_orderOf _ _ _ _ _ _ a1 a2
  exact lv_icmp_eq (tgt := 769) hx hb dl_454 (by decide) (fun _ => hend _ _ _ _ _ _ hC1 hM1 hP1 hP2 hS) (fun cc => absurd rfl cc)
theorem law_c11 (hX : LX p s m meth c b L xs ad1 ad2 D cI cZ cA) (hL : L ≤ 2560) {i : Nat} (hi : i + 5 ≤ L) (hC : CI M1 r hs) (hM : MS M2 r hs) (hP1 : va_P D clW (wW ad1 cI cZ cA SHC M1) H) (hP2 : va_P D clW (wW ad2 cI cZ cA SHM M2) H) (hS : va_S (lA s) s.heap H locs) (hl : lv_has ls 4 [(3, .int (i3 i)), (2, .ref (ad2 0)), (1, .ref (ad1 0)), (0, .ref b)]) (hend : ∀ (M1 M2 : Mem) (r : Row) (hs : List Row) (H : Heap) (locs : List Loc), CI M1 r hs → MS M2 r hs → va_P D clW (wW ad1 cI cZ cA SHC M1) H → va_P D clW (wW ad2 cI cZ cA SHM M2) H → va_S (lA s) s.heap H locs → W p l e room_1 s m #[Value.ref b] below meth c H locs 32 2260 (lw_Z below #[Value.ref b] s) (F0 m 769 ls [])) : W p l e room_1 s m #[Value.ref b] below meth c H locs 32 2260 (lw_Z below #[Value.ref b] s) (F0 m 459 ls []) := by
  obtain ⟨hx, hb, hr, hml, hown, hts, hXX, hbl, hlocks, hgv⟩ := id hX.1
  refine lv_aload_n hx hb dl_459 rfl (lv_at hl 2 rfl) ?_
  refine ld hX.1 hL 1 (by omega) hS hl dl_460 dl_461 dl_462 dl_463 dl_464 ?_
  refine lw_Ci hX hP1 hP2 hS hl.1 (mj := mi_X6_kindOf) (rest := []) [vI (xs (i + 1)).toInt] dl_465 ok_X6_kindOf vL_62 c_X6_kindOf rfl rfl (by decide) ⟨by decide, by decide⟩ (by decide) (by simp [rv, i3_of]) ⟨Nat.le_of_ble_eq_true rfl, Nat.le_of_ble_eq_true rfl⟩ (cl_kindOf hC (inR_of _)) (fun z1 r1 hs1 N1 H locs a1 hC1 hP1 hP2 hS => ?_)
  refine lv_aload_n hx hb dl_468 rfl (lv_at hl 1 rfl) ?_
  refine ld hX.1 hL 1 (by omega) hS hl dl_469 dl_470 dl_471 dl_472 dl_473 ?_
  refine lw_Mi hX hP1 hP2 hS hl.1 (mj := mi_X7_kindOf) (rest := [.int (i3 z1)]) [vI (xs (i + 1)).toInt] dl_474 ok_X7_kindOf vL_65 c_X7_kindOf rfl rfl (by decide) ⟨by decide, by decide⟩ (by simp [Value.category]) (by simp [rv, i3_of]) ⟨Nat.le_of_ble_eq_true rfl, Nat.le_of_ble_eq_true rfl⟩ (ml_kindOf hM (inR_of _)) (fun z2 r2 hs2 N2 H locs a2 hM1 hP2 hP1 hS => ?_)
  obtain ⟨rfl, rfl, rfl⟩ := fn_kindOf _ _ _ _ _ _ a1 a2
  exact lv_icmp_eq (tgt := 769) hx hb dl_477 (by decide) (fun _ => hend _ _ _ _ _ _ hC1 hM1 hP1 hP2 hS) (fun cc => absurd rfl cc)
theorem law_c12 (hX : LX p s m meth c b L xs ad1 ad2 D cI cZ cA) (hL : L ≤ 2560) {i : Nat} (hi : i + 5 ≤ L) (hC : CI M1 r hs) (hM : MS M2 r hs) (hP1 : va_P D clW (wW ad1 cI cZ cA SHC M1) H) (hP2 : va_P D clW (wW ad2 cI cZ cA SHM M2) H) (hS : va_S (lA s) s.heap H locs) (hl : lv_has ls 4 [(3, .int (i3 i)), (2, .ref (ad2 0)), (1, .ref (ad1 0)), (0, .ref b)]) (hend : ∀ (M1 M2 : Mem) (r : Row) (hs : List Row) (H : Heap) (locs : List Loc), CI M1 r hs → MS M2 r hs → va_P D clW (wW ad1 cI cZ cA SHC M1) H → va_P D clW (wW ad2 cI cZ cA SHM M2) H → va_S (lA s) s.heap H locs → W p l e room_1 s m #[Value.ref b] below meth c H locs 32 2260 (lw_Z below #[Value.ref b] s) (F0 m 769 ls [])) : W p l e room_1 s m #[Value.ref b] below meth c H locs 32 2260 (lw_Z below #[Value.ref b] s) (F0 m 482 ls []) := by
  obtain ⟨hx, hb, hr, hml, hown, hts, hXX, hbl, hlocks, hgv⟩ := id hX.1
  refine lv_aload_n hx hb dl_482 rfl (lv_at hl 2 rfl) ?_
  refine ld hX.1 hL 1 (by omega) hS hl dl_483 dl_484 dl_485 dl_486 dl_487 ?_
  refine lw_Ci hX hP1 hP2 hS hl.1 (mj := mi_X6_count) (rest := []) [vI (xs (i + 1)).toInt] dl_488 ok_X6_count vL_66 c_X6_count rfl rfl (by decide) ⟨by decide, by decide⟩ (by decide) (by simp [rv, i3_of]) ⟨Nat.le_of_ble_eq_true rfl, Nat.le_of_ble_eq_true rfl⟩ (cl_count hC (inR_of _)) (fun z1 r1 hs1 N1 H locs a1 hC1 hP1 hP2 hS => ?_)
  refine lv_aload_n hx hb dl_491 rfl (lv_at hl 1 rfl) ?_
  refine ld hX.1 hL 1 (by omega) hS hl dl_492 dl_493 dl_494 dl_495 dl_496 ?_
  refine lw_Mi hX hP1 hP2 hS hl.1 (mj := mi_X7_count) (rest := [.int (i3 z1)]) [vI (xs (i + 1)).toInt] dl_497 ok_X7_count vL_69 c_X7_count rfl rfl (by decide) ⟨by decide, by decide⟩ (by simp [Value.category]) (by simp [rv, i3_of]) ⟨Nat.le_of_ble_eq_true rfl, Nat.le_of_ble_eq_true rfl⟩ (ml_count hM (inR_of _)) (fun z2 r2 hs2 N2 H locs a2 hM1 hP2 hP1 hS => ?_)
  obtain ⟨rfl, rfl, rfl⟩ := fn_count _ _ _ _ _ _ a1 a2
  exact lv_icmp_eq (tgt := 769) hx hb dl_500 (by decide) (fun _ => hend _ _ _ _ _ _ hC1 hM1 hP1 hP2 hS) (fun cc => absurd rfl cc)
theorem law_c13 (hX : LX p s m meth c b L xs ad1 ad2 D cI cZ cA) (hL : L ≤ 2560) {i : Nat} (hi : i + 5 ≤ L) (hC : CI M1 r hs) (hM : MS M2 r hs) (hP1 : va_P D clW (wW ad1 cI cZ cA SHC M1) H) (hP2 : va_P D clW (wW ad2 cI cZ cA SHM M2) H) (hS : va_S (lA s) s.heap H locs) (hl : lv_has ls 4 [(3, .int (i3 i)), (2, .ref (ad2 0)), (1, .ref (ad1 0)), (0, .ref b)]) (hend : ∀ (M1 M2 : Mem) (r : Row) (hs : List Row) (H : Heap) (locs : List Loc), CI M1 r hs → MS M2 r hs → va_P D clW (wW ad1 cI cZ cA SHC M1) H → va_P D clW (wW ad2 cI cZ cA SHM M2) H → va_S (lA s) s.heap H locs → W p l e room_1 s m #[Value.ref b] below meth c H locs 32 2260 (lw_Z below #[Value.ref b] s) (F0 m 769 ls [])) : W p l e room_1 s m #[Value.ref b] below meth c H locs 32 2260 (lw_Z below #[Value.ref b] s) (F0 m 505 ls []) := by
  obtain ⟨hx, hb, hr, hml, hown, hts, hXX, hbl, hlocks, hgv⟩ := id hX.1
  refine lv_aload_n hx hb dl_505 rfl (lv_at hl 2 rfl) ?_
  refine lw_Ci hX hP1 hP2 hS hl.1 (mj := mi_X6_isAbelian) (rest := []) [] dl_506 ok_X6_isAbelian vL_70 c_X6_isAbelian rfl rfl (by decide) ⟨by decide, by decide⟩ (by decide) (by simp [rv, i3_of]) ⟨Nat.le_of_ble_eq_true rfl, Nat.le_of_ble_eq_true rfl⟩ (cl_isAbelian hC) (fun z1 r1 hs1 N1 H locs a1 hC1 hP1 hP2 hS => ?_)
  refine lv_aload_n hx hb dl_509 rfl (lv_at hl 1 rfl) ?_
  refine lw_Mi hX hP1 hP2 hS hl.1 (mj := mi_X7_isAbelian) (rest := [.int (i3 z1)]) [] dl_510 ok_X7_isAbelian vL_73 c_X7_isAbelian rfl rfl (by decide) ⟨by decide, by decide⟩ (by simp [Value.category]) (by simp [rv, i3_of]) ⟨Nat.le_of_ble_eq_true rfl, Nat.le_of_ble_eq_true rfl⟩ (ml_isAbelian hM) (fun z2 r2 hs2 N2 H locs a2 hM1 hP2 hP1 hS => ?_)
  obtain ⟨rfl, rfl, rfl⟩ := fn_isAbelian _ _ _ _ _ _ a1 a2
  exact lv_icmp_eq (tgt := 769) hx hb dl_513 (by decide) (fun _ => hend _ _ _ _ _ _ hC1 hM1 hP1 hP2 hS) (fun cc => absurd rfl cc)
theorem law_c14 (hX : LX p s m meth c b L xs ad1 ad2 D cI cZ cA) (hL : L ≤ 2560) {i : Nat} (hi : i + 5 ≤ L) (hC : CI M1 r hs) (hM : MS M2 r hs) (hP1 : va_P D clW (wW ad1 cI cZ cA SHC M1) H) (hP2 : va_P D clW (wW ad2 cI cZ cA SHM M2) H) (hS : va_S (lA s) s.heap H locs) (hl : lv_has ls 4 [(3, .int (i3 i)), (2, .ref (ad2 0)), (1, .ref (ad1 0)), (0, .ref b)]) (hend : ∀ (M1 M2 : Mem) (r : Row) (hs : List Row) (H : Heap) (locs : List Loc), CI M1 r hs → MS M2 r hs → va_P D clW (wW ad1 cI cZ cA SHC M1) H → va_P D clW (wW ad2 cI cZ cA SHM M2) H → va_S (lA s) s.heap H locs → W p l e room_1 s m #[Value.ref b] below meth c H locs 32 2260 (lw_Z below #[Value.ref b] s) (F0 m 769 ls [])) : W p l e room_1 s m #[Value.ref b] below meth c H locs 32 2260 (lw_Z below #[Value.ref b] s) (F0 m 518 ls []) := by
  obtain ⟨hx, hb, hr, hml, hown, hts, hXX, hbl, hlocks, hgv⟩ := id hX.1
  refine lv_aload_n hx hb dl_518 rfl (lv_at hl 2 rfl) ?_
  refine lw_Ci hX hP1 hP2 hS hl.1 (mj := mi_X6_conjugacyClasses) (rest := []) [] dl_519 ok_X6_conjugacyClasses vL_74 c_X6_conjugacyClasses rfl rfl (by decide) ⟨by decide, by decide⟩ (by decide) (by simp [rv, i3_of]) ⟨Nat.le_of_ble_eq_true rfl, Nat.le_of_ble_eq_true rfl⟩ (cl_conjugacyClasses hC) (fun z1 r1 hs1 N1 H locs a1 hC1 hP1 hP2 hS => ?_)
  refine lv_aload_n hx hb dl_522 rfl (lv_at hl 1 rfl) ?_
  refine lw_Mi hX hP1 hP2 hS hl.1 (mj := mi_X7_conjugacyClasses) (rest := [.int (i3 z1)]) [] dl_523 ok_X7_conjugacyClasses vL_77 c_X7_conjugacyClasses rfl rfl (by decide) ⟨by decide, by decide⟩ (by simp [Value.category]) (by simp [rv, i3_of]) ⟨Nat.le_of_ble_eq_true rfl, Nat.le_of_ble_eq_true rfl⟩ (ml_conjugacyClasses hM) (fun z2 r2 hs2 N2 H locs a2 hM1 hP2 hP1 hS => ?_)
  obtain ⟨rfl, rfl, rfl⟩ := fn_conjugacyClasses _ _ _ _ _ _ a1 a2
  exact lv_icmp_eq (tgt := 769) hx hb dl_526 (by decide) (fun _ => hend _ _ _ _ _ _ hC1 hM1 hP1 hP2 hS) (fun cc => absurd rfl cc)
theorem law_c15 (hX : LX p s m meth c b L xs ad1 ad2 D cI cZ cA) (hL : L ≤ 2560) {i : Nat} (hi : i + 5 ≤ L) (hC : CI M1 r hs) (hM : MS M2 r hs) (hP1 : va_P D clW (wW ad1 cI cZ cA SHC M1) H) (hP2 : va_P D clW (wW ad2 cI cZ cA SHM M2) H) (hS : va_S (lA s) s.heap H locs) (hl : lv_has ls 4 [(3, .int (i3 i)), (2, .ref (ad2 0)), (1, .ref (ad1 0)), (0, .ref b)]) (hend : ∀ (M1 M2 : Mem) (r : Row) (hs : List Row) (H : Heap) (locs : List Loc), CI M1 r hs → MS M2 r hs → va_P D clW (wW ad1 cI cZ cA SHC M1) H → va_P D clW (wW ad2 cI cZ cA SHM M2) H → va_S (lA s) s.heap H locs → W p l e room_1 s m #[Value.ref b] below meth c H locs 32 2260 (lw_Z below #[Value.ref b] s) (F0 m 769 ls [])) : W p l e room_1 s m #[Value.ref b] below meth c H locs 32 2260 (lw_Z below #[Value.ref b] s) (F0 m 531 ls []) := by
  obtain ⟨hx, hb, hr, hml, hown, hts, hXX, hbl, hlocks, hgv⟩ := id hX.1
  refine lv_aload_n hx hb dl_531 rfl (lv_at hl 2 rfl) ?_
  refine lw_Ci hX hP1 hP2 hS hl.1 (mj := mi_X6_linearParts) (rest := []) [] dl_532 ok_X6_linearParts vL_78 c_X6_linearParts rfl rfl (by decide) ⟨by decide, by decide⟩ (by decide) (by simp [rv, i3_of]) ⟨Nat.le_of_ble_eq_true rfl, Nat.le_of_ble_eq_true rfl⟩ (cl_linearParts hC) (fun z1 r1 hs1 N1 H locs a1 hC1 hP1 hP2 hS => ?_)
  refine lv_aload_n hx hb dl_535 rfl (lv_at hl 1 rfl) ?_
  refine lw_Mi hX hP1 hP2 hS hl.1 (mj := mi_X7_linearParts) (rest := [.int (i3 z1)]) [] dl_536 ok_X7_linearParts vL_81 c_X7_linearParts rfl rfl (by decide) ⟨by decide, by decide⟩ (by simp [Value.category]) (by simp [rv, i3_of]) ⟨Nat.le_of_ble_eq_true rfl, Nat.le_of_ble_eq_true rfl⟩ (ml_linearParts hM) (fun z2 r2 hs2 N2 H locs a2 hM1 hP2 hP1 hS => ?_)
  obtain ⟨rfl, rfl, rfl⟩ := fn_linearParts _ _ _ _ _ _ a1 a2
  exact lv_icmp_eq (tgt := 769) hx hb dl_539 (by decide) (fun _ => hend _ _ _ _ _ _ hC1 hM1 hP1 hP2 hS) (fun cc => absurd rfl cc)
theorem law_c16 (hX : LX p s m meth c b L xs ad1 ad2 D cI cZ cA) (hL : L ≤ 2560) {i : Nat} (hi : i + 5 ≤ L) (hC : CI M1 r hs) (hM : MS M2 r hs) (hP1 : va_P D clW (wW ad1 cI cZ cA SHC M1) H) (hP2 : va_P D clW (wW ad2 cI cZ cA SHM M2) H) (hS : va_S (lA s) s.heap H locs) (hl : lv_has ls 4 [(3, .int (i3 i)), (2, .ref (ad2 0)), (1, .ref (ad1 0)), (0, .ref b)]) (hend : ∀ (M1 M2 : Mem) (r : Row) (hs : List Row) (H : Heap) (locs : List Loc), CI M1 r hs → MS M2 r hs → va_P D clW (wW ad1 cI cZ cA SHC M1) H → va_P D clW (wW ad2 cI cZ cA SHM M2) H → va_S (lA s) s.heap H locs → W p l e room_1 s m #[Value.ref b] below meth c H locs 32 2260 (lw_Z below #[Value.ref b] s) (F0 m 769 ls [])) : W p l e room_1 s m #[Value.ref b] below meth c H locs 32 2260 (lw_Z below #[Value.ref b] s) (F0 m 544 ls []) := by
  obtain ⟨hx, hb, hr, hml, hown, hts, hXX, hbl, hlocks, hgv⟩ := id hX.1
  refine lv_aload_n hx hb dl_544 rfl (lv_at hl 2 rfl) ?_
  refine lw_Ci hX hP1 hP2 hS hl.1 (mj := mi_X6_rotationOrder) (rest := []) [] dl_545 ok_X6_rotationOrder vL_82 c_X6_rotationOrder rfl rfl (by decide) ⟨by decide, by decide⟩ (by decide) (by simp [rv, i3_of]) ⟨Nat.le_of_ble_eq_true rfl, Nat.le_of_ble_eq_true rfl⟩ (cl_rotationOrder hC) (fun z1 r1 hs1 N1 H locs a1 hC1 hP1 hP2 hS => ?_)
  refine lv_aload_n hx hb dl_548 rfl (lv_at hl 1 rfl) ?_
  refine lw_Mi hX hP1 hP2 hS hl.1 (mj := mi_X7_rotationOrder) (rest := [.int (i3 z1)]) [] dl_549 ok_X7_rotationOrder vL_85 c_X7_rotationOrder rfl rfl (by decide) ⟨by decide, by decide⟩ (by simp [Value.category]) (by simp [rv, i3_of]) ⟨Nat.le_of_ble_eq_true rfl, Nat.le_of_ble_eq_true rfl⟩ (ml_rotationOrder hM) (fun z2 r2 hs2 N2 H locs a2 hM1 hP2 hP1 hS => ?_)
  obtain ⟨rfl, rfl, rfl⟩ := fn_rotationOrder _ _ _ _ _ _ a1 a2
  exact lv_icmp_eq (tgt := 769) hx hb dl_552 (by decide) (fun _ => hend _ _ _ _ _ _ hC1 hM1 hP1 hP2 hS) (fun cc => absurd rfl cc)
theorem law_c17 (hX : LX p s m meth c b L xs ad1 ad2 D cI cZ cA) (hL : L ≤ 2560) {i : Nat} (hi : i + 5 ≤ L) (hC : CI M1 r hs) (hM : MS M2 r hs) (hP1 : va_P D clW (wW ad1 cI cZ cA SHC M1) H) (hP2 : va_P D clW (wW ad2 cI cZ cA SHM M2) H) (hS : va_S (lA s) s.heap H locs) (hl : lv_has ls 4 [(3, .int (i3 i)), (2, .ref (ad2 0)), (1, .ref (ad1 0)), (0, .ref b)]) (hend : ∀ (M1 M2 : Mem) (r : Row) (hs : List Row) (H : Heap) (locs : List Loc), CI M1 r hs → MS M2 r hs → va_P D clW (wW ad1 cI cZ cA SHC M1) H → va_P D clW (wW ad2 cI cZ cA SHM M2) H → va_S (lA s) s.heap H locs → W p l e room_1 s m #[Value.ref b] below meth c H locs 32 2260 (lw_Z below #[Value.ref b] s) (F0 m 769 ls [])) : W p l e room_1 s m #[Value.ref b] below meth c H locs 32 2260 (lw_Z below #[Value.ref b] s) (F0 m 557 ls []) := by
  obtain ⟨hx, hb, hr, hml, hown, hts, hXX, hbl, hlocks, hgv⟩ := id hX.1
  refine lv_aload_n hx hb dl_557 rfl (lv_at hl 2 rfl) ?_
  refine lw_Ci hX hP1 hP2 hS hl.1 (mj := mi_X6_mirrorDirections) (rest := []) [] dl_558 ok_X6_mirrorDirections vL_86 c_X6_mirrorDirections rfl rfl (by decide) ⟨by decide, by decide⟩ (by decide) (by simp [rv, i3_of]) ⟨Nat.le_of_ble_eq_true rfl, Nat.le_of_ble_eq_true rfl⟩ (cl_mirrorDirections hC) (fun z1 r1 hs1 N1 H locs a1 hC1 hP1 hP2 hS => ?_)
  refine lv_aload_n hx hb dl_561 rfl (lv_at hl 1 rfl) ?_
  refine lw_Mi hX hP1 hP2 hS hl.1 (mj := mi_X7_mirrorDirections) (rest := [.int (i3 z1)]) [] dl_562 ok_X7_mirrorDirections vL_89 c_X7_mirrorDirections rfl rfl (by decide) ⟨by decide, by decide⟩ (by simp [Value.category]) (by simp [rv, i3_of]) ⟨Nat.le_of_ble_eq_true rfl, Nat.le_of_ble_eq_true rfl⟩ (ml_mirrorDirections hM) (fun z2 r2 hs2 N2 H locs a2 hM1 hP2 hP1 hS => ?_)
  obtain ⟨rfl, rfl, rfl⟩ := fn_mirrorDirections _ _ _ _ _ _ a1 a2
  exact lv_icmp_eq (tgt := 769) hx hb dl_565 (by decide) (fun _ => hend _ _ _ _ _ _ hC1 hM1 hP1 hP2 hS) (fun cc => absurd rfl cc)
theorem law_c18 (hX : LX p s m meth c b L xs ad1 ad2 D cI cZ cA) (hL : L ≤ 2560) {i : Nat} (hi : i + 5 ≤ L) (hC : CI M1 r hs) (hM : MS M2 r hs) (hP1 : va_P D clW (wW ad1 cI cZ cA SHC M1) H) (hP2 : va_P D clW (wW ad2 cI cZ cA SHM M2) H) (hS : va_S (lA s) s.heap H locs) (hl : lv_has ls 4 [(3, .int (i3 i)), (2, .ref (ad2 0)), (1, .ref (ad1 0)), (0, .ref b)]) (hend : ∀ (M1 M2 : Mem) (r : Row) (hs : List Row) (H : Heap) (locs : List Loc), CI M1 r hs → MS M2 r hs → va_P D clW (wW ad1 cI cZ cA SHC M1) H → va_P D clW (wW ad2 cI cZ cA SHM M2) H → va_S (lA s) s.heap H locs → W p l e room_1 s m #[Value.ref b] below meth c H locs 32 2260 (lw_Z below #[Value.ref b] s) (F0 m 769 ls [])) : W p l e room_1 s m #[Value.ref b] below meth c H locs 32 2260 (lw_Z below #[Value.ref b] s) (F0 m 570 ls []) := by
  obtain ⟨hx, hb, hr, hml, hown, hts, hXX, hbl, hlocks, hgv⟩ := id hX.1
  refine lv_aload_n hx hb dl_570 rfl (lv_at hl 2 rfl) ?_
  refine lw_Ci hX hP1 hP2 hS hl.1 (mj := mi_X6_isCentered) (rest := []) [] dl_571 ok_X6_isCentered vL_90 c_X6_isCentered rfl rfl (by decide) ⟨by decide, by decide⟩ (by decide) (by simp [rv, i3_of]) ⟨Nat.le_of_ble_eq_true rfl, Nat.le_of_ble_eq_true rfl⟩ (cl_isCentered hC) (fun z1 r1 hs1 N1 H locs a1 hC1 hP1 hP2 hS => ?_)
  refine lv_aload_n hx hb dl_574 rfl (lv_at hl 1 rfl) ?_
  refine lw_Mi hX hP1 hP2 hS hl.1 (mj := mi_X7_isCentered) (rest := [.int (i3 z1)]) [] dl_575 ok_X7_isCentered vL_93 c_X7_isCentered rfl rfl (by decide) ⟨by decide, by decide⟩ (by simp [Value.category]) (by simp [rv, i3_of]) ⟨Nat.le_of_ble_eq_true rfl, Nat.le_of_ble_eq_true rfl⟩ (ml_isCentered hM) (fun z2 r2 hs2 N2 H locs a2 hM1 hP2 hP1 hS => ?_)
  obtain ⟨rfl, rfl, rfl⟩ := fn_isCentered _ _ _ _ _ _ a1 a2
  exact lv_icmp_eq (tgt := 769) hx hb dl_578 (by decide) (fun _ => hend _ _ _ _ _ _ hC1 hM1 hP1 hP2 hS) (fun cc => absurd rfl cc)
theorem law_c19 (hX : LX p s m meth c b L xs ad1 ad2 D cI cZ cA) (hL : L ≤ 2560) {i : Nat} (hi : i + 5 ≤ L) (hC : CI M1 r hs) (hM : MS M2 r hs) (hP1 : va_P D clW (wW ad1 cI cZ cA SHC M1) H) (hP2 : va_P D clW (wW ad2 cI cZ cA SHM M2) H) (hS : va_S (lA s) s.heap H locs) (hl : lv_has ls 4 [(3, .int (i3 i)), (2, .ref (ad2 0)), (1, .ref (ad1 0)), (0, .ref b)]) (hend : ∀ (M1 M2 : Mem) (r : Row) (hs : List Row) (H : Heap) (locs : List Loc), CI M1 r hs → MS M2 r hs → va_P D clW (wW ad1 cI cZ cA SHC M1) H → va_P D clW (wW ad2 cI cZ cA SHM M2) H → va_S (lA s) s.heap H locs → W p l e room_1 s m #[Value.ref b] below meth c H locs 32 2260 (lw_Z below #[Value.ref b] s) (F0 m 769 ls [])) : W p l e room_1 s m #[Value.ref b] below meth c H locs 32 2260 (lw_Z below #[Value.ref b] s) (F0 m 583 ls []) := by
  obtain ⟨hx, hb, hr, hml, hown, hts, hXX, hbl, hlocks, hgv⟩ := id hX.1
  refine lv_aload_n hx hb dl_583 rfl (lv_at hl 2 rfl) ?_
  refine lw_Ci hX hP1 hP2 hS hl.1 (mj := mi_X6_type) (rest := []) [] dl_584 ok_X6_type vL_94 c_X6_type rfl rfl (by decide) ⟨by decide, by decide⟩ (by decide) (by simp [rv, i3_of]) ⟨Nat.le_of_ble_eq_true rfl, Nat.le_of_ble_eq_true rfl⟩ (cl_type hC) (fun z1 r1 hs1 N1 H locs a1 hC1 hP1 hP2 hS => ?_)
  refine lv_aload_n hx hb dl_587 rfl (lv_at hl 1 rfl) ?_
  refine lw_Mi hX hP1 hP2 hS hl.1 (mj := mi_X7_type) (rest := [.int (i3 z1)]) [] dl_588 ok_X7_type vL_97 c_X7_type rfl rfl (by decide) ⟨by decide, by decide⟩ (by simp [Value.category]) (by simp [rv, i3_of]) ⟨Nat.le_of_ble_eq_true rfl, Nat.le_of_ble_eq_true rfl⟩ (ml_type hM) (fun z2 r2 hs2 N2 H locs a2 hM1 hP2 hP1 hS => ?_)
  obtain ⟨rfl, rfl, rfl⟩ := fn_type _ _ _ _ _ _ a1 a2
  exact lv_icmp_eq (tgt := 769) hx hb dl_591 (by decide) (fun _ => hend _ _ _ _ _ _ hC1 hM1 hP1 hP2 hS) (fun cc => absurd rfl cc)
theorem law_c20 (hX : LX p s m meth c b L xs ad1 ad2 D cI cZ cA) (hL : L ≤ 2560) {i : Nat} (hi : i + 5 ≤ L) (hC : CI M1 r hs) (hM : MS M2 r hs) (hP1 : va_P D clW (wW ad1 cI cZ cA SHC M1) H) (hP2 : va_P D clW (wW ad2 cI cZ cA SHM M2) H) (hS : va_S (lA s) s.heap H locs) (hl : lv_has ls 4 [(3, .int (i3 i)), (2, .ref (ad2 0)), (1, .ref (ad1 0)), (0, .ref b)]) (hend : ∀ (M1 M2 : Mem) (r : Row) (hs : List Row) (H : Heap) (locs : List Loc), CI M1 r hs → MS M2 r hs → va_P D clW (wW ad1 cI cZ cA SHC M1) H → va_P D clW (wW ad2 cI cZ cA SHM M2) H → va_S (lA s) s.heap H locs → W p l e room_1 s m #[Value.ref b] below meth c H locs 32 2260 (lw_Z below #[Value.ref b] s) (F0 m 769 ls [])) : W p l e room_1 s m #[Value.ref b] below meth c H locs 32 2260 (lw_Z below #[Value.ref b] s) (F0 m 596 ls []) := by
  obtain ⟨hx, hb, hr, hml, hown, hts, hXX, hbl, hlocks, hgv⟩ := id hX.1
  refine lv_aload_n hx hb dl_596 rfl (lv_at hl 2 rfl) ?_
  refine ld hX.1 hL 1 (by omega) hS hl dl_597 dl_598 dl_599 dl_600 dl_601 ?_
  refine ld hX.1 hL 2 (by omega) hS hl dl_602 dl_603 dl_604 dl_605 dl_606 ?_
  refine lw_Ci hX hP1 hP2 hS hl.1 (mj := mi_X6_orbitSize) (rest := []) [vI (xs (i + 1)).toInt, vI (xs (i + 2)).toInt] dl_607 ok_X6_orbitSize vL_98 c_X6_orbitSize rfl rfl (by decide) ⟨by decide, by decide⟩ (by decide) (by simp [rv, i3_of]) ⟨Nat.le_of_ble_eq_true rfl, Nat.le_of_ble_eq_true rfl⟩ (cl_orbitSize hC (inR_of _) (inR_of _)) (fun z1 r1 hs1 N1 H locs a1 hC1 hP1 hP2 hS => ?_)
  refine lv_aload_n hx hb dl_610 rfl (lv_at hl 1 rfl) ?_
  refine ld hX.1 hL 1 (by omega) hS hl dl_611 dl_612 dl_613 dl_614 dl_615 ?_
  refine ld hX.1 hL 2 (by omega) hS hl dl_616 dl_617 dl_618 dl_619 dl_620 ?_
  refine lw_Mi hX hP1 hP2 hS hl.1 (mj := mi_X7_orbitSize) (rest := [.int (i3 z1)]) [vI (xs (i + 1)).toInt, vI (xs (i + 2)).toInt] dl_621 ok_X7_orbitSize vL_101 c_X7_orbitSize rfl rfl (by decide) ⟨by decide, by decide⟩ (by simp [Value.category]) (by simp [rv, i3_of]) ⟨Nat.le_of_ble_eq_true rfl, Nat.le_of_ble_eq_true rfl⟩ (ml_orbitSize hM (inR_of _) (inR_of _)) (fun z2 r2 hs2 N2 H locs a2 hM1 hP2 hP1 hS => ?_)
  obtain ⟨rfl, rfl, rfl⟩ := fn_orbitSize _ _ _ _ _ _ a1 a2
  exact lv_icmp_eq (tgt := 769) hx hb dl_624 (by decide) (fun _ => hend _ _ _ _ _ _ hC1 hM1 hP1 hP2 hS) (fun cc => absurd rfl cc)
theorem law_c21 (hX : LX p s m meth c b L xs ad1 ad2 D cI cZ cA) (hL : L ≤ 2560) {i : Nat} (hi : i + 5 ≤ L) (hC : CI M1 r hs) (hM : MS M2 r hs) (hP1 : va_P D clW (wW ad1 cI cZ cA SHC M1) H) (hP2 : va_P D clW (wW ad2 cI cZ cA SHM M2) H) (hS : va_S (lA s) s.heap H locs) (hl : lv_has ls 4 [(3, .int (i3 i)), (2, .ref (ad2 0)), (1, .ref (ad1 0)), (0, .ref b)]) (hend : ∀ (M1 M2 : Mem) (r : Row) (hs : List Row) (H : Heap) (locs : List Loc), CI M1 r hs → MS M2 r hs → va_P D clW (wW ad1 cI cZ cA SHC M1) H → va_P D clW (wW ad2 cI cZ cA SHM M2) H → va_S (lA s) s.heap H locs → W p l e room_1 s m #[Value.ref b] below meth c H locs 32 2260 (lw_Z below #[Value.ref b] s) (F0 m 769 ls [])) : W p l e room_1 s m #[Value.ref b] below meth c H locs 32 2260 (lw_Z below #[Value.ref b] s) (F0 m 629 ls []) := by
  obtain ⟨hx, hb, hr, hml, hown, hts, hXX, hbl, hlocks, hgv⟩ := id hX.1
  refine lv_aload_n hx hb dl_629 rfl (lv_at hl 2 rfl) ?_
  refine ld hX.1 hL 1 (by omega) hS hl dl_630 dl_631 dl_632 dl_633 dl_634 ?_
  refine ld hX.1 hL 2 (by omega) hS hl dl_635 dl_636 dl_637 dl_638 dl_639 ?_
  refine lw_Ci hX hP1 hP2 hS hl.1 (mj := mi_X6_orbitFirst) (rest := []) [vI (xs (i + 1)).toInt, vI (xs (i + 2)).toInt] dl_640 ok_X6_orbitFirst vL_102 c_X6_orbitFirst rfl rfl (by decide) ⟨by decide, by decide⟩ (by decide) (by simp [rv, i3_of]) ⟨Nat.le_of_ble_eq_true rfl, Nat.le_of_ble_eq_true rfl⟩ (cl_orbitFirst hC (inR_of _) (inR_of _)) (fun z1 r1 hs1 N1 H locs a1 hC1 hP1 hP2 hS => ?_)
  refine lv_aload_n hx hb dl_643 rfl (lv_at hl 1 rfl) ?_
  refine ld hX.1 hL 1 (by omega) hS hl dl_644 dl_645 dl_646 dl_647 dl_648 ?_
  refine ld hX.1 hL 2 (by omega) hS hl dl_649 dl_650 dl_651 dl_652 dl_653 ?_
  refine lw_Mi hX hP1 hP2 hS hl.1 (mj := mi_X7_orbitFirst) (rest := [.int (i3 z1)]) [vI (xs (i + 1)).toInt, vI (xs (i + 2)).toInt] dl_654 ok_X7_orbitFirst vL_105 c_X7_orbitFirst rfl rfl (by decide) ⟨by decide, by decide⟩ (by simp [Value.category]) (by simp [rv, i3_of]) ⟨Nat.le_of_ble_eq_true rfl, Nat.le_of_ble_eq_true rfl⟩ (ml_orbitFirst hM (inR_of _) (inR_of _)) (fun z2 r2 hs2 N2 H locs a2 hM1 hP2 hP1 hS => ?_)
  obtain ⟨rfl, rfl, rfl⟩ := fn_orbitFirst _ _ _ _ _ _ a1 a2
  exact lv_icmp_eq (tgt := 769) hx hb dl_657 (by decide) (fun _ => hend _ _ _ _ _ _ hC1 hM1 hP1 hP2 hS) (fun cc => absurd rfl cc)
theorem law_c22 (hX : LX p s m meth c b L xs ad1 ad2 D cI cZ cA) (hL : L ≤ 2560) {i : Nat} (hi : i + 5 ≤ L) (hC : CI M1 r hs) (hM : MS M2 r hs) (hP1 : va_P D clW (wW ad1 cI cZ cA SHC M1) H) (hP2 : va_P D clW (wW ad2 cI cZ cA SHM M2) H) (hS : va_S (lA s) s.heap H locs) (hl : lv_has ls 4 [(3, .int (i3 i)), (2, .ref (ad2 0)), (1, .ref (ad1 0)), (0, .ref b)]) (hend : ∀ (M1 M2 : Mem) (r : Row) (hs : List Row) (H : Heap) (locs : List Loc), CI M1 r hs → MS M2 r hs → va_P D clW (wW ad1 cI cZ cA SHC M1) H → va_P D clW (wW ad2 cI cZ cA SHM M2) H → va_S (lA s) s.heap H locs → W p l e room_1 s m #[Value.ref b] below meth c H locs 32 2260 (lw_Z below #[Value.ref b] s) (F0 m 769 ls [])) : W p l e room_1 s m #[Value.ref b] below meth c H locs 32 2260 (lw_Z below #[Value.ref b] s) (F0 m 662 ls []) := by
  obtain ⟨hx, hb, hr, hml, hown, hts, hXX, hbl, hlocks, hgv⟩ := id hX.1
  refine lv_aload_n hx hb dl_662 rfl (lv_at hl 2 rfl) ?_
  refine ld hX.1 hL 1 (by omega) hS hl dl_663 dl_664 dl_665 dl_666 dl_667 ?_
  refine ld hX.1 hL 2 (by omega) hS hl dl_668 dl_669 dl_670 dl_671 dl_672 ?_
  refine lw_Ci hX hP1 hP2 hS hl.1 (mj := mi_X6_stabilizerOrder) (rest := []) [vI (xs (i + 1)).toInt, vI (xs (i + 2)).toInt] dl_673 ok_X6_stabilizerOrder vL_106 c_X6_stabilizerOrder rfl rfl (by decide) ⟨by decide, by decide⟩ (by decide) (by simp [rv, i3_of]) ⟨Nat.le_of_ble_eq_true rfl, Nat.le_of_ble_eq_true rfl⟩ (cl_stabilizerOrder hC (inR_of _) (inR_of _)) (fun z1 r1 hs1 N1 H locs a1 hC1 hP1 hP2 hS => ?_)
  refine lv_aload_n hx hb dl_676 rfl (lv_at hl 1 rfl) ?_
  refine ld hX.1 hL 1 (by omega) hS hl dl_677 dl_678 dl_679 dl_680 dl_681 ?_
  refine ld hX.1 hL 2 (by omega) hS hl dl_682 dl_683 dl_684 dl_685 dl_686 ?_
  refine lw_Mi hX hP1 hP2 hS hl.1 (mj := mi_X7_stabilizerOrder) (rest := [.int (i3 z1)]) [vI (xs (i + 1)).toInt, vI (xs (i + 2)).toInt] dl_687 ok_X7_stabilizerOrder vL_109 c_X7_stabilizerOrder rfl rfl (by decide) ⟨by decide, by decide⟩ (by simp [Value.category]) (by simp [rv, i3_of]) ⟨Nat.le_of_ble_eq_true rfl, Nat.le_of_ble_eq_true rfl⟩ (ml_stabilizerOrder hM (inR_of _) (inR_of _)) (fun z2 r2 hs2 N2 H locs a2 hM1 hP2 hP1 hS => ?_)
  obtain ⟨rfl, rfl, rfl⟩ := fn_stabilizerOrder _ _ _ _ _ _ a1 a2
  exact lv_icmp_eq (tgt := 769) hx hb dl_690 (by decide) (fun _ => hend _ _ _ _ _ _ hC1 hM1 hP1 hP2 hS) (fun cc => absurd rfl cc)
theorem law_c23 (hX : LX p s m meth c b L xs ad1 ad2 D cI cZ cA) (hL : L ≤ 2560) {i : Nat} (hi : i + 5 ≤ L) (hC : CI M1 r hs) (hM : MS M2 r hs) (hP1 : va_P D clW (wW ad1 cI cZ cA SHC M1) H) (hP2 : va_P D clW (wW ad2 cI cZ cA SHM M2) H) (hS : va_S (lA s) s.heap H locs) (hl : lv_has ls 4 [(3, .int (i3 i)), (2, .ref (ad2 0)), (1, .ref (ad1 0)), (0, .ref b)]) (hend : ∀ (M1 M2 : Mem) (r : Row) (hs : List Row) (H : Heap) (locs : List Loc), CI M1 r hs → MS M2 r hs → va_P D clW (wW ad1 cI cZ cA SHC M1) H → va_P D clW (wW ad2 cI cZ cA SHM M2) H → va_S (lA s) s.heap H locs → W p l e room_1 s m #[Value.ref b] below meth c H locs 32 2260 (lw_Z below #[Value.ref b] s) (F0 m 769 ls [])) : W p l e room_1 s m #[Value.ref b] below meth c H locs 32 2260 (lw_Z below #[Value.ref b] s) (F0 m 695 ls []) := by
  obtain ⟨hx, hb, hr, hml, hown, hts, hXX, hbl, hlocks, hgv⟩ := id hX.1
  refine lv_aload_n hx hb dl_695 rfl (lv_at hl 2 rfl) ?_
  refine lw_Ci hX hP1 hP2 hS hl.1 (mj := mi_X6_orbitCount) (rest := []) [] dl_696 ok_X6_orbitCount vL_110 c_X6_orbitCount rfl rfl (by decide) ⟨by decide, by decide⟩ (by decide) (by simp [rv, i3_of]) ⟨Nat.le_of_ble_eq_true rfl, Nat.le_of_ble_eq_true rfl⟩ (cl_orbitCount hC) (fun z1 r1 hs1 N1 H locs a1 hC1 hP1 hP2 hS => ?_)
  refine lv_aload_n hx hb dl_699 rfl (lv_at hl 1 rfl) ?_
  refine lw_Mi hX hP1 hP2 hS hl.1 (mj := mi_X7_orbitCount) (rest := [.int (i3 z1)]) [] dl_700 ok_X7_orbitCount vL_113 c_X7_orbitCount rfl rfl (by decide) ⟨by decide, by decide⟩ (by simp [Value.category]) (by simp [rv, i3_of]) ⟨Nat.le_of_ble_eq_true rfl, Nat.le_of_ble_eq_true rfl⟩ (ml_orbitCount hM) (fun z2 r2 hs2 N2 H locs a2 hM1 hP2 hP1 hS => ?_)
  obtain ⟨rfl, rfl, rfl⟩ := fn_orbitCount _ _ _ _ _ _ a1 a2
  exact lv_icmp_eq (tgt := 769) hx hb dl_703 (by decide) (fun _ => hend _ _ _ _ _ _ hC1 hM1 hP1 hP2 hS) (fun cc => absurd rfl cc)
theorem law_c24 (hX : LX p s m meth c b L xs ad1 ad2 D cI cZ cA) (hL : L ≤ 2560) {i : Nat} (hi : i + 5 ≤ L) (hC : CI M1 r hs) (hM : MS M2 r hs) (hP1 : va_P D clW (wW ad1 cI cZ cA SHC M1) H) (hP2 : va_P D clW (wW ad2 cI cZ cA SHM M2) H) (hS : va_S (lA s) s.heap H locs) (hl : lv_has ls 4 [(3, .int (i3 i)), (2, .ref (ad2 0)), (1, .ref (ad1 0)), (0, .ref b)]) (hend : ∀ (M1 M2 : Mem) (r : Row) (hs : List Row) (H : Heap) (locs : List Loc), CI M1 r hs → MS M2 r hs → va_P D clW (wW ad1 cI cZ cA SHC M1) H → va_P D clW (wW ad2 cI cZ cA SHM M2) H → va_S (lA s) s.heap H locs → W p l e room_1 s m #[Value.ref b] below meth c H locs 32 2260 (lw_Z below #[Value.ref b] s) (F0 m 769 ls [])) : W p l e room_1 s m #[Value.ref b] below meth c H locs 32 2260 (lw_Z below #[Value.ref b] s) (F0 m 708 ls []) := by
  obtain ⟨hx, hb, hr, hml, hown, hts, hXX, hbl, hlocks, hgv⟩ := id hX.1
  refine lv_aload_n hx hb dl_708 rfl (lv_at hl 2 rfl) ?_
  refine lw_Ci hX hP1 hP2 hS hl.1 (mj := mi_X6_isSymmorphic) (rest := []) [] dl_709 ok_X6_isSymmorphic vL_114 c_X6_isSymmorphic rfl rfl (by decide) ⟨by decide, by decide⟩ (by decide) (by simp [rv, i3_of]) ⟨Nat.le_of_ble_eq_true rfl, Nat.le_of_ble_eq_true rfl⟩ (cl_isSymmorphic hC) (fun z1 r1 hs1 N1 H locs a1 hC1 hP1 hP2 hS => ?_)
  refine lv_aload_n hx hb dl_712 rfl (lv_at hl 1 rfl) ?_
  refine lw_Mi hX hP1 hP2 hS hl.1 (mj := mi_X7_isSymmorphic) (rest := [.int (i3 z1)]) [] dl_713 ok_X7_isSymmorphic vL_117 c_X7_isSymmorphic rfl rfl (by decide) ⟨by decide, by decide⟩ (by simp [Value.category]) (by simp [rv, i3_of]) ⟨Nat.le_of_ble_eq_true rfl, Nat.le_of_ble_eq_true rfl⟩ (ml_isSymmorphic hM) (fun z2 r2 hs2 N2 H locs a2 hM1 hP2 hP1 hS => ?_)
  obtain ⟨rfl, rfl, rfl⟩ := fn_isSymmorphic _ _ _ _ _ _ a1 a2
  exact lv_icmp_eq (tgt := 769) hx hb dl_716 (by decide) (fun _ => hend _ _ _ _ _ _ hC1 hM1 hP1 hP2 hS) (fun cc => absurd rfl cc)
theorem law_c25 (hX : LX p s m meth c b L xs ad1 ad2 D cI cZ cA) (hL : L ≤ 2560) {i : Nat} (hi : i + 5 ≤ L) (hC : CI M1 r hs) (hM : MS M2 r hs) (hP1 : va_P D clW (wW ad1 cI cZ cA SHC M1) H) (hP2 : va_P D clW (wW ad2 cI cZ cA SHM M2) H) (hS : va_S (lA s) s.heap H locs) (hl : lv_has ls 4 [(3, .int (i3 i)), (2, .ref (ad2 0)), (1, .ref (ad1 0)), (0, .ref b)]) (hend : ∀ (M1 M2 : Mem) (r : Row) (hs : List Row) (H : Heap) (locs : List Loc), CI M1 r hs → MS M2 r hs → va_P D clW (wW ad1 cI cZ cA SHC M1) H → va_P D clW (wW ad2 cI cZ cA SHM M2) H → va_S (lA s) s.heap H locs → W p l e room_1 s m #[Value.ref b] below meth c H locs 32 2260 (lw_Z below #[Value.ref b] s) (F0 m 769 ls [])) : W p l e room_1 s m #[Value.ref b] below meth c H locs 32 2260 (lw_Z below #[Value.ref b] s) (F0 m 721 ls []) := by
  obtain ⟨hx, hb, hr, hml, hown, hts, hXX, hbl, hlocks, hgv⟩ := id hX.1
  refine lv_aload_n hx hb dl_721 rfl (lv_at hl 2 rfl) ?_
  refine ld hX.1 hL 1 (by omega) hS hl dl_722 dl_723 dl_724 dl_725 dl_726 ?_
  refine lw_Cl hX hP1 hP2 hS hl.1 (mj := mi_X6_invariantColorings) (rest := []) [vI (xs (i + 1)).toInt] dl_727 ok_X6_invariantColorings vL_118 c_X6_invariantColorings rfl rfl (by decide) ⟨by decide, by decide⟩ (by decide) (by simp [rv, i3_of]) ⟨Nat.le_of_ble_eq_true rfl, Nat.le_of_ble_eq_true rfl⟩ (cl_invariantColorings hC (inR_of _)) (fun z1 r1 hs1 N1 H locs a1 hC1 hP1 hP2 hS => ?_)
  refine lv_aload_n hx hb dl_730 rfl (lv_at hl 1 rfl) ?_
  refine ld hX.1 hL 1 (by omega) hS hl dl_731 dl_732 dl_733 dl_734 dl_735 ?_
  refine lw_Ml hX hP1 hP2 hS hl.1 (mj := mi_X7_invariantColorings) (rest := [.long (i6 z1)]) [vI (xs (i + 1)).toInt] dl_736 ok_X7_invariantColorings vL_122 c_X7_invariantColorings rfl rfl (by decide) ⟨by decide, by decide⟩ (by simp [Value.category]) (by simp [rv, i3_of]) ⟨Nat.le_of_ble_eq_true rfl, Nat.le_of_ble_eq_true rfl⟩ (ml_invariantColorings hM (inR_of _)) (fun z2 r2 hs2 N2 H locs a2 hM1 hP2 hP1 hS => ?_)
  obtain ⟨rfl, rfl, rfl⟩ := fn_invariantColorings _ _ _ _ _ _ a1 a2
  refine W.lcmp hx hb dl_739 ?_
  have ec : lg_cmp (i6 z1) (i6 z1) = 0 := by simp [lg_cmp]
  rw [ec]
  exact lv_if_eq (tgt := 769) hx hb dl_740 (by decide) (fun _ => hend _ _ _ _ _ _ hC1 hM1 hP1 hP2 hS) (fun cc => absurd rfl cc)
theorem law_c26 (hX : LX p s m meth c b L xs ad1 ad2 D cI cZ cA) (hL : L ≤ 2560) {i : Nat} (hi : i + 5 ≤ L) (hC : CI M1 r hs) (hM : MS M2 r hs) (hP1 : va_P D clW (wW ad1 cI cZ cA SHC M1) H) (hP2 : va_P D clW (wW ad2 cI cZ cA SHM M2) H) (hS : va_S (lA s) s.heap H locs) (hl : lv_has ls 4 [(3, .int (i3 i)), (2, .ref (ad2 0)), (1, .ref (ad1 0)), (0, .ref b)]) (hend : ∀ (M1 M2 : Mem) (r : Row) (hs : List Row) (H : Heap) (locs : List Loc), CI M1 r hs → MS M2 r hs → va_P D clW (wW ad1 cI cZ cA SHC M1) H → va_P D clW (wW ad2 cI cZ cA SHM M2) H → va_S (lA s) s.heap H locs → W p l e room_1 s m #[Value.ref b] below meth c H locs 32 2260 (lw_Z below #[Value.ref b] s) (F0 m 769 ls [])) : W p l e room_1 s m #[Value.ref b] below meth c H locs 32 2260 (lw_Z below #[Value.ref b] s) (F0 m 745 ls []) := by
  obtain ⟨hx, hb, hr, hml, hown, hts, hXX, hbl, hlocks, hgv⟩ := id hX.1
  refine lv_aload_n hx hb dl_745 rfl (lv_at hl 2 rfl) ?_
  refine ld hX.1 hL 1 (by omega) hS hl dl_746 dl_747 dl_748 dl_749 dl_750 ?_
  refine lw_Cl hX hP1 hP2 hS hl.1 (mj := mi_X6_coloringClasses) (rest := []) [vI (xs (i + 1)).toInt] dl_751 ok_X6_coloringClasses vL_123 c_X6_coloringClasses rfl rfl (by decide) ⟨by decide, by decide⟩ (by decide) (by simp [rv, i3_of]) ⟨Nat.le_of_ble_eq_true rfl, Nat.le_of_ble_eq_true rfl⟩ (cl_coloringClasses hC (inR_of _)) (fun z1 r1 hs1 N1 H locs a1 hC1 hP1 hP2 hS => ?_)
  refine lv_aload_n hx hb dl_754 rfl (lv_at hl 1 rfl) ?_
  refine ld hX.1 hL 1 (by omega) hS hl dl_755 dl_756 dl_757 dl_758 dl_759 ?_
  refine lw_Ml hX hP1 hP2 hS hl.1 (mj := mi_X7_coloringClasses) (rest := [.long (i6 z1)]) [vI (xs (i + 1)).toInt] dl_760 ok_X7_coloringClasses vL_126 c_X7_coloringClasses rfl rfl (by decide) ⟨by decide, by decide⟩ (by simp [Value.category]) (by simp [rv, i3_of]) ⟨Nat.le_of_ble_eq_true rfl, Nat.le_of_ble_eq_true rfl⟩ (ml_coloringClasses hM (inR_of _)) (fun z2 r2 hs2 N2 H locs a2 hM1 hP2 hP1 hS => ?_)
  obtain ⟨rfl, rfl, rfl⟩ := fn_coloringClasses _ _ _ _ _ _ a1 a2
  refine W.lcmp hx hb dl_763 ?_
  have ec : lg_cmp (i6 z1) (i6 z1) = 0 := by simp [lg_cmp]
  rw [ec]
  exact lv_if_eq (tgt := 769) hx hb dl_764 (by decide) (fun _ => hend _ _ _ _ _ _ hC1 hM1 hP1 hP2 hS) (fun cc => absurd rfl cc)
theorem law_loop (hX : LX p s m meth c b L xs ad1 ad2 D cI cZ cA) (hL : L ≤ 2560) : ∀ (n i : Nat), i ≤ L → L + 1 ≤ i + n → ∀ (M1 M2 : Mem) (r : Row) (hs : List Row) (H : Heap) (locs : List Loc) (ls : Array Slot), CI M1 r hs → MS M2 r hs → va_P D clW (wW ad1 cI cZ cA SHC M1) H → va_P D clW (wW ad2 cI cZ cA SHM M2) H → va_S (lA s) s.heap H locs → lv_has ls 4 [(3, .int (i3 i)), (2, .ref (ad2 0)), (1, .ref (ad1 0)), (0, .ref b)] → W p l e room_1 s m #[Value.ref b] below meth c H locs 32 2260 (lw_Z below #[Value.ref b] s) (F0 m 18 ls []) := by
  obtain ⟨hx, hb, hr, hml, hown, hts, hXX, hbl, hlocks, hgv⟩ := id hX.1
  have hbA : ¬ (lA s) b := Nat.not_le.mpr hbl
  intro n
  induction n with
  | zero =>
    intro i h1 h2
    exact absurd h2 (by omega)
  | succ n ih =>
    intro i hiL hn M1 M2 r hs H locs ls hC hM hP1 hP2 hS hl
    have hend : i + 5 ≤ L → ∀ (M1 M2 : Mem) (r : Row) (hs : List Row) (H : Heap) (locs : List Loc), CI M1 r hs → MS M2 r hs → va_P D clW (wW ad1 cI cZ cA SHC M1) H → va_P D clW (wW ad2 cI cZ cA SHM M2) H → va_S (lA s) s.heap H locs → W p l e room_1 s m #[Value.ref b] below meth c H locs 32 2260 (lw_Z below #[Value.ref b] s) (F0 m 769 ls []) := fun h5 M1 M2 r hs H locs hC hM hP1 hP2 hS => by
      refine lv_iinc (k := 0) (v := i3 ((i + 5 : Nat) : Int)) (lv' := [(3, .int (i3 ((i + 5 : Nat) : Int))), (2, .ref (ad2 0)), (1, .ref (ad1 0)), (0, .ref b)]) hx hb dl_769 hl rfl (by rw [Int.natCast_add, ← i3_add]; rfl) (by decide) rfl (fun ls hl => ?_)
      refine lv_goto (tgt := 18) hx hb dl_772 (by decide) ?_
      exact ih (i + 5) (by omega) (by omega) M1 M2 r hs H locs ls hC hM hP1 hP2 hS hl
    refine lv_iload_n hx hb dl_18 rfl (lv_at hl 0 rfl) ?_
    refine lv_aload_n hx hb dl_19 rfl (lv_at hl 3 rfl) ?_
    refine va_slen hx hb hXX hbl hbA hS dl_20 ?_
    refine lv_iconst (v := i3 5) hx hb dl_21 rfl ?_
    refine lv_isub hx hb dl_22 ?_
    have eL : Int32.ofNat L - i3 5 = i3 ((L : Int) - 5) := by rw [← i3_sub, i3_nI]; rfl
    rw [eL]
    refine lv_icmp_gt (tgt := 775) hx hb dl_23 (by decide) (fun cc => ?_) (fun cc => ?_)
    · refine lv_iconst (v := 1) hx hb dl_775 (by decide) ?_
      refine va_forget (fun q hq => hS.2.2 q hq) ?_
      refine W.widen (k := 600000) (n := 7302250) (Nat.le_of_ble_eq_true rfl) (Nat.le_of_ble_eq_true rfl) ?_
      exact lw_ret hx hb hr hlocks dl_776
    · have h5 : i + 5 ≤ L := by
        rw [i3_lt (by unfold inR; omega) (by unfold inR; omega)] at cc
        omega
      have e0 : (i3 (i : Int)).toNatClampNeg = i := by
        rw [i3_clamp (by unfold inR; omega) (by omega)]
        omega
      refine lv_aload_n hx hb dl_26 rfl (lv_at hl 3 rfl) ?_
      refine lv_iload_n hx hb dl_27 rfl (lv_at hl 0 rfl) ?_
      refine va_sld hx hb hXX hbl hbA hS (vp_in_i3 (by omega) (by omega) (by omega)) dl_28 ?_
      rw [e0]
      refine lv_bipush (v := 31) hx hb dl_29 (by decide) ?_
      refine lv_iand hx hb dl_31 ?_
      obtain ⟨z, hz⟩ : ∃ z : Int, z = (xs i &&& 31).toInt := ⟨_, rfl⟩
      rcases (show z = 0 ∨ z = 1 ∨ z = 2 ∨ z = 3 ∨ z = 4 ∨ z = 5 ∨ z = 6 ∨ z = 7 ∨ z = 8 ∨ z = 9 ∨ z = 10 ∨ z = 11 ∨ z = 12 ∨ z = 13 ∨ z = 14 ∨ z = 15 ∨ z = 16 ∨ z = 17 ∨ z = 18 ∨ z = 19 ∨ z = 20 ∨ z = 21 ∨ z = 22 ∨ z = 23 ∨ z = 24 ∨ z = 25 ∨ z = 26 ∨  z < 0 ∨ 26 < z by omega) with q | q | q | q | q | q | q | q | q | q | q | q | q | q | q | q | q | q | q | q | q | q | q | q | q | q | q | q | q
      · exact lv_tableIn (off := 124) (tgt := 156) hx hb dl_32 (by omega) (by omega) (by rw [← hz, q]; rfl) (by decide) (law_c0 hX hL h5 hC hM hP1 hP2 hS hl (hend h5))
      · exact lv_tableIn (off := 157) (tgt := 189) hx hb dl_32 (by omega) (by omega) (by rw [← hz, q]; rfl) (by decide) (law_c1 hX hL h5 hC hM hP1 hP2 hS hl (hend h5))
      · exact lv_tableIn (off := 200) (tgt := 232) hx hb dl_32 (by omega) (by omega) (by rw [← hz, q]; rfl) (by decide) (law_c2 hX hL h5 hC hM hP1 hP2 hS hl (hend h5))
      · exact lv_tableIn (off := 223) (tgt := 255) hx hb dl_32 (by omega) (by omega) (by rw [← hz, q]; rfl) (by decide) (law_c3 hX hL h5 hC hM hP1 hP2 hS hl (hend h5))
      · exact lv_tableIn (off := 276) (tgt := 308) hx hb dl_32 (by omega) (by omega) (by rw [← hz, q]; rfl) (by decide) (law_c4 hX hL h5 hC hM hP1 hP2 hS hl (hend h5))
      · exact lv_tableIn (off := 289) (tgt := 321) hx hb dl_32 (by omega) (by omega) (by rw [← hz, q]; rfl) (by decide) (law_c5 hX hL h5 hC hM hP1 hP2 hS hl (hend h5))
      · exact lv_tableIn (off := 312) (tgt := 344) hx hb dl_32 (by omega) (by omega) (by rw [← hz, q]; rfl) (by decide) (law_c6 hX hL h5 hC hM hP1 hP2 hS hl (hend h5))
      · exact lv_tableIn (off := 325) (tgt := 357) hx hb dl_32 (by omega) (by omega) (by rw [← hz, q]; rfl) (by decide) (law_c7 hX hL h5 hC hM hP1 hP2 hS hl (hend h5))
      · exact lv_tableIn (off := 348) (tgt := 380) hx hb dl_32 (by omega) (by omega) (by rw [← hz, q]; rfl) (by decide) (law_c8 hX hL h5 hC hM hP1 hP2 hS hl (hend h5))
      · exact lv_tableIn (off := 371) (tgt := 403) hx hb dl_32 (by omega) (by omega) (by rw [← hz, q]; rfl) (by decide) (law_c9 hX hL h5 hC hM hP1 hP2 hS hl (hend h5))
      · exact lv_tableIn (off := 404) (tgt := 436) hx hb dl_32 (by omega) (by omega) (by rw [← hz, q]; rfl) (by decide) (law_c10 hX hL h5 hC hM hP1 hP2 hS hl (hend h5))
      · exact lv_tableIn (off := 427) (tgt := 459) hx hb dl_32 (by omega) (by omega) (by rw [← hz, q]; rfl) (by decide) (law_c11 hX hL h5 hC hM hP1 hP2 hS hl (hend h5))
      · exact lv_tableIn (off := 450) (tgt := 482) hx hb dl_32 (by omega) (by omega) (by rw [← hz, q]; rfl) (by decide) (law_c12 hX hL h5 hC hM hP1 hP2 hS hl (hend h5))
      · exact lv_tableIn (off := 473) (tgt := 505) hx hb dl_32 (by omega) (by omega) (by rw [← hz, q]; rfl) (by decide) (law_c13 hX hL h5 hC hM hP1 hP2 hS hl (hend h5))
      · exact lv_tableIn (off := 486) (tgt := 518) hx hb dl_32 (by omega) (by omega) (by rw [← hz, q]; rfl) (by decide) (law_c14 hX hL h5 hC hM hP1 hP2 hS hl (hend h5))
      · exact lv_tableIn (off := 499) (tgt := 531) hx hb dl_32 (by omega) (by omega) (by rw [← hz, q]; rfl) (by decide) (law_c15 hX hL h5 hC hM hP1 hP2 hS hl (hend h5))
      · exact lv_tableIn (off := 512) (tgt := 544) hx hb dl_32 (by omega) (by omega) (by rw [← hz, q]; rfl) (by decide) (law_c16 hX hL h5 hC hM hP1 hP2 hS hl (hend h5))
      · exact lv_tableIn (off := 525) (tgt := 557) hx hb dl_32 (by omega) (by omega) (by rw [← hz, q]; rfl) (by decide) (law_c17 hX hL h5 hC hM hP1 hP2 hS hl (hend h5))
      · exact lv_tableIn (off := 538) (tgt := 570) hx hb dl_32 (by omega) (by omega) (by rw [← hz, q]; rfl) (by decide) (law_c18 hX hL h5 hC hM hP1 hP2 hS hl (hend h5))
      · exact lv_tableIn (off := 551) (tgt := 583) hx hb dl_32 (by omega) (by omega) (by rw [← hz, q]; rfl) (by decide) (law_c19 hX hL h5 hC hM hP1 hP2 hS hl (hend h5))
      · exact lv_tableIn (off := 564) (tgt := 596) hx hb dl_32 (by omega) (by omega) (by rw [← hz, q]; rfl) (by decide) (law_c20 hX hL h5 hC hM hP1 hP2 hS hl (hend h5))
      · exact lv_tableIn (off := 597) (tgt := 629) hx hb dl_32 (by omega) (by omega) (by rw [← hz, q]; rfl) (by decide) (law_c21 hX hL h5 hC hM hP1 hP2 hS hl (hend h5))
      · exact lv_tableIn (off := 630) (tgt := 662) hx hb dl_32 (by omega) (by omega) (by rw [← hz, q]; rfl) (by decide) (law_c22 hX hL h5 hC hM hP1 hP2 hS hl (hend h5))
      · exact lv_tableIn (off := 663) (tgt := 695) hx hb dl_32 (by omega) (by omega) (by rw [← hz, q]; rfl) (by decide) (law_c23 hX hL h5 hC hM hP1 hP2 hS hl (hend h5))
      · exact lv_tableIn (off := 676) (tgt := 708) hx hb dl_32 (by omega) (by omega) (by rw [← hz, q]; rfl) (by decide) (law_c24 hX hL h5 hC hM hP1 hP2 hS hl (hend h5))
      · exact lv_tableIn (off := 689) (tgt := 721) hx hb dl_32 (by omega) (by omega) (by rw [← hz, q]; rfl) (by decide) (law_c25 hX hL h5 hC hM hP1 hP2 hS hl (hend h5))
      · exact lv_tableIn (off := 713) (tgt := 745) hx hb dl_32 (by omega) (by omega) (by rw [← hz, q]; rfl) (by decide) (law_c26 hX hL h5 hC hM hP1 hP2 hS hl (hend h5))
      · exact lv_tableOut (tgt := 769) hx hb dl_32 (by omega) (by decide) (hend h5 M1 M2 r hs H locs hC hM hP1 hP2 hS)
      · exact lv_tableOut (tgt := 769) hx hb dl_32 (by omega) (by decide) (hend h5 M1 M2 r hs H locs hC hM hP1 hP2 hS)
end CAS
