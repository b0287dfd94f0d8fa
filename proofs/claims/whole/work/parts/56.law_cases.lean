theorem lw_in {i L : Nat} (k : Nat) (hk : k < 6) (hi : i + 6 ≤ L) (hL : L ≤ 3072) : vp_in (nI i + nI k) L := by
  rw [nI_add]
  exact vp_in_nI (by omega) (by omega)
theorem lw_cmp (r : Int64) : lg_cmp r r = 0 := by
  unfold lg_cmp
  rw [if_neg Int64.lt_irrefl, if_pos rfl]
section LAWC
variable {p : Program} {l : Launch} {e : Env} {s : State} {m : MethodId} {below : List Frame} {meth : Method} {c : Code} {H : Heap} {locs : List Loc} {cells slots : Nat} {Q : State → Prop} {ls : Array Slot} {D : va_G} {g : fg_G} {w : fg_W} {b L i : Nat} {xs : Nat → Int32}
theorem lw_case0 (S : CallFix p m c cL_law 4 s #[Value.ref b] fg_TW RL) (hX : va_X b L xs s s.heap) (hbl : b < s.heap.size) (hbA : ¬ fg_A g s.heap.size b) (hK : fg_KN D g s) (hw : rr w) (h : fg_H D g s.heap w H locs) (hi : i + 6 ≤ L) (hL : L ≤ 3072) (hl : lv_has ls 4 [(3, .int (nI i)), (0, .ref b), (1, .ref (g.1 3 0 0)), (2, .ref (g.1 4 0 0))]) (hz : cells ≤ room_1.cells ∧ slots ≤ room_1.slots) (kk : ∀ (w : fg_W) (H : Heap) (locs : List Loc), rr w → fg_H D g s.heap w H locs → W p l e room_1 s m #[Value.ref b] below meth c H locs cells slots Q (F0 m 1453 ls [])) : W p l e room_1 s m #[Value.ref b] below meth c H locs cells slots Q (F0 m 216 ls []) := by
  obtain ⟨r, w1, w2, hf1, hf2, hw2⟩ := ag_lot hw (xs (nI i + 1).toNatClampNeg) (xs (nI i + 2).toNatClampNeg) (xs (nI i + 3).toNatClampNeg)
  refine lv_aload_n S.1 S.2.1 dL_law_216 rfl (lv_at hl 2 rfl) ?_
  refine lv_aload_n S.1 S.2.1 dL_law_217 rfl (lv_at hl 1 rfl) ?_
  refine lv_iload_n S.1 S.2.1 dL_law_218 rfl (lv_at hl 0 rfl) ?_
  refine lv_iconst (v := 1) S.1 S.2.1 dL_law_219 rfl ?_
  refine lv_iadd S.1 S.2.1 dL_law_220 ?_
  refine va_sld S.1 S.2.1 hX hbl hbA h.2.2 (lw_in 1 (by decide) hi hL) dL_law_221 ?_
  refine lv_aload_n S.1 S.2.1 dL_law_222 rfl (lv_at hl 1 rfl) ?_
  refine lv_iload_n S.1 S.2.1 dL_law_223 rfl (lv_at hl 0 rfl) ?_
  refine lv_iconst (v := 2) S.1 S.2.1 dL_law_224 rfl ?_
  refine lv_iadd S.1 S.2.1 dL_law_225 ?_
  refine va_sld S.1 S.2.1 hX hbl hbA h.2.2 (lw_in 2 (by decide) hi hL) dL_law_226 ?_
  refine lv_aload_n S.1 S.2.1 dL_law_227 rfl (lv_at hl 1 rfl) ?_
  refine lv_iload_n S.1 S.2.1 dL_law_228 rfl (lv_at hl 0 rfl) ?_
  refine lv_iconst (v := 3) S.1 S.2.1 dL_law_229 rfl ?_
  refine lv_iadd S.1 S.2.1 dL_law_230 ?_
  refine va_sld S.1 S.2.1 hX hbl hbA h.2.2 (lw_in 3 (by decide) hi hL) dL_law_231 ?_
  refine fg_ci h (fg_runV (rest := []) S hK h (c_X3_lot l D g (xs (nI i + 1).toNatClampNeg) (xs (nI i + 2).toNatClampNeg) (xs (nI i + 3).toNatClampNeg) w r w1 hf1) vg_RL_13 vd_X3_lot ⟨Nat.le_of_ble_eq_true rfl, Nat.le_of_ble_eq_true rfl⟩ fg_p3_0 rfl rfl rfl hl.1 rfl (Nat.le_of_ble_eq_true rfl) dL_law_232 hz) (fun H locs h => ?_)
  refine lv_aload_n S.1 S.2.1 dL_law_235 rfl (lv_at hl 3 rfl) ?_
  refine lv_aload_n S.1 S.2.1 dL_law_236 rfl (lv_at hl 1 rfl) ?_
  refine lv_iload_n S.1 S.2.1 dL_law_237 rfl (lv_at hl 0 rfl) ?_
  refine lv_iconst (v := 1) S.1 S.2.1 dL_law_238 rfl ?_
  refine lv_iadd S.1 S.2.1 dL_law_239 ?_
  refine va_sld S.1 S.2.1 hX hbl hbA h.2.2 (lw_in 1 (by decide) hi hL) dL_law_240 ?_
  refine lv_aload_n S.1 S.2.1 dL_law_241 rfl (lv_at hl 1 rfl) ?_
  refine lv_iload_n S.1 S.2.1 dL_law_242 rfl (lv_at hl 0 rfl) ?_
  refine lv_iconst (v := 2) S.1 S.2.1 dL_law_243 rfl ?_
  refine lv_iadd S.1 S.2.1 dL_law_244 ?_
  refine va_sld S.1 S.2.1 hX hbl hbA h.2.2 (lw_in 2 (by decide) hi hL) dL_law_245 ?_
  refine lv_aload_n S.1 S.2.1 dL_law_246 rfl (lv_at hl 1 rfl) ?_
  refine lv_iload_n S.1 S.2.1 dL_law_247 rfl (lv_at hl 0 rfl) ?_
  refine lv_iconst (v := 3) S.1 S.2.1 dL_law_248 rfl ?_
  refine lv_iadd S.1 S.2.1 dL_law_249 ?_
  refine va_sld S.1 S.2.1 hX hbl hbA h.2.2 (lw_in 3 (by decide) hi hL) dL_law_250 ?_
  refine fg_ci h (fg_runV (rest := [.int r]) S hK h (c_X4_lot l D g (xs (nI i + 1).toNatClampNeg) (xs (nI i + 2).toNatClampNeg) (xs (nI i + 3).toNatClampNeg) w1 r w2 hf2) vg_RL_17 vd_X4_lot ⟨Nat.le_of_ble_eq_true rfl, Nat.le_of_ble_eq_true rfl⟩ fg_p4_0 rfl rfl rfl hl.1 rfl (Nat.le_of_ble_eq_true rfl) dL_law_251 hz) (fun H locs h => ?_)
  exact lv_icmp_eq (tgt := 1453) S.1 S.2.1 dL_law_254 (by decide) (fun _ => kk w2 H locs hw2 h) (fun hc => absurd rfl hc)
theorem lw_case1 (S : CallFix p m c cL_law 4 s #[Value.ref b] fg_TW RL) (hX : va_X b L xs s s.heap) (hbl : b < s.heap.size) (hbA : ¬ fg_A g s.heap.size b) (hK : fg_KN D g s) (hw : rr w) (h : fg_H D g s.heap w H locs) (hi : i + 6 ≤ L) (hL : L ≤ 3072) (hl : lv_has ls 4 [(3, .int (nI i)), (0, .ref b), (1, .ref (g.1 3 0 0)), (2, .ref (g.1 4 0 0))]) (hz : cells ≤ room_1.cells ∧ slots ≤ room_1.slots) (kk : ∀ (w : fg_W) (H : Heap) (locs : List Loc), rr w → fg_H D g s.heap w H locs → W p l e room_1 s m #[Value.ref b] below meth c H locs cells slots Q (F0 m 1453 ls [])) : W p l e room_1 s m #[Value.ref b] below meth c H locs cells slots Q (F0 m 259 ls []) := by
  obtain ⟨r, w1, w2, hf1, hf2, hw2⟩ := ag_lotOf hw (xs (nI i + 1).toNatClampNeg) (xs (nI i + 2).toNatClampNeg)
  refine lv_aload_n S.1 S.2.1 dL_law_259 rfl (lv_at hl 2 rfl) ?_
  refine lv_aload_n S.1 S.2.1 dL_law_260 rfl (lv_at hl 1 rfl) ?_
  refine lv_iload_n S.1 S.2.1 dL_law_261 rfl (lv_at hl 0 rfl) ?_
  refine lv_iconst (v := 1) S.1 S.2.1 dL_law_262 rfl ?_
  refine lv_iadd S.1 S.2.1 dL_law_263 ?_
  refine va_sld S.1 S.2.1 hX hbl hbA h.2.2 (lw_in 1 (by decide) hi hL) dL_law_264 ?_
  refine lv_aload_n S.1 S.2.1 dL_law_265 rfl (lv_at hl 1 rfl) ?_
  refine lv_iload_n S.1 S.2.1 dL_law_266 rfl (lv_at hl 0 rfl) ?_
  refine lv_iconst (v := 2) S.1 S.2.1 dL_law_267 rfl ?_
  refine lv_iadd S.1 S.2.1 dL_law_268 ?_
  refine va_sld S.1 S.2.1 hX hbl hbA h.2.2 (lw_in 2 (by decide) hi hL) dL_law_269 ?_
  refine fg_ci h (fg_runV (rest := []) S hK h (c_X3_lotOf l D g (xs (nI i + 1).toNatClampNeg) (xs (nI i + 2).toNatClampNeg) w r w1 hf1) vg_RL_18 vd_X3_lotOf ⟨Nat.le_of_ble_eq_true rfl, Nat.le_of_ble_eq_true rfl⟩ fg_p3_0 rfl rfl rfl hl.1 rfl (Nat.le_of_ble_eq_true rfl) dL_law_270 hz) (fun H locs h => ?_)
  refine lv_aload_n S.1 S.2.1 dL_law_273 rfl (lv_at hl 3 rfl) ?_
  refine lv_aload_n S.1 S.2.1 dL_law_274 rfl (lv_at hl 1 rfl) ?_
  refine lv_iload_n S.1 S.2.1 dL_law_275 rfl (lv_at hl 0 rfl) ?_
  refine lv_iconst (v := 1) S.1 S.2.1 dL_law_276 rfl ?_
  refine lv_iadd S.1 S.2.1 dL_law_277 ?_
  refine va_sld S.1 S.2.1 hX hbl hbA h.2.2 (lw_in 1 (by decide) hi hL) dL_law_278 ?_
  refine lv_aload_n S.1 S.2.1 dL_law_279 rfl (lv_at hl 1 rfl) ?_
  refine lv_iload_n S.1 S.2.1 dL_law_280 rfl (lv_at hl 0 rfl) ?_
  refine lv_iconst (v := 2) S.1 S.2.1 dL_law_281 rfl ?_
  refine lv_iadd S.1 S.2.1 dL_law_282 ?_
  refine va_sld S.1 S.2.1 hX hbl hbA h.2.2 (lw_in 2 (by decide) hi hL) dL_law_283 ?_
  refine fg_ci h (fg_runV (rest := [.int r]) S hK h (c_X4_lotOf l D g (xs (nI i + 1).toNatClampNeg) (xs (nI i + 2).toNatClampNeg) w1 r w2 hf2) vg_RL_22 vd_X4_lotOf ⟨Nat.le_of_ble_eq_true rfl, Nat.le_of_ble_eq_true rfl⟩ fg_p4_0 rfl rfl rfl hl.1 rfl (Nat.le_of_ble_eq_true rfl) dL_law_284 hz) (fun H locs h => ?_)
  exact lv_icmp_eq (tgt := 1453) S.1 S.2.1 dL_law_287 (by decide) (fun _ => kk w2 H locs hw2 h) (fun hc => absurd rfl hc)
theorem lw_case2 (S : CallFix p m c cL_law 4 s #[Value.ref b] fg_TW RL) (hX : va_X b L xs s s.heap) (hbl : b < s.heap.size) (hbA : ¬ fg_A g s.heap.size b) (hK : fg_KN D g s) (hw : rr w) (h : fg_H D g s.heap w H locs) (hi : i + 6 ≤ L) (hL : L ≤ 3072) (hl : lv_has ls 4 [(3, .int (nI i)), (0, .ref b), (1, .ref (g.1 3 0 0)), (2, .ref (g.1 4 0 0))]) (hz : cells ≤ room_1.cells ∧ slots ≤ room_1.slots) (kk : ∀ (w : fg_W) (H : Heap) (locs : List Loc), rr w → fg_H D g s.heap w H locs → W p l e room_1 s m #[Value.ref b] below meth c H locs cells slots Q (F0 m 1453 ls [])) : W p l e room_1 s m #[Value.ref b] below meth c H locs cells slots Q (F0 m 292 ls []) := by
  obtain ⟨r, w1, w2, hf1, hf2, hw2⟩ := ag_sun hw (xs (nI i + 1).toNatClampNeg) (xs (nI i + 2).toNatClampNeg)
  refine lv_aload_n S.1 S.2.1 dL_law_292 rfl (lv_at hl 2 rfl) ?_
  refine lv_aload_n S.1 S.2.1 dL_law_293 rfl (lv_at hl 1 rfl) ?_
  refine lv_iload_n S.1 S.2.1 dL_law_294 rfl (lv_at hl 0 rfl) ?_
  refine lv_iconst (v := 1) S.1 S.2.1 dL_law_295 rfl ?_
  refine lv_iadd S.1 S.2.1 dL_law_296 ?_
  refine va_sld S.1 S.2.1 hX hbl hbA h.2.2 (lw_in 1 (by decide) hi hL) dL_law_297 ?_
  refine lv_aload_n S.1 S.2.1 dL_law_298 rfl (lv_at hl 1 rfl) ?_
  refine lv_iload_n S.1 S.2.1 dL_law_299 rfl (lv_at hl 0 rfl) ?_
  refine lv_iconst (v := 2) S.1 S.2.1 dL_law_300 rfl ?_
  refine lv_iadd S.1 S.2.1 dL_law_301 ?_
  refine va_sld S.1 S.2.1 hX hbl hbA h.2.2 (lw_in 2 (by decide) hi hL) dL_law_302 ?_
  refine fg_ci h (fg_runV (rest := []) S hK h (c_X3_sun l D g (xs (nI i + 1).toNatClampNeg) (xs (nI i + 2).toNatClampNeg) w r w1 hf1) vg_RL_23 vd_X3_sun ⟨Nat.le_of_ble_eq_true rfl, Nat.le_of_ble_eq_true rfl⟩ fg_p3_0 rfl rfl rfl hl.1 rfl (Nat.le_of_ble_eq_true rfl) dL_law_303 hz) (fun H locs h => ?_)
  refine lv_aload_n S.1 S.2.1 dL_law_306 rfl (lv_at hl 3 rfl) ?_
  refine lv_aload_n S.1 S.2.1 dL_law_307 rfl (lv_at hl 1 rfl) ?_
  refine lv_iload_n S.1 S.2.1 dL_law_308 rfl (lv_at hl 0 rfl) ?_
  refine lv_iconst (v := 1) S.1 S.2.1 dL_law_309 rfl ?_
  refine lv_iadd S.1 S.2.1 dL_law_310 ?_
  refine va_sld S.1 S.2.1 hX hbl hbA h.2.2 (lw_in 1 (by decide) hi hL) dL_law_311 ?_
  refine lv_aload_n S.1 S.2.1 dL_law_312 rfl (lv_at hl 1 rfl) ?_
  refine lv_iload_n S.1 S.2.1 dL_law_313 rfl (lv_at hl 0 rfl) ?_
  refine lv_iconst (v := 2) S.1 S.2.1 dL_law_314 rfl ?_
  refine lv_iadd S.1 S.2.1 dL_law_315 ?_
  refine va_sld S.1 S.2.1 hX hbl hbA h.2.2 (lw_in 2 (by decide) hi hL) dL_law_316 ?_
  refine fg_ci h (fg_runV (rest := [.int r]) S hK h (c_X4_sun l D g (xs (nI i + 1).toNatClampNeg) (xs (nI i + 2).toNatClampNeg) w1 r w2 hf2) vg_RL_26 vd_X4_sun ⟨Nat.le_of_ble_eq_true rfl, Nat.le_of_ble_eq_true rfl⟩ fg_p4_0 rfl rfl rfl hl.1 rfl (Nat.le_of_ble_eq_true rfl) dL_law_317 hz) (fun H locs h => ?_)
  exact lv_icmp_eq (tgt := 1453) S.1 S.2.1 dL_law_320 (by decide) (fun _ => kk w2 H locs hw2 h) (fun hc => absurd rfl hc)
theorem lw_case3 (S : CallFix p m c cL_law 4 s #[Value.ref b] fg_TW RL) (hX : va_X b L xs s s.heap) (hbl : b < s.heap.size) (hbA : ¬ fg_A g s.heap.size b) (hK : fg_KN D g s) (hw : rr w) (h : fg_H D g s.heap w H locs) (hi : i + 6 ≤ L) (hL : L ≤ 3072) (hl : lv_has ls 4 [(3, .int (nI i)), (0, .ref b), (1, .ref (g.1 3 0 0)), (2, .ref (g.1 4 0 0))]) (hz : cells ≤ room_1.cells ∧ slots ≤ room_1.slots) (kk : ∀ (w : fg_W) (H : Heap) (locs : List Loc), rr w → fg_H D g s.heap w H locs → W p l e room_1 s m #[Value.ref b] below meth c H locs cells slots Q (F0 m 1453 ls [])) : W p l e room_1 s m #[Value.ref b] below meth c H locs cells slots Q (F0 m 325 ls []) := by
  obtain ⟨r, w1, w2, hf1, hf2, hw2⟩ := ag_mist hw (xs (nI i + 1).toNatClampNeg)
  refine lv_aload_n S.1 S.2.1 dL_law_325 rfl (lv_at hl 2 rfl) ?_
  refine lv_aload_n S.1 S.2.1 dL_law_326 rfl (lv_at hl 1 rfl) ?_
  refine lv_iload_n S.1 S.2.1 dL_law_327 rfl (lv_at hl 0 rfl) ?_
  refine lv_iconst (v := 1) S.1 S.2.1 dL_law_328 rfl ?_
  refine lv_iadd S.1 S.2.1 dL_law_329 ?_
  refine va_sld S.1 S.2.1 hX hbl hbA h.2.2 (lw_in 1 (by decide) hi hL) dL_law_330 ?_
  refine fg_ci h (fg_runV (rest := []) S hK h (c_X3_mist l D g (xs (nI i + 1).toNatClampNeg) w r w1 hf1) vg_RL_27 vd_X3_mist ⟨Nat.le_of_ble_eq_true rfl, Nat.le_of_ble_eq_true rfl⟩ fg_p3_0 rfl rfl rfl hl.1 rfl (Nat.le_of_ble_eq_true rfl) dL_law_331 hz) (fun H locs h => ?_)
  refine lv_aload_n S.1 S.2.1 dL_law_334 rfl (lv_at hl 3 rfl) ?_
  refine lv_aload_n S.1 S.2.1 dL_law_335 rfl (lv_at hl 1 rfl) ?_
  refine lv_iload_n S.1 S.2.1 dL_law_336 rfl (lv_at hl 0 rfl) ?_
  refine lv_iconst (v := 1) S.1 S.2.1 dL_law_337 rfl ?_
  refine lv_iadd S.1 S.2.1 dL_law_338 ?_
  refine va_sld S.1 S.2.1 hX hbl hbA h.2.2 (lw_in 1 (by decide) hi hL) dL_law_339 ?_
  refine fg_ci h (fg_runV (rest := [.int r]) S hK h (c_X4_mist l D g (xs (nI i + 1).toNatClampNeg) w1 r w2 hf2) vg_RL_31 vd_X4_mist ⟨Nat.le_of_ble_eq_true rfl, Nat.le_of_ble_eq_true rfl⟩ fg_p4_0 rfl rfl rfl hl.1 rfl (Nat.le_of_ble_eq_true rfl) dL_law_340 hz) (fun H locs h => ?_)
  exact lv_icmp_eq (tgt := 1453) S.1 S.2.1 dL_law_343 (by decide) (fun _ => kk w2 H locs hw2 h) (fun hc => absurd rfl hc)
theorem lw_case4 (S : CallFix p m c cL_law 4 s #[Value.ref b] fg_TW RL) (hX : va_X b L xs s s.heap) (hbl : b < s.heap.size) (hbA : ¬ fg_A g s.heap.size b) (hK : fg_KN D g s) (hw : rr w) (h : fg_H D g s.heap w H locs) (hi : i + 6 ≤ L) (hL : L ≤ 3072) (hl : lv_has ls 4 [(3, .int (nI i)), (0, .ref b), (1, .ref (g.1 3 0 0)), (2, .ref (g.1 4 0 0))]) (hz : cells ≤ room_1.cells ∧ slots ≤ room_1.slots) (kk : ∀ (w : fg_W) (H : Heap) (locs : List Loc), rr w → fg_H D g s.heap w H locs → W p l e room_1 s m #[Value.ref b] below meth c H locs cells slots Q (F0 m 1453 ls [])) : W p l e room_1 s m #[Value.ref b] below meth c H locs cells slots Q (F0 m 348 ls []) := by
  obtain ⟨r, w1, w2, hf1, hf2, hw2⟩ := ag_person hw (xs (nI i + 1).toNatClampNeg)
  refine lv_aload_n S.1 S.2.1 dL_law_348 rfl (lv_at hl 2 rfl) ?_
  refine lv_aload_n S.1 S.2.1 dL_law_349 rfl (lv_at hl 1 rfl) ?_
  refine lv_iload_n S.1 S.2.1 dL_law_350 rfl (lv_at hl 0 rfl) ?_
  refine lv_iconst (v := 1) S.1 S.2.1 dL_law_351 rfl ?_
  refine lv_iadd S.1 S.2.1 dL_law_352 ?_
  refine va_sld S.1 S.2.1 hX hbl hbA h.2.2 (lw_in 1 (by decide) hi hL) dL_law_353 ?_
  refine fg_ci h (fg_runV (rest := []) S hK h (c_X3_person l D g (xs (nI i + 1).toNatClampNeg) w r w1 hf1) vg_RL_32 vd_X3_person ⟨Nat.le_of_ble_eq_true rfl, Nat.le_of_ble_eq_true rfl⟩ fg_p3_0 rfl rfl rfl hl.1 rfl (Nat.le_of_ble_eq_true rfl) dL_law_354 hz) (fun H locs h => ?_)
  refine lv_aload_n S.1 S.2.1 dL_law_357 rfl (lv_at hl 3 rfl) ?_
  refine lv_aload_n S.1 S.2.1 dL_law_358 rfl (lv_at hl 1 rfl) ?_
  refine lv_iload_n S.1 S.2.1 dL_law_359 rfl (lv_at hl 0 rfl) ?_
  refine lv_iconst (v := 1) S.1 S.2.1 dL_law_360 rfl ?_
  refine lv_iadd S.1 S.2.1 dL_law_361 ?_
  refine va_sld S.1 S.2.1 hX hbl hbA h.2.2 (lw_in 1 (by decide) hi hL) dL_law_362 ?_
  refine fg_ci h (fg_runV (rest := [.int r]) S hK h (c_X4_person l D g (xs (nI i + 1).toNatClampNeg) w1 r w2 hf2) vg_RL_35 vd_X4_person ⟨Nat.le_of_ble_eq_true rfl, Nat.le_of_ble_eq_true rfl⟩ fg_p4_0 rfl rfl rfl hl.1 rfl (Nat.le_of_ble_eq_true rfl) dL_law_363 hz) (fun H locs h => ?_)
  exact lv_icmp_eq (tgt := 1453) S.1 S.2.1 dL_law_366 (by decide) (fun _ => kk w2 H locs hw2 h) (fun hc => absurd rfl hc)
theorem lw_case5 (S : CallFix p m c cL_law 4 s #[Value.ref b] fg_TW RL) (hX : va_X b L xs s s.heap) (hbl : b < s.heap.size) (hbA : ¬ fg_A g s.heap.size b) (hK : fg_KN D g s) (hw : rr w) (h : fg_H D g s.heap w H locs) (hi : i + 6 ≤ L) (hL : L ≤ 3072) (hl : lv_has ls 4 [(3, .int (nI i)), (0, .ref b), (1, .ref (g.1 3 0 0)), (2, .ref (g.1 4 0 0))]) (hz : cells ≤ room_1.cells ∧ slots ≤ room_1.slots) (kk : ∀ (w : fg_W) (H : Heap) (locs : List Loc), rr w → fg_H D g s.heap w H locs → W p l e room_1 s m #[Value.ref b] below meth c H locs cells slots Q (F0 m 1453 ls [])) : W p l e room_1 s m #[Value.ref b] below meth c H locs cells slots Q (F0 m 371 ls []) := by
  obtain ⟨r, w1, w2, hf1, hf2, hw2⟩ := ag_of hw (xs (nI i + 1).toNatClampNeg) (xs (nI i + 2).toNatClampNeg)
  refine lv_aload_n S.1 S.2.1 dL_law_371 rfl (lv_at hl 2 rfl) ?_
  refine lv_aload_n S.1 S.2.1 dL_law_372 rfl (lv_at hl 1 rfl) ?_
  refine lv_iload_n S.1 S.2.1 dL_law_373 rfl (lv_at hl 0 rfl) ?_
  refine lv_iconst (v := 1) S.1 S.2.1 dL_law_374 rfl ?_
  refine lv_iadd S.1 S.2.1 dL_law_375 ?_
  refine va_sld S.1 S.2.1 hX hbl hbA h.2.2 (lw_in 1 (by decide) hi hL) dL_law_376 ?_
  refine lv_aload_n S.1 S.2.1 dL_law_377 rfl (lv_at hl 1 rfl) ?_
  refine lv_iload_n S.1 S.2.1 dL_law_378 rfl (lv_at hl 0 rfl) ?_
  refine lv_iconst (v := 2) S.1 S.2.1 dL_law_379 rfl ?_
  refine lv_iadd S.1 S.2.1 dL_law_380 ?_
  refine va_sld S.1 S.2.1 hX hbl hbA h.2.2 (lw_in 2 (by decide) hi hL) dL_law_381 ?_
  refine fg_ci h (fg_runV (rest := []) S hK h (c_X3_of l D g (xs (nI i + 1).toNatClampNeg) (xs (nI i + 2).toNatClampNeg) w r w1 hf1) vg_RL_36 vd_X3_of ⟨Nat.le_of_ble_eq_true rfl, Nat.le_of_ble_eq_true rfl⟩ fg_p3_0 rfl rfl rfl hl.1 rfl (Nat.le_of_ble_eq_true rfl) dL_law_382 hz) (fun H locs h => ?_)
  refine lv_aload_n S.1 S.2.1 dL_law_385 rfl (lv_at hl 3 rfl) ?_
  refine lv_aload_n S.1 S.2.1 dL_law_386 rfl (lv_at hl 1 rfl) ?_
  refine lv_iload_n S.1 S.2.1 dL_law_387 rfl (lv_at hl 0 rfl) ?_
  refine lv_iconst (v := 1) S.1 S.2.1 dL_law_388 rfl ?_
  refine lv_iadd S.1 S.2.1 dL_law_389 ?_
  refine va_sld S.1 S.2.1 hX hbl hbA h.2.2 (lw_in 1 (by decide) hi hL) dL_law_390 ?_
  refine lv_aload_n S.1 S.2.1 dL_law_391 rfl (lv_at hl 1 rfl) ?_
  refine lv_iload_n S.1 S.2.1 dL_law_392 rfl (lv_at hl 0 rfl) ?_
  refine lv_iconst (v := 2) S.1 S.2.1 dL_law_393 rfl ?_
  refine lv_iadd S.1 S.2.1 dL_law_394 ?_
  refine va_sld S.1 S.2.1 hX hbl hbA h.2.2 (lw_in 2 (by decide) hi hL) dL_law_395 ?_
  refine fg_ci h (fg_runV (rest := [.int r]) S hK h (c_X4_of l D g (xs (nI i + 1).toNatClampNeg) (xs (nI i + 2).toNatClampNeg) w1 r w2 hf2) vg_RL_39 vd_X4_of ⟨Nat.le_of_ble_eq_true rfl, Nat.le_of_ble_eq_true rfl⟩ fg_p4_0 rfl rfl rfl hl.1 rfl (Nat.le_of_ble_eq_true rfl) dL_law_396 hz) (fun H locs h => ?_)
  exact lv_icmp_eq (tgt := 1453) S.1 S.2.1 dL_law_399 (by decide) (fun _ => kk w2 H locs hw2 h) (fun hc => absurd rfl hc)
theorem lw_case6 (S : CallFix p m c cL_law 4 s #[Value.ref b] fg_TW RL) (hX : va_X b L xs s s.heap) (hbl : b < s.heap.size) (hbA : ¬ fg_A g s.heap.size b) (hK : fg_KN D g s) (hw : rr w) (h : fg_H D g s.heap w H locs) (hi : i + 6 ≤ L) (hL : L ≤ 3072) (hl : lv_has ls 4 [(3, .int (nI i)), (0, .ref b), (1, .ref (g.1 3 0 0)), (2, .ref (g.1 4 0 0))]) (hz : cells ≤ room_1.cells ∧ slots ≤ room_1.slots) (kk : ∀ (w : fg_W) (H : Heap) (locs : List Loc), rr w → fg_H D g s.heap w H locs → W p l e room_1 s m #[Value.ref b] below meth c H locs cells slots Q (F0 m 1453 ls [])) : W p l e room_1 s m #[Value.ref b] below meth c H locs cells slots Q (F0 m 404 ls []) := by
  obtain ⟨r, w1, w2, hf1, hf2, hw2⟩ := ag_change hw (xs (nI i + 1).toNatClampNeg) (xs (nI i + 2).toNatClampNeg) (xs (nI i + 3).toNatClampNeg)
  refine lv_aload_n S.1 S.2.1 dL_law_404 rfl (lv_at hl 2 rfl) ?_
  refine lv_aload_n S.1 S.2.1 dL_law_405 rfl (lv_at hl 1 rfl) ?_
  refine lv_iload_n S.1 S.2.1 dL_law_406 rfl (lv_at hl 0 rfl) ?_
  refine lv_iconst (v := 1) S.1 S.2.1 dL_law_407 rfl ?_
  refine lv_iadd S.1 S.2.1 dL_law_408 ?_
  refine va_sld S.1 S.2.1 hX hbl hbA h.2.2 (lw_in 1 (by decide) hi hL) dL_law_409 ?_
  refine lv_aload_n S.1 S.2.1 dL_law_410 rfl (lv_at hl 1 rfl) ?_
  refine lv_iload_n S.1 S.2.1 dL_law_411 rfl (lv_at hl 0 rfl) ?_
  refine lv_iconst (v := 2) S.1 S.2.1 dL_law_412 rfl ?_
  refine lv_iadd S.1 S.2.1 dL_law_413 ?_
  refine va_sld S.1 S.2.1 hX hbl hbA h.2.2 (lw_in 2 (by decide) hi hL) dL_law_414 ?_
  refine lv_aload_n S.1 S.2.1 dL_law_415 rfl (lv_at hl 1 rfl) ?_
  refine lv_iload_n S.1 S.2.1 dL_law_416 rfl (lv_at hl 0 rfl) ?_
  refine lv_iconst (v := 3) S.1 S.2.1 dL_law_417 rfl ?_
  refine lv_iadd S.1 S.2.1 dL_law_418 ?_
  refine va_sld S.1 S.2.1 hX hbl hbA h.2.2 (lw_in 3 (by decide) hi hL) dL_law_419 ?_
  refine fg_ci h (fg_runV (rest := []) S hK h (c_X3_change l D g (xs (nI i + 1).toNatClampNeg) (xs (nI i + 2).toNatClampNeg) (xs (nI i + 3).toNatClampNeg) w r w1 hf1) vg_RL_40 vd_X3_change ⟨Nat.le_of_ble_eq_true rfl, Nat.le_of_ble_eq_true rfl⟩ fg_p3_0 rfl rfl rfl hl.1 rfl (Nat.le_of_ble_eq_true rfl) dL_law_420 hz) (fun H locs h => ?_)
  refine lv_aload_n S.1 S.2.1 dL_law_423 rfl (lv_at hl 3 rfl) ?_
  refine lv_aload_n S.1 S.2.1 dL_law_424 rfl (lv_at hl 1 rfl) ?_
  refine lv_iload_n S.1 S.2.1 dL_law_425 rfl (lv_at hl 0 rfl) ?_
  refine lv_iconst (v := 1) S.1 S.2.1 dL_law_426 rfl ?_
  refine lv_iadd S.1 S.2.1 dL_law_427 ?_
  refine va_sld S.1 S.2.1 hX hbl hbA h.2.2 (lw_in 1 (by decide) hi hL) dL_law_428 ?_
  refine lv_aload_n S.1 S.2.1 dL_law_429 rfl (lv_at hl 1 rfl) ?_
  refine lv_iload_n S.1 S.2.1 dL_law_430 rfl (lv_at hl 0 rfl) ?_
  refine lv_iconst (v := 2) S.1 S.2.1 dL_law_431 rfl ?_
  refine lv_iadd S.1 S.2.1 dL_law_432 ?_
  refine va_sld S.1 S.2.1 hX hbl hbA h.2.2 (lw_in 2 (by decide) hi hL) dL_law_433 ?_
  refine lv_aload_n S.1 S.2.1 dL_law_434 rfl (lv_at hl 1 rfl) ?_
  refine lv_iload_n S.1 S.2.1 dL_law_435 rfl (lv_at hl 0 rfl) ?_
  refine lv_iconst (v := 3) S.1 S.2.1 dL_law_436 rfl ?_
  refine lv_iadd S.1 S.2.1 dL_law_437 ?_
  refine va_sld S.1 S.2.1 hX hbl hbA h.2.2 (lw_in 3 (by decide) hi hL) dL_law_438 ?_
  refine fg_ci h (fg_runV (rest := [.int r]) S hK h (c_X4_change l D g (xs (nI i + 1).toNatClampNeg) (xs (nI i + 2).toNatClampNeg) (xs (nI i + 3).toNatClampNeg) w1 r w2 hf2) vg_RL_43 vd_X4_change ⟨Nat.le_of_ble_eq_true rfl, Nat.le_of_ble_eq_true rfl⟩ fg_p4_0 rfl rfl rfl hl.1 rfl (Nat.le_of_ble_eq_true rfl) dL_law_439 hz) (fun H locs h => ?_)
  exact lv_icmp_eq (tgt := 1453) S.1 S.2.1 dL_law_442 (by decide) (fun _ => kk w2 H locs hw2 h) (fun hc => absurd rfl hc)
theorem lw_case7 (S : CallFix p m c cL_law 4 s #[Value.ref b] fg_TW RL) (hX : va_X b L xs s s.heap) (hbl : b < s.heap.size) (hbA : ¬ fg_A g s.heap.size b) (hK : fg_KN D g s) (hw : rr w) (h : fg_H D g s.heap w H locs) (hi : i + 6 ≤ L) (hL : L ≤ 3072) (hl : lv_has ls 4 [(3, .int (nI i)), (0, .ref b), (1, .ref (g.1 3 0 0)), (2, .ref (g.1 4 0 0))]) (hz : cells ≤ room_1.cells ∧ slots ≤ room_1.slots) (kk : ∀ (w : fg_W) (H : Heap) (locs : List Loc), rr w → fg_H D g s.heap w H locs → W p l e room_1 s m #[Value.ref b] below meth c H locs cells slots Q (F0 m 1453 ls [])) : W p l e room_1 s m #[Value.ref b] below meth c H locs cells slots Q (F0 m 447 ls []) := by
  obtain ⟨r, w1, w2, hf1, hf2, hw2⟩ := ag_trust hw (xs (nI i + 1).toNatClampNeg) (xs (nI i + 2).toNatClampNeg)
  refine lv_aload_n S.1 S.2.1 dL_law_447 rfl (lv_at hl 2 rfl) ?_
  refine lv_aload_n S.1 S.2.1 dL_law_448 rfl (lv_at hl 1 rfl) ?_
  refine lv_iload_n S.1 S.2.1 dL_law_449 rfl (lv_at hl 0 rfl) ?_
  refine lv_iconst (v := 1) S.1 S.2.1 dL_law_450 rfl ?_
  refine lv_iadd S.1 S.2.1 dL_law_451 ?_
  refine va_sld S.1 S.2.1 hX hbl hbA h.2.2 (lw_in 1 (by decide) hi hL) dL_law_452 ?_
  refine lv_aload_n S.1 S.2.1 dL_law_453 rfl (lv_at hl 1 rfl) ?_
  refine lv_iload_n S.1 S.2.1 dL_law_454 rfl (lv_at hl 0 rfl) ?_
  refine lv_iconst (v := 2) S.1 S.2.1 dL_law_455 rfl ?_
  refine lv_iadd S.1 S.2.1 dL_law_456 ?_
  refine va_sld S.1 S.2.1 hX hbl hbA h.2.2 (lw_in 2 (by decide) hi hL) dL_law_457 ?_
  refine fg_ci h (fg_runV (rest := []) S hK h (c_X3_trust l D g (xs (nI i + 1).toNatClampNeg) (xs (nI i + 2).toNatClampNeg) w r w1 hf1) vg_RL_44 vd_X3_trust ⟨Nat.le_of_ble_eq_true rfl, Nat.le_of_ble_eq_true rfl⟩ fg_p3_0 rfl rfl rfl hl.1 rfl (Nat.le_of_ble_eq_true rfl) dL_law_458 hz) (fun H locs h => ?_)
  refine lv_aload_n S.1 S.2.1 dL_law_461 rfl (lv_at hl 3 rfl) ?_
  refine lv_aload_n S.1 S.2.1 dL_law_462 rfl (lv_at hl 1 rfl) ?_
  refine lv_iload_n S.1 S.2.1 dL_law_463 rfl (lv_at hl 0 rfl) ?_
  refine lv_iconst (v := 1) S.1 S.2.1 dL_law_464 rfl ?_
  refine lv_iadd S.1 S.2.1 dL_law_465 ?_
  refine va_sld S.1 S.2.1 hX hbl hbA h.2.2 (lw_in 1 (by decide) hi hL) dL_law_466 ?_
  refine lv_aload_n S.1 S.2.1 dL_law_467 rfl (lv_at hl 1 rfl) ?_
  refine lv_iload_n S.1 S.2.1 dL_law_468 rfl (lv_at hl 0 rfl) ?_
  refine lv_iconst (v := 2) S.1 S.2.1 dL_law_469 rfl ?_
  refine lv_iadd S.1 S.2.1 dL_law_470 ?_
  refine va_sld S.1 S.2.1 hX hbl hbA h.2.2 (lw_in 2 (by decide) hi hL) dL_law_471 ?_
  refine fg_ci h (fg_runV (rest := [.int r]) S hK h (c_X4_trust l D g (xs (nI i + 1).toNatClampNeg) (xs (nI i + 2).toNatClampNeg) w1 r w2 hf2) vg_RL_47 vd_X4_trust ⟨Nat.le_of_ble_eq_true rfl, Nat.le_of_ble_eq_true rfl⟩ fg_p4_0 rfl rfl rfl hl.1 rfl (Nat.le_of_ble_eq_true rfl) dL_law_472 hz) (fun H locs h => ?_)
  exact lv_icmp_eq (tgt := 1453) S.1 S.2.1 dL_law_475 (by decide) (fun _ => kk w2 H locs hw2 h) (fun hc => absurd rfl hc)
theorem lw_case8 (S : CallFix p m c cL_law 4 s #[Value.ref b] fg_TW RL) (hX : va_X b L xs s s.heap) (hbl : b < s.heap.size) (hbA : ¬ fg_A g s.heap.size b) (hK : fg_KN D g s) (hw : rr w) (h : fg_H D g s.heap w H locs) (hi : i + 6 ≤ L) (hL : L ≤ 3072) (hl : lv_has ls 4 [(3, .int (nI i)), (0, .ref b), (1, .ref (g.1 3 0 0)), (2, .ref (g.1 4 0 0))]) (hz : cells ≤ room_1.cells ∧ slots ≤ room_1.slots) (kk : ∀ (w : fg_W) (H : Heap) (locs : List Loc), rr w → fg_H D g s.heap w H locs → W p l e room_1 s m #[Value.ref b] below meth c H locs cells slots Q (F0 m 1453 ls [])) : W p l e room_1 s m #[Value.ref b] below meth c H locs cells slots Q (F0 m 480 ls []) := by
  obtain ⟨r, w1, w2, hf1, hf2, hw2⟩ := ag_go hw (xs (nI i + 1).toNatClampNeg)
  refine lv_aload_n S.1 S.2.1 dL_law_480 rfl (lv_at hl 2 rfl) ?_
  refine lv_aload_n S.1 S.2.1 dL_law_481 rfl (lv_at hl 1 rfl) ?_
  refine lv_iload_n S.1 S.2.1 dL_law_482 rfl (lv_at hl 0 rfl) ?_
  refine lv_iconst (v := 1) S.1 S.2.1 dL_law_483 rfl ?_
  refine lv_iadd S.1 S.2.1 dL_law_484 ?_
  refine va_sld S.1 S.2.1 hX hbl hbA h.2.2 (lw_in 1 (by decide) hi hL) dL_law_485 ?_
  refine fg_ci h (fg_runV (rest := []) S hK h (c_X3_go l D g (xs (nI i + 1).toNatClampNeg) w r w1 hf1) vg_RL_48 vd_X3_go ⟨Nat.le_of_ble_eq_true rfl, Nat.le_of_ble_eq_true rfl⟩ fg_p3_0 rfl rfl rfl hl.1 rfl (Nat.le_of_ble_eq_true rfl) dL_law_486 hz) (fun H locs h => ?_)
  refine lv_aload_n S.1 S.2.1 dL_law_489 rfl (lv_at hl 3 rfl) ?_
  refine lv_aload_n S.1 S.2.1 dL_law_490 rfl (lv_at hl 1 rfl) ?_
  refine lv_iload_n S.1 S.2.1 dL_law_491 rfl (lv_at hl 0 rfl) ?_
  refine lv_iconst (v := 1) S.1 S.2.1 dL_law_492 rfl ?_
  refine lv_iadd S.1 S.2.1 dL_law_493 ?_
  refine va_sld S.1 S.2.1 hX hbl hbA h.2.2 (lw_in 1 (by decide) hi hL) dL_law_494 ?_
  refine fg_ci h (fg_runV (rest := [.int r]) S hK h (c_X4_go l D g (xs (nI i + 1).toNatClampNeg) w1 r w2 hf2) vg_RL_51 vd_X4_go ⟨Nat.le_of_ble_eq_true rfl, Nat.le_of_ble_eq_true rfl⟩ fg_p4_0 rfl rfl rfl hl.1 rfl (Nat.le_of_ble_eq_true rfl) dL_law_495 hz) (fun H locs h => ?_)
  exact lv_icmp_eq (tgt := 1453) S.1 S.2.1 dL_law_498 (by decide) (fun _ => kk w2 H locs hw2 h) (fun hc => absurd rfl hc)
theorem lw_case9 (S : CallFix p m c cL_law 4 s #[Value.ref b] fg_TW RL) (hX : va_X b L xs s s.heap) (hbl : b < s.heap.size) (hbA : ¬ fg_A g s.heap.size b) (hK : fg_KN D g s) (hw : rr w) (h : fg_H D g s.heap w H locs) (hi : i + 6 ≤ L) (hL : L ≤ 3072) (hl : lv_has ls 4 [(3, .int (nI i)), (0, .ref b), (1, .ref (g.1 3 0 0)), (2, .ref (g.1 4 0 0))]) (hz : cells ≤ room_1.cells ∧ slots ≤ room_1.slots) (kk : ∀ (w : fg_W) (H : Heap) (locs : List Loc), rr w → fg_H D g s.heap w H locs → W p l e room_1 s m #[Value.ref b] below meth c H locs cells slots Q (F0 m 1453 ls [])) : W p l e room_1 s m #[Value.ref b] below meth c H locs cells slots Q (F0 m 503 ls []) := by
  obtain ⟨r, w1, w2, hf1, hf2, hw2⟩ := ag_now hw (xs (nI i + 1).toNatClampNeg)
  refine lv_aload_n S.1 S.2.1 dL_law_503 rfl (lv_at hl 2 rfl) ?_
  refine lv_aload_n S.1 S.2.1 dL_law_504 rfl (lv_at hl 1 rfl) ?_
  refine lv_iload_n S.1 S.2.1 dL_law_505 rfl (lv_at hl 0 rfl) ?_
  refine lv_iconst (v := 1) S.1 S.2.1 dL_law_506 rfl ?_
  refine lv_iadd S.1 S.2.1 dL_law_507 ?_
  refine va_sld S.1 S.2.1 hX hbl hbA h.2.2 (lw_in 1 (by decide) hi hL) dL_law_508 ?_
  refine fg_ci h (fg_runV (rest := []) S hK h (c_X3_now l D g (xs (nI i + 1).toNatClampNeg) w r w1 hf1) vg_RL_52 vd_X3_now ⟨Nat.le_of_ble_eq_true rfl, Nat.le_of_ble_eq_true rfl⟩ fg_p3_0 rfl rfl rfl hl.1 rfl (Nat.le_of_ble_eq_true rfl) dL_law_509 hz) (fun H locs h => ?_)
  refine lv_aload_n S.1 S.2.1 dL_law_512 rfl (lv_at hl 3 rfl) ?_
  refine lv_aload_n S.1 S.2.1 dL_law_513 rfl (lv_at hl 1 rfl) ?_
  refine lv_iload_n S.1 S.2.1 dL_law_514 rfl (lv_at hl 0 rfl) ?_
  refine lv_iconst (v := 1) S.1 S.2.1 dL_law_515 rfl ?_
  refine lv_iadd S.1 S.2.1 dL_law_516 ?_
  refine va_sld S.1 S.2.1 hX hbl hbA h.2.2 (lw_in 1 (by decide) hi hL) dL_law_517 ?_
  refine fg_ci h (fg_runV (rest := [.int r]) S hK h (c_X4_now l D g (xs (nI i + 1).toNatClampNeg) w1 r w2 hf2) vg_RL_55 vd_X4_now ⟨Nat.le_of_ble_eq_true rfl, Nat.le_of_ble_eq_true rfl⟩ fg_p4_0 rfl rfl rfl hl.1 rfl (Nat.le_of_ble_eq_true rfl) dL_law_518 hz) (fun H locs h => ?_)
  exact lv_icmp_eq (tgt := 1453) S.1 S.2.1 dL_law_521 (by decide) (fun _ => kk w2 H locs hw2 h) (fun hc => absurd rfl hc)
theorem lw_case10 (S : CallFix p m c cL_law 4 s #[Value.ref b] fg_TW RL) (hX : va_X b L xs s s.heap) (hbl : b < s.heap.size) (hbA : ¬ fg_A g s.heap.size b) (hK : fg_KN D g s) (hw : rr w) (h : fg_H D g s.heap w H locs) (hi : i + 6 ≤ L) (hL : L ≤ 3072) (hl : lv_has ls 4 [(3, .int (nI i)), (0, .ref b), (1, .ref (g.1 3 0 0)), (2, .ref (g.1 4 0 0))]) (hz : cells ≤ room_1.cells ∧ slots ≤ room_1.slots) (kk : ∀ (w : fg_W) (H : Heap) (locs : List Loc), rr w → fg_H D g s.heap w H locs → W p l e room_1 s m #[Value.ref b] below meth c H locs cells slots Q (F0 m 1453 ls [])) : W p l e room_1 s m #[Value.ref b] below meth c H locs cells slots Q (F0 m 526 ls []) := by
  obtain ⟨r, w1, w2, hf1, hf2, hw2⟩ := ag_ahead hw (xs (nI i + 1).toNatClampNeg) (xs (nI i + 2).toNatClampNeg) (xs (nI i + 3).toNatClampNeg)
  refine lv_aload_n S.1 S.2.1 dL_law_526 rfl (lv_at hl 2 rfl) ?_
  refine lv_aload_n S.1 S.2.1 dL_law_527 rfl (lv_at hl 1 rfl) ?_
  refine lv_iload_n S.1 S.2.1 dL_law_528 rfl (lv_at hl 0 rfl) ?_
  refine lv_iconst (v := 1) S.1 S.2.1 dL_law_529 rfl ?_
  refine lv_iadd S.1 S.2.1 dL_law_530 ?_
  refine va_sld S.1 S.2.1 hX hbl hbA h.2.2 (lw_in 1 (by decide) hi hL) dL_law_531 ?_
  refine lv_aload_n S.1 S.2.1 dL_law_532 rfl (lv_at hl 1 rfl) ?_
  refine lv_iload_n S.1 S.2.1 dL_law_533 rfl (lv_at hl 0 rfl) ?_
  refine lv_iconst (v := 2) S.1 S.2.1 dL_law_534 rfl ?_
  refine lv_iadd S.1 S.2.1 dL_law_535 ?_
  refine va_sld S.1 S.2.1 hX hbl hbA h.2.2 (lw_in 2 (by decide) hi hL) dL_law_536 ?_
  refine lv_aload_n S.1 S.2.1 dL_law_537 rfl (lv_at hl 1 rfl) ?_
  refine lv_iload_n S.1 S.2.1 dL_law_538 rfl (lv_at hl 0 rfl) ?_
  refine lv_iconst (v := 3) S.1 S.2.1 dL_law_539 rfl ?_
  refine lv_iadd S.1 S.2.1 dL_law_540 ?_
  refine va_sld S.1 S.2.1 hX hbl hbA h.2.2 (lw_in 3 (by decide) hi hL) dL_law_541 ?_
  refine fg_ci h (fg_runV (rest := []) S hK h (c_X3_ahead l D g (xs (nI i + 1).toNatClampNeg) (xs (nI i + 2).toNatClampNeg) (xs (nI i + 3).toNatClampNeg) w r w1 hf1) vg_RL_56 vd_X3_ahead ⟨Nat.le_of_ble_eq_true rfl, Nat.le_of_ble_eq_true rfl⟩ fg_p3_0 rfl rfl rfl hl.1 rfl (Nat.le_of_ble_eq_true rfl) dL_law_542 hz) (fun H locs h => ?_)
  refine lv_aload_n S.1 S.2.1 dL_law_545 rfl (lv_at hl 3 rfl) ?_
  refine lv_aload_n S.1 S.2.1 dL_law_546 rfl (lv_at hl 1 rfl) ?_
  refine lv_iload_n S.1 S.2.1 dL_law_547 rfl (lv_at hl 0 rfl) ?_
  refine lv_iconst (v := 1) S.1 S.2.1 dL_law_548 rfl ?_
  refine lv_iadd S.1 S.2.1 dL_law_549 ?_
  refine va_sld S.1 S.2.1 hX hbl hbA h.2.2 (lw_in 1 (by decide) hi hL) dL_law_550 ?_
  refine lv_aload_n S.1 S.2.1 dL_law_551 rfl (lv_at hl 1 rfl) ?_
  refine lv_iload_n S.1 S.2.1 dL_law_552 rfl (lv_at hl 0 rfl) ?_
  refine lv_iconst (v := 2) S.1 S.2.1 dL_law_553 rfl ?_
  refine lv_iadd S.1 S.2.1 dL_law_554 ?_
  refine va_sld S.1 S.2.1 hX hbl hbA h.2.2 (lw_in 2 (by decide) hi hL) dL_law_555 ?_
  refine lv_aload_n S.1 S.2.1 dL_law_556 rfl (lv_at hl 1 rfl) ?_
  refine lv_iload_n S.1 S.2.1 dL_law_557 rfl (lv_at hl 0 rfl) ?_
  refine lv_iconst (v := 3) S.1 S.2.1 dL_law_558 rfl ?_
  refine lv_iadd S.1 S.2.1 dL_law_559 ?_
  refine va_sld S.1 S.2.1 hX hbl hbA h.2.2 (lw_in 3 (by decide) hi hL) dL_law_560 ?_
  refine fg_ci h (fg_runV (rest := [.int r]) S hK h (c_X4_ahead l D g (xs (nI i + 1).toNatClampNeg) (xs (nI i + 2).toNatClampNeg) (xs (nI i + 3).toNatClampNeg) w1 r w2 hf2) vg_RL_59 vd_X4_ahead ⟨Nat.le_of_ble_eq_true rfl, Nat.le_of_ble_eq_true rfl⟩ fg_p4_0 rfl rfl rfl hl.1 rfl (Nat.le_of_ble_eq_true rfl) dL_law_561 hz) (fun H locs h => ?_)
  exact lv_icmp_eq (tgt := 1453) S.1 S.2.1 dL_law_564 (by decide) (fun _ => kk w2 H locs hw2 h) (fun hc => absurd rfl hc)
theorem lw_case11 (S : CallFix p m c cL_law 4 s #[Value.ref b] fg_TW RL) (hX : va_X b L xs s s.heap) (hbl : b < s.heap.size) (hbA : ¬ fg_A g s.heap.size b) (hK : fg_KN D g s) (hw : rr w) (h : fg_H D g s.heap w H locs) (hi : i + 6 ≤ L) (hL : L ≤ 3072) (hl : lv_has ls 4 [(3, .int (nI i)), (0, .ref b), (1, .ref (g.1 3 0 0)), (2, .ref (g.1 4 0 0))]) (hz : cells ≤ room_1.cells ∧ slots ≤ room_1.slots) (kk : ∀ (w : fg_W) (H : Heap) (locs : List Loc), rr w → fg_H D g s.heap w H locs → W p l e room_1 s m #[Value.ref b] below meth c H locs cells slots Q (F0 m 1453 ls [])) : W p l e room_1 s m #[Value.ref b] below meth c H locs cells slots Q (F0 m 569 ls []) := by
  obtain ⟨r, w1, w2, hf1, hf2, hw2⟩ := ag_fog hw (xs (nI i + 1).toNatClampNeg) (xs (nI i + 2).toNatClampNeg)
  refine lv_aload_n S.1 S.2.1 dL_law_569 rfl (lv_at hl 2 rfl) ?_
  refine lv_aload_n S.1 S.2.1 dL_law_570 rfl (lv_at hl 1 rfl) ?_
  refine lv_iload_n S.1 S.2.1 dL_law_571 rfl (lv_at hl 0 rfl) ?_
  refine lv_iconst (v := 1) S.1 S.2.1 dL_law_572 rfl ?_
  refine lv_iadd S.1 S.2.1 dL_law_573 ?_
  refine va_sld S.1 S.2.1 hX hbl hbA h.2.2 (lw_in 1 (by decide) hi hL) dL_law_574 ?_
  refine lv_aload_n S.1 S.2.1 dL_law_575 rfl (lv_at hl 1 rfl) ?_
  refine lv_iload_n S.1 S.2.1 dL_law_576 rfl (lv_at hl 0 rfl) ?_
  refine lv_iconst (v := 2) S.1 S.2.1 dL_law_577 rfl ?_
  refine lv_iadd S.1 S.2.1 dL_law_578 ?_
  refine va_sld S.1 S.2.1 hX hbl hbA h.2.2 (lw_in 2 (by decide) hi hL) dL_law_579 ?_
  refine fg_ci h (fg_runV (rest := []) S hK h (c_X3_fog l D g (xs (nI i + 1).toNatClampNeg) (xs (nI i + 2).toNatClampNeg) w r w1 hf1) vg_RL_60 vd_X3_fog ⟨Nat.le_of_ble_eq_true rfl, Nat.le_of_ble_eq_true rfl⟩ fg_p3_0 rfl rfl rfl hl.1 rfl (Nat.le_of_ble_eq_true rfl) dL_law_580 hz) (fun H locs h => ?_)
  refine lv_aload_n S.1 S.2.1 dL_law_583 rfl (lv_at hl 3 rfl) ?_
  refine lv_aload_n S.1 S.2.1 dL_law_584 rfl (lv_at hl 1 rfl) ?_
  refine lv_iload_n S.1 S.2.1 dL_law_585 rfl (lv_at hl 0 rfl) ?_
  refine lv_iconst (v := 1) S.1 S.2.1 dL_law_586 rfl ?_
  refine lv_iadd S.1 S.2.1 dL_law_587 ?_
  refine va_sld S.1 S.2.1 hX hbl hbA h.2.2 (lw_in 1 (by decide) hi hL) dL_law_588 ?_
  refine lv_aload_n S.1 S.2.1 dL_law_589 rfl (lv_at hl 1 rfl) ?_
  refine lv_iload_n S.1 S.2.1 dL_law_590 rfl (lv_at hl 0 rfl) ?_
  refine lv_iconst (v := 2) S.1 S.2.1 dL_law_591 rfl ?_
  refine lv_iadd S.1 S.2.1 dL_law_592 ?_
  refine va_sld S.1 S.2.1 hX hbl hbA h.2.2 (lw_in 2 (by decide) hi hL) dL_law_593 ?_
  refine fg_ci h (fg_runV (rest := [.int r]) S hK h (c_X4_fog l D g (xs (nI i + 1).toNatClampNeg) (xs (nI i + 2).toNatClampNeg) w1 r w2 hf2) vg_RL_63 vd_X4_fog ⟨Nat.le_of_ble_eq_true rfl, Nat.le_of_ble_eq_true rfl⟩ fg_p4_0 rfl rfl rfl hl.1 rfl (Nat.le_of_ble_eq_true rfl) dL_law_594 hz) (fun H locs h => ?_)
  exact lv_icmp_eq (tgt := 1453) S.1 S.2.1 dL_law_597 (by decide) (fun _ => kk w2 H locs hw2 h) (fun hc => absurd rfl hc)
theorem lw_case12 (S : CallFix p m c cL_law 4 s #[Value.ref b] fg_TW RL) (hX : va_X b L xs s s.heap) (hbl : b < s.heap.size) (hbA : ¬ fg_A g s.heap.size b) (hK : fg_KN D g s) (hw : rr w) (h : fg_H D g s.heap w H locs) (hi : i + 6 ≤ L) (hL : L ≤ 3072) (hl : lv_has ls 4 [(3, .int (nI i)), (0, .ref b), (1, .ref (g.1 3 0 0)), (2, .ref (g.1 4 0 0))]) (hz : cells ≤ room_1.cells ∧ slots ≤ room_1.slots) (kk : ∀ (w : fg_W) (H : Heap) (locs : List Loc), rr w → fg_H D g s.heap w H locs → W p l e room_1 s m #[Value.ref b] below meth c H locs cells slots Q (F0 m 1453 ls [])) : W p l e room_1 s m #[Value.ref b] below meth c H locs cells slots Q (F0 m 602 ls []) := by
  obtain ⟨r, w1, w2, hf1, hf2, hw2⟩ := ag_falls hw (xs (nI i + 1).toNatClampNeg)
  refine lv_aload_n S.1 S.2.1 dL_law_602 rfl (lv_at hl 2 rfl) ?_
  refine lv_aload_n S.1 S.2.1 dL_law_603 rfl (lv_at hl 1 rfl) ?_
  refine lv_iload_n S.1 S.2.1 dL_law_604 rfl (lv_at hl 0 rfl) ?_
  refine lv_iconst (v := 1) S.1 S.2.1 dL_law_605 rfl ?_
  refine lv_iadd S.1 S.2.1 dL_law_606 ?_
  refine va_sld S.1 S.2.1 hX hbl hbA h.2.2 (lw_in 1 (by decide) hi hL) dL_law_607 ?_
  refine fg_ci h (fg_runV (rest := []) S hK h (c_X3_falls l D g (xs (nI i + 1).toNatClampNeg) w r w1 hf1) vg_RL_64 vd_X3_falls ⟨Nat.le_of_ble_eq_true rfl, Nat.le_of_ble_eq_true rfl⟩ fg_p3_0 rfl rfl rfl hl.1 rfl (Nat.le_of_ble_eq_true rfl) dL_law_608 hz) (fun H locs h => ?_)
  refine lv_aload_n S.1 S.2.1 dL_law_611 rfl (lv_at hl 3 rfl) ?_
  refine lv_aload_n S.1 S.2.1 dL_law_612 rfl (lv_at hl 1 rfl) ?_
  refine lv_iload_n S.1 S.2.1 dL_law_613 rfl (lv_at hl 0 rfl) ?_
  refine lv_iconst (v := 1) S.1 S.2.1 dL_law_614 rfl ?_
  refine lv_iadd S.1 S.2.1 dL_law_615 ?_
  refine va_sld S.1 S.2.1 hX hbl hbA h.2.2 (lw_in 1 (by decide) hi hL) dL_law_616 ?_
  refine fg_ci h (fg_runV (rest := [.int r]) S hK h (c_X4_falls l D g (xs (nI i + 1).toNatClampNeg) w1 r w2 hf2) vg_RL_67 vd_X4_falls ⟨Nat.le_of_ble_eq_true rfl, Nat.le_of_ble_eq_true rfl⟩ fg_p4_0 rfl rfl rfl hl.1 rfl (Nat.le_of_ble_eq_true rfl) dL_law_617 hz) (fun H locs h => ?_)
  exact lv_icmp_eq (tgt := 1453) S.1 S.2.1 dL_law_620 (by decide) (fun _ => kk w2 H locs hw2 h) (fun hc => absurd rfl hc)
theorem lw_case13 (S : CallFix p m c cL_law 4 s #[Value.ref b] fg_TW RL) (hX : va_X b L xs s s.heap) (hbl : b < s.heap.size) (hbA : ¬ fg_A g s.heap.size b) (hK : fg_KN D g s) (hw : rr w) (h : fg_H D g s.heap w H locs) (hi : i + 6 ≤ L) (hL : L ≤ 3072) (hl : lv_has ls 4 [(3, .int (nI i)), (0, .ref b), (1, .ref (g.1 3 0 0)), (2, .ref (g.1 4 0 0))]) (hz : cells ≤ room_1.cells ∧ slots ≤ room_1.slots) (kk : ∀ (w : fg_W) (H : Heap) (locs : List Loc), rr w → fg_H D g s.heap w H locs → W p l e room_1 s m #[Value.ref b] below meth c H locs cells slots Q (F0 m 1453 ls [])) : W p l e room_1 s m #[Value.ref b] below meth c H locs cells slots Q (F0 m 625 ls []) := by
  obtain ⟨r, w1, w2, hf1, hf2, hw2⟩ := ag_bare hw 
  refine lv_aload_n S.1 S.2.1 dL_law_625 rfl (lv_at hl 2 rfl) ?_
  refine fg_ci h (fg_runV (rest := []) S hK h (c_X3_bare l D g  w r w1 hf1) vg_RL_68 vd_X3_bare ⟨Nat.le_of_ble_eq_true rfl, Nat.le_of_ble_eq_true rfl⟩ fg_p3_0 rfl rfl rfl hl.1 rfl (Nat.le_of_ble_eq_true rfl) dL_law_626 hz) (fun H locs h => ?_)
  refine lv_aload_n S.1 S.2.1 dL_law_629 rfl (lv_at hl 3 rfl) ?_
  refine fg_ci h (fg_runV (rest := [.int r]) S hK h (c_X4_bare l D g  w1 r w2 hf2) vg_RL_72 vd_X4_bare ⟨Nat.le_of_ble_eq_true rfl, Nat.le_of_ble_eq_true rfl⟩ fg_p4_0 rfl rfl rfl hl.1 rfl (Nat.le_of_ble_eq_true rfl) dL_law_630 hz) (fun H locs h => ?_)
  exact lv_icmp_eq (tgt := 1453) S.1 S.2.1 dL_law_633 (by decide) (fun _ => kk w2 H locs hw2 h) (fun hc => absurd rfl hc)
theorem lw_case14 (S : CallFix p m c cL_law 4 s #[Value.ref b] fg_TW RL) (hX : va_X b L xs s s.heap) (hbl : b < s.heap.size) (hbA : ¬ fg_A g s.heap.size b) (hK : fg_KN D g s) (hw : rr w) (h : fg_H D g s.heap w H locs) (hi : i + 6 ≤ L) (hL : L ≤ 3072) (hl : lv_has ls 4 [(3, .int (nI i)), (0, .ref b), (1, .ref (g.1 3 0 0)), (2, .ref (g.1 4 0 0))]) (hz : cells ≤ room_1.cells ∧ slots ≤ room_1.slots) (kk : ∀ (w : fg_W) (H : Heap) (locs : List Loc), rr w → fg_H D g s.heap w H locs → W p l e room_1 s m #[Value.ref b] below meth c H locs cells slots Q (F0 m 1453 ls [])) : W p l e room_1 s m #[Value.ref b] below meth c H locs cells slots Q (F0 m 638 ls []) := by
  obtain ⟨r, w1, w2, hf1, hf2, hw2⟩ := ag_meet hw (xs (nI i + 1).toNatClampNeg) (xs (nI i + 2).toNatClampNeg)
  refine lv_aload_n S.1 S.2.1 dL_law_638 rfl (lv_at hl 2 rfl) ?_
  refine lv_aload_n S.1 S.2.1 dL_law_639 rfl (lv_at hl 1 rfl) ?_
  refine lv_iload_n S.1 S.2.1 dL_law_640 rfl (lv_at hl 0 rfl) ?_
  refine lv_iconst (v := 1) S.1 S.2.1 dL_law_641 rfl ?_
  refine lv_iadd S.1 S.2.1 dL_law_642 ?_
  refine va_sld S.1 S.2.1 hX hbl hbA h.2.2 (lw_in 1 (by decide) hi hL) dL_law_643 ?_
  refine lv_aload_n S.1 S.2.1 dL_law_644 rfl (lv_at hl 1 rfl) ?_
  refine lv_iload_n S.1 S.2.1 dL_law_645 rfl (lv_at hl 0 rfl) ?_
  refine lv_iconst (v := 2) S.1 S.2.1 dL_law_646 rfl ?_
  refine lv_iadd S.1 S.2.1 dL_law_647 ?_
  refine va_sld S.1 S.2.1 hX hbl hbA h.2.2 (lw_in 2 (by decide) hi hL) dL_law_648 ?_
  refine fg_ci h (fg_runV (rest := []) S hK h (c_X3_meet l D g (xs (nI i + 1).toNatClampNeg) (xs (nI i + 2).toNatClampNeg) w r w1 hf1) vg_RL_73 vd_X3_meet ⟨Nat.le_of_ble_eq_true rfl, Nat.le_of_ble_eq_true rfl⟩ fg_p3_0 rfl rfl rfl hl.1 rfl (Nat.le_of_ble_eq_true rfl) dL_law_649 hz) (fun H locs h => ?_)
  refine lv_aload_n S.1 S.2.1 dL_law_652 rfl (lv_at hl 3 rfl) ?_
  refine lv_aload_n S.1 S.2.1 dL_law_653 rfl (lv_at hl 1 rfl) ?_
  refine lv_iload_n S.1 S.2.1 dL_law_654 rfl (lv_at hl 0 rfl) ?_
  refine lv_iconst (v := 1) S.1 S.2.1 dL_law_655 rfl ?_
  refine lv_iadd S.1 S.2.1 dL_law_656 ?_
  refine va_sld S.1 S.2.1 hX hbl hbA h.2.2 (lw_in 1 (by decide) hi hL) dL_law_657 ?_
  refine lv_aload_n S.1 S.2.1 dL_law_658 rfl (lv_at hl 1 rfl) ?_
  refine lv_iload_n S.1 S.2.1 dL_law_659 rfl (lv_at hl 0 rfl) ?_
  refine lv_iconst (v := 2) S.1 S.2.1 dL_law_660 rfl ?_
  refine lv_iadd S.1 S.2.1 dL_law_661 ?_
  refine va_sld S.1 S.2.1 hX hbl hbA h.2.2 (lw_in 2 (by decide) hi hL) dL_law_662 ?_
  refine fg_ci h (fg_runV (rest := [.int r]) S hK h (c_X4_meet l D g (xs (nI i + 1).toNatClampNeg) (xs (nI i + 2).toNatClampNeg) w1 r w2 hf2) vg_RL_76 vd_X4_meet ⟨Nat.le_of_ble_eq_true rfl, Nat.le_of_ble_eq_true rfl⟩ fg_p4_0 rfl rfl rfl hl.1 rfl (Nat.le_of_ble_eq_true rfl) dL_law_663 hz) (fun H locs h => ?_)
  exact lv_icmp_eq (tgt := 1453) S.1 S.2.1 dL_law_666 (by decide) (fun _ => kk w2 H locs hw2 h) (fun hc => absurd rfl hc)
theorem lw_case15 (S : CallFix p m c cL_law 4 s #[Value.ref b] fg_TW RL) (hX : va_X b L xs s s.heap) (hbl : b < s.heap.size) (hbA : ¬ fg_A g s.heap.size b) (hK : fg_KN D g s) (hw : rr w) (h : fg_H D g s.heap w H locs) (hi : i + 6 ≤ L) (hL : L ≤ 3072) (hl : lv_has ls 4 [(3, .int (nI i)), (0, .ref b), (1, .ref (g.1 3 0 0)), (2, .ref (g.1 4 0 0))]) (hz : cells ≤ room_1.cells ∧ slots ≤ room_1.slots) (kk : ∀ (w : fg_W) (H : Heap) (locs : List Loc), rr w → fg_H D g s.heap w H locs → W p l e room_1 s m #[Value.ref b] below meth c H locs cells slots Q (F0 m 1453 ls [])) : W p l e room_1 s m #[Value.ref b] below meth c H locs cells slots Q (F0 m 671 ls []) := by
  obtain ⟨r, w1, w2, hf1, hf2, hw2⟩ := ag_beliefFor hw (xs (nI i + 1).toNatClampNeg) (xs (nI i + 2).toNatClampNeg)
  refine lv_aload_n S.1 S.2.1 dL_law_671 rfl (lv_at hl 2 rfl) ?_
  refine lv_aload_n S.1 S.2.1 dL_law_672 rfl (lv_at hl 1 rfl) ?_
  refine lv_iload_n S.1 S.2.1 dL_law_673 rfl (lv_at hl 0 rfl) ?_
  refine lv_iconst (v := 1) S.1 S.2.1 dL_law_674 rfl ?_
  refine lv_iadd S.1 S.2.1 dL_law_675 ?_
  refine va_sld S.1 S.2.1 hX hbl hbA h.2.2 (lw_in 1 (by decide) hi hL) dL_law_676 ?_
  refine lv_aload_n S.1 S.2.1 dL_law_677 rfl (lv_at hl 1 rfl) ?_
  refine lv_iload_n S.1 S.2.1 dL_law_678 rfl (lv_at hl 0 rfl) ?_
  refine lv_iconst (v := 2) S.1 S.2.1 dL_law_679 rfl ?_
  refine lv_iadd S.1 S.2.1 dL_law_680 ?_
  refine va_sld S.1 S.2.1 hX hbl hbA h.2.2 (lw_in 2 (by decide) hi hL) dL_law_681 ?_
  refine fg_ci h (fg_runV (rest := []) S hK h (c_X3_beliefFor l D g (xs (nI i + 1).toNatClampNeg) (xs (nI i + 2).toNatClampNeg) w r w1 hf1) vg_RL_77 vd_X3_beliefFor ⟨Nat.le_of_ble_eq_true rfl, Nat.le_of_ble_eq_true rfl⟩ fg_p3_0 rfl rfl rfl hl.1 rfl (Nat.le_of_ble_eq_true rfl) dL_law_682 hz) (fun H locs h => ?_)
  refine lv_aload_n S.1 S.2.1 dL_law_685 rfl (lv_at hl 3 rfl) ?_
  refine lv_aload_n S.1 S.2.1 dL_law_686 rfl (lv_at hl 1 rfl) ?_
  refine lv_iload_n S.1 S.2.1 dL_law_687 rfl (lv_at hl 0 rfl) ?_
  refine lv_iconst (v := 1) S.1 S.2.1 dL_law_688 rfl ?_
  refine lv_iadd S.1 S.2.1 dL_law_689 ?_
  refine va_sld S.1 S.2.1 hX hbl hbA h.2.2 (lw_in 1 (by decide) hi hL) dL_law_690 ?_
  refine lv_aload_n S.1 S.2.1 dL_law_691 rfl (lv_at hl 1 rfl) ?_
  refine lv_iload_n S.1 S.2.1 dL_law_692 rfl (lv_at hl 0 rfl) ?_
  refine lv_iconst (v := 2) S.1 S.2.1 dL_law_693 rfl ?_
  refine lv_iadd S.1 S.2.1 dL_law_694 ?_
  refine va_sld S.1 S.2.1 hX hbl hbA h.2.2 (lw_in 2 (by decide) hi hL) dL_law_695 ?_
  refine fg_ci h (fg_runV (rest := [.int r]) S hK h (c_X4_beliefFor l D g (xs (nI i + 1).toNatClampNeg) (xs (nI i + 2).toNatClampNeg) w1 r w2 hf2) vg_RL_80 vd_X4_beliefFor ⟨Nat.le_of_ble_eq_true rfl, Nat.le_of_ble_eq_true rfl⟩ fg_p4_0 rfl rfl rfl hl.1 rfl (Nat.le_of_ble_eq_true rfl) dL_law_696 hz) (fun H locs h => ?_)
  exact lv_icmp_eq (tgt := 1453) S.1 S.2.1 dL_law_699 (by decide) (fun _ => kk w2 H locs hw2 h) (fun hc => absurd rfl hc)
theorem lw_case16 (S : CallFix p m c cL_law 4 s #[Value.ref b] fg_TW RL) (hX : va_X b L xs s s.heap) (hbl : b < s.heap.size) (hbA : ¬ fg_A g s.heap.size b) (hK : fg_KN D g s) (hw : rr w) (h : fg_H D g s.heap w H locs) (hi : i + 6 ≤ L) (hL : L ≤ 3072) (hl : lv_has ls 4 [(3, .int (nI i)), (0, .ref b), (1, .ref (g.1 3 0 0)), (2, .ref (g.1 4 0 0))]) (hz : cells ≤ room_1.cells ∧ slots ≤ room_1.slots) (kk : ∀ (w : fg_W) (H : Heap) (locs : List Loc), rr w → fg_H D g s.heap w H locs → W p l e room_1 s m #[Value.ref b] below meth c H locs cells slots Q (F0 m 1453 ls [])) : W p l e room_1 s m #[Value.ref b] below meth c H locs cells slots Q (F0 m 704 ls []) := by
  obtain ⟨r, w1, w2, hf1, hf2, hw2⟩ := ag_settle hw (xs (nI i + 1).toNatClampNeg) (xs (nI i + 2).toNatClampNeg)
  refine lv_aload_n S.1 S.2.1 dL_law_704 rfl (lv_at hl 2 rfl) ?_
  refine lv_aload_n S.1 S.2.1 dL_law_705 rfl (lv_at hl 1 rfl) ?_
  refine lv_iload_n S.1 S.2.1 dL_law_706 rfl (lv_at hl 0 rfl) ?_
  refine lv_iconst (v := 1) S.1 S.2.1 dL_law_707 rfl ?_
  refine lv_iadd S.1 S.2.1 dL_law_708 ?_
  refine va_sld S.1 S.2.1 hX hbl hbA h.2.2 (lw_in 1 (by decide) hi hL) dL_law_709 ?_
  refine lv_aload_n S.1 S.2.1 dL_law_710 rfl (lv_at hl 1 rfl) ?_
  refine lv_iload_n S.1 S.2.1 dL_law_711 rfl (lv_at hl 0 rfl) ?_
  refine lv_iconst (v := 2) S.1 S.2.1 dL_law_712 rfl ?_
  refine lv_iadd S.1 S.2.1 dL_law_713 ?_
  refine va_sld S.1 S.2.1 hX hbl hbA h.2.2 (lw_in 2 (by decide) hi hL) dL_law_714 ?_
  refine fg_ci h (fg_runV (rest := []) S hK h (c_X3_settle l D g (xs (nI i + 1).toNatClampNeg) (xs (nI i + 2).toNatClampNeg) w r w1 hf1) vg_RL_81 vd_X3_settle ⟨Nat.le_of_ble_eq_true rfl, Nat.le_of_ble_eq_true rfl⟩ fg_p3_0 rfl rfl rfl hl.1 rfl (Nat.le_of_ble_eq_true rfl) dL_law_715 hz) (fun H locs h => ?_)
  refine lv_aload_n S.1 S.2.1 dL_law_718 rfl (lv_at hl 3 rfl) ?_
  refine lv_aload_n S.1 S.2.1 dL_law_719 rfl (lv_at hl 1 rfl) ?_
  refine lv_iload_n S.1 S.2.1 dL_law_720 rfl (lv_at hl 0 rfl) ?_
  refine lv_iconst (v := 1) S.1 S.2.1 dL_law_721 rfl ?_
  refine lv_iadd S.1 S.2.1 dL_law_722 ?_
  refine va_sld S.1 S.2.1 hX hbl hbA h.2.2 (lw_in 1 (by decide) hi hL) dL_law_723 ?_
  refine lv_aload_n S.1 S.2.1 dL_law_724 rfl (lv_at hl 1 rfl) ?_
  refine lv_iload_n S.1 S.2.1 dL_law_725 rfl (lv_at hl 0 rfl) ?_
  refine lv_iconst (v := 2) S.1 S.2.1 dL_law_726 rfl ?_
  refine lv_iadd S.1 S.2.1 dL_law_727 ?_
  refine va_sld S.1 S.2.1 hX hbl hbA h.2.2 (lw_in 2 (by decide) hi hL) dL_law_728 ?_
  refine fg_ci h (fg_runV (rest := [.int r]) S hK h (c_X4_settle l D g (xs (nI i + 1).toNatClampNeg) (xs (nI i + 2).toNatClampNeg) w1 r w2 hf2) vg_RL_84 vd_X4_settle ⟨Nat.le_of_ble_eq_true rfl, Nat.le_of_ble_eq_true rfl⟩ fg_p4_0 rfl rfl rfl hl.1 rfl (Nat.le_of_ble_eq_true rfl) dL_law_729 hz) (fun H locs h => ?_)
  exact lv_icmp_eq (tgt := 1453) S.1 S.2.1 dL_law_732 (by decide) (fun _ => kk w2 H locs hw2 h) (fun hc => absurd rfl hc)
theorem lw_case17 (S : CallFix p m c cL_law 4 s #[Value.ref b] fg_TW RL) (hX : va_X b L xs s s.heap) (hbl : b < s.heap.size) (hbA : ¬ fg_A g s.heap.size b) (hK : fg_KN D g s) (hw : rr w) (h : fg_H D g s.heap w H locs) (hi : i + 6 ≤ L) (hL : L ≤ 3072) (hl : lv_has ls 4 [(3, .int (nI i)), (0, .ref b), (1, .ref (g.1 3 0 0)), (2, .ref (g.1 4 0 0))]) (hz : cells ≤ room_1.cells ∧ slots ≤ room_1.slots) (kk : ∀ (w : fg_W) (H : Heap) (locs : List Loc), rr w → fg_H D g s.heap w H locs → W p l e room_1 s m #[Value.ref b] below meth c H locs cells slots Q (F0 m 1453 ls [])) : W p l e room_1 s m #[Value.ref b] below meth c H locs cells slots Q (F0 m 737 ls []) := by
  obtain ⟨r, w1, w2, hf1, hf2, hw2⟩ := ag_kindFor hw (xs (nI i + 1).toNatClampNeg) (xs (nI i + 2).toNatClampNeg)
  refine lv_aload_n S.1 S.2.1 dL_law_737 rfl (lv_at hl 2 rfl) ?_
  refine lv_aload_n S.1 S.2.1 dL_law_738 rfl (lv_at hl 1 rfl) ?_
  refine lv_iload_n S.1 S.2.1 dL_law_739 rfl (lv_at hl 0 rfl) ?_
  refine lv_iconst (v := 1) S.1 S.2.1 dL_law_740 rfl ?_
  refine lv_iadd S.1 S.2.1 dL_law_741 ?_
  refine va_sld S.1 S.2.1 hX hbl hbA h.2.2 (lw_in 1 (by decide) hi hL) dL_law_742 ?_
  refine lv_aload_n S.1 S.2.1 dL_law_743 rfl (lv_at hl 1 rfl) ?_
  refine lv_iload_n S.1 S.2.1 dL_law_744 rfl (lv_at hl 0 rfl) ?_
  refine lv_iconst (v := 2) S.1 S.2.1 dL_law_745 rfl ?_
  refine lv_iadd S.1 S.2.1 dL_law_746 ?_
  refine va_sld S.1 S.2.1 hX hbl hbA h.2.2 (lw_in 2 (by decide) hi hL) dL_law_747 ?_
  refine fg_ci h (fg_runV (rest := []) S hK h (c_X3_kindFor l D g (xs (nI i + 1).toNatClampNeg) (xs (nI i + 2).toNatClampNeg) w r w1 hf1) vg_RL_85 vd_X3_kindFor ⟨Nat.le_of_ble_eq_true rfl, Nat.le_of_ble_eq_true rfl⟩ fg_p3_0 rfl rfl rfl hl.1 rfl (Nat.le_of_ble_eq_true rfl) dL_law_748 hz) (fun H locs h => ?_)
  refine lv_aload_n S.1 S.2.1 dL_law_751 rfl (lv_at hl 3 rfl) ?_
  refine lv_aload_n S.1 S.2.1 dL_law_752 rfl (lv_at hl 1 rfl) ?_
  refine lv_iload_n S.1 S.2.1 dL_law_753 rfl (lv_at hl 0 rfl) ?_
  refine lv_iconst (v := 1) S.1 S.2.1 dL_law_754 rfl ?_
  refine lv_iadd S.1 S.2.1 dL_law_755 ?_
  refine va_sld S.1 S.2.1 hX hbl hbA h.2.2 (lw_in 1 (by decide) hi hL) dL_law_756 ?_
  refine lv_aload_n S.1 S.2.1 dL_law_757 rfl (lv_at hl 1 rfl) ?_
  refine lv_iload_n S.1 S.2.1 dL_law_758 rfl (lv_at hl 0 rfl) ?_
  refine lv_iconst (v := 2) S.1 S.2.1 dL_law_759 rfl ?_
  refine lv_iadd S.1 S.2.1 dL_law_760 ?_
  refine va_sld S.1 S.2.1 hX hbl hbA h.2.2 (lw_in 2 (by decide) hi hL) dL_law_761 ?_
  refine fg_ci h (fg_runV (rest := [.int r]) S hK h (c_X4_kindFor l D g (xs (nI i + 1).toNatClampNeg) (xs (nI i + 2).toNatClampNeg) w1 r w2 hf2) vg_RL_88 vd_X4_kindFor ⟨Nat.le_of_ble_eq_true rfl, Nat.le_of_ble_eq_true rfl⟩ fg_p4_0 rfl rfl rfl hl.1 rfl (Nat.le_of_ble_eq_true rfl) dL_law_762 hz) (fun H locs h => ?_)
  exact lv_icmp_eq (tgt := 1453) S.1 S.2.1 dL_law_765 (by decide) (fun _ => kk w2 H locs hw2 h) (fun hc => absurd rfl hc)
theorem lw_case18 (S : CallFix p m c cL_law 4 s #[Value.ref b] fg_TW RL) (hX : va_X b L xs s s.heap) (hbl : b < s.heap.size) (hbA : ¬ fg_A g s.heap.size b) (hK : fg_KN D g s) (hw : rr w) (h : fg_H D g s.heap w H locs) (hi : i + 6 ≤ L) (hL : L ≤ 3072) (hl : lv_has ls 4 [(3, .int (nI i)), (0, .ref b), (1, .ref (g.1 3 0 0)), (2, .ref (g.1 4 0 0))]) (hz : cells ≤ room_1.cells ∧ slots ≤ room_1.slots) (kk : ∀ (w : fg_W) (H : Heap) (locs : List Loc), rr w → fg_H D g s.heap w H locs → W p l e room_1 s m #[Value.ref b] below meth c H locs cells slots Q (F0 m 1453 ls [])) : W p l e room_1 s m #[Value.ref b] below meth c H locs cells slots Q (F0 m 770 ls []) := by
  obtain ⟨r, w1, w2, hf1, hf2, hw2⟩ := ag_rentFor hw (xs (nI i + 1).toNatClampNeg) (xs (nI i + 2).toNatClampNeg)
  refine lv_aload_n S.1 S.2.1 dL_law_770 rfl (lv_at hl 2 rfl) ?_
  refine lv_aload_n S.1 S.2.1 dL_law_771 rfl (lv_at hl 1 rfl) ?_
  refine lv_iload_n S.1 S.2.1 dL_law_772 rfl (lv_at hl 0 rfl) ?_
  refine lv_iconst (v := 1) S.1 S.2.1 dL_law_773 rfl ?_
  refine lv_iadd S.1 S.2.1 dL_law_774 ?_
  refine va_sld S.1 S.2.1 hX hbl hbA h.2.2 (lw_in 1 (by decide) hi hL) dL_law_775 ?_
  refine lv_aload_n S.1 S.2.1 dL_law_776 rfl (lv_at hl 1 rfl) ?_
  refine lv_iload_n S.1 S.2.1 dL_law_777 rfl (lv_at hl 0 rfl) ?_
  refine lv_iconst (v := 2) S.1 S.2.1 dL_law_778 rfl ?_
  refine lv_iadd S.1 S.2.1 dL_law_779 ?_
  refine va_sld S.1 S.2.1 hX hbl hbA h.2.2 (lw_in 2 (by decide) hi hL) dL_law_780 ?_
  refine fg_ci h (fg_runV (rest := []) S hK h (c_X3_rentFor l D g (xs (nI i + 1).toNatClampNeg) (xs (nI i + 2).toNatClampNeg) w r w1 hf1) vg_RL_89 vd_X3_rentFor ⟨Nat.le_of_ble_eq_true rfl, Nat.le_of_ble_eq_true rfl⟩ fg_p3_0 rfl rfl rfl hl.1 rfl (Nat.le_of_ble_eq_true rfl) dL_law_781 hz) (fun H locs h => ?_)
  refine lv_aload_n S.1 S.2.1 dL_law_784 rfl (lv_at hl 3 rfl) ?_
  refine lv_aload_n S.1 S.2.1 dL_law_785 rfl (lv_at hl 1 rfl) ?_
  refine lv_iload_n S.1 S.2.1 dL_law_786 rfl (lv_at hl 0 rfl) ?_
  refine lv_iconst (v := 1) S.1 S.2.1 dL_law_787 rfl ?_
  refine lv_iadd S.1 S.2.1 dL_law_788 ?_
  refine va_sld S.1 S.2.1 hX hbl hbA h.2.2 (lw_in 1 (by decide) hi hL) dL_law_789 ?_
  refine lv_aload_n S.1 S.2.1 dL_law_790 rfl (lv_at hl 1 rfl) ?_
  refine lv_iload_n S.1 S.2.1 dL_law_791 rfl (lv_at hl 0 rfl) ?_
  refine lv_iconst (v := 2) S.1 S.2.1 dL_law_792 rfl ?_
  refine lv_iadd S.1 S.2.1 dL_law_793 ?_
  refine va_sld S.1 S.2.1 hX hbl hbA h.2.2 (lw_in 2 (by decide) hi hL) dL_law_794 ?_
  refine fg_ci h (fg_runV (rest := [.int r]) S hK h (c_X4_rentFor l D g (xs (nI i + 1).toNatClampNeg) (xs (nI i + 2).toNatClampNeg) w1 r w2 hf2) vg_RL_92 vd_X4_rentFor ⟨Nat.le_of_ble_eq_true rfl, Nat.le_of_ble_eq_true rfl⟩ fg_p4_0 rfl rfl rfl hl.1 rfl (Nat.le_of_ble_eq_true rfl) dL_law_795 hz) (fun H locs h => ?_)
  exact lv_icmp_eq (tgt := 1453) S.1 S.2.1 dL_law_798 (by decide) (fun _ => kk w2 H locs hw2 h) (fun hc => absurd rfl hc)
theorem lw_case19 (S : CallFix p m c cL_law 4 s #[Value.ref b] fg_TW RL) (hX : va_X b L xs s s.heap) (hbl : b < s.heap.size) (hbA : ¬ fg_A g s.heap.size b) (hK : fg_KN D g s) (hw : rr w) (h : fg_H D g s.heap w H locs) (hi : i + 6 ≤ L) (hL : L ≤ 3072) (hl : lv_has ls 4 [(3, .int (nI i)), (0, .ref b), (1, .ref (g.1 3 0 0)), (2, .ref (g.1 4 0 0))]) (hz : cells ≤ room_1.cells ∧ slots ≤ room_1.slots) (kk : ∀ (w : fg_W) (H : Heap) (locs : List Loc), rr w → fg_H D g s.heap w H locs → W p l e room_1 s m #[Value.ref b] below meth c H locs cells slots Q (F0 m 1453 ls [])) : W p l e room_1 s m #[Value.ref b] below meth c H locs cells slots Q (F0 m 803 ls []) := by
  obtain ⟨r, w1, w2, hf1, hf2, hw2⟩ := ag_sunFor hw (xs (nI i + 1).toNatClampNeg)
  refine lv_aload_n S.1 S.2.1 dL_law_803 rfl (lv_at hl 2 rfl) ?_
  refine lv_aload_n S.1 S.2.1 dL_law_804 rfl (lv_at hl 1 rfl) ?_
  refine lv_iload_n S.1 S.2.1 dL_law_805 rfl (lv_at hl 0 rfl) ?_
  refine lv_iconst (v := 1) S.1 S.2.1 dL_law_806 rfl ?_
  refine lv_iadd S.1 S.2.1 dL_law_807 ?_
  refine va_sld S.1 S.2.1 hX hbl hbA h.2.2 (lw_in 1 (by decide) hi hL) dL_law_808 ?_
  refine fg_ci h (fg_runV (rest := []) S hK h (c_X3_sunFor l D g (xs (nI i + 1).toNatClampNeg) w r w1 hf1) vg_RL_93 vd_X3_sunFor ⟨Nat.le_of_ble_eq_true rfl, Nat.le_of_ble_eq_true rfl⟩ fg_p3_0 rfl rfl rfl hl.1 rfl (Nat.le_of_ble_eq_true rfl) dL_law_809 hz) (fun H locs h => ?_)
  refine lv_aload_n S.1 S.2.1 dL_law_812 rfl (lv_at hl 3 rfl) ?_
  refine lv_aload_n S.1 S.2.1 dL_law_813 rfl (lv_at hl 1 rfl) ?_
  refine lv_iload_n S.1 S.2.1 dL_law_814 rfl (lv_at hl 0 rfl) ?_
  refine lv_iconst (v := 1) S.1 S.2.1 dL_law_815 rfl ?_
  refine lv_iadd S.1 S.2.1 dL_law_816 ?_
  refine va_sld S.1 S.2.1 hX hbl hbA h.2.2 (lw_in 1 (by decide) hi hL) dL_law_817 ?_
  refine fg_ci h (fg_runV (rest := [.int r]) S hK h (c_X4_sunFor l D g (xs (nI i + 1).toNatClampNeg) w1 r w2 hf2) vg_RL_96 vd_X4_sunFor ⟨Nat.le_of_ble_eq_true rfl, Nat.le_of_ble_eq_true rfl⟩ fg_p4_0 rfl rfl rfl hl.1 rfl (Nat.le_of_ble_eq_true rfl) dL_law_818 hz) (fun H locs h => ?_)
  exact lv_icmp_eq (tgt := 1453) S.1 S.2.1 dL_law_821 (by decide) (fun _ => kk w2 H locs hw2 h) (fun hc => absurd rfl hc)
theorem lw_case20 (S : CallFix p m c cL_law 4 s #[Value.ref b] fg_TW RL) (hX : va_X b L xs s s.heap) (hbl : b < s.heap.size) (hbA : ¬ fg_A g s.heap.size b) (hK : fg_KN D g s) (hw : rr w) (h : fg_H D g s.heap w H locs) (hi : i + 6 ≤ L) (hL : L ≤ 3072) (hl : lv_has ls 4 [(3, .int (nI i)), (0, .ref b), (1, .ref (g.1 3 0 0)), (2, .ref (g.1 4 0 0))]) (hz : cells ≤ room_1.cells ∧ slots ≤ room_1.slots) (kk : ∀ (w : fg_W) (H : Heap) (locs : List Loc), rr w → fg_H D g s.heap w H locs → W p l e room_1 s m #[Value.ref b] below meth c H locs cells slots Q (F0 m 1453 ls [])) : W p l e room_1 s m #[Value.ref b] below meth c H locs cells slots Q (F0 m 826 ls []) := by
  obtain ⟨r, w1, w2, hf1, hf2, hw2⟩ := ag_away hw (xs (nI i + 1).toNatClampNeg) (xs (nI i + 2).toNatClampNeg)
  refine lv_aload_n S.1 S.2.1 dL_law_826 rfl (lv_at hl 2 rfl) ?_
  refine lv_aload_n S.1 S.2.1 dL_law_827 rfl (lv_at hl 1 rfl) ?_
  refine lv_iload_n S.1 S.2.1 dL_law_828 rfl (lv_at hl 0 rfl) ?_
  refine lv_iconst (v := 1) S.1 S.2.1 dL_law_829 rfl ?_
  refine lv_iadd S.1 S.2.1 dL_law_830 ?_
  refine va_sld S.1 S.2.1 hX hbl hbA h.2.2 (lw_in 1 (by decide) hi hL) dL_law_831 ?_
  refine lv_aload_n S.1 S.2.1 dL_law_832 rfl (lv_at hl 1 rfl) ?_
  refine lv_iload_n S.1 S.2.1 dL_law_833 rfl (lv_at hl 0 rfl) ?_
  refine lv_iconst (v := 2) S.1 S.2.1 dL_law_834 rfl ?_
  refine lv_iadd S.1 S.2.1 dL_law_835 ?_
  refine va_sld S.1 S.2.1 hX hbl hbA h.2.2 (lw_in 2 (by decide) hi hL) dL_law_836 ?_
  refine fg_ci h (fg_runV (rest := []) S hK h (c_X3_away l D g (xs (nI i + 1).toNatClampNeg) (xs (nI i + 2).toNatClampNeg) w r w1 hf1) vg_RL_97 vd_X3_away ⟨Nat.le_of_ble_eq_true rfl, Nat.le_of_ble_eq_true rfl⟩ fg_p3_0 rfl rfl rfl hl.1 rfl (Nat.le_of_ble_eq_true rfl) dL_law_837 hz) (fun H locs h => ?_)
  refine lv_aload_n S.1 S.2.1 dL_law_840 rfl (lv_at hl 3 rfl) ?_
  refine lv_aload_n S.1 S.2.1 dL_law_841 rfl (lv_at hl 1 rfl) ?_
  refine lv_iload_n S.1 S.2.1 dL_law_842 rfl (lv_at hl 0 rfl) ?_
  refine lv_iconst (v := 1) S.1 S.2.1 dL_law_843 rfl ?_
  refine lv_iadd S.1 S.2.1 dL_law_844 ?_
  refine va_sld S.1 S.2.1 hX hbl hbA h.2.2 (lw_in 1 (by decide) hi hL) dL_law_845 ?_
  refine lv_aload_n S.1 S.2.1 dL_law_846 rfl (lv_at hl 1 rfl) ?_
  refine lv_iload_n S.1 S.2.1 dL_law_847 rfl (lv_at hl 0 rfl) ?_
  refine lv_iconst (v := 2) S.1 S.2.1 dL_law_848 rfl ?_
  refine lv_iadd S.1 S.2.1 dL_law_849 ?_
  refine va_sld S.1 S.2.1 hX hbl hbA h.2.2 (lw_in 2 (by decide) hi hL) dL_law_850 ?_
  refine fg_ci h (fg_runV (rest := [.int r]) S hK h (c_X4_away l D g (xs (nI i + 1).toNatClampNeg) (xs (nI i + 2).toNatClampNeg) w1 r w2 hf2) vg_RL_100 vd_X4_away ⟨Nat.le_of_ble_eq_true rfl, Nat.le_of_ble_eq_true rfl⟩ fg_p4_0 rfl rfl rfl hl.1 rfl (Nat.le_of_ble_eq_true rfl) dL_law_851 hz) (fun H locs h => ?_)
  exact lv_icmp_eq (tgt := 1453) S.1 S.2.1 dL_law_854 (by decide) (fun _ => kk w2 H locs hw2 h) (fun hc => absurd rfl hc)
theorem lw_case21 (S : CallFix p m c cL_law 4 s #[Value.ref b] fg_TW RL) (hX : va_X b L xs s s.heap) (hbl : b < s.heap.size) (hbA : ¬ fg_A g s.heap.size b) (hK : fg_KN D g s) (hw : rr w) (h : fg_H D g s.heap w H locs) (hi : i + 6 ≤ L) (hL : L ≤ 3072) (hl : lv_has ls 4 [(3, .int (nI i)), (0, .ref b), (1, .ref (g.1 3 0 0)), (2, .ref (g.1 4 0 0))]) (hz : cells ≤ room_1.cells ∧ slots ≤ room_1.slots) (kk : ∀ (w : fg_W) (H : Heap) (locs : List Loc), rr w → fg_H D g s.heap w H locs → W p l e room_1 s m #[Value.ref b] below meth c H locs cells slots Q (F0 m 1453 ls [])) : W p l e room_1 s m #[Value.ref b] below meth c H locs cells slots Q (F0 m 859 ls []) := by
  obtain ⟨r, w1, w2, hf1, hf2, hw2⟩ := ag_fits hw (xs (nI i + 1).toNatClampNeg) (xs (nI i + 2).toNatClampNeg)
  refine lv_aload_n S.1 S.2.1 dL_law_859 rfl (lv_at hl 2 rfl) ?_
  refine lv_aload_n S.1 S.2.1 dL_law_860 rfl (lv_at hl 1 rfl) ?_
  refine lv_iload_n S.1 S.2.1 dL_law_861 rfl (lv_at hl 0 rfl) ?_
  refine lv_iconst (v := 1) S.1 S.2.1 dL_law_862 rfl ?_
  refine lv_iadd S.1 S.2.1 dL_law_863 ?_
  refine va_sld S.1 S.2.1 hX hbl hbA h.2.2 (lw_in 1 (by decide) hi hL) dL_law_864 ?_
  refine lv_aload_n S.1 S.2.1 dL_law_865 rfl (lv_at hl 1 rfl) ?_
  refine lv_iload_n S.1 S.2.1 dL_law_866 rfl (lv_at hl 0 rfl) ?_
  refine lv_iconst (v := 2) S.1 S.2.1 dL_law_867 rfl ?_
  refine lv_iadd S.1 S.2.1 dL_law_868 ?_
  refine va_sld S.1 S.2.1 hX hbl hbA h.2.2 (lw_in 2 (by decide) hi hL) dL_law_869 ?_
  refine fg_ci h (fg_runV (rest := []) S hK h (c_X3_fits l D g (xs (nI i + 1).toNatClampNeg) (xs (nI i + 2).toNatClampNeg) w r w1 hf1) vg_RL_101 vd_X3_fits ⟨Nat.le_of_ble_eq_true rfl, Nat.le_of_ble_eq_true rfl⟩ fg_p3_0 rfl rfl rfl hl.1 rfl (Nat.le_of_ble_eq_true rfl) dL_law_870 hz) (fun H locs h => ?_)
  refine lv_aload_n S.1 S.2.1 dL_law_873 rfl (lv_at hl 3 rfl) ?_
  refine lv_aload_n S.1 S.2.1 dL_law_874 rfl (lv_at hl 1 rfl) ?_
  refine lv_iload_n S.1 S.2.1 dL_law_875 rfl (lv_at hl 0 rfl) ?_
  refine lv_iconst (v := 1) S.1 S.2.1 dL_law_876 rfl ?_
  refine lv_iadd S.1 S.2.1 dL_law_877 ?_
  refine va_sld S.1 S.2.1 hX hbl hbA h.2.2 (lw_in 1 (by decide) hi hL) dL_law_878 ?_
  refine lv_aload_n S.1 S.2.1 dL_law_879 rfl (lv_at hl 1 rfl) ?_
  refine lv_iload_n S.1 S.2.1 dL_law_880 rfl (lv_at hl 0 rfl) ?_
  refine lv_iconst (v := 2) S.1 S.2.1 dL_law_881 rfl ?_
  refine lv_iadd S.1 S.2.1 dL_law_882 ?_
  refine va_sld S.1 S.2.1 hX hbl hbA h.2.2 (lw_in 2 (by decide) hi hL) dL_law_883 ?_
  refine fg_ci h (fg_runV (rest := [.int r]) S hK h (c_X4_fits l D g (xs (nI i + 1).toNatClampNeg) (xs (nI i + 2).toNatClampNeg) w1 r w2 hf2) vg_RL_104 vd_X4_fits ⟨Nat.le_of_ble_eq_true rfl, Nat.le_of_ble_eq_true rfl⟩ fg_p4_0 rfl rfl rfl hl.1 rfl (Nat.le_of_ble_eq_true rfl) dL_law_884 hz) (fun H locs h => ?_)
  exact lv_icmp_eq (tgt := 1453) S.1 S.2.1 dL_law_887 (by decide) (fun _ => kk w2 H locs hw2 h) (fun hc => absurd rfl hc)
theorem lw_case22 (S : CallFix p m c cL_law 4 s #[Value.ref b] fg_TW RL) (hX : va_X b L xs s s.heap) (hbl : b < s.heap.size) (hbA : ¬ fg_A g s.heap.size b) (hK : fg_KN D g s) (hw : rr w) (h : fg_H D g s.heap w H locs) (hi : i + 6 ≤ L) (hL : L ≤ 3072) (hl : lv_has ls 4 [(3, .int (nI i)), (0, .ref b), (1, .ref (g.1 3 0 0)), (2, .ref (g.1 4 0 0))]) (hz : cells ≤ room_1.cells ∧ slots ≤ room_1.slots) (kk : ∀ (w : fg_W) (H : Heap) (locs : List Loc), rr w → fg_H D g s.heap w H locs → W p l e room_1 s m #[Value.ref b] below meth c H locs cells slots Q (F0 m 1453 ls [])) : W p l e room_1 s m #[Value.ref b] below meth c H locs cells slots Q (F0 m 892 ls []) := by
  obtain ⟨r, w1, w2, hf1, hf2, hw2⟩ := ag_believed hw (xs (nI i + 1).toNatClampNeg) (xs (nI i + 2).toNatClampNeg)
  refine lv_aload_n S.1 S.2.1 dL_law_892 rfl (lv_at hl 2 rfl) ?_
  refine lv_aload_n S.1 S.2.1 dL_law_893 rfl (lv_at hl 1 rfl) ?_
  refine lv_iload_n S.1 S.2.1 dL_law_894 rfl (lv_at hl 0 rfl) ?_
  refine lv_iconst (v := 1) S.1 S.2.1 dL_law_895 rfl ?_
  refine lv_iadd S.1 S.2.1 dL_law_896 ?_
  refine va_sld S.1 S.2.1 hX hbl hbA h.2.2 (lw_in 1 (by decide) hi hL) dL_law_897 ?_
  refine lv_aload_n S.1 S.2.1 dL_law_898 rfl (lv_at hl 1 rfl) ?_
  refine lv_iload_n S.1 S.2.1 dL_law_899 rfl (lv_at hl 0 rfl) ?_
  refine lv_iconst (v := 2) S.1 S.2.1 dL_law_900 rfl ?_
  refine lv_iadd S.1 S.2.1 dL_law_901 ?_
  refine va_sld S.1 S.2.1 hX hbl hbA h.2.2 (lw_in 2 (by decide) hi hL) dL_law_902 ?_
  refine fg_ci h (fg_runV (rest := []) S hK h (c_X3_believed l D g (xs (nI i + 1).toNatClampNeg) (xs (nI i + 2).toNatClampNeg) w r w1 hf1) vg_RL_105 vd_X3_believed ⟨Nat.le_of_ble_eq_true rfl, Nat.le_of_ble_eq_true rfl⟩ fg_p3_0 rfl rfl rfl hl.1 rfl (Nat.le_of_ble_eq_true rfl) dL_law_903 hz) (fun H locs h => ?_)
  refine lv_aload_n S.1 S.2.1 dL_law_906 rfl (lv_at hl 3 rfl) ?_
  refine lv_aload_n S.1 S.2.1 dL_law_907 rfl (lv_at hl 1 rfl) ?_
  refine lv_iload_n S.1 S.2.1 dL_law_908 rfl (lv_at hl 0 rfl) ?_
  refine lv_iconst (v := 1) S.1 S.2.1 dL_law_909 rfl ?_
  refine lv_iadd S.1 S.2.1 dL_law_910 ?_
  refine va_sld S.1 S.2.1 hX hbl hbA h.2.2 (lw_in 1 (by decide) hi hL) dL_law_911 ?_
  refine lv_aload_n S.1 S.2.1 dL_law_912 rfl (lv_at hl 1 rfl) ?_
  refine lv_iload_n S.1 S.2.1 dL_law_913 rfl (lv_at hl 0 rfl) ?_
  refine lv_iconst (v := 2) S.1 S.2.1 dL_law_914 rfl ?_
  refine lv_iadd S.1 S.2.1 dL_law_915 ?_
  refine va_sld S.1 S.2.1 hX hbl hbA h.2.2 (lw_in 2 (by decide) hi hL) dL_law_916 ?_
  refine fg_ci h (fg_runV (rest := [.int r]) S hK h (c_X4_believed l D g (xs (nI i + 1).toNatClampNeg) (xs (nI i + 2).toNatClampNeg) w1 r w2 hf2) vg_RL_108 vd_X4_believed ⟨Nat.le_of_ble_eq_true rfl, Nat.le_of_ble_eq_true rfl⟩ fg_p4_0 rfl rfl rfl hl.1 rfl (Nat.le_of_ble_eq_true rfl) dL_law_917 hz) (fun H locs h => ?_)
  exact lv_icmp_eq (tgt := 1453) S.1 S.2.1 dL_law_920 (by decide) (fun _ => kk w2 H locs hw2 h) (fun hc => absurd rfl hc)
theorem lw_case23 (S : CallFix p m c cL_law 4 s #[Value.ref b] fg_TW RL) (hX : va_X b L xs s s.heap) (hbl : b < s.heap.size) (hbA : ¬ fg_A g s.heap.size b) (hK : fg_KN D g s) (hw : rr w) (h : fg_H D g s.heap w H locs) (hi : i + 6 ≤ L) (hL : L ≤ 3072) (hl : lv_has ls 4 [(3, .int (nI i)), (0, .ref b), (1, .ref (g.1 3 0 0)), (2, .ref (g.1 4 0 0))]) (hz : cells ≤ room_1.cells ∧ slots ≤ room_1.slots) (kk : ∀ (w : fg_W) (H : Heap) (locs : List Loc), rr w → fg_H D g s.heap w H locs → W p l e room_1 s m #[Value.ref b] below meth c H locs cells slots Q (F0 m 1453 ls [])) : W p l e room_1 s m #[Value.ref b] below meth c H locs cells slots Q (F0 m 925 ls []) := by
  obtain ⟨r, w1, w2, hf1, hf2, hw2⟩ := ag_kinds hw (xs (nI i + 1).toNatClampNeg) (xs (nI i + 2).toNatClampNeg)
  refine lv_aload_n S.1 S.2.1 dL_law_925 rfl (lv_at hl 2 rfl) ?_
  refine lv_aload_n S.1 S.2.1 dL_law_926 rfl (lv_at hl 1 rfl) ?_
  refine lv_iload_n S.1 S.2.1 dL_law_927 rfl (lv_at hl 0 rfl) ?_
  refine lv_iconst (v := 1) S.1 S.2.1 dL_law_928 rfl ?_
  refine lv_iadd S.1 S.2.1 dL_law_929 ?_
  refine va_sld S.1 S.2.1 hX hbl hbA h.2.2 (lw_in 1 (by decide) hi hL) dL_law_930 ?_
  refine lv_aload_n S.1 S.2.1 dL_law_931 rfl (lv_at hl 1 rfl) ?_
  refine lv_iload_n S.1 S.2.1 dL_law_932 rfl (lv_at hl 0 rfl) ?_
  refine lv_iconst (v := 2) S.1 S.2.1 dL_law_933 rfl ?_
  refine lv_iadd S.1 S.2.1 dL_law_934 ?_
  refine va_sld S.1 S.2.1 hX hbl hbA h.2.2 (lw_in 2 (by decide) hi hL) dL_law_935 ?_
  refine fg_ci h (fg_runV (rest := []) S hK h (c_X3_kinds l D g (xs (nI i + 1).toNatClampNeg) (xs (nI i + 2).toNatClampNeg) w r w1 hf1) vg_RL_109 vd_X3_kinds ⟨Nat.le_of_ble_eq_true rfl, Nat.le_of_ble_eq_true rfl⟩ fg_p3_0 rfl rfl rfl hl.1 rfl (Nat.le_of_ble_eq_true rfl) dL_law_936 hz) (fun H locs h => ?_)
  refine lv_aload_n S.1 S.2.1 dL_law_939 rfl (lv_at hl 3 rfl) ?_
  refine lv_aload_n S.1 S.2.1 dL_law_940 rfl (lv_at hl 1 rfl) ?_
  refine lv_iload_n S.1 S.2.1 dL_law_941 rfl (lv_at hl 0 rfl) ?_
  refine lv_iconst (v := 1) S.1 S.2.1 dL_law_942 rfl ?_
  refine lv_iadd S.1 S.2.1 dL_law_943 ?_
  refine va_sld S.1 S.2.1 hX hbl hbA h.2.2 (lw_in 1 (by decide) hi hL) dL_law_944 ?_
  refine lv_aload_n S.1 S.2.1 dL_law_945 rfl (lv_at hl 1 rfl) ?_
  refine lv_iload_n S.1 S.2.1 dL_law_946 rfl (lv_at hl 0 rfl) ?_
  refine lv_iconst (v := 2) S.1 S.2.1 dL_law_947 rfl ?_
  refine lv_iadd S.1 S.2.1 dL_law_948 ?_
  refine va_sld S.1 S.2.1 hX hbl hbA h.2.2 (lw_in 2 (by decide) hi hL) dL_law_949 ?_
  refine fg_ci h (fg_runV (rest := [.int r]) S hK h (c_X4_kinds l D g (xs (nI i + 1).toNatClampNeg) (xs (nI i + 2).toNatClampNeg) w1 r w2 hf2) vg_RL_112 vd_X4_kinds ⟨Nat.le_of_ble_eq_true rfl, Nat.le_of_ble_eq_true rfl⟩ fg_p4_0 rfl rfl rfl hl.1 rfl (Nat.le_of_ble_eq_true rfl) dL_law_950 hz) (fun H locs h => ?_)
  exact lv_icmp_eq (tgt := 1453) S.1 S.2.1 dL_law_953 (by decide) (fun _ => kk w2 H locs hw2 h) (fun hc => absurd rfl hc)
theorem lw_case24 (S : CallFix p m c cL_law 4 s #[Value.ref b] fg_TW RL) (hX : va_X b L xs s s.heap) (hbl : b < s.heap.size) (hbA : ¬ fg_A g s.heap.size b) (hK : fg_KN D g s) (hw : rr w) (h : fg_H D g s.heap w H locs) (hi : i + 6 ≤ L) (hL : L ≤ 3072) (hl : lv_has ls 4 [(3, .int (nI i)), (0, .ref b), (1, .ref (g.1 3 0 0)), (2, .ref (g.1 4 0 0))]) (hz : cells ≤ room_1.cells ∧ slots ≤ room_1.slots) (kk : ∀ (w : fg_W) (H : Heap) (locs : List Loc), rr w → fg_H D g s.heap w H locs → W p l e room_1 s m #[Value.ref b] below meth c H locs cells slots Q (F0 m 1453 ls [])) : W p l e room_1 s m #[Value.ref b] below meth c H locs cells slots Q (F0 m 958 ls []) := by
  obtain ⟨r, w1, w2, hf1, hf2, hw2⟩ := ag_fine hw (xs (nI i + 1).toNatClampNeg)
  refine lv_aload_n S.1 S.2.1 dL_law_958 rfl (lv_at hl 2 rfl) ?_
  refine lv_aload_n S.1 S.2.1 dL_law_959 rfl (lv_at hl 1 rfl) ?_
  refine lv_iload_n S.1 S.2.1 dL_law_960 rfl (lv_at hl 0 rfl) ?_
  refine lv_iconst (v := 1) S.1 S.2.1 dL_law_961 rfl ?_
  refine lv_iadd S.1 S.2.1 dL_law_962 ?_
  refine va_sld S.1 S.2.1 hX hbl hbA h.2.2 (lw_in 1 (by decide) hi hL) dL_law_963 ?_
  refine fg_ci h (fg_runV (rest := []) S hK h (c_X3_fine l D g (xs (nI i + 1).toNatClampNeg) w r w1 hf1) vg_RL_113 vd_X3_fine ⟨Nat.le_of_ble_eq_true rfl, Nat.le_of_ble_eq_true rfl⟩ fg_p3_0 rfl rfl rfl hl.1 rfl (Nat.le_of_ble_eq_true rfl) dL_law_964 hz) (fun H locs h => ?_)
  refine lv_aload_n S.1 S.2.1 dL_law_967 rfl (lv_at hl 3 rfl) ?_
  refine lv_aload_n S.1 S.2.1 dL_law_968 rfl (lv_at hl 1 rfl) ?_
  refine lv_iload_n S.1 S.2.1 dL_law_969 rfl (lv_at hl 0 rfl) ?_
  refine lv_iconst (v := 1) S.1 S.2.1 dL_law_970 rfl ?_
  refine lv_iadd S.1 S.2.1 dL_law_971 ?_
  refine va_sld S.1 S.2.1 hX hbl hbA h.2.2 (lw_in 1 (by decide) hi hL) dL_law_972 ?_
  refine fg_ci h (fg_runV (rest := [.int r]) S hK h (c_X4_fine l D g (xs (nI i + 1).toNatClampNeg) w1 r w2 hf2) vg_RL_116 vd_X4_fine ⟨Nat.le_of_ble_eq_true rfl, Nat.le_of_ble_eq_true rfl⟩ fg_p4_0 rfl rfl rfl hl.1 rfl (Nat.le_of_ble_eq_true rfl) dL_law_973 hz) (fun H locs h => ?_)
  exact lv_icmp_eq (tgt := 1453) S.1 S.2.1 dL_law_976 (by decide) (fun _ => kk w2 H locs hw2 h) (fun hc => absurd rfl hc)
theorem lw_case25 (S : CallFix p m c cL_law 4 s #[Value.ref b] fg_TW RL) (hX : va_X b L xs s s.heap) (hbl : b < s.heap.size) (hbA : ¬ fg_A g s.heap.size b) (hK : fg_KN D g s) (hw : rr w) (h : fg_H D g s.heap w H locs) (hi : i + 6 ≤ L) (hL : L ≤ 3072) (hl : lv_has ls 4 [(3, .int (nI i)), (0, .ref b), (1, .ref (g.1 3 0 0)), (2, .ref (g.1 4 0 0))]) (hz : cells ≤ room_1.cells ∧ slots ≤ room_1.slots) (kk : ∀ (w : fg_W) (H : Heap) (locs : List Loc), rr w → fg_H D g s.heap w H locs → W p l e room_1 s m #[Value.ref b] below meth c H locs cells slots Q (F0 m 1453 ls [])) : W p l e room_1 s m #[Value.ref b] below meth c H locs cells slots Q (F0 m 981 ls []) := by
  obtain ⟨r, w1, w2, hf1, hf2, hw2⟩ := ag_odds hw (xs (nI i + 1).toNatClampNeg) (xs (nI i + 2).toNatClampNeg) (xs (nI i + 3).toNatClampNeg)
  refine lv_aload_n S.1 S.2.1 dL_law_981 rfl (lv_at hl 2 rfl) ?_
  refine lv_aload_n S.1 S.2.1 dL_law_982 rfl (lv_at hl 1 rfl) ?_
  refine lv_iload_n S.1 S.2.1 dL_law_983 rfl (lv_at hl 0 rfl) ?_
  refine lv_iconst (v := 1) S.1 S.2.1 dL_law_984 rfl ?_
  refine lv_iadd S.1 S.2.1 dL_law_985 ?_
  refine va_sld S.1 S.2.1 hX hbl hbA h.2.2 (lw_in 1 (by decide) hi hL) dL_law_986 ?_
  refine lv_aload_n S.1 S.2.1 dL_law_987 rfl (lv_at hl 1 rfl) ?_
  refine lv_iload_n S.1 S.2.1 dL_law_988 rfl (lv_at hl 0 rfl) ?_
  refine lv_iconst (v := 2) S.1 S.2.1 dL_law_989 rfl ?_
  refine lv_iadd S.1 S.2.1 dL_law_990 ?_
  refine va_sld S.1 S.2.1 hX hbl hbA h.2.2 (lw_in 2 (by decide) hi hL) dL_law_991 ?_
  refine lv_aload_n S.1 S.2.1 dL_law_992 rfl (lv_at hl 1 rfl) ?_
  refine lv_iload_n S.1 S.2.1 dL_law_993 rfl (lv_at hl 0 rfl) ?_
  refine lv_iconst (v := 3) S.1 S.2.1 dL_law_994 rfl ?_
  refine lv_iadd S.1 S.2.1 dL_law_995 ?_
  refine va_sld S.1 S.2.1 hX hbl hbA h.2.2 (lw_in 3 (by decide) hi hL) dL_law_996 ?_
  refine fg_cl h (fg_runV (rest := []) S hK h (c_X3_odds l D g (xs (nI i + 1).toNatClampNeg) (xs (nI i + 2).toNatClampNeg) (xs (nI i + 3).toNatClampNeg) w r w1 hf1) vg_RL_117 vd_X3_odds ⟨Nat.le_of_ble_eq_true rfl, Nat.le_of_ble_eq_true rfl⟩ fg_p3_0 rfl rfl rfl hl.1 rfl (Nat.le_of_ble_eq_true rfl) dL_law_997 hz) (fun H locs h => ?_)
  refine lv_aload_n S.1 S.2.1 dL_law_1000 rfl (lv_at hl 3 rfl) ?_
  refine lv_aload_n S.1 S.2.1 dL_law_1001 rfl (lv_at hl 1 rfl) ?_
  refine lv_iload_n S.1 S.2.1 dL_law_1002 rfl (lv_at hl 0 rfl) ?_
  refine lv_iconst (v := 1) S.1 S.2.1 dL_law_1003 rfl ?_
  refine lv_iadd S.1 S.2.1 dL_law_1004 ?_
  refine va_sld S.1 S.2.1 hX hbl hbA h.2.2 (lw_in 1 (by decide) hi hL) dL_law_1005 ?_
  refine lv_aload_n S.1 S.2.1 dL_law_1006 rfl (lv_at hl 1 rfl) ?_
  refine lv_iload_n S.1 S.2.1 dL_law_1007 rfl (lv_at hl 0 rfl) ?_
  refine lv_iconst (v := 2) S.1 S.2.1 dL_law_1008 rfl ?_
  refine lv_iadd S.1 S.2.1 dL_law_1009 ?_
  refine va_sld S.1 S.2.1 hX hbl hbA h.2.2 (lw_in 2 (by decide) hi hL) dL_law_1010 ?_
  refine lv_aload_n S.1 S.2.1 dL_law_1011 rfl (lv_at hl 1 rfl) ?_
  refine lv_iload_n S.1 S.2.1 dL_law_1012 rfl (lv_at hl 0 rfl) ?_
  refine lv_iconst (v := 3) S.1 S.2.1 dL_law_1013 rfl ?_
  refine lv_iadd S.1 S.2.1 dL_law_1014 ?_
  refine va_sld S.1 S.2.1 hX hbl hbA h.2.2 (lw_in 3 (by decide) hi hL) dL_law_1015 ?_
  refine fg_cl h (fg_runV (rest := [.long r]) S hK h (c_X4_odds l D g (xs (nI i + 1).toNatClampNeg) (xs (nI i + 2).toNatClampNeg) (xs (nI i + 3).toNatClampNeg) w1 r w2 hf2) vg_RL_121 vd_X4_odds ⟨Nat.le_of_ble_eq_true rfl, Nat.le_of_ble_eq_true rfl⟩ fg_p4_0 rfl rfl rfl hl.1 rfl (Nat.le_of_ble_eq_true rfl) dL_law_1016 hz) (fun H locs h => ?_)
  refine W.lcmp S.1 S.2.1 dL_law_1019 ?_
  rw [lw_cmp]
  exact lv_if_eq (tgt := 1453) S.1 S.2.1 dL_law_1020 (by decide) (fun _ => kk w2 H locs hw2 h) (fun hc => absurd rfl hc)
theorem lw_case26 (S : CallFix p m c cL_law 4 s #[Value.ref b] fg_TW RL) (hX : va_X b L xs s s.heap) (hbl : b < s.heap.size) (hbA : ¬ fg_A g s.heap.size b) (hK : fg_KN D g s) (hw : rr w) (h : fg_H D g s.heap w H locs) (hi : i + 6 ≤ L) (hL : L ≤ 3072) (hl : lv_has ls 4 [(3, .int (nI i)), (0, .ref b), (1, .ref (g.1 3 0 0)), (2, .ref (g.1 4 0 0))]) (hz : cells ≤ room_1.cells ∧ slots ≤ room_1.slots) (kk : ∀ (w : fg_W) (H : Heap) (locs : List Loc), rr w → fg_H D g s.heap w H locs → W p l e room_1 s m #[Value.ref b] below meth c H locs cells slots Q (F0 m 1453 ls [])) : W p l e room_1 s m #[Value.ref b] below meth c H locs cells slots Q (F0 m 1025 ls []) := by
  obtain ⟨r, w1, w2, hf1, hf2, hw2⟩ := ag_seed hw (xs (nI i + 1).toNatClampNeg)
  refine lv_aload_n S.1 S.2.1 dL_law_1025 rfl (lv_at hl 2 rfl) ?_
  refine lv_aload_n S.1 S.2.1 dL_law_1026 rfl (lv_at hl 1 rfl) ?_
  refine lv_iload_n S.1 S.2.1 dL_law_1027 rfl (lv_at hl 0 rfl) ?_
  refine lv_iconst (v := 1) S.1 S.2.1 dL_law_1028 rfl ?_
  refine lv_iadd S.1 S.2.1 dL_law_1029 ?_
  refine va_sld S.1 S.2.1 hX hbl hbA h.2.2 (lw_in 1 (by decide) hi hL) dL_law_1030 ?_
  refine fg_ci h (fg_runV (rest := []) S hK h (c_X3_seed l D g (xs (nI i + 1).toNatClampNeg) w r w1 hf1) vg_RL_122 vd_X3_seed ⟨Nat.le_of_ble_eq_true rfl, Nat.le_of_ble_eq_true rfl⟩ fg_p3_0 rfl rfl rfl hl.1 rfl (Nat.le_of_ble_eq_true rfl) dL_law_1031 hz) (fun H locs h => ?_)
  refine lv_aload_n S.1 S.2.1 dL_law_1034 rfl (lv_at hl 3 rfl) ?_
  refine lv_aload_n S.1 S.2.1 dL_law_1035 rfl (lv_at hl 1 rfl) ?_
  refine lv_iload_n S.1 S.2.1 dL_law_1036 rfl (lv_at hl 0 rfl) ?_
  refine lv_iconst (v := 1) S.1 S.2.1 dL_law_1037 rfl ?_
  refine lv_iadd S.1 S.2.1 dL_law_1038 ?_
  refine va_sld S.1 S.2.1 hX hbl hbA h.2.2 (lw_in 1 (by decide) hi hL) dL_law_1039 ?_
  refine fg_ci h (fg_runV (rest := [.int r]) S hK h (c_X4_seed l D g (xs (nI i + 1).toNatClampNeg) w1 r w2 hf2) vg_RL_125 vd_X4_seed ⟨Nat.le_of_ble_eq_true rfl, Nat.le_of_ble_eq_true rfl⟩ fg_p4_0 rfl rfl rfl hl.1 rfl (Nat.le_of_ble_eq_true rfl) dL_law_1040 hz) (fun H locs h => ?_)
  exact lv_icmp_eq (tgt := 1453) S.1 S.2.1 dL_law_1043 (by decide) (fun _ => kk w2 H locs hw2 h) (fun hc => absurd rfl hc)
theorem lw_case27 (S : CallFix p m c cL_law 4 s #[Value.ref b] fg_TW RL) (hX : va_X b L xs s s.heap) (hbl : b < s.heap.size) (hbA : ¬ fg_A g s.heap.size b) (hK : fg_KN D g s) (hw : rr w) (h : fg_H D g s.heap w H locs) (hi : i + 6 ≤ L) (hL : L ≤ 3072) (hl : lv_has ls 4 [(3, .int (nI i)), (0, .ref b), (1, .ref (g.1 3 0 0)), (2, .ref (g.1 4 0 0))]) (hz : cells ≤ room_1.cells ∧ slots ≤ room_1.slots) (kk : ∀ (w : fg_W) (H : Heap) (locs : List Loc), rr w → fg_H D g s.heap w H locs → W p l e room_1 s m #[Value.ref b] below meth c H locs cells slots Q (F0 m 1453 ls [])) : W p l e room_1 s m #[Value.ref b] below meth c H locs cells slots Q (F0 m 1048 ls []) := by
  obtain ⟨r, w1, w2, hf1, hf2, hw2⟩ := ag_feed hw (xs (nI i + 1).toNatClampNeg) (xs (nI i + 2).toNatClampNeg)
  refine lv_aload_n S.1 S.2.1 dL_law_1048 rfl (lv_at hl 2 rfl) ?_
  refine lv_aload_n S.1 S.2.1 dL_law_1049 rfl (lv_at hl 1 rfl) ?_
  refine lv_iload_n S.1 S.2.1 dL_law_1050 rfl (lv_at hl 0 rfl) ?_
  refine lv_iconst (v := 1) S.1 S.2.1 dL_law_1051 rfl ?_
  refine lv_iadd S.1 S.2.1 dL_law_1052 ?_
  refine va_sld S.1 S.2.1 hX hbl hbA h.2.2 (lw_in 1 (by decide) hi hL) dL_law_1053 ?_
  refine lv_aload_n S.1 S.2.1 dL_law_1054 rfl (lv_at hl 1 rfl) ?_
  refine lv_iload_n S.1 S.2.1 dL_law_1055 rfl (lv_at hl 0 rfl) ?_
  refine lv_iconst (v := 2) S.1 S.2.1 dL_law_1056 rfl ?_
  refine lv_iadd S.1 S.2.1 dL_law_1057 ?_
  refine va_sld S.1 S.2.1 hX hbl hbA h.2.2 (lw_in 2 (by decide) hi hL) dL_law_1058 ?_
  refine fg_ci h (fg_runV (rest := []) S hK h (c_X3_feed l D g (xs (nI i + 1).toNatClampNeg) (xs (nI i + 2).toNatClampNeg) w r w1 hf1) vg_RL_126 vd_X3_feed ⟨Nat.le_of_ble_eq_true rfl, Nat.le_of_ble_eq_true rfl⟩ fg_p3_0 rfl rfl rfl hl.1 rfl (Nat.le_of_ble_eq_true rfl) dL_law_1059 hz) (fun H locs h => ?_)
  refine lv_aload_n S.1 S.2.1 dL_law_1062 rfl (lv_at hl 3 rfl) ?_
  refine lv_aload_n S.1 S.2.1 dL_law_1063 rfl (lv_at hl 1 rfl) ?_
  refine lv_iload_n S.1 S.2.1 dL_law_1064 rfl (lv_at hl 0 rfl) ?_
  refine lv_iconst (v := 1) S.1 S.2.1 dL_law_1065 rfl ?_
  refine lv_iadd S.1 S.2.1 dL_law_1066 ?_
  refine va_sld S.1 S.2.1 hX hbl hbA h.2.2 (lw_in 1 (by decide) hi hL) dL_law_1067 ?_
  refine lv_aload_n S.1 S.2.1 dL_law_1068 rfl (lv_at hl 1 rfl) ?_
  refine lv_iload_n S.1 S.2.1 dL_law_1069 rfl (lv_at hl 0 rfl) ?_
  refine lv_iconst (v := 2) S.1 S.2.1 dL_law_1070 rfl ?_
  refine lv_iadd S.1 S.2.1 dL_law_1071 ?_
  refine va_sld S.1 S.2.1 hX hbl hbA h.2.2 (lw_in 2 (by decide) hi hL) dL_law_1072 ?_
  refine fg_ci h (fg_runV (rest := [.int r]) S hK h (c_X4_feed l D g (xs (nI i + 1).toNatClampNeg) (xs (nI i + 2).toNatClampNeg) w1 r w2 hf2) vg_RL_129 vd_X4_feed ⟨Nat.le_of_ble_eq_true rfl, Nat.le_of_ble_eq_true rfl⟩ fg_p4_0 rfl rfl rfl hl.1 rfl (Nat.le_of_ble_eq_true rfl) dL_law_1073 hz) (fun H locs h => ?_)
  exact lv_icmp_eq (tgt := 1453) S.1 S.2.1 dL_law_1076 (by decide) (fun _ => kk w2 H locs hw2 h) (fun hc => absurd rfl hc)
theorem lw_case28 (S : CallFix p m c cL_law 4 s #[Value.ref b] fg_TW RL) (hX : va_X b L xs s s.heap) (hbl : b < s.heap.size) (hbA : ¬ fg_A g s.heap.size b) (hK : fg_KN D g s) (hw : rr w) (h : fg_H D g s.heap w H locs) (hi : i + 6 ≤ L) (hL : L ≤ 3072) (hl : lv_has ls 4 [(3, .int (nI i)), (0, .ref b), (1, .ref (g.1 3 0 0)), (2, .ref (g.1 4 0 0))]) (hz : cells ≤ room_1.cells ∧ slots ≤ room_1.slots) (kk : ∀ (w : fg_W) (H : Heap) (locs : List Loc), rr w → fg_H D g s.heap w H locs → W p l e room_1 s m #[Value.ref b] below meth c H locs cells slots Q (F0 m 1453 ls [])) : W p l e room_1 s m #[Value.ref b] below meth c H locs cells slots Q (F0 m 1081 ls []) := by
  obtain ⟨r, w1, w2, hf1, hf2, hw2⟩ := ag_wipe hw 
  refine lv_aload_n S.1 S.2.1 dL_law_1081 rfl (lv_at hl 2 rfl) ?_
  refine fg_ci h (fg_runV (rest := []) S hK h (c_X3_wipe l D g  w r w1 hf1) vg_RL_130 vd_X3_wipe ⟨Nat.le_of_ble_eq_true rfl, Nat.le_of_ble_eq_true rfl⟩ fg_p3_0 rfl rfl rfl hl.1 rfl (Nat.le_of_ble_eq_true rfl) dL_law_1082 hz) (fun H locs h => ?_)
  refine lv_aload_n S.1 S.2.1 dL_law_1085 rfl (lv_at hl 3 rfl) ?_
  refine fg_ci h (fg_runV (rest := [.int r]) S hK h (c_X4_wipe l D g  w1 r w2 hf2) vg_RL_133 vd_X4_wipe ⟨Nat.le_of_ble_eq_true rfl, Nat.le_of_ble_eq_true rfl⟩ fg_p4_0 rfl rfl rfl hl.1 rfl (Nat.le_of_ble_eq_true rfl) dL_law_1086 hz) (fun H locs h => ?_)
  exact lv_icmp_eq (tgt := 1453) S.1 S.2.1 dL_law_1089 (by decide) (fun _ => kk w2 H locs hw2 h) (fun hc => absurd rfl hc)
theorem lw_case29 (S : CallFix p m c cL_law 4 s #[Value.ref b] fg_TW RL) (hX : va_X b L xs s s.heap) (hbl : b < s.heap.size) (hbA : ¬ fg_A g s.heap.size b) (hK : fg_KN D g s) (hw : rr w) (h : fg_H D g s.heap w H locs) (hi : i + 6 ≤ L) (hL : L ≤ 3072) (hl : lv_has ls 4 [(3, .int (nI i)), (0, .ref b), (1, .ref (g.1 3 0 0)), (2, .ref (g.1 4 0 0))]) (hz : cells ≤ room_1.cells ∧ slots ≤ room_1.slots) (kk : ∀ (w : fg_W) (H : Heap) (locs : List Loc), rr w → fg_H D g s.heap w H locs → W p l e room_1 s m #[Value.ref b] below meth c H locs cells slots Q (F0 m 1453 ls [])) : W p l e room_1 s m #[Value.ref b] below meth c H locs cells slots Q (F0 m 1094 ls []) := by
  obtain ⟨r, w1, w2, hf1, hf2, hw2⟩ := ag_text hw 
  refine lv_aload_n S.1 S.2.1 dL_law_1094 rfl (lv_at hl 2 rfl) ?_
  refine fg_ci h (fg_runV (rest := []) S hK h (c_X3_text l D g  w r w1 hf1) vg_RL_134 vd_X3_text ⟨Nat.le_of_ble_eq_true rfl, Nat.le_of_ble_eq_true rfl⟩ fg_p3_0 rfl rfl rfl hl.1 rfl (Nat.le_of_ble_eq_true rfl) dL_law_1095 hz) (fun H locs h => ?_)
  refine lv_aload_n S.1 S.2.1 dL_law_1098 rfl (lv_at hl 3 rfl) ?_
  refine fg_ci h (fg_runV (rest := [.int r]) S hK h (c_X4_text l D g  w1 r w2 hf2) vg_RL_137 vd_X4_text ⟨Nat.le_of_ble_eq_true rfl, Nat.le_of_ble_eq_true rfl⟩ fg_p4_0 rfl rfl rfl hl.1 rfl (Nat.le_of_ble_eq_true rfl) dL_law_1099 hz) (fun H locs h => ?_)
  exact lv_icmp_eq (tgt := 1453) S.1 S.2.1 dL_law_1102 (by decide) (fun _ => kk w2 H locs hw2 h) (fun hc => absurd rfl hc)
theorem lw_case30 (S : CallFix p m c cL_law 4 s #[Value.ref b] fg_TW RL) (hX : va_X b L xs s s.heap) (hbl : b < s.heap.size) (hbA : ¬ fg_A g s.heap.size b) (hK : fg_KN D g s) (hw : rr w) (h : fg_H D g s.heap w H locs) (hi : i + 6 ≤ L) (hL : L ≤ 3072) (hl : lv_has ls 4 [(3, .int (nI i)), (0, .ref b), (1, .ref (g.1 3 0 0)), (2, .ref (g.1 4 0 0))]) (hz : cells ≤ room_1.cells ∧ slots ≤ room_1.slots) (kk : ∀ (w : fg_W) (H : Heap) (locs : List Loc), rr w → fg_H D g s.heap w H locs → W p l e room_1 s m #[Value.ref b] below meth c H locs cells slots Q (F0 m 1453 ls [])) : W p l e room_1 s m #[Value.ref b] below meth c H locs cells slots Q (F0 m 1107 ls []) := by
  obtain ⟨r, w1, w2, hf1, hf2, hw2⟩ := ag_hold hw (xs (nI i + 1).toNatClampNeg) (xs (nI i + 2).toNatClampNeg)
  refine lv_aload_n S.1 S.2.1 dL_law_1107 rfl (lv_at hl 2 rfl) ?_
  refine lv_aload_n S.1 S.2.1 dL_law_1108 rfl (lv_at hl 1 rfl) ?_
  refine lv_iload_n S.1 S.2.1 dL_law_1109 rfl (lv_at hl 0 rfl) ?_
  refine lv_iconst (v := 1) S.1 S.2.1 dL_law_1110 rfl ?_
  refine lv_iadd S.1 S.2.1 dL_law_1111 ?_
  refine va_sld S.1 S.2.1 hX hbl hbA h.2.2 (lw_in 1 (by decide) hi hL) dL_law_1112 ?_
  refine lv_aload_n S.1 S.2.1 dL_law_1113 rfl (lv_at hl 1 rfl) ?_
  refine lv_iload_n S.1 S.2.1 dL_law_1114 rfl (lv_at hl 0 rfl) ?_
  refine lv_iconst (v := 2) S.1 S.2.1 dL_law_1115 rfl ?_
  refine lv_iadd S.1 S.2.1 dL_law_1116 ?_
  refine va_sld S.1 S.2.1 hX hbl hbA h.2.2 (lw_in 2 (by decide) hi hL) dL_law_1117 ?_
  refine fg_ci h (fg_runV (rest := []) S hK h (c_X3_hold l D g (xs (nI i + 1).toNatClampNeg) (xs (nI i + 2).toNatClampNeg) w r w1 hf1) vg_RL_138 vd_X3_hold ⟨Nat.le_of_ble_eq_true rfl, Nat.le_of_ble_eq_true rfl⟩ fg_p3_0 rfl rfl rfl hl.1 rfl (Nat.le_of_ble_eq_true rfl) dL_law_1118 hz) (fun H locs h => ?_)
  refine lv_aload_n S.1 S.2.1 dL_law_1121 rfl (lv_at hl 3 rfl) ?_
  refine lv_aload_n S.1 S.2.1 dL_law_1122 rfl (lv_at hl 1 rfl) ?_
  refine lv_iload_n S.1 S.2.1 dL_law_1123 rfl (lv_at hl 0 rfl) ?_
  refine lv_iconst (v := 1) S.1 S.2.1 dL_law_1124 rfl ?_
  refine lv_iadd S.1 S.2.1 dL_law_1125 ?_
  refine va_sld S.1 S.2.1 hX hbl hbA h.2.2 (lw_in 1 (by decide) hi hL) dL_law_1126 ?_
  refine lv_aload_n S.1 S.2.1 dL_law_1127 rfl (lv_at hl 1 rfl) ?_
  refine lv_iload_n S.1 S.2.1 dL_law_1128 rfl (lv_at hl 0 rfl) ?_
  refine lv_iconst (v := 2) S.1 S.2.1 dL_law_1129 rfl ?_
  refine lv_iadd S.1 S.2.1 dL_law_1130 ?_
  refine va_sld S.1 S.2.1 hX hbl hbA h.2.2 (lw_in 2 (by decide) hi hL) dL_law_1131 ?_
  refine fg_ci h (fg_runV (rest := [.int r]) S hK h (c_X4_hold l D g (xs (nI i + 1).toNatClampNeg) (xs (nI i + 2).toNatClampNeg) w1 r w2 hf2) vg_RL_141 vd_X4_hold ⟨Nat.le_of_ble_eq_true rfl, Nat.le_of_ble_eq_true rfl⟩ fg_p4_0 rfl rfl rfl hl.1 rfl (Nat.le_of_ble_eq_true rfl) dL_law_1132 hz) (fun H locs h => ?_)
  exact lv_icmp_eq (tgt := 1453) S.1 S.2.1 dL_law_1135 (by decide) (fun _ => kk w2 H locs hw2 h) (fun hc => absurd rfl hc)
theorem lw_case31 (S : CallFix p m c cL_law 4 s #[Value.ref b] fg_TW RL) (hX : va_X b L xs s s.heap) (hbl : b < s.heap.size) (hbA : ¬ fg_A g s.heap.size b) (hK : fg_KN D g s) (hw : rr w) (h : fg_H D g s.heap w H locs) (hi : i + 6 ≤ L) (hL : L ≤ 3072) (hl : lv_has ls 4 [(3, .int (nI i)), (0, .ref b), (1, .ref (g.1 3 0 0)), (2, .ref (g.1 4 0 0))]) (hz : cells ≤ room_1.cells ∧ slots ≤ room_1.slots) (kk : ∀ (w : fg_W) (H : Heap) (locs : List Loc), rr w → fg_H D g s.heap w H locs → W p l e room_1 s m #[Value.ref b] below meth c H locs cells slots Q (F0 m 1453 ls [])) : W p l e room_1 s m #[Value.ref b] below meth c H locs cells slots Q (F0 m 1140 ls []) := by
  obtain ⟨r, w1, w2, hf1, hf2, hw2⟩ := ag_as hw (xs (nI i + 1).toNatClampNeg) (xs (nI i + 2).toNatClampNeg)
  refine lv_aload_n S.1 S.2.1 dL_law_1140 rfl (lv_at hl 2 rfl) ?_
  refine lv_aload_n S.1 S.2.1 dL_law_1141 rfl (lv_at hl 1 rfl) ?_
  refine lv_iload_n S.1 S.2.1 dL_law_1142 rfl (lv_at hl 0 rfl) ?_
  refine lv_iconst (v := 1) S.1 S.2.1 dL_law_1143 rfl ?_
  refine lv_iadd S.1 S.2.1 dL_law_1144 ?_
  refine va_sld S.1 S.2.1 hX hbl hbA h.2.2 (lw_in 1 (by decide) hi hL) dL_law_1145 ?_
  refine lv_aload_n S.1 S.2.1 dL_law_1146 rfl (lv_at hl 1 rfl) ?_
  refine lv_iload_n S.1 S.2.1 dL_law_1147 rfl (lv_at hl 0 rfl) ?_
  refine lv_iconst (v := 2) S.1 S.2.1 dL_law_1148 rfl ?_
  refine lv_iadd S.1 S.2.1 dL_law_1149 ?_
  refine va_sld S.1 S.2.1 hX hbl hbA h.2.2 (lw_in 2 (by decide) hi hL) dL_law_1150 ?_
  refine fg_ci h (fg_runV (rest := []) S hK h (c_X3_as l D g (xs (nI i + 1).toNatClampNeg) (xs (nI i + 2).toNatClampNeg) w r w1 hf1) vg_RL_142 vd_X3_as ⟨Nat.le_of_ble_eq_true rfl, Nat.le_of_ble_eq_true rfl⟩ fg_p3_0 rfl rfl rfl hl.1 rfl (Nat.le_of_ble_eq_true rfl) dL_law_1151 hz) (fun H locs h => ?_)
  refine lv_aload_n S.1 S.2.1 dL_law_1154 rfl (lv_at hl 3 rfl) ?_
  refine lv_aload_n S.1 S.2.1 dL_law_1155 rfl (lv_at hl 1 rfl) ?_
  refine lv_iload_n S.1 S.2.1 dL_law_1156 rfl (lv_at hl 0 rfl) ?_
  refine lv_iconst (v := 1) S.1 S.2.1 dL_law_1157 rfl ?_
  refine lv_iadd S.1 S.2.1 dL_law_1158 ?_
  refine va_sld S.1 S.2.1 hX hbl hbA h.2.2 (lw_in 1 (by decide) hi hL) dL_law_1159 ?_
  refine lv_aload_n S.1 S.2.1 dL_law_1160 rfl (lv_at hl 1 rfl) ?_
  refine lv_iload_n S.1 S.2.1 dL_law_1161 rfl (lv_at hl 0 rfl) ?_
  refine lv_iconst (v := 2) S.1 S.2.1 dL_law_1162 rfl ?_
  refine lv_iadd S.1 S.2.1 dL_law_1163 ?_
  refine va_sld S.1 S.2.1 hX hbl hbA h.2.2 (lw_in 2 (by decide) hi hL) dL_law_1164 ?_
  refine fg_ci h (fg_runV (rest := [.int r]) S hK h (c_X4_as l D g (xs (nI i + 1).toNatClampNeg) (xs (nI i + 2).toNatClampNeg) w1 r w2 hf2) vg_RL_145 vd_X4_as ⟨Nat.le_of_ble_eq_true rfl, Nat.le_of_ble_eq_true rfl⟩ fg_p4_0 rfl rfl rfl hl.1 rfl (Nat.le_of_ble_eq_true rfl) dL_law_1165 hz) (fun H locs h => ?_)
  exact lv_icmp_eq (tgt := 1453) S.1 S.2.1 dL_law_1168 (by decide) (fun _ => kk w2 H locs hw2 h) (fun hc => absurd rfl hc)
theorem lw_case32 (S : CallFix p m c cL_law 4 s #[Value.ref b] fg_TW RL) (hX : va_X b L xs s s.heap) (hbl : b < s.heap.size) (hbA : ¬ fg_A g s.heap.size b) (hK : fg_KN D g s) (hw : rr w) (h : fg_H D g s.heap w H locs) (hi : i + 6 ≤ L) (hL : L ≤ 3072) (hl : lv_has ls 4 [(3, .int (nI i)), (0, .ref b), (1, .ref (g.1 3 0 0)), (2, .ref (g.1 4 0 0))]) (hz : cells ≤ room_1.cells ∧ slots ≤ room_1.slots) (kk : ∀ (w : fg_W) (H : Heap) (locs : List Loc), rr w → fg_H D g s.heap w H locs → W p l e room_1 s m #[Value.ref b] below meth c H locs cells slots Q (F0 m 1453 ls [])) : W p l e room_1 s m #[Value.ref b] below meth c H locs cells slots Q (F0 m 1173 ls []) := by
  obtain ⟨r, w1, w2, hf1, hf2, hw2⟩ := ag_sheet hw (xs (nI i + 1).toNatClampNeg) (xs (nI i + 2).toNatClampNeg) (xs (nI i + 3).toNatClampNeg)
  refine lv_aload_n S.1 S.2.1 dL_law_1173 rfl (lv_at hl 2 rfl) ?_
  refine lv_aload_n S.1 S.2.1 dL_law_1174 rfl (lv_at hl 1 rfl) ?_
  refine lv_iload_n S.1 S.2.1 dL_law_1175 rfl (lv_at hl 0 rfl) ?_
  refine lv_iconst (v := 1) S.1 S.2.1 dL_law_1176 rfl ?_
  refine lv_iadd S.1 S.2.1 dL_law_1177 ?_
  refine va_sld S.1 S.2.1 hX hbl hbA h.2.2 (lw_in 1 (by decide) hi hL) dL_law_1178 ?_
  refine lv_aload_n S.1 S.2.1 dL_law_1179 rfl (lv_at hl 1 rfl) ?_
  refine lv_iload_n S.1 S.2.1 dL_law_1180 rfl (lv_at hl 0 rfl) ?_
  refine lv_iconst (v := 2) S.1 S.2.1 dL_law_1181 rfl ?_
  refine lv_iadd S.1 S.2.1 dL_law_1182 ?_
  refine va_sld S.1 S.2.1 hX hbl hbA h.2.2 (lw_in 2 (by decide) hi hL) dL_law_1183 ?_
  refine lv_aload_n S.1 S.2.1 dL_law_1184 rfl (lv_at hl 1 rfl) ?_
  refine lv_iload_n S.1 S.2.1 dL_law_1185 rfl (lv_at hl 0 rfl) ?_
  refine lv_iconst (v := 3) S.1 S.2.1 dL_law_1186 rfl ?_
  refine lv_iadd S.1 S.2.1 dL_law_1187 ?_
  refine va_sld S.1 S.2.1 hX hbl hbA h.2.2 (lw_in 3 (by decide) hi hL) dL_law_1188 ?_
  refine fg_ci h (fg_runV (rest := []) S hK h (c_X3_sheet l D g (xs (nI i + 1).toNatClampNeg) (xs (nI i + 2).toNatClampNeg) (xs (nI i + 3).toNatClampNeg) w r w1 hf1) vg_RL_146 vd_X3_sheet ⟨Nat.le_of_ble_eq_true rfl, Nat.le_of_ble_eq_true rfl⟩ fg_p3_0 rfl rfl rfl hl.1 rfl (Nat.le_of_ble_eq_true rfl) dL_law_1189 hz) (fun H locs h => ?_)
  refine lv_aload_n S.1 S.2.1 dL_law_1192 rfl (lv_at hl 3 rfl) ?_
  refine lv_aload_n S.1 S.2.1 dL_law_1193 rfl (lv_at hl 1 rfl) ?_
  refine lv_iload_n S.1 S.2.1 dL_law_1194 rfl (lv_at hl 0 rfl) ?_
  refine lv_iconst (v := 1) S.1 S.2.1 dL_law_1195 rfl ?_
  refine lv_iadd S.1 S.2.1 dL_law_1196 ?_
  refine va_sld S.1 S.2.1 hX hbl hbA h.2.2 (lw_in 1 (by decide) hi hL) dL_law_1197 ?_
  refine lv_aload_n S.1 S.2.1 dL_law_1198 rfl (lv_at hl 1 rfl) ?_
  refine lv_iload_n S.1 S.2.1 dL_law_1199 rfl (lv_at hl 0 rfl) ?_
  refine lv_iconst (v := 2) S.1 S.2.1 dL_law_1200 rfl ?_
  refine lv_iadd S.1 S.2.1 dL_law_1201 ?_
  refine va_sld S.1 S.2.1 hX hbl hbA h.2.2 (lw_in 2 (by decide) hi hL) dL_law_1202 ?_
  refine lv_aload_n S.1 S.2.1 dL_law_1203 rfl (lv_at hl 1 rfl) ?_
  refine lv_iload_n S.1 S.2.1 dL_law_1204 rfl (lv_at hl 0 rfl) ?_
  refine lv_iconst (v := 3) S.1 S.2.1 dL_law_1205 rfl ?_
  refine lv_iadd S.1 S.2.1 dL_law_1206 ?_
  refine va_sld S.1 S.2.1 hX hbl hbA h.2.2 (lw_in 3 (by decide) hi hL) dL_law_1207 ?_
  refine fg_ci h (fg_runV (rest := [.int r]) S hK h (c_X4_sheet l D g (xs (nI i + 1).toNatClampNeg) (xs (nI i + 2).toNatClampNeg) (xs (nI i + 3).toNatClampNeg) w1 r w2 hf2) vg_RL_149 vd_X4_sheet ⟨Nat.le_of_ble_eq_true rfl, Nat.le_of_ble_eq_true rfl⟩ fg_p4_0 rfl rfl rfl hl.1 rfl (Nat.le_of_ble_eq_true rfl) dL_law_1208 hz) (fun H locs h => ?_)
  exact lv_icmp_eq (tgt := 1453) S.1 S.2.1 dL_law_1211 (by decide) (fun _ => kk w2 H locs hw2 h) (fun hc => absurd rfl hc)
theorem lw_case33 (S : CallFix p m c cL_law 4 s #[Value.ref b] fg_TW RL) (hX : va_X b L xs s s.heap) (hbl : b < s.heap.size) (hbA : ¬ fg_A g s.heap.size b) (hK : fg_KN D g s) (hw : rr w) (h : fg_H D g s.heap w H locs) (hi : i + 6 ≤ L) (hL : L ≤ 3072) (hl : lv_has ls 4 [(3, .int (nI i)), (0, .ref b), (1, .ref (g.1 3 0 0)), (2, .ref (g.1 4 0 0))]) (hz : cells ≤ room_1.cells ∧ slots ≤ room_1.slots) (kk : ∀ (w : fg_W) (H : Heap) (locs : List Loc), rr w → fg_H D g s.heap w H locs → W p l e room_1 s m #[Value.ref b] below meth c H locs cells slots Q (F0 m 1453 ls [])) : W p l e room_1 s m #[Value.ref b] below meth c H locs cells slots Q (F0 m 1216 ls []) := by
  obtain ⟨r, w1, w2, hf1, hf2, hw2⟩ := ag_write hw (xs (nI i + 1).toNatClampNeg) (xs (nI i + 2).toNatClampNeg) (xs (nI i + 3).toNatClampNeg)
  refine lv_aload_n S.1 S.2.1 dL_law_1216 rfl (lv_at hl 2 rfl) ?_
  refine lv_aload_n S.1 S.2.1 dL_law_1217 rfl (lv_at hl 1 rfl) ?_
  refine lv_iload_n S.1 S.2.1 dL_law_1218 rfl (lv_at hl 0 rfl) ?_
  refine lv_iconst (v := 1) S.1 S.2.1 dL_law_1219 rfl ?_
  refine lv_iadd S.1 S.2.1 dL_law_1220 ?_
  refine va_sld S.1 S.2.1 hX hbl hbA h.2.2 (lw_in 1 (by decide) hi hL) dL_law_1221 ?_
  refine lv_aload_n S.1 S.2.1 dL_law_1222 rfl (lv_at hl 1 rfl) ?_
  refine lv_iload_n S.1 S.2.1 dL_law_1223 rfl (lv_at hl 0 rfl) ?_
  refine lv_iconst (v := 2) S.1 S.2.1 dL_law_1224 rfl ?_
  refine lv_iadd S.1 S.2.1 dL_law_1225 ?_
  refine va_sld S.1 S.2.1 hX hbl hbA h.2.2 (lw_in 2 (by decide) hi hL) dL_law_1226 ?_
  refine lv_aload_n S.1 S.2.1 dL_law_1227 rfl (lv_at hl 1 rfl) ?_
  refine lv_iload_n S.1 S.2.1 dL_law_1228 rfl (lv_at hl 0 rfl) ?_
  refine lv_iconst (v := 3) S.1 S.2.1 dL_law_1229 rfl ?_
  refine lv_iadd S.1 S.2.1 dL_law_1230 ?_
  refine va_sld S.1 S.2.1 hX hbl hbA h.2.2 (lw_in 3 (by decide) hi hL) dL_law_1231 ?_
  refine fg_ci h (fg_runV (rest := []) S hK h (c_X3_write l D g (xs (nI i + 1).toNatClampNeg) (xs (nI i + 2).toNatClampNeg) (xs (nI i + 3).toNatClampNeg) w r w1 hf1) vg_RL_150 vd_X3_write ⟨Nat.le_of_ble_eq_true rfl, Nat.le_of_ble_eq_true rfl⟩ fg_p3_0 rfl rfl rfl hl.1 rfl (Nat.le_of_ble_eq_true rfl) dL_law_1232 hz) (fun H locs h => ?_)
  refine lv_aload_n S.1 S.2.1 dL_law_1235 rfl (lv_at hl 3 rfl) ?_
  refine lv_aload_n S.1 S.2.1 dL_law_1236 rfl (lv_at hl 1 rfl) ?_
  refine lv_iload_n S.1 S.2.1 dL_law_1237 rfl (lv_at hl 0 rfl) ?_
  refine lv_iconst (v := 1) S.1 S.2.1 dL_law_1238 rfl ?_
  refine lv_iadd S.1 S.2.1 dL_law_1239 ?_
  refine va_sld S.1 S.2.1 hX hbl hbA h.2.2 (lw_in 1 (by decide) hi hL) dL_law_1240 ?_
  refine lv_aload_n S.1 S.2.1 dL_law_1241 rfl (lv_at hl 1 rfl) ?_
  refine lv_iload_n S.1 S.2.1 dL_law_1242 rfl (lv_at hl 0 rfl) ?_
  refine lv_iconst (v := 2) S.1 S.2.1 dL_law_1243 rfl ?_
  refine lv_iadd S.1 S.2.1 dL_law_1244 ?_
  refine va_sld S.1 S.2.1 hX hbl hbA h.2.2 (lw_in 2 (by decide) hi hL) dL_law_1245 ?_
  refine lv_aload_n S.1 S.2.1 dL_law_1246 rfl (lv_at hl 1 rfl) ?_
  refine lv_iload_n S.1 S.2.1 dL_law_1247 rfl (lv_at hl 0 rfl) ?_
  refine lv_iconst (v := 3) S.1 S.2.1 dL_law_1248 rfl ?_
  refine lv_iadd S.1 S.2.1 dL_law_1249 ?_
  refine va_sld S.1 S.2.1 hX hbl hbA h.2.2 (lw_in 3 (by decide) hi hL) dL_law_1250 ?_
  refine fg_ci h (fg_runV (rest := [.int r]) S hK h (c_X4_write l D g (xs (nI i + 1).toNatClampNeg) (xs (nI i + 2).toNatClampNeg) (xs (nI i + 3).toNatClampNeg) w1 r w2 hf2) vg_RL_153 vd_X4_write ⟨Nat.le_of_ble_eq_true rfl, Nat.le_of_ble_eq_true rfl⟩ fg_p4_0 rfl rfl rfl hl.1 rfl (Nat.le_of_ble_eq_true rfl) dL_law_1251 hz) (fun H locs h => ?_)
  exact lv_icmp_eq (tgt := 1453) S.1 S.2.1 dL_law_1254 (by decide) (fun _ => kk w2 H locs hw2 h) (fun hc => absurd rfl hc)
theorem lw_case34 (S : CallFix p m c cL_law 4 s #[Value.ref b] fg_TW RL) (hX : va_X b L xs s s.heap) (hbl : b < s.heap.size) (hbA : ¬ fg_A g s.heap.size b) (hK : fg_KN D g s) (hw : rr w) (h : fg_H D g s.heap w H locs) (hi : i + 6 ≤ L) (hL : L ≤ 3072) (hl : lv_has ls 4 [(3, .int (nI i)), (0, .ref b), (1, .ref (g.1 3 0 0)), (2, .ref (g.1 4 0 0))]) (hz : cells ≤ room_1.cells ∧ slots ≤ room_1.slots) (kk : ∀ (w : fg_W) (H : Heap) (locs : List Loc), rr w → fg_H D g s.heap w H locs → W p l e room_1 s m #[Value.ref b] below meth c H locs cells slots Q (F0 m 1453 ls [])) : W p l e room_1 s m #[Value.ref b] below meth c H locs cells slots Q (F0 m 1259 ls []) := by
  obtain ⟨r, w1, w2, hf1, hf2, hw2⟩ := ag_copy hw (xs (nI i + 1).toNatClampNeg) (xs (nI i + 2).toNatClampNeg) (xs (nI i + 3).toNatClampNeg) (xs (nI i + 4).toNatClampNeg) (xs (nI i + 5).toNatClampNeg)
  refine lv_aload_n S.1 S.2.1 dL_law_1259 rfl (lv_at hl 2 rfl) ?_
  refine lv_aload_n S.1 S.2.1 dL_law_1260 rfl (lv_at hl 1 rfl) ?_
  refine lv_iload_n S.1 S.2.1 dL_law_1261 rfl (lv_at hl 0 rfl) ?_
  refine lv_iconst (v := 1) S.1 S.2.1 dL_law_1262 rfl ?_
  refine lv_iadd S.1 S.2.1 dL_law_1263 ?_
  refine va_sld S.1 S.2.1 hX hbl hbA h.2.2 (lw_in 1 (by decide) hi hL) dL_law_1264 ?_
  refine lv_aload_n S.1 S.2.1 dL_law_1265 rfl (lv_at hl 1 rfl) ?_
  refine lv_iload_n S.1 S.2.1 dL_law_1266 rfl (lv_at hl 0 rfl) ?_
  refine lv_iconst (v := 2) S.1 S.2.1 dL_law_1267 rfl ?_
  refine lv_iadd S.1 S.2.1 dL_law_1268 ?_
  refine va_sld S.1 S.2.1 hX hbl hbA h.2.2 (lw_in 2 (by decide) hi hL) dL_law_1269 ?_
  refine lv_aload_n S.1 S.2.1 dL_law_1270 rfl (lv_at hl 1 rfl) ?_
  refine lv_iload_n S.1 S.2.1 dL_law_1271 rfl (lv_at hl 0 rfl) ?_
  refine lv_iconst (v := 3) S.1 S.2.1 dL_law_1272 rfl ?_
  refine lv_iadd S.1 S.2.1 dL_law_1273 ?_
  refine va_sld S.1 S.2.1 hX hbl hbA h.2.2 (lw_in 3 (by decide) hi hL) dL_law_1274 ?_
  refine lv_aload_n S.1 S.2.1 dL_law_1275 rfl (lv_at hl 1 rfl) ?_
  refine lv_iload_n S.1 S.2.1 dL_law_1276 rfl (lv_at hl 0 rfl) ?_
  refine lv_iconst (v := 4) S.1 S.2.1 dL_law_1277 rfl ?_
  refine lv_iadd S.1 S.2.1 dL_law_1278 ?_
  refine va_sld S.1 S.2.1 hX hbl hbA h.2.2 (lw_in 4 (by decide) hi hL) dL_law_1279 ?_
  refine lv_aload_n S.1 S.2.1 dL_law_1280 rfl (lv_at hl 1 rfl) ?_
  refine lv_iload_n S.1 S.2.1 dL_law_1281 rfl (lv_at hl 0 rfl) ?_
  refine lv_iconst (v := 5) S.1 S.2.1 dL_law_1282 rfl ?_
  refine lv_iadd S.1 S.2.1 dL_law_1283 ?_
  refine va_sld S.1 S.2.1 hX hbl hbA h.2.2 (lw_in 5 (by decide) hi hL) dL_law_1284 ?_
  refine fg_ci h (fg_runV (rest := []) S hK h (c_X3_copy l D g (xs (nI i + 1).toNatClampNeg) (xs (nI i + 2).toNatClampNeg) (xs (nI i + 3).toNatClampNeg) (xs (nI i + 4).toNatClampNeg) (xs (nI i + 5).toNatClampNeg) w r w1 hf1) vg_RL_154 vd_X3_copy ⟨Nat.le_of_ble_eq_true rfl, Nat.le_of_ble_eq_true rfl⟩ fg_p3_0 rfl rfl rfl hl.1 rfl (Nat.le_of_ble_eq_true rfl) dL_law_1285 hz) (fun H locs h => ?_)
  refine lv_aload_n S.1 S.2.1 dL_law_1288 rfl (lv_at hl 3 rfl) ?_
  refine lv_aload_n S.1 S.2.1 dL_law_1289 rfl (lv_at hl 1 rfl) ?_
  refine lv_iload_n S.1 S.2.1 dL_law_1290 rfl (lv_at hl 0 rfl) ?_
  refine lv_iconst (v := 1) S.1 S.2.1 dL_law_1291 rfl ?_
  refine lv_iadd S.1 S.2.1 dL_law_1292 ?_
  refine va_sld S.1 S.2.1 hX hbl hbA h.2.2 (lw_in 1 (by decide) hi hL) dL_law_1293 ?_
  refine lv_aload_n S.1 S.2.1 dL_law_1294 rfl (lv_at hl 1 rfl) ?_
  refine lv_iload_n S.1 S.2.1 dL_law_1295 rfl (lv_at hl 0 rfl) ?_
  refine lv_iconst (v := 2) S.1 S.2.1 dL_law_1296 rfl ?_
  refine lv_iadd S.1 S.2.1 dL_law_1297 ?_
  refine va_sld S.1 S.2.1 hX hbl hbA h.2.2 (lw_in 2 (by decide) hi hL) dL_law_1298 ?_
  refine lv_aload_n S.1 S.2.1 dL_law_1299 rfl (lv_at hl 1 rfl) ?_
  refine lv_iload_n S.1 S.2.1 dL_law_1300 rfl (lv_at hl 0 rfl) ?_
  refine lv_iconst (v := 3) S.1 S.2.1 dL_law_1301 rfl ?_
  refine lv_iadd S.1 S.2.1 dL_law_1302 ?_
  refine va_sld S.1 S.2.1 hX hbl hbA h.2.2 (lw_in 3 (by decide) hi hL) dL_law_1303 ?_
  refine lv_aload_n S.1 S.2.1 dL_law_1304 rfl (lv_at hl 1 rfl) ?_
  refine lv_iload_n S.1 S.2.1 dL_law_1305 rfl (lv_at hl 0 rfl) ?_
  refine lv_iconst (v := 4) S.1 S.2.1 dL_law_1306 rfl ?_
  refine lv_iadd S.1 S.2.1 dL_law_1307 ?_
  refine va_sld S.1 S.2.1 hX hbl hbA h.2.2 (lw_in 4 (by decide) hi hL) dL_law_1308 ?_
  refine lv_aload_n S.1 S.2.1 dL_law_1309 rfl (lv_at hl 1 rfl) ?_
  refine lv_iload_n S.1 S.2.1 dL_law_1310 rfl (lv_at hl 0 rfl) ?_
  refine lv_iconst (v := 5) S.1 S.2.1 dL_law_1311 rfl ?_
  refine lv_iadd S.1 S.2.1 dL_law_1312 ?_
  refine va_sld S.1 S.2.1 hX hbl hbA h.2.2 (lw_in 5 (by decide) hi hL) dL_law_1313 ?_
  refine fg_ci h (fg_runV (rest := [.int r]) S hK h (c_X4_copy l D g (xs (nI i + 1).toNatClampNeg) (xs (nI i + 2).toNatClampNeg) (xs (nI i + 3).toNatClampNeg) (xs (nI i + 4).toNatClampNeg) (xs (nI i + 5).toNatClampNeg) w1 r w2 hf2) vg_RL_158 vd_X4_copy ⟨Nat.le_of_ble_eq_true rfl, Nat.le_of_ble_eq_true rfl⟩ fg_p4_0 rfl rfl rfl hl.1 rfl (Nat.le_of_ble_eq_true rfl) dL_law_1314 hz) (fun H locs h => ?_)
  exact lv_icmp_eq (tgt := 1453) S.1 S.2.1 dL_law_1317 (by decide) (fun _ => kk w2 H locs hw2 h) (fun hc => absurd rfl hc)
theorem lw_case35 (S : CallFix p m c cL_law 4 s #[Value.ref b] fg_TW RL) (hX : va_X b L xs s s.heap) (hbl : b < s.heap.size) (hbA : ¬ fg_A g s.heap.size b) (hK : fg_KN D g s) (hw : rr w) (h : fg_H D g s.heap w H locs) (hi : i + 6 ≤ L) (hL : L ≤ 3072) (hl : lv_has ls 4 [(3, .int (nI i)), (0, .ref b), (1, .ref (g.1 3 0 0)), (2, .ref (g.1 4 0 0))]) (hz : cells ≤ room_1.cells ∧ slots ≤ room_1.slots) (kk : ∀ (w : fg_W) (H : Heap) (locs : List Loc), rr w → fg_H D g s.heap w H locs → W p l e room_1 s m #[Value.ref b] below meth c H locs cells slots Q (F0 m 1453 ls [])) : W p l e room_1 s m #[Value.ref b] below meth c H locs cells slots Q (F0 m 1322 ls []) := by
  obtain ⟨r, w1, w2, hf1, hf2, hw2⟩ := ag_load hw (xs (nI i + 1).toNatClampNeg)
  refine lv_aload_n S.1 S.2.1 dL_law_1322 rfl (lv_at hl 2 rfl) ?_
  refine lv_aload_n S.1 S.2.1 dL_law_1323 rfl (lv_at hl 1 rfl) ?_
  refine lv_iload_n S.1 S.2.1 dL_law_1324 rfl (lv_at hl 0 rfl) ?_
  refine lv_iconst (v := 1) S.1 S.2.1 dL_law_1325 rfl ?_
  refine lv_iadd S.1 S.2.1 dL_law_1326 ?_
  refine va_sld S.1 S.2.1 hX hbl hbA h.2.2 (lw_in 1 (by decide) hi hL) dL_law_1327 ?_
  refine fg_ci h (fg_runV (rest := []) S hK h (c_X3_load l D g (xs (nI i + 1).toNatClampNeg) w r w1 hf1) vg_RL_159 vd_X3_load ⟨Nat.le_of_ble_eq_true rfl, Nat.le_of_ble_eq_true rfl⟩ fg_p3_0 rfl rfl rfl hl.1 rfl (Nat.le_of_ble_eq_true rfl) dL_law_1328 hz) (fun H locs h => ?_)
  refine lv_aload_n S.1 S.2.1 dL_law_1331 rfl (lv_at hl 3 rfl) ?_
  refine lv_aload_n S.1 S.2.1 dL_law_1332 rfl (lv_at hl 1 rfl) ?_
  refine lv_iload_n S.1 S.2.1 dL_law_1333 rfl (lv_at hl 0 rfl) ?_
  refine lv_iconst (v := 1) S.1 S.2.1 dL_law_1334 rfl ?_
  refine lv_iadd S.1 S.2.1 dL_law_1335 ?_
  refine va_sld S.1 S.2.1 hX hbl hbA h.2.2 (lw_in 1 (by decide) hi hL) dL_law_1336 ?_
  refine fg_ci h (fg_runV (rest := [.int r]) S hK h (c_X4_load l D g (xs (nI i + 1).toNatClampNeg) w1 r w2 hf2) vg_RL_162 vd_X4_load ⟨Nat.le_of_ble_eq_true rfl, Nat.le_of_ble_eq_true rfl⟩ fg_p4_0 rfl rfl rfl hl.1 rfl (Nat.le_of_ble_eq_true rfl) dL_law_1337 hz) (fun H locs h => ?_)
  exact lv_icmp_eq (tgt := 1453) S.1 S.2.1 dL_law_1340 (by decide) (fun _ => kk w2 H locs hw2 h) (fun hc => absurd rfl hc)
theorem lw_case36 (S : CallFix p m c cL_law 4 s #[Value.ref b] fg_TW RL) (hX : va_X b L xs s s.heap) (hbl : b < s.heap.size) (hbA : ¬ fg_A g s.heap.size b) (hK : fg_KN D g s) (hw : rr w) (h : fg_H D g s.heap w H locs) (hi : i + 6 ≤ L) (hL : L ≤ 3072) (hl : lv_has ls 4 [(3, .int (nI i)), (0, .ref b), (1, .ref (g.1 3 0 0)), (2, .ref (g.1 4 0 0))]) (hz : cells ≤ room_1.cells ∧ slots ≤ room_1.slots) (kk : ∀ (w : fg_W) (H : Heap) (locs : List Loc), rr w → fg_H D g s.heap w H locs → W p l e room_1 s m #[Value.ref b] below meth c H locs cells slots Q (F0 m 1453 ls [])) : W p l e room_1 s m #[Value.ref b] below meth c H locs cells slots Q (F0 m 1345 ls []) := by
  obtain ⟨r, w1, w2, hf1, hf2, hw2⟩ := ag_judge hw (xs (nI i + 1).toNatClampNeg)
  refine lv_aload_n S.1 S.2.1 dL_law_1345 rfl (lv_at hl 2 rfl) ?_
  refine lv_aload_n S.1 S.2.1 dL_law_1346 rfl (lv_at hl 1 rfl) ?_
  refine lv_iload_n S.1 S.2.1 dL_law_1347 rfl (lv_at hl 0 rfl) ?_
  refine lv_iconst (v := 1) S.1 S.2.1 dL_law_1348 rfl ?_
  refine lv_iadd S.1 S.2.1 dL_law_1349 ?_
  refine va_sld S.1 S.2.1 hX hbl hbA h.2.2 (lw_in 1 (by decide) hi hL) dL_law_1350 ?_
  refine fg_ci h (fg_runV (rest := []) S hK h (c_X3_judge l D g (xs (nI i + 1).toNatClampNeg) w r w1 hf1) vg_RL_163 vd_X3_judge ⟨Nat.le_of_ble_eq_true rfl, Nat.le_of_ble_eq_true rfl⟩ fg_p3_0 rfl rfl rfl hl.1 rfl (Nat.le_of_ble_eq_true rfl) dL_law_1351 hz) (fun H locs h => ?_)
  refine lv_aload_n S.1 S.2.1 dL_law_1354 rfl (lv_at hl 3 rfl) ?_
  refine lv_aload_n S.1 S.2.1 dL_law_1355 rfl (lv_at hl 1 rfl) ?_
  refine lv_iload_n S.1 S.2.1 dL_law_1356 rfl (lv_at hl 0 rfl) ?_
  refine lv_iconst (v := 1) S.1 S.2.1 dL_law_1357 rfl ?_
  refine lv_iadd S.1 S.2.1 dL_law_1358 ?_
  refine va_sld S.1 S.2.1 hX hbl hbA h.2.2 (lw_in 1 (by decide) hi hL) dL_law_1359 ?_
  refine fg_ci h (fg_runV (rest := [.int r]) S hK h (c_X4_judge l D g (xs (nI i + 1).toNatClampNeg) w1 r w2 hf2) vg_RL_166 vd_X4_judge ⟨Nat.le_of_ble_eq_true rfl, Nat.le_of_ble_eq_true rfl⟩ fg_p4_0 rfl rfl rfl hl.1 rfl (Nat.le_of_ble_eq_true rfl) dL_law_1360 hz) (fun H locs h => ?_)
  exact lv_icmp_eq (tgt := 1453) S.1 S.2.1 dL_law_1363 (by decide) (fun _ => kk w2 H locs hw2 h) (fun hc => absurd rfl hc)
theorem lw_case37 (S : CallFix p m c cL_law 4 s #[Value.ref b] fg_TW RL) (hX : va_X b L xs s s.heap) (hbl : b < s.heap.size) (hbA : ¬ fg_A g s.heap.size b) (hK : fg_KN D g s) (hw : rr w) (h : fg_H D g s.heap w H locs) (hi : i + 6 ≤ L) (hL : L ≤ 3072) (hl : lv_has ls 4 [(3, .int (nI i)), (0, .ref b), (1, .ref (g.1 3 0 0)), (2, .ref (g.1 4 0 0))]) (hz : cells ≤ room_1.cells ∧ slots ≤ room_1.slots) (kk : ∀ (w : fg_W) (H : Heap) (locs : List Loc), rr w → fg_H D g s.heap w H locs → W p l e room_1 s m #[Value.ref b] below meth c H locs cells slots Q (F0 m 1453 ls [])) : W p l e room_1 s m #[Value.ref b] below meth c H locs cells slots Q (F0 m 1368 ls []) := by
  obtain ⟨r, w1, w2, hf1, hf2, hw2⟩ := ag_image hw 
  refine lv_aload_n S.1 S.2.1 dL_law_1368 rfl (lv_at hl 2 rfl) ?_
  refine fg_ci h (fg_runV (rest := []) S hK h (c_X3_image l D g  w r w1 hf1) vg_RL_167 vd_X3_image ⟨Nat.le_of_ble_eq_true rfl, Nat.le_of_ble_eq_true rfl⟩ fg_p3_0 rfl rfl rfl hl.1 rfl (Nat.le_of_ble_eq_true rfl) dL_law_1369 hz) (fun H locs h => ?_)
  refine lv_aload_n S.1 S.2.1 dL_law_1372 rfl (lv_at hl 3 rfl) ?_
  refine fg_ci h (fg_runV (rest := [.int r]) S hK h (c_X4_image l D g  w1 r w2 hf2) vg_RL_170 vd_X4_image ⟨Nat.le_of_ble_eq_true rfl, Nat.le_of_ble_eq_true rfl⟩ fg_p4_0 rfl rfl rfl hl.1 rfl (Nat.le_of_ble_eq_true rfl) dL_law_1373 hz) (fun H locs h => ?_)
  exact lv_icmp_eq (tgt := 1453) S.1 S.2.1 dL_law_1376 (by decide) (fun _ => kk w2 H locs hw2 h) (fun hc => absurd rfl hc)
theorem lw_case38 (S : CallFix p m c cL_law 4 s #[Value.ref b] fg_TW RL) (hX : va_X b L xs s s.heap) (hbl : b < s.heap.size) (hbA : ¬ fg_A g s.heap.size b) (hK : fg_KN D g s) (hw : rr w) (h : fg_H D g s.heap w H locs) (hi : i + 6 ≤ L) (hL : L ≤ 3072) (hl : lv_has ls 4 [(3, .int (nI i)), (0, .ref b), (1, .ref (g.1 3 0 0)), (2, .ref (g.1 4 0 0))]) (hz : cells ≤ room_1.cells ∧ slots ≤ room_1.slots) (kk : ∀ (w : fg_W) (H : Heap) (locs : List Loc), rr w → fg_H D g s.heap w H locs → W p l e room_1 s m #[Value.ref b] below meth c H locs cells slots Q (F0 m 1453 ls [])) : W p l e room_1 s m #[Value.ref b] below meth c H locs cells slots Q (F0 m 1381 ls []) := by
  obtain ⟨r, w1, w2, hf1, hf2, hw2⟩ := ag_undo hw 
  refine lv_aload_n S.1 S.2.1 dL_law_1381 rfl (lv_at hl 2 rfl) ?_
  refine fg_ci h (fg_runV (rest := []) S hK h (c_X3_undo l D g  w r w1 hf1) vg_RL_171 vd_X3_undo ⟨Nat.le_of_ble_eq_true rfl, Nat.le_of_ble_eq_true rfl⟩ fg_p3_0 rfl rfl rfl hl.1 rfl (Nat.le_of_ble_eq_true rfl) dL_law_1382 hz) (fun H locs h => ?_)
  refine lv_aload_n S.1 S.2.1 dL_law_1385 rfl (lv_at hl 3 rfl) ?_
  refine fg_ci h (fg_runV (rest := [.int r]) S hK h (c_X4_undo l D g  w1 r w2 hf2) vg_RL_174 vd_X4_undo ⟨Nat.le_of_ble_eq_true rfl, Nat.le_of_ble_eq_true rfl⟩ fg_p4_0 rfl rfl rfl hl.1 rfl (Nat.le_of_ble_eq_true rfl) dL_law_1386 hz) (fun H locs h => ?_)
  exact lv_icmp_eq (tgt := 1453) S.1 S.2.1 dL_law_1389 (by decide) (fun _ => kk w2 H locs hw2 h) (fun hc => absurd rfl hc)
theorem lw_case39 (S : CallFix p m c cL_law 4 s #[Value.ref b] fg_TW RL) (hX : va_X b L xs s s.heap) (hbl : b < s.heap.size) (hbA : ¬ fg_A g s.heap.size b) (hK : fg_KN D g s) (hw : rr w) (h : fg_H D g s.heap w H locs) (hi : i + 6 ≤ L) (hL : L ≤ 3072) (hl : lv_has ls 4 [(3, .int (nI i)), (0, .ref b), (1, .ref (g.1 3 0 0)), (2, .ref (g.1 4 0 0))]) (hz : cells ≤ room_1.cells ∧ slots ≤ room_1.slots) (kk : ∀ (w : fg_W) (H : Heap) (locs : List Loc), rr w → fg_H D g s.heap w H locs → W p l e room_1 s m #[Value.ref b] below meth c H locs cells slots Q (F0 m 1453 ls [])) : W p l e room_1 s m #[Value.ref b] below meth c H locs cells slots Q (F0 m 1394 ls []) := by
  obtain ⟨r, w1, w2, hf1, hf2, hw2⟩ := ag_tear hw 
  refine lv_aload_n S.1 S.2.1 dL_law_1394 rfl (lv_at hl 2 rfl) ?_
  refine fg_ci h (fg_runV (rest := []) S hK h (c_X3_tear l D g  w r w1 hf1) vg_RL_175 vd_X3_tear ⟨Nat.le_of_ble_eq_true rfl, Nat.le_of_ble_eq_true rfl⟩ fg_p3_0 rfl rfl rfl hl.1 rfl (Nat.le_of_ble_eq_true rfl) dL_law_1395 hz) (fun H locs h => ?_)
  refine lv_aload_n S.1 S.2.1 dL_law_1398 rfl (lv_at hl 3 rfl) ?_
  refine fg_ci h (fg_runV (rest := [.int r]) S hK h (c_X4_tear l D g  w1 r w2 hf2) vg_RL_178 vd_X4_tear ⟨Nat.le_of_ble_eq_true rfl, Nat.le_of_ble_eq_true rfl⟩ fg_p4_0 rfl rfl rfl hl.1 rfl (Nat.le_of_ble_eq_true rfl) dL_law_1399 hz) (fun H locs h => ?_)
  exact lv_icmp_eq (tgt := 1453) S.1 S.2.1 dL_law_1402 (by decide) (fun _ => kk w2 H locs hw2 h) (fun hc => absurd rfl hc)
theorem lw_case40 (S : CallFix p m c cL_law 4 s #[Value.ref b] fg_TW RL) (hX : va_X b L xs s s.heap) (hbl : b < s.heap.size) (hbA : ¬ fg_A g s.heap.size b) (hK : fg_KN D g s) (hw : rr w) (h : fg_H D g s.heap w H locs) (hi : i + 6 ≤ L) (hL : L ≤ 3072) (hl : lv_has ls 4 [(3, .int (nI i)), (0, .ref b), (1, .ref (g.1 3 0 0)), (2, .ref (g.1 4 0 0))]) (hz : cells ≤ room_1.cells ∧ slots ≤ room_1.slots) (kk : ∀ (w : fg_W) (H : Heap) (locs : List Loc), rr w → fg_H D g s.heap w H locs → W p l e room_1 s m #[Value.ref b] below meth c H locs cells slots Q (F0 m 1453 ls [])) : W p l e room_1 s m #[Value.ref b] below meth c H locs cells slots Q (F0 m 1407 ls []) := by
  obtain ⟨r, w1, w2, hf1, hf2, hw2⟩ := ag_count hw (xs (nI i + 1).toNatClampNeg)
  refine lv_aload_n S.1 S.2.1 dL_law_1407 rfl (lv_at hl 2 rfl) ?_
  refine lv_aload_n S.1 S.2.1 dL_law_1408 rfl (lv_at hl 1 rfl) ?_
  refine lv_iload_n S.1 S.2.1 dL_law_1409 rfl (lv_at hl 0 rfl) ?_
  refine lv_iconst (v := 1) S.1 S.2.1 dL_law_1410 rfl ?_
  refine lv_iadd S.1 S.2.1 dL_law_1411 ?_
  refine va_sld S.1 S.2.1 hX hbl hbA h.2.2 (lw_in 1 (by decide) hi hL) dL_law_1412 ?_
  refine fg_ci h (fg_runV (rest := []) S hK h (c_X3_count l D g (xs (nI i + 1).toNatClampNeg) w r w1 hf1) vg_RL_179 vd_X3_count ⟨Nat.le_of_ble_eq_true rfl, Nat.le_of_ble_eq_true rfl⟩ fg_p3_0 rfl rfl rfl hl.1 rfl (Nat.le_of_ble_eq_true rfl) dL_law_1413 hz) (fun H locs h => ?_)
  refine lv_aload_n S.1 S.2.1 dL_law_1416 rfl (lv_at hl 3 rfl) ?_
  refine lv_aload_n S.1 S.2.1 dL_law_1417 rfl (lv_at hl 1 rfl) ?_
  refine lv_iload_n S.1 S.2.1 dL_law_1418 rfl (lv_at hl 0 rfl) ?_
  refine lv_iconst (v := 1) S.1 S.2.1 dL_law_1419 rfl ?_
  refine lv_iadd S.1 S.2.1 dL_law_1420 ?_
  refine va_sld S.1 S.2.1 hX hbl hbA h.2.2 (lw_in 1 (by decide) hi hL) dL_law_1421 ?_
  refine fg_ci h (fg_runV (rest := [.int r]) S hK h (c_X4_count l D g (xs (nI i + 1).toNatClampNeg) w1 r w2 hf2) vg_RL_182 vd_X4_count ⟨Nat.le_of_ble_eq_true rfl, Nat.le_of_ble_eq_true rfl⟩ fg_p4_0 rfl rfl rfl hl.1 rfl (Nat.le_of_ble_eq_true rfl) dL_law_1422 hz) (fun H locs h => ?_)
  exact lv_icmp_eq (tgt := 1453) S.1 S.2.1 dL_law_1425 (by decide) (fun _ => kk w2 H locs hw2 h) (fun hc => absurd rfl hc)
theorem lw_case41 (S : CallFix p m c cL_law 4 s #[Value.ref b] fg_TW RL) (hX : va_X b L xs s s.heap) (hbl : b < s.heap.size) (hbA : ¬ fg_A g s.heap.size b) (hK : fg_KN D g s) (hw : rr w) (h : fg_H D g s.heap w H locs) (hi : i + 6 ≤ L) (hL : L ≤ 3072) (hl : lv_has ls 4 [(3, .int (nI i)), (0, .ref b), (1, .ref (g.1 3 0 0)), (2, .ref (g.1 4 0 0))]) (hz : cells ≤ room_1.cells ∧ slots ≤ room_1.slots) (kk : ∀ (w : fg_W) (H : Heap) (locs : List Loc), rr w → fg_H D g s.heap w H locs → W p l e room_1 s m #[Value.ref b] below meth c H locs cells slots Q (F0 m 1453 ls [])) : W p l e room_1 s m #[Value.ref b] below meth c H locs cells slots Q (F0 m 1430 ls []) := by
  obtain ⟨r, w1, w2, hf1, hf2, hw2⟩ := ag_status hw (xs (nI i + 1).toNatClampNeg)
  refine lv_aload_n S.1 S.2.1 dL_law_1430 rfl (lv_at hl 2 rfl) ?_
  refine lv_aload_n S.1 S.2.1 dL_law_1431 rfl (lv_at hl 1 rfl) ?_
  refine lv_iload_n S.1 S.2.1 dL_law_1432 rfl (lv_at hl 0 rfl) ?_
  refine lv_iconst (v := 1) S.1 S.2.1 dL_law_1433 rfl ?_
  refine lv_iadd S.1 S.2.1 dL_law_1434 ?_
  refine va_sld S.1 S.2.1 hX hbl hbA h.2.2 (lw_in 1 (by decide) hi hL) dL_law_1435 ?_
  refine fg_ci h (fg_runV (rest := []) S hK h (c_X3_status l D g (xs (nI i + 1).toNatClampNeg) w r w1 hf1) vg_RL_183 vd_X3_status ⟨Nat.le_of_ble_eq_true rfl, Nat.le_of_ble_eq_true rfl⟩ fg_p3_0 rfl rfl rfl hl.1 rfl (Nat.le_of_ble_eq_true rfl) dL_law_1436 hz) (fun H locs h => ?_)
  refine lv_aload_n S.1 S.2.1 dL_law_1439 rfl (lv_at hl 3 rfl) ?_
  refine lv_aload_n S.1 S.2.1 dL_law_1440 rfl (lv_at hl 1 rfl) ?_
  refine lv_iload_n S.1 S.2.1 dL_law_1441 rfl (lv_at hl 0 rfl) ?_
  refine lv_iconst (v := 1) S.1 S.2.1 dL_law_1442 rfl ?_
  refine lv_iadd S.1 S.2.1 dL_law_1443 ?_
  refine va_sld S.1 S.2.1 hX hbl hbA h.2.2 (lw_in 1 (by decide) hi hL) dL_law_1444 ?_
  refine fg_ci h (fg_runV (rest := [.int r]) S hK h (c_X4_status l D g (xs (nI i + 1).toNatClampNeg) w1 r w2 hf2) vg_RL_186 vd_X4_status ⟨Nat.le_of_ble_eq_true rfl, Nat.le_of_ble_eq_true rfl⟩ fg_p4_0 rfl rfl rfl hl.1 rfl (Nat.le_of_ble_eq_true rfl) dL_law_1445 hz) (fun H locs h => ?_)
  exact lv_icmp_eq (tgt := 1453) S.1 S.2.1 dL_law_1448 (by decide) (fun _ => kk w2 H locs hw2 h) (fun hc => absurd rfl hc)
end LAWC
