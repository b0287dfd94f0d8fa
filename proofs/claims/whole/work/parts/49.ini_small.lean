theorem in_astq {p : Program} {l : Launch} {e : Env} {R : Room} {s : State} {m : MethodId} {args : Array Value} {below : List Frame} {meth : Method} {c : Code} {H : Heap} {locs : List Loc} {cells slots : Nat} {Q : State → Prop} {cc : ByteArray} {pc : Nat} {ls : Array Slot} {rest : List Value} {D : va_G} {A : Nat → Prop} {H0 : Heap} {ws : va_W} {own : String} {nL : Nat} {cI cC cS : ClassId} (S : CallFix p m c cc nL s args fg_TW own) (hK : va_K D vwCl (in_T cI cC cS) s) (h : in_H D A H0 ws H locs) (q0 qk : Nat) {a n v k : Nat} {vs : List Value} {f : Nat → Option Nat} (ha : ws[q0]? = some (a, .inl (cS, n, .inr (.inr (.inr (.inr f)))))) (hv : ws[qk]? = some (v, .inr (0, vs))) {i : Int32} (hin : ¬ (i < 0 ∨ n ≤ i.toNatClampNeg)) (hk : i.toNatClampNeg = k) (hdg : decode cc pc = .ok (.aastore, 1))
    (kk : ∀ (H1 : Heap) (locs1 : List Loc), in_H D A H0 (ws.set q0 (a, .inl (cS, n, .inr (.inr (.inr (.inr (va_up f k (some v)))))))) H1 locs1 → W p l e R s m args below meth c H1 locs1 cells slots Q (F0 m (pc + 1) ls rest)) : W p l e R s m args below meth c H locs cells slots Q (F0 m pc ls (.ref v :: .int i :: .ref a :: rest)) := by
  subst hk
  exact va_astq (r := (RX0, TX0, 3)) S.1 S.2.1 hK h.1 h.2.1 h.2.2.1 q0 2 qk 0 ha rfl hv rfl hin hdg (fun H1 locs1 hP1 hD1 hS1 => kk H1 locs1 ⟨hP1, hD1, hS1, h.2.2.2⟩)
theorem in_d0 : ∀ j, j < 3 → defaultValue (tyX0 j) = vp_V [.int 0, .int 0, .null] j := by
  intro j hj
  rcases (show j = 0 ∨ j = 1 ∨ j = 2 by omega) with rfl | rfl | rfl <;> rfl
theorem in_d1 : ∀ j, j < 7 → defaultValue (tyX1 j) = vp_V [.null, .int 0, .int 0, .int 0, .int 0, .int 0, .int 0] j := by
  intro j hj
  rcases (show j = 0 ∨ j = 1 ∨ j = 2 ∨ j = 3 ∨ j = 4 ∨ j = 5 ∨ j = 6 by omega) with rfl | rfl | rfl | rfl | rfl | rfl | rfl <;> rfl
theorem in_d2 : ∀ j, j < 16 → defaultValue (tyX2 j) = vp_V [.null, .null, .null, .null, .int 0, .int 0, .null, .null, .null, .null, .null, .int 0, .int 0, .int 0, .null, .null] j := by
  intro j hj
  rcases (show j = 0 ∨ j = 1 ∨ j = 2 ∨ j = 3 ∨ j = 4 ∨ j = 5 ∨ j = 6 ∨ j = 7 ∨ j = 8 ∨ j = 9 ∨ j = 10 ∨ j = 11 ∨ j = 12 ∨ j = 13 ∨ j = 14 ∨ j = 15 by omega) with rfl | rfl | rfl | rfl | rfl | rfl | rfl | rfl | rfl | rfl | rfl | rfl | rfl | rfl | rfl | rfl <;> rfl
theorem in_d3 : ∀ j, j < 7 → defaultValue (tyX3 j) = vp_V [.null, .null, .null, .int 0, .null, .null, .null] j := by
  intro j hj
  rcases (show j = 0 ∨ j = 1 ∨ j = 2 ∨ j = 3 ∨ j = 4 ∨ j = 5 ∨ j = 6 by omega) with rfl | rfl | rfl | rfl | rfl | rfl | rfl <;> rfl
theorem in_d4 : ∀ j, j < 22 → defaultValue (tyX4 j) = vp_V [.null, .null, .null, .int 0, .null, .int 0, .null, .null, .null, .int 0, .int 0, .int 0, .int 0, .long 0, .null, .null, .null, .null, .null, .null, .null, .null] j := by
  intro j hj
  rcases (show j = 0 ∨ j = 1 ∨ j = 2 ∨ j = 3 ∨ j = 4 ∨ j = 5 ∨ j = 6 ∨ j = 7 ∨ j = 8 ∨ j = 9 ∨ j = 10 ∨ j = 11 ∨ j = 12 ∨ j = 13 ∨ j = 14 ∨ j = 15 ∨ j = 16 ∨ j = 17 ∨ j = 18 ∨ j = 19 ∨ j = 20 ∨ j = 21 by omega) with rfl | rfl | rfl | rfl | rfl | rfl | rfl | rfl | rfl | rfl | rfl | rfl | rfl | rfl | rfl | rfl | rfl | rfl | rfl | rfl | rfl | rfl <;> rfl
def in_w0 (cI : ClassId) (h0 : Nat) (a : Nat → Nat) : va_W := [(h0, .inr (0, [.int 0, .int 0, .ref (a 1)])), ((a 1), .inl (cI, 40, .inl (in_L (List.replicate 40 0))))]
set_option maxHeartbeats 8000000 in
set_option maxRecDepth 100000 in
theorem c_X0_init (l : Launch) (D : va_G) (cI cC cS : ClassId) (h0 : Nat) : in_M l yX0_init cX0_init 1 1 20 1 40 D cI cC cS [.ref h0] [(h0, .inr (0, [.int 0, .int 0, .null]))] (in_w0 cI h0) := by
  refine in_M.of rfl (Nat.le_of_ble_eq_true rfl) (fun p e s m below meth c ls A S hr hlk hin hK hN h hl => ?_)
  generalize hlocs : ([] : List Loc) = locs at h ⊢
  have hl : lv_has ls 1 [(0, .ref h0)] := hl
  refine lv_aload_n S.1 S.2.1 dX0_init_0 rfl (lv_at hl 0 rfl) ?_
  refine in_objInit S vm_RX0_3 hl.1 dX0_init_1 (by decide) (Nat.le_of_ble_eq_true rfl) (Nat.le_of_ble_eq_true rfl) ?_
  refine lv_aload_n S.1 S.2.1 dX0_init_4 rfl (lv_at hl 0 rfl) ?_
  refine lv_iconst (v := 0) S.1 S.2.1 dX0_init_5 rfl ?_
  refine in_put (ci := 0) (C := RX0) (T := TX0) (N := 3) S vu_X0 tyX0 tyX0_ok nmX0 hK h 0 rfl rfl 0 (by decide) vf_RX0_9 rfl rfl (tyX0_ok 0 (by decide)) rfl rfl (Nat.le_of_ble_eq_true rfl) dX0_init_6 (fun H locs h => ?_)
  have h : in_H D A s.heap ([(h0, .inr (0, [.int 0, .int 0, .null]))]) H locs := h
  refine lv_aload_n S.1 S.2.1 dX0_init_9 rfl (lv_at hl 0 rfl) ?_
  refine lv_iconst (v := 0) S.1 S.2.1 dX0_init_10 rfl ?_
  refine in_put (ci := 0) (C := RX0) (T := TX0) (N := 3) S vu_X0 tyX0 tyX0_ok nmX0 hK h 0 rfl rfl 1 (by decide) vf_RX0_15 rfl rfl (tyX0_ok 1 (by decide)) rfl rfl (Nat.le_of_ble_eq_true rfl) dX0_init_11 (fun H locs h => ?_)
  have h : in_H D A s.heap ([(h0, .inr (0, [.int 0, .int 0, .null]))]) H locs := h
  refine lv_aload_n S.1 S.2.1 dX0_init_14 rfl (lv_at hl 0 rfl) ?_
  refine lv_bipush (v := 40) S.1 S.2.1 dX0_init_15 rfl ?_
  refine in_newI S hK h 40 (by decide) rfl (Nat.le_of_ble_eq_true rfl) (Nat.le_of_ble_eq_true rfl) (Nat.le_of_ble_eq_true rfl) dX0_init_17 (fun q1 H h => ?_)
  have h : in_H D A s.heap ([(h0, .inr (0, [.int 0, .int 0, .null])), (q1, .inl (cI, 40, .inl (in_L (List.replicate 40 0))))]) H locs := h
  refine W.widen (k := 1) (n := 40) (Nat.le_of_ble_eq_true rfl) (Nat.le_of_ble_eq_true rfl) ?_
  refine in_putF (ci := 0) (C := RX0) (T := TX0) (N := 3) S vu_X0 tyX0 tyX0_ok nmX0 hK h 0 rfl rfl 2 (by decide) vf_RX0_18 rfl rfl hin rfl (tyX0_ok 2 (by decide)) rfl rfl (Nat.le_of_ble_eq_true rfl) dX0_init_19 (fun H locs h => ?_)
  have h : in_H D A s.heap ([(h0, .inr (0, [.int 0, .int 0, .ref q1])), (q1, .inl (cI, 40, .inl (in_L (List.replicate 40 0))))]) H locs := h
  exact in_retv S hr hlk hK (in_a [0, q1]) h (Nat.le_refl _) (Nat.le_refl _) dX0_init_22
def in_w1 (cI : ClassId) (h0 : Nat) (a : Nat → Nat) : va_W := [(h0, .inr (1, [.ref (a 1), .int 0, .int (-1), .int 3, .int 0, .int 0, .int 0])), ((a 1), .inl (cI, 120, .inl (in_L (List.replicate 120 0))))]
set_option maxHeartbeats 8000000 in
set_option maxRecDepth 100000 in
theorem c_X1_init (l : Launch) (D : va_G) (cI cC cS : ClassId) (h0 : Nat) : in_M l yX1_init cX1_init 1 1 20 1 120 D cI cC cS [.ref h0] [(h0, .inr (1, [.null, .int 0, .int 0, .int 0, .int 0, .int 0, .int 0]))] (in_w1 cI h0) := by
  refine in_M.of rfl (Nat.le_of_ble_eq_true rfl) (fun p e s m below meth c ls A S hr hlk hin hK hN h hl => ?_)
  generalize hlocs : ([] : List Loc) = locs at h ⊢
  have hl : lv_has ls 1 [(0, .ref h0)] := hl
  refine lv_aload_n S.1 S.2.1 dX1_init_0 rfl (lv_at hl 0 rfl) ?_
  refine in_objInit S vm_RX1_3 hl.1 dX1_init_1 (by decide) (Nat.le_of_ble_eq_true rfl) (Nat.le_of_ble_eq_true rfl) ?_
  refine lv_aload_n S.1 S.2.1 dX1_init_4 rfl (lv_at hl 0 rfl) ?_
  refine lv_bipush (v := 120) S.1 S.2.1 dX1_init_5 rfl ?_
  refine in_newI S hK h 120 (by decide) rfl (Nat.le_of_ble_eq_true rfl) (Nat.le_of_ble_eq_true rfl) (Nat.le_of_ble_eq_true rfl) dX1_init_7 (fun q1 H h => ?_)
  have h : in_H D A s.heap ([(h0, .inr (1, [.null, .int 0, .int 0, .int 0, .int 0, .int 0, .int 0])), (q1, .inl (cI, 120, .inl (in_L (List.replicate 120 0))))]) H locs := h
  refine W.widen (k := 1) (n := 120) (Nat.le_of_ble_eq_true rfl) (Nat.le_of_ble_eq_true rfl) ?_
  refine in_putF (ci := 1) (C := RX1) (T := TX1) (N := 7) S vu_X1 tyX1 tyX1_ok nmX1 hK h 0 rfl rfl 0 (by decide) vf_RX1_9 rfl rfl hin rfl (tyX1_ok 0 (by decide)) rfl rfl (Nat.le_of_ble_eq_true rfl) dX1_init_9 (fun H locs h => ?_)
  have h : in_H D A s.heap ([(h0, .inr (1, [.ref q1, .int 0, .int 0, .int 0, .int 0, .int 0, .int 0])), (q1, .inl (cI, 120, .inl (in_L (List.replicate 120 0))))]) H locs := h
  refine lv_aload_n S.1 S.2.1 dX1_init_12 rfl (lv_at hl 0 rfl) ?_
  refine lv_iconst (v := 0) S.1 S.2.1 dX1_init_13 rfl ?_
  refine in_put (ci := 1) (C := RX1) (T := TX1) (N := 7) S vu_X1 tyX1 tyX1_ok nmX1 hK h 0 rfl rfl 1 (by decide) vf_RX1_15 rfl rfl (tyX1_ok 1 (by decide)) rfl rfl (Nat.le_of_ble_eq_true rfl) dX1_init_14 (fun H locs h => ?_)
  have h : in_H D A s.heap ([(h0, .inr (1, [.ref q1, .int 0, .int 0, .int 0, .int 0, .int 0, .int 0])), (q1, .inl (cI, 120, .inl (in_L (List.replicate 120 0))))]) H locs := h
  refine lv_aload_n S.1 S.2.1 dX1_init_17 rfl (lv_at hl 0 rfl) ?_
  refine lv_iconst (v := (-1)) S.1 S.2.1 dX1_init_18 rfl ?_
  refine in_put (ci := 1) (C := RX1) (T := TX1) (N := 7) S vu_X1 tyX1 tyX1_ok nmX1 hK h 0 rfl rfl 2 (by decide) vf_RX1_19 rfl rfl (tyX1_ok 2 (by decide)) rfl rfl (Nat.le_of_ble_eq_true rfl) dX1_init_19 (fun H locs h => ?_)
  have h : in_H D A s.heap ([(h0, .inr (1, [.ref q1, .int 0, .int (-1), .int 0, .int 0, .int 0, .int 0])), (q1, .inl (cI, 120, .inl (in_L (List.replicate 120 0))))]) H locs := h
  refine lv_aload_n S.1 S.2.1 dX1_init_22 rfl (lv_at hl 0 rfl) ?_
  refine lv_iconst (v := 3) S.1 S.2.1 dX1_init_23 rfl ?_
  refine in_put (ci := 1) (C := RX1) (T := TX1) (N := 7) S vu_X1 tyX1 tyX1_ok nmX1 hK h 0 rfl rfl 3 (by decide) vf_RX1_22 rfl rfl (tyX1_ok 3 (by decide)) rfl rfl (Nat.le_of_ble_eq_true rfl) dX1_init_24 (fun H locs h => ?_)
  have h : in_H D A s.heap ([(h0, .inr (1, [.ref q1, .int 0, .int (-1), .int 3, .int 0, .int 0, .int 0])), (q1, .inl (cI, 120, .inl (in_L (List.replicate 120 0))))]) H locs := h
  refine lv_aload_n S.1 S.2.1 dX1_init_27 rfl (lv_at hl 0 rfl) ?_
  refine lv_iconst (v := 0) S.1 S.2.1 dX1_init_28 rfl ?_
  refine in_put (ci := 1) (C := RX1) (T := TX1) (N := 7) S vu_X1 tyX1 tyX1_ok nmX1 hK h 0 rfl rfl 4 (by decide) vf_RX1_25 rfl rfl (tyX1_ok 4 (by decide)) rfl rfl (Nat.le_of_ble_eq_true rfl) dX1_init_29 (fun H locs h => ?_)
  have h : in_H D A s.heap ([(h0, .inr (1, [.ref q1, .int 0, .int (-1), .int 3, .int 0, .int 0, .int 0])), (q1, .inl (cI, 120, .inl (in_L (List.replicate 120 0))))]) H locs := h
  refine lv_aload_n S.1 S.2.1 dX1_init_32 rfl (lv_at hl 0 rfl) ?_
  refine lv_iconst (v := 0) S.1 S.2.1 dX1_init_33 rfl ?_
  refine in_put (ci := 1) (C := RX1) (T := TX1) (N := 7) S vu_X1 tyX1 tyX1_ok nmX1 hK h 0 rfl rfl 5 (by decide) vf_RX1_28 rfl rfl (tyX1_ok 5 (by decide)) rfl rfl (Nat.le_of_ble_eq_true rfl) dX1_init_34 (fun H locs h => ?_)
  have h : in_H D A s.heap ([(h0, .inr (1, [.ref q1, .int 0, .int (-1), .int 3, .int 0, .int 0, .int 0])), (q1, .inl (cI, 120, .inl (in_L (List.replicate 120 0))))]) H locs := h
  refine lv_aload_n S.1 S.2.1 dX1_init_37 rfl (lv_at hl 0 rfl) ?_
  refine lv_iconst (v := 0) S.1 S.2.1 dX1_init_38 rfl ?_
  refine in_put (ci := 1) (C := RX1) (T := TX1) (N := 7) S vu_X1 tyX1 tyX1_ok nmX1 hK h 0 rfl rfl 6 (by decide) vf_RX1_31 rfl rfl (tyX1_ok 6 (by decide)) rfl rfl (Nat.le_of_ble_eq_true rfl) dX1_init_39 (fun H locs h => ?_)
  have h : in_H D A s.heap ([(h0, .inr (1, [.ref q1, .int 0, .int (-1), .int 3, .int 0, .int 0, .int 0])), (q1, .inl (cI, 120, .inl (in_L (List.replicate 120 0))))]) H locs := h
  exact in_retv S hr hlk hK (in_a [0, q1]) h (Nat.le_refl _) (Nat.le_refl _) dX1_init_42
def in_w2 (cI : ClassId) (h0 : Nat) (a : Nat → Nat) : va_W := [(h0, .inr (2, [.ref (a 1), .ref (a 2), .ref (a 3), .ref (a 4), .int 5, .int 0, .ref (a 5), .ref (a 6), .ref (a 7), .ref (a 8), .ref (a 9), .int 0, .int 0, .int 1, .ref (a 10), .ref (a 11)])), ((a 1), .inl (cI, 10, .inl (in_L [50, 50, 50, 50, 50, 50, 50, 50, 50, 50]))), ((a 2), .inl (cI, 10, .inl (in_L (List.replicate 10 0)))), ((a 3), .inl (cI, 10, .inl (in_L [-1, -1, -1, -1, -1, -1, -1, -1, -1, -1]))), ((a 4), .inl (cI, 6, .inl (in_L [5, 5, 5, 5, 5, 5]))), ((a 5), .inl (cI, 8, .inl (in_L (List.replicate 8 0)))), ((a 6), .inl (cI, 8, .inl (in_L (List.replicate 8 0)))), ((a 7), .inl (cI, 8, .inl (in_L (List.replicate 8 0)))), ((a 8), .inl (cI, 8, .inl (in_L (List.replicate 8 0)))), ((a 9), .inl (cI, 8, .inl (in_L (List.replicate 8 0)))), ((a 10), .inl (cI, 10, .inl (in_L [-1, -1, -1, -1, -1, -1, -1, -1, -1, -1]))), ((a 11), .inl (cI, 10, .inl (in_L (List.replicate 10 0))))]
set_option maxHeartbeats 8000000 in
set_option maxRecDepth 100000 in
theorem c_X2_init (l : Launch) (D : va_G) (cI cC cS : ClassId) (h0 : Nat) : in_M l yX2_init cX2_init 2 1 20 11 96 D cI cC cS [.ref h0] [(h0, .inr (2, [.null, .null, .null, .null, .int 0, .int 0, .null, .null, .null, .null, .null, .int 0, .int 0, .int 0, .null, .null]))] (in_w2 cI h0) := by
  refine in_M.of rfl (Nat.le_of_ble_eq_true rfl) (fun p e s m below meth c ls A S hr hlk hin hK hN h hl => ?_)
  generalize hlocs : ([] : List Loc) = locs at h ⊢
  have hl : lv_has ls 2 [(0, .ref h0)] := hl
  refine lv_aload_n S.1 S.2.1 dX2_init_0 rfl (lv_at hl 0 rfl) ?_
  refine in_objInit S vm_RX2_3 hl.1 dX2_init_1 (by decide) (Nat.le_of_ble_eq_true rfl) (Nat.le_of_ble_eq_true rfl) ?_
  refine lv_aload_n S.1 S.2.1 dX2_init_4 rfl (lv_at hl 0 rfl) ?_
  refine lv_bipush (v := 10) S.1 S.2.1 dX2_init_5 rfl ?_
  refine in_newI S hK h 10 (by decide) rfl (Nat.le_of_ble_eq_true rfl) (Nat.le_of_ble_eq_true rfl) (Nat.le_of_ble_eq_true rfl) dX2_init_7 (fun q1 H h => ?_)
  have h : in_H D A s.heap ([(h0, .inr (2, [.null, .null, .null, .null, .int 0, .int 0, .null, .null, .null, .null, .null, .int 0, .int 0, .int 0, .null, .null])), (q1, .inl (cI, 10, .inl (in_L (List.replicate 10 0))))]) H locs := h
  refine W.widen (k := 1) (n := 10) (Nat.le_of_ble_eq_true rfl) (Nat.le_of_ble_eq_true rfl) ?_
  refine in_putF (ci := 2) (C := RX2) (T := TX2) (N := 16) S vu_X2 tyX2 tyX2_ok nmX2 hK h 0 rfl rfl 0 (by decide) vf_RX2_9 rfl rfl hin rfl (tyX2_ok 0 (by decide)) rfl rfl (Nat.le_of_ble_eq_true rfl) dX2_init_9 (fun H locs h => ?_)
  have h : in_H D A s.heap ([(h0, .inr (2, [.ref q1, .null, .null, .null, .int 0, .int 0, .null, .null, .null, .null, .null, .int 0, .int 0, .int 0, .null, .null])), (q1, .inl (cI, 10, .inl (in_L (List.replicate 10 0))))]) H locs := h
  refine lv_aload_n S.1 S.2.1 dX2_init_12 rfl (lv_at hl 0 rfl) ?_
  refine lv_bipush (v := 10) S.1 S.2.1 dX2_init_13 rfl ?_
  refine in_newI S hK h 10 (by decide) rfl (Nat.le_of_ble_eq_true rfl) (Nat.le_of_ble_eq_true rfl) (Nat.le_of_ble_eq_true rfl) dX2_init_15 (fun q2 H h => ?_)
  have h : in_H D A s.heap ([(h0, .inr (2, [.ref q1, .null, .null, .null, .int 0, .int 0, .null, .null, .null, .null, .null, .int 0, .int 0, .int 0, .null, .null])), (q1, .inl (cI, 10, .inl (in_L (List.replicate 10 0)))), (q2, .inl (cI, 10, .inl (in_L (List.replicate 10 0))))]) H locs := h
  refine W.widen (k := 2) (n := 20) (Nat.le_of_ble_eq_true rfl) (Nat.le_of_ble_eq_true rfl) ?_
  refine in_putF (ci := 2) (C := RX2) (T := TX2) (N := 16) S vu_X2 tyX2 tyX2_ok nmX2 hK h 0 rfl rfl 1 (by decide) vf_RX2_15 rfl rfl hin rfl (tyX2_ok 1 (by decide)) rfl rfl (Nat.le_of_ble_eq_true rfl) dX2_init_17 (fun H locs h => ?_)
  have h : in_H D A s.heap ([(h0, .inr (2, [.ref q1, .ref q2, .null, .null, .int 0, .int 0, .null, .null, .null, .null, .null, .int 0, .int 0, .int 0, .null, .null])), (q1, .inl (cI, 10, .inl (in_L (List.replicate 10 0)))), (q2, .inl (cI, 10, .inl (in_L (List.replicate 10 0))))]) H locs := h
  refine lv_aload_n S.1 S.2.1 dX2_init_20 rfl (lv_at hl 0 rfl) ?_
  refine lv_bipush (v := 10) S.1 S.2.1 dX2_init_21 rfl ?_
  refine in_newI S hK h 10 (by decide) rfl (Nat.le_of_ble_eq_true rfl) (Nat.le_of_ble_eq_true rfl) (Nat.le_of_ble_eq_true rfl) dX2_init_23 (fun q3 H h => ?_)
  have h : in_H D A s.heap ([(h0, .inr (2, [.ref q1, .ref q2, .null, .null, .int 0, .int 0, .null, .null, .null, .null, .null, .int 0, .int 0, .int 0, .null, .null])), (q1, .inl (cI, 10, .inl (in_L (List.replicate 10 0)))), (q2, .inl (cI, 10, .inl (in_L (List.replicate 10 0)))), (q3, .inl (cI, 10, .inl (in_L (List.replicate 10 0))))]) H locs := h
  refine W.widen (k := 3) (n := 30) (Nat.le_of_ble_eq_true rfl) (Nat.le_of_ble_eq_true rfl) ?_
  refine in_putF (ci := 2) (C := RX2) (T := TX2) (N := 16) S vu_X2 tyX2 tyX2_ok nmX2 hK h 0 rfl rfl 2 (by decide) vf_RX2_18 rfl rfl hin rfl (tyX2_ok 2 (by decide)) rfl rfl (Nat.le_of_ble_eq_true rfl) dX2_init_25 (fun H locs h => ?_)
  have h : in_H D A s.heap ([(h0, .inr (2, [.ref q1, .ref q2, .ref q3, .null, .int 0, .int 0, .null, .null, .null, .null, .null, .int 0, .int 0, .int 0, .null, .null])), (q1, .inl (cI, 10, .inl (in_L (List.replicate 10 0)))), (q2, .inl (cI, 10, .inl (in_L (List.replicate 10 0)))), (q3, .inl (cI, 10, .inl (in_L (List.replicate 10 0))))]) H locs := h
  refine lv_aload_n S.1 S.2.1 dX2_init_28 rfl (lv_at hl 0 rfl) ?_
  refine lv_bipush (v := 6) S.1 S.2.1 dX2_init_29 rfl ?_
  refine in_newI S hK h 6 (by decide) rfl (Nat.le_of_ble_eq_true rfl) (Nat.le_of_ble_eq_true rfl) (Nat.le_of_ble_eq_true rfl) dX2_init_31 (fun q4 H h => ?_)
  have h : in_H D A s.heap ([(h0, .inr (2, [.ref q1, .ref q2, .ref q3, .null, .int 0, .int 0, .null, .null, .null, .null, .null, .int 0, .int 0, .int 0, .null, .null])), (q1, .inl (cI, 10, .inl (in_L (List.replicate 10 0)))), (q2, .inl (cI, 10, .inl (in_L (List.replicate 10 0)))), (q3, .inl (cI, 10, .inl (in_L (List.replicate 10 0)))), (q4, .inl (cI, 6, .inl (in_L (List.replicate 6 0))))]) H locs := h
  refine W.widen (k := 4) (n := 36) (Nat.le_of_ble_eq_true rfl) (Nat.le_of_ble_eq_true rfl) ?_
  refine in_putF (ci := 2) (C := RX2) (T := TX2) (N := 16) S vu_X2 tyX2 tyX2_ok nmX2 hK h 0 rfl rfl 3 (by decide) vf_RX2_21 rfl rfl hin rfl (tyX2_ok 3 (by decide)) rfl rfl (Nat.le_of_ble_eq_true rfl) dX2_init_33 (fun H locs h => ?_)
  have h : in_H D A s.heap ([(h0, .inr (2, [.ref q1, .ref q2, .ref q3, .ref q4, .int 0, .int 0, .null, .null, .null, .null, .null, .int 0, .int 0, .int 0, .null, .null])), (q1, .inl (cI, 10, .inl (in_L (List.replicate 10 0)))), (q2, .inl (cI, 10, .inl (in_L (List.replicate 10 0)))), (q3, .inl (cI, 10, .inl (in_L (List.replicate 10 0)))), (q4, .inl (cI, 6, .inl (in_L (List.replicate 6 0))))]) H locs := h
  refine lv_aload_n S.1 S.2.1 dX2_init_36 rfl (lv_at hl 0 rfl) ?_
  refine lv_iconst (v := 5) S.1 S.2.1 dX2_init_37 rfl ?_
  refine in_put (ci := 2) (C := RX2) (T := TX2) (N := 16) S vu_X2 tyX2 tyX2_ok nmX2 hK h 0 rfl rfl 4 (by decide) vf_RX2_24 rfl rfl (tyX2_ok 4 (by decide)) rfl rfl (Nat.le_of_ble_eq_true rfl) dX2_init_38 (fun H locs h => ?_)
  have h : in_H D A s.heap ([(h0, .inr (2, [.ref q1, .ref q2, .ref q3, .ref q4, .int 5, .int 0, .null, .null, .null, .null, .null, .int 0, .int 0, .int 0, .null, .null])), (q1, .inl (cI, 10, .inl (in_L (List.replicate 10 0)))), (q2, .inl (cI, 10, .inl (in_L (List.replicate 10 0)))), (q3, .inl (cI, 10, .inl (in_L (List.replicate 10 0)))), (q4, .inl (cI, 6, .inl (in_L (List.replicate 6 0))))]) H locs := h
  refine lv_aload_n S.1 S.2.1 dX2_init_41 rfl (lv_at hl 0 rfl) ?_
  refine lv_iconst (v := 0) S.1 S.2.1 dX2_init_42 rfl ?_
  refine in_put (ci := 2) (C := RX2) (T := TX2) (N := 16) S vu_X2 tyX2 tyX2_ok nmX2 hK h 0 rfl rfl 5 (by decide) vf_RX2_28 rfl rfl (tyX2_ok 5 (by decide)) rfl rfl (Nat.le_of_ble_eq_true rfl) dX2_init_43 (fun H locs h => ?_)
  have h : in_H D A s.heap ([(h0, .inr (2, [.ref q1, .ref q2, .ref q3, .ref q4, .int 5, .int 0, .null, .null, .null, .null, .null, .int 0, .int 0, .int 0, .null, .null])), (q1, .inl (cI, 10, .inl (in_L (List.replicate 10 0)))), (q2, .inl (cI, 10, .inl (in_L (List.replicate 10 0)))), (q3, .inl (cI, 10, .inl (in_L (List.replicate 10 0)))), (q4, .inl (cI, 6, .inl (in_L (List.replicate 6 0))))]) H locs := h
  refine lv_aload_n S.1 S.2.1 dX2_init_46 rfl (lv_at hl 0 rfl) ?_
  refine lv_bipush (v := 8) S.1 S.2.1 dX2_init_47 rfl ?_
  refine in_newI S hK h 8 (by decide) rfl (Nat.le_of_ble_eq_true rfl) (Nat.le_of_ble_eq_true rfl) (Nat.le_of_ble_eq_true rfl) dX2_init_49 (fun q5 H h => ?_)
  have h : in_H D A s.heap ([(h0, .inr (2, [.ref q1, .ref q2, .ref q3, .ref q4, .int 5, .int 0, .null, .null, .null, .null, .null, .int 0, .int 0, .int 0, .null, .null])), (q1, .inl (cI, 10, .inl (in_L (List.replicate 10 0)))), (q2, .inl (cI, 10, .inl (in_L (List.replicate 10 0)))), (q3, .inl (cI, 10, .inl (in_L (List.replicate 10 0)))), (q4, .inl (cI, 6, .inl (in_L (List.replicate 6 0)))), (q5, .inl (cI, 8, .inl (in_L (List.replicate 8 0))))]) H locs := h
  refine W.widen (k := 5) (n := 44) (Nat.le_of_ble_eq_true rfl) (Nat.le_of_ble_eq_true rfl) ?_
  refine in_putF (ci := 2) (C := RX2) (T := TX2) (N := 16) S vu_X2 tyX2 tyX2_ok nmX2 hK h 0 rfl rfl 6 (by decide) vf_RX2_31 rfl rfl hin rfl (tyX2_ok 6 (by decide)) rfl rfl (Nat.le_of_ble_eq_true rfl) dX2_init_51 (fun H locs h => ?_)
  have h : in_H D A s.heap ([(h0, .inr (2, [.ref q1, .ref q2, .ref q3, .ref q4, .int 5, .int 0, .ref q5, .null, .null, .null, .null, .int 0, .int 0, .int 0, .null, .null])), (q1, .inl (cI, 10, .inl (in_L (List.replicate 10 0)))), (q2, .inl (cI, 10, .inl (in_L (List.replicate 10 0)))), (q3, .inl (cI, 10, .inl (in_L (List.replicate 10 0)))), (q4, .inl (cI, 6, .inl (in_L (List.replicate 6 0)))), (q5, .inl (cI, 8, .inl (in_L (List.replicate 8 0))))]) H locs := h
  refine lv_aload_n S.1 S.2.1 dX2_init_54 rfl (lv_at hl 0 rfl) ?_
  refine lv_bipush (v := 8) S.1 S.2.1 dX2_init_55 rfl ?_
  refine in_newI S hK h 8 (by decide) rfl (Nat.le_of_ble_eq_true rfl) (Nat.le_of_ble_eq_true rfl) (Nat.le_of_ble_eq_true rfl) dX2_init_57 (fun q6 H h => ?_)
  have h : in_H D A s.heap ([(h0, .inr (2, [.ref q1, .ref q2, .ref q3, .ref q4, .int 5, .int 0, .ref q5, .null, .null, .null, .null, .int 0, .int 0, .int 0, .null, .null])), (q1, .inl (cI, 10, .inl (in_L (List.replicate 10 0)))), (q2, .inl (cI, 10, .inl (in_L (List.replicate 10 0)))), (q3, .inl (cI, 10, .inl (in_L (List.replicate 10 0)))), (q4, .inl (cI, 6, .inl (in_L (List.replicate 6 0)))), (q5, .inl (cI, 8, .inl (in_L (List.replicate 8 0)))), (q6, .inl (cI, 8, .inl (in_L (List.replicate 8 0))))]) H locs := h
  refine W.widen (k := 6) (n := 52) (Nat.le_of_ble_eq_true rfl) (Nat.le_of_ble_eq_true rfl) ?_
  refine in_putF (ci := 2) (C := RX2) (T := TX2) (N := 16) S vu_X2 tyX2 tyX2_ok nmX2 hK h 0 rfl rfl 7 (by decide) vf_RX2_34 rfl rfl hin rfl (tyX2_ok 7 (by decide)) rfl rfl (Nat.le_of_ble_eq_true rfl) dX2_init_59 (fun H locs h => ?_)
  have h : in_H D A s.heap ([(h0, .inr (2, [.ref q1, .ref q2, .ref q3, .ref q4, .int 5, .int 0, .ref q5, .ref q6, .null, .null, .null, .int 0, .int 0, .int 0, .null, .null])), (q1, .inl (cI, 10, .inl (in_L (List.replicate 10 0)))), (q2, .inl (cI, 10, .inl (in_L (List.replicate 10 0)))), (q3, .inl (cI, 10, .inl (in_L (List.replicate 10 0)))), (q4, .inl (cI, 6, .inl (in_L (List.replicate 6 0)))), (q5, .inl (cI, 8, .inl (in_L (List.replicate 8 0)))), (q6, .inl (cI, 8, .inl (in_L (List.replicate 8 0))))]) H locs := h
  refine lv_aload_n S.1 S.2.1 dX2_init_62 rfl (lv_at hl 0 rfl) ?_
  refine lv_bipush (v := 8) S.1 S.2.1 dX2_init_63 rfl ?_
  refine in_newI S hK h 8 (by decide) rfl (Nat.le_of_ble_eq_true rfl) (Nat.le_of_ble_eq_true rfl) (Nat.le_of_ble_eq_true rfl) dX2_init_65 (fun q7 H h => ?_)
  have h : in_H D A s.heap ([(h0, .inr (2, [.ref q1, .ref q2, .ref q3, .ref q4, .int 5, .int 0, .ref q5, .ref q6, .null, .null, .null, .int 0, .int 0, .int 0, .null, .null])), (q1, .inl (cI, 10, .inl (in_L (List.replicate 10 0)))), (q2, .inl (cI, 10, .inl (in_L (List.replicate 10 0)))), (q3, .inl (cI, 10, .inl (in_L (List.replicate 10 0)))), (q4, .inl (cI, 6, .inl (in_L (List.replicate 6 0)))), (q5, .inl (cI, 8, .inl (in_L (List.replicate 8 0)))), (q6, .inl (cI, 8, .inl (in_L (List.replicate 8 0)))), (q7, .inl (cI, 8, .inl (in_L (List.replicate 8 0))))]) H locs := h
  refine W.widen (k := 7) (n := 60) (Nat.le_of_ble_eq_true rfl) (Nat.le_of_ble_eq_true rfl) ?_
  refine in_putF (ci := 2) (C := RX2) (T := TX2) (N := 16) S vu_X2 tyX2 tyX2_ok nmX2 hK h 0 rfl rfl 8 (by decide) vf_RX2_37 rfl rfl hin rfl (tyX2_ok 8 (by decide)) rfl rfl (Nat.le_of_ble_eq_true rfl) dX2_init_67 (fun H locs h => ?_)
  have h : in_H D A s.heap ([(h0, .inr (2, [.ref q1, .ref q2, .ref q3, .ref q4, .int 5, .int 0, .ref q5, .ref q6, .ref q7, .null, .null, .int 0, .int 0, .int 0, .null, .null])), (q1, .inl (cI, 10, .inl (in_L (List.replicate 10 0)))), (q2, .inl (cI, 10, .inl (in_L (List.replicate 10 0)))), (q3, .inl (cI, 10, .inl (in_L (List.replicate 10 0)))), (q4, .inl (cI, 6, .inl (in_L (List.replicate 6 0)))), (q5, .inl (cI, 8, .inl (in_L (List.replicate 8 0)))), (q6, .inl (cI, 8, .inl (in_L (List.replicate 8 0)))), (q7, .inl (cI, 8, .inl (in_L (List.replicate 8 0))))]) H locs := h
  refine lv_aload_n S.1 S.2.1 dX2_init_70 rfl (lv_at hl 0 rfl) ?_
  refine lv_bipush (v := 8) S.1 S.2.1 dX2_init_71 rfl ?_
  refine in_newI S hK h 8 (by decide) rfl (Nat.le_of_ble_eq_true rfl) (Nat.le_of_ble_eq_true rfl) (Nat.le_of_ble_eq_true rfl) dX2_init_73 (fun q8 H h => ?_)
  have h : in_H D A s.heap ([(h0, .inr (2, [.ref q1, .ref q2, .ref q3, .ref q4, .int 5, .int 0, .ref q5, .ref q6, .ref q7, .null, .null, .int 0, .int 0, .int 0, .null, .null])), (q1, .inl (cI, 10, .inl (in_L (List.replicate 10 0)))), (q2, .inl (cI, 10, .inl (in_L (List.replicate 10 0)))), (q3, .inl (cI, 10, .inl (in_L (List.replicate 10 0)))), (q4, .inl (cI, 6, .inl (in_L (List.replicate 6 0)))), (q5, .inl (cI, 8, .inl (in_L (List.replicate 8 0)))), (q6, .inl (cI, 8, .inl (in_L (List.replicate 8 0)))), (q7, .inl (cI, 8, .inl (in_L (List.replicate 8 0)))), (q8, .inl (cI, 8, .inl (in_L (List.replicate 8 0))))]) H locs := h
  refine W.widen (k := 8) (n := 68) (Nat.le_of_ble_eq_true rfl) (Nat.le_of_ble_eq_true rfl) ?_
  refine in_putF (ci := 2) (C := RX2) (T := TX2) (N := 16) S vu_X2 tyX2 tyX2_ok nmX2 hK h 0 rfl rfl 9 (by decide) vf_RX2_40 rfl rfl hin rfl (tyX2_ok 9 (by decide)) rfl rfl (Nat.le_of_ble_eq_true rfl) dX2_init_75 (fun H locs h => ?_)
  have h : in_H D A s.heap ([(h0, .inr (2, [.ref q1, .ref q2, .ref q3, .ref q4, .int 5, .int 0, .ref q5, .ref q6, .ref q7, .ref q8, .null, .int 0, .int 0, .int 0, .null, .null])), (q1, .inl (cI, 10, .inl (in_L (List.replicate 10 0)))), (q2, .inl (cI, 10, .inl (in_L (List.replicate 10 0)))), (q3, .inl (cI, 10, .inl (in_L (List.replicate 10 0)))), (q4, .inl (cI, 6, .inl (in_L (List.replicate 6 0)))), (q5, .inl (cI, 8, .inl (in_L (List.replicate 8 0)))), (q6, .inl (cI, 8, .inl (in_L (List.replicate 8 0)))), (q7, .inl (cI, 8, .inl (in_L (List.replicate 8 0)))), (q8, .inl (cI, 8, .inl (in_L (List.replicate 8 0))))]) H locs := h
  refine lv_aload_n S.1 S.2.1 dX2_init_78 rfl (lv_at hl 0 rfl) ?_
  refine lv_bipush (v := 8) S.1 S.2.1 dX2_init_79 rfl ?_
  refine in_newI S hK h 8 (by decide) rfl (Nat.le_of_ble_eq_true rfl) (Nat.le_of_ble_eq_true rfl) (Nat.le_of_ble_eq_true rfl) dX2_init_81 (fun q9 H h => ?_)
  have h : in_H D A s.heap ([(h0, .inr (2, [.ref q1, .ref q2, .ref q3, .ref q4, .int 5, .int 0, .ref q5, .ref q6, .ref q7, .ref q8, .null, .int 0, .int 0, .int 0, .null, .null])), (q1, .inl (cI, 10, .inl (in_L (List.replicate 10 0)))), (q2, .inl (cI, 10, .inl (in_L (List.replicate 10 0)))), (q3, .inl (cI, 10, .inl (in_L (List.replicate 10 0)))), (q4, .inl (cI, 6, .inl (in_L (List.replicate 6 0)))), (q5, .inl (cI, 8, .inl (in_L (List.replicate 8 0)))), (q6, .inl (cI, 8, .inl (in_L (List.replicate 8 0)))), (q7, .inl (cI, 8, .inl (in_L (List.replicate 8 0)))), (q8, .inl (cI, 8, .inl (in_L (List.replicate 8 0)))), (q9, .inl (cI, 8, .inl (in_L (List.replicate 8 0))))]) H locs := h
  refine W.widen (k := 9) (n := 76) (Nat.le_of_ble_eq_true rfl) (Nat.le_of_ble_eq_true rfl) ?_
  refine in_putF (ci := 2) (C := RX2) (T := TX2) (N := 16) S vu_X2 tyX2 tyX2_ok nmX2 hK h 0 rfl rfl 10 (by decide) vf_RX2_43 rfl rfl hin rfl (tyX2_ok 10 (by decide)) rfl rfl (Nat.le_of_ble_eq_true rfl) dX2_init_83 (fun H locs h => ?_)
  have h : in_H D A s.heap ([(h0, .inr (2, [.ref q1, .ref q2, .ref q3, .ref q4, .int 5, .int 0, .ref q5, .ref q6, .ref q7, .ref q8, .ref q9, .int 0, .int 0, .int 0, .null, .null])), (q1, .inl (cI, 10, .inl (in_L (List.replicate 10 0)))), (q2, .inl (cI, 10, .inl (in_L (List.replicate 10 0)))), (q3, .inl (cI, 10, .inl (in_L (List.replicate 10 0)))), (q4, .inl (cI, 6, .inl (in_L (List.replicate 6 0)))), (q5, .inl (cI, 8, .inl (in_L (List.replicate 8 0)))), (q6, .inl (cI, 8, .inl (in_L (List.replicate 8 0)))), (q7, .inl (cI, 8, .inl (in_L (List.replicate 8 0)))), (q8, .inl (cI, 8, .inl (in_L (List.replicate 8 0)))), (q9, .inl (cI, 8, .inl (in_L (List.replicate 8 0))))]) H locs := h
  refine lv_aload_n S.1 S.2.1 dX2_init_86 rfl (lv_at hl 0 rfl) ?_
  refine lv_iconst (v := 0) S.1 S.2.1 dX2_init_87 rfl ?_
  refine in_put (ci := 2) (C := RX2) (T := TX2) (N := 16) S vu_X2 tyX2 tyX2_ok nmX2 hK h 0 rfl rfl 11 (by decide) vf_RX2_46 rfl rfl (tyX2_ok 11 (by decide)) rfl rfl (Nat.le_of_ble_eq_true rfl) dX2_init_88 (fun H locs h => ?_)
  have h : in_H D A s.heap ([(h0, .inr (2, [.ref q1, .ref q2, .ref q3, .ref q4, .int 5, .int 0, .ref q5, .ref q6, .ref q7, .ref q8, .ref q9, .int 0, .int 0, .int 0, .null, .null])), (q1, .inl (cI, 10, .inl (in_L (List.replicate 10 0)))), (q2, .inl (cI, 10, .inl (in_L (List.replicate 10 0)))), (q3, .inl (cI, 10, .inl (in_L (List.replicate 10 0)))), (q4, .inl (cI, 6, .inl (in_L (List.replicate 6 0)))), (q5, .inl (cI, 8, .inl (in_L (List.replicate 8 0)))), (q6, .inl (cI, 8, .inl (in_L (List.replicate 8 0)))), (q7, .inl (cI, 8, .inl (in_L (List.replicate 8 0)))), (q8, .inl (cI, 8, .inl (in_L (List.replicate 8 0)))), (q9, .inl (cI, 8, .inl (in_L (List.replicate 8 0))))]) H locs := h
  refine lv_aload_n S.1 S.2.1 dX2_init_91 rfl (lv_at hl 0 rfl) ?_
  refine lv_iconst (v := 0) S.1 S.2.1 dX2_init_92 rfl ?_
  refine in_put (ci := 2) (C := RX2) (T := TX2) (N := 16) S vu_X2 tyX2 tyX2_ok nmX2 hK h 0 rfl rfl 12 (by decide) vf_RX2_49 rfl rfl (tyX2_ok 12 (by decide)) rfl rfl (Nat.le_of_ble_eq_true rfl) dX2_init_93 (fun H locs h => ?_)
  have h : in_H D A s.heap ([(h0, .inr (2, [.ref q1, .ref q2, .ref q3, .ref q4, .int 5, .int 0, .ref q5, .ref q6, .ref q7, .ref q8, .ref q9, .int 0, .int 0, .int 0, .null, .null])), (q1, .inl (cI, 10, .inl (in_L (List.replicate 10 0)))), (q2, .inl (cI, 10, .inl (in_L (List.replicate 10 0)))), (q3, .inl (cI, 10, .inl (in_L (List.replicate 10 0)))), (q4, .inl (cI, 6, .inl (in_L (List.replicate 6 0)))), (q5, .inl (cI, 8, .inl (in_L (List.replicate 8 0)))), (q6, .inl (cI, 8, .inl (in_L (List.replicate 8 0)))), (q7, .inl (cI, 8, .inl (in_L (List.replicate 8 0)))), (q8, .inl (cI, 8, .inl (in_L (List.replicate 8 0)))), (q9, .inl (cI, 8, .inl (in_L (List.replicate 8 0))))]) H locs := h
  refine lv_aload_n S.1 S.2.1 dX2_init_96 rfl (lv_at hl 0 rfl) ?_
  refine lv_iconst (v := 1) S.1 S.2.1 dX2_init_97 rfl ?_
  refine in_put (ci := 2) (C := RX2) (T := TX2) (N := 16) S vu_X2 tyX2 tyX2_ok nmX2 hK h 0 rfl rfl 13 (by decide) vf_RX2_52 rfl rfl (tyX2_ok 13 (by decide)) rfl rfl (Nat.le_of_ble_eq_true rfl) dX2_init_98 (fun H locs h => ?_)
  have h : in_H D A s.heap ([(h0, .inr (2, [.ref q1, .ref q2, .ref q3, .ref q4, .int 5, .int 0, .ref q5, .ref q6, .ref q7, .ref q8, .ref q9, .int 0, .int 0, .int 1, .null, .null])), (q1, .inl (cI, 10, .inl (in_L (List.replicate 10 0)))), (q2, .inl (cI, 10, .inl (in_L (List.replicate 10 0)))), (q3, .inl (cI, 10, .inl (in_L (List.replicate 10 0)))), (q4, .inl (cI, 6, .inl (in_L (List.replicate 6 0)))), (q5, .inl (cI, 8, .inl (in_L (List.replicate 8 0)))), (q6, .inl (cI, 8, .inl (in_L (List.replicate 8 0)))), (q7, .inl (cI, 8, .inl (in_L (List.replicate 8 0)))), (q8, .inl (cI, 8, .inl (in_L (List.replicate 8 0)))), (q9, .inl (cI, 8, .inl (in_L (List.replicate 8 0))))]) H locs := h
  refine lv_aload_n S.1 S.2.1 dX2_init_101 rfl (lv_at hl 0 rfl) ?_
  refine lv_bipush (v := 10) S.1 S.2.1 dX2_init_102 rfl ?_
  refine in_newI S hK h 10 (by decide) rfl (Nat.le_of_ble_eq_true rfl) (Nat.le_of_ble_eq_true rfl) (Nat.le_of_ble_eq_true rfl) dX2_init_104 (fun q10 H h => ?_)
  have h : in_H D A s.heap ([(h0, .inr (2, [.ref q1, .ref q2, .ref q3, .ref q4, .int 5, .int 0, .ref q5, .ref q6, .ref q7, .ref q8, .ref q9, .int 0, .int 0, .int 1, .null, .null])), (q1, .inl (cI, 10, .inl (in_L (List.replicate 10 0)))), (q2, .inl (cI, 10, .inl (in_L (List.replicate 10 0)))), (q3, .inl (cI, 10, .inl (in_L (List.replicate 10 0)))), (q4, .inl (cI, 6, .inl (in_L (List.replicate 6 0)))), (q5, .inl (cI, 8, .inl (in_L (List.replicate 8 0)))), (q6, .inl (cI, 8, .inl (in_L (List.replicate 8 0)))), (q7, .inl (cI, 8, .inl (in_L (List.replicate 8 0)))), (q8, .inl (cI, 8, .inl (in_L (List.replicate 8 0)))), (q9, .inl (cI, 8, .inl (in_L (List.replicate 8 0)))), (q10, .inl (cI, 10, .inl (in_L (List.replicate 10 0))))]) H locs := h
  refine W.widen (k := 10) (n := 86) (Nat.le_of_ble_eq_true rfl) (Nat.le_of_ble_eq_true rfl) ?_
  refine in_putF (ci := 2) (C := RX2) (T := TX2) (N := 16) S vu_X2 tyX2 tyX2_ok nmX2 hK h 0 rfl rfl 14 (by decide) vf_RX2_55 rfl rfl hin rfl (tyX2_ok 14 (by decide)) rfl rfl (Nat.le_of_ble_eq_true rfl) dX2_init_106 (fun H locs h => ?_)
  have h : in_H D A s.heap ([(h0, .inr (2, [.ref q1, .ref q2, .ref q3, .ref q4, .int 5, .int 0, .ref q5, .ref q6, .ref q7, .ref q8, .ref q9, .int 0, .int 0, .int 1, .ref q10, .null])), (q1, .inl (cI, 10, .inl (in_L (List.replicate 10 0)))), (q2, .inl (cI, 10, .inl (in_L (List.replicate 10 0)))), (q3, .inl (cI, 10, .inl (in_L (List.replicate 10 0)))), (q4, .inl (cI, 6, .inl (in_L (List.replicate 6 0)))), (q5, .inl (cI, 8, .inl (in_L (List.replicate 8 0)))), (q6, .inl (cI, 8, .inl (in_L (List.replicate 8 0)))), (q7, .inl (cI, 8, .inl (in_L (List.replicate 8 0)))), (q8, .inl (cI, 8, .inl (in_L (List.replicate 8 0)))), (q9, .inl (cI, 8, .inl (in_L (List.replicate 8 0)))), (q10, .inl (cI, 10, .inl (in_L (List.replicate 10 0))))]) H locs := h
  refine lv_aload_n S.1 S.2.1 dX2_init_109 rfl (lv_at hl 0 rfl) ?_
  refine lv_bipush (v := 10) S.1 S.2.1 dX2_init_110 rfl ?_
  refine in_newI S hK h 10 (by decide) rfl (Nat.le_of_ble_eq_true rfl) (Nat.le_of_ble_eq_true rfl) (Nat.le_of_ble_eq_true rfl) dX2_init_112 (fun q11 H h => ?_)
  have h : in_H D A s.heap ([(h0, .inr (2, [.ref q1, .ref q2, .ref q3, .ref q4, .int 5, .int 0, .ref q5, .ref q6, .ref q7, .ref q8, .ref q9, .int 0, .int 0, .int 1, .ref q10, .null])), (q1, .inl (cI, 10, .inl (in_L (List.replicate 10 0)))), (q2, .inl (cI, 10, .inl (in_L (List.replicate 10 0)))), (q3, .inl (cI, 10, .inl (in_L (List.replicate 10 0)))), (q4, .inl (cI, 6, .inl (in_L (List.replicate 6 0)))), (q5, .inl (cI, 8, .inl (in_L (List.replicate 8 0)))), (q6, .inl (cI, 8, .inl (in_L (List.replicate 8 0)))), (q7, .inl (cI, 8, .inl (in_L (List.replicate 8 0)))), (q8, .inl (cI, 8, .inl (in_L (List.replicate 8 0)))), (q9, .inl (cI, 8, .inl (in_L (List.replicate 8 0)))), (q10, .inl (cI, 10, .inl (in_L (List.replicate 10 0)))), (q11, .inl (cI, 10, .inl (in_L (List.replicate 10 0))))]) H locs := h
  refine W.widen (k := 11) (n := 96) (Nat.le_of_ble_eq_true rfl) (Nat.le_of_ble_eq_true rfl) ?_
  refine in_putF (ci := 2) (C := RX2) (T := TX2) (N := 16) S vu_X2 tyX2 tyX2_ok nmX2 hK h 0 rfl rfl 15 (by decide) vf_RX2_58 rfl rfl hin rfl (tyX2_ok 15 (by decide)) rfl rfl (Nat.le_of_ble_eq_true rfl) dX2_init_114 (fun H locs h => ?_)
  have h : in_H D A s.heap ([(h0, .inr (2, [.ref q1, .ref q2, .ref q3, .ref q4, .int 5, .int 0, .ref q5, .ref q6, .ref q7, .ref q8, .ref q9, .int 0, .int 0, .int 1, .ref q10, .ref q11])), (q1, .inl (cI, 10, .inl (in_L (List.replicate 10 0)))), (q2, .inl (cI, 10, .inl (in_L (List.replicate 10 0)))), (q3, .inl (cI, 10, .inl (in_L (List.replicate 10 0)))), (q4, .inl (cI, 6, .inl (in_L (List.replicate 6 0)))), (q5, .inl (cI, 8, .inl (in_L (List.replicate 8 0)))), (q6, .inl (cI, 8, .inl (in_L (List.replicate 8 0)))), (q7, .inl (cI, 8, .inl (in_L (List.replicate 8 0)))), (q8, .inl (cI, 8, .inl (in_L (List.replicate 8 0)))), (q9, .inl (cI, 8, .inl (in_L (List.replicate 8 0)))), (q10, .inl (cI, 10, .inl (in_L (List.replicate 10 0)))), (q11, .inl (cI, 10, .inl (in_L (List.replicate 10 0))))]) H locs := h
  refine lv_iconst (v := 0) S.1 S.2.1 dX2_init_117 rfl ?_
  refine lv_istore_n (lv' := [(1, .int 0), (0, .ref h0)]) S.1 S.2.1 dX2_init_118 rfl hl (by decide) rfl (fun ls hl => ?_)
  refine lv_iload_n S.1 S.2.1 dX2_init_119 rfl (lv_at hl 0 rfl) ?_
  refine lv_bipush (v := 10) S.1 S.2.1 dX2_init_120 rfl ?_
  refine lv_icmp_ge (tgt := 146) S.1 S.2.1 dX2_init_122 (by decide) (fun hc => absurd hc (by decide)) (fun hc => ?_)
  refine lv_aload_n S.1 S.2.1 dX2_init_125 rfl (lv_at hl 1 rfl) ?_
  refine in_get (ci := 2) (C := RX2) (T := TX2) (N := 16) S vu_X2 hK h 0 rfl rfl 0 (by decide) vf_RX2_9 rfl rfl dX2_init_126 ?_
  refine lv_iload_n S.1 S.2.1 dX2_init_129 rfl (lv_at hl 0 rfl) ?_
  refine lv_bipush (v := 50) S.1 S.2.1 dX2_init_130 rfl ?_
  refine in_iast S hK h 1 rfl (by decide) rfl (Nat.le_of_ble_eq_true rfl) dX2_init_132 (fun H locs h => ?_)
  have h : in_H D A s.heap ([(h0, .inr (2, [.ref q1, .ref q2, .ref q3, .ref q4, .int 5, .int 0, .ref q5, .ref q6, .ref q7, .ref q8, .ref q9, .int 0, .int 0, .int 1, .ref q10, .ref q11])), (q1, .inl (cI, 10, .inl (in_L [50, 0, 0, 0, 0, 0, 0, 0, 0, 0]))), (q2, .inl (cI, 10, .inl (in_L (List.replicate 10 0)))), (q3, .inl (cI, 10, .inl (in_L (List.replicate 10 0)))), (q4, .inl (cI, 6, .inl (in_L (List.replicate 6 0)))), (q5, .inl (cI, 8, .inl (in_L (List.replicate 8 0)))), (q6, .inl (cI, 8, .inl (in_L (List.replicate 8 0)))), (q7, .inl (cI, 8, .inl (in_L (List.replicate 8 0)))), (q8, .inl (cI, 8, .inl (in_L (List.replicate 8 0)))), (q9, .inl (cI, 8, .inl (in_L (List.replicate 8 0)))), (q10, .inl (cI, 10, .inl (in_L (List.replicate 10 0)))), (q11, .inl (cI, 10, .inl (in_L (List.replicate 10 0))))]) H locs := h
  refine lv_aload_n S.1 S.2.1 dX2_init_133 rfl (lv_at hl 1 rfl) ?_
  refine in_get (ci := 2) (C := RX2) (T := TX2) (N := 16) S vu_X2 hK h 0 rfl rfl 2 (by decide) vf_RX2_18 rfl rfl dX2_init_134 ?_
  refine lv_iload_n S.1 S.2.1 dX2_init_137 rfl (lv_at hl 0 rfl) ?_
  refine lv_iconst (v := (-1)) S.1 S.2.1 dX2_init_138 rfl ?_
  refine in_iast S hK h 3 rfl (by decide) rfl (Nat.le_of_ble_eq_true rfl) dX2_init_139 (fun H locs h => ?_)
  have h : in_H D A s.heap ([(h0, .inr (2, [.ref q1, .ref q2, .ref q3, .ref q4, .int 5, .int 0, .ref q5, .ref q6, .ref q7, .ref q8, .ref q9, .int 0, .int 0, .int 1, .ref q10, .ref q11])), (q1, .inl (cI, 10, .inl (in_L [50, 0, 0, 0, 0, 0, 0, 0, 0, 0]))), (q2, .inl (cI, 10, .inl (in_L (List.replicate 10 0)))), (q3, .inl (cI, 10, .inl (in_L [-1, 0, 0, 0, 0, 0, 0, 0, 0, 0]))), (q4, .inl (cI, 6, .inl (in_L (List.replicate 6 0)))), (q5, .inl (cI, 8, .inl (in_L (List.replicate 8 0)))), (q6, .inl (cI, 8, .inl (in_L (List.replicate 8 0)))), (q7, .inl (cI, 8, .inl (in_L (List.replicate 8 0)))), (q8, .inl (cI, 8, .inl (in_L (List.replicate 8 0)))), (q9, .inl (cI, 8, .inl (in_L (List.replicate 8 0)))), (q10, .inl (cI, 10, .inl (in_L (List.replicate 10 0)))), (q11, .inl (cI, 10, .inl (in_L (List.replicate 10 0))))]) H locs := h
  refine lv_iinc (v := 1) (lv' := [(1, .int 1), (0, .ref h0)]) S.1 S.2.1 dX2_init_140 hl (k := 0) rfl rfl (by decide) rfl (fun ls hl => ?_)
  refine lv_goto (tgt := 119) S.1 S.2.1 dX2_init_143 (by decide) ?_
  refine lv_iload_n S.1 S.2.1 dX2_init_119 rfl (lv_at hl 0 rfl) ?_
  refine lv_bipush (v := 10) S.1 S.2.1 dX2_init_120 rfl ?_
  refine lv_icmp_ge (tgt := 146) S.1 S.2.1 dX2_init_122 (by decide) (fun hc => absurd hc (by decide)) (fun hc => ?_)
  refine lv_aload_n S.1 S.2.1 dX2_init_125 rfl (lv_at hl 1 rfl) ?_
  refine in_get (ci := 2) (C := RX2) (T := TX2) (N := 16) S vu_X2 hK h 0 rfl rfl 0 (by decide) vf_RX2_9 rfl rfl dX2_init_126 ?_
  refine lv_iload_n S.1 S.2.1 dX2_init_129 rfl (lv_at hl 0 rfl) ?_
  refine lv_bipush (v := 50) S.1 S.2.1 dX2_init_130 rfl ?_
  refine in_iast S hK h 1 rfl (by decide) rfl (Nat.le_of_ble_eq_true rfl) dX2_init_132 (fun H locs h => ?_)
  have h : in_H D A s.heap ([(h0, .inr (2, [.ref q1, .ref q2, .ref q3, .ref q4, .int 5, .int 0, .ref q5, .ref q6, .ref q7, .ref q8, .ref q9, .int 0, .int 0, .int 1, .ref q10, .ref q11])), (q1, .inl (cI, 10, .inl (in_L [50, 50, 0, 0, 0, 0, 0, 0, 0, 0]))), (q2, .inl (cI, 10, .inl (in_L (List.replicate 10 0)))), (q3, .inl (cI, 10, .inl (in_L [-1, 0, 0, 0, 0, 0, 0, 0, 0, 0]))), (q4, .inl (cI, 6, .inl (in_L (List.replicate 6 0)))), (q5, .inl (cI, 8, .inl (in_L (List.replicate 8 0)))), (q6, .inl (cI, 8, .inl (in_L (List.replicate 8 0)))), (q7, .inl (cI, 8, .inl (in_L (List.replicate 8 0)))), (q8, .inl (cI, 8, .inl (in_L (List.replicate 8 0)))), (q9, .inl (cI, 8, .inl (in_L (List.replicate 8 0)))), (q10, .inl (cI, 10, .inl (in_L (List.replicate 10 0)))), (q11, .inl (cI, 10, .inl (in_L (List.replicate 10 0))))]) H locs := h
  refine lv_aload_n S.1 S.2.1 dX2_init_133 rfl (lv_at hl 1 rfl) ?_
  refine in_get (ci := 2) (C := RX2) (T := TX2) (N := 16) S vu_X2 hK h 0 rfl rfl 2 (by decide) vf_RX2_18 rfl rfl dX2_init_134 ?_
  refine lv_iload_n S.1 S.2.1 dX2_init_137 rfl (lv_at hl 0 rfl) ?_
  refine lv_iconst (v := (-1)) S.1 S.2.1 dX2_init_138 rfl ?_
  refine in_iast S hK h 3 rfl (by decide) rfl (Nat.le_of_ble_eq_true rfl) dX2_init_139 (fun H locs h => ?_)
  have h : in_H D A s.heap ([(h0, .inr (2, [.ref q1, .ref q2, .ref q3, .ref q4, .int 5, .int 0, .ref q5, .ref q6, .ref q7, .ref q8, .ref q9, .int 0, .int 0, .int 1, .ref q10, .ref q11])), (q1, .inl (cI, 10, .inl (in_L [50, 50, 0, 0, 0, 0, 0, 0, 0, 0]))), (q2, .inl (cI, 10, .inl (in_L (List.replicate 10 0)))), (q3, .inl (cI, 10, .inl (in_L [-1, -1, 0, 0, 0, 0, 0, 0, 0, 0]))), (q4, .inl (cI, 6, .inl (in_L (List.replicate 6 0)))), (q5, .inl (cI, 8, .inl (in_L (List.replicate 8 0)))), (q6, .inl (cI, 8, .inl (in_L (List.replicate 8 0)))), (q7, .inl (cI, 8, .inl (in_L (List.replicate 8 0)))), (q8, .inl (cI, 8, .inl (in_L (List.replicate 8 0)))), (q9, .inl (cI, 8, .inl (in_L (List.replicate 8 0)))), (q10, .inl (cI, 10, .inl (in_L (List.replicate 10 0)))), (q11, .inl (cI, 10, .inl (in_L (List.replicate 10 0))))]) H locs := h
  refine lv_iinc (v := 2) (lv' := [(1, .int 2), (0, .ref h0)]) S.1 S.2.1 dX2_init_140 hl (k := 0) rfl rfl (by decide) rfl (fun ls hl => ?_)
  refine lv_goto (tgt := 119) S.1 S.2.1 dX2_init_143 (by decide) ?_
  refine lv_iload_n S.1 S.2.1 dX2_init_119 rfl (lv_at hl 0 rfl) ?_
  refine lv_bipush (v := 10) S.1 S.2.1 dX2_init_120 rfl ?_
  refine lv_icmp_ge (tgt := 146) S.1 S.2.1 dX2_init_122 (by decide) (fun hc => absurd hc (by decide)) (fun hc => ?_)
  refine lv_aload_n S.1 S.2.1 dX2_init_125 rfl (lv_at hl 1 rfl) ?_
  refine in_get (ci := 2) (C := RX2) (T := TX2) (N := 16) S vu_X2 hK h 0 rfl rfl 0 (by decide) vf_RX2_9 rfl rfl dX2_init_126 ?_
  refine lv_iload_n S.1 S.2.1 dX2_init_129 rfl (lv_at hl 0 rfl) ?_
  refine lv_bipush (v := 50) S.1 S.2.1 dX2_init_130 rfl ?_
  refine in_iast S hK h 1 rfl (by decide) rfl (Nat.le_of_ble_eq_true rfl) dX2_init_132 (fun H locs h => ?_)
  have h : in_H D A s.heap ([(h0, .inr (2, [.ref q1, .ref q2, .ref q3, .ref q4, .int 5, .int 0, .ref q5, .ref q6, .ref q7, .ref q8, .ref q9, .int 0, .int 0, .int 1, .ref q10, .ref q11])), (q1, .inl (cI, 10, .inl (in_L [50, 50, 50, 0, 0, 0, 0, 0, 0, 0]))), (q2, .inl (cI, 10, .inl (in_L (List.replicate 10 0)))), (q3, .inl (cI, 10, .inl (in_L [-1, -1, 0, 0, 0, 0, 0, 0, 0, 0]))), (q4, .inl (cI, 6, .inl (in_L (List.replicate 6 0)))), (q5, .inl (cI, 8, .inl (in_L (List.replicate 8 0)))), (q6, .inl (cI, 8, .inl (in_L (List.replicate 8 0)))), (q7, .inl (cI, 8, .inl (in_L (List.replicate 8 0)))), (q8, .inl (cI, 8, .inl (in_L (List.replicate 8 0)))), (q9, .inl (cI, 8, .inl (in_L (List.replicate 8 0)))), (q10, .inl (cI, 10, .inl (in_L (List.replicate 10 0)))), (q11, .inl (cI, 10, .inl (in_L (List.replicate 10 0))))]) H locs := h
  refine lv_aload_n S.1 S.2.1 dX2_init_133 rfl (lv_at hl 1 rfl) ?_
  refine in_get (ci := 2) (C := RX2) (T := TX2) (N := 16) S vu_X2 hK h 0 rfl rfl 2 (by decide) vf_RX2_18 rfl rfl dX2_init_134 ?_
  refine lv_iload_n S.1 S.2.1 dX2_init_137 rfl (lv_at hl 0 rfl) ?_
  refine lv_iconst (v := (-1)) S.1 S.2.1 dX2_init_138 rfl ?_
  refine in_iast S hK h 3 rfl (by decide) rfl (Nat.le_of_ble_eq_true rfl) dX2_init_139 (fun H locs h => ?_)
  have h : in_H D A s.heap ([(h0, .inr (2, [.ref q1, .ref q2, .ref q3, .ref q4, .int 5, .int 0, .ref q5, .ref q6, .ref q7, .ref q8, .ref q9, .int 0, .int 0, .int 1, .ref q10, .ref q11])), (q1, .inl (cI, 10, .inl (in_L [50, 50, 50, 0, 0, 0, 0, 0, 0, 0]))), (q2, .inl (cI, 10, .inl (in_L (List.replicate 10 0)))), (q3, .inl (cI, 10, .inl (in_L [-1, -1, -1, 0, 0, 0, 0, 0, 0, 0]))), (q4, .inl (cI, 6, .inl (in_L (List.replicate 6 0)))), (q5, .inl (cI, 8, .inl (in_L (List.replicate 8 0)))), (q6, .inl (cI, 8, .inl (in_L (List.replicate 8 0)))), (q7, .inl (cI, 8, .inl (in_L (List.replicate 8 0)))), (q8, .inl (cI, 8, .inl (in_L (List.replicate 8 0)))), (q9, .inl (cI, 8, .inl (in_L (List.replicate 8 0)))), (q10, .inl (cI, 10, .inl (in_L (List.replicate 10 0)))), (q11, .inl (cI, 10, .inl (in_L (List.replicate 10 0))))]) H locs := h
  refine lv_iinc (v := 3) (lv' := [(1, .int 3), (0, .ref h0)]) S.1 S.2.1 dX2_init_140 hl (k := 0) rfl rfl (by decide) rfl (fun ls hl => ?_)
  refine lv_goto (tgt := 119) S.1 S.2.1 dX2_init_143 (by decide) ?_
  refine lv_iload_n S.1 S.2.1 dX2_init_119 rfl (lv_at hl 0 rfl) ?_
  refine lv_bipush (v := 10) S.1 S.2.1 dX2_init_120 rfl ?_
  refine lv_icmp_ge (tgt := 146) S.1 S.2.1 dX2_init_122 (by decide) (fun hc => absurd hc (by decide)) (fun hc => ?_)
  refine lv_aload_n S.1 S.2.1 dX2_init_125 rfl (lv_at hl 1 rfl) ?_
  refine in_get (ci := 2) (C := RX2) (T := TX2) (N := 16) S vu_X2 hK h 0 rfl rfl 0 (by decide) vf_RX2_9 rfl rfl dX2_init_126 ?_
  refine lv_iload_n S.1 S.2.1 dX2_init_129 rfl (lv_at hl 0 rfl) ?_
  refine lv_bipush (v := 50) S.1 S.2.1 dX2_init_130 rfl ?_
  refine in_iast S hK h 1 rfl (by decide) rfl (Nat.le_of_ble_eq_true rfl) dX2_init_132 (fun H locs h => ?_)
  have h : in_H D A s.heap ([(h0, .inr (2, [.ref q1, .ref q2, .ref q3, .ref q4, .int 5, .int 0, .ref q5, .ref q6, .ref q7, .ref q8, .ref q9, .int 0, .int 0, .int 1, .ref q10, .ref q11])), (q1, .inl (cI, 10, .inl (in_L [50, 50, 50, 50, 0, 0, 0, 0, 0, 0]))), (q2, .inl (cI, 10, .inl (in_L (List.replicate 10 0)))), (q3, .inl (cI, 10, .inl (in_L [-1, -1, -1, 0, 0, 0, 0, 0, 0, 0]))), (q4, .inl (cI, 6, .inl (in_L (List.replicate 6 0)))), (q5, .inl (cI, 8, .inl (in_L (List.replicate 8 0)))), (q6, .inl (cI, 8, .inl (in_L (List.replicate 8 0)))), (q7, .inl (cI, 8, .inl (in_L (List.replicate 8 0)))), (q8, .inl (cI, 8, .inl (in_L (List.replicate 8 0)))), (q9, .inl (cI, 8, .inl (in_L (List.replicate 8 0)))), (q10, .inl (cI, 10, .inl (in_L (List.replicate 10 0)))), (q11, .inl (cI, 10, .inl (in_L (List.replicate 10 0))))]) H locs := h
  refine lv_aload_n S.1 S.2.1 dX2_init_133 rfl (lv_at hl 1 rfl) ?_
  refine in_get (ci := 2) (C := RX2) (T := TX2) (N := 16) S vu_X2 hK h 0 rfl rfl 2 (by decide) vf_RX2_18 rfl rfl dX2_init_134 ?_
  refine lv_iload_n S.1 S.2.1 dX2_init_137 rfl (lv_at hl 0 rfl) ?_
  refine lv_iconst (v := (-1)) S.1 S.2.1 dX2_init_138 rfl ?_
  refine in_iast S hK h 3 rfl (by decide) rfl (Nat.le_of_ble_eq_true rfl) dX2_init_139 (fun H locs h => ?_)
  have h : in_H D A s.heap ([(h0, .inr (2, [.ref q1, .ref q2, .ref q3, .ref q4, .int 5, .int 0, .ref q5, .ref q6, .ref q7, .ref q8, .ref q9, .int 0, .int 0, .int 1, .ref q10, .ref q11])), (q1, .inl (cI, 10, .inl (in_L [50, 50, 50, 50, 0, 0, 0, 0, 0, 0]))), (q2, .inl (cI, 10, .inl (in_L (List.replicate 10 0)))), (q3, .inl (cI, 10, .inl (in_L [-1, -1, -1, -1, 0, 0, 0, 0, 0, 0]))), (q4, .inl (cI, 6, .inl (in_L (List.replicate 6 0)))), (q5, .inl (cI, 8, .inl (in_L (List.replicate 8 0)))), (q6, .inl (cI, 8, .inl (in_L (List.replicate 8 0)))), (q7, .inl (cI, 8, .inl (in_L (List.replicate 8 0)))), (q8, .inl (cI, 8, .inl (in_L (List.replicate 8 0)))), (q9, .inl (cI, 8, .inl (in_L (List.replicate 8 0)))), (q10, .inl (cI, 10, .inl (in_L (List.replicate 10 0)))), (q11, .inl (cI, 10, .inl (in_L (List.replicate 10 0))))]) H locs := h
  refine lv_iinc (v := 4) (lv' := [(1, .int 4), (0, .ref h0)]) S.1 S.2.1 dX2_init_140 hl (k := 0) rfl rfl (by decide) rfl (fun ls hl => ?_)
  refine lv_goto (tgt := 119) S.1 S.2.1 dX2_init_143 (by decide) ?_
  refine lv_iload_n S.1 S.2.1 dX2_init_119 rfl (lv_at hl 0 rfl) ?_
  refine lv_bipush (v := 10) S.1 S.2.1 dX2_init_120 rfl ?_
  refine lv_icmp_ge (tgt := 146) S.1 S.2.1 dX2_init_122 (by decide) (fun hc => absurd hc (by decide)) (fun hc => ?_)
  refine lv_aload_n S.1 S.2.1 dX2_init_125 rfl (lv_at hl 1 rfl) ?_
  refine in_get (ci := 2) (C := RX2) (T := TX2) (N := 16) S vu_X2 hK h 0 rfl rfl 0 (by decide) vf_RX2_9 rfl rfl dX2_init_126 ?_
  refine lv_iload_n S.1 S.2.1 dX2_init_129 rfl (lv_at hl 0 rfl) ?_
  refine lv_bipush (v := 50) S.1 S.2.1 dX2_init_130 rfl ?_
  refine in_iast S hK h 1 rfl (by decide) rfl (Nat.le_of_ble_eq_true rfl) dX2_init_132 (fun H locs h => ?_)
  have h : in_H D A s.heap ([(h0, .inr (2, [.ref q1, .ref q2, .ref q3, .ref q4, .int 5, .int 0, .ref q5, .ref q6, .ref q7, .ref q8, .ref q9, .int 0, .int 0, .int 1, .ref q10, .ref q11])), (q1, .inl (cI, 10, .inl (in_L [50, 50, 50, 50, 50, 0, 0, 0, 0, 0]))), (q2, .inl (cI, 10, .inl (in_L (List.replicate 10 0)))), (q3, .inl (cI, 10, .inl (in_L [-1, -1, -1, -1, 0, 0, 0, 0, 0, 0]))), (q4, .inl (cI, 6, .inl (in_L (List.replicate 6 0)))), (q5, .inl (cI, 8, .inl (in_L (List.replicate 8 0)))), (q6, .inl (cI, 8, .inl (in_L (List.replicate 8 0)))), (q7, .inl (cI, 8, .inl (in_L (List.replicate 8 0)))), (q8, .inl (cI, 8, .inl (in_L (List.replicate 8 0)))), (q9, .inl (cI, 8, .inl (in_L (List.replicate 8 0)))), (q10, .inl (cI, 10, .inl (in_L (List.replicate 10 0)))), (q11, .inl (cI, 10, .inl (in_L (List.replicate 10 0))))]) H locs := h
  refine lv_aload_n S.1 S.2.1 dX2_init_133 rfl (lv_at hl 1 rfl) ?_
  refine in_get (ci := 2) (C := RX2) (T := TX2) (N := 16) S vu_X2 hK h 0 rfl rfl 2 (by decide) vf_RX2_18 rfl rfl dX2_init_134 ?_
  refine lv_iload_n S.1 S.2.1 dX2_init_137 rfl (lv_at hl 0 rfl) ?_
  refine lv_iconst (v := (-1)) S.1 S.2.1 dX2_init_138 rfl ?_
  refine in_iast S hK h 3 rfl (by decide) rfl (Nat.le_of_ble_eq_true rfl) dX2_init_139 (fun H locs h => ?_)
  have h : in_H D A s.heap ([(h0, .inr (2, [.ref q1, .ref q2, .ref q3, .ref q4, .int 5, .int 0, .ref q5, .ref q6, .ref q7, .ref q8, .ref q9, .int 0, .int 0, .int 1, .ref q10, .ref q11])), (q1, .inl (cI, 10, .inl (in_L [50, 50, 50, 50, 50, 0, 0, 0, 0, 0]))), (q2, .inl (cI, 10, .inl (in_L (List.replicate 10 0)))), (q3, .inl (cI, 10, .inl (in_L [-1, -1, -1, -1, -1, 0, 0, 0, 0, 0]))), (q4, .inl (cI, 6, .inl (in_L (List.replicate 6 0)))), (q5, .inl (cI, 8, .inl (in_L (List.replicate 8 0)))), (q6, .inl (cI, 8, .inl (in_L (List.replicate 8 0)))), (q7, .inl (cI, 8, .inl (in_L (List.replicate 8 0)))), (q8, .inl (cI, 8, .inl (in_L (List.replicate 8 0)))), (q9, .inl (cI, 8, .inl (in_L (List.replicate 8 0)))), (q10, .inl (cI, 10, .inl (in_L (List.replicate 10 0)))), (q11, .inl (cI, 10, .inl (in_L (List.replicate 10 0))))]) H locs := h
  refine lv_iinc (v := 5) (lv' := [(1, .int 5), (0, .ref h0)]) S.1 S.2.1 dX2_init_140 hl (k := 0) rfl rfl (by decide) rfl (fun ls hl => ?_)
  refine lv_goto (tgt := 119) S.1 S.2.1 dX2_init_143 (by decide) ?_
  refine lv_iload_n S.1 S.2.1 dX2_init_119 rfl (lv_at hl 0 rfl) ?_
  refine lv_bipush (v := 10) S.1 S.2.1 dX2_init_120 rfl ?_
  refine lv_icmp_ge (tgt := 146) S.1 S.2.1 dX2_init_122 (by decide) (fun hc => absurd hc (by decide)) (fun hc => ?_)
  refine lv_aload_n S.1 S.2.1 dX2_init_125 rfl (lv_at hl 1 rfl) ?_
  refine in_get (ci := 2) (C := RX2) (T := TX2) (N := 16) S vu_X2 hK h 0 rfl rfl 0 (by decide) vf_RX2_9 rfl rfl dX2_init_126 ?_
  refine lv_iload_n S.1 S.2.1 dX2_init_129 rfl (lv_at hl 0 rfl) ?_
  refine lv_bipush (v := 50) S.1 S.2.1 dX2_init_130 rfl ?_
  refine in_iast S hK h 1 rfl (by decide) rfl (Nat.le_of_ble_eq_true rfl) dX2_init_132 (fun H locs h => ?_)
  have h : in_H D A s.heap ([(h0, .inr (2, [.ref q1, .ref q2, .ref q3, .ref q4, .int 5, .int 0, .ref q5, .ref q6, .ref q7, .ref q8, .ref q9, .int 0, .int 0, .int 1, .ref q10, .ref q11])), (q1, .inl (cI, 10, .inl (in_L [50, 50, 50, 50, 50, 50, 0, 0, 0, 0]))), (q2, .inl (cI, 10, .inl (in_L (List.replicate 10 0)))), (q3, .inl (cI, 10, .inl (in_L [-1, -1, -1, -1, -1, 0, 0, 0, 0, 0]))), (q4, .inl (cI, 6, .inl (in_L (List.replicate 6 0)))), (q5, .inl (cI, 8, .inl (in_L (List.replicate 8 0)))), (q6, .inl (cI, 8, .inl (in_L (List.replicate 8 0)))), (q7, .inl (cI, 8, .inl (in_L (List.replicate 8 0)))), (q8, .inl (cI, 8, .inl (in_L (List.replicate 8 0)))), (q9, .inl (cI, 8, .inl (in_L (List.replicate 8 0)))), (q10, .inl (cI, 10, .inl (in_L (List.replicate 10 0)))), (q11, .inl (cI, 10, .inl (in_L (List.replicate 10 0))))]) H locs := h
  refine lv_aload_n S.1 S.2.1 dX2_init_133 rfl (lv_at hl 1 rfl) ?_
  refine in_get (ci := 2) (C := RX2) (T := TX2) (N := 16) S vu_X2 hK h 0 rfl rfl 2 (by decide) vf_RX2_18 rfl rfl dX2_init_134 ?_
  refine lv_iload_n S.1 S.2.1 dX2_init_137 rfl (lv_at hl 0 rfl) ?_
  refine lv_iconst (v := (-1)) S.1 S.2.1 dX2_init_138 rfl ?_
  refine in_iast S hK h 3 rfl (by decide) rfl (Nat.le_of_ble_eq_true rfl) dX2_init_139 (fun H locs h => ?_)
  have h : in_H D A s.heap ([(h0, .inr (2, [.ref q1, .ref q2, .ref q3, .ref q4, .int 5, .int 0, .ref q5, .ref q6, .ref q7, .ref q8, .ref q9, .int 0, .int 0, .int 1, .ref q10, .ref q11])), (q1, .inl (cI, 10, .inl (in_L [50, 50, 50, 50, 50, 50, 0, 0, 0, 0]))), (q2, .inl (cI, 10, .inl (in_L (List.replicate 10 0)))), (q3, .inl (cI, 10, .inl (in_L [-1, -1, -1, -1, -1, -1, 0, 0, 0, 0]))), (q4, .inl (cI, 6, .inl (in_L (List.replicate 6 0)))), (q5, .inl (cI, 8, .inl (in_L (List.replicate 8 0)))), (q6, .inl (cI, 8, .inl (in_L (List.replicate 8 0)))), (q7, .inl (cI, 8, .inl (in_L (List.replicate 8 0)))), (q8, .inl (cI, 8, .inl (in_L (List.replicate 8 0)))), (q9, .inl (cI, 8, .inl (in_L (List.replicate 8 0)))), (q10, .inl (cI, 10, .inl (in_L (List.replicate 10 0)))), (q11, .inl (cI, 10, .inl (in_L (List.replicate 10 0))))]) H locs := h
  refine lv_iinc (v := 6) (lv' := [(1, .int 6), (0, .ref h0)]) S.1 S.2.1 dX2_init_140 hl (k := 0) rfl rfl (by decide) rfl (fun ls hl => ?_)
  refine lv_goto (tgt := 119) S.1 S.2.1 dX2_init_143 (by decide) ?_
  refine lv_iload_n S.1 S.2.1 dX2_init_119 rfl (lv_at hl 0 rfl) ?_
  refine lv_bipush (v := 10) S.1 S.2.1 dX2_init_120 rfl ?_
  refine lv_icmp_ge (tgt := 146) S.1 S.2.1 dX2_init_122 (by decide) (fun hc => absurd hc (by decide)) (fun hc => ?_)
  refine lv_aload_n S.1 S.2.1 dX2_init_125 rfl (lv_at hl 1 rfl) ?_
  refine in_get (ci := 2) (C := RX2) (T := TX2) (N := 16) S vu_X2 hK h 0 rfl rfl 0 (by decide) vf_RX2_9 rfl rfl dX2_init_126 ?_
  refine lv_iload_n S.1 S.2.1 dX2_init_129 rfl (lv_at hl 0 rfl) ?_
  refine lv_bipush (v := 50) S.1 S.2.1 dX2_init_130 rfl ?_
  refine in_iast S hK h 1 rfl (by decide) rfl (Nat.le_of_ble_eq_true rfl) dX2_init_132 (fun H locs h => ?_)
  have h : in_H D A s.heap ([(h0, .inr (2, [.ref q1, .ref q2, .ref q3, .ref q4, .int 5, .int 0, .ref q5, .ref q6, .ref q7, .ref q8, .ref q9, .int 0, .int 0, .int 1, .ref q10, .ref q11])), (q1, .inl (cI, 10, .inl (in_L [50, 50, 50, 50, 50, 50, 50, 0, 0, 0]))), (q2, .inl (cI, 10, .inl (in_L (List.replicate 10 0)))), (q3, .inl (cI, 10, .inl (in_L [-1, -1, -1, -1, -1, -1, 0, 0, 0, 0]))), (q4, .inl (cI, 6, .inl (in_L (List.replicate 6 0)))), (q5, .inl (cI, 8, .inl (in_L (List.replicate 8 0)))), (q6, .inl (cI, 8, .inl (in_L (List.replicate 8 0)))), (q7, .inl (cI, 8, .inl (in_L (List.replicate 8 0)))), (q8, .inl (cI, 8, .inl (in_L (List.replicate 8 0)))), (q9, .inl (cI, 8, .inl (in_L (List.replicate 8 0)))), (q10, .inl (cI, 10, .inl (in_L (List.replicate 10 0)))), (q11, .inl (cI, 10, .inl (in_L (List.replicate 10 0))))]) H locs := h
  refine lv_aload_n S.1 S.2.1 dX2_init_133 rfl (lv_at hl 1 rfl) ?_
  refine in_get (ci := 2) (C := RX2) (T := TX2) (N := 16) S vu_X2 hK h 0 rfl rfl 2 (by decide) vf_RX2_18 rfl rfl dX2_init_134 ?_
  refine lv_iload_n S.1 S.2.1 dX2_init_137 rfl (lv_at hl 0 rfl) ?_
  refine lv_iconst (v := (-1)) S.1 S.2.1 dX2_init_138 rfl ?_
  refine in_iast S hK h 3 rfl (by decide) rfl (Nat.le_of_ble_eq_true rfl) dX2_init_139 (fun H locs h => ?_)
  have h : in_H D A s.heap ([(h0, .inr (2, [.ref q1, .ref q2, .ref q3, .ref q4, .int 5, .int 0, .ref q5, .ref q6, .ref q7, .ref q8, .ref q9, .int 0, .int 0, .int 1, .ref q10, .ref q11])), (q1, .inl (cI, 10, .inl (in_L [50, 50, 50, 50, 50, 50, 50, 0, 0, 0]))), (q2, .inl (cI, 10, .inl (in_L (List.replicate 10 0)))), (q3, .inl (cI, 10, .inl (in_L [-1, -1, -1, -1, -1, -1, -1, 0, 0, 0]))), (q4, .inl (cI, 6, .inl (in_L (List.replicate 6 0)))), (q5, .inl (cI, 8, .inl (in_L (List.replicate 8 0)))), (q6, .inl (cI, 8, .inl (in_L (List.replicate 8 0)))), (q7, .inl (cI, 8, .inl (in_L (List.replicate 8 0)))), (q8, .inl (cI, 8, .inl (in_L (List.replicate 8 0)))), (q9, .inl (cI, 8, .inl (in_L (List.replicate 8 0)))), (q10, .inl (cI, 10, .inl (in_L (List.replicate 10 0)))), (q11, .inl (cI, 10, .inl (in_L (List.replicate 10 0))))]) H locs := h
  refine lv_iinc (v := 7) (lv' := [(1, .int 7), (0, .ref h0)]) S.1 S.2.1 dX2_init_140 hl (k := 0) rfl rfl (by decide) rfl (fun ls hl => ?_)
  refine lv_goto (tgt := 119) S.1 S.2.1 dX2_init_143 (by decide) ?_
  refine lv_iload_n S.1 S.2.1 dX2_init_119 rfl (lv_at hl 0 rfl) ?_
  refine lv_bipush (v := 10) S.1 S.2.1 dX2_init_120 rfl ?_
  refine lv_icmp_ge (tgt := 146) S.1 S.2.1 dX2_init_122 (by decide) (fun hc => absurd hc (by decide)) (fun hc => ?_)
  refine lv_aload_n S.1 S.2.1 dX2_init_125 rfl (lv_at hl 1 rfl) ?_
  refine in_get (ci := 2) (C := RX2) (T := TX2) (N := 16) S vu_X2 hK h 0 rfl rfl 0 (by decide) vf_RX2_9 rfl rfl dX2_init_126 ?_
  refine lv_iload_n S.1 S.2.1 dX2_init_129 rfl (lv_at hl 0 rfl) ?_
  refine lv_bipush (v := 50) S.1 S.2.1 dX2_init_130 rfl ?_
  refine in_iast S hK h 1 rfl (by decide) rfl (Nat.le_of_ble_eq_true rfl) dX2_init_132 (fun H locs h => ?_)
  have h : in_H D A s.heap ([(h0, .inr (2, [.ref q1, .ref q2, .ref q3, .ref q4, .int 5, .int 0, .ref q5, .ref q6, .ref q7, .ref q8, .ref q9, .int 0, .int 0, .int 1, .ref q10, .ref q11])), (q1, .inl (cI, 10, .inl (in_L [50, 50, 50, 50, 50, 50, 50, 50, 0, 0]))), (q2, .inl (cI, 10, .inl (in_L (List.replicate 10 0)))), (q3, .inl (cI, 10, .inl (in_L [-1, -1, -1, -1, -1, -1, -1, 0, 0, 0]))), (q4, .inl (cI, 6, .inl (in_L (List.replicate 6 0)))), (q5, .inl (cI, 8, .inl (in_L (List.replicate 8 0)))), (q6, .inl (cI, 8, .inl (in_L (List.replicate 8 0)))), (q7, .inl (cI, 8, .inl (in_L (List.replicate 8 0)))), (q8, .inl (cI, 8, .inl (in_L (List.replicate 8 0)))), (q9, .inl (cI, 8, .inl (in_L (List.replicate 8 0)))), (q10, .inl (cI, 10, .inl (in_L (List.replicate 10 0)))), (q11, .inl (cI, 10, .inl (in_L (List.replicate 10 0))))]) H locs := h
  refine lv_aload_n S.1 S.2.1 dX2_init_133 rfl (lv_at hl 1 rfl) ?_
  refine in_get (ci := 2) (C := RX2) (T := TX2) (N := 16) S vu_X2 hK h 0 rfl rfl 2 (by decide) vf_RX2_18 rfl rfl dX2_init_134 ?_
  refine lv_iload_n S.1 S.2.1 dX2_init_137 rfl (lv_at hl 0 rfl) ?_
  refine lv_iconst (v := (-1)) S.1 S.2.1 dX2_init_138 rfl ?_
  refine in_iast S hK h 3 rfl (by decide) rfl (Nat.le_of_ble_eq_true rfl) dX2_init_139 (fun H locs h => ?_)
  have h : in_H D A s.heap ([(h0, .inr (2, [.ref q1, .ref q2, .ref q3, .ref q4, .int 5, .int 0, .ref q5, .ref q6, .ref q7, .ref q8, .ref q9, .int 0, .int 0, .int 1, .ref q10, .ref q11])), (q1, .inl (cI, 10, .inl (in_L [50, 50, 50, 50, 50, 50, 50, 50, 0, 0]))), (q2, .inl (cI, 10, .inl (in_L (List.replicate 10 0)))), (q3, .inl (cI, 10, .inl (in_L [-1, -1, -1, -1, -1, -1, -1, -1, 0, 0]))), (q4, .inl (cI, 6, .inl (in_L (List.replicate 6 0)))), (q5, .inl (cI, 8, .inl (in_L (List.replicate 8 0)))), (q6, .inl (cI, 8, .inl (in_L (List.replicate 8 0)))), (q7, .inl (cI, 8, .inl (in_L (List.replicate 8 0)))), (q8, .inl (cI, 8, .inl (in_L (List.replicate 8 0)))), (q9, .inl (cI, 8, .inl (in_L (List.replicate 8 0)))), (q10, .inl (cI, 10, .inl (in_L (List.replicate 10 0)))), (q11, .inl (cI, 10, .inl (in_L (List.replicate 10 0))))]) H locs := h
  refine lv_iinc (v := 8) (lv' := [(1, .int 8), (0, .ref h0)]) S.1 S.2.1 dX2_init_140 hl (k := 0) rfl rfl (by decide) rfl (fun ls hl => ?_)
  refine lv_goto (tgt := 119) S.1 S.2.1 dX2_init_143 (by decide) ?_
  refine lv_iload_n S.1 S.2.1 dX2_init_119 rfl (lv_at hl 0 rfl) ?_
  refine lv_bipush (v := 10) S.1 S.2.1 dX2_init_120 rfl ?_
  refine lv_icmp_ge (tgt := 146) S.1 S.2.1 dX2_init_122 (by decide) (fun hc => absurd hc (by decide)) (fun hc => ?_)
  refine lv_aload_n S.1 S.2.1 dX2_init_125 rfl (lv_at hl 1 rfl) ?_
  refine in_get (ci := 2) (C := RX2) (T := TX2) (N := 16) S vu_X2 hK h 0 rfl rfl 0 (by decide) vf_RX2_9 rfl rfl dX2_init_126 ?_
  refine lv_iload_n S.1 S.2.1 dX2_init_129 rfl (lv_at hl 0 rfl) ?_
  refine lv_bipush (v := 50) S.1 S.2.1 dX2_init_130 rfl ?_
  refine in_iast S hK h 1 rfl (by decide) rfl (Nat.le_of_ble_eq_true rfl) dX2_init_132 (fun H locs h => ?_)
  have h : in_H D A s.heap ([(h0, .inr (2, [.ref q1, .ref q2, .ref q3, .ref q4, .int 5, .int 0, .ref q5, .ref q6, .ref q7, .ref q8, .ref q9, .int 0, .int 0, .int 1, .ref q10, .ref q11])), (q1, .inl (cI, 10, .inl (in_L [50, 50, 50, 50, 50, 50, 50, 50, 50, 0]))), (q2, .inl (cI, 10, .inl (in_L (List.replicate 10 0)))), (q3, .inl (cI, 10, .inl (in_L [-1, -1, -1, -1, -1, -1, -1, -1, 0, 0]))), (q4, .inl (cI, 6, .inl (in_L (List.replicate 6 0)))), (q5, .inl (cI, 8, .inl (in_L (List.replicate 8 0)))), (q6, .inl (cI, 8, .inl (in_L (List.replicate 8 0)))), (q7, .inl (cI, 8, .inl (in_L (List.replicate 8 0)))), (q8, .inl (cI, 8, .inl (in_L (List.replicate 8 0)))), (q9, .inl (cI, 8, .inl (in_L (List.replicate 8 0)))), (q10, .inl (cI, 10, .inl (in_L (List.replicate 10 0)))), (q11, .inl (cI, 10, .inl (in_L (List.replicate 10 0))))]) H locs := h
  refine lv_aload_n S.1 S.2.1 dX2_init_133 rfl (lv_at hl 1 rfl) ?_
  refine in_get (ci := 2) (C := RX2) (T := TX2) (N := 16) S vu_X2 hK h 0 rfl rfl 2 (by decide) vf_RX2_18 rfl rfl dX2_init_134 ?_
  refine lv_iload_n S.1 S.2.1 dX2_init_137 rfl (lv_at hl 0 rfl) ?_
  refine lv_iconst (v := (-1)) S.1 S.2.1 dX2_init_138 rfl ?_
  refine in_iast S hK h 3 rfl (by decide) rfl (Nat.le_of_ble_eq_true rfl) dX2_init_139 (fun H locs h => ?_)
  have h : in_H D A s.heap ([(h0, .inr (2, [.ref q1, .ref q2, .ref q3, .ref q4, .int 5, .int 0, .ref q5, .ref q6, .ref q7, .ref q8, .ref q9, .int 0, .int 0, .int 1, .ref q10, .ref q11])), (q1, .inl (cI, 10, .inl (in_L [50, 50, 50, 50, 50, 50, 50, 50, 50, 0]))), (q2, .inl (cI, 10, .inl (in_L (List.replicate 10 0)))), (q3, .inl (cI, 10, .inl (in_L [-1, -1, -1, -1, -1, -1, -1, -1, -1, 0]))), (q4, .inl (cI, 6, .inl (in_L (List.replicate 6 0)))), (q5, .inl (cI, 8, .inl (in_L (List.replicate 8 0)))), (q6, .inl (cI, 8, .inl (in_L (List.replicate 8 0)))), (q7, .inl (cI, 8, .inl (in_L (List.replicate 8 0)))), (q8, .inl (cI, 8, .inl (in_L (List.replicate 8 0)))), (q9, .inl (cI, 8, .inl (in_L (List.replicate 8 0)))), (q10, .inl (cI, 10, .inl (in_L (List.replicate 10 0)))), (q11, .inl (cI, 10, .inl (in_L (List.replicate 10 0))))]) H locs := h
  refine lv_iinc (v := 9) (lv' := [(1, .int 9), (0, .ref h0)]) S.1 S.2.1 dX2_init_140 hl (k := 0) rfl rfl (by decide) rfl (fun ls hl => ?_)
  refine lv_goto (tgt := 119) S.1 S.2.1 dX2_init_143 (by decide) ?_
  refine lv_iload_n S.1 S.2.1 dX2_init_119 rfl (lv_at hl 0 rfl) ?_
  refine lv_bipush (v := 10) S.1 S.2.1 dX2_init_120 rfl ?_
  refine lv_icmp_ge (tgt := 146) S.1 S.2.1 dX2_init_122 (by decide) (fun hc => absurd hc (by decide)) (fun hc => ?_)
  refine lv_aload_n S.1 S.2.1 dX2_init_125 rfl (lv_at hl 1 rfl) ?_
  refine in_get (ci := 2) (C := RX2) (T := TX2) (N := 16) S vu_X2 hK h 0 rfl rfl 0 (by decide) vf_RX2_9 rfl rfl dX2_init_126 ?_
  refine lv_iload_n S.1 S.2.1 dX2_init_129 rfl (lv_at hl 0 rfl) ?_
  refine lv_bipush (v := 50) S.1 S.2.1 dX2_init_130 rfl ?_
  refine in_iast S hK h 1 rfl (by decide) rfl (Nat.le_of_ble_eq_true rfl) dX2_init_132 (fun H locs h => ?_)
  have h : in_H D A s.heap ([(h0, .inr (2, [.ref q1, .ref q2, .ref q3, .ref q4, .int 5, .int 0, .ref q5, .ref q6, .ref q7, .ref q8, .ref q9, .int 0, .int 0, .int 1, .ref q10, .ref q11])), (q1, .inl (cI, 10, .inl (in_L [50, 50, 50, 50, 50, 50, 50, 50, 50, 50]))), (q2, .inl (cI, 10, .inl (in_L (List.replicate 10 0)))), (q3, .inl (cI, 10, .inl (in_L [-1, -1, -1, -1, -1, -1, -1, -1, -1, 0]))), (q4, .inl (cI, 6, .inl (in_L (List.replicate 6 0)))), (q5, .inl (cI, 8, .inl (in_L (List.replicate 8 0)))), (q6, .inl (cI, 8, .inl (in_L (List.replicate 8 0)))), (q7, .inl (cI, 8, .inl (in_L (List.replicate 8 0)))), (q8, .inl (cI, 8, .inl (in_L (List.replicate 8 0)))), (q9, .inl (cI, 8, .inl (in_L (List.replicate 8 0)))), (q10, .inl (cI, 10, .inl (in_L (List.replicate 10 0)))), (q11, .inl (cI, 10, .inl (in_L (List.replicate 10 0))))]) H locs := h
  refine lv_aload_n S.1 S.2.1 dX2_init_133 rfl (lv_at hl 1 rfl) ?_
  refine in_get (ci := 2) (C := RX2) (T := TX2) (N := 16) S vu_X2 hK h 0 rfl rfl 2 (by decide) vf_RX2_18 rfl rfl dX2_init_134 ?_
  refine lv_iload_n S.1 S.2.1 dX2_init_137 rfl (lv_at hl 0 rfl) ?_
  refine lv_iconst (v := (-1)) S.1 S.2.1 dX2_init_138 rfl ?_
  refine in_iast S hK h 3 rfl (by decide) rfl (Nat.le_of_ble_eq_true rfl) dX2_init_139 (fun H locs h => ?_)
  have h : in_H D A s.heap ([(h0, .inr (2, [.ref q1, .ref q2, .ref q3, .ref q4, .int 5, .int 0, .ref q5, .ref q6, .ref q7, .ref q8, .ref q9, .int 0, .int 0, .int 1, .ref q10, .ref q11])), (q1, .inl (cI, 10, .inl (in_L [50, 50, 50, 50, 50, 50, 50, 50, 50, 50]))), (q2, .inl (cI, 10, .inl (in_L (List.replicate 10 0)))), (q3, .inl (cI, 10, .inl (in_L [-1, -1, -1, -1, -1, -1, -1, -1, -1, -1]))), (q4, .inl (cI, 6, .inl (in_L (List.replicate 6 0)))), (q5, .inl (cI, 8, .inl (in_L (List.replicate 8 0)))), (q6, .inl (cI, 8, .inl (in_L (List.replicate 8 0)))), (q7, .inl (cI, 8, .inl (in_L (List.replicate 8 0)))), (q8, .inl (cI, 8, .inl (in_L (List.replicate 8 0)))), (q9, .inl (cI, 8, .inl (in_L (List.replicate 8 0)))), (q10, .inl (cI, 10, .inl (in_L (List.replicate 10 0)))), (q11, .inl (cI, 10, .inl (in_L (List.replicate 10 0))))]) H locs := h
  refine lv_iinc (v := 10) (lv' := [(1, .int 10), (0, .ref h0)]) S.1 S.2.1 dX2_init_140 hl (k := 0) rfl rfl (by decide) rfl (fun ls hl => ?_)
  refine lv_goto (tgt := 119) S.1 S.2.1 dX2_init_143 (by decide) ?_
  refine lv_iload_n S.1 S.2.1 dX2_init_119 rfl (lv_at hl 0 rfl) ?_
  refine lv_bipush (v := 10) S.1 S.2.1 dX2_init_120 rfl ?_
  refine lv_icmp_ge (tgt := 146) S.1 S.2.1 dX2_init_122 (by decide) (fun hc => ?_) (fun hc => absurd (by decide) hc)
  refine lv_iconst (v := 0) S.1 S.2.1 dX2_init_146 rfl ?_
  refine lv_istore_n (lv' := [(1, .int 0), (0, .ref h0)]) S.1 S.2.1 dX2_init_147 rfl hl (by decide) rfl (fun ls hl => ?_)
  refine lv_iload_n S.1 S.2.1 dX2_init_148 rfl (lv_at hl 0 rfl) ?_
  refine lv_bipush (v := 6) S.1 S.2.1 dX2_init_149 rfl ?_
  refine lv_icmp_ge (tgt := 167) S.1 S.2.1 dX2_init_151 (by decide) (fun hc => absurd hc (by decide)) (fun hc => ?_)
  refine lv_aload_n S.1 S.2.1 dX2_init_154 rfl (lv_at hl 1 rfl) ?_
  refine in_get (ci := 2) (C := RX2) (T := TX2) (N := 16) S vu_X2 hK h 0 rfl rfl 3 (by decide) vf_RX2_21 rfl rfl dX2_init_155 ?_
  refine lv_iload_n S.1 S.2.1 dX2_init_158 rfl (lv_at hl 0 rfl) ?_
  refine lv_iconst (v := 5) S.1 S.2.1 dX2_init_159 rfl ?_
  refine in_iast S hK h 4 rfl (by decide) rfl (Nat.le_of_ble_eq_true rfl) dX2_init_160 (fun H locs h => ?_)
  have h : in_H D A s.heap ([(h0, .inr (2, [.ref q1, .ref q2, .ref q3, .ref q4, .int 5, .int 0, .ref q5, .ref q6, .ref q7, .ref q8, .ref q9, .int 0, .int 0, .int 1, .ref q10, .ref q11])), (q1, .inl (cI, 10, .inl (in_L [50, 50, 50, 50, 50, 50, 50, 50, 50, 50]))), (q2, .inl (cI, 10, .inl (in_L (List.replicate 10 0)))), (q3, .inl (cI, 10, .inl (in_L [-1, -1, -1, -1, -1, -1, -1, -1, -1, -1]))), (q4, .inl (cI, 6, .inl (in_L [5, 0, 0, 0, 0, 0]))), (q5, .inl (cI, 8, .inl (in_L (List.replicate 8 0)))), (q6, .inl (cI, 8, .inl (in_L (List.replicate 8 0)))), (q7, .inl (cI, 8, .inl (in_L (List.replicate 8 0)))), (q8, .inl (cI, 8, .inl (in_L (List.replicate 8 0)))), (q9, .inl (cI, 8, .inl (in_L (List.replicate 8 0)))), (q10, .inl (cI, 10, .inl (in_L (List.replicate 10 0)))), (q11, .inl (cI, 10, .inl (in_L (List.replicate 10 0))))]) H locs := h
  refine lv_iinc (v := 1) (lv' := [(1, .int 1), (0, .ref h0)]) S.1 S.2.1 dX2_init_161 hl (k := 0) rfl rfl (by decide) rfl (fun ls hl => ?_)
  refine lv_goto (tgt := 148) S.1 S.2.1 dX2_init_164 (by decide) ?_
  refine lv_iload_n S.1 S.2.1 dX2_init_148 rfl (lv_at hl 0 rfl) ?_
  refine lv_bipush (v := 6) S.1 S.2.1 dX2_init_149 rfl ?_
  refine lv_icmp_ge (tgt := 167) S.1 S.2.1 dX2_init_151 (by decide) (fun hc => absurd hc (by decide)) (fun hc => ?_)
  refine lv_aload_n S.1 S.2.1 dX2_init_154 rfl (lv_at hl 1 rfl) ?_
  refine in_get (ci := 2) (C := RX2) (T := TX2) (N := 16) S vu_X2 hK h 0 rfl rfl 3 (by decide) vf_RX2_21 rfl rfl dX2_init_155 ?_
  refine lv_iload_n S.1 S.2.1 dX2_init_158 rfl (lv_at hl 0 rfl) ?_
  refine lv_iconst (v := 5) S.1 S.2.1 dX2_init_159 rfl ?_
  refine in_iast S hK h 4 rfl (by decide) rfl (Nat.le_of_ble_eq_true rfl) dX2_init_160 (fun H locs h => ?_)
  have h : in_H D A s.heap ([(h0, .inr (2, [.ref q1, .ref q2, .ref q3, .ref q4, .int 5, .int 0, .ref q5, .ref q6, .ref q7, .ref q8, .ref q9, .int 0, .int 0, .int 1, .ref q10, .ref q11])), (q1, .inl (cI, 10, .inl (in_L [50, 50, 50, 50, 50, 50, 50, 50, 50, 50]))), (q2, .inl (cI, 10, .inl (in_L (List.replicate 10 0)))), (q3, .inl (cI, 10, .inl (in_L [-1, -1, -1, -1, -1, -1, -1, -1, -1, -1]))), (q4, .inl (cI, 6, .inl (in_L [5, 5, 0, 0, 0, 0]))), (q5, .inl (cI, 8, .inl (in_L (List.replicate 8 0)))), (q6, .inl (cI, 8, .inl (in_L (List.replicate 8 0)))), (q7, .inl (cI, 8, .inl (in_L (List.replicate 8 0)))), (q8, .inl (cI, 8, .inl (in_L (List.replicate 8 0)))), (q9, .inl (cI, 8, .inl (in_L (List.replicate 8 0)))), (q10, .inl (cI, 10, .inl (in_L (List.replicate 10 0)))), (q11, .inl (cI, 10, .inl (in_L (List.replicate 10 0))))]) H locs := h
  refine lv_iinc (v := 2) (lv' := [(1, .int 2), (0, .ref h0)]) S.1 S.2.1 dX2_init_161 hl (k := 0) rfl rfl (by decide) rfl (fun ls hl => ?_)
  refine lv_goto (tgt := 148) S.1 S.2.1 dX2_init_164 (by decide) ?_
  refine lv_iload_n S.1 S.2.1 dX2_init_148 rfl (lv_at hl 0 rfl) ?_
  refine lv_bipush (v := 6) S.1 S.2.1 dX2_init_149 rfl ?_
  refine lv_icmp_ge (tgt := 167) S.1 S.2.1 dX2_init_151 (by decide) (fun hc => absurd hc (by decide)) (fun hc => ?_)
  refine lv_aload_n S.1 S.2.1 dX2_init_154 rfl (lv_at hl 1 rfl) ?_
  refine in_get (ci := 2) (C := RX2) (T := TX2) (N := 16) S vu_X2 hK h 0 rfl rfl 3 (by decide) vf_RX2_21 rfl rfl dX2_init_155 ?_
  refine lv_iload_n S.1 S.2.1 dX2_init_158 rfl (lv_at hl 0 rfl) ?_
  refine lv_iconst (v := 5) S.1 S.2.1 dX2_init_159 rfl ?_
  refine in_iast S hK h 4 rfl (by decide) rfl (Nat.le_of_ble_eq_true rfl) dX2_init_160 (fun H locs h => ?_)
  have h : in_H D A s.heap ([(h0, .inr (2, [.ref q1, .ref q2, .ref q3, .ref q4, .int 5, .int 0, .ref q5, .ref q6, .ref q7, .ref q8, .ref q9, .int 0, .int 0, .int 1, .ref q10, .ref q11])), (q1, .inl (cI, 10, .inl (in_L [50, 50, 50, 50, 50, 50, 50, 50, 50, 50]))), (q2, .inl (cI, 10, .inl (in_L (List.replicate 10 0)))), (q3, .inl (cI, 10, .inl (in_L [-1, -1, -1, -1, -1, -1, -1, -1, -1, -1]))), (q4, .inl (cI, 6, .inl (in_L [5, 5, 5, 0, 0, 0]))), (q5, .inl (cI, 8, .inl (in_L (List.replicate 8 0)))), (q6, .inl (cI, 8, .inl (in_L (List.replicate 8 0)))), (q7, .inl (cI, 8, .inl (in_L (List.replicate 8 0)))), (q8, .inl (cI, 8, .inl (in_L (List.replicate 8 0)))), (q9, .inl (cI, 8, .inl (in_L (List.replicate 8 0)))), (q10, .inl (cI, 10, .inl (in_L (List.replicate 10 0)))), (q11, .inl (cI, 10, .inl (in_L (List.replicate 10 0))))]) H locs := h
  refine lv_iinc (v := 3) (lv' := [(1, .int 3), (0, .ref h0)]) S.1 S.2.1 dX2_init_161 hl (k := 0) rfl rfl (by decide) rfl (fun ls hl => ?_)
  refine lv_goto (tgt := 148) S.1 S.2.1 dX2_init_164 (by decide) ?_
  refine lv_iload_n S.1 S.2.1 dX2_init_148 rfl (lv_at hl 0 rfl) ?_
  refine lv_bipush (v := 6) S.1 S.2.1 dX2_init_149 rfl ?_
  refine lv_icmp_ge (tgt := 167) S.1 S.2.1 dX2_init_151 (by decide) (fun hc => absurd hc (by decide)) (fun hc => ?_)
  refine lv_aload_n S.1 S.2.1 dX2_init_154 rfl (lv_at hl 1 rfl) ?_
  refine in_get (ci := 2) (C := RX2) (T := TX2) (N := 16) S vu_X2 hK h 0 rfl rfl 3 (by decide) vf_RX2_21 rfl rfl dX2_init_155 ?_
  refine lv_iload_n S.1 S.2.1 dX2_init_158 rfl (lv_at hl 0 rfl) ?_
  refine lv_iconst (v := 5) S.1 S.2.1 dX2_init_159 rfl ?_
  refine in_iast S hK h 4 rfl (by decide) rfl (Nat.le_of_ble_eq_true rfl) dX2_init_160 (fun H locs h => ?_)
  have h : in_H D A s.heap ([(h0, .inr (2, [.ref q1, .ref q2, .ref q3, .ref q4, .int 5, .int 0, .ref q5, .ref q6, .ref q7, .ref q8, .ref q9, .int 0, .int 0, .int 1, .ref q10, .ref q11])), (q1, .inl (cI, 10, .inl (in_L [50, 50, 50, 50, 50, 50, 50, 50, 50, 50]))), (q2, .inl (cI, 10, .inl (in_L (List.replicate 10 0)))), (q3, .inl (cI, 10, .inl (in_L [-1, -1, -1, -1, -1, -1, -1, -1, -1, -1]))), (q4, .inl (cI, 6, .inl (in_L [5, 5, 5, 5, 0, 0]))), (q5, .inl (cI, 8, .inl (in_L (List.replicate 8 0)))), (q6, .inl (cI, 8, .inl (in_L (List.replicate 8 0)))), (q7, .inl (cI, 8, .inl (in_L (List.replicate 8 0)))), (q8, .inl (cI, 8, .inl (in_L (List.replicate 8 0)))), (q9, .inl (cI, 8, .inl (in_L (List.replicate 8 0)))), (q10, .inl (cI, 10, .inl (in_L (List.replicate 10 0)))), (q11, .inl (cI, 10, .inl (in_L (List.replicate 10 0))))]) H locs := h
  refine lv_iinc (v := 4) (lv' := [(1, .int 4), (0, .ref h0)]) S.1 S.2.1 dX2_init_161 hl (k := 0) rfl rfl (by decide) rfl (fun ls hl => ?_)
  refine lv_goto (tgt := 148) S.1 S.2.1 dX2_init_164 (by decide) ?_
  refine lv_iload_n S.1 S.2.1 dX2_init_148 rfl (lv_at hl 0 rfl) ?_
  refine lv_bipush (v := 6) S.1 S.2.1 dX2_init_149 rfl ?_
  refine lv_icmp_ge (tgt := 167) S.1 S.2.1 dX2_init_151 (by decide) (fun hc => absurd hc (by decide)) (fun hc => ?_)
  refine lv_aload_n S.1 S.2.1 dX2_init_154 rfl (lv_at hl 1 rfl) ?_
  refine in_get (ci := 2) (C := RX2) (T := TX2) (N := 16) S vu_X2 hK h 0 rfl rfl 3 (by decide) vf_RX2_21 rfl rfl dX2_init_155 ?_
  refine lv_iload_n S.1 S.2.1 dX2_init_158 rfl (lv_at hl 0 rfl) ?_
  refine lv_iconst (v := 5) S.1 S.2.1 dX2_init_159 rfl ?_
  refine in_iast S hK h 4 rfl (by decide) rfl (Nat.le_of_ble_eq_true rfl) dX2_init_160 (fun H locs h => ?_)
  have h : in_H D A s.heap ([(h0, .inr (2, [.ref q1, .ref q2, .ref q3, .ref q4, .int 5, .int 0, .ref q5, .ref q6, .ref q7, .ref q8, .ref q9, .int 0, .int 0, .int 1, .ref q10, .ref q11])), (q1, .inl (cI, 10, .inl (in_L [50, 50, 50, 50, 50, 50, 50, 50, 50, 50]))), (q2, .inl (cI, 10, .inl (in_L (List.replicate 10 0)))), (q3, .inl (cI, 10, .inl (in_L [-1, -1, -1, -1, -1, -1, -1, -1, -1, -1]))), (q4, .inl (cI, 6, .inl (in_L [5, 5, 5, 5, 5, 0]))), (q5, .inl (cI, 8, .inl (in_L (List.replicate 8 0)))), (q6, .inl (cI, 8, .inl (in_L (List.replicate 8 0)))), (q7, .inl (cI, 8, .inl (in_L (List.replicate 8 0)))), (q8, .inl (cI, 8, .inl (in_L (List.replicate 8 0)))), (q9, .inl (cI, 8, .inl (in_L (List.replicate 8 0)))), (q10, .inl (cI, 10, .inl (in_L (List.replicate 10 0)))), (q11, .inl (cI, 10, .inl (in_L (List.replicate 10 0))))]) H locs := h
  refine lv_iinc (v := 5) (lv' := [(1, .int 5), (0, .ref h0)]) S.1 S.2.1 dX2_init_161 hl (k := 0) rfl rfl (by decide) rfl (fun ls hl => ?_)
  refine lv_goto (tgt := 148) S.1 S.2.1 dX2_init_164 (by decide) ?_
  refine lv_iload_n S.1 S.2.1 dX2_init_148 rfl (lv_at hl 0 rfl) ?_
  refine lv_bipush (v := 6) S.1 S.2.1 dX2_init_149 rfl ?_
  refine lv_icmp_ge (tgt := 167) S.1 S.2.1 dX2_init_151 (by decide) (fun hc => absurd hc (by decide)) (fun hc => ?_)
  refine lv_aload_n S.1 S.2.1 dX2_init_154 rfl (lv_at hl 1 rfl) ?_
  refine in_get (ci := 2) (C := RX2) (T := TX2) (N := 16) S vu_X2 hK h 0 rfl rfl 3 (by decide) vf_RX2_21 rfl rfl dX2_init_155 ?_
  refine lv_iload_n S.1 S.2.1 dX2_init_158 rfl (lv_at hl 0 rfl) ?_
  refine lv_iconst (v := 5) S.1 S.2.1 dX2_init_159 rfl ?_
  refine in_iast S hK h 4 rfl (by decide) rfl (Nat.le_of_ble_eq_true rfl) dX2_init_160 (fun H locs h => ?_)
  have h : in_H D A s.heap ([(h0, .inr (2, [.ref q1, .ref q2, .ref q3, .ref q4, .int 5, .int 0, .ref q5, .ref q6, .ref q7, .ref q8, .ref q9, .int 0, .int 0, .int 1, .ref q10, .ref q11])), (q1, .inl (cI, 10, .inl (in_L [50, 50, 50, 50, 50, 50, 50, 50, 50, 50]))), (q2, .inl (cI, 10, .inl (in_L (List.replicate 10 0)))), (q3, .inl (cI, 10, .inl (in_L [-1, -1, -1, -1, -1, -1, -1, -1, -1, -1]))), (q4, .inl (cI, 6, .inl (in_L [5, 5, 5, 5, 5, 5]))), (q5, .inl (cI, 8, .inl (in_L (List.replicate 8 0)))), (q6, .inl (cI, 8, .inl (in_L (List.replicate 8 0)))), (q7, .inl (cI, 8, .inl (in_L (List.replicate 8 0)))), (q8, .inl (cI, 8, .inl (in_L (List.replicate 8 0)))), (q9, .inl (cI, 8, .inl (in_L (List.replicate 8 0)))), (q10, .inl (cI, 10, .inl (in_L (List.replicate 10 0)))), (q11, .inl (cI, 10, .inl (in_L (List.replicate 10 0))))]) H locs := h
  refine lv_iinc (v := 6) (lv' := [(1, .int 6), (0, .ref h0)]) S.1 S.2.1 dX2_init_161 hl (k := 0) rfl rfl (by decide) rfl (fun ls hl => ?_)
  refine lv_goto (tgt := 148) S.1 S.2.1 dX2_init_164 (by decide) ?_
  refine lv_iload_n S.1 S.2.1 dX2_init_148 rfl (lv_at hl 0 rfl) ?_
  refine lv_bipush (v := 6) S.1 S.2.1 dX2_init_149 rfl ?_
  refine lv_icmp_ge (tgt := 167) S.1 S.2.1 dX2_init_151 (by decide) (fun hc => ?_) (fun hc => absurd (by decide) hc)
  refine lv_iconst (v := 0) S.1 S.2.1 dX2_init_167 rfl ?_
  refine lv_istore_n (lv' := [(1, .int 0), (0, .ref h0)]) S.1 S.2.1 dX2_init_168 rfl hl (by decide) rfl (fun ls hl => ?_)
  refine lv_iload_n S.1 S.2.1 dX2_init_169 rfl (lv_at hl 0 rfl) ?_
  refine lv_bipush (v := 10) S.1 S.2.1 dX2_init_170 rfl ?_
  refine lv_icmp_ge (tgt := 188) S.1 S.2.1 dX2_init_172 (by decide) (fun hc => absurd hc (by decide)) (fun hc => ?_)
  refine lv_aload_n S.1 S.2.1 dX2_init_175 rfl (lv_at hl 1 rfl) ?_
  refine in_get (ci := 2) (C := RX2) (T := TX2) (N := 16) S vu_X2 hK h 0 rfl rfl 14 (by decide) vf_RX2_55 rfl rfl dX2_init_176 ?_
  refine lv_iload_n S.1 S.2.1 dX2_init_179 rfl (lv_at hl 0 rfl) ?_
  refine lv_iconst (v := (-1)) S.1 S.2.1 dX2_init_180 rfl ?_
  refine in_iast S hK h 10 rfl (by decide) rfl (Nat.le_of_ble_eq_true rfl) dX2_init_181 (fun H locs h => ?_)
  have h : in_H D A s.heap ([(h0, .inr (2, [.ref q1, .ref q2, .ref q3, .ref q4, .int 5, .int 0, .ref q5, .ref q6, .ref q7, .ref q8, .ref q9, .int 0, .int 0, .int 1, .ref q10, .ref q11])), (q1, .inl (cI, 10, .inl (in_L [50, 50, 50, 50, 50, 50, 50, 50, 50, 50]))), (q2, .inl (cI, 10, .inl (in_L (List.replicate 10 0)))), (q3, .inl (cI, 10, .inl (in_L [-1, -1, -1, -1, -1, -1, -1, -1, -1, -1]))), (q4, .inl (cI, 6, .inl (in_L [5, 5, 5, 5, 5, 5]))), (q5, .inl (cI, 8, .inl (in_L (List.replicate 8 0)))), (q6, .inl (cI, 8, .inl (in_L (List.replicate 8 0)))), (q7, .inl (cI, 8, .inl (in_L (List.replicate 8 0)))), (q8, .inl (cI, 8, .inl (in_L (List.replicate 8 0)))), (q9, .inl (cI, 8, .inl (in_L (List.replicate 8 0)))), (q10, .inl (cI, 10, .inl (in_L [-1, 0, 0, 0, 0, 0, 0, 0, 0, 0]))), (q11, .inl (cI, 10, .inl (in_L (List.replicate 10 0))))]) H locs := h
  refine lv_iinc (v := 1) (lv' := [(1, .int 1), (0, .ref h0)]) S.1 S.2.1 dX2_init_182 hl (k := 0) rfl rfl (by decide) rfl (fun ls hl => ?_)
  refine lv_goto (tgt := 169) S.1 S.2.1 dX2_init_185 (by decide) ?_
  refine lv_iload_n S.1 S.2.1 dX2_init_169 rfl (lv_at hl 0 rfl) ?_
  refine lv_bipush (v := 10) S.1 S.2.1 dX2_init_170 rfl ?_
  refine lv_icmp_ge (tgt := 188) S.1 S.2.1 dX2_init_172 (by decide) (fun hc => absurd hc (by decide)) (fun hc => ?_)
  refine lv_aload_n S.1 S.2.1 dX2_init_175 rfl (lv_at hl 1 rfl) ?_
  refine in_get (ci := 2) (C := RX2) (T := TX2) (N := 16) S vu_X2 hK h 0 rfl rfl 14 (by decide) vf_RX2_55 rfl rfl dX2_init_176 ?_
  refine lv_iload_n S.1 S.2.1 dX2_init_179 rfl (lv_at hl 0 rfl) ?_
  refine lv_iconst (v := (-1)) S.1 S.2.1 dX2_init_180 rfl ?_
  refine in_iast S hK h 10 rfl (by decide) rfl (Nat.le_of_ble_eq_true rfl) dX2_init_181 (fun H locs h => ?_)
  have h : in_H D A s.heap ([(h0, .inr (2, [.ref q1, .ref q2, .ref q3, .ref q4, .int 5, .int 0, .ref q5, .ref q6, .ref q7, .ref q8, .ref q9, .int 0, .int 0, .int 1, .ref q10, .ref q11])), (q1, .inl (cI, 10, .inl (in_L [50, 50, 50, 50, 50, 50, 50, 50, 50, 50]))), (q2, .inl (cI, 10, .inl (in_L (List.replicate 10 0)))), (q3, .inl (cI, 10, .inl (in_L [-1, -1, -1, -1, -1, -1, -1, -1, -1, -1]))), (q4, .inl (cI, 6, .inl (in_L [5, 5, 5, 5, 5, 5]))), (q5, .inl (cI, 8, .inl (in_L (List.replicate 8 0)))), (q6, .inl (cI, 8, .inl (in_L (List.replicate 8 0)))), (q7, .inl (cI, 8, .inl (in_L (List.replicate 8 0)))), (q8, .inl (cI, 8, .inl (in_L (List.replicate 8 0)))), (q9, .inl (cI, 8, .inl (in_L (List.replicate 8 0)))), (q10, .inl (cI, 10, .inl (in_L [-1, -1, 0, 0, 0, 0, 0, 0, 0, 0]))), (q11, .inl (cI, 10, .inl (in_L (List.replicate 10 0))))]) H locs := h
  refine lv_iinc (v := 2) (lv' := [(1, .int 2), (0, .ref h0)]) S.1 S.2.1 dX2_init_182 hl (k := 0) rfl rfl (by decide) rfl (fun ls hl => ?_)
  refine lv_goto (tgt := 169) S.1 S.2.1 dX2_init_185 (by decide) ?_
  refine lv_iload_n S.1 S.2.1 dX2_init_169 rfl (lv_at hl 0 rfl) ?_
  refine lv_bipush (v := 10) S.1 S.2.1 dX2_init_170 rfl ?_
  refine lv_icmp_ge (tgt := 188) S.1 S.2.1 dX2_init_172 (by decide) (fun hc => absurd hc (by decide)) (fun hc => ?_)
  refine lv_aload_n S.1 S.2.1 dX2_init_175 rfl (lv_at hl 1 rfl) ?_
  refine in_get (ci := 2) (C := RX2) (T := TX2) (N := 16) S vu_X2 hK h 0 rfl rfl 14 (by decide) vf_RX2_55 rfl rfl dX2_init_176 ?_
  refine lv_iload_n S.1 S.2.1 dX2_init_179 rfl (lv_at hl 0 rfl) ?_
  refine lv_iconst (v := (-1)) S.1 S.2.1 dX2_init_180 rfl ?_
  refine in_iast S hK h 10 rfl (by decide) rfl (Nat.le_of_ble_eq_true rfl) dX2_init_181 (fun H locs h => ?_)
  have h : in_H D A s.heap ([(h0, .inr (2, [.ref q1, .ref q2, .ref q3, .ref q4, .int 5, .int 0, .ref q5, .ref q6, .ref q7, .ref q8, .ref q9, .int 0, .int 0, .int 1, .ref q10, .ref q11])), (q1, .inl (cI, 10, .inl (in_L [50, 50, 50, 50, 50, 50, 50, 50, 50, 50]))), (q2, .inl (cI, 10, .inl (in_L (List.replicate 10 0)))), (q3, .inl (cI, 10, .inl (in_L [-1, -1, -1, -1, -1, -1, -1, -1, -1, -1]))), (q4, .inl (cI, 6, .inl (in_L [5, 5, 5, 5, 5, 5]))), (q5, .inl (cI, 8, .inl (in_L (List.replicate 8 0)))), (q6, .inl (cI, 8, .inl (in_L (List.replicate 8 0)))), (q7, .inl (cI, 8, .inl (in_L (List.replicate 8 0)))), (q8, .inl (cI, 8, .inl (in_L (List.replicate 8 0)))), (q9, .inl (cI, 8, .inl (in_L (List.replicate 8 0)))), (q10, .inl (cI, 10, .inl (in_L [-1, -1, -1, 0, 0, 0, 0, 0, 0, 0]))), (q11, .inl (cI, 10, .inl (in_L (List.replicate 10 0))))]) H locs := h
  refine lv_iinc (v := 3) (lv' := [(1, .int 3), (0, .ref h0)]) S.1 S.2.1 dX2_init_182 hl (k := 0) rfl rfl (by decide) rfl (fun ls hl => ?_)
  refine lv_goto (tgt := 169) S.1 S.2.1 dX2_init_185 (by decide) ?_
  refine lv_iload_n S.1 S.2.1 dX2_init_169 rfl (lv_at hl 0 rfl) ?_
  refine lv_bipush (v := 10) S.1 S.2.1 dX2_init_170 rfl ?_
  refine lv_icmp_ge (tgt := 188) S.1 S.2.1 dX2_init_172 (by decide) (fun hc => absurd hc (by decide)) (fun hc => ?_)
  refine lv_aload_n S.1 S.2.1 dX2_init_175 rfl (lv_at hl 1 rfl) ?_
  refine in_get (ci := 2) (C := RX2) (T := TX2) (N := 16) S vu_X2 hK h 0 rfl rfl 14 (by decide) vf_RX2_55 rfl rfl dX2_init_176 ?_
  refine lv_iload_n S.1 S.2.1 dX2_init_179 rfl (lv_at hl 0 rfl) ?_
  refine lv_iconst (v := (-1)) S.1 S.2.1 dX2_init_180 rfl ?_
  refine in_iast S hK h 10 rfl (by decide) rfl (Nat.le_of_ble_eq_true rfl) dX2_init_181 (fun H locs h => ?_)
  have h : in_H D A s.heap ([(h0, .inr (2, [.ref q1, .ref q2, .ref q3, .ref q4, .int 5, .int 0, .ref q5, .ref q6, .ref q7, .ref q8, .ref q9, .int 0, .int 0, .int 1, .ref q10, .ref q11])), (q1, .inl (cI, 10, .inl (in_L [50, 50, 50, 50, 50, 50, 50, 50, 50, 50]))), (q2, .inl (cI, 10, .inl (in_L (List.replicate 10 0)))), (q3, .inl (cI, 10, .inl (in_L [-1, -1, -1, -1, -1, -1, -1, -1, -1, -1]))), (q4, .inl (cI, 6, .inl (in_L [5, 5, 5, 5, 5, 5]))), (q5, .inl (cI, 8, .inl (in_L (List.replicate 8 0)))), (q6, .inl (cI, 8, .inl (in_L (List.replicate 8 0)))), (q7, .inl (cI, 8, .inl (in_L (List.replicate 8 0)))), (q8, .inl (cI, 8, .inl (in_L (List.replicate 8 0)))), (q9, .inl (cI, 8, .inl (in_L (List.replicate 8 0)))), (q10, .inl (cI, 10, .inl (in_L [-1, -1, -1, -1, 0, 0, 0, 0, 0, 0]))), (q11, .inl (cI, 10, .inl (in_L (List.replicate 10 0))))]) H locs := h
  refine lv_iinc (v := 4) (lv' := [(1, .int 4), (0, .ref h0)]) S.1 S.2.1 dX2_init_182 hl (k := 0) rfl rfl (by decide) rfl (fun ls hl => ?_)
  refine lv_goto (tgt := 169) S.1 S.2.1 dX2_init_185 (by decide) ?_
  refine lv_iload_n S.1 S.2.1 dX2_init_169 rfl (lv_at hl 0 rfl) ?_
  refine lv_bipush (v := 10) S.1 S.2.1 dX2_init_170 rfl ?_
  refine lv_icmp_ge (tgt := 188) S.1 S.2.1 dX2_init_172 (by decide) (fun hc => absurd hc (by decide)) (fun hc => ?_)
  refine lv_aload_n S.1 S.2.1 dX2_init_175 rfl (lv_at hl 1 rfl) ?_
  refine in_get (ci := 2) (C := RX2) (T := TX2) (N := 16) S vu_X2 hK h 0 rfl rfl 14 (by decide) vf_RX2_55 rfl rfl dX2_init_176 ?_
  refine lv_iload_n S.1 S.2.1 dX2_init_179 rfl (lv_at hl 0 rfl) ?_
  refine lv_iconst (v := (-1)) S.1 S.2.1 dX2_init_180 rfl ?_
  refine in_iast S hK h 10 rfl (by decide) rfl (Nat.le_of_ble_eq_true rfl) dX2_init_181 (fun H locs h => ?_)
  have h : in_H D A s.heap ([(h0, .inr (2, [.ref q1, .ref q2, .ref q3, .ref q4, .int 5, .int 0, .ref q5, .ref q6, .ref q7, .ref q8, .ref q9, .int 0, .int 0, .int 1, .ref q10, .ref q11])), (q1, .inl (cI, 10, .inl (in_L [50, 50, 50, 50, 50, 50, 50, 50, 50, 50]))), (q2, .inl (cI, 10, .inl (in_L (List.replicate 10 0)))), (q3, .inl (cI, 10, .inl (in_L [-1, -1, -1, -1, -1, -1, -1, -1, -1, -1]))), (q4, .inl (cI, 6, .inl (in_L [5, 5, 5, 5, 5, 5]))), (q5, .inl (cI, 8, .inl (in_L (List.replicate 8 0)))), (q6, .inl (cI, 8, .inl (in_L (List.replicate 8 0)))), (q7, .inl (cI, 8, .inl (in_L (List.replicate 8 0)))), (q8, .inl (cI, 8, .inl (in_L (List.replicate 8 0)))), (q9, .inl (cI, 8, .inl (in_L (List.replicate 8 0)))), (q10, .inl (cI, 10, .inl (in_L [-1, -1, -1, -1, -1, 0, 0, 0, 0, 0]))), (q11, .inl (cI, 10, .inl (in_L (List.replicate 10 0))))]) H locs := h
  refine lv_iinc (v := 5) (lv' := [(1, .int 5), (0, .ref h0)]) S.1 S.2.1 dX2_init_182 hl (k := 0) rfl rfl (by decide) rfl (fun ls hl => ?_)
  refine lv_goto (tgt := 169) S.1 S.2.1 dX2_init_185 (by decide) ?_
  refine lv_iload_n S.1 S.2.1 dX2_init_169 rfl (lv_at hl 0 rfl) ?_
  refine lv_bipush (v := 10) S.1 S.2.1 dX2_init_170 rfl ?_
  refine lv_icmp_ge (tgt := 188) S.1 S.2.1 dX2_init_172 (by decide) (fun hc => absurd hc (by decide)) (fun hc => ?_)
  refine lv_aload_n S.1 S.2.1 dX2_init_175 rfl (lv_at hl 1 rfl) ?_
  refine in_get (ci := 2) (C := RX2) (T := TX2) (N := 16) S vu_X2 hK h 0 rfl rfl 14 (by decide) vf_RX2_55 rfl rfl dX2_init_176 ?_
  refine lv_iload_n S.1 S.2.1 dX2_init_179 rfl (lv_at hl 0 rfl) ?_
  refine lv_iconst (v := (-1)) S.1 S.2.1 dX2_init_180 rfl ?_
  refine in_iast S hK h 10 rfl (by decide) rfl (Nat.le_of_ble_eq_true rfl) dX2_init_181 (fun H locs h => ?_)
  have h : in_H D A s.heap ([(h0, .inr (2, [.ref q1, .ref q2, .ref q3, .ref q4, .int 5, .int 0, .ref q5, .ref q6, .ref q7, .ref q8, .ref q9, .int 0, .int 0, .int 1, .ref q10, .ref q11])), (q1, .inl (cI, 10, .inl (in_L [50, 50, 50, 50, 50, 50, 50, 50, 50, 50]))), (q2, .inl (cI, 10, .inl (in_L (List.replicate 10 0)))), (q3, .inl (cI, 10, .inl (in_L [-1, -1, -1, -1, -1, -1, -1, -1, -1, -1]))), (q4, .inl (cI, 6, .inl (in_L [5, 5, 5, 5, 5, 5]))), (q5, .inl (cI, 8, .inl (in_L (List.replicate 8 0)))), (q6, .inl (cI, 8, .inl (in_L (List.replicate 8 0)))), (q7, .inl (cI, 8, .inl (in_L (List.replicate 8 0)))), (q8, .inl (cI, 8, .inl (in_L (List.replicate 8 0)))), (q9, .inl (cI, 8, .inl (in_L (List.replicate 8 0)))), (q10, .inl (cI, 10, .inl (in_L [-1, -1, -1, -1, -1, -1, 0, 0, 0, 0]))), (q11, .inl (cI, 10, .inl (in_L (List.replicate 10 0))))]) H locs := h
  refine lv_iinc (v := 6) (lv' := [(1, .int 6), (0, .ref h0)]) S.1 S.2.1 dX2_init_182 hl (k := 0) rfl rfl (by decide) rfl (fun ls hl => ?_)
  refine lv_goto (tgt := 169) S.1 S.2.1 dX2_init_185 (by decide) ?_
  refine lv_iload_n S.1 S.2.1 dX2_init_169 rfl (lv_at hl 0 rfl) ?_
  refine lv_bipush (v := 10) S.1 S.2.1 dX2_init_170 rfl ?_
  refine lv_icmp_ge (tgt := 188) S.1 S.2.1 dX2_init_172 (by decide) (fun hc => absurd hc (by decide)) (fun hc => ?_)
  refine lv_aload_n S.1 S.2.1 dX2_init_175 rfl (lv_at hl 1 rfl) ?_
  refine in_get (ci := 2) (C := RX2) (T := TX2) (N := 16) S vu_X2 hK h 0 rfl rfl 14 (by decide) vf_RX2_55 rfl rfl dX2_init_176 ?_
  refine lv_iload_n S.1 S.2.1 dX2_init_179 rfl (lv_at hl 0 rfl) ?_
  refine lv_iconst (v := (-1)) S.1 S.2.1 dX2_init_180 rfl ?_
  refine in_iast S hK h 10 rfl (by decide) rfl (Nat.le_of_ble_eq_true rfl) dX2_init_181 (fun H locs h => ?_)
  have h : in_H D A s.heap ([(h0, .inr (2, [.ref q1, .ref q2, .ref q3, .ref q4, .int 5, .int 0, .ref q5, .ref q6, .ref q7, .ref q8, .ref q9, .int 0, .int 0, .int 1, .ref q10, .ref q11])), (q1, .inl (cI, 10, .inl (in_L [50, 50, 50, 50, 50, 50, 50, 50, 50, 50]))), (q2, .inl (cI, 10, .inl (in_L (List.replicate 10 0)))), (q3, .inl (cI, 10, .inl (in_L [-1, -1, -1, -1, -1, -1, -1, -1, -1, -1]))), (q4, .inl (cI, 6, .inl (in_L [5, 5, 5, 5, 5, 5]))), (q5, .inl (cI, 8, .inl (in_L (List.replicate 8 0)))), (q6, .inl (cI, 8, .inl (in_L (List.replicate 8 0)))), (q7, .inl (cI, 8, .inl (in_L (List.replicate 8 0)))), (q8, .inl (cI, 8, .inl (in_L (List.replicate 8 0)))), (q9, .inl (cI, 8, .inl (in_L (List.replicate 8 0)))), (q10, .inl (cI, 10, .inl (in_L [-1, -1, -1, -1, -1, -1, -1, 0, 0, 0]))), (q11, .inl (cI, 10, .inl (in_L (List.replicate 10 0))))]) H locs := h
  refine lv_iinc (v := 7) (lv' := [(1, .int 7), (0, .ref h0)]) S.1 S.2.1 dX2_init_182 hl (k := 0) rfl rfl (by decide) rfl (fun ls hl => ?_)
  refine lv_goto (tgt := 169) S.1 S.2.1 dX2_init_185 (by decide) ?_
  refine lv_iload_n S.1 S.2.1 dX2_init_169 rfl (lv_at hl 0 rfl) ?_
  refine lv_bipush (v := 10) S.1 S.2.1 dX2_init_170 rfl ?_
  refine lv_icmp_ge (tgt := 188) S.1 S.2.1 dX2_init_172 (by decide) (fun hc => absurd hc (by decide)) (fun hc => ?_)
  refine lv_aload_n S.1 S.2.1 dX2_init_175 rfl (lv_at hl 1 rfl) ?_
  refine in_get (ci := 2) (C := RX2) (T := TX2) (N := 16) S vu_X2 hK h 0 rfl rfl 14 (by decide) vf_RX2_55 rfl rfl dX2_init_176 ?_
  refine lv_iload_n S.1 S.2.1 dX2_init_179 rfl (lv_at hl 0 rfl) ?_
  refine lv_iconst (v := (-1)) S.1 S.2.1 dX2_init_180 rfl ?_
  refine in_iast S hK h 10 rfl (by decide) rfl (Nat.le_of_ble_eq_true rfl) dX2_init_181 (fun H locs h => ?_)
  have h : in_H D A s.heap ([(h0, .inr (2, [.ref q1, .ref q2, .ref q3, .ref q4, .int 5, .int 0, .ref q5, .ref q6, .ref q7, .ref q8, .ref q9, .int 0, .int 0, .int 1, .ref q10, .ref q11])), (q1, .inl (cI, 10, .inl (in_L [50, 50, 50, 50, 50, 50, 50, 50, 50, 50]))), (q2, .inl (cI, 10, .inl (in_L (List.replicate 10 0)))), (q3, .inl (cI, 10, .inl (in_L [-1, -1, -1, -1, -1, -1, -1, -1, -1, -1]))), (q4, .inl (cI, 6, .inl (in_L [5, 5, 5, 5, 5, 5]))), (q5, .inl (cI, 8, .inl (in_L (List.replicate 8 0)))), (q6, .inl (cI, 8, .inl (in_L (List.replicate 8 0)))), (q7, .inl (cI, 8, .inl (in_L (List.replicate 8 0)))), (q8, .inl (cI, 8, .inl (in_L (List.replicate 8 0)))), (q9, .inl (cI, 8, .inl (in_L (List.replicate 8 0)))), (q10, .inl (cI, 10, .inl (in_L [-1, -1, -1, -1, -1, -1, -1, -1, 0, 0]))), (q11, .inl (cI, 10, .inl (in_L (List.replicate 10 0))))]) H locs := h
  refine lv_iinc (v := 8) (lv' := [(1, .int 8), (0, .ref h0)]) S.1 S.2.1 dX2_init_182 hl (k := 0) rfl rfl (by decide) rfl (fun ls hl => ?_)
  refine lv_goto (tgt := 169) S.1 S.2.1 dX2_init_185 (by decide) ?_
  refine lv_iload_n S.1 S.2.1 dX2_init_169 rfl (lv_at hl 0 rfl) ?_
  refine lv_bipush (v := 10) S.1 S.2.1 dX2_init_170 rfl ?_
  refine lv_icmp_ge (tgt := 188) S.1 S.2.1 dX2_init_172 (by decide) (fun hc => absurd hc (by decide)) (fun hc => ?_)
  refine lv_aload_n S.1 S.2.1 dX2_init_175 rfl (lv_at hl 1 rfl) ?_
  refine in_get (ci := 2) (C := RX2) (T := TX2) (N := 16) S vu_X2 hK h 0 rfl rfl 14 (by decide) vf_RX2_55 rfl rfl dX2_init_176 ?_
  refine lv_iload_n S.1 S.2.1 dX2_init_179 rfl (lv_at hl 0 rfl) ?_
  refine lv_iconst (v := (-1)) S.1 S.2.1 dX2_init_180 rfl ?_
  refine in_iast S hK h 10 rfl (by decide) rfl (Nat.le_of_ble_eq_true rfl) dX2_init_181 (fun H locs h => ?_)
  have h : in_H D A s.heap ([(h0, .inr (2, [.ref q1, .ref q2, .ref q3, .ref q4, .int 5, .int 0, .ref q5, .ref q6, .ref q7, .ref q8, .ref q9, .int 0, .int 0, .int 1, .ref q10, .ref q11])), (q1, .inl (cI, 10, .inl (in_L [50, 50, 50, 50, 50, 50, 50, 50, 50, 50]))), (q2, .inl (cI, 10, .inl (in_L (List.replicate 10 0)))), (q3, .inl (cI, 10, .inl (in_L [-1, -1, -1, -1, -1, -1, -1, -1, -1, -1]))), (q4, .inl (cI, 6, .inl (in_L [5, 5, 5, 5, 5, 5]))), (q5, .inl (cI, 8, .inl (in_L (List.replicate 8 0)))), (q6, .inl (cI, 8, .inl (in_L (List.replicate 8 0)))), (q7, .inl (cI, 8, .inl (in_L (List.replicate 8 0)))), (q8, .inl (cI, 8, .inl (in_L (List.replicate 8 0)))), (q9, .inl (cI, 8, .inl (in_L (List.replicate 8 0)))), (q10, .inl (cI, 10, .inl (in_L [-1, -1, -1, -1, -1, -1, -1, -1, -1, 0]))), (q11, .inl (cI, 10, .inl (in_L (List.replicate 10 0))))]) H locs := h
  refine lv_iinc (v := 9) (lv' := [(1, .int 9), (0, .ref h0)]) S.1 S.2.1 dX2_init_182 hl (k := 0) rfl rfl (by decide) rfl (fun ls hl => ?_)
  refine lv_goto (tgt := 169) S.1 S.2.1 dX2_init_185 (by decide) ?_
  refine lv_iload_n S.1 S.2.1 dX2_init_169 rfl (lv_at hl 0 rfl) ?_
  refine lv_bipush (v := 10) S.1 S.2.1 dX2_init_170 rfl ?_
  refine lv_icmp_ge (tgt := 188) S.1 S.2.1 dX2_init_172 (by decide) (fun hc => absurd hc (by decide)) (fun hc => ?_)
  refine lv_aload_n S.1 S.2.1 dX2_init_175 rfl (lv_at hl 1 rfl) ?_
  refine in_get (ci := 2) (C := RX2) (T := TX2) (N := 16) S vu_X2 hK h 0 rfl rfl 14 (by decide) vf_RX2_55 rfl rfl dX2_init_176 ?_
  refine lv_iload_n S.1 S.2.1 dX2_init_179 rfl (lv_at hl 0 rfl) ?_
  refine lv_iconst (v := (-1)) S.1 S.2.1 dX2_init_180 rfl ?_
  refine in_iast S hK h 10 rfl (by decide) rfl (Nat.le_of_ble_eq_true rfl) dX2_init_181 (fun H locs h => ?_)
  have h : in_H D A s.heap ([(h0, .inr (2, [.ref q1, .ref q2, .ref q3, .ref q4, .int 5, .int 0, .ref q5, .ref q6, .ref q7, .ref q8, .ref q9, .int 0, .int 0, .int 1, .ref q10, .ref q11])), (q1, .inl (cI, 10, .inl (in_L [50, 50, 50, 50, 50, 50, 50, 50, 50, 50]))), (q2, .inl (cI, 10, .inl (in_L (List.replicate 10 0)))), (q3, .inl (cI, 10, .inl (in_L [-1, -1, -1, -1, -1, -1, -1, -1, -1, -1]))), (q4, .inl (cI, 6, .inl (in_L [5, 5, 5, 5, 5, 5]))), (q5, .inl (cI, 8, .inl (in_L (List.replicate 8 0)))), (q6, .inl (cI, 8, .inl (in_L (List.replicate 8 0)))), (q7, .inl (cI, 8, .inl (in_L (List.replicate 8 0)))), (q8, .inl (cI, 8, .inl (in_L (List.replicate 8 0)))), (q9, .inl (cI, 8, .inl (in_L (List.replicate 8 0)))), (q10, .inl (cI, 10, .inl (in_L [-1, -1, -1, -1, -1, -1, -1, -1, -1, -1]))), (q11, .inl (cI, 10, .inl (in_L (List.replicate 10 0))))]) H locs := h
  refine lv_iinc (v := 10) (lv' := [(1, .int 10), (0, .ref h0)]) S.1 S.2.1 dX2_init_182 hl (k := 0) rfl rfl (by decide) rfl (fun ls hl => ?_)
  refine lv_goto (tgt := 169) S.1 S.2.1 dX2_init_185 (by decide) ?_
  refine lv_iload_n S.1 S.2.1 dX2_init_169 rfl (lv_at hl 0 rfl) ?_
  refine lv_bipush (v := 10) S.1 S.2.1 dX2_init_170 rfl ?_
  refine lv_icmp_ge (tgt := 188) S.1 S.2.1 dX2_init_172 (by decide) (fun hc => ?_) (fun hc => absurd (by decide) hc)
  exact in_retv S hr hlk hK (in_a [0, q1, q2, q3, q4, q5, q6, q7, q8, q9, q10, q11]) h (Nat.le_refl _) (Nat.le_refl _) dX2_init_188
