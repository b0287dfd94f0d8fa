def in_w3 (cI cS : ClassId) (h0 : Nat) (a : Nat → Nat) : va_W := [(h0, .inr (3, [.ref (a 1), .ref (a 13), .ref (a 25), .int 0, .ref (a 37), .ref (a 39), .ref (a 48)]))] ++ (in_w2 cI (a 1) (fun k => a (1 + k))) ++ (in_w2 cI (a 13) (fun k => a (13 + k))) ++ (in_w2 cI (a 25) (fun k => a (25 + k))) ++ (in_w1 cI (a 37) (fun k => a (37 + k))) ++ [((a 39), .inl (cS, 4, .inr (.inr (.inr (.inr (va_up (va_up (va_up (va_up (fun _ => none) 0 (some (a 40))) 1 (some (a 42))) 2 (some (a 44))) 3 (some (a 46))))))))] ++ (in_w0 cI (a 40) (fun k => a (40 + k))) ++ (in_w0 cI (a 42) (fun k => a (42 + k))) ++ (in_w0 cI (a 44) (fun k => a (44 + k))) ++ (in_w0 cI (a 46) (fun k => a (46 + k))) ++ [((a 48), .inl (cI, 7, .inl (in_L (List.replicate 7 0))))]
set_option maxHeartbeats 8000000 in
set_option maxRecDepth 100000 in
theorem c_X3_init (l : Launch) (D : va_G) (cI cC cS : ClassId) (h0 : Nat) : in_M l yX3_init cX3_init 2 2 41 48 646 D cI cC cS [.ref h0] [(h0, .inr (3, [.null, .null, .null, .int 0, .null, .null, .null]))] (in_w3 cI cS h0) := by
  refine in_M.of rfl (Nat.le_of_ble_eq_true rfl) (fun p e s m below meth c ls A S hr hlk hin hK hN h hl => ?_)
  generalize hlocs : ([] : List Loc) = locs at h ⊢
  have hl : lv_has ls 2 [(0, .ref h0)] := hl
  refine lv_aload_n S.1 S.2.1 dX3_init_0 rfl (lv_at hl 0 rfl) ?_
  refine in_objInit S vm_RX3_1 hl.1 dX3_init_1 (by decide) (Nat.le_of_ble_eq_true rfl) (Nat.le_of_ble_eq_true rfl) ?_
  refine lv_aload_n S.1 S.2.1 dX3_init_4 rfl (lv_at hl 0 rfl) ?_
  refine in_new (ci := 2) (fs := [.null, .null, .null, .null, .int 0, .int 0, .null, .null, .null, .null, .null, .int 0, .int 0, .int 0, .null, .null]) S vu_X2 tyX2 tyX2_ok vx_c3_7 vx_i2 vi_RX2 hK h rfl in_d2 (Nat.le_of_ble_eq_true rfl) (Nat.le_of_ble_eq_true rfl) dX3_init_5 (fun q1 H h => ?_)
  refine W.widen (k := 1) (n := 16) (Nat.le_of_ble_eq_true rfl) (Nat.le_of_ble_eq_true rfl) ?_
  refine lv_dup S.1 S.2.1 dX3_init_8 rfl ?_
  refine in_callI (ws := [(h0, .inr (3, [.null, .null, .null, .int 0, .null, .null, .null]))]) (q := q1) S hK hN h (c_X2_init l D cI cC cS q1) vk_X2_init vm_RX3_9 vh_X2_init vi_RX2 rfl vd_X2_init.2 ⟨by decide, by decide⟩ hl.1 rfl (Nat.le_of_ble_eq_true rfl) ⟨Nat.le_of_ble_eq_true rfl, Nat.le_of_ble_eq_true rfl⟩ dX3_init_9 (fun b2 H locs h => ?_)
  refine W.widen (k := 12) (n := 112) (Nat.le_of_ble_eq_true rfl) (Nat.le_of_ble_eq_true rfl) ?_
  refine in_putF (ci := 3) (C := RX3) (T := TX3) (N := 7) S vu_X3 tyX3 tyX3_ok nmX3 hK h 0 rfl rfl 0 (by decide) vf_RX3_10 rfl rfl hin rfl (tyX3_ok 0 (by decide)) rfl rfl (Nat.le_of_ble_eq_true rfl) dX3_init_12 (fun H locs h => ?_)
  have h : in_H D A s.heap ([(h0, .inr (3, [.ref q1, .null, .null, .int 0, .null, .null, .null]))] ++ (in_w2 cI q1 b2)) H locs := h
  refine lv_aload_n S.1 S.2.1 dX3_init_15 rfl (lv_at hl 0 rfl) ?_
  refine in_new (ci := 2) (fs := [.null, .null, .null, .null, .int 0, .int 0, .null, .null, .null, .null, .null, .int 0, .int 0, .int 0, .null, .null]) S vu_X2 tyX2 tyX2_ok vx_c3_7 vx_i2 vi_RX2 hK h rfl in_d2 (Nat.le_of_ble_eq_true rfl) (Nat.le_of_ble_eq_true rfl) dX3_init_16 (fun q3 H h => ?_)
  refine W.widen (k := 13) (n := 128) (Nat.le_of_ble_eq_true rfl) (Nat.le_of_ble_eq_true rfl) ?_
  refine lv_dup S.1 S.2.1 dX3_init_19 rfl ?_
  refine in_callI (ws := [(h0, .inr (3, [.ref q1, .null, .null, .int 0, .null, .null, .null]))] ++ (in_w2 cI q1 b2)) (q := q3) S hK hN h (c_X2_init l D cI cC cS q3) vk_X2_init vm_RX3_9 vh_X2_init vi_RX2 rfl vd_X2_init.2 ⟨by decide, by decide⟩ hl.1 rfl (Nat.le_of_ble_eq_true rfl) ⟨Nat.le_of_ble_eq_true rfl, Nat.le_of_ble_eq_true rfl⟩ dX3_init_20 (fun b4 H locs h => ?_)
  refine W.widen (k := 24) (n := 224) (Nat.le_of_ble_eq_true rfl) (Nat.le_of_ble_eq_true rfl) ?_
  refine in_putF (ci := 3) (C := RX3) (T := TX3) (N := 7) S vu_X3 tyX3 tyX3_ok nmX3 hK h 0 rfl rfl 1 (by decide) vf_RX3_16 rfl rfl hin rfl (tyX3_ok 1 (by decide)) rfl rfl (Nat.le_of_ble_eq_true rfl) dX3_init_23 (fun H locs h => ?_)
  have h : in_H D A s.heap ([(h0, .inr (3, [.ref q1, .ref q3, .null, .int 0, .null, .null, .null]))] ++ (in_w2 cI q1 b2) ++ (in_w2 cI q3 b4)) H locs := h
  refine lv_aload_n S.1 S.2.1 dX3_init_26 rfl (lv_at hl 0 rfl) ?_
  refine in_new (ci := 2) (fs := [.null, .null, .null, .null, .int 0, .int 0, .null, .null, .null, .null, .null, .int 0, .int 0, .int 0, .null, .null]) S vu_X2 tyX2 tyX2_ok vx_c3_7 vx_i2 vi_RX2 hK h rfl in_d2 (Nat.le_of_ble_eq_true rfl) (Nat.le_of_ble_eq_true rfl) dX3_init_27 (fun q5 H h => ?_)
  refine W.widen (k := 25) (n := 240) (Nat.le_of_ble_eq_true rfl) (Nat.le_of_ble_eq_true rfl) ?_
  refine lv_dup S.1 S.2.1 dX3_init_30 rfl ?_
  refine in_callI (ws := [(h0, .inr (3, [.ref q1, .ref q3, .null, .int 0, .null, .null, .null]))] ++ (in_w2 cI q1 b2) ++ (in_w2 cI q3 b4)) (q := q5) S hK hN h (c_X2_init l D cI cC cS q5) vk_X2_init vm_RX3_9 vh_X2_init vi_RX2 rfl vd_X2_init.2 ⟨by decide, by decide⟩ hl.1 rfl (Nat.le_of_ble_eq_true rfl) ⟨Nat.le_of_ble_eq_true rfl, Nat.le_of_ble_eq_true rfl⟩ dX3_init_31 (fun b6 H locs h => ?_)
  refine W.widen (k := 36) (n := 336) (Nat.le_of_ble_eq_true rfl) (Nat.le_of_ble_eq_true rfl) ?_
  refine in_putF (ci := 3) (C := RX3) (T := TX3) (N := 7) S vu_X3 tyX3 tyX3_ok nmX3 hK h 0 rfl rfl 2 (by decide) vf_RX3_19 rfl rfl hin rfl (tyX3_ok 2 (by decide)) rfl rfl (Nat.le_of_ble_eq_true rfl) dX3_init_34 (fun H locs h => ?_)
  have h : in_H D A s.heap ([(h0, .inr (3, [.ref q1, .ref q3, .ref q5, .int 0, .null, .null, .null]))] ++ (in_w2 cI q1 b2) ++ (in_w2 cI q3 b4) ++ (in_w2 cI q5 b6)) H locs := h
  refine lv_aload_n S.1 S.2.1 dX3_init_37 rfl (lv_at hl 0 rfl) ?_
  refine lv_iconst (v := 0) S.1 S.2.1 dX3_init_38 rfl ?_
  refine in_put (ci := 3) (C := RX3) (T := TX3) (N := 7) S vu_X3 tyX3 tyX3_ok nmX3 hK h 0 rfl rfl 3 (by decide) vf_RX3_22 rfl rfl (tyX3_ok 3 (by decide)) rfl rfl (Nat.le_of_ble_eq_true rfl) dX3_init_39 (fun H locs h => ?_)
  have h : in_H D A s.heap ([(h0, .inr (3, [.ref q1, .ref q3, .ref q5, .int 0, .null, .null, .null]))] ++ (in_w2 cI q1 b2) ++ (in_w2 cI q3 b4) ++ (in_w2 cI q5 b6)) H locs := h
  refine lv_aload_n S.1 S.2.1 dX3_init_42 rfl (lv_at hl 0 rfl) ?_
  refine in_new (ci := 1) (fs := [.null, .int 0, .int 0, .int 0, .int 0, .int 0, .int 0]) S vu_X1 tyX1 tyX1_ok vx_c3_26 vx_i1 vi_RX1 hK h rfl in_d1 (Nat.le_of_ble_eq_true rfl) (Nat.le_of_ble_eq_true rfl) dX3_init_43 (fun q7 H h => ?_)
  refine W.widen (k := 37) (n := 343) (Nat.le_of_ble_eq_true rfl) (Nat.le_of_ble_eq_true rfl) ?_
  refine lv_dup S.1 S.2.1 dX3_init_46 rfl ?_
  refine in_callIN (ws := [(h0, .inr (3, [.ref q1, .ref q3, .ref q5, .int 0, .null, .null, .null]))] ++ (in_w2 cI q1 b2) ++ (in_w2 cI q3 b4) ++ (in_w2 cI q5 b6)) (q := q7) S hK hN h (c_X1_init l D cI cC cS q7) vk_X1_init hN.1 vh_X1_init vi_RX1 rfl vd_X1_init.2 ⟨by decide, by decide⟩ hl.1 rfl (Nat.le_of_ble_eq_true rfl) ⟨Nat.le_of_ble_eq_true rfl, Nat.le_of_ble_eq_true rfl⟩ dX3_init_47 (fun b8 H locs h => ?_)
  refine W.widen (k := 38) (n := 463) (Nat.le_of_ble_eq_true rfl) (Nat.le_of_ble_eq_true rfl) ?_
  refine in_putF (ci := 3) (C := RX3) (T := TX3) (N := 7) S vu_X3 tyX3 tyX3_ok nmX3 hK h 0 rfl rfl 4 (by decide) vf_RX3_29 rfl rfl hin rfl (tyX3_ok 4 (by decide)) rfl rfl (Nat.le_of_ble_eq_true rfl) dX3_init_50 (fun H locs h => ?_)
  have h : in_H D A s.heap ([(h0, .inr (3, [.ref q1, .ref q3, .ref q5, .int 0, .ref q7, .null, .null]))] ++ (in_w2 cI q1 b2) ++ (in_w2 cI q3 b4) ++ (in_w2 cI q5 b6) ++ (in_w1 cI q7 b8)) H locs := h
  refine lv_aload_n S.1 S.2.1 dX3_init_53 rfl (lv_at hl 0 rfl) ?_
  refine lv_iconst (v := 4) S.1 S.2.1 dX3_init_54 rfl ?_
  refine in_newS S hK hN h vx_c3_33 4 (by decide) rfl (Nat.le_of_ble_eq_true rfl) (Nat.le_of_ble_eq_true rfl) (Nat.le_of_ble_eq_true rfl) dX3_init_55 (fun q9 H h => ?_)
  have h : in_H D A s.heap ([(h0, .inr (3, [.ref q1, .ref q3, .ref q5, .int 0, .ref q7, .null, .null]))] ++ (in_w2 cI q1 b2) ++ (in_w2 cI q3 b4) ++ (in_w2 cI q5 b6) ++ (in_w1 cI q7 b8) ++ [(q9, .inl (cS, 4, .inr (.inr (.inr (.inr (fun _ => none))))))]) H locs := h
  refine W.widen (k := 39) (n := 467) (Nat.le_of_ble_eq_true rfl) (Nat.le_of_ble_eq_true rfl) ?_
  refine in_putF (ci := 3) (C := RX3) (T := TX3) (N := 7) S vu_X3 tyX3 tyX3_ok nmX3 hK h 0 rfl rfl 5 (by decide) vf_RX3_35 rfl rfl hin rfl (tyX3_ok 5 (by decide)) rfl rfl (Nat.le_of_ble_eq_true rfl) dX3_init_58 (fun H locs h => ?_)
  have h : in_H D A s.heap ([(h0, .inr (3, [.ref q1, .ref q3, .ref q5, .int 0, .ref q7, .ref q9, .null]))] ++ (in_w2 cI q1 b2) ++ (in_w2 cI q3 b4) ++ (in_w2 cI q5 b6) ++ (in_w1 cI q7 b8) ++ [(q9, .inl (cS, 4, .inr (.inr (.inr (.inr (fun _ => none))))))]) H locs := h
  refine lv_iconst (v := 0) S.1 S.2.1 dX3_init_61 rfl ?_
  refine lv_istore_n (lv' := [(1, .int 0), (0, .ref h0)]) S.1 S.2.1 dX3_init_62 rfl hl (by decide) rfl (fun ls hl => ?_)
  refine lv_iload_n S.1 S.2.1 dX3_init_63 rfl (lv_at hl 0 rfl) ?_
  refine lv_iconst (v := 4) S.1 S.2.1 dX3_init_64 rfl ?_
  refine lv_icmp_ge (tgt := 87) S.1 S.2.1 dX3_init_65 (by decide) (fun hc => absurd hc (by decide)) (fun hc => ?_)
  refine lv_aload_n S.1 S.2.1 dX3_init_68 rfl (lv_at hl 1 rfl) ?_
  refine in_get (ci := 3) (C := RX3) (T := TX3) (N := 7) S vu_X3 hK h 0 rfl rfl 5 (by decide) vf_RX3_35 rfl rfl dX3_init_69 ?_
  refine lv_iload_n S.1 S.2.1 dX3_init_72 rfl (lv_at hl 0 rfl) ?_
  refine in_new (ci := 0) (fs := [.int 0, .int 0, .null]) S vu_X0 tyX0 tyX0_ok vx_c3_33 vx_i0 vi_RX0 hK h rfl in_d0 (Nat.le_of_ble_eq_true rfl) (Nat.le_of_ble_eq_true rfl) dX3_init_73 (fun q10 H h => ?_)
  refine W.widen (k := 40) (n := 470) (Nat.le_of_ble_eq_true rfl) (Nat.le_of_ble_eq_true rfl) ?_
  refine lv_dup S.1 S.2.1 dX3_init_76 rfl ?_
  refine in_callIN (ws := [(h0, .inr (3, [.ref q1, .ref q3, .ref q5, .int 0, .ref q7, .ref q9, .null]))] ++ (in_w2 cI q1 b2) ++ (in_w2 cI q3 b4) ++ (in_w2 cI q5 b6) ++ (in_w1 cI q7 b8) ++ [(q9, .inl (cS, 4, .inr (.inr (.inr (.inr (fun _ => none))))))]) (q := q10) S hK hN h (c_X0_init l D cI cC cS q10) vk_X0_init hN.2.1 vh_X0_init vi_RX0 rfl vd_X0_init.2 ⟨by decide, by decide⟩ hl.1 rfl (Nat.le_of_ble_eq_true rfl) ⟨Nat.le_of_ble_eq_true rfl, Nat.le_of_ble_eq_true rfl⟩ dX3_init_77 (fun b11 H locs h => ?_)
  refine W.widen (k := 41) (n := 510) (Nat.le_of_ble_eq_true rfl) (Nat.le_of_ble_eq_true rfl) ?_
  refine in_astq S hK h 39 40 rfl rfl (by decide) rfl dX3_init_80 (fun H locs h => ?_)
  have h : in_H D A s.heap ([(h0, .inr (3, [.ref q1, .ref q3, .ref q5, .int 0, .ref q7, .ref q9, .null]))] ++ (in_w2 cI q1 b2) ++ (in_w2 cI q3 b4) ++ (in_w2 cI q5 b6) ++ (in_w1 cI q7 b8) ++ [(q9, .inl (cS, 4, .inr (.inr (.inr (.inr (va_up (fun _ => none) 0 (some q10)))))))] ++ (in_w0 cI q10 b11)) H locs := h
  refine lv_iinc (v := 1) (lv' := [(1, .int 1), (0, .ref h0)]) S.1 S.2.1 dX3_init_81 hl (k := 0) rfl rfl (by decide) rfl (fun ls hl => ?_)
  refine lv_goto (tgt := 63) S.1 S.2.1 dX3_init_84 (by decide) ?_
  refine lv_iload_n S.1 S.2.1 dX3_init_63 rfl (lv_at hl 0 rfl) ?_
  refine lv_iconst (v := 4) S.1 S.2.1 dX3_init_64 rfl ?_
  refine lv_icmp_ge (tgt := 87) S.1 S.2.1 dX3_init_65 (by decide) (fun hc => absurd hc (by decide)) (fun hc => ?_)
  refine lv_aload_n S.1 S.2.1 dX3_init_68 rfl (lv_at hl 1 rfl) ?_
  refine in_get (ci := 3) (C := RX3) (T := TX3) (N := 7) S vu_X3 hK h 0 rfl rfl 5 (by decide) vf_RX3_35 rfl rfl dX3_init_69 ?_
  refine lv_iload_n S.1 S.2.1 dX3_init_72 rfl (lv_at hl 0 rfl) ?_
  refine in_new (ci := 0) (fs := [.int 0, .int 0, .null]) S vu_X0 tyX0 tyX0_ok vx_c3_33 vx_i0 vi_RX0 hK h rfl in_d0 (Nat.le_of_ble_eq_true rfl) (Nat.le_of_ble_eq_true rfl) dX3_init_73 (fun q12 H h => ?_)
  refine W.widen (k := 42) (n := 513) (Nat.le_of_ble_eq_true rfl) (Nat.le_of_ble_eq_true rfl) ?_
  refine lv_dup S.1 S.2.1 dX3_init_76 rfl ?_
  refine in_callIN (ws := [(h0, .inr (3, [.ref q1, .ref q3, .ref q5, .int 0, .ref q7, .ref q9, .null]))] ++ (in_w2 cI q1 b2) ++ (in_w2 cI q3 b4) ++ (in_w2 cI q5 b6) ++ (in_w1 cI q7 b8) ++ [(q9, .inl (cS, 4, .inr (.inr (.inr (.inr (va_up (fun _ => none) 0 (some q10)))))))] ++ (in_w0 cI q10 b11)) (q := q12) S hK hN h (c_X0_init l D cI cC cS q12) vk_X0_init hN.2.1 vh_X0_init vi_RX0 rfl vd_X0_init.2 ⟨by decide, by decide⟩ hl.1 rfl (Nat.le_of_ble_eq_true rfl) ⟨Nat.le_of_ble_eq_true rfl, Nat.le_of_ble_eq_true rfl⟩ dX3_init_77 (fun b13 H locs h => ?_)
  refine W.widen (k := 43) (n := 553) (Nat.le_of_ble_eq_true rfl) (Nat.le_of_ble_eq_true rfl) ?_
  refine in_astq S hK h 39 42 rfl rfl (by decide) rfl dX3_init_80 (fun H locs h => ?_)
  have h : in_H D A s.heap ([(h0, .inr (3, [.ref q1, .ref q3, .ref q5, .int 0, .ref q7, .ref q9, .null]))] ++ (in_w2 cI q1 b2) ++ (in_w2 cI q3 b4) ++ (in_w2 cI q5 b6) ++ (in_w1 cI q7 b8) ++ [(q9, .inl (cS, 4, .inr (.inr (.inr (.inr (va_up (va_up (fun _ => none) 0 (some q10)) 1 (some q12)))))))] ++ (in_w0 cI q10 b11) ++ (in_w0 cI q12 b13)) H locs := h
  refine lv_iinc (v := 2) (lv' := [(1, .int 2), (0, .ref h0)]) S.1 S.2.1 dX3_init_81 hl (k := 0) rfl rfl (by decide) rfl (fun ls hl => ?_)
  refine lv_goto (tgt := 63) S.1 S.2.1 dX3_init_84 (by decide) ?_
  refine lv_iload_n S.1 S.2.1 dX3_init_63 rfl (lv_at hl 0 rfl) ?_
  refine lv_iconst (v := 4) S.1 S.2.1 dX3_init_64 rfl ?_
  refine lv_icmp_ge (tgt := 87) S.1 S.2.1 dX3_init_65 (by decide) (fun hc => absurd hc (by decide)) (fun hc => ?_)
  refine lv_aload_n S.1 S.2.1 dX3_init_68 rfl (lv_at hl 1 rfl) ?_
  refine in_get (ci := 3) (C := RX3) (T := TX3) (N := 7) S vu_X3 hK h 0 rfl rfl 5 (by decide) vf_RX3_35 rfl rfl dX3_init_69 ?_
  refine lv_iload_n S.1 S.2.1 dX3_init_72 rfl (lv_at hl 0 rfl) ?_
  refine in_new (ci := 0) (fs := [.int 0, .int 0, .null]) S vu_X0 tyX0 tyX0_ok vx_c3_33 vx_i0 vi_RX0 hK h rfl in_d0 (Nat.le_of_ble_eq_true rfl) (Nat.le_of_ble_eq_true rfl) dX3_init_73 (fun q14 H h => ?_)
  refine W.widen (k := 44) (n := 556) (Nat.le_of_ble_eq_true rfl) (Nat.le_of_ble_eq_true rfl) ?_
  refine lv_dup S.1 S.2.1 dX3_init_76 rfl ?_
  refine in_callIN (ws := [(h0, .inr (3, [.ref q1, .ref q3, .ref q5, .int 0, .ref q7, .ref q9, .null]))] ++ (in_w2 cI q1 b2) ++ (in_w2 cI q3 b4) ++ (in_w2 cI q5 b6) ++ (in_w1 cI q7 b8) ++ [(q9, .inl (cS, 4, .inr (.inr (.inr (.inr (va_up (va_up (fun _ => none) 0 (some q10)) 1 (some q12)))))))] ++ (in_w0 cI q10 b11) ++ (in_w0 cI q12 b13)) (q := q14) S hK hN h (c_X0_init l D cI cC cS q14) vk_X0_init hN.2.1 vh_X0_init vi_RX0 rfl vd_X0_init.2 ⟨by decide, by decide⟩ hl.1 rfl (Nat.le_of_ble_eq_true rfl) ⟨Nat.le_of_ble_eq_true rfl, Nat.le_of_ble_eq_true rfl⟩ dX3_init_77 (fun b15 H locs h => ?_)
  refine W.widen (k := 45) (n := 596) (Nat.le_of_ble_eq_true rfl) (Nat.le_of_ble_eq_true rfl) ?_
  refine in_astq S hK h 39 44 rfl rfl (by decide) rfl dX3_init_80 (fun H locs h => ?_)
  have h : in_H D A s.heap ([(h0, .inr (3, [.ref q1, .ref q3, .ref q5, .int 0, .ref q7, .ref q9, .null]))] ++ (in_w2 cI q1 b2) ++ (in_w2 cI q3 b4) ++ (in_w2 cI q5 b6) ++ (in_w1 cI q7 b8) ++ [(q9, .inl (cS, 4, .inr (.inr (.inr (.inr (va_up (va_up (va_up (fun _ => none) 0 (some q10)) 1 (some q12)) 2 (some q14)))))))] ++ (in_w0 cI q10 b11) ++ (in_w0 cI q12 b13) ++ (in_w0 cI q14 b15)) H locs := h
  refine lv_iinc (v := 3) (lv' := [(1, .int 3), (0, .ref h0)]) S.1 S.2.1 dX3_init_81 hl (k := 0) rfl rfl (by decide) rfl (fun ls hl => ?_)
  refine lv_goto (tgt := 63) S.1 S.2.1 dX3_init_84 (by decide) ?_
  refine lv_iload_n S.1 S.2.1 dX3_init_63 rfl (lv_at hl 0 rfl) ?_
  refine lv_iconst (v := 4) S.1 S.2.1 dX3_init_64 rfl ?_
  refine lv_icmp_ge (tgt := 87) S.1 S.2.1 dX3_init_65 (by decide) (fun hc => absurd hc (by decide)) (fun hc => ?_)
  refine lv_aload_n S.1 S.2.1 dX3_init_68 rfl (lv_at hl 1 rfl) ?_
  refine in_get (ci := 3) (C := RX3) (T := TX3) (N := 7) S vu_X3 hK h 0 rfl rfl 5 (by decide) vf_RX3_35 rfl rfl dX3_init_69 ?_
  refine lv_iload_n S.1 S.2.1 dX3_init_72 rfl (lv_at hl 0 rfl) ?_
  refine in_new (ci := 0) (fs := [.int 0, .int 0, .null]) S vu_X0 tyX0 tyX0_ok vx_c3_33 vx_i0 vi_RX0 hK h rfl in_d0 (Nat.le_of_ble_eq_true rfl) (Nat.le_of_ble_eq_true rfl) dX3_init_73 (fun q16 H h => ?_)
  refine W.widen (k := 46) (n := 599) (Nat.le_of_ble_eq_true rfl) (Nat.le_of_ble_eq_true rfl) ?_
  refine lv_dup S.1 S.2.1 dX3_init_76 rfl ?_
  refine in_callIN (ws := [(h0, .inr (3, [.ref q1, .ref q3, .ref q5, .int 0, .ref q7, .ref q9, .null]))] ++ (in_w2 cI q1 b2) ++ (in_w2 cI q3 b4) ++ (in_w2 cI q5 b6) ++ (in_w1 cI q7 b8) ++ [(q9, .inl (cS, 4, .inr (.inr (.inr (.inr (va_up (va_up (va_up (fun _ => none) 0 (some q10)) 1 (some q12)) 2 (some q14)))))))] ++ (in_w0 cI q10 b11) ++ (in_w0 cI q12 b13) ++ (in_w0 cI q14 b15)) (q := q16) S hK hN h (c_X0_init l D cI cC cS q16) vk_X0_init hN.2.1 vh_X0_init vi_RX0 rfl vd_X0_init.2 ⟨by decide, by decide⟩ hl.1 rfl (Nat.le_of_ble_eq_true rfl) ⟨Nat.le_of_ble_eq_true rfl, Nat.le_of_ble_eq_true rfl⟩ dX3_init_77 (fun b17 H locs h => ?_)
  refine W.widen (k := 47) (n := 639) (Nat.le_of_ble_eq_true rfl) (Nat.le_of_ble_eq_true rfl) ?_
  refine in_astq S hK h 39 46 rfl rfl (by decide) rfl dX3_init_80 (fun H locs h => ?_)
  have h : in_H D A s.heap ([(h0, .inr (3, [.ref q1, .ref q3, .ref q5, .int 0, .ref q7, .ref q9, .null]))] ++ (in_w2 cI q1 b2) ++ (in_w2 cI q3 b4) ++ (in_w2 cI q5 b6) ++ (in_w1 cI q7 b8) ++ [(q9, .inl (cS, 4, .inr (.inr (.inr (.inr (va_up (va_up (va_up (va_up (fun _ => none) 0 (some q10)) 1 (some q12)) 2 (some q14)) 3 (some q16)))))))] ++ (in_w0 cI q10 b11) ++ (in_w0 cI q12 b13) ++ (in_w0 cI q14 b15) ++ (in_w0 cI q16 b17)) H locs := h
  refine lv_iinc (v := 4) (lv' := [(1, .int 4), (0, .ref h0)]) S.1 S.2.1 dX3_init_81 hl (k := 0) rfl rfl (by decide) rfl (fun ls hl => ?_)
  refine lv_goto (tgt := 63) S.1 S.2.1 dX3_init_84 (by decide) ?_
  refine lv_iload_n S.1 S.2.1 dX3_init_63 rfl (lv_at hl 0 rfl) ?_
  refine lv_iconst (v := 4) S.1 S.2.1 dX3_init_64 rfl ?_
  refine lv_icmp_ge (tgt := 87) S.1 S.2.1 dX3_init_65 (by decide) (fun hc => ?_) (fun hc => absurd (by decide) hc)
  refine lv_aload_n S.1 S.2.1 dX3_init_87 rfl (lv_at hl 1 rfl) ?_
  refine lv_bipush (v := 7) S.1 S.2.1 dX3_init_88 rfl ?_
  refine in_newI S hK h 7 (by decide) rfl (Nat.le_of_ble_eq_true rfl) (Nat.le_of_ble_eq_true rfl) (Nat.le_of_ble_eq_true rfl) dX3_init_90 (fun q18 H h => ?_)
  have h : in_H D A s.heap ([(h0, .inr (3, [.ref q1, .ref q3, .ref q5, .int 0, .ref q7, .ref q9, .null]))] ++ (in_w2 cI q1 b2) ++ (in_w2 cI q3 b4) ++ (in_w2 cI q5 b6) ++ (in_w1 cI q7 b8) ++ [(q9, .inl (cS, 4, .inr (.inr (.inr (.inr (va_up (va_up (va_up (va_up (fun _ => none) 0 (some q10)) 1 (some q12)) 2 (some q14)) 3 (some q16)))))))] ++ (in_w0 cI q10 b11) ++ (in_w0 cI q12 b13) ++ (in_w0 cI q14 b15) ++ (in_w0 cI q16 b17) ++ [(q18, .inl (cI, 7, .inl (in_L (List.replicate 7 0))))]) H locs := h
  refine W.widen (k := 48) (n := 646) (Nat.le_of_ble_eq_true rfl) (Nat.le_of_ble_eq_true rfl) ?_
  refine in_putF (ci := 3) (C := RX3) (T := TX3) (N := 7) S vu_X3 tyX3 tyX3_ok nmX3 hK h 0 rfl rfl 6 (by decide) vf_RX3_40 rfl rfl hin rfl (tyX3_ok 6 (by decide)) rfl rfl (Nat.le_of_ble_eq_true rfl) dX3_init_92 (fun H locs h => ?_)
  have h : in_H D A s.heap ([(h0, .inr (3, [.ref q1, .ref q3, .ref q5, .int 0, .ref q7, .ref q9, .ref q18]))] ++ (in_w2 cI q1 b2) ++ (in_w2 cI q3 b4) ++ (in_w2 cI q5 b6) ++ (in_w1 cI q7 b8) ++ [(q9, .inl (cS, 4, .inr (.inr (.inr (.inr (va_up (va_up (va_up (va_up (fun _ => none) 0 (some q10)) 1 (some q12)) 2 (some q14)) 3 (some q16)))))))] ++ (in_w0 cI q10 b11) ++ (in_w0 cI q12 b13) ++ (in_w0 cI q14 b15) ++ (in_w0 cI q16 b17) ++ [(q18, .inl (cI, 7, .inl (in_L (List.replicate 7 0))))]) H locs := h
  exact in_retv S hr hlk hK (in_a [0, q1, b2 1, b2 2, b2 3, b2 4, b2 5, b2 6, b2 7, b2 8, b2 9, b2 10, b2 11, q3, b4 1, b4 2, b4 3, b4 4, b4 5, b4 6, b4 7, b4 8, b4 9, b4 10, b4 11, q5, b6 1, b6 2, b6 3, b6 4, b6 5, b6 6, b6 7, b6 8, b6 9, b6 10, b6 11, q7, b8 1, q9, q10, b11 1, q12, b13 1, q14, b15 1, q16, b17 1, q18]) h (Nat.le_refl _) (Nat.le_refl _) dX3_init_95
