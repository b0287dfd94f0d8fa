set_option maxHeartbeats 4000000 in
set_option maxRecDepth 100000 in
theorem c_X4_lays1 (l : Launch) (D : va_G) (g : fg_G) (a1 : Int32) (a2 : Int32) (a3 : Int32) (w : fg_W) (w' : fg_W) (hf : f_X4_lays1 a1 a2 a3 w = some w') : fg_M l yX4_lays1 cX4_lays1 4 none 0 0 D g [.ref (g.1 4 0 0), .int a1, .int a2, .int a3] w (fg_Qv D g w') := by
  refine fg_M.of rfl (Nat.le_of_ble_eq_true rfl) (fun p e s m below meth c ls S hr hlk hK h hl => ?_)
  have hx := S.1
  have hb := S.2.1
  have hl : lv_has ls 4 [(0, .ref (g.1 4 0 0)), (1, .int a1), (2, .int a2), (3, .int a3)] := hl
  unfold f_X4_lays1 at hf
  refine lv_aload_n hx hb dX4_lays1_0 rfl (lv_at hl 0 rfl) ?_
  refine fg_get (C := RX4) (T := TX4) (N := 22) S vu_X4 hK h fg_p4_0 rfl rfl 0 (by decide) vf_RX4_9 rfl rfl dX4_lays1_1 ?_
  refine lv_bipush (v := 10) hx hb dX4_lays1_4 rfl ?_
  refine lv_iconst (v := 3) hx hb dX4_lays1_6 rfl ?_
  refine lv_iload_n hx hb dX4_lays1_7 rfl (lv_at hl 1 rfl) ?_
  refine lv_imul hx hb dX4_lays1_8 ?_
  refine lv_iadd hx hb dX4_lays1_9 ?_
  refine lv_iload_n hx hb dX4_lays1_10 rfl (lv_at hl 2 rfl) ?_
  refine lv_iadd hx hb dX4_lays1_11 ?_
  refine lv_iload_n hx hb dX4_lays1_12 rfl (lv_at hl 3 rfl) ?_
  obtain ⟨hn2, hf⟩ := fg_gdE hf
  refine fg_iast hx hb hK h fg_p4_1 (fun _ => rfl) hn2 dX4_lays1_13 (fun w1 H locs ew h => ?_)
  have hf := fg_letE ew hf
  exact fg_retv hx hb hr hlk hK h hf dX4_lays1_14
set_option maxHeartbeats 4000000 in
set_option maxRecDepth 100000 in
theorem c_X4_in1 (l : Launch) (D : va_G) (g : fg_G) (a1 : Int32) (a2 : Int32) (a3 : Int32) (w : fg_W) (r : Int32) (w' : fg_W) (hf : f_X4_in1 a1 a2 a3 w = some (r, w')) : fg_M l yX4_in1 cX4_in1 3 (some .boolean) 0 0 D g [.int a1, .int a2, .int a3] w (fg_Qi D g r w') := by
  refine fg_M.of rfl (Nat.le_of_ble_eq_true rfl) (fun p e s m below meth c ls S hr hlk hK h hl => ?_)
  have hx := S.1
  have hb := S.2.1
  have hl : lv_has ls 3 [(0, .int a1), (1, .int a2), (2, .int a3)] := hl
  unfold f_X4_in1 at hf
  refine lv_iload_n hx hb dX4_in1_0 rfl (lv_at hl 0 rfl) ?_
  refine lv_iload_n hx hb dX4_in1_1 rfl (lv_at hl 1 rfl) ?_
  refine lv_icmp_lt (tgt := 14) hx hb dX4_in1_2 (by decide) (fun hc => ?_) (fun hc => ?_)
  · have hf := fg_ifT hf hc
    refine lv_iconst (v := 0) hx hb dX4_in1_14 rfl ?_
    exact fg_retz hx hb hr hlk hK h hf (by decide) dX4_in1_15
  · have hf := fg_ifF hf hc
    refine lv_iload_n hx hb dX4_in1_5 rfl (lv_at hl 0 rfl) ?_
    refine lv_iload_n hx hb dX4_in1_6 rfl (lv_at hl 2 rfl) ?_
    refine lv_icmp_gt (tgt := 14) hx hb dX4_in1_7 (by decide) (fun hc => ?_) (fun hc => ?_)
    · have hf := fg_ifT hf hc
      refine lv_iconst (v := 0) hx hb dX4_in1_14 rfl ?_
      exact fg_retz hx hb hr hlk hK h hf (by decide) dX4_in1_15
    · have hf := fg_ifF hf hc
      refine lv_iconst (v := 1) hx hb dX4_in1_10 rfl ?_
      refine lv_goto (tgt := 15) hx hb dX4_in1_11 (by decide) ?_
      exact fg_retz hx hb hr hlk hK h hf (by decide) dX4_in1_15
set_option maxHeartbeats 4000000 in
set_option maxRecDepth 100000 in
theorem c_X4_isLot (l : Launch) (D : va_G) (g : fg_G) (a1 : Int32) (w : fg_W) (r : Int32) (w' : fg_W) (hf : f_X4_isLot a1 w = some (r, w')) : fg_M l yX4_isLot cX4_isLot 1 (some .boolean) 1 22 D g [.int a1] w (fg_Qi D g r w') := by
  refine fg_M.of rfl (Nat.le_of_ble_eq_true rfl) (fun p e s m below meth c ls S hr hlk hK h hl => ?_)
  have hx := S.1
  have hb := S.2.1
  have hl : lv_has ls 1 [(0, .int a1)] := hl
  unfold f_X4_isLot at hf
  refine lv_iload_n hx hb dX4_isLot_0 rfl (lv_at hl 0 rfl) ?_
  refine lv_iconst (v := 0) hx hb dX4_isLot_1 rfl ?_
  refine lv_bipush (v := 9) hx hb dX4_isLot_2 rfl ?_
  obtain ⟨r3, w1, hc2, hf⟩ := fg_biE hf
  refine fg_ci h (fg_runS (rest := []) S hK h (c_X4_in1 l D g a1 0 9  w r3 w1 hc2) vk_X4_in1 vm_RX4_61 vs_X4_in1 vi_RX4 vd_X4_in1.2 ⟨by decide, by decide⟩ rfl hl.1 rfl (Nat.le_of_ble_eq_true rfl) dX4_isLot_4 ⟨Nat.zero_le _, Nat.zero_le _⟩) (fun H locs h => ?_)
  obtain ⟨hz, hf⟩ := fg_gpE hf
  exact fg_retz hx hb hr hlk hK h hf hz dX4_isLot_7
set_option maxHeartbeats 4000000 in
set_option maxRecDepth 100000 in
theorem c_X4_no (l : Launch) (D : va_G) (g : fg_G) (a1 : Int32) (w : fg_W) (r : Int32) (w' : fg_W) (hf : f_X4_no a1 w = some (r, w')) : fg_M l yX4_no cX4_no 2 (some .int) 0 0 D g [.ref (g.1 4 0 0), .int a1] w (fg_Qi D g r w') := by
  refine fg_M.of rfl (Nat.le_of_ble_eq_true rfl) (fun p e s m below meth c ls S hr hlk hK h hl => ?_)
  have hx := S.1
  have hb := S.2.1
  have hl : lv_has ls 2 [(0, .ref (g.1 4 0 0)), (1, .int a1)] := hl
  unfold f_X4_no at hf
  refine lv_aload_n hx hb dX4_no_0 rfl (lv_at hl 0 rfl) ?_
  refine fg_get (C := RX4) (T := TX4) (N := 22) S vu_X4 hK h fg_p4_0 rfl rfl 4 (by decide) vf_RX4_19 rfl rfl dX4_no_1 ?_
  refine lv_iload_n hx hb dX4_no_4 rfl (lv_at hl 1 rfl) ?_
  refine lv_dup2_11 hx hb dX4_no_5 rfl rfl ?_
  obtain ⟨hn1, hf⟩ := fg_gdE hf
  refine fg_iald hx hb hK h fg_p4_4 (fun _ => rfl) hn1 dX4_no_6 ?_
  refine lv_iconst (v := 1) hx hb dX4_no_7 rfl ?_
  refine lv_iadd hx hb dX4_no_8 ?_
  obtain ⟨hn3, hf⟩ := fg_gdE hf
  refine fg_iast hx hb hK h fg_p4_4 (fun _ => rfl) hn3 dX4_no_9 (fun w2 H locs ew h => ?_)
  have hf := fg_letE ew hf
  refine lv_ldc hx hb S.2.2.2.1 (S.2.2.2.2 _ vc_RX4_60) dX4_no_10 ?_
  refine lv_iload_n hx hb dX4_no_12 rfl (lv_at hl 1 rfl) ?_
  refine lv_isub hx hb dX4_no_13 ?_
  exact fg_reti hx hb hr hlk hK h hf dX4_no_14
set_option maxHeartbeats 4000000 in
set_option maxRecDepth 100000 in
theorem c_X4_of1 (l : Launch) (D : va_G) (g : fg_G) (a1 : Int32) (a2 : Int32) (w : fg_W) (r : Int32) (w' : fg_W) (hf : f_X4_of1 a1 a2 w = some (r, w')) : fg_M l yX4_of1 cX4_of1 3 (some .int) 0 0 D g [.ref (g.1 4 0 0), .int a1, .int a2] w (fg_Qi D g r w') := by
  refine fg_M.of rfl (Nat.le_of_ble_eq_true rfl) (fun p e s m below meth c ls S hr hlk hK h hl => ?_)
  have hx := S.1
  have hb := S.2.1
  have hl : lv_has ls 3 [(0, .ref (g.1 4 0 0)), (1, .int a1), (2, .int a2)] := hl
  unfold f_X4_of1 at hf
  refine lv_aload_n hx hb dX4_of1_0 rfl (lv_at hl 0 rfl) ?_
  refine fg_get (C := RX4) (T := TX4) (N := 22) S vu_X4 hK h fg_p4_0 rfl rfl 0 (by decide) vf_RX4_9 rfl rfl dX4_of1_1 ?_
  refine lv_bipush (v := 10) hx hb dX4_of1_4 rfl ?_
  refine lv_iconst (v := 3) hx hb dX4_of1_6 rfl ?_
  refine lv_iload_n hx hb dX4_of1_7 rfl (lv_at hl 1 rfl) ?_
  refine lv_imul hx hb dX4_of1_8 ?_
  refine lv_iadd hx hb dX4_of1_9 ?_
  refine lv_iload_n hx hb dX4_of1_10 rfl (lv_at hl 2 rfl) ?_
  refine lv_iadd hx hb dX4_of1_11 ?_
  obtain ⟨hn1, hf⟩ := fg_gdE hf
  refine fg_iald hx hb hK h fg_p4_1 (fun _ => rfl) hn1 dX4_of1_12 ?_
  exact fg_reti hx hb hr hlk hK h hf dX4_of1_13
set_option maxHeartbeats 4000000 in
set_option maxRecDepth 100000 in
theorem c_X4_lot (l : Launch) (D : va_G) (g : fg_G) (a1 : Int32) (a2 : Int32) (a3 : Int32) (w : fg_W) (r : Int32) (w' : fg_W) (hf : f_X4_lot a1 a2 a3 w = some (r, w')) : fg_M l yX4_lot cX4_lot 5 (some .int) 2 42 D g [.ref (g.1 4 0 0), .int a1, .int a2, .int a3] w (fg_Qi D g r w') := by
  refine fg_M.of rfl (Nat.le_of_ble_eq_true rfl) (fun p e s m below meth c ls S hr hlk hK h hl => ?_)
  have hx := S.1
  have hb := S.2.1
  have hl : lv_has ls 5 [(0, .ref (g.1 4 0 0)), (1, .int a1), (2, .int a2), (3, .int a3)] := hl
  unfold f_X4_lot at hf
  refine lv_iload_n hx hb dX4_lot_0 rfl (lv_at hl 1 rfl) ?_
  obtain ⟨r3, w1, hc2, hf⟩ := fg_biE hf
  refine fg_ci h (fg_runS (rest := []) S hK h (c_X4_isLot l D g a1  w r3 w1 hc2) vk_X4_isLot vm_RX4_126 vs_X4_isLot vi_RX4 vd_X4_isLot.2 ⟨by decide, by decide⟩ rfl hl.1 rfl (Nat.le_of_ble_eq_true rfl) dX4_lot_1 ⟨Nat.zero_le _, Nat.zero_le _⟩) (fun H locs h => ?_)
  refine lv_if_eq (tgt := 60) hx hb dX4_lot_4 (by decide) (fun hc => ?_) (fun hc => ?_)
  · have hf := fg_ifT hf hc
    refine lv_aload_n hx hb dX4_lot_60 rfl (lv_at hl 0 rfl) ?_
    refine lv_iconst (v := 0) hx hb dX4_lot_61 rfl ?_
    obtain ⟨r6, w4, hc5, hf⟩ := fg_biE hf
    refine fg_ci h (fg_runV (rest := []) S hK h (c_X4_no l D g 0  w1 r6 w4 hc5) vg_RX4_129 vd_X4_no ⟨by decide, by decide⟩ fg_p4_0 rfl rfl rfl hl.1 rfl (Nat.le_of_ble_eq_true rfl) dX4_lot_62 ⟨Nat.zero_le _, Nat.zero_le _⟩) (fun H locs h => ?_)
    exact fg_reti hx hb hr hlk hK h hf dX4_lot_65
  · have hf := fg_ifF hf hc
    refine lv_iload_n hx hb dX4_lot_7 rfl (lv_at hl 2 rfl) ?_
    refine lv_iconst (v := 0) hx hb dX4_lot_8 rfl ?_
    refine lv_iconst (v := 2) hx hb dX4_lot_9 rfl ?_
    obtain ⟨r9, w7, hc8, hf⟩ := fg_biE hf
    refine fg_ci h (fg_runS (rest := []) S hK h (c_X4_in1 l D g a2 0 2  w1 r9 w7 hc8) vk_X4_in1 vm_RX4_61 vs_X4_in1 vi_RX4 vd_X4_in1.2 ⟨by decide, by decide⟩ rfl hl.1 rfl (Nat.le_of_ble_eq_true rfl) dX4_lot_10 ⟨Nat.zero_le _, Nat.zero_le _⟩) (fun H locs h => ?_)
    refine lv_if_eq (tgt := 60) hx hb dX4_lot_13 (by decide) (fun hc => ?_) (fun hc => ?_)
    · have hf := fg_ifT hf hc
      refine lv_aload_n hx hb dX4_lot_60 rfl (lv_at hl 0 rfl) ?_
      refine lv_iconst (v := 0) hx hb dX4_lot_61 rfl ?_
      obtain ⟨r12, w10, hc11, hf⟩ := fg_biE hf
      refine fg_ci h (fg_runV (rest := []) S hK h (c_X4_no l D g 0  w7 r12 w10 hc11) vg_RX4_129 vd_X4_no ⟨by decide, by decide⟩ fg_p4_0 rfl rfl rfl hl.1 rfl (Nat.le_of_ble_eq_true rfl) dX4_lot_62 ⟨Nat.zero_le _, Nat.zero_le _⟩) (fun H locs h => ?_)
      exact fg_reti hx hb hr hlk hK h hf dX4_lot_65
    · have hf := fg_ifF hf hc
      refine lv_iload_n hx hb dX4_lot_16 rfl (lv_at hl 3 rfl) ?_
      refine lv_iload_n hx hb dX4_lot_17 rfl (lv_at hl 2 rfl) ?_
      refine lv_iconst (v := 2) hx hb dX4_lot_18 rfl ?_
      refine lv_icmp_ne (tgt := 26) hx hb dX4_lot_19 (by decide) (fun hc => ?_) (fun hc => ?_)
      · have hf := fg_ifF hf hc
        refine lv_iconst (v := 0) hx hb dX4_lot_26 rfl ?_
        refine lv_iload_n hx hb dX4_lot_27 rfl (lv_at hl 2 rfl) ?_
        refine lv_if_ne (tgt := 36) hx hb dX4_lot_28 (by decide) (fun hc => ?_) (fun hc => ?_)
        · have hf := fg_ifF hf hc
          refine lv_iload_n hx hb dX4_lot_36 rfl (lv_at hl 2 rfl) ?_
          refine lv_iconst (v := 1) hx hb dX4_lot_37 rfl ?_
          refine lv_icmp_ne (tgt := 46) hx hb dX4_lot_38 (by decide) (fun hc => ?_) (fun hc => ?_)
          · have hf := fg_ifF hf hc
            refine lv_aload_n hx hb dX4_lot_46 rfl (lv_at hl 0 rfl) ?_
            refine fg_get (C := RX4) (T := TX4) (N := 22) S vu_X4 hK h fg_p4_0 rfl rfl 0 (by decide) vf_RX4_9 rfl rfl dX4_lot_47 ?_
            refine lv_iconst (v := 1) hx hb dX4_lot_50 rfl ?_
            refine fg_ialdL (j := 1) hx hb hK h fg_p4_1 (fun _ => rfl) (by decide) rfl dX4_lot_51 ?_
            refine lv_iconst (v := 1) hx hb dX4_lot_52 rfl ?_
            refine lv_isub hx hb dX4_lot_53 ?_
            obtain ⟨r15, w13, hc14, hf⟩ := fg_biE hf
            refine fg_ci h (fg_runS (rest := []) S hK h (c_X4_in1 l D g a3 0 ((w7.1 4 0 1 1) - 1)  w7 r15 w13 hc14) vk_X4_in1 vm_RX4_61 vs_X4_in1 vi_RX4 vd_X4_in1.2 ⟨by decide, by decide⟩ rfl hl.1 rfl (Nat.le_of_ble_eq_true rfl) dX4_lot_54 ⟨Nat.zero_le _, Nat.zero_le _⟩) (fun H locs h => ?_)
            refine lv_if_ne (tgt := 66) hx hb dX4_lot_57 (by decide) (fun hc => ?_) (fun hc => ?_)
            · have hf := fg_ifF hf hc
              refine lv_aload_n hx hb dX4_lot_66 rfl (lv_at hl 0 rfl) ?_
              refine lv_iload_n hx hb dX4_lot_67 rfl (lv_at hl 1 rfl) ?_
              refine lv_iload_n hx hb dX4_lot_68 rfl (lv_at hl 2 rfl) ?_
              obtain ⟨r18, w16, hc17, hf⟩ := fg_biE hf
              refine fg_ci h (fg_runV (rest := []) S hK h (c_X4_of1 l D g a1 a2  w13 r18 w16 hc17) vg_RX4_73 vd_X4_of1 ⟨by decide, by decide⟩ fg_p4_0 rfl rfl rfl hl.1 rfl (Nat.le_of_ble_eq_true rfl) dX4_lot_69 ⟨Nat.zero_le _, Nat.zero_le _⟩) (fun H locs h => ?_)
              refine lv_istore (lv' := [(4, .int r18), (0, .ref (g.1 4 0 0)), (1, .int a1), (2, .int a2), (3, .int a3)]) hx hb dX4_lot_72 hl (by decide) rfl (fun ls hl => ?_)
              refine lv_aload_n hx hb dX4_lot_74 rfl (lv_at hl 1 rfl) ?_
              refine lv_iload_n hx hb dX4_lot_75 rfl (lv_at hl 2 rfl) ?_
              refine lv_iload_n hx hb dX4_lot_76 rfl (lv_at hl 3 rfl) ?_
              refine lv_iload_n hx hb dX4_lot_77 rfl (lv_at hl 4 rfl) ?_
              obtain ⟨w19, hc20, hf⟩ := fg_bvE hf
              refine fg_cv h (fg_runV (rest := []) S hK h (c_X4_lays1 l D g a1 a2 a3  w16 w19 hc20) vg_RX4_56 vd_X4_lays1 ⟨by decide, by decide⟩ fg_p4_0 rfl rfl rfl hl.1 rfl (Nat.le_of_ble_eq_true rfl) dX4_lot_78 ⟨Nat.zero_le _, Nat.zero_le _⟩) (fun H locs h => ?_)
              refine lv_iload hx hb dX4_lot_81 (lv_at hl 0 rfl) ?_
              exact fg_reti hx hb hr hlk hK h hf dX4_lot_83
            · have hf := fg_ifT hf hc
              refine lv_aload_n hx hb dX4_lot_60 rfl (lv_at hl 0 rfl) ?_
              refine lv_iconst (v := 0) hx hb dX4_lot_61 rfl ?_
              obtain ⟨r23, w21, hc22, hf⟩ := fg_biE hf
              refine fg_ci h (fg_runV (rest := []) S hK h (c_X4_no l D g 0  w13 r23 w21 hc22) vg_RX4_129 vd_X4_no ⟨by decide, by decide⟩ fg_p4_0 rfl rfl rfl hl.1 rfl (Nat.le_of_ble_eq_true rfl) dX4_lot_62 ⟨Nat.zero_le _, Nat.zero_le _⟩) (fun H locs h => ?_)
              exact fg_reti hx hb hr hlk hK h hf dX4_lot_65
          · have hf := fg_ifT hf hc
            refine lv_bipush (v := 20) hx hb dX4_lot_41 rfl ?_
            refine lv_goto (tgt := 54) hx hb dX4_lot_43 (by decide) ?_
            obtain ⟨r26, w24, hc25, hf⟩ := fg_biE hf
            refine fg_ci h (fg_runS (rest := []) S hK h (c_X4_in1 l D g a3 0 20  w7 r26 w24 hc25) vk_X4_in1 vm_RX4_61 vs_X4_in1 vi_RX4 vd_X4_in1.2 ⟨by decide, by decide⟩ rfl hl.1 rfl (Nat.le_of_ble_eq_true rfl) dX4_lot_54 ⟨Nat.zero_le _, Nat.zero_le _⟩) (fun H locs h => ?_)
            refine lv_if_ne (tgt := 66) hx hb dX4_lot_57 (by decide) (fun hc => ?_) (fun hc => ?_)
            · have hf := fg_ifF hf hc
              refine lv_aload_n hx hb dX4_lot_66 rfl (lv_at hl 0 rfl) ?_
              refine lv_iload_n hx hb dX4_lot_67 rfl (lv_at hl 1 rfl) ?_
              refine lv_iload_n hx hb dX4_lot_68 rfl (lv_at hl 2 rfl) ?_
              obtain ⟨r29, w27, hc28, hf⟩ := fg_biE hf
              refine fg_ci h (fg_runV (rest := []) S hK h (c_X4_of1 l D g a1 a2  w24 r29 w27 hc28) vg_RX4_73 vd_X4_of1 ⟨by decide, by decide⟩ fg_p4_0 rfl rfl rfl hl.1 rfl (Nat.le_of_ble_eq_true rfl) dX4_lot_69 ⟨Nat.zero_le _, Nat.zero_le _⟩) (fun H locs h => ?_)
              refine lv_istore (lv' := [(4, .int r29), (0, .ref (g.1 4 0 0)), (1, .int a1), (2, .int a2), (3, .int a3)]) hx hb dX4_lot_72 hl (by decide) rfl (fun ls hl => ?_)
              refine lv_aload_n hx hb dX4_lot_74 rfl (lv_at hl 1 rfl) ?_
              refine lv_iload_n hx hb dX4_lot_75 rfl (lv_at hl 2 rfl) ?_
              refine lv_iload_n hx hb dX4_lot_76 rfl (lv_at hl 3 rfl) ?_
              refine lv_iload_n hx hb dX4_lot_77 rfl (lv_at hl 4 rfl) ?_
              obtain ⟨w30, hc31, hf⟩ := fg_bvE hf
              refine fg_cv h (fg_runV (rest := []) S hK h (c_X4_lays1 l D g a1 a2 a3  w27 w30 hc31) vg_RX4_56 vd_X4_lays1 ⟨by decide, by decide⟩ fg_p4_0 rfl rfl rfl hl.1 rfl (Nat.le_of_ble_eq_true rfl) dX4_lot_78 ⟨Nat.zero_le _, Nat.zero_le _⟩) (fun H locs h => ?_)
              refine lv_iload hx hb dX4_lot_81 (lv_at hl 0 rfl) ?_
              exact fg_reti hx hb hr hlk hK h hf dX4_lot_83
            · have hf := fg_ifT hf hc
              refine lv_aload_n hx hb dX4_lot_60 rfl (lv_at hl 0 rfl) ?_
              refine lv_iconst (v := 0) hx hb dX4_lot_61 rfl ?_
              obtain ⟨r34, w32, hc33, hf⟩ := fg_biE hf
              refine fg_ci h (fg_runV (rest := []) S hK h (c_X4_no l D g 0  w24 r34 w32 hc33) vg_RX4_129 vd_X4_no ⟨by decide, by decide⟩ fg_p4_0 rfl rfl rfl hl.1 rfl (Nat.le_of_ble_eq_true rfl) dX4_lot_62 ⟨Nat.zero_le _, Nat.zero_le _⟩) (fun H locs h => ?_)
              exact fg_reti hx hb hr hlk hK h hf dX4_lot_65
        · have hf := fg_ifT hf hc
          refine lv_bipush (v := 99) hx hb dX4_lot_31 rfl ?_
          refine lv_goto (tgt := 54) hx hb dX4_lot_33 (by decide) ?_
          obtain ⟨r37, w35, hc36, hf⟩ := fg_biE hf
          refine fg_ci h (fg_runS (rest := []) S hK h (c_X4_in1 l D g a3 0 99  w7 r37 w35 hc36) vk_X4_in1 vm_RX4_61 vs_X4_in1 vi_RX4 vd_X4_in1.2 ⟨by decide, by decide⟩ rfl hl.1 rfl (Nat.le_of_ble_eq_true rfl) dX4_lot_54 ⟨Nat.zero_le _, Nat.zero_le _⟩) (fun H locs h => ?_)
          refine lv_if_ne (tgt := 66) hx hb dX4_lot_57 (by decide) (fun hc => ?_) (fun hc => ?_)
          · have hf := fg_ifF hf hc
            refine lv_aload_n hx hb dX4_lot_66 rfl (lv_at hl 0 rfl) ?_
            refine lv_iload_n hx hb dX4_lot_67 rfl (lv_at hl 1 rfl) ?_
            refine lv_iload_n hx hb dX4_lot_68 rfl (lv_at hl 2 rfl) ?_
            obtain ⟨r40, w38, hc39, hf⟩ := fg_biE hf
            refine fg_ci h (fg_runV (rest := []) S hK h (c_X4_of1 l D g a1 a2  w35 r40 w38 hc39) vg_RX4_73 vd_X4_of1 ⟨by decide, by decide⟩ fg_p4_0 rfl rfl rfl hl.1 rfl (Nat.le_of_ble_eq_true rfl) dX4_lot_69 ⟨Nat.zero_le _, Nat.zero_le _⟩) (fun H locs h => ?_)
            refine lv_istore (lv' := [(4, .int r40), (0, .ref (g.1 4 0 0)), (1, .int a1), (2, .int a2), (3, .int a3)]) hx hb dX4_lot_72 hl (by decide) rfl (fun ls hl => ?_)
            refine lv_aload_n hx hb dX4_lot_74 rfl (lv_at hl 1 rfl) ?_
            refine lv_iload_n hx hb dX4_lot_75 rfl (lv_at hl 2 rfl) ?_
            refine lv_iload_n hx hb dX4_lot_76 rfl (lv_at hl 3 rfl) ?_
            refine lv_iload_n hx hb dX4_lot_77 rfl (lv_at hl 4 rfl) ?_
            obtain ⟨w41, hc42, hf⟩ := fg_bvE hf
            refine fg_cv h (fg_runV (rest := []) S hK h (c_X4_lays1 l D g a1 a2 a3  w38 w41 hc42) vg_RX4_56 vd_X4_lays1 ⟨by decide, by decide⟩ fg_p4_0 rfl rfl rfl hl.1 rfl (Nat.le_of_ble_eq_true rfl) dX4_lot_78 ⟨Nat.zero_le _, Nat.zero_le _⟩) (fun H locs h => ?_)
            refine lv_iload hx hb dX4_lot_81 (lv_at hl 0 rfl) ?_
            exact fg_reti hx hb hr hlk hK h hf dX4_lot_83
          · have hf := fg_ifT hf hc
            refine lv_aload_n hx hb dX4_lot_60 rfl (lv_at hl 0 rfl) ?_
            refine lv_iconst (v := 0) hx hb dX4_lot_61 rfl ?_
            obtain ⟨r45, w43, hc44, hf⟩ := fg_biE hf
            refine fg_ci h (fg_runV (rest := []) S hK h (c_X4_no l D g 0  w35 r45 w43 hc44) vg_RX4_129 vd_X4_no ⟨by decide, by decide⟩ fg_p4_0 rfl rfl rfl hl.1 rfl (Nat.le_of_ble_eq_true rfl) dX4_lot_62 ⟨Nat.zero_le _, Nat.zero_le _⟩) (fun H locs h => ?_)
            exact fg_reti hx hb hr hlk hK h hf dX4_lot_65
      · have hf := fg_ifT hf hc
        refine lv_iconst (v := (-1)) hx hb dX4_lot_22 rfl ?_
        refine lv_goto (tgt := 27) hx hb dX4_lot_23 (by decide) ?_
        refine lv_iload_n hx hb dX4_lot_27 rfl (lv_at hl 2 rfl) ?_
        refine lv_if_ne (tgt := 36) hx hb dX4_lot_28 (by decide) (fun hc => ?_) (fun hc => ?_)
        · have hf := fg_ifF hf hc
          refine lv_iload_n hx hb dX4_lot_36 rfl (lv_at hl 2 rfl) ?_
          refine lv_iconst (v := 1) hx hb dX4_lot_37 rfl ?_
          refine lv_icmp_ne (tgt := 46) hx hb dX4_lot_38 (by decide) (fun hc => ?_) (fun hc => ?_)
          · have hf := fg_ifF hf hc
            refine lv_aload_n hx hb dX4_lot_46 rfl (lv_at hl 0 rfl) ?_
            refine fg_get (C := RX4) (T := TX4) (N := 22) S vu_X4 hK h fg_p4_0 rfl rfl 0 (by decide) vf_RX4_9 rfl rfl dX4_lot_47 ?_
            refine lv_iconst (v := 1) hx hb dX4_lot_50 rfl ?_
            refine fg_ialdL (j := 1) hx hb hK h fg_p4_1 (fun _ => rfl) (by decide) rfl dX4_lot_51 ?_
            refine lv_iconst (v := 1) hx hb dX4_lot_52 rfl ?_
            refine lv_isub hx hb dX4_lot_53 ?_
            obtain ⟨r48, w46, hc47, hf⟩ := fg_biE hf
            refine fg_ci h (fg_runS (rest := []) S hK h (c_X4_in1 l D g a3 (-1) ((w7.1 4 0 1 1) - 1)  w7 r48 w46 hc47) vk_X4_in1 vm_RX4_61 vs_X4_in1 vi_RX4 vd_X4_in1.2 ⟨by decide, by decide⟩ rfl hl.1 rfl (Nat.le_of_ble_eq_true rfl) dX4_lot_54 ⟨Nat.zero_le _, Nat.zero_le _⟩) (fun H locs h => ?_)
            refine lv_if_ne (tgt := 66) hx hb dX4_lot_57 (by decide) (fun hc => ?_) (fun hc => ?_)
            · have hf := fg_ifF hf hc
              refine lv_aload_n hx hb dX4_lot_66 rfl (lv_at hl 0 rfl) ?_
              refine lv_iload_n hx hb dX4_lot_67 rfl (lv_at hl 1 rfl) ?_
              refine lv_iload_n hx hb dX4_lot_68 rfl (lv_at hl 2 rfl) ?_
              obtain ⟨r51, w49, hc50, hf⟩ := fg_biE hf
              refine fg_ci h (fg_runV (rest := []) S hK h (c_X4_of1 l D g a1 a2  w46 r51 w49 hc50) vg_RX4_73 vd_X4_of1 ⟨by decide, by decide⟩ fg_p4_0 rfl rfl rfl hl.1 rfl (Nat.le_of_ble_eq_true rfl) dX4_lot_69 ⟨Nat.zero_le _, Nat.zero_le _⟩) (fun H locs h => ?_)
              refine lv_istore (lv' := [(4, .int r51), (0, .ref (g.1 4 0 0)), (1, .int a1), (2, .int a2), (3, .int a3)]) hx hb dX4_lot_72 hl (by decide) rfl (fun ls hl => ?_)
              refine lv_aload_n hx hb dX4_lot_74 rfl (lv_at hl 1 rfl) ?_
              refine lv_iload_n hx hb dX4_lot_75 rfl (lv_at hl 2 rfl) ?_
              refine lv_iload_n hx hb dX4_lot_76 rfl (lv_at hl 3 rfl) ?_
              refine lv_iload_n hx hb dX4_lot_77 rfl (lv_at hl 4 rfl) ?_
              obtain ⟨w52, hc53, hf⟩ := fg_bvE hf
              refine fg_cv h (fg_runV (rest := []) S hK h (c_X4_lays1 l D g a1 a2 a3  w49 w52 hc53) vg_RX4_56 vd_X4_lays1 ⟨by decide, by decide⟩ fg_p4_0 rfl rfl rfl hl.1 rfl (Nat.le_of_ble_eq_true rfl) dX4_lot_78 ⟨Nat.zero_le _, Nat.zero_le _⟩) (fun H locs h => ?_)
              refine lv_iload hx hb dX4_lot_81 (lv_at hl 0 rfl) ?_
              exact fg_reti hx hb hr hlk hK h hf dX4_lot_83
            · have hf := fg_ifT hf hc
              refine lv_aload_n hx hb dX4_lot_60 rfl (lv_at hl 0 rfl) ?_
              refine lv_iconst (v := 0) hx hb dX4_lot_61 rfl ?_
              obtain ⟨r56, w54, hc55, hf⟩ := fg_biE hf
              refine fg_ci h (fg_runV (rest := []) S hK h (c_X4_no l D g 0  w46 r56 w54 hc55) vg_RX4_129 vd_X4_no ⟨by decide, by decide⟩ fg_p4_0 rfl rfl rfl hl.1 rfl (Nat.le_of_ble_eq_true rfl) dX4_lot_62 ⟨Nat.zero_le _, Nat.zero_le _⟩) (fun H locs h => ?_)
              exact fg_reti hx hb hr hlk hK h hf dX4_lot_65
          · have hf := fg_ifT hf hc
            refine lv_bipush (v := 20) hx hb dX4_lot_41 rfl ?_
            refine lv_goto (tgt := 54) hx hb dX4_lot_43 (by decide) ?_
            obtain ⟨r59, w57, hc58, hf⟩ := fg_biE hf
            refine fg_ci h (fg_runS (rest := []) S hK h (c_X4_in1 l D g a3 (-1) 20  w7 r59 w57 hc58) vk_X4_in1 vm_RX4_61 vs_X4_in1 vi_RX4 vd_X4_in1.2 ⟨by decide, by decide⟩ rfl hl.1 rfl (Nat.le_of_ble_eq_true rfl) dX4_lot_54 ⟨Nat.zero_le _, Nat.zero_le _⟩) (fun H locs h => ?_)
            refine lv_if_ne (tgt := 66) hx hb dX4_lot_57 (by decide) (fun hc => ?_) (fun hc => ?_)
            · have hf := fg_ifF hf hc
              refine lv_aload_n hx hb dX4_lot_66 rfl (lv_at hl 0 rfl) ?_
              refine lv_iload_n hx hb dX4_lot_67 rfl (lv_at hl 1 rfl) ?_
              refine lv_iload_n hx hb dX4_lot_68 rfl (lv_at hl 2 rfl) ?_
              obtain ⟨r62, w60, hc61, hf⟩ := fg_biE hf
              refine fg_ci h (fg_runV (rest := []) S hK h (c_X4_of1 l D g a1 a2  w57 r62 w60 hc61) vg_RX4_73 vd_X4_of1 ⟨by decide, by decide⟩ fg_p4_0 rfl rfl rfl hl.1 rfl (Nat.le_of_ble_eq_true rfl) dX4_lot_69 ⟨Nat.zero_le _, Nat.zero_le _⟩) (fun H locs h => ?_)
              refine lv_istore (lv' := [(4, .int r62), (0, .ref (g.1 4 0 0)), (1, .int a1), (2, .int a2), (3, .int a3)]) hx hb dX4_lot_72 hl (by decide) rfl (fun ls hl => ?_)
              refine lv_aload_n hx hb dX4_lot_74 rfl (lv_at hl 1 rfl) ?_
              refine lv_iload_n hx hb dX4_lot_75 rfl (lv_at hl 2 rfl) ?_
              refine lv_iload_n hx hb dX4_lot_76 rfl (lv_at hl 3 rfl) ?_
              refine lv_iload_n hx hb dX4_lot_77 rfl (lv_at hl 4 rfl) ?_
              obtain ⟨w63, hc64, hf⟩ := fg_bvE hf
              refine fg_cv h (fg_runV (rest := []) S hK h (c_X4_lays1 l D g a1 a2 a3  w60 w63 hc64) vg_RX4_56 vd_X4_lays1 ⟨by decide, by decide⟩ fg_p4_0 rfl rfl rfl hl.1 rfl (Nat.le_of_ble_eq_true rfl) dX4_lot_78 ⟨Nat.zero_le _, Nat.zero_le _⟩) (fun H locs h => ?_)
              refine lv_iload hx hb dX4_lot_81 (lv_at hl 0 rfl) ?_
              exact fg_reti hx hb hr hlk hK h hf dX4_lot_83
            · have hf := fg_ifT hf hc
              refine lv_aload_n hx hb dX4_lot_60 rfl (lv_at hl 0 rfl) ?_
              refine lv_iconst (v := 0) hx hb dX4_lot_61 rfl ?_
              obtain ⟨r67, w65, hc66, hf⟩ := fg_biE hf
              refine fg_ci h (fg_runV (rest := []) S hK h (c_X4_no l D g 0  w57 r67 w65 hc66) vg_RX4_129 vd_X4_no ⟨by decide, by decide⟩ fg_p4_0 rfl rfl rfl hl.1 rfl (Nat.le_of_ble_eq_true rfl) dX4_lot_62 ⟨Nat.zero_le _, Nat.zero_le _⟩) (fun H locs h => ?_)
              exact fg_reti hx hb hr hlk hK h hf dX4_lot_65
        · have hf := fg_ifT hf hc
          refine lv_bipush (v := 99) hx hb dX4_lot_31 rfl ?_
          refine lv_goto (tgt := 54) hx hb dX4_lot_33 (by decide) ?_
          obtain ⟨r70, w68, hc69, hf⟩ := fg_biE hf
          refine fg_ci h (fg_runS (rest := []) S hK h (c_X4_in1 l D g a3 (-1) 99  w7 r70 w68 hc69) vk_X4_in1 vm_RX4_61 vs_X4_in1 vi_RX4 vd_X4_in1.2 ⟨by decide, by decide⟩ rfl hl.1 rfl (Nat.le_of_ble_eq_true rfl) dX4_lot_54 ⟨Nat.zero_le _, Nat.zero_le _⟩) (fun H locs h => ?_)
          refine lv_if_ne (tgt := 66) hx hb dX4_lot_57 (by decide) (fun hc => ?_) (fun hc => ?_)
          · have hf := fg_ifF hf hc
            refine lv_aload_n hx hb dX4_lot_66 rfl (lv_at hl 0 rfl) ?_
            refine lv_iload_n hx hb dX4_lot_67 rfl (lv_at hl 1 rfl) ?_
            refine lv_iload_n hx hb dX4_lot_68 rfl (lv_at hl 2 rfl) ?_
            obtain ⟨r73, w71, hc72, hf⟩ := fg_biE hf
            refine fg_ci h (fg_runV (rest := []) S hK h (c_X4_of1 l D g a1 a2  w68 r73 w71 hc72) vg_RX4_73 vd_X4_of1 ⟨by decide, by decide⟩ fg_p4_0 rfl rfl rfl hl.1 rfl (Nat.le_of_ble_eq_true rfl) dX4_lot_69 ⟨Nat.zero_le _, Nat.zero_le _⟩) (fun H locs h => ?_)
            refine lv_istore (lv' := [(4, .int r73), (0, .ref (g.1 4 0 0)), (1, .int a1), (2, .int a2), (3, .int a3)]) hx hb dX4_lot_72 hl (by decide) rfl (fun ls hl => ?_)
            refine lv_aload_n hx hb dX4_lot_74 rfl (lv_at hl 1 rfl) ?_
            refine lv_iload_n hx hb dX4_lot_75 rfl (lv_at hl 2 rfl) ?_
            refine lv_iload_n hx hb dX4_lot_76 rfl (lv_at hl 3 rfl) ?_
            refine lv_iload_n hx hb dX4_lot_77 rfl (lv_at hl 4 rfl) ?_
            obtain ⟨w74, hc75, hf⟩ := fg_bvE hf
            refine fg_cv h (fg_runV (rest := []) S hK h (c_X4_lays1 l D g a1 a2 a3  w71 w74 hc75) vg_RX4_56 vd_X4_lays1 ⟨by decide, by decide⟩ fg_p4_0 rfl rfl rfl hl.1 rfl (Nat.le_of_ble_eq_true rfl) dX4_lot_78 ⟨Nat.zero_le _, Nat.zero_le _⟩) (fun H locs h => ?_)
            refine lv_iload hx hb dX4_lot_81 (lv_at hl 0 rfl) ?_
            exact fg_reti hx hb hr hlk hK h hf dX4_lot_83
          · have hf := fg_ifT hf hc
            refine lv_aload_n hx hb dX4_lot_60 rfl (lv_at hl 0 rfl) ?_
            refine lv_iconst (v := 0) hx hb dX4_lot_61 rfl ?_
            obtain ⟨r78, w76, hc77, hf⟩ := fg_biE hf
            refine fg_ci h (fg_runV (rest := []) S hK h (c_X4_no l D g 0  w68 r78 w76 hc77) vg_RX4_129 vd_X4_no ⟨by decide, by decide⟩ fg_p4_0 rfl rfl rfl hl.1 rfl (Nat.le_of_ble_eq_true rfl) dX4_lot_62 ⟨Nat.zero_le _, Nat.zero_le _⟩) (fun H locs h => ?_)
            exact fg_reti hx hb hr hlk hK h hf dX4_lot_65
set_option maxHeartbeats 4000000 in
set_option maxRecDepth 100000 in
theorem c_X4_get (l : Launch) (D : va_G) (g : fg_G) (a1 : Int32) (a2 : Int32) (w : fg_W) (r : Int32) (w' : fg_W) (hf : f_X4_get a1 a2 w = some (r, w')) : fg_M l yX4_get cX4_get 3 (some .int) 0 0 D g [.ref (g.1 4 0 0), .int a1, .int a2] w (fg_Qi D g r w') := by
  refine fg_M.of rfl (Nat.le_of_ble_eq_true rfl) (fun p e s m below meth c ls S hr hlk hK h hl => ?_)
  have hx := S.1
  have hb := S.2.1
  have hl : lv_has ls 3 [(0, .ref (g.1 4 0 0)), (1, .int a1), (2, .int a2)] := hl
  unfold f_X4_get at hf
  refine lv_aload_n hx hb dX4_get_0 rfl (lv_at hl 0 rfl) ?_
  refine fg_get (C := RX4) (T := TX4) (N := 22) S vu_X4 hK h fg_p4_0 rfl rfl 0 (by decide) vf_RX4_9 rfl rfl dX4_get_1 ?_
  refine lv_bipush (v := 40) hx hb dX4_get_4 rfl ?_
  refine lv_iconst (v := 5) hx hb dX4_get_6 rfl ?_
  refine lv_iload_n hx hb dX4_get_7 rfl (lv_at hl 1 rfl) ?_
  refine lv_imul hx hb dX4_get_8 ?_
  refine lv_iadd hx hb dX4_get_9 ?_
  refine lv_iload_n hx hb dX4_get_10 rfl (lv_at hl 2 rfl) ?_
  refine lv_iadd hx hb dX4_get_11 ?_
  obtain ⟨hn1, hf⟩ := fg_gdE hf
  refine fg_iald hx hb hK h fg_p4_1 (fun _ => rfl) hn1 dX4_get_12 ?_
  exact fg_reti hx hb hr hlk hK h hf dX4_get_13
set_option maxHeartbeats 4000000 in
set_option maxRecDepth 100000 in
theorem c_X4_whoIsOn (l : Launch) (D : va_G) (g : fg_G) (a1 : Int32) (w : fg_W) (r : Int32) (w' : fg_W) (hf : f_X4_whoIsOn a1 w = some (r, w')) : fg_M l yX4_whoIsOn cX4_whoIsOn 4 (some .int) 1 22 D g [.ref (g.1 4 0 0), .int a1] w (fg_Qi D g r w') := by
  refine fg_M.of rfl (Nat.le_of_ble_eq_true rfl) (fun p e s m below meth c ls S hr hlk hK h hl => ?_)
  have hx := S.1
  have hb := S.2.1
  have hl : lv_has ls 4 [(0, .ref (g.1 4 0 0)), (1, .int a1)] := hl
  unfold f_X4_whoIsOn at hf
  refine lv_iconst (v := 0) hx hb dX4_whoIsOn_0 rfl ?_
  refine lv_istore_n (lv' := [(2, .int 0), (0, .ref (g.1 4 0 0)), (1, .int a1)]) hx hb dX4_whoIsOn_1 rfl hl (by decide) rfl (fun ls hl => ?_)
  refine lv_iconst (v := 0) hx hb dX4_whoIsOn_2 rfl ?_
  refine lv_istore_n (lv' := [(3, .int 0), (2, .int 0), (0, .ref (g.1 4 0 0)), (1, .int a1)]) hx hb dX4_whoIsOn_3 rfl hl (by decide) rfl (fun ls hl => ?_)
  have hK_4 : ∀ (v2_4 : Int32) (v3_4 : Int32) (w_4 : fg_W) (H : Heap) (locs : List Loc) (ls : Array Slot), fg_H D g s.heap w_4 H locs → lv_has ls 4 [(0, .ref (g.1 4 0 0)), (1, .int a1), (2, .int v2_4), (3, .int v3_4)] → (some (v2_4, w_4)) = some (r, w') → fg_Gi p l e 1 22 s m [.ref (g.1 4 0 0), .int a1] below meth c D g r w' H locs 40 ls [] := by
    intro v2_4 v3_4 w_4 H locs ls h hl hf
    refine lv_iload_n hx hb dX4_whoIsOn_40 rfl (lv_at hl 2 rfl) ?_
    exact fg_reti hx hb hr hlk hK h hf dX4_whoIsOn_41
  have hL_4 : ∀ (KK_4 : Int32 → Int32 → fg_W → Option (Int32 × fg_W)) (hK_4 : ∀ (v2_4 : Int32) (v3_4 : Int32) (w_4 : fg_W) (H : Heap) (locs : List Loc) (ls : Array Slot), fg_H D g s.heap w_4 H locs → lv_has ls 4 [(0, .ref (g.1 4 0 0)), (1, .int a1), (2, .int v2_4), (3, .int v3_4)] → KK_4 v2_4 v3_4 w_4 = some (r, w') → fg_Gi p l e 1 22 s m [.ref (g.1 4 0 0), .int a1] below meth c D g r w' H locs 40 ls []) (n : Nat) (v2_4 : Int32) (v3_4 : Int32) (w_4 : fg_W) (H : Heap) (locs : List Loc) (ls : Array Slot), fg_H D g s.heap w_4 H locs → lv_has ls 4 [(0, .ref (g.1 4 0 0)), (1, .int a1), (2, .int v2_4), (3, .int v3_4)] → f_X4_whoIsOn_L4 a1 KK_4 n v2_4 v3_4 w_4 = some (r, w') → fg_Gi p l e 1 22 s m [.ref (g.1 4 0 0), .int a1] below meth c D g r w' H locs 4 ls [] := by
    intro KK_4 hK_4 n
    induction n with
    | zero => intro v2_4 v3_4 w_4 H locs ls h hl hf; exact fg_no hf
    | succ n_4 ih_4 =>
      intro v2_4 v3_4 w_4 H locs ls h hl hf
      unfold f_X4_whoIsOn_L4 at hf
      refine lv_iload_n hx hb dX4_whoIsOn_4 rfl (lv_at hl 3 rfl) ?_
      refine lv_aload_n hx hb dX4_whoIsOn_5 rfl (lv_at hl 0 rfl) ?_
      refine fg_get (C := RX4) (T := TX4) (N := 22) S vu_X4 hK h fg_p4_0 rfl rfl 0 (by decide) vf_RX4_9 rfl rfl dX4_whoIsOn_6 ?_
      refine lv_iconst (v := 1) hx hb dX4_whoIsOn_9 rfl ?_
      refine fg_ialdL (j := 1) hx hb hK h fg_p4_1 (fun _ => rfl) (by decide) rfl dX4_whoIsOn_10 ?_
      refine lv_icmp_ge (tgt := 40) hx hb dX4_whoIsOn_11 (by decide) (fun hc => ?_) (fun hc => ?_)
      · have hf := fg_ifT hf hc
        exact hK_4 v2_4 v3_4 w_4 _ _ ls h (lv_sub hl [0, 1, 2, 3] rfl) hf
      · have hf := fg_ifF hf hc
        refine lv_iload_n hx hb dX4_whoIsOn_14 rfl (lv_at hl 2 rfl) ?_
        refine lv_aload_n hx hb dX4_whoIsOn_15 rfl (lv_at hl 0 rfl) ?_
        refine lv_iload_n hx hb dX4_whoIsOn_16 rfl (lv_at hl 3 rfl) ?_
        refine lv_iconst (v := 1) hx hb dX4_whoIsOn_17 rfl ?_
        obtain ⟨r8, w6, hc7, hf⟩ := fg_biE hf
        refine fg_ci h (fg_runV (rest := [.int v2_4]) S hK h (c_X4_get l D g v3_4 1  w_4 r8 w6 hc7) vg_RX4_65 vd_X4_get ⟨by decide, by decide⟩ fg_p4_0 rfl rfl rfl hl.1 rfl (Nat.le_of_ble_eq_true rfl) dX4_whoIsOn_18 ⟨Nat.zero_le _, Nat.zero_le _⟩) (fun H locs h => ?_)
        refine lv_iload_n hx hb dX4_whoIsOn_21 rfl (lv_at hl 1 rfl) ?_
        refine lv_icmp_ne (tgt := 31) hx hb dX4_whoIsOn_22 (by decide) (fun hc => ?_) (fun hc => ?_)
        · have hf := fg_ifF hf hc
          refine lv_iconst (v := 0) hx hb dX4_whoIsOn_31 rfl ?_
          refine lv_ior hx hb dX4_whoIsOn_32 ?_
          refine lv_topi (fun x9 e_x9 => ?_)
          have hf := fg_letE e_x9 hf
          refine lv_istore_n (lv' := [(2, .int x9), (0, .ref (g.1 4 0 0)), (1, .int a1), (3, .int v3_4)]) hx hb dX4_whoIsOn_33 rfl hl (by decide) rfl (fun ls hl => ?_)
          refine lv_iinc (v := (v3_4 + 1)) (lv' := [(3, .int (v3_4 + 1)), (2, .int x9), (0, .ref (g.1 4 0 0)), (1, .int a1)]) hx hb dX4_whoIsOn_34 hl (k := 3) rfl rfl (by decide) rfl (fun ls hl => ?_)
          refine lv_goto (tgt := 4) hx hb dX4_whoIsOn_37 (by decide) ?_
          exact ih_4 x9 (v3_4 + 1) w6 _ _ ls h (lv_sub hl [2, 3, 1, 0] rfl) hf
        · have hf := fg_ifT hf hc
          refine lv_iconst (v := 1) hx hb dX4_whoIsOn_25 rfl ?_
          refine lv_iload_n hx hb dX4_whoIsOn_26 rfl (lv_at hl 3 rfl) ?_
          refine lv_ishl hx hb dX4_whoIsOn_27 ?_
          refine lv_goto (tgt := 32) hx hb dX4_whoIsOn_28 (by decide) ?_
          refine lv_ior hx hb dX4_whoIsOn_32 ?_
          refine lv_topi (fun x10 e_x10 => ?_)
          have hf := fg_letE e_x10 hf
          refine lv_istore_n (lv' := [(2, .int x10), (0, .ref (g.1 4 0 0)), (1, .int a1), (3, .int v3_4)]) hx hb dX4_whoIsOn_33 rfl hl (by decide) rfl (fun ls hl => ?_)
          refine lv_iinc (v := (v3_4 + 1)) (lv' := [(3, .int (v3_4 + 1)), (2, .int x10), (0, .ref (g.1 4 0 0)), (1, .int a1)]) hx hb dX4_whoIsOn_34 hl (k := 3) rfl rfl (by decide) rfl (fun ls hl => ?_)
          refine lv_goto (tgt := 4) hx hb dX4_whoIsOn_37 (by decide) ?_
          exact ih_4 x10 (v3_4 + 1) w6 _ _ ls h (lv_sub hl [2, 3, 1, 0] rfl) hf
  exact hL_4 _ hK_4 fg_fuel 0 0 w _ _ ls h (lv_sub hl [2, 3, 1, 0] rfl) hf
set_option maxHeartbeats 4000000 in
set_option maxRecDepth 100000 in
theorem c_X4_bits (l : Launch) (D : va_G) (g : fg_G) (a1 : Int32) (w : fg_W) (r : Int32) (w' : fg_W) (hf : f_X4_bits a1 w = some (r, w')) : fg_M l yX4_bits cX4_bits 3 (some .int) 0 0 D g [.int a1] w (fg_Qi D g r w') := by
  refine fg_M.of rfl (Nat.le_of_ble_eq_true rfl) (fun p e s m below meth c ls S hr hlk hK h hl => ?_)
  have hx := S.1
  have hb := S.2.1
  have hl : lv_has ls 3 [(0, .int a1)] := hl
  unfold f_X4_bits at hf
  refine lv_iconst (v := 0) hx hb dX4_bits_0 rfl ?_
  refine lv_istore_n (lv' := [(1, .int 0), (0, .int a1)]) hx hb dX4_bits_1 rfl hl (by decide) rfl (fun ls hl => ?_)
  refine lv_iload_n hx hb dX4_bits_2 rfl (lv_at hl 1 rfl) ?_
  refine lv_istore_n (lv' := [(2, .int a1), (1, .int 0), (0, .int a1)]) hx hb dX4_bits_3 rfl hl (by decide) rfl (fun ls hl => ?_)
  have hK_4 : ∀ (v1_4 : Int32) (v2_4 : Int32) (w_4 : fg_W) (H : Heap) (locs : List Loc) (ls : Array Slot), fg_H D g s.heap w_4 H locs → lv_has ls 3 [(0, .int a1), (1, .int v1_4), (2, .int v2_4)] → (some (v1_4, w_4)) = some (r, w') → fg_Gi p l e 0 0 s m [.int a1] below meth c D g r w' H locs 20 ls [] := by
    intro v1_4 v2_4 w_4 H locs ls h hl hf
    refine lv_iload_n hx hb dX4_bits_20 rfl (lv_at hl 1 rfl) ?_
    exact fg_reti hx hb hr hlk hK h hf dX4_bits_21
  have hL_4 : ∀ (KK_4 : Int32 → Int32 → fg_W → Option (Int32 × fg_W)) (hK_4 : ∀ (v1_4 : Int32) (v2_4 : Int32) (w_4 : fg_W) (H : Heap) (locs : List Loc) (ls : Array Slot), fg_H D g s.heap w_4 H locs → lv_has ls 3 [(0, .int a1), (1, .int v1_4), (2, .int v2_4)] → KK_4 v1_4 v2_4 w_4 = some (r, w') → fg_Gi p l e 0 0 s m [.int a1] below meth c D g r w' H locs 20 ls []) (n : Nat) (v1_4 : Int32) (v2_4 : Int32) (w_4 : fg_W) (H : Heap) (locs : List Loc) (ls : Array Slot), fg_H D g s.heap w_4 H locs → lv_has ls 3 [(0, .int a1), (1, .int v1_4), (2, .int v2_4)] → f_X4_bits_L4  KK_4 n v1_4 v2_4 w_4 = some (r, w') → fg_Gi p l e 0 0 s m [.int a1] below meth c D g r w' H locs 4 ls [] := by
    intro KK_4 hK_4 n
    induction n with
    | zero => intro v1_4 v2_4 w_4 H locs ls h hl hf; exact fg_no hf
    | succ n_4 ih_4 =>
      intro v1_4 v2_4 w_4 H locs ls h hl hf
      unfold f_X4_bits_L4 at hf
      refine lv_iload_n hx hb dX4_bits_4 rfl (lv_at hl 2 rfl) ?_
      refine lv_if_eq (tgt := 20) hx hb dX4_bits_5 (by decide) (fun hc => ?_) (fun hc => ?_)
      · have hf := fg_ifT hf hc
        exact hK_4 v1_4 v2_4 w_4 _ _ ls h (lv_sub hl [0, 1, 2] rfl) hf
      · have hf := fg_ifF hf hc
        refine lv_iinc (v := (v1_4 + 1)) (lv' := [(1, .int (v1_4 + 1)), (0, .int a1), (2, .int v2_4)]) hx hb dX4_bits_8 hl (k := 1) rfl rfl (by decide) rfl (fun ls hl => ?_)
        refine lv_iload_n hx hb dX4_bits_11 rfl (lv_at hl 2 rfl) ?_
        refine lv_iload_n hx hb dX4_bits_12 rfl (lv_at hl 2 rfl) ?_
        refine lv_iconst (v := 1) hx hb dX4_bits_13 rfl ?_
        refine lv_isub hx hb dX4_bits_14 ?_
        refine lv_iand hx hb dX4_bits_15 ?_
        refine lv_topi (fun x2 e_x2 => ?_)
        have hf := fg_letE e_x2 hf
        refine lv_istore_n (lv' := [(2, .int x2), (1, .int (v1_4 + 1)), (0, .int a1)]) hx hb dX4_bits_16 rfl hl (by decide) rfl (fun ls hl => ?_)
        refine lv_goto (tgt := 4) hx hb dX4_bits_17 (by decide) ?_
        exact ih_4 (v1_4 + 1) x2 w_4 _ _ ls h (lv_sub hl [2, 1, 0] rfl) hf
  exact hL_4 _ hK_4 fg_fuel 0 a1 w _ _ ls h (lv_sub hl [2, 1, 0] rfl) hf
set_option maxHeartbeats 4000000 in
set_option maxRecDepth 100000 in
theorem c_X4_trustOf (l : Launch) (D : va_G) (g : fg_G) (a1 : Int32) (a2 : Int32) (w : fg_W) (r : Int32) (w' : fg_W) (hf : f_X4_trustOf a1 a2 w = some (r, w')) : fg_M l yX4_trustOf cX4_trustOf 5 (some .int) 2 45 D g [.ref (g.1 4 0 0), .int a1, .int a2] w (fg_Qi D g r w') := by
  refine fg_M.of rfl (Nat.le_of_ble_eq_true rfl) (fun p e s m below meth c ls S hr hlk hK h hl => ?_)
  have hx := S.1
  have hb := S.2.1
  have hl : lv_has ls 5 [(0, .ref (g.1 4 0 0)), (1, .int a1), (2, .int a2)] := hl
  unfold f_X4_trustOf at hf
  refine lv_aload_n hx hb dX4_trustOf_0 rfl (lv_at hl 0 rfl) ?_
  refine lv_iload_n hx hb dX4_trustOf_1 rfl (lv_at hl 1 rfl) ?_
  refine lv_iconst (v := 2) hx hb dX4_trustOf_2 rfl ?_
  obtain ⟨r3, w1, hc2, hf⟩ := fg_biE hf
  refine fg_ci h (fg_runV (rest := []) S hK h (c_X4_get l D g a1 2  w r3 w1 hc2) vg_RX4_65 vd_X4_get ⟨by decide, by decide⟩ fg_p4_0 rfl rfl rfl hl.1 rfl (Nat.le_of_ble_eq_true rfl) dX4_trustOf_3 ⟨Nat.zero_le _, Nat.zero_le _⟩) (fun H locs h => ?_)
  refine lv_iconst (v := 2) hx hb dX4_trustOf_6 rfl ?_
  refine lv_idiv hx hb dX4_trustOf_7 (by decide) ?_
  refine lv_topi (fun x4 e_x4 => ?_)
  have hf := fg_letE e_x4 hf
  refine lv_istore_n (lv' := [(3, .int x4), (0, .ref (g.1 4 0 0)), (1, .int a1), (2, .int a2)]) hx hb dX4_trustOf_8 rfl hl (by decide) rfl (fun ls hl => ?_)
  refine lv_iload_n hx hb dX4_trustOf_9 rfl (lv_at hl 0 rfl) ?_
  refine lv_bipush (v := 10) hx hb dX4_trustOf_10 rfl ?_
  refine lv_icmp_ge (tgt := 19) hx hb dX4_trustOf_12 (by decide) (fun hc => ?_) (fun hc => ?_)
  · have hf := fg_ifT hf hc
    refine lv_iload_n hx hb dX4_trustOf_19 rfl (lv_at hl 0 rfl) ?_
    refine lv_bipush (v := 10) hx hb dX4_trustOf_20 rfl ?_
    refine lv_isub hx hb dX4_trustOf_22 ?_
    refine lv_topi (fun x5 e_x5 => ?_)
    have hf := fg_letE e_x5 hf
    refine lv_istore (lv' := [(4, .int x5), (3, .int x4), (0, .ref (g.1 4 0 0)), (1, .int a1), (2, .int a2)]) hx hb dX4_trustOf_23 hl (by decide) rfl (fun ls hl => ?_)
    refine lv_aload_n hx hb dX4_trustOf_25 rfl (lv_at hl 2 rfl) ?_
    refine lv_iload_n hx hb dX4_trustOf_26 rfl (lv_at hl 3 rfl) ?_
    refine lv_iconst (v := 0) hx hb dX4_trustOf_27 rfl ?_
    obtain ⟨r8, w6, hc7, hf⟩ := fg_biE hf
    refine fg_ci h (fg_runV (rest := []) S hK h (c_X4_get l D g a1 0  w1 r8 w6 hc7) vg_RX4_65 vd_X4_get ⟨by decide, by decide⟩ fg_p4_0 rfl rfl rfl hl.1 rfl (Nat.le_of_ble_eq_true rfl) dX4_trustOf_28 ⟨Nat.zero_le _, Nat.zero_le _⟩) (fun H locs h => ?_)
    by_cases hq31_1 : r8 = 1
    · refine lv_tableIn (tgt := 68) hx hb dX4_trustOf_31 (by rw [hq31_1]; decide) (by rw [hq31_1]; decide) (off := 37) (by rw [hq31_1]; rfl) (by decide) ?_
      have hf := fg_ifT hf hq31_1
      refine lv_iload_n hx hb dX4_trustOf_68 rfl (lv_at hl 1 rfl) ?_
      refine lv_bipush (v := 20) hx hb dX4_trustOf_69 rfl ?_
      refine lv_iadd hx hb dX4_trustOf_71 ?_
      exact fg_reti hx hb hr hlk hK h hf dX4_trustOf_72
    have hf := fg_ifF hf hq31_1
    by_cases hq31_2 : r8 = 2
    · refine lv_tableIn (tgt := 73) hx hb dX4_trustOf_31 (by rw [hq31_2]; decide) (by rw [hq31_2]; decide) (off := 42) (by rw [hq31_2]; rfl) (by decide) ?_
      have hf := fg_ifT hf hq31_2
      refine lv_iload hx hb dX4_trustOf_73 (lv_at hl 0 rfl) ?_
      exact fg_reti hx hb hr hlk hK h hf dX4_trustOf_75
    have hf := fg_ifF hf hq31_2
    by_cases hq31_3 : r8 = 3
    · refine lv_tableIn (tgt := 76) hx hb dX4_trustOf_31 (by rw [hq31_3]; decide) (by rw [hq31_3]; decide) (off := 45) (by rw [hq31_3]; rfl) (by decide) ?_
      have hf := fg_ifT hf hq31_3
      refine lv_iload hx hb dX4_trustOf_76 (lv_at hl 0 rfl) ?_
      refine lv_aload_n hx hb dX4_trustOf_78 rfl (lv_at hl 2 rfl) ?_
      refine lv_iload_n hx hb dX4_trustOf_79 rfl (lv_at hl 4 rfl) ?_
      refine lv_iconst (v := 2) hx hb dX4_trustOf_80 rfl ?_
      obtain ⟨r11, w9, hc10, hf⟩ := fg_biE hf
      refine fg_ci h (fg_runV (rest := [.int x5]) S hK h (c_X4_of1 l D g a2 2  w6 r11 w9 hc10) vg_RX4_73 vd_X4_of1 ⟨by decide, by decide⟩ fg_p4_0 rfl rfl rfl hl.1 rfl (Nat.le_of_ble_eq_true rfl) dX4_trustOf_81 ⟨Nat.zero_le _, Nat.zero_le _⟩) (fun H locs h => ?_)
      refine lv_iload_n hx hb dX4_trustOf_84 rfl (lv_at hl 3 rfl) ?_
      refine lv_icmp_ne (tgt := 93) hx hb dX4_trustOf_85 (by decide) (fun hc => ?_) (fun hc => ?_)
      · have hf := fg_ifF hf hc
        refine lv_iconst (v := 0) hx hb dX4_trustOf_93 rfl ?_
        refine lv_iadd hx hb dX4_trustOf_94 ?_
        exact fg_reti hx hb hr hlk hK h hf dX4_trustOf_95
      · have hf := fg_ifT hf hc
        refine lv_bipush (v := 30) hx hb dX4_trustOf_88 rfl ?_
        refine lv_goto (tgt := 94) hx hb dX4_trustOf_90 (by decide) ?_
        refine lv_iadd hx hb dX4_trustOf_94 ?_
        exact fg_reti hx hb hr hlk hK h hf dX4_trustOf_95
    have hf := fg_ifF hf hq31_3
    by_cases hq31_4 : r8 = 4
    · refine lv_tableIn (tgt := 96) hx hb dX4_trustOf_31 (by rw [hq31_4]; decide) (by rw [hq31_4]; decide) (off := 65) (by rw [hq31_4]; rfl) (by decide) ?_
      have hf := fg_ifT hf hq31_4
      refine lv_bipush (v := 60) hx hb dX4_trustOf_96 rfl ?_
      exact fg_reti hx hb hr hlk hK h hf dX4_trustOf_98
    have hf := fg_ifF hf hq31_4
    by_cases hq31_5 : r8 = 5
    · refine lv_tableIn (tgt := 99) hx hb dX4_trustOf_31 (by rw [hq31_5]; decide) (by rw [hq31_5]; decide) (off := 68) (by rw [hq31_5]; rfl) (by decide) ?_
      have hf := fg_ifT hf hq31_5
      refine lv_iconst (v := 0) hx hb dX4_trustOf_99 rfl ?_
      exact fg_reti hx hb hr hlk hK h hf dX4_trustOf_100
    have hf := fg_ifF hf hq31_5
    by_cases hq31_6 : r8 = 6
    · refine lv_tableIn (tgt := 101) hx hb dX4_trustOf_31 (by rw [hq31_6]; decide) (by rw [hq31_6]; decide) (off := 70) (by rw [hq31_6]; rfl) (by decide) ?_
      have hf := fg_ifT hf hq31_6
      refine lv_iload_n hx hb dX4_trustOf_101 rfl (lv_at hl 1 rfl) ?_
      refine lv_bipush (v := 20) hx hb dX4_trustOf_102 rfl ?_
      refine lv_iadd hx hb dX4_trustOf_104 ?_
      refine lv_iconst (v := 2) hx hb dX4_trustOf_105 rfl ?_
      refine lv_aload_n hx hb dX4_trustOf_106 rfl (lv_at hl 2 rfl) ?_
      refine lv_iload_n hx hb dX4_trustOf_107 rfl (lv_at hl 4 rfl) ?_
      obtain ⟨r14, w12, hc13, hf⟩ := fg_biE hf
      refine fg_ci h (fg_runV (rest := [.int 2, .int (x4 + 20)]) S hK h (c_X4_whoIsOn l D g a2  w6 r14 w12 hc13) vg_RX4_69 vd_X4_whoIsOn ⟨by decide, by decide⟩ fg_p4_0 rfl rfl rfl hl.1 rfl (Nat.le_of_ble_eq_true rfl) dX4_trustOf_108 ⟨Nat.zero_le _, Nat.zero_le _⟩) (fun H locs h => ?_)
      refine lv_iconst (v := 1) hx hb dX4_trustOf_111 rfl ?_
      refine lv_iload_n hx hb dX4_trustOf_112 rfl (lv_at hl 3 rfl) ?_
      refine lv_ishl hx hb dX4_trustOf_113 ?_
      refine lv_iconst (v := (-1)) hx hb dX4_trustOf_114 rfl ?_
      refine lv_ixor hx hb dX4_trustOf_115 ?_
      refine lv_iand hx hb dX4_trustOf_116 ?_
      obtain ⟨r17, w15, hc16, hf⟩ := fg_biE hf
      refine fg_ci h (fg_runS (rest := [.int 2, .int (x4 + 20)]) S hK h (c_X4_bits l D g (r14 &&& (((1 : Int32) <<< (a1 &&& 31)) ^^^ (-1)))  w12 r17 w15 hc16) vk_X4_bits vm_RX4_76 vs_X4_bits vi_RX4 vd_X4_bits.2 ⟨by decide, by decide⟩ rfl hl.1 rfl (Nat.le_of_ble_eq_true rfl) dX4_trustOf_117 ⟨Nat.zero_le _, Nat.zero_le _⟩) (fun H locs h => ?_)
      refine lv_imul hx hb dX4_trustOf_120 ?_
      refine lv_iadd hx hb dX4_trustOf_121 ?_
      exact fg_reti hx hb hr hlk hK h hf dX4_trustOf_122
    have hf := fg_ifF hf hq31_6
    refine lv_tableOut (tgt := 123) hx hb dX4_trustOf_31 (by have := lv_neT hq31_1 (show (1 : Int32).toInt = 1 from rfl); have := lv_neT hq31_2 (show (2 : Int32).toInt = 2 from rfl); have := lv_neT hq31_3 (show (3 : Int32).toInt = 3 from rfl); have := lv_neT hq31_4 (show (4 : Int32).toInt = 4 from rfl); have := lv_neT hq31_5 (show (5 : Int32).toInt = 5 from rfl); have := lv_neT hq31_6 (show (6 : Int32).toInt = 6 from rfl); omega) (by decide) ?_
    refine lv_iload_n hx hb dX4_trustOf_123 rfl (lv_at hl 1 rfl) ?_
    exact fg_reti hx hb hr hlk hK h hf dX4_trustOf_124
  · have hf := fg_ifF hf hc
    refine lv_iconst (v := 0) hx hb dX4_trustOf_15 rfl ?_
    refine lv_goto (tgt := 23) hx hb dX4_trustOf_16 (by decide) ?_
    refine lv_istore (lv' := [(4, .int 0), (3, .int x4), (0, .ref (g.1 4 0 0)), (1, .int a1), (2, .int a2)]) hx hb dX4_trustOf_23 hl (by decide) rfl (fun ls hl => ?_)
    refine lv_aload_n hx hb dX4_trustOf_25 rfl (lv_at hl 2 rfl) ?_
    refine lv_iload_n hx hb dX4_trustOf_26 rfl (lv_at hl 3 rfl) ?_
    refine lv_iconst (v := 0) hx hb dX4_trustOf_27 rfl ?_
    obtain ⟨r20, w18, hc19, hf⟩ := fg_biE hf
    refine fg_ci h (fg_runV (rest := []) S hK h (c_X4_get l D g a1 0  w1 r20 w18 hc19) vg_RX4_65 vd_X4_get ⟨by decide, by decide⟩ fg_p4_0 rfl rfl rfl hl.1 rfl (Nat.le_of_ble_eq_true rfl) dX4_trustOf_28 ⟨Nat.zero_le _, Nat.zero_le _⟩) (fun H locs h => ?_)
    by_cases hq31_1 : r20 = 1
    · refine lv_tableIn (tgt := 68) hx hb dX4_trustOf_31 (by rw [hq31_1]; decide) (by rw [hq31_1]; decide) (off := 37) (by rw [hq31_1]; rfl) (by decide) ?_
      have hf := fg_ifT hf hq31_1
      refine lv_iload_n hx hb dX4_trustOf_68 rfl (lv_at hl 1 rfl) ?_
      refine lv_bipush (v := 20) hx hb dX4_trustOf_69 rfl ?_
      refine lv_iadd hx hb dX4_trustOf_71 ?_
      exact fg_reti hx hb hr hlk hK h hf dX4_trustOf_72
    have hf := fg_ifF hf hq31_1
    by_cases hq31_2 : r20 = 2
    · refine lv_tableIn (tgt := 73) hx hb dX4_trustOf_31 (by rw [hq31_2]; decide) (by rw [hq31_2]; decide) (off := 42) (by rw [hq31_2]; rfl) (by decide) ?_
      have hf := fg_ifT hf hq31_2
      refine lv_iload hx hb dX4_trustOf_73 (lv_at hl 0 rfl) ?_
      exact fg_reti hx hb hr hlk hK h hf dX4_trustOf_75
    have hf := fg_ifF hf hq31_2
    by_cases hq31_3 : r20 = 3
    · refine lv_tableIn (tgt := 76) hx hb dX4_trustOf_31 (by rw [hq31_3]; decide) (by rw [hq31_3]; decide) (off := 45) (by rw [hq31_3]; rfl) (by decide) ?_
      have hf := fg_ifT hf hq31_3
      refine lv_iload hx hb dX4_trustOf_76 (lv_at hl 0 rfl) ?_
      refine lv_aload_n hx hb dX4_trustOf_78 rfl (lv_at hl 2 rfl) ?_
      refine lv_iload_n hx hb dX4_trustOf_79 rfl (lv_at hl 4 rfl) ?_
      refine lv_iconst (v := 2) hx hb dX4_trustOf_80 rfl ?_
      obtain ⟨r23, w21, hc22, hf⟩ := fg_biE hf
      refine fg_ci h (fg_runV (rest := [.int 0]) S hK h (c_X4_of1 l D g a2 2  w18 r23 w21 hc22) vg_RX4_73 vd_X4_of1 ⟨by decide, by decide⟩ fg_p4_0 rfl rfl rfl hl.1 rfl (Nat.le_of_ble_eq_true rfl) dX4_trustOf_81 ⟨Nat.zero_le _, Nat.zero_le _⟩) (fun H locs h => ?_)
      refine lv_iload_n hx hb dX4_trustOf_84 rfl (lv_at hl 3 rfl) ?_
      refine lv_icmp_ne (tgt := 93) hx hb dX4_trustOf_85 (by decide) (fun hc => ?_) (fun hc => ?_)
      · have hf := fg_ifF hf hc
        refine lv_iconst (v := 0) hx hb dX4_trustOf_93 rfl ?_
        refine lv_iadd hx hb dX4_trustOf_94 ?_
        exact fg_reti hx hb hr hlk hK h hf dX4_trustOf_95
      · have hf := fg_ifT hf hc
        refine lv_bipush (v := 30) hx hb dX4_trustOf_88 rfl ?_
        refine lv_goto (tgt := 94) hx hb dX4_trustOf_90 (by decide) ?_
        refine lv_iadd hx hb dX4_trustOf_94 ?_
        exact fg_reti hx hb hr hlk hK h hf dX4_trustOf_95
    have hf := fg_ifF hf hq31_3
    by_cases hq31_4 : r20 = 4
    · refine lv_tableIn (tgt := 96) hx hb dX4_trustOf_31 (by rw [hq31_4]; decide) (by rw [hq31_4]; decide) (off := 65) (by rw [hq31_4]; rfl) (by decide) ?_
      have hf := fg_ifT hf hq31_4
      refine lv_bipush (v := 60) hx hb dX4_trustOf_96 rfl ?_
      exact fg_reti hx hb hr hlk hK h hf dX4_trustOf_98
    have hf := fg_ifF hf hq31_4
    by_cases hq31_5 : r20 = 5
    · refine lv_tableIn (tgt := 99) hx hb dX4_trustOf_31 (by rw [hq31_5]; decide) (by rw [hq31_5]; decide) (off := 68) (by rw [hq31_5]; rfl) (by decide) ?_
      have hf := fg_ifT hf hq31_5
      refine lv_iconst (v := 0) hx hb dX4_trustOf_99 rfl ?_
      exact fg_reti hx hb hr hlk hK h hf dX4_trustOf_100
    have hf := fg_ifF hf hq31_5
    by_cases hq31_6 : r20 = 6
    · refine lv_tableIn (tgt := 101) hx hb dX4_trustOf_31 (by rw [hq31_6]; decide) (by rw [hq31_6]; decide) (off := 70) (by rw [hq31_6]; rfl) (by decide) ?_
      have hf := fg_ifT hf hq31_6
      refine lv_iload_n hx hb dX4_trustOf_101 rfl (lv_at hl 1 rfl) ?_
      refine lv_bipush (v := 20) hx hb dX4_trustOf_102 rfl ?_
      refine lv_iadd hx hb dX4_trustOf_104 ?_
      refine lv_iconst (v := 2) hx hb dX4_trustOf_105 rfl ?_
      refine lv_aload_n hx hb dX4_trustOf_106 rfl (lv_at hl 2 rfl) ?_
      refine lv_iload_n hx hb dX4_trustOf_107 rfl (lv_at hl 4 rfl) ?_
      obtain ⟨r26, w24, hc25, hf⟩ := fg_biE hf
      refine fg_ci h (fg_runV (rest := [.int 2, .int (x4 + 20)]) S hK h (c_X4_whoIsOn l D g a2  w18 r26 w24 hc25) vg_RX4_69 vd_X4_whoIsOn ⟨by decide, by decide⟩ fg_p4_0 rfl rfl rfl hl.1 rfl (Nat.le_of_ble_eq_true rfl) dX4_trustOf_108 ⟨Nat.zero_le _, Nat.zero_le _⟩) (fun H locs h => ?_)
      refine lv_iconst (v := 1) hx hb dX4_trustOf_111 rfl ?_
      refine lv_iload_n hx hb dX4_trustOf_112 rfl (lv_at hl 3 rfl) ?_
      refine lv_ishl hx hb dX4_trustOf_113 ?_
      refine lv_iconst (v := (-1)) hx hb dX4_trustOf_114 rfl ?_
      refine lv_ixor hx hb dX4_trustOf_115 ?_
      refine lv_iand hx hb dX4_trustOf_116 ?_
      obtain ⟨r29, w27, hc28, hf⟩ := fg_biE hf
      refine fg_ci h (fg_runS (rest := [.int 2, .int (x4 + 20)]) S hK h (c_X4_bits l D g (r26 &&& (((1 : Int32) <<< (a1 &&& 31)) ^^^ (-1)))  w24 r29 w27 hc28) vk_X4_bits vm_RX4_76 vs_X4_bits vi_RX4 vd_X4_bits.2 ⟨by decide, by decide⟩ rfl hl.1 rfl (Nat.le_of_ble_eq_true rfl) dX4_trustOf_117 ⟨Nat.zero_le _, Nat.zero_le _⟩) (fun H locs h => ?_)
      refine lv_imul hx hb dX4_trustOf_120 ?_
      refine lv_iadd hx hb dX4_trustOf_121 ?_
      exact fg_reti hx hb hr hlk hK h hf dX4_trustOf_122
    have hf := fg_ifF hf hq31_6
    refine lv_tableOut (tgt := 123) hx hb dX4_trustOf_31 (by have := lv_neT hq31_1 (show (1 : Int32).toInt = 1 from rfl); have := lv_neT hq31_2 (show (2 : Int32).toInt = 2 from rfl); have := lv_neT hq31_3 (show (3 : Int32).toInt = 3 from rfl); have := lv_neT hq31_4 (show (4 : Int32).toInt = 4 from rfl); have := lv_neT hq31_5 (show (5 : Int32).toInt = 5 from rfl); have := lv_neT hq31_6 (show (6 : Int32).toInt = 6 from rfl); omega) (by decide) ?_
    refine lv_iload_n hx hb dX4_trustOf_123 rfl (lv_at hl 1 rfl) ?_
    exact fg_reti hx hb hr hlk hK h hf dX4_trustOf_124
set_option maxHeartbeats 4000000 in
set_option maxRecDepth 100000 in
theorem c_X4_stands (l : Launch) (D : va_G) (g : fg_G) (a1 : Int32) (a2 : Int32) (w : fg_W) (r : Int32) (w' : fg_W) (hf : f_X4_stands a1 a2 w = some (r, w')) : fg_M l yX4_stands cX4_stands 3 (some .boolean) 3 69 D g [.ref (g.1 4 0 0), .int a1, .int a2] w (fg_Qi D g r w') := by
  refine fg_M.of rfl (Nat.le_of_ble_eq_true rfl) (fun p e s m below meth c ls S hr hlk hK h hl => ?_)
  have hx := S.1
  have hb := S.2.1
  have hl : lv_has ls 3 [(0, .ref (g.1 4 0 0)), (1, .int a1), (2, .int a2)] := hl
  unfold f_X4_stands at hf
  refine lv_aload_n hx hb dX4_stands_0 rfl (lv_at hl 0 rfl) ?_
  refine lv_iload_n hx hb dX4_stands_1 rfl (lv_at hl 2 rfl) ?_
  refine lv_iconst (v := 0) hx hb dX4_stands_2 rfl ?_
  obtain ⟨r3, w1, hc2, hf⟩ := fg_biE hf
  refine fg_ci h (fg_runV (rest := []) S hK h (c_X4_of1 l D g a2 0  w r3 w1 hc2) vg_RX4_73 vd_X4_of1 ⟨by decide, by decide⟩ fg_p4_0 rfl rfl rfl hl.1 rfl (Nat.le_of_ble_eq_true rfl) dX4_stands_3 ⟨Nat.zero_le _, Nat.zero_le _⟩) (fun H locs h => ?_)
  refine lv_aload_n hx hb dX4_stands_6 rfl (lv_at hl 0 rfl) ?_
  refine lv_iload_n hx hb dX4_stands_7 rfl (lv_at hl 1 rfl) ?_
  refine lv_iload_n hx hb dX4_stands_8 rfl (lv_at hl 2 rfl) ?_
  obtain ⟨r6, w4, hc5, hf⟩ := fg_biE hf
  refine fg_ci h (fg_runV (rest := [.int r3]) S hK h (c_X4_trustOf l D g a1 a2  w1 r6 w4 hc5) vg_RX4_79 vd_X4_trustOf ⟨by decide, by decide⟩ fg_p4_0 rfl rfl rfl hl.1 rfl (Nat.le_of_ble_eq_true rfl) dX4_stands_9 ⟨Nat.zero_le _, Nat.zero_le _⟩) (fun H locs h => ?_)
  refine lv_iadd hx hb dX4_stands_12 ?_
  refine lv_bipush (v := 60) hx hb dX4_stands_13 rfl ?_
  refine lv_icmp_lt (tgt := 22) hx hb dX4_stands_15 (by decide) (fun hc => ?_) (fun hc => ?_)
  · have hf := fg_ifT hf hc
    refine lv_iconst (v := 0) hx hb dX4_stands_22 rfl ?_
    exact fg_retz hx hb hr hlk hK h hf (by decide) dX4_stands_23
  · have hf := fg_ifF hf hc
    refine lv_iconst (v := 1) hx hb dX4_stands_18 rfl ?_
    refine lv_goto (tgt := 23) hx hb dX4_stands_19 (by decide) ?_
    exact fg_retz hx hb hr hlk hK h hf (by decide) dX4_stands_23
set_option maxHeartbeats 4000000 in
set_option maxRecDepth 100000 in
theorem c_X4_standing (l : Launch) (D : va_G) (g : fg_G) (a1 : Int32) (w : fg_W) (r : Int32) (w' : fg_W) (hf : f_X4_standing a1 w = some (r, w')) : fg_M l yX4_standing cX4_standing 4 (some .int) 4 91 D g [.ref (g.1 4 0 0), .int a1] w (fg_Qi D g r w') := by
  refine fg_M.of rfl (Nat.le_of_ble_eq_true rfl) (fun p e s m below meth c ls S hr hlk hK h hl => ?_)
  have hx := S.1
  have hb := S.2.1
  have hl : lv_has ls 4 [(0, .ref (g.1 4 0 0)), (1, .int a1)] := hl
  unfold f_X4_standing at hf
  refine lv_iconst (v := 0) hx hb dX4_standing_0 rfl ?_
  refine lv_istore_n (lv' := [(2, .int 0), (0, .ref (g.1 4 0 0)), (1, .int a1)]) hx hb dX4_standing_1 rfl hl (by decide) rfl (fun ls hl => ?_)
  refine lv_iconst (v := 0) hx hb dX4_standing_2 rfl ?_
  refine lv_istore_n (lv' := [(3, .int 0), (2, .int 0), (0, .ref (g.1 4 0 0)), (1, .int a1)]) hx hb dX4_standing_3 rfl hl (by decide) rfl (fun ls hl => ?_)
  have hK_4 : ∀ (v2_4 : Int32) (v3_4 : Int32) (w_4 : fg_W) (H : Heap) (locs : List Loc) (ls : Array Slot), fg_H D g s.heap w_4 H locs → lv_has ls 4 [(0, .ref (g.1 4 0 0)), (1, .int a1), (2, .int v2_4), (3, .int v3_4)] → (some (v2_4, w_4)) = some (r, w') → fg_Gi p l e 4 91 s m [.ref (g.1 4 0 0), .int a1] below meth c D g r w' H locs 39 ls [] := by
    intro v2_4 v3_4 w_4 H locs ls h hl hf
    refine lv_iload_n hx hb dX4_standing_39 rfl (lv_at hl 2 rfl) ?_
    exact fg_reti hx hb hr hlk hK h hf dX4_standing_40
  have hL_4 : ∀ (KK_4 : Int32 → Int32 → fg_W → Option (Int32 × fg_W)) (hK_4 : ∀ (v2_4 : Int32) (v3_4 : Int32) (w_4 : fg_W) (H : Heap) (locs : List Loc) (ls : Array Slot), fg_H D g s.heap w_4 H locs → lv_has ls 4 [(0, .ref (g.1 4 0 0)), (1, .int a1), (2, .int v2_4), (3, .int v3_4)] → KK_4 v2_4 v3_4 w_4 = some (r, w') → fg_Gi p l e 4 91 s m [.ref (g.1 4 0 0), .int a1] below meth c D g r w' H locs 39 ls []) (n : Nat) (v2_4 : Int32) (v3_4 : Int32) (w_4 : fg_W) (H : Heap) (locs : List Loc) (ls : Array Slot), fg_H D g s.heap w_4 H locs → lv_has ls 4 [(0, .ref (g.1 4 0 0)), (1, .int a1), (2, .int v2_4), (3, .int v3_4)] → f_X4_standing_L4 a1 KK_4 n v2_4 v3_4 w_4 = some (r, w') → fg_Gi p l e 4 91 s m [.ref (g.1 4 0 0), .int a1] below meth c D g r w' H locs 4 ls [] := by
    intro KK_4 hK_4 n
    induction n with
    | zero => intro v2_4 v3_4 w_4 H locs ls h hl hf; exact fg_no hf
    | succ n_4 ih_4 =>
      intro v2_4 v3_4 w_4 H locs ls h hl hf
      unfold f_X4_standing_L4 at hf
      refine lv_iload_n hx hb dX4_standing_4 rfl (lv_at hl 3 rfl) ?_
      refine lv_aload_n hx hb dX4_standing_5 rfl (lv_at hl 0 rfl) ?_
      refine fg_get (C := RX4) (T := TX4) (N := 22) S vu_X4 hK h fg_p4_0 rfl rfl 0 (by decide) vf_RX4_9 rfl rfl dX4_standing_6 ?_
      refine lv_iconst (v := 1) hx hb dX4_standing_9 rfl ?_
      refine fg_ialdL (j := 1) hx hb hK h fg_p4_1 (fun _ => rfl) (by decide) rfl dX4_standing_10 ?_
      refine lv_icmp_ge (tgt := 39) hx hb dX4_standing_11 (by decide) (fun hc => ?_) (fun hc => ?_)
      · have hf := fg_ifT hf hc
        exact hK_4 v2_4 v3_4 w_4 _ _ ls h (lv_sub hl [0, 1, 2, 3] rfl) hf
      · have hf := fg_ifF hf hc
        refine lv_iload_n hx hb dX4_standing_14 rfl (lv_at hl 2 rfl) ?_
        refine lv_aload_n hx hb dX4_standing_15 rfl (lv_at hl 0 rfl) ?_
        refine lv_iload_n hx hb dX4_standing_16 rfl (lv_at hl 3 rfl) ?_
        refine lv_iload_n hx hb dX4_standing_17 rfl (lv_at hl 1 rfl) ?_
        obtain ⟨r8, w6, hc7, hf⟩ := fg_biE hf
        refine fg_ci h (fg_runV (rest := [.int v2_4]) S hK h (c_X4_stands l D g v3_4 a1  w_4 r8 w6 hc7) vg_RX4_82 vd_X4_stands ⟨by decide, by decide⟩ fg_p4_0 rfl rfl rfl hl.1 rfl (Nat.le_of_ble_eq_true rfl) dX4_standing_18 ⟨Nat.zero_le _, Nat.zero_le _⟩) (fun H locs h => ?_)
        refine lv_if_eq (tgt := 30) hx hb dX4_standing_21 (by decide) (fun hc => ?_) (fun hc => ?_)
        · have hf := fg_ifT hf hc
          refine lv_iconst (v := 0) hx hb dX4_standing_30 rfl ?_
          refine lv_ior hx hb dX4_standing_31 ?_
          refine lv_topi (fun x9 e_x9 => ?_)
          have hf := fg_letE e_x9 hf
          refine lv_istore_n (lv' := [(2, .int x9), (0, .ref (g.1 4 0 0)), (1, .int a1), (3, .int v3_4)]) hx hb dX4_standing_32 rfl hl (by decide) rfl (fun ls hl => ?_)
          refine lv_iinc (v := (v3_4 + 1)) (lv' := [(3, .int (v3_4 + 1)), (2, .int x9), (0, .ref (g.1 4 0 0)), (1, .int a1)]) hx hb dX4_standing_33 hl (k := 3) rfl rfl (by decide) rfl (fun ls hl => ?_)
          refine lv_goto (tgt := 4) hx hb dX4_standing_36 (by decide) ?_
          exact ih_4 x9 (v3_4 + 1) w6 _ _ ls h (lv_sub hl [2, 3, 1, 0] rfl) hf
        · have hf := fg_ifF hf hc
          refine lv_iconst (v := 1) hx hb dX4_standing_24 rfl ?_
          refine lv_iload_n hx hb dX4_standing_25 rfl (lv_at hl 3 rfl) ?_
          refine lv_ishl hx hb dX4_standing_26 ?_
          refine lv_goto (tgt := 31) hx hb dX4_standing_27 (by decide) ?_
          refine lv_ior hx hb dX4_standing_31 ?_
          refine lv_topi (fun x10 e_x10 => ?_)
          have hf := fg_letE e_x10 hf
          refine lv_istore_n (lv' := [(2, .int x10), (0, .ref (g.1 4 0 0)), (1, .int a1), (3, .int v3_4)]) hx hb dX4_standing_32 rfl hl (by decide) rfl (fun ls hl => ?_)
          refine lv_iinc (v := (v3_4 + 1)) (lv' := [(3, .int (v3_4 + 1)), (2, .int x10), (0, .ref (g.1 4 0 0)), (1, .int a1)]) hx hb dX4_standing_33 hl (k := 3) rfl rfl (by decide) rfl (fun ls hl => ?_)
          refine lv_goto (tgt := 4) hx hb dX4_standing_36 (by decide) ?_
          exact ih_4 x10 (v3_4 + 1) w6 _ _ ls h (lv_sub hl [2, 3, 1, 0] rfl) hf
  exact hL_4 _ hK_4 fg_fuel 0 0 w _ _ ls h (lv_sub hl [2, 3, 1, 0] rfl) hf
set_option maxHeartbeats 4000000 in
set_option maxRecDepth 100000 in
theorem c_X4_lotOf (l : Launch) (D : va_G) (g : fg_G) (a1 : Int32) (a2 : Int32) (w : fg_W) (r : Int32) (w' : fg_W) (hf : f_X4_lotOf a1 a2 w = some (r, w')) : fg_M l yX4_lotOf cX4_lotOf 3 (some .int) 5 114 D g [.ref (g.1 4 0 0), .int a1, .int a2] w (fg_Qi D g r w') := by
  refine fg_M.of rfl (Nat.le_of_ble_eq_true rfl) (fun p e s m below meth c ls S hr hlk hK h hl => ?_)
  have hx := S.1
  have hb := S.2.1
  have hl : lv_has ls 3 [(0, .ref (g.1 4 0 0)), (1, .int a1), (2, .int a2)] := hl
  unfold f_X4_lotOf at hf
  refine lv_iload_n hx hb dX4_lotOf_0 rfl (lv_at hl 1 rfl) ?_
  obtain ⟨r3, w1, hc2, hf⟩ := fg_biE hf
  refine fg_ci h (fg_runS (rest := []) S hK h (c_X4_isLot l D g a1  w r3 w1 hc2) vk_X4_isLot vm_RX4_126 vs_X4_isLot vi_RX4 vd_X4_isLot.2 ⟨by decide, by decide⟩ rfl hl.1 rfl (Nat.le_of_ble_eq_true rfl) dX4_lotOf_1 ⟨Nat.zero_le _, Nat.zero_le _⟩) (fun H locs h => ?_)
  refine lv_if_eq (tgt := 16) hx hb dX4_lotOf_4 (by decide) (fun hc => ?_) (fun hc => ?_)
  · have hf := fg_ifT hf hc
    refine lv_aload_n hx hb dX4_lotOf_16 rfl (lv_at hl 0 rfl) ?_
    refine lv_iconst (v := 0) hx hb dX4_lotOf_17 rfl ?_
    obtain ⟨r6, w4, hc5, hf⟩ := fg_biE hf
    refine fg_ci h (fg_runV (rest := []) S hK h (c_X4_no l D g 0  w1 r6 w4 hc5) vg_RX4_129 vd_X4_no ⟨by decide, by decide⟩ fg_p4_0 rfl rfl rfl hl.1 rfl (Nat.le_of_ble_eq_true rfl) dX4_lotOf_18 ⟨Nat.zero_le _, Nat.zero_le _⟩) (fun H locs h => ?_)
    exact fg_reti hx hb hr hlk hK h hf dX4_lotOf_21
  · have hf := fg_ifF hf hc
    refine lv_iload_n hx hb dX4_lotOf_7 rfl (lv_at hl 2 rfl) ?_
    refine lv_iconst (v := 0) hx hb dX4_lotOf_8 rfl ?_
    refine lv_iconst (v := 4) hx hb dX4_lotOf_9 rfl ?_
    obtain ⟨r9, w7, hc8, hf⟩ := fg_biE hf
    refine fg_ci h (fg_runS (rest := []) S hK h (c_X4_in1 l D g a2 0 4  w1 r9 w7 hc8) vk_X4_in1 vm_RX4_61 vs_X4_in1 vi_RX4 vd_X4_in1.2 ⟨by decide, by decide⟩ rfl hl.1 rfl (Nat.le_of_ble_eq_true rfl) dX4_lotOf_10 ⟨Nat.zero_le _, Nat.zero_le _⟩) (fun H locs h => ?_)
    refine lv_if_ne (tgt := 22) hx hb dX4_lotOf_13 (by decide) (fun hc => ?_) (fun hc => ?_)
    · have hf := fg_ifF hf hc
      refine lv_iload_n hx hb dX4_lotOf_22 rfl (lv_at hl 2 rfl) ?_
      refine lv_iconst (v := 3) hx hb dX4_lotOf_23 rfl ?_
      refine lv_icmp_ge (tgt := 36) hx hb dX4_lotOf_24 (by decide) (fun hc => ?_) (fun hc => ?_)
      · have hf := fg_ifT hf hc
        refine lv_iload_n hx hb dX4_lotOf_36 rfl (lv_at hl 2 rfl) ?_
        refine lv_iconst (v := 3) hx hb dX4_lotOf_37 rfl ?_
        refine lv_icmp_ne (tgt := 49) hx hb dX4_lotOf_38 (by decide) (fun hc => ?_) (fun hc => ?_)
        · have hf := fg_ifF hf hc
          refine lv_aload_n hx hb dX4_lotOf_49 rfl (lv_at hl 0 rfl) ?_
          refine lv_iload_n hx hb dX4_lotOf_50 rfl (lv_at hl 1 rfl) ?_
          obtain ⟨r12, w10, hc11, hf⟩ := fg_biE hf
          refine fg_ci h (fg_runV (rest := []) S hK h (c_X4_standing l D g a1  w7 r12 w10 hc11) vg_RX4_132 vd_X4_standing ⟨by decide, by decide⟩ fg_p4_0 rfl rfl rfl hl.1 rfl (Nat.le_of_ble_eq_true rfl) dX4_lotOf_51 ⟨Nat.zero_le _, Nat.zero_le _⟩) (fun H locs h => ?_)
          exact fg_reti hx hb hr hlk hK h hf dX4_lotOf_54
        · have hf := fg_ifT hf hc
          refine lv_aload_n hx hb dX4_lotOf_41 rfl (lv_at hl 0 rfl) ?_
          refine lv_iload_n hx hb dX4_lotOf_42 rfl (lv_at hl 1 rfl) ?_
          obtain ⟨r15, w13, hc14, hf⟩ := fg_biE hf
          refine fg_ci h (fg_runV (rest := []) S hK h (c_X4_whoIsOn l D g a1  w7 r15 w13 hc14) vg_RX4_69 vd_X4_whoIsOn ⟨by decide, by decide⟩ fg_p4_0 rfl rfl rfl hl.1 rfl (Nat.le_of_ble_eq_true rfl) dX4_lotOf_43 ⟨Nat.zero_le _, Nat.zero_le _⟩) (fun H locs h => ?_)
          refine lv_goto (tgt := 54) hx hb dX4_lotOf_46 (by decide) ?_
          exact fg_reti hx hb hr hlk hK h hf dX4_lotOf_54
      · have hf := fg_ifF hf hc
        refine lv_aload_n hx hb dX4_lotOf_27 rfl (lv_at hl 0 rfl) ?_
        refine lv_iload_n hx hb dX4_lotOf_28 rfl (lv_at hl 1 rfl) ?_
        refine lv_iload_n hx hb dX4_lotOf_29 rfl (lv_at hl 2 rfl) ?_
        obtain ⟨r18, w16, hc17, hf⟩ := fg_biE hf
        refine fg_ci h (fg_runV (rest := []) S hK h (c_X4_of1 l D g a1 a2  w7 r18 w16 hc17) vg_RX4_73 vd_X4_of1 ⟨by decide, by decide⟩ fg_p4_0 rfl rfl rfl hl.1 rfl (Nat.le_of_ble_eq_true rfl) dX4_lotOf_30 ⟨Nat.zero_le _, Nat.zero_le _⟩) (fun H locs h => ?_)
        refine lv_goto (tgt := 54) hx hb dX4_lotOf_33 (by decide) ?_
        exact fg_reti hx hb hr hlk hK h hf dX4_lotOf_54
    · have hf := fg_ifT hf hc
      refine lv_aload_n hx hb dX4_lotOf_16 rfl (lv_at hl 0 rfl) ?_
      refine lv_iconst (v := 0) hx hb dX4_lotOf_17 rfl ?_
      obtain ⟨r21, w19, hc20, hf⟩ := fg_biE hf
      refine fg_ci h (fg_runV (rest := []) S hK h (c_X4_no l D g 0  w7 r21 w19 hc20) vg_RX4_129 vd_X4_no ⟨by decide, by decide⟩ fg_p4_0 rfl rfl rfl hl.1 rfl (Nat.le_of_ble_eq_true rfl) dX4_lotOf_18 ⟨Nat.zero_le _, Nat.zero_le _⟩) (fun H locs h => ?_)
      exact fg_reti hx hb hr hlk hK h hf dX4_lotOf_21
set_option maxHeartbeats 4000000 in
set_option maxRecDepth 100000 in
theorem c_X4_sun (l : Launch) (D : va_G) (g : fg_G) (a1 : Int32) (a2 : Int32) (w : fg_W) (r : Int32) (w' : fg_W) (hf : f_X4_sun a1 a2 w = some (r, w')) : fg_M l yX4_sun cX4_sun 4 (some .int) 1 22 D g [.ref (g.1 4 0 0), .int a1, .int a2] w (fg_Qi D g r w') := by
  refine fg_M.of rfl (Nat.le_of_ble_eq_true rfl) (fun p e s m below meth c ls S hr hlk hK h hl => ?_)
  have hx := S.1
  have hb := S.2.1
  have hl : lv_has ls 4 [(0, .ref (g.1 4 0 0)), (1, .int a1), (2, .int a2)] := hl
  unfold f_X4_sun at hf
  refine lv_iload_n hx hb dX4_sun_0 rfl (lv_at hl 1 rfl) ?_
  refine lv_iconst (v := 0) hx hb dX4_sun_1 rfl ?_
  refine lv_iconst (v := 5) hx hb dX4_sun_2 rfl ?_
  obtain ⟨r3, w1, hc2, hf⟩ := fg_biE hf
  refine fg_ci h (fg_runS (rest := []) S hK h (c_X4_in1 l D g a1 0 5  w r3 w1 hc2) vk_X4_in1 vm_RX4_61 vs_X4_in1 vi_RX4 vd_X4_in1.2 ⟨by decide, by decide⟩ rfl hl.1 rfl (Nat.le_of_ble_eq_true rfl) dX4_sun_3 ⟨Nat.zero_le _, Nat.zero_le _⟩) (fun H locs h => ?_)
  refine lv_if_eq (tgt := 19) hx hb dX4_sun_6 (by decide) (fun hc => ?_) (fun hc => ?_)
  · have hf := fg_ifT hf hc
    refine lv_aload_n hx hb dX4_sun_19 rfl (lv_at hl 0 rfl) ?_
    refine lv_iconst (v := 0) hx hb dX4_sun_20 rfl ?_
    obtain ⟨r6, w4, hc5, hf⟩ := fg_biE hf
    refine fg_ci h (fg_runV (rest := []) S hK h (c_X4_no l D g 0  w1 r6 w4 hc5) vg_RX4_129 vd_X4_no ⟨by decide, by decide⟩ fg_p4_0 rfl rfl rfl hl.1 rfl (Nat.le_of_ble_eq_true rfl) dX4_sun_21 ⟨Nat.zero_le _, Nat.zero_le _⟩) (fun H locs h => ?_)
    exact fg_reti hx hb hr hlk hK h hf dX4_sun_24
  · have hf := fg_ifF hf hc
    refine lv_iload_n hx hb dX4_sun_9 rfl (lv_at hl 2 rfl) ?_
    refine lv_iconst (v := 0) hx hb dX4_sun_10 rfl ?_
    refine lv_bipush (v := 40) hx hb dX4_sun_11 rfl ?_
    obtain ⟨r9, w7, hc8, hf⟩ := fg_biE hf
    refine fg_ci h (fg_runS (rest := []) S hK h (c_X4_in1 l D g a2 0 40  w1 r9 w7 hc8) vk_X4_in1 vm_RX4_61 vs_X4_in1 vi_RX4 vd_X4_in1.2 ⟨by decide, by decide⟩ rfl hl.1 rfl (Nat.le_of_ble_eq_true rfl) dX4_sun_13 ⟨Nat.zero_le _, Nat.zero_le _⟩) (fun H locs h => ?_)
    refine lv_if_ne (tgt := 25) hx hb dX4_sun_16 (by decide) (fun hc => ?_) (fun hc => ?_)
    · have hf := fg_ifF hf hc
      refine lv_aload_n hx hb dX4_sun_25 rfl (lv_at hl 0 rfl) ?_
      refine fg_get (C := RX4) (T := TX4) (N := 22) S vu_X4 hK h fg_p4_0 rfl rfl 0 (by decide) vf_RX4_9 rfl rfl dX4_sun_26 ?_
      refine lv_iconst (v := 4) hx hb dX4_sun_29 rfl ?_
      refine lv_iload_n hx hb dX4_sun_30 rfl (lv_at hl 1 rfl) ?_
      refine lv_iadd hx hb dX4_sun_31 ?_
      obtain ⟨hn10, hf⟩ := fg_gdE hf
      refine fg_iald hx hb hK h fg_p4_1 (fun _ => rfl) hn10 dX4_sun_32 ?_
      refine lv_topi (fun x11 e_x11 => ?_)
      have hf := fg_letE e_x11 hf
      refine lv_istore_n (lv' := [(3, .int x11), (0, .ref (g.1 4 0 0)), (1, .int a1), (2, .int a2)]) hx hb dX4_sun_33 rfl hl (by decide) rfl (fun ls hl => ?_)
      refine lv_aload_n hx hb dX4_sun_34 rfl (lv_at hl 1 rfl) ?_
      refine fg_get (C := RX4) (T := TX4) (N := 22) S vu_X4 hK h fg_p4_0 rfl rfl 0 (by decide) vf_RX4_9 rfl rfl dX4_sun_35 ?_
      refine lv_iconst (v := 4) hx hb dX4_sun_38 rfl ?_
      refine lv_iload_n hx hb dX4_sun_39 rfl (lv_at hl 2 rfl) ?_
      refine lv_iadd hx hb dX4_sun_40 ?_
      refine lv_iload_n hx hb dX4_sun_41 rfl (lv_at hl 3 rfl) ?_
      obtain ⟨hn13, hf⟩ := fg_gdE hf
      refine fg_iast hx hb hK h fg_p4_1 (fun _ => rfl) hn13 dX4_sun_42 (fun w12 H locs ew h => ?_)
      have hf := fg_letE ew hf
      refine lv_iload_n hx hb dX4_sun_43 rfl (lv_at hl 0 rfl) ?_
      exact fg_reti hx hb hr hlk hK h hf dX4_sun_44
    · have hf := fg_ifT hf hc
      refine lv_aload_n hx hb dX4_sun_19 rfl (lv_at hl 0 rfl) ?_
      refine lv_iconst (v := 0) hx hb dX4_sun_20 rfl ?_
      obtain ⟨r16, w14, hc15, hf⟩ := fg_biE hf
      refine fg_ci h (fg_runV (rest := []) S hK h (c_X4_no l D g 0  w7 r16 w14 hc15) vg_RX4_129 vd_X4_no ⟨by decide, by decide⟩ fg_p4_0 rfl rfl rfl hl.1 rfl (Nat.le_of_ble_eq_true rfl) dX4_sun_21 ⟨Nat.zero_le _, Nat.zero_le _⟩) (fun H locs h => ?_)
      exact fg_reti hx hb hr hlk hK h hf dX4_sun_24
set_option maxHeartbeats 4000000 in
set_option maxRecDepth 100000 in
theorem c_X4_mist (l : Launch) (D : va_G) (g : fg_G) (a1 : Int32) (w : fg_W) (r : Int32) (w' : fg_W) (hf : f_X4_mist a1 w = some (r, w')) : fg_M l yX4_mist cX4_mist 3 (some .int) 1 22 D g [.ref (g.1 4 0 0), .int a1] w (fg_Qi D g r w') := by
  refine fg_M.of rfl (Nat.le_of_ble_eq_true rfl) (fun p e s m below meth c ls S hr hlk hK h hl => ?_)
  have hx := S.1
  have hb := S.2.1
  have hl : lv_has ls 3 [(0, .ref (g.1 4 0 0)), (1, .int a1)] := hl
  unfold f_X4_mist at hf
  refine lv_iload_n hx hb dX4_mist_0 rfl (lv_at hl 1 rfl) ?_
  refine lv_iconst (v := 0) hx hb dX4_mist_1 rfl ?_
  refine lv_bipush (v := 40) hx hb dX4_mist_2 rfl ?_
  obtain ⟨r3, w1, hc2, hf⟩ := fg_biE hf
  refine fg_ci h (fg_runS (rest := []) S hK h (c_X4_in1 l D g a1 0 40  w r3 w1 hc2) vk_X4_in1 vm_RX4_61 vs_X4_in1 vi_RX4 vd_X4_in1.2 ⟨by decide, by decide⟩ rfl hl.1 rfl (Nat.le_of_ble_eq_true rfl) dX4_mist_4 ⟨Nat.zero_le _, Nat.zero_le _⟩) (fun H locs h => ?_)
  refine lv_if_ne (tgt := 16) hx hb dX4_mist_7 (by decide) (fun hc => ?_) (fun hc => ?_)
  · have hf := fg_ifF hf hc
    refine lv_aload_n hx hb dX4_mist_16 rfl (lv_at hl 0 rfl) ?_
    refine fg_get (C := RX4) (T := TX4) (N := 22) S vu_X4 hK h fg_p4_0 rfl rfl 0 (by decide) vf_RX4_9 rfl rfl dX4_mist_17 ?_
    refine lv_iconst (v := 3) hx hb dX4_mist_20 rfl ?_
    refine fg_ialdL (j := 3) hx hb hK h fg_p4_1 (fun _ => rfl) (by decide) rfl dX4_mist_21 ?_
    refine lv_topi (fun x4 e_x4 => ?_)
    have hf := fg_letE e_x4 hf
    refine lv_istore_n (lv' := [(2, .int x4), (0, .ref (g.1 4 0 0)), (1, .int a1)]) hx hb dX4_mist_22 rfl hl (by decide) rfl (fun ls hl => ?_)
    refine lv_aload_n hx hb dX4_mist_23 rfl (lv_at hl 1 rfl) ?_
    refine fg_get (C := RX4) (T := TX4) (N := 22) S vu_X4 hK h fg_p4_0 rfl rfl 0 (by decide) vf_RX4_9 rfl rfl dX4_mist_24 ?_
    refine lv_iconst (v := 3) hx hb dX4_mist_27 rfl ?_
    refine lv_iload_n hx hb dX4_mist_28 rfl (lv_at hl 2 rfl) ?_
    refine fg_iastL (j := 3) hx hb hK h fg_p4_1 (fun _ => rfl) (by decide) rfl dX4_mist_29 (fun w5 H locs ew h => ?_)
    have hf := fg_letE ew hf
    refine lv_iload_n hx hb dX4_mist_30 rfl (lv_at hl 0 rfl) ?_
    exact fg_reti hx hb hr hlk hK h hf dX4_mist_31
  · have hf := fg_ifT hf hc
    refine lv_aload_n hx hb dX4_mist_10 rfl (lv_at hl 0 rfl) ?_
    refine lv_iconst (v := 0) hx hb dX4_mist_11 rfl ?_
    obtain ⟨r8, w6, hc7, hf⟩ := fg_biE hf
    refine fg_ci h (fg_runV (rest := []) S hK h (c_X4_no l D g 0  w1 r8 w6 hc7) vg_RX4_129 vd_X4_no ⟨by decide, by decide⟩ fg_p4_0 rfl rfl rfl hl.1 rfl (Nat.le_of_ble_eq_true rfl) dX4_mist_12 ⟨Nat.zero_le _, Nat.zero_le _⟩) (fun H locs h => ?_)
    exact fg_reti hx hb hr hlk hK h hf dX4_mist_15
set_option maxHeartbeats 4000000 in
set_option maxRecDepth 100000 in
theorem c_X4_puts (l : Launch) (D : va_G) (g : fg_G) (a1 : Int32) (a2 : Int32) (a3 : Int32) (w : fg_W) (w' : fg_W) (hf : f_X4_puts a1 a2 a3 w = some w') : fg_M l yX4_puts cX4_puts 4 none 0 0 D g [.ref (g.1 4 0 0), .int a1, .int a2, .int a3] w (fg_Qv D g w') := by
  refine fg_M.of rfl (Nat.le_of_ble_eq_true rfl) (fun p e s m below meth c ls S hr hlk hK h hl => ?_)
  have hx := S.1
  have hb := S.2.1
  have hl : lv_has ls 4 [(0, .ref (g.1 4 0 0)), (1, .int a1), (2, .int a2), (3, .int a3)] := hl
  unfold f_X4_puts at hf
  refine lv_aload_n hx hb dX4_puts_0 rfl (lv_at hl 0 rfl) ?_
  refine fg_get (C := RX4) (T := TX4) (N := 22) S vu_X4 hK h fg_p4_0 rfl rfl 0 (by decide) vf_RX4_9 rfl rfl dX4_puts_1 ?_
  refine lv_bipush (v := 40) hx hb dX4_puts_4 rfl ?_
  refine lv_iconst (v := 5) hx hb dX4_puts_6 rfl ?_
  refine lv_iload_n hx hb dX4_puts_7 rfl (lv_at hl 1 rfl) ?_
  refine lv_imul hx hb dX4_puts_8 ?_
  refine lv_iadd hx hb dX4_puts_9 ?_
  refine lv_iload_n hx hb dX4_puts_10 rfl (lv_at hl 2 rfl) ?_
  refine lv_iadd hx hb dX4_puts_11 ?_
  refine lv_iload_n hx hb dX4_puts_12 rfl (lv_at hl 3 rfl) ?_
  obtain ⟨hn2, hf⟩ := fg_gdE hf
  refine fg_iast hx hb hK h fg_p4_1 (fun _ => rfl) hn2 dX4_puts_13 (fun w1 H locs ew h => ?_)
  have hf := fg_letE ew hf
  exact fg_retv hx hb hr hlk hK h hf dX4_puts_14
set_option maxHeartbeats 4000000 in
set_option maxRecDepth 100000 in
theorem c_X4_adds (l : Launch) (D : va_G) (g : fg_G) (a1 : Int32) (w : fg_W) (w' : fg_W) (hf : f_X4_adds a1 w = some w') : fg_M l yX4_adds cX4_adds 3 none 1 23 D g [.ref (g.1 4 0 0), .int a1] w (fg_Qv D g w') := by
  refine fg_M.of rfl (Nat.le_of_ble_eq_true rfl) (fun p e s m below meth c ls S hr hlk hK h hl => ?_)
  have hx := S.1
  have hb := S.2.1
  have hl : lv_has ls 3 [(0, .ref (g.1 4 0 0)), (1, .int a1)] := hl
  unfold f_X4_adds at hf
  refine lv_aload_n hx hb dX4_adds_0 rfl (lv_at hl 0 rfl) ?_
  refine fg_get (C := RX4) (T := TX4) (N := 22) S vu_X4 hK h fg_p4_0 rfl rfl 0 (by decide) vf_RX4_9 rfl rfl dX4_adds_1 ?_
  refine lv_iconst (v := 1) hx hb dX4_adds_4 rfl ?_
  refine fg_ialdL (j := 1) hx hb hK h fg_p4_1 (fun _ => rfl) (by decide) rfl dX4_adds_5 ?_
  refine lv_topi (fun x1 e_x1 => ?_)
  have hf := fg_letE e_x1 hf
  refine lv_istore_n (lv' := [(2, .int x1), (0, .ref (g.1 4 0 0)), (1, .int a1)]) hx hb dX4_adds_6 rfl hl (by decide) rfl (fun ls hl => ?_)
  refine lv_aload_n hx hb dX4_adds_7 rfl (lv_at hl 1 rfl) ?_
  refine lv_iload_n hx hb dX4_adds_8 rfl (lv_at hl 0 rfl) ?_
  refine lv_iconst (v := 0) hx hb dX4_adds_9 rfl ?_
  refine lv_iload_n hx hb dX4_adds_10 rfl (lv_at hl 2 rfl) ?_
  obtain ⟨w2, hc3, hf⟩ := fg_bvE hf
  refine fg_cv h (fg_runV (rest := []) S hK h (c_X4_puts l D g x1 0 a1  w w2 hc3) vg_RX4_95 vd_X4_puts ⟨by decide, by decide⟩ fg_p4_0 rfl rfl rfl hl.1 rfl (Nat.le_of_ble_eq_true rfl) dX4_adds_11 ⟨Nat.zero_le _, Nat.zero_le _⟩) (fun H locs h => ?_)
  refine lv_aload_n hx hb dX4_adds_14 rfl (lv_at hl 1 rfl) ?_
  refine lv_iload_n hx hb dX4_adds_15 rfl (lv_at hl 0 rfl) ?_
  refine lv_iconst (v := 1) hx hb dX4_adds_16 rfl ?_
  refine lv_iconst (v := (-1)) hx hb dX4_adds_17 rfl ?_
  obtain ⟨w4, hc5, hf⟩ := fg_bvE hf
  refine fg_cv h (fg_runV (rest := []) S hK h (c_X4_puts l D g x1 1 (-1)  w2 w4 hc5) vg_RX4_95 vd_X4_puts ⟨by decide, by decide⟩ fg_p4_0 rfl rfl rfl hl.1 rfl (Nat.le_of_ble_eq_true rfl) dX4_adds_18 ⟨Nat.zero_le _, Nat.zero_le _⟩) (fun H locs h => ?_)
  refine lv_aload_n hx hb dX4_adds_21 rfl (lv_at hl 1 rfl) ?_
  refine lv_iload_n hx hb dX4_adds_22 rfl (lv_at hl 0 rfl) ?_
  refine lv_iconst (v := 2) hx hb dX4_adds_23 rfl ?_
  refine lv_bipush (v := 50) hx hb dX4_adds_24 rfl ?_
  obtain ⟨w6, hc7, hf⟩ := fg_bvE hf
  refine fg_cv h (fg_runV (rest := []) S hK h (c_X4_puts l D g x1 2 50  w4 w6 hc7) vg_RX4_95 vd_X4_puts ⟨by decide, by decide⟩ fg_p4_0 rfl rfl rfl hl.1 rfl (Nat.le_of_ble_eq_true rfl) dX4_adds_26 ⟨Nat.zero_le _, Nat.zero_le _⟩) (fun H locs h => ?_)
  refine lv_aload_n hx hb dX4_adds_29 rfl (lv_at hl 1 rfl) ?_
  refine lv_iload_n hx hb dX4_adds_30 rfl (lv_at hl 0 rfl) ?_
  refine lv_iconst (v := 3) hx hb dX4_adds_31 rfl ?_
  refine lv_bipush (v := 50) hx hb dX4_adds_32 rfl ?_
  obtain ⟨w8, hc9, hf⟩ := fg_bvE hf
  refine fg_cv h (fg_runV (rest := []) S hK h (c_X4_puts l D g x1 3 50  w6 w8 hc9) vg_RX4_95 vd_X4_puts ⟨by decide, by decide⟩ fg_p4_0 rfl rfl rfl hl.1 rfl (Nat.le_of_ble_eq_true rfl) dX4_adds_34 ⟨Nat.zero_le _, Nat.zero_le _⟩) (fun H locs h => ?_)
  refine lv_aload_n hx hb dX4_adds_37 rfl (lv_at hl 1 rfl) ?_
  refine lv_iload_n hx hb dX4_adds_38 rfl (lv_at hl 0 rfl) ?_
  refine lv_iconst (v := 4) hx hb dX4_adds_39 rfl ?_
  refine lv_iconst (v := 0) hx hb dX4_adds_40 rfl ?_
  obtain ⟨w10, hc11, hf⟩ := fg_bvE hf
  refine fg_cv h (fg_runV (rest := []) S hK h (c_X4_puts l D g x1 4 0  w8 w10 hc11) vg_RX4_95 vd_X4_puts ⟨by decide, by decide⟩ fg_p4_0 rfl rfl rfl hl.1 rfl (Nat.le_of_ble_eq_true rfl) dX4_adds_41 ⟨Nat.zero_le _, Nat.zero_le _⟩) (fun H locs h => ?_)
  refine lv_aload_n hx hb dX4_adds_44 rfl (lv_at hl 1 rfl) ?_
  refine fg_get (C := RX4) (T := TX4) (N := 22) S vu_X4 hK h fg_p4_0 rfl rfl 0 (by decide) vf_RX4_9 rfl rfl dX4_adds_45 ?_
  refine lv_iconst (v := 1) hx hb dX4_adds_48 rfl ?_
  refine lv_dup2_11 hx hb dX4_adds_49 rfl rfl ?_
  refine fg_ialdL (j := 1) hx hb hK h fg_p4_1 (fun _ => rfl) (by decide) rfl dX4_adds_50 ?_
  refine lv_iconst (v := 1) hx hb dX4_adds_51 rfl ?_
  refine lv_iadd hx hb dX4_adds_52 ?_
  refine fg_iastL (j := 1) hx hb hK h fg_p4_1 (fun _ => rfl) (by decide) rfl dX4_adds_53 (fun w12 H locs ew h => ?_)
  have hf := fg_letE ew hf
  exact fg_retv hx hb hr hlk hK h hf dX4_adds_54
set_option maxHeartbeats 4000000 in
set_option maxRecDepth 100000 in
theorem c_X4_person (l : Launch) (D : va_G) (g : fg_G) (a1 : Int32) (w : fg_W) (r : Int32) (w' : fg_W) (hf : f_X4_person a1 w = some (r, w')) : fg_M l yX4_person cX4_person 2 (some .int) 2 45 D g [.ref (g.1 4 0 0), .int a1] w (fg_Qi D g r w') := by
  refine fg_M.of rfl (Nat.le_of_ble_eq_true rfl) (fun p e s m below meth c ls S hr hlk hK h hl => ?_)
  have hx := S.1
  have hb := S.2.1
  have hl : lv_has ls 2 [(0, .ref (g.1 4 0 0)), (1, .int a1)] := hl
  unfold f_X4_person at hf
  refine lv_iload_n hx hb dX4_person_0 rfl (lv_at hl 1 rfl) ?_
  refine lv_iconst (v := 0) hx hb dX4_person_1 rfl ?_
  refine lv_bipush (v := 6) hx hb dX4_person_2 rfl ?_
  obtain ⟨r3, w1, hc2, hf⟩ := fg_biE hf
  refine fg_ci h (fg_runS (rest := []) S hK h (c_X4_in1 l D g a1 0 6  w r3 w1 hc2) vk_X4_in1 vm_RX4_61 vs_X4_in1 vi_RX4 vd_X4_in1.2 ⟨by decide, by decide⟩ rfl hl.1 rfl (Nat.le_of_ble_eq_true rfl) dX4_person_4 ⟨Nat.zero_le _, Nat.zero_le _⟩) (fun H locs h => ?_)
  refine lv_if_ne (tgt := 16) hx hb dX4_person_7 (by decide) (fun hc => ?_) (fun hc => ?_)
  · have hf := fg_ifF hf hc
    refine lv_aload_n hx hb dX4_person_16 rfl (lv_at hl 0 rfl) ?_
    refine fg_get (C := RX4) (T := TX4) (N := 22) S vu_X4 hK h fg_p4_0 rfl rfl 0 (by decide) vf_RX4_9 rfl rfl dX4_person_17 ?_
    refine lv_iconst (v := 1) hx hb dX4_person_20 rfl ?_
    refine fg_ialdL (j := 1) hx hb hK h fg_p4_1 (fun _ => rfl) (by decide) rfl dX4_person_21 ?_
    refine lv_bipush (v := 8) hx hb dX4_person_22 rfl ?_
    refine lv_icmp_ne (tgt := 33) hx hb dX4_person_24 (by decide) (fun hc => ?_) (fun hc => ?_)
    · have hf := fg_ifF hf hc
      refine lv_aload_n hx hb dX4_person_33 rfl (lv_at hl 0 rfl) ?_
      refine lv_iload_n hx hb dX4_person_34 rfl (lv_at hl 1 rfl) ?_
      obtain ⟨w4, hc5, hf⟩ := fg_bvE hf
      refine fg_cv h (fg_runV (rest := []) S hK h (c_X4_adds l D g a1  w1 w4 hc5) vg_RX4_135 vd_X4_adds ⟨by decide, by decide⟩ fg_p4_0 rfl rfl rfl hl.1 rfl (Nat.le_of_ble_eq_true rfl) dX4_person_35 ⟨Nat.zero_le _, Nat.zero_le _⟩) (fun H locs h => ?_)
      refine lv_aload_n hx hb dX4_person_38 rfl (lv_at hl 0 rfl) ?_
      refine fg_get (C := RX4) (T := TX4) (N := 22) S vu_X4 hK h fg_p4_0 rfl rfl 0 (by decide) vf_RX4_9 rfl rfl dX4_person_39 ?_
      refine lv_iconst (v := 1) hx hb dX4_person_42 rfl ?_
      refine fg_ialdL (j := 1) hx hb hK h fg_p4_1 (fun _ => rfl) (by decide) rfl dX4_person_43 ?_
      refine lv_iconst (v := 1) hx hb dX4_person_44 rfl ?_
      refine lv_isub hx hb dX4_person_45 ?_
      exact fg_reti hx hb hr hlk hK h hf dX4_person_46
    · have hf := fg_ifT hf hc
      refine lv_aload_n hx hb dX4_person_27 rfl (lv_at hl 0 rfl) ?_
      refine lv_iconst (v := 1) hx hb dX4_person_28 rfl ?_
      obtain ⟨r8, w6, hc7, hf⟩ := fg_biE hf
      refine fg_ci h (fg_runV (rest := []) S hK h (c_X4_no l D g 1  w1 r8 w6 hc7) vg_RX4_129 vd_X4_no ⟨by decide, by decide⟩ fg_p4_0 rfl rfl rfl hl.1 rfl (Nat.le_of_ble_eq_true rfl) dX4_person_29 ⟨Nat.zero_le _, Nat.zero_le _⟩) (fun H locs h => ?_)
      exact fg_reti hx hb hr hlk hK h hf dX4_person_32
  · have hf := fg_ifT hf hc
    refine lv_aload_n hx hb dX4_person_10 rfl (lv_at hl 0 rfl) ?_
    refine lv_iconst (v := 0) hx hb dX4_person_11 rfl ?_
    obtain ⟨r11, w9, hc10, hf⟩ := fg_biE hf
    refine fg_ci h (fg_runV (rest := []) S hK h (c_X4_no l D g 0  w1 r11 w9 hc10) vg_RX4_129 vd_X4_no ⟨by decide, by decide⟩ fg_p4_0 rfl rfl rfl hl.1 rfl (Nat.le_of_ble_eq_true rfl) dX4_person_12 ⟨Nat.zero_le _, Nat.zero_le _⟩) (fun H locs h => ?_)
    exact fg_reti hx hb hr hlk hK h hf dX4_person_15
set_option maxHeartbeats 4000000 in
set_option maxRecDepth 100000 in
theorem c_X4_isPerson (l : Launch) (D : va_G) (g : fg_G) (a1 : Int32) (w : fg_W) (r : Int32) (w' : fg_W) (hf : f_X4_isPerson a1 w = some (r, w')) : fg_M l yX4_isPerson cX4_isPerson 2 (some .boolean) 1 22 D g [.ref (g.1 4 0 0), .int a1] w (fg_Qi D g r w') := by
  refine fg_M.of rfl (Nat.le_of_ble_eq_true rfl) (fun p e s m below meth c ls S hr hlk hK h hl => ?_)
  have hx := S.1
  have hb := S.2.1
  have hl : lv_has ls 2 [(0, .ref (g.1 4 0 0)), (1, .int a1)] := hl
  unfold f_X4_isPerson at hf
  refine lv_iload_n hx hb dX4_isPerson_0 rfl (lv_at hl 1 rfl) ?_
  refine lv_iconst (v := 0) hx hb dX4_isPerson_1 rfl ?_
  refine lv_aload_n hx hb dX4_isPerson_2 rfl (lv_at hl 0 rfl) ?_
  refine fg_get (C := RX4) (T := TX4) (N := 22) S vu_X4 hK h fg_p4_0 rfl rfl 0 (by decide) vf_RX4_9 rfl rfl dX4_isPerson_3 ?_
  refine lv_iconst (v := 1) hx hb dX4_isPerson_6 rfl ?_
  refine fg_ialdL (j := 1) hx hb hK h fg_p4_1 (fun _ => rfl) (by decide) rfl dX4_isPerson_7 ?_
  refine lv_iconst (v := 1) hx hb dX4_isPerson_8 rfl ?_
  refine lv_isub hx hb dX4_isPerson_9 ?_
  obtain ⟨r3, w1, hc2, hf⟩ := fg_biE hf
  refine fg_ci h (fg_runS (rest := []) S hK h (c_X4_in1 l D g a1 0 ((w.1 4 0 1 1) - 1)  w r3 w1 hc2) vk_X4_in1 vm_RX4_61 vs_X4_in1 vi_RX4 vd_X4_in1.2 ⟨by decide, by decide⟩ rfl hl.1 rfl (Nat.le_of_ble_eq_true rfl) dX4_isPerson_10 ⟨Nat.zero_le _, Nat.zero_le _⟩) (fun H locs h => ?_)
  obtain ⟨hz, hf⟩ := fg_gpE hf
  exact fg_retz hx hb hr hlk hK h hf hz dX4_isPerson_13
set_option maxHeartbeats 4000000 in
set_option maxRecDepth 100000 in
theorem c_X4_losesOf (l : Launch) (D : va_G) (g : fg_G) (a1 : Int32) (w : fg_W) (r : Int32) (w' : fg_W) (hf : f_X4_losesOf a1 w = some (r, w')) : fg_M l yX4_losesOf cX4_losesOf 2 (some .int) 1 22 D g [.ref (g.1 4 0 0), .int a1] w (fg_Qi D g r w') := by
  refine fg_M.of rfl (Nat.le_of_ble_eq_true rfl) (fun p e s m below meth c ls S hr hlk hK h hl => ?_)
  have hx := S.1
  have hb := S.2.1
  have hl : lv_has ls 2 [(0, .ref (g.1 4 0 0)), (1, .int a1)] := hl
  unfold f_X4_losesOf at hf
  refine lv_aload_n hx hb dX4_losesOf_0 rfl (lv_at hl 0 rfl) ?_
  refine lv_iload_n hx hb dX4_losesOf_1 rfl (lv_at hl 1 rfl) ?_
  refine lv_iconst (v := 0) hx hb dX4_losesOf_2 rfl ?_
  obtain ⟨r3, w1, hc2, hf⟩ := fg_biE hf
  refine fg_ci h (fg_runV (rest := []) S hK h (c_X4_get l D g a1 0  w r3 w1 hc2) vg_RX4_65 vd_X4_get ⟨by decide, by decide⟩ fg_p4_0 rfl rfl rfl hl.1 rfl (Nat.le_of_ble_eq_true rfl) dX4_losesOf_3 ⟨Nat.zero_le _, Nat.zero_le _⟩) (fun H locs h => ?_)
  by_cases hq6_1 : r3 = 1
  · refine lv_tableIn (tgt := 44) hx hb dX4_losesOf_6 (by rw [hq6_1]; decide) (by rw [hq6_1]; decide) (off := 38) (by rw [hq6_1]; rfl) (by decide) ?_
    have hf := fg_ifT hf hq6_1
    refine lv_iconst (v := 2) hx hb dX4_losesOf_44 rfl ?_
    exact fg_reti hx hb hr hlk hK h hf dX4_losesOf_45
  have hf := fg_ifF hf hq6_1
  by_cases hq6_2 : r3 = 2
  · refine lv_tableIn (tgt := 53) hx hb dX4_losesOf_6 (by rw [hq6_2]; decide) (by rw [hq6_2]; decide) (off := 47) (by rw [hq6_2]; rfl) (by decide) ?_
    have hf := fg_ifT hf hq6_2
    refine lv_bipush (v := 10) hx hb dX4_losesOf_53 rfl ?_
    exact fg_reti hx hb hr hlk hK h hf dX4_losesOf_55
  have hf := fg_ifF hf hq6_2
  by_cases hq6_3 : r3 = 3
  · refine lv_tableIn (tgt := 46) hx hb dX4_losesOf_6 (by rw [hq6_3]; decide) (by rw [hq6_3]; decide) (off := 40) (by rw [hq6_3]; rfl) (by decide) ?_
    have hf := fg_ifT hf hq6_3
    refine lv_iconst (v := 5) hx hb dX4_losesOf_46 rfl ?_
    exact fg_reti hx hb hr hlk hK h hf dX4_losesOf_47
  have hf := fg_ifF hf hq6_3
  by_cases hq6_4 : r3 = 4
  · refine lv_tableIn (tgt := 48) hx hb dX4_losesOf_6 (by rw [hq6_4]; decide) (by rw [hq6_4]; decide) (off := 42) (by rw [hq6_4]; rfl) (by decide) ?_
    have hf := fg_ifT hf hq6_4
    refine lv_iconst (v := 0) hx hb dX4_losesOf_48 rfl ?_
    exact fg_reti hx hb hr hlk hK h hf dX4_losesOf_49
  have hf := fg_ifF hf hq6_4
  by_cases hq6_5 : r3 = 5
  · refine lv_tableIn (tgt := 50) hx hb dX4_losesOf_6 (by rw [hq6_5]; decide) (by rw [hq6_5]; decide) (off := 44) (by rw [hq6_5]; rfl) (by decide) ?_
    have hf := fg_ifT hf hq6_5
    refine lv_bipush (v := 20) hx hb dX4_losesOf_50 rfl ?_
    exact fg_reti hx hb hr hlk hK h hf dX4_losesOf_52
  have hf := fg_ifF hf hq6_5
  by_cases hq6_6 : r3 = 6
  · refine lv_tableIn (tgt := 44) hx hb dX4_losesOf_6 (by rw [hq6_6]; decide) (by rw [hq6_6]; decide) (off := 38) (by rw [hq6_6]; rfl) (by decide) ?_
    have hf := fg_ifT hf hq6_6
    refine lv_iconst (v := 2) hx hb dX4_losesOf_44 rfl ?_
    exact fg_reti hx hb hr hlk hK h hf dX4_losesOf_45
  have hf := fg_ifF hf hq6_6
  refine lv_tableOut (tgt := 53) hx hb dX4_losesOf_6 (by have := lv_neT hq6_1 (show (1 : Int32).toInt = 1 from rfl); have := lv_neT hq6_2 (show (2 : Int32).toInt = 2 from rfl); have := lv_neT hq6_3 (show (3 : Int32).toInt = 3 from rfl); have := lv_neT hq6_4 (show (4 : Int32).toInt = 4 from rfl); have := lv_neT hq6_5 (show (5 : Int32).toInt = 5 from rfl); have := lv_neT hq6_6 (show (6 : Int32).toInt = 6 from rfl); omega) (by decide) ?_
  refine lv_bipush (v := 10) hx hb dX4_losesOf_53 rfl ?_
  exact fg_reti hx hb hr hlk hK h hf dX4_losesOf_55
set_option maxHeartbeats 4000000 in
set_option maxRecDepth 100000 in
theorem c_X4_isBetter (l : Launch) (D : va_G) (g : fg_G) (a1 : Int32) (a2 : Int32) (a3 : Int32) (w : fg_W) (r : Int32) (w' : fg_W) (hf : f_X4_isBetter a1 a2 a3 w = some (r, w')) : fg_M l yX4_isBetter cX4_isBetter 6 (some .boolean) 1 22 D g [.ref (g.1 4 0 0), .int a1, .int a2, .int a3] w (fg_Qi D g r w') := by
  refine fg_M.of rfl (Nat.le_of_ble_eq_true rfl) (fun p e s m below meth c ls S hr hlk hK h hl => ?_)
  have hx := S.1
  have hb := S.2.1
  have hl : lv_has ls 6 [(0, .ref (g.1 4 0 0)), (1, .int a1), (2, .int a2), (3, .int a3)] := hl
  unfold f_X4_isBetter at hf
  refine lv_aload_n hx hb dX4_isBetter_0 rfl (lv_at hl 0 rfl) ?_
  refine lv_iload_n hx hb dX4_isBetter_1 rfl (lv_at hl 1 rfl) ?_
  refine lv_iconst (v := 0) hx hb dX4_isBetter_2 rfl ?_
  obtain ⟨r3, w1, hc2, hf⟩ := fg_biE hf
  refine fg_ci h (fg_runV (rest := []) S hK h (c_X4_get l D g a1 0  w r3 w1 hc2) vg_RX4_65 vd_X4_get ⟨by decide, by decide⟩ fg_p4_0 rfl rfl rfl hl.1 rfl (Nat.le_of_ble_eq_true rfl) dX4_isBetter_3 ⟨Nat.zero_le _, Nat.zero_le _⟩) (fun H locs h => ?_)
  refine lv_istore (lv' := [(4, .int r3), (0, .ref (g.1 4 0 0)), (1, .int a1), (2, .int a2), (3, .int a3)]) hx hb dX4_isBetter_6 hl (by decide) rfl (fun ls hl => ?_)
  refine lv_iload hx hb dX4_isBetter_8 (lv_at hl 0 rfl) ?_
  refine lv_iconst (v := 1) hx hb dX4_isBetter_10 rfl ?_
  refine lv_icmp_le (tgt := 24) hx hb dX4_isBetter_11 (by decide) (fun hc => ?_) (fun hc => ?_)
  · have hf := fg_ifT hf hc
    refine lv_iconst (v := 0) hx hb dX4_isBetter_24 rfl ?_
    refine lv_istore (lv' := [(5, .int 0), (4, .int r3), (0, .ref (g.1 4 0 0)), (1, .int a1), (2, .int a2), (3, .int a3)]) hx hb dX4_isBetter_25 hl (by decide) rfl (fun ls hl => ?_)
    refine lv_iload_n hx hb dX4_isBetter_27 rfl (lv_at hl 5 rfl) ?_
    refine lv_if_lt (tgt := 78) hx hb dX4_isBetter_28 (by decide) (fun hc => ?_) (fun hc => ?_)
    · have hf := fg_ifT hf hc
      refine lv_iconst (v := 1) hx hb dX4_isBetter_78 rfl ?_
      refine lv_goto (tgt := 83) hx hb dX4_isBetter_79 (by decide) ?_
      exact fg_retz hx hb hr hlk hK h hf (by decide) dX4_isBetter_83
    · have hf := fg_ifF hf hc
      refine lv_iload hx hb dX4_isBetter_31 (lv_at hl 0 rfl) ?_
      refine lv_if_eq (tgt := 51) hx hb dX4_isBetter_33 (by decide) (fun hc => ?_) (fun hc => ?_)
      · refine lv_iload hx hb dX4_isBetter_51 (lv_at hl 0 rfl) ?_
        refine lv_if_ne (tgt := 82) hx hb dX4_isBetter_53 (by decide) (fun hc => ?_) (fun hc => ?_)
        · exact absurd hc (by decide)
        · refine lv_iload hx hb dX4_isBetter_56 (lv_at hl 1 rfl) ?_
          refine lv_bipush (v := 6) hx hb dX4_isBetter_58 rfl ?_
          refine lv_icmp_eq (tgt := 82) hx hb dX4_isBetter_60 (by decide) (fun hc => ?_) (fun hc => ?_)
          · have hf := fg_ifT hf hc
            refine lv_iconst (v := 0) hx hb dX4_isBetter_82 rfl ?_
            exact fg_retz hx hb hr hlk hK h hf (by decide) dX4_isBetter_83
          · have hf := fg_ifF hf hc
            refine lv_aload_n hx hb dX4_isBetter_63 rfl (lv_at hl 2 rfl) ?_
            refine lv_iload_n hx hb dX4_isBetter_64 rfl (lv_at hl 4 rfl) ?_
            refine lv_iconst (v := 0) hx hb dX4_isBetter_65 rfl ?_
            obtain ⟨r6, w4, hc5, hf⟩ := fg_biE hf
            refine fg_ci h (fg_runV (rest := []) S hK h (c_X4_of1 l D g a2 0  w1 r6 w4 hc5) vg_RX4_73 vd_X4_of1 ⟨by decide, by decide⟩ fg_p4_0 rfl rfl rfl hl.1 rfl (Nat.le_of_ble_eq_true rfl) dX4_isBetter_66 ⟨Nat.zero_le _, Nat.zero_le _⟩) (fun H locs h => ?_)
            refine lv_aload_n hx hb dX4_isBetter_69 rfl (lv_at hl 2 rfl) ?_
            refine lv_iload_n hx hb dX4_isBetter_70 rfl (lv_at hl 5 rfl) ?_
            refine lv_iconst (v := 0) hx hb dX4_isBetter_71 rfl ?_
            obtain ⟨r9, w7, hc8, hf⟩ := fg_biE hf
            refine fg_ci h (fg_runV (rest := [.int r6]) S hK h (c_X4_of1 l D g a3 0  w4 r9 w7 hc8) vg_RX4_73 vd_X4_of1 ⟨by decide, by decide⟩ fg_p4_0 rfl rfl rfl hl.1 rfl (Nat.le_of_ble_eq_true rfl) dX4_isBetter_72 ⟨Nat.zero_le _, Nat.zero_le _⟩) (fun H locs h => ?_)
            refine lv_icmp_le (tgt := 82) hx hb dX4_isBetter_75 (by decide) (fun hc => ?_) (fun hc => ?_)
            · have hf := fg_ifT hf hc
              refine lv_iconst (v := 0) hx hb dX4_isBetter_82 rfl ?_
              exact fg_retz hx hb hr hlk hK h hf (by decide) dX4_isBetter_83
            · have hf := fg_ifF hf hc
              refine lv_iconst (v := 1) hx hb dX4_isBetter_78 rfl ?_
              refine lv_goto (tgt := 83) hx hb dX4_isBetter_79 (by decide) ?_
              exact fg_retz hx hb hr hlk hK h hf (by decide) dX4_isBetter_83
      · exact absurd hc (by decide)
  · have hf := fg_ifF hf hc
    refine lv_iload hx hb dX4_isBetter_14 (lv_at hl 0 rfl) ?_
    refine lv_iconst (v := 5) hx hb dX4_isBetter_16 rfl ?_
    refine lv_icmp_ge (tgt := 24) hx hb dX4_isBetter_17 (by decide) (fun hc => ?_) (fun hc => ?_)
    · have hf := fg_ifT hf hc
      refine lv_iconst (v := 0) hx hb dX4_isBetter_24 rfl ?_
      refine lv_istore (lv' := [(5, .int 0), (4, .int r3), (0, .ref (g.1 4 0 0)), (1, .int a1), (2, .int a2), (3, .int a3)]) hx hb dX4_isBetter_25 hl (by decide) rfl (fun ls hl => ?_)
      refine lv_iload_n hx hb dX4_isBetter_27 rfl (lv_at hl 5 rfl) ?_
      refine lv_if_lt (tgt := 78) hx hb dX4_isBetter_28 (by decide) (fun hc => ?_) (fun hc => ?_)
      · have hf := fg_ifT hf hc
        refine lv_iconst (v := 1) hx hb dX4_isBetter_78 rfl ?_
        refine lv_goto (tgt := 83) hx hb dX4_isBetter_79 (by decide) ?_
        exact fg_retz hx hb hr hlk hK h hf (by decide) dX4_isBetter_83
      · have hf := fg_ifF hf hc
        refine lv_iload hx hb dX4_isBetter_31 (lv_at hl 0 rfl) ?_
        refine lv_if_eq (tgt := 51) hx hb dX4_isBetter_33 (by decide) (fun hc => ?_) (fun hc => ?_)
        · refine lv_iload hx hb dX4_isBetter_51 (lv_at hl 0 rfl) ?_
          refine lv_if_ne (tgt := 82) hx hb dX4_isBetter_53 (by decide) (fun hc => ?_) (fun hc => ?_)
          · exact absurd hc (by decide)
          · refine lv_iload hx hb dX4_isBetter_56 (lv_at hl 1 rfl) ?_
            refine lv_bipush (v := 6) hx hb dX4_isBetter_58 rfl ?_
            refine lv_icmp_eq (tgt := 82) hx hb dX4_isBetter_60 (by decide) (fun hc => ?_) (fun hc => ?_)
            · have hf := fg_ifT hf hc
              refine lv_iconst (v := 0) hx hb dX4_isBetter_82 rfl ?_
              exact fg_retz hx hb hr hlk hK h hf (by decide) dX4_isBetter_83
            · have hf := fg_ifF hf hc
              refine lv_aload_n hx hb dX4_isBetter_63 rfl (lv_at hl 2 rfl) ?_
              refine lv_iload_n hx hb dX4_isBetter_64 rfl (lv_at hl 4 rfl) ?_
              refine lv_iconst (v := 0) hx hb dX4_isBetter_65 rfl ?_
              obtain ⟨r12, w10, hc11, hf⟩ := fg_biE hf
              refine fg_ci h (fg_runV (rest := []) S hK h (c_X4_of1 l D g a2 0  w1 r12 w10 hc11) vg_RX4_73 vd_X4_of1 ⟨by decide, by decide⟩ fg_p4_0 rfl rfl rfl hl.1 rfl (Nat.le_of_ble_eq_true rfl) dX4_isBetter_66 ⟨Nat.zero_le _, Nat.zero_le _⟩) (fun H locs h => ?_)
              refine lv_aload_n hx hb dX4_isBetter_69 rfl (lv_at hl 2 rfl) ?_
              refine lv_iload_n hx hb dX4_isBetter_70 rfl (lv_at hl 5 rfl) ?_
              refine lv_iconst (v := 0) hx hb dX4_isBetter_71 rfl ?_
              obtain ⟨r15, w13, hc14, hf⟩ := fg_biE hf
              refine fg_ci h (fg_runV (rest := [.int r12]) S hK h (c_X4_of1 l D g a3 0  w10 r15 w13 hc14) vg_RX4_73 vd_X4_of1 ⟨by decide, by decide⟩ fg_p4_0 rfl rfl rfl hl.1 rfl (Nat.le_of_ble_eq_true rfl) dX4_isBetter_72 ⟨Nat.zero_le _, Nat.zero_le _⟩) (fun H locs h => ?_)
              refine lv_icmp_le (tgt := 82) hx hb dX4_isBetter_75 (by decide) (fun hc => ?_) (fun hc => ?_)
              · have hf := fg_ifT hf hc
                refine lv_iconst (v := 0) hx hb dX4_isBetter_82 rfl ?_
                exact fg_retz hx hb hr hlk hK h hf (by decide) dX4_isBetter_83
              · have hf := fg_ifF hf hc
                refine lv_iconst (v := 1) hx hb dX4_isBetter_78 rfl ?_
                refine lv_goto (tgt := 83) hx hb dX4_isBetter_79 (by decide) ?_
                exact fg_retz hx hb hr hlk hK h hf (by decide) dX4_isBetter_83
        · exact absurd hc (by decide)
    · have hf := fg_ifF hf hc
      refine lv_iconst (v := 1) hx hb dX4_isBetter_20 rfl ?_
      refine lv_goto (tgt := 25) hx hb dX4_isBetter_21 (by decide) ?_
      refine lv_istore (lv' := [(5, .int 1), (4, .int r3), (0, .ref (g.1 4 0 0)), (1, .int a1), (2, .int a2), (3, .int a3)]) hx hb dX4_isBetter_25 hl (by decide) rfl (fun ls hl => ?_)
      refine lv_iload_n hx hb dX4_isBetter_27 rfl (lv_at hl 5 rfl) ?_
      refine lv_if_lt (tgt := 78) hx hb dX4_isBetter_28 (by decide) (fun hc => ?_) (fun hc => ?_)
      · have hf := fg_ifT hf hc
        refine lv_iconst (v := 1) hx hb dX4_isBetter_78 rfl ?_
        refine lv_goto (tgt := 83) hx hb dX4_isBetter_79 (by decide) ?_
        exact fg_retz hx hb hr hlk hK h hf (by decide) dX4_isBetter_83
      · have hf := fg_ifF hf hc
        refine lv_iload hx hb dX4_isBetter_31 (lv_at hl 0 rfl) ?_
        refine lv_if_eq (tgt := 51) hx hb dX4_isBetter_33 (by decide) (fun hc => ?_) (fun hc => ?_)
        · exact absurd hc (by decide)
        · refine lv_aload_n hx hb dX4_isBetter_36 rfl (lv_at hl 2 rfl) ?_
          refine lv_iload_n hx hb dX4_isBetter_37 rfl (lv_at hl 4 rfl) ?_
          refine lv_iconst (v := 1) hx hb dX4_isBetter_38 rfl ?_
          obtain ⟨r18, w16, hc17, hf⟩ := fg_biE hf
          refine fg_ci h (fg_runV (rest := []) S hK h (c_X4_of1 l D g a2 1  w1 r18 w16 hc17) vg_RX4_73 vd_X4_of1 ⟨by decide, by decide⟩ fg_p4_0 rfl rfl rfl hl.1 rfl (Nat.le_of_ble_eq_true rfl) dX4_isBetter_39 ⟨Nat.zero_le _, Nat.zero_le _⟩) (fun H locs h => ?_)
          refine lv_aload_n hx hb dX4_isBetter_42 rfl (lv_at hl 2 rfl) ?_
          refine lv_iload_n hx hb dX4_isBetter_43 rfl (lv_at hl 5 rfl) ?_
          refine lv_iconst (v := 1) hx hb dX4_isBetter_44 rfl ?_
          obtain ⟨r21, w19, hc20, hf⟩ := fg_biE hf
          refine fg_ci h (fg_runV (rest := [.int r18]) S hK h (c_X4_of1 l D g a3 1  w16 r21 w19 hc20) vg_RX4_73 vd_X4_of1 ⟨by decide, by decide⟩ fg_p4_0 rfl rfl rfl hl.1 rfl (Nat.le_of_ble_eq_true rfl) dX4_isBetter_45 ⟨Nat.zero_le _, Nat.zero_le _⟩) (fun H locs h => ?_)
          refine lv_icmp_lt (tgt := 78) hx hb dX4_isBetter_48 (by decide) (fun hc => ?_) (fun hc => ?_)
          · have hf := fg_ifT hf hc
            refine lv_iconst (v := 1) hx hb dX4_isBetter_78 rfl ?_
            refine lv_goto (tgt := 83) hx hb dX4_isBetter_79 (by decide) ?_
            exact fg_retz hx hb hr hlk hK h hf (by decide) dX4_isBetter_83
          · have hf := fg_ifF hf hc
            refine lv_iload hx hb dX4_isBetter_51 (lv_at hl 0 rfl) ?_
            refine lv_if_ne (tgt := 82) hx hb dX4_isBetter_53 (by decide) (fun hc => ?_) (fun hc => ?_)
            · refine lv_iconst (v := 0) hx hb dX4_isBetter_82 rfl ?_
              exact fg_retz hx hb hr hlk hK h hf (by decide) dX4_isBetter_83
            · exact absurd hc (by decide)
set_option maxHeartbeats 4000000 in
set_option maxRecDepth 100000 in
theorem c_X4_makesFor (l : Launch) (D : va_G) (g : fg_G) (a1 : Int32) (w : fg_W) (r : Int32) (w' : fg_W) (hf : f_X4_makesFor a1 w = some (r, w')) : fg_M l yX4_makesFor cX4_makesFor 4 (some .int) 4 91 D g [.ref (g.1 4 0 0), .int a1] w (fg_Qi D g r w') := by
  refine fg_M.of rfl (Nat.le_of_ble_eq_true rfl) (fun p e s m below meth c ls S hr hlk hK h hl => ?_)
  have hx := S.1
  have hb := S.2.1
  have hl : lv_has ls 4 [(0, .ref (g.1 4 0 0)), (1, .int a1)] := hl
  unfold f_X4_makesFor at hf
  refine lv_iconst (v := (-1)) hx hb dX4_makesFor_0 rfl ?_
  refine lv_istore_n (lv' := [(2, .int (-1)), (0, .ref (g.1 4 0 0)), (1, .int a1)]) hx hb dX4_makesFor_1 rfl hl (by decide) rfl (fun ls hl => ?_)
  refine lv_iconst (v := 0) hx hb dX4_makesFor_2 rfl ?_
  refine lv_istore_n (lv' := [(3, .int 0), (2, .int (-1)), (0, .ref (g.1 4 0 0)), (1, .int a1)]) hx hb dX4_makesFor_3 rfl hl (by decide) rfl (fun ls hl => ?_)
  have hK_4 : ∀ (v2_4 : Int32) (v3_4 : Int32) (w_4 : fg_W) (H : Heap) (locs : List Loc) (ls : Array Slot), fg_H D g s.heap w_4 H locs → lv_has ls 4 [(0, .ref (g.1 4 0 0)), (1, .int a1), (2, .int v2_4), (3, .int v3_4)] → (some (v2_4, w_4)) = some (r, w') → fg_Gi p l e 4 91 s m [.ref (g.1 4 0 0), .int a1] below meth c D g r w' H locs 41 ls [] := by
    intro v2_4 v3_4 w_4 H locs ls h hl hf
    refine lv_iload_n hx hb dX4_makesFor_41 rfl (lv_at hl 2 rfl) ?_
    exact fg_reti hx hb hr hlk hK h hf dX4_makesFor_42
  have hL_4 : ∀ (KK_4 : Int32 → Int32 → fg_W → Option (Int32 × fg_W)) (hK_4 : ∀ (v2_4 : Int32) (v3_4 : Int32) (w_4 : fg_W) (H : Heap) (locs : List Loc) (ls : Array Slot), fg_H D g s.heap w_4 H locs → lv_has ls 4 [(0, .ref (g.1 4 0 0)), (1, .int a1), (2, .int v2_4), (3, .int v3_4)] → KK_4 v2_4 v3_4 w_4 = some (r, w') → fg_Gi p l e 4 91 s m [.ref (g.1 4 0 0), .int a1] below meth c D g r w' H locs 41 ls []) (n : Nat) (v2_4 : Int32) (v3_4 : Int32) (w_4 : fg_W) (H : Heap) (locs : List Loc) (ls : Array Slot), fg_H D g s.heap w_4 H locs → lv_has ls 4 [(0, .ref (g.1 4 0 0)), (1, .int a1), (2, .int v2_4), (3, .int v3_4)] → f_X4_makesFor_L4 a1 KK_4 n v2_4 v3_4 w_4 = some (r, w') → fg_Gi p l e 4 91 s m [.ref (g.1 4 0 0), .int a1] below meth c D g r w' H locs 4 ls [] := by
    intro KK_4 hK_4 n
    induction n with
    | zero => intro v2_4 v3_4 w_4 H locs ls h hl hf; exact fg_no hf
    | succ n_4 ih_4 =>
      intro v2_4 v3_4 w_4 H locs ls h hl hf
      unfold f_X4_makesFor_L4 at hf
      refine lv_iload_n hx hb dX4_makesFor_4 rfl (lv_at hl 3 rfl) ?_
      refine lv_bipush (v := 10) hx hb dX4_makesFor_5 rfl ?_
      refine lv_icmp_ge (tgt := 41) hx hb dX4_makesFor_7 (by decide) (fun hc => ?_) (fun hc => ?_)
      · have hf := fg_ifT hf hc
        exact hK_4 v2_4 v3_4 w_4 _ _ ls h (lv_sub hl [0, 1, 2, 3] rfl) hf
      · have hf := fg_ifF hf hc
        refine lv_aload_n hx hb dX4_makesFor_10 rfl (lv_at hl 0 rfl) ?_
        refine lv_iload_n hx hb dX4_makesFor_11 rfl (lv_at hl 1 rfl) ?_
        refine lv_iload_n hx hb dX4_makesFor_12 rfl (lv_at hl 3 rfl) ?_
        obtain ⟨r9, w7, hc8, hf⟩ := fg_biE hf
        refine fg_ci h (fg_runV (rest := []) S hK h (c_X4_stands l D g a1 v3_4  w_4 r9 w7 hc8) vg_RX4_82 vd_X4_stands ⟨by decide, by decide⟩ fg_p4_0 rfl rfl rfl hl.1 rfl (Nat.le_of_ble_eq_true rfl) dX4_makesFor_13 ⟨Nat.zero_le _, Nat.zero_le _⟩) (fun H locs h => ?_)
        refine lv_if_eq (tgt := 33) hx hb dX4_makesFor_16 (by decide) (fun hc => ?_) (fun hc => ?_)
        · have hf := fg_ifT hf hc
          refine lv_iload_n hx hb dX4_makesFor_33 rfl (lv_at hl 2 rfl) ?_
          refine lv_istore_n (lv' := [(2, .int v2_4), (0, .ref (g.1 4 0 0)), (1, .int a1), (3, .int v3_4)]) hx hb dX4_makesFor_34 rfl hl (by decide) rfl (fun ls hl => ?_)
          refine lv_iinc (v := (v3_4 + 1)) (lv' := [(3, .int (v3_4 + 1)), (2, .int v2_4), (0, .ref (g.1 4 0 0)), (1, .int a1)]) hx hb dX4_makesFor_35 hl (k := 3) rfl rfl (by decide) rfl (fun ls hl => ?_)
          refine lv_goto (tgt := 4) hx hb dX4_makesFor_38 (by decide) ?_
          exact ih_4 v2_4 (v3_4 + 1) w7 _ _ ls h (lv_sub hl [2, 3, 1, 0] rfl) hf
        · have hf := fg_ifF hf hc
          refine lv_aload_n hx hb dX4_makesFor_19 rfl (lv_at hl 0 rfl) ?_
          refine lv_iload_n hx hb dX4_makesFor_20 rfl (lv_at hl 1 rfl) ?_
          refine lv_iload_n hx hb dX4_makesFor_21 rfl (lv_at hl 3 rfl) ?_
          refine lv_iload_n hx hb dX4_makesFor_22 rfl (lv_at hl 2 rfl) ?_
          obtain ⟨r12, w10, hc11, hf⟩ := fg_biE hf
          refine fg_ci h (fg_runV (rest := []) S hK h (c_X4_isBetter l D g a1 v3_4 v2_4  w7 r12 w10 hc11) vg_RX4_86 vd_X4_isBetter ⟨by decide, by decide⟩ fg_p4_0 rfl rfl rfl hl.1 rfl (Nat.le_of_ble_eq_true rfl) dX4_makesFor_23 ⟨Nat.zero_le _, Nat.zero_le _⟩) (fun H locs h => ?_)
          refine lv_if_eq (tgt := 33) hx hb dX4_makesFor_26 (by decide) (fun hc => ?_) (fun hc => ?_)
          · have hf := fg_ifT hf hc
            refine lv_iload_n hx hb dX4_makesFor_33 rfl (lv_at hl 2 rfl) ?_
            refine lv_istore_n (lv' := [(2, .int v2_4), (0, .ref (g.1 4 0 0)), (1, .int a1), (3, .int v3_4)]) hx hb dX4_makesFor_34 rfl hl (by decide) rfl (fun ls hl => ?_)
            refine lv_iinc (v := (v3_4 + 1)) (lv' := [(3, .int (v3_4 + 1)), (2, .int v2_4), (0, .ref (g.1 4 0 0)), (1, .int a1)]) hx hb dX4_makesFor_35 hl (k := 3) rfl rfl (by decide) rfl (fun ls hl => ?_)
            refine lv_goto (tgt := 4) hx hb dX4_makesFor_38 (by decide) ?_
            exact ih_4 v2_4 (v3_4 + 1) w10 _ _ ls h (lv_sub hl [2, 3, 1, 0] rfl) hf
          · have hf := fg_ifF hf hc
            refine lv_iload_n hx hb dX4_makesFor_29 rfl (lv_at hl 3 rfl) ?_
            refine lv_goto (tgt := 34) hx hb dX4_makesFor_30 (by decide) ?_
            refine lv_istore_n (lv' := [(2, .int v3_4), (0, .ref (g.1 4 0 0)), (1, .int a1), (3, .int v3_4)]) hx hb dX4_makesFor_34 rfl hl (by decide) rfl (fun ls hl => ?_)
            refine lv_iinc (v := (v3_4 + 1)) (lv' := [(3, .int (v3_4 + 1)), (2, .int v3_4), (0, .ref (g.1 4 0 0)), (1, .int a1)]) hx hb dX4_makesFor_35 hl (k := 3) rfl rfl (by decide) rfl (fun ls hl => ?_)
            refine lv_goto (tgt := 4) hx hb dX4_makesFor_38 (by decide) ?_
            exact ih_4 v3_4 (v3_4 + 1) w10 _ _ ls h (lv_sub hl [2, 3, 1, 0] rfl) hf
  exact hL_4 _ hK_4 fg_fuel (-1) 0 w _ _ ls h (lv_sub hl [2, 3, 1, 0] rfl) hf
set_option maxHeartbeats 4000000 in
set_option maxRecDepth 100000 in
theorem c_X4_ownedBy (l : Launch) (D : va_G) (g : fg_G) (a1 : Int32) (w : fg_W) (r : Int32) (w' : fg_W) (hf : f_X4_ownedBy a1 w = some (r, w')) : fg_M l yX4_ownedBy cX4_ownedBy 4 (some .int) 1 22 D g [.ref (g.1 4 0 0), .int a1] w (fg_Qi D g r w') := by
  refine fg_M.of rfl (Nat.le_of_ble_eq_true rfl) (fun p e s m below meth c ls S hr hlk hK h hl => ?_)
  have hx := S.1
  have hb := S.2.1
  have hl : lv_has ls 4 [(0, .ref (g.1 4 0 0)), (1, .int a1)] := hl
  unfold f_X4_ownedBy at hf
  refine lv_iconst (v := 0) hx hb dX4_ownedBy_0 rfl ?_
  refine lv_istore_n (lv' := [(2, .int 0), (0, .ref (g.1 4 0 0)), (1, .int a1)]) hx hb dX4_ownedBy_1 rfl hl (by decide) rfl (fun ls hl => ?_)
  refine lv_iconst (v := 0) hx hb dX4_ownedBy_2 rfl ?_
  refine lv_istore_n (lv' := [(3, .int 0), (2, .int 0), (0, .ref (g.1 4 0 0)), (1, .int a1)]) hx hb dX4_ownedBy_3 rfl hl (by decide) rfl (fun ls hl => ?_)
  have hK_4 : ∀ (v2_4 : Int32) (v3_4 : Int32) (w_4 : fg_W) (H : Heap) (locs : List Loc) (ls : Array Slot), fg_H D g s.heap w_4 H locs → lv_has ls 4 [(0, .ref (g.1 4 0 0)), (1, .int a1), (2, .int v2_4), (3, .int v3_4)] → (some (v2_4, w_4)) = some (r, w') → fg_Gi p l e 1 22 s m [.ref (g.1 4 0 0), .int a1] below meth c D g r w' H locs 36 ls [] := by
    intro v2_4 v3_4 w_4 H locs ls h hl hf
    refine lv_iload_n hx hb dX4_ownedBy_36 rfl (lv_at hl 2 rfl) ?_
    exact fg_reti hx hb hr hlk hK h hf dX4_ownedBy_37
  have hL_4 : ∀ (KK_4 : Int32 → Int32 → fg_W → Option (Int32 × fg_W)) (hK_4 : ∀ (v2_4 : Int32) (v3_4 : Int32) (w_4 : fg_W) (H : Heap) (locs : List Loc) (ls : Array Slot), fg_H D g s.heap w_4 H locs → lv_has ls 4 [(0, .ref (g.1 4 0 0)), (1, .int a1), (2, .int v2_4), (3, .int v3_4)] → KK_4 v2_4 v3_4 w_4 = some (r, w') → fg_Gi p l e 1 22 s m [.ref (g.1 4 0 0), .int a1] below meth c D g r w' H locs 36 ls []) (n : Nat) (v2_4 : Int32) (v3_4 : Int32) (w_4 : fg_W) (H : Heap) (locs : List Loc) (ls : Array Slot), fg_H D g s.heap w_4 H locs → lv_has ls 4 [(0, .ref (g.1 4 0 0)), (1, .int a1), (2, .int v2_4), (3, .int v3_4)] → f_X4_ownedBy_L4 a1 KK_4 n v2_4 v3_4 w_4 = some (r, w') → fg_Gi p l e 1 22 s m [.ref (g.1 4 0 0), .int a1] below meth c D g r w' H locs 4 ls [] := by
    intro KK_4 hK_4 n
    induction n with
    | zero => intro v2_4 v3_4 w_4 H locs ls h hl hf; exact fg_no hf
    | succ n_4 ih_4 =>
      intro v2_4 v3_4 w_4 H locs ls h hl hf
      unfold f_X4_ownedBy_L4 at hf
      refine lv_iload_n hx hb dX4_ownedBy_4 rfl (lv_at hl 3 rfl) ?_
      refine lv_bipush (v := 10) hx hb dX4_ownedBy_5 rfl ?_
      refine lv_icmp_ge (tgt := 36) hx hb dX4_ownedBy_7 (by decide) (fun hc => ?_) (fun hc => ?_)
      · have hf := fg_ifT hf hc
        exact hK_4 v2_4 v3_4 w_4 _ _ ls h (lv_sub hl [0, 1, 2, 3] rfl) hf
      · have hf := fg_ifF hf hc
        refine lv_iload_n hx hb dX4_ownedBy_10 rfl (lv_at hl 2 rfl) ?_
        refine lv_aload_n hx hb dX4_ownedBy_11 rfl (lv_at hl 0 rfl) ?_
        refine lv_iload_n hx hb dX4_ownedBy_12 rfl (lv_at hl 3 rfl) ?_
        refine lv_iconst (v := 2) hx hb dX4_ownedBy_13 rfl ?_
        obtain ⟨r8, w6, hc7, hf⟩ := fg_biE hf
        refine fg_ci h (fg_runV (rest := [.int v2_4]) S hK h (c_X4_of1 l D g v3_4 2  w_4 r8 w6 hc7) vg_RX4_73 vd_X4_of1 ⟨by decide, by decide⟩ fg_p4_0 rfl rfl rfl hl.1 rfl (Nat.le_of_ble_eq_true rfl) dX4_ownedBy_14 ⟨Nat.zero_le _, Nat.zero_le _⟩) (fun H locs h => ?_)
        refine lv_iload_n hx hb dX4_ownedBy_17 rfl (lv_at hl 1 rfl) ?_
        refine lv_icmp_ne (tgt := 27) hx hb dX4_ownedBy_18 (by decide) (fun hc => ?_) (fun hc => ?_)
        · have hf := fg_ifF hf hc
          refine lv_iconst (v := 0) hx hb dX4_ownedBy_27 rfl ?_
          refine lv_ior hx hb dX4_ownedBy_28 ?_
          refine lv_topi (fun x9 e_x9 => ?_)
          have hf := fg_letE e_x9 hf
          refine lv_istore_n (lv' := [(2, .int x9), (0, .ref (g.1 4 0 0)), (1, .int a1), (3, .int v3_4)]) hx hb dX4_ownedBy_29 rfl hl (by decide) rfl (fun ls hl => ?_)
          refine lv_iinc (v := (v3_4 + 1)) (lv' := [(3, .int (v3_4 + 1)), (2, .int x9), (0, .ref (g.1 4 0 0)), (1, .int a1)]) hx hb dX4_ownedBy_30 hl (k := 3) rfl rfl (by decide) rfl (fun ls hl => ?_)
          refine lv_goto (tgt := 4) hx hb dX4_ownedBy_33 (by decide) ?_
          exact ih_4 x9 (v3_4 + 1) w6 _ _ ls h (lv_sub hl [2, 3, 1, 0] rfl) hf
        · have hf := fg_ifT hf hc
          refine lv_iconst (v := 1) hx hb dX4_ownedBy_21 rfl ?_
          refine lv_iload_n hx hb dX4_ownedBy_22 rfl (lv_at hl 3 rfl) ?_
          refine lv_ishl hx hb dX4_ownedBy_23 ?_
          refine lv_goto (tgt := 28) hx hb dX4_ownedBy_24 (by decide) ?_
          refine lv_ior hx hb dX4_ownedBy_28 ?_
          refine lv_topi (fun x10 e_x10 => ?_)
          have hf := fg_letE e_x10 hf
          refine lv_istore_n (lv' := [(2, .int x10), (0, .ref (g.1 4 0 0)), (1, .int a1), (3, .int v3_4)]) hx hb dX4_ownedBy_29 rfl hl (by decide) rfl (fun ls hl => ?_)
          refine lv_iinc (v := (v3_4 + 1)) (lv' := [(3, .int (v3_4 + 1)), (2, .int x10), (0, .ref (g.1 4 0 0)), (1, .int a1)]) hx hb dX4_ownedBy_30 hl (k := 3) rfl rfl (by decide) rfl (fun ls hl => ?_)
          refine lv_goto (tgt := 4) hx hb dX4_ownedBy_33 (by decide) ?_
          exact ih_4 x10 (v3_4 + 1) w6 _ _ ls h (lv_sub hl [2, 3, 1, 0] rfl) hf
  exact hL_4 _ hK_4 fg_fuel 0 0 w _ _ ls h (lv_sub hl [2, 3, 1, 0] rfl) hf
set_option maxHeartbeats 4000000 in
set_option maxRecDepth 100000 in
theorem c_X4_of (l : Launch) (D : va_G) (g : fg_G) (a1 : Int32) (a2 : Int32) (w : fg_W) (r : Int32) (w' : fg_W) (hf : f_X4_of a1 a2 w = some (r, w')) : fg_M l yX4_of cX4_of 3 (some .int) 5 114 D g [.ref (g.1 4 0 0), .int a1, .int a2] w (fg_Qi D g r w') := by
  refine fg_M.of rfl (Nat.le_of_ble_eq_true rfl) (fun p e s m below meth c ls S hr hlk hK h hl => ?_)
  have hx := S.1
  have hb := S.2.1
  have hl : lv_has ls 3 [(0, .ref (g.1 4 0 0)), (1, .int a1), (2, .int a2)] := hl
  unfold f_X4_of at hf
  refine lv_aload_n hx hb dX4_of_0 rfl (lv_at hl 0 rfl) ?_
  refine lv_iload_n hx hb dX4_of_1 rfl (lv_at hl 1 rfl) ?_
  obtain ⟨r3, w1, hc2, hf⟩ := fg_biE hf
  refine fg_ci h (fg_runV (rest := []) S hK h (c_X4_isPerson l D g a1  w r3 w1 hc2) vg_RX4_138 vd_X4_isPerson ⟨by decide, by decide⟩ fg_p4_0 rfl rfl rfl hl.1 rfl (Nat.le_of_ble_eq_true rfl) dX4_of_2 ⟨Nat.zero_le _, Nat.zero_le _⟩) (fun H locs h => ?_)
  refine lv_if_eq (tgt := 18) hx hb dX4_of_5 (by decide) (fun hc => ?_) (fun hc => ?_)
  · have hf := fg_ifT hf hc
    refine lv_aload_n hx hb dX4_of_18 rfl (lv_at hl 0 rfl) ?_
    refine lv_iconst (v := 0) hx hb dX4_of_19 rfl ?_
    obtain ⟨r6, w4, hc5, hf⟩ := fg_biE hf
    refine fg_ci h (fg_runV (rest := []) S hK h (c_X4_no l D g 0  w1 r6 w4 hc5) vg_RX4_129 vd_X4_no ⟨by decide, by decide⟩ fg_p4_0 rfl rfl rfl hl.1 rfl (Nat.le_of_ble_eq_true rfl) dX4_of_20 ⟨Nat.zero_le _, Nat.zero_le _⟩) (fun H locs h => ?_)
    exact fg_reti hx hb hr hlk hK h hf dX4_of_23
  · have hf := fg_ifF hf hc
    refine lv_iload_n hx hb dX4_of_8 rfl (lv_at hl 2 rfl) ?_
    refine lv_iconst (v := 0) hx hb dX4_of_9 rfl ?_
    refine lv_bipush (v := 7) hx hb dX4_of_10 rfl ?_
    obtain ⟨r9, w7, hc8, hf⟩ := fg_biE hf
    refine fg_ci h (fg_runS (rest := []) S hK h (c_X4_in1 l D g a2 0 7  w1 r9 w7 hc8) vk_X4_in1 vm_RX4_61 vs_X4_in1 vi_RX4 vd_X4_in1.2 ⟨by decide, by decide⟩ rfl hl.1 rfl (Nat.le_of_ble_eq_true rfl) dX4_of_12 ⟨Nat.zero_le _, Nat.zero_le _⟩) (fun H locs h => ?_)
    refine lv_if_ne (tgt := 24) hx hb dX4_of_15 (by decide) (fun hc => ?_) (fun hc => ?_)
    · have hf := fg_ifF hf hc
      refine lv_iload_n hx hb dX4_of_24 rfl (lv_at hl 2 rfl) ?_
      refine lv_iconst (v := 5) hx hb dX4_of_25 rfl ?_
      refine lv_icmp_ge (tgt := 38) hx hb dX4_of_26 (by decide) (fun hc => ?_) (fun hc => ?_)
      · have hf := fg_ifT hf hc
        refine lv_iload_n hx hb dX4_of_38 rfl (lv_at hl 2 rfl) ?_
        refine lv_iconst (v := 5) hx hb dX4_of_39 rfl ?_
        refine lv_icmp_ne (tgt := 51) hx hb dX4_of_40 (by decide) (fun hc => ?_) (fun hc => ?_)
        · have hf := fg_ifF hf hc
          refine lv_iload_n hx hb dX4_of_51 rfl (lv_at hl 2 rfl) ?_
          refine lv_bipush (v := 6) hx hb dX4_of_52 rfl ?_
          refine lv_icmp_ne (tgt := 65) hx hb dX4_of_54 (by decide) (fun hc => ?_) (fun hc => ?_)
          · have hf := fg_ifF hf hc
            refine lv_aload_n hx hb dX4_of_65 rfl (lv_at hl 0 rfl) ?_
            refine lv_iload_n hx hb dX4_of_66 rfl (lv_at hl 1 rfl) ?_
            obtain ⟨r12, w10, hc11, hf⟩ := fg_biE hf
            refine fg_ci h (fg_runV (rest := []) S hK h (c_X4_ownedBy l D g a1  w7 r12 w10 hc11) vg_RX4_141 vd_X4_ownedBy ⟨by decide, by decide⟩ fg_p4_0 rfl rfl rfl hl.1 rfl (Nat.le_of_ble_eq_true rfl) dX4_of_67 ⟨Nat.zero_le _, Nat.zero_le _⟩) (fun H locs h => ?_)
            exact fg_reti hx hb hr hlk hK h hf dX4_of_70
          · have hf := fg_ifT hf hc
            refine lv_aload_n hx hb dX4_of_57 rfl (lv_at hl 0 rfl) ?_
            refine lv_iload_n hx hb dX4_of_58 rfl (lv_at hl 1 rfl) ?_
            obtain ⟨r15, w13, hc14, hf⟩ := fg_biE hf
            refine fg_ci h (fg_runV (rest := []) S hK h (c_X4_makesFor l D g a1  w7 r15 w13 hc14) vg_RX4_92 vd_X4_makesFor ⟨by decide, by decide⟩ fg_p4_0 rfl rfl rfl hl.1 rfl (Nat.le_of_ble_eq_true rfl) dX4_of_59 ⟨Nat.zero_le _, Nat.zero_le _⟩) (fun H locs h => ?_)
            refine lv_goto (tgt := 70) hx hb dX4_of_62 (by decide) ?_
            exact fg_reti hx hb hr hlk hK h hf dX4_of_70
        · have hf := fg_ifT hf hc
          refine lv_aload_n hx hb dX4_of_43 rfl (lv_at hl 0 rfl) ?_
          refine lv_iload_n hx hb dX4_of_44 rfl (lv_at hl 1 rfl) ?_
          obtain ⟨r18, w16, hc17, hf⟩ := fg_biE hf
          refine fg_ci h (fg_runV (rest := []) S hK h (c_X4_losesOf l D g a1  w7 r18 w16 hc17) vg_RX4_98 vd_X4_losesOf ⟨by decide, by decide⟩ fg_p4_0 rfl rfl rfl hl.1 rfl (Nat.le_of_ble_eq_true rfl) dX4_of_45 ⟨Nat.zero_le _, Nat.zero_le _⟩) (fun H locs h => ?_)
          refine lv_goto (tgt := 70) hx hb dX4_of_48 (by decide) ?_
          exact fg_reti hx hb hr hlk hK h hf dX4_of_70
      · have hf := fg_ifF hf hc
        refine lv_aload_n hx hb dX4_of_29 rfl (lv_at hl 0 rfl) ?_
        refine lv_iload_n hx hb dX4_of_30 rfl (lv_at hl 1 rfl) ?_
        refine lv_iload_n hx hb dX4_of_31 rfl (lv_at hl 2 rfl) ?_
        obtain ⟨r21, w19, hc20, hf⟩ := fg_biE hf
        refine fg_ci h (fg_runV (rest := []) S hK h (c_X4_get l D g a1 a2  w7 r21 w19 hc20) vg_RX4_65 vd_X4_get ⟨by decide, by decide⟩ fg_p4_0 rfl rfl rfl hl.1 rfl (Nat.le_of_ble_eq_true rfl) dX4_of_32 ⟨Nat.zero_le _, Nat.zero_le _⟩) (fun H locs h => ?_)
        refine lv_goto (tgt := 70) hx hb dX4_of_35 (by decide) ?_
        exact fg_reti hx hb hr hlk hK h hf dX4_of_70
    · have hf := fg_ifT hf hc
      refine lv_aload_n hx hb dX4_of_18 rfl (lv_at hl 0 rfl) ?_
      refine lv_iconst (v := 0) hx hb dX4_of_19 rfl ?_
      obtain ⟨r24, w22, hc23, hf⟩ := fg_biE hf
      refine fg_ci h (fg_runV (rest := []) S hK h (c_X4_no l D g 0  w7 r24 w22 hc23) vg_RX4_129 vd_X4_no ⟨by decide, by decide⟩ fg_p4_0 rfl rfl rfl hl.1 rfl (Nat.le_of_ble_eq_true rfl) dX4_of_20 ⟨Nat.zero_le _, Nat.zero_le _⟩) (fun H locs h => ?_)
      exact fg_reti hx hb hr hlk hK h hf dX4_of_23
set_option maxHeartbeats 4000000 in
set_option maxRecDepth 100000 in
theorem c_X4_change (l : Launch) (D : va_G) (g : fg_G) (a1 : Int32) (a2 : Int32) (a3 : Int32) (w : fg_W) (r : Int32) (w' : fg_W) (hf : f_X4_change a1 a2 a3 w = some (r, w')) : fg_M l yX4_change cX4_change 5 (some .int) 2 43 D g [.ref (g.1 4 0 0), .int a1, .int a2, .int a3] w (fg_Qi D g r w') := by
  refine fg_M.of rfl (Nat.le_of_ble_eq_true rfl) (fun p e s m below meth c ls S hr hlk hK h hl => ?_)
  have hx := S.1
  have hb := S.2.1
  have hl : lv_has ls 5 [(0, .ref (g.1 4 0 0)), (1, .int a1), (2, .int a2), (3, .int a3)] := hl
  unfold f_X4_change at hf
  refine lv_aload_n hx hb dX4_change_0 rfl (lv_at hl 0 rfl) ?_
  refine lv_iload_n hx hb dX4_change_1 rfl (lv_at hl 1 rfl) ?_
  obtain ⟨r3, w1, hc2, hf⟩ := fg_biE hf
  refine fg_ci h (fg_runV (rest := []) S hK h (c_X4_isPerson l D g a1  w r3 w1 hc2) vg_RX4_138 vd_X4_isPerson ⟨by decide, by decide⟩ fg_p4_0 rfl rfl rfl hl.1 rfl (Nat.le_of_ble_eq_true rfl) dX4_change_2 ⟨Nat.zero_le _, Nat.zero_le _⟩) (fun H locs h => ?_)
  refine lv_if_eq (tgt := 66) hx hb dX4_change_5 (by decide) (fun hc => ?_) (fun hc => ?_)
  · have hf := fg_ifT hf hc
    refine lv_aload_n hx hb dX4_change_66 rfl (lv_at hl 0 rfl) ?_
    refine lv_iconst (v := 0) hx hb dX4_change_67 rfl ?_
    obtain ⟨r6, w4, hc5, hf⟩ := fg_biE hf
    refine fg_ci h (fg_runV (rest := []) S hK h (c_X4_no l D g 0  w1 r6 w4 hc5) vg_RX4_129 vd_X4_no ⟨by decide, by decide⟩ fg_p4_0 rfl rfl rfl hl.1 rfl (Nat.le_of_ble_eq_true rfl) dX4_change_68 ⟨Nat.zero_le _, Nat.zero_le _⟩) (fun H locs h => ?_)
    exact fg_reti hx hb hr hlk hK h hf dX4_change_71
  · have hf := fg_ifF hf hc
    refine lv_iload_n hx hb dX4_change_8 rfl (lv_at hl 2 rfl) ?_
    refine lv_iconst (v := 0) hx hb dX4_change_9 rfl ?_
    refine lv_iconst (v := 4) hx hb dX4_change_10 rfl ?_
    obtain ⟨r9, w7, hc8, hf⟩ := fg_biE hf
    refine fg_ci h (fg_runS (rest := []) S hK h (c_X4_in1 l D g a2 0 4  w1 r9 w7 hc8) vk_X4_in1 vm_RX4_61 vs_X4_in1 vi_RX4 vd_X4_in1.2 ⟨by decide, by decide⟩ rfl hl.1 rfl (Nat.le_of_ble_eq_true rfl) dX4_change_11 ⟨Nat.zero_le _, Nat.zero_le _⟩) (fun H locs h => ?_)
    refine lv_if_eq (tgt := 66) hx hb dX4_change_14 (by decide) (fun hc => ?_) (fun hc => ?_)
    · have hf := fg_ifT hf hc
      refine lv_aload_n hx hb dX4_change_66 rfl (lv_at hl 0 rfl) ?_
      refine lv_iconst (v := 0) hx hb dX4_change_67 rfl ?_
      obtain ⟨r12, w10, hc11, hf⟩ := fg_biE hf
      refine fg_ci h (fg_runV (rest := []) S hK h (c_X4_no l D g 0  w7 r12 w10 hc11) vg_RX4_129 vd_X4_no ⟨by decide, by decide⟩ fg_p4_0 rfl rfl rfl hl.1 rfl (Nat.le_of_ble_eq_true rfl) dX4_change_68 ⟨Nat.zero_le _, Nat.zero_le _⟩) (fun H locs h => ?_)
      exact fg_reti hx hb hr hlk hK h hf dX4_change_71
    · have hf := fg_ifF hf hc
      refine lv_iload_n hx hb dX4_change_17 rfl (lv_at hl 3 rfl) ?_
      refine lv_iload_n hx hb dX4_change_18 rfl (lv_at hl 2 rfl) ?_
      refine lv_iconst (v := 1) hx hb dX4_change_19 rfl ?_
      refine lv_icmp_ne (tgt := 27) hx hb dX4_change_20 (by decide) (fun hc => ?_) (fun hc => ?_)
      · have hf := fg_ifF hf hc
        refine lv_iconst (v := 0) hx hb dX4_change_27 rfl ?_
        refine lv_iload_n hx hb dX4_change_28 rfl (lv_at hl 2 rfl) ?_
        refine lv_if_ne (tgt := 37) hx hb dX4_change_29 (by decide) (fun hc => ?_) (fun hc => ?_)
        · have hf := fg_ifF hf hc
          refine lv_iload_n hx hb dX4_change_37 rfl (lv_at hl 2 rfl) ?_
          refine lv_iconst (v := 1) hx hb dX4_change_38 rfl ?_
          refine lv_icmp_ne (tgt := 47) hx hb dX4_change_39 (by decide) (fun hc => ?_) (fun hc => ?_)
          · have hf := fg_ifF hf hc
            refine lv_iload_n hx hb dX4_change_47 rfl (lv_at hl 2 rfl) ?_
            refine lv_iconst (v := 2) hx hb dX4_change_48 rfl ?_
            refine lv_icmp_ne (tgt := 57) hx hb dX4_change_49 (by decide) (fun hc => ?_) (fun hc => ?_)
            · have hf := fg_ifF hf hc
              refine lv_sipush (v := 9999) hx hb dX4_change_57 rfl ?_
              obtain ⟨r15, w13, hc14, hf⟩ := fg_biE hf
              refine fg_ci h (fg_runS (rest := []) S hK h (c_X4_in1 l D g a3 0 9999  w7 r15 w13 hc14) vk_X4_in1 vm_RX4_61 vs_X4_in1 vi_RX4 vd_X4_in1.2 ⟨by decide, by decide⟩ rfl hl.1 rfl (Nat.le_of_ble_eq_true rfl) dX4_change_60 ⟨Nat.zero_le _, Nat.zero_le _⟩) (fun H locs h => ?_)
              refine lv_if_ne (tgt := 72) hx hb dX4_change_63 (by decide) (fun hc => ?_) (fun hc => ?_)
              · have hf := fg_ifF hf hc
                refine lv_aload_n hx hb dX4_change_72 rfl (lv_at hl 0 rfl) ?_
                refine lv_iload_n hx hb dX4_change_73 rfl (lv_at hl 1 rfl) ?_
                refine lv_iload_n hx hb dX4_change_74 rfl (lv_at hl 2 rfl) ?_
                obtain ⟨r18, w16, hc17, hf⟩ := fg_biE hf
                refine fg_ci h (fg_runV (rest := []) S hK h (c_X4_get l D g a1 a2  w13 r18 w16 hc17) vg_RX4_65 vd_X4_get ⟨by decide, by decide⟩ fg_p4_0 rfl rfl rfl hl.1 rfl (Nat.le_of_ble_eq_true rfl) dX4_change_75 ⟨Nat.zero_le _, Nat.zero_le _⟩) (fun H locs h => ?_)
                refine lv_istore (lv' := [(4, .int r18), (0, .ref (g.1 4 0 0)), (1, .int a1), (2, .int a2), (3, .int a3)]) hx hb dX4_change_78 hl (by decide) rfl (fun ls hl => ?_)
                refine lv_aload_n hx hb dX4_change_80 rfl (lv_at hl 1 rfl) ?_
                refine lv_iload_n hx hb dX4_change_81 rfl (lv_at hl 2 rfl) ?_
                refine lv_iload_n hx hb dX4_change_82 rfl (lv_at hl 3 rfl) ?_
                refine lv_iload_n hx hb dX4_change_83 rfl (lv_at hl 4 rfl) ?_
                obtain ⟨w19, hc20, hf⟩ := fg_bvE hf
                refine fg_cv h (fg_runV (rest := []) S hK h (c_X4_puts l D g a1 a2 a3  w16 w19 hc20) vg_RX4_95 vd_X4_puts ⟨by decide, by decide⟩ fg_p4_0 rfl rfl rfl hl.1 rfl (Nat.le_of_ble_eq_true rfl) dX4_change_84 ⟨Nat.zero_le _, Nat.zero_le _⟩) (fun H locs h => ?_)
                refine lv_iload hx hb dX4_change_87 (lv_at hl 0 rfl) ?_
                exact fg_reti hx hb hr hlk hK h hf dX4_change_89
              · have hf := fg_ifT hf hc
                refine lv_aload_n hx hb dX4_change_66 rfl (lv_at hl 0 rfl) ?_
                refine lv_iconst (v := 0) hx hb dX4_change_67 rfl ?_
                obtain ⟨r23, w21, hc22, hf⟩ := fg_biE hf
                refine fg_ci h (fg_runV (rest := []) S hK h (c_X4_no l D g 0  w13 r23 w21 hc22) vg_RX4_129 vd_X4_no ⟨by decide, by decide⟩ fg_p4_0 rfl rfl rfl hl.1 rfl (Nat.le_of_ble_eq_true rfl) dX4_change_68 ⟨Nat.zero_le _, Nat.zero_le _⟩) (fun H locs h => ?_)
                exact fg_reti hx hb hr hlk hK h hf dX4_change_71
            · have hf := fg_ifT hf hc
              refine lv_bipush (v := 99) hx hb dX4_change_52 rfl ?_
              refine lv_goto (tgt := 60) hx hb dX4_change_54 (by decide) ?_
              obtain ⟨r26, w24, hc25, hf⟩ := fg_biE hf
              refine fg_ci h (fg_runS (rest := []) S hK h (c_X4_in1 l D g a3 0 99  w7 r26 w24 hc25) vk_X4_in1 vm_RX4_61 vs_X4_in1 vi_RX4 vd_X4_in1.2 ⟨by decide, by decide⟩ rfl hl.1 rfl (Nat.le_of_ble_eq_true rfl) dX4_change_60 ⟨Nat.zero_le _, Nat.zero_le _⟩) (fun H locs h => ?_)
              refine lv_if_ne (tgt := 72) hx hb dX4_change_63 (by decide) (fun hc => ?_) (fun hc => ?_)
              · have hf := fg_ifF hf hc
                refine lv_aload_n hx hb dX4_change_72 rfl (lv_at hl 0 rfl) ?_
                refine lv_iload_n hx hb dX4_change_73 rfl (lv_at hl 1 rfl) ?_
                refine lv_iload_n hx hb dX4_change_74 rfl (lv_at hl 2 rfl) ?_
                obtain ⟨r29, w27, hc28, hf⟩ := fg_biE hf
                refine fg_ci h (fg_runV (rest := []) S hK h (c_X4_get l D g a1 a2  w24 r29 w27 hc28) vg_RX4_65 vd_X4_get ⟨by decide, by decide⟩ fg_p4_0 rfl rfl rfl hl.1 rfl (Nat.le_of_ble_eq_true rfl) dX4_change_75 ⟨Nat.zero_le _, Nat.zero_le _⟩) (fun H locs h => ?_)
                refine lv_istore (lv' := [(4, .int r29), (0, .ref (g.1 4 0 0)), (1, .int a1), (2, .int a2), (3, .int a3)]) hx hb dX4_change_78 hl (by decide) rfl (fun ls hl => ?_)
                refine lv_aload_n hx hb dX4_change_80 rfl (lv_at hl 1 rfl) ?_
                refine lv_iload_n hx hb dX4_change_81 rfl (lv_at hl 2 rfl) ?_
                refine lv_iload_n hx hb dX4_change_82 rfl (lv_at hl 3 rfl) ?_
                refine lv_iload_n hx hb dX4_change_83 rfl (lv_at hl 4 rfl) ?_
                obtain ⟨w30, hc31, hf⟩ := fg_bvE hf
                refine fg_cv h (fg_runV (rest := []) S hK h (c_X4_puts l D g a1 a2 a3  w27 w30 hc31) vg_RX4_95 vd_X4_puts ⟨by decide, by decide⟩ fg_p4_0 rfl rfl rfl hl.1 rfl (Nat.le_of_ble_eq_true rfl) dX4_change_84 ⟨Nat.zero_le _, Nat.zero_le _⟩) (fun H locs h => ?_)
                refine lv_iload hx hb dX4_change_87 (lv_at hl 0 rfl) ?_
                exact fg_reti hx hb hr hlk hK h hf dX4_change_89
              · have hf := fg_ifT hf hc
                refine lv_aload_n hx hb dX4_change_66 rfl (lv_at hl 0 rfl) ?_
                refine lv_iconst (v := 0) hx hb dX4_change_67 rfl ?_
                obtain ⟨r34, w32, hc33, hf⟩ := fg_biE hf
                refine fg_ci h (fg_runV (rest := []) S hK h (c_X4_no l D g 0  w24 r34 w32 hc33) vg_RX4_129 vd_X4_no ⟨by decide, by decide⟩ fg_p4_0 rfl rfl rfl hl.1 rfl (Nat.le_of_ble_eq_true rfl) dX4_change_68 ⟨Nat.zero_le _, Nat.zero_le _⟩) (fun H locs h => ?_)
                exact fg_reti hx hb hr hlk hK h hf dX4_change_71
          · have hf := fg_ifT hf hc
            refine lv_bipush (v := 9) hx hb dX4_change_42 rfl ?_
            refine lv_goto (tgt := 60) hx hb dX4_change_44 (by decide) ?_
            obtain ⟨r37, w35, hc36, hf⟩ := fg_biE hf
            refine fg_ci h (fg_runS (rest := []) S hK h (c_X4_in1 l D g a3 0 9  w7 r37 w35 hc36) vk_X4_in1 vm_RX4_61 vs_X4_in1 vi_RX4 vd_X4_in1.2 ⟨by decide, by decide⟩ rfl hl.1 rfl (Nat.le_of_ble_eq_true rfl) dX4_change_60 ⟨Nat.zero_le _, Nat.zero_le _⟩) (fun H locs h => ?_)
            refine lv_if_ne (tgt := 72) hx hb dX4_change_63 (by decide) (fun hc => ?_) (fun hc => ?_)
            · have hf := fg_ifF hf hc
              refine lv_aload_n hx hb dX4_change_72 rfl (lv_at hl 0 rfl) ?_
              refine lv_iload_n hx hb dX4_change_73 rfl (lv_at hl 1 rfl) ?_
              refine lv_iload_n hx hb dX4_change_74 rfl (lv_at hl 2 rfl) ?_
              obtain ⟨r40, w38, hc39, hf⟩ := fg_biE hf
              refine fg_ci h (fg_runV (rest := []) S hK h (c_X4_get l D g a1 a2  w35 r40 w38 hc39) vg_RX4_65 vd_X4_get ⟨by decide, by decide⟩ fg_p4_0 rfl rfl rfl hl.1 rfl (Nat.le_of_ble_eq_true rfl) dX4_change_75 ⟨Nat.zero_le _, Nat.zero_le _⟩) (fun H locs h => ?_)
              refine lv_istore (lv' := [(4, .int r40), (0, .ref (g.1 4 0 0)), (1, .int a1), (2, .int a2), (3, .int a3)]) hx hb dX4_change_78 hl (by decide) rfl (fun ls hl => ?_)
              refine lv_aload_n hx hb dX4_change_80 rfl (lv_at hl 1 rfl) ?_
              refine lv_iload_n hx hb dX4_change_81 rfl (lv_at hl 2 rfl) ?_
              refine lv_iload_n hx hb dX4_change_82 rfl (lv_at hl 3 rfl) ?_
              refine lv_iload_n hx hb dX4_change_83 rfl (lv_at hl 4 rfl) ?_
              obtain ⟨w41, hc42, hf⟩ := fg_bvE hf
              refine fg_cv h (fg_runV (rest := []) S hK h (c_X4_puts l D g a1 a2 a3  w38 w41 hc42) vg_RX4_95 vd_X4_puts ⟨by decide, by decide⟩ fg_p4_0 rfl rfl rfl hl.1 rfl (Nat.le_of_ble_eq_true rfl) dX4_change_84 ⟨Nat.zero_le _, Nat.zero_le _⟩) (fun H locs h => ?_)
              refine lv_iload hx hb dX4_change_87 (lv_at hl 0 rfl) ?_
              exact fg_reti hx hb hr hlk hK h hf dX4_change_89
            · have hf := fg_ifT hf hc
              refine lv_aload_n hx hb dX4_change_66 rfl (lv_at hl 0 rfl) ?_
              refine lv_iconst (v := 0) hx hb dX4_change_67 rfl ?_
              obtain ⟨r45, w43, hc44, hf⟩ := fg_biE hf
              refine fg_ci h (fg_runV (rest := []) S hK h (c_X4_no l D g 0  w35 r45 w43 hc44) vg_RX4_129 vd_X4_no ⟨by decide, by decide⟩ fg_p4_0 rfl rfl rfl hl.1 rfl (Nat.le_of_ble_eq_true rfl) dX4_change_68 ⟨Nat.zero_le _, Nat.zero_le _⟩) (fun H locs h => ?_)
              exact fg_reti hx hb hr hlk hK h hf dX4_change_71
        · have hf := fg_ifT hf hc
          refine lv_bipush (v := 6) hx hb dX4_change_32 rfl ?_
          refine lv_goto (tgt := 60) hx hb dX4_change_34 (by decide) ?_
          obtain ⟨r48, w46, hc47, hf⟩ := fg_biE hf
          refine fg_ci h (fg_runS (rest := []) S hK h (c_X4_in1 l D g a3 0 6  w7 r48 w46 hc47) vk_X4_in1 vm_RX4_61 vs_X4_in1 vi_RX4 vd_X4_in1.2 ⟨by decide, by decide⟩ rfl hl.1 rfl (Nat.le_of_ble_eq_true rfl) dX4_change_60 ⟨Nat.zero_le _, Nat.zero_le _⟩) (fun H locs h => ?_)
          refine lv_if_ne (tgt := 72) hx hb dX4_change_63 (by decide) (fun hc => ?_) (fun hc => ?_)
          · have hf := fg_ifF hf hc
            refine lv_aload_n hx hb dX4_change_72 rfl (lv_at hl 0 rfl) ?_
            refine lv_iload_n hx hb dX4_change_73 rfl (lv_at hl 1 rfl) ?_
            refine lv_iload_n hx hb dX4_change_74 rfl (lv_at hl 2 rfl) ?_
            obtain ⟨r51, w49, hc50, hf⟩ := fg_biE hf
            refine fg_ci h (fg_runV (rest := []) S hK h (c_X4_get l D g a1 a2  w46 r51 w49 hc50) vg_RX4_65 vd_X4_get ⟨by decide, by decide⟩ fg_p4_0 rfl rfl rfl hl.1 rfl (Nat.le_of_ble_eq_true rfl) dX4_change_75 ⟨Nat.zero_le _, Nat.zero_le _⟩) (fun H locs h => ?_)
            refine lv_istore (lv' := [(4, .int r51), (0, .ref (g.1 4 0 0)), (1, .int a1), (2, .int a2), (3, .int a3)]) hx hb dX4_change_78 hl (by decide) rfl (fun ls hl => ?_)
            refine lv_aload_n hx hb dX4_change_80 rfl (lv_at hl 1 rfl) ?_
            refine lv_iload_n hx hb dX4_change_81 rfl (lv_at hl 2 rfl) ?_
            refine lv_iload_n hx hb dX4_change_82 rfl (lv_at hl 3 rfl) ?_
            refine lv_iload_n hx hb dX4_change_83 rfl (lv_at hl 4 rfl) ?_
            obtain ⟨w52, hc53, hf⟩ := fg_bvE hf
            refine fg_cv h (fg_runV (rest := []) S hK h (c_X4_puts l D g a1 a2 a3  w49 w52 hc53) vg_RX4_95 vd_X4_puts ⟨by decide, by decide⟩ fg_p4_0 rfl rfl rfl hl.1 rfl (Nat.le_of_ble_eq_true rfl) dX4_change_84 ⟨Nat.zero_le _, Nat.zero_le _⟩) (fun H locs h => ?_)
            refine lv_iload hx hb dX4_change_87 (lv_at hl 0 rfl) ?_
            exact fg_reti hx hb hr hlk hK h hf dX4_change_89
          · have hf := fg_ifT hf hc
            refine lv_aload_n hx hb dX4_change_66 rfl (lv_at hl 0 rfl) ?_
            refine lv_iconst (v := 0) hx hb dX4_change_67 rfl ?_
            obtain ⟨r56, w54, hc55, hf⟩ := fg_biE hf
            refine fg_ci h (fg_runV (rest := []) S hK h (c_X4_no l D g 0  w46 r56 w54 hc55) vg_RX4_129 vd_X4_no ⟨by decide, by decide⟩ fg_p4_0 rfl rfl rfl hl.1 rfl (Nat.le_of_ble_eq_true rfl) dX4_change_68 ⟨Nat.zero_le _, Nat.zero_le _⟩) (fun H locs h => ?_)
            exact fg_reti hx hb hr hlk hK h hf dX4_change_71
      · have hf := fg_ifT hf hc
        refine lv_iconst (v := (-1)) hx hb dX4_change_23 rfl ?_
        refine lv_goto (tgt := 28) hx hb dX4_change_24 (by decide) ?_
        refine lv_iload_n hx hb dX4_change_28 rfl (lv_at hl 2 rfl) ?_
        refine lv_if_ne (tgt := 37) hx hb dX4_change_29 (by decide) (fun hc => ?_) (fun hc => ?_)
        · have hf := fg_ifF hf hc
          refine lv_iload_n hx hb dX4_change_37 rfl (lv_at hl 2 rfl) ?_
          refine lv_iconst (v := 1) hx hb dX4_change_38 rfl ?_
          refine lv_icmp_ne (tgt := 47) hx hb dX4_change_39 (by decide) (fun hc => ?_) (fun hc => ?_)
          · have hf := fg_ifF hf hc
            refine lv_iload_n hx hb dX4_change_47 rfl (lv_at hl 2 rfl) ?_
            refine lv_iconst (v := 2) hx hb dX4_change_48 rfl ?_
            refine lv_icmp_ne (tgt := 57) hx hb dX4_change_49 (by decide) (fun hc => ?_) (fun hc => ?_)
            · have hf := fg_ifF hf hc
              refine lv_sipush (v := 9999) hx hb dX4_change_57 rfl ?_
              obtain ⟨r59, w57, hc58, hf⟩ := fg_biE hf
              refine fg_ci h (fg_runS (rest := []) S hK h (c_X4_in1 l D g a3 (-1) 9999  w7 r59 w57 hc58) vk_X4_in1 vm_RX4_61 vs_X4_in1 vi_RX4 vd_X4_in1.2 ⟨by decide, by decide⟩ rfl hl.1 rfl (Nat.le_of_ble_eq_true rfl) dX4_change_60 ⟨Nat.zero_le _, Nat.zero_le _⟩) (fun H locs h => ?_)
              refine lv_if_ne (tgt := 72) hx hb dX4_change_63 (by decide) (fun hc => ?_) (fun hc => ?_)
              · have hf := fg_ifF hf hc
                refine lv_aload_n hx hb dX4_change_72 rfl (lv_at hl 0 rfl) ?_
                refine lv_iload_n hx hb dX4_change_73 rfl (lv_at hl 1 rfl) ?_
                refine lv_iload_n hx hb dX4_change_74 rfl (lv_at hl 2 rfl) ?_
                obtain ⟨r62, w60, hc61, hf⟩ := fg_biE hf
                refine fg_ci h (fg_runV (rest := []) S hK h (c_X4_get l D g a1 a2  w57 r62 w60 hc61) vg_RX4_65 vd_X4_get ⟨by decide, by decide⟩ fg_p4_0 rfl rfl rfl hl.1 rfl (Nat.le_of_ble_eq_true rfl) dX4_change_75 ⟨Nat.zero_le _, Nat.zero_le _⟩) (fun H locs h => ?_)
                refine lv_istore (lv' := [(4, .int r62), (0, .ref (g.1 4 0 0)), (1, .int a1), (2, .int a2), (3, .int a3)]) hx hb dX4_change_78 hl (by decide) rfl (fun ls hl => ?_)
                refine lv_aload_n hx hb dX4_change_80 rfl (lv_at hl 1 rfl) ?_
                refine lv_iload_n hx hb dX4_change_81 rfl (lv_at hl 2 rfl) ?_
                refine lv_iload_n hx hb dX4_change_82 rfl (lv_at hl 3 rfl) ?_
                refine lv_iload_n hx hb dX4_change_83 rfl (lv_at hl 4 rfl) ?_
                obtain ⟨w63, hc64, hf⟩ := fg_bvE hf
                refine fg_cv h (fg_runV (rest := []) S hK h (c_X4_puts l D g a1 a2 a3  w60 w63 hc64) vg_RX4_95 vd_X4_puts ⟨by decide, by decide⟩ fg_p4_0 rfl rfl rfl hl.1 rfl (Nat.le_of_ble_eq_true rfl) dX4_change_84 ⟨Nat.zero_le _, Nat.zero_le _⟩) (fun H locs h => ?_)
                refine lv_iload hx hb dX4_change_87 (lv_at hl 0 rfl) ?_
                exact fg_reti hx hb hr hlk hK h hf dX4_change_89
              · have hf := fg_ifT hf hc
                refine lv_aload_n hx hb dX4_change_66 rfl (lv_at hl 0 rfl) ?_
                refine lv_iconst (v := 0) hx hb dX4_change_67 rfl ?_
                obtain ⟨r67, w65, hc66, hf⟩ := fg_biE hf
                refine fg_ci h (fg_runV (rest := []) S hK h (c_X4_no l D g 0  w57 r67 w65 hc66) vg_RX4_129 vd_X4_no ⟨by decide, by decide⟩ fg_p4_0 rfl rfl rfl hl.1 rfl (Nat.le_of_ble_eq_true rfl) dX4_change_68 ⟨Nat.zero_le _, Nat.zero_le _⟩) (fun H locs h => ?_)
                exact fg_reti hx hb hr hlk hK h hf dX4_change_71
            · have hf := fg_ifT hf hc
              refine lv_bipush (v := 99) hx hb dX4_change_52 rfl ?_
              refine lv_goto (tgt := 60) hx hb dX4_change_54 (by decide) ?_
              obtain ⟨r70, w68, hc69, hf⟩ := fg_biE hf
              refine fg_ci h (fg_runS (rest := []) S hK h (c_X4_in1 l D g a3 (-1) 99  w7 r70 w68 hc69) vk_X4_in1 vm_RX4_61 vs_X4_in1 vi_RX4 vd_X4_in1.2 ⟨by decide, by decide⟩ rfl hl.1 rfl (Nat.le_of_ble_eq_true rfl) dX4_change_60 ⟨Nat.zero_le _, Nat.zero_le _⟩) (fun H locs h => ?_)
              refine lv_if_ne (tgt := 72) hx hb dX4_change_63 (by decide) (fun hc => ?_) (fun hc => ?_)
              · have hf := fg_ifF hf hc
                refine lv_aload_n hx hb dX4_change_72 rfl (lv_at hl 0 rfl) ?_
                refine lv_iload_n hx hb dX4_change_73 rfl (lv_at hl 1 rfl) ?_
                refine lv_iload_n hx hb dX4_change_74 rfl (lv_at hl 2 rfl) ?_
                obtain ⟨r73, w71, hc72, hf⟩ := fg_biE hf
                refine fg_ci h (fg_runV (rest := []) S hK h (c_X4_get l D g a1 a2  w68 r73 w71 hc72) vg_RX4_65 vd_X4_get ⟨by decide, by decide⟩ fg_p4_0 rfl rfl rfl hl.1 rfl (Nat.le_of_ble_eq_true rfl) dX4_change_75 ⟨Nat.zero_le _, Nat.zero_le _⟩) (fun H locs h => ?_)
                refine lv_istore (lv' := [(4, .int r73), (0, .ref (g.1 4 0 0)), (1, .int a1), (2, .int a2), (3, .int a3)]) hx hb dX4_change_78 hl (by decide) rfl (fun ls hl => ?_)
                refine lv_aload_n hx hb dX4_change_80 rfl (lv_at hl 1 rfl) ?_
                refine lv_iload_n hx hb dX4_change_81 rfl (lv_at hl 2 rfl) ?_
                refine lv_iload_n hx hb dX4_change_82 rfl (lv_at hl 3 rfl) ?_
                refine lv_iload_n hx hb dX4_change_83 rfl (lv_at hl 4 rfl) ?_
                obtain ⟨w74, hc75, hf⟩ := fg_bvE hf
                refine fg_cv h (fg_runV (rest := []) S hK h (c_X4_puts l D g a1 a2 a3  w71 w74 hc75) vg_RX4_95 vd_X4_puts ⟨by decide, by decide⟩ fg_p4_0 rfl rfl rfl hl.1 rfl (Nat.le_of_ble_eq_true rfl) dX4_change_84 ⟨Nat.zero_le _, Nat.zero_le _⟩) (fun H locs h => ?_)
                refine lv_iload hx hb dX4_change_87 (lv_at hl 0 rfl) ?_
                exact fg_reti hx hb hr hlk hK h hf dX4_change_89
              · have hf := fg_ifT hf hc
                refine lv_aload_n hx hb dX4_change_66 rfl (lv_at hl 0 rfl) ?_
                refine lv_iconst (v := 0) hx hb dX4_change_67 rfl ?_
                obtain ⟨r78, w76, hc77, hf⟩ := fg_biE hf
                refine fg_ci h (fg_runV (rest := []) S hK h (c_X4_no l D g 0  w68 r78 w76 hc77) vg_RX4_129 vd_X4_no ⟨by decide, by decide⟩ fg_p4_0 rfl rfl rfl hl.1 rfl (Nat.le_of_ble_eq_true rfl) dX4_change_68 ⟨Nat.zero_le _, Nat.zero_le _⟩) (fun H locs h => ?_)
                exact fg_reti hx hb hr hlk hK h hf dX4_change_71
          · have hf := fg_ifT hf hc
            refine lv_bipush (v := 9) hx hb dX4_change_42 rfl ?_
            refine lv_goto (tgt := 60) hx hb dX4_change_44 (by decide) ?_
            obtain ⟨r81, w79, hc80, hf⟩ := fg_biE hf
            refine fg_ci h (fg_runS (rest := []) S hK h (c_X4_in1 l D g a3 (-1) 9  w7 r81 w79 hc80) vk_X4_in1 vm_RX4_61 vs_X4_in1 vi_RX4 vd_X4_in1.2 ⟨by decide, by decide⟩ rfl hl.1 rfl (Nat.le_of_ble_eq_true rfl) dX4_change_60 ⟨Nat.zero_le _, Nat.zero_le _⟩) (fun H locs h => ?_)
            refine lv_if_ne (tgt := 72) hx hb dX4_change_63 (by decide) (fun hc => ?_) (fun hc => ?_)
            · have hf := fg_ifF hf hc
              refine lv_aload_n hx hb dX4_change_72 rfl (lv_at hl 0 rfl) ?_
              refine lv_iload_n hx hb dX4_change_73 rfl (lv_at hl 1 rfl) ?_
              refine lv_iload_n hx hb dX4_change_74 rfl (lv_at hl 2 rfl) ?_
              obtain ⟨r84, w82, hc83, hf⟩ := fg_biE hf
              refine fg_ci h (fg_runV (rest := []) S hK h (c_X4_get l D g a1 a2  w79 r84 w82 hc83) vg_RX4_65 vd_X4_get ⟨by decide, by decide⟩ fg_p4_0 rfl rfl rfl hl.1 rfl (Nat.le_of_ble_eq_true rfl) dX4_change_75 ⟨Nat.zero_le _, Nat.zero_le _⟩) (fun H locs h => ?_)
              refine lv_istore (lv' := [(4, .int r84), (0, .ref (g.1 4 0 0)), (1, .int a1), (2, .int a2), (3, .int a3)]) hx hb dX4_change_78 hl (by decide) rfl (fun ls hl => ?_)
              refine lv_aload_n hx hb dX4_change_80 rfl (lv_at hl 1 rfl) ?_
              refine lv_iload_n hx hb dX4_change_81 rfl (lv_at hl 2 rfl) ?_
              refine lv_iload_n hx hb dX4_change_82 rfl (lv_at hl 3 rfl) ?_
              refine lv_iload_n hx hb dX4_change_83 rfl (lv_at hl 4 rfl) ?_
              obtain ⟨w85, hc86, hf⟩ := fg_bvE hf
              refine fg_cv h (fg_runV (rest := []) S hK h (c_X4_puts l D g a1 a2 a3  w82 w85 hc86) vg_RX4_95 vd_X4_puts ⟨by decide, by decide⟩ fg_p4_0 rfl rfl rfl hl.1 rfl (Nat.le_of_ble_eq_true rfl) dX4_change_84 ⟨Nat.zero_le _, Nat.zero_le _⟩) (fun H locs h => ?_)
              refine lv_iload hx hb dX4_change_87 (lv_at hl 0 rfl) ?_
              exact fg_reti hx hb hr hlk hK h hf dX4_change_89
            · have hf := fg_ifT hf hc
              refine lv_aload_n hx hb dX4_change_66 rfl (lv_at hl 0 rfl) ?_
              refine lv_iconst (v := 0) hx hb dX4_change_67 rfl ?_
              obtain ⟨r89, w87, hc88, hf⟩ := fg_biE hf
              refine fg_ci h (fg_runV (rest := []) S hK h (c_X4_no l D g 0  w79 r89 w87 hc88) vg_RX4_129 vd_X4_no ⟨by decide, by decide⟩ fg_p4_0 rfl rfl rfl hl.1 rfl (Nat.le_of_ble_eq_true rfl) dX4_change_68 ⟨Nat.zero_le _, Nat.zero_le _⟩) (fun H locs h => ?_)
              exact fg_reti hx hb hr hlk hK h hf dX4_change_71
        · have hf := fg_ifT hf hc
          refine lv_bipush (v := 6) hx hb dX4_change_32 rfl ?_
          refine lv_goto (tgt := 60) hx hb dX4_change_34 (by decide) ?_
          obtain ⟨r92, w90, hc91, hf⟩ := fg_biE hf
          refine fg_ci h (fg_runS (rest := []) S hK h (c_X4_in1 l D g a3 (-1) 6  w7 r92 w90 hc91) vk_X4_in1 vm_RX4_61 vs_X4_in1 vi_RX4 vd_X4_in1.2 ⟨by decide, by decide⟩ rfl hl.1 rfl (Nat.le_of_ble_eq_true rfl) dX4_change_60 ⟨Nat.zero_le _, Nat.zero_le _⟩) (fun H locs h => ?_)
          refine lv_if_ne (tgt := 72) hx hb dX4_change_63 (by decide) (fun hc => ?_) (fun hc => ?_)
          · have hf := fg_ifF hf hc
            refine lv_aload_n hx hb dX4_change_72 rfl (lv_at hl 0 rfl) ?_
            refine lv_iload_n hx hb dX4_change_73 rfl (lv_at hl 1 rfl) ?_
            refine lv_iload_n hx hb dX4_change_74 rfl (lv_at hl 2 rfl) ?_
            obtain ⟨r95, w93, hc94, hf⟩ := fg_biE hf
            refine fg_ci h (fg_runV (rest := []) S hK h (c_X4_get l D g a1 a2  w90 r95 w93 hc94) vg_RX4_65 vd_X4_get ⟨by decide, by decide⟩ fg_p4_0 rfl rfl rfl hl.1 rfl (Nat.le_of_ble_eq_true rfl) dX4_change_75 ⟨Nat.zero_le _, Nat.zero_le _⟩) (fun H locs h => ?_)
            refine lv_istore (lv' := [(4, .int r95), (0, .ref (g.1 4 0 0)), (1, .int a1), (2, .int a2), (3, .int a3)]) hx hb dX4_change_78 hl (by decide) rfl (fun ls hl => ?_)
            refine lv_aload_n hx hb dX4_change_80 rfl (lv_at hl 1 rfl) ?_
            refine lv_iload_n hx hb dX4_change_81 rfl (lv_at hl 2 rfl) ?_
            refine lv_iload_n hx hb dX4_change_82 rfl (lv_at hl 3 rfl) ?_
            refine lv_iload_n hx hb dX4_change_83 rfl (lv_at hl 4 rfl) ?_
            obtain ⟨w96, hc97, hf⟩ := fg_bvE hf
            refine fg_cv h (fg_runV (rest := []) S hK h (c_X4_puts l D g a1 a2 a3  w93 w96 hc97) vg_RX4_95 vd_X4_puts ⟨by decide, by decide⟩ fg_p4_0 rfl rfl rfl hl.1 rfl (Nat.le_of_ble_eq_true rfl) dX4_change_84 ⟨Nat.zero_le _, Nat.zero_le _⟩) (fun H locs h => ?_)
            refine lv_iload hx hb dX4_change_87 (lv_at hl 0 rfl) ?_
            exact fg_reti hx hb hr hlk hK h hf dX4_change_89
          · have hf := fg_ifT hf hc
            refine lv_aload_n hx hb dX4_change_66 rfl (lv_at hl 0 rfl) ?_
            refine lv_iconst (v := 0) hx hb dX4_change_67 rfl ?_
            obtain ⟨r100, w98, hc99, hf⟩ := fg_biE hf
            refine fg_ci h (fg_runV (rest := []) S hK h (c_X4_no l D g 0  w90 r100 w98 hc99) vg_RX4_129 vd_X4_no ⟨by decide, by decide⟩ fg_p4_0 rfl rfl rfl hl.1 rfl (Nat.le_of_ble_eq_true rfl) dX4_change_68 ⟨Nat.zero_le _, Nat.zero_le _⟩) (fun H locs h => ?_)
            exact fg_reti hx hb hr hlk hK h hf dX4_change_71
set_option maxHeartbeats 4000000 in
set_option maxRecDepth 100000 in
theorem c_X4_trust (l : Launch) (D : va_G) (g : fg_G) (a1 : Int32) (a2 : Int32) (w : fg_W) (r : Int32) (w' : fg_W) (hf : f_X4_trust a1 a2 w = some (r, w')) : fg_M l yX4_trust cX4_trust 3 (some .int) 3 69 D g [.ref (g.1 4 0 0), .int a1, .int a2] w (fg_Qi D g r w') := by
  refine fg_M.of rfl (Nat.le_of_ble_eq_true rfl) (fun p e s m below meth c ls S hr hlk hK h hl => ?_)
  have hx := S.1
  have hb := S.2.1
  have hl : lv_has ls 3 [(0, .ref (g.1 4 0 0)), (1, .int a1), (2, .int a2)] := hl
  unfold f_X4_trust at hf
  refine lv_aload_n hx hb dX4_trust_0 rfl (lv_at hl 0 rfl) ?_
  refine lv_iload_n hx hb dX4_trust_1 rfl (lv_at hl 1 rfl) ?_
  obtain ⟨r3, w1, hc2, hf⟩ := fg_biE hf
  refine fg_ci h (fg_runV (rest := []) S hK h (c_X4_isPerson l D g a1  w r3 w1 hc2) vg_RX4_138 vd_X4_isPerson ⟨by decide, by decide⟩ fg_p4_0 rfl rfl rfl hl.1 rfl (Nat.le_of_ble_eq_true rfl) dX4_trust_2 ⟨Nat.zero_le _, Nat.zero_le _⟩) (fun H locs h => ?_)
  refine lv_if_eq (tgt := 24) hx hb dX4_trust_5 (by decide) (fun hc => ?_) (fun hc => ?_)
  · have hf := fg_ifT hf hc
    refine lv_aload_n hx hb dX4_trust_24 rfl (lv_at hl 0 rfl) ?_
    refine lv_iconst (v := 0) hx hb dX4_trust_25 rfl ?_
    obtain ⟨r6, w4, hc5, hf⟩ := fg_biE hf
    refine fg_ci h (fg_runV (rest := []) S hK h (c_X4_no l D g 0  w1 r6 w4 hc5) vg_RX4_129 vd_X4_no ⟨by decide, by decide⟩ fg_p4_0 rfl rfl rfl hl.1 rfl (Nat.le_of_ble_eq_true rfl) dX4_trust_26 ⟨Nat.zero_le _, Nat.zero_le _⟩) (fun H locs h => ?_)
    exact fg_reti hx hb hr hlk hK h hf dX4_trust_29
  · have hf := fg_ifF hf hc
    refine lv_iload_n hx hb dX4_trust_8 rfl (lv_at hl 2 rfl) ?_
    obtain ⟨r9, w7, hc8, hf⟩ := fg_biE hf
    refine fg_ci h (fg_runS (rest := []) S hK h (c_X4_isLot l D g a2  w1 r9 w7 hc8) vk_X4_isLot vm_RX4_126 vs_X4_isLot vi_RX4 vd_X4_isLot.2 ⟨by decide, by decide⟩ rfl hl.1 rfl (Nat.le_of_ble_eq_true rfl) dX4_trust_9 ⟨Nat.zero_le _, Nat.zero_le _⟩) (fun H locs h => ?_)
    refine lv_if_eq (tgt := 24) hx hb dX4_trust_12 (by decide) (fun hc => ?_) (fun hc => ?_)
    · have hf := fg_ifT hf hc
      refine lv_aload_n hx hb dX4_trust_24 rfl (lv_at hl 0 rfl) ?_
      refine lv_iconst (v := 0) hx hb dX4_trust_25 rfl ?_
      obtain ⟨r12, w10, hc11, hf⟩ := fg_biE hf
      refine fg_ci h (fg_runV (rest := []) S hK h (c_X4_no l D g 0  w7 r12 w10 hc11) vg_RX4_129 vd_X4_no ⟨by decide, by decide⟩ fg_p4_0 rfl rfl rfl hl.1 rfl (Nat.le_of_ble_eq_true rfl) dX4_trust_26 ⟨Nat.zero_le _, Nat.zero_le _⟩) (fun H locs h => ?_)
      exact fg_reti hx hb hr hlk hK h hf dX4_trust_29
    · have hf := fg_ifF hf hc
      refine lv_aload_n hx hb dX4_trust_15 rfl (lv_at hl 0 rfl) ?_
      refine lv_iload_n hx hb dX4_trust_16 rfl (lv_at hl 1 rfl) ?_
      refine lv_iload_n hx hb dX4_trust_17 rfl (lv_at hl 2 rfl) ?_
      obtain ⟨r15, w13, hc14, hf⟩ := fg_biE hf
      refine fg_ci h (fg_runV (rest := []) S hK h (c_X4_trustOf l D g a1 a2  w7 r15 w13 hc14) vg_RX4_79 vd_X4_trustOf ⟨by decide, by decide⟩ fg_p4_0 rfl rfl rfl hl.1 rfl (Nat.le_of_ble_eq_true rfl) dX4_trust_18 ⟨Nat.zero_le _, Nat.zero_le _⟩) (fun H locs h => ?_)
      refine lv_goto (tgt := 29) hx hb dX4_trust_21 (by decide) ?_
      exact fg_reti hx hb hr hlk hK h hf dX4_trust_29
set_option maxHeartbeats 4000000 in
set_option maxRecDepth 100000 in
theorem c_X4_less (l : Launch) (D : va_G) (g : fg_G) (a1 : Int32) (a2 : Int32) (w : fg_W) (r : Int32) (w' : fg_W) (hf : f_X4_less a1 a2 w = some (r, w')) : fg_M l yX4_less cX4_less 2 (some .int) 0 0 D g [.int a1, .int a2] w (fg_Qi D g r w') := by
  refine fg_M.of rfl (Nat.le_of_ble_eq_true rfl) (fun p e s m below meth c ls S hr hlk hK h hl => ?_)
  have hx := S.1
  have hb := S.2.1
  have hl : lv_has ls 2 [(0, .int a1), (1, .int a2)] := hl
  unfold f_X4_less at hf
  refine lv_iload_n hx hb dX4_less_0 rfl (lv_at hl 0 rfl) ?_
  refine lv_iload_n hx hb dX4_less_1 rfl (lv_at hl 1 rfl) ?_
  refine lv_icmp_ge (tgt := 9) hx hb dX4_less_2 (by decide) (fun hc => ?_) (fun hc => ?_)
  · have hf := fg_ifT hf hc
    refine lv_iload_n hx hb dX4_less_9 rfl (lv_at hl 1 rfl) ?_
    exact fg_reti hx hb hr hlk hK h hf dX4_less_10
  · have hf := fg_ifF hf hc
    refine lv_iload_n hx hb dX4_less_5 rfl (lv_at hl 0 rfl) ?_
    refine lv_goto (tgt := 10) hx hb dX4_less_6 (by decide) ?_
    exact fg_reti hx hb hr hlk hK h hf dX4_less_10
set_option maxHeartbeats 4000000 in
set_option maxRecDepth 100000 in
theorem c_X4_drifts (l : Launch) (D : va_G) (g : fg_G)  (w : fg_W) (w' : fg_W) (hf : f_X4_drifts  w = some w') : fg_M l yX4_drifts cX4_drifts 3 none 1 23 D g [.ref (g.1 4 0 0)] w (fg_Qv D g w') := by
  refine fg_M.of rfl (Nat.le_of_ble_eq_true rfl) (fun p e s m below meth c ls S hr hlk hK h hl => ?_)
  have hx := S.1
  have hb := S.2.1
  have hl : lv_has ls 3 [(0, .ref (g.1 4 0 0))] := hl
  unfold f_X4_drifts at hf
  refine lv_iconst (v := 0) hx hb dX4_drifts_0 rfl ?_
  refine lv_istore_n (lv' := [(1, .int 0), (0, .ref (g.1 4 0 0))]) hx hb dX4_drifts_1 rfl hl (by decide) rfl (fun ls hl => ?_)
  have hK_2 : ∀ (v1_2 : Int32) (w_2 : fg_W) (H : Heap) (locs : List Loc) (ls : Array Slot), fg_H D g s.heap w_2 H locs → lv_has ls 3 [(0, .ref (g.1 4 0 0)), (1, .int v1_2)] → (f_X4_drifts_L67  (fun v1_67 w_67 => f_X4_drifts_L104  (fun v1_104 w_104 => some w_104) fg_fuel 0 w_67) fg_fuel 0 w_2) = some w' → fg_Gv p l e 1 23 s m [.ref (g.1 4 0 0)] below meth c D g w' H locs 65 ls [] := by
    intro v1_2 w_2 H locs ls h hl hf
    refine lv_iconst (v := 0) hx hb dX4_drifts_65 rfl ?_
    refine lv_istore_n (lv' := [(1, .int 0), (0, .ref (g.1 4 0 0))]) hx hb dX4_drifts_66 rfl hl (by decide) rfl (fun ls hl => ?_)
    have hK_67 : ∀ (v1_67 : Int32) (w_67 : fg_W) (H : Heap) (locs : List Loc) (ls : Array Slot), fg_H D g s.heap w_67 H locs → lv_has ls 3 [(0, .ref (g.1 4 0 0)), (1, .int v1_67)] → (f_X4_drifts_L104  (fun v1_104 w_104 => some w_104) fg_fuel 0 w_67) = some w' → fg_Gv p l e 1 23 s m [.ref (g.1 4 0 0)] below meth c D g w' H locs 102 ls [] := by
      intro v1_67 w_67 H locs ls h hl hf
      refine lv_iconst (v := 0) hx hb dX4_drifts_102 rfl ?_
      refine lv_istore_n (lv' := [(1, .int 0), (0, .ref (g.1 4 0 0))]) hx hb dX4_drifts_103 rfl hl (by decide) rfl (fun ls hl => ?_)
      have hK_104 : ∀ (v1_104 : Int32) (w_104 : fg_W) (H : Heap) (locs : List Loc) (ls : Array Slot), fg_H D g s.heap w_104 H locs → lv_has ls 3 [(0, .ref (g.1 4 0 0)), (1, .int v1_104)] → (some w_104) = some w' → fg_Gv p l e 1 23 s m [.ref (g.1 4 0 0)] below meth c D g w' H locs 158 ls [] := by
        intro v1_104 w_104 H locs ls h hl hf
        exact fg_retv hx hb hr hlk hK h hf dX4_drifts_158
      have hL_104 : ∀ (KK_104 : Int32 → fg_W → Option fg_W) (hK_104 : ∀ (v1_104 : Int32) (w_104 : fg_W) (H : Heap) (locs : List Loc) (ls : Array Slot), fg_H D g s.heap w_104 H locs → lv_has ls 3 [(0, .ref (g.1 4 0 0)), (1, .int v1_104)] → KK_104 v1_104 w_104 = some w' → fg_Gv p l e 1 23 s m [.ref (g.1 4 0 0)] below meth c D g w' H locs 158 ls []) (n : Nat) (v1_104 : Int32) (w_104 : fg_W) (H : Heap) (locs : List Loc) (ls : Array Slot), fg_H D g s.heap w_104 H locs → lv_has ls 3 [(0, .ref (g.1 4 0 0)), (1, .int v1_104)] → f_X4_drifts_L104  KK_104 n v1_104 w_104 = some w' → fg_Gv p l e 1 23 s m [.ref (g.1 4 0 0)] below meth c D g w' H locs 104 ls [] := by
        intro KK_104 hK_104 n
        induction n with
        | zero => intro v1_104 w_104 H locs ls h hl hf; exact fg_no hf
        | succ n_104 ih_104 =>
          intro v1_104 w_104 H locs ls h hl hf
          unfold f_X4_drifts_L104 at hf
          refine lv_iload_n hx hb dX4_drifts_104 rfl (lv_at hl 1 rfl) ?_
          refine lv_bipush (v := 9) hx hb dX4_drifts_105 rfl ?_
          refine lv_icmp_ge (tgt := 158) hx hb dX4_drifts_107 (by decide) (fun hc => ?_) (fun hc => ?_)
          · have hf := fg_ifT hf hc
            exact hK_104 v1_104 w_104 _ _ ls h (lv_sub hl [0, 1] rfl) hf
          · have hf := fg_ifF hf hc
            refine lv_aload_n hx hb dX4_drifts_110 rfl (lv_at hl 0 rfl) ?_
            refine lv_iload_n hx hb dX4_drifts_111 rfl (lv_at hl 1 rfl) ?_
            refine lv_iconst (v := 0) hx hb dX4_drifts_112 rfl ?_
            refine lv_aload_n hx hb dX4_drifts_113 rfl (lv_at hl 0 rfl) ?_
            refine lv_iload_n hx hb dX4_drifts_114 rfl (lv_at hl 1 rfl) ?_
            refine lv_iconst (v := 0) hx hb dX4_drifts_115 rfl ?_
            obtain ⟨r15, w13, hc14, hf⟩ := fg_biE hf
            refine fg_ci h (fg_runV (rest := [.int 0, .int v1_104, .ref (g.1 4 0 0)]) S hK h (c_X4_of1 l D g v1_104 0  w_104 r15 w13 hc14) vg_RX4_73 vd_X4_of1 ⟨by decide, by decide⟩ fg_p4_0 rfl rfl rfl hl.1 rfl (Nat.le_of_ble_eq_true rfl) dX4_drifts_116 ⟨Nat.zero_le _, Nat.zero_le _⟩) (fun H locs h => ?_)
            refine lv_aload_n hx hb dX4_drifts_119 rfl (lv_at hl 0 rfl) ?_
            refine fg_get (C := RX4) (T := TX4) (N := 22) S vu_X4 hK h fg_p4_0 rfl rfl 6 (by decide) vf_RX4_22 rfl rfl dX4_drifts_120 ?_
            refine lv_iload_n hx hb dX4_drifts_123 rfl (lv_at hl 1 rfl) ?_
            obtain ⟨hn16, hf⟩ := fg_gdE hf
            refine fg_iald hx hb hK h fg_p4_5 (fun _ => rfl) hn16 dX4_drifts_124 ?_
            refine lv_isub hx hb dX4_drifts_125 ?_
            obtain ⟨w17, hc18, hf⟩ := fg_bvE hf
            refine fg_cv h (fg_runV (rest := []) S hK h (c_X4_lays1 l D g v1_104 0 (r15 - (w13.1 4 0 5 v1_104.toNatClampNeg))  w13 w17 hc18) vg_RX4_56 vd_X4_lays1 ⟨by decide, by decide⟩ fg_p4_0 rfl rfl rfl hl.1 rfl (Nat.le_of_ble_eq_true rfl) dX4_drifts_126 ⟨Nat.zero_le _, Nat.zero_le _⟩) (fun H locs h => ?_)
            refine lv_aload_n hx hb dX4_drifts_129 rfl (lv_at hl 0 rfl) ?_
            refine lv_iload_n hx hb dX4_drifts_130 rfl (lv_at hl 1 rfl) ?_
            refine lv_iconst (v := 1) hx hb dX4_drifts_131 rfl ?_
            refine lv_iadd hx hb dX4_drifts_132 ?_
            refine lv_iconst (v := 0) hx hb dX4_drifts_133 rfl ?_
            refine lv_aload_n hx hb dX4_drifts_134 rfl (lv_at hl 0 rfl) ?_
            refine lv_iload_n hx hb dX4_drifts_135 rfl (lv_at hl 1 rfl) ?_
            refine lv_iconst (v := 1) hx hb dX4_drifts_136 rfl ?_
            refine lv_iadd hx hb dX4_drifts_137 ?_
            refine lv_iconst (v := 0) hx hb dX4_drifts_138 rfl ?_
            obtain ⟨r21, w19, hc20, hf⟩ := fg_biE hf
            refine fg_ci h (fg_runV (rest := [.int 0, .int (v1_104 + 1), .ref (g.1 4 0 0)]) S hK h (c_X4_of1 l D g (v1_104 + 1) 0  w17 r21 w19 hc20) vg_RX4_73 vd_X4_of1 ⟨by decide, by decide⟩ fg_p4_0 rfl rfl rfl hl.1 rfl (Nat.le_of_ble_eq_true rfl) dX4_drifts_139 ⟨Nat.zero_le _, Nat.zero_le _⟩) (fun H locs h => ?_)
            refine lv_aload_n hx hb dX4_drifts_142 rfl (lv_at hl 0 rfl) ?_
            refine fg_get (C := RX4) (T := TX4) (N := 22) S vu_X4 hK h fg_p4_0 rfl rfl 6 (by decide) vf_RX4_22 rfl rfl dX4_drifts_143 ?_
            refine lv_iload_n hx hb dX4_drifts_146 rfl (lv_at hl 1 rfl) ?_
            obtain ⟨hn22, hf⟩ := fg_gdE hf
            refine fg_iald hx hb hK h fg_p4_5 (fun _ => rfl) hn22 dX4_drifts_147 ?_
            refine lv_iadd hx hb dX4_drifts_148 ?_
            obtain ⟨w23, hc24, hf⟩ := fg_bvE hf
            refine fg_cv h (fg_runV (rest := []) S hK h (c_X4_lays1 l D g (v1_104 + 1) 0 (r21 + (w19.1 4 0 5 v1_104.toNatClampNeg))  w19 w23 hc24) vg_RX4_56 vd_X4_lays1 ⟨by decide, by decide⟩ fg_p4_0 rfl rfl rfl hl.1 rfl (Nat.le_of_ble_eq_true rfl) dX4_drifts_149 ⟨Nat.zero_le _, Nat.zero_le _⟩) (fun H locs h => ?_)
            refine lv_iinc (v := (v1_104 + 1)) (lv' := [(1, .int (v1_104 + 1)), (0, .ref (g.1 4 0 0))]) hx hb dX4_drifts_152 hl (k := 1) rfl rfl (by decide) rfl (fun ls hl => ?_)
            refine lv_goto (tgt := 104) hx hb dX4_drifts_155 (by decide) ?_
            exact ih_104 (v1_104 + 1) w23 _ _ ls h (lv_sub hl [1, 0] rfl) hf
      exact hL_104 _ hK_104 fg_fuel 0 w_67 _ _ ls h (lv_sub hl [1, 0] rfl) hf
    have hL_67 : ∀ (KK_67 : Int32 → fg_W → Option fg_W) (hK_67 : ∀ (v1_67 : Int32) (w_67 : fg_W) (H : Heap) (locs : List Loc) (ls : Array Slot), fg_H D g s.heap w_67 H locs → lv_has ls 3 [(0, .ref (g.1 4 0 0)), (1, .int v1_67)] → KK_67 v1_67 w_67 = some w' → fg_Gv p l e 1 23 s m [.ref (g.1 4 0 0)] below meth c D g w' H locs 102 ls []) (n : Nat) (v1_67 : Int32) (w_67 : fg_W) (H : Heap) (locs : List Loc) (ls : Array Slot), fg_H D g s.heap w_67 H locs → lv_has ls 3 [(0, .ref (g.1 4 0 0)), (1, .int v1_67)] → f_X4_drifts_L67  KK_67 n v1_67 w_67 = some w' → fg_Gv p l e 1 23 s m [.ref (g.1 4 0 0)] below meth c D g w' H locs 67 ls [] := by
      intro KK_67 hK_67 n
      induction n with
      | zero => intro v1_67 w_67 H locs ls h hl hf; exact fg_no hf
      | succ n_67 ih_67 =>
        intro v1_67 w_67 H locs ls h hl hf
        unfold f_X4_drifts_L67 at hf
        refine lv_iload_n hx hb dX4_drifts_67 rfl (lv_at hl 1 rfl) ?_
        refine lv_bipush (v := 9) hx hb dX4_drifts_68 rfl ?_
        refine lv_icmp_ge (tgt := 102) hx hb dX4_drifts_70 (by decide) (fun hc => ?_) (fun hc => ?_)
        · have hf := fg_ifT hf hc
          exact hK_67 v1_67 w_67 _ _ ls h (lv_sub hl [0, 1] rfl) hf
        · have hf := fg_ifF hf hc
          refine lv_aload_n hx hb dX4_drifts_73 rfl (lv_at hl 0 rfl) ?_
          refine fg_get (C := RX4) (T := TX4) (N := 22) S vu_X4 hK h fg_p4_0 rfl rfl 6 (by decide) vf_RX4_22 rfl rfl dX4_drifts_74 ?_
          refine lv_iload_n hx hb dX4_drifts_77 rfl (lv_at hl 1 rfl) ?_
          refine lv_aload_n hx hb dX4_drifts_78 rfl (lv_at hl 0 rfl) ?_
          refine lv_iload_n hx hb dX4_drifts_79 rfl (lv_at hl 1 rfl) ?_
          refine lv_iconst (v := 0) hx hb dX4_drifts_80 rfl ?_
          obtain ⟨r35, w33, hc34, hf⟩ := fg_biE hf
          refine fg_ci h (fg_runV (rest := [.int v1_67, .ref (g.1 4 0 5)]) S hK h (c_X4_of1 l D g v1_67 0  w_67 r35 w33 hc34) vg_RX4_73 vd_X4_of1 ⟨by decide, by decide⟩ fg_p4_0 rfl rfl rfl hl.1 rfl (Nat.le_of_ble_eq_true rfl) dX4_drifts_81 ⟨Nat.zero_le _, Nat.zero_le _⟩) (fun H locs h => ?_)
          refine lv_aload_n hx hb dX4_drifts_84 rfl (lv_at hl 0 rfl) ?_
          refine lv_iload_n hx hb dX4_drifts_85 rfl (lv_at hl 1 rfl) ?_
          refine lv_iconst (v := 1) hx hb dX4_drifts_86 rfl ?_
          refine lv_iadd hx hb dX4_drifts_87 ?_
          refine lv_iconst (v := 0) hx hb dX4_drifts_88 rfl ?_
          obtain ⟨r38, w36, hc37, hf⟩ := fg_biE hf
          refine fg_ci h (fg_runV (rest := [.int r35, .int v1_67, .ref (g.1 4 0 5)]) S hK h (c_X4_of1 l D g (v1_67 + 1) 0  w33 r38 w36 hc37) vg_RX4_73 vd_X4_of1 ⟨by decide, by decide⟩ fg_p4_0 rfl rfl rfl hl.1 rfl (Nat.le_of_ble_eq_true rfl) dX4_drifts_89 ⟨Nat.zero_le _, Nat.zero_le _⟩) (fun H locs h => ?_)
          refine lv_isub hx hb dX4_drifts_92 ?_
          refine lv_iconst (v := 4) hx hb dX4_drifts_93 rfl ?_
          refine lv_idiv hx hb dX4_drifts_94 (by decide) ?_
          obtain ⟨hn40, hf⟩ := fg_gdE hf
          refine fg_iast hx hb hK h fg_p4_5 (fun _ => rfl) hn40 dX4_drifts_95 (fun w39 H locs ew h => ?_)
          have hf := fg_letE ew hf
          refine lv_iinc (v := (v1_67 + 1)) (lv' := [(1, .int (v1_67 + 1)), (0, .ref (g.1 4 0 0))]) hx hb dX4_drifts_96 hl (k := 1) rfl rfl (by decide) rfl (fun ls hl => ?_)
          refine lv_goto (tgt := 67) hx hb dX4_drifts_99 (by decide) ?_
          exact ih_67 (v1_67 + 1) w39 _ _ ls h (lv_sub hl [1, 0] rfl) hf
    exact hL_67 _ hK_67 fg_fuel 0 w_2 _ _ ls h (lv_sub hl [1, 0] rfl) hf
  have hL_2 : ∀ (KK_2 : Int32 → fg_W → Option fg_W) (hK_2 : ∀ (v1_2 : Int32) (w_2 : fg_W) (H : Heap) (locs : List Loc) (ls : Array Slot), fg_H D g s.heap w_2 H locs → lv_has ls 3 [(0, .ref (g.1 4 0 0)), (1, .int v1_2)] → KK_2 v1_2 w_2 = some w' → fg_Gv p l e 1 23 s m [.ref (g.1 4 0 0)] below meth c D g w' H locs 65 ls []) (n : Nat) (v1_2 : Int32) (w_2 : fg_W) (H : Heap) (locs : List Loc) (ls : Array Slot), fg_H D g s.heap w_2 H locs → lv_has ls 3 [(0, .ref (g.1 4 0 0)), (1, .int v1_2)] → f_X4_drifts_L2  KK_2 n v1_2 w_2 = some w' → fg_Gv p l e 1 23 s m [.ref (g.1 4 0 0)] below meth c D g w' H locs 2 ls [] := by
    intro KK_2 hK_2 n
    induction n with
    | zero => intro v1_2 w_2 H locs ls h hl hf; exact fg_no hf
    | succ n_2 ih_2 =>
      intro v1_2 w_2 H locs ls h hl hf
      unfold f_X4_drifts_L2 at hf
      refine lv_iload_n hx hb dX4_drifts_2 rfl (lv_at hl 1 rfl) ?_
      refine lv_bipush (v := 10) hx hb dX4_drifts_3 rfl ?_
      refine lv_icmp_ge (tgt := 65) hx hb dX4_drifts_5 (by decide) (fun hc => ?_) (fun hc => ?_)
      · have hf := fg_ifT hf hc
        exact hK_2 v1_2 w_2 _ _ ls h (lv_sub hl [0, 1] rfl) hf
      · have hf := fg_ifF hf hc
        refine lv_aload_n hx hb dX4_drifts_8 rfl (lv_at hl 0 rfl) ?_
        refine lv_iload_n hx hb dX4_drifts_9 rfl (lv_at hl 1 rfl) ?_
        refine lv_iconst (v := 0) hx hb dX4_drifts_10 rfl ?_
        obtain ⟨r55, w53, hc54, hf⟩ := fg_biE hf
        refine fg_ci h (fg_runV (rest := []) S hK h (c_X4_of1 l D g v1_2 0  w_2 r55 w53 hc54) vg_RX4_73 vd_X4_of1 ⟨by decide, by decide⟩ fg_p4_0 rfl rfl rfl hl.1 rfl (Nat.le_of_ble_eq_true rfl) dX4_drifts_11 ⟨Nat.zero_le _, Nat.zero_le _⟩) (fun H locs h => ?_)
        refine lv_aload_n hx hb dX4_drifts_14 rfl (lv_at hl 0 rfl) ?_
        refine fg_get (C := RX4) (T := TX4) (N := 22) S vu_X4 hK h fg_p4_0 rfl rfl 0 (by decide) vf_RX4_9 rfl rfl dX4_drifts_15 ?_
        refine lv_iconst (v := 4) hx hb dX4_drifts_18 rfl ?_
        refine lv_aload_n hx hb dX4_drifts_19 rfl (lv_at hl 0 rfl) ?_
        refine fg_get (C := RX4) (T := TX4) (N := 22) S vu_X4 hK h fg_p4_0 rfl rfl 0 (by decide) vf_RX4_9 rfl rfl dX4_drifts_20 ?_
        refine lv_iconst (v := 0) hx hb dX4_drifts_23 rfl ?_
        refine fg_ialdL (j := 0) hx hb hK h fg_p4_1 (fun _ => rfl) (by decide) rfl dX4_drifts_24 ?_
        refine lv_bipush (v := 6) hx hb dX4_drifts_25 rfl ?_
        refine lv_irem hx hb dX4_drifts_27 (by decide) ?_
        refine lv_iadd hx hb dX4_drifts_28 ?_
        obtain ⟨hn56, hf⟩ := fg_gdE hf
        refine fg_iald hx hb hK h fg_p4_1 (fun _ => rfl) hn56 dX4_drifts_29 ?_
        refine lv_isub hx hb dX4_drifts_30 ?_
        refine lv_aload_n hx hb dX4_drifts_31 rfl (lv_at hl 0 rfl) ?_
        refine fg_get (C := RX4) (T := TX4) (N := 22) S vu_X4 hK h fg_p4_0 rfl rfl 0 (by decide) vf_RX4_9 rfl rfl dX4_drifts_32 ?_
        refine lv_iconst (v := 3) hx hb dX4_drifts_35 rfl ?_
        refine fg_ialdL (j := 3) hx hb hK h fg_p4_1 (fun _ => rfl) (by decide) rfl dX4_drifts_36 ?_
        refine lv_iadd hx hb dX4_drifts_37 ?_
        refine lv_topi (fun x57 e_x57 => ?_)
        have hf := fg_letE e_x57 hf
        refine lv_istore_n (lv' := [(2, .int x57), (0, .ref (g.1 4 0 0)), (1, .int v1_2)]) hx hb dX4_drifts_38 rfl hl (by decide) rfl (fun ls hl => ?_)
        refine lv_aload_n hx hb dX4_drifts_39 rfl (lv_at hl 1 rfl) ?_
        refine lv_iload_n hx hb dX4_drifts_40 rfl (lv_at hl 2 rfl) ?_
        refine lv_iconst (v := 0) hx hb dX4_drifts_41 rfl ?_
        refine lv_iload_n hx hb dX4_drifts_42 rfl (lv_at hl 0 rfl) ?_
        refine lv_if_ge (tgt := 50) hx hb dX4_drifts_43 (by decide) (fun hc => ?_) (fun hc => ?_)
        · have hf := fg_ifT hf hc
          refine lv_bipush (v := 99) hx hb dX4_drifts_50 rfl ?_
          refine lv_iload_n hx hb dX4_drifts_52 rfl (lv_at hl 0 rfl) ?_
          obtain ⟨r60, w58, hc59, hf⟩ := fg_biE hf
          refine fg_ci h (fg_runS (rest := [.int 0, .int v1_2, .ref (g.1 4 0 0)]) S hK h (c_X4_less l D g 99 x57  w53 r60 w58 hc59) vk_X4_less vm_RX4_89 vs_X4_less vi_RX4 vd_X4_less.2 ⟨by decide, by decide⟩ rfl hl.1 rfl (Nat.le_of_ble_eq_true rfl) dX4_drifts_53 ⟨Nat.zero_le _, Nat.zero_le _⟩) (fun H locs h => ?_)
          obtain ⟨w61, hc62, hf⟩ := fg_bvE hf
          refine fg_cv h (fg_runV (rest := []) S hK h (c_X4_lays1 l D g v1_2 0 r60  w58 w61 hc62) vg_RX4_56 vd_X4_lays1 ⟨by decide, by decide⟩ fg_p4_0 rfl rfl rfl hl.1 rfl (Nat.le_of_ble_eq_true rfl) dX4_drifts_56 ⟨Nat.zero_le _, Nat.zero_le _⟩) (fun H locs h => ?_)
          refine lv_iinc (v := (v1_2 + 1)) (lv' := [(1, .int (v1_2 + 1)), (2, .int x57), (0, .ref (g.1 4 0 0))]) hx hb dX4_drifts_59 hl (k := 2) rfl rfl (by decide) rfl (fun ls hl => ?_)
          refine lv_goto (tgt := 2) hx hb dX4_drifts_62 (by decide) ?_
          exact ih_2 (v1_2 + 1) w61 _ _ ls h (lv_sub hl [2, 0] rfl) hf
        · have hf := fg_ifF hf hc
          refine lv_iconst (v := 0) hx hb dX4_drifts_46 rfl ?_
          refine lv_goto (tgt := 56) hx hb dX4_drifts_47 (by decide) ?_
          obtain ⟨w63, hc64, hf⟩ := fg_bvE hf
          refine fg_cv h (fg_runV (rest := []) S hK h (c_X4_lays1 l D g v1_2 0 0  w53 w63 hc64) vg_RX4_56 vd_X4_lays1 ⟨by decide, by decide⟩ fg_p4_0 rfl rfl rfl hl.1 rfl (Nat.le_of_ble_eq_true rfl) dX4_drifts_56 ⟨Nat.zero_le _, Nat.zero_le _⟩) (fun H locs h => ?_)
          refine lv_iinc (v := (v1_2 + 1)) (lv' := [(1, .int (v1_2 + 1)), (2, .int x57), (0, .ref (g.1 4 0 0))]) hx hb dX4_drifts_59 hl (k := 2) rfl rfl (by decide) rfl (fun ls hl => ?_)
          refine lv_goto (tgt := 2) hx hb dX4_drifts_62 (by decide) ?_
          exact ih_2 (v1_2 + 1) w63 _ _ ls h (lv_sub hl [2, 0] rfl) hf
  exact hL_2 _ hK_2 fg_fuel 0 w _ _ ls h (lv_sub hl [1, 0] rfl) hf
set_option maxHeartbeats 4000000 in
set_option maxRecDepth 100000 in
theorem c_X4_isAway (l : Launch) (D : va_G) (g : fg_G) (a1 : Int32) (w : fg_W) (r : Int32) (w' : fg_W) (hf : f_X4_isAway a1 w = some (r, w')) : fg_M l yX4_isAway cX4_isAway 2 (some .boolean) 0 0 D g [.ref (g.1 4 0 0), .int a1] w (fg_Qi D g r w') := by
  refine fg_M.of rfl (Nat.le_of_ble_eq_true rfl) (fun p e s m below meth c ls S hr hlk hK h hl => ?_)
  have hx := S.1
  have hb := S.2.1
  have hl : lv_has ls 2 [(0, .ref (g.1 4 0 0)), (1, .int a1)] := hl
  unfold f_X4_isAway at hf
  refine lv_aload_n hx hb dX4_isAway_0 rfl (lv_at hl 0 rfl) ?_
  refine fg_get (C := RX4) (T := TX4) (N := 22) S vu_X4 hK h fg_p4_0 rfl rfl 5 (by decide) vf_RX4_101 rfl rfl dX4_isAway_1 ?_
  refine lv_iload_n hx hb dX4_isAway_4 rfl (lv_at hl 1 rfl) ?_
  refine lv_ishr hx hb dX4_isAway_5 ?_
  refine lv_iconst (v := 1) hx hb dX4_isAway_6 rfl ?_
  refine lv_iand hx hb dX4_isAway_7 ?_
  refine lv_iconst (v := 1) hx hb dX4_isAway_8 rfl ?_
  refine lv_icmp_ne (tgt := 16) hx hb dX4_isAway_9 (by decide) (fun hc => ?_) (fun hc => ?_)
  · have hf := fg_ifF hf hc
    refine lv_iconst (v := 0) hx hb dX4_isAway_16 rfl ?_
    exact fg_retz hx hb hr hlk hK h hf (by decide) dX4_isAway_17
  · have hf := fg_ifT hf hc
    refine lv_iconst (v := 1) hx hb dX4_isAway_12 rfl ?_
    refine lv_goto (tgt := 17) hx hb dX4_isAway_13 (by decide) ?_
    exact fg_retz hx hb hr hlk hK h hf (by decide) dX4_isAway_17
set_option maxHeartbeats 4000000 in
set_option maxRecDepth 100000 in
theorem c_X4_moves (l : Launch) (D : va_G) (g : fg_G) (a1 : Int32) (w : fg_W) (w' : fg_W) (hf : f_X4_moves a1 w = some w') : fg_M l yX4_moves cX4_moves 4 none 5 114 D g [.ref (g.1 4 0 0), .int a1] w (fg_Qv D g w') := by
  refine fg_M.of rfl (Nat.le_of_ble_eq_true rfl) (fun p e s m below meth c ls S hr hlk hK h hl => ?_)
  have hx := S.1
  have hb := S.2.1
  have hl : lv_has ls 4 [(0, .ref (g.1 4 0 0)), (1, .int a1)] := hl
  unfold f_X4_moves at hf
  refine lv_aload_n hx hb dX4_moves_0 rfl (lv_at hl 0 rfl) ?_
  refine lv_iload_n hx hb dX4_moves_1 rfl (lv_at hl 1 rfl) ?_
  refine lv_iconst (v := 1) hx hb dX4_moves_2 rfl ?_
  obtain ⟨r3, w1, hc2, hf⟩ := fg_biE hf
  refine fg_ci h (fg_runV (rest := []) S hK h (c_X4_get l D g a1 1  w r3 w1 hc2) vg_RX4_65 vd_X4_get ⟨by decide, by decide⟩ fg_p4_0 rfl rfl rfl hl.1 rfl (Nat.le_of_ble_eq_true rfl) dX4_moves_3 ⟨Nat.zero_le _, Nat.zero_le _⟩) (fun H locs h => ?_)
  refine lv_istore_n (lv' := [(2, .int r3), (0, .ref (g.1 4 0 0)), (1, .int a1)]) hx hb dX4_moves_6 rfl hl (by decide) rfl (fun ls hl => ?_)
  refine lv_iload_n hx hb dX4_moves_7 rfl (lv_at hl 0 rfl) ?_
  refine lv_if_ge (tgt := 25) hx hb dX4_moves_8 (by decide) (fun hc => ?_) (fun hc => ?_)
  · have hf := fg_ifT hf hc
    refine lv_aload_n hx hb dX4_moves_25 rfl (lv_at hl 1 rfl) ?_
    refine lv_iload_n hx hb dX4_moves_26 rfl (lv_at hl 2 rfl) ?_
    refine lv_iload_n hx hb dX4_moves_27 rfl (lv_at hl 0 rfl) ?_
    obtain ⟨r6, w4, hc5, hf⟩ := fg_biE hf
    refine fg_ci h (fg_runV (rest := []) S hK h (c_X4_stands l D g a1 r3  w1 r6 w4 hc5) vg_RX4_82 vd_X4_stands ⟨by decide, by decide⟩ fg_p4_0 rfl rfl rfl hl.1 rfl (Nat.le_of_ble_eq_true rfl) dX4_moves_28 ⟨Nat.zero_le _, Nat.zero_le _⟩) (fun H locs h => ?_)
    refine lv_if_ne (tgt := 89) hx hb dX4_moves_31 (by decide) (fun hc => ?_) (fun hc => ?_)
    · have hf := fg_ifF hf hc
      exact fg_retv hx hb hr hlk hK h hf dX4_moves_89
    · have hf := fg_ifT hf hc
      refine lv_aload_n hx hb dX4_moves_34 rfl (lv_at hl 1 rfl) ?_
      refine lv_iload_n hx hb dX4_moves_35 rfl (lv_at hl 2 rfl) ?_
      refine lv_iconst (v := 2) hx hb dX4_moves_36 rfl ?_
      obtain ⟨r9, w7, hc8, hf⟩ := fg_biE hf
      refine fg_ci h (fg_runV (rest := []) S hK h (c_X4_get l D g a1 2  w4 r9 w7 hc8) vg_RX4_65 vd_X4_get ⟨by decide, by decide⟩ fg_p4_0 rfl rfl rfl hl.1 rfl (Nat.le_of_ble_eq_true rfl) dX4_moves_37 ⟨Nat.zero_le _, Nat.zero_le _⟩) (fun H locs h => ?_)
      refine lv_aload_n hx hb dX4_moves_40 rfl (lv_at hl 1 rfl) ?_
      refine lv_iload_n hx hb dX4_moves_41 rfl (lv_at hl 2 rfl) ?_
      obtain ⟨r12, w10, hc11, hf⟩ := fg_biE hf
      refine fg_ci h (fg_runV (rest := [.int r9]) S hK h (c_X4_losesOf l D g a1  w7 r12 w10 hc11) vg_RX4_98 vd_X4_losesOf ⟨by decide, by decide⟩ fg_p4_0 rfl rfl rfl hl.1 rfl (Nat.le_of_ble_eq_true rfl) dX4_moves_42 ⟨Nat.zero_le _, Nat.zero_le _⟩) (fun H locs h => ?_)
      refine lv_isub hx hb dX4_moves_45 ?_
      refine lv_topi (fun x13 e_x13 => ?_)
      have hf := fg_letE e_x13 hf
      refine lv_istore_n (lv' := [(3, .int x13), (2, .int r3), (0, .ref (g.1 4 0 0)), (1, .int a1)]) hx hb dX4_moves_46 rfl hl (by decide) rfl (fun ls hl => ?_)
      refine lv_aload_n hx hb dX4_moves_47 rfl (lv_at hl 2 rfl) ?_
      refine lv_iload_n hx hb dX4_moves_48 rfl (lv_at hl 3 rfl) ?_
      refine lv_iconst (v := 4) hx hb dX4_moves_49 rfl ?_
      refine lv_sipush (v := 9999) hx hb dX4_moves_50 rfl ?_
      refine lv_aload_n hx hb dX4_moves_53 rfl (lv_at hl 2 rfl) ?_
      refine lv_iload_n hx hb dX4_moves_54 rfl (lv_at hl 3 rfl) ?_
      refine lv_iconst (v := 4) hx hb dX4_moves_55 rfl ?_
      obtain ⟨r16, w14, hc15, hf⟩ := fg_biE hf
      refine fg_ci h (fg_runV (rest := [.int 9999, .int 4, .int a1, .ref (g.1 4 0 0)]) S hK h (c_X4_get l D g a1 4  w10 r16 w14 hc15) vg_RX4_65 vd_X4_get ⟨by decide, by decide⟩ fg_p4_0 rfl rfl rfl hl.1 rfl (Nat.le_of_ble_eq_true rfl) dX4_moves_56 ⟨Nat.zero_le _, Nat.zero_le _⟩) (fun H locs h => ?_)
      refine lv_iconst (v := 1) hx hb dX4_moves_59 rfl ?_
      refine lv_iadd hx hb dX4_moves_60 ?_
      obtain ⟨r19, w17, hc18, hf⟩ := fg_biE hf
      refine fg_ci h (fg_runS (rest := [.int 4, .int a1, .ref (g.1 4 0 0)]) S hK h (c_X4_less l D g 9999 (r16 + 1)  w14 r19 w17 hc18) vk_X4_less vm_RX4_89 vs_X4_less vi_RX4 vd_X4_less.2 ⟨by decide, by decide⟩ rfl hl.1 rfl (Nat.le_of_ble_eq_true rfl) dX4_moves_61 ⟨Nat.zero_le _, Nat.zero_le _⟩) (fun H locs h => ?_)
      obtain ⟨w20, hc21, hf⟩ := fg_bvE hf
      refine fg_cv h (fg_runV (rest := []) S hK h (c_X4_puts l D g a1 4 r19  w17 w20 hc21) vg_RX4_95 vd_X4_puts ⟨by decide, by decide⟩ fg_p4_0 rfl rfl rfl hl.1 rfl (Nat.le_of_ble_eq_true rfl) dX4_moves_64 ⟨Nat.zero_le _, Nat.zero_le _⟩) (fun H locs h => ?_)
      refine lv_aload_n hx hb dX4_moves_67 rfl (lv_at hl 2 rfl) ?_
      refine lv_iload_n hx hb dX4_moves_68 rfl (lv_at hl 3 rfl) ?_
      refine lv_iconst (v := 2) hx hb dX4_moves_69 rfl ?_
      refine lv_iload_n hx hb dX4_moves_70 rfl (lv_at hl 0 rfl) ?_
      refine lv_if_ge (tgt := 78) hx hb dX4_moves_71 (by decide) (fun hc => ?_) (fun hc => ?_)
      · have hf := fg_ifT hf hc
        refine lv_iload_n hx hb dX4_moves_78 rfl (lv_at hl 0 rfl) ?_
        obtain ⟨w22, hc23, hf⟩ := fg_bvE hf
        refine fg_cv h (fg_runV (rest := []) S hK h (c_X4_puts l D g a1 2 x13  w20 w22 hc23) vg_RX4_95 vd_X4_puts ⟨by decide, by decide⟩ fg_p4_0 rfl rfl rfl hl.1 rfl (Nat.le_of_ble_eq_true rfl) dX4_moves_79 ⟨Nat.zero_le _, Nat.zero_le _⟩) (fun H locs h => ?_)
        refine lv_aload_n hx hb dX4_moves_82 rfl (lv_at hl 2 rfl) ?_
        refine lv_iload_n hx hb dX4_moves_83 rfl (lv_at hl 3 rfl) ?_
        refine lv_iconst (v := 1) hx hb dX4_moves_84 rfl ?_
        refine lv_iconst (v := (-1)) hx hb dX4_moves_85 rfl ?_
        obtain ⟨w24, hc25, hf⟩ := fg_bvE hf
        refine fg_cv h (fg_runV (rest := []) S hK h (c_X4_puts l D g a1 1 (-1)  w22 w24 hc25) vg_RX4_95 vd_X4_puts ⟨by decide, by decide⟩ fg_p4_0 rfl rfl rfl hl.1 rfl (Nat.le_of_ble_eq_true rfl) dX4_moves_86 ⟨Nat.zero_le _, Nat.zero_le _⟩) (fun H locs h => ?_)
        exact fg_retv hx hb hr hlk hK h hf dX4_moves_89
      · have hf := fg_ifF hf hc
        refine lv_iconst (v := 0) hx hb dX4_moves_74 rfl ?_
        refine lv_goto (tgt := 79) hx hb dX4_moves_75 (by decide) ?_
        obtain ⟨w26, hc27, hf⟩ := fg_bvE hf
        refine fg_cv h (fg_runV (rest := []) S hK h (c_X4_puts l D g a1 2 0  w20 w26 hc27) vg_RX4_95 vd_X4_puts ⟨by decide, by decide⟩ fg_p4_0 rfl rfl rfl hl.1 rfl (Nat.le_of_ble_eq_true rfl) dX4_moves_79 ⟨Nat.zero_le _, Nat.zero_le _⟩) (fun H locs h => ?_)
        refine lv_aload_n hx hb dX4_moves_82 rfl (lv_at hl 2 rfl) ?_
        refine lv_iload_n hx hb dX4_moves_83 rfl (lv_at hl 3 rfl) ?_
        refine lv_iconst (v := 1) hx hb dX4_moves_84 rfl ?_
        refine lv_iconst (v := (-1)) hx hb dX4_moves_85 rfl ?_
        obtain ⟨w28, hc29, hf⟩ := fg_bvE hf
        refine fg_cv h (fg_runV (rest := []) S hK h (c_X4_puts l D g a1 1 (-1)  w26 w28 hc29) vg_RX4_95 vd_X4_puts ⟨by decide, by decide⟩ fg_p4_0 rfl rfl rfl hl.1 rfl (Nat.le_of_ble_eq_true rfl) dX4_moves_86 ⟨Nat.zero_le _, Nat.zero_le _⟩) (fun H locs h => ?_)
        exact fg_retv hx hb hr hlk hK h hf dX4_moves_89
  · have hf := fg_ifF hf hc
    refine lv_aload_n hx hb dX4_moves_11 rfl (lv_at hl 1 rfl) ?_
    refine lv_iload_n hx hb dX4_moves_12 rfl (lv_at hl 2 rfl) ?_
    refine lv_iconst (v := 1) hx hb dX4_moves_13 rfl ?_
    refine lv_aload_n hx hb dX4_moves_14 rfl (lv_at hl 1 rfl) ?_
    refine lv_iload_n hx hb dX4_moves_15 rfl (lv_at hl 2 rfl) ?_
    obtain ⟨r32, w30, hc31, hf⟩ := fg_biE hf
    refine fg_ci h (fg_runV (rest := [.int 1, .int a1, .ref (g.1 4 0 0)]) S hK h (c_X4_makesFor l D g a1  w1 r32 w30 hc31) vg_RX4_92 vd_X4_makesFor ⟨by decide, by decide⟩ fg_p4_0 rfl rfl rfl hl.1 rfl (Nat.le_of_ble_eq_true rfl) dX4_moves_16 ⟨Nat.zero_le _, Nat.zero_le _⟩) (fun H locs h => ?_)
    obtain ⟨w33, hc34, hf⟩ := fg_bvE hf
    refine fg_cv h (fg_runV (rest := []) S hK h (c_X4_puts l D g a1 1 r32  w30 w33 hc34) vg_RX4_95 vd_X4_puts ⟨by decide, by decide⟩ fg_p4_0 rfl rfl rfl hl.1 rfl (Nat.le_of_ble_eq_true rfl) dX4_moves_19 ⟨Nat.zero_le _, Nat.zero_le _⟩) (fun H locs h => ?_)
    refine lv_goto (tgt := 89) hx hb dX4_moves_22 (by decide) ?_
    exact fg_retv hx hb hr hlk hK h hf dX4_moves_89
set_option maxHeartbeats 4000000 in
set_option maxRecDepth 100000 in
theorem c_X4_pays (l : Launch) (D : va_G) (g : fg_G) (a1 : Int32) (w : fg_W) (w' : fg_W) (hf : f_X4_pays a1 w = some w') : fg_M l yX4_pays cX4_pays 5 none 1 23 D g [.ref (g.1 4 0 0), .int a1] w (fg_Qv D g w') := by
  refine fg_M.of rfl (Nat.le_of_ble_eq_true rfl) (fun p e s m below meth c ls S hr hlk hK h hl => ?_)
  have hx := S.1
  have hb := S.2.1
  have hl : lv_has ls 5 [(0, .ref (g.1 4 0 0)), (1, .int a1)] := hl
  unfold f_X4_pays at hf
  refine lv_aload_n hx hb dX4_pays_0 rfl (lv_at hl 0 rfl) ?_
  refine lv_iload_n hx hb dX4_pays_1 rfl (lv_at hl 1 rfl) ?_
  refine lv_iconst (v := 1) hx hb dX4_pays_2 rfl ?_
  obtain ⟨r3, w1, hc2, hf⟩ := fg_biE hf
  refine fg_ci h (fg_runV (rest := []) S hK h (c_X4_get l D g a1 1  w r3 w1 hc2) vg_RX4_65 vd_X4_get ⟨by decide, by decide⟩ fg_p4_0 rfl rfl rfl hl.1 rfl (Nat.le_of_ble_eq_true rfl) dX4_pays_3 ⟨Nat.zero_le _, Nat.zero_le _⟩) (fun H locs h => ?_)
  refine lv_istore_n (lv' := [(2, .int r3), (0, .ref (g.1 4 0 0)), (1, .int a1)]) hx hb dX4_pays_6 rfl hl (by decide) rfl (fun ls hl => ?_)
  refine lv_iload_n hx hb dX4_pays_7 rfl (lv_at hl 0 rfl) ?_
  refine lv_if_ge (tgt := 15) hx hb dX4_pays_8 (by decide) (fun hc => ?_) (fun hc => ?_)
  · have hf := fg_ifT hf hc
    refine lv_aload_n hx hb dX4_pays_15 rfl (lv_at hl 1 rfl) ?_
    refine lv_iload_n hx hb dX4_pays_16 rfl (lv_at hl 0 rfl) ?_
    refine lv_iconst (v := 2) hx hb dX4_pays_17 rfl ?_
    obtain ⟨r6, w4, hc5, hf⟩ := fg_biE hf
    refine fg_ci h (fg_runV (rest := []) S hK h (c_X4_of1 l D g r3 2  w1 r6 w4 hc5) vg_RX4_73 vd_X4_of1 ⟨by decide, by decide⟩ fg_p4_0 rfl rfl rfl hl.1 rfl (Nat.le_of_ble_eq_true rfl) dX4_pays_18 ⟨Nat.zero_le _, Nat.zero_le _⟩) (fun H locs h => ?_)
    refine lv_istore_n (lv' := [(3, .int r6), (2, .int r3), (0, .ref (g.1 4 0 0)), (1, .int a1)]) hx hb dX4_pays_21 rfl hl (by decide) rfl (fun ls hl => ?_)
    refine lv_iload_n hx hb dX4_pays_22 rfl (lv_at hl 0 rfl) ?_
    refine lv_if_lt (tgt := 84) hx hb dX4_pays_23 (by decide) (fun hc => ?_) (fun hc => ?_)
    · have hf := fg_ifT hf hc
      exact fg_retv hx hb hr hlk hK h hf dX4_pays_84
    · have hf := fg_ifF hf hc
      refine lv_iload_n hx hb dX4_pays_26 rfl (lv_at hl 0 rfl) ?_
      refine lv_iload_n hx hb dX4_pays_27 rfl (lv_at hl 3 rfl) ?_
      refine lv_icmp_eq (tgt := 84) hx hb dX4_pays_28 (by decide) (fun hc => ?_) (fun hc => ?_)
      · have hf := fg_ifT hf hc
        exact fg_retv hx hb hr hlk hK h hf dX4_pays_84
      · have hf := fg_ifF hf hc
        refine lv_aload_n hx hb dX4_pays_31 rfl (lv_at hl 2 rfl) ?_
        refine lv_iload_n hx hb dX4_pays_32 rfl (lv_at hl 1 rfl) ?_
        refine lv_iconst (v := 1) hx hb dX4_pays_33 rfl ?_
        obtain ⟨r9, w7, hc8, hf⟩ := fg_biE hf
        refine fg_ci h (fg_runV (rest := []) S hK h (c_X4_of1 l D g r3 1  w4 r9 w7 hc8) vg_RX4_73 vd_X4_of1 ⟨by decide, by decide⟩ fg_p4_0 rfl rfl rfl hl.1 rfl (Nat.le_of_ble_eq_true rfl) dX4_pays_34 ⟨Nat.zero_le _, Nat.zero_le _⟩) (fun H locs h => ?_)
        refine lv_aload_n hx hb dX4_pays_37 rfl (lv_at hl 2 rfl) ?_
        refine lv_iload_n hx hb dX4_pays_38 rfl (lv_at hl 3 rfl) ?_
        refine lv_iconst (v := 3) hx hb dX4_pays_39 rfl ?_
        obtain ⟨r12, w10, hc11, hf⟩ := fg_biE hf
        refine fg_ci h (fg_runV (rest := [.int r9]) S hK h (c_X4_get l D g a1 3  w7 r12 w10 hc11) vg_RX4_65 vd_X4_get ⟨by decide, by decide⟩ fg_p4_0 rfl rfl rfl hl.1 rfl (Nat.le_of_ble_eq_true rfl) dX4_pays_40 ⟨Nat.zero_le _, Nat.zero_le _⟩) (fun H locs h => ?_)
        obtain ⟨r15, w13, hc14, hf⟩ := fg_biE hf
        refine fg_ci h (fg_runS (rest := []) S hK h (c_X4_less l D g r9 r12  w10 r15 w13 hc14) vk_X4_less vm_RX4_89 vs_X4_less vi_RX4 vd_X4_less.2 ⟨by decide, by decide⟩ rfl hl.1 rfl (Nat.le_of_ble_eq_true rfl) dX4_pays_43 ⟨Nat.zero_le _, Nat.zero_le _⟩) (fun H locs h => ?_)
        refine lv_istore (lv' := [(4, .int r15), (3, .int r6), (2, .int r3), (0, .ref (g.1 4 0 0)), (1, .int a1)]) hx hb dX4_pays_46 hl (by decide) rfl (fun ls hl => ?_)
        refine lv_aload_n hx hb dX4_pays_48 rfl (lv_at hl 3 rfl) ?_
        refine lv_iload_n hx hb dX4_pays_49 rfl (lv_at hl 4 rfl) ?_
        refine lv_iconst (v := 3) hx hb dX4_pays_50 rfl ?_
        refine lv_aload_n hx hb dX4_pays_51 rfl (lv_at hl 3 rfl) ?_
        refine lv_iload_n hx hb dX4_pays_52 rfl (lv_at hl 4 rfl) ?_
        refine lv_iconst (v := 3) hx hb dX4_pays_53 rfl ?_
        obtain ⟨r18, w16, hc17, hf⟩ := fg_biE hf
        refine fg_ci h (fg_runV (rest := [.int 3, .int a1, .ref (g.1 4 0 0)]) S hK h (c_X4_get l D g a1 3  w13 r18 w16 hc17) vg_RX4_65 vd_X4_get ⟨by decide, by decide⟩ fg_p4_0 rfl rfl rfl hl.1 rfl (Nat.le_of_ble_eq_true rfl) dX4_pays_54 ⟨Nat.zero_le _, Nat.zero_le _⟩) (fun H locs h => ?_)
        refine lv_iload hx hb dX4_pays_57 (lv_at hl 0 rfl) ?_
        refine lv_isub hx hb dX4_pays_59 ?_
        obtain ⟨w19, hc20, hf⟩ := fg_bvE hf
        refine fg_cv h (fg_runV (rest := []) S hK h (c_X4_puts l D g a1 3 (r18 - r15)  w16 w19 hc20) vg_RX4_95 vd_X4_puts ⟨by decide, by decide⟩ fg_p4_0 rfl rfl rfl hl.1 rfl (Nat.le_of_ble_eq_true rfl) dX4_pays_60 ⟨Nat.zero_le _, Nat.zero_le _⟩) (fun H locs h => ?_)
        refine lv_aload_n hx hb dX4_pays_63 rfl (lv_at hl 3 rfl) ?_
        refine lv_iload_n hx hb dX4_pays_64 rfl (lv_at hl 1 rfl) ?_
        refine lv_iconst (v := 3) hx hb dX4_pays_65 rfl ?_
        refine lv_sipush (v := 9999) hx hb dX4_pays_66 rfl ?_
        refine lv_aload_n hx hb dX4_pays_69 rfl (lv_at hl 3 rfl) ?_
        refine lv_iload_n hx hb dX4_pays_70 rfl (lv_at hl 1 rfl) ?_
        refine lv_iconst (v := 3) hx hb dX4_pays_71 rfl ?_
        obtain ⟨r23, w21, hc22, hf⟩ := fg_biE hf
        refine fg_ci h (fg_runV (rest := [.int 9999, .int 3, .int r6, .ref (g.1 4 0 0)]) S hK h (c_X4_get l D g r6 3  w19 r23 w21 hc22) vg_RX4_65 vd_X4_get ⟨by decide, by decide⟩ fg_p4_0 rfl rfl rfl hl.1 rfl (Nat.le_of_ble_eq_true rfl) dX4_pays_72 ⟨Nat.zero_le _, Nat.zero_le _⟩) (fun H locs h => ?_)
        refine lv_iload hx hb dX4_pays_75 (lv_at hl 0 rfl) ?_
        refine lv_iadd hx hb dX4_pays_77 ?_
        obtain ⟨r26, w24, hc25, hf⟩ := fg_biE hf
        refine fg_ci h (fg_runS (rest := [.int 3, .int r6, .ref (g.1 4 0 0)]) S hK h (c_X4_less l D g 9999 (r23 + r15)  w21 r26 w24 hc25) vk_X4_less vm_RX4_89 vs_X4_less vi_RX4 vd_X4_less.2 ⟨by decide, by decide⟩ rfl hl.1 rfl (Nat.le_of_ble_eq_true rfl) dX4_pays_78 ⟨Nat.zero_le _, Nat.zero_le _⟩) (fun H locs h => ?_)
        obtain ⟨w27, hc28, hf⟩ := fg_bvE hf
        refine fg_cv h (fg_runV (rest := []) S hK h (c_X4_puts l D g r6 3 r26  w24 w27 hc28) vg_RX4_95 vd_X4_puts ⟨by decide, by decide⟩ fg_p4_0 rfl rfl rfl hl.1 rfl (Nat.le_of_ble_eq_true rfl) dX4_pays_81 ⟨Nat.zero_le _, Nat.zero_le _⟩) (fun H locs h => ?_)
        exact fg_retv hx hb hr hlk hK h hf dX4_pays_84
  · have hf := fg_ifF hf hc
    refine lv_iconst (v := (-1)) hx hb dX4_pays_11 rfl ?_
    refine lv_goto (tgt := 21) hx hb dX4_pays_12 (by decide) ?_
    refine lv_istore_n (lv' := [(3, .int (-1)), (2, .int r3), (0, .ref (g.1 4 0 0)), (1, .int a1)]) hx hb dX4_pays_21 rfl hl (by decide) rfl (fun ls hl => ?_)
    refine lv_iload_n hx hb dX4_pays_22 rfl (lv_at hl 0 rfl) ?_
    refine lv_if_lt (tgt := 84) hx hb dX4_pays_23 (by decide) (fun hc => ?_) (fun hc => ?_)
    · exact fg_retv hx hb hr hlk hK h hf dX4_pays_84
    · exact absurd hc (by decide)
set_option maxHeartbeats 4000000 in
set_option maxRecDepth 100000 in
theorem c_X4_finds (l : Launch) (D : va_G) (g : fg_G) (a1 : Int32) (w : fg_W) (w' : fg_W) (hf : f_X4_finds a1 w = some w') : fg_M l yX4_finds cX4_finds 5 none 1 22 D g [.ref (g.1 4 0 0), .int a1] w (fg_Qv D g w') := by
  refine fg_M.of rfl (Nat.le_of_ble_eq_true rfl) (fun p e s m below meth c ls S hr hlk hK h hl => ?_)
  have hx := S.1
  have hb := S.2.1
  have hl : lv_has ls 5 [(0, .ref (g.1 4 0 0)), (1, .int a1)] := hl
  unfold f_X4_finds at hf
  refine lv_aload_n hx hb dX4_finds_0 rfl (lv_at hl 0 rfl) ?_
  refine lv_iload_n hx hb dX4_finds_1 rfl (lv_at hl 1 rfl) ?_
  refine lv_iconst (v := 1) hx hb dX4_finds_2 rfl ?_
  obtain ⟨r3, w1, hc2, hf⟩ := fg_biE hf
  refine fg_ci h (fg_runV (rest := []) S hK h (c_X4_get l D g a1 1  w r3 w1 hc2) vg_RX4_65 vd_X4_get ⟨by decide, by decide⟩ fg_p4_0 rfl rfl rfl hl.1 rfl (Nat.le_of_ble_eq_true rfl) dX4_finds_3 ⟨Nat.zero_le _, Nat.zero_le _⟩) (fun H locs h => ?_)
  refine lv_istore_n (lv' := [(2, .int r3), (0, .ref (g.1 4 0 0)), (1, .int a1)]) hx hb dX4_finds_6 rfl hl (by decide) rfl (fun ls hl => ?_)
  refine lv_aload_n hx hb dX4_finds_7 rfl (lv_at hl 1 rfl) ?_
  refine lv_iload_n hx hb dX4_finds_8 rfl (lv_at hl 2 rfl) ?_
  refine lv_iconst (v := 2) hx hb dX4_finds_9 rfl ?_
  obtain ⟨r6, w4, hc5, hf⟩ := fg_biE hf
  refine fg_ci h (fg_runV (rest := []) S hK h (c_X4_get l D g a1 2  w1 r6 w4 hc5) vg_RX4_65 vd_X4_get ⟨by decide, by decide⟩ fg_p4_0 rfl rfl rfl hl.1 rfl (Nat.le_of_ble_eq_true rfl) dX4_finds_10 ⟨Nat.zero_le _, Nat.zero_le _⟩) (fun H locs h => ?_)
  refine lv_istore_n (lv' := [(3, .int r6), (2, .int r3), (0, .ref (g.1 4 0 0)), (1, .int a1)]) hx hb dX4_finds_13 rfl hl (by decide) rfl (fun ls hl => ?_)
  refine lv_iconst (v := 0) hx hb dX4_finds_14 rfl ?_
  refine lv_istore (lv' := [(4, .int 0), (3, .int r6), (2, .int r3), (0, .ref (g.1 4 0 0)), (1, .int a1)]) hx hb dX4_finds_15 hl (by decide) rfl (fun ls hl => ?_)
  have hK_17 : ∀ (v3_17 : Int32) (v4_17 : Int32) (w_17 : fg_W) (H : Heap) (locs : List Loc) (ls : Array Slot), fg_H D g s.heap w_17 H locs → lv_has ls 5 [(0, .ref (g.1 4 0 0)), (1, .int a1), (2, .int r3), (3, .int v3_17), (4, .int v4_17)] → (fg_bi (f_X4_get a1 2 w_17) (fun r9 w7 => fg_bi (f_X4_get a1 2 w7) (fun r12 w10 => fg_gd a1 8 (fg_let (fg_st w10 4 0 6 (upd (w10.1 4 0 6) a1.toNatClampNeg (r9 + ((v3_17 - r12) / 4)))) (fun w13 => some w13))))) = some w' → fg_Gv p l e 1 22 s m [.ref (g.1 4 0 0), .int a1] below meth c D g w' H locs 72 ls [] := by
    intro v3_17 v4_17 w_17 H locs ls h hl hf
    refine lv_aload_n hx hb dX4_finds_72 rfl (lv_at hl 0 rfl) ?_
    refine fg_get (C := RX4) (T := TX4) (N := 22) S vu_X4 hK h fg_p4_0 rfl rfl 7 (by decide) vf_RX4_25 rfl rfl dX4_finds_73 ?_
    refine lv_iload_n hx hb dX4_finds_76 rfl (lv_at hl 1 rfl) ?_
    refine lv_aload_n hx hb dX4_finds_77 rfl (lv_at hl 0 rfl) ?_
    refine lv_iload_n hx hb dX4_finds_78 rfl (lv_at hl 1 rfl) ?_
    refine lv_iconst (v := 2) hx hb dX4_finds_79 rfl ?_
    obtain ⟨r9, w7, hc8, hf⟩ := fg_biE hf
    refine fg_ci h (fg_runV (rest := [.int a1, .ref (g.1 4 0 6)]) S hK h (c_X4_get l D g a1 2  w_17 r9 w7 hc8) vg_RX4_65 vd_X4_get ⟨by decide, by decide⟩ fg_p4_0 rfl rfl rfl hl.1 rfl (Nat.le_of_ble_eq_true rfl) dX4_finds_80 ⟨Nat.zero_le _, Nat.zero_le _⟩) (fun H locs h => ?_)
    refine lv_iload_n hx hb dX4_finds_83 rfl (lv_at hl 3 rfl) ?_
    refine lv_aload_n hx hb dX4_finds_84 rfl (lv_at hl 0 rfl) ?_
    refine lv_iload_n hx hb dX4_finds_85 rfl (lv_at hl 1 rfl) ?_
    refine lv_iconst (v := 2) hx hb dX4_finds_86 rfl ?_
    obtain ⟨r12, w10, hc11, hf⟩ := fg_biE hf
    refine fg_ci h (fg_runV (rest := [.int v3_17, .int r9, .int a1, .ref (g.1 4 0 6)]) S hK h (c_X4_get l D g a1 2  w7 r12 w10 hc11) vg_RX4_65 vd_X4_get ⟨by decide, by decide⟩ fg_p4_0 rfl rfl rfl hl.1 rfl (Nat.le_of_ble_eq_true rfl) dX4_finds_87 ⟨Nat.zero_le _, Nat.zero_le _⟩) (fun H locs h => ?_)
    refine lv_isub hx hb dX4_finds_90 ?_
    refine lv_iconst (v := 4) hx hb dX4_finds_91 rfl ?_
    refine lv_idiv hx hb dX4_finds_92 (by decide) ?_
    refine lv_iadd hx hb dX4_finds_93 ?_
    obtain ⟨hn14, hf⟩ := fg_gdE hf
    refine fg_iast hx hb hK h fg_p4_6 (fun _ => rfl) hn14 dX4_finds_94 (fun w13 H locs ew h => ?_)
    have hf := fg_letE ew hf
    exact fg_retv hx hb hr hlk hK h hf dX4_finds_95
  have hL_17 : ∀ (KK_17 : Int32 → Int32 → fg_W → Option fg_W) (hK_17 : ∀ (v3_17 : Int32) (v4_17 : Int32) (w_17 : fg_W) (H : Heap) (locs : List Loc) (ls : Array Slot), fg_H D g s.heap w_17 H locs → lv_has ls 5 [(0, .ref (g.1 4 0 0)), (1, .int a1), (2, .int r3), (3, .int v3_17), (4, .int v4_17)] → KK_17 v3_17 v4_17 w_17 = some w' → fg_Gv p l e 1 22 s m [.ref (g.1 4 0 0), .int a1] below meth c D g w' H locs 72 ls []) (n : Nat) (v3_17 : Int32) (v4_17 : Int32) (w_17 : fg_W) (H : Heap) (locs : List Loc) (ls : Array Slot), fg_H D g s.heap w_17 H locs → lv_has ls 5 [(0, .ref (g.1 4 0 0)), (1, .int a1), (2, .int r3), (3, .int v3_17), (4, .int v4_17)] → f_X4_finds_L17 r3 KK_17 n v3_17 v4_17 w_17 = some w' → fg_Gv p l e 1 22 s m [.ref (g.1 4 0 0), .int a1] below meth c D g w' H locs 17 ls [] := by
    intro KK_17 hK_17 n
    induction n with
    | zero => intro v3_17 v4_17 w_17 H locs ls h hl hf; exact fg_no hf
    | succ n_17 ih_17 =>
      intro v3_17 v4_17 w_17 H locs ls h hl hf
      unfold f_X4_finds_L17 at hf
      refine lv_iload hx hb dX4_finds_17 (lv_at hl 4 rfl) ?_
      refine lv_aload_n hx hb dX4_finds_19 rfl (lv_at hl 0 rfl) ?_
      refine fg_get (C := RX4) (T := TX4) (N := 22) S vu_X4 hK h fg_p4_0 rfl rfl 0 (by decide) vf_RX4_9 rfl rfl dX4_finds_20 ?_
      refine lv_iconst (v := 1) hx hb dX4_finds_23 rfl ?_
      refine fg_ialdL (j := 1) hx hb hK h fg_p4_1 (fun _ => rfl) (by decide) rfl dX4_finds_24 ?_
      refine lv_icmp_ge (tgt := 72) hx hb dX4_finds_25 (by decide) (fun hc => ?_) (fun hc => ?_)
      · have hf := fg_ifT hf hc
        exact hK_17 v3_17 v4_17 w_17 _ _ ls h (lv_sub hl [0, 1, 2, 3, 4] rfl) hf
      · have hf := fg_ifF hf hc
        refine lv_iload_n hx hb dX4_finds_28 rfl (lv_at hl 2 rfl) ?_
        refine lv_if_lt (tgt := 72) hx hb dX4_finds_29 (by decide) (fun hc => ?_) (fun hc => ?_)
        · have hf := fg_ifT hf hc
          exact hK_17 v3_17 v4_17 w_17 _ _ ls h (lv_sub hl [0, 1, 2, 3, 4] rfl) hf
        · have hf := fg_ifF hf hc
          refine lv_aload_n hx hb dX4_finds_32 rfl (lv_at hl 0 rfl) ?_
          refine lv_iload hx hb dX4_finds_33 (lv_at hl 4 rfl) ?_
          refine lv_iconst (v := 1) hx hb dX4_finds_35 rfl ?_
          obtain ⟨r26, w24, hc25, hf⟩ := fg_biE hf
          refine fg_ci h (fg_runV (rest := []) S hK h (c_X4_get l D g v4_17 1  w_17 r26 w24 hc25) vg_RX4_65 vd_X4_get ⟨by decide, by decide⟩ fg_p4_0 rfl rfl rfl hl.1 rfl (Nat.le_of_ble_eq_true rfl) dX4_finds_36 ⟨Nat.zero_le _, Nat.zero_le _⟩) (fun H locs h => ?_)
          refine lv_iload_n hx hb dX4_finds_39 rfl (lv_at hl 2 rfl) ?_
          refine lv_icmp_ne (tgt := 64) hx hb dX4_finds_40 (by decide) (fun hc => ?_) (fun hc => ?_)
          · have hf := fg_ifF hf hc
            refine lv_iload_n hx hb dX4_finds_64 rfl (lv_at hl 3 rfl) ?_
            refine lv_istore_n (lv' := [(3, .int v3_17), (0, .ref (g.1 4 0 0)), (1, .int a1), (2, .int r3), (4, .int v4_17)]) hx hb dX4_finds_65 rfl hl (by decide) rfl (fun ls hl => ?_)
            refine lv_iinc (v := (v4_17 + 1)) (lv' := [(4, .int (v4_17 + 1)), (3, .int v3_17), (0, .ref (g.1 4 0 0)), (1, .int a1), (2, .int r3)]) hx hb dX4_finds_66 hl (k := 4) rfl rfl (by decide) rfl (fun ls hl => ?_)
            refine lv_goto (tgt := 17) hx hb dX4_finds_69 (by decide) ?_
            exact ih_17 v3_17 (v4_17 + 1) w24 _ _ ls h (lv_sub hl [2, 3, 4, 1, 0] rfl) hf
          · have hf := fg_ifT hf hc
            refine lv_aload_n hx hb dX4_finds_43 rfl (lv_at hl 0 rfl) ?_
            refine lv_iload hx hb dX4_finds_44 (lv_at hl 4 rfl) ?_
            refine lv_iconst (v := 2) hx hb dX4_finds_46 rfl ?_
            obtain ⟨r29, w27, hc28, hf⟩ := fg_biE hf
            refine fg_ci h (fg_runV (rest := []) S hK h (c_X4_get l D g v4_17 2  w24 r29 w27 hc28) vg_RX4_65 vd_X4_get ⟨by decide, by decide⟩ fg_p4_0 rfl rfl rfl hl.1 rfl (Nat.le_of_ble_eq_true rfl) dX4_finds_47 ⟨Nat.zero_le _, Nat.zero_le _⟩) (fun H locs h => ?_)
            refine lv_iload_n hx hb dX4_finds_50 rfl (lv_at hl 3 rfl) ?_
            refine lv_icmp_le (tgt := 64) hx hb dX4_finds_51 (by decide) (fun hc => ?_) (fun hc => ?_)
            · have hf := fg_ifT hf hc
              refine lv_iload_n hx hb dX4_finds_64 rfl (lv_at hl 3 rfl) ?_
              refine lv_istore_n (lv' := [(3, .int v3_17), (0, .ref (g.1 4 0 0)), (1, .int a1), (2, .int r3), (4, .int v4_17)]) hx hb dX4_finds_65 rfl hl (by decide) rfl (fun ls hl => ?_)
              refine lv_iinc (v := (v4_17 + 1)) (lv' := [(4, .int (v4_17 + 1)), (3, .int v3_17), (0, .ref (g.1 4 0 0)), (1, .int a1), (2, .int r3)]) hx hb dX4_finds_66 hl (k := 4) rfl rfl (by decide) rfl (fun ls hl => ?_)
              refine lv_goto (tgt := 17) hx hb dX4_finds_69 (by decide) ?_
              exact ih_17 v3_17 (v4_17 + 1) w27 _ _ ls h (lv_sub hl [2, 3, 4, 1, 0] rfl) hf
            · have hf := fg_ifF hf hc
              refine lv_aload_n hx hb dX4_finds_54 rfl (lv_at hl 0 rfl) ?_
              refine lv_iload hx hb dX4_finds_55 (lv_at hl 4 rfl) ?_
              refine lv_iconst (v := 2) hx hb dX4_finds_57 rfl ?_
              obtain ⟨r32, w30, hc31, hf⟩ := fg_biE hf
              refine fg_ci h (fg_runV (rest := []) S hK h (c_X4_get l D g v4_17 2  w27 r32 w30 hc31) vg_RX4_65 vd_X4_get ⟨by decide, by decide⟩ fg_p4_0 rfl rfl rfl hl.1 rfl (Nat.le_of_ble_eq_true rfl) dX4_finds_58 ⟨Nat.zero_le _, Nat.zero_le _⟩) (fun H locs h => ?_)
              refine lv_goto (tgt := 65) hx hb dX4_finds_61 (by decide) ?_
              refine lv_istore_n (lv' := [(3, .int r32), (0, .ref (g.1 4 0 0)), (1, .int a1), (2, .int r3), (4, .int v4_17)]) hx hb dX4_finds_65 rfl hl (by decide) rfl (fun ls hl => ?_)
              refine lv_iinc (v := (v4_17 + 1)) (lv' := [(4, .int (v4_17 + 1)), (3, .int r32), (0, .ref (g.1 4 0 0)), (1, .int a1), (2, .int r3)]) hx hb dX4_finds_66 hl (k := 4) rfl rfl (by decide) rfl (fun ls hl => ?_)
              refine lv_goto (tgt := 17) hx hb dX4_finds_69 (by decide) ?_
              exact ih_17 r32 (v4_17 + 1) w30 _ _ ls h (lv_sub hl [2, 3, 4, 1, 0] rfl) hf
  exact hL_17 _ hK_17 fg_fuel r6 0 w4 _ _ ls h (lv_sub hl [3, 4, 2, 1, 0] rfl) hf
set_option maxHeartbeats 4000000 in
set_option maxRecDepth 100000 in
theorem c_X4_day (l : Launch) (D : va_G) (g : fg_G)  (w : fg_W) (w' : fg_W) (hf : f_X4_day  w = some w') : fg_M l yX4_day cX4_day 2 none 6 137 D g [.ref (g.1 4 0 0)] w (fg_Qv D g w') := by
  refine fg_M.of rfl (Nat.le_of_ble_eq_true rfl) (fun p e s m below meth c ls S hr hlk hK h hl => ?_)
  have hx := S.1
  have hb := S.2.1
  have hl : lv_has ls 2 [(0, .ref (g.1 4 0 0))] := hl
  unfold f_X4_day at hf
  refine lv_aload_n hx hb dX4_day_0 rfl (lv_at hl 0 rfl) ?_
  obtain ⟨w1, hc2, hf⟩ := fg_bvE hf
  refine fg_cv h (fg_runV (rest := []) S hK h (c_X4_drifts l D g   w w1 hc2) vg_RX4_105 vd_X4_drifts ⟨by decide, by decide⟩ fg_p4_0 rfl rfl rfl hl.1 rfl (Nat.le_of_ble_eq_true rfl) dX4_day_1 ⟨Nat.zero_le _, Nat.zero_le _⟩) (fun H locs h => ?_)
  refine lv_iconst (v := 0) hx hb dX4_day_4 rfl ?_
  refine lv_istore_n (lv' := [(1, .int 0), (0, .ref (g.1 4 0 0))]) hx hb dX4_day_5 rfl hl (by decide) rfl (fun ls hl => ?_)
  have hK_6 : ∀ (v1_6 : Int32) (w_6 : fg_W) (H : Heap) (locs : List Loc) (ls : Array Slot), fg_H D g s.heap w_6 H locs → lv_has ls 2 [(0, .ref (g.1 4 0 0)), (1, .int v1_6)] → (f_X4_day_L37  (fun v1_37 w_37 => f_X4_day_L60  (fun v1_60 w_60 => f_X4_day_L83  (fun v1_83 w_83 => fg_bi (f_X4_less 99999 ((w_83.1 4 0 1 0) + 1) w_83) (fun r5 w3 => fg_let (fg_st w3 4 0 1 (upd (w3.1 4 0 1) 0 r5)) (fun w6 => some w6))) fg_fuel 0 w_60) fg_fuel 0 w_37) fg_fuel 0 w_6) = some w' → fg_Gv p l e 6 137 s m [.ref (g.1 4 0 0)] below meth c D g w' H locs 35 ls [] := by
    intro v1_6 w_6 H locs ls h hl hf
    refine lv_iconst (v := 0) hx hb dX4_day_35 rfl ?_
    refine lv_istore_n (lv' := [(1, .int 0), (0, .ref (g.1 4 0 0))]) hx hb dX4_day_36 rfl hl (by decide) rfl (fun ls hl => ?_)
    have hK_37 : ∀ (v1_37 : Int32) (w_37 : fg_W) (H : Heap) (locs : List Loc) (ls : Array Slot), fg_H D g s.heap w_37 H locs → lv_has ls 2 [(0, .ref (g.1 4 0 0)), (1, .int v1_37)] → (f_X4_day_L60  (fun v1_60 w_60 => f_X4_day_L83  (fun v1_83 w_83 => fg_bi (f_X4_less 99999 ((w_83.1 4 0 1 0) + 1) w_83) (fun r5 w3 => fg_let (fg_st w3 4 0 1 (upd (w3.1 4 0 1) 0 r5)) (fun w6 => some w6))) fg_fuel 0 w_60) fg_fuel 0 w_37) = some w' → fg_Gv p l e 6 137 s m [.ref (g.1 4 0 0)] below meth c D g w' H locs 58 ls [] := by
      intro v1_37 w_37 H locs ls h hl hf
      refine lv_iconst (v := 0) hx hb dX4_day_58 rfl ?_
      refine lv_istore_n (lv' := [(1, .int 0), (0, .ref (g.1 4 0 0))]) hx hb dX4_day_59 rfl hl (by decide) rfl (fun ls hl => ?_)
      have hK_60 : ∀ (v1_60 : Int32) (w_60 : fg_W) (H : Heap) (locs : List Loc) (ls : Array Slot), fg_H D g s.heap w_60 H locs → lv_has ls 2 [(0, .ref (g.1 4 0 0)), (1, .int v1_60)] → (f_X4_day_L83  (fun v1_83 w_83 => fg_bi (f_X4_less 99999 ((w_83.1 4 0 1 0) + 1) w_83) (fun r5 w3 => fg_let (fg_st w3 4 0 1 (upd (w3.1 4 0 1) 0 r5)) (fun w6 => some w6))) fg_fuel 0 w_60) = some w' → fg_Gv p l e 6 137 s m [.ref (g.1 4 0 0)] below meth c D g w' H locs 81 ls [] := by
        intro v1_60 w_60 H locs ls h hl hf
        refine lv_iconst (v := 0) hx hb dX4_day_81 rfl ?_
        refine lv_istore_n (lv' := [(1, .int 0), (0, .ref (g.1 4 0 0))]) hx hb dX4_day_82 rfl hl (by decide) rfl (fun ls hl => ?_)
        have hK_83 : ∀ (v1_83 : Int32) (w_83 : fg_W) (H : Heap) (locs : List Loc) (ls : Array Slot), fg_H D g s.heap w_83 H locs → lv_has ls 2 [(0, .ref (g.1 4 0 0)), (1, .int v1_83)] → (fg_bi (f_X4_less 99999 ((w_83.1 4 0 1 0) + 1) w_83) (fun r5 w3 => fg_let (fg_st w3 4 0 1 (upd (w3.1 4 0 1) 0 r5)) (fun w6 => some w6))) = some w' → fg_Gv p l e 6 137 s m [.ref (g.1 4 0 0)] below meth c D g w' H locs 111 ls [] := by
          intro v1_83 w_83 H locs ls h hl hf
          refine lv_aload_n hx hb dX4_day_111 rfl (lv_at hl 0 rfl) ?_
          refine fg_get (C := RX4) (T := TX4) (N := 22) S vu_X4 hK h fg_p4_0 rfl rfl 0 (by decide) vf_RX4_9 rfl rfl dX4_day_112 ?_
          refine lv_iconst (v := 0) hx hb dX4_day_115 rfl ?_
          refine lv_ldc hx hb S.2.2.2.1 (S.2.2.2.2 _ vc_RX4_122) dX4_day_116 ?_
          refine lv_aload_n hx hb dX4_day_118 rfl (lv_at hl 0 rfl) ?_
          refine fg_get (C := RX4) (T := TX4) (N := 22) S vu_X4 hK h fg_p4_0 rfl rfl 0 (by decide) vf_RX4_9 rfl rfl dX4_day_119 ?_
          refine lv_iconst (v := 0) hx hb dX4_day_122 rfl ?_
          refine fg_ialdL (j := 0) hx hb hK h fg_p4_1 (fun _ => rfl) (by decide) rfl dX4_day_123 ?_
          refine lv_iconst (v := 1) hx hb dX4_day_124 rfl ?_
          refine lv_iadd hx hb dX4_day_125 ?_
          obtain ⟨r5, w3, hc4, hf⟩ := fg_biE hf
          refine fg_ci h (fg_runS (rest := [.int 0, .ref (g.1 4 0 1)]) S hK h (c_X4_less l D g 99999 ((w_83.1 4 0 1 0) + 1)  w_83 r5 w3 hc4) vk_X4_less vm_RX4_89 vs_X4_less vi_RX4 vd_X4_less.2 ⟨by decide, by decide⟩ rfl hl.1 rfl (Nat.le_of_ble_eq_true rfl) dX4_day_126 ⟨Nat.zero_le _, Nat.zero_le _⟩) (fun H locs h => ?_)
          refine fg_iastL (j := 0) hx hb hK h fg_p4_1 (fun _ => rfl) (by decide) rfl dX4_day_129 (fun w6 H locs ew h => ?_)
          have hf := fg_letE ew hf
          exact fg_retv hx hb hr hlk hK h hf dX4_day_130
        have hL_83 : ∀ (KK_83 : Int32 → fg_W → Option fg_W) (hK_83 : ∀ (v1_83 : Int32) (w_83 : fg_W) (H : Heap) (locs : List Loc) (ls : Array Slot), fg_H D g s.heap w_83 H locs → lv_has ls 2 [(0, .ref (g.1 4 0 0)), (1, .int v1_83)] → KK_83 v1_83 w_83 = some w' → fg_Gv p l e 6 137 s m [.ref (g.1 4 0 0)] below meth c D g w' H locs 111 ls []) (n : Nat) (v1_83 : Int32) (w_83 : fg_W) (H : Heap) (locs : List Loc) (ls : Array Slot), fg_H D g s.heap w_83 H locs → lv_has ls 2 [(0, .ref (g.1 4 0 0)), (1, .int v1_83)] → f_X4_day_L83  KK_83 n v1_83 w_83 = some w' → fg_Gv p l e 6 137 s m [.ref (g.1 4 0 0)] below meth c D g w' H locs 83 ls [] := by
          intro KK_83 hK_83 n
          induction n with
          | zero => intro v1_83 w_83 H locs ls h hl hf; exact fg_no hf
          | succ n_83 ih_83 =>
            intro v1_83 w_83 H locs ls h hl hf
            unfold f_X4_day_L83 at hf
            refine lv_iload_n hx hb dX4_day_83 rfl (lv_at hl 1 rfl) ?_
            refine lv_aload_n hx hb dX4_day_84 rfl (lv_at hl 0 rfl) ?_
            refine fg_get (C := RX4) (T := TX4) (N := 22) S vu_X4 hK h fg_p4_0 rfl rfl 0 (by decide) vf_RX4_9 rfl rfl dX4_day_85 ?_
            refine lv_iconst (v := 1) hx hb dX4_day_88 rfl ?_
            refine fg_ialdL (j := 1) hx hb hK h fg_p4_1 (fun _ => rfl) (by decide) rfl dX4_day_89 ?_
            refine lv_icmp_ge (tgt := 111) hx hb dX4_day_90 (by decide) (fun hc => ?_) (fun hc => ?_)
            · have hf := fg_ifT hf hc
              exact hK_83 v1_83 w_83 _ _ ls h (lv_sub hl [0, 1] rfl) hf
            · have hf := fg_ifF hf hc
              refine lv_aload_n hx hb dX4_day_93 rfl (lv_at hl 0 rfl) ?_
              refine lv_iload_n hx hb dX4_day_94 rfl (lv_at hl 1 rfl) ?_
              refine lv_iconst (v := 2) hx hb dX4_day_95 rfl ?_
              refine lv_aload_n hx hb dX4_day_96 rfl (lv_at hl 0 rfl) ?_
              refine fg_get (C := RX4) (T := TX4) (N := 22) S vu_X4 hK h fg_p4_0 rfl rfl 7 (by decide) vf_RX4_25 rfl rfl dX4_day_97 ?_
              refine lv_iload_n hx hb dX4_day_100 rfl (lv_at hl 1 rfl) ?_
              obtain ⟨hn10, hf⟩ := fg_gdE hf
              refine fg_iald hx hb hK h fg_p4_6 (fun _ => rfl) hn10 dX4_day_101 ?_
              obtain ⟨w11, hc12, hf⟩ := fg_bvE hf
              refine fg_cv h (fg_runV (rest := []) S hK h (c_X4_puts l D g v1_83 2 (w_83.1 4 0 6 v1_83.toNatClampNeg)  w_83 w11 hc12) vg_RX4_95 vd_X4_puts ⟨by decide, by decide⟩ fg_p4_0 rfl rfl rfl hl.1 rfl (Nat.le_of_ble_eq_true rfl) dX4_day_102 ⟨Nat.zero_le _, Nat.zero_le _⟩) (fun H locs h => ?_)
              refine lv_iinc (v := (v1_83 + 1)) (lv' := [(1, .int (v1_83 + 1)), (0, .ref (g.1 4 0 0))]) hx hb dX4_day_105 hl (k := 1) rfl rfl (by decide) rfl (fun ls hl => ?_)
              refine lv_goto (tgt := 83) hx hb dX4_day_108 (by decide) ?_
              exact ih_83 (v1_83 + 1) w11 _ _ ls h (lv_sub hl [1, 0] rfl) hf
        exact hL_83 _ hK_83 fg_fuel 0 w_60 _ _ ls h (lv_sub hl [1, 0] rfl) hf
      have hL_60 : ∀ (KK_60 : Int32 → fg_W → Option fg_W) (hK_60 : ∀ (v1_60 : Int32) (w_60 : fg_W) (H : Heap) (locs : List Loc) (ls : Array Slot), fg_H D g s.heap w_60 H locs → lv_has ls 2 [(0, .ref (g.1 4 0 0)), (1, .int v1_60)] → KK_60 v1_60 w_60 = some w' → fg_Gv p l e 6 137 s m [.ref (g.1 4 0 0)] below meth c D g w' H locs 81 ls []) (n : Nat) (v1_60 : Int32) (w_60 : fg_W) (H : Heap) (locs : List Loc) (ls : Array Slot), fg_H D g s.heap w_60 H locs → lv_has ls 2 [(0, .ref (g.1 4 0 0)), (1, .int v1_60)] → f_X4_day_L60  KK_60 n v1_60 w_60 = some w' → fg_Gv p l e 6 137 s m [.ref (g.1 4 0 0)] below meth c D g w' H locs 60 ls [] := by
        intro KK_60 hK_60 n
        induction n with
        | zero => intro v1_60 w_60 H locs ls h hl hf; exact fg_no hf
        | succ n_60 ih_60 =>
          intro v1_60 w_60 H locs ls h hl hf
          unfold f_X4_day_L60 at hf
          refine lv_iload_n hx hb dX4_day_60 rfl (lv_at hl 1 rfl) ?_
          refine lv_aload_n hx hb dX4_day_61 rfl (lv_at hl 0 rfl) ?_
          refine fg_get (C := RX4) (T := TX4) (N := 22) S vu_X4 hK h fg_p4_0 rfl rfl 0 (by decide) vf_RX4_9 rfl rfl dX4_day_62 ?_
          refine lv_iconst (v := 1) hx hb dX4_day_65 rfl ?_
          refine fg_ialdL (j := 1) hx hb hK h fg_p4_1 (fun _ => rfl) (by decide) rfl dX4_day_66 ?_
          refine lv_icmp_ge (tgt := 81) hx hb dX4_day_67 (by decide) (fun hc => ?_) (fun hc => ?_)
          · have hf := fg_ifT hf hc
            exact hK_60 v1_60 w_60 _ _ ls h (lv_sub hl [0, 1] rfl) hf
          · have hf := fg_ifF hf hc
            refine lv_aload_n hx hb dX4_day_70 rfl (lv_at hl 0 rfl) ?_
            refine lv_iload_n hx hb dX4_day_71 rfl (lv_at hl 1 rfl) ?_
            obtain ⟨w15, hc16, hf⟩ := fg_bvE hf
            refine fg_cv h (fg_runV (rest := []) S hK h (c_X4_finds l D g v1_60  w_60 w15 hc16) vg_RX4_119 vd_X4_finds ⟨by decide, by decide⟩ fg_p4_0 rfl rfl rfl hl.1 rfl (Nat.le_of_ble_eq_true rfl) dX4_day_72 ⟨Nat.zero_le _, Nat.zero_le _⟩) (fun H locs h => ?_)
            refine lv_iinc (v := (v1_60 + 1)) (lv' := [(1, .int (v1_60 + 1)), (0, .ref (g.1 4 0 0))]) hx hb dX4_day_75 hl (k := 1) rfl rfl (by decide) rfl (fun ls hl => ?_)
            refine lv_goto (tgt := 60) hx hb dX4_day_78 (by decide) ?_
            exact ih_60 (v1_60 + 1) w15 _ _ ls h (lv_sub hl [1, 0] rfl) hf
      exact hL_60 _ hK_60 fg_fuel 0 w_37 _ _ ls h (lv_sub hl [1, 0] rfl) hf
    have hL_37 : ∀ (KK_37 : Int32 → fg_W → Option fg_W) (hK_37 : ∀ (v1_37 : Int32) (w_37 : fg_W) (H : Heap) (locs : List Loc) (ls : Array Slot), fg_H D g s.heap w_37 H locs → lv_has ls 2 [(0, .ref (g.1 4 0 0)), (1, .int v1_37)] → KK_37 v1_37 w_37 = some w' → fg_Gv p l e 6 137 s m [.ref (g.1 4 0 0)] below meth c D g w' H locs 58 ls []) (n : Nat) (v1_37 : Int32) (w_37 : fg_W) (H : Heap) (locs : List Loc) (ls : Array Slot), fg_H D g s.heap w_37 H locs → lv_has ls 2 [(0, .ref (g.1 4 0 0)), (1, .int v1_37)] → f_X4_day_L37  KK_37 n v1_37 w_37 = some w' → fg_Gv p l e 6 137 s m [.ref (g.1 4 0 0)] below meth c D g w' H locs 37 ls [] := by
      intro KK_37 hK_37 n
      induction n with
      | zero => intro v1_37 w_37 H locs ls h hl hf; exact fg_no hf
      | succ n_37 ih_37 =>
        intro v1_37 w_37 H locs ls h hl hf
        unfold f_X4_day_L37 at hf
        refine lv_iload_n hx hb dX4_day_37 rfl (lv_at hl 1 rfl) ?_
        refine lv_aload_n hx hb dX4_day_38 rfl (lv_at hl 0 rfl) ?_
        refine fg_get (C := RX4) (T := TX4) (N := 22) S vu_X4 hK h fg_p4_0 rfl rfl 0 (by decide) vf_RX4_9 rfl rfl dX4_day_39 ?_
        refine lv_iconst (v := 1) hx hb dX4_day_42 rfl ?_
        refine fg_ialdL (j := 1) hx hb hK h fg_p4_1 (fun _ => rfl) (by decide) rfl dX4_day_43 ?_
        refine lv_icmp_ge (tgt := 58) hx hb dX4_day_44 (by decide) (fun hc => ?_) (fun hc => ?_)
        · have hf := fg_ifT hf hc
          exact hK_37 v1_37 w_37 _ _ ls h (lv_sub hl [0, 1] rfl) hf
        · have hf := fg_ifF hf hc
          refine lv_aload_n hx hb dX4_day_47 rfl (lv_at hl 0 rfl) ?_
          refine lv_iload_n hx hb dX4_day_48 rfl (lv_at hl 1 rfl) ?_
          obtain ⟨w19, hc20, hf⟩ := fg_bvE hf
          refine fg_cv h (fg_runV (rest := []) S hK h (c_X4_pays l D g v1_37  w_37 w19 hc20) vg_RX4_116 vd_X4_pays ⟨by decide, by decide⟩ fg_p4_0 rfl rfl rfl hl.1 rfl (Nat.le_of_ble_eq_true rfl) dX4_day_49 ⟨Nat.zero_le _, Nat.zero_le _⟩) (fun H locs h => ?_)
          refine lv_iinc (v := (v1_37 + 1)) (lv' := [(1, .int (v1_37 + 1)), (0, .ref (g.1 4 0 0))]) hx hb dX4_day_52 hl (k := 1) rfl rfl (by decide) rfl (fun ls hl => ?_)
          refine lv_goto (tgt := 37) hx hb dX4_day_55 (by decide) ?_
          exact ih_37 (v1_37 + 1) w19 _ _ ls h (lv_sub hl [1, 0] rfl) hf
    exact hL_37 _ hK_37 fg_fuel 0 w_6 _ _ ls h (lv_sub hl [1, 0] rfl) hf
  have hL_6 : ∀ (KK_6 : Int32 → fg_W → Option fg_W) (hK_6 : ∀ (v1_6 : Int32) (w_6 : fg_W) (H : Heap) (locs : List Loc) (ls : Array Slot), fg_H D g s.heap w_6 H locs → lv_has ls 2 [(0, .ref (g.1 4 0 0)), (1, .int v1_6)] → KK_6 v1_6 w_6 = some w' → fg_Gv p l e 6 137 s m [.ref (g.1 4 0 0)] below meth c D g w' H locs 35 ls []) (n : Nat) (v1_6 : Int32) (w_6 : fg_W) (H : Heap) (locs : List Loc) (ls : Array Slot), fg_H D g s.heap w_6 H locs → lv_has ls 2 [(0, .ref (g.1 4 0 0)), (1, .int v1_6)] → f_X4_day_L6  KK_6 n v1_6 w_6 = some w' → fg_Gv p l e 6 137 s m [.ref (g.1 4 0 0)] below meth c D g w' H locs 6 ls [] := by
    intro KK_6 hK_6 n
    induction n with
    | zero => intro v1_6 w_6 H locs ls h hl hf; exact fg_no hf
    | succ n_6 ih_6 =>
      intro v1_6 w_6 H locs ls h hl hf
      unfold f_X4_day_L6 at hf
      refine lv_iload_n hx hb dX4_day_6 rfl (lv_at hl 1 rfl) ?_
      refine lv_aload_n hx hb dX4_day_7 rfl (lv_at hl 0 rfl) ?_
      refine fg_get (C := RX4) (T := TX4) (N := 22) S vu_X4 hK h fg_p4_0 rfl rfl 0 (by decide) vf_RX4_9 rfl rfl dX4_day_8 ?_
      refine lv_iconst (v := 1) hx hb dX4_day_11 rfl ?_
      refine fg_ialdL (j := 1) hx hb hK h fg_p4_1 (fun _ => rfl) (by decide) rfl dX4_day_12 ?_
      refine lv_icmp_ge (tgt := 35) hx hb dX4_day_13 (by decide) (fun hc => ?_) (fun hc => ?_)
      · have hf := fg_ifT hf hc
        exact hK_6 v1_6 w_6 _ _ ls h (lv_sub hl [0, 1] rfl) hf
      · have hf := fg_ifF hf hc
        refine lv_aload_n hx hb dX4_day_16 rfl (lv_at hl 0 rfl) ?_
        refine lv_iload_n hx hb dX4_day_17 rfl (lv_at hl 1 rfl) ?_
        obtain ⟨r28, w26, hc27, hf⟩ := fg_biE hf
        refine fg_ci h (fg_runV (rest := []) S hK h (c_X4_isAway l D g v1_6  w_6 r28 w26 hc27) vg_RX4_108 vd_X4_isAway ⟨by decide, by decide⟩ fg_p4_0 rfl rfl rfl hl.1 rfl (Nat.le_of_ble_eq_true rfl) dX4_day_18 ⟨Nat.zero_le _, Nat.zero_le _⟩) (fun H locs h => ?_)
        refine lv_if_ne (tgt := 29) hx hb dX4_day_21 (by decide) (fun hc => ?_) (fun hc => ?_)
        · have hf := fg_ifF hf hc
          refine lv_iinc (v := (v1_6 + 1)) (lv' := [(1, .int (v1_6 + 1)), (0, .ref (g.1 4 0 0))]) hx hb dX4_day_29 hl (k := 1) rfl rfl (by decide) rfl (fun ls hl => ?_)
          refine lv_goto (tgt := 6) hx hb dX4_day_32 (by decide) ?_
          exact ih_6 (v1_6 + 1) w26 _ _ ls h (lv_sub hl [1, 0] rfl) hf
        · have hf := fg_ifT hf hc
          refine lv_aload_n hx hb dX4_day_24 rfl (lv_at hl 0 rfl) ?_
          refine lv_iload_n hx hb dX4_day_25 rfl (lv_at hl 1 rfl) ?_
          obtain ⟨w29, hc30, hf⟩ := fg_bvE hf
          refine fg_cv h (fg_runV (rest := []) S hK h (c_X4_moves l D g v1_6  w26 w29 hc30) vg_RX4_112 vd_X4_moves ⟨by decide, by decide⟩ fg_p4_0 rfl rfl rfl hl.1 rfl (Nat.le_of_ble_eq_true rfl) dX4_day_26 ⟨Nat.zero_le _, Nat.zero_le _⟩) (fun H locs h => ?_)
          refine lv_iinc (v := (v1_6 + 1)) (lv' := [(1, .int (v1_6 + 1)), (0, .ref (g.1 4 0 0))]) hx hb dX4_day_29 hl (k := 1) rfl rfl (by decide) rfl (fun ls hl => ?_)
          refine lv_goto (tgt := 6) hx hb dX4_day_32 (by decide) ?_
          exact ih_6 (v1_6 + 1) w29 _ _ ls h (lv_sub hl [1, 0] rfl) hf
  exact hL_6 _ hK_6 fg_fuel 0 w1 _ _ ls h (lv_sub hl [1, 0] rfl) hf
set_option maxHeartbeats 4000000 in
set_option maxRecDepth 100000 in
theorem c_X4_goes (l : Launch) (D : va_G) (g : fg_G) (a1 : Int32) (w : fg_W) (w' : fg_W) (hf : f_X4_goes a1 w = some w') : fg_M l yX4_goes cX4_goes 3 none 7 158 D g [.ref (g.1 4 0 0), .int a1] w (fg_Qv D g w') := by
  refine fg_M.of rfl (Nat.le_of_ble_eq_true rfl) (fun p e s m below meth c ls S hr hlk hK h hl => ?_)
  have hx := S.1
  have hb := S.2.1
  have hl : lv_has ls 3 [(0, .ref (g.1 4 0 0)), (1, .int a1)] := hl
  unfold f_X4_goes at hf
  refine lv_iconst (v := 0) hx hb dX4_goes_0 rfl ?_
  refine lv_istore_n (lv' := [(2, .int 0), (0, .ref (g.1 4 0 0)), (1, .int a1)]) hx hb dX4_goes_1 rfl hl (by decide) rfl (fun ls hl => ?_)
  have hK_2 : ∀ (v2_2 : Int32) (w_2 : fg_W) (H : Heap) (locs : List Loc) (ls : Array Slot), fg_H D g s.heap w_2 H locs → lv_has ls 3 [(0, .ref (g.1 4 0 0)), (1, .int a1), (2, .int v2_2)] → (some w_2) = some w' → fg_Gv p l e 7 158 s m [.ref (g.1 4 0 0), .int a1] below meth c D g w' H locs 17 ls [] := by
    intro v2_2 w_2 H locs ls h hl hf
    exact fg_retv hx hb hr hlk hK h hf dX4_goes_17
  have hL_2 : ∀ (KK_2 : Int32 → fg_W → Option fg_W) (hK_2 : ∀ (v2_2 : Int32) (w_2 : fg_W) (H : Heap) (locs : List Loc) (ls : Array Slot), fg_H D g s.heap w_2 H locs → lv_has ls 3 [(0, .ref (g.1 4 0 0)), (1, .int a1), (2, .int v2_2)] → KK_2 v2_2 w_2 = some w' → fg_Gv p l e 7 158 s m [.ref (g.1 4 0 0), .int a1] below meth c D g w' H locs 17 ls []) (n : Nat) (v2_2 : Int32) (w_2 : fg_W) (H : Heap) (locs : List Loc) (ls : Array Slot), fg_H D g s.heap w_2 H locs → lv_has ls 3 [(0, .ref (g.1 4 0 0)), (1, .int a1), (2, .int v2_2)] → f_X4_goes_L2 a1 KK_2 n v2_2 w_2 = some w' → fg_Gv p l e 7 158 s m [.ref (g.1 4 0 0), .int a1] below meth c D g w' H locs 2 ls [] := by
    intro KK_2 hK_2 n
    induction n with
    | zero => intro v2_2 w_2 H locs ls h hl hf; exact fg_no hf
    | succ n_2 ih_2 =>
      intro v2_2 w_2 H locs ls h hl hf
      unfold f_X4_goes_L2 at hf
      refine lv_iload_n hx hb dX4_goes_2 rfl (lv_at hl 2 rfl) ?_
      refine lv_iload_n hx hb dX4_goes_3 rfl (lv_at hl 1 rfl) ?_
      refine lv_icmp_ge (tgt := 17) hx hb dX4_goes_4 (by decide) (fun hc => ?_) (fun hc => ?_)
      · have hf := fg_ifT hf hc
        exact hK_2 v2_2 w_2 _ _ ls h (lv_sub hl [0, 1, 2] rfl) hf
      · have hf := fg_ifF hf hc
        refine lv_aload_n hx hb dX4_goes_7 rfl (lv_at hl 0 rfl) ?_
        obtain ⟨w3, hc4, hf⟩ := fg_bvE hf
        refine fg_cv h (fg_runV (rest := []) S hK h (c_X4_day l D g   w_2 w3 hc4) vg_RX4_123 vd_X4_day ⟨by decide, by decide⟩ fg_p4_0 rfl rfl rfl hl.1 rfl (Nat.le_of_ble_eq_true rfl) dX4_goes_8 ⟨Nat.zero_le _, Nat.zero_le _⟩) (fun H locs h => ?_)
        refine lv_iinc (v := (v2_2 + 1)) (lv' := [(2, .int (v2_2 + 1)), (0, .ref (g.1 4 0 0)), (1, .int a1)]) hx hb dX4_goes_11 hl (k := 2) rfl rfl (by decide) rfl (fun ls hl => ?_)
        refine lv_goto (tgt := 2) hx hb dX4_goes_14 (by decide) ?_
        exact ih_2 (v2_2 + 1) w3 _ _ ls h (lv_sub hl [1, 2, 0] rfl) hf
  exact hL_2 _ hK_2 fg_fuel 0 w _ _ ls h (lv_sub hl [1, 2, 0] rfl) hf
set_option maxHeartbeats 4000000 in
set_option maxRecDepth 100000 in
theorem c_X4_onLots (l : Launch) (D : va_G) (g : fg_G)  (w : fg_W) (r : Int32) (w' : fg_W) (hf : f_X4_onLots  w = some (r, w')) : fg_M l yX4_onLots cX4_onLots 1 (some .int) 2 45 D g [.ref (g.1 4 0 0)] w (fg_Qi D g r w') := by
  refine fg_M.of rfl (Nat.le_of_ble_eq_true rfl) (fun p e s m below meth c ls S hr hlk hK h hl => ?_)
  have hx := S.1
  have hb := S.2.1
  have hl : lv_has ls 1 [(0, .ref (g.1 4 0 0))] := hl
  unfold f_X4_onLots at hf
  refine lv_iconst (v := 1) hx hb dX4_onLots_0 rfl ?_
  refine lv_aload_n hx hb dX4_onLots_1 rfl (lv_at hl 0 rfl) ?_
  refine fg_get (C := RX4) (T := TX4) (N := 22) S vu_X4 hK h fg_p4_0 rfl rfl 0 (by decide) vf_RX4_9 rfl rfl dX4_onLots_2 ?_
  refine lv_iconst (v := 1) hx hb dX4_onLots_5 rfl ?_
  refine fg_ialdL (j := 1) hx hb hK h fg_p4_1 (fun _ => rfl) (by decide) rfl dX4_onLots_6 ?_
  refine lv_ishl hx hb dX4_onLots_7 ?_
  refine lv_iconst (v := 1) hx hb dX4_onLots_8 rfl ?_
  refine lv_isub hx hb dX4_onLots_9 ?_
  refine lv_aload_n hx hb dX4_onLots_10 rfl (lv_at hl 0 rfl) ?_
  refine lv_iconst (v := (-1)) hx hb dX4_onLots_11 rfl ?_
  obtain ⟨r3, w1, hc2, hf⟩ := fg_biE hf
  refine fg_ci h (fg_runV (rest := [.int (((1 : Int32) <<< ((w.1 4 0 1 1) &&& 31)) - 1)]) S hK h (c_X4_whoIsOn l D g (-1)  w r3 w1 hc2) vg_RX4_69 vd_X4_whoIsOn ⟨by decide, by decide⟩ fg_p4_0 rfl rfl rfl hl.1 rfl (Nat.le_of_ble_eq_true rfl) dX4_onLots_12 ⟨Nat.zero_le _, Nat.zero_le _⟩) (fun H locs h => ?_)
  refine lv_iconst (v := (-1)) hx hb dX4_onLots_15 rfl ?_
  refine lv_ixor hx hb dX4_onLots_16 ?_
  refine lv_iand hx hb dX4_onLots_17 ?_
  exact fg_reti hx hb hr hlk hK h hf dX4_onLots_18
set_option maxHeartbeats 4000000 in
set_option maxRecDepth 100000 in
theorem c_X4_go (l : Launch) (D : va_G) (g : fg_G) (a1 : Int32) (w : fg_W) (r : Int32) (w' : fg_W) (hf : f_X4_go a1 w = some (r, w')) : fg_M l yX4_go cX4_go 2 (some .int) 8 180 D g [.ref (g.1 4 0 0), .int a1] w (fg_Qi D g r w') := by
  refine fg_M.of rfl (Nat.le_of_ble_eq_true rfl) (fun p e s m below meth c ls S hr hlk hK h hl => ?_)
  have hx := S.1
  have hb := S.2.1
  have hl : lv_has ls 2 [(0, .ref (g.1 4 0 0)), (1, .int a1)] := hl
  unfold f_X4_go at hf
  refine lv_iload_n hx hb dX4_go_0 rfl (lv_at hl 1 rfl) ?_
  refine lv_iconst (v := 1) hx hb dX4_go_1 rfl ?_
  refine lv_bipush (v := 60) hx hb dX4_go_2 rfl ?_
  obtain ⟨r3, w1, hc2, hf⟩ := fg_biE hf
  refine fg_ci h (fg_runS (rest := []) S hK h (c_X4_in1 l D g a1 1 60  w r3 w1 hc2) vk_X4_in1 vm_RX4_61 vs_X4_in1 vi_RX4 vd_X4_in1.2 ⟨by decide, by decide⟩ rfl hl.1 rfl (Nat.le_of_ble_eq_true rfl) dX4_go_4 ⟨Nat.zero_le _, Nat.zero_le _⟩) (fun H locs h => ?_)
  refine lv_if_ne (tgt := 16) hx hb dX4_go_7 (by decide) (fun hc => ?_) (fun hc => ?_)
  · have hf := fg_ifF hf hc
    refine lv_aload_n hx hb dX4_go_16 rfl (lv_at hl 0 rfl) ?_
    refine fg_get (C := RX4) (T := TX4) (N := 22) S vu_X4 hK h fg_p4_0 rfl rfl 0 (by decide) vf_RX4_9 rfl rfl dX4_go_17 ?_
    refine lv_iconst (v := 0) hx hb dX4_go_20 rfl ?_
    refine fg_ialdL (j := 0) hx hb hK h fg_p4_1 (fun _ => rfl) (by decide) rfl dX4_go_21 ?_
    refine lv_iload_n hx hb dX4_go_22 rfl (lv_at hl 1 rfl) ?_
    refine lv_iadd hx hb dX4_go_23 ?_
    refine lv_ldc hx hb S.2.2.2.1 (S.2.2.2.2 _ vc_RX4_122) dX4_go_24 ?_
    refine lv_icmp_le (tgt := 35) hx hb dX4_go_26 (by decide) (fun hc => ?_) (fun hc => ?_)
    · have hf := fg_ifT hf hc
      refine lv_aload_n hx hb dX4_go_35 rfl (lv_at hl 0 rfl) ?_
      refine lv_iload_n hx hb dX4_go_36 rfl (lv_at hl 1 rfl) ?_
      obtain ⟨w4, hc5, hf⟩ := fg_bvE hf
      refine fg_cv h (fg_runV (rest := []) S hK h (c_X4_goes l D g a1  w1 w4 hc5) vg_RX4_144 vd_X4_goes ⟨by decide, by decide⟩ fg_p4_0 rfl rfl rfl hl.1 rfl (Nat.le_of_ble_eq_true rfl) dX4_go_37 ⟨Nat.zero_le _, Nat.zero_le _⟩) (fun H locs h => ?_)
      refine lv_aload_n hx hb dX4_go_40 rfl (lv_at hl 0 rfl) ?_
      obtain ⟨r8, w6, hc7, hf⟩ := fg_biE hf
      refine fg_ci h (fg_runV (rest := []) S hK h (c_X4_onLots l D g   w4 r8 w6 hc7) vg_RX4_147 vd_X4_onLots ⟨by decide, by decide⟩ fg_p4_0 rfl rfl rfl hl.1 rfl (Nat.le_of_ble_eq_true rfl) dX4_go_41 ⟨Nat.zero_le _, Nat.zero_le _⟩) (fun H locs h => ?_)
      exact fg_reti hx hb hr hlk hK h hf dX4_go_44
    · have hf := fg_ifF hf hc
      refine lv_aload_n hx hb dX4_go_29 rfl (lv_at hl 0 rfl) ?_
      refine lv_iconst (v := 4) hx hb dX4_go_30 rfl ?_
      obtain ⟨r11, w9, hc10, hf⟩ := fg_biE hf
      refine fg_ci h (fg_runV (rest := []) S hK h (c_X4_no l D g 4  w1 r11 w9 hc10) vg_RX4_129 vd_X4_no ⟨by decide, by decide⟩ fg_p4_0 rfl rfl rfl hl.1 rfl (Nat.le_of_ble_eq_true rfl) dX4_go_31 ⟨Nat.zero_le _, Nat.zero_le _⟩) (fun H locs h => ?_)
      exact fg_reti hx hb hr hlk hK h hf dX4_go_34
  · have hf := fg_ifT hf hc
    refine lv_aload_n hx hb dX4_go_10 rfl (lv_at hl 0 rfl) ?_
    refine lv_iconst (v := 0) hx hb dX4_go_11 rfl ?_
    obtain ⟨r14, w12, hc13, hf⟩ := fg_biE hf
    refine fg_ci h (fg_runV (rest := []) S hK h (c_X4_no l D g 0  w1 r14 w12 hc13) vg_RX4_129 vd_X4_no ⟨by decide, by decide⟩ fg_p4_0 rfl rfl rfl hl.1 rfl (Nat.le_of_ble_eq_true rfl) dX4_go_12 ⟨Nat.zero_le _, Nat.zero_le _⟩) (fun H locs h => ?_)
    exact fg_reti hx hb hr hlk hK h hf dX4_go_15
set_option maxHeartbeats 4000000 in
set_option maxRecDepth 100000 in
theorem c_X4_fogs (l : Launch) (D : va_G) (g : fg_G)  (w : fg_W) (r : Int32) (w' : fg_W) (hf : f_X4_fogs  w = some (r, w')) : fg_M l yX4_fogs cX4_fogs 3 (some .int) 1 22 D g [.ref (g.1 4 0 0)] w (fg_Qi D g r w') := by
  refine fg_M.of rfl (Nat.le_of_ble_eq_true rfl) (fun p e s m below meth c ls S hr hlk hK h hl => ?_)
  have hx := S.1
  have hb := S.2.1
  have hl : lv_has ls 3 [(0, .ref (g.1 4 0 0))] := hl
  unfold f_X4_fogs at hf
  refine lv_iconst (v := 0) hx hb dX4_fogs_0 rfl ?_
  refine lv_istore_n (lv' := [(1, .int 0), (0, .ref (g.1 4 0 0))]) hx hb dX4_fogs_1 rfl hl (by decide) rfl (fun ls hl => ?_)
  refine lv_iconst (v := 0) hx hb dX4_fogs_2 rfl ?_
  refine lv_istore_n (lv' := [(2, .int 0), (1, .int 0), (0, .ref (g.1 4 0 0))]) hx hb dX4_fogs_3 rfl hl (by decide) rfl (fun ls hl => ?_)
  have hK_4 : ∀ (v1_4 : Int32) (v2_4 : Int32) (w_4 : fg_W) (H : Heap) (locs : List Loc) (ls : Array Slot), fg_H D g s.heap w_4 H locs → lv_has ls 3 [(0, .ref (g.1 4 0 0)), (1, .int v1_4), (2, .int v2_4)] → (some (v1_4, w_4)) = some (r, w') → fg_Gi p l e 1 22 s m [.ref (g.1 4 0 0)] below meth c D g r w' H locs 25 ls [] := by
    intro v1_4 v2_4 w_4 H locs ls h hl hf
    refine lv_iload_n hx hb dX4_fogs_25 rfl (lv_at hl 1 rfl) ?_
    exact fg_reti hx hb hr hlk hK h hf dX4_fogs_26
  have hL_4 : ∀ (KK_4 : Int32 → Int32 → fg_W → Option (Int32 × fg_W)) (hK_4 : ∀ (v1_4 : Int32) (v2_4 : Int32) (w_4 : fg_W) (H : Heap) (locs : List Loc) (ls : Array Slot), fg_H D g s.heap w_4 H locs → lv_has ls 3 [(0, .ref (g.1 4 0 0)), (1, .int v1_4), (2, .int v2_4)] → KK_4 v1_4 v2_4 w_4 = some (r, w') → fg_Gi p l e 1 22 s m [.ref (g.1 4 0 0)] below meth c D g r w' H locs 25 ls []) (n : Nat) (v1_4 : Int32) (v2_4 : Int32) (w_4 : fg_W) (H : Heap) (locs : List Loc) (ls : Array Slot), fg_H D g s.heap w_4 H locs → lv_has ls 3 [(0, .ref (g.1 4 0 0)), (1, .int v1_4), (2, .int v2_4)] → f_X4_fogs_L4  KK_4 n v1_4 v2_4 w_4 = some (r, w') → fg_Gi p l e 1 22 s m [.ref (g.1 4 0 0)] below meth c D g r w' H locs 4 ls [] := by
    intro KK_4 hK_4 n
    induction n with
    | zero => intro v1_4 v2_4 w_4 H locs ls h hl hf; exact fg_no hf
    | succ n_4 ih_4 =>
      intro v1_4 v2_4 w_4 H locs ls h hl hf
      unfold f_X4_fogs_L4 at hf
      refine lv_iload_n hx hb dX4_fogs_4 rfl (lv_at hl 2 rfl) ?_
      refine lv_bipush (v := 10) hx hb dX4_fogs_5 rfl ?_
      refine lv_icmp_ge (tgt := 25) hx hb dX4_fogs_7 (by decide) (fun hc => ?_) (fun hc => ?_)
      · have hf := fg_ifT hf hc
        exact hK_4 v1_4 v2_4 w_4 _ _ ls h (lv_sub hl [0, 1, 2] rfl) hf
      · have hf := fg_ifF hf hc
        refine lv_iload_n hx hb dX4_fogs_10 rfl (lv_at hl 1 rfl) ?_
        refine lv_aload_n hx hb dX4_fogs_11 rfl (lv_at hl 0 rfl) ?_
        refine lv_iload_n hx hb dX4_fogs_12 rfl (lv_at hl 2 rfl) ?_
        refine lv_iconst (v := 0) hx hb dX4_fogs_13 rfl ?_
        obtain ⟨r7, w5, hc6, hf⟩ := fg_biE hf
        refine fg_ci h (fg_runV (rest := [.int v1_4]) S hK h (c_X4_of1 l D g v2_4 0  w_4 r7 w5 hc6) vg_RX4_73 vd_X4_of1 ⟨by decide, by decide⟩ fg_p4_0 rfl rfl rfl hl.1 rfl (Nat.le_of_ble_eq_true rfl) dX4_fogs_14 ⟨Nat.zero_le _, Nat.zero_le _⟩) (fun H locs h => ?_)
        refine lv_iadd hx hb dX4_fogs_17 ?_
        refine lv_topi (fun x8 e_x8 => ?_)
        have hf := fg_letE e_x8 hf
        refine lv_istore_n (lv' := [(1, .int x8), (0, .ref (g.1 4 0 0)), (2, .int v2_4)]) hx hb dX4_fogs_18 rfl hl (by decide) rfl (fun ls hl => ?_)
        refine lv_iinc (v := (v2_4 + 1)) (lv' := [(2, .int (v2_4 + 1)), (1, .int x8), (0, .ref (g.1 4 0 0))]) hx hb dX4_fogs_19 hl (k := 2) rfl rfl (by decide) rfl (fun ls hl => ?_)
        refine lv_goto (tgt := 4) hx hb dX4_fogs_22 (by decide) ?_
        exact ih_4 x8 (v2_4 + 1) w5 _ _ ls h (lv_sub hl [2, 1, 0] rfl) hf
  exact hL_4 _ hK_4 fg_fuel 0 0 w _ _ ls h (lv_sub hl [2, 1, 0] rfl) hf
set_option maxHeartbeats 4000000 in
set_option maxRecDepth 100000 in
theorem c_X4_sumOf (l : Launch) (D : va_G) (g : fg_G) (a1 : Int32) (w : fg_W) (r : Int32) (w' : fg_W) (hf : f_X4_sumOf a1 w = some (r, w')) : fg_M l yX4_sumOf cX4_sumOf 4 (some .int) 1 22 D g [.ref (g.1 4 0 0), .int a1] w (fg_Qi D g r w') := by
  refine fg_M.of rfl (Nat.le_of_ble_eq_true rfl) (fun p e s m below meth c ls S hr hlk hK h hl => ?_)
  have hx := S.1
  have hb := S.2.1
  have hl : lv_has ls 4 [(0, .ref (g.1 4 0 0)), (1, .int a1)] := hl
  unfold f_X4_sumOf at hf
  refine lv_iconst (v := 0) hx hb dX4_sumOf_0 rfl ?_
  refine lv_istore_n (lv' := [(2, .int 0), (0, .ref (g.1 4 0 0)), (1, .int a1)]) hx hb dX4_sumOf_1 rfl hl (by decide) rfl (fun ls hl => ?_)
  refine lv_iconst (v := 0) hx hb dX4_sumOf_2 rfl ?_
  refine lv_istore_n (lv' := [(3, .int 0), (2, .int 0), (0, .ref (g.1 4 0 0)), (1, .int a1)]) hx hb dX4_sumOf_3 rfl hl (by decide) rfl (fun ls hl => ?_)
  have hK_4 : ∀ (v2_4 : Int32) (v3_4 : Int32) (w_4 : fg_W) (H : Heap) (locs : List Loc) (ls : Array Slot), fg_H D g s.heap w_4 H locs → lv_has ls 4 [(0, .ref (g.1 4 0 0)), (1, .int a1), (2, .int v2_4), (3, .int v3_4)] → (some (v2_4, w_4)) = some (r, w') → fg_Gi p l e 1 22 s m [.ref (g.1 4 0 0), .int a1] below meth c D g r w' H locs 29 ls [] := by
    intro v2_4 v3_4 w_4 H locs ls h hl hf
    refine lv_iload_n hx hb dX4_sumOf_29 rfl (lv_at hl 2 rfl) ?_
    exact fg_reti hx hb hr hlk hK h hf dX4_sumOf_30
  have hL_4 : ∀ (KK_4 : Int32 → Int32 → fg_W → Option (Int32 × fg_W)) (hK_4 : ∀ (v2_4 : Int32) (v3_4 : Int32) (w_4 : fg_W) (H : Heap) (locs : List Loc) (ls : Array Slot), fg_H D g s.heap w_4 H locs → lv_has ls 4 [(0, .ref (g.1 4 0 0)), (1, .int a1), (2, .int v2_4), (3, .int v3_4)] → KK_4 v2_4 v3_4 w_4 = some (r, w') → fg_Gi p l e 1 22 s m [.ref (g.1 4 0 0), .int a1] below meth c D g r w' H locs 29 ls []) (n : Nat) (v2_4 : Int32) (v3_4 : Int32) (w_4 : fg_W) (H : Heap) (locs : List Loc) (ls : Array Slot), fg_H D g s.heap w_4 H locs → lv_has ls 4 [(0, .ref (g.1 4 0 0)), (1, .int a1), (2, .int v2_4), (3, .int v3_4)] → f_X4_sumOf_L4 a1 KK_4 n v2_4 v3_4 w_4 = some (r, w') → fg_Gi p l e 1 22 s m [.ref (g.1 4 0 0), .int a1] below meth c D g r w' H locs 4 ls [] := by
    intro KK_4 hK_4 n
    induction n with
    | zero => intro v2_4 v3_4 w_4 H locs ls h hl hf; exact fg_no hf
    | succ n_4 ih_4 =>
      intro v2_4 v3_4 w_4 H locs ls h hl hf
      unfold f_X4_sumOf_L4 at hf
      refine lv_iload_n hx hb dX4_sumOf_4 rfl (lv_at hl 3 rfl) ?_
      refine lv_aload_n hx hb dX4_sumOf_5 rfl (lv_at hl 0 rfl) ?_
      refine fg_get (C := RX4) (T := TX4) (N := 22) S vu_X4 hK h fg_p4_0 rfl rfl 0 (by decide) vf_RX4_9 rfl rfl dX4_sumOf_6 ?_
      refine lv_iconst (v := 1) hx hb dX4_sumOf_9 rfl ?_
      refine fg_ialdL (j := 1) hx hb hK h fg_p4_1 (fun _ => rfl) (by decide) rfl dX4_sumOf_10 ?_
      refine lv_icmp_ge (tgt := 29) hx hb dX4_sumOf_11 (by decide) (fun hc => ?_) (fun hc => ?_)
      · have hf := fg_ifT hf hc
        exact hK_4 v2_4 v3_4 w_4 _ _ ls h (lv_sub hl [0, 1, 2, 3] rfl) hf
      · have hf := fg_ifF hf hc
        refine lv_iload_n hx hb dX4_sumOf_14 rfl (lv_at hl 2 rfl) ?_
        refine lv_aload_n hx hb dX4_sumOf_15 rfl (lv_at hl 0 rfl) ?_
        refine lv_iload_n hx hb dX4_sumOf_16 rfl (lv_at hl 3 rfl) ?_
        refine lv_iload_n hx hb dX4_sumOf_17 rfl (lv_at hl 1 rfl) ?_
        obtain ⟨r7, w5, hc6, hf⟩ := fg_biE hf
        refine fg_ci h (fg_runV (rest := [.int v2_4]) S hK h (c_X4_get l D g v3_4 a1  w_4 r7 w5 hc6) vg_RX4_65 vd_X4_get ⟨by decide, by decide⟩ fg_p4_0 rfl rfl rfl hl.1 rfl (Nat.le_of_ble_eq_true rfl) dX4_sumOf_18 ⟨Nat.zero_le _, Nat.zero_le _⟩) (fun H locs h => ?_)
        refine lv_iadd hx hb dX4_sumOf_21 ?_
        refine lv_topi (fun x8 e_x8 => ?_)
        have hf := fg_letE e_x8 hf
        refine lv_istore_n (lv' := [(2, .int x8), (0, .ref (g.1 4 0 0)), (1, .int a1), (3, .int v3_4)]) hx hb dX4_sumOf_22 rfl hl (by decide) rfl (fun ls hl => ?_)
        refine lv_iinc (v := (v3_4 + 1)) (lv' := [(3, .int (v3_4 + 1)), (2, .int x8), (0, .ref (g.1 4 0 0)), (1, .int a1)]) hx hb dX4_sumOf_23 hl (k := 3) rfl rfl (by decide) rfl (fun ls hl => ?_)
        refine lv_goto (tgt := 4) hx hb dX4_sumOf_26 (by decide) ?_
        exact ih_4 x8 (v3_4 + 1) w5 _ _ ls h (lv_sub hl [2, 3, 1, 0] rfl) hf
  exact hL_4 _ hK_4 fg_fuel 0 0 w _ _ ls h (lv_sub hl [2, 3, 1, 0] rfl) hf
set_option maxHeartbeats 4000000 in
set_option maxRecDepth 100000 in
theorem c_X4_mostFog (l : Launch) (D : va_G) (g : fg_G)  (w : fg_W) (r : Int32) (w' : fg_W) (hf : f_X4_mostFog  w = some (r, w')) : fg_M l yX4_mostFog cX4_mostFog 3 (some .int) 1 22 D g [.ref (g.1 4 0 0)] w (fg_Qi D g r w') := by
  refine fg_M.of rfl (Nat.le_of_ble_eq_true rfl) (fun p e s m below meth c ls S hr hlk hK h hl => ?_)
  have hx := S.1
  have hb := S.2.1
  have hl : lv_has ls 3 [(0, .ref (g.1 4 0 0))] := hl
  unfold f_X4_mostFog at hf
  refine lv_iconst (v := 0) hx hb dX4_mostFog_0 rfl ?_
  refine lv_istore_n (lv' := [(1, .int 0), (0, .ref (g.1 4 0 0))]) hx hb dX4_mostFog_1 rfl hl (by decide) rfl (fun ls hl => ?_)
  refine lv_iconst (v := 1) hx hb dX4_mostFog_2 rfl ?_
  refine lv_istore_n (lv' := [(2, .int 1), (1, .int 0), (0, .ref (g.1 4 0 0))]) hx hb dX4_mostFog_3 rfl hl (by decide) rfl (fun ls hl => ?_)
  have hK_4 : ∀ (v1_4 : Int32) (v2_4 : Int32) (w_4 : fg_W) (H : Heap) (locs : List Loc) (ls : Array Slot), fg_H D g s.heap w_4 H locs → lv_has ls 3 [(0, .ref (g.1 4 0 0)), (1, .int v1_4), (2, .int v2_4)] → (some (v1_4, w_4)) = some (r, w') → fg_Gi p l e 1 22 s m [.ref (g.1 4 0 0)] below meth c D g r w' H locs 37 ls [] := by
    intro v1_4 v2_4 w_4 H locs ls h hl hf
    refine lv_iload_n hx hb dX4_mostFog_37 rfl (lv_at hl 1 rfl) ?_
    exact fg_reti hx hb hr hlk hK h hf dX4_mostFog_38
  have hL_4 : ∀ (KK_4 : Int32 → Int32 → fg_W → Option (Int32 × fg_W)) (hK_4 : ∀ (v1_4 : Int32) (v2_4 : Int32) (w_4 : fg_W) (H : Heap) (locs : List Loc) (ls : Array Slot), fg_H D g s.heap w_4 H locs → lv_has ls 3 [(0, .ref (g.1 4 0 0)), (1, .int v1_4), (2, .int v2_4)] → KK_4 v1_4 v2_4 w_4 = some (r, w') → fg_Gi p l e 1 22 s m [.ref (g.1 4 0 0)] below meth c D g r w' H locs 37 ls []) (n : Nat) (v1_4 : Int32) (v2_4 : Int32) (w_4 : fg_W) (H : Heap) (locs : List Loc) (ls : Array Slot), fg_H D g s.heap w_4 H locs → lv_has ls 3 [(0, .ref (g.1 4 0 0)), (1, .int v1_4), (2, .int v2_4)] → f_X4_mostFog_L4  KK_4 n v1_4 v2_4 w_4 = some (r, w') → fg_Gi p l e 1 22 s m [.ref (g.1 4 0 0)] below meth c D g r w' H locs 4 ls [] := by
    intro KK_4 hK_4 n
    induction n with
    | zero => intro v1_4 v2_4 w_4 H locs ls h hl hf; exact fg_no hf
    | succ n_4 ih_4 =>
      intro v1_4 v2_4 w_4 H locs ls h hl hf
      unfold f_X4_mostFog_L4 at hf
      refine lv_iload_n hx hb dX4_mostFog_4 rfl (lv_at hl 2 rfl) ?_
      refine lv_bipush (v := 10) hx hb dX4_mostFog_5 rfl ?_
      refine lv_icmp_ge (tgt := 37) hx hb dX4_mostFog_7 (by decide) (fun hc => ?_) (fun hc => ?_)
      · have hf := fg_ifT hf hc
        exact hK_4 v1_4 v2_4 w_4 _ _ ls h (lv_sub hl [0, 1, 2] rfl) hf
      · have hf := fg_ifF hf hc
        refine lv_aload_n hx hb dX4_mostFog_10 rfl (lv_at hl 0 rfl) ?_
        refine lv_iload_n hx hb dX4_mostFog_11 rfl (lv_at hl 2 rfl) ?_
        refine lv_iconst (v := 0) hx hb dX4_mostFog_12 rfl ?_
        obtain ⟨r9, w7, hc8, hf⟩ := fg_biE hf
        refine fg_ci h (fg_runV (rest := []) S hK h (c_X4_of1 l D g v2_4 0  w_4 r9 w7 hc8) vg_RX4_73 vd_X4_of1 ⟨by decide, by decide⟩ fg_p4_0 rfl rfl rfl hl.1 rfl (Nat.le_of_ble_eq_true rfl) dX4_mostFog_13 ⟨Nat.zero_le _, Nat.zero_le _⟩) (fun H locs h => ?_)
        refine lv_aload_n hx hb dX4_mostFog_16 rfl (lv_at hl 0 rfl) ?_
        refine lv_iload_n hx hb dX4_mostFog_17 rfl (lv_at hl 1 rfl) ?_
        refine lv_iconst (v := 0) hx hb dX4_mostFog_18 rfl ?_
        obtain ⟨r12, w10, hc11, hf⟩ := fg_biE hf
        refine fg_ci h (fg_runV (rest := [.int r9]) S hK h (c_X4_of1 l D g v1_4 0  w7 r12 w10 hc11) vg_RX4_73 vd_X4_of1 ⟨by decide, by decide⟩ fg_p4_0 rfl rfl rfl hl.1 rfl (Nat.le_of_ble_eq_true rfl) dX4_mostFog_19 ⟨Nat.zero_le _, Nat.zero_le _⟩) (fun H locs h => ?_)
        refine lv_icmp_le (tgt := 29) hx hb dX4_mostFog_22 (by decide) (fun hc => ?_) (fun hc => ?_)
        · have hf := fg_ifT hf hc
          refine lv_iload_n hx hb dX4_mostFog_29 rfl (lv_at hl 1 rfl) ?_
          refine lv_istore_n (lv' := [(1, .int v1_4), (0, .ref (g.1 4 0 0)), (2, .int v2_4)]) hx hb dX4_mostFog_30 rfl hl (by decide) rfl (fun ls hl => ?_)
          refine lv_iinc (v := (v2_4 + 1)) (lv' := [(2, .int (v2_4 + 1)), (1, .int v1_4), (0, .ref (g.1 4 0 0))]) hx hb dX4_mostFog_31 hl (k := 2) rfl rfl (by decide) rfl (fun ls hl => ?_)
          refine lv_goto (tgt := 4) hx hb dX4_mostFog_34 (by decide) ?_
          exact ih_4 v1_4 (v2_4 + 1) w10 _ _ ls h (lv_sub hl [2, 1, 0] rfl) hf
        · have hf := fg_ifF hf hc
          refine lv_iload_n hx hb dX4_mostFog_25 rfl (lv_at hl 2 rfl) ?_
          refine lv_goto (tgt := 30) hx hb dX4_mostFog_26 (by decide) ?_
          refine lv_istore_n (lv' := [(1, .int v2_4), (0, .ref (g.1 4 0 0)), (2, .int v2_4)]) hx hb dX4_mostFog_30 rfl hl (by decide) rfl (fun ls hl => ?_)
          refine lv_iinc (v := (v2_4 + 1)) (lv' := [(2, .int (v2_4 + 1)), (1, .int v2_4), (0, .ref (g.1 4 0 0))]) hx hb dX4_mostFog_31 hl (k := 2) rfl rfl (by decide) rfl (fun ls hl => ?_)
          refine lv_goto (tgt := 4) hx hb dX4_mostFog_34 (by decide) ?_
          exact ih_4 v2_4 (v2_4 + 1) w10 _ _ ls h (lv_sub hl [2, 1, 0] rfl) hf
  exact hL_4 _ hK_4 fg_fuel 0 1 w _ _ ls h (lv_sub hl [2, 1, 0] rfl) hf
set_option maxHeartbeats 4000000 in
set_option maxRecDepth 100000 in
theorem c_X4_richest (l : Launch) (D : va_G) (g : fg_G)  (w : fg_W) (r : Int32) (w' : fg_W) (hf : f_X4_richest  w = some (r, w')) : fg_M l yX4_richest cX4_richest 3 (some .int) 1 22 D g [.ref (g.1 4 0 0)] w (fg_Qi D g r w') := by
  refine fg_M.of rfl (Nat.le_of_ble_eq_true rfl) (fun p e s m below meth c ls S hr hlk hK h hl => ?_)
  have hx := S.1
  have hb := S.2.1
  have hl : lv_has ls 3 [(0, .ref (g.1 4 0 0))] := hl
  unfold f_X4_richest at hf
  refine lv_iconst (v := (-1)) hx hb dX4_richest_0 rfl ?_
  refine lv_istore_n (lv' := [(1, .int (-1)), (0, .ref (g.1 4 0 0))]) hx hb dX4_richest_1 rfl hl (by decide) rfl (fun ls hl => ?_)
  refine lv_iconst (v := 0) hx hb dX4_richest_2 rfl ?_
  refine lv_istore_n (lv' := [(2, .int 0), (1, .int (-1)), (0, .ref (g.1 4 0 0))]) hx hb dX4_richest_3 rfl hl (by decide) rfl (fun ls hl => ?_)
  have hK_4 : ∀ (v1_4 : Int32) (v2_4 : Int32) (w_4 : fg_W) (H : Heap) (locs : List Loc) (ls : Array Slot), fg_H D g s.heap w_4 H locs → lv_has ls 3 [(0, .ref (g.1 4 0 0)), (1, .int v1_4), (2, .int v2_4)] → (some (v1_4, w_4)) = some (r, w') → fg_Gi p l e 1 22 s m [.ref (g.1 4 0 0)] below meth c D g r w' H locs 45 ls [] := by
    intro v1_4 v2_4 w_4 H locs ls h hl hf
    refine lv_iload_n hx hb dX4_richest_45 rfl (lv_at hl 1 rfl) ?_
    exact fg_reti hx hb hr hlk hK h hf dX4_richest_46
  have hL_4 : ∀ (KK_4 : Int32 → Int32 → fg_W → Option (Int32 × fg_W)) (hK_4 : ∀ (v1_4 : Int32) (v2_4 : Int32) (w_4 : fg_W) (H : Heap) (locs : List Loc) (ls : Array Slot), fg_H D g s.heap w_4 H locs → lv_has ls 3 [(0, .ref (g.1 4 0 0)), (1, .int v1_4), (2, .int v2_4)] → KK_4 v1_4 v2_4 w_4 = some (r, w') → fg_Gi p l e 1 22 s m [.ref (g.1 4 0 0)] below meth c D g r w' H locs 45 ls []) (n : Nat) (v1_4 : Int32) (v2_4 : Int32) (w_4 : fg_W) (H : Heap) (locs : List Loc) (ls : Array Slot), fg_H D g s.heap w_4 H locs → lv_has ls 3 [(0, .ref (g.1 4 0 0)), (1, .int v1_4), (2, .int v2_4)] → f_X4_richest_L4  KK_4 n v1_4 v2_4 w_4 = some (r, w') → fg_Gi p l e 1 22 s m [.ref (g.1 4 0 0)] below meth c D g r w' H locs 4 ls [] := by
    intro KK_4 hK_4 n
    induction n with
    | zero => intro v1_4 v2_4 w_4 H locs ls h hl hf; exact fg_no hf
    | succ n_4 ih_4 =>
      intro v1_4 v2_4 w_4 H locs ls h hl hf
      unfold f_X4_richest_L4 at hf
      refine lv_iload_n hx hb dX4_richest_4 rfl (lv_at hl 2 rfl) ?_
      refine lv_aload_n hx hb dX4_richest_5 rfl (lv_at hl 0 rfl) ?_
      refine fg_get (C := RX4) (T := TX4) (N := 22) S vu_X4 hK h fg_p4_0 rfl rfl 0 (by decide) vf_RX4_9 rfl rfl dX4_richest_6 ?_
      refine lv_iconst (v := 1) hx hb dX4_richest_9 rfl ?_
      refine fg_ialdL (j := 1) hx hb hK h fg_p4_1 (fun _ => rfl) (by decide) rfl dX4_richest_10 ?_
      refine lv_icmp_ge (tgt := 45) hx hb dX4_richest_11 (by decide) (fun hc => ?_) (fun hc => ?_)
      · have hf := fg_ifT hf hc
        exact hK_4 v1_4 v2_4 w_4 _ _ ls h (lv_sub hl [0, 1, 2] rfl) hf
      · have hf := fg_ifF hf hc
        refine lv_iload_n hx hb dX4_richest_14 rfl (lv_at hl 1 rfl) ?_
        refine lv_if_lt (tgt := 33) hx hb dX4_richest_15 (by decide) (fun hc => ?_) (fun hc => ?_)
        · have hf := fg_ifT hf hc
          refine lv_iload_n hx hb dX4_richest_33 rfl (lv_at hl 2 rfl) ?_
          refine lv_goto (tgt := 38) hx hb dX4_richest_34 (by decide) ?_
          refine lv_istore_n (lv' := [(1, .int v2_4), (0, .ref (g.1 4 0 0)), (2, .int v2_4)]) hx hb dX4_richest_38 rfl hl (by decide) rfl (fun ls hl => ?_)
          refine lv_iinc (v := (v2_4 + 1)) (lv' := [(2, .int (v2_4 + 1)), (1, .int v2_4), (0, .ref (g.1 4 0 0))]) hx hb dX4_richest_39 hl (k := 2) rfl rfl (by decide) rfl (fun ls hl => ?_)
          refine lv_goto (tgt := 4) hx hb dX4_richest_42 (by decide) ?_
          exact ih_4 v2_4 (v2_4 + 1) w_4 _ _ ls h (lv_sub hl [2, 1, 0] rfl) hf
        · have hf := fg_ifF hf hc
          refine lv_aload_n hx hb dX4_richest_18 rfl (lv_at hl 0 rfl) ?_
          refine lv_iload_n hx hb dX4_richest_19 rfl (lv_at hl 2 rfl) ?_
          refine lv_iconst (v := 3) hx hb dX4_richest_20 rfl ?_
          obtain ⟨r9, w7, hc8, hf⟩ := fg_biE hf
          refine fg_ci h (fg_runV (rest := []) S hK h (c_X4_get l D g v2_4 3  w_4 r9 w7 hc8) vg_RX4_65 vd_X4_get ⟨by decide, by decide⟩ fg_p4_0 rfl rfl rfl hl.1 rfl (Nat.le_of_ble_eq_true rfl) dX4_richest_21 ⟨Nat.zero_le _, Nat.zero_le _⟩) (fun H locs h => ?_)
          refine lv_aload_n hx hb dX4_richest_24 rfl (lv_at hl 0 rfl) ?_
          refine lv_iload_n hx hb dX4_richest_25 rfl (lv_at hl 1 rfl) ?_
          refine lv_iconst (v := 3) hx hb dX4_richest_26 rfl ?_
          obtain ⟨r12, w10, hc11, hf⟩ := fg_biE hf
          refine fg_ci h (fg_runV (rest := [.int r9]) S hK h (c_X4_get l D g v1_4 3  w7 r12 w10 hc11) vg_RX4_65 vd_X4_get ⟨by decide, by decide⟩ fg_p4_0 rfl rfl rfl hl.1 rfl (Nat.le_of_ble_eq_true rfl) dX4_richest_27 ⟨Nat.zero_le _, Nat.zero_le _⟩) (fun H locs h => ?_)
          refine lv_icmp_le (tgt := 37) hx hb dX4_richest_30 (by decide) (fun hc => ?_) (fun hc => ?_)
          · have hf := fg_ifT hf hc
            refine lv_iload_n hx hb dX4_richest_37 rfl (lv_at hl 1 rfl) ?_
            refine lv_istore_n (lv' := [(1, .int v1_4), (0, .ref (g.1 4 0 0)), (2, .int v2_4)]) hx hb dX4_richest_38 rfl hl (by decide) rfl (fun ls hl => ?_)
            refine lv_iinc (v := (v2_4 + 1)) (lv' := [(2, .int (v2_4 + 1)), (1, .int v1_4), (0, .ref (g.1 4 0 0))]) hx hb dX4_richest_39 hl (k := 2) rfl rfl (by decide) rfl (fun ls hl => ?_)
            refine lv_goto (tgt := 4) hx hb dX4_richest_42 (by decide) ?_
            exact ih_4 v1_4 (v2_4 + 1) w10 _ _ ls h (lv_sub hl [2, 1, 0] rfl) hf
          · have hf := fg_ifF hf hc
            refine lv_iload_n hx hb dX4_richest_33 rfl (lv_at hl 2 rfl) ?_
            refine lv_goto (tgt := 38) hx hb dX4_richest_34 (by decide) ?_
            refine lv_istore_n (lv' := [(1, .int v2_4), (0, .ref (g.1 4 0 0)), (2, .int v2_4)]) hx hb dX4_richest_38 rfl hl (by decide) rfl (fun ls hl => ?_)
            refine lv_iinc (v := (v2_4 + 1)) (lv' := [(2, .int (v2_4 + 1)), (1, .int v2_4), (0, .ref (g.1 4 0 0))]) hx hb dX4_richest_39 hl (k := 2) rfl rfl (by decide) rfl (fun ls hl => ?_)
            refine lv_goto (tgt := 4) hx hb dX4_richest_42 (by decide) ?_
            exact ih_4 v2_4 (v2_4 + 1) w10 _ _ ls h (lv_sub hl [2, 1, 0] rfl) hf
  exact hL_4 _ hK_4 fg_fuel (-1) 0 w _ _ ls h (lv_sub hl [2, 1, 0] rfl) hf
set_option maxHeartbeats 4000000 in
set_option maxRecDepth 100000 in
theorem c_X4_now (l : Launch) (D : va_G) (g : fg_G) (a1 : Int32) (w : fg_W) (r : Int32) (w' : fg_W) (hf : f_X4_now a1 w = some (r, w')) : fg_M l yX4_now cX4_now 2 (some .int) 3 65 D g [.ref (g.1 4 0 0), .int a1] w (fg_Qi D g r w') := by
  refine fg_M.of rfl (Nat.le_of_ble_eq_true rfl) (fun p e s m below meth c ls S hr hlk hK h hl => ?_)
  have hx := S.1
  have hb := S.2.1
  have hl : lv_has ls 2 [(0, .ref (g.1 4 0 0)), (1, .int a1)] := hl
  unfold f_X4_now at hf
  refine lv_iload_n hx hb dX4_now_0 rfl (lv_at hl 1 rfl) ?_
  by_cases hq1_0 : a1 = 0
  · refine lv_tableIn (tgt := 48) hx hb dX4_now_1 (by rw [hq1_0]; decide) (by rw [hq1_0]; decide) (off := 47) (by rw [hq1_0]; rfl) (by decide) ?_
    have hf := fg_ifT hf hq1_0
    refine lv_aload_n hx hb dX4_now_48 rfl (lv_at hl 0 rfl) ?_
    refine fg_get (C := RX4) (T := TX4) (N := 22) S vu_X4 hK h fg_p4_0 rfl rfl 0 (by decide) vf_RX4_9 rfl rfl dX4_now_49 ?_
    refine lv_iconst (v := 0) hx hb dX4_now_52 rfl ?_
    refine fg_ialdL (j := 0) hx hb hK h fg_p4_1 (fun _ => rfl) (by decide) rfl dX4_now_53 ?_
    exact fg_reti hx hb hr hlk hK h hf dX4_now_54
  have hf := fg_ifF hf hq1_0
  by_cases hq1_1 : a1 = 1
  · refine lv_tableIn (tgt := 55) hx hb dX4_now_1 (by rw [hq1_1]; decide) (by rw [hq1_1]; decide) (off := 54) (by rw [hq1_1]; rfl) (by decide) ?_
    have hf := fg_ifT hf hq1_1
    refine lv_aload_n hx hb dX4_now_55 rfl (lv_at hl 0 rfl) ?_
    obtain ⟨r3, w1, hc2, hf⟩ := fg_biE hf
    refine fg_ci h (fg_runV (rest := []) S hK h (c_X4_fogs l D g   w r3 w1 hc2) vg_RX4_151 vd_X4_fogs ⟨by decide, by decide⟩ fg_p4_0 rfl rfl rfl hl.1 rfl (Nat.le_of_ble_eq_true rfl) dX4_now_56 ⟨Nat.zero_le _, Nat.zero_le _⟩) (fun H locs h => ?_)
    exact fg_reti hx hb hr hlk hK h hf dX4_now_59
  have hf := fg_ifF hf hq1_1
  by_cases hq1_2 : a1 = 2
  · refine lv_tableIn (tgt := 60) hx hb dX4_now_1 (by rw [hq1_2]; decide) (by rw [hq1_2]; decide) (off := 59) (by rw [hq1_2]; rfl) (by decide) ?_
    have hf := fg_ifT hf hq1_2
    refine lv_aload_n hx hb dX4_now_60 rfl (lv_at hl 0 rfl) ?_
    obtain ⟨r6, w4, hc5, hf⟩ := fg_biE hf
    refine fg_ci h (fg_runV (rest := []) S hK h (c_X4_onLots l D g   w r6 w4 hc5) vg_RX4_147 vd_X4_onLots ⟨by decide, by decide⟩ fg_p4_0 rfl rfl rfl hl.1 rfl (Nat.le_of_ble_eq_true rfl) dX4_now_61 ⟨Nat.zero_le _, Nat.zero_le _⟩) (fun H locs h => ?_)
    exact fg_reti hx hb hr hlk hK h hf dX4_now_64
  have hf := fg_ifF hf hq1_2
  by_cases hq1_3 : a1 = 3
  · refine lv_tableIn (tgt := 65) hx hb dX4_now_1 (by rw [hq1_3]; decide) (by rw [hq1_3]; decide) (off := 64) (by rw [hq1_3]; rfl) (by decide) ?_
    have hf := fg_ifT hf hq1_3
    refine lv_aload_n hx hb dX4_now_65 rfl (lv_at hl 0 rfl) ?_
    refine lv_iconst (v := 3) hx hb dX4_now_66 rfl ?_
    obtain ⟨r9, w7, hc8, hf⟩ := fg_biE hf
    refine fg_ci h (fg_runV (rest := []) S hK h (c_X4_sumOf l D g 3  w r9 w7 hc8) vg_RX4_154 vd_X4_sumOf ⟨by decide, by decide⟩ fg_p4_0 rfl rfl rfl hl.1 rfl (Nat.le_of_ble_eq_true rfl) dX4_now_67 ⟨Nat.zero_le _, Nat.zero_le _⟩) (fun H locs h => ?_)
    exact fg_reti hx hb hr hlk hK h hf dX4_now_70
  have hf := fg_ifF hf hq1_3
  by_cases hq1_4 : a1 = 4
  · refine lv_tableIn (tgt := 71) hx hb dX4_now_1 (by rw [hq1_4]; decide) (by rw [hq1_4]; decide) (off := 70) (by rw [hq1_4]; rfl) (by decide) ?_
    have hf := fg_ifT hf hq1_4
    refine lv_aload_n hx hb dX4_now_71 rfl (lv_at hl 0 rfl) ?_
    refine lv_iconst (v := 4) hx hb dX4_now_72 rfl ?_
    obtain ⟨r12, w10, hc11, hf⟩ := fg_biE hf
    refine fg_ci h (fg_runV (rest := []) S hK h (c_X4_sumOf l D g 4  w r12 w10 hc11) vg_RX4_154 vd_X4_sumOf ⟨by decide, by decide⟩ fg_p4_0 rfl rfl rfl hl.1 rfl (Nat.le_of_ble_eq_true rfl) dX4_now_73 ⟨Nat.zero_le _, Nat.zero_le _⟩) (fun H locs h => ?_)
    exact fg_reti hx hb hr hlk hK h hf dX4_now_76
  have hf := fg_ifF hf hq1_4
  by_cases hq1_5 : a1 = 5
  · refine lv_tableIn (tgt := 77) hx hb dX4_now_1 (by rw [hq1_5]; decide) (by rw [hq1_5]; decide) (off := 76) (by rw [hq1_5]; rfl) (by decide) ?_
    have hf := fg_ifT hf hq1_5
    refine lv_aload_n hx hb dX4_now_77 rfl (lv_at hl 0 rfl) ?_
    obtain ⟨r15, w13, hc14, hf⟩ := fg_biE hf
    refine fg_ci h (fg_runV (rest := []) S hK h (c_X4_mostFog l D g   w r15 w13 hc14) vg_RX4_157 vd_X4_mostFog ⟨by decide, by decide⟩ fg_p4_0 rfl rfl rfl hl.1 rfl (Nat.le_of_ble_eq_true rfl) dX4_now_78 ⟨Nat.zero_le _, Nat.zero_le _⟩) (fun H locs h => ?_)
    exact fg_reti hx hb hr hlk hK h hf dX4_now_81
  have hf := fg_ifF hf hq1_5
  by_cases hq1_6 : a1 = 6
  · refine lv_tableIn (tgt := 82) hx hb dX4_now_1 (by rw [hq1_6]; decide) (by rw [hq1_6]; decide) (off := 81) (by rw [hq1_6]; rfl) (by decide) ?_
    have hf := fg_ifT hf hq1_6
    refine lv_aload_n hx hb dX4_now_82 rfl (lv_at hl 0 rfl) ?_
    obtain ⟨r18, w16, hc17, hf⟩ := fg_biE hf
    refine fg_ci h (fg_runV (rest := []) S hK h (c_X4_richest l D g   w r18 w16 hc17) vg_RX4_160 vd_X4_richest ⟨by decide, by decide⟩ fg_p4_0 rfl rfl rfl hl.1 rfl (Nat.le_of_ble_eq_true rfl) dX4_now_83 ⟨Nat.zero_le _, Nat.zero_le _⟩) (fun H locs h => ?_)
    exact fg_reti hx hb hr hlk hK h hf dX4_now_86
  have hf := fg_ifF hf hq1_6
  by_cases hq1_7 : a1 = 7
  · refine lv_tableIn (tgt := 87) hx hb dX4_now_1 (by rw [hq1_7]; decide) (by rw [hq1_7]; decide) (off := 86) (by rw [hq1_7]; rfl) (by decide) ?_
    have hf := fg_ifT hf hq1_7
    refine lv_aload_n hx hb dX4_now_87 rfl (lv_at hl 0 rfl) ?_
    refine lv_iconst (v := (-1)) hx hb dX4_now_88 rfl ?_
    obtain ⟨r21, w19, hc20, hf⟩ := fg_biE hf
    refine fg_ci h (fg_runV (rest := []) S hK h (c_X4_ownedBy l D g (-1)  w r21 w19 hc20) vg_RX4_141 vd_X4_ownedBy ⟨by decide, by decide⟩ fg_p4_0 rfl rfl rfl hl.1 rfl (Nat.le_of_ble_eq_true rfl) dX4_now_89 ⟨Nat.zero_le _, Nat.zero_le _⟩) (fun H locs h => ?_)
    exact fg_reti hx hb hr hlk hK h hf dX4_now_92
  have hf := fg_ifF hf hq1_7
  refine lv_tableOut (tgt := 93) hx hb dX4_now_1 (by have := lv_neT hq1_0 (show (0 : Int32).toInt = 0 from rfl); have := lv_neT hq1_1 (show (1 : Int32).toInt = 1 from rfl); have := lv_neT hq1_2 (show (2 : Int32).toInt = 2 from rfl); have := lv_neT hq1_3 (show (3 : Int32).toInt = 3 from rfl); have := lv_neT hq1_4 (show (4 : Int32).toInt = 4 from rfl); have := lv_neT hq1_5 (show (5 : Int32).toInt = 5 from rfl); have := lv_neT hq1_6 (show (6 : Int32).toInt = 6 from rfl); have := lv_neT hq1_7 (show (7 : Int32).toInt = 7 from rfl); omega) (by decide) ?_
  refine lv_aload_n hx hb dX4_now_93 rfl (lv_at hl 0 rfl) ?_
  refine lv_iconst (v := 0) hx hb dX4_now_94 rfl ?_
  obtain ⟨r24, w22, hc23, hf⟩ := fg_biE hf
  refine fg_ci h (fg_runV (rest := []) S hK h (c_X4_no l D g 0  w r24 w22 hc23) vg_RX4_129 vd_X4_no ⟨by decide, by decide⟩ fg_p4_0 rfl rfl rfl hl.1 rfl (Nat.le_of_ble_eq_true rfl) dX4_now_95 ⟨Nat.zero_le _, Nat.zero_le _⟩) (fun H locs h => ?_)
  exact fg_reti hx hb hr hlk hK h hf dX4_now_98
set_option maxHeartbeats 4000000 in
set_option maxRecDepth 100000 in
theorem c_X4_setsAside (l : Launch) (D : va_G) (g : fg_G)  (w : fg_W) (w' : fg_W) (hf : f_X4_setsAside  w = some w') : fg_M l yX4_setsAside cX4_setsAside 2 none 0 0 D g [.ref (g.1 4 0 0)] w (fg_Qv D g w') := by
  refine fg_M.of rfl (Nat.le_of_ble_eq_true rfl) (fun p e s m below meth c ls S hr hlk hK h hl => ?_)
  have hx := S.1
  have hb := S.2.1
  have hl : lv_has ls 2 [(0, .ref (g.1 4 0 0))] := hl
  unfold f_X4_setsAside at hf
  refine lv_iconst (v := 0) hx hb dX4_setsAside_0 rfl ?_
  refine lv_istore_n (lv' := [(1, .int 0), (0, .ref (g.1 4 0 0))]) hx hb dX4_setsAside_1 rfl hl (by decide) rfl (fun ls hl => ?_)
  have hK_2 : ∀ (v1_2 : Int32) (w_2 : fg_W) (H : Heap) (locs : List Loc) (ls : Array Slot), fg_H D g s.heap w_2 H locs → lv_has ls 2 [(0, .ref (g.1 4 0 0)), (1, .int v1_2)] → (some w_2) = some w' → fg_Gv p l e 0 0 s m [.ref (g.1 4 0 0)] below meth c D g w' H locs 26 ls [] := by
    intro v1_2 w_2 H locs ls h hl hf
    exact fg_retv hx hb hr hlk hK h hf dX4_setsAside_26
  have hL_2 : ∀ (KK_2 : Int32 → fg_W → Option fg_W) (hK_2 : ∀ (v1_2 : Int32) (w_2 : fg_W) (H : Heap) (locs : List Loc) (ls : Array Slot), fg_H D g s.heap w_2 H locs → lv_has ls 2 [(0, .ref (g.1 4 0 0)), (1, .int v1_2)] → KK_2 v1_2 w_2 = some w' → fg_Gv p l e 0 0 s m [.ref (g.1 4 0 0)] below meth c D g w' H locs 26 ls []) (n : Nat) (v1_2 : Int32) (w_2 : fg_W) (H : Heap) (locs : List Loc) (ls : Array Slot), fg_H D g s.heap w_2 H locs → lv_has ls 2 [(0, .ref (g.1 4 0 0)), (1, .int v1_2)] → f_X4_setsAside_L2  KK_2 n v1_2 w_2 = some w' → fg_Gv p l e 0 0 s m [.ref (g.1 4 0 0)] below meth c D g w' H locs 2 ls [] := by
    intro KK_2 hK_2 n
    induction n with
    | zero => intro v1_2 w_2 H locs ls h hl hf; exact fg_no hf
    | succ n_2 ih_2 =>
      intro v1_2 w_2 H locs ls h hl hf
      unfold f_X4_setsAside_L2 at hf
      refine lv_iload_n hx hb dX4_setsAside_2 rfl (lv_at hl 1 rfl) ?_
      refine lv_bipush (v := 90) hx hb dX4_setsAside_3 rfl ?_
      refine lv_icmp_ge (tgt := 26) hx hb dX4_setsAside_5 (by decide) (fun hc => ?_) (fun hc => ?_)
      · have hf := fg_ifT hf hc
        exact hK_2 v1_2 w_2 _ _ ls h (lv_sub hl [0, 1] rfl) hf
      · have hf := fg_ifF hf hc
        refine lv_aload_n hx hb dX4_setsAside_8 rfl (lv_at hl 0 rfl) ?_
        refine fg_get (C := RX4) (T := TX4) (N := 22) S vu_X4 hK h fg_p4_0 rfl rfl 2 (by decide) vf_RX4_16 rfl rfl dX4_setsAside_9 ?_
        refine lv_iload_n hx hb dX4_setsAside_12 rfl (lv_at hl 1 rfl) ?_
        refine lv_aload_n hx hb dX4_setsAside_13 rfl (lv_at hl 0 rfl) ?_
        refine fg_get (C := RX4) (T := TX4) (N := 22) S vu_X4 hK h fg_p4_0 rfl rfl 0 (by decide) vf_RX4_9 rfl rfl dX4_setsAside_14 ?_
        refine lv_iload_n hx hb dX4_setsAside_17 rfl (lv_at hl 1 rfl) ?_
        obtain ⟨hn4, hf⟩ := fg_gdE hf
        refine fg_iald hx hb hK h fg_p4_1 (fun _ => rfl) hn4 dX4_setsAside_18 ?_
        obtain ⟨hn6, hf⟩ := fg_gdE hf
        refine fg_iast hx hb hK h fg_p4_3 (fun _ => rfl) hn6 dX4_setsAside_19 (fun w5 H locs ew h => ?_)
        have hf := fg_letE ew hf
        refine lv_iinc (v := (v1_2 + 1)) (lv' := [(1, .int (v1_2 + 1)), (0, .ref (g.1 4 0 0))]) hx hb dX4_setsAside_20 hl (k := 1) rfl rfl (by decide) rfl (fun ls hl => ?_)
        refine lv_goto (tgt := 2) hx hb dX4_setsAside_23 (by decide) ?_
        exact ih_2 (v1_2 + 1) w5 _ _ ls h (lv_sub hl [1, 0] rfl) hf
  exact hL_2 _ hK_2 fg_fuel 0 w _ _ ls h (lv_sub hl [1, 0] rfl) hf
set_option maxHeartbeats 4000000 in
set_option maxRecDepth 100000 in
theorem c_X4_laysBack (l : Launch) (D : va_G) (g : fg_G)  (w : fg_W) (w' : fg_W) (hf : f_X4_laysBack  w = some w') : fg_M l yX4_laysBack cX4_laysBack 2 none 0 0 D g [.ref (g.1 4 0 0)] w (fg_Qv D g w') := by
  refine fg_M.of rfl (Nat.le_of_ble_eq_true rfl) (fun p e s m below meth c ls S hr hlk hK h hl => ?_)
  have hx := S.1
  have hb := S.2.1
  have hl : lv_has ls 2 [(0, .ref (g.1 4 0 0))] := hl
  unfold f_X4_laysBack at hf
  refine lv_iconst (v := 0) hx hb dX4_laysBack_0 rfl ?_
  refine lv_istore_n (lv' := [(1, .int 0), (0, .ref (g.1 4 0 0))]) hx hb dX4_laysBack_1 rfl hl (by decide) rfl (fun ls hl => ?_)
  have hK_2 : ∀ (v1_2 : Int32) (w_2 : fg_W) (H : Heap) (locs : List Loc) (ls : Array Slot), fg_H D g s.heap w_2 H locs → lv_has ls 2 [(0, .ref (g.1 4 0 0)), (1, .int v1_2)] → (some w_2) = some w' → fg_Gv p l e 0 0 s m [.ref (g.1 4 0 0)] below meth c D g w' H locs 26 ls [] := by
    intro v1_2 w_2 H locs ls h hl hf
    exact fg_retv hx hb hr hlk hK h hf dX4_laysBack_26
  have hL_2 : ∀ (KK_2 : Int32 → fg_W → Option fg_W) (hK_2 : ∀ (v1_2 : Int32) (w_2 : fg_W) (H : Heap) (locs : List Loc) (ls : Array Slot), fg_H D g s.heap w_2 H locs → lv_has ls 2 [(0, .ref (g.1 4 0 0)), (1, .int v1_2)] → KK_2 v1_2 w_2 = some w' → fg_Gv p l e 0 0 s m [.ref (g.1 4 0 0)] below meth c D g w' H locs 26 ls []) (n : Nat) (v1_2 : Int32) (w_2 : fg_W) (H : Heap) (locs : List Loc) (ls : Array Slot), fg_H D g s.heap w_2 H locs → lv_has ls 2 [(0, .ref (g.1 4 0 0)), (1, .int v1_2)] → f_X4_laysBack_L2  KK_2 n v1_2 w_2 = some w' → fg_Gv p l e 0 0 s m [.ref (g.1 4 0 0)] below meth c D g w' H locs 2 ls [] := by
    intro KK_2 hK_2 n
    induction n with
    | zero => intro v1_2 w_2 H locs ls h hl hf; exact fg_no hf
    | succ n_2 ih_2 =>
      intro v1_2 w_2 H locs ls h hl hf
      unfold f_X4_laysBack_L2 at hf
      refine lv_iload_n hx hb dX4_laysBack_2 rfl (lv_at hl 1 rfl) ?_
      refine lv_bipush (v := 90) hx hb dX4_laysBack_3 rfl ?_
      refine lv_icmp_ge (tgt := 26) hx hb dX4_laysBack_5 (by decide) (fun hc => ?_) (fun hc => ?_)
      · have hf := fg_ifT hf hc
        exact hK_2 v1_2 w_2 _ _ ls h (lv_sub hl [0, 1] rfl) hf
      · have hf := fg_ifF hf hc
        refine lv_aload_n hx hb dX4_laysBack_8 rfl (lv_at hl 0 rfl) ?_
        refine fg_get (C := RX4) (T := TX4) (N := 22) S vu_X4 hK h fg_p4_0 rfl rfl 0 (by decide) vf_RX4_9 rfl rfl dX4_laysBack_9 ?_
        refine lv_iload_n hx hb dX4_laysBack_12 rfl (lv_at hl 1 rfl) ?_
        refine lv_aload_n hx hb dX4_laysBack_13 rfl (lv_at hl 0 rfl) ?_
        refine fg_get (C := RX4) (T := TX4) (N := 22) S vu_X4 hK h fg_p4_0 rfl rfl 2 (by decide) vf_RX4_16 rfl rfl dX4_laysBack_14 ?_
        refine lv_iload_n hx hb dX4_laysBack_17 rfl (lv_at hl 1 rfl) ?_
        obtain ⟨hn4, hf⟩ := fg_gdE hf
        refine fg_iald hx hb hK h fg_p4_3 (fun _ => rfl) hn4 dX4_laysBack_18 ?_
        obtain ⟨hn6, hf⟩ := fg_gdE hf
        refine fg_iast hx hb hK h fg_p4_1 (fun _ => rfl) hn6 dX4_laysBack_19 (fun w5 H locs ew h => ?_)
        have hf := fg_letE ew hf
        refine lv_iinc (v := (v1_2 + 1)) (lv' := [(1, .int (v1_2 + 1)), (0, .ref (g.1 4 0 0))]) hx hb dX4_laysBack_20 hl (k := 1) rfl rfl (by decide) rfl (fun ls hl => ?_)
        refine lv_goto (tgt := 2) hx hb dX4_laysBack_23 (by decide) ?_
        exact ih_2 (v1_2 + 1) w5 _ _ ls h (lv_sub hl [1, 0] rfl) hf
  exact hL_2 _ hK_2 fg_fuel 0 w _ _ ls h (lv_sub hl [1, 0] rfl) hf
set_option maxHeartbeats 4000000 in
set_option maxRecDepth 100000 in
theorem c_X4_ahead (l : Launch) (D : va_G) (g : fg_G) (a1 : Int32) (a2 : Int32) (a3 : Int32) (w : fg_W) (r : Int32) (w' : fg_W) (hf : f_X4_ahead a1 a2 a3 w = some (r, w')) : fg_M l yX4_ahead cX4_ahead 5 (some .int) 8 180 D g [.ref (g.1 4 0 0), .int a1, .int a2, .int a3] w (fg_Qi D g r w') := by
  refine fg_M.of rfl (Nat.le_of_ble_eq_true rfl) (fun p e s m below meth c ls S hr hlk hK h hl => ?_)
  have hx := S.1
  have hb := S.2.1
  have hl : lv_has ls 5 [(0, .ref (g.1 4 0 0)), (1, .int a1), (2, .int a2), (3, .int a3)] := hl
  unfold f_X4_ahead at hf
  refine lv_aload_n hx hb dX4_ahead_0 rfl (lv_at hl 0 rfl) ?_
  refine lv_iload_n hx hb dX4_ahead_1 rfl (lv_at hl 1 rfl) ?_
  obtain ⟨r3, w1, hc2, hf⟩ := fg_biE hf
  refine fg_ci h (fg_runV (rest := []) S hK h (c_X4_isPerson l D g a1  w r3 w1 hc2) vg_RX4_138 vd_X4_isPerson ⟨by decide, by decide⟩ fg_p4_0 rfl rfl rfl hl.1 rfl (Nat.le_of_ble_eq_true rfl) dX4_ahead_2 ⟨Nat.zero_le _, Nat.zero_le _⟩) (fun H locs h => ?_)
  refine lv_if_eq (tgt := 27) hx hb dX4_ahead_5 (by decide) (fun hc => ?_) (fun hc => ?_)
  · have hf := fg_ifT hf hc
    refine lv_aload_n hx hb dX4_ahead_27 rfl (lv_at hl 0 rfl) ?_
    refine lv_iconst (v := 0) hx hb dX4_ahead_28 rfl ?_
    obtain ⟨r6, w4, hc5, hf⟩ := fg_biE hf
    refine fg_ci h (fg_runV (rest := []) S hK h (c_X4_no l D g 0  w1 r6 w4 hc5) vg_RX4_129 vd_X4_no ⟨by decide, by decide⟩ fg_p4_0 rfl rfl rfl hl.1 rfl (Nat.le_of_ble_eq_true rfl) dX4_ahead_29 ⟨Nat.zero_le _, Nat.zero_le _⟩) (fun H locs h => ?_)
    exact fg_reti hx hb hr hlk hK h hf dX4_ahead_32
  · have hf := fg_ifF hf hc
    refine lv_iload_n hx hb dX4_ahead_8 rfl (lv_at hl 2 rfl) ?_
    refine lv_iconst (v := 1) hx hb dX4_ahead_9 rfl ?_
    refine lv_iconst (v := 4) hx hb dX4_ahead_10 rfl ?_
    obtain ⟨r9, w7, hc8, hf⟩ := fg_biE hf
    refine fg_ci h (fg_runS (rest := []) S hK h (c_X4_in1 l D g a2 1 4  w1 r9 w7 hc8) vk_X4_in1 vm_RX4_61 vs_X4_in1 vi_RX4 vd_X4_in1.2 ⟨by decide, by decide⟩ rfl hl.1 rfl (Nat.le_of_ble_eq_true rfl) dX4_ahead_11 ⟨Nat.zero_le _, Nat.zero_le _⟩) (fun H locs h => ?_)
    refine lv_if_eq (tgt := 27) hx hb dX4_ahead_14 (by decide) (fun hc => ?_) (fun hc => ?_)
    · have hf := fg_ifT hf hc
      refine lv_aload_n hx hb dX4_ahead_27 rfl (lv_at hl 0 rfl) ?_
      refine lv_iconst (v := 0) hx hb dX4_ahead_28 rfl ?_
      obtain ⟨r12, w10, hc11, hf⟩ := fg_biE hf
      refine fg_ci h (fg_runV (rest := []) S hK h (c_X4_no l D g 0  w7 r12 w10 hc11) vg_RX4_129 vd_X4_no ⟨by decide, by decide⟩ fg_p4_0 rfl rfl rfl hl.1 rfl (Nat.le_of_ble_eq_true rfl) dX4_ahead_29 ⟨Nat.zero_le _, Nat.zero_le _⟩) (fun H locs h => ?_)
      exact fg_reti hx hb hr hlk hK h hf dX4_ahead_32
    · have hf := fg_ifF hf hc
      refine lv_iload_n hx hb dX4_ahead_17 rfl (lv_at hl 3 rfl) ?_
      refine lv_iconst (v := 0) hx hb dX4_ahead_18 rfl ?_
      refine lv_bipush (v := 100) hx hb dX4_ahead_19 rfl ?_
      obtain ⟨r15, w13, hc14, hf⟩ := fg_biE hf
      refine fg_ci h (fg_runS (rest := []) S hK h (c_X4_in1 l D g a3 0 100  w7 r15 w13 hc14) vk_X4_in1 vm_RX4_61 vs_X4_in1 vi_RX4 vd_X4_in1.2 ⟨by decide, by decide⟩ rfl hl.1 rfl (Nat.le_of_ble_eq_true rfl) dX4_ahead_21 ⟨Nat.zero_le _, Nat.zero_le _⟩) (fun H locs h => ?_)
      refine lv_if_ne (tgt := 33) hx hb dX4_ahead_24 (by decide) (fun hc => ?_) (fun hc => ?_)
      · have hf := fg_ifF hf hc
        refine lv_aload_n hx hb dX4_ahead_33 rfl (lv_at hl 0 rfl) ?_
        obtain ⟨w16, hc17, hf⟩ := fg_bvE hf
        refine fg_cv h (fg_runV (rest := []) S hK h (c_X4_setsAside l D g   w13 w16 hc17) vg_RX4_163 vd_X4_setsAside ⟨by decide, by decide⟩ fg_p4_0 rfl rfl rfl hl.1 rfl (Nat.le_of_ble_eq_true rfl) dX4_ahead_34 ⟨Nat.zero_le _, Nat.zero_le _⟩) (fun H locs h => ?_)
        refine lv_aload_n hx hb dX4_ahead_37 rfl (lv_at hl 0 rfl) ?_
        refine lv_iload_n hx hb dX4_ahead_38 rfl (lv_at hl 3 rfl) ?_
        obtain ⟨w18, hc19, hf⟩ := fg_bvE hf
        refine fg_cv h (fg_runV (rest := []) S hK h (c_X4_goes l D g a3  w16 w18 hc19) vg_RX4_144 vd_X4_goes ⟨by decide, by decide⟩ fg_p4_0 rfl rfl rfl hl.1 rfl (Nat.le_of_ble_eq_true rfl) dX4_ahead_39 ⟨Nat.zero_le _, Nat.zero_le _⟩) (fun H locs h => ?_)
        refine lv_aload_n hx hb dX4_ahead_42 rfl (lv_at hl 0 rfl) ?_
        refine lv_iload_n hx hb dX4_ahead_43 rfl (lv_at hl 1 rfl) ?_
        refine lv_iload_n hx hb dX4_ahead_44 rfl (lv_at hl 2 rfl) ?_
        obtain ⟨r22, w20, hc21, hf⟩ := fg_biE hf
        refine fg_ci h (fg_runV (rest := []) S hK h (c_X4_get l D g a1 a2  w18 r22 w20 hc21) vg_RX4_65 vd_X4_get ⟨by decide, by decide⟩ fg_p4_0 rfl rfl rfl hl.1 rfl (Nat.le_of_ble_eq_true rfl) dX4_ahead_45 ⟨Nat.zero_le _, Nat.zero_le _⟩) (fun H locs h => ?_)
        refine lv_istore (lv' := [(4, .int r22), (0, .ref (g.1 4 0 0)), (1, .int a1), (2, .int a2), (3, .int a3)]) hx hb dX4_ahead_48 hl (by decide) rfl (fun ls hl => ?_)
        refine lv_aload_n hx hb dX4_ahead_50 rfl (lv_at hl 1 rfl) ?_
        obtain ⟨w23, hc24, hf⟩ := fg_bvE hf
        refine fg_cv h (fg_runV (rest := []) S hK h (c_X4_laysBack l D g   w20 w23 hc24) vg_RX4_166 vd_X4_laysBack ⟨by decide, by decide⟩ fg_p4_0 rfl rfl rfl hl.1 rfl (Nat.le_of_ble_eq_true rfl) dX4_ahead_51 ⟨Nat.zero_le _, Nat.zero_le _⟩) (fun H locs h => ?_)
        refine lv_iload hx hb dX4_ahead_54 (lv_at hl 0 rfl) ?_
        exact fg_reti hx hb hr hlk hK h hf dX4_ahead_56
      · have hf := fg_ifT hf hc
        refine lv_aload_n hx hb dX4_ahead_27 rfl (lv_at hl 0 rfl) ?_
        refine lv_iconst (v := 0) hx hb dX4_ahead_28 rfl ?_
        obtain ⟨r27, w25, hc26, hf⟩ := fg_biE hf
        refine fg_ci h (fg_runV (rest := []) S hK h (c_X4_no l D g 0  w13 r27 w25 hc26) vg_RX4_129 vd_X4_no ⟨by decide, by decide⟩ fg_p4_0 rfl rfl rfl hl.1 rfl (Nat.le_of_ble_eq_true rfl) dX4_ahead_29 ⟨Nat.zero_le _, Nat.zero_le _⟩) (fun H locs h => ?_)
        exact fg_reti hx hb hr hlk hK h hf dX4_ahead_32
