set_option maxHeartbeats 4000000 in
set_option maxRecDepth 100000 in
theorem c_X3_lot (l : Launch) (D : va_G) (g : fg_G) (a1 : Int32) (a2 : Int32) (a3 : Int32) (w : fg_W) (r : Int32) (w' : fg_W) (hf : f_X3_lot a1 a2 a3 w = some (r, w')) : fg_M l yX3_lot cX3_lot 4 (some .int) 1 23 D g [.ref (g.1 3 0 0), .int a1, .int a2, .int a3] w (fg_Qi D g r w') := by
  refine fg_M.of rfl (Nat.le_of_ble_eq_true rfl) (fun p e s m below meth c ls S hr hlk hK h hl => ?_)
  have hx := S.1
  have hb := S.2.1
  have hl : lv_has ls 4 [(0, .ref (g.1 3 0 0)), (1, .int a1), (2, .int a2), (3, .int a3)] := hl
  unfold f_X3_lot at hf
  refine lv_iload_n hx hb dX3_lot_0 rfl (lv_at hl 1 rfl) ?_
  obtain ⟨r3, w1, hc2, hf⟩ := fg_biE hf
  refine fg_ci h (fg_runS (rest := []) S hK h (c_X3_isLot l D g a1  w r3 w1 hc2) vk_X3_isLot vm_RX3_44 vs_X3_isLot vi_RX3 vd_X3_isLot.2 ⟨by decide, by decide⟩ rfl hl.1 rfl (Nat.le_of_ble_eq_true rfl) dX3_lot_1 ⟨Nat.zero_le _, Nat.zero_le _⟩) (fun H locs h => ?_)
  refine lv_if_ne (tgt := 13) hx hb dX3_lot_4 (by decide) (fun hc => ?_) (fun hc => ?_)
  · have hf := fg_ifF hf hc
    refine lv_iload_n hx hb dX3_lot_13 rfl (lv_at hl 2 rfl) ?_
    refine lv_if_ne (tgt := 40) hx hb dX3_lot_14 (by decide) (fun hc => ?_) (fun hc => ?_)
    · have hf := fg_ifF hf hc
      refine lv_iload_n hx hb dX3_lot_40 rfl (lv_at hl 2 rfl) ?_
      refine lv_iconst (v := 1) hx hb dX3_lot_41 rfl ?_
      refine lv_icmp_ne (tgt := 68) hx hb dX3_lot_42 (by decide) (fun hc => ?_) (fun hc => ?_)
      · have hf := fg_ifF hf hc
        refine lv_iload_n hx hb dX3_lot_68 rfl (lv_at hl 2 rfl) ?_
        refine lv_iconst (v := 2) hx hb dX3_lot_69 rfl ?_
        refine lv_icmp_ne (tgt := 102) hx hb dX3_lot_70 (by decide) (fun hc => ?_) (fun hc => ?_)
        · have hf := fg_ifF hf hc
          refine lv_aload_n hx hb dX3_lot_102 rfl (lv_at hl 0 rfl) ?_
          refine lv_iconst (v := 0) hx hb dX3_lot_103 rfl ?_
          obtain ⟨r6, w4, hc5, hf⟩ := fg_biE hf
          refine fg_ci h (fg_runV (rest := []) S hK h (c_X3_finding l D g 0  w1 r6 w4 hc5) vg_RX3_48 vd_X3_finding ⟨by decide, by decide⟩ fg_p3_0 rfl rfl rfl hl.1 rfl (Nat.le_of_ble_eq_true rfl) dX3_lot_104 ⟨Nat.zero_le _, Nat.zero_le _⟩) (fun H locs h => ?_)
          exact fg_reti hx hb hr hlk hK h hf dX3_lot_107
        · have hf := fg_ifT hf hc
          refine lv_iload_n hx hb dX3_lot_73 rfl (lv_at hl 3 rfl) ?_
          refine lv_iconst (v := (-1)) hx hb dX3_lot_74 rfl ?_
          refine lv_icmp_eq (tgt := 89) hx hb dX3_lot_75 (by decide) (fun hc => ?_) (fun hc => ?_)
          · have hf := fg_ifT hf hc
            refine lv_aload_n hx hb dX3_lot_89 rfl (lv_at hl 0 rfl) ?_
            refine fg_get (C := RX3) (T := TX3) (N := 7) S vu_X3 hK h fg_p3_0 rfl rfl 0 (by decide) vf_RX3_10 rfl rfl dX3_lot_90 ?_
            refine fg_get (C := RX2) (T := TX2) (N := 16) S vu_X2 hK h (fg_p2_0 (by decide)) rfl rfl 2 (by decide) vf_RX3_69 rfl rfl dX3_lot_93 ?_
            refine lv_iload_n hx hb dX3_lot_96 rfl (lv_at hl 1 rfl) ?_
            refine lv_iload_n hx hb dX3_lot_97 rfl (lv_at hl 3 rfl) ?_
            obtain ⟨r9, w7, hc8, hf⟩ := fg_biE hf
            refine fg_ci h (fg_runS (rest := []) S hK h (c_X3_exchange l D g 2 0 3 10 a1 a3 (fg_p2_3 (by decide)) (fun _ => rfl) w1 r9 w7 hc8) vk_X3_exchange vm_RX3_59 vs_X3_exchange vi_RX3 vd_X3_exchange.2 ⟨by decide, by decide⟩ rfl hl.1 rfl (Nat.le_of_ble_eq_true rfl) dX3_lot_98 ⟨Nat.zero_le _, Nat.zero_le _⟩) (fun H locs h => ?_)
            exact fg_reti hx hb hr hlk hK h hf dX3_lot_101
          · have hf := fg_ifF hf hc
            refine lv_aload_n hx hb dX3_lot_78 rfl (lv_at hl 0 rfl) ?_
            refine fg_get (C := RX3) (T := TX3) (N := 7) S vu_X3 hK h fg_p3_0 rfl rfl 0 (by decide) vf_RX3_10 rfl rfl dX3_lot_79 ?_
            refine lv_iload_n hx hb dX3_lot_82 rfl (lv_at hl 3 rfl) ?_
            obtain ⟨r12, w10, hc11, hf⟩ := fg_biE hf
            refine fg_ci h (fg_runV (rest := []) S hK h (c_X2_isPerson l D g 0 a3 (by decide) w1 r12 w10 hc11) vg_RX3_66 vd_X2_isPerson ⟨by decide, by decide⟩ (fg_p2_0 (by decide)) rfl rfl rfl hl.1 rfl (Nat.le_of_ble_eq_true rfl) dX3_lot_83 ⟨Nat.zero_le _, Nat.zero_le _⟩) (fun H locs h => ?_)
            refine lv_if_eq (tgt := 102) hx hb dX3_lot_86 (by decide) (fun hc => ?_) (fun hc => ?_)
            · have hf := fg_ifT hf hc
              refine lv_aload_n hx hb dX3_lot_102 rfl (lv_at hl 0 rfl) ?_
              refine lv_iconst (v := 0) hx hb dX3_lot_103 rfl ?_
              obtain ⟨r15, w13, hc14, hf⟩ := fg_biE hf
              refine fg_ci h (fg_runV (rest := []) S hK h (c_X3_finding l D g 0  w10 r15 w13 hc14) vg_RX3_48 vd_X3_finding ⟨by decide, by decide⟩ fg_p3_0 rfl rfl rfl hl.1 rfl (Nat.le_of_ble_eq_true rfl) dX3_lot_104 ⟨Nat.zero_le _, Nat.zero_le _⟩) (fun H locs h => ?_)
              exact fg_reti hx hb hr hlk hK h hf dX3_lot_107
            · have hf := fg_ifF hf hc
              refine lv_aload_n hx hb dX3_lot_89 rfl (lv_at hl 0 rfl) ?_
              refine fg_get (C := RX3) (T := TX3) (N := 7) S vu_X3 hK h fg_p3_0 rfl rfl 0 (by decide) vf_RX3_10 rfl rfl dX3_lot_90 ?_
              refine fg_get (C := RX2) (T := TX2) (N := 16) S vu_X2 hK h (fg_p2_0 (by decide)) rfl rfl 2 (by decide) vf_RX3_69 rfl rfl dX3_lot_93 ?_
              refine lv_iload_n hx hb dX3_lot_96 rfl (lv_at hl 1 rfl) ?_
              refine lv_iload_n hx hb dX3_lot_97 rfl (lv_at hl 3 rfl) ?_
              obtain ⟨r18, w16, hc17, hf⟩ := fg_biE hf
              refine fg_ci h (fg_runS (rest := []) S hK h (c_X3_exchange l D g 2 0 3 10 a1 a3 (fg_p2_3 (by decide)) (fun _ => rfl) w10 r18 w16 hc17) vk_X3_exchange vm_RX3_59 vs_X3_exchange vi_RX3 vd_X3_exchange.2 ⟨by decide, by decide⟩ rfl hl.1 rfl (Nat.le_of_ble_eq_true rfl) dX3_lot_98 ⟨Nat.zero_le _, Nat.zero_le _⟩) (fun H locs h => ?_)
              exact fg_reti hx hb hr hlk hK h hf dX3_lot_101
      · have hf := fg_ifT hf hc
        refine lv_iload_n hx hb dX3_lot_45 rfl (lv_at hl 3 rfl) ?_
        refine lv_iconst (v := 0) hx hb dX3_lot_46 rfl ?_
        refine lv_bipush (v := 20) hx hb dX3_lot_47 rfl ?_
        obtain ⟨r21, w19, hc20, hf⟩ := fg_biE hf
        refine fg_ci h (fg_runS (rest := []) S hK h (c_X3_within l D g a3 0 20  w1 r21 w19 hc20) vk_X3_within vm_RX3_52 vs_X3_within vi_RX3 vd_X3_within.2 ⟨by decide, by decide⟩ rfl hl.1 rfl (Nat.le_of_ble_eq_true rfl) dX3_lot_49 ⟨Nat.zero_le _, Nat.zero_le _⟩) (fun H locs h => ?_)
        refine lv_if_eq (tgt := 68) hx hb dX3_lot_52 (by decide) (fun hc => ?_) (fun hc => ?_)
        · have hf := fg_ifT hf hc
          refine lv_iload_n hx hb dX3_lot_68 rfl (lv_at hl 2 rfl) ?_
          refine lv_iconst (v := 2) hx hb dX3_lot_69 rfl ?_
          refine lv_icmp_ne (tgt := 102) hx hb dX3_lot_70 (by decide) (fun hc => ?_) (fun hc => ?_)
          · have hf := fg_ifF hf hc
            refine lv_aload_n hx hb dX3_lot_102 rfl (lv_at hl 0 rfl) ?_
            refine lv_iconst (v := 0) hx hb dX3_lot_103 rfl ?_
            obtain ⟨r24, w22, hc23, hf⟩ := fg_biE hf
            refine fg_ci h (fg_runV (rest := []) S hK h (c_X3_finding l D g 0  w19 r24 w22 hc23) vg_RX3_48 vd_X3_finding ⟨by decide, by decide⟩ fg_p3_0 rfl rfl rfl hl.1 rfl (Nat.le_of_ble_eq_true rfl) dX3_lot_104 ⟨Nat.zero_le _, Nat.zero_le _⟩) (fun H locs h => ?_)
            exact fg_reti hx hb hr hlk hK h hf dX3_lot_107
          · have hf := fg_ifT hf hc
            refine lv_iload_n hx hb dX3_lot_73 rfl (lv_at hl 3 rfl) ?_
            refine lv_iconst (v := (-1)) hx hb dX3_lot_74 rfl ?_
            refine lv_icmp_eq (tgt := 89) hx hb dX3_lot_75 (by decide) (fun hc => ?_) (fun hc => ?_)
            · have hf := fg_ifT hf hc
              refine lv_aload_n hx hb dX3_lot_89 rfl (lv_at hl 0 rfl) ?_
              refine fg_get (C := RX3) (T := TX3) (N := 7) S vu_X3 hK h fg_p3_0 rfl rfl 0 (by decide) vf_RX3_10 rfl rfl dX3_lot_90 ?_
              refine fg_get (C := RX2) (T := TX2) (N := 16) S vu_X2 hK h (fg_p2_0 (by decide)) rfl rfl 2 (by decide) vf_RX3_69 rfl rfl dX3_lot_93 ?_
              refine lv_iload_n hx hb dX3_lot_96 rfl (lv_at hl 1 rfl) ?_
              refine lv_iload_n hx hb dX3_lot_97 rfl (lv_at hl 3 rfl) ?_
              obtain ⟨r27, w25, hc26, hf⟩ := fg_biE hf
              refine fg_ci h (fg_runS (rest := []) S hK h (c_X3_exchange l D g 2 0 3 10 a1 a3 (fg_p2_3 (by decide)) (fun _ => rfl) w19 r27 w25 hc26) vk_X3_exchange vm_RX3_59 vs_X3_exchange vi_RX3 vd_X3_exchange.2 ⟨by decide, by decide⟩ rfl hl.1 rfl (Nat.le_of_ble_eq_true rfl) dX3_lot_98 ⟨Nat.zero_le _, Nat.zero_le _⟩) (fun H locs h => ?_)
              exact fg_reti hx hb hr hlk hK h hf dX3_lot_101
            · have hf := fg_ifF hf hc
              refine lv_aload_n hx hb dX3_lot_78 rfl (lv_at hl 0 rfl) ?_
              refine fg_get (C := RX3) (T := TX3) (N := 7) S vu_X3 hK h fg_p3_0 rfl rfl 0 (by decide) vf_RX3_10 rfl rfl dX3_lot_79 ?_
              refine lv_iload_n hx hb dX3_lot_82 rfl (lv_at hl 3 rfl) ?_
              obtain ⟨r30, w28, hc29, hf⟩ := fg_biE hf
              refine fg_ci h (fg_runV (rest := []) S hK h (c_X2_isPerson l D g 0 a3 (by decide) w19 r30 w28 hc29) vg_RX3_66 vd_X2_isPerson ⟨by decide, by decide⟩ (fg_p2_0 (by decide)) rfl rfl rfl hl.1 rfl (Nat.le_of_ble_eq_true rfl) dX3_lot_83 ⟨Nat.zero_le _, Nat.zero_le _⟩) (fun H locs h => ?_)
              refine lv_if_eq (tgt := 102) hx hb dX3_lot_86 (by decide) (fun hc => ?_) (fun hc => ?_)
              · have hf := fg_ifT hf hc
                refine lv_aload_n hx hb dX3_lot_102 rfl (lv_at hl 0 rfl) ?_
                refine lv_iconst (v := 0) hx hb dX3_lot_103 rfl ?_
                obtain ⟨r33, w31, hc32, hf⟩ := fg_biE hf
                refine fg_ci h (fg_runV (rest := []) S hK h (c_X3_finding l D g 0  w28 r33 w31 hc32) vg_RX3_48 vd_X3_finding ⟨by decide, by decide⟩ fg_p3_0 rfl rfl rfl hl.1 rfl (Nat.le_of_ble_eq_true rfl) dX3_lot_104 ⟨Nat.zero_le _, Nat.zero_le _⟩) (fun H locs h => ?_)
                exact fg_reti hx hb hr hlk hK h hf dX3_lot_107
              · have hf := fg_ifF hf hc
                refine lv_aload_n hx hb dX3_lot_89 rfl (lv_at hl 0 rfl) ?_
                refine fg_get (C := RX3) (T := TX3) (N := 7) S vu_X3 hK h fg_p3_0 rfl rfl 0 (by decide) vf_RX3_10 rfl rfl dX3_lot_90 ?_
                refine fg_get (C := RX2) (T := TX2) (N := 16) S vu_X2 hK h (fg_p2_0 (by decide)) rfl rfl 2 (by decide) vf_RX3_69 rfl rfl dX3_lot_93 ?_
                refine lv_iload_n hx hb dX3_lot_96 rfl (lv_at hl 1 rfl) ?_
                refine lv_iload_n hx hb dX3_lot_97 rfl (lv_at hl 3 rfl) ?_
                obtain ⟨r36, w34, hc35, hf⟩ := fg_biE hf
                refine fg_ci h (fg_runS (rest := []) S hK h (c_X3_exchange l D g 2 0 3 10 a1 a3 (fg_p2_3 (by decide)) (fun _ => rfl) w28 r36 w34 hc35) vk_X3_exchange vm_RX3_59 vs_X3_exchange vi_RX3 vd_X3_exchange.2 ⟨by decide, by decide⟩ rfl hl.1 rfl (Nat.le_of_ble_eq_true rfl) dX3_lot_98 ⟨Nat.zero_le _, Nat.zero_le _⟩) (fun H locs h => ?_)
                exact fg_reti hx hb hr hlk hK h hf dX3_lot_101
        · have hf := fg_ifF hf hc
          refine lv_aload_n hx hb dX3_lot_55 rfl (lv_at hl 0 rfl) ?_
          refine fg_get (C := RX3) (T := TX3) (N := 7) S vu_X3 hK h fg_p3_0 rfl rfl 0 (by decide) vf_RX3_10 rfl rfl dX3_lot_56 ?_
          refine fg_get (C := RX2) (T := TX2) (N := 16) S vu_X2 hK h (fg_p2_0 (by decide)) rfl rfl 1 (by decide) vf_RX3_63 rfl rfl dX3_lot_59 ?_
          refine lv_iload_n hx hb dX3_lot_62 rfl (lv_at hl 1 rfl) ?_
          refine lv_iload_n hx hb dX3_lot_63 rfl (lv_at hl 3 rfl) ?_
          obtain ⟨r39, w37, hc38, hf⟩ := fg_biE hf
          refine fg_ci h (fg_runS (rest := []) S hK h (c_X3_exchange l D g 2 0 2 10 a1 a3 (fg_p2_2 (by decide)) (fun _ => rfl) w19 r39 w37 hc38) vk_X3_exchange vm_RX3_59 vs_X3_exchange vi_RX3 vd_X3_exchange.2 ⟨by decide, by decide⟩ rfl hl.1 rfl (Nat.le_of_ble_eq_true rfl) dX3_lot_64 ⟨Nat.zero_le _, Nat.zero_le _⟩) (fun H locs h => ?_)
          exact fg_reti hx hb hr hlk hK h hf dX3_lot_67
    · have hf := fg_ifT hf hc
      refine lv_iload_n hx hb dX3_lot_17 rfl (lv_at hl 3 rfl) ?_
      refine lv_iconst (v := 0) hx hb dX3_lot_18 rfl ?_
      refine lv_bipush (v := 99) hx hb dX3_lot_19 rfl ?_
      obtain ⟨r42, w40, hc41, hf⟩ := fg_biE hf
      refine fg_ci h (fg_runS (rest := []) S hK h (c_X3_within l D g a3 0 99  w1 r42 w40 hc41) vk_X3_within vm_RX3_52 vs_X3_within vi_RX3 vd_X3_within.2 ⟨by decide, by decide⟩ rfl hl.1 rfl (Nat.le_of_ble_eq_true rfl) dX3_lot_21 ⟨Nat.zero_le _, Nat.zero_le _⟩) (fun H locs h => ?_)
      refine lv_if_eq (tgt := 40) hx hb dX3_lot_24 (by decide) (fun hc => ?_) (fun hc => ?_)
      · have hf := fg_ifT hf hc
        refine lv_iload_n hx hb dX3_lot_40 rfl (lv_at hl 2 rfl) ?_
        refine lv_iconst (v := 1) hx hb dX3_lot_41 rfl ?_
        refine lv_icmp_ne (tgt := 68) hx hb dX3_lot_42 (by decide) (fun hc => ?_) (fun hc => ?_)
        · have hf := fg_ifF hf hc
          refine lv_iload_n hx hb dX3_lot_68 rfl (lv_at hl 2 rfl) ?_
          refine lv_iconst (v := 2) hx hb dX3_lot_69 rfl ?_
          refine lv_icmp_ne (tgt := 102) hx hb dX3_lot_70 (by decide) (fun hc => ?_) (fun hc => ?_)
          · have hf := fg_ifF hf hc
            refine lv_aload_n hx hb dX3_lot_102 rfl (lv_at hl 0 rfl) ?_
            refine lv_iconst (v := 0) hx hb dX3_lot_103 rfl ?_
            obtain ⟨r45, w43, hc44, hf⟩ := fg_biE hf
            refine fg_ci h (fg_runV (rest := []) S hK h (c_X3_finding l D g 0  w40 r45 w43 hc44) vg_RX3_48 vd_X3_finding ⟨by decide, by decide⟩ fg_p3_0 rfl rfl rfl hl.1 rfl (Nat.le_of_ble_eq_true rfl) dX3_lot_104 ⟨Nat.zero_le _, Nat.zero_le _⟩) (fun H locs h => ?_)
            exact fg_reti hx hb hr hlk hK h hf dX3_lot_107
          · have hf := fg_ifT hf hc
            refine lv_iload_n hx hb dX3_lot_73 rfl (lv_at hl 3 rfl) ?_
            refine lv_iconst (v := (-1)) hx hb dX3_lot_74 rfl ?_
            refine lv_icmp_eq (tgt := 89) hx hb dX3_lot_75 (by decide) (fun hc => ?_) (fun hc => ?_)
            · have hf := fg_ifT hf hc
              refine lv_aload_n hx hb dX3_lot_89 rfl (lv_at hl 0 rfl) ?_
              refine fg_get (C := RX3) (T := TX3) (N := 7) S vu_X3 hK h fg_p3_0 rfl rfl 0 (by decide) vf_RX3_10 rfl rfl dX3_lot_90 ?_
              refine fg_get (C := RX2) (T := TX2) (N := 16) S vu_X2 hK h (fg_p2_0 (by decide)) rfl rfl 2 (by decide) vf_RX3_69 rfl rfl dX3_lot_93 ?_
              refine lv_iload_n hx hb dX3_lot_96 rfl (lv_at hl 1 rfl) ?_
              refine lv_iload_n hx hb dX3_lot_97 rfl (lv_at hl 3 rfl) ?_
              obtain ⟨r48, w46, hc47, hf⟩ := fg_biE hf
              refine fg_ci h (fg_runS (rest := []) S hK h (c_X3_exchange l D g 2 0 3 10 a1 a3 (fg_p2_3 (by decide)) (fun _ => rfl) w40 r48 w46 hc47) vk_X3_exchange vm_RX3_59 vs_X3_exchange vi_RX3 vd_X3_exchange.2 ⟨by decide, by decide⟩ rfl hl.1 rfl (Nat.le_of_ble_eq_true rfl) dX3_lot_98 ⟨Nat.zero_le _, Nat.zero_le _⟩) (fun H locs h => ?_)
              exact fg_reti hx hb hr hlk hK h hf dX3_lot_101
            · have hf := fg_ifF hf hc
              refine lv_aload_n hx hb dX3_lot_78 rfl (lv_at hl 0 rfl) ?_
              refine fg_get (C := RX3) (T := TX3) (N := 7) S vu_X3 hK h fg_p3_0 rfl rfl 0 (by decide) vf_RX3_10 rfl rfl dX3_lot_79 ?_
              refine lv_iload_n hx hb dX3_lot_82 rfl (lv_at hl 3 rfl) ?_
              obtain ⟨r51, w49, hc50, hf⟩ := fg_biE hf
              refine fg_ci h (fg_runV (rest := []) S hK h (c_X2_isPerson l D g 0 a3 (by decide) w40 r51 w49 hc50) vg_RX3_66 vd_X2_isPerson ⟨by decide, by decide⟩ (fg_p2_0 (by decide)) rfl rfl rfl hl.1 rfl (Nat.le_of_ble_eq_true rfl) dX3_lot_83 ⟨Nat.zero_le _, Nat.zero_le _⟩) (fun H locs h => ?_)
              refine lv_if_eq (tgt := 102) hx hb dX3_lot_86 (by decide) (fun hc => ?_) (fun hc => ?_)
              · have hf := fg_ifT hf hc
                refine lv_aload_n hx hb dX3_lot_102 rfl (lv_at hl 0 rfl) ?_
                refine lv_iconst (v := 0) hx hb dX3_lot_103 rfl ?_
                obtain ⟨r54, w52, hc53, hf⟩ := fg_biE hf
                refine fg_ci h (fg_runV (rest := []) S hK h (c_X3_finding l D g 0  w49 r54 w52 hc53) vg_RX3_48 vd_X3_finding ⟨by decide, by decide⟩ fg_p3_0 rfl rfl rfl hl.1 rfl (Nat.le_of_ble_eq_true rfl) dX3_lot_104 ⟨Nat.zero_le _, Nat.zero_le _⟩) (fun H locs h => ?_)
                exact fg_reti hx hb hr hlk hK h hf dX3_lot_107
              · have hf := fg_ifF hf hc
                refine lv_aload_n hx hb dX3_lot_89 rfl (lv_at hl 0 rfl) ?_
                refine fg_get (C := RX3) (T := TX3) (N := 7) S vu_X3 hK h fg_p3_0 rfl rfl 0 (by decide) vf_RX3_10 rfl rfl dX3_lot_90 ?_
                refine fg_get (C := RX2) (T := TX2) (N := 16) S vu_X2 hK h (fg_p2_0 (by decide)) rfl rfl 2 (by decide) vf_RX3_69 rfl rfl dX3_lot_93 ?_
                refine lv_iload_n hx hb dX3_lot_96 rfl (lv_at hl 1 rfl) ?_
                refine lv_iload_n hx hb dX3_lot_97 rfl (lv_at hl 3 rfl) ?_
                obtain ⟨r57, w55, hc56, hf⟩ := fg_biE hf
                refine fg_ci h (fg_runS (rest := []) S hK h (c_X3_exchange l D g 2 0 3 10 a1 a3 (fg_p2_3 (by decide)) (fun _ => rfl) w49 r57 w55 hc56) vk_X3_exchange vm_RX3_59 vs_X3_exchange vi_RX3 vd_X3_exchange.2 ⟨by decide, by decide⟩ rfl hl.1 rfl (Nat.le_of_ble_eq_true rfl) dX3_lot_98 ⟨Nat.zero_le _, Nat.zero_le _⟩) (fun H locs h => ?_)
                exact fg_reti hx hb hr hlk hK h hf dX3_lot_101
        · have hf := fg_ifT hf hc
          refine lv_iload_n hx hb dX3_lot_45 rfl (lv_at hl 3 rfl) ?_
          refine lv_iconst (v := 0) hx hb dX3_lot_46 rfl ?_
          refine lv_bipush (v := 20) hx hb dX3_lot_47 rfl ?_
          obtain ⟨r60, w58, hc59, hf⟩ := fg_biE hf
          refine fg_ci h (fg_runS (rest := []) S hK h (c_X3_within l D g a3 0 20  w40 r60 w58 hc59) vk_X3_within vm_RX3_52 vs_X3_within vi_RX3 vd_X3_within.2 ⟨by decide, by decide⟩ rfl hl.1 rfl (Nat.le_of_ble_eq_true rfl) dX3_lot_49 ⟨Nat.zero_le _, Nat.zero_le _⟩) (fun H locs h => ?_)
          refine lv_if_eq (tgt := 68) hx hb dX3_lot_52 (by decide) (fun hc => ?_) (fun hc => ?_)
          · have hf := fg_ifT hf hc
            refine lv_iload_n hx hb dX3_lot_68 rfl (lv_at hl 2 rfl) ?_
            refine lv_iconst (v := 2) hx hb dX3_lot_69 rfl ?_
            refine lv_icmp_ne (tgt := 102) hx hb dX3_lot_70 (by decide) (fun hc => ?_) (fun hc => ?_)
            · have hf := fg_ifF hf hc
              refine lv_aload_n hx hb dX3_lot_102 rfl (lv_at hl 0 rfl) ?_
              refine lv_iconst (v := 0) hx hb dX3_lot_103 rfl ?_
              obtain ⟨r63, w61, hc62, hf⟩ := fg_biE hf
              refine fg_ci h (fg_runV (rest := []) S hK h (c_X3_finding l D g 0  w58 r63 w61 hc62) vg_RX3_48 vd_X3_finding ⟨by decide, by decide⟩ fg_p3_0 rfl rfl rfl hl.1 rfl (Nat.le_of_ble_eq_true rfl) dX3_lot_104 ⟨Nat.zero_le _, Nat.zero_le _⟩) (fun H locs h => ?_)
              exact fg_reti hx hb hr hlk hK h hf dX3_lot_107
            · have hf := fg_ifT hf hc
              refine lv_iload_n hx hb dX3_lot_73 rfl (lv_at hl 3 rfl) ?_
              refine lv_iconst (v := (-1)) hx hb dX3_lot_74 rfl ?_
              refine lv_icmp_eq (tgt := 89) hx hb dX3_lot_75 (by decide) (fun hc => ?_) (fun hc => ?_)
              · have hf := fg_ifT hf hc
                refine lv_aload_n hx hb dX3_lot_89 rfl (lv_at hl 0 rfl) ?_
                refine fg_get (C := RX3) (T := TX3) (N := 7) S vu_X3 hK h fg_p3_0 rfl rfl 0 (by decide) vf_RX3_10 rfl rfl dX3_lot_90 ?_
                refine fg_get (C := RX2) (T := TX2) (N := 16) S vu_X2 hK h (fg_p2_0 (by decide)) rfl rfl 2 (by decide) vf_RX3_69 rfl rfl dX3_lot_93 ?_
                refine lv_iload_n hx hb dX3_lot_96 rfl (lv_at hl 1 rfl) ?_
                refine lv_iload_n hx hb dX3_lot_97 rfl (lv_at hl 3 rfl) ?_
                obtain ⟨r66, w64, hc65, hf⟩ := fg_biE hf
                refine fg_ci h (fg_runS (rest := []) S hK h (c_X3_exchange l D g 2 0 3 10 a1 a3 (fg_p2_3 (by decide)) (fun _ => rfl) w58 r66 w64 hc65) vk_X3_exchange vm_RX3_59 vs_X3_exchange vi_RX3 vd_X3_exchange.2 ⟨by decide, by decide⟩ rfl hl.1 rfl (Nat.le_of_ble_eq_true rfl) dX3_lot_98 ⟨Nat.zero_le _, Nat.zero_le _⟩) (fun H locs h => ?_)
                exact fg_reti hx hb hr hlk hK h hf dX3_lot_101
              · have hf := fg_ifF hf hc
                refine lv_aload_n hx hb dX3_lot_78 rfl (lv_at hl 0 rfl) ?_
                refine fg_get (C := RX3) (T := TX3) (N := 7) S vu_X3 hK h fg_p3_0 rfl rfl 0 (by decide) vf_RX3_10 rfl rfl dX3_lot_79 ?_
                refine lv_iload_n hx hb dX3_lot_82 rfl (lv_at hl 3 rfl) ?_
                obtain ⟨r69, w67, hc68, hf⟩ := fg_biE hf
                refine fg_ci h (fg_runV (rest := []) S hK h (c_X2_isPerson l D g 0 a3 (by decide) w58 r69 w67 hc68) vg_RX3_66 vd_X2_isPerson ⟨by decide, by decide⟩ (fg_p2_0 (by decide)) rfl rfl rfl hl.1 rfl (Nat.le_of_ble_eq_true rfl) dX3_lot_83 ⟨Nat.zero_le _, Nat.zero_le _⟩) (fun H locs h => ?_)
                refine lv_if_eq (tgt := 102) hx hb dX3_lot_86 (by decide) (fun hc => ?_) (fun hc => ?_)
                · have hf := fg_ifT hf hc
                  refine lv_aload_n hx hb dX3_lot_102 rfl (lv_at hl 0 rfl) ?_
                  refine lv_iconst (v := 0) hx hb dX3_lot_103 rfl ?_
                  obtain ⟨r72, w70, hc71, hf⟩ := fg_biE hf
                  refine fg_ci h (fg_runV (rest := []) S hK h (c_X3_finding l D g 0  w67 r72 w70 hc71) vg_RX3_48 vd_X3_finding ⟨by decide, by decide⟩ fg_p3_0 rfl rfl rfl hl.1 rfl (Nat.le_of_ble_eq_true rfl) dX3_lot_104 ⟨Nat.zero_le _, Nat.zero_le _⟩) (fun H locs h => ?_)
                  exact fg_reti hx hb hr hlk hK h hf dX3_lot_107
                · have hf := fg_ifF hf hc
                  refine lv_aload_n hx hb dX3_lot_89 rfl (lv_at hl 0 rfl) ?_
                  refine fg_get (C := RX3) (T := TX3) (N := 7) S vu_X3 hK h fg_p3_0 rfl rfl 0 (by decide) vf_RX3_10 rfl rfl dX3_lot_90 ?_
                  refine fg_get (C := RX2) (T := TX2) (N := 16) S vu_X2 hK h (fg_p2_0 (by decide)) rfl rfl 2 (by decide) vf_RX3_69 rfl rfl dX3_lot_93 ?_
                  refine lv_iload_n hx hb dX3_lot_96 rfl (lv_at hl 1 rfl) ?_
                  refine lv_iload_n hx hb dX3_lot_97 rfl (lv_at hl 3 rfl) ?_
                  obtain ⟨r75, w73, hc74, hf⟩ := fg_biE hf
                  refine fg_ci h (fg_runS (rest := []) S hK h (c_X3_exchange l D g 2 0 3 10 a1 a3 (fg_p2_3 (by decide)) (fun _ => rfl) w67 r75 w73 hc74) vk_X3_exchange vm_RX3_59 vs_X3_exchange vi_RX3 vd_X3_exchange.2 ⟨by decide, by decide⟩ rfl hl.1 rfl (Nat.le_of_ble_eq_true rfl) dX3_lot_98 ⟨Nat.zero_le _, Nat.zero_le _⟩) (fun H locs h => ?_)
                  exact fg_reti hx hb hr hlk hK h hf dX3_lot_101
          · have hf := fg_ifF hf hc
            refine lv_aload_n hx hb dX3_lot_55 rfl (lv_at hl 0 rfl) ?_
            refine fg_get (C := RX3) (T := TX3) (N := 7) S vu_X3 hK h fg_p3_0 rfl rfl 0 (by decide) vf_RX3_10 rfl rfl dX3_lot_56 ?_
            refine fg_get (C := RX2) (T := TX2) (N := 16) S vu_X2 hK h (fg_p2_0 (by decide)) rfl rfl 1 (by decide) vf_RX3_63 rfl rfl dX3_lot_59 ?_
            refine lv_iload_n hx hb dX3_lot_62 rfl (lv_at hl 1 rfl) ?_
            refine lv_iload_n hx hb dX3_lot_63 rfl (lv_at hl 3 rfl) ?_
            obtain ⟨r78, w76, hc77, hf⟩ := fg_biE hf
            refine fg_ci h (fg_runS (rest := []) S hK h (c_X3_exchange l D g 2 0 2 10 a1 a3 (fg_p2_2 (by decide)) (fun _ => rfl) w58 r78 w76 hc77) vk_X3_exchange vm_RX3_59 vs_X3_exchange vi_RX3 vd_X3_exchange.2 ⟨by decide, by decide⟩ rfl hl.1 rfl (Nat.le_of_ble_eq_true rfl) dX3_lot_64 ⟨Nat.zero_le _, Nat.zero_le _⟩) (fun H locs h => ?_)
            exact fg_reti hx hb hr hlk hK h hf dX3_lot_67
      · have hf := fg_ifF hf hc
        refine lv_aload_n hx hb dX3_lot_27 rfl (lv_at hl 0 rfl) ?_
        refine fg_get (C := RX3) (T := TX3) (N := 7) S vu_X3 hK h fg_p3_0 rfl rfl 0 (by decide) vf_RX3_10 rfl rfl dX3_lot_28 ?_
        refine fg_get (C := RX2) (T := TX2) (N := 16) S vu_X2 hK h (fg_p2_0 (by decide)) rfl rfl 0 (by decide) vf_RX3_56 rfl rfl dX3_lot_31 ?_
        refine lv_iload_n hx hb dX3_lot_34 rfl (lv_at hl 1 rfl) ?_
        refine lv_iload_n hx hb dX3_lot_35 rfl (lv_at hl 3 rfl) ?_
        obtain ⟨r81, w79, hc80, hf⟩ := fg_biE hf
        refine fg_ci h (fg_runS (rest := []) S hK h (c_X3_exchange l D g 2 0 1 10 a1 a3 (fg_p2_1 (by decide)) (fun _ => rfl) w40 r81 w79 hc80) vk_X3_exchange vm_RX3_59 vs_X3_exchange vi_RX3 vd_X3_exchange.2 ⟨by decide, by decide⟩ rfl hl.1 rfl (Nat.le_of_ble_eq_true rfl) dX3_lot_36 ⟨Nat.zero_le _, Nat.zero_le _⟩) (fun H locs h => ?_)
        exact fg_reti hx hb hr hlk hK h hf dX3_lot_39
  · have hf := fg_ifT hf hc
    refine lv_aload_n hx hb dX3_lot_7 rfl (lv_at hl 0 rfl) ?_
    refine lv_iconst (v := 0) hx hb dX3_lot_8 rfl ?_
    obtain ⟨r84, w82, hc83, hf⟩ := fg_biE hf
    refine fg_ci h (fg_runV (rest := []) S hK h (c_X3_finding l D g 0  w1 r84 w82 hc83) vg_RX3_48 vd_X3_finding ⟨by decide, by decide⟩ fg_p3_0 rfl rfl rfl hl.1 rfl (Nat.le_of_ble_eq_true rfl) dX3_lot_9 ⟨Nat.zero_le _, Nat.zero_le _⟩) (fun H locs h => ?_)
    exact fg_reti hx hb hr hlk hK h hf dX3_lot_12
set_option maxHeartbeats 4000000 in
set_option maxRecDepth 100000 in
theorem c_X3_lotOf (l : Launch) (D : va_G) (g : fg_G) (a1 : Int32) (a2 : Int32) (w : fg_W) (r : Int32) (w' : fg_W) (hf : f_X3_lotOf a1 a2 w = some (r, w')) : fg_M l yX3_lotOf cX3_lotOf 3 (some .int) 3 71 D g [.ref (g.1 3 0 0), .int a1, .int a2] w (fg_Qi D g r w') := by
  refine fg_M.of rfl (Nat.le_of_ble_eq_true rfl) (fun p e s m below meth c ls S hr hlk hK h hl => ?_)
  have hx := S.1
  have hb := S.2.1
  have hl : lv_has ls 3 [(0, .ref (g.1 3 0 0)), (1, .int a1), (2, .int a2)] := hl
  unfold f_X3_lotOf at hf
  refine lv_iload_n hx hb dX3_lotOf_0 rfl (lv_at hl 1 rfl) ?_
  obtain ⟨r3, w1, hc2, hf⟩ := fg_biE hf
  refine fg_ci h (fg_runS (rest := []) S hK h (c_X3_isLot l D g a1  w r3 w1 hc2) vk_X3_isLot vm_RX3_44 vs_X3_isLot vi_RX3 vd_X3_isLot.2 ⟨by decide, by decide⟩ rfl hl.1 rfl (Nat.le_of_ble_eq_true rfl) dX3_lotOf_1 ⟨Nat.zero_le _, Nat.zero_le _⟩) (fun H locs h => ?_)
  refine lv_if_ne (tgt := 13) hx hb dX3_lotOf_4 (by decide) (fun hc => ?_) (fun hc => ?_)
  · have hf := fg_ifF hf hc
    refine lv_iload_n hx hb dX3_lotOf_13 rfl (lv_at hl 2 rfl) ?_
    by_cases hq14_0 : a2 = 0
    · refine lv_tableIn (tgt := 48) hx hb dX3_lotOf_14 (by rw [hq14_0]; decide) (by rw [hq14_0]; decide) (off := 34) (by rw [hq14_0]; rfl) (by decide) ?_
      have hf := fg_ifT hf hq14_0
      refine lv_aload_n hx hb dX3_lotOf_48 rfl (lv_at hl 0 rfl) ?_
      refine fg_get (C := RX3) (T := TX3) (N := 7) S vu_X3 hK h fg_p3_0 rfl rfl 0 (by decide) vf_RX3_10 rfl rfl dX3_lotOf_49 ?_
      refine fg_get (C := RX2) (T := TX2) (N := 16) S vu_X2 hK h (fg_p2_0 (by decide)) rfl rfl 0 (by decide) vf_RX3_56 rfl rfl dX3_lotOf_52 ?_
      refine lv_iload_n hx hb dX3_lotOf_55 rfl (lv_at hl 1 rfl) ?_
      obtain ⟨hn4, hf⟩ := fg_gdE hf
      refine fg_iald hx hb hK h (fg_p2_1 (by decide)) (fun _ => rfl) hn4 dX3_lotOf_56 ?_
      exact fg_reti hx hb hr hlk hK h hf dX3_lotOf_57
    have hf := fg_ifF hf hq14_0
    by_cases hq14_1 : a2 = 1
    · refine lv_tableIn (tgt := 58) hx hb dX3_lotOf_14 (by rw [hq14_1]; decide) (by rw [hq14_1]; decide) (off := 44) (by rw [hq14_1]; rfl) (by decide) ?_
      have hf := fg_ifT hf hq14_1
      refine lv_aload_n hx hb dX3_lotOf_58 rfl (lv_at hl 0 rfl) ?_
      refine fg_get (C := RX3) (T := TX3) (N := 7) S vu_X3 hK h fg_p3_0 rfl rfl 0 (by decide) vf_RX3_10 rfl rfl dX3_lotOf_59 ?_
      refine fg_get (C := RX2) (T := TX2) (N := 16) S vu_X2 hK h (fg_p2_0 (by decide)) rfl rfl 1 (by decide) vf_RX3_63 rfl rfl dX3_lotOf_62 ?_
      refine lv_iload_n hx hb dX3_lotOf_65 rfl (lv_at hl 1 rfl) ?_
      obtain ⟨hn5, hf⟩ := fg_gdE hf
      refine fg_iald hx hb hK h (fg_p2_2 (by decide)) (fun _ => rfl) hn5 dX3_lotOf_66 ?_
      exact fg_reti hx hb hr hlk hK h hf dX3_lotOf_67
    have hf := fg_ifF hf hq14_1
    by_cases hq14_2 : a2 = 2
    · refine lv_tableIn (tgt := 68) hx hb dX3_lotOf_14 (by rw [hq14_2]; decide) (by rw [hq14_2]; decide) (off := 54) (by rw [hq14_2]; rfl) (by decide) ?_
      have hf := fg_ifT hf hq14_2
      refine lv_aload_n hx hb dX3_lotOf_68 rfl (lv_at hl 0 rfl) ?_
      refine fg_get (C := RX3) (T := TX3) (N := 7) S vu_X3 hK h fg_p3_0 rfl rfl 0 (by decide) vf_RX3_10 rfl rfl dX3_lotOf_69 ?_
      refine fg_get (C := RX2) (T := TX2) (N := 16) S vu_X2 hK h (fg_p2_0 (by decide)) rfl rfl 2 (by decide) vf_RX3_69 rfl rfl dX3_lotOf_72 ?_
      refine lv_iload_n hx hb dX3_lotOf_75 rfl (lv_at hl 1 rfl) ?_
      obtain ⟨hn6, hf⟩ := fg_gdE hf
      refine fg_iald hx hb hK h (fg_p2_3 (by decide)) (fun _ => rfl) hn6 dX3_lotOf_76 ?_
      exact fg_reti hx hb hr hlk hK h hf dX3_lotOf_77
    have hf := fg_ifF hf hq14_2
    by_cases hq14_3 : a2 = 3
    · refine lv_tableIn (tgt := 78) hx hb dX3_lotOf_14 (by rw [hq14_3]; decide) (by rw [hq14_3]; decide) (off := 64) (by rw [hq14_3]; rfl) (by decide) ?_
      have hf := fg_ifT hf hq14_3
      refine lv_aload_n hx hb dX3_lotOf_78 rfl (lv_at hl 0 rfl) ?_
      refine fg_get (C := RX3) (T := TX3) (N := 7) S vu_X3 hK h fg_p3_0 rfl rfl 0 (by decide) vf_RX3_10 rfl rfl dX3_lotOf_79 ?_
      refine lv_iload_n hx hb dX3_lotOf_82 rfl (lv_at hl 1 rfl) ?_
      obtain ⟨r9, w7, hc8, hf⟩ := fg_biE hf
      refine fg_ci h (fg_runV (rest := []) S hK h (c_X2_thoseOn l D g 0 a1 (by decide) w1 r9 w7 hc8) vg_RX3_72 vd_X2_thoseOn ⟨by decide, by decide⟩ (fg_p2_0 (by decide)) rfl rfl rfl hl.1 rfl (Nat.le_of_ble_eq_true rfl) dX3_lotOf_83 ⟨Nat.zero_le _, Nat.zero_le _⟩) (fun H locs h => ?_)
      exact fg_reti hx hb hr hlk hK h hf dX3_lotOf_86
    have hf := fg_ifF hf hq14_3
    by_cases hq14_4 : a2 = 4
    · refine lv_tableIn (tgt := 87) hx hb dX3_lotOf_14 (by rw [hq14_4]; decide) (by rw [hq14_4]; decide) (off := 73) (by rw [hq14_4]; rfl) (by decide) ?_
      have hf := fg_ifT hf hq14_4
      refine lv_aload_n hx hb dX3_lotOf_87 rfl (lv_at hl 0 rfl) ?_
      refine fg_get (C := RX3) (T := TX3) (N := 7) S vu_X3 hK h fg_p3_0 rfl rfl 0 (by decide) vf_RX3_10 rfl rfl dX3_lotOf_88 ?_
      refine lv_iload_n hx hb dX3_lotOf_91 rfl (lv_at hl 1 rfl) ?_
      obtain ⟨r12, w10, hc11, hf⟩ := fg_biE hf
      refine fg_ci h (fg_runV (rest := []) S hK h (c_X2_thoseStanding l D g 0 a1 (by decide) w1 r12 w10 hc11) vg_RX3_75 vd_X2_thoseStanding ⟨by decide, by decide⟩ (fg_p2_0 (by decide)) rfl rfl rfl hl.1 rfl (Nat.le_of_ble_eq_true rfl) dX3_lotOf_92 ⟨Nat.zero_le _, Nat.zero_le _⟩) (fun H locs h => ?_)
      exact fg_reti hx hb hr hlk hK h hf dX3_lotOf_95
    have hf := fg_ifF hf hq14_4
    refine lv_tableOut (tgt := 96) hx hb dX3_lotOf_14 (by have := lv_neT hq14_0 (show (0 : Int32).toInt = 0 from rfl); have := lv_neT hq14_1 (show (1 : Int32).toInt = 1 from rfl); have := lv_neT hq14_2 (show (2 : Int32).toInt = 2 from rfl); have := lv_neT hq14_3 (show (3 : Int32).toInt = 3 from rfl); have := lv_neT hq14_4 (show (4 : Int32).toInt = 4 from rfl); omega) (by decide) ?_
    refine lv_aload_n hx hb dX3_lotOf_96 rfl (lv_at hl 0 rfl) ?_
    refine lv_iconst (v := 0) hx hb dX3_lotOf_97 rfl ?_
    obtain ⟨r15, w13, hc14, hf⟩ := fg_biE hf
    refine fg_ci h (fg_runV (rest := []) S hK h (c_X3_finding l D g 0  w1 r15 w13 hc14) vg_RX3_48 vd_X3_finding ⟨by decide, by decide⟩ fg_p3_0 rfl rfl rfl hl.1 rfl (Nat.le_of_ble_eq_true rfl) dX3_lotOf_98 ⟨Nat.zero_le _, Nat.zero_le _⟩) (fun H locs h => ?_)
    exact fg_reti hx hb hr hlk hK h hf dX3_lotOf_101
  · have hf := fg_ifT hf hc
    refine lv_aload_n hx hb dX3_lotOf_7 rfl (lv_at hl 0 rfl) ?_
    refine lv_iconst (v := 0) hx hb dX3_lotOf_8 rfl ?_
    obtain ⟨r18, w16, hc17, hf⟩ := fg_biE hf
    refine fg_ci h (fg_runV (rest := []) S hK h (c_X3_finding l D g 0  w1 r18 w16 hc17) vg_RX3_48 vd_X3_finding ⟨by decide, by decide⟩ fg_p3_0 rfl rfl rfl hl.1 rfl (Nat.le_of_ble_eq_true rfl) dX3_lotOf_9 ⟨Nat.zero_le _, Nat.zero_le _⟩) (fun H locs h => ?_)
    exact fg_reti hx hb hr hlk hK h hf dX3_lotOf_12
set_option maxHeartbeats 4000000 in
set_option maxRecDepth 100000 in
theorem c_X3_sun (l : Launch) (D : va_G) (g : fg_G) (a1 : Int32) (a2 : Int32) (w : fg_W) (r : Int32) (w' : fg_W) (hf : f_X3_sun a1 a2 w = some (r, w')) : fg_M l yX3_sun cX3_sun 3 (some .int) 1 23 D g [.ref (g.1 3 0 0), .int a1, .int a2] w (fg_Qi D g r w') := by
  refine fg_M.of rfl (Nat.le_of_ble_eq_true rfl) (fun p e s m below meth c ls S hr hlk hK h hl => ?_)
  have hx := S.1
  have hb := S.2.1
  have hl : lv_has ls 3 [(0, .ref (g.1 3 0 0)), (1, .int a1), (2, .int a2)] := hl
  unfold f_X3_sun at hf
  refine lv_iload_n hx hb dX3_sun_0 rfl (lv_at hl 1 rfl) ?_
  refine lv_iconst (v := 0) hx hb dX3_sun_1 rfl ?_
  refine lv_iconst (v := 5) hx hb dX3_sun_2 rfl ?_
  obtain ⟨r3, w1, hc2, hf⟩ := fg_biE hf
  refine fg_ci h (fg_runS (rest := []) S hK h (c_X3_within l D g a1 0 5  w r3 w1 hc2) vk_X3_within vm_RX3_52 vs_X3_within vi_RX3 vd_X3_within.2 ⟨by decide, by decide⟩ rfl hl.1 rfl (Nat.le_of_ble_eq_true rfl) dX3_sun_3 ⟨Nat.zero_le _, Nat.zero_le _⟩) (fun H locs h => ?_)
  refine lv_if_eq (tgt := 19) hx hb dX3_sun_6 (by decide) (fun hc => ?_) (fun hc => ?_)
  · have hf := fg_ifT hf hc
    refine lv_aload_n hx hb dX3_sun_19 rfl (lv_at hl 0 rfl) ?_
    refine lv_iconst (v := 0) hx hb dX3_sun_20 rfl ?_
    obtain ⟨r6, w4, hc5, hf⟩ := fg_biE hf
    refine fg_ci h (fg_runV (rest := []) S hK h (c_X3_finding l D g 0  w1 r6 w4 hc5) vg_RX3_48 vd_X3_finding ⟨by decide, by decide⟩ fg_p3_0 rfl rfl rfl hl.1 rfl (Nat.le_of_ble_eq_true rfl) dX3_sun_21 ⟨Nat.zero_le _, Nat.zero_le _⟩) (fun H locs h => ?_)
    exact fg_reti hx hb hr hlk hK h hf dX3_sun_24
  · have hf := fg_ifF hf hc
    refine lv_iload_n hx hb dX3_sun_9 rfl (lv_at hl 2 rfl) ?_
    refine lv_iconst (v := 0) hx hb dX3_sun_10 rfl ?_
    refine lv_bipush (v := 40) hx hb dX3_sun_11 rfl ?_
    obtain ⟨r9, w7, hc8, hf⟩ := fg_biE hf
    refine fg_ci h (fg_runS (rest := []) S hK h (c_X3_within l D g a2 0 40  w1 r9 w7 hc8) vk_X3_within vm_RX3_52 vs_X3_within vi_RX3 vd_X3_within.2 ⟨by decide, by decide⟩ rfl hl.1 rfl (Nat.le_of_ble_eq_true rfl) dX3_sun_13 ⟨Nat.zero_le _, Nat.zero_le _⟩) (fun H locs h => ?_)
    refine lv_if_ne (tgt := 25) hx hb dX3_sun_16 (by decide) (fun hc => ?_) (fun hc => ?_)
    · have hf := fg_ifF hf hc
      refine lv_aload_n hx hb dX3_sun_25 rfl (lv_at hl 0 rfl) ?_
      refine fg_get (C := RX3) (T := TX3) (N := 7) S vu_X3 hK h fg_p3_0 rfl rfl 0 (by decide) vf_RX3_10 rfl rfl dX3_sun_26 ?_
      refine fg_get (C := RX2) (T := TX2) (N := 16) S vu_X2 hK h (fg_p2_0 (by decide)) rfl rfl 3 (by decide) vf_RX3_78 rfl rfl dX3_sun_29 ?_
      refine lv_iload_n hx hb dX3_sun_32 rfl (lv_at hl 1 rfl) ?_
      refine lv_iload_n hx hb dX3_sun_33 rfl (lv_at hl 2 rfl) ?_
      obtain ⟨r12, w10, hc11, hf⟩ := fg_biE hf
      refine fg_ci h (fg_runS (rest := []) S hK h (c_X3_exchange l D g 2 0 4 6 a1 a2 (fg_p2_4 (by decide)) (fun _ => rfl) w7 r12 w10 hc11) vk_X3_exchange vm_RX3_59 vs_X3_exchange vi_RX3 vd_X3_exchange.2 ⟨by decide, by decide⟩ rfl hl.1 rfl (Nat.le_of_ble_eq_true rfl) dX3_sun_34 ⟨Nat.zero_le _, Nat.zero_le _⟩) (fun H locs h => ?_)
      exact fg_reti hx hb hr hlk hK h hf dX3_sun_37
    · have hf := fg_ifT hf hc
      refine lv_aload_n hx hb dX3_sun_19 rfl (lv_at hl 0 rfl) ?_
      refine lv_iconst (v := 0) hx hb dX3_sun_20 rfl ?_
      obtain ⟨r15, w13, hc14, hf⟩ := fg_biE hf
      refine fg_ci h (fg_runV (rest := []) S hK h (c_X3_finding l D g 0  w7 r15 w13 hc14) vg_RX3_48 vd_X3_finding ⟨by decide, by decide⟩ fg_p3_0 rfl rfl rfl hl.1 rfl (Nat.le_of_ble_eq_true rfl) dX3_sun_21 ⟨Nat.zero_le _, Nat.zero_le _⟩) (fun H locs h => ?_)
      exact fg_reti hx hb hr hlk hK h hf dX3_sun_24
set_option maxHeartbeats 4000000 in
set_option maxRecDepth 100000 in
theorem c_X3_mist (l : Launch) (D : va_G) (g : fg_G) (a1 : Int32) (w : fg_W) (r : Int32) (w' : fg_W) (hf : f_X3_mist a1 w = some (r, w')) : fg_M l yX3_mist cX3_mist 3 (some .int) 1 22 D g [.ref (g.1 3 0 0), .int a1] w (fg_Qi D g r w') := by
  refine fg_M.of rfl (Nat.le_of_ble_eq_true rfl) (fun p e s m below meth c ls S hr hlk hK h hl => ?_)
  have hx := S.1
  have hb := S.2.1
  have hl : lv_has ls 3 [(0, .ref (g.1 3 0 0)), (1, .int a1)] := hl
  unfold f_X3_mist at hf
  refine lv_iload_n hx hb dX3_mist_0 rfl (lv_at hl 1 rfl) ?_
  refine lv_iconst (v := 0) hx hb dX3_mist_1 rfl ?_
  refine lv_bipush (v := 40) hx hb dX3_mist_2 rfl ?_
  obtain ⟨r3, w1, hc2, hf⟩ := fg_biE hf
  refine fg_ci h (fg_runS (rest := []) S hK h (c_X3_within l D g a1 0 40  w r3 w1 hc2) vk_X3_within vm_RX3_52 vs_X3_within vi_RX3 vd_X3_within.2 ⟨by decide, by decide⟩ rfl hl.1 rfl (Nat.le_of_ble_eq_true rfl) dX3_mist_4 ⟨Nat.zero_le _, Nat.zero_le _⟩) (fun H locs h => ?_)
  refine lv_if_ne (tgt := 16) hx hb dX3_mist_7 (by decide) (fun hc => ?_) (fun hc => ?_)
  · have hf := fg_ifF hf hc
    refine lv_aload_n hx hb dX3_mist_16 rfl (lv_at hl 0 rfl) ?_
    refine fg_get (C := RX3) (T := TX3) (N := 7) S vu_X3 hK h fg_p3_0 rfl rfl 0 (by decide) vf_RX3_10 rfl rfl dX3_mist_17 ?_
    refine fg_get (C := RX2) (T := TX2) (N := 16) S vu_X2 hK h (fg_p2_0 (by decide)) rfl rfl 4 (by decide) vf_RX3_81 rfl rfl dX3_mist_20 ?_
    refine lv_topi (fun x4 e_x4 => ?_)
    have hf := fg_letE e_x4 hf
    refine lv_istore_n (lv' := [(2, .int x4), (0, .ref (g.1 3 0 0)), (1, .int a1)]) hx hb dX3_mist_23 rfl hl (by decide) rfl (fun ls hl => ?_)
    refine lv_aload_n hx hb dX3_mist_24 rfl (lv_at hl 1 rfl) ?_
    refine fg_get (C := RX3) (T := TX3) (N := 7) S vu_X3 hK h fg_p3_0 rfl rfl 0 (by decide) vf_RX3_10 rfl rfl dX3_mist_25 ?_
    refine lv_iload_n hx hb dX3_mist_28 rfl (lv_at hl 2 rfl) ?_
    refine fg_putI (C := RX2) (T := TX2) (N := 16) (fs := (fg_f2 g 0)) S vu_X2 tyX2 tyX2_ok nmX2 hK h (fg_p2_0 (by decide)) (fun _ _ => rfl) rfl 4 (by decide) vf_RX3_81 rfl rfl (tyX2_ok 4 (by decide)) rfl rfl (fun _ => Nat.le_of_ble_eq_true rfl) (fun _ => rfl) dX3_mist_29 (fun w5 H locs ew h => ?_)
    have hf := fg_letE ew hf
    refine lv_iload_n hx hb dX3_mist_32 rfl (lv_at hl 0 rfl) ?_
    exact fg_reti hx hb hr hlk hK h hf dX3_mist_33
  · have hf := fg_ifT hf hc
    refine lv_aload_n hx hb dX3_mist_10 rfl (lv_at hl 0 rfl) ?_
    refine lv_iconst (v := 0) hx hb dX3_mist_11 rfl ?_
    obtain ⟨r8, w6, hc7, hf⟩ := fg_biE hf
    refine fg_ci h (fg_runV (rest := []) S hK h (c_X3_finding l D g 0  w1 r8 w6 hc7) vg_RX3_48 vd_X3_finding ⟨by decide, by decide⟩ fg_p3_0 rfl rfl rfl hl.1 rfl (Nat.le_of_ble_eq_true rfl) dX3_mist_12 ⟨Nat.zero_le _, Nat.zero_le _⟩) (fun H locs h => ?_)
    exact fg_reti hx hb hr hlk hK h hf dX3_mist_15
set_option maxHeartbeats 4000000 in
set_option maxRecDepth 100000 in
theorem c_X3_person (l : Launch) (D : va_G) (g : fg_G) (a1 : Int32) (w : fg_W) (r : Int32) (w' : fg_W) (hf : f_X3_person a1 w = some (r, w')) : fg_M l yX3_person cX3_person 2 (some .int) 1 22 D g [.ref (g.1 3 0 0), .int a1] w (fg_Qi D g r w') := by
  refine fg_M.of rfl (Nat.le_of_ble_eq_true rfl) (fun p e s m below meth c ls S hr hlk hK h hl => ?_)
  have hx := S.1
  have hb := S.2.1
  have hl : lv_has ls 2 [(0, .ref (g.1 3 0 0)), (1, .int a1)] := hl
  unfold f_X3_person at hf
  refine lv_iload_n hx hb dX3_person_0 rfl (lv_at hl 1 rfl) ?_
  obtain ⟨r3, w1, hc2, hf⟩ := fg_biE hf
  refine fg_ci h (fg_runS (rest := []) S hK h (c_X3_isKind l D g a1  w r3 w1 hc2) vk_X3_isKind vm_RX3_85 vs_X3_isKind vi_RX3 vd_X3_isKind.2 ⟨by decide, by decide⟩ rfl hl.1 rfl (Nat.le_of_ble_eq_true rfl) dX3_person_1 ⟨Nat.zero_le _, Nat.zero_le _⟩) (fun H locs h => ?_)
  refine lv_if_ne (tgt := 13) hx hb dX3_person_4 (by decide) (fun hc => ?_) (fun hc => ?_)
  · have hf := fg_ifF hf hc
    refine lv_aload_n hx hb dX3_person_13 rfl (lv_at hl 0 rfl) ?_
    refine fg_get (C := RX3) (T := TX3) (N := 7) S vu_X3 hK h fg_p3_0 rfl rfl 0 (by decide) vf_RX3_10 rfl rfl dX3_person_14 ?_
    refine fg_get (C := RX2) (T := TX2) (N := 16) S vu_X2 hK h (fg_p2_0 (by decide)) rfl rfl 5 (by decide) vf_RX3_88 rfl rfl dX3_person_17 ?_
    refine lv_bipush (v := 8) hx hb dX3_person_20 rfl ?_
    refine lv_icmp_lt (tgt := 31) hx hb dX3_person_22 (by decide) (fun hc => ?_) (fun hc => ?_)
    · have hf := fg_ifT hf hc
      refine lv_aload_n hx hb dX3_person_31 rfl (lv_at hl 0 rfl) ?_
      refine fg_get (C := RX3) (T := TX3) (N := 7) S vu_X3 hK h fg_p3_0 rfl rfl 0 (by decide) vf_RX3_10 rfl rfl dX3_person_32 ?_
      refine lv_iload_n hx hb dX3_person_35 rfl (lv_at hl 1 rfl) ?_
      obtain ⟨r6, w4, hc5, hf⟩ := fg_biE hf
      refine fg_ci h (fg_runV (rest := []) S hK h (c_X2_add l D g 0 a1 (by decide) w1 r6 w4 hc5) vg_RX3_91 vd_X2_add ⟨by decide, by decide⟩ (fg_p2_0 (by decide)) rfl rfl rfl hl.1 rfl (Nat.le_of_ble_eq_true rfl) dX3_person_36 ⟨Nat.zero_le _, Nat.zero_le _⟩) (fun H locs h => ?_)
      exact fg_reti hx hb hr hlk hK h hf dX3_person_39
    · have hf := fg_ifF hf hc
      refine lv_aload_n hx hb dX3_person_25 rfl (lv_at hl 0 rfl) ?_
      refine lv_iconst (v := 1) hx hb dX3_person_26 rfl ?_
      obtain ⟨r9, w7, hc8, hf⟩ := fg_biE hf
      refine fg_ci h (fg_runV (rest := []) S hK h (c_X3_finding l D g 1  w1 r9 w7 hc8) vg_RX3_48 vd_X3_finding ⟨by decide, by decide⟩ fg_p3_0 rfl rfl rfl hl.1 rfl (Nat.le_of_ble_eq_true rfl) dX3_person_27 ⟨Nat.zero_le _, Nat.zero_le _⟩) (fun H locs h => ?_)
      exact fg_reti hx hb hr hlk hK h hf dX3_person_30
  · have hf := fg_ifT hf hc
    refine lv_aload_n hx hb dX3_person_7 rfl (lv_at hl 0 rfl) ?_
    refine lv_iconst (v := 0) hx hb dX3_person_8 rfl ?_
    obtain ⟨r12, w10, hc11, hf⟩ := fg_biE hf
    refine fg_ci h (fg_runV (rest := []) S hK h (c_X3_finding l D g 0  w1 r12 w10 hc11) vg_RX3_48 vd_X3_finding ⟨by decide, by decide⟩ fg_p3_0 rfl rfl rfl hl.1 rfl (Nat.le_of_ble_eq_true rfl) dX3_person_9 ⟨Nat.zero_le _, Nat.zero_le _⟩) (fun H locs h => ?_)
    exact fg_reti hx hb hr hlk hK h hf dX3_person_12
set_option maxHeartbeats 4000000 in
set_option maxRecDepth 100000 in
theorem c_X3_of (l : Launch) (D : va_G) (g : fg_G) (a1 : Int32) (a2 : Int32) (w : fg_W) (r : Int32) (w' : fg_W) (hf : f_X3_of a1 a2 w = some (r, w')) : fg_M l yX3_of cX3_of 3 (some .int) 3 71 D g [.ref (g.1 3 0 0), .int a1, .int a2] w (fg_Qi D g r w') := by
  refine fg_M.of rfl (Nat.le_of_ble_eq_true rfl) (fun p e s m below meth c ls S hr hlk hK h hl => ?_)
  have hx := S.1
  have hb := S.2.1
  have hl : lv_has ls 3 [(0, .ref (g.1 3 0 0)), (1, .int a1), (2, .int a2)] := hl
  unfold f_X3_of at hf
  refine lv_aload_n hx hb dX3_of_0 rfl (lv_at hl 0 rfl) ?_
  refine fg_get (C := RX3) (T := TX3) (N := 7) S vu_X3 hK h fg_p3_0 rfl rfl 0 (by decide) vf_RX3_10 rfl rfl dX3_of_1 ?_
  refine lv_iload_n hx hb dX3_of_4 rfl (lv_at hl 1 rfl) ?_
  obtain ⟨r3, w1, hc2, hf⟩ := fg_biE hf
  refine fg_ci h (fg_runV (rest := []) S hK h (c_X2_isPerson l D g 0 a1 (by decide) w r3 w1 hc2) vg_RX3_66 vd_X2_isPerson ⟨by decide, by decide⟩ (fg_p2_0 (by decide)) rfl rfl rfl hl.1 rfl (Nat.le_of_ble_eq_true rfl) dX3_of_5 ⟨Nat.zero_le _, Nat.zero_le _⟩) (fun H locs h => ?_)
  refine lv_if_ne (tgt := 17) hx hb dX3_of_8 (by decide) (fun hc => ?_) (fun hc => ?_)
  · have hf := fg_ifF hf hc
    refine lv_iload_n hx hb dX3_of_17 rfl (lv_at hl 2 rfl) ?_
    by_cases hq18_0 : a2 = 0
    · refine lv_tableIn (tgt := 64) hx hb dX3_of_18 (by rw [hq18_0]; decide) (by rw [hq18_0]; decide) (off := 46) (by rw [hq18_0]; rfl) (by decide) ?_
      have hf := fg_ifT hf hq18_0
      refine lv_aload_n hx hb dX3_of_64 rfl (lv_at hl 0 rfl) ?_
      refine fg_get (C := RX3) (T := TX3) (N := 7) S vu_X3 hK h fg_p3_0 rfl rfl 0 (by decide) vf_RX3_10 rfl rfl dX3_of_65 ?_
      refine fg_get (C := RX2) (T := TX2) (N := 16) S vu_X2 hK h (fg_p2_0 (by decide)) rfl rfl 6 (by decide) vf_RX3_94 rfl rfl dX3_of_68 ?_
      refine lv_iload_n hx hb dX3_of_71 rfl (lv_at hl 1 rfl) ?_
      obtain ⟨hn4, hf⟩ := fg_gdE hf
      refine fg_iald hx hb hK h (fg_p2_5 (by decide)) (fun _ => rfl) hn4 dX3_of_72 ?_
      exact fg_reti hx hb hr hlk hK h hf dX3_of_73
    have hf := fg_ifF hf hq18_0
    by_cases hq18_1 : a2 = 1
    · refine lv_tableIn (tgt := 105) hx hb dX3_of_18 (by rw [hq18_1]; decide) (by rw [hq18_1]; decide) (off := 87) (by rw [hq18_1]; rfl) (by decide) ?_
      have hf := fg_ifT hf hq18_1
      refine lv_iload_n hx hb dX3_of_105 rfl (lv_at hl 2 rfl) ?_
      refine lv_iconst (v := 1) hx hb dX3_of_106 rfl ?_
      refine lv_iconst (v := 4) hx hb dX3_of_107 rfl ?_
      obtain ⟨r7, w5, hc6, hf⟩ := fg_biE hf
      refine fg_ci h (fg_runS (rest := []) S hK h (c_X3_within l D g a2 1 4  w1 r7 w5 hc6) vk_X3_within vm_RX3_52 vs_X3_within vi_RX3 vd_X3_within.2 ⟨by decide, by decide⟩ rfl hl.1 rfl (Nat.le_of_ble_eq_true rfl) dX3_of_108 ⟨Nat.zero_le _, Nat.zero_le _⟩) (fun H locs h => ?_)
      refine lv_if_eq (tgt := 126) hx hb dX3_of_111 (by decide) (fun hc => ?_) (fun hc => ?_)
      · have hf := fg_ifT hf hc
        refine lv_aload_n hx hb dX3_of_126 rfl (lv_at hl 0 rfl) ?_
        refine lv_iconst (v := 0) hx hb dX3_of_127 rfl ?_
        obtain ⟨r10, w8, hc9, hf⟩ := fg_biE hf
        refine fg_ci h (fg_runV (rest := []) S hK h (c_X3_finding l D g 0  w5 r10 w8 hc9) vg_RX3_48 vd_X3_finding ⟨by decide, by decide⟩ fg_p3_0 rfl rfl rfl hl.1 rfl (Nat.le_of_ble_eq_true rfl) dX3_of_128 ⟨Nat.zero_le _, Nat.zero_le _⟩) (fun H locs h => ?_)
        exact fg_reti hx hb hr hlk hK h hf dX3_of_131
      · have hf := fg_ifF hf hc
        refine lv_aload_n hx hb dX3_of_114 rfl (lv_at hl 0 rfl) ?_
        refine fg_get (C := RX3) (T := TX3) (N := 7) S vu_X3 hK h fg_p3_0 rfl rfl 0 (by decide) vf_RX3_10 rfl rfl dX3_of_115 ?_
        refine lv_iload_n hx hb dX3_of_118 rfl (lv_at hl 1 rfl) ?_
        refine lv_iload_n hx hb dX3_of_119 rfl (lv_at hl 2 rfl) ?_
        obtain ⟨r13, w11, hc12, hf⟩ := fg_biE hf
        refine fg_ci h (fg_runV (rest := []) S hK h (c_X2_valueOf l D g 0 a1 a2 (by decide) w5 r13 w11 hc12) vg_RX3_106 vd_X2_valueOf ⟨by decide, by decide⟩ (fg_p2_0 (by decide)) rfl rfl rfl hl.1 rfl (Nat.le_of_ble_eq_true rfl) dX3_of_120 ⟨Nat.zero_le _, Nat.zero_le _⟩) (fun H locs h => ?_)
        refine lv_goto (tgt := 131) hx hb dX3_of_123 (by decide) ?_
        exact fg_reti hx hb hr hlk hK h hf dX3_of_131
    have hf := fg_ifF hf hq18_1
    by_cases hq18_2 : a2 = 2
    · refine lv_tableIn (tgt := 105) hx hb dX3_of_18 (by rw [hq18_2]; decide) (by rw [hq18_2]; decide) (off := 87) (by rw [hq18_2]; rfl) (by decide) ?_
      have hf := fg_ifT hf hq18_2
      refine lv_iload_n hx hb dX3_of_105 rfl (lv_at hl 2 rfl) ?_
      refine lv_iconst (v := 1) hx hb dX3_of_106 rfl ?_
      refine lv_iconst (v := 4) hx hb dX3_of_107 rfl ?_
      obtain ⟨r16, w14, hc15, hf⟩ := fg_biE hf
      refine fg_ci h (fg_runS (rest := []) S hK h (c_X3_within l D g a2 1 4  w1 r16 w14 hc15) vk_X3_within vm_RX3_52 vs_X3_within vi_RX3 vd_X3_within.2 ⟨by decide, by decide⟩ rfl hl.1 rfl (Nat.le_of_ble_eq_true rfl) dX3_of_108 ⟨Nat.zero_le _, Nat.zero_le _⟩) (fun H locs h => ?_)
      refine lv_if_eq (tgt := 126) hx hb dX3_of_111 (by decide) (fun hc => ?_) (fun hc => ?_)
      · have hf := fg_ifT hf hc
        refine lv_aload_n hx hb dX3_of_126 rfl (lv_at hl 0 rfl) ?_
        refine lv_iconst (v := 0) hx hb dX3_of_127 rfl ?_
        obtain ⟨r19, w17, hc18, hf⟩ := fg_biE hf
        refine fg_ci h (fg_runV (rest := []) S hK h (c_X3_finding l D g 0  w14 r19 w17 hc18) vg_RX3_48 vd_X3_finding ⟨by decide, by decide⟩ fg_p3_0 rfl rfl rfl hl.1 rfl (Nat.le_of_ble_eq_true rfl) dX3_of_128 ⟨Nat.zero_le _, Nat.zero_le _⟩) (fun H locs h => ?_)
        exact fg_reti hx hb hr hlk hK h hf dX3_of_131
      · have hf := fg_ifF hf hc
        refine lv_aload_n hx hb dX3_of_114 rfl (lv_at hl 0 rfl) ?_
        refine fg_get (C := RX3) (T := TX3) (N := 7) S vu_X3 hK h fg_p3_0 rfl rfl 0 (by decide) vf_RX3_10 rfl rfl dX3_of_115 ?_
        refine lv_iload_n hx hb dX3_of_118 rfl (lv_at hl 1 rfl) ?_
        refine lv_iload_n hx hb dX3_of_119 rfl (lv_at hl 2 rfl) ?_
        obtain ⟨r22, w20, hc21, hf⟩ := fg_biE hf
        refine fg_ci h (fg_runV (rest := []) S hK h (c_X2_valueOf l D g 0 a1 a2 (by decide) w14 r22 w20 hc21) vg_RX3_106 vd_X2_valueOf ⟨by decide, by decide⟩ (fg_p2_0 (by decide)) rfl rfl rfl hl.1 rfl (Nat.le_of_ble_eq_true rfl) dX3_of_120 ⟨Nat.zero_le _, Nat.zero_le _⟩) (fun H locs h => ?_)
        refine lv_goto (tgt := 131) hx hb dX3_of_123 (by decide) ?_
        exact fg_reti hx hb hr hlk hK h hf dX3_of_131
    have hf := fg_ifF hf hq18_2
    by_cases hq18_3 : a2 = 3
    · refine lv_tableIn (tgt := 105) hx hb dX3_of_18 (by rw [hq18_3]; decide) (by rw [hq18_3]; decide) (off := 87) (by rw [hq18_3]; rfl) (by decide) ?_
      have hf := fg_ifT hf hq18_3
      refine lv_iload_n hx hb dX3_of_105 rfl (lv_at hl 2 rfl) ?_
      refine lv_iconst (v := 1) hx hb dX3_of_106 rfl ?_
      refine lv_iconst (v := 4) hx hb dX3_of_107 rfl ?_
      obtain ⟨r25, w23, hc24, hf⟩ := fg_biE hf
      refine fg_ci h (fg_runS (rest := []) S hK h (c_X3_within l D g a2 1 4  w1 r25 w23 hc24) vk_X3_within vm_RX3_52 vs_X3_within vi_RX3 vd_X3_within.2 ⟨by decide, by decide⟩ rfl hl.1 rfl (Nat.le_of_ble_eq_true rfl) dX3_of_108 ⟨Nat.zero_le _, Nat.zero_le _⟩) (fun H locs h => ?_)
      refine lv_if_eq (tgt := 126) hx hb dX3_of_111 (by decide) (fun hc => ?_) (fun hc => ?_)
      · have hf := fg_ifT hf hc
        refine lv_aload_n hx hb dX3_of_126 rfl (lv_at hl 0 rfl) ?_
        refine lv_iconst (v := 0) hx hb dX3_of_127 rfl ?_
        obtain ⟨r28, w26, hc27, hf⟩ := fg_biE hf
        refine fg_ci h (fg_runV (rest := []) S hK h (c_X3_finding l D g 0  w23 r28 w26 hc27) vg_RX3_48 vd_X3_finding ⟨by decide, by decide⟩ fg_p3_0 rfl rfl rfl hl.1 rfl (Nat.le_of_ble_eq_true rfl) dX3_of_128 ⟨Nat.zero_le _, Nat.zero_le _⟩) (fun H locs h => ?_)
        exact fg_reti hx hb hr hlk hK h hf dX3_of_131
      · have hf := fg_ifF hf hc
        refine lv_aload_n hx hb dX3_of_114 rfl (lv_at hl 0 rfl) ?_
        refine fg_get (C := RX3) (T := TX3) (N := 7) S vu_X3 hK h fg_p3_0 rfl rfl 0 (by decide) vf_RX3_10 rfl rfl dX3_of_115 ?_
        refine lv_iload_n hx hb dX3_of_118 rfl (lv_at hl 1 rfl) ?_
        refine lv_iload_n hx hb dX3_of_119 rfl (lv_at hl 2 rfl) ?_
        obtain ⟨r31, w29, hc30, hf⟩ := fg_biE hf
        refine fg_ci h (fg_runV (rest := []) S hK h (c_X2_valueOf l D g 0 a1 a2 (by decide) w23 r31 w29 hc30) vg_RX3_106 vd_X2_valueOf ⟨by decide, by decide⟩ (fg_p2_0 (by decide)) rfl rfl rfl hl.1 rfl (Nat.le_of_ble_eq_true rfl) dX3_of_120 ⟨Nat.zero_le _, Nat.zero_le _⟩) (fun H locs h => ?_)
        refine lv_goto (tgt := 131) hx hb dX3_of_123 (by decide) ?_
        exact fg_reti hx hb hr hlk hK h hf dX3_of_131
    have hf := fg_ifF hf hq18_3
    by_cases hq18_4 : a2 = 4
    · refine lv_tableIn (tgt := 105) hx hb dX3_of_18 (by rw [hq18_4]; decide) (by rw [hq18_4]; decide) (off := 87) (by rw [hq18_4]; rfl) (by decide) ?_
      have hf := fg_ifT hf hq18_4
      refine lv_iload_n hx hb dX3_of_105 rfl (lv_at hl 2 rfl) ?_
      refine lv_iconst (v := 1) hx hb dX3_of_106 rfl ?_
      refine lv_iconst (v := 4) hx hb dX3_of_107 rfl ?_
      obtain ⟨r34, w32, hc33, hf⟩ := fg_biE hf
      refine fg_ci h (fg_runS (rest := []) S hK h (c_X3_within l D g a2 1 4  w1 r34 w32 hc33) vk_X3_within vm_RX3_52 vs_X3_within vi_RX3 vd_X3_within.2 ⟨by decide, by decide⟩ rfl hl.1 rfl (Nat.le_of_ble_eq_true rfl) dX3_of_108 ⟨Nat.zero_le _, Nat.zero_le _⟩) (fun H locs h => ?_)
      refine lv_if_eq (tgt := 126) hx hb dX3_of_111 (by decide) (fun hc => ?_) (fun hc => ?_)
      · have hf := fg_ifT hf hc
        refine lv_aload_n hx hb dX3_of_126 rfl (lv_at hl 0 rfl) ?_
        refine lv_iconst (v := 0) hx hb dX3_of_127 rfl ?_
        obtain ⟨r37, w35, hc36, hf⟩ := fg_biE hf
        refine fg_ci h (fg_runV (rest := []) S hK h (c_X3_finding l D g 0  w32 r37 w35 hc36) vg_RX3_48 vd_X3_finding ⟨by decide, by decide⟩ fg_p3_0 rfl rfl rfl hl.1 rfl (Nat.le_of_ble_eq_true rfl) dX3_of_128 ⟨Nat.zero_le _, Nat.zero_le _⟩) (fun H locs h => ?_)
        exact fg_reti hx hb hr hlk hK h hf dX3_of_131
      · have hf := fg_ifF hf hc
        refine lv_aload_n hx hb dX3_of_114 rfl (lv_at hl 0 rfl) ?_
        refine fg_get (C := RX3) (T := TX3) (N := 7) S vu_X3 hK h fg_p3_0 rfl rfl 0 (by decide) vf_RX3_10 rfl rfl dX3_of_115 ?_
        refine lv_iload_n hx hb dX3_of_118 rfl (lv_at hl 1 rfl) ?_
        refine lv_iload_n hx hb dX3_of_119 rfl (lv_at hl 2 rfl) ?_
        obtain ⟨r40, w38, hc39, hf⟩ := fg_biE hf
        refine fg_ci h (fg_runV (rest := []) S hK h (c_X2_valueOf l D g 0 a1 a2 (by decide) w32 r40 w38 hc39) vg_RX3_106 vd_X2_valueOf ⟨by decide, by decide⟩ (fg_p2_0 (by decide)) rfl rfl rfl hl.1 rfl (Nat.le_of_ble_eq_true rfl) dX3_of_120 ⟨Nat.zero_le _, Nat.zero_le _⟩) (fun H locs h => ?_)
        refine lv_goto (tgt := 131) hx hb dX3_of_123 (by decide) ?_
        exact fg_reti hx hb hr hlk hK h hf dX3_of_131
    have hf := fg_ifF hf hq18_4
    by_cases hq18_5 : a2 = 5
    · refine lv_tableIn (tgt := 74) hx hb dX3_of_18 (by rw [hq18_5]; decide) (by rw [hq18_5]; decide) (off := 56) (by rw [hq18_5]; rfl) (by decide) ?_
      have hf := fg_ifT hf hq18_5
      refine lv_aload_n hx hb dX3_of_74 rfl (lv_at hl 0 rfl) ?_
      refine fg_get (C := RX3) (T := TX3) (N := 7) S vu_X3 hK h fg_p3_0 rfl rfl 0 (by decide) vf_RX3_10 rfl rfl dX3_of_75 ?_
      refine fg_get (C := RX2) (T := TX2) (N := 16) S vu_X2 hK h (fg_p2_0 (by decide)) rfl rfl 6 (by decide) vf_RX3_94 rfl rfl dX3_of_78 ?_
      refine lv_iload_n hx hb dX3_of_81 rfl (lv_at hl 1 rfl) ?_
      obtain ⟨hn41, hf⟩ := fg_gdE hf
      refine fg_iald hx hb hK h (fg_p2_5 (by decide)) (fun _ => rfl) hn41 dX3_of_82 ?_
      obtain ⟨r44, w42, hc43, hf⟩ := fg_biE hf
      refine fg_ci h (fg_runS (rest := []) S hK h (c_X3_losesOf l D g (w1.1 2 0 5 a1.toNatClampNeg)  w1 r44 w42 hc43) vk_X3_losesOf vm_RX3_97 vs_X3_losesOf vi_RX3 vd_X3_losesOf.2 ⟨by decide, by decide⟩ rfl hl.1 rfl (Nat.le_of_ble_eq_true rfl) dX3_of_83 ⟨Nat.zero_le _, Nat.zero_le _⟩) (fun H locs h => ?_)
      exact fg_reti hx hb hr hlk hK h hf dX3_of_86
    have hf := fg_ifF hf hq18_5
    by_cases hq18_6 : a2 = 6
    · refine lv_tableIn (tgt := 87) hx hb dX3_of_18 (by rw [hq18_6]; decide) (by rw [hq18_6]; decide) (off := 69) (by rw [hq18_6]; rfl) (by decide) ?_
      have hf := fg_ifT hf hq18_6
      refine lv_aload_n hx hb dX3_of_87 rfl (lv_at hl 0 rfl) ?_
      refine fg_get (C := RX3) (T := TX3) (N := 7) S vu_X3 hK h fg_p3_0 rfl rfl 0 (by decide) vf_RX3_10 rfl rfl dX3_of_88 ?_
      refine lv_iload_n hx hb dX3_of_91 rfl (lv_at hl 1 rfl) ?_
      obtain ⟨r47, w45, hc46, hf⟩ := fg_biE hf
      refine fg_ci h (fg_runV (rest := []) S hK h (c_X2_lotMadeFor l D g 0 a1 (by decide) w1 r47 w45 hc46) vg_RX3_100 vd_X2_lotMadeFor ⟨by decide, by decide⟩ (fg_p2_0 (by decide)) rfl rfl rfl hl.1 rfl (Nat.le_of_ble_eq_true rfl) dX3_of_92 ⟨Nat.zero_le _, Nat.zero_le _⟩) (fun H locs h => ?_)
      exact fg_reti hx hb hr hlk hK h hf dX3_of_95
    have hf := fg_ifF hf hq18_6
    by_cases hq18_7 : a2 = 7
    · refine lv_tableIn (tgt := 96) hx hb dX3_of_18 (by rw [hq18_7]; decide) (by rw [hq18_7]; decide) (off := 78) (by rw [hq18_7]; rfl) (by decide) ?_
      have hf := fg_ifT hf hq18_7
      refine lv_aload_n hx hb dX3_of_96 rfl (lv_at hl 0 rfl) ?_
      refine fg_get (C := RX3) (T := TX3) (N := 7) S vu_X3 hK h fg_p3_0 rfl rfl 0 (by decide) vf_RX3_10 rfl rfl dX3_of_97 ?_
      refine lv_iload_n hx hb dX3_of_100 rfl (lv_at hl 1 rfl) ?_
      obtain ⟨r50, w48, hc49, hf⟩ := fg_biE hf
      refine fg_ci h (fg_runV (rest := []) S hK h (c_X2_lotsOwnedBy l D g 0 a1 (by decide) w1 r50 w48 hc49) vg_RX3_103 vd_X2_lotsOwnedBy ⟨by decide, by decide⟩ (fg_p2_0 (by decide)) rfl rfl rfl hl.1 rfl (Nat.le_of_ble_eq_true rfl) dX3_of_101 ⟨Nat.zero_le _, Nat.zero_le _⟩) (fun H locs h => ?_)
      exact fg_reti hx hb hr hlk hK h hf dX3_of_104
    have hf := fg_ifF hf hq18_7
    refine lv_tableOut (tgt := 105) hx hb dX3_of_18 (by have := lv_neT hq18_0 (show (0 : Int32).toInt = 0 from rfl); have := lv_neT hq18_1 (show (1 : Int32).toInt = 1 from rfl); have := lv_neT hq18_2 (show (2 : Int32).toInt = 2 from rfl); have := lv_neT hq18_3 (show (3 : Int32).toInt = 3 from rfl); have := lv_neT hq18_4 (show (4 : Int32).toInt = 4 from rfl); have := lv_neT hq18_5 (show (5 : Int32).toInt = 5 from rfl); have := lv_neT hq18_6 (show (6 : Int32).toInt = 6 from rfl); have := lv_neT hq18_7 (show (7 : Int32).toInt = 7 from rfl); omega) (by decide) ?_
    refine lv_iload_n hx hb dX3_of_105 rfl (lv_at hl 2 rfl) ?_
    refine lv_iconst (v := 1) hx hb dX3_of_106 rfl ?_
    refine lv_iconst (v := 4) hx hb dX3_of_107 rfl ?_
    obtain ⟨r53, w51, hc52, hf⟩ := fg_biE hf
    refine fg_ci h (fg_runS (rest := []) S hK h (c_X3_within l D g a2 1 4  w1 r53 w51 hc52) vk_X3_within vm_RX3_52 vs_X3_within vi_RX3 vd_X3_within.2 ⟨by decide, by decide⟩ rfl hl.1 rfl (Nat.le_of_ble_eq_true rfl) dX3_of_108 ⟨Nat.zero_le _, Nat.zero_le _⟩) (fun H locs h => ?_)
    refine lv_if_eq (tgt := 126) hx hb dX3_of_111 (by decide) (fun hc => ?_) (fun hc => ?_)
    · have hf := fg_ifT hf hc
      refine lv_aload_n hx hb dX3_of_126 rfl (lv_at hl 0 rfl) ?_
      refine lv_iconst (v := 0) hx hb dX3_of_127 rfl ?_
      obtain ⟨r56, w54, hc55, hf⟩ := fg_biE hf
      refine fg_ci h (fg_runV (rest := []) S hK h (c_X3_finding l D g 0  w51 r56 w54 hc55) vg_RX3_48 vd_X3_finding ⟨by decide, by decide⟩ fg_p3_0 rfl rfl rfl hl.1 rfl (Nat.le_of_ble_eq_true rfl) dX3_of_128 ⟨Nat.zero_le _, Nat.zero_le _⟩) (fun H locs h => ?_)
      exact fg_reti hx hb hr hlk hK h hf dX3_of_131
    · have hf := fg_ifF hf hc
      refine lv_aload_n hx hb dX3_of_114 rfl (lv_at hl 0 rfl) ?_
      refine fg_get (C := RX3) (T := TX3) (N := 7) S vu_X3 hK h fg_p3_0 rfl rfl 0 (by decide) vf_RX3_10 rfl rfl dX3_of_115 ?_
      refine lv_iload_n hx hb dX3_of_118 rfl (lv_at hl 1 rfl) ?_
      refine lv_iload_n hx hb dX3_of_119 rfl (lv_at hl 2 rfl) ?_
      obtain ⟨r59, w57, hc58, hf⟩ := fg_biE hf
      refine fg_ci h (fg_runV (rest := []) S hK h (c_X2_valueOf l D g 0 a1 a2 (by decide) w51 r59 w57 hc58) vg_RX3_106 vd_X2_valueOf ⟨by decide, by decide⟩ (fg_p2_0 (by decide)) rfl rfl rfl hl.1 rfl (Nat.le_of_ble_eq_true rfl) dX3_of_120 ⟨Nat.zero_le _, Nat.zero_le _⟩) (fun H locs h => ?_)
      refine lv_goto (tgt := 131) hx hb dX3_of_123 (by decide) ?_
      exact fg_reti hx hb hr hlk hK h hf dX3_of_131
  · have hf := fg_ifT hf hc
    refine lv_aload_n hx hb dX3_of_11 rfl (lv_at hl 0 rfl) ?_
    refine lv_iconst (v := 0) hx hb dX3_of_12 rfl ?_
    obtain ⟨r62, w60, hc61, hf⟩ := fg_biE hf
    refine fg_ci h (fg_runV (rest := []) S hK h (c_X3_finding l D g 0  w1 r62 w60 hc61) vg_RX3_48 vd_X3_finding ⟨by decide, by decide⟩ fg_p3_0 rfl rfl rfl hl.1 rfl (Nat.le_of_ble_eq_true rfl) dX3_of_13 ⟨Nat.zero_le _, Nat.zero_le _⟩) (fun H locs h => ?_)
    exact fg_reti hx hb hr hlk hK h hf dX3_of_16
set_option maxHeartbeats 4000000 in
set_option maxRecDepth 100000 in
theorem c_X3_change (l : Launch) (D : va_G) (g : fg_G) (a1 : Int32) (a2 : Int32) (a3 : Int32) (w : fg_W) (r : Int32) (w' : fg_W) (hf : f_X3_change a1 a2 a3 w = some (r, w')) : fg_M l yX3_change cX3_change 4 (some .int) 1 23 D g [.ref (g.1 3 0 0), .int a1, .int a2, .int a3] w (fg_Qi D g r w') := by
  refine fg_M.of rfl (Nat.le_of_ble_eq_true rfl) (fun p e s m below meth c ls S hr hlk hK h hl => ?_)
  have hx := S.1
  have hb := S.2.1
  have hl : lv_has ls 4 [(0, .ref (g.1 3 0 0)), (1, .int a1), (2, .int a2), (3, .int a3)] := hl
  unfold f_X3_change at hf
  refine lv_aload_n hx hb dX3_change_0 rfl (lv_at hl 0 rfl) ?_
  refine fg_get (C := RX3) (T := TX3) (N := 7) S vu_X3 hK h fg_p3_0 rfl rfl 0 (by decide) vf_RX3_10 rfl rfl dX3_change_1 ?_
  refine lv_iload_n hx hb dX3_change_4 rfl (lv_at hl 1 rfl) ?_
  obtain ⟨r3, w1, hc2, hf⟩ := fg_biE hf
  refine fg_ci h (fg_runV (rest := []) S hK h (c_X2_isPerson l D g 0 a1 (by decide) w r3 w1 hc2) vg_RX3_66 vd_X2_isPerson ⟨by decide, by decide⟩ (fg_p2_0 (by decide)) rfl rfl rfl hl.1 rfl (Nat.le_of_ble_eq_true rfl) dX3_change_5 ⟨Nat.zero_le _, Nat.zero_le _⟩) (fun H locs h => ?_)
  refine lv_if_ne (tgt := 17) hx hb dX3_change_8 (by decide) (fun hc => ?_) (fun hc => ?_)
  · have hf := fg_ifF hf hc
    refine lv_iload_n hx hb dX3_change_17 rfl (lv_at hl 2 rfl) ?_
    refine lv_if_ne (tgt := 41) hx hb dX3_change_18 (by decide) (fun hc => ?_) (fun hc => ?_)
    · have hf := fg_ifF hf hc
      refine lv_iload_n hx hb dX3_change_41 rfl (lv_at hl 2 rfl) ?_
      refine lv_iconst (v := 1) hx hb dX3_change_42 rfl ?_
      refine lv_icmp_ne (tgt := 71) hx hb dX3_change_43 (by decide) (fun hc => ?_) (fun hc => ?_)
      · have hf := fg_ifF hf hc
        refine lv_iload_n hx hb dX3_change_71 rfl (lv_at hl 2 rfl) ?_
        refine lv_iconst (v := 2) hx hb dX3_change_72 rfl ?_
        refine lv_icmp_ne (tgt := 99) hx hb dX3_change_73 (by decide) (fun hc => ?_) (fun hc => ?_)
        · have hf := fg_ifF hf hc
          refine lv_iload_n hx hb dX3_change_99 rfl (lv_at hl 2 rfl) ?_
          refine lv_iconst (v := 3) hx hb dX3_change_100 rfl ?_
          refine lv_icmp_ne (tgt := 128) hx hb dX3_change_101 (by decide) (fun hc => ?_) (fun hc => ?_)
          · have hf := fg_ifF hf hc
            refine lv_iload_n hx hb dX3_change_128 rfl (lv_at hl 2 rfl) ?_
            refine lv_iconst (v := 4) hx hb dX3_change_129 rfl ?_
            refine lv_icmp_ne (tgt := 157) hx hb dX3_change_130 (by decide) (fun hc => ?_) (fun hc => ?_)
            · have hf := fg_ifF hf hc
              refine lv_aload_n hx hb dX3_change_157 rfl (lv_at hl 0 rfl) ?_
              refine lv_iconst (v := 0) hx hb dX3_change_158 rfl ?_
              obtain ⟨r6, w4, hc5, hf⟩ := fg_biE hf
              refine fg_ci h (fg_runV (rest := []) S hK h (c_X3_finding l D g 0  w1 r6 w4 hc5) vg_RX3_48 vd_X3_finding ⟨by decide, by decide⟩ fg_p3_0 rfl rfl rfl hl.1 rfl (Nat.le_of_ble_eq_true rfl) dX3_change_159 ⟨Nat.zero_le _, Nat.zero_le _⟩) (fun H locs h => ?_)
              exact fg_reti hx hb hr hlk hK h hf dX3_change_162
            · have hf := fg_ifT hf hc
              refine lv_iload_n hx hb dX3_change_133 rfl (lv_at hl 3 rfl) ?_
              refine lv_iconst (v := 0) hx hb dX3_change_134 rfl ?_
              refine lv_sipush (v := 9999) hx hb dX3_change_135 rfl ?_
              obtain ⟨r9, w7, hc8, hf⟩ := fg_biE hf
              refine fg_ci h (fg_runS (rest := []) S hK h (c_X3_within l D g a3 0 9999  w1 r9 w7 hc8) vk_X3_within vm_RX3_52 vs_X3_within vi_RX3 vd_X3_within.2 ⟨by decide, by decide⟩ rfl hl.1 rfl (Nat.le_of_ble_eq_true rfl) dX3_change_138 ⟨Nat.zero_le _, Nat.zero_le _⟩) (fun H locs h => ?_)
              refine lv_if_eq (tgt := 157) hx hb dX3_change_141 (by decide) (fun hc => ?_) (fun hc => ?_)
              · have hf := fg_ifT hf hc
                refine lv_aload_n hx hb dX3_change_157 rfl (lv_at hl 0 rfl) ?_
                refine lv_iconst (v := 0) hx hb dX3_change_158 rfl ?_
                obtain ⟨r12, w10, hc11, hf⟩ := fg_biE hf
                refine fg_ci h (fg_runV (rest := []) S hK h (c_X3_finding l D g 0  w7 r12 w10 hc11) vg_RX3_48 vd_X3_finding ⟨by decide, by decide⟩ fg_p3_0 rfl rfl rfl hl.1 rfl (Nat.le_of_ble_eq_true rfl) dX3_change_159 ⟨Nat.zero_le _, Nat.zero_le _⟩) (fun H locs h => ?_)
                exact fg_reti hx hb hr hlk hK h hf dX3_change_162
              · have hf := fg_ifF hf hc
                refine lv_aload_n hx hb dX3_change_144 rfl (lv_at hl 0 rfl) ?_
                refine fg_get (C := RX3) (T := TX3) (N := 7) S vu_X3 hK h fg_p3_0 rfl rfl 0 (by decide) vf_RX3_10 rfl rfl dX3_change_145 ?_
                refine fg_get (C := RX2) (T := TX2) (N := 16) S vu_X2 hK h (fg_p2_0 (by decide)) rfl rfl 10 (by decide) vf_RX3_119 rfl rfl dX3_change_148 ?_
                refine lv_iload_n hx hb dX3_change_151 rfl (lv_at hl 1 rfl) ?_
                refine lv_iload_n hx hb dX3_change_152 rfl (lv_at hl 3 rfl) ?_
                obtain ⟨r15, w13, hc14, hf⟩ := fg_biE hf
                refine fg_ci h (fg_runS (rest := []) S hK h (c_X3_exchange l D g 2 0 9 8 a1 a3 (fg_p2_9 (by decide)) (fun _ => rfl) w7 r15 w13 hc14) vk_X3_exchange vm_RX3_59 vs_X3_exchange vi_RX3 vd_X3_exchange.2 ⟨by decide, by decide⟩ rfl hl.1 rfl (Nat.le_of_ble_eq_true rfl) dX3_change_153 ⟨Nat.zero_le _, Nat.zero_le _⟩) (fun H locs h => ?_)
                exact fg_reti hx hb hr hlk hK h hf dX3_change_156
          · have hf := fg_ifT hf hc
            refine lv_iload_n hx hb dX3_change_104 rfl (lv_at hl 3 rfl) ?_
            refine lv_iconst (v := 0) hx hb dX3_change_105 rfl ?_
            refine lv_sipush (v := 9999) hx hb dX3_change_106 rfl ?_
            obtain ⟨r18, w16, hc17, hf⟩ := fg_biE hf
            refine fg_ci h (fg_runS (rest := []) S hK h (c_X3_within l D g a3 0 9999  w1 r18 w16 hc17) vk_X3_within vm_RX3_52 vs_X3_within vi_RX3 vd_X3_within.2 ⟨by decide, by decide⟩ rfl hl.1 rfl (Nat.le_of_ble_eq_true rfl) dX3_change_109 ⟨Nat.zero_le _, Nat.zero_le _⟩) (fun H locs h => ?_)
            refine lv_if_eq (tgt := 128) hx hb dX3_change_112 (by decide) (fun hc => ?_) (fun hc => ?_)
            · have hf := fg_ifT hf hc
              refine lv_iload_n hx hb dX3_change_128 rfl (lv_at hl 2 rfl) ?_
              refine lv_iconst (v := 4) hx hb dX3_change_129 rfl ?_
              refine lv_icmp_ne (tgt := 157) hx hb dX3_change_130 (by decide) (fun hc => ?_) (fun hc => ?_)
              · have hf := fg_ifF hf hc
                refine lv_aload_n hx hb dX3_change_157 rfl (lv_at hl 0 rfl) ?_
                refine lv_iconst (v := 0) hx hb dX3_change_158 rfl ?_
                obtain ⟨r21, w19, hc20, hf⟩ := fg_biE hf
                refine fg_ci h (fg_runV (rest := []) S hK h (c_X3_finding l D g 0  w16 r21 w19 hc20) vg_RX3_48 vd_X3_finding ⟨by decide, by decide⟩ fg_p3_0 rfl rfl rfl hl.1 rfl (Nat.le_of_ble_eq_true rfl) dX3_change_159 ⟨Nat.zero_le _, Nat.zero_le _⟩) (fun H locs h => ?_)
                exact fg_reti hx hb hr hlk hK h hf dX3_change_162
              · have hf := fg_ifT hf hc
                refine lv_iload_n hx hb dX3_change_133 rfl (lv_at hl 3 rfl) ?_
                refine lv_iconst (v := 0) hx hb dX3_change_134 rfl ?_
                refine lv_sipush (v := 9999) hx hb dX3_change_135 rfl ?_
                obtain ⟨r24, w22, hc23, hf⟩ := fg_biE hf
                refine fg_ci h (fg_runS (rest := []) S hK h (c_X3_within l D g a3 0 9999  w16 r24 w22 hc23) vk_X3_within vm_RX3_52 vs_X3_within vi_RX3 vd_X3_within.2 ⟨by decide, by decide⟩ rfl hl.1 rfl (Nat.le_of_ble_eq_true rfl) dX3_change_138 ⟨Nat.zero_le _, Nat.zero_le _⟩) (fun H locs h => ?_)
                refine lv_if_eq (tgt := 157) hx hb dX3_change_141 (by decide) (fun hc => ?_) (fun hc => ?_)
                · have hf := fg_ifT hf hc
                  refine lv_aload_n hx hb dX3_change_157 rfl (lv_at hl 0 rfl) ?_
                  refine lv_iconst (v := 0) hx hb dX3_change_158 rfl ?_
                  obtain ⟨r27, w25, hc26, hf⟩ := fg_biE hf
                  refine fg_ci h (fg_runV (rest := []) S hK h (c_X3_finding l D g 0  w22 r27 w25 hc26) vg_RX3_48 vd_X3_finding ⟨by decide, by decide⟩ fg_p3_0 rfl rfl rfl hl.1 rfl (Nat.le_of_ble_eq_true rfl) dX3_change_159 ⟨Nat.zero_le _, Nat.zero_le _⟩) (fun H locs h => ?_)
                  exact fg_reti hx hb hr hlk hK h hf dX3_change_162
                · have hf := fg_ifF hf hc
                  refine lv_aload_n hx hb dX3_change_144 rfl (lv_at hl 0 rfl) ?_
                  refine fg_get (C := RX3) (T := TX3) (N := 7) S vu_X3 hK h fg_p3_0 rfl rfl 0 (by decide) vf_RX3_10 rfl rfl dX3_change_145 ?_
                  refine fg_get (C := RX2) (T := TX2) (N := 16) S vu_X2 hK h (fg_p2_0 (by decide)) rfl rfl 10 (by decide) vf_RX3_119 rfl rfl dX3_change_148 ?_
                  refine lv_iload_n hx hb dX3_change_151 rfl (lv_at hl 1 rfl) ?_
                  refine lv_iload_n hx hb dX3_change_152 rfl (lv_at hl 3 rfl) ?_
                  obtain ⟨r30, w28, hc29, hf⟩ := fg_biE hf
                  refine fg_ci h (fg_runS (rest := []) S hK h (c_X3_exchange l D g 2 0 9 8 a1 a3 (fg_p2_9 (by decide)) (fun _ => rfl) w22 r30 w28 hc29) vk_X3_exchange vm_RX3_59 vs_X3_exchange vi_RX3 vd_X3_exchange.2 ⟨by decide, by decide⟩ rfl hl.1 rfl (Nat.le_of_ble_eq_true rfl) dX3_change_153 ⟨Nat.zero_le _, Nat.zero_le _⟩) (fun H locs h => ?_)
                  exact fg_reti hx hb hr hlk hK h hf dX3_change_156
            · have hf := fg_ifF hf hc
              refine lv_aload_n hx hb dX3_change_115 rfl (lv_at hl 0 rfl) ?_
              refine fg_get (C := RX3) (T := TX3) (N := 7) S vu_X3 hK h fg_p3_0 rfl rfl 0 (by decide) vf_RX3_10 rfl rfl dX3_change_116 ?_
              refine fg_get (C := RX2) (T := TX2) (N := 16) S vu_X2 hK h (fg_p2_0 (by decide)) rfl rfl 9 (by decide) vf_RX3_116 rfl rfl dX3_change_119 ?_
              refine lv_iload_n hx hb dX3_change_122 rfl (lv_at hl 1 rfl) ?_
              refine lv_iload_n hx hb dX3_change_123 rfl (lv_at hl 3 rfl) ?_
              obtain ⟨r33, w31, hc32, hf⟩ := fg_biE hf
              refine fg_ci h (fg_runS (rest := []) S hK h (c_X3_exchange l D g 2 0 8 8 a1 a3 (fg_p2_8 (by decide)) (fun _ => rfl) w16 r33 w31 hc32) vk_X3_exchange vm_RX3_59 vs_X3_exchange vi_RX3 vd_X3_exchange.2 ⟨by decide, by decide⟩ rfl hl.1 rfl (Nat.le_of_ble_eq_true rfl) dX3_change_124 ⟨Nat.zero_le _, Nat.zero_le _⟩) (fun H locs h => ?_)
              exact fg_reti hx hb hr hlk hK h hf dX3_change_127
        · have hf := fg_ifT hf hc
          refine lv_iload_n hx hb dX3_change_76 rfl (lv_at hl 3 rfl) ?_
          refine lv_iconst (v := 0) hx hb dX3_change_77 rfl ?_
          refine lv_bipush (v := 99) hx hb dX3_change_78 rfl ?_
          obtain ⟨r36, w34, hc35, hf⟩ := fg_biE hf
          refine fg_ci h (fg_runS (rest := []) S hK h (c_X3_within l D g a3 0 99  w1 r36 w34 hc35) vk_X3_within vm_RX3_52 vs_X3_within vi_RX3 vd_X3_within.2 ⟨by decide, by decide⟩ rfl hl.1 rfl (Nat.le_of_ble_eq_true rfl) dX3_change_80 ⟨Nat.zero_le _, Nat.zero_le _⟩) (fun H locs h => ?_)
          refine lv_if_eq (tgt := 99) hx hb dX3_change_83 (by decide) (fun hc => ?_) (fun hc => ?_)
          · have hf := fg_ifT hf hc
            refine lv_iload_n hx hb dX3_change_99 rfl (lv_at hl 2 rfl) ?_
            refine lv_iconst (v := 3) hx hb dX3_change_100 rfl ?_
            refine lv_icmp_ne (tgt := 128) hx hb dX3_change_101 (by decide) (fun hc => ?_) (fun hc => ?_)
            · have hf := fg_ifF hf hc
              refine lv_iload_n hx hb dX3_change_128 rfl (lv_at hl 2 rfl) ?_
              refine lv_iconst (v := 4) hx hb dX3_change_129 rfl ?_
              refine lv_icmp_ne (tgt := 157) hx hb dX3_change_130 (by decide) (fun hc => ?_) (fun hc => ?_)
              · have hf := fg_ifF hf hc
                refine lv_aload_n hx hb dX3_change_157 rfl (lv_at hl 0 rfl) ?_
                refine lv_iconst (v := 0) hx hb dX3_change_158 rfl ?_
                obtain ⟨r39, w37, hc38, hf⟩ := fg_biE hf
                refine fg_ci h (fg_runV (rest := []) S hK h (c_X3_finding l D g 0  w34 r39 w37 hc38) vg_RX3_48 vd_X3_finding ⟨by decide, by decide⟩ fg_p3_0 rfl rfl rfl hl.1 rfl (Nat.le_of_ble_eq_true rfl) dX3_change_159 ⟨Nat.zero_le _, Nat.zero_le _⟩) (fun H locs h => ?_)
                exact fg_reti hx hb hr hlk hK h hf dX3_change_162
              · have hf := fg_ifT hf hc
                refine lv_iload_n hx hb dX3_change_133 rfl (lv_at hl 3 rfl) ?_
                refine lv_iconst (v := 0) hx hb dX3_change_134 rfl ?_
                refine lv_sipush (v := 9999) hx hb dX3_change_135 rfl ?_
                obtain ⟨r42, w40, hc41, hf⟩ := fg_biE hf
                refine fg_ci h (fg_runS (rest := []) S hK h (c_X3_within l D g a3 0 9999  w34 r42 w40 hc41) vk_X3_within vm_RX3_52 vs_X3_within vi_RX3 vd_X3_within.2 ⟨by decide, by decide⟩ rfl hl.1 rfl (Nat.le_of_ble_eq_true rfl) dX3_change_138 ⟨Nat.zero_le _, Nat.zero_le _⟩) (fun H locs h => ?_)
                refine lv_if_eq (tgt := 157) hx hb dX3_change_141 (by decide) (fun hc => ?_) (fun hc => ?_)
                · have hf := fg_ifT hf hc
                  refine lv_aload_n hx hb dX3_change_157 rfl (lv_at hl 0 rfl) ?_
                  refine lv_iconst (v := 0) hx hb dX3_change_158 rfl ?_
                  obtain ⟨r45, w43, hc44, hf⟩ := fg_biE hf
                  refine fg_ci h (fg_runV (rest := []) S hK h (c_X3_finding l D g 0  w40 r45 w43 hc44) vg_RX3_48 vd_X3_finding ⟨by decide, by decide⟩ fg_p3_0 rfl rfl rfl hl.1 rfl (Nat.le_of_ble_eq_true rfl) dX3_change_159 ⟨Nat.zero_le _, Nat.zero_le _⟩) (fun H locs h => ?_)
                  exact fg_reti hx hb hr hlk hK h hf dX3_change_162
                · have hf := fg_ifF hf hc
                  refine lv_aload_n hx hb dX3_change_144 rfl (lv_at hl 0 rfl) ?_
                  refine fg_get (C := RX3) (T := TX3) (N := 7) S vu_X3 hK h fg_p3_0 rfl rfl 0 (by decide) vf_RX3_10 rfl rfl dX3_change_145 ?_
                  refine fg_get (C := RX2) (T := TX2) (N := 16) S vu_X2 hK h (fg_p2_0 (by decide)) rfl rfl 10 (by decide) vf_RX3_119 rfl rfl dX3_change_148 ?_
                  refine lv_iload_n hx hb dX3_change_151 rfl (lv_at hl 1 rfl) ?_
                  refine lv_iload_n hx hb dX3_change_152 rfl (lv_at hl 3 rfl) ?_
                  obtain ⟨r48, w46, hc47, hf⟩ := fg_biE hf
                  refine fg_ci h (fg_runS (rest := []) S hK h (c_X3_exchange l D g 2 0 9 8 a1 a3 (fg_p2_9 (by decide)) (fun _ => rfl) w40 r48 w46 hc47) vk_X3_exchange vm_RX3_59 vs_X3_exchange vi_RX3 vd_X3_exchange.2 ⟨by decide, by decide⟩ rfl hl.1 rfl (Nat.le_of_ble_eq_true rfl) dX3_change_153 ⟨Nat.zero_le _, Nat.zero_le _⟩) (fun H locs h => ?_)
                  exact fg_reti hx hb hr hlk hK h hf dX3_change_156
            · have hf := fg_ifT hf hc
              refine lv_iload_n hx hb dX3_change_104 rfl (lv_at hl 3 rfl) ?_
              refine lv_iconst (v := 0) hx hb dX3_change_105 rfl ?_
              refine lv_sipush (v := 9999) hx hb dX3_change_106 rfl ?_
              obtain ⟨r51, w49, hc50, hf⟩ := fg_biE hf
              refine fg_ci h (fg_runS (rest := []) S hK h (c_X3_within l D g a3 0 9999  w34 r51 w49 hc50) vk_X3_within vm_RX3_52 vs_X3_within vi_RX3 vd_X3_within.2 ⟨by decide, by decide⟩ rfl hl.1 rfl (Nat.le_of_ble_eq_true rfl) dX3_change_109 ⟨Nat.zero_le _, Nat.zero_le _⟩) (fun H locs h => ?_)
              refine lv_if_eq (tgt := 128) hx hb dX3_change_112 (by decide) (fun hc => ?_) (fun hc => ?_)
              · have hf := fg_ifT hf hc
                refine lv_iload_n hx hb dX3_change_128 rfl (lv_at hl 2 rfl) ?_
                refine lv_iconst (v := 4) hx hb dX3_change_129 rfl ?_
                refine lv_icmp_ne (tgt := 157) hx hb dX3_change_130 (by decide) (fun hc => ?_) (fun hc => ?_)
                · have hf := fg_ifF hf hc
                  refine lv_aload_n hx hb dX3_change_157 rfl (lv_at hl 0 rfl) ?_
                  refine lv_iconst (v := 0) hx hb dX3_change_158 rfl ?_
                  obtain ⟨r54, w52, hc53, hf⟩ := fg_biE hf
                  refine fg_ci h (fg_runV (rest := []) S hK h (c_X3_finding l D g 0  w49 r54 w52 hc53) vg_RX3_48 vd_X3_finding ⟨by decide, by decide⟩ fg_p3_0 rfl rfl rfl hl.1 rfl (Nat.le_of_ble_eq_true rfl) dX3_change_159 ⟨Nat.zero_le _, Nat.zero_le _⟩) (fun H locs h => ?_)
                  exact fg_reti hx hb hr hlk hK h hf dX3_change_162
                · have hf := fg_ifT hf hc
                  refine lv_iload_n hx hb dX3_change_133 rfl (lv_at hl 3 rfl) ?_
                  refine lv_iconst (v := 0) hx hb dX3_change_134 rfl ?_
                  refine lv_sipush (v := 9999) hx hb dX3_change_135 rfl ?_
                  obtain ⟨r57, w55, hc56, hf⟩ := fg_biE hf
                  refine fg_ci h (fg_runS (rest := []) S hK h (c_X3_within l D g a3 0 9999  w49 r57 w55 hc56) vk_X3_within vm_RX3_52 vs_X3_within vi_RX3 vd_X3_within.2 ⟨by decide, by decide⟩ rfl hl.1 rfl (Nat.le_of_ble_eq_true rfl) dX3_change_138 ⟨Nat.zero_le _, Nat.zero_le _⟩) (fun H locs h => ?_)
                  refine lv_if_eq (tgt := 157) hx hb dX3_change_141 (by decide) (fun hc => ?_) (fun hc => ?_)
                  · have hf := fg_ifT hf hc
                    refine lv_aload_n hx hb dX3_change_157 rfl (lv_at hl 0 rfl) ?_
                    refine lv_iconst (v := 0) hx hb dX3_change_158 rfl ?_
                    obtain ⟨r60, w58, hc59, hf⟩ := fg_biE hf
                    refine fg_ci h (fg_runV (rest := []) S hK h (c_X3_finding l D g 0  w55 r60 w58 hc59) vg_RX3_48 vd_X3_finding ⟨by decide, by decide⟩ fg_p3_0 rfl rfl rfl hl.1 rfl (Nat.le_of_ble_eq_true rfl) dX3_change_159 ⟨Nat.zero_le _, Nat.zero_le _⟩) (fun H locs h => ?_)
                    exact fg_reti hx hb hr hlk hK h hf dX3_change_162
                  · have hf := fg_ifF hf hc
                    refine lv_aload_n hx hb dX3_change_144 rfl (lv_at hl 0 rfl) ?_
                    refine fg_get (C := RX3) (T := TX3) (N := 7) S vu_X3 hK h fg_p3_0 rfl rfl 0 (by decide) vf_RX3_10 rfl rfl dX3_change_145 ?_
                    refine fg_get (C := RX2) (T := TX2) (N := 16) S vu_X2 hK h (fg_p2_0 (by decide)) rfl rfl 10 (by decide) vf_RX3_119 rfl rfl dX3_change_148 ?_
                    refine lv_iload_n hx hb dX3_change_151 rfl (lv_at hl 1 rfl) ?_
                    refine lv_iload_n hx hb dX3_change_152 rfl (lv_at hl 3 rfl) ?_
                    obtain ⟨r63, w61, hc62, hf⟩ := fg_biE hf
                    refine fg_ci h (fg_runS (rest := []) S hK h (c_X3_exchange l D g 2 0 9 8 a1 a3 (fg_p2_9 (by decide)) (fun _ => rfl) w55 r63 w61 hc62) vk_X3_exchange vm_RX3_59 vs_X3_exchange vi_RX3 vd_X3_exchange.2 ⟨by decide, by decide⟩ rfl hl.1 rfl (Nat.le_of_ble_eq_true rfl) dX3_change_153 ⟨Nat.zero_le _, Nat.zero_le _⟩) (fun H locs h => ?_)
                    exact fg_reti hx hb hr hlk hK h hf dX3_change_156
              · have hf := fg_ifF hf hc
                refine lv_aload_n hx hb dX3_change_115 rfl (lv_at hl 0 rfl) ?_
                refine fg_get (C := RX3) (T := TX3) (N := 7) S vu_X3 hK h fg_p3_0 rfl rfl 0 (by decide) vf_RX3_10 rfl rfl dX3_change_116 ?_
                refine fg_get (C := RX2) (T := TX2) (N := 16) S vu_X2 hK h (fg_p2_0 (by decide)) rfl rfl 9 (by decide) vf_RX3_116 rfl rfl dX3_change_119 ?_
                refine lv_iload_n hx hb dX3_change_122 rfl (lv_at hl 1 rfl) ?_
                refine lv_iload_n hx hb dX3_change_123 rfl (lv_at hl 3 rfl) ?_
                obtain ⟨r66, w64, hc65, hf⟩ := fg_biE hf
                refine fg_ci h (fg_runS (rest := []) S hK h (c_X3_exchange l D g 2 0 8 8 a1 a3 (fg_p2_8 (by decide)) (fun _ => rfl) w49 r66 w64 hc65) vk_X3_exchange vm_RX3_59 vs_X3_exchange vi_RX3 vd_X3_exchange.2 ⟨by decide, by decide⟩ rfl hl.1 rfl (Nat.le_of_ble_eq_true rfl) dX3_change_124 ⟨Nat.zero_le _, Nat.zero_le _⟩) (fun H locs h => ?_)
                exact fg_reti hx hb hr hlk hK h hf dX3_change_127
          · have hf := fg_ifF hf hc
            refine lv_aload_n hx hb dX3_change_86 rfl (lv_at hl 0 rfl) ?_
            refine fg_get (C := RX3) (T := TX3) (N := 7) S vu_X3 hK h fg_p3_0 rfl rfl 0 (by decide) vf_RX3_10 rfl rfl dX3_change_87 ?_
            refine fg_get (C := RX2) (T := TX2) (N := 16) S vu_X2 hK h (fg_p2_0 (by decide)) rfl rfl 8 (by decide) vf_RX3_113 rfl rfl dX3_change_90 ?_
            refine lv_iload_n hx hb dX3_change_93 rfl (lv_at hl 1 rfl) ?_
            refine lv_iload_n hx hb dX3_change_94 rfl (lv_at hl 3 rfl) ?_
            obtain ⟨r69, w67, hc68, hf⟩ := fg_biE hf
            refine fg_ci h (fg_runS (rest := []) S hK h (c_X3_exchange l D g 2 0 7 8 a1 a3 (fg_p2_7 (by decide)) (fun _ => rfl) w34 r69 w67 hc68) vk_X3_exchange vm_RX3_59 vs_X3_exchange vi_RX3 vd_X3_exchange.2 ⟨by decide, by decide⟩ rfl hl.1 rfl (Nat.le_of_ble_eq_true rfl) dX3_change_95 ⟨Nat.zero_le _, Nat.zero_le _⟩) (fun H locs h => ?_)
            exact fg_reti hx hb hr hlk hK h hf dX3_change_98
      · have hf := fg_ifT hf hc
        refine lv_iload_n hx hb dX3_change_46 rfl (lv_at hl 3 rfl) ?_
        refine lv_iconst (v := (-1)) hx hb dX3_change_47 rfl ?_
        refine lv_icmp_eq (tgt := 58) hx hb dX3_change_48 (by decide) (fun hc => ?_) (fun hc => ?_)
        · have hf := fg_ifT hf hc
          refine lv_aload_n hx hb dX3_change_58 rfl (lv_at hl 0 rfl) ?_
          refine fg_get (C := RX3) (T := TX3) (N := 7) S vu_X3 hK h fg_p3_0 rfl rfl 0 (by decide) vf_RX3_10 rfl rfl dX3_change_59 ?_
          refine fg_get (C := RX2) (T := TX2) (N := 16) S vu_X2 hK h (fg_p2_0 (by decide)) rfl rfl 7 (by decide) vf_RX3_110 rfl rfl dX3_change_62 ?_
          refine lv_iload_n hx hb dX3_change_65 rfl (lv_at hl 1 rfl) ?_
          refine lv_iload_n hx hb dX3_change_66 rfl (lv_at hl 3 rfl) ?_
          obtain ⟨r72, w70, hc71, hf⟩ := fg_biE hf
          refine fg_ci h (fg_runS (rest := []) S hK h (c_X3_exchange l D g 2 0 6 8 a1 a3 (fg_p2_6 (by decide)) (fun _ => rfl) w1 r72 w70 hc71) vk_X3_exchange vm_RX3_59 vs_X3_exchange vi_RX3 vd_X3_exchange.2 ⟨by decide, by decide⟩ rfl hl.1 rfl (Nat.le_of_ble_eq_true rfl) dX3_change_67 ⟨Nat.zero_le _, Nat.zero_le _⟩) (fun H locs h => ?_)
          exact fg_reti hx hb hr hlk hK h hf dX3_change_70
        · have hf := fg_ifF hf hc
          refine lv_iload_n hx hb dX3_change_51 rfl (lv_at hl 3 rfl) ?_
          obtain ⟨r75, w73, hc74, hf⟩ := fg_biE hf
          refine fg_ci h (fg_runS (rest := []) S hK h (c_X3_isLot l D g a3  w1 r75 w73 hc74) vk_X3_isLot vm_RX3_44 vs_X3_isLot vi_RX3 vd_X3_isLot.2 ⟨by decide, by decide⟩ rfl hl.1 rfl (Nat.le_of_ble_eq_true rfl) dX3_change_52 ⟨Nat.zero_le _, Nat.zero_le _⟩) (fun H locs h => ?_)
          refine lv_if_eq (tgt := 71) hx hb dX3_change_55 (by decide) (fun hc => ?_) (fun hc => ?_)
          · have hf := fg_ifT hf hc
            refine lv_iload_n hx hb dX3_change_71 rfl (lv_at hl 2 rfl) ?_
            refine lv_iconst (v := 2) hx hb dX3_change_72 rfl ?_
            refine lv_icmp_ne (tgt := 99) hx hb dX3_change_73 (by decide) (fun hc => ?_) (fun hc => ?_)
            · have hf := fg_ifF hf hc
              refine lv_iload_n hx hb dX3_change_99 rfl (lv_at hl 2 rfl) ?_
              refine lv_iconst (v := 3) hx hb dX3_change_100 rfl ?_
              refine lv_icmp_ne (tgt := 128) hx hb dX3_change_101 (by decide) (fun hc => ?_) (fun hc => ?_)
              · have hf := fg_ifF hf hc
                refine lv_iload_n hx hb dX3_change_128 rfl (lv_at hl 2 rfl) ?_
                refine lv_iconst (v := 4) hx hb dX3_change_129 rfl ?_
                refine lv_icmp_ne (tgt := 157) hx hb dX3_change_130 (by decide) (fun hc => ?_) (fun hc => ?_)
                · have hf := fg_ifF hf hc
                  refine lv_aload_n hx hb dX3_change_157 rfl (lv_at hl 0 rfl) ?_
                  refine lv_iconst (v := 0) hx hb dX3_change_158 rfl ?_
                  obtain ⟨r78, w76, hc77, hf⟩ := fg_biE hf
                  refine fg_ci h (fg_runV (rest := []) S hK h (c_X3_finding l D g 0  w73 r78 w76 hc77) vg_RX3_48 vd_X3_finding ⟨by decide, by decide⟩ fg_p3_0 rfl rfl rfl hl.1 rfl (Nat.le_of_ble_eq_true rfl) dX3_change_159 ⟨Nat.zero_le _, Nat.zero_le _⟩) (fun H locs h => ?_)
                  exact fg_reti hx hb hr hlk hK h hf dX3_change_162
                · have hf := fg_ifT hf hc
                  refine lv_iload_n hx hb dX3_change_133 rfl (lv_at hl 3 rfl) ?_
                  refine lv_iconst (v := 0) hx hb dX3_change_134 rfl ?_
                  refine lv_sipush (v := 9999) hx hb dX3_change_135 rfl ?_
                  obtain ⟨r81, w79, hc80, hf⟩ := fg_biE hf
                  refine fg_ci h (fg_runS (rest := []) S hK h (c_X3_within l D g a3 0 9999  w73 r81 w79 hc80) vk_X3_within vm_RX3_52 vs_X3_within vi_RX3 vd_X3_within.2 ⟨by decide, by decide⟩ rfl hl.1 rfl (Nat.le_of_ble_eq_true rfl) dX3_change_138 ⟨Nat.zero_le _, Nat.zero_le _⟩) (fun H locs h => ?_)
                  refine lv_if_eq (tgt := 157) hx hb dX3_change_141 (by decide) (fun hc => ?_) (fun hc => ?_)
                  · have hf := fg_ifT hf hc
                    refine lv_aload_n hx hb dX3_change_157 rfl (lv_at hl 0 rfl) ?_
                    refine lv_iconst (v := 0) hx hb dX3_change_158 rfl ?_
                    obtain ⟨r84, w82, hc83, hf⟩ := fg_biE hf
                    refine fg_ci h (fg_runV (rest := []) S hK h (c_X3_finding l D g 0  w79 r84 w82 hc83) vg_RX3_48 vd_X3_finding ⟨by decide, by decide⟩ fg_p3_0 rfl rfl rfl hl.1 rfl (Nat.le_of_ble_eq_true rfl) dX3_change_159 ⟨Nat.zero_le _, Nat.zero_le _⟩) (fun H locs h => ?_)
                    exact fg_reti hx hb hr hlk hK h hf dX3_change_162
                  · have hf := fg_ifF hf hc
                    refine lv_aload_n hx hb dX3_change_144 rfl (lv_at hl 0 rfl) ?_
                    refine fg_get (C := RX3) (T := TX3) (N := 7) S vu_X3 hK h fg_p3_0 rfl rfl 0 (by decide) vf_RX3_10 rfl rfl dX3_change_145 ?_
                    refine fg_get (C := RX2) (T := TX2) (N := 16) S vu_X2 hK h (fg_p2_0 (by decide)) rfl rfl 10 (by decide) vf_RX3_119 rfl rfl dX3_change_148 ?_
                    refine lv_iload_n hx hb dX3_change_151 rfl (lv_at hl 1 rfl) ?_
                    refine lv_iload_n hx hb dX3_change_152 rfl (lv_at hl 3 rfl) ?_
                    obtain ⟨r87, w85, hc86, hf⟩ := fg_biE hf
                    refine fg_ci h (fg_runS (rest := []) S hK h (c_X3_exchange l D g 2 0 9 8 a1 a3 (fg_p2_9 (by decide)) (fun _ => rfl) w79 r87 w85 hc86) vk_X3_exchange vm_RX3_59 vs_X3_exchange vi_RX3 vd_X3_exchange.2 ⟨by decide, by decide⟩ rfl hl.1 rfl (Nat.le_of_ble_eq_true rfl) dX3_change_153 ⟨Nat.zero_le _, Nat.zero_le _⟩) (fun H locs h => ?_)
                    exact fg_reti hx hb hr hlk hK h hf dX3_change_156
              · have hf := fg_ifT hf hc
                refine lv_iload_n hx hb dX3_change_104 rfl (lv_at hl 3 rfl) ?_
                refine lv_iconst (v := 0) hx hb dX3_change_105 rfl ?_
                refine lv_sipush (v := 9999) hx hb dX3_change_106 rfl ?_
                obtain ⟨r90, w88, hc89, hf⟩ := fg_biE hf
                refine fg_ci h (fg_runS (rest := []) S hK h (c_X3_within l D g a3 0 9999  w73 r90 w88 hc89) vk_X3_within vm_RX3_52 vs_X3_within vi_RX3 vd_X3_within.2 ⟨by decide, by decide⟩ rfl hl.1 rfl (Nat.le_of_ble_eq_true rfl) dX3_change_109 ⟨Nat.zero_le _, Nat.zero_le _⟩) (fun H locs h => ?_)
                refine lv_if_eq (tgt := 128) hx hb dX3_change_112 (by decide) (fun hc => ?_) (fun hc => ?_)
                · have hf := fg_ifT hf hc
                  refine lv_iload_n hx hb dX3_change_128 rfl (lv_at hl 2 rfl) ?_
                  refine lv_iconst (v := 4) hx hb dX3_change_129 rfl ?_
                  refine lv_icmp_ne (tgt := 157) hx hb dX3_change_130 (by decide) (fun hc => ?_) (fun hc => ?_)
                  · have hf := fg_ifF hf hc
                    refine lv_aload_n hx hb dX3_change_157 rfl (lv_at hl 0 rfl) ?_
                    refine lv_iconst (v := 0) hx hb dX3_change_158 rfl ?_
                    obtain ⟨r93, w91, hc92, hf⟩ := fg_biE hf
                    refine fg_ci h (fg_runV (rest := []) S hK h (c_X3_finding l D g 0  w88 r93 w91 hc92) vg_RX3_48 vd_X3_finding ⟨by decide, by decide⟩ fg_p3_0 rfl rfl rfl hl.1 rfl (Nat.le_of_ble_eq_true rfl) dX3_change_159 ⟨Nat.zero_le _, Nat.zero_le _⟩) (fun H locs h => ?_)
                    exact fg_reti hx hb hr hlk hK h hf dX3_change_162
                  · have hf := fg_ifT hf hc
                    refine lv_iload_n hx hb dX3_change_133 rfl (lv_at hl 3 rfl) ?_
                    refine lv_iconst (v := 0) hx hb dX3_change_134 rfl ?_
                    refine lv_sipush (v := 9999) hx hb dX3_change_135 rfl ?_
                    obtain ⟨r96, w94, hc95, hf⟩ := fg_biE hf
                    refine fg_ci h (fg_runS (rest := []) S hK h (c_X3_within l D g a3 0 9999  w88 r96 w94 hc95) vk_X3_within vm_RX3_52 vs_X3_within vi_RX3 vd_X3_within.2 ⟨by decide, by decide⟩ rfl hl.1 rfl (Nat.le_of_ble_eq_true rfl) dX3_change_138 ⟨Nat.zero_le _, Nat.zero_le _⟩) (fun H locs h => ?_)
                    refine lv_if_eq (tgt := 157) hx hb dX3_change_141 (by decide) (fun hc => ?_) (fun hc => ?_)
                    · have hf := fg_ifT hf hc
                      refine lv_aload_n hx hb dX3_change_157 rfl (lv_at hl 0 rfl) ?_
                      refine lv_iconst (v := 0) hx hb dX3_change_158 rfl ?_
                      obtain ⟨r99, w97, hc98, hf⟩ := fg_biE hf
                      refine fg_ci h (fg_runV (rest := []) S hK h (c_X3_finding l D g 0  w94 r99 w97 hc98) vg_RX3_48 vd_X3_finding ⟨by decide, by decide⟩ fg_p3_0 rfl rfl rfl hl.1 rfl (Nat.le_of_ble_eq_true rfl) dX3_change_159 ⟨Nat.zero_le _, Nat.zero_le _⟩) (fun H locs h => ?_)
                      exact fg_reti hx hb hr hlk hK h hf dX3_change_162
                    · have hf := fg_ifF hf hc
                      refine lv_aload_n hx hb dX3_change_144 rfl (lv_at hl 0 rfl) ?_
                      refine fg_get (C := RX3) (T := TX3) (N := 7) S vu_X3 hK h fg_p3_0 rfl rfl 0 (by decide) vf_RX3_10 rfl rfl dX3_change_145 ?_
                      refine fg_get (C := RX2) (T := TX2) (N := 16) S vu_X2 hK h (fg_p2_0 (by decide)) rfl rfl 10 (by decide) vf_RX3_119 rfl rfl dX3_change_148 ?_
                      refine lv_iload_n hx hb dX3_change_151 rfl (lv_at hl 1 rfl) ?_
                      refine lv_iload_n hx hb dX3_change_152 rfl (lv_at hl 3 rfl) ?_
                      obtain ⟨r102, w100, hc101, hf⟩ := fg_biE hf
                      refine fg_ci h (fg_runS (rest := []) S hK h (c_X3_exchange l D g 2 0 9 8 a1 a3 (fg_p2_9 (by decide)) (fun _ => rfl) w94 r102 w100 hc101) vk_X3_exchange vm_RX3_59 vs_X3_exchange vi_RX3 vd_X3_exchange.2 ⟨by decide, by decide⟩ rfl hl.1 rfl (Nat.le_of_ble_eq_true rfl) dX3_change_153 ⟨Nat.zero_le _, Nat.zero_le _⟩) (fun H locs h => ?_)
                      exact fg_reti hx hb hr hlk hK h hf dX3_change_156
                · have hf := fg_ifF hf hc
                  refine lv_aload_n hx hb dX3_change_115 rfl (lv_at hl 0 rfl) ?_
                  refine fg_get (C := RX3) (T := TX3) (N := 7) S vu_X3 hK h fg_p3_0 rfl rfl 0 (by decide) vf_RX3_10 rfl rfl dX3_change_116 ?_
                  refine fg_get (C := RX2) (T := TX2) (N := 16) S vu_X2 hK h (fg_p2_0 (by decide)) rfl rfl 9 (by decide) vf_RX3_116 rfl rfl dX3_change_119 ?_
                  refine lv_iload_n hx hb dX3_change_122 rfl (lv_at hl 1 rfl) ?_
                  refine lv_iload_n hx hb dX3_change_123 rfl (lv_at hl 3 rfl) ?_
                  obtain ⟨r105, w103, hc104, hf⟩ := fg_biE hf
                  refine fg_ci h (fg_runS (rest := []) S hK h (c_X3_exchange l D g 2 0 8 8 a1 a3 (fg_p2_8 (by decide)) (fun _ => rfl) w88 r105 w103 hc104) vk_X3_exchange vm_RX3_59 vs_X3_exchange vi_RX3 vd_X3_exchange.2 ⟨by decide, by decide⟩ rfl hl.1 rfl (Nat.le_of_ble_eq_true rfl) dX3_change_124 ⟨Nat.zero_le _, Nat.zero_le _⟩) (fun H locs h => ?_)
                  exact fg_reti hx hb hr hlk hK h hf dX3_change_127
            · have hf := fg_ifT hf hc
              refine lv_iload_n hx hb dX3_change_76 rfl (lv_at hl 3 rfl) ?_
              refine lv_iconst (v := 0) hx hb dX3_change_77 rfl ?_
              refine lv_bipush (v := 99) hx hb dX3_change_78 rfl ?_
              obtain ⟨r108, w106, hc107, hf⟩ := fg_biE hf
              refine fg_ci h (fg_runS (rest := []) S hK h (c_X3_within l D g a3 0 99  w73 r108 w106 hc107) vk_X3_within vm_RX3_52 vs_X3_within vi_RX3 vd_X3_within.2 ⟨by decide, by decide⟩ rfl hl.1 rfl (Nat.le_of_ble_eq_true rfl) dX3_change_80 ⟨Nat.zero_le _, Nat.zero_le _⟩) (fun H locs h => ?_)
              refine lv_if_eq (tgt := 99) hx hb dX3_change_83 (by decide) (fun hc => ?_) (fun hc => ?_)
              · have hf := fg_ifT hf hc
                refine lv_iload_n hx hb dX3_change_99 rfl (lv_at hl 2 rfl) ?_
                refine lv_iconst (v := 3) hx hb dX3_change_100 rfl ?_
                refine lv_icmp_ne (tgt := 128) hx hb dX3_change_101 (by decide) (fun hc => ?_) (fun hc => ?_)
                · have hf := fg_ifF hf hc
                  refine lv_iload_n hx hb dX3_change_128 rfl (lv_at hl 2 rfl) ?_
                  refine lv_iconst (v := 4) hx hb dX3_change_129 rfl ?_
                  refine lv_icmp_ne (tgt := 157) hx hb dX3_change_130 (by decide) (fun hc => ?_) (fun hc => ?_)
                  · have hf := fg_ifF hf hc
                    refine lv_aload_n hx hb dX3_change_157 rfl (lv_at hl 0 rfl) ?_
                    refine lv_iconst (v := 0) hx hb dX3_change_158 rfl ?_
                    obtain ⟨r111, w109, hc110, hf⟩ := fg_biE hf
                    refine fg_ci h (fg_runV (rest := []) S hK h (c_X3_finding l D g 0  w106 r111 w109 hc110) vg_RX3_48 vd_X3_finding ⟨by decide, by decide⟩ fg_p3_0 rfl rfl rfl hl.1 rfl (Nat.le_of_ble_eq_true rfl) dX3_change_159 ⟨Nat.zero_le _, Nat.zero_le _⟩) (fun H locs h => ?_)
                    exact fg_reti hx hb hr hlk hK h hf dX3_change_162
                  · have hf := fg_ifT hf hc
                    refine lv_iload_n hx hb dX3_change_133 rfl (lv_at hl 3 rfl) ?_
                    refine lv_iconst (v := 0) hx hb dX3_change_134 rfl ?_
                    refine lv_sipush (v := 9999) hx hb dX3_change_135 rfl ?_
                    obtain ⟨r114, w112, hc113, hf⟩ := fg_biE hf
                    refine fg_ci h (fg_runS (rest := []) S hK h (c_X3_within l D g a3 0 9999  w106 r114 w112 hc113) vk_X3_within vm_RX3_52 vs_X3_within vi_RX3 vd_X3_within.2 ⟨by decide, by decide⟩ rfl hl.1 rfl (Nat.le_of_ble_eq_true rfl) dX3_change_138 ⟨Nat.zero_le _, Nat.zero_le _⟩) (fun H locs h => ?_)
                    refine lv_if_eq (tgt := 157) hx hb dX3_change_141 (by decide) (fun hc => ?_) (fun hc => ?_)
                    · have hf := fg_ifT hf hc
                      refine lv_aload_n hx hb dX3_change_157 rfl (lv_at hl 0 rfl) ?_
                      refine lv_iconst (v := 0) hx hb dX3_change_158 rfl ?_
                      obtain ⟨r117, w115, hc116, hf⟩ := fg_biE hf
                      refine fg_ci h (fg_runV (rest := []) S hK h (c_X3_finding l D g 0  w112 r117 w115 hc116) vg_RX3_48 vd_X3_finding ⟨by decide, by decide⟩ fg_p3_0 rfl rfl rfl hl.1 rfl (Nat.le_of_ble_eq_true rfl) dX3_change_159 ⟨Nat.zero_le _, Nat.zero_le _⟩) (fun H locs h => ?_)
                      exact fg_reti hx hb hr hlk hK h hf dX3_change_162
                    · have hf := fg_ifF hf hc
                      refine lv_aload_n hx hb dX3_change_144 rfl (lv_at hl 0 rfl) ?_
                      refine fg_get (C := RX3) (T := TX3) (N := 7) S vu_X3 hK h fg_p3_0 rfl rfl 0 (by decide) vf_RX3_10 rfl rfl dX3_change_145 ?_
                      refine fg_get (C := RX2) (T := TX2) (N := 16) S vu_X2 hK h (fg_p2_0 (by decide)) rfl rfl 10 (by decide) vf_RX3_119 rfl rfl dX3_change_148 ?_
                      refine lv_iload_n hx hb dX3_change_151 rfl (lv_at hl 1 rfl) ?_
                      refine lv_iload_n hx hb dX3_change_152 rfl (lv_at hl 3 rfl) ?_
                      obtain ⟨r120, w118, hc119, hf⟩ := fg_biE hf
                      refine fg_ci h (fg_runS (rest := []) S hK h (c_X3_exchange l D g 2 0 9 8 a1 a3 (fg_p2_9 (by decide)) (fun _ => rfl) w112 r120 w118 hc119) vk_X3_exchange vm_RX3_59 vs_X3_exchange vi_RX3 vd_X3_exchange.2 ⟨by decide, by decide⟩ rfl hl.1 rfl (Nat.le_of_ble_eq_true rfl) dX3_change_153 ⟨Nat.zero_le _, Nat.zero_le _⟩) (fun H locs h => ?_)
                      exact fg_reti hx hb hr hlk hK h hf dX3_change_156
                · have hf := fg_ifT hf hc
                  refine lv_iload_n hx hb dX3_change_104 rfl (lv_at hl 3 rfl) ?_
                  refine lv_iconst (v := 0) hx hb dX3_change_105 rfl ?_
                  refine lv_sipush (v := 9999) hx hb dX3_change_106 rfl ?_
                  obtain ⟨r123, w121, hc122, hf⟩ := fg_biE hf
                  refine fg_ci h (fg_runS (rest := []) S hK h (c_X3_within l D g a3 0 9999  w106 r123 w121 hc122) vk_X3_within vm_RX3_52 vs_X3_within vi_RX3 vd_X3_within.2 ⟨by decide, by decide⟩ rfl hl.1 rfl (Nat.le_of_ble_eq_true rfl) dX3_change_109 ⟨Nat.zero_le _, Nat.zero_le _⟩) (fun H locs h => ?_)
                  refine lv_if_eq (tgt := 128) hx hb dX3_change_112 (by decide) (fun hc => ?_) (fun hc => ?_)
                  · have hf := fg_ifT hf hc
                    refine lv_iload_n hx hb dX3_change_128 rfl (lv_at hl 2 rfl) ?_
                    refine lv_iconst (v := 4) hx hb dX3_change_129 rfl ?_
                    refine lv_icmp_ne (tgt := 157) hx hb dX3_change_130 (by decide) (fun hc => ?_) (fun hc => ?_)
                    · have hf := fg_ifF hf hc
                      refine lv_aload_n hx hb dX3_change_157 rfl (lv_at hl 0 rfl) ?_
                      refine lv_iconst (v := 0) hx hb dX3_change_158 rfl ?_
                      obtain ⟨r126, w124, hc125, hf⟩ := fg_biE hf
                      refine fg_ci h (fg_runV (rest := []) S hK h (c_X3_finding l D g 0  w121 r126 w124 hc125) vg_RX3_48 vd_X3_finding ⟨by decide, by decide⟩ fg_p3_0 rfl rfl rfl hl.1 rfl (Nat.le_of_ble_eq_true rfl) dX3_change_159 ⟨Nat.zero_le _, Nat.zero_le _⟩) (fun H locs h => ?_)
                      exact fg_reti hx hb hr hlk hK h hf dX3_change_162
                    · have hf := fg_ifT hf hc
                      refine lv_iload_n hx hb dX3_change_133 rfl (lv_at hl 3 rfl) ?_
                      refine lv_iconst (v := 0) hx hb dX3_change_134 rfl ?_
                      refine lv_sipush (v := 9999) hx hb dX3_change_135 rfl ?_
                      obtain ⟨r129, w127, hc128, hf⟩ := fg_biE hf
                      refine fg_ci h (fg_runS (rest := []) S hK h (c_X3_within l D g a3 0 9999  w121 r129 w127 hc128) vk_X3_within vm_RX3_52 vs_X3_within vi_RX3 vd_X3_within.2 ⟨by decide, by decide⟩ rfl hl.1 rfl (Nat.le_of_ble_eq_true rfl) dX3_change_138 ⟨Nat.zero_le _, Nat.zero_le _⟩) (fun H locs h => ?_)
                      refine lv_if_eq (tgt := 157) hx hb dX3_change_141 (by decide) (fun hc => ?_) (fun hc => ?_)
                      · have hf := fg_ifT hf hc
                        refine lv_aload_n hx hb dX3_change_157 rfl (lv_at hl 0 rfl) ?_
                        refine lv_iconst (v := 0) hx hb dX3_change_158 rfl ?_
                        obtain ⟨r132, w130, hc131, hf⟩ := fg_biE hf
                        refine fg_ci h (fg_runV (rest := []) S hK h (c_X3_finding l D g 0  w127 r132 w130 hc131) vg_RX3_48 vd_X3_finding ⟨by decide, by decide⟩ fg_p3_0 rfl rfl rfl hl.1 rfl (Nat.le_of_ble_eq_true rfl) dX3_change_159 ⟨Nat.zero_le _, Nat.zero_le _⟩) (fun H locs h => ?_)
                        exact fg_reti hx hb hr hlk hK h hf dX3_change_162
                      · have hf := fg_ifF hf hc
                        refine lv_aload_n hx hb dX3_change_144 rfl (lv_at hl 0 rfl) ?_
                        refine fg_get (C := RX3) (T := TX3) (N := 7) S vu_X3 hK h fg_p3_0 rfl rfl 0 (by decide) vf_RX3_10 rfl rfl dX3_change_145 ?_
                        refine fg_get (C := RX2) (T := TX2) (N := 16) S vu_X2 hK h (fg_p2_0 (by decide)) rfl rfl 10 (by decide) vf_RX3_119 rfl rfl dX3_change_148 ?_
                        refine lv_iload_n hx hb dX3_change_151 rfl (lv_at hl 1 rfl) ?_
                        refine lv_iload_n hx hb dX3_change_152 rfl (lv_at hl 3 rfl) ?_
                        obtain ⟨r135, w133, hc134, hf⟩ := fg_biE hf
                        refine fg_ci h (fg_runS (rest := []) S hK h (c_X3_exchange l D g 2 0 9 8 a1 a3 (fg_p2_9 (by decide)) (fun _ => rfl) w127 r135 w133 hc134) vk_X3_exchange vm_RX3_59 vs_X3_exchange vi_RX3 vd_X3_exchange.2 ⟨by decide, by decide⟩ rfl hl.1 rfl (Nat.le_of_ble_eq_true rfl) dX3_change_153 ⟨Nat.zero_le _, Nat.zero_le _⟩) (fun H locs h => ?_)
                        exact fg_reti hx hb hr hlk hK h hf dX3_change_156
                  · have hf := fg_ifF hf hc
                    refine lv_aload_n hx hb dX3_change_115 rfl (lv_at hl 0 rfl) ?_
                    refine fg_get (C := RX3) (T := TX3) (N := 7) S vu_X3 hK h fg_p3_0 rfl rfl 0 (by decide) vf_RX3_10 rfl rfl dX3_change_116 ?_
                    refine fg_get (C := RX2) (T := TX2) (N := 16) S vu_X2 hK h (fg_p2_0 (by decide)) rfl rfl 9 (by decide) vf_RX3_116 rfl rfl dX3_change_119 ?_
                    refine lv_iload_n hx hb dX3_change_122 rfl (lv_at hl 1 rfl) ?_
                    refine lv_iload_n hx hb dX3_change_123 rfl (lv_at hl 3 rfl) ?_
                    obtain ⟨r138, w136, hc137, hf⟩ := fg_biE hf
                    refine fg_ci h (fg_runS (rest := []) S hK h (c_X3_exchange l D g 2 0 8 8 a1 a3 (fg_p2_8 (by decide)) (fun _ => rfl) w121 r138 w136 hc137) vk_X3_exchange vm_RX3_59 vs_X3_exchange vi_RX3 vd_X3_exchange.2 ⟨by decide, by decide⟩ rfl hl.1 rfl (Nat.le_of_ble_eq_true rfl) dX3_change_124 ⟨Nat.zero_le _, Nat.zero_le _⟩) (fun H locs h => ?_)
                    exact fg_reti hx hb hr hlk hK h hf dX3_change_127
              · have hf := fg_ifF hf hc
                refine lv_aload_n hx hb dX3_change_86 rfl (lv_at hl 0 rfl) ?_
                refine fg_get (C := RX3) (T := TX3) (N := 7) S vu_X3 hK h fg_p3_0 rfl rfl 0 (by decide) vf_RX3_10 rfl rfl dX3_change_87 ?_
                refine fg_get (C := RX2) (T := TX2) (N := 16) S vu_X2 hK h (fg_p2_0 (by decide)) rfl rfl 8 (by decide) vf_RX3_113 rfl rfl dX3_change_90 ?_
                refine lv_iload_n hx hb dX3_change_93 rfl (lv_at hl 1 rfl) ?_
                refine lv_iload_n hx hb dX3_change_94 rfl (lv_at hl 3 rfl) ?_
                obtain ⟨r141, w139, hc140, hf⟩ := fg_biE hf
                refine fg_ci h (fg_runS (rest := []) S hK h (c_X3_exchange l D g 2 0 7 8 a1 a3 (fg_p2_7 (by decide)) (fun _ => rfl) w106 r141 w139 hc140) vk_X3_exchange vm_RX3_59 vs_X3_exchange vi_RX3 vd_X3_exchange.2 ⟨by decide, by decide⟩ rfl hl.1 rfl (Nat.le_of_ble_eq_true rfl) dX3_change_95 ⟨Nat.zero_le _, Nat.zero_le _⟩) (fun H locs h => ?_)
                exact fg_reti hx hb hr hlk hK h hf dX3_change_98
          · have hf := fg_ifF hf hc
            refine lv_aload_n hx hb dX3_change_58 rfl (lv_at hl 0 rfl) ?_
            refine fg_get (C := RX3) (T := TX3) (N := 7) S vu_X3 hK h fg_p3_0 rfl rfl 0 (by decide) vf_RX3_10 rfl rfl dX3_change_59 ?_
            refine fg_get (C := RX2) (T := TX2) (N := 16) S vu_X2 hK h (fg_p2_0 (by decide)) rfl rfl 7 (by decide) vf_RX3_110 rfl rfl dX3_change_62 ?_
            refine lv_iload_n hx hb dX3_change_65 rfl (lv_at hl 1 rfl) ?_
            refine lv_iload_n hx hb dX3_change_66 rfl (lv_at hl 3 rfl) ?_
            obtain ⟨r144, w142, hc143, hf⟩ := fg_biE hf
            refine fg_ci h (fg_runS (rest := []) S hK h (c_X3_exchange l D g 2 0 6 8 a1 a3 (fg_p2_6 (by decide)) (fun _ => rfl) w73 r144 w142 hc143) vk_X3_exchange vm_RX3_59 vs_X3_exchange vi_RX3 vd_X3_exchange.2 ⟨by decide, by decide⟩ rfl hl.1 rfl (Nat.le_of_ble_eq_true rfl) dX3_change_67 ⟨Nat.zero_le _, Nat.zero_le _⟩) (fun H locs h => ?_)
            exact fg_reti hx hb hr hlk hK h hf dX3_change_70
    · have hf := fg_ifT hf hc
      refine lv_iload_n hx hb dX3_change_21 rfl (lv_at hl 3 rfl) ?_
      obtain ⟨r147, w145, hc146, hf⟩ := fg_biE hf
      refine fg_ci h (fg_runS (rest := []) S hK h (c_X3_isKind l D g a3  w1 r147 w145 hc146) vk_X3_isKind vm_RX3_85 vs_X3_isKind vi_RX3 vd_X3_isKind.2 ⟨by decide, by decide⟩ rfl hl.1 rfl (Nat.le_of_ble_eq_true rfl) dX3_change_22 ⟨Nat.zero_le _, Nat.zero_le _⟩) (fun H locs h => ?_)
      refine lv_if_eq (tgt := 41) hx hb dX3_change_25 (by decide) (fun hc => ?_) (fun hc => ?_)
      · have hf := fg_ifT hf hc
        refine lv_iload_n hx hb dX3_change_41 rfl (lv_at hl 2 rfl) ?_
        refine lv_iconst (v := 1) hx hb dX3_change_42 rfl ?_
        refine lv_icmp_ne (tgt := 71) hx hb dX3_change_43 (by decide) (fun hc => ?_) (fun hc => ?_)
        · have hf := fg_ifF hf hc
          refine lv_iload_n hx hb dX3_change_71 rfl (lv_at hl 2 rfl) ?_
          refine lv_iconst (v := 2) hx hb dX3_change_72 rfl ?_
          refine lv_icmp_ne (tgt := 99) hx hb dX3_change_73 (by decide) (fun hc => ?_) (fun hc => ?_)
          · have hf := fg_ifF hf hc
            refine lv_iload_n hx hb dX3_change_99 rfl (lv_at hl 2 rfl) ?_
            refine lv_iconst (v := 3) hx hb dX3_change_100 rfl ?_
            refine lv_icmp_ne (tgt := 128) hx hb dX3_change_101 (by decide) (fun hc => ?_) (fun hc => ?_)
            · have hf := fg_ifF hf hc
              refine lv_iload_n hx hb dX3_change_128 rfl (lv_at hl 2 rfl) ?_
              refine lv_iconst (v := 4) hx hb dX3_change_129 rfl ?_
              refine lv_icmp_ne (tgt := 157) hx hb dX3_change_130 (by decide) (fun hc => ?_) (fun hc => ?_)
              · have hf := fg_ifF hf hc
                refine lv_aload_n hx hb dX3_change_157 rfl (lv_at hl 0 rfl) ?_
                refine lv_iconst (v := 0) hx hb dX3_change_158 rfl ?_
                obtain ⟨r150, w148, hc149, hf⟩ := fg_biE hf
                refine fg_ci h (fg_runV (rest := []) S hK h (c_X3_finding l D g 0  w145 r150 w148 hc149) vg_RX3_48 vd_X3_finding ⟨by decide, by decide⟩ fg_p3_0 rfl rfl rfl hl.1 rfl (Nat.le_of_ble_eq_true rfl) dX3_change_159 ⟨Nat.zero_le _, Nat.zero_le _⟩) (fun H locs h => ?_)
                exact fg_reti hx hb hr hlk hK h hf dX3_change_162
              · have hf := fg_ifT hf hc
                refine lv_iload_n hx hb dX3_change_133 rfl (lv_at hl 3 rfl) ?_
                refine lv_iconst (v := 0) hx hb dX3_change_134 rfl ?_
                refine lv_sipush (v := 9999) hx hb dX3_change_135 rfl ?_
                obtain ⟨r153, w151, hc152, hf⟩ := fg_biE hf
                refine fg_ci h (fg_runS (rest := []) S hK h (c_X3_within l D g a3 0 9999  w145 r153 w151 hc152) vk_X3_within vm_RX3_52 vs_X3_within vi_RX3 vd_X3_within.2 ⟨by decide, by decide⟩ rfl hl.1 rfl (Nat.le_of_ble_eq_true rfl) dX3_change_138 ⟨Nat.zero_le _, Nat.zero_le _⟩) (fun H locs h => ?_)
                refine lv_if_eq (tgt := 157) hx hb dX3_change_141 (by decide) (fun hc => ?_) (fun hc => ?_)
                · have hf := fg_ifT hf hc
                  refine lv_aload_n hx hb dX3_change_157 rfl (lv_at hl 0 rfl) ?_
                  refine lv_iconst (v := 0) hx hb dX3_change_158 rfl ?_
                  obtain ⟨r156, w154, hc155, hf⟩ := fg_biE hf
                  refine fg_ci h (fg_runV (rest := []) S hK h (c_X3_finding l D g 0  w151 r156 w154 hc155) vg_RX3_48 vd_X3_finding ⟨by decide, by decide⟩ fg_p3_0 rfl rfl rfl hl.1 rfl (Nat.le_of_ble_eq_true rfl) dX3_change_159 ⟨Nat.zero_le _, Nat.zero_le _⟩) (fun H locs h => ?_)
                  exact fg_reti hx hb hr hlk hK h hf dX3_change_162
                · have hf := fg_ifF hf hc
                  refine lv_aload_n hx hb dX3_change_144 rfl (lv_at hl 0 rfl) ?_
                  refine fg_get (C := RX3) (T := TX3) (N := 7) S vu_X3 hK h fg_p3_0 rfl rfl 0 (by decide) vf_RX3_10 rfl rfl dX3_change_145 ?_
                  refine fg_get (C := RX2) (T := TX2) (N := 16) S vu_X2 hK h (fg_p2_0 (by decide)) rfl rfl 10 (by decide) vf_RX3_119 rfl rfl dX3_change_148 ?_
                  refine lv_iload_n hx hb dX3_change_151 rfl (lv_at hl 1 rfl) ?_
                  refine lv_iload_n hx hb dX3_change_152 rfl (lv_at hl 3 rfl) ?_
                  obtain ⟨r159, w157, hc158, hf⟩ := fg_biE hf
                  refine fg_ci h (fg_runS (rest := []) S hK h (c_X3_exchange l D g 2 0 9 8 a1 a3 (fg_p2_9 (by decide)) (fun _ => rfl) w151 r159 w157 hc158) vk_X3_exchange vm_RX3_59 vs_X3_exchange vi_RX3 vd_X3_exchange.2 ⟨by decide, by decide⟩ rfl hl.1 rfl (Nat.le_of_ble_eq_true rfl) dX3_change_153 ⟨Nat.zero_le _, Nat.zero_le _⟩) (fun H locs h => ?_)
                  exact fg_reti hx hb hr hlk hK h hf dX3_change_156
            · have hf := fg_ifT hf hc
              refine lv_iload_n hx hb dX3_change_104 rfl (lv_at hl 3 rfl) ?_
              refine lv_iconst (v := 0) hx hb dX3_change_105 rfl ?_
              refine lv_sipush (v := 9999) hx hb dX3_change_106 rfl ?_
              obtain ⟨r162, w160, hc161, hf⟩ := fg_biE hf
              refine fg_ci h (fg_runS (rest := []) S hK h (c_X3_within l D g a3 0 9999  w145 r162 w160 hc161) vk_X3_within vm_RX3_52 vs_X3_within vi_RX3 vd_X3_within.2 ⟨by decide, by decide⟩ rfl hl.1 rfl (Nat.le_of_ble_eq_true rfl) dX3_change_109 ⟨Nat.zero_le _, Nat.zero_le _⟩) (fun H locs h => ?_)
              refine lv_if_eq (tgt := 128) hx hb dX3_change_112 (by decide) (fun hc => ?_) (fun hc => ?_)
              · have hf := fg_ifT hf hc
                refine lv_iload_n hx hb dX3_change_128 rfl (lv_at hl 2 rfl) ?_
                refine lv_iconst (v := 4) hx hb dX3_change_129 rfl ?_
                refine lv_icmp_ne (tgt := 157) hx hb dX3_change_130 (by decide) (fun hc => ?_) (fun hc => ?_)
                · have hf := fg_ifF hf hc
                  refine lv_aload_n hx hb dX3_change_157 rfl (lv_at hl 0 rfl) ?_
                  refine lv_iconst (v := 0) hx hb dX3_change_158 rfl ?_
                  obtain ⟨r165, w163, hc164, hf⟩ := fg_biE hf
                  refine fg_ci h (fg_runV (rest := []) S hK h (c_X3_finding l D g 0  w160 r165 w163 hc164) vg_RX3_48 vd_X3_finding ⟨by decide, by decide⟩ fg_p3_0 rfl rfl rfl hl.1 rfl (Nat.le_of_ble_eq_true rfl) dX3_change_159 ⟨Nat.zero_le _, Nat.zero_le _⟩) (fun H locs h => ?_)
                  exact fg_reti hx hb hr hlk hK h hf dX3_change_162
                · have hf := fg_ifT hf hc
                  refine lv_iload_n hx hb dX3_change_133 rfl (lv_at hl 3 rfl) ?_
                  refine lv_iconst (v := 0) hx hb dX3_change_134 rfl ?_
                  refine lv_sipush (v := 9999) hx hb dX3_change_135 rfl ?_
                  obtain ⟨r168, w166, hc167, hf⟩ := fg_biE hf
                  refine fg_ci h (fg_runS (rest := []) S hK h (c_X3_within l D g a3 0 9999  w160 r168 w166 hc167) vk_X3_within vm_RX3_52 vs_X3_within vi_RX3 vd_X3_within.2 ⟨by decide, by decide⟩ rfl hl.1 rfl (Nat.le_of_ble_eq_true rfl) dX3_change_138 ⟨Nat.zero_le _, Nat.zero_le _⟩) (fun H locs h => ?_)
                  refine lv_if_eq (tgt := 157) hx hb dX3_change_141 (by decide) (fun hc => ?_) (fun hc => ?_)
                  · have hf := fg_ifT hf hc
                    refine lv_aload_n hx hb dX3_change_157 rfl (lv_at hl 0 rfl) ?_
                    refine lv_iconst (v := 0) hx hb dX3_change_158 rfl ?_
                    obtain ⟨r171, w169, hc170, hf⟩ := fg_biE hf
                    refine fg_ci h (fg_runV (rest := []) S hK h (c_X3_finding l D g 0  w166 r171 w169 hc170) vg_RX3_48 vd_X3_finding ⟨by decide, by decide⟩ fg_p3_0 rfl rfl rfl hl.1 rfl (Nat.le_of_ble_eq_true rfl) dX3_change_159 ⟨Nat.zero_le _, Nat.zero_le _⟩) (fun H locs h => ?_)
                    exact fg_reti hx hb hr hlk hK h hf dX3_change_162
                  · have hf := fg_ifF hf hc
                    refine lv_aload_n hx hb dX3_change_144 rfl (lv_at hl 0 rfl) ?_
                    refine fg_get (C := RX3) (T := TX3) (N := 7) S vu_X3 hK h fg_p3_0 rfl rfl 0 (by decide) vf_RX3_10 rfl rfl dX3_change_145 ?_
                    refine fg_get (C := RX2) (T := TX2) (N := 16) S vu_X2 hK h (fg_p2_0 (by decide)) rfl rfl 10 (by decide) vf_RX3_119 rfl rfl dX3_change_148 ?_
                    refine lv_iload_n hx hb dX3_change_151 rfl (lv_at hl 1 rfl) ?_
                    refine lv_iload_n hx hb dX3_change_152 rfl (lv_at hl 3 rfl) ?_
                    obtain ⟨r174, w172, hc173, hf⟩ := fg_biE hf
                    refine fg_ci h (fg_runS (rest := []) S hK h (c_X3_exchange l D g 2 0 9 8 a1 a3 (fg_p2_9 (by decide)) (fun _ => rfl) w166 r174 w172 hc173) vk_X3_exchange vm_RX3_59 vs_X3_exchange vi_RX3 vd_X3_exchange.2 ⟨by decide, by decide⟩ rfl hl.1 rfl (Nat.le_of_ble_eq_true rfl) dX3_change_153 ⟨Nat.zero_le _, Nat.zero_le _⟩) (fun H locs h => ?_)
                    exact fg_reti hx hb hr hlk hK h hf dX3_change_156
              · have hf := fg_ifF hf hc
                refine lv_aload_n hx hb dX3_change_115 rfl (lv_at hl 0 rfl) ?_
                refine fg_get (C := RX3) (T := TX3) (N := 7) S vu_X3 hK h fg_p3_0 rfl rfl 0 (by decide) vf_RX3_10 rfl rfl dX3_change_116 ?_
                refine fg_get (C := RX2) (T := TX2) (N := 16) S vu_X2 hK h (fg_p2_0 (by decide)) rfl rfl 9 (by decide) vf_RX3_116 rfl rfl dX3_change_119 ?_
                refine lv_iload_n hx hb dX3_change_122 rfl (lv_at hl 1 rfl) ?_
                refine lv_iload_n hx hb dX3_change_123 rfl (lv_at hl 3 rfl) ?_
                obtain ⟨r177, w175, hc176, hf⟩ := fg_biE hf
                refine fg_ci h (fg_runS (rest := []) S hK h (c_X3_exchange l D g 2 0 8 8 a1 a3 (fg_p2_8 (by decide)) (fun _ => rfl) w160 r177 w175 hc176) vk_X3_exchange vm_RX3_59 vs_X3_exchange vi_RX3 vd_X3_exchange.2 ⟨by decide, by decide⟩ rfl hl.1 rfl (Nat.le_of_ble_eq_true rfl) dX3_change_124 ⟨Nat.zero_le _, Nat.zero_le _⟩) (fun H locs h => ?_)
                exact fg_reti hx hb hr hlk hK h hf dX3_change_127
          · have hf := fg_ifT hf hc
            refine lv_iload_n hx hb dX3_change_76 rfl (lv_at hl 3 rfl) ?_
            refine lv_iconst (v := 0) hx hb dX3_change_77 rfl ?_
            refine lv_bipush (v := 99) hx hb dX3_change_78 rfl ?_
            obtain ⟨r180, w178, hc179, hf⟩ := fg_biE hf
            refine fg_ci h (fg_runS (rest := []) S hK h (c_X3_within l D g a3 0 99  w145 r180 w178 hc179) vk_X3_within vm_RX3_52 vs_X3_within vi_RX3 vd_X3_within.2 ⟨by decide, by decide⟩ rfl hl.1 rfl (Nat.le_of_ble_eq_true rfl) dX3_change_80 ⟨Nat.zero_le _, Nat.zero_le _⟩) (fun H locs h => ?_)
            refine lv_if_eq (tgt := 99) hx hb dX3_change_83 (by decide) (fun hc => ?_) (fun hc => ?_)
            · have hf := fg_ifT hf hc
              refine lv_iload_n hx hb dX3_change_99 rfl (lv_at hl 2 rfl) ?_
              refine lv_iconst (v := 3) hx hb dX3_change_100 rfl ?_
              refine lv_icmp_ne (tgt := 128) hx hb dX3_change_101 (by decide) (fun hc => ?_) (fun hc => ?_)
              · have hf := fg_ifF hf hc
                refine lv_iload_n hx hb dX3_change_128 rfl (lv_at hl 2 rfl) ?_
                refine lv_iconst (v := 4) hx hb dX3_change_129 rfl ?_
                refine lv_icmp_ne (tgt := 157) hx hb dX3_change_130 (by decide) (fun hc => ?_) (fun hc => ?_)
                · have hf := fg_ifF hf hc
                  refine lv_aload_n hx hb dX3_change_157 rfl (lv_at hl 0 rfl) ?_
                  refine lv_iconst (v := 0) hx hb dX3_change_158 rfl ?_
                  obtain ⟨r183, w181, hc182, hf⟩ := fg_biE hf
                  refine fg_ci h (fg_runV (rest := []) S hK h (c_X3_finding l D g 0  w178 r183 w181 hc182) vg_RX3_48 vd_X3_finding ⟨by decide, by decide⟩ fg_p3_0 rfl rfl rfl hl.1 rfl (Nat.le_of_ble_eq_true rfl) dX3_change_159 ⟨Nat.zero_le _, Nat.zero_le _⟩) (fun H locs h => ?_)
                  exact fg_reti hx hb hr hlk hK h hf dX3_change_162
                · have hf := fg_ifT hf hc
                  refine lv_iload_n hx hb dX3_change_133 rfl (lv_at hl 3 rfl) ?_
                  refine lv_iconst (v := 0) hx hb dX3_change_134 rfl ?_
                  refine lv_sipush (v := 9999) hx hb dX3_change_135 rfl ?_
                  obtain ⟨r186, w184, hc185, hf⟩ := fg_biE hf
                  refine fg_ci h (fg_runS (rest := []) S hK h (c_X3_within l D g a3 0 9999  w178 r186 w184 hc185) vk_X3_within vm_RX3_52 vs_X3_within vi_RX3 vd_X3_within.2 ⟨by decide, by decide⟩ rfl hl.1 rfl (Nat.le_of_ble_eq_true rfl) dX3_change_138 ⟨Nat.zero_le _, Nat.zero_le _⟩) (fun H locs h => ?_)
                  refine lv_if_eq (tgt := 157) hx hb dX3_change_141 (by decide) (fun hc => ?_) (fun hc => ?_)
                  · have hf := fg_ifT hf hc
                    refine lv_aload_n hx hb dX3_change_157 rfl (lv_at hl 0 rfl) ?_
                    refine lv_iconst (v := 0) hx hb dX3_change_158 rfl ?_
                    obtain ⟨r189, w187, hc188, hf⟩ := fg_biE hf
                    refine fg_ci h (fg_runV (rest := []) S hK h (c_X3_finding l D g 0  w184 r189 w187 hc188) vg_RX3_48 vd_X3_finding ⟨by decide, by decide⟩ fg_p3_0 rfl rfl rfl hl.1 rfl (Nat.le_of_ble_eq_true rfl) dX3_change_159 ⟨Nat.zero_le _, Nat.zero_le _⟩) (fun H locs h => ?_)
                    exact fg_reti hx hb hr hlk hK h hf dX3_change_162
                  · have hf := fg_ifF hf hc
                    refine lv_aload_n hx hb dX3_change_144 rfl (lv_at hl 0 rfl) ?_
                    refine fg_get (C := RX3) (T := TX3) (N := 7) S vu_X3 hK h fg_p3_0 rfl rfl 0 (by decide) vf_RX3_10 rfl rfl dX3_change_145 ?_
                    refine fg_get (C := RX2) (T := TX2) (N := 16) S vu_X2 hK h (fg_p2_0 (by decide)) rfl rfl 10 (by decide) vf_RX3_119 rfl rfl dX3_change_148 ?_
                    refine lv_iload_n hx hb dX3_change_151 rfl (lv_at hl 1 rfl) ?_
                    refine lv_iload_n hx hb dX3_change_152 rfl (lv_at hl 3 rfl) ?_
                    obtain ⟨r192, w190, hc191, hf⟩ := fg_biE hf
                    refine fg_ci h (fg_runS (rest := []) S hK h (c_X3_exchange l D g 2 0 9 8 a1 a3 (fg_p2_9 (by decide)) (fun _ => rfl) w184 r192 w190 hc191) vk_X3_exchange vm_RX3_59 vs_X3_exchange vi_RX3 vd_X3_exchange.2 ⟨by decide, by decide⟩ rfl hl.1 rfl (Nat.le_of_ble_eq_true rfl) dX3_change_153 ⟨Nat.zero_le _, Nat.zero_le _⟩) (fun H locs h => ?_)
                    exact fg_reti hx hb hr hlk hK h hf dX3_change_156
              · have hf := fg_ifT hf hc
                refine lv_iload_n hx hb dX3_change_104 rfl (lv_at hl 3 rfl) ?_
                refine lv_iconst (v := 0) hx hb dX3_change_105 rfl ?_
                refine lv_sipush (v := 9999) hx hb dX3_change_106 rfl ?_
                obtain ⟨r195, w193, hc194, hf⟩ := fg_biE hf
                refine fg_ci h (fg_runS (rest := []) S hK h (c_X3_within l D g a3 0 9999  w178 r195 w193 hc194) vk_X3_within vm_RX3_52 vs_X3_within vi_RX3 vd_X3_within.2 ⟨by decide, by decide⟩ rfl hl.1 rfl (Nat.le_of_ble_eq_true rfl) dX3_change_109 ⟨Nat.zero_le _, Nat.zero_le _⟩) (fun H locs h => ?_)
                refine lv_if_eq (tgt := 128) hx hb dX3_change_112 (by decide) (fun hc => ?_) (fun hc => ?_)
                · have hf := fg_ifT hf hc
                  refine lv_iload_n hx hb dX3_change_128 rfl (lv_at hl 2 rfl) ?_
                  refine lv_iconst (v := 4) hx hb dX3_change_129 rfl ?_
                  refine lv_icmp_ne (tgt := 157) hx hb dX3_change_130 (by decide) (fun hc => ?_) (fun hc => ?_)
                  · have hf := fg_ifF hf hc
                    refine lv_aload_n hx hb dX3_change_157 rfl (lv_at hl 0 rfl) ?_
                    refine lv_iconst (v := 0) hx hb dX3_change_158 rfl ?_
                    obtain ⟨r198, w196, hc197, hf⟩ := fg_biE hf
                    refine fg_ci h (fg_runV (rest := []) S hK h (c_X3_finding l D g 0  w193 r198 w196 hc197) vg_RX3_48 vd_X3_finding ⟨by decide, by decide⟩ fg_p3_0 rfl rfl rfl hl.1 rfl (Nat.le_of_ble_eq_true rfl) dX3_change_159 ⟨Nat.zero_le _, Nat.zero_le _⟩) (fun H locs h => ?_)
                    exact fg_reti hx hb hr hlk hK h hf dX3_change_162
                  · have hf := fg_ifT hf hc
                    refine lv_iload_n hx hb dX3_change_133 rfl (lv_at hl 3 rfl) ?_
                    refine lv_iconst (v := 0) hx hb dX3_change_134 rfl ?_
                    refine lv_sipush (v := 9999) hx hb dX3_change_135 rfl ?_
                    obtain ⟨r201, w199, hc200, hf⟩ := fg_biE hf
                    refine fg_ci h (fg_runS (rest := []) S hK h (c_X3_within l D g a3 0 9999  w193 r201 w199 hc200) vk_X3_within vm_RX3_52 vs_X3_within vi_RX3 vd_X3_within.2 ⟨by decide, by decide⟩ rfl hl.1 rfl (Nat.le_of_ble_eq_true rfl) dX3_change_138 ⟨Nat.zero_le _, Nat.zero_le _⟩) (fun H locs h => ?_)
                    refine lv_if_eq (tgt := 157) hx hb dX3_change_141 (by decide) (fun hc => ?_) (fun hc => ?_)
                    · have hf := fg_ifT hf hc
                      refine lv_aload_n hx hb dX3_change_157 rfl (lv_at hl 0 rfl) ?_
                      refine lv_iconst (v := 0) hx hb dX3_change_158 rfl ?_
                      obtain ⟨r204, w202, hc203, hf⟩ := fg_biE hf
                      refine fg_ci h (fg_runV (rest := []) S hK h (c_X3_finding l D g 0  w199 r204 w202 hc203) vg_RX3_48 vd_X3_finding ⟨by decide, by decide⟩ fg_p3_0 rfl rfl rfl hl.1 rfl (Nat.le_of_ble_eq_true rfl) dX3_change_159 ⟨Nat.zero_le _, Nat.zero_le _⟩) (fun H locs h => ?_)
                      exact fg_reti hx hb hr hlk hK h hf dX3_change_162
                    · have hf := fg_ifF hf hc
                      refine lv_aload_n hx hb dX3_change_144 rfl (lv_at hl 0 rfl) ?_
                      refine fg_get (C := RX3) (T := TX3) (N := 7) S vu_X3 hK h fg_p3_0 rfl rfl 0 (by decide) vf_RX3_10 rfl rfl dX3_change_145 ?_
                      refine fg_get (C := RX2) (T := TX2) (N := 16) S vu_X2 hK h (fg_p2_0 (by decide)) rfl rfl 10 (by decide) vf_RX3_119 rfl rfl dX3_change_148 ?_
                      refine lv_iload_n hx hb dX3_change_151 rfl (lv_at hl 1 rfl) ?_
                      refine lv_iload_n hx hb dX3_change_152 rfl (lv_at hl 3 rfl) ?_
                      obtain ⟨r207, w205, hc206, hf⟩ := fg_biE hf
                      refine fg_ci h (fg_runS (rest := []) S hK h (c_X3_exchange l D g 2 0 9 8 a1 a3 (fg_p2_9 (by decide)) (fun _ => rfl) w199 r207 w205 hc206) vk_X3_exchange vm_RX3_59 vs_X3_exchange vi_RX3 vd_X3_exchange.2 ⟨by decide, by decide⟩ rfl hl.1 rfl (Nat.le_of_ble_eq_true rfl) dX3_change_153 ⟨Nat.zero_le _, Nat.zero_le _⟩) (fun H locs h => ?_)
                      exact fg_reti hx hb hr hlk hK h hf dX3_change_156
                · have hf := fg_ifF hf hc
                  refine lv_aload_n hx hb dX3_change_115 rfl (lv_at hl 0 rfl) ?_
                  refine fg_get (C := RX3) (T := TX3) (N := 7) S vu_X3 hK h fg_p3_0 rfl rfl 0 (by decide) vf_RX3_10 rfl rfl dX3_change_116 ?_
                  refine fg_get (C := RX2) (T := TX2) (N := 16) S vu_X2 hK h (fg_p2_0 (by decide)) rfl rfl 9 (by decide) vf_RX3_116 rfl rfl dX3_change_119 ?_
                  refine lv_iload_n hx hb dX3_change_122 rfl (lv_at hl 1 rfl) ?_
                  refine lv_iload_n hx hb dX3_change_123 rfl (lv_at hl 3 rfl) ?_
                  obtain ⟨r210, w208, hc209, hf⟩ := fg_biE hf
                  refine fg_ci h (fg_runS (rest := []) S hK h (c_X3_exchange l D g 2 0 8 8 a1 a3 (fg_p2_8 (by decide)) (fun _ => rfl) w193 r210 w208 hc209) vk_X3_exchange vm_RX3_59 vs_X3_exchange vi_RX3 vd_X3_exchange.2 ⟨by decide, by decide⟩ rfl hl.1 rfl (Nat.le_of_ble_eq_true rfl) dX3_change_124 ⟨Nat.zero_le _, Nat.zero_le _⟩) (fun H locs h => ?_)
                  exact fg_reti hx hb hr hlk hK h hf dX3_change_127
            · have hf := fg_ifF hf hc
              refine lv_aload_n hx hb dX3_change_86 rfl (lv_at hl 0 rfl) ?_
              refine fg_get (C := RX3) (T := TX3) (N := 7) S vu_X3 hK h fg_p3_0 rfl rfl 0 (by decide) vf_RX3_10 rfl rfl dX3_change_87 ?_
              refine fg_get (C := RX2) (T := TX2) (N := 16) S vu_X2 hK h (fg_p2_0 (by decide)) rfl rfl 8 (by decide) vf_RX3_113 rfl rfl dX3_change_90 ?_
              refine lv_iload_n hx hb dX3_change_93 rfl (lv_at hl 1 rfl) ?_
              refine lv_iload_n hx hb dX3_change_94 rfl (lv_at hl 3 rfl) ?_
              obtain ⟨r213, w211, hc212, hf⟩ := fg_biE hf
              refine fg_ci h (fg_runS (rest := []) S hK h (c_X3_exchange l D g 2 0 7 8 a1 a3 (fg_p2_7 (by decide)) (fun _ => rfl) w178 r213 w211 hc212) vk_X3_exchange vm_RX3_59 vs_X3_exchange vi_RX3 vd_X3_exchange.2 ⟨by decide, by decide⟩ rfl hl.1 rfl (Nat.le_of_ble_eq_true rfl) dX3_change_95 ⟨Nat.zero_le _, Nat.zero_le _⟩) (fun H locs h => ?_)
              exact fg_reti hx hb hr hlk hK h hf dX3_change_98
        · have hf := fg_ifT hf hc
          refine lv_iload_n hx hb dX3_change_46 rfl (lv_at hl 3 rfl) ?_
          refine lv_iconst (v := (-1)) hx hb dX3_change_47 rfl ?_
          refine lv_icmp_eq (tgt := 58) hx hb dX3_change_48 (by decide) (fun hc => ?_) (fun hc => ?_)
          · have hf := fg_ifT hf hc
            refine lv_aload_n hx hb dX3_change_58 rfl (lv_at hl 0 rfl) ?_
            refine fg_get (C := RX3) (T := TX3) (N := 7) S vu_X3 hK h fg_p3_0 rfl rfl 0 (by decide) vf_RX3_10 rfl rfl dX3_change_59 ?_
            refine fg_get (C := RX2) (T := TX2) (N := 16) S vu_X2 hK h (fg_p2_0 (by decide)) rfl rfl 7 (by decide) vf_RX3_110 rfl rfl dX3_change_62 ?_
            refine lv_iload_n hx hb dX3_change_65 rfl (lv_at hl 1 rfl) ?_
            refine lv_iload_n hx hb dX3_change_66 rfl (lv_at hl 3 rfl) ?_
            obtain ⟨r216, w214, hc215, hf⟩ := fg_biE hf
            refine fg_ci h (fg_runS (rest := []) S hK h (c_X3_exchange l D g 2 0 6 8 a1 a3 (fg_p2_6 (by decide)) (fun _ => rfl) w145 r216 w214 hc215) vk_X3_exchange vm_RX3_59 vs_X3_exchange vi_RX3 vd_X3_exchange.2 ⟨by decide, by decide⟩ rfl hl.1 rfl (Nat.le_of_ble_eq_true rfl) dX3_change_67 ⟨Nat.zero_le _, Nat.zero_le _⟩) (fun H locs h => ?_)
            exact fg_reti hx hb hr hlk hK h hf dX3_change_70
          · have hf := fg_ifF hf hc
            refine lv_iload_n hx hb dX3_change_51 rfl (lv_at hl 3 rfl) ?_
            obtain ⟨r219, w217, hc218, hf⟩ := fg_biE hf
            refine fg_ci h (fg_runS (rest := []) S hK h (c_X3_isLot l D g a3  w145 r219 w217 hc218) vk_X3_isLot vm_RX3_44 vs_X3_isLot vi_RX3 vd_X3_isLot.2 ⟨by decide, by decide⟩ rfl hl.1 rfl (Nat.le_of_ble_eq_true rfl) dX3_change_52 ⟨Nat.zero_le _, Nat.zero_le _⟩) (fun H locs h => ?_)
            refine lv_if_eq (tgt := 71) hx hb dX3_change_55 (by decide) (fun hc => ?_) (fun hc => ?_)
            · have hf := fg_ifT hf hc
              refine lv_iload_n hx hb dX3_change_71 rfl (lv_at hl 2 rfl) ?_
              refine lv_iconst (v := 2) hx hb dX3_change_72 rfl ?_
              refine lv_icmp_ne (tgt := 99) hx hb dX3_change_73 (by decide) (fun hc => ?_) (fun hc => ?_)
              · have hf := fg_ifF hf hc
                refine lv_iload_n hx hb dX3_change_99 rfl (lv_at hl 2 rfl) ?_
                refine lv_iconst (v := 3) hx hb dX3_change_100 rfl ?_
                refine lv_icmp_ne (tgt := 128) hx hb dX3_change_101 (by decide) (fun hc => ?_) (fun hc => ?_)
                · have hf := fg_ifF hf hc
                  refine lv_iload_n hx hb dX3_change_128 rfl (lv_at hl 2 rfl) ?_
                  refine lv_iconst (v := 4) hx hb dX3_change_129 rfl ?_
                  refine lv_icmp_ne (tgt := 157) hx hb dX3_change_130 (by decide) (fun hc => ?_) (fun hc => ?_)
                  · have hf := fg_ifF hf hc
                    refine lv_aload_n hx hb dX3_change_157 rfl (lv_at hl 0 rfl) ?_
                    refine lv_iconst (v := 0) hx hb dX3_change_158 rfl ?_
                    obtain ⟨r222, w220, hc221, hf⟩ := fg_biE hf
                    refine fg_ci h (fg_runV (rest := []) S hK h (c_X3_finding l D g 0  w217 r222 w220 hc221) vg_RX3_48 vd_X3_finding ⟨by decide, by decide⟩ fg_p3_0 rfl rfl rfl hl.1 rfl (Nat.le_of_ble_eq_true rfl) dX3_change_159 ⟨Nat.zero_le _, Nat.zero_le _⟩) (fun H locs h => ?_)
                    exact fg_reti hx hb hr hlk hK h hf dX3_change_162
                  · have hf := fg_ifT hf hc
                    refine lv_iload_n hx hb dX3_change_133 rfl (lv_at hl 3 rfl) ?_
                    refine lv_iconst (v := 0) hx hb dX3_change_134 rfl ?_
                    refine lv_sipush (v := 9999) hx hb dX3_change_135 rfl ?_
                    obtain ⟨r225, w223, hc224, hf⟩ := fg_biE hf
                    refine fg_ci h (fg_runS (rest := []) S hK h (c_X3_within l D g a3 0 9999  w217 r225 w223 hc224) vk_X3_within vm_RX3_52 vs_X3_within vi_RX3 vd_X3_within.2 ⟨by decide, by decide⟩ rfl hl.1 rfl (Nat.le_of_ble_eq_true rfl) dX3_change_138 ⟨Nat.zero_le _, Nat.zero_le _⟩) (fun H locs h => ?_)
                    refine lv_if_eq (tgt := 157) hx hb dX3_change_141 (by decide) (fun hc => ?_) (fun hc => ?_)
                    · have hf := fg_ifT hf hc
                      refine lv_aload_n hx hb dX3_change_157 rfl (lv_at hl 0 rfl) ?_
                      refine lv_iconst (v := 0) hx hb dX3_change_158 rfl ?_
                      obtain ⟨r228, w226, hc227, hf⟩ := fg_biE hf
                      refine fg_ci h (fg_runV (rest := []) S hK h (c_X3_finding l D g 0  w223 r228 w226 hc227) vg_RX3_48 vd_X3_finding ⟨by decide, by decide⟩ fg_p3_0 rfl rfl rfl hl.1 rfl (Nat.le_of_ble_eq_true rfl) dX3_change_159 ⟨Nat.zero_le _, Nat.zero_le _⟩) (fun H locs h => ?_)
                      exact fg_reti hx hb hr hlk hK h hf dX3_change_162
                    · have hf := fg_ifF hf hc
                      refine lv_aload_n hx hb dX3_change_144 rfl (lv_at hl 0 rfl) ?_
                      refine fg_get (C := RX3) (T := TX3) (N := 7) S vu_X3 hK h fg_p3_0 rfl rfl 0 (by decide) vf_RX3_10 rfl rfl dX3_change_145 ?_
                      refine fg_get (C := RX2) (T := TX2) (N := 16) S vu_X2 hK h (fg_p2_0 (by decide)) rfl rfl 10 (by decide) vf_RX3_119 rfl rfl dX3_change_148 ?_
                      refine lv_iload_n hx hb dX3_change_151 rfl (lv_at hl 1 rfl) ?_
                      refine lv_iload_n hx hb dX3_change_152 rfl (lv_at hl 3 rfl) ?_
                      obtain ⟨r231, w229, hc230, hf⟩ := fg_biE hf
                      refine fg_ci h (fg_runS (rest := []) S hK h (c_X3_exchange l D g 2 0 9 8 a1 a3 (fg_p2_9 (by decide)) (fun _ => rfl) w223 r231 w229 hc230) vk_X3_exchange vm_RX3_59 vs_X3_exchange vi_RX3 vd_X3_exchange.2 ⟨by decide, by decide⟩ rfl hl.1 rfl (Nat.le_of_ble_eq_true rfl) dX3_change_153 ⟨Nat.zero_le _, Nat.zero_le _⟩) (fun H locs h => ?_)
                      exact fg_reti hx hb hr hlk hK h hf dX3_change_156
                · have hf := fg_ifT hf hc
                  refine lv_iload_n hx hb dX3_change_104 rfl (lv_at hl 3 rfl) ?_
                  refine lv_iconst (v := 0) hx hb dX3_change_105 rfl ?_
                  refine lv_sipush (v := 9999) hx hb dX3_change_106 rfl ?_
                  obtain ⟨r234, w232, hc233, hf⟩ := fg_biE hf
                  refine fg_ci h (fg_runS (rest := []) S hK h (c_X3_within l D g a3 0 9999  w217 r234 w232 hc233) vk_X3_within vm_RX3_52 vs_X3_within vi_RX3 vd_X3_within.2 ⟨by decide, by decide⟩ rfl hl.1 rfl (Nat.le_of_ble_eq_true rfl) dX3_change_109 ⟨Nat.zero_le _, Nat.zero_le _⟩) (fun H locs h => ?_)
                  refine lv_if_eq (tgt := 128) hx hb dX3_change_112 (by decide) (fun hc => ?_) (fun hc => ?_)
                  · have hf := fg_ifT hf hc
                    refine lv_iload_n hx hb dX3_change_128 rfl (lv_at hl 2 rfl) ?_
                    refine lv_iconst (v := 4) hx hb dX3_change_129 rfl ?_
                    refine lv_icmp_ne (tgt := 157) hx hb dX3_change_130 (by decide) (fun hc => ?_) (fun hc => ?_)
                    · have hf := fg_ifF hf hc
                      refine lv_aload_n hx hb dX3_change_157 rfl (lv_at hl 0 rfl) ?_
                      refine lv_iconst (v := 0) hx hb dX3_change_158 rfl ?_
                      obtain ⟨r237, w235, hc236, hf⟩ := fg_biE hf
                      refine fg_ci h (fg_runV (rest := []) S hK h (c_X3_finding l D g 0  w232 r237 w235 hc236) vg_RX3_48 vd_X3_finding ⟨by decide, by decide⟩ fg_p3_0 rfl rfl rfl hl.1 rfl (Nat.le_of_ble_eq_true rfl) dX3_change_159 ⟨Nat.zero_le _, Nat.zero_le _⟩) (fun H locs h => ?_)
                      exact fg_reti hx hb hr hlk hK h hf dX3_change_162
                    · have hf := fg_ifT hf hc
                      refine lv_iload_n hx hb dX3_change_133 rfl (lv_at hl 3 rfl) ?_
                      refine lv_iconst (v := 0) hx hb dX3_change_134 rfl ?_
                      refine lv_sipush (v := 9999) hx hb dX3_change_135 rfl ?_
                      obtain ⟨r240, w238, hc239, hf⟩ := fg_biE hf
                      refine fg_ci h (fg_runS (rest := []) S hK h (c_X3_within l D g a3 0 9999  w232 r240 w238 hc239) vk_X3_within vm_RX3_52 vs_X3_within vi_RX3 vd_X3_within.2 ⟨by decide, by decide⟩ rfl hl.1 rfl (Nat.le_of_ble_eq_true rfl) dX3_change_138 ⟨Nat.zero_le _, Nat.zero_le _⟩) (fun H locs h => ?_)
                      refine lv_if_eq (tgt := 157) hx hb dX3_change_141 (by decide) (fun hc => ?_) (fun hc => ?_)
                      · have hf := fg_ifT hf hc
                        refine lv_aload_n hx hb dX3_change_157 rfl (lv_at hl 0 rfl) ?_
                        refine lv_iconst (v := 0) hx hb dX3_change_158 rfl ?_
                        obtain ⟨r243, w241, hc242, hf⟩ := fg_biE hf
                        refine fg_ci h (fg_runV (rest := []) S hK h (c_X3_finding l D g 0  w238 r243 w241 hc242) vg_RX3_48 vd_X3_finding ⟨by decide, by decide⟩ fg_p3_0 rfl rfl rfl hl.1 rfl (Nat.le_of_ble_eq_true rfl) dX3_change_159 ⟨Nat.zero_le _, Nat.zero_le _⟩) (fun H locs h => ?_)
                        exact fg_reti hx hb hr hlk hK h hf dX3_change_162
                      · have hf := fg_ifF hf hc
                        refine lv_aload_n hx hb dX3_change_144 rfl (lv_at hl 0 rfl) ?_
                        refine fg_get (C := RX3) (T := TX3) (N := 7) S vu_X3 hK h fg_p3_0 rfl rfl 0 (by decide) vf_RX3_10 rfl rfl dX3_change_145 ?_
                        refine fg_get (C := RX2) (T := TX2) (N := 16) S vu_X2 hK h (fg_p2_0 (by decide)) rfl rfl 10 (by decide) vf_RX3_119 rfl rfl dX3_change_148 ?_
                        refine lv_iload_n hx hb dX3_change_151 rfl (lv_at hl 1 rfl) ?_
                        refine lv_iload_n hx hb dX3_change_152 rfl (lv_at hl 3 rfl) ?_
                        obtain ⟨r246, w244, hc245, hf⟩ := fg_biE hf
                        refine fg_ci h (fg_runS (rest := []) S hK h (c_X3_exchange l D g 2 0 9 8 a1 a3 (fg_p2_9 (by decide)) (fun _ => rfl) w238 r246 w244 hc245) vk_X3_exchange vm_RX3_59 vs_X3_exchange vi_RX3 vd_X3_exchange.2 ⟨by decide, by decide⟩ rfl hl.1 rfl (Nat.le_of_ble_eq_true rfl) dX3_change_153 ⟨Nat.zero_le _, Nat.zero_le _⟩) (fun H locs h => ?_)
                        exact fg_reti hx hb hr hlk hK h hf dX3_change_156
                  · have hf := fg_ifF hf hc
                    refine lv_aload_n hx hb dX3_change_115 rfl (lv_at hl 0 rfl) ?_
                    refine fg_get (C := RX3) (T := TX3) (N := 7) S vu_X3 hK h fg_p3_0 rfl rfl 0 (by decide) vf_RX3_10 rfl rfl dX3_change_116 ?_
                    refine fg_get (C := RX2) (T := TX2) (N := 16) S vu_X2 hK h (fg_p2_0 (by decide)) rfl rfl 9 (by decide) vf_RX3_116 rfl rfl dX3_change_119 ?_
                    refine lv_iload_n hx hb dX3_change_122 rfl (lv_at hl 1 rfl) ?_
                    refine lv_iload_n hx hb dX3_change_123 rfl (lv_at hl 3 rfl) ?_
                    obtain ⟨r249, w247, hc248, hf⟩ := fg_biE hf
                    refine fg_ci h (fg_runS (rest := []) S hK h (c_X3_exchange l D g 2 0 8 8 a1 a3 (fg_p2_8 (by decide)) (fun _ => rfl) w232 r249 w247 hc248) vk_X3_exchange vm_RX3_59 vs_X3_exchange vi_RX3 vd_X3_exchange.2 ⟨by decide, by decide⟩ rfl hl.1 rfl (Nat.le_of_ble_eq_true rfl) dX3_change_124 ⟨Nat.zero_le _, Nat.zero_le _⟩) (fun H locs h => ?_)
                    exact fg_reti hx hb hr hlk hK h hf dX3_change_127
              · have hf := fg_ifT hf hc
                refine lv_iload_n hx hb dX3_change_76 rfl (lv_at hl 3 rfl) ?_
                refine lv_iconst (v := 0) hx hb dX3_change_77 rfl ?_
                refine lv_bipush (v := 99) hx hb dX3_change_78 rfl ?_
                obtain ⟨r252, w250, hc251, hf⟩ := fg_biE hf
                refine fg_ci h (fg_runS (rest := []) S hK h (c_X3_within l D g a3 0 99  w217 r252 w250 hc251) vk_X3_within vm_RX3_52 vs_X3_within vi_RX3 vd_X3_within.2 ⟨by decide, by decide⟩ rfl hl.1 rfl (Nat.le_of_ble_eq_true rfl) dX3_change_80 ⟨Nat.zero_le _, Nat.zero_le _⟩) (fun H locs h => ?_)
                refine lv_if_eq (tgt := 99) hx hb dX3_change_83 (by decide) (fun hc => ?_) (fun hc => ?_)
                · have hf := fg_ifT hf hc
                  refine lv_iload_n hx hb dX3_change_99 rfl (lv_at hl 2 rfl) ?_
                  refine lv_iconst (v := 3) hx hb dX3_change_100 rfl ?_
                  refine lv_icmp_ne (tgt := 128) hx hb dX3_change_101 (by decide) (fun hc => ?_) (fun hc => ?_)
                  · have hf := fg_ifF hf hc
                    refine lv_iload_n hx hb dX3_change_128 rfl (lv_at hl 2 rfl) ?_
                    refine lv_iconst (v := 4) hx hb dX3_change_129 rfl ?_
                    refine lv_icmp_ne (tgt := 157) hx hb dX3_change_130 (by decide) (fun hc => ?_) (fun hc => ?_)
                    · have hf := fg_ifF hf hc
                      refine lv_aload_n hx hb dX3_change_157 rfl (lv_at hl 0 rfl) ?_
                      refine lv_iconst (v := 0) hx hb dX3_change_158 rfl ?_
                      obtain ⟨r255, w253, hc254, hf⟩ := fg_biE hf
                      refine fg_ci h (fg_runV (rest := []) S hK h (c_X3_finding l D g 0  w250 r255 w253 hc254) vg_RX3_48 vd_X3_finding ⟨by decide, by decide⟩ fg_p3_0 rfl rfl rfl hl.1 rfl (Nat.le_of_ble_eq_true rfl) dX3_change_159 ⟨Nat.zero_le _, Nat.zero_le _⟩) (fun H locs h => ?_)
                      exact fg_reti hx hb hr hlk hK h hf dX3_change_162
                    · have hf := fg_ifT hf hc
                      refine lv_iload_n hx hb dX3_change_133 rfl (lv_at hl 3 rfl) ?_
                      refine lv_iconst (v := 0) hx hb dX3_change_134 rfl ?_
                      refine lv_sipush (v := 9999) hx hb dX3_change_135 rfl ?_
                      obtain ⟨r258, w256, hc257, hf⟩ := fg_biE hf
                      refine fg_ci h (fg_runS (rest := []) S hK h (c_X3_within l D g a3 0 9999  w250 r258 w256 hc257) vk_X3_within vm_RX3_52 vs_X3_within vi_RX3 vd_X3_within.2 ⟨by decide, by decide⟩ rfl hl.1 rfl (Nat.le_of_ble_eq_true rfl) dX3_change_138 ⟨Nat.zero_le _, Nat.zero_le _⟩) (fun H locs h => ?_)
                      refine lv_if_eq (tgt := 157) hx hb dX3_change_141 (by decide) (fun hc => ?_) (fun hc => ?_)
                      · have hf := fg_ifT hf hc
                        refine lv_aload_n hx hb dX3_change_157 rfl (lv_at hl 0 rfl) ?_
                        refine lv_iconst (v := 0) hx hb dX3_change_158 rfl ?_
                        obtain ⟨r261, w259, hc260, hf⟩ := fg_biE hf
                        refine fg_ci h (fg_runV (rest := []) S hK h (c_X3_finding l D g 0  w256 r261 w259 hc260) vg_RX3_48 vd_X3_finding ⟨by decide, by decide⟩ fg_p3_0 rfl rfl rfl hl.1 rfl (Nat.le_of_ble_eq_true rfl) dX3_change_159 ⟨Nat.zero_le _, Nat.zero_le _⟩) (fun H locs h => ?_)
                        exact fg_reti hx hb hr hlk hK h hf dX3_change_162
                      · have hf := fg_ifF hf hc
                        refine lv_aload_n hx hb dX3_change_144 rfl (lv_at hl 0 rfl) ?_
                        refine fg_get (C := RX3) (T := TX3) (N := 7) S vu_X3 hK h fg_p3_0 rfl rfl 0 (by decide) vf_RX3_10 rfl rfl dX3_change_145 ?_
                        refine fg_get (C := RX2) (T := TX2) (N := 16) S vu_X2 hK h (fg_p2_0 (by decide)) rfl rfl 10 (by decide) vf_RX3_119 rfl rfl dX3_change_148 ?_
                        refine lv_iload_n hx hb dX3_change_151 rfl (lv_at hl 1 rfl) ?_
                        refine lv_iload_n hx hb dX3_change_152 rfl (lv_at hl 3 rfl) ?_
                        obtain ⟨r264, w262, hc263, hf⟩ := fg_biE hf
                        refine fg_ci h (fg_runS (rest := []) S hK h (c_X3_exchange l D g 2 0 9 8 a1 a3 (fg_p2_9 (by decide)) (fun _ => rfl) w256 r264 w262 hc263) vk_X3_exchange vm_RX3_59 vs_X3_exchange vi_RX3 vd_X3_exchange.2 ⟨by decide, by decide⟩ rfl hl.1 rfl (Nat.le_of_ble_eq_true rfl) dX3_change_153 ⟨Nat.zero_le _, Nat.zero_le _⟩) (fun H locs h => ?_)
                        exact fg_reti hx hb hr hlk hK h hf dX3_change_156
                  · have hf := fg_ifT hf hc
                    refine lv_iload_n hx hb dX3_change_104 rfl (lv_at hl 3 rfl) ?_
                    refine lv_iconst (v := 0) hx hb dX3_change_105 rfl ?_
                    refine lv_sipush (v := 9999) hx hb dX3_change_106 rfl ?_
                    obtain ⟨r267, w265, hc266, hf⟩ := fg_biE hf
                    refine fg_ci h (fg_runS (rest := []) S hK h (c_X3_within l D g a3 0 9999  w250 r267 w265 hc266) vk_X3_within vm_RX3_52 vs_X3_within vi_RX3 vd_X3_within.2 ⟨by decide, by decide⟩ rfl hl.1 rfl (Nat.le_of_ble_eq_true rfl) dX3_change_109 ⟨Nat.zero_le _, Nat.zero_le _⟩) (fun H locs h => ?_)
                    refine lv_if_eq (tgt := 128) hx hb dX3_change_112 (by decide) (fun hc => ?_) (fun hc => ?_)
                    · have hf := fg_ifT hf hc
                      refine lv_iload_n hx hb dX3_change_128 rfl (lv_at hl 2 rfl) ?_
                      refine lv_iconst (v := 4) hx hb dX3_change_129 rfl ?_
                      refine lv_icmp_ne (tgt := 157) hx hb dX3_change_130 (by decide) (fun hc => ?_) (fun hc => ?_)
                      · have hf := fg_ifF hf hc
                        refine lv_aload_n hx hb dX3_change_157 rfl (lv_at hl 0 rfl) ?_
                        refine lv_iconst (v := 0) hx hb dX3_change_158 rfl ?_
                        obtain ⟨r270, w268, hc269, hf⟩ := fg_biE hf
                        refine fg_ci h (fg_runV (rest := []) S hK h (c_X3_finding l D g 0  w265 r270 w268 hc269) vg_RX3_48 vd_X3_finding ⟨by decide, by decide⟩ fg_p3_0 rfl rfl rfl hl.1 rfl (Nat.le_of_ble_eq_true rfl) dX3_change_159 ⟨Nat.zero_le _, Nat.zero_le _⟩) (fun H locs h => ?_)
                        exact fg_reti hx hb hr hlk hK h hf dX3_change_162
                      · have hf := fg_ifT hf hc
                        refine lv_iload_n hx hb dX3_change_133 rfl (lv_at hl 3 rfl) ?_
                        refine lv_iconst (v := 0) hx hb dX3_change_134 rfl ?_
                        refine lv_sipush (v := 9999) hx hb dX3_change_135 rfl ?_
                        obtain ⟨r273, w271, hc272, hf⟩ := fg_biE hf
                        refine fg_ci h (fg_runS (rest := []) S hK h (c_X3_within l D g a3 0 9999  w265 r273 w271 hc272) vk_X3_within vm_RX3_52 vs_X3_within vi_RX3 vd_X3_within.2 ⟨by decide, by decide⟩ rfl hl.1 rfl (Nat.le_of_ble_eq_true rfl) dX3_change_138 ⟨Nat.zero_le _, Nat.zero_le _⟩) (fun H locs h => ?_)
                        refine lv_if_eq (tgt := 157) hx hb dX3_change_141 (by decide) (fun hc => ?_) (fun hc => ?_)
                        · have hf := fg_ifT hf hc
                          refine lv_aload_n hx hb dX3_change_157 rfl (lv_at hl 0 rfl) ?_
                          refine lv_iconst (v := 0) hx hb dX3_change_158 rfl ?_
                          obtain ⟨r276, w274, hc275, hf⟩ := fg_biE hf
                          refine fg_ci h (fg_runV (rest := []) S hK h (c_X3_finding l D g 0  w271 r276 w274 hc275) vg_RX3_48 vd_X3_finding ⟨by decide, by decide⟩ fg_p3_0 rfl rfl rfl hl.1 rfl (Nat.le_of_ble_eq_true rfl) dX3_change_159 ⟨Nat.zero_le _, Nat.zero_le _⟩) (fun H locs h => ?_)
                          exact fg_reti hx hb hr hlk hK h hf dX3_change_162
                        · have hf := fg_ifF hf hc
                          refine lv_aload_n hx hb dX3_change_144 rfl (lv_at hl 0 rfl) ?_
                          refine fg_get (C := RX3) (T := TX3) (N := 7) S vu_X3 hK h fg_p3_0 rfl rfl 0 (by decide) vf_RX3_10 rfl rfl dX3_change_145 ?_
                          refine fg_get (C := RX2) (T := TX2) (N := 16) S vu_X2 hK h (fg_p2_0 (by decide)) rfl rfl 10 (by decide) vf_RX3_119 rfl rfl dX3_change_148 ?_
                          refine lv_iload_n hx hb dX3_change_151 rfl (lv_at hl 1 rfl) ?_
                          refine lv_iload_n hx hb dX3_change_152 rfl (lv_at hl 3 rfl) ?_
                          obtain ⟨r279, w277, hc278, hf⟩ := fg_biE hf
                          refine fg_ci h (fg_runS (rest := []) S hK h (c_X3_exchange l D g 2 0 9 8 a1 a3 (fg_p2_9 (by decide)) (fun _ => rfl) w271 r279 w277 hc278) vk_X3_exchange vm_RX3_59 vs_X3_exchange vi_RX3 vd_X3_exchange.2 ⟨by decide, by decide⟩ rfl hl.1 rfl (Nat.le_of_ble_eq_true rfl) dX3_change_153 ⟨Nat.zero_le _, Nat.zero_le _⟩) (fun H locs h => ?_)
                          exact fg_reti hx hb hr hlk hK h hf dX3_change_156
                    · have hf := fg_ifF hf hc
                      refine lv_aload_n hx hb dX3_change_115 rfl (lv_at hl 0 rfl) ?_
                      refine fg_get (C := RX3) (T := TX3) (N := 7) S vu_X3 hK h fg_p3_0 rfl rfl 0 (by decide) vf_RX3_10 rfl rfl dX3_change_116 ?_
                      refine fg_get (C := RX2) (T := TX2) (N := 16) S vu_X2 hK h (fg_p2_0 (by decide)) rfl rfl 9 (by decide) vf_RX3_116 rfl rfl dX3_change_119 ?_
                      refine lv_iload_n hx hb dX3_change_122 rfl (lv_at hl 1 rfl) ?_
                      refine lv_iload_n hx hb dX3_change_123 rfl (lv_at hl 3 rfl) ?_
                      obtain ⟨r282, w280, hc281, hf⟩ := fg_biE hf
                      refine fg_ci h (fg_runS (rest := []) S hK h (c_X3_exchange l D g 2 0 8 8 a1 a3 (fg_p2_8 (by decide)) (fun _ => rfl) w265 r282 w280 hc281) vk_X3_exchange vm_RX3_59 vs_X3_exchange vi_RX3 vd_X3_exchange.2 ⟨by decide, by decide⟩ rfl hl.1 rfl (Nat.le_of_ble_eq_true rfl) dX3_change_124 ⟨Nat.zero_le _, Nat.zero_le _⟩) (fun H locs h => ?_)
                      exact fg_reti hx hb hr hlk hK h hf dX3_change_127
                · have hf := fg_ifF hf hc
                  refine lv_aload_n hx hb dX3_change_86 rfl (lv_at hl 0 rfl) ?_
                  refine fg_get (C := RX3) (T := TX3) (N := 7) S vu_X3 hK h fg_p3_0 rfl rfl 0 (by decide) vf_RX3_10 rfl rfl dX3_change_87 ?_
                  refine fg_get (C := RX2) (T := TX2) (N := 16) S vu_X2 hK h (fg_p2_0 (by decide)) rfl rfl 8 (by decide) vf_RX3_113 rfl rfl dX3_change_90 ?_
                  refine lv_iload_n hx hb dX3_change_93 rfl (lv_at hl 1 rfl) ?_
                  refine lv_iload_n hx hb dX3_change_94 rfl (lv_at hl 3 rfl) ?_
                  obtain ⟨r285, w283, hc284, hf⟩ := fg_biE hf
                  refine fg_ci h (fg_runS (rest := []) S hK h (c_X3_exchange l D g 2 0 7 8 a1 a3 (fg_p2_7 (by decide)) (fun _ => rfl) w250 r285 w283 hc284) vk_X3_exchange vm_RX3_59 vs_X3_exchange vi_RX3 vd_X3_exchange.2 ⟨by decide, by decide⟩ rfl hl.1 rfl (Nat.le_of_ble_eq_true rfl) dX3_change_95 ⟨Nat.zero_le _, Nat.zero_le _⟩) (fun H locs h => ?_)
                  exact fg_reti hx hb hr hlk hK h hf dX3_change_98
            · have hf := fg_ifF hf hc
              refine lv_aload_n hx hb dX3_change_58 rfl (lv_at hl 0 rfl) ?_
              refine fg_get (C := RX3) (T := TX3) (N := 7) S vu_X3 hK h fg_p3_0 rfl rfl 0 (by decide) vf_RX3_10 rfl rfl dX3_change_59 ?_
              refine fg_get (C := RX2) (T := TX2) (N := 16) S vu_X2 hK h (fg_p2_0 (by decide)) rfl rfl 7 (by decide) vf_RX3_110 rfl rfl dX3_change_62 ?_
              refine lv_iload_n hx hb dX3_change_65 rfl (lv_at hl 1 rfl) ?_
              refine lv_iload_n hx hb dX3_change_66 rfl (lv_at hl 3 rfl) ?_
              obtain ⟨r288, w286, hc287, hf⟩ := fg_biE hf
              refine fg_ci h (fg_runS (rest := []) S hK h (c_X3_exchange l D g 2 0 6 8 a1 a3 (fg_p2_6 (by decide)) (fun _ => rfl) w217 r288 w286 hc287) vk_X3_exchange vm_RX3_59 vs_X3_exchange vi_RX3 vd_X3_exchange.2 ⟨by decide, by decide⟩ rfl hl.1 rfl (Nat.le_of_ble_eq_true rfl) dX3_change_67 ⟨Nat.zero_le _, Nat.zero_le _⟩) (fun H locs h => ?_)
              exact fg_reti hx hb hr hlk hK h hf dX3_change_70
      · have hf := fg_ifF hf hc
        refine lv_aload_n hx hb dX3_change_28 rfl (lv_at hl 0 rfl) ?_
        refine fg_get (C := RX3) (T := TX3) (N := 7) S vu_X3 hK h fg_p3_0 rfl rfl 0 (by decide) vf_RX3_10 rfl rfl dX3_change_29 ?_
        refine fg_get (C := RX2) (T := TX2) (N := 16) S vu_X2 hK h (fg_p2_0 (by decide)) rfl rfl 6 (by decide) vf_RX3_94 rfl rfl dX3_change_32 ?_
        refine lv_iload_n hx hb dX3_change_35 rfl (lv_at hl 1 rfl) ?_
        refine lv_iload_n hx hb dX3_change_36 rfl (lv_at hl 3 rfl) ?_
        obtain ⟨r291, w289, hc290, hf⟩ := fg_biE hf
        refine fg_ci h (fg_runS (rest := []) S hK h (c_X3_exchange l D g 2 0 5 8 a1 a3 (fg_p2_5 (by decide)) (fun _ => rfl) w145 r291 w289 hc290) vk_X3_exchange vm_RX3_59 vs_X3_exchange vi_RX3 vd_X3_exchange.2 ⟨by decide, by decide⟩ rfl hl.1 rfl (Nat.le_of_ble_eq_true rfl) dX3_change_37 ⟨Nat.zero_le _, Nat.zero_le _⟩) (fun H locs h => ?_)
        exact fg_reti hx hb hr hlk hK h hf dX3_change_40
  · have hf := fg_ifT hf hc
    refine lv_aload_n hx hb dX3_change_11 rfl (lv_at hl 0 rfl) ?_
    refine lv_iconst (v := 0) hx hb dX3_change_12 rfl ?_
    obtain ⟨r294, w292, hc293, hf⟩ := fg_biE hf
    refine fg_ci h (fg_runV (rest := []) S hK h (c_X3_finding l D g 0  w1 r294 w292 hc293) vg_RX3_48 vd_X3_finding ⟨by decide, by decide⟩ fg_p3_0 rfl rfl rfl hl.1 rfl (Nat.le_of_ble_eq_true rfl) dX3_change_13 ⟨Nat.zero_le _, Nat.zero_le _⟩) (fun H locs h => ?_)
    exact fg_reti hx hb hr hlk hK h hf dX3_change_16
set_option maxHeartbeats 4000000 in
set_option maxRecDepth 100000 in
theorem c_X3_trust (l : Launch) (D : va_G) (g : fg_G) (a1 : Int32) (a2 : Int32) (w : fg_W) (r : Int32) (w' : fg_W) (hf : f_X3_trust a1 a2 w = some (r, w')) : fg_M l yX3_trust cX3_trust 3 (some .int) 1 26 D g [.ref (g.1 3 0 0), .int a1, .int a2] w (fg_Qi D g r w') := by
  refine fg_M.of rfl (Nat.le_of_ble_eq_true rfl) (fun p e s m below meth c ls S hr hlk hK h hl => ?_)
  have hx := S.1
  have hb := S.2.1
  have hl : lv_has ls 3 [(0, .ref (g.1 3 0 0)), (1, .int a1), (2, .int a2)] := hl
  unfold f_X3_trust at hf
  refine lv_aload_n hx hb dX3_trust_0 rfl (lv_at hl 0 rfl) ?_
  refine fg_get (C := RX3) (T := TX3) (N := 7) S vu_X3 hK h fg_p3_0 rfl rfl 0 (by decide) vf_RX3_10 rfl rfl dX3_trust_1 ?_
  refine lv_iload_n hx hb dX3_trust_4 rfl (lv_at hl 1 rfl) ?_
  obtain ⟨r3, w1, hc2, hf⟩ := fg_biE hf
  refine fg_ci h (fg_runV (rest := []) S hK h (c_X2_isPerson l D g 0 a1 (by decide) w r3 w1 hc2) vg_RX3_66 vd_X2_isPerson ⟨by decide, by decide⟩ (fg_p2_0 (by decide)) rfl rfl rfl hl.1 rfl (Nat.le_of_ble_eq_true rfl) dX3_trust_5 ⟨Nat.zero_le _, Nat.zero_le _⟩) (fun H locs h => ?_)
  refine lv_if_eq (tgt := 18) hx hb dX3_trust_8 (by decide) (fun hc => ?_) (fun hc => ?_)
  · have hf := fg_ifT hf hc
    refine lv_aload_n hx hb dX3_trust_18 rfl (lv_at hl 0 rfl) ?_
    refine lv_iconst (v := 0) hx hb dX3_trust_19 rfl ?_
    obtain ⟨r6, w4, hc5, hf⟩ := fg_biE hf
    refine fg_ci h (fg_runV (rest := []) S hK h (c_X3_finding l D g 0  w1 r6 w4 hc5) vg_RX3_48 vd_X3_finding ⟨by decide, by decide⟩ fg_p3_0 rfl rfl rfl hl.1 rfl (Nat.le_of_ble_eq_true rfl) dX3_trust_20 ⟨Nat.zero_le _, Nat.zero_le _⟩) (fun H locs h => ?_)
    exact fg_reti hx hb hr hlk hK h hf dX3_trust_23
  · have hf := fg_ifF hf hc
    refine lv_iload_n hx hb dX3_trust_11 rfl (lv_at hl 2 rfl) ?_
    obtain ⟨r9, w7, hc8, hf⟩ := fg_biE hf
    refine fg_ci h (fg_runS (rest := []) S hK h (c_X3_isLot l D g a2  w1 r9 w7 hc8) vk_X3_isLot vm_RX3_44 vs_X3_isLot vi_RX3 vd_X3_isLot.2 ⟨by decide, by decide⟩ rfl hl.1 rfl (Nat.le_of_ble_eq_true rfl) dX3_trust_12 ⟨Nat.zero_le _, Nat.zero_le _⟩) (fun H locs h => ?_)
    refine lv_if_ne (tgt := 24) hx hb dX3_trust_15 (by decide) (fun hc => ?_) (fun hc => ?_)
    · have hf := fg_ifF hf hc
      refine lv_aload_n hx hb dX3_trust_24 rfl (lv_at hl 0 rfl) ?_
      refine fg_get (C := RX3) (T := TX3) (N := 7) S vu_X3 hK h fg_p3_0 rfl rfl 0 (by decide) vf_RX3_10 rfl rfl dX3_trust_25 ?_
      refine lv_iload_n hx hb dX3_trust_28 rfl (lv_at hl 1 rfl) ?_
      refine lv_iload_n hx hb dX3_trust_29 rfl (lv_at hl 2 rfl) ?_
      obtain ⟨r12, w10, hc11, hf⟩ := fg_biE hf
      refine fg_ci h (fg_runV (rest := []) S hK h (c_X2_trustOf l D g 0 a1 a2 (by decide) w7 r12 w10 hc11) vg_RX3_122 vd_X2_trustOf ⟨by decide, by decide⟩ (fg_p2_0 (by decide)) rfl rfl rfl hl.1 rfl (Nat.le_of_ble_eq_true rfl) dX3_trust_30 ⟨Nat.zero_le _, Nat.zero_le _⟩) (fun H locs h => ?_)
      exact fg_reti hx hb hr hlk hK h hf dX3_trust_33
    · have hf := fg_ifT hf hc
      refine lv_aload_n hx hb dX3_trust_18 rfl (lv_at hl 0 rfl) ?_
      refine lv_iconst (v := 0) hx hb dX3_trust_19 rfl ?_
      obtain ⟨r15, w13, hc14, hf⟩ := fg_biE hf
      refine fg_ci h (fg_runV (rest := []) S hK h (c_X3_finding l D g 0  w7 r15 w13 hc14) vg_RX3_48 vd_X3_finding ⟨by decide, by decide⟩ fg_p3_0 rfl rfl rfl hl.1 rfl (Nat.le_of_ble_eq_true rfl) dX3_trust_20 ⟨Nat.zero_le _, Nat.zero_le _⟩) (fun H locs h => ?_)
      exact fg_reti hx hb hr hlk hK h hf dX3_trust_23
set_option maxHeartbeats 4000000 in
set_option maxRecDepth 100000 in
theorem c_X3_go (l : Launch) (D : va_G) (g : fg_G) (a1 : Int32) (w : fg_W) (r : Int32) (w' : fg_W) (hf : f_X3_go a1 w = some (r, w')) : fg_M l yX3_go cX3_go 2 (some .int) 5 114 D g [.ref (g.1 3 0 0), .int a1] w (fg_Qi D g r w') := by
  refine fg_M.of rfl (Nat.le_of_ble_eq_true rfl) (fun p e s m below meth c ls S hr hlk hK h hl => ?_)
  have hx := S.1
  have hb := S.2.1
  have hl : lv_has ls 2 [(0, .ref (g.1 3 0 0)), (1, .int a1)] := hl
  unfold f_X3_go at hf
  refine lv_iload_n hx hb dX3_go_0 rfl (lv_at hl 1 rfl) ?_
  refine lv_iconst (v := 1) hx hb dX3_go_1 rfl ?_
  refine lv_bipush (v := 60) hx hb dX3_go_2 rfl ?_
  obtain ⟨r3, w1, hc2, hf⟩ := fg_biE hf
  refine fg_ci h (fg_runS (rest := []) S hK h (c_X3_within l D g a1 1 60  w r3 w1 hc2) vk_X3_within vm_RX3_52 vs_X3_within vi_RX3 vd_X3_within.2 ⟨by decide, by decide⟩ rfl hl.1 rfl (Nat.le_of_ble_eq_true rfl) dX3_go_4 ⟨Nat.zero_le _, Nat.zero_le _⟩) (fun H locs h => ?_)
  refine lv_if_ne (tgt := 16) hx hb dX3_go_7 (by decide) (fun hc => ?_) (fun hc => ?_)
  · have hf := fg_ifF hf hc
    refine lv_aload_n hx hb dX3_go_16 rfl (lv_at hl 0 rfl) ?_
    refine fg_get (C := RX3) (T := TX3) (N := 7) S vu_X3 hK h fg_p3_0 rfl rfl 0 (by decide) vf_RX3_10 rfl rfl dX3_go_17 ?_
    refine fg_get (C := RX2) (T := TX2) (N := 16) S vu_X2 hK h (fg_p2_0 (by decide)) rfl rfl 12 (by decide) vf_RX3_125 rfl rfl dX3_go_20 ?_
    refine lv_iload_n hx hb dX3_go_23 rfl (lv_at hl 1 rfl) ?_
    refine lv_iadd hx hb dX3_go_24 ?_
    refine lv_ldc hx hb S.2.2.2.1 (S.2.2.2.2 _ vc_RX3_128) dX3_go_25 ?_
    refine lv_icmp_le (tgt := 36) hx hb dX3_go_27 (by decide) (fun hc => ?_) (fun hc => ?_)
    · have hf := fg_ifT hf hc
      refine lv_aload_n hx hb dX3_go_36 rfl (lv_at hl 0 rfl) ?_
      refine fg_get (C := RX3) (T := TX3) (N := 7) S vu_X3 hK h fg_p3_0 rfl rfl 0 (by decide) vf_RX3_10 rfl rfl dX3_go_37 ?_
      refine lv_iload_n hx hb dX3_go_40 rfl (lv_at hl 1 rfl) ?_
      obtain ⟨w4, hc5, hf⟩ := fg_bvE hf
      refine fg_cv h (fg_runV (rest := []) S hK h (c_X2_passDays l D g 0 a1 (by decide) w1 w4 hc5) vg_RX3_129 vd_X2_passDays ⟨by decide, by decide⟩ (fg_p2_0 (by decide)) rfl rfl rfl hl.1 rfl (Nat.le_of_ble_eq_true rfl) dX3_go_41 ⟨Nat.zero_le _, Nat.zero_le _⟩) (fun H locs h => ?_)
      refine lv_aload_n hx hb dX3_go_44 rfl (lv_at hl 0 rfl) ?_
      refine fg_get (C := RX3) (T := TX3) (N := 7) S vu_X3 hK h fg_p3_0 rfl rfl 0 (by decide) vf_RX3_10 rfl rfl dX3_go_45 ?_
      obtain ⟨r8, w6, hc7, hf⟩ := fg_biE hf
      refine fg_ci h (fg_runV (rest := []) S hK h (c_X2_thoseOnLots l D g 0 (by decide) w4 r8 w6 hc7) vg_RX3_133 vd_X2_thoseOnLots ⟨by decide, by decide⟩ (fg_p2_0 (by decide)) rfl rfl rfl hl.1 rfl (Nat.le_of_ble_eq_true rfl) dX3_go_48 ⟨Nat.zero_le _, Nat.zero_le _⟩) (fun H locs h => ?_)
      exact fg_reti hx hb hr hlk hK h hf dX3_go_51
    · have hf := fg_ifF hf hc
      refine lv_aload_n hx hb dX3_go_30 rfl (lv_at hl 0 rfl) ?_
      refine lv_iconst (v := 4) hx hb dX3_go_31 rfl ?_
      obtain ⟨r11, w9, hc10, hf⟩ := fg_biE hf
      refine fg_ci h (fg_runV (rest := []) S hK h (c_X3_finding l D g 4  w1 r11 w9 hc10) vg_RX3_48 vd_X3_finding ⟨by decide, by decide⟩ fg_p3_0 rfl rfl rfl hl.1 rfl (Nat.le_of_ble_eq_true rfl) dX3_go_32 ⟨Nat.zero_le _, Nat.zero_le _⟩) (fun H locs h => ?_)
      exact fg_reti hx hb hr hlk hK h hf dX3_go_35
  · have hf := fg_ifT hf hc
    refine lv_aload_n hx hb dX3_go_10 rfl (lv_at hl 0 rfl) ?_
    refine lv_iconst (v := 0) hx hb dX3_go_11 rfl ?_
    obtain ⟨r14, w12, hc13, hf⟩ := fg_biE hf
    refine fg_ci h (fg_runV (rest := []) S hK h (c_X3_finding l D g 0  w1 r14 w12 hc13) vg_RX3_48 vd_X3_finding ⟨by decide, by decide⟩ fg_p3_0 rfl rfl rfl hl.1 rfl (Nat.le_of_ble_eq_true rfl) dX3_go_12 ⟨Nat.zero_le _, Nat.zero_le _⟩) (fun H locs h => ?_)
    exact fg_reti hx hb hr hlk hK h hf dX3_go_15
set_option maxHeartbeats 4000000 in
set_option maxRecDepth 100000 in
theorem c_X3_now (l : Launch) (D : va_G) (g : fg_G) (a1 : Int32) (w : fg_W) (r : Int32) (w' : fg_W) (hf : f_X3_now a1 w = some (r, w')) : fg_M l yX3_now cX3_now 2 (some .int) 1 23 D g [.ref (g.1 3 0 0), .int a1] w (fg_Qi D g r w') := by
  refine fg_M.of rfl (Nat.le_of_ble_eq_true rfl) (fun p e s m below meth c ls S hr hlk hK h hl => ?_)
  have hx := S.1
  have hb := S.2.1
  have hl : lv_has ls 2 [(0, .ref (g.1 3 0 0)), (1, .int a1)] := hl
  unfold f_X3_now at hf
  refine lv_iload_n hx hb dX3_now_0 rfl (lv_at hl 1 rfl) ?_
  by_cases hq1_0 : a1 = 0
  · refine lv_tableIn (tgt := 48) hx hb dX3_now_1 (by rw [hq1_0]; decide) (by rw [hq1_0]; decide) (off := 47) (by rw [hq1_0]; rfl) (by decide) ?_
    have hf := fg_ifT hf hq1_0
    refine lv_aload_n hx hb dX3_now_48 rfl (lv_at hl 0 rfl) ?_
    refine fg_get (C := RX3) (T := TX3) (N := 7) S vu_X3 hK h fg_p3_0 rfl rfl 0 (by decide) vf_RX3_10 rfl rfl dX3_now_49 ?_
    refine fg_get (C := RX2) (T := TX2) (N := 16) S vu_X2 hK h (fg_p2_0 (by decide)) rfl rfl 12 (by decide) vf_RX3_125 rfl rfl dX3_now_52 ?_
    exact fg_reti hx hb hr hlk hK h hf dX3_now_55
  have hf := fg_ifF hf hq1_0
  by_cases hq1_1 : a1 = 1
  · refine lv_tableIn (tgt := 56) hx hb dX3_now_1 (by rw [hq1_1]; decide) (by rw [hq1_1]; decide) (off := 55) (by rw [hq1_1]; rfl) (by decide) ?_
    have hf := fg_ifT hf hq1_1
    refine lv_aload_n hx hb dX3_now_56 rfl (lv_at hl 0 rfl) ?_
    refine fg_get (C := RX3) (T := TX3) (N := 7) S vu_X3 hK h fg_p3_0 rfl rfl 0 (by decide) vf_RX3_10 rfl rfl dX3_now_57 ?_
    refine fg_get (C := RX2) (T := TX2) (N := 16) S vu_X2 hK h (fg_p2_0 (by decide)) rfl rfl 0 (by decide) vf_RX3_56 rfl rfl dX3_now_60 ?_
    refine lv_bipush (v := 10) hx hb dX3_now_63 rfl ?_
    obtain ⟨r3, w1, hc2, hf⟩ := fg_biE hf
    refine fg_ci h (fg_runS (rest := []) S hK h (c_X3_sumOf l D g 2 0 1 10 10 (fg_p2_1 (by decide)) (fun _ => rfl) w r3 w1 hc2) vk_X3_sumOf vm_RX3_137 vs_X3_sumOf vi_RX3 vd_X3_sumOf.2 ⟨by decide, by decide⟩ rfl hl.1 rfl (Nat.le_of_ble_eq_true rfl) dX3_now_65 ⟨Nat.zero_le _, Nat.zero_le _⟩) (fun H locs h => ?_)
    exact fg_reti hx hb hr hlk hK h hf dX3_now_68
  have hf := fg_ifF hf hq1_1
  by_cases hq1_2 : a1 = 2
  · refine lv_tableIn (tgt := 69) hx hb dX3_now_1 (by rw [hq1_2]; decide) (by rw [hq1_2]; decide) (off := 68) (by rw [hq1_2]; rfl) (by decide) ?_
    have hf := fg_ifT hf hq1_2
    refine lv_aload_n hx hb dX3_now_69 rfl (lv_at hl 0 rfl) ?_
    refine fg_get (C := RX3) (T := TX3) (N := 7) S vu_X3 hK h fg_p3_0 rfl rfl 0 (by decide) vf_RX3_10 rfl rfl dX3_now_70 ?_
    obtain ⟨r6, w4, hc5, hf⟩ := fg_biE hf
    refine fg_ci h (fg_runV (rest := []) S hK h (c_X2_thoseOnLots l D g 0 (by decide) w r6 w4 hc5) vg_RX3_133 vd_X2_thoseOnLots ⟨by decide, by decide⟩ (fg_p2_0 (by decide)) rfl rfl rfl hl.1 rfl (Nat.le_of_ble_eq_true rfl) dX3_now_73 ⟨Nat.zero_le _, Nat.zero_le _⟩) (fun H locs h => ?_)
    exact fg_reti hx hb hr hlk hK h hf dX3_now_76
  have hf := fg_ifF hf hq1_2
  by_cases hq1_3 : a1 = 3
  · refine lv_tableIn (tgt := 77) hx hb dX3_now_1 (by rw [hq1_3]; decide) (by rw [hq1_3]; decide) (off := 76) (by rw [hq1_3]; rfl) (by decide) ?_
    have hf := fg_ifT hf hq1_3
    refine lv_aload_n hx hb dX3_now_77 rfl (lv_at hl 0 rfl) ?_
    refine fg_get (C := RX3) (T := TX3) (N := 7) S vu_X3 hK h fg_p3_0 rfl rfl 0 (by decide) vf_RX3_10 rfl rfl dX3_now_78 ?_
    refine fg_get (C := RX2) (T := TX2) (N := 16) S vu_X2 hK h (fg_p2_0 (by decide)) rfl rfl 9 (by decide) vf_RX3_116 rfl rfl dX3_now_81 ?_
    refine lv_aload_n hx hb dX3_now_84 rfl (lv_at hl 0 rfl) ?_
    refine fg_get (C := RX3) (T := TX3) (N := 7) S vu_X3 hK h fg_p3_0 rfl rfl 0 (by decide) vf_RX3_10 rfl rfl dX3_now_85 ?_
    refine fg_get (C := RX2) (T := TX2) (N := 16) S vu_X2 hK h (fg_p2_0 (by decide)) rfl rfl 5 (by decide) vf_RX3_88 rfl rfl dX3_now_88 ?_
    obtain ⟨r9, w7, hc8, hf⟩ := fg_biE hf
    refine fg_ci h (fg_runS (rest := []) S hK h (c_X3_sumOf l D g 2 0 8 8 (w.1 2 0 0 5) (fg_p2_8 (by decide)) (fun _ => rfl) w r9 w7 hc8) vk_X3_sumOf vm_RX3_137 vs_X3_sumOf vi_RX3 vd_X3_sumOf.2 ⟨by decide, by decide⟩ rfl hl.1 rfl (Nat.le_of_ble_eq_true rfl) dX3_now_91 ⟨Nat.zero_le _, Nat.zero_le _⟩) (fun H locs h => ?_)
    exact fg_reti hx hb hr hlk hK h hf dX3_now_94
  have hf := fg_ifF hf hq1_3
  by_cases hq1_4 : a1 = 4
  · refine lv_tableIn (tgt := 95) hx hb dX3_now_1 (by rw [hq1_4]; decide) (by rw [hq1_4]; decide) (off := 94) (by rw [hq1_4]; rfl) (by decide) ?_
    have hf := fg_ifT hf hq1_4
    refine lv_aload_n hx hb dX3_now_95 rfl (lv_at hl 0 rfl) ?_
    refine fg_get (C := RX3) (T := TX3) (N := 7) S vu_X3 hK h fg_p3_0 rfl rfl 0 (by decide) vf_RX3_10 rfl rfl dX3_now_96 ?_
    refine fg_get (C := RX2) (T := TX2) (N := 16) S vu_X2 hK h (fg_p2_0 (by decide)) rfl rfl 10 (by decide) vf_RX3_119 rfl rfl dX3_now_99 ?_
    refine lv_aload_n hx hb dX3_now_102 rfl (lv_at hl 0 rfl) ?_
    refine fg_get (C := RX3) (T := TX3) (N := 7) S vu_X3 hK h fg_p3_0 rfl rfl 0 (by decide) vf_RX3_10 rfl rfl dX3_now_103 ?_
    refine fg_get (C := RX2) (T := TX2) (N := 16) S vu_X2 hK h (fg_p2_0 (by decide)) rfl rfl 5 (by decide) vf_RX3_88 rfl rfl dX3_now_106 ?_
    obtain ⟨r12, w10, hc11, hf⟩ := fg_biE hf
    refine fg_ci h (fg_runS (rest := []) S hK h (c_X3_sumOf l D g 2 0 9 8 (w.1 2 0 0 5) (fg_p2_9 (by decide)) (fun _ => rfl) w r12 w10 hc11) vk_X3_sumOf vm_RX3_137 vs_X3_sumOf vi_RX3 vd_X3_sumOf.2 ⟨by decide, by decide⟩ rfl hl.1 rfl (Nat.le_of_ble_eq_true rfl) dX3_now_109 ⟨Nat.zero_le _, Nat.zero_le _⟩) (fun H locs h => ?_)
    exact fg_reti hx hb hr hlk hK h hf dX3_now_112
  have hf := fg_ifF hf hq1_4
  by_cases hq1_5 : a1 = 5
  · refine lv_tableIn (tgt := 113) hx hb dX3_now_1 (by rw [hq1_5]; decide) (by rw [hq1_5]; decide) (off := 112) (by rw [hq1_5]; rfl) (by decide) ?_
    have hf := fg_ifT hf hq1_5
    refine lv_aload_n hx hb dX3_now_113 rfl (lv_at hl 0 rfl) ?_
    refine fg_get (C := RX3) (T := TX3) (N := 7) S vu_X3 hK h fg_p3_0 rfl rfl 0 (by decide) vf_RX3_10 rfl rfl dX3_now_114 ?_
    refine fg_get (C := RX2) (T := TX2) (N := 16) S vu_X2 hK h (fg_p2_0 (by decide)) rfl rfl 0 (by decide) vf_RX3_56 rfl rfl dX3_now_117 ?_
    refine lv_bipush (v := 10) hx hb dX3_now_120 rfl ?_
    obtain ⟨r15, w13, hc14, hf⟩ := fg_biE hf
    refine fg_ci h (fg_runS (rest := []) S hK h (c_X3_firstGreatest l D g 2 0 1 10 10 (fg_p2_1 (by decide)) (fun _ => rfl) w r15 w13 hc14) vk_X3_firstGreatest vm_RX3_141 vs_X3_firstGreatest vi_RX3 vd_X3_firstGreatest.2 ⟨by decide, by decide⟩ rfl hl.1 rfl (Nat.le_of_ble_eq_true rfl) dX3_now_122 ⟨Nat.zero_le _, Nat.zero_le _⟩) (fun H locs h => ?_)
    exact fg_reti hx hb hr hlk hK h hf dX3_now_125
  have hf := fg_ifF hf hq1_5
  by_cases hq1_6 : a1 = 6
  · refine lv_tableIn (tgt := 126) hx hb dX3_now_1 (by rw [hq1_6]; decide) (by rw [hq1_6]; decide) (off := 125) (by rw [hq1_6]; rfl) (by decide) ?_
    have hf := fg_ifT hf hq1_6
    refine lv_aload_n hx hb dX3_now_126 rfl (lv_at hl 0 rfl) ?_
    refine fg_get (C := RX3) (T := TX3) (N := 7) S vu_X3 hK h fg_p3_0 rfl rfl 0 (by decide) vf_RX3_10 rfl rfl dX3_now_127 ?_
    refine fg_get (C := RX2) (T := TX2) (N := 16) S vu_X2 hK h (fg_p2_0 (by decide)) rfl rfl 9 (by decide) vf_RX3_116 rfl rfl dX3_now_130 ?_
    refine lv_aload_n hx hb dX3_now_133 rfl (lv_at hl 0 rfl) ?_
    refine fg_get (C := RX3) (T := TX3) (N := 7) S vu_X3 hK h fg_p3_0 rfl rfl 0 (by decide) vf_RX3_10 rfl rfl dX3_now_134 ?_
    refine fg_get (C := RX2) (T := TX2) (N := 16) S vu_X2 hK h (fg_p2_0 (by decide)) rfl rfl 5 (by decide) vf_RX3_88 rfl rfl dX3_now_137 ?_
    obtain ⟨r18, w16, hc17, hf⟩ := fg_biE hf
    refine fg_ci h (fg_runS (rest := []) S hK h (c_X3_firstGreatest l D g 2 0 8 8 (w.1 2 0 0 5) (fg_p2_8 (by decide)) (fun _ => rfl) w r18 w16 hc17) vk_X3_firstGreatest vm_RX3_141 vs_X3_firstGreatest vi_RX3 vd_X3_firstGreatest.2 ⟨by decide, by decide⟩ rfl hl.1 rfl (Nat.le_of_ble_eq_true rfl) dX3_now_140 ⟨Nat.zero_le _, Nat.zero_le _⟩) (fun H locs h => ?_)
    exact fg_reti hx hb hr hlk hK h hf dX3_now_143
  have hf := fg_ifF hf hq1_6
  by_cases hq1_7 : a1 = 7
  · refine lv_tableIn (tgt := 144) hx hb dX3_now_1 (by rw [hq1_7]; decide) (by rw [hq1_7]; decide) (off := 143) (by rw [hq1_7]; rfl) (by decide) ?_
    have hf := fg_ifT hf hq1_7
    refine lv_aload_n hx hb dX3_now_144 rfl (lv_at hl 0 rfl) ?_
    refine fg_get (C := RX3) (T := TX3) (N := 7) S vu_X3 hK h fg_p3_0 rfl rfl 0 (by decide) vf_RX3_10 rfl rfl dX3_now_145 ?_
    refine lv_iconst (v := (-1)) hx hb dX3_now_148 rfl ?_
    obtain ⟨r21, w19, hc20, hf⟩ := fg_biE hf
    refine fg_ci h (fg_runV (rest := []) S hK h (c_X2_lotsOwnedBy l D g 0 (-1) (by decide) w r21 w19 hc20) vg_RX3_103 vd_X2_lotsOwnedBy ⟨by decide, by decide⟩ (fg_p2_0 (by decide)) rfl rfl rfl hl.1 rfl (Nat.le_of_ble_eq_true rfl) dX3_now_149 ⟨Nat.zero_le _, Nat.zero_le _⟩) (fun H locs h => ?_)
    exact fg_reti hx hb hr hlk hK h hf dX3_now_152
  have hf := fg_ifF hf hq1_7
  refine lv_tableOut (tgt := 153) hx hb dX3_now_1 (by have := lv_neT hq1_0 (show (0 : Int32).toInt = 0 from rfl); have := lv_neT hq1_1 (show (1 : Int32).toInt = 1 from rfl); have := lv_neT hq1_2 (show (2 : Int32).toInt = 2 from rfl); have := lv_neT hq1_3 (show (3 : Int32).toInt = 3 from rfl); have := lv_neT hq1_4 (show (4 : Int32).toInt = 4 from rfl); have := lv_neT hq1_5 (show (5 : Int32).toInt = 5 from rfl); have := lv_neT hq1_6 (show (6 : Int32).toInt = 6 from rfl); have := lv_neT hq1_7 (show (7 : Int32).toInt = 7 from rfl); omega) (by decide) ?_
  refine lv_aload_n hx hb dX3_now_153 rfl (lv_at hl 0 rfl) ?_
  refine lv_iconst (v := 0) hx hb dX3_now_154 rfl ?_
  obtain ⟨r24, w22, hc23, hf⟩ := fg_biE hf
  refine fg_ci h (fg_runV (rest := []) S hK h (c_X3_finding l D g 0  w r24 w22 hc23) vg_RX3_48 vd_X3_finding ⟨by decide, by decide⟩ fg_p3_0 rfl rfl rfl hl.1 rfl (Nat.le_of_ble_eq_true rfl) dX3_now_155 ⟨Nat.zero_le _, Nat.zero_le _⟩) (fun H locs h => ?_)
  exact fg_reti hx hb hr hlk hK h hf dX3_now_158
set_option maxHeartbeats 4000000 in
set_option maxRecDepth 100000 in
theorem c_X3_ahead (l : Launch) (D : va_G) (g : fg_G) (a1 : Int32) (a2 : Int32) (a3 : Int32) (w : fg_W) (r : Int32) (w' : fg_W) (hf : f_X3_ahead a1 a2 a3 w = some (r, w')) : fg_M l yX3_ahead cX3_ahead 4 (some .int) 5 114 D g [.ref (g.1 3 0 0), .int a1, .int a2, .int a3] w (fg_Qi D g r w') := by
  refine fg_M.of rfl (Nat.le_of_ble_eq_true rfl) (fun p e s m below meth c ls S hr hlk hK h hl => ?_)
  have hx := S.1
  have hb := S.2.1
  have hl : lv_has ls 4 [(0, .ref (g.1 3 0 0)), (1, .int a1), (2, .int a2), (3, .int a3)] := hl
  unfold f_X3_ahead at hf
  refine lv_aload_n hx hb dX3_ahead_0 rfl (lv_at hl 0 rfl) ?_
  refine fg_get (C := RX3) (T := TX3) (N := 7) S vu_X3 hK h fg_p3_0 rfl rfl 0 (by decide) vf_RX3_10 rfl rfl dX3_ahead_1 ?_
  refine lv_iload_n hx hb dX3_ahead_4 rfl (lv_at hl 1 rfl) ?_
  obtain ⟨r3, w1, hc2, hf⟩ := fg_biE hf
  refine fg_ci h (fg_runV (rest := []) S hK h (c_X2_isPerson l D g 0 a1 (by decide) w r3 w1 hc2) vg_RX3_66 vd_X2_isPerson ⟨by decide, by decide⟩ (fg_p2_0 (by decide)) rfl rfl rfl hl.1 rfl (Nat.le_of_ble_eq_true rfl) dX3_ahead_5 ⟨Nat.zero_le _, Nat.zero_le _⟩) (fun H locs h => ?_)
  refine lv_if_eq (tgt := 30) hx hb dX3_ahead_8 (by decide) (fun hc => ?_) (fun hc => ?_)
  · have hf := fg_ifT hf hc
    refine lv_aload_n hx hb dX3_ahead_30 rfl (lv_at hl 0 rfl) ?_
    refine lv_iconst (v := 0) hx hb dX3_ahead_31 rfl ?_
    obtain ⟨r6, w4, hc5, hf⟩ := fg_biE hf
    refine fg_ci h (fg_runV (rest := []) S hK h (c_X3_finding l D g 0  w1 r6 w4 hc5) vg_RX3_48 vd_X3_finding ⟨by decide, by decide⟩ fg_p3_0 rfl rfl rfl hl.1 rfl (Nat.le_of_ble_eq_true rfl) dX3_ahead_32 ⟨Nat.zero_le _, Nat.zero_le _⟩) (fun H locs h => ?_)
    exact fg_reti hx hb hr hlk hK h hf dX3_ahead_35
  · have hf := fg_ifF hf hc
    refine lv_iload_n hx hb dX3_ahead_11 rfl (lv_at hl 2 rfl) ?_
    refine lv_iconst (v := 1) hx hb dX3_ahead_12 rfl ?_
    refine lv_iconst (v := 4) hx hb dX3_ahead_13 rfl ?_
    obtain ⟨r9, w7, hc8, hf⟩ := fg_biE hf
    refine fg_ci h (fg_runS (rest := []) S hK h (c_X3_within l D g a2 1 4  w1 r9 w7 hc8) vk_X3_within vm_RX3_52 vs_X3_within vi_RX3 vd_X3_within.2 ⟨by decide, by decide⟩ rfl hl.1 rfl (Nat.le_of_ble_eq_true rfl) dX3_ahead_14 ⟨Nat.zero_le _, Nat.zero_le _⟩) (fun H locs h => ?_)
    refine lv_if_eq (tgt := 30) hx hb dX3_ahead_17 (by decide) (fun hc => ?_) (fun hc => ?_)
    · have hf := fg_ifT hf hc
      refine lv_aload_n hx hb dX3_ahead_30 rfl (lv_at hl 0 rfl) ?_
      refine lv_iconst (v := 0) hx hb dX3_ahead_31 rfl ?_
      obtain ⟨r12, w10, hc11, hf⟩ := fg_biE hf
      refine fg_ci h (fg_runV (rest := []) S hK h (c_X3_finding l D g 0  w7 r12 w10 hc11) vg_RX3_48 vd_X3_finding ⟨by decide, by decide⟩ fg_p3_0 rfl rfl rfl hl.1 rfl (Nat.le_of_ble_eq_true rfl) dX3_ahead_32 ⟨Nat.zero_le _, Nat.zero_le _⟩) (fun H locs h => ?_)
      exact fg_reti hx hb hr hlk hK h hf dX3_ahead_35
    · have hf := fg_ifF hf hc
      refine lv_iload_n hx hb dX3_ahead_20 rfl (lv_at hl 3 rfl) ?_
      refine lv_iconst (v := 0) hx hb dX3_ahead_21 rfl ?_
      refine lv_bipush (v := 100) hx hb dX3_ahead_22 rfl ?_
      obtain ⟨r15, w13, hc14, hf⟩ := fg_biE hf
      refine fg_ci h (fg_runS (rest := []) S hK h (c_X3_within l D g a3 0 100  w7 r15 w13 hc14) vk_X3_within vm_RX3_52 vs_X3_within vi_RX3 vd_X3_within.2 ⟨by decide, by decide⟩ rfl hl.1 rfl (Nat.le_of_ble_eq_true rfl) dX3_ahead_24 ⟨Nat.zero_le _, Nat.zero_le _⟩) (fun H locs h => ?_)
      refine lv_if_ne (tgt := 36) hx hb dX3_ahead_27 (by decide) (fun hc => ?_) (fun hc => ?_)
      · have hf := fg_ifF hf hc
        refine lv_aload_n hx hb dX3_ahead_36 rfl (lv_at hl 0 rfl) ?_
        refine fg_get (C := RX3) (T := TX3) (N := 7) S vu_X3 hK h fg_p3_0 rfl rfl 1 (by decide) vf_RX3_16 rfl rfl dX3_ahead_37 ?_
        refine lv_aload_n hx hb dX3_ahead_40 rfl (lv_at hl 0 rfl) ?_
        refine fg_get (C := RX3) (T := TX3) (N := 7) S vu_X3 hK h fg_p3_0 rfl rfl 0 (by decide) vf_RX3_10 rfl rfl dX3_ahead_41 ?_
        obtain ⟨w16, hc17, hf⟩ := fg_bvE hf
        refine fg_cv h (fg_runV (rest := []) S hK h (c_X2_become l D g 1 0 (by decide) (by decide) w13 w16 hc17) vg_RX3_144 vd_X2_become ⟨by decide, by decide⟩ (fg_p2_0 (by decide)) rfl rfl rfl hl.1 rfl (Nat.le_of_ble_eq_true rfl) dX3_ahead_44 ⟨Nat.zero_le _, Nat.zero_le _⟩) (fun H locs h => ?_)
        refine lv_aload_n hx hb dX3_ahead_47 rfl (lv_at hl 0 rfl) ?_
        refine fg_get (C := RX3) (T := TX3) (N := 7) S vu_X3 hK h fg_p3_0 rfl rfl 1 (by decide) vf_RX3_16 rfl rfl dX3_ahead_48 ?_
        refine lv_iload_n hx hb dX3_ahead_51 rfl (lv_at hl 3 rfl) ?_
        obtain ⟨w18, hc19, hf⟩ := fg_bvE hf
        refine fg_cv h (fg_runV (rest := []) S hK h (c_X2_passDays l D g 1 a3 (by decide) w16 w18 hc19) vg_RX3_129 vd_X2_passDays ⟨by decide, by decide⟩ (fg_p2_0 (by decide)) rfl rfl rfl hl.1 rfl (Nat.le_of_ble_eq_true rfl) dX3_ahead_52 ⟨Nat.zero_le _, Nat.zero_le _⟩) (fun H locs h => ?_)
        refine lv_aload_n hx hb dX3_ahead_55 rfl (lv_at hl 0 rfl) ?_
        refine fg_get (C := RX3) (T := TX3) (N := 7) S vu_X3 hK h fg_p3_0 rfl rfl 1 (by decide) vf_RX3_16 rfl rfl dX3_ahead_56 ?_
        refine lv_iload_n hx hb dX3_ahead_59 rfl (lv_at hl 1 rfl) ?_
        refine lv_iload_n hx hb dX3_ahead_60 rfl (lv_at hl 2 rfl) ?_
        obtain ⟨r22, w20, hc21, hf⟩ := fg_biE hf
        refine fg_ci h (fg_runV (rest := []) S hK h (c_X2_valueOf l D g 1 a1 a2 (by decide) w18 r22 w20 hc21) vg_RX3_106 vd_X2_valueOf ⟨by decide, by decide⟩ (fg_p2_0 (by decide)) rfl rfl rfl hl.1 rfl (Nat.le_of_ble_eq_true rfl) dX3_ahead_61 ⟨Nat.zero_le _, Nat.zero_le _⟩) (fun H locs h => ?_)
        exact fg_reti hx hb hr hlk hK h hf dX3_ahead_64
      · have hf := fg_ifT hf hc
        refine lv_aload_n hx hb dX3_ahead_30 rfl (lv_at hl 0 rfl) ?_
        refine lv_iconst (v := 0) hx hb dX3_ahead_31 rfl ?_
        obtain ⟨r25, w23, hc24, hf⟩ := fg_biE hf
        refine fg_ci h (fg_runV (rest := []) S hK h (c_X3_finding l D g 0  w13 r25 w23 hc24) vg_RX3_48 vd_X3_finding ⟨by decide, by decide⟩ fg_p3_0 rfl rfl rfl hl.1 rfl (Nat.le_of_ble_eq_true rfl) dX3_ahead_32 ⟨Nat.zero_le _, Nat.zero_le _⟩) (fun H locs h => ?_)
        exact fg_reti hx hb hr hlk hK h hf dX3_ahead_35
