set_option maxHeartbeats 4000000 in
set_option maxRecDepth 100000 in
theorem c_X3_fog (l : Launch) (D : va_G) (g : fg_G) (a1 : Int32) (a2 : Int32) (w : fg_W) (r : Int32) (w' : fg_W) (hf : f_X3_fog a1 a2 w = some (r, w')) : fg_M l yX3_fog cX3_fog 3 (some .int) 5 114 D g [.ref (g.1 3 0 0), .int a1, .int a2] w (fg_Qi D g r w') := by
  refine fg_M.of rfl (Nat.le_of_ble_eq_true rfl) (fun p e s m below meth c ls S hr hlk hK h hl => ?_)
  have hx := S.1
  have hb := S.2.1
  have hl : lv_has ls 3 [(0, .ref (g.1 3 0 0)), (1, .int a1), (2, .int a2)] := hl
  unfold f_X3_fog at hf
  refine lv_iload_n hx hb dX3_fog_0 rfl (lv_at hl 1 rfl) ?_
  obtain ⟨r3, w1, hc2, hf⟩ := fg_biE hf
  refine fg_ci h (fg_runS (rest := []) S hK h (c_X3_isLot l D g a1  w r3 w1 hc2) vk_X3_isLot vm_RX3_44 vs_X3_isLot vi_RX3 vd_X3_isLot.2 ⟨by decide, by decide⟩ rfl hl.1 rfl (Nat.le_of_ble_eq_true rfl) dX3_fog_1 ⟨Nat.zero_le _, Nat.zero_le _⟩) (fun H locs h => ?_)
  refine lv_if_eq (tgt := 17) hx hb dX3_fog_4 (by decide) (fun hc => ?_) (fun hc => ?_)
  · have hf := fg_ifT hf hc
    refine lv_aload_n hx hb dX3_fog_17 rfl (lv_at hl 0 rfl) ?_
    refine lv_iconst (v := 0) hx hb dX3_fog_18 rfl ?_
    obtain ⟨r6, w4, hc5, hf⟩ := fg_biE hf
    refine fg_ci h (fg_runV (rest := []) S hK h (c_X3_finding l D g 0  w1 r6 w4 hc5) vg_RX3_48 vd_X3_finding ⟨by decide, by decide⟩ fg_p3_0 rfl rfl rfl hl.1 rfl (Nat.le_of_ble_eq_true rfl) dX3_fog_19 ⟨Nat.zero_le _, Nat.zero_le _⟩) (fun H locs h => ?_)
    exact fg_reti hx hb hr hlk hK h hf dX3_fog_22
  · have hf := fg_ifF hf hc
    refine lv_iload_n hx hb dX3_fog_7 rfl (lv_at hl 2 rfl) ?_
    refine lv_iconst (v := 0) hx hb dX3_fog_8 rfl ?_
    refine lv_bipush (v := 100) hx hb dX3_fog_9 rfl ?_
    obtain ⟨r9, w7, hc8, hf⟩ := fg_biE hf
    refine fg_ci h (fg_runS (rest := []) S hK h (c_X3_within l D g a2 0 100  w1 r9 w7 hc8) vk_X3_within vm_RX3_52 vs_X3_within vi_RX3 vd_X3_within.2 ⟨by decide, by decide⟩ rfl hl.1 rfl (Nat.le_of_ble_eq_true rfl) dX3_fog_11 ⟨Nat.zero_le _, Nat.zero_le _⟩) (fun H locs h => ?_)
    refine lv_if_ne (tgt := 23) hx hb dX3_fog_14 (by decide) (fun hc => ?_) (fun hc => ?_)
    · have hf := fg_ifF hf hc
      refine lv_aload_n hx hb dX3_fog_23 rfl (lv_at hl 0 rfl) ?_
      refine fg_get (C := RX3) (T := TX3) (N := 7) S vu_X3 hK h fg_p3_0 rfl rfl 1 (by decide) vf_RX3_16 rfl rfl dX3_fog_24 ?_
      refine lv_aload_n hx hb dX3_fog_27 rfl (lv_at hl 0 rfl) ?_
      refine fg_get (C := RX3) (T := TX3) (N := 7) S vu_X3 hK h fg_p3_0 rfl rfl 0 (by decide) vf_RX3_10 rfl rfl dX3_fog_28 ?_
      obtain ⟨w10, hc11, hf⟩ := fg_bvE hf
      refine fg_cv h (fg_runV (rest := []) S hK h (c_X2_become l D g 1 0 (by decide) (by decide) w7 w10 hc11) vg_RX3_144 vd_X2_become ⟨by decide, by decide⟩ (fg_p2_0 (by decide)) rfl rfl rfl hl.1 rfl (Nat.le_of_ble_eq_true rfl) dX3_fog_31 ⟨Nat.zero_le _, Nat.zero_le _⟩) (fun H locs h => ?_)
      refine lv_aload_n hx hb dX3_fog_34 rfl (lv_at hl 0 rfl) ?_
      refine fg_get (C := RX3) (T := TX3) (N := 7) S vu_X3 hK h fg_p3_0 rfl rfl 1 (by decide) vf_RX3_16 rfl rfl dX3_fog_35 ?_
      refine lv_iload_n hx hb dX3_fog_38 rfl (lv_at hl 2 rfl) ?_
      obtain ⟨w12, hc13, hf⟩ := fg_bvE hf
      refine fg_cv h (fg_runV (rest := []) S hK h (c_X2_passDays l D g 1 a2 (by decide) w10 w12 hc13) vg_RX3_129 vd_X2_passDays ⟨by decide, by decide⟩ (fg_p2_0 (by decide)) rfl rfl rfl hl.1 rfl (Nat.le_of_ble_eq_true rfl) dX3_fog_39 ⟨Nat.zero_le _, Nat.zero_le _⟩) (fun H locs h => ?_)
      refine lv_aload_n hx hb dX3_fog_42 rfl (lv_at hl 0 rfl) ?_
      refine fg_get (C := RX3) (T := TX3) (N := 7) S vu_X3 hK h fg_p3_0 rfl rfl 1 (by decide) vf_RX3_16 rfl rfl dX3_fog_43 ?_
      refine fg_get (C := RX2) (T := TX2) (N := 16) S vu_X2 hK h (fg_p2_0 (by decide)) rfl rfl 0 (by decide) vf_RX3_56 rfl rfl dX3_fog_46 ?_
      refine lv_iload_n hx hb dX3_fog_49 rfl (lv_at hl 1 rfl) ?_
      obtain ⟨hn14, hf⟩ := fg_gdE hf
      refine fg_iald hx hb hK h (fg_p2_1 (by decide)) (fun _ => rfl) hn14 dX3_fog_50 ?_
      exact fg_reti hx hb hr hlk hK h hf dX3_fog_51
    · have hf := fg_ifT hf hc
      refine lv_aload_n hx hb dX3_fog_17 rfl (lv_at hl 0 rfl) ?_
      refine lv_iconst (v := 0) hx hb dX3_fog_18 rfl ?_
      obtain ⟨r17, w15, hc16, hf⟩ := fg_biE hf
      refine fg_ci h (fg_runV (rest := []) S hK h (c_X3_finding l D g 0  w7 r17 w15 hc16) vg_RX3_48 vd_X3_finding ⟨by decide, by decide⟩ fg_p3_0 rfl rfl rfl hl.1 rfl (Nat.le_of_ble_eq_true rfl) dX3_fog_19 ⟨Nat.zero_le _, Nat.zero_le _⟩) (fun H locs h => ?_)
      exact fg_reti hx hb hr hlk hK h hf dX3_fog_22
set_option maxHeartbeats 4000000 in
set_option maxRecDepth 100000 in
theorem c_X3_falls (l : Launch) (D : va_G) (g : fg_G) (a1 : Int32) (w : fg_W) (r : Int32) (w' : fg_W) (hf : f_X3_falls a1 w = some (r, w')) : fg_M l yX3_falls cX3_falls 3 (some .int) 5 114 D g [.ref (g.1 3 0 0), .int a1] w (fg_Qi D g r w') := by
  refine fg_M.of rfl (Nat.le_of_ble_eq_true rfl) (fun p e s m below meth c ls S hr hlk hK h hl => ?_)
  have hx := S.1
  have hb := S.2.1
  have hl : lv_has ls 3 [(0, .ref (g.1 3 0 0)), (1, .int a1)] := hl
  unfold f_X3_falls at hf
  refine lv_aload_n hx hb dX3_falls_0 rfl (lv_at hl 0 rfl) ?_
  refine fg_get (C := RX3) (T := TX3) (N := 7) S vu_X3 hK h fg_p3_0 rfl rfl 0 (by decide) vf_RX3_10 rfl rfl dX3_falls_1 ?_
  refine lv_iload_n hx hb dX3_falls_4 rfl (lv_at hl 1 rfl) ?_
  obtain ⟨r3, w1, hc2, hf⟩ := fg_biE hf
  refine fg_ci h (fg_runV (rest := []) S hK h (c_X2_isPerson l D g 0 a1 (by decide) w r3 w1 hc2) vg_RX3_66 vd_X2_isPerson ⟨by decide, by decide⟩ (fg_p2_0 (by decide)) rfl rfl rfl hl.1 rfl (Nat.le_of_ble_eq_true rfl) dX3_falls_5 ⟨Nat.zero_le _, Nat.zero_le _⟩) (fun H locs h => ?_)
  refine lv_if_ne (tgt := 17) hx hb dX3_falls_8 (by decide) (fun hc => ?_) (fun hc => ?_)
  · have hf := fg_ifF hf hc
    refine lv_aload_n hx hb dX3_falls_17 rfl (lv_at hl 0 rfl) ?_
    refine fg_get (C := RX3) (T := TX3) (N := 7) S vu_X3 hK h fg_p3_0 rfl rfl 1 (by decide) vf_RX3_16 rfl rfl dX3_falls_18 ?_
    refine lv_aload_n hx hb dX3_falls_21 rfl (lv_at hl 0 rfl) ?_
    refine fg_get (C := RX3) (T := TX3) (N := 7) S vu_X3 hK h fg_p3_0 rfl rfl 0 (by decide) vf_RX3_10 rfl rfl dX3_falls_22 ?_
    obtain ⟨w4, hc5, hf⟩ := fg_bvE hf
    refine fg_cv h (fg_runV (rest := []) S hK h (c_X2_become l D g 1 0 (by decide) (by decide) w1 w4 hc5) vg_RX3_144 vd_X2_become ⟨by decide, by decide⟩ (fg_p2_0 (by decide)) rfl rfl rfl hl.1 rfl (Nat.le_of_ble_eq_true rfl) dX3_falls_25 ⟨Nat.zero_le _, Nat.zero_le _⟩) (fun H locs h => ?_)
    refine lv_iconst (v := 1) hx hb dX3_falls_28 rfl ?_
    refine lv_istore_n (lv' := [(2, .int 1), (0, .ref (g.1 3 0 0)), (1, .int a1)]) hx hb dX3_falls_29 rfl hl (by decide) rfl (fun ls hl => ?_)
    have hK_30 : ∀ (v2_30 : Int32) (w_30 : fg_W) (H : Heap) (locs : List Loc) (ls : Array Slot), fg_H D g s.heap w_30 H locs → lv_has ls 3 [(0, .ref (g.1 3 0 0)), (1, .int a1), (2, .int v2_30)] → (fg_bi (f_X3_finding 3 w_30) (fun r8 w6 => some (r8, w6))) = some (r, w') → fg_Gi p l e 5 114 s m [.ref (g.1 3 0 0), .int a1] below meth c D g r w' H locs 73 ls [] := by
      intro v2_30 w_30 H locs ls h hl hf
      refine lv_aload_n hx hb dX3_falls_73 rfl (lv_at hl 0 rfl) ?_
      refine lv_iconst (v := 3) hx hb dX3_falls_74 rfl ?_
      obtain ⟨r8, w6, hc7, hf⟩ := fg_biE hf
      refine fg_ci h (fg_runV (rest := []) S hK h (c_X3_finding l D g 3  w_30 r8 w6 hc7) vg_RX3_48 vd_X3_finding ⟨by decide, by decide⟩ fg_p3_0 rfl rfl rfl hl.1 rfl (Nat.le_of_ble_eq_true rfl) dX3_falls_75 ⟨Nat.zero_le _, Nat.zero_le _⟩) (fun H locs h => ?_)
      exact fg_reti hx hb hr hlk hK h hf dX3_falls_78
    have hL_30 : ∀ (KK_30 : Int32 → fg_W → Option (Int32 × fg_W)) (hK_30 : ∀ (v2_30 : Int32) (w_30 : fg_W) (H : Heap) (locs : List Loc) (ls : Array Slot), fg_H D g s.heap w_30 H locs → lv_has ls 3 [(0, .ref (g.1 3 0 0)), (1, .int a1), (2, .int v2_30)] → KK_30 v2_30 w_30 = some (r, w') → fg_Gi p l e 5 114 s m [.ref (g.1 3 0 0), .int a1] below meth c D g r w' H locs 73 ls []) (n : Nat) (v2_30 : Int32) (w_30 : fg_W) (H : Heap) (locs : List Loc) (ls : Array Slot), fg_H D g s.heap w_30 H locs → lv_has ls 3 [(0, .ref (g.1 3 0 0)), (1, .int a1), (2, .int v2_30)] → f_X3_falls_L30 a1 KK_30 n v2_30 w_30 = some (r, w') → fg_Gi p l e 5 114 s m [.ref (g.1 3 0 0), .int a1] below meth c D g r w' H locs 30 ls [] := by
      intro KK_30 hK_30 n
      induction n with
      | zero => intro v2_30 w_30 H locs ls h hl hf; exact fg_no hf
      | succ n_30 ih_30 =>
        intro v2_30 w_30 H locs ls h hl hf
        unfold f_X3_falls_L30 at hf
        refine lv_iload_n hx hb dX3_falls_30 rfl (lv_at hl 2 rfl) ?_
        refine lv_bipush (v := 100) hx hb dX3_falls_31 rfl ?_
        refine lv_icmp_gt (tgt := 73) hx hb dX3_falls_33 (by decide) (fun hc => ?_) (fun hc => ?_)
        · have hf := fg_ifT hf hc
          exact hK_30 v2_30 w_30 _ _ ls h (lv_sub hl [0, 1, 2] rfl) hf
        · have hf := fg_ifF hf hc
          refine lv_aload_n hx hb dX3_falls_36 rfl (lv_at hl 0 rfl) ?_
          refine fg_get (C := RX3) (T := TX3) (N := 7) S vu_X3 hK h fg_p3_0 rfl rfl 1 (by decide) vf_RX3_16 rfl rfl dX3_falls_37 ?_
          refine lv_iconst (v := 1) hx hb dX3_falls_40 rfl ?_
          obtain ⟨w13, hc14, hf⟩ := fg_bvE hf
          refine fg_cv h (fg_runV (rest := []) S hK h (c_X2_passDays l D g 1 1 (by decide) w_30 w13 hc14) vg_RX3_129 vd_X2_passDays ⟨by decide, by decide⟩ (fg_p2_0 (by decide)) rfl rfl rfl hl.1 rfl (Nat.le_of_ble_eq_true rfl) dX3_falls_41 ⟨Nat.zero_le _, Nat.zero_le _⟩) (fun H locs h => ?_)
          refine lv_aload_n hx hb dX3_falls_44 rfl (lv_at hl 0 rfl) ?_
          refine fg_get (C := RX3) (T := TX3) (N := 7) S vu_X3 hK h fg_p3_0 rfl rfl 1 (by decide) vf_RX3_16 rfl rfl dX3_falls_45 ?_
          refine fg_get (C := RX2) (T := TX2) (N := 16) S vu_X2 hK h (fg_p2_0 (by decide)) rfl rfl 10 (by decide) vf_RX3_119 rfl rfl dX3_falls_48 ?_
          refine lv_iload_n hx hb dX3_falls_51 rfl (lv_at hl 1 rfl) ?_
          obtain ⟨hn15, hf⟩ := fg_gdE hf
          refine fg_iald hx hb hK h (fg_p2_9 (by decide)) (fun _ => rfl) hn15 dX3_falls_52 ?_
          refine lv_aload_n hx hb dX3_falls_53 rfl (lv_at hl 0 rfl) ?_
          refine fg_get (C := RX3) (T := TX3) (N := 7) S vu_X3 hK h fg_p3_0 rfl rfl 0 (by decide) vf_RX3_10 rfl rfl dX3_falls_54 ?_
          refine fg_get (C := RX2) (T := TX2) (N := 16) S vu_X2 hK h (fg_p2_0 (by decide)) rfl rfl 10 (by decide) vf_RX3_119 rfl rfl dX3_falls_57 ?_
          refine lv_iload_n hx hb dX3_falls_60 rfl (lv_at hl 1 rfl) ?_
          obtain ⟨hn16, hf⟩ := fg_gdE hf
          refine fg_iald hx hb hK h (fg_p2_9 (by decide)) (fun _ => rfl) hn16 dX3_falls_61 ?_
          refine lv_icmp_le (tgt := 67) hx hb dX3_falls_62 (by decide) (fun hc => ?_) (fun hc => ?_)
          · have hf := fg_ifT hf hc
            refine lv_iinc (v := (v2_30 + 1)) (lv' := [(2, .int (v2_30 + 1)), (0, .ref (g.1 3 0 0)), (1, .int a1)]) hx hb dX3_falls_67 hl (k := 2) rfl rfl (by decide) rfl (fun ls hl => ?_)
            refine lv_goto (tgt := 30) hx hb dX3_falls_70 (by decide) ?_
            exact ih_30 (v2_30 + 1) w13 _ _ ls h (lv_sub hl [1, 2, 0] rfl) hf
          · have hf := fg_ifF hf hc
            refine lv_iload_n hx hb dX3_falls_65 rfl (lv_at hl 2 rfl) ?_
            exact fg_reti hx hb hr hlk hK h hf dX3_falls_66
    exact hL_30 _ hK_30 fg_fuel 1 w4 _ _ ls h (lv_sub hl [1, 2, 0] rfl) hf
  · have hf := fg_ifT hf hc
    refine lv_aload_n hx hb dX3_falls_11 rfl (lv_at hl 0 rfl) ?_
    refine lv_iconst (v := 0) hx hb dX3_falls_12 rfl ?_
    obtain ⟨r19, w17, hc18, hf⟩ := fg_biE hf
    refine fg_ci h (fg_runV (rest := []) S hK h (c_X3_finding l D g 0  w1 r19 w17 hc18) vg_RX3_48 vd_X3_finding ⟨by decide, by decide⟩ fg_p3_0 rfl rfl rfl hl.1 rfl (Nat.le_of_ble_eq_true rfl) dX3_falls_13 ⟨Nat.zero_le _, Nat.zero_le _⟩) (fun H locs h => ?_)
    exact fg_reti hx hb hr hlk hK h hf dX3_falls_16
set_option maxHeartbeats 4000000 in
set_option maxRecDepth 100000 in
theorem c_X3_bare (l : Launch) (D : va_G) (g : fg_G)  (w : fg_W) (r : Int32) (w' : fg_W) (hf : f_X3_bare  w = some (r, w')) : fg_M l yX3_bare cX3_bare 2 (some .int) 5 114 D g [.ref (g.1 3 0 0)] w (fg_Qi D g r w') := by
  refine fg_M.of rfl (Nat.le_of_ble_eq_true rfl) (fun p e s m below meth c ls S hr hlk hK h hl => ?_)
  have hx := S.1
  have hb := S.2.1
  have hl : lv_has ls 2 [(0, .ref (g.1 3 0 0))] := hl
  unfold f_X3_bare at hf
  refine lv_aload_n hx hb dX3_bare_0 rfl (lv_at hl 0 rfl) ?_
  refine fg_get (C := RX3) (T := TX3) (N := 7) S vu_X3 hK h fg_p3_0 rfl rfl 1 (by decide) vf_RX3_16 rfl rfl dX3_bare_1 ?_
  refine lv_aload_n hx hb dX3_bare_4 rfl (lv_at hl 0 rfl) ?_
  refine fg_get (C := RX3) (T := TX3) (N := 7) S vu_X3 hK h fg_p3_0 rfl rfl 0 (by decide) vf_RX3_10 rfl rfl dX3_bare_5 ?_
  obtain ⟨w1, hc2, hf⟩ := fg_bvE hf
  refine fg_cv h (fg_runV (rest := []) S hK h (c_X2_become l D g 1 0 (by decide) (by decide) w w1 hc2) vg_RX3_144 vd_X2_become ⟨by decide, by decide⟩ (fg_p2_0 (by decide)) rfl rfl rfl hl.1 rfl (Nat.le_of_ble_eq_true rfl) dX3_bare_8 ⟨Nat.zero_le _, Nat.zero_le _⟩) (fun H locs h => ?_)
  refine lv_iconst (v := 0) hx hb dX3_bare_11 rfl ?_
  refine lv_istore_n (lv' := [(1, .int 0), (0, .ref (g.1 3 0 0))]) hx hb dX3_bare_12 rfl hl (by decide) rfl (fun ls hl => ?_)
  have hK_13 : ∀ (v1_13 : Int32) (w_13 : fg_W) (H : Heap) (locs : List Loc) (ls : Array Slot), fg_H D g s.heap w_13 H locs → lv_has ls 2 [(0, .ref (g.1 3 0 0)), (1, .int v1_13)] → (fg_bi (f_X3_finding 3 w_13) (fun r5 w3 => some (r5, w3))) = some (r, w') → fg_Gi p l e 5 114 s m [.ref (g.1 3 0 0)] below meth c D g r w' H locs 45 ls [] := by
    intro v1_13 w_13 H locs ls h hl hf
    refine lv_aload_n hx hb dX3_bare_45 rfl (lv_at hl 0 rfl) ?_
    refine lv_iconst (v := 3) hx hb dX3_bare_46 rfl ?_
    obtain ⟨r5, w3, hc4, hf⟩ := fg_biE hf
    refine fg_ci h (fg_runV (rest := []) S hK h (c_X3_finding l D g 3  w_13 r5 w3 hc4) vg_RX3_48 vd_X3_finding ⟨by decide, by decide⟩ fg_p3_0 rfl rfl rfl hl.1 rfl (Nat.le_of_ble_eq_true rfl) dX3_bare_47 ⟨Nat.zero_le _, Nat.zero_le _⟩) (fun H locs h => ?_)
    exact fg_reti hx hb hr hlk hK h hf dX3_bare_50
  have hL_13 : ∀ (KK_13 : Int32 → fg_W → Option (Int32 × fg_W)) (hK_13 : ∀ (v1_13 : Int32) (w_13 : fg_W) (H : Heap) (locs : List Loc) (ls : Array Slot), fg_H D g s.heap w_13 H locs → lv_has ls 2 [(0, .ref (g.1 3 0 0)), (1, .int v1_13)] → KK_13 v1_13 w_13 = some (r, w') → fg_Gi p l e 5 114 s m [.ref (g.1 3 0 0)] below meth c D g r w' H locs 45 ls []) (n : Nat) (v1_13 : Int32) (w_13 : fg_W) (H : Heap) (locs : List Loc) (ls : Array Slot), fg_H D g s.heap w_13 H locs → lv_has ls 2 [(0, .ref (g.1 3 0 0)), (1, .int v1_13)] → f_X3_bare_L13  KK_13 n v1_13 w_13 = some (r, w') → fg_Gi p l e 5 114 s m [.ref (g.1 3 0 0)] below meth c D g r w' H locs 13 ls [] := by
    intro KK_13 hK_13 n
    induction n with
    | zero => intro v1_13 w_13 H locs ls h hl hf; exact fg_no hf
    | succ n_13 ih_13 =>
      intro v1_13 w_13 H locs ls h hl hf
      unfold f_X3_bare_L13 at hf
      refine lv_iload_n hx hb dX3_bare_13 rfl (lv_at hl 1 rfl) ?_
      refine lv_bipush (v := 100) hx hb dX3_bare_14 rfl ?_
      refine lv_icmp_gt (tgt := 45) hx hb dX3_bare_16 (by decide) (fun hc => ?_) (fun hc => ?_)
      · have hf := fg_ifT hf hc
        exact hK_13 v1_13 w_13 _ _ ls h (lv_sub hl [0, 1] rfl) hf
      · have hf := fg_ifF hf hc
        refine lv_aload_n hx hb dX3_bare_19 rfl (lv_at hl 0 rfl) ?_
        refine fg_get (C := RX3) (T := TX3) (N := 7) S vu_X3 hK h fg_p3_0 rfl rfl 1 (by decide) vf_RX3_16 rfl rfl dX3_bare_20 ?_
        obtain ⟨r13, w11, hc12, hf⟩ := fg_biE hf
        refine fg_ci h (fg_runV (rest := []) S hK h (c_X2_thoseOnLots l D g 1 (by decide) w_13 r13 w11 hc12) vg_RX3_133 vd_X2_thoseOnLots ⟨by decide, by decide⟩ (fg_p2_0 (by decide)) rfl rfl rfl hl.1 rfl (Nat.le_of_ble_eq_true rfl) dX3_bare_23 ⟨Nat.zero_le _, Nat.zero_le _⟩) (fun H locs h => ?_)
        refine lv_if_ne (tgt := 31) hx hb dX3_bare_26 (by decide) (fun hc => ?_) (fun hc => ?_)
        · have hf := fg_ifF hf hc
          refine lv_aload_n hx hb dX3_bare_31 rfl (lv_at hl 0 rfl) ?_
          refine fg_get (C := RX3) (T := TX3) (N := 7) S vu_X3 hK h fg_p3_0 rfl rfl 1 (by decide) vf_RX3_16 rfl rfl dX3_bare_32 ?_
          refine lv_iconst (v := 1) hx hb dX3_bare_35 rfl ?_
          obtain ⟨w14, hc15, hf⟩ := fg_bvE hf
          refine fg_cv h (fg_runV (rest := []) S hK h (c_X2_passDays l D g 1 1 (by decide) w11 w14 hc15) vg_RX3_129 vd_X2_passDays ⟨by decide, by decide⟩ (fg_p2_0 (by decide)) rfl rfl rfl hl.1 rfl (Nat.le_of_ble_eq_true rfl) dX3_bare_36 ⟨Nat.zero_le _, Nat.zero_le _⟩) (fun H locs h => ?_)
          refine lv_iinc (v := (v1_13 + 1)) (lv' := [(1, .int (v1_13 + 1)), (0, .ref (g.1 3 0 0))]) hx hb dX3_bare_39 hl (k := 1) rfl rfl (by decide) rfl (fun ls hl => ?_)
          refine lv_goto (tgt := 13) hx hb dX3_bare_42 (by decide) ?_
          exact ih_13 (v1_13 + 1) w14 _ _ ls h (lv_sub hl [1, 0] rfl) hf
        · have hf := fg_ifT hf hc
          refine lv_iload_n hx hb dX3_bare_29 rfl (lv_at hl 1 rfl) ?_
          exact fg_reti hx hb hr hlk hK h hf dX3_bare_30
  exact hL_13 _ hK_13 fg_fuel 0 w1 _ _ ls h (lv_sub hl [1, 0] rfl) hf
set_option maxHeartbeats 4000000 in
set_option maxRecDepth 100000 in
theorem c_X3_meet (l : Launch) (D : va_G) (g : fg_G) (a1 : Int32) (a2 : Int32) (w : fg_W) (r : Int32) (w' : fg_W) (hf : f_X3_meet a1 a2 w = some (r, w')) : fg_M l yX3_meet cX3_meet 4 (some .int) 5 114 D g [.ref (g.1 3 0 0), .int a1, .int a2] w (fg_Qi D g r w') := by
  refine fg_M.of rfl (Nat.le_of_ble_eq_true rfl) (fun p e s m below meth c ls S hr hlk hK h hl => ?_)
  have hx := S.1
  have hb := S.2.1
  have hl : lv_has ls 4 [(0, .ref (g.1 3 0 0)), (1, .int a1), (2, .int a2)] := hl
  unfold f_X3_meet at hf
  refine lv_aload_n hx hb dX3_meet_0 rfl (lv_at hl 0 rfl) ?_
  refine fg_get (C := RX3) (T := TX3) (N := 7) S vu_X3 hK h fg_p3_0 rfl rfl 0 (by decide) vf_RX3_10 rfl rfl dX3_meet_1 ?_
  refine lv_iload_n hx hb dX3_meet_4 rfl (lv_at hl 1 rfl) ?_
  obtain ⟨r3, w1, hc2, hf⟩ := fg_biE hf
  refine fg_ci h (fg_runV (rest := []) S hK h (c_X2_isPerson l D g 0 a1 (by decide) w r3 w1 hc2) vg_RX3_66 vd_X2_isPerson ⟨by decide, by decide⟩ (fg_p2_0 (by decide)) rfl rfl rfl hl.1 rfl (Nat.le_of_ble_eq_true rfl) dX3_meet_5 ⟨Nat.zero_le _, Nat.zero_le _⟩) (fun H locs h => ?_)
  refine lv_if_eq (tgt := 27) hx hb dX3_meet_8 (by decide) (fun hc => ?_) (fun hc => ?_)
  · have hf := fg_ifT hf hc
    refine lv_aload_n hx hb dX3_meet_27 rfl (lv_at hl 0 rfl) ?_
    refine lv_iconst (v := 0) hx hb dX3_meet_28 rfl ?_
    obtain ⟨r6, w4, hc5, hf⟩ := fg_biE hf
    refine fg_ci h (fg_runV (rest := []) S hK h (c_X3_finding l D g 0  w1 r6 w4 hc5) vg_RX3_48 vd_X3_finding ⟨by decide, by decide⟩ fg_p3_0 rfl rfl rfl hl.1 rfl (Nat.le_of_ble_eq_true rfl) dX3_meet_29 ⟨Nat.zero_le _, Nat.zero_le _⟩) (fun H locs h => ?_)
    exact fg_reti hx hb hr hlk hK h hf dX3_meet_32
  · have hf := fg_ifF hf hc
    refine lv_aload_n hx hb dX3_meet_11 rfl (lv_at hl 0 rfl) ?_
    refine fg_get (C := RX3) (T := TX3) (N := 7) S vu_X3 hK h fg_p3_0 rfl rfl 0 (by decide) vf_RX3_10 rfl rfl dX3_meet_12 ?_
    refine lv_iload_n hx hb dX3_meet_15 rfl (lv_at hl 2 rfl) ?_
    obtain ⟨r9, w7, hc8, hf⟩ := fg_biE hf
    refine fg_ci h (fg_runV (rest := []) S hK h (c_X2_isPerson l D g 0 a2 (by decide) w1 r9 w7 hc8) vg_RX3_66 vd_X2_isPerson ⟨by decide, by decide⟩ (fg_p2_0 (by decide)) rfl rfl rfl hl.1 rfl (Nat.le_of_ble_eq_true rfl) dX3_meet_16 ⟨Nat.zero_le _, Nat.zero_le _⟩) (fun H locs h => ?_)
    refine lv_if_eq (tgt := 27) hx hb dX3_meet_19 (by decide) (fun hc => ?_) (fun hc => ?_)
    · have hf := fg_ifT hf hc
      refine lv_aload_n hx hb dX3_meet_27 rfl (lv_at hl 0 rfl) ?_
      refine lv_iconst (v := 0) hx hb dX3_meet_28 rfl ?_
      obtain ⟨r12, w10, hc11, hf⟩ := fg_biE hf
      refine fg_ci h (fg_runV (rest := []) S hK h (c_X3_finding l D g 0  w7 r12 w10 hc11) vg_RX3_48 vd_X3_finding ⟨by decide, by decide⟩ fg_p3_0 rfl rfl rfl hl.1 rfl (Nat.le_of_ble_eq_true rfl) dX3_meet_29 ⟨Nat.zero_le _, Nat.zero_le _⟩) (fun H locs h => ?_)
      exact fg_reti hx hb hr hlk hK h hf dX3_meet_32
    · have hf := fg_ifF hf hc
      refine lv_iload_n hx hb dX3_meet_22 rfl (lv_at hl 1 rfl) ?_
      refine lv_iload_n hx hb dX3_meet_23 rfl (lv_at hl 2 rfl) ?_
      refine lv_icmp_ne (tgt := 33) hx hb dX3_meet_24 (by decide) (fun hc => ?_) (fun hc => ?_)
      · have hf := fg_ifF hf hc
        refine lv_aload_n hx hb dX3_meet_33 rfl (lv_at hl 0 rfl) ?_
        refine fg_get (C := RX3) (T := TX3) (N := 7) S vu_X3 hK h fg_p3_0 rfl rfl 1 (by decide) vf_RX3_16 rfl rfl dX3_meet_34 ?_
        refine lv_aload_n hx hb dX3_meet_37 rfl (lv_at hl 0 rfl) ?_
        refine fg_get (C := RX3) (T := TX3) (N := 7) S vu_X3 hK h fg_p3_0 rfl rfl 0 (by decide) vf_RX3_10 rfl rfl dX3_meet_38 ?_
        obtain ⟨w13, hc14, hf⟩ := fg_bvE hf
        refine fg_cv h (fg_runV (rest := []) S hK h (c_X2_become l D g 1 0 (by decide) (by decide) w7 w13 hc14) vg_RX3_144 vd_X2_become ⟨by decide, by decide⟩ (fg_p2_0 (by decide)) rfl rfl rfl hl.1 rfl (Nat.le_of_ble_eq_true rfl) dX3_meet_41 ⟨Nat.zero_le _, Nat.zero_le _⟩) (fun H locs h => ?_)
        refine lv_iconst (v := 0) hx hb dX3_meet_44 rfl ?_
        refine lv_istore_n (lv' := [(3, .int 0), (0, .ref (g.1 3 0 0)), (1, .int a1), (2, .int a2)]) hx hb dX3_meet_45 rfl hl (by decide) rfl (fun ls hl => ?_)
        have hK_46 : ∀ (v3_46 : Int32) (w_46 : fg_W) (H : Heap) (locs : List Loc) (ls : Array Slot), fg_H D g s.heap w_46 H locs → lv_has ls 4 [(0, .ref (g.1 3 0 0)), (1, .int a1), (2, .int a2), (3, .int v3_46)] → (fg_bi (f_X3_finding 3 w_46) (fun r17 w15 => some (r17, w15))) = some (r, w') → fg_Gi p l e 5 114 s m [.ref (g.1 3 0 0), .int a1, .int a2] below meth c D g r w' H locs 102 ls [] := by
          intro v3_46 w_46 H locs ls h hl hf
          refine lv_aload_n hx hb dX3_meet_102 rfl (lv_at hl 0 rfl) ?_
          refine lv_iconst (v := 3) hx hb dX3_meet_103 rfl ?_
          obtain ⟨r17, w15, hc16, hf⟩ := fg_biE hf
          refine fg_ci h (fg_runV (rest := []) S hK h (c_X3_finding l D g 3  w_46 r17 w15 hc16) vg_RX3_48 vd_X3_finding ⟨by decide, by decide⟩ fg_p3_0 rfl rfl rfl hl.1 rfl (Nat.le_of_ble_eq_true rfl) dX3_meet_104 ⟨Nat.zero_le _, Nat.zero_le _⟩) (fun H locs h => ?_)
          exact fg_reti hx hb hr hlk hK h hf dX3_meet_107
        have hL_46 : ∀ (KK_46 : Int32 → fg_W → Option (Int32 × fg_W)) (hK_46 : ∀ (v3_46 : Int32) (w_46 : fg_W) (H : Heap) (locs : List Loc) (ls : Array Slot), fg_H D g s.heap w_46 H locs → lv_has ls 4 [(0, .ref (g.1 3 0 0)), (1, .int a1), (2, .int a2), (3, .int v3_46)] → KK_46 v3_46 w_46 = some (r, w') → fg_Gi p l e 5 114 s m [.ref (g.1 3 0 0), .int a1, .int a2] below meth c D g r w' H locs 102 ls []) (n : Nat) (v3_46 : Int32) (w_46 : fg_W) (H : Heap) (locs : List Loc) (ls : Array Slot), fg_H D g s.heap w_46 H locs → lv_has ls 4 [(0, .ref (g.1 3 0 0)), (1, .int a1), (2, .int a2), (3, .int v3_46)] → f_X3_meet_L46 a1 a2 KK_46 n v3_46 w_46 = some (r, w') → fg_Gi p l e 5 114 s m [.ref (g.1 3 0 0), .int a1, .int a2] below meth c D g r w' H locs 46 ls [] := by
          intro KK_46 hK_46 n
          induction n with
          | zero => intro v3_46 w_46 H locs ls h hl hf; exact fg_no hf
          | succ n_46 ih_46 =>
            intro v3_46 w_46 H locs ls h hl hf
            unfold f_X3_meet_L46 at hf
            refine lv_iload_n hx hb dX3_meet_46 rfl (lv_at hl 3 rfl) ?_
            refine lv_bipush (v := 100) hx hb dX3_meet_47 rfl ?_
            refine lv_icmp_gt (tgt := 102) hx hb dX3_meet_49 (by decide) (fun hc => ?_) (fun hc => ?_)
            · have hf := fg_ifT hf hc
              exact hK_46 v3_46 w_46 _ _ ls h (lv_sub hl [0, 1, 2, 3] rfl) hf
            · have hf := fg_ifF hf hc
              refine lv_aload_n hx hb dX3_meet_52 rfl (lv_at hl 0 rfl) ?_
              refine fg_get (C := RX3) (T := TX3) (N := 7) S vu_X3 hK h fg_p3_0 rfl rfl 1 (by decide) vf_RX3_16 rfl rfl dX3_meet_53 ?_
              refine fg_get (C := RX2) (T := TX2) (N := 16) S vu_X2 hK h (fg_p2_0 (by decide)) rfl rfl 7 (by decide) vf_RX3_110 rfl rfl dX3_meet_56 ?_
              refine lv_iload_n hx hb dX3_meet_59 rfl (lv_at hl 1 rfl) ?_
              obtain ⟨hn25, hf⟩ := fg_gdE hf
              refine fg_iald hx hb hK h (fg_p2_6 (by decide)) (fun _ => rfl) hn25 dX3_meet_60 ?_
              refine lv_iconst (v := (-1)) hx hb dX3_meet_61 rfl ?_
              refine lv_icmp_eq (tgt := 88) hx hb dX3_meet_62 (by decide) (fun hc => ?_) (fun hc => ?_)
              · have hf := fg_ifT hf hc
                refine lv_aload_n hx hb dX3_meet_88 rfl (lv_at hl 0 rfl) ?_
                refine fg_get (C := RX3) (T := TX3) (N := 7) S vu_X3 hK h fg_p3_0 rfl rfl 1 (by decide) vf_RX3_16 rfl rfl dX3_meet_89 ?_
                refine lv_iconst (v := 1) hx hb dX3_meet_92 rfl ?_
                obtain ⟨w26, hc27, hf⟩ := fg_bvE hf
                refine fg_cv h (fg_runV (rest := []) S hK h (c_X2_passDays l D g 1 1 (by decide) w_46 w26 hc27) vg_RX3_129 vd_X2_passDays ⟨by decide, by decide⟩ (fg_p2_0 (by decide)) rfl rfl rfl hl.1 rfl (Nat.le_of_ble_eq_true rfl) dX3_meet_93 ⟨Nat.zero_le _, Nat.zero_le _⟩) (fun H locs h => ?_)
                refine lv_iinc (v := (v3_46 + 1)) (lv' := [(3, .int (v3_46 + 1)), (0, .ref (g.1 3 0 0)), (1, .int a1), (2, .int a2)]) hx hb dX3_meet_96 hl (k := 3) rfl rfl (by decide) rfl (fun ls hl => ?_)
                refine lv_goto (tgt := 46) hx hb dX3_meet_99 (by decide) ?_
                exact ih_46 (v3_46 + 1) w26 _ _ ls h (lv_sub hl [1, 2, 3, 0] rfl) hf
              · have hf := fg_ifF hf hc
                refine lv_aload_n hx hb dX3_meet_65 rfl (lv_at hl 0 rfl) ?_
                refine fg_get (C := RX3) (T := TX3) (N := 7) S vu_X3 hK h fg_p3_0 rfl rfl 1 (by decide) vf_RX3_16 rfl rfl dX3_meet_66 ?_
                refine fg_get (C := RX2) (T := TX2) (N := 16) S vu_X2 hK h (fg_p2_0 (by decide)) rfl rfl 7 (by decide) vf_RX3_110 rfl rfl dX3_meet_69 ?_
                refine lv_iload_n hx hb dX3_meet_72 rfl (lv_at hl 1 rfl) ?_
                obtain ⟨hn28, hf⟩ := fg_gdE hf
                refine fg_iald hx hb hK h (fg_p2_6 (by decide)) (fun _ => rfl) hn28 dX3_meet_73 ?_
                refine lv_aload_n hx hb dX3_meet_74 rfl (lv_at hl 0 rfl) ?_
                refine fg_get (C := RX3) (T := TX3) (N := 7) S vu_X3 hK h fg_p3_0 rfl rfl 1 (by decide) vf_RX3_16 rfl rfl dX3_meet_75 ?_
                refine fg_get (C := RX2) (T := TX2) (N := 16) S vu_X2 hK h (fg_p2_0 (by decide)) rfl rfl 7 (by decide) vf_RX3_110 rfl rfl dX3_meet_78 ?_
                refine lv_iload_n hx hb dX3_meet_81 rfl (lv_at hl 2 rfl) ?_
                obtain ⟨hn29, hf⟩ := fg_gdE hf
                refine fg_iald hx hb hK h (fg_p2_6 (by decide)) (fun _ => rfl) hn29 dX3_meet_82 ?_
                refine lv_icmp_ne (tgt := 88) hx hb dX3_meet_83 (by decide) (fun hc => ?_) (fun hc => ?_)
                · have hf := fg_ifF hf hc
                  refine lv_aload_n hx hb dX3_meet_88 rfl (lv_at hl 0 rfl) ?_
                  refine fg_get (C := RX3) (T := TX3) (N := 7) S vu_X3 hK h fg_p3_0 rfl rfl 1 (by decide) vf_RX3_16 rfl rfl dX3_meet_89 ?_
                  refine lv_iconst (v := 1) hx hb dX3_meet_92 rfl ?_
                  obtain ⟨w30, hc31, hf⟩ := fg_bvE hf
                  refine fg_cv h (fg_runV (rest := []) S hK h (c_X2_passDays l D g 1 1 (by decide) w_46 w30 hc31) vg_RX3_129 vd_X2_passDays ⟨by decide, by decide⟩ (fg_p2_0 (by decide)) rfl rfl rfl hl.1 rfl (Nat.le_of_ble_eq_true rfl) dX3_meet_93 ⟨Nat.zero_le _, Nat.zero_le _⟩) (fun H locs h => ?_)
                  refine lv_iinc (v := (v3_46 + 1)) (lv' := [(3, .int (v3_46 + 1)), (0, .ref (g.1 3 0 0)), (1, .int a1), (2, .int a2)]) hx hb dX3_meet_96 hl (k := 3) rfl rfl (by decide) rfl (fun ls hl => ?_)
                  refine lv_goto (tgt := 46) hx hb dX3_meet_99 (by decide) ?_
                  exact ih_46 (v3_46 + 1) w30 _ _ ls h (lv_sub hl [1, 2, 3, 0] rfl) hf
                · have hf := fg_ifT hf hc
                  refine lv_iload_n hx hb dX3_meet_86 rfl (lv_at hl 3 rfl) ?_
                  exact fg_reti hx hb hr hlk hK h hf dX3_meet_87
        exact hL_46 _ hK_46 fg_fuel 0 w13 _ _ ls h (lv_sub hl [1, 2, 3, 0] rfl) hf
      · have hf := fg_ifT hf hc
        refine lv_aload_n hx hb dX3_meet_27 rfl (lv_at hl 0 rfl) ?_
        refine lv_iconst (v := 0) hx hb dX3_meet_28 rfl ?_
        obtain ⟨r34, w32, hc33, hf⟩ := fg_biE hf
        refine fg_ci h (fg_runV (rest := []) S hK h (c_X3_finding l D g 0  w7 r34 w32 hc33) vg_RX3_48 vd_X3_finding ⟨by decide, by decide⟩ fg_p3_0 rfl rfl rfl hl.1 rfl (Nat.le_of_ble_eq_true rfl) dX3_meet_29 ⟨Nat.zero_le _, Nat.zero_le _⟩) (fun H locs h => ?_)
        exact fg_reti hx hb hr hlk hK h hf dX3_meet_32
set_option maxHeartbeats 4000000 in
set_option maxRecDepth 100000 in
theorem c_X3_beliefFor (l : Launch) (D : va_G) (g : fg_G) (a1 : Int32) (a2 : Int32) (w : fg_W) (r : Int32) (w' : fg_W) (hf : f_X3_beliefFor a1 a2 w = some (r, w')) : fg_M l yX3_beliefFor cX3_beliefFor 5 (some .int) 5 114 D g [.ref (g.1 3 0 0), .int a1, .int a2] w (fg_Qi D g r w') := by
  refine fg_M.of rfl (Nat.le_of_ble_eq_true rfl) (fun p e s m below meth c ls S hr hlk hK h hl => ?_)
  have hx := S.1
  have hb := S.2.1
  have hl : lv_has ls 5 [(0, .ref (g.1 3 0 0)), (1, .int a1), (2, .int a2)] := hl
  unfold f_X3_beliefFor at hf
  refine lv_aload_n hx hb dX3_beliefFor_0 rfl (lv_at hl 0 rfl) ?_
  refine fg_get (C := RX3) (T := TX3) (N := 7) S vu_X3 hK h fg_p3_0 rfl rfl 0 (by decide) vf_RX3_10 rfl rfl dX3_beliefFor_1 ?_
  refine lv_iload_n hx hb dX3_beliefFor_4 rfl (lv_at hl 1 rfl) ?_
  obtain ⟨r3, w1, hc2, hf⟩ := fg_biE hf
  refine fg_ci h (fg_runV (rest := []) S hK h (c_X2_isPerson l D g 0 a1 (by decide) w r3 w1 hc2) vg_RX3_66 vd_X2_isPerson ⟨by decide, by decide⟩ (fg_p2_0 (by decide)) rfl rfl rfl hl.1 rfl (Nat.le_of_ble_eq_true rfl) dX3_beliefFor_5 ⟨Nat.zero_le _, Nat.zero_le _⟩) (fun H locs h => ?_)
  refine lv_if_eq (tgt := 21) hx hb dX3_beliefFor_8 (by decide) (fun hc => ?_) (fun hc => ?_)
  · have hf := fg_ifT hf hc
    refine lv_aload_n hx hb dX3_beliefFor_21 rfl (lv_at hl 0 rfl) ?_
    refine lv_iconst (v := 0) hx hb dX3_beliefFor_22 rfl ?_
    obtain ⟨r6, w4, hc5, hf⟩ := fg_biE hf
    refine fg_ci h (fg_runV (rest := []) S hK h (c_X3_finding l D g 0  w1 r6 w4 hc5) vg_RX3_48 vd_X3_finding ⟨by decide, by decide⟩ fg_p3_0 rfl rfl rfl hl.1 rfl (Nat.le_of_ble_eq_true rfl) dX3_beliefFor_23 ⟨Nat.zero_le _, Nat.zero_le _⟩) (fun H locs h => ?_)
    exact fg_reti hx hb hr hlk hK h hf dX3_beliefFor_26
  · have hf := fg_ifF hf hc
    refine lv_iload_n hx hb dX3_beliefFor_11 rfl (lv_at hl 2 rfl) ?_
    refine lv_iconst (v := 0) hx hb dX3_beliefFor_12 rfl ?_
    refine lv_bipush (v := 40) hx hb dX3_beliefFor_13 rfl ?_
    obtain ⟨r9, w7, hc8, hf⟩ := fg_biE hf
    refine fg_ci h (fg_runS (rest := []) S hK h (c_X3_within l D g a2 0 40  w1 r9 w7 hc8) vk_X3_within vm_RX3_52 vs_X3_within vi_RX3 vd_X3_within.2 ⟨by decide, by decide⟩ rfl hl.1 rfl (Nat.le_of_ble_eq_true rfl) dX3_beliefFor_15 ⟨Nat.zero_le _, Nat.zero_le _⟩) (fun H locs h => ?_)
    refine lv_if_ne (tgt := 27) hx hb dX3_beliefFor_18 (by decide) (fun hc => ?_) (fun hc => ?_)
    · have hf := fg_ifF hf hc
      refine lv_iconst (v := 0) hx hb dX3_beliefFor_27 rfl ?_
      refine lv_istore_n (lv' := [(3, .int 0), (0, .ref (g.1 3 0 0)), (1, .int a1), (2, .int a2)]) hx hb dX3_beliefFor_28 rfl hl (by decide) rfl (fun ls hl => ?_)
      have hK_29 : ∀ (v3_29 : Int32) (w_29 : fg_W) (H : Heap) (locs : List Loc) (ls : Array Slot), fg_H D g s.heap w_29 H locs → lv_has ls 5 [(0, .ref (g.1 3 0 0)), (1, .int a1), (2, .int a2), (3, .int v3_29)] → (fg_bi (f_X3_finding 3 w_29) (fun r12 w10 => some (r12, w10))) = some (r, w') → fg_Gi p l e 5 114 s m [.ref (g.1 3 0 0), .int a1, .int a2] below meth c D g r w' H locs 129 ls [] := by
        intro v3_29 w_29 H locs ls h hl hf
        refine lv_aload_n hx hb dX3_beliefFor_129 rfl (lv_at hl 0 rfl) ?_
        refine lv_iconst (v := 3) hx hb dX3_beliefFor_130 rfl ?_
        obtain ⟨r12, w10, hc11, hf⟩ := fg_biE hf
        refine fg_ci h (fg_runV (rest := []) S hK h (c_X3_finding l D g 3  w_29 r12 w10 hc11) vg_RX3_48 vd_X3_finding ⟨by decide, by decide⟩ fg_p3_0 rfl rfl rfl hl.1 rfl (Nat.le_of_ble_eq_true rfl) dX3_beliefFor_131 ⟨Nat.zero_le _, Nat.zero_le _⟩) (fun H locs h => ?_)
        exact fg_reti hx hb hr hlk hK h hf dX3_beliefFor_134
      have hL_29 : ∀ (KK_29 : Int32 → fg_W → Option (Int32 × fg_W)) (hK_29 : ∀ (v3_29 : Int32) (w_29 : fg_W) (H : Heap) (locs : List Loc) (ls : Array Slot), fg_H D g s.heap w_29 H locs → lv_has ls 5 [(0, .ref (g.1 3 0 0)), (1, .int a1), (2, .int a2), (3, .int v3_29)] → KK_29 v3_29 w_29 = some (r, w') → fg_Gi p l e 5 114 s m [.ref (g.1 3 0 0), .int a1, .int a2] below meth c D g r w' H locs 129 ls []) (n : Nat) (v3_29 : Int32) (w_29 : fg_W) (H : Heap) (locs : List Loc) (ls : Array Slot), fg_H D g s.heap w_29 H locs → lv_has ls 5 [(0, .ref (g.1 3 0 0)), (1, .int a1), (2, .int a2), (3, .int v3_29)] → f_X3_beliefFor_L29 a1 a2 KK_29 n v3_29 w_29 = some (r, w') → fg_Gi p l e 5 114 s m [.ref (g.1 3 0 0), .int a1, .int a2] below meth c D g r w' H locs 29 ls [] := by
        intro KK_29 hK_29 n
        induction n with
        | zero => intro v3_29 w_29 H locs ls h hl hf; exact fg_no hf
        | succ n_29 ih_29 =>
          intro v3_29 w_29 H locs ls h hl hf
          unfold f_X3_beliefFor_L29 at hf
          refine lv_iload_n hx hb dX3_beliefFor_29 rfl (lv_at hl 3 rfl) ?_
          refine lv_bipush (v := 99) hx hb dX3_beliefFor_30 rfl ?_
          refine lv_icmp_gt (tgt := 129) hx hb dX3_beliefFor_32 (by decide) (fun hc => ?_) (fun hc => ?_)
          · have hf := fg_ifT hf hc
            exact hK_29 v3_29 w_29 _ _ ls h (lv_sub hl [0, 1, 2, 3] rfl) hf
          · have hf := fg_ifF hf hc
            refine lv_aload_n hx hb dX3_beliefFor_35 rfl (lv_at hl 0 rfl) ?_
            refine fg_get (C := RX3) (T := TX3) (N := 7) S vu_X3 hK h fg_p3_0 rfl rfl 1 (by decide) vf_RX3_16 rfl rfl dX3_beliefFor_36 ?_
            refine lv_aload_n hx hb dX3_beliefFor_39 rfl (lv_at hl 0 rfl) ?_
            refine fg_get (C := RX3) (T := TX3) (N := 7) S vu_X3 hK h fg_p3_0 rfl rfl 0 (by decide) vf_RX3_10 rfl rfl dX3_beliefFor_40 ?_
            obtain ⟨w27, hc28, hf⟩ := fg_bvE hf
            refine fg_cv h (fg_runV (rest := []) S hK h (c_X2_become l D g 1 0 (by decide) (by decide) w_29 w27 hc28) vg_RX3_144 vd_X2_become ⟨by decide, by decide⟩ (fg_p2_0 (by decide)) rfl rfl rfl hl.1 rfl (Nat.le_of_ble_eq_true rfl) dX3_beliefFor_43 ⟨Nat.zero_le _, Nat.zero_le _⟩) (fun H locs h => ?_)
            refine lv_aload_n hx hb dX3_beliefFor_46 rfl (lv_at hl 0 rfl) ?_
            refine fg_get (C := RX3) (T := TX3) (N := 7) S vu_X3 hK h fg_p3_0 rfl rfl 1 (by decide) vf_RX3_16 rfl rfl dX3_beliefFor_47 ?_
            refine fg_get (C := RX2) (T := TX2) (N := 16) S vu_X2 hK h (fg_p2_0 (by decide)) rfl rfl 8 (by decide) vf_RX3_113 rfl rfl dX3_beliefFor_50 ?_
            refine lv_iload_n hx hb dX3_beliefFor_53 rfl (lv_at hl 1 rfl) ?_
            refine lv_iload_n hx hb dX3_beliefFor_54 rfl (lv_at hl 3 rfl) ?_
            obtain ⟨hn30, hf⟩ := fg_gdE hf
            refine fg_iast hx hb hK h (fg_p2_7 (by decide)) (fun _ => rfl) hn30 dX3_beliefFor_55 (fun w29 H locs ew h => ?_)
            have hf := fg_letE ew hf
            refine lv_iconst (v := 0) hx hb dX3_beliefFor_56 rfl ?_
            refine lv_istore (lv' := [(4, .int 0), (0, .ref (g.1 3 0 0)), (1, .int a1), (2, .int a2), (3, .int v3_29)]) hx hb dX3_beliefFor_57 hl (by decide) rfl (fun ls hl => ?_)
            have hK_59 : ∀ (v4_59 : Int32) (w_59 : fg_W) (H : Heap) (locs : List Loc) (ls : Array Slot), fg_H D g s.heap w_59 H locs → lv_has ls 5 [(0, .ref (g.1 3 0 0)), (1, .int a1), (2, .int a2), (3, .int v3_29), (4, .int v4_59)] → (fg_gd a1 8 (fg_gd a1 8 (if (w_59.1 2 1 9 a1.toNatClampNeg) = (w_59.1 2 0 9 a1.toNatClampNeg) then (some (v3_29, w_59)) else ((f_X3_beliefFor_L29 a1 a2 KK_29 n_29 (v3_29 + 1) w_59))))) = some (r, w') → fg_Gi p l e 5 114 s m [.ref (g.1 3 0 0), .int a1, .int a2] below meth c D g r w' H locs 100 ls [] := by
              intro v4_59 w_59 H locs ls h hl hf
              refine lv_aload_n hx hb dX3_beliefFor_100 rfl (lv_at hl 0 rfl) ?_
              refine fg_get (C := RX3) (T := TX3) (N := 7) S vu_X3 hK h fg_p3_0 rfl rfl 1 (by decide) vf_RX3_16 rfl rfl dX3_beliefFor_101 ?_
              refine fg_get (C := RX2) (T := TX2) (N := 16) S vu_X2 hK h (fg_p2_0 (by decide)) rfl rfl 10 (by decide) vf_RX3_119 rfl rfl dX3_beliefFor_104 ?_
              refine lv_iload_n hx hb dX3_beliefFor_107 rfl (lv_at hl 1 rfl) ?_
              obtain ⟨hn31, hf⟩ := fg_gdE hf
              refine fg_iald hx hb hK h (fg_p2_9 (by decide)) (fun _ => rfl) hn31 dX3_beliefFor_108 ?_
              refine lv_aload_n hx hb dX3_beliefFor_109 rfl (lv_at hl 0 rfl) ?_
              refine fg_get (C := RX3) (T := TX3) (N := 7) S vu_X3 hK h fg_p3_0 rfl rfl 0 (by decide) vf_RX3_10 rfl rfl dX3_beliefFor_110 ?_
              refine fg_get (C := RX2) (T := TX2) (N := 16) S vu_X2 hK h (fg_p2_0 (by decide)) rfl rfl 10 (by decide) vf_RX3_119 rfl rfl dX3_beliefFor_113 ?_
              refine lv_iload_n hx hb dX3_beliefFor_116 rfl (lv_at hl 1 rfl) ?_
              obtain ⟨hn32, hf⟩ := fg_gdE hf
              refine fg_iald hx hb hK h (fg_p2_9 (by decide)) (fun _ => rfl) hn32 dX3_beliefFor_117 ?_
              refine lv_icmp_ne (tgt := 123) hx hb dX3_beliefFor_118 (by decide) (fun hc => ?_) (fun hc => ?_)
              · have hf := fg_ifF hf hc
                refine lv_iinc (v := (v3_29 + 1)) (lv' := [(3, .int (v3_29 + 1)), (0, .ref (g.1 3 0 0)), (1, .int a1), (2, .int a2), (4, .int v4_59)]) hx hb dX3_beliefFor_123 hl (k := 3) rfl rfl (by decide) rfl (fun ls hl => ?_)
                refine lv_goto (tgt := 29) hx hb dX3_beliefFor_126 (by decide) ?_
                exact ih_29 (v3_29 + 1) w_59 _ _ ls h (lv_sub hl [1, 2, 3, 0] rfl) hf
              · have hf := fg_ifT hf hc
                refine lv_iload_n hx hb dX3_beliefFor_121 rfl (lv_at hl 3 rfl) ?_
                exact fg_reti hx hb hr hlk hK h hf dX3_beliefFor_122
            have hL_59 : ∀ (KK_59 : Int32 → fg_W → Option (Int32 × fg_W)) (hK_59 : ∀ (v4_59 : Int32) (w_59 : fg_W) (H : Heap) (locs : List Loc) (ls : Array Slot), fg_H D g s.heap w_59 H locs → lv_has ls 5 [(0, .ref (g.1 3 0 0)), (1, .int a1), (2, .int a2), (3, .int v3_29), (4, .int v4_59)] → KK_59 v4_59 w_59 = some (r, w') → fg_Gi p l e 5 114 s m [.ref (g.1 3 0 0), .int a1, .int a2] below meth c D g r w' H locs 100 ls []) (n : Nat) (v4_59 : Int32) (w_59 : fg_W) (H : Heap) (locs : List Loc) (ls : Array Slot), fg_H D g s.heap w_59 H locs → lv_has ls 5 [(0, .ref (g.1 3 0 0)), (1, .int a1), (2, .int a2), (3, .int v3_29), (4, .int v4_59)] → f_X3_beliefFor_L59 a1 a2 KK_59 n v4_59 w_59 = some (r, w') → fg_Gi p l e 5 114 s m [.ref (g.1 3 0 0), .int a1, .int a2] below meth c D g r w' H locs 59 ls [] := by
              intro KK_59 hK_59 n
              induction n with
              | zero => intro v4_59 w_59 H locs ls h hl hf; exact fg_no hf
              | succ n_59 ih_59 =>
                intro v4_59 w_59 H locs ls h hl hf
                unfold f_X3_beliefFor_L59 at hf
                refine lv_iload hx hb dX3_beliefFor_59 (lv_at hl 4 rfl) ?_
                refine lv_iload_n hx hb dX3_beliefFor_61 rfl (lv_at hl 2 rfl) ?_
                refine lv_icmp_ge (tgt := 100) hx hb dX3_beliefFor_62 (by decide) (fun hc => ?_) (fun hc => ?_)
                · have hf := fg_ifT hf hc
                  exact hK_59 v4_59 w_59 _ _ ls h (lv_sub hl [0, 1, 2, 3, 4] rfl) hf
                · have hf := fg_ifF hf hc
                  refine lv_aload_n hx hb dX3_beliefFor_65 rfl (lv_at hl 0 rfl) ?_
                  refine fg_get (C := RX3) (T := TX3) (N := 7) S vu_X3 hK h fg_p3_0 rfl rfl 1 (by decide) vf_RX3_16 rfl rfl dX3_beliefFor_66 ?_
                  refine fg_get (C := RX2) (T := TX2) (N := 16) S vu_X2 hK h (fg_p2_0 (by decide)) rfl rfl 10 (by decide) vf_RX3_119 rfl rfl dX3_beliefFor_69 ?_
                  refine lv_iload_n hx hb dX3_beliefFor_72 rfl (lv_at hl 1 rfl) ?_
                  obtain ⟨hn33, hf⟩ := fg_gdE hf
                  refine fg_iald hx hb hK h (fg_p2_9 (by decide)) (fun _ => rfl) hn33 dX3_beliefFor_73 ?_
                  refine lv_aload_n hx hb dX3_beliefFor_74 rfl (lv_at hl 0 rfl) ?_
                  refine fg_get (C := RX3) (T := TX3) (N := 7) S vu_X3 hK h fg_p3_0 rfl rfl 0 (by decide) vf_RX3_10 rfl rfl dX3_beliefFor_75 ?_
                  refine fg_get (C := RX2) (T := TX2) (N := 16) S vu_X2 hK h (fg_p2_0 (by decide)) rfl rfl 10 (by decide) vf_RX3_119 rfl rfl dX3_beliefFor_78 ?_
                  refine lv_iload_n hx hb dX3_beliefFor_81 rfl (lv_at hl 1 rfl) ?_
                  obtain ⟨hn34, hf⟩ := fg_gdE hf
                  refine fg_iald hx hb hK h (fg_p2_9 (by decide)) (fun _ => rfl) hn34 dX3_beliefFor_82 ?_
                  refine lv_icmp_ne (tgt := 100) hx hb dX3_beliefFor_83 (by decide) (fun hc => ?_) (fun hc => ?_)
                  · have hf := fg_ifF hf hc
                    exact hK_59 v4_59 w_59 _ _ ls h (lv_sub hl [0, 1, 2, 3, 4] rfl) hf
                  · have hf := fg_ifT hf hc
                    refine lv_aload_n hx hb dX3_beliefFor_86 rfl (lv_at hl 0 rfl) ?_
                    refine fg_get (C := RX3) (T := TX3) (N := 7) S vu_X3 hK h fg_p3_0 rfl rfl 1 (by decide) vf_RX3_16 rfl rfl dX3_beliefFor_87 ?_
                    refine lv_iconst (v := 1) hx hb dX3_beliefFor_90 rfl ?_
                    obtain ⟨w35, hc36, hf⟩ := fg_bvE hf
                    refine fg_cv h (fg_runV (rest := []) S hK h (c_X2_passDays l D g 1 1 (by decide) w_59 w35 hc36) vg_RX3_129 vd_X2_passDays ⟨by decide, by decide⟩ (fg_p2_0 (by decide)) rfl rfl rfl hl.1 rfl (Nat.le_of_ble_eq_true rfl) dX3_beliefFor_91 ⟨Nat.zero_le _, Nat.zero_le _⟩) (fun H locs h => ?_)
                    refine lv_iinc (v := (v4_59 + 1)) (lv' := [(4, .int (v4_59 + 1)), (0, .ref (g.1 3 0 0)), (1, .int a1), (2, .int a2), (3, .int v3_29)]) hx hb dX3_beliefFor_94 hl (k := 4) rfl rfl (by decide) rfl (fun ls hl => ?_)
                    refine lv_goto (tgt := 59) hx hb dX3_beliefFor_97 (by decide) ?_
                    exact ih_59 (v4_59 + 1) w35 _ _ ls h (lv_sub hl [1, 2, 3, 4, 0] rfl) hf
            exact hL_59 _ hK_59 fg_fuel 0 w29 _ _ ls h (lv_sub hl [1, 2, 3, 4, 0] rfl) hf
      exact hL_29 _ hK_29 fg_fuel 0 w7 _ _ ls h (lv_sub hl [1, 2, 3, 0] rfl) hf
    · have hf := fg_ifT hf hc
      refine lv_aload_n hx hb dX3_beliefFor_21 rfl (lv_at hl 0 rfl) ?_
      refine lv_iconst (v := 0) hx hb dX3_beliefFor_22 rfl ?_
      obtain ⟨r39, w37, hc38, hf⟩ := fg_biE hf
      refine fg_ci h (fg_runV (rest := []) S hK h (c_X3_finding l D g 0  w7 r39 w37 hc38) vg_RX3_48 vd_X3_finding ⟨by decide, by decide⟩ fg_p3_0 rfl rfl rfl hl.1 rfl (Nat.le_of_ble_eq_true rfl) dX3_beliefFor_23 ⟨Nat.zero_le _, Nat.zero_le _⟩) (fun H locs h => ?_)
      exact fg_reti hx hb hr hlk hK h hf dX3_beliefFor_26
set_option maxHeartbeats 4000000 in
set_option maxRecDepth 100000 in
theorem c_X3_settle (l : Launch) (D : va_G) (g : fg_G) (a1 : Int32) (a2 : Int32) (w : fg_W) (r : Int32) (w' : fg_W) (hf : f_X3_settle a1 a2 w = some (r, w')) : fg_M l yX3_settle cX3_settle 6 (some .int) 5 114 D g [.ref (g.1 3 0 0), .int a1, .int a2] w (fg_Qi D g r w') := by
  refine fg_M.of rfl (Nat.le_of_ble_eq_true rfl) (fun p e s m below meth c ls S hr hlk hK h hl => ?_)
  have hx := S.1
  have hb := S.2.1
  have hl : lv_has ls 6 [(0, .ref (g.1 3 0 0)), (1, .int a1), (2, .int a2)] := hl
  unfold f_X3_settle at hf
  refine lv_aload_n hx hb dX3_settle_0 rfl (lv_at hl 0 rfl) ?_
  refine fg_get (C := RX3) (T := TX3) (N := 7) S vu_X3 hK h fg_p3_0 rfl rfl 0 (by decide) vf_RX3_10 rfl rfl dX3_settle_1 ?_
  refine lv_iload_n hx hb dX3_settle_4 rfl (lv_at hl 1 rfl) ?_
  obtain ⟨r3, w1, hc2, hf⟩ := fg_biE hf
  refine fg_ci h (fg_runV (rest := []) S hK h (c_X2_isPerson l D g 0 a1 (by decide) w r3 w1 hc2) vg_RX3_66 vd_X2_isPerson ⟨by decide, by decide⟩ (fg_p2_0 (by decide)) rfl rfl rfl hl.1 rfl (Nat.le_of_ble_eq_true rfl) dX3_settle_5 ⟨Nat.zero_le _, Nat.zero_le _⟩) (fun H locs h => ?_)
  refine lv_if_eq (tgt := 21) hx hb dX3_settle_8 (by decide) (fun hc => ?_) (fun hc => ?_)
  · have hf := fg_ifT hf hc
    refine lv_aload_n hx hb dX3_settle_21 rfl (lv_at hl 0 rfl) ?_
    refine lv_iconst (v := 0) hx hb dX3_settle_22 rfl ?_
    obtain ⟨r6, w4, hc5, hf⟩ := fg_biE hf
    refine fg_ci h (fg_runV (rest := []) S hK h (c_X3_finding l D g 0  w1 r6 w4 hc5) vg_RX3_48 vd_X3_finding ⟨by decide, by decide⟩ fg_p3_0 rfl rfl rfl hl.1 rfl (Nat.le_of_ble_eq_true rfl) dX3_settle_23 ⟨Nat.zero_le _, Nat.zero_le _⟩) (fun H locs h => ?_)
    exact fg_reti hx hb hr hlk hK h hf dX3_settle_26
  · have hf := fg_ifF hf hc
    refine lv_iload_n hx hb dX3_settle_11 rfl (lv_at hl 2 rfl) ?_
    refine lv_iconst (v := 0) hx hb dX3_settle_12 rfl ?_
    refine lv_bipush (v := 40) hx hb dX3_settle_13 rfl ?_
    obtain ⟨r9, w7, hc8, hf⟩ := fg_biE hf
    refine fg_ci h (fg_runS (rest := []) S hK h (c_X3_within l D g a2 0 40  w1 r9 w7 hc8) vk_X3_within vm_RX3_52 vs_X3_within vi_RX3 vd_X3_within.2 ⟨by decide, by decide⟩ rfl hl.1 rfl (Nat.le_of_ble_eq_true rfl) dX3_settle_15 ⟨Nat.zero_le _, Nat.zero_le _⟩) (fun H locs h => ?_)
    refine lv_if_ne (tgt := 27) hx hb dX3_settle_18 (by decide) (fun hc => ?_) (fun hc => ?_)
    · have hf := fg_ifF hf hc
      refine lv_iconst (v := 0) hx hb dX3_settle_27 rfl ?_
      refine lv_istore_n (lv' := [(3, .int 0), (0, .ref (g.1 3 0 0)), (1, .int a1), (2, .int a2)]) hx hb dX3_settle_28 rfl hl (by decide) rfl (fun ls hl => ?_)
      refine lv_sipush (v := 10000) hx hb dX3_settle_29 rfl ?_
      refine lv_istore (lv' := [(4, .int 10000), (3, .int 0), (0, .ref (g.1 3 0 0)), (1, .int a1), (2, .int a2)]) hx hb dX3_settle_32 hl (by decide) rfl (fun ls hl => ?_)
      refine lv_iconst (v := 0) hx hb dX3_settle_34 rfl ?_
      refine lv_istore (lv' := [(5, .int 0), (4, .int 10000), (3, .int 0), (0, .ref (g.1 3 0 0)), (1, .int a1), (2, .int a2)]) hx hb dX3_settle_35 hl (by decide) rfl (fun ls hl => ?_)
      have hK_37 : ∀ (v3_37 : Int32) (v4_37 : Int32) (v5_37 : Int32) (w_37 : fg_W) (H : Heap) (locs : List Loc) (ls : Array Slot), fg_H D g s.heap w_37 H locs → lv_has ls 6 [(0, .ref (g.1 3 0 0)), (1, .int a1), (2, .int a2), (3, .int v3_37), (4, .int v4_37), (5, .int v5_37)] → (some (v3_37, w_37)) = some (r, w') → fg_Gi p l e 5 114 s m [.ref (g.1 3 0 0), .int a1, .int a2] below meth c D g r w' H locs 108 ls [] := by
        intro v3_37 v4_37 v5_37 w_37 H locs ls h hl hf
        refine lv_iload_n hx hb dX3_settle_108 rfl (lv_at hl 3 rfl) ?_
        exact fg_reti hx hb hr hlk hK h hf dX3_settle_109
      have hL_37 : ∀ (KK_37 : Int32 → Int32 → Int32 → fg_W → Option (Int32 × fg_W)) (hK_37 : ∀ (v3_37 : Int32) (v4_37 : Int32) (v5_37 : Int32) (w_37 : fg_W) (H : Heap) (locs : List Loc) (ls : Array Slot), fg_H D g s.heap w_37 H locs → lv_has ls 6 [(0, .ref (g.1 3 0 0)), (1, .int a1), (2, .int a2), (3, .int v3_37), (4, .int v4_37), (5, .int v5_37)] → KK_37 v3_37 v4_37 v5_37 w_37 = some (r, w') → fg_Gi p l e 5 114 s m [.ref (g.1 3 0 0), .int a1, .int a2] below meth c D g r w' H locs 108 ls []) (n : Nat) (v3_37 : Int32) (v4_37 : Int32) (v5_37 : Int32) (w_37 : fg_W) (H : Heap) (locs : List Loc) (ls : Array Slot), fg_H D g s.heap w_37 H locs → lv_has ls 6 [(0, .ref (g.1 3 0 0)), (1, .int a1), (2, .int a2), (3, .int v3_37), (4, .int v4_37), (5, .int v5_37)] → f_X3_settle_L37 a1 a2 KK_37 n v3_37 v4_37 v5_37 w_37 = some (r, w') → fg_Gi p l e 5 114 s m [.ref (g.1 3 0 0), .int a1, .int a2] below meth c D g r w' H locs 37 ls [] := by
        intro KK_37 hK_37 n
        induction n with
        | zero => intro v3_37 v4_37 v5_37 w_37 H locs ls h hl hf; exact fg_no hf
        | succ n_37 ih_37 =>
          intro v3_37 v4_37 v5_37 w_37 H locs ls h hl hf
          unfold f_X3_settle_L37 at hf
          refine lv_iload hx hb dX3_settle_37 (lv_at hl 5 rfl) ?_
          refine lv_bipush (v := 10) hx hb dX3_settle_39 rfl ?_
          refine lv_icmp_ge (tgt := 108) hx hb dX3_settle_41 (by decide) (fun hc => ?_) (fun hc => ?_)
          · have hf := fg_ifT hf hc
            exact hK_37 v3_37 v4_37 v5_37 w_37 _ _ ls h (lv_sub hl [0, 1, 2, 3, 4, 5] rfl) hf
          · have hf := fg_ifF hf hc
            refine lv_aload_n hx hb dX3_settle_44 rfl (lv_at hl 0 rfl) ?_
            refine fg_get (C := RX3) (T := TX3) (N := 7) S vu_X3 hK h fg_p3_0 rfl rfl 1 (by decide) vf_RX3_16 rfl rfl dX3_settle_45 ?_
            refine lv_aload_n hx hb dX3_settle_48 rfl (lv_at hl 0 rfl) ?_
            refine fg_get (C := RX3) (T := TX3) (N := 7) S vu_X3 hK h fg_p3_0 rfl rfl 0 (by decide) vf_RX3_10 rfl rfl dX3_settle_49 ?_
            obtain ⟨w19, hc20, hf⟩ := fg_bvE hf
            refine fg_cv h (fg_runV (rest := []) S hK h (c_X2_become l D g 1 0 (by decide) (by decide) w_37 w19 hc20) vg_RX3_144 vd_X2_become ⟨by decide, by decide⟩ (fg_p2_0 (by decide)) rfl rfl rfl hl.1 rfl (Nat.le_of_ble_eq_true rfl) dX3_settle_52 ⟨Nat.zero_le _, Nat.zero_le _⟩) (fun H locs h => ?_)
            refine lv_aload_n hx hb dX3_settle_55 rfl (lv_at hl 0 rfl) ?_
            refine fg_get (C := RX3) (T := TX3) (N := 7) S vu_X3 hK h fg_p3_0 rfl rfl 1 (by decide) vf_RX3_16 rfl rfl dX3_settle_56 ?_
            refine fg_get (C := RX2) (T := TX2) (N := 16) S vu_X2 hK h (fg_p2_0 (by decide)) rfl rfl 7 (by decide) vf_RX3_110 rfl rfl dX3_settle_59 ?_
            refine lv_iload_n hx hb dX3_settle_62 rfl (lv_at hl 1 rfl) ?_
            refine lv_iload hx hb dX3_settle_63 (lv_at hl 5 rfl) ?_
            obtain ⟨hn22, hf⟩ := fg_gdE hf
            refine fg_iast hx hb hK h (fg_p2_6 (by decide)) (fun _ => rfl) hn22 dX3_settle_65 (fun w21 H locs ew h => ?_)
            have hf := fg_letE ew hf
            refine lv_aload_n hx hb dX3_settle_66 rfl (lv_at hl 0 rfl) ?_
            refine fg_get (C := RX3) (T := TX3) (N := 7) S vu_X3 hK h fg_p3_0 rfl rfl 1 (by decide) vf_RX3_16 rfl rfl dX3_settle_67 ?_
            refine lv_iload_n hx hb dX3_settle_70 rfl (lv_at hl 2 rfl) ?_
            obtain ⟨w23, hc24, hf⟩ := fg_bvE hf
            refine fg_cv h (fg_runV (rest := []) S hK h (c_X2_passDays l D g 1 a2 (by decide) w21 w23 hc24) vg_RX3_129 vd_X2_passDays ⟨by decide, by decide⟩ (fg_p2_0 (by decide)) rfl rfl rfl hl.1 rfl (Nat.le_of_ble_eq_true rfl) dX3_settle_71 ⟨Nat.zero_le _, Nat.zero_le _⟩) (fun H locs h => ?_)
            refine lv_aload_n hx hb dX3_settle_74 rfl (lv_at hl 0 rfl) ?_
            refine fg_get (C := RX3) (T := TX3) (N := 7) S vu_X3 hK h fg_p3_0 rfl rfl 1 (by decide) vf_RX3_16 rfl rfl dX3_settle_75 ?_
            refine fg_get (C := RX2) (T := TX2) (N := 16) S vu_X2 hK h (fg_p2_0 (by decide)) rfl rfl 10 (by decide) vf_RX3_119 rfl rfl dX3_settle_78 ?_
            refine lv_iload_n hx hb dX3_settle_81 rfl (lv_at hl 1 rfl) ?_
            obtain ⟨hn25, hf⟩ := fg_gdE hf
            refine fg_iald hx hb hK h (fg_p2_9 (by decide)) (fun _ => rfl) hn25 dX3_settle_82 ?_
            refine lv_iload hx hb dX3_settle_83 (lv_at hl 4 rfl) ?_
            refine lv_icmp_ge (tgt := 102) hx hb dX3_settle_85 (by decide) (fun hc => ?_) (fun hc => ?_)
            · have hf := fg_ifT hf hc
              refine lv_iinc (v := (v5_37 + 1)) (lv' := [(5, .int (v5_37 + 1)), (0, .ref (g.1 3 0 0)), (1, .int a1), (2, .int a2), (3, .int v3_37), (4, .int v4_37)]) hx hb dX3_settle_102 hl (k := 5) rfl rfl (by decide) rfl (fun ls hl => ?_)
              refine lv_goto (tgt := 37) hx hb dX3_settle_105 (by decide) ?_
              exact ih_37 v3_37 v4_37 (v5_37 + 1) w23 _ _ ls h (lv_sub hl [1, 2, 3, 4, 5, 0] rfl) hf
            · have hf := fg_ifF hf hc
              refine lv_aload_n hx hb dX3_settle_88 rfl (lv_at hl 0 rfl) ?_
              refine fg_get (C := RX3) (T := TX3) (N := 7) S vu_X3 hK h fg_p3_0 rfl rfl 1 (by decide) vf_RX3_16 rfl rfl dX3_settle_89 ?_
              refine fg_get (C := RX2) (T := TX2) (N := 16) S vu_X2 hK h (fg_p2_0 (by decide)) rfl rfl 10 (by decide) vf_RX3_119 rfl rfl dX3_settle_92 ?_
              refine lv_iload_n hx hb dX3_settle_95 rfl (lv_at hl 1 rfl) ?_
              obtain ⟨hn26, hf⟩ := fg_gdE hf
              refine fg_iald hx hb hK h (fg_p2_9 (by decide)) (fun _ => rfl) hn26 dX3_settle_96 ?_
              refine lv_topi (fun x27 e_x27 => ?_)
              have hf := fg_letE e_x27 hf
              refine lv_istore (lv' := [(4, .int x27), (0, .ref (g.1 3 0 0)), (1, .int a1), (2, .int a2), (3, .int v3_37), (5, .int v5_37)]) hx hb dX3_settle_97 hl (by decide) rfl (fun ls hl => ?_)
              refine lv_iload hx hb dX3_settle_99 (lv_at hl 5 rfl) ?_
              refine lv_istore_n (lv' := [(3, .int v5_37), (4, .int x27), (0, .ref (g.1 3 0 0)), (1, .int a1), (2, .int a2), (5, .int v5_37)]) hx hb dX3_settle_101 rfl hl (by decide) rfl (fun ls hl => ?_)
              refine lv_iinc (v := (v5_37 + 1)) (lv' := [(5, .int (v5_37 + 1)), (3, .int v5_37), (4, .int x27), (0, .ref (g.1 3 0 0)), (1, .int a1), (2, .int a2)]) hx hb dX3_settle_102 hl (k := 5) rfl rfl (by decide) rfl (fun ls hl => ?_)
              refine lv_goto (tgt := 37) hx hb dX3_settle_105 (by decide) ?_
              exact ih_37 v5_37 x27 (v5_37 + 1) w23 _ _ ls h (lv_sub hl [3, 4, 5, 1, 2, 0] rfl) hf
      exact hL_37 _ hK_37 fg_fuel 0 10000 0 w7 _ _ ls h (lv_sub hl [3, 4, 5, 2, 1, 0] rfl) hf
    · have hf := fg_ifT hf hc
      refine lv_aload_n hx hb dX3_settle_21 rfl (lv_at hl 0 rfl) ?_
      refine lv_iconst (v := 0) hx hb dX3_settle_22 rfl ?_
      obtain ⟨r30, w28, hc29, hf⟩ := fg_biE hf
      refine fg_ci h (fg_runV (rest := []) S hK h (c_X3_finding l D g 0  w7 r30 w28 hc29) vg_RX3_48 vd_X3_finding ⟨by decide, by decide⟩ fg_p3_0 rfl rfl rfl hl.1 rfl (Nat.le_of_ble_eq_true rfl) dX3_settle_23 ⟨Nat.zero_le _, Nat.zero_le _⟩) (fun H locs h => ?_)
      exact fg_reti hx hb hr hlk hK h hf dX3_settle_26
set_option maxHeartbeats 4000000 in
set_option maxRecDepth 100000 in
theorem c_X3_kindFor (l : Launch) (D : va_G) (g : fg_G) (a1 : Int32) (a2 : Int32) (w : fg_W) (r : Int32) (w' : fg_W) (hf : f_X3_kindFor a1 a2 w = some (r, w')) : fg_M l yX3_kindFor cX3_kindFor 6 (some .int) 5 114 D g [.ref (g.1 3 0 0), .int a1, .int a2] w (fg_Qi D g r w') := by
  refine fg_M.of rfl (Nat.le_of_ble_eq_true rfl) (fun p e s m below meth c ls S hr hlk hK h hl => ?_)
  have hx := S.1
  have hb := S.2.1
  have hl : lv_has ls 6 [(0, .ref (g.1 3 0 0)), (1, .int a1), (2, .int a2)] := hl
  unfold f_X3_kindFor at hf
  refine lv_aload_n hx hb dX3_kindFor_0 rfl (lv_at hl 0 rfl) ?_
  refine fg_get (C := RX3) (T := TX3) (N := 7) S vu_X3 hK h fg_p3_0 rfl rfl 0 (by decide) vf_RX3_10 rfl rfl dX3_kindFor_1 ?_
  refine lv_iload_n hx hb dX3_kindFor_4 rfl (lv_at hl 1 rfl) ?_
  obtain ⟨r3, w1, hc2, hf⟩ := fg_biE hf
  refine fg_ci h (fg_runV (rest := []) S hK h (c_X2_isPerson l D g 0 a1 (by decide) w r3 w1 hc2) vg_RX3_66 vd_X2_isPerson ⟨by decide, by decide⟩ (fg_p2_0 (by decide)) rfl rfl rfl hl.1 rfl (Nat.le_of_ble_eq_true rfl) dX3_kindFor_5 ⟨Nat.zero_le _, Nat.zero_le _⟩) (fun H locs h => ?_)
  refine lv_if_eq (tgt := 21) hx hb dX3_kindFor_8 (by decide) (fun hc => ?_) (fun hc => ?_)
  · have hf := fg_ifT hf hc
    refine lv_aload_n hx hb dX3_kindFor_21 rfl (lv_at hl 0 rfl) ?_
    refine lv_iconst (v := 0) hx hb dX3_kindFor_22 rfl ?_
    obtain ⟨r6, w4, hc5, hf⟩ := fg_biE hf
    refine fg_ci h (fg_runV (rest := []) S hK h (c_X3_finding l D g 0  w1 r6 w4 hc5) vg_RX3_48 vd_X3_finding ⟨by decide, by decide⟩ fg_p3_0 rfl rfl rfl hl.1 rfl (Nat.le_of_ble_eq_true rfl) dX3_kindFor_23 ⟨Nat.zero_le _, Nat.zero_le _⟩) (fun H locs h => ?_)
    exact fg_reti hx hb hr hlk hK h hf dX3_kindFor_26
  · have hf := fg_ifF hf hc
    refine lv_iload_n hx hb dX3_kindFor_11 rfl (lv_at hl 2 rfl) ?_
    refine lv_iconst (v := 0) hx hb dX3_kindFor_12 rfl ?_
    refine lv_bipush (v := 40) hx hb dX3_kindFor_13 rfl ?_
    obtain ⟨r9, w7, hc8, hf⟩ := fg_biE hf
    refine fg_ci h (fg_runS (rest := []) S hK h (c_X3_within l D g a2 0 40  w1 r9 w7 hc8) vk_X3_within vm_RX3_52 vs_X3_within vi_RX3 vd_X3_within.2 ⟨by decide, by decide⟩ rfl hl.1 rfl (Nat.le_of_ble_eq_true rfl) dX3_kindFor_15 ⟨Nat.zero_le _, Nat.zero_le _⟩) (fun H locs h => ?_)
    refine lv_if_ne (tgt := 27) hx hb dX3_kindFor_18 (by decide) (fun hc => ?_) (fun hc => ?_)
    · have hf := fg_ifF hf hc
      refine lv_iconst (v := 0) hx hb dX3_kindFor_27 rfl ?_
      refine lv_istore_n (lv' := [(3, .int 0), (0, .ref (g.1 3 0 0)), (1, .int a1), (2, .int a2)]) hx hb dX3_kindFor_28 rfl hl (by decide) rfl (fun ls hl => ?_)
      refine lv_iconst (v := (-1)) hx hb dX3_kindFor_29 rfl ?_
      refine lv_istore (lv' := [(4, .int (-1)), (3, .int 0), (0, .ref (g.1 3 0 0)), (1, .int a1), (2, .int a2)]) hx hb dX3_kindFor_30 hl (by decide) rfl (fun ls hl => ?_)
      refine lv_iconst (v := 0) hx hb dX3_kindFor_32 rfl ?_
      refine lv_istore (lv' := [(5, .int 0), (4, .int (-1)), (3, .int 0), (0, .ref (g.1 3 0 0)), (1, .int a1), (2, .int a2)]) hx hb dX3_kindFor_33 hl (by decide) rfl (fun ls hl => ?_)
      have hK_35 : ∀ (v3_35 : Int32) (v4_35 : Int32) (v5_35 : Int32) (w_35 : fg_W) (H : Heap) (locs : List Loc) (ls : Array Slot), fg_H D g s.heap w_35 H locs → lv_has ls 6 [(0, .ref (g.1 3 0 0)), (1, .int a1), (2, .int a2), (3, .int v3_35), (4, .int v4_35), (5, .int v5_35)] → (some (v3_35, w_35)) = some (r, w') → fg_Gi p l e 5 114 s m [.ref (g.1 3 0 0), .int a1, .int a2] below meth c D g r w' H locs 106 ls [] := by
        intro v3_35 v4_35 v5_35 w_35 H locs ls h hl hf
        refine lv_iload_n hx hb dX3_kindFor_106 rfl (lv_at hl 3 rfl) ?_
        exact fg_reti hx hb hr hlk hK h hf dX3_kindFor_107
      have hL_35 : ∀ (KK_35 : Int32 → Int32 → Int32 → fg_W → Option (Int32 × fg_W)) (hK_35 : ∀ (v3_35 : Int32) (v4_35 : Int32) (v5_35 : Int32) (w_35 : fg_W) (H : Heap) (locs : List Loc) (ls : Array Slot), fg_H D g s.heap w_35 H locs → lv_has ls 6 [(0, .ref (g.1 3 0 0)), (1, .int a1), (2, .int a2), (3, .int v3_35), (4, .int v4_35), (5, .int v5_35)] → KK_35 v3_35 v4_35 v5_35 w_35 = some (r, w') → fg_Gi p l e 5 114 s m [.ref (g.1 3 0 0), .int a1, .int a2] below meth c D g r w' H locs 106 ls []) (n : Nat) (v3_35 : Int32) (v4_35 : Int32) (v5_35 : Int32) (w_35 : fg_W) (H : Heap) (locs : List Loc) (ls : Array Slot), fg_H D g s.heap w_35 H locs → lv_has ls 6 [(0, .ref (g.1 3 0 0)), (1, .int a1), (2, .int a2), (3, .int v3_35), (4, .int v4_35), (5, .int v5_35)] → f_X3_kindFor_L35 a1 a2 KK_35 n v3_35 v4_35 v5_35 w_35 = some (r, w') → fg_Gi p l e 5 114 s m [.ref (g.1 3 0 0), .int a1, .int a2] below meth c D g r w' H locs 35 ls [] := by
        intro KK_35 hK_35 n
        induction n with
        | zero => intro v3_35 v4_35 v5_35 w_35 H locs ls h hl hf; exact fg_no hf
        | succ n_35 ih_35 =>
          intro v3_35 v4_35 v5_35 w_35 H locs ls h hl hf
          unfold f_X3_kindFor_L35 at hf
          refine lv_iload hx hb dX3_kindFor_35 (lv_at hl 5 rfl) ?_
          refine lv_bipush (v := 7) hx hb dX3_kindFor_37 rfl ?_
          refine lv_icmp_ge (tgt := 106) hx hb dX3_kindFor_39 (by decide) (fun hc => ?_) (fun hc => ?_)
          · have hf := fg_ifT hf hc
            exact hK_35 v3_35 v4_35 v5_35 w_35 _ _ ls h (lv_sub hl [0, 1, 2, 3, 4, 5] rfl) hf
          · have hf := fg_ifF hf hc
            refine lv_aload_n hx hb dX3_kindFor_42 rfl (lv_at hl 0 rfl) ?_
            refine fg_get (C := RX3) (T := TX3) (N := 7) S vu_X3 hK h fg_p3_0 rfl rfl 1 (by decide) vf_RX3_16 rfl rfl dX3_kindFor_43 ?_
            refine lv_aload_n hx hb dX3_kindFor_46 rfl (lv_at hl 0 rfl) ?_
            refine fg_get (C := RX3) (T := TX3) (N := 7) S vu_X3 hK h fg_p3_0 rfl rfl 0 (by decide) vf_RX3_10 rfl rfl dX3_kindFor_47 ?_
            obtain ⟨w19, hc20, hf⟩ := fg_bvE hf
            refine fg_cv h (fg_runV (rest := []) S hK h (c_X2_become l D g 1 0 (by decide) (by decide) w_35 w19 hc20) vg_RX3_144 vd_X2_become ⟨by decide, by decide⟩ (fg_p2_0 (by decide)) rfl rfl rfl hl.1 rfl (Nat.le_of_ble_eq_true rfl) dX3_kindFor_50 ⟨Nat.zero_le _, Nat.zero_le _⟩) (fun H locs h => ?_)
            refine lv_aload_n hx hb dX3_kindFor_53 rfl (lv_at hl 0 rfl) ?_
            refine fg_get (C := RX3) (T := TX3) (N := 7) S vu_X3 hK h fg_p3_0 rfl rfl 1 (by decide) vf_RX3_16 rfl rfl dX3_kindFor_54 ?_
            refine fg_get (C := RX2) (T := TX2) (N := 16) S vu_X2 hK h (fg_p2_0 (by decide)) rfl rfl 6 (by decide) vf_RX3_94 rfl rfl dX3_kindFor_57 ?_
            refine lv_iload_n hx hb dX3_kindFor_60 rfl (lv_at hl 1 rfl) ?_
            refine lv_iload hx hb dX3_kindFor_61 (lv_at hl 5 rfl) ?_
            obtain ⟨hn22, hf⟩ := fg_gdE hf
            refine fg_iast hx hb hK h (fg_p2_5 (by decide)) (fun _ => rfl) hn22 dX3_kindFor_63 (fun w21 H locs ew h => ?_)
            have hf := fg_letE ew hf
            refine lv_aload_n hx hb dX3_kindFor_64 rfl (lv_at hl 0 rfl) ?_
            refine fg_get (C := RX3) (T := TX3) (N := 7) S vu_X3 hK h fg_p3_0 rfl rfl 1 (by decide) vf_RX3_16 rfl rfl dX3_kindFor_65 ?_
            refine lv_iload_n hx hb dX3_kindFor_68 rfl (lv_at hl 2 rfl) ?_
            obtain ⟨w23, hc24, hf⟩ := fg_bvE hf
            refine fg_cv h (fg_runV (rest := []) S hK h (c_X2_passDays l D g 1 a2 (by decide) w21 w23 hc24) vg_RX3_129 vd_X2_passDays ⟨by decide, by decide⟩ (fg_p2_0 (by decide)) rfl rfl rfl hl.1 rfl (Nat.le_of_ble_eq_true rfl) dX3_kindFor_69 ⟨Nat.zero_le _, Nat.zero_le _⟩) (fun H locs h => ?_)
            refine lv_aload_n hx hb dX3_kindFor_72 rfl (lv_at hl 0 rfl) ?_
            refine fg_get (C := RX3) (T := TX3) (N := 7) S vu_X3 hK h fg_p3_0 rfl rfl 1 (by decide) vf_RX3_16 rfl rfl dX3_kindFor_73 ?_
            refine fg_get (C := RX2) (T := TX2) (N := 16) S vu_X2 hK h (fg_p2_0 (by decide)) rfl rfl 9 (by decide) vf_RX3_116 rfl rfl dX3_kindFor_76 ?_
            refine lv_iload_n hx hb dX3_kindFor_79 rfl (lv_at hl 1 rfl) ?_
            obtain ⟨hn25, hf⟩ := fg_gdE hf
            refine fg_iald hx hb hK h (fg_p2_8 (by decide)) (fun _ => rfl) hn25 dX3_kindFor_80 ?_
            refine lv_iload hx hb dX3_kindFor_81 (lv_at hl 4 rfl) ?_
            refine lv_icmp_le (tgt := 100) hx hb dX3_kindFor_83 (by decide) (fun hc => ?_) (fun hc => ?_)
            · have hf := fg_ifT hf hc
              refine lv_iinc (v := (v5_35 + 1)) (lv' := [(5, .int (v5_35 + 1)), (0, .ref (g.1 3 0 0)), (1, .int a1), (2, .int a2), (3, .int v3_35), (4, .int v4_35)]) hx hb dX3_kindFor_100 hl (k := 5) rfl rfl (by decide) rfl (fun ls hl => ?_)
              refine lv_goto (tgt := 35) hx hb dX3_kindFor_103 (by decide) ?_
              exact ih_35 v3_35 v4_35 (v5_35 + 1) w23 _ _ ls h (lv_sub hl [1, 2, 3, 4, 5, 0] rfl) hf
            · have hf := fg_ifF hf hc
              refine lv_aload_n hx hb dX3_kindFor_86 rfl (lv_at hl 0 rfl) ?_
              refine fg_get (C := RX3) (T := TX3) (N := 7) S vu_X3 hK h fg_p3_0 rfl rfl 1 (by decide) vf_RX3_16 rfl rfl dX3_kindFor_87 ?_
              refine fg_get (C := RX2) (T := TX2) (N := 16) S vu_X2 hK h (fg_p2_0 (by decide)) rfl rfl 9 (by decide) vf_RX3_116 rfl rfl dX3_kindFor_90 ?_
              refine lv_iload_n hx hb dX3_kindFor_93 rfl (lv_at hl 1 rfl) ?_
              obtain ⟨hn26, hf⟩ := fg_gdE hf
              refine fg_iald hx hb hK h (fg_p2_8 (by decide)) (fun _ => rfl) hn26 dX3_kindFor_94 ?_
              refine lv_topi (fun x27 e_x27 => ?_)
              have hf := fg_letE e_x27 hf
              refine lv_istore (lv' := [(4, .int x27), (0, .ref (g.1 3 0 0)), (1, .int a1), (2, .int a2), (3, .int v3_35), (5, .int v5_35)]) hx hb dX3_kindFor_95 hl (by decide) rfl (fun ls hl => ?_)
              refine lv_iload hx hb dX3_kindFor_97 (lv_at hl 5 rfl) ?_
              refine lv_istore_n (lv' := [(3, .int v5_35), (4, .int x27), (0, .ref (g.1 3 0 0)), (1, .int a1), (2, .int a2), (5, .int v5_35)]) hx hb dX3_kindFor_99 rfl hl (by decide) rfl (fun ls hl => ?_)
              refine lv_iinc (v := (v5_35 + 1)) (lv' := [(5, .int (v5_35 + 1)), (3, .int v5_35), (4, .int x27), (0, .ref (g.1 3 0 0)), (1, .int a1), (2, .int a2)]) hx hb dX3_kindFor_100 hl (k := 5) rfl rfl (by decide) rfl (fun ls hl => ?_)
              refine lv_goto (tgt := 35) hx hb dX3_kindFor_103 (by decide) ?_
              exact ih_35 v5_35 x27 (v5_35 + 1) w23 _ _ ls h (lv_sub hl [3, 4, 5, 1, 2, 0] rfl) hf
      exact hL_35 _ hK_35 fg_fuel 0 (-1) 0 w7 _ _ ls h (lv_sub hl [3, 4, 5, 2, 1, 0] rfl) hf
    · have hf := fg_ifT hf hc
      refine lv_aload_n hx hb dX3_kindFor_21 rfl (lv_at hl 0 rfl) ?_
      refine lv_iconst (v := 0) hx hb dX3_kindFor_22 rfl ?_
      obtain ⟨r30, w28, hc29, hf⟩ := fg_biE hf
      refine fg_ci h (fg_runV (rest := []) S hK h (c_X3_finding l D g 0  w7 r30 w28 hc29) vg_RX3_48 vd_X3_finding ⟨by decide, by decide⟩ fg_p3_0 rfl rfl rfl hl.1 rfl (Nat.le_of_ble_eq_true rfl) dX3_kindFor_23 ⟨Nat.zero_le _, Nat.zero_le _⟩) (fun H locs h => ?_)
      exact fg_reti hx hb hr hlk hK h hf dX3_kindFor_26
set_option maxHeartbeats 4000000 in
set_option maxRecDepth 100000 in
theorem c_X3_rentFor (l : Launch) (D : va_G) (g : fg_G) (a1 : Int32) (a2 : Int32) (w : fg_W) (r : Int32) (w' : fg_W) (hf : f_X3_rentFor a1 a2 w = some (r, w')) : fg_M l yX3_rentFor cX3_rentFor 7 (some .int) 5 114 D g [.ref (g.1 3 0 0), .int a1, .int a2] w (fg_Qi D g r w') := by
  refine fg_M.of rfl (Nat.le_of_ble_eq_true rfl) (fun p e s m below meth c ls S hr hlk hK h hl => ?_)
  have hx := S.1
  have hb := S.2.1
  have hl : lv_has ls 7 [(0, .ref (g.1 3 0 0)), (1, .int a1), (2, .int a2)] := hl
  unfold f_X3_rentFor at hf
  refine lv_iload_n hx hb dX3_rentFor_0 rfl (lv_at hl 1 rfl) ?_
  obtain ⟨r3, w1, hc2, hf⟩ := fg_biE hf
  refine fg_ci h (fg_runS (rest := []) S hK h (c_X3_isLot l D g a1  w r3 w1 hc2) vk_X3_isLot vm_RX3_44 vs_X3_isLot vi_RX3 vd_X3_isLot.2 ⟨by decide, by decide⟩ rfl hl.1 rfl (Nat.le_of_ble_eq_true rfl) dX3_rentFor_1 ⟨Nat.zero_le _, Nat.zero_le _⟩) (fun H locs h => ?_)
  refine lv_if_eq (tgt := 17) hx hb dX3_rentFor_4 (by decide) (fun hc => ?_) (fun hc => ?_)
  · have hf := fg_ifT hf hc
    refine lv_aload_n hx hb dX3_rentFor_17 rfl (lv_at hl 0 rfl) ?_
    refine lv_iconst (v := 0) hx hb dX3_rentFor_18 rfl ?_
    obtain ⟨r6, w4, hc5, hf⟩ := fg_biE hf
    refine fg_ci h (fg_runV (rest := []) S hK h (c_X3_finding l D g 0  w1 r6 w4 hc5) vg_RX3_48 vd_X3_finding ⟨by decide, by decide⟩ fg_p3_0 rfl rfl rfl hl.1 rfl (Nat.le_of_ble_eq_true rfl) dX3_rentFor_19 ⟨Nat.zero_le _, Nat.zero_le _⟩) (fun H locs h => ?_)
    exact fg_reti hx hb hr hlk hK h hf dX3_rentFor_22
  · have hf := fg_ifF hf hc
    refine lv_iload_n hx hb dX3_rentFor_7 rfl (lv_at hl 2 rfl) ?_
    refine lv_iconst (v := 0) hx hb dX3_rentFor_8 rfl ?_
    refine lv_bipush (v := 40) hx hb dX3_rentFor_9 rfl ?_
    obtain ⟨r9, w7, hc8, hf⟩ := fg_biE hf
    refine fg_ci h (fg_runS (rest := []) S hK h (c_X3_within l D g a2 0 40  w1 r9 w7 hc8) vk_X3_within vm_RX3_52 vs_X3_within vi_RX3 vd_X3_within.2 ⟨by decide, by decide⟩ rfl hl.1 rfl (Nat.le_of_ble_eq_true rfl) dX3_rentFor_11 ⟨Nat.zero_le _, Nat.zero_le _⟩) (fun H locs h => ?_)
    refine lv_if_ne (tgt := 23) hx hb dX3_rentFor_14 (by decide) (fun hc => ?_) (fun hc => ?_)
    · have hf := fg_ifF hf hc
      refine lv_aload_n hx hb dX3_rentFor_23 rfl (lv_at hl 0 rfl) ?_
      refine fg_get (C := RX3) (T := TX3) (N := 7) S vu_X3 hK h fg_p3_0 rfl rfl 0 (by decide) vf_RX3_10 rfl rfl dX3_rentFor_24 ?_
      refine fg_get (C := RX2) (T := TX2) (N := 16) S vu_X2 hK h (fg_p2_0 (by decide)) rfl rfl 2 (by decide) vf_RX3_69 rfl rfl dX3_rentFor_27 ?_
      refine lv_iload_n hx hb dX3_rentFor_30 rfl (lv_at hl 1 rfl) ?_
      obtain ⟨hn10, hf⟩ := fg_gdE hf
      refine fg_iald hx hb hK h (fg_p2_3 (by decide)) (fun _ => rfl) hn10 dX3_rentFor_31 ?_
      refine lv_topi (fun x11 e_x11 => ?_)
      have hf := fg_letE e_x11 hf
      refine lv_istore_n (lv' := [(3, .int x11), (0, .ref (g.1 3 0 0)), (1, .int a1), (2, .int a2)]) hx hb dX3_rentFor_32 rfl hl (by decide) rfl (fun ls hl => ?_)
      refine lv_aload_n hx hb dX3_rentFor_33 rfl (lv_at hl 1 rfl) ?_
      refine fg_get (C := RX3) (T := TX3) (N := 7) S vu_X3 hK h fg_p3_0 rfl rfl 0 (by decide) vf_RX3_10 rfl rfl dX3_rentFor_34 ?_
      refine lv_iload_n hx hb dX3_rentFor_37 rfl (lv_at hl 0 rfl) ?_
      obtain ⟨r14, w12, hc13, hf⟩ := fg_biE hf
      refine fg_ci h (fg_runV (rest := []) S hK h (c_X2_isPerson l D g 0 x11 (by decide) w7 r14 w12 hc13) vg_RX3_66 vd_X2_isPerson ⟨by decide, by decide⟩ (fg_p2_0 (by decide)) rfl rfl rfl hl.1 rfl (Nat.le_of_ble_eq_true rfl) dX3_rentFor_38 ⟨Nat.zero_le _, Nat.zero_le _⟩) (fun H locs h => ?_)
      refine lv_if_ne (tgt := 50) hx hb dX3_rentFor_41 (by decide) (fun hc => ?_) (fun hc => ?_)
      · have hf := fg_ifF hf hc
        refine lv_iconst (v := 0) hx hb dX3_rentFor_50 rfl ?_
        refine lv_istore (lv' := [(4, .int 0), (3, .int x11), (0, .ref (g.1 3 0 0)), (1, .int a1), (2, .int a2)]) hx hb dX3_rentFor_51 hl (by decide) rfl (fun ls hl => ?_)
        refine lv_iconst (v := (-1)) hx hb dX3_rentFor_53 rfl ?_
        refine lv_istore (lv' := [(5, .int (-1)), (4, .int 0), (3, .int x11), (0, .ref (g.1 3 0 0)), (1, .int a1), (2, .int a2)]) hx hb dX3_rentFor_54 hl (by decide) rfl (fun ls hl => ?_)
        refine lv_iconst (v := 0) hx hb dX3_rentFor_56 rfl ?_
        refine lv_istore (lv' := [(6, .int 0), (5, .int (-1)), (4, .int 0), (3, .int x11), (0, .ref (g.1 3 0 0)), (1, .int a1), (2, .int a2)]) hx hb dX3_rentFor_57 hl (by decide) rfl (fun ls hl => ?_)
        have hK_59 : ∀ (v4_59 : Int32) (v5_59 : Int32) (v6_59 : Int32) (w_59 : fg_W) (H : Heap) (locs : List Loc) (ls : Array Slot), fg_H D g s.heap w_59 H locs → lv_has ls 7 [(0, .ref (g.1 3 0 0)), (1, .int a1), (2, .int a2), (3, .int x11), (4, .int v4_59), (5, .int v5_59), (6, .int v6_59)] → (some (v4_59, w_59)) = some (r, w') → fg_Gi p l e 5 114 s m [.ref (g.1 3 0 0), .int a1, .int a2] below meth c D g r w' H locs 131 ls [] := by
          intro v4_59 v5_59 v6_59 w_59 H locs ls h hl hf
          refine lv_iload hx hb dX3_rentFor_131 (lv_at hl 4 rfl) ?_
          exact fg_reti hx hb hr hlk hK h hf dX3_rentFor_133
        have hL_59 : ∀ (KK_59 : Int32 → Int32 → Int32 → fg_W → Option (Int32 × fg_W)) (hK_59 : ∀ (v4_59 : Int32) (v5_59 : Int32) (v6_59 : Int32) (w_59 : fg_W) (H : Heap) (locs : List Loc) (ls : Array Slot), fg_H D g s.heap w_59 H locs → lv_has ls 7 [(0, .ref (g.1 3 0 0)), (1, .int a1), (2, .int a2), (3, .int x11), (4, .int v4_59), (5, .int v5_59), (6, .int v6_59)] → KK_59 v4_59 v5_59 v6_59 w_59 = some (r, w') → fg_Gi p l e 5 114 s m [.ref (g.1 3 0 0), .int a1, .int a2] below meth c D g r w' H locs 131 ls []) (n : Nat) (v4_59 : Int32) (v5_59 : Int32) (v6_59 : Int32) (w_59 : fg_W) (H : Heap) (locs : List Loc) (ls : Array Slot), fg_H D g s.heap w_59 H locs → lv_has ls 7 [(0, .ref (g.1 3 0 0)), (1, .int a1), (2, .int a2), (3, .int x11), (4, .int v4_59), (5, .int v5_59), (6, .int v6_59)] → f_X3_rentFor_L59 a1 a2 x11 KK_59 n v4_59 v5_59 v6_59 w_59 = some (r, w') → fg_Gi p l e 5 114 s m [.ref (g.1 3 0 0), .int a1, .int a2] below meth c D g r w' H locs 59 ls [] := by
          intro KK_59 hK_59 n
          induction n with
          | zero => intro v4_59 v5_59 v6_59 w_59 H locs ls h hl hf; exact fg_no hf
          | succ n_59 ih_59 =>
            intro v4_59 v5_59 v6_59 w_59 H locs ls h hl hf
            unfold f_X3_rentFor_L59 at hf
            refine lv_iload hx hb dX3_rentFor_59 (lv_at hl 6 rfl) ?_
            refine lv_bipush (v := 20) hx hb dX3_rentFor_61 rfl ?_
            refine lv_icmp_gt (tgt := 131) hx hb dX3_rentFor_63 (by decide) (fun hc => ?_) (fun hc => ?_)
            · have hf := fg_ifT hf hc
              exact hK_59 v4_59 v5_59 v6_59 w_59 _ _ ls h (lv_sub hl [0, 1, 2, 3, 4, 5, 6] rfl) hf
            · have hf := fg_ifF hf hc
              refine lv_aload_n hx hb dX3_rentFor_66 rfl (lv_at hl 0 rfl) ?_
              refine fg_get (C := RX3) (T := TX3) (N := 7) S vu_X3 hK h fg_p3_0 rfl rfl 1 (by decide) vf_RX3_16 rfl rfl dX3_rentFor_67 ?_
              refine lv_aload_n hx hb dX3_rentFor_70 rfl (lv_at hl 0 rfl) ?_
              refine fg_get (C := RX3) (T := TX3) (N := 7) S vu_X3 hK h fg_p3_0 rfl rfl 0 (by decide) vf_RX3_10 rfl rfl dX3_rentFor_71 ?_
              obtain ⟨w24, hc25, hf⟩ := fg_bvE hf
              refine fg_cv h (fg_runV (rest := []) S hK h (c_X2_become l D g 1 0 (by decide) (by decide) w_59 w24 hc25) vg_RX3_144 vd_X2_become ⟨by decide, by decide⟩ (fg_p2_0 (by decide)) rfl rfl rfl hl.1 rfl (Nat.le_of_ble_eq_true rfl) dX3_rentFor_74 ⟨Nat.zero_le _, Nat.zero_le _⟩) (fun H locs h => ?_)
              refine lv_aload_n hx hb dX3_rentFor_77 rfl (lv_at hl 0 rfl) ?_
              refine fg_get (C := RX3) (T := TX3) (N := 7) S vu_X3 hK h fg_p3_0 rfl rfl 1 (by decide) vf_RX3_16 rfl rfl dX3_rentFor_78 ?_
              refine fg_get (C := RX2) (T := TX2) (N := 16) S vu_X2 hK h (fg_p2_0 (by decide)) rfl rfl 1 (by decide) vf_RX3_63 rfl rfl dX3_rentFor_81 ?_
              refine lv_iload_n hx hb dX3_rentFor_84 rfl (lv_at hl 1 rfl) ?_
              refine lv_iload hx hb dX3_rentFor_85 (lv_at hl 6 rfl) ?_
              obtain ⟨hn27, hf⟩ := fg_gdE hf
              refine fg_iast hx hb hK h (fg_p2_2 (by decide)) (fun _ => rfl) hn27 dX3_rentFor_87 (fun w26 H locs ew h => ?_)
              have hf := fg_letE ew hf
              refine lv_aload_n hx hb dX3_rentFor_88 rfl (lv_at hl 0 rfl) ?_
              refine fg_get (C := RX3) (T := TX3) (N := 7) S vu_X3 hK h fg_p3_0 rfl rfl 1 (by decide) vf_RX3_16 rfl rfl dX3_rentFor_89 ?_
              refine lv_iload_n hx hb dX3_rentFor_92 rfl (lv_at hl 2 rfl) ?_
              obtain ⟨w28, hc29, hf⟩ := fg_bvE hf
              refine fg_cv h (fg_runV (rest := []) S hK h (c_X2_passDays l D g 1 a2 (by decide) w26 w28 hc29) vg_RX3_129 vd_X2_passDays ⟨by decide, by decide⟩ (fg_p2_0 (by decide)) rfl rfl rfl hl.1 rfl (Nat.le_of_ble_eq_true rfl) dX3_rentFor_93 ⟨Nat.zero_le _, Nat.zero_le _⟩) (fun H locs h => ?_)
              refine lv_aload_n hx hb dX3_rentFor_96 rfl (lv_at hl 0 rfl) ?_
              refine fg_get (C := RX3) (T := TX3) (N := 7) S vu_X3 hK h fg_p3_0 rfl rfl 1 (by decide) vf_RX3_16 rfl rfl dX3_rentFor_97 ?_
              refine fg_get (C := RX2) (T := TX2) (N := 16) S vu_X2 hK h (fg_p2_0 (by decide)) rfl rfl 9 (by decide) vf_RX3_116 rfl rfl dX3_rentFor_100 ?_
              refine lv_iload_n hx hb dX3_rentFor_103 rfl (lv_at hl 3 rfl) ?_
              obtain ⟨hn30, hf⟩ := fg_gdE hf
              refine fg_iald hx hb hK h (fg_p2_8 (by decide)) (fun _ => rfl) hn30 dX3_rentFor_104 ?_
              refine lv_iload hx hb dX3_rentFor_105 (lv_at hl 5 rfl) ?_
              refine lv_icmp_le (tgt := 125) hx hb dX3_rentFor_107 (by decide) (fun hc => ?_) (fun hc => ?_)
              · have hf := fg_ifT hf hc
                refine lv_iinc (v := (v6_59 + 1)) (lv' := [(6, .int (v6_59 + 1)), (0, .ref (g.1 3 0 0)), (1, .int a1), (2, .int a2), (3, .int x11), (4, .int v4_59), (5, .int v5_59)]) hx hb dX3_rentFor_125 hl (k := 6) rfl rfl (by decide) rfl (fun ls hl => ?_)
                refine lv_goto (tgt := 59) hx hb dX3_rentFor_128 (by decide) ?_
                exact ih_59 v4_59 v5_59 (v6_59 + 1) w28 _ _ ls h (lv_sub hl [1, 2, 3, 4, 5, 6, 0] rfl) hf
              · have hf := fg_ifF hf hc
                refine lv_aload_n hx hb dX3_rentFor_110 rfl (lv_at hl 0 rfl) ?_
                refine fg_get (C := RX3) (T := TX3) (N := 7) S vu_X3 hK h fg_p3_0 rfl rfl 1 (by decide) vf_RX3_16 rfl rfl dX3_rentFor_111 ?_
                refine fg_get (C := RX2) (T := TX2) (N := 16) S vu_X2 hK h (fg_p2_0 (by decide)) rfl rfl 9 (by decide) vf_RX3_116 rfl rfl dX3_rentFor_114 ?_
                refine lv_iload_n hx hb dX3_rentFor_117 rfl (lv_at hl 3 rfl) ?_
                obtain ⟨hn31, hf⟩ := fg_gdE hf
                refine fg_iald hx hb hK h (fg_p2_8 (by decide)) (fun _ => rfl) hn31 dX3_rentFor_118 ?_
                refine lv_topi (fun x32 e_x32 => ?_)
                have hf := fg_letE e_x32 hf
                refine lv_istore (lv' := [(5, .int x32), (0, .ref (g.1 3 0 0)), (1, .int a1), (2, .int a2), (3, .int x11), (4, .int v4_59), (6, .int v6_59)]) hx hb dX3_rentFor_119 hl (by decide) rfl (fun ls hl => ?_)
                refine lv_iload hx hb dX3_rentFor_121 (lv_at hl 6 rfl) ?_
                refine lv_istore (lv' := [(4, .int v6_59), (5, .int x32), (0, .ref (g.1 3 0 0)), (1, .int a1), (2, .int a2), (3, .int x11), (6, .int v6_59)]) hx hb dX3_rentFor_123 hl (by decide) rfl (fun ls hl => ?_)
                refine lv_iinc (v := (v6_59 + 1)) (lv' := [(6, .int (v6_59 + 1)), (4, .int v6_59), (5, .int x32), (0, .ref (g.1 3 0 0)), (1, .int a1), (2, .int a2), (3, .int x11)]) hx hb dX3_rentFor_125 hl (k := 6) rfl rfl (by decide) rfl (fun ls hl => ?_)
                refine lv_goto (tgt := 59) hx hb dX3_rentFor_128 (by decide) ?_
                exact ih_59 v6_59 x32 (v6_59 + 1) w28 _ _ ls h (lv_sub hl [3, 4, 5, 6, 1, 2, 0] rfl) hf
        exact hL_59 _ hK_59 fg_fuel 0 (-1) 0 w12 _ _ ls h (lv_sub hl [4, 5, 6, 3, 2, 1, 0] rfl) hf
      · have hf := fg_ifT hf hc
        refine lv_aload_n hx hb dX3_rentFor_44 rfl (lv_at hl 1 rfl) ?_
        refine lv_iconst (v := 3) hx hb dX3_rentFor_45 rfl ?_
        obtain ⟨r35, w33, hc34, hf⟩ := fg_biE hf
        refine fg_ci h (fg_runV (rest := []) S hK h (c_X3_finding l D g 3  w12 r35 w33 hc34) vg_RX3_48 vd_X3_finding ⟨by decide, by decide⟩ fg_p3_0 rfl rfl rfl hl.1 rfl (Nat.le_of_ble_eq_true rfl) dX3_rentFor_46 ⟨Nat.zero_le _, Nat.zero_le _⟩) (fun H locs h => ?_)
        exact fg_reti hx hb hr hlk hK h hf dX3_rentFor_49
    · have hf := fg_ifT hf hc
      refine lv_aload_n hx hb dX3_rentFor_17 rfl (lv_at hl 0 rfl) ?_
      refine lv_iconst (v := 0) hx hb dX3_rentFor_18 rfl ?_
      obtain ⟨r38, w36, hc37, hf⟩ := fg_biE hf
      refine fg_ci h (fg_runV (rest := []) S hK h (c_X3_finding l D g 0  w7 r38 w36 hc37) vg_RX3_48 vd_X3_finding ⟨by decide, by decide⟩ fg_p3_0 rfl rfl rfl hl.1 rfl (Nat.le_of_ble_eq_true rfl) dX3_rentFor_19 ⟨Nat.zero_le _, Nat.zero_le _⟩) (fun H locs h => ?_)
      exact fg_reti hx hb hr hlk hK h hf dX3_rentFor_22
set_option maxHeartbeats 4000000 in
set_option maxRecDepth 100000 in
theorem c_X3_sunFor (l : Launch) (D : va_G) (g : fg_G) (a1 : Int32) (w : fg_W) (r : Int32) (w' : fg_W) (hf : f_X3_sunFor a1 w = some (r, w')) : fg_M l yX3_sunFor cX3_sunFor 5 (some .int) 5 114 D g [.ref (g.1 3 0 0), .int a1] w (fg_Qi D g r w') := by
  refine fg_M.of rfl (Nat.le_of_ble_eq_true rfl) (fun p e s m below meth c ls S hr hlk hK h hl => ?_)
  have hx := S.1
  have hb := S.2.1
  have hl : lv_has ls 5 [(0, .ref (g.1 3 0 0)), (1, .int a1)] := hl
  unfold f_X3_sunFor at hf
  refine lv_iload_n hx hb dX3_sunFor_0 rfl (lv_at hl 1 rfl) ?_
  refine lv_iconst (v := 0) hx hb dX3_sunFor_1 rfl ?_
  refine lv_bipush (v := 40) hx hb dX3_sunFor_2 rfl ?_
  obtain ⟨r3, w1, hc2, hf⟩ := fg_biE hf
  refine fg_ci h (fg_runS (rest := []) S hK h (c_X3_within l D g a1 0 40  w r3 w1 hc2) vk_X3_within vm_RX3_52 vs_X3_within vi_RX3 vd_X3_within.2 ⟨by decide, by decide⟩ rfl hl.1 rfl (Nat.le_of_ble_eq_true rfl) dX3_sunFor_4 ⟨Nat.zero_le _, Nat.zero_le _⟩) (fun H locs h => ?_)
  refine lv_if_ne (tgt := 16) hx hb dX3_sunFor_7 (by decide) (fun hc => ?_) (fun hc => ?_)
  · have hf := fg_ifF hf hc
    refine lv_aload_n hx hb dX3_sunFor_16 rfl (lv_at hl 0 rfl) ?_
    refine fg_get (C := RX3) (T := TX3) (N := 7) S vu_X3 hK h fg_p3_0 rfl rfl 0 (by decide) vf_RX3_10 rfl rfl dX3_sunFor_17 ?_
    refine fg_get (C := RX2) (T := TX2) (N := 16) S vu_X2 hK h (fg_p2_0 (by decide)) rfl rfl 10 (by decide) vf_RX3_119 rfl rfl dX3_sunFor_20 ?_
    refine lv_aload_n hx hb dX3_sunFor_23 rfl (lv_at hl 0 rfl) ?_
    refine fg_get (C := RX3) (T := TX3) (N := 7) S vu_X3 hK h fg_p3_0 rfl rfl 0 (by decide) vf_RX3_10 rfl rfl dX3_sunFor_24 ?_
    refine fg_get (C := RX2) (T := TX2) (N := 16) S vu_X2 hK h (fg_p2_0 (by decide)) rfl rfl 5 (by decide) vf_RX3_88 rfl rfl dX3_sunFor_27 ?_
    obtain ⟨r6, w4, hc5, hf⟩ := fg_biE hf
    refine fg_ci h (fg_runS (rest := []) S hK h (c_X3_sumOf l D g 2 0 9 8 (w1.1 2 0 0 5) (fg_p2_9 (by decide)) (fun _ => rfl) w1 r6 w4 hc5) vk_X3_sumOf vm_RX3_137 vs_X3_sumOf vi_RX3 vd_X3_sumOf.2 ⟨by decide, by decide⟩ rfl hl.1 rfl (Nat.le_of_ble_eq_true rfl) dX3_sunFor_30 ⟨Nat.zero_le _, Nat.zero_le _⟩) (fun H locs h => ?_)
    refine lv_istore_n (lv' := [(2, .int r6), (0, .ref (g.1 3 0 0)), (1, .int a1)]) hx hb dX3_sunFor_33 rfl hl (by decide) rfl (fun ls hl => ?_)
    refine lv_bipush (v := 40) hx hb dX3_sunFor_34 rfl ?_
    refine lv_istore_n (lv' := [(3, .int 40), (2, .int r6), (0, .ref (g.1 3 0 0)), (1, .int a1)]) hx hb dX3_sunFor_36 rfl hl (by decide) rfl (fun ls hl => ?_)
    have hK_37 : ∀ (v3_37 : Int32) (w_37 : fg_W) (H : Heap) (locs : List Loc) (ls : Array Slot), fg_H D g s.heap w_37 H locs → lv_has ls 5 [(0, .ref (g.1 3 0 0)), (1, .int a1), (2, .int r6), (3, .int v3_37)] → (fg_bi (f_X3_finding 3 w_37) (fun r9 w7 => some (r9, w7))) = some (r, w') → fg_Gi p l e 5 114 s m [.ref (g.1 3 0 0), .int a1] below meth c D g r w' H locs 152 ls [] := by
      intro v3_37 w_37 H locs ls h hl hf
      refine lv_aload_n hx hb dX3_sunFor_152 rfl (lv_at hl 0 rfl) ?_
      refine lv_iconst (v := 3) hx hb dX3_sunFor_153 rfl ?_
      obtain ⟨r9, w7, hc8, hf⟩ := fg_biE hf
      refine fg_ci h (fg_runV (rest := []) S hK h (c_X3_finding l D g 3  w_37 r9 w7 hc8) vg_RX3_48 vd_X3_finding ⟨by decide, by decide⟩ fg_p3_0 rfl rfl rfl hl.1 rfl (Nat.le_of_ble_eq_true rfl) dX3_sunFor_154 ⟨Nat.zero_le _, Nat.zero_le _⟩) (fun H locs h => ?_)
      exact fg_reti hx hb hr hlk hK h hf dX3_sunFor_157
    have hL_37 : ∀ (KK_37 : Int32 → fg_W → Option (Int32 × fg_W)) (hK_37 : ∀ (v3_37 : Int32) (w_37 : fg_W) (H : Heap) (locs : List Loc) (ls : Array Slot), fg_H D g s.heap w_37 H locs → lv_has ls 5 [(0, .ref (g.1 3 0 0)), (1, .int a1), (2, .int r6), (3, .int v3_37)] → KK_37 v3_37 w_37 = some (r, w') → fg_Gi p l e 5 114 s m [.ref (g.1 3 0 0), .int a1] below meth c D g r w' H locs 152 ls []) (n : Nat) (v3_37 : Int32) (w_37 : fg_W) (H : Heap) (locs : List Loc) (ls : Array Slot), fg_H D g s.heap w_37 H locs → lv_has ls 5 [(0, .ref (g.1 3 0 0)), (1, .int a1), (2, .int r6), (3, .int v3_37)] → f_X3_sunFor_L37 a1 r6 KK_37 n v3_37 w_37 = some (r, w') → fg_Gi p l e 5 114 s m [.ref (g.1 3 0 0), .int a1] below meth c D g r w' H locs 37 ls [] := by
      intro KK_37 hK_37 n
      induction n with
      | zero => intro v3_37 w_37 H locs ls h hl hf; exact fg_no hf
      | succ n_37 ih_37 =>
        intro v3_37 w_37 H locs ls h hl hf
        unfold f_X3_sunFor_L37 at hf
        refine lv_iload_n hx hb dX3_sunFor_37 rfl (lv_at hl 3 rfl) ?_
        refine lv_if_lt (tgt := 152) hx hb dX3_sunFor_38 (by decide) (fun hc => ?_) (fun hc => ?_)
        · have hf := fg_ifT hf hc
          exact hK_37 v3_37 w_37 _ _ ls h (lv_sub hl [0, 1, 2, 3] rfl) hf
        · have hf := fg_ifF hf hc
          refine lv_aload_n hx hb dX3_sunFor_41 rfl (lv_at hl 0 rfl) ?_
          refine fg_get (C := RX3) (T := TX3) (N := 7) S vu_X3 hK h fg_p3_0 rfl rfl 1 (by decide) vf_RX3_16 rfl rfl dX3_sunFor_42 ?_
          refine lv_aload_n hx hb dX3_sunFor_45 rfl (lv_at hl 0 rfl) ?_
          refine fg_get (C := RX3) (T := TX3) (N := 7) S vu_X3 hK h fg_p3_0 rfl rfl 0 (by decide) vf_RX3_10 rfl rfl dX3_sunFor_46 ?_
          obtain ⟨w29, hc30, hf⟩ := fg_bvE hf
          refine fg_cv h (fg_runV (rest := []) S hK h (c_X2_become l D g 1 0 (by decide) (by decide) w_37 w29 hc30) vg_RX3_144 vd_X2_become ⟨by decide, by decide⟩ (fg_p2_0 (by decide)) rfl rfl rfl hl.1 rfl (Nat.le_of_ble_eq_true rfl) dX3_sunFor_49 ⟨Nat.zero_le _, Nat.zero_le _⟩) (fun H locs h => ?_)
          refine lv_iconst (v := 0) hx hb dX3_sunFor_52 rfl ?_
          refine lv_istore (lv' := [(4, .int 0), (0, .ref (g.1 3 0 0)), (1, .int a1), (2, .int r6), (3, .int v3_37)]) hx hb dX3_sunFor_53 hl (by decide) rfl (fun ls hl => ?_)
          have hK_55 : ∀ (v4_55 : Int32) (w_55 : fg_W) (H : Heap) (locs : List Loc) (ls : Array Slot), fg_H D g s.heap w_55 H locs → lv_has ls 5 [(0, .ref (g.1 3 0 0)), (1, .int a1), (2, .int r6), (3, .int v3_37), (4, .int v4_55)] → (f_X3_sunFor_L82 a1 r6 (fun v4_82 w_82 => fg_bi (f_X3_sumOf 2 1 9 8 (w_82.1 2 1 0 5) w_82) (fun r33 w31 => if r33 = r6 then (some (v3_37, w31)) else ((f_X3_sunFor_L37 a1 r6 KK_37 n_37 (v3_37 + (-1)) w31)))) fg_fuel 0 w_55) = some (r, w') → fg_Gi p l e 5 114 s m [.ref (g.1 3 0 0), .int a1] below meth c D g r w' H locs 79 ls [] := by
            intro v4_55 w_55 H locs ls h hl hf
            refine lv_iconst (v := 0) hx hb dX3_sunFor_79 rfl ?_
            refine lv_istore (lv' := [(4, .int 0), (0, .ref (g.1 3 0 0)), (1, .int a1), (2, .int r6), (3, .int v3_37)]) hx hb dX3_sunFor_80 hl (by decide) rfl (fun ls hl => ?_)
            have hK_82 : ∀ (v4_82 : Int32) (w_82 : fg_W) (H : Heap) (locs : List Loc) (ls : Array Slot), fg_H D g s.heap w_82 H locs → lv_has ls 5 [(0, .ref (g.1 3 0 0)), (1, .int a1), (2, .int r6), (3, .int v3_37), (4, .int v4_82)] → (fg_bi (f_X3_sumOf 2 1 9 8 (w_82.1 2 1 0 5) w_82) (fun r33 w31 => if r33 = r6 then (some (v3_37, w31)) else ((f_X3_sunFor_L37 a1 r6 KK_37 n_37 (v3_37 + (-1)) w31)))) = some (r, w') → fg_Gi p l e 5 114 s m [.ref (g.1 3 0 0), .int a1] below meth c D g r w' H locs 123 ls [] := by
              intro v4_82 w_82 H locs ls h hl hf
              refine lv_aload_n hx hb dX3_sunFor_123 rfl (lv_at hl 0 rfl) ?_
              refine fg_get (C := RX3) (T := TX3) (N := 7) S vu_X3 hK h fg_p3_0 rfl rfl 1 (by decide) vf_RX3_16 rfl rfl dX3_sunFor_124 ?_
              refine fg_get (C := RX2) (T := TX2) (N := 16) S vu_X2 hK h (fg_p2_0 (by decide)) rfl rfl 10 (by decide) vf_RX3_119 rfl rfl dX3_sunFor_127 ?_
              refine lv_aload_n hx hb dX3_sunFor_130 rfl (lv_at hl 0 rfl) ?_
              refine fg_get (C := RX3) (T := TX3) (N := 7) S vu_X3 hK h fg_p3_0 rfl rfl 1 (by decide) vf_RX3_16 rfl rfl dX3_sunFor_131 ?_
              refine fg_get (C := RX2) (T := TX2) (N := 16) S vu_X2 hK h (fg_p2_0 (by decide)) rfl rfl 5 (by decide) vf_RX3_88 rfl rfl dX3_sunFor_134 ?_
              obtain ⟨r33, w31, hc32, hf⟩ := fg_biE hf
              refine fg_ci h (fg_runS (rest := []) S hK h (c_X3_sumOf l D g 2 1 9 8 (w_82.1 2 1 0 5) (fg_p2_9 (by decide)) (fun _ => rfl) w_82 r33 w31 hc32) vk_X3_sumOf vm_RX3_137 vs_X3_sumOf vi_RX3 vd_X3_sumOf.2 ⟨by decide, by decide⟩ rfl hl.1 rfl (Nat.le_of_ble_eq_true rfl) dX3_sunFor_137 ⟨Nat.zero_le _, Nat.zero_le _⟩) (fun H locs h => ?_)
              refine lv_iload_n hx hb dX3_sunFor_140 rfl (lv_at hl 2 rfl) ?_
              refine lv_icmp_ne (tgt := 146) hx hb dX3_sunFor_141 (by decide) (fun hc => ?_) (fun hc => ?_)
              · have hf := fg_ifF hf hc
                refine lv_iinc (v := (v3_37 + (-1))) (lv' := [(3, .int (v3_37 + (-1))), (0, .ref (g.1 3 0 0)), (1, .int a1), (2, .int r6), (4, .int v4_82)]) hx hb dX3_sunFor_146 hl (k := 3) rfl rfl (by decide) rfl (fun ls hl => ?_)
                refine lv_goto (tgt := 37) hx hb dX3_sunFor_149 (by decide) ?_
                exact ih_37 (v3_37 + (-1)) w31 _ _ ls h (lv_sub hl [1, 2, 3, 0] rfl) hf
              · have hf := fg_ifT hf hc
                refine lv_iload_n hx hb dX3_sunFor_144 rfl (lv_at hl 3 rfl) ?_
                exact fg_reti hx hb hr hlk hK h hf dX3_sunFor_145
            have hL_82 : ∀ (KK_82 : Int32 → fg_W → Option (Int32 × fg_W)) (hK_82 : ∀ (v4_82 : Int32) (w_82 : fg_W) (H : Heap) (locs : List Loc) (ls : Array Slot), fg_H D g s.heap w_82 H locs → lv_has ls 5 [(0, .ref (g.1 3 0 0)), (1, .int a1), (2, .int r6), (3, .int v3_37), (4, .int v4_82)] → KK_82 v4_82 w_82 = some (r, w') → fg_Gi p l e 5 114 s m [.ref (g.1 3 0 0), .int a1] below meth c D g r w' H locs 123 ls []) (n : Nat) (v4_82 : Int32) (w_82 : fg_W) (H : Heap) (locs : List Loc) (ls : Array Slot), fg_H D g s.heap w_82 H locs → lv_has ls 5 [(0, .ref (g.1 3 0 0)), (1, .int a1), (2, .int r6), (3, .int v3_37), (4, .int v4_82)] → f_X3_sunFor_L82 a1 r6 KK_82 n v4_82 w_82 = some (r, w') → fg_Gi p l e 5 114 s m [.ref (g.1 3 0 0), .int a1] below meth c D g r w' H locs 82 ls [] := by
              intro KK_82 hK_82 n
              induction n with
              | zero => intro v4_82 w_82 H locs ls h hl hf; exact fg_no hf
              | succ n_82 ih_82 =>
                intro v4_82 w_82 H locs ls h hl hf
                unfold f_X3_sunFor_L82 at hf
                refine lv_iload hx hb dX3_sunFor_82 (lv_at hl 4 rfl) ?_
                refine lv_iload_n hx hb dX3_sunFor_84 rfl (lv_at hl 1 rfl) ?_
                refine lv_icmp_ge (tgt := 123) hx hb dX3_sunFor_85 (by decide) (fun hc => ?_) (fun hc => ?_)
                · have hf := fg_ifT hf hc
                  exact hK_82 v4_82 w_82 _ _ ls h (lv_sub hl [0, 1, 2, 3, 4] rfl) hf
                · have hf := fg_ifF hf hc
                  refine lv_aload_n hx hb dX3_sunFor_88 rfl (lv_at hl 0 rfl) ?_
                  refine fg_get (C := RX3) (T := TX3) (N := 7) S vu_X3 hK h fg_p3_0 rfl rfl 1 (by decide) vf_RX3_16 rfl rfl dX3_sunFor_89 ?_
                  refine fg_get (C := RX2) (T := TX2) (N := 16) S vu_X2 hK h (fg_p2_0 (by decide)) rfl rfl 10 (by decide) vf_RX3_119 rfl rfl dX3_sunFor_92 ?_
                  refine lv_aload_n hx hb dX3_sunFor_95 rfl (lv_at hl 0 rfl) ?_
                  refine fg_get (C := RX3) (T := TX3) (N := 7) S vu_X3 hK h fg_p3_0 rfl rfl 1 (by decide) vf_RX3_16 rfl rfl dX3_sunFor_96 ?_
                  refine fg_get (C := RX2) (T := TX2) (N := 16) S vu_X2 hK h (fg_p2_0 (by decide)) rfl rfl 5 (by decide) vf_RX3_88 rfl rfl dX3_sunFor_99 ?_
                  obtain ⟨r36, w34, hc35, hf⟩ := fg_biE hf
                  refine fg_ci h (fg_runS (rest := []) S hK h (c_X3_sumOf l D g 2 1 9 8 (w_82.1 2 1 0 5) (fg_p2_9 (by decide)) (fun _ => rfl) w_82 r36 w34 hc35) vk_X3_sumOf vm_RX3_137 vs_X3_sumOf vi_RX3 vd_X3_sumOf.2 ⟨by decide, by decide⟩ rfl hl.1 rfl (Nat.le_of_ble_eq_true rfl) dX3_sunFor_102 ⟨Nat.zero_le _, Nat.zero_le _⟩) (fun H locs h => ?_)
                  refine lv_iload_n hx hb dX3_sunFor_105 rfl (lv_at hl 2 rfl) ?_
                  refine lv_icmp_ne (tgt := 123) hx hb dX3_sunFor_106 (by decide) (fun hc => ?_) (fun hc => ?_)
                  · have hf := fg_ifF hf hc
                    exact hK_82 v4_82 w34 _ _ ls h (lv_sub hl [0, 1, 2, 3, 4] rfl) hf
                  · have hf := fg_ifT hf hc
                    refine lv_aload_n hx hb dX3_sunFor_109 rfl (lv_at hl 0 rfl) ?_
                    refine fg_get (C := RX3) (T := TX3) (N := 7) S vu_X3 hK h fg_p3_0 rfl rfl 1 (by decide) vf_RX3_16 rfl rfl dX3_sunFor_110 ?_
                    refine lv_iconst (v := 1) hx hb dX3_sunFor_113 rfl ?_
                    obtain ⟨w37, hc38, hf⟩ := fg_bvE hf
                    refine fg_cv h (fg_runV (rest := []) S hK h (c_X2_passDays l D g 1 1 (by decide) w34 w37 hc38) vg_RX3_129 vd_X2_passDays ⟨by decide, by decide⟩ (fg_p2_0 (by decide)) rfl rfl rfl hl.1 rfl (Nat.le_of_ble_eq_true rfl) dX3_sunFor_114 ⟨Nat.zero_le _, Nat.zero_le _⟩) (fun H locs h => ?_)
                    refine lv_iinc (v := (v4_82 + 1)) (lv' := [(4, .int (v4_82 + 1)), (0, .ref (g.1 3 0 0)), (1, .int a1), (2, .int r6), (3, .int v3_37)]) hx hb dX3_sunFor_117 hl (k := 4) rfl rfl (by decide) rfl (fun ls hl => ?_)
                    refine lv_goto (tgt := 82) hx hb dX3_sunFor_120 (by decide) ?_
                    exact ih_82 (v4_82 + 1) w37 _ _ ls h (lv_sub hl [1, 2, 3, 4, 0] rfl) hf
            exact hL_82 _ hK_82 fg_fuel 0 w_55 _ _ ls h (lv_sub hl [1, 2, 3, 4, 0] rfl) hf
          have hL_55 : ∀ (KK_55 : Int32 → fg_W → Option (Int32 × fg_W)) (hK_55 : ∀ (v4_55 : Int32) (w_55 : fg_W) (H : Heap) (locs : List Loc) (ls : Array Slot), fg_H D g s.heap w_55 H locs → lv_has ls 5 [(0, .ref (g.1 3 0 0)), (1, .int a1), (2, .int r6), (3, .int v3_37), (4, .int v4_55)] → KK_55 v4_55 w_55 = some (r, w') → fg_Gi p l e 5 114 s m [.ref (g.1 3 0 0), .int a1] below meth c D g r w' H locs 79 ls []) (n : Nat) (v4_55 : Int32) (w_55 : fg_W) (H : Heap) (locs : List Loc) (ls : Array Slot), fg_H D g s.heap w_55 H locs → lv_has ls 5 [(0, .ref (g.1 3 0 0)), (1, .int a1), (2, .int r6), (3, .int v3_37), (4, .int v4_55)] → f_X3_sunFor_L55 v3_37 KK_55 n v4_55 w_55 = some (r, w') → fg_Gi p l e 5 114 s m [.ref (g.1 3 0 0), .int a1] below meth c D g r w' H locs 55 ls [] := by
            intro KK_55 hK_55 n
            induction n with
            | zero => intro v4_55 w_55 H locs ls h hl hf; exact fg_no hf
            | succ n_55 ih_55 =>
              intro v4_55 w_55 H locs ls h hl hf
              unfold f_X3_sunFor_L55 at hf
              refine lv_iload hx hb dX3_sunFor_55 (lv_at hl 4 rfl) ?_
              refine lv_bipush (v := 6) hx hb dX3_sunFor_57 rfl ?_
              refine lv_icmp_ge (tgt := 79) hx hb dX3_sunFor_59 (by decide) (fun hc => ?_) (fun hc => ?_)
              · have hf := fg_ifT hf hc
                exact hK_55 v4_55 w_55 _ _ ls h (lv_sub hl [0, 1, 2, 3, 4] rfl) hf
              · have hf := fg_ifF hf hc
                refine lv_aload_n hx hb dX3_sunFor_62 rfl (lv_at hl 0 rfl) ?_
                refine fg_get (C := RX3) (T := TX3) (N := 7) S vu_X3 hK h fg_p3_0 rfl rfl 1 (by decide) vf_RX3_16 rfl rfl dX3_sunFor_63 ?_
                refine fg_get (C := RX2) (T := TX2) (N := 16) S vu_X2 hK h (fg_p2_0 (by decide)) rfl rfl 3 (by decide) vf_RX3_78 rfl rfl dX3_sunFor_66 ?_
                refine lv_iload hx hb dX3_sunFor_69 (lv_at hl 4 rfl) ?_
                refine lv_iload_n hx hb dX3_sunFor_71 rfl (lv_at hl 3 rfl) ?_
                obtain ⟨hn40, hf⟩ := fg_gdE hf
                refine fg_iast hx hb hK h (fg_p2_4 (by decide)) (fun _ => rfl) hn40 dX3_sunFor_72 (fun w39 H locs ew h => ?_)
                have hf := fg_letE ew hf
                refine lv_iinc (v := (v4_55 + 1)) (lv' := [(4, .int (v4_55 + 1)), (0, .ref (g.1 3 0 0)), (1, .int a1), (2, .int r6), (3, .int v3_37)]) hx hb dX3_sunFor_73 hl (k := 4) rfl rfl (by decide) rfl (fun ls hl => ?_)
                refine lv_goto (tgt := 55) hx hb dX3_sunFor_76 (by decide) ?_
                exact ih_55 (v4_55 + 1) w39 _ _ ls h (lv_sub hl [1, 2, 3, 4, 0] rfl) hf
          exact hL_55 _ hK_55 fg_fuel 0 w29 _ _ ls h (lv_sub hl [1, 2, 3, 4, 0] rfl) hf
    exact hL_37 _ hK_37 fg_fuel 40 w4 _ _ ls h (lv_sub hl [2, 3, 1, 0] rfl) hf
  · have hf := fg_ifT hf hc
    refine lv_aload_n hx hb dX3_sunFor_10 rfl (lv_at hl 0 rfl) ?_
    refine lv_iconst (v := 0) hx hb dX3_sunFor_11 rfl ?_
    obtain ⟨r43, w41, hc42, hf⟩ := fg_biE hf
    refine fg_ci h (fg_runV (rest := []) S hK h (c_X3_finding l D g 0  w1 r43 w41 hc42) vg_RX3_48 vd_X3_finding ⟨by decide, by decide⟩ fg_p3_0 rfl rfl rfl hl.1 rfl (Nat.le_of_ble_eq_true rfl) dX3_sunFor_12 ⟨Nat.zero_le _, Nat.zero_le _⟩) (fun H locs h => ?_)
    exact fg_reti hx hb hr hlk hK h hf dX3_sunFor_15
set_option maxHeartbeats 4000000 in
set_option maxRecDepth 100000 in
theorem c_X3_away (l : Launch) (D : va_G) (g : fg_G) (a1 : Int32) (a2 : Int32) (w : fg_W) (r : Int32) (w' : fg_W) (hf : f_X3_away a1 a2 w = some (r, w')) : fg_M l yX3_away cX3_away 7 (some .int) 5 114 D g [.ref (g.1 3 0 0), .int a1, .int a2] w (fg_Qi D g r w') := by
  refine fg_M.of rfl (Nat.le_of_ble_eq_true rfl) (fun p e s m below meth c ls S hr hlk hK h hl => ?_)
  have hx := S.1
  have hb := S.2.1
  have hl : lv_has ls 7 [(0, .ref (g.1 3 0 0)), (1, .int a1), (2, .int a2)] := hl
  unfold f_X3_away at hf
  refine lv_aload_n hx hb dX3_away_0 rfl (lv_at hl 0 rfl) ?_
  refine fg_get (C := RX3) (T := TX3) (N := 7) S vu_X3 hK h fg_p3_0 rfl rfl 0 (by decide) vf_RX3_10 rfl rfl dX3_away_1 ?_
  refine lv_iload_n hx hb dX3_away_4 rfl (lv_at hl 1 rfl) ?_
  obtain ⟨r3, w1, hc2, hf⟩ := fg_biE hf
  refine fg_ci h (fg_runV (rest := []) S hK h (c_X2_isPerson l D g 0 a1 (by decide) w r3 w1 hc2) vg_RX3_66 vd_X2_isPerson ⟨by decide, by decide⟩ (fg_p2_0 (by decide)) rfl rfl rfl hl.1 rfl (Nat.le_of_ble_eq_true rfl) dX3_away_5 ⟨Nat.zero_le _, Nat.zero_le _⟩) (fun H locs h => ?_)
  refine lv_if_eq (tgt := 21) hx hb dX3_away_8 (by decide) (fun hc => ?_) (fun hc => ?_)
  · have hf := fg_ifT hf hc
    refine lv_aload_n hx hb dX3_away_21 rfl (lv_at hl 0 rfl) ?_
    refine lv_iconst (v := 0) hx hb dX3_away_22 rfl ?_
    obtain ⟨r6, w4, hc5, hf⟩ := fg_biE hf
    refine fg_ci h (fg_runV (rest := []) S hK h (c_X3_finding l D g 0  w1 r6 w4 hc5) vg_RX3_48 vd_X3_finding ⟨by decide, by decide⟩ fg_p3_0 rfl rfl rfl hl.1 rfl (Nat.le_of_ble_eq_true rfl) dX3_away_23 ⟨Nat.zero_le _, Nat.zero_le _⟩) (fun H locs h => ?_)
    exact fg_reti hx hb hr hlk hK h hf dX3_away_26
  · have hf := fg_ifF hf hc
    refine lv_iload_n hx hb dX3_away_11 rfl (lv_at hl 2 rfl) ?_
    refine lv_iconst (v := 0) hx hb dX3_away_12 rfl ?_
    refine lv_bipush (v := 12) hx hb dX3_away_13 rfl ?_
    obtain ⟨r9, w7, hc8, hf⟩ := fg_biE hf
    refine fg_ci h (fg_runS (rest := []) S hK h (c_X3_within l D g a2 0 12  w1 r9 w7 hc8) vk_X3_within vm_RX3_52 vs_X3_within vi_RX3 vd_X3_within.2 ⟨by decide, by decide⟩ rfl hl.1 rfl (Nat.le_of_ble_eq_true rfl) dX3_away_15 ⟨Nat.zero_le _, Nat.zero_le _⟩) (fun H locs h => ?_)
    refine lv_if_ne (tgt := 27) hx hb dX3_away_18 (by decide) (fun hc => ?_) (fun hc => ?_)
    · have hf := fg_ifF hf hc
      refine lv_iconst (v := 1) hx hb dX3_away_27 rfl ?_
      refine lv_aload_n hx hb dX3_away_28 rfl (lv_at hl 0 rfl) ?_
      refine fg_get (C := RX3) (T := TX3) (N := 7) S vu_X3 hK h fg_p3_0 rfl rfl 0 (by decide) vf_RX3_10 rfl rfl dX3_away_29 ?_
      refine fg_get (C := RX2) (T := TX2) (N := 16) S vu_X2 hK h (fg_p2_0 (by decide)) rfl rfl 5 (by decide) vf_RX3_88 rfl rfl dX3_away_32 ?_
      refine lv_ishl hx hb dX3_away_35 ?_
      refine lv_iconst (v := 1) hx hb dX3_away_36 rfl ?_
      refine lv_isub hx hb dX3_away_37 ?_
      refine lv_iconst (v := 1) hx hb dX3_away_38 rfl ?_
      refine lv_iload_n hx hb dX3_away_39 rfl (lv_at hl 1 rfl) ?_
      refine lv_ishl hx hb dX3_away_40 ?_
      refine lv_iconst (v := (-1)) hx hb dX3_away_41 rfl ?_
      refine lv_ixor hx hb dX3_away_42 ?_
      refine lv_iand hx hb dX3_away_43 ?_
      refine lv_topi (fun x10 e_x10 => ?_)
      have hf := fg_letE e_x10 hf
      refine lv_istore_n (lv' := [(3, .int x10), (0, .ref (g.1 3 0 0)), (1, .int a1), (2, .int a2)]) hx hb dX3_away_44 rfl hl (by decide) rfl (fun ls hl => ?_)
      refine lv_iconst (v := (-1)) hx hb dX3_away_45 rfl ?_
      refine lv_istore (lv' := [(4, .int (-1)), (3, .int x10), (0, .ref (g.1 3 0 0)), (1, .int a1), (2, .int a2)]) hx hb dX3_away_46 hl (by decide) rfl (fun ls hl => ?_)
      refine lv_iconst (v := 0) hx hb dX3_away_48 rfl ?_
      refine lv_istore (lv' := [(5, .int 0), (4, .int (-1)), (3, .int x10), (0, .ref (g.1 3 0 0)), (1, .int a1), (2, .int a2)]) hx hb dX3_away_49 hl (by decide) rfl (fun ls hl => ?_)
      have hK_51 : ∀ (v4_51 : Int32) (v5_51 : Int32) (w_51 : fg_W) (H : Heap) (locs : List Loc) (ls : Array Slot), fg_H D g s.heap w_51 H locs → lv_has ls 7 [(0, .ref (g.1 3 0 0)), (1, .int a1), (2, .int a2), (3, .int x10), (4, .int v4_51), (5, .int v5_51)] → (if 0 ≤ v4_51 then (some (v4_51, w_51)) else (fg_bi (f_X3_finding 3 w_51) (fun r13 w11 => some (r13, w11)))) = some (r, w') → fg_Gi p l e 5 114 s m [.ref (g.1 3 0 0), .int a1, .int a2] below meth c D g r w' H locs 150 ls [] := by
        intro v4_51 v5_51 w_51 H locs ls h hl hf
        refine lv_iload hx hb dX3_away_150 (lv_at hl 4 rfl) ?_
        refine lv_if_ge (tgt := 163) hx hb dX3_away_152 (by decide) (fun hc => ?_) (fun hc => ?_)
        · have hf := fg_ifT hf hc
          refine lv_iload hx hb dX3_away_163 (lv_at hl 4 rfl) ?_
          exact fg_reti hx hb hr hlk hK h hf dX3_away_165
        · have hf := fg_ifF hf hc
          refine lv_aload_n hx hb dX3_away_155 rfl (lv_at hl 0 rfl) ?_
          refine lv_iconst (v := 3) hx hb dX3_away_156 rfl ?_
          obtain ⟨r13, w11, hc12, hf⟩ := fg_biE hf
          refine fg_ci h (fg_runV (rest := []) S hK h (c_X3_finding l D g 3  w_51 r13 w11 hc12) vg_RX3_48 vd_X3_finding ⟨by decide, by decide⟩ fg_p3_0 rfl rfl rfl hl.1 rfl (Nat.le_of_ble_eq_true rfl) dX3_away_157 ⟨Nat.zero_le _, Nat.zero_le _⟩) (fun H locs h => ?_)
          refine lv_goto (tgt := 165) hx hb dX3_away_160 (by decide) ?_
          exact fg_reti hx hb hr hlk hK h hf dX3_away_165
      have hL_51 : ∀ (KK_51 : Int32 → Int32 → fg_W → Option (Int32 × fg_W)) (hK_51 : ∀ (v4_51 : Int32) (v5_51 : Int32) (w_51 : fg_W) (H : Heap) (locs : List Loc) (ls : Array Slot), fg_H D g s.heap w_51 H locs → lv_has ls 7 [(0, .ref (g.1 3 0 0)), (1, .int a1), (2, .int a2), (3, .int x10), (4, .int v4_51), (5, .int v5_51)] → KK_51 v4_51 v5_51 w_51 = some (r, w') → fg_Gi p l e 5 114 s m [.ref (g.1 3 0 0), .int a1, .int a2] below meth c D g r w' H locs 150 ls []) (n : Nat) (v4_51 : Int32) (v5_51 : Int32) (w_51 : fg_W) (H : Heap) (locs : List Loc) (ls : Array Slot), fg_H D g s.heap w_51 H locs → lv_has ls 7 [(0, .ref (g.1 3 0 0)), (1, .int a1), (2, .int a2), (3, .int x10), (4, .int v4_51), (5, .int v5_51)] → f_X3_away_L51 a1 a2 x10 KK_51 n v4_51 v5_51 w_51 = some (r, w') → fg_Gi p l e 5 114 s m [.ref (g.1 3 0 0), .int a1, .int a2] below meth c D g r w' H locs 51 ls [] := by
        intro KK_51 hK_51 n
        induction n with
        | zero => intro v4_51 v5_51 w_51 H locs ls h hl hf; exact fg_no hf
        | succ n_51 ih_51 =>
          intro v4_51 v5_51 w_51 H locs ls h hl hf
          unfold f_X3_away_L51 at hf
          refine lv_iload hx hb dX3_away_51 (lv_at hl 5 rfl) ?_
          refine lv_iload_n hx hb dX3_away_53 rfl (lv_at hl 3 rfl) ?_
          refine lv_icmp_gt (tgt := 150) hx hb dX3_away_54 (by decide) (fun hc => ?_) (fun hc => ?_)
          · have hf := fg_ifT hf hc
            exact hK_51 v4_51 v5_51 w_51 _ _ ls h (lv_sub hl [0, 1, 2, 3, 4, 5] rfl) hf
          · have hf := fg_ifF hf hc
            refine lv_iload hx hb dX3_away_57 (lv_at hl 4 rfl) ?_
            refine lv_if_lt (tgt := 75) hx hb dX3_away_59 (by decide) (fun hc => ?_) (fun hc => ?_)
            · have hf := fg_ifT hf hc
              refine lv_iconst (v := 1) hx hb dX3_away_75 rfl ?_
              refine lv_goto (tgt := 80) hx hb dX3_away_76 (by decide) ?_
              refine lv_istore (lv' := [(6, .int 1), (0, .ref (g.1 3 0 0)), (1, .int a1), (2, .int a2), (3, .int x10), (4, .int v4_51), (5, .int v5_51)]) hx hb dX3_away_80 hl (by decide) rfl (fun ls hl => ?_)
              refine lv_iload hx hb dX3_away_82 (lv_at hl 6 rfl) ?_
              refine lv_iload_n hx hb dX3_away_84 rfl (lv_at hl 4 rfl) ?_
              refine lv_iconst (v := (-1)) hx hb dX3_away_85 rfl ?_
              refine lv_ixor hx hb dX3_away_86 ?_
              refine lv_iand hx hb dX3_away_87 ?_
              refine lv_if_ne (tgt := 144) hx hb dX3_away_88 (by decide) (fun hc => ?_) (fun hc => ?_)
              · have hf := fg_ifF hf hc
                refine lv_iinc (v := (v5_51 + 1)) (lv' := [(5, .int (v5_51 + 1)), (6, .int 1), (0, .ref (g.1 3 0 0)), (1, .int a1), (2, .int a2), (3, .int x10), (4, .int v4_51)]) hx hb dX3_away_144 hl (k := 6) rfl rfl (by decide) rfl (fun ls hl => ?_)
                refine lv_goto (tgt := 51) hx hb dX3_away_147 (by decide) ?_
                exact ih_51 v4_51 (v5_51 + 1) w_51 _ _ ls h (lv_sub hl [2, 3, 4, 5, 6, 0] rfl) hf
              · have hf := fg_ifT hf hc
                refine lv_iload hx hb dX3_away_91 (lv_at hl 0 rfl) ?_
                refine lv_if_ne (tgt := 99) hx hb dX3_away_93 (by decide) (fun hc => ?_) (fun hc => ?_)
                · refine lv_aload_n hx hb dX3_away_99 rfl (lv_at hl 1 rfl) ?_
                  refine fg_get (C := RX3) (T := TX3) (N := 7) S vu_X3 hK h fg_p3_0 rfl rfl 1 (by decide) vf_RX3_16 rfl rfl dX3_away_100 ?_
                  refine lv_aload_n hx hb dX3_away_103 rfl (lv_at hl 1 rfl) ?_
                  refine fg_get (C := RX3) (T := TX3) (N := 7) S vu_X3 hK h fg_p3_0 rfl rfl 0 (by decide) vf_RX3_10 rfl rfl dX3_away_104 ?_
                  obtain ⟨w34, hc35, hf⟩ := fg_bvE hf
                  refine fg_cv h (fg_runV (rest := []) S hK h (c_X2_become l D g 1 0 (by decide) (by decide) w_51 w34 hc35) vg_RX3_144 vd_X2_become ⟨by decide, by decide⟩ (fg_p2_0 (by decide)) rfl rfl rfl hl.1 rfl (Nat.le_of_ble_eq_true rfl) dX3_away_107 ⟨Nat.zero_le _, Nat.zero_le _⟩) (fun H locs h => ?_)
                  refine lv_aload_n hx hb dX3_away_110 rfl (lv_at hl 1 rfl) ?_
                  refine fg_get (C := RX3) (T := TX3) (N := 7) S vu_X3 hK h fg_p3_0 rfl rfl 1 (by decide) vf_RX3_16 rfl rfl dX3_away_111 ?_
                  refine lv_iload hx hb dX3_away_114 (lv_at hl 6 rfl) ?_
                  obtain ⟨w36, hc37, hf⟩ := fg_bvE hf
                  refine fg_cv h (fg_runV (rest := []) S hK h (c_X2_sendAway l D g 1 v5_51 (by decide) w34 w36 hc37) vg_RX3_153 vd_X2_sendAway ⟨by decide, by decide⟩ (fg_p2_0 (by decide)) rfl rfl rfl hl.1 rfl (Nat.le_of_ble_eq_true rfl) dX3_away_116 ⟨Nat.zero_le _, Nat.zero_le _⟩) (fun H locs h => ?_)
                  refine lv_aload_n hx hb dX3_away_119 rfl (lv_at hl 1 rfl) ?_
                  refine fg_get (C := RX3) (T := TX3) (N := 7) S vu_X3 hK h fg_p3_0 rfl rfl 1 (by decide) vf_RX3_16 rfl rfl dX3_away_120 ?_
                  refine lv_iload_n hx hb dX3_away_123 rfl (lv_at hl 3 rfl) ?_
                  obtain ⟨w38, hc39, hf⟩ := fg_bvE hf
                  refine fg_cv h (fg_runV (rest := []) S hK h (c_X2_passDays l D g 1 a2 (by decide) w36 w38 hc39) vg_RX3_129 vd_X2_passDays ⟨by decide, by decide⟩ (fg_p2_0 (by decide)) rfl rfl rfl hl.1 rfl (Nat.le_of_ble_eq_true rfl) dX3_away_124 ⟨Nat.zero_le _, Nat.zero_le _⟩) (fun H locs h => ?_)
                  refine lv_aload_n hx hb dX3_away_127 rfl (lv_at hl 1 rfl) ?_
                  refine fg_get (C := RX3) (T := TX3) (N := 7) S vu_X3 hK h fg_p3_0 rfl rfl 1 (by decide) vf_RX3_16 rfl rfl dX3_away_128 ?_
                  refine fg_get (C := RX2) (T := TX2) (N := 16) S vu_X2 hK h (fg_p2_0 (by decide)) rfl rfl 7 (by decide) vf_RX3_110 rfl rfl dX3_away_131 ?_
                  refine lv_iload_n hx hb dX3_away_134 rfl (lv_at hl 2 rfl) ?_
                  obtain ⟨hn40, hf⟩ := fg_gdE hf
                  refine fg_iald hx hb hK h (fg_p2_6 (by decide)) (fun _ => rfl) hn40 dX3_away_135 ?_
                  refine lv_iconst (v := (-1)) hx hb dX3_away_136 rfl ?_
                  refine lv_icmp_eq (tgt := 144) hx hb dX3_away_137 (by decide) (fun hc => ?_) (fun hc => ?_)
                  · have hf := fg_ifT hf hc
                    refine lv_iinc (v := (v5_51 + 1)) (lv' := [(5, .int (v5_51 + 1)), (6, .int 1), (0, .ref (g.1 3 0 0)), (1, .int a1), (2, .int a2), (3, .int x10), (4, .int v4_51)]) hx hb dX3_away_144 hl (k := 6) rfl rfl (by decide) rfl (fun ls hl => ?_)
                    refine lv_goto (tgt := 51) hx hb dX3_away_147 (by decide) ?_
                    exact ih_51 v4_51 (v5_51 + 1) w38 _ _ ls h (lv_sub hl [2, 3, 4, 5, 6, 0] rfl) hf
                  · have hf := fg_ifF hf hc
                    refine lv_iload hx hb dX3_away_140 (lv_at hl 6 rfl) ?_
                    refine lv_istore (lv' := [(4, .int v5_51), (6, .int 1), (0, .ref (g.1 3 0 0)), (1, .int a1), (2, .int a2), (3, .int x10), (5, .int v5_51)]) hx hb dX3_away_142 hl (by decide) rfl (fun ls hl => ?_)
                    refine lv_iinc (v := (v5_51 + 1)) (lv' := [(5, .int (v5_51 + 1)), (4, .int v5_51), (6, .int 1), (0, .ref (g.1 3 0 0)), (1, .int a1), (2, .int a2), (3, .int x10)]) hx hb dX3_away_144 hl (k := 6) rfl rfl (by decide) rfl (fun ls hl => ?_)
                    refine lv_goto (tgt := 51) hx hb dX3_away_147 (by decide) ?_
                    exact ih_51 v5_51 (v5_51 + 1) w38 _ _ ls h (lv_sub hl [3, 4, 5, 6, 1, 0] rfl) hf
                · exact absurd hc (by decide)
            · have hf := fg_ifF hf hc
              refine lv_iload hx hb dX3_away_62 (lv_at hl 5 rfl) ?_
              obtain ⟨r43, w41, hc42, hf⟩ := fg_biE hf
              refine fg_ci h (fg_runS (rest := []) S hK h (c_J6_bitCount_0f7a4 l D g v5_51  w_51 r43 w41 hc42) vk_J6_bitCount_0f7a4 vm_RX3_148 vs_J6_bitCount_0f7a4 vi_RJ6 vd_J6_bitCount_0f7a4.2 ⟨by decide, by decide⟩ rfl hl.1 rfl (Nat.le_of_ble_eq_true rfl) dX3_away_64 ⟨Nat.zero_le _, Nat.zero_le _⟩) (fun H locs h => ?_)
              refine lv_iload hx hb dX3_away_67 (lv_at hl 4 rfl) ?_
              obtain ⟨r46, w44, hc45, hf⟩ := fg_biE hf
              refine fg_ci h (fg_runS (rest := [.int r43]) S hK h (c_J6_bitCount_0f7a4 l D g v4_51  w41 r46 w44 hc45) vk_J6_bitCount_0f7a4 vm_RX3_148 vs_J6_bitCount_0f7a4 vi_RJ6 vd_J6_bitCount_0f7a4.2 ⟨by decide, by decide⟩ rfl hl.1 rfl (Nat.le_of_ble_eq_true rfl) dX3_away_69 ⟨Nat.zero_le _, Nat.zero_le _⟩) (fun H locs h => ?_)
              refine lv_icmp_ge (tgt := 79) hx hb dX3_away_72 (by decide) (fun hc => ?_) (fun hc => ?_)
              · have hf := fg_ifT hf hc
                refine lv_iconst (v := 0) hx hb dX3_away_79 rfl ?_
                refine lv_istore (lv' := [(6, .int 0), (0, .ref (g.1 3 0 0)), (1, .int a1), (2, .int a2), (3, .int x10), (4, .int v4_51), (5, .int v5_51)]) hx hb dX3_away_80 hl (by decide) rfl (fun ls hl => ?_)
                refine lv_iload hx hb dX3_away_82 (lv_at hl 6 rfl) ?_
                refine lv_iload_n hx hb dX3_away_84 rfl (lv_at hl 4 rfl) ?_
                refine lv_iconst (v := (-1)) hx hb dX3_away_85 rfl ?_
                refine lv_ixor hx hb dX3_away_86 ?_
                refine lv_iand hx hb dX3_away_87 ?_
                refine lv_if_ne (tgt := 144) hx hb dX3_away_88 (by decide) (fun hc => ?_) (fun hc => ?_)
                · have hf := fg_ifF hf hc
                  refine lv_iinc (v := (v5_51 + 1)) (lv' := [(5, .int (v5_51 + 1)), (6, .int 0), (0, .ref (g.1 3 0 0)), (1, .int a1), (2, .int a2), (3, .int x10), (4, .int v4_51)]) hx hb dX3_away_144 hl (k := 6) rfl rfl (by decide) rfl (fun ls hl => ?_)
                  refine lv_goto (tgt := 51) hx hb dX3_away_147 (by decide) ?_
                  exact ih_51 v4_51 (v5_51 + 1) w44 _ _ ls h (lv_sub hl [2, 3, 4, 5, 6, 0] rfl) hf
                · have hf := fg_ifT hf hc
                  refine lv_iload hx hb dX3_away_91 (lv_at hl 0 rfl) ?_
                  refine lv_if_ne (tgt := 99) hx hb dX3_away_93 (by decide) (fun hc => ?_) (fun hc => ?_)
                  · exact absurd hc (by decide)
                  · refine lv_goto (tgt := 144) hx hb dX3_away_96 (by decide) ?_
                    refine lv_iinc (v := (v5_51 + 1)) (lv' := [(5, .int (v5_51 + 1)), (6, .int 0), (0, .ref (g.1 3 0 0)), (1, .int a1), (2, .int a2), (3, .int x10), (4, .int v4_51)]) hx hb dX3_away_144 hl (k := 6) rfl rfl (by decide) rfl (fun ls hl => ?_)
                    refine lv_goto (tgt := 51) hx hb dX3_away_147 (by decide) ?_
                    exact ih_51 v4_51 (v5_51 + 1) w44 _ _ ls h (lv_sub hl [2, 3, 4, 5, 6, 0] rfl) hf
              · have hf := fg_ifF hf hc
                refine lv_iconst (v := 1) hx hb dX3_away_75 rfl ?_
                refine lv_goto (tgt := 80) hx hb dX3_away_76 (by decide) ?_
                refine lv_istore (lv' := [(6, .int 1), (0, .ref (g.1 3 0 0)), (1, .int a1), (2, .int a2), (3, .int x10), (4, .int v4_51), (5, .int v5_51)]) hx hb dX3_away_80 hl (by decide) rfl (fun ls hl => ?_)
                refine lv_iload hx hb dX3_away_82 (lv_at hl 6 rfl) ?_
                refine lv_iload_n hx hb dX3_away_84 rfl (lv_at hl 4 rfl) ?_
                refine lv_iconst (v := (-1)) hx hb dX3_away_85 rfl ?_
                refine lv_ixor hx hb dX3_away_86 ?_
                refine lv_iand hx hb dX3_away_87 ?_
                refine lv_if_ne (tgt := 144) hx hb dX3_away_88 (by decide) (fun hc => ?_) (fun hc => ?_)
                · have hf := fg_ifF hf hc
                  refine lv_iinc (v := (v5_51 + 1)) (lv' := [(5, .int (v5_51 + 1)), (6, .int 1), (0, .ref (g.1 3 0 0)), (1, .int a1), (2, .int a2), (3, .int x10), (4, .int v4_51)]) hx hb dX3_away_144 hl (k := 6) rfl rfl (by decide) rfl (fun ls hl => ?_)
                  refine lv_goto (tgt := 51) hx hb dX3_away_147 (by decide) ?_
                  exact ih_51 v4_51 (v5_51 + 1) w44 _ _ ls h (lv_sub hl [2, 3, 4, 5, 6, 0] rfl) hf
                · have hf := fg_ifT hf hc
                  refine lv_iload hx hb dX3_away_91 (lv_at hl 0 rfl) ?_
                  refine lv_if_ne (tgt := 99) hx hb dX3_away_93 (by decide) (fun hc => ?_) (fun hc => ?_)
                  · refine lv_aload_n hx hb dX3_away_99 rfl (lv_at hl 1 rfl) ?_
                    refine fg_get (C := RX3) (T := TX3) (N := 7) S vu_X3 hK h fg_p3_0 rfl rfl 1 (by decide) vf_RX3_16 rfl rfl dX3_away_100 ?_
                    refine lv_aload_n hx hb dX3_away_103 rfl (lv_at hl 1 rfl) ?_
                    refine fg_get (C := RX3) (T := TX3) (N := 7) S vu_X3 hK h fg_p3_0 rfl rfl 0 (by decide) vf_RX3_10 rfl rfl dX3_away_104 ?_
                    obtain ⟨w47, hc48, hf⟩ := fg_bvE hf
                    refine fg_cv h (fg_runV (rest := []) S hK h (c_X2_become l D g 1 0 (by decide) (by decide) w44 w47 hc48) vg_RX3_144 vd_X2_become ⟨by decide, by decide⟩ (fg_p2_0 (by decide)) rfl rfl rfl hl.1 rfl (Nat.le_of_ble_eq_true rfl) dX3_away_107 ⟨Nat.zero_le _, Nat.zero_le _⟩) (fun H locs h => ?_)
                    refine lv_aload_n hx hb dX3_away_110 rfl (lv_at hl 1 rfl) ?_
                    refine fg_get (C := RX3) (T := TX3) (N := 7) S vu_X3 hK h fg_p3_0 rfl rfl 1 (by decide) vf_RX3_16 rfl rfl dX3_away_111 ?_
                    refine lv_iload hx hb dX3_away_114 (lv_at hl 6 rfl) ?_
                    obtain ⟨w49, hc50, hf⟩ := fg_bvE hf
                    refine fg_cv h (fg_runV (rest := []) S hK h (c_X2_sendAway l D g 1 v5_51 (by decide) w47 w49 hc50) vg_RX3_153 vd_X2_sendAway ⟨by decide, by decide⟩ (fg_p2_0 (by decide)) rfl rfl rfl hl.1 rfl (Nat.le_of_ble_eq_true rfl) dX3_away_116 ⟨Nat.zero_le _, Nat.zero_le _⟩) (fun H locs h => ?_)
                    refine lv_aload_n hx hb dX3_away_119 rfl (lv_at hl 1 rfl) ?_
                    refine fg_get (C := RX3) (T := TX3) (N := 7) S vu_X3 hK h fg_p3_0 rfl rfl 1 (by decide) vf_RX3_16 rfl rfl dX3_away_120 ?_
                    refine lv_iload_n hx hb dX3_away_123 rfl (lv_at hl 3 rfl) ?_
                    obtain ⟨w51, hc52, hf⟩ := fg_bvE hf
                    refine fg_cv h (fg_runV (rest := []) S hK h (c_X2_passDays l D g 1 a2 (by decide) w49 w51 hc52) vg_RX3_129 vd_X2_passDays ⟨by decide, by decide⟩ (fg_p2_0 (by decide)) rfl rfl rfl hl.1 rfl (Nat.le_of_ble_eq_true rfl) dX3_away_124 ⟨Nat.zero_le _, Nat.zero_le _⟩) (fun H locs h => ?_)
                    refine lv_aload_n hx hb dX3_away_127 rfl (lv_at hl 1 rfl) ?_
                    refine fg_get (C := RX3) (T := TX3) (N := 7) S vu_X3 hK h fg_p3_0 rfl rfl 1 (by decide) vf_RX3_16 rfl rfl dX3_away_128 ?_
                    refine fg_get (C := RX2) (T := TX2) (N := 16) S vu_X2 hK h (fg_p2_0 (by decide)) rfl rfl 7 (by decide) vf_RX3_110 rfl rfl dX3_away_131 ?_
                    refine lv_iload_n hx hb dX3_away_134 rfl (lv_at hl 2 rfl) ?_
                    obtain ⟨hn53, hf⟩ := fg_gdE hf
                    refine fg_iald hx hb hK h (fg_p2_6 (by decide)) (fun _ => rfl) hn53 dX3_away_135 ?_
                    refine lv_iconst (v := (-1)) hx hb dX3_away_136 rfl ?_
                    refine lv_icmp_eq (tgt := 144) hx hb dX3_away_137 (by decide) (fun hc => ?_) (fun hc => ?_)
                    · have hf := fg_ifT hf hc
                      refine lv_iinc (v := (v5_51 + 1)) (lv' := [(5, .int (v5_51 + 1)), (6, .int 1), (0, .ref (g.1 3 0 0)), (1, .int a1), (2, .int a2), (3, .int x10), (4, .int v4_51)]) hx hb dX3_away_144 hl (k := 6) rfl rfl (by decide) rfl (fun ls hl => ?_)
                      refine lv_goto (tgt := 51) hx hb dX3_away_147 (by decide) ?_
                      exact ih_51 v4_51 (v5_51 + 1) w51 _ _ ls h (lv_sub hl [2, 3, 4, 5, 6, 0] rfl) hf
                    · have hf := fg_ifF hf hc
                      refine lv_iload hx hb dX3_away_140 (lv_at hl 6 rfl) ?_
                      refine lv_istore (lv' := [(4, .int v5_51), (6, .int 1), (0, .ref (g.1 3 0 0)), (1, .int a1), (2, .int a2), (3, .int x10), (5, .int v5_51)]) hx hb dX3_away_142 hl (by decide) rfl (fun ls hl => ?_)
                      refine lv_iinc (v := (v5_51 + 1)) (lv' := [(5, .int (v5_51 + 1)), (4, .int v5_51), (6, .int 1), (0, .ref (g.1 3 0 0)), (1, .int a1), (2, .int a2), (3, .int x10)]) hx hb dX3_away_144 hl (k := 6) rfl rfl (by decide) rfl (fun ls hl => ?_)
                      refine lv_goto (tgt := 51) hx hb dX3_away_147 (by decide) ?_
                      exact ih_51 v5_51 (v5_51 + 1) w51 _ _ ls h (lv_sub hl [3, 4, 5, 6, 1, 0] rfl) hf
                  · exact absurd hc (by decide)
      exact hL_51 _ hK_51 fg_fuel (-1) 0 w7 _ _ ls h (lv_sub hl [3, 4, 5, 2, 1, 0] rfl) hf
    · have hf := fg_ifT hf hc
      refine lv_aload_n hx hb dX3_away_21 rfl (lv_at hl 0 rfl) ?_
      refine lv_iconst (v := 0) hx hb dX3_away_22 rfl ?_
      obtain ⟨r56, w54, hc55, hf⟩ := fg_biE hf
      refine fg_ci h (fg_runV (rest := []) S hK h (c_X3_finding l D g 0  w7 r56 w54 hc55) vg_RX3_48 vd_X3_finding ⟨by decide, by decide⟩ fg_p3_0 rfl rfl rfl hl.1 rfl (Nat.le_of_ble_eq_true rfl) dX3_away_23 ⟨Nat.zero_le _, Nat.zero_le _⟩) (fun H locs h => ?_)
      exact fg_reti hx hb hr hlk hK h hf dX3_away_26
set_option maxHeartbeats 4000000 in
set_option maxRecDepth 100000 in
theorem c_X3_faultOfTold (l : Launch) (D : va_G) (g : fg_G) (a1 : Int32) (a2 : Int32) (w : fg_W) (r : Int32) (w' : fg_W) (hf : f_X3_faultOfTold a1 a2 w = some (r, w')) : fg_M l yX3_faultOfTold cX3_faultOfTold 3 (some .int) 1 21 D g [.ref (g.1 3 0 0), .int a1, .int a2] w (fg_Qi D g r w') := by
  refine fg_M.of rfl (Nat.le_of_ble_eq_true rfl) (fun p e s m below meth c ls S hr hlk hK h hl => ?_)
  have hx := S.1
  have hb := S.2.1
  have hl : lv_has ls 3 [(0, .ref (g.1 3 0 0)), (1, .int a1), (2, .int a2)] := hl
  unfold f_X3_faultOfTold at hf
  refine lv_iload_n hx hb dX3_faultOfTold_0 rfl (lv_at hl 1 rfl) ?_
  obtain ⟨r3, w1, hc2, hf⟩ := fg_biE hf
  refine fg_ci h (fg_runS (rest := []) S hK h (c_X3_isSheet l D g a1  w r3 w1 hc2) vk_X3_isSheet vm_RX3_195 vs_X3_isSheet vi_RX3 vd_X3_isSheet.2 ⟨by decide, by decide⟩ rfl hl.1 rfl (Nat.le_of_ble_eq_true rfl) dX3_faultOfTold_1 ⟨Nat.zero_le _, Nat.zero_le _⟩) (fun H locs h => ?_)
  refine lv_if_ne (tgt := 9) hx hb dX3_faultOfTold_4 (by decide) (fun hc => ?_) (fun hc => ?_)
  · have hf := fg_ifF hf hc
    refine lv_aload_n hx hb dX3_faultOfTold_9 rfl (lv_at hl 0 rfl) ?_
    refine fg_get (C := RX3) (T := TX3) (N := 7) S vu_X3 hK h fg_p3_0 rfl rfl 5 (by decide) vf_RX3_35 rfl rfl dX3_faultOfTold_10 ?_
    refine lv_iload_n hx hb dX3_faultOfTold_13 rfl (lv_at hl 1 rfl) ?_
    obtain ⟨hn4, hf⟩ := fg_gdE hf
    refine fg_aald hx hb hK h hn4 dX3_faultOfTold_14 ?_
    obtain ⟨r7, w5, hc6, hf⟩ := fg_biE hf
    refine fg_ci h (fg_runV (rest := []) S hK h (c_X0_isMissing l D g a1.toNatClampNeg (fg_vlt hn4) w1 r7 w5 hc6) vg_RX3_203 vd_X0_isMissing ⟨by decide, by decide⟩ (fg_p0_0 (fg_vlt hn4)) rfl rfl rfl hl.1 rfl (Nat.le_of_ble_eq_true rfl) dX3_faultOfTold_15 ⟨Nat.zero_le _, Nat.zero_le _⟩) (fun H locs h => ?_)
    refine lv_if_eq (tgt := 23) hx hb dX3_faultOfTold_18 (by decide) (fun hc => ?_) (fun hc => ?_)
    · have hf := fg_ifT hf hc
      refine lv_aload_n hx hb dX3_faultOfTold_23 rfl (lv_at hl 0 rfl) ?_
      refine fg_get (C := RX3) (T := TX3) (N := 7) S vu_X3 hK h fg_p3_0 rfl rfl 0 (by decide) vf_RX3_10 rfl rfl dX3_faultOfTold_24 ?_
      refine lv_iload_n hx hb dX3_faultOfTold_27 rfl (lv_at hl 2 rfl) ?_
      obtain ⟨r10, w8, hc9, hf⟩ := fg_biE hf
      refine fg_ci h (fg_runV (rest := []) S hK h (c_X2_isPerson l D g 0 a2 (by decide) w5 r10 w8 hc9) vg_RX3_66 vd_X2_isPerson ⟨by decide, by decide⟩ (fg_p2_0 (by decide)) rfl rfl rfl hl.1 rfl (Nat.le_of_ble_eq_true rfl) dX3_faultOfTold_28 ⟨Nat.zero_le _, Nat.zero_le _⟩) (fun H locs h => ?_)
      refine lv_if_eq (tgt := 38) hx hb dX3_faultOfTold_31 (by decide) (fun hc => ?_) (fun hc => ?_)
      · have hf := fg_ifT hf hc
        refine lv_iconst (v := 0) hx hb dX3_faultOfTold_38 rfl ?_
        exact fg_reti hx hb hr hlk hK h hf dX3_faultOfTold_39
      · have hf := fg_ifF hf hc
        refine lv_iconst (v := (-1)) hx hb dX3_faultOfTold_34 rfl ?_
        refine lv_goto (tgt := 39) hx hb dX3_faultOfTold_35 (by decide) ?_
        exact fg_reti hx hb hr hlk hK h hf dX3_faultOfTold_39
    · have hf := fg_ifF hf hc
      refine lv_iconst (v := 5) hx hb dX3_faultOfTold_21 rfl ?_
      exact fg_reti hx hb hr hlk hK h hf dX3_faultOfTold_22
  · have hf := fg_ifT hf hc
    refine lv_iconst (v := 0) hx hb dX3_faultOfTold_7 rfl ?_
    exact fg_reti hx hb hr hlk hK h hf dX3_faultOfTold_8
set_option maxHeartbeats 4000000 in
set_option maxRecDepth 100000 in
theorem c_X3_goesAsTold (l : Launch) (D : va_G) (g : fg_G) (a1 : Int32) (j : Nat) (hj : j < 4) (w : fg_W) (r : Int32) (w' : fg_W) (hf : f_X3_goesAsTold a1 j w = some (r, w')) : fg_M l yX3_goesAsTold cX3_goesAsTold 5 (some .boolean) 5 114 D g [.ref (g.1 3 0 0), .int a1, .ref (g.1 0 j 0)] w (fg_Qi D g r w') := by
  refine fg_M.of rfl (Nat.le_of_ble_eq_true rfl) (fun p e s m below meth c ls S hr hlk hK h hl => ?_)
  have hx := S.1
  have hb := S.2.1
  have hl : lv_has ls 5 [(0, .ref (g.1 3 0 0)), (1, .int a1), (2, .ref (g.1 0 j 0))] := hl
  unfold f_X3_goesAsTold at hf
  refine lv_iconst (v := 0) hx hb dX3_goesAsTold_0 rfl ?_
  refine lv_istore_n (lv' := [(3, .int 0), (0, .ref (g.1 3 0 0)), (1, .int a1), (2, .ref (g.1 0 j 0))]) hx hb dX3_goesAsTold_1 rfl hl (by decide) rfl (fun ls hl => ?_)
  have hK_2 : ∀ (v3_2 : Int32) (w_2 : fg_W) (H : Heap) (locs : List Loc) (ls : Array Slot), fg_H D g s.heap w_2 H locs → lv_has ls 5 [(0, .ref (g.1 3 0 0)), (1, .int a1), (2, .ref (g.1 0 j 0)), (3, .int v3_2)] → (some (1, w_2)) = some (r, w') → fg_Gi p l e 5 114 s m [.ref (g.1 3 0 0), .int a1, .ref (g.1 0 j 0)] below meth c D g r w' H locs 59 ls [] := by
    intro v3_2 w_2 H locs ls h hl hf
    refine lv_iconst (v := 1) hx hb dX3_goesAsTold_59 rfl ?_
    exact fg_retz hx hb hr hlk hK h hf (by decide) dX3_goesAsTold_60
  have hL_2 : ∀ (KK_2 : Int32 → fg_W → Option (Int32 × fg_W)) (hK_2 : ∀ (v3_2 : Int32) (w_2 : fg_W) (H : Heap) (locs : List Loc) (ls : Array Slot), fg_H D g s.heap w_2 H locs → lv_has ls 5 [(0, .ref (g.1 3 0 0)), (1, .int a1), (2, .ref (g.1 0 j 0)), (3, .int v3_2)] → KK_2 v3_2 w_2 = some (r, w') → fg_Gi p l e 5 114 s m [.ref (g.1 3 0 0), .int a1, .ref (g.1 0 j 0)] below meth c D g r w' H locs 59 ls []) (n : Nat) (v3_2 : Int32) (w_2 : fg_W) (H : Heap) (locs : List Loc) (ls : Array Slot), fg_H D g s.heap w_2 H locs → lv_has ls 5 [(0, .ref (g.1 3 0 0)), (1, .int a1), (2, .ref (g.1 0 j 0)), (3, .int v3_2)] → f_X3_goesAsTold_L2 a1 j KK_2 n v3_2 w_2 = some (r, w') → fg_Gi p l e 5 114 s m [.ref (g.1 3 0 0), .int a1, .ref (g.1 0 j 0)] below meth c D g r w' H locs 2 ls [] := by
    intro KK_2 hK_2 n
    induction n with
    | zero => intro v3_2 w_2 H locs ls h hl hf; exact fg_no hf
    | succ n_2 ih_2 =>
      intro v3_2 w_2 H locs ls h hl hf
      unfold f_X3_goesAsTold_L2 at hf
      refine lv_iload_n hx hb dX3_goesAsTold_2 rfl (lv_at hl 3 rfl) ?_
      refine lv_aload_n hx hb dX3_goesAsTold_3 rfl (lv_at hl 2 rfl) ?_
      refine fg_get (C := RX0) (T := TX0) (N := 3) S vu_X0 hK h (fg_p0_0 hj) rfl rfl 1 (by decide) vf_RX3_202 rfl rfl dX3_goesAsTold_4 ?_
      refine lv_icmp_ge (tgt := 59) hx hb dX3_goesAsTold_7 (by decide) (fun hc => ?_) (fun hc => ?_)
      · have hf := fg_ifT hf hc
        exact hK_2 v3_2 w_2 _ _ ls h (lv_sub hl [0, 1, 2, 3] rfl) hf
      · have hf := fg_ifF hf hc
        refine lv_iload_n hx hb dX3_goesAsTold_10 rfl (lv_at hl 3 rfl) ?_
        refine lv_if_le (tgt := 22) hx hb dX3_goesAsTold_11 (by decide) (fun hc => ?_) (fun hc => ?_)
        · have hf := fg_ifT hf hc
          refine lv_aload_n hx hb dX3_goesAsTold_22 rfl (lv_at hl 2 rfl) ?_
          refine fg_get (C := RX0) (T := TX0) (N := 3) S vu_X0 hK h (fg_p0_0 hj) rfl rfl 2 (by decide) vf_RX3_216 rfl rfl dX3_goesAsTold_23 ?_
          refine lv_iload_n hx hb dX3_goesAsTold_26 rfl (lv_at hl 3 rfl) ?_
          obtain ⟨hn9, hf⟩ := fg_gdE hf
          refine fg_iald hx hb hK h (fg_p0_1 hj) (fun _ => rfl) hn9 dX3_goesAsTold_27 ?_
          refine lv_topi (fun x10 e_x10 => ?_)
          have hf := fg_letE e_x10 hf
          refine lv_istore (lv' := [(4, .int x10), (0, .ref (g.1 3 0 0)), (1, .int a1), (2, .ref (g.1 0 j 0)), (3, .int v3_2)]) hx hb dX3_goesAsTold_28 hl (by decide) rfl (fun ls hl => ?_)
          refine lv_iload hx hb dX3_goesAsTold_30 (lv_at hl 0 rfl) ?_
          refine lv_bipush (v := (-2)) hx hb dX3_goesAsTold_32 rfl ?_
          refine lv_icmp_eq (tgt := 53) hx hb dX3_goesAsTold_34 (by decide) (fun hc => ?_) (fun hc => ?_)
          · have hf := fg_ifT hf hc
            refine lv_iinc (v := (v3_2 + 1)) (lv' := [(3, .int (v3_2 + 1)), (4, .int x10), (0, .ref (g.1 3 0 0)), (1, .int a1), (2, .ref (g.1 0 j 0))]) hx hb dX3_goesAsTold_53 hl (k := 4) rfl rfl (by decide) rfl (fun ls hl => ?_)
            refine lv_goto (tgt := 2) hx hb dX3_goesAsTold_56 (by decide) ?_
            exact ih_2 (v3_2 + 1) w_2 _ _ ls h (lv_sub hl [2, 3, 4, 0] rfl) hf
          · have hf := fg_ifF hf hc
            refine lv_iload hx hb dX3_goesAsTold_37 (lv_at hl 0 rfl) ?_
            refine lv_aload_n hx hb dX3_goesAsTold_39 rfl (lv_at hl 1 rfl) ?_
            refine fg_get (C := RX3) (T := TX3) (N := 7) S vu_X3 hK h fg_p3_0 rfl rfl 1 (by decide) vf_RX3_16 rfl rfl dX3_goesAsTold_40 ?_
            refine fg_get (C := RX2) (T := TX2) (N := 16) S vu_X2 hK h (fg_p2_0 (by decide)) rfl rfl 7 (by decide) vf_RX3_110 rfl rfl dX3_goesAsTold_43 ?_
            refine lv_iload_n hx hb dX3_goesAsTold_46 rfl (lv_at hl 2 rfl) ?_
            obtain ⟨hn11, hf⟩ := fg_gdE hf
            refine fg_iald hx hb hK h (fg_p2_6 (by decide)) (fun _ => rfl) hn11 dX3_goesAsTold_47 ?_
            refine lv_icmp_eq (tgt := 53) hx hb dX3_goesAsTold_48 (by decide) (fun hc => ?_) (fun hc => ?_)
            · have hf := fg_ifT hf hc
              refine lv_iinc (v := (v3_2 + 1)) (lv' := [(3, .int (v3_2 + 1)), (4, .int x10), (0, .ref (g.1 3 0 0)), (1, .int a1), (2, .ref (g.1 0 j 0))]) hx hb dX3_goesAsTold_53 hl (k := 4) rfl rfl (by decide) rfl (fun ls hl => ?_)
              refine lv_goto (tgt := 2) hx hb dX3_goesAsTold_56 (by decide) ?_
              exact ih_2 (v3_2 + 1) w_2 _ _ ls h (lv_sub hl [2, 3, 4, 0] rfl) hf
            · have hf := fg_ifF hf hc
              refine lv_iconst (v := 0) hx hb dX3_goesAsTold_51 rfl ?_
              exact fg_retz hx hb hr hlk hK h hf (by decide) dX3_goesAsTold_52
        · have hf := fg_ifF hf hc
          refine lv_aload_n hx hb dX3_goesAsTold_14 rfl (lv_at hl 0 rfl) ?_
          refine fg_get (C := RX3) (T := TX3) (N := 7) S vu_X3 hK h fg_p3_0 rfl rfl 1 (by decide) vf_RX3_16 rfl rfl dX3_goesAsTold_15 ?_
          refine lv_iconst (v := 1) hx hb dX3_goesAsTold_18 rfl ?_
          obtain ⟨w12, hc13, hf⟩ := fg_bvE hf
          refine fg_cv h (fg_runV (rest := []) S hK h (c_X2_passDays l D g 1 1 (by decide) w_2 w12 hc13) vg_RX3_129 vd_X2_passDays ⟨by decide, by decide⟩ (fg_p2_0 (by decide)) rfl rfl rfl hl.1 rfl (Nat.le_of_ble_eq_true rfl) dX3_goesAsTold_19 ⟨Nat.zero_le _, Nat.zero_le _⟩) (fun H locs h => ?_)
          refine lv_aload_n hx hb dX3_goesAsTold_22 rfl (lv_at hl 2 rfl) ?_
          refine fg_get (C := RX0) (T := TX0) (N := 3) S vu_X0 hK h (fg_p0_0 hj) rfl rfl 2 (by decide) vf_RX3_216 rfl rfl dX3_goesAsTold_23 ?_
          refine lv_iload_n hx hb dX3_goesAsTold_26 rfl (lv_at hl 3 rfl) ?_
          obtain ⟨hn14, hf⟩ := fg_gdE hf
          refine fg_iald hx hb hK h (fg_p0_1 hj) (fun _ => rfl) hn14 dX3_goesAsTold_27 ?_
          refine lv_topi (fun x15 e_x15 => ?_)
          have hf := fg_letE e_x15 hf
          refine lv_istore (lv' := [(4, .int x15), (0, .ref (g.1 3 0 0)), (1, .int a1), (2, .ref (g.1 0 j 0)), (3, .int v3_2)]) hx hb dX3_goesAsTold_28 hl (by decide) rfl (fun ls hl => ?_)
          refine lv_iload hx hb dX3_goesAsTold_30 (lv_at hl 0 rfl) ?_
          refine lv_bipush (v := (-2)) hx hb dX3_goesAsTold_32 rfl ?_
          refine lv_icmp_eq (tgt := 53) hx hb dX3_goesAsTold_34 (by decide) (fun hc => ?_) (fun hc => ?_)
          · have hf := fg_ifT hf hc
            refine lv_iinc (v := (v3_2 + 1)) (lv' := [(3, .int (v3_2 + 1)), (4, .int x15), (0, .ref (g.1 3 0 0)), (1, .int a1), (2, .ref (g.1 0 j 0))]) hx hb dX3_goesAsTold_53 hl (k := 4) rfl rfl (by decide) rfl (fun ls hl => ?_)
            refine lv_goto (tgt := 2) hx hb dX3_goesAsTold_56 (by decide) ?_
            exact ih_2 (v3_2 + 1) w12 _ _ ls h (lv_sub hl [2, 3, 4, 0] rfl) hf
          · have hf := fg_ifF hf hc
            refine lv_iload hx hb dX3_goesAsTold_37 (lv_at hl 0 rfl) ?_
            refine lv_aload_n hx hb dX3_goesAsTold_39 rfl (lv_at hl 1 rfl) ?_
            refine fg_get (C := RX3) (T := TX3) (N := 7) S vu_X3 hK h fg_p3_0 rfl rfl 1 (by decide) vf_RX3_16 rfl rfl dX3_goesAsTold_40 ?_
            refine fg_get (C := RX2) (T := TX2) (N := 16) S vu_X2 hK h (fg_p2_0 (by decide)) rfl rfl 7 (by decide) vf_RX3_110 rfl rfl dX3_goesAsTold_43 ?_
            refine lv_iload_n hx hb dX3_goesAsTold_46 rfl (lv_at hl 2 rfl) ?_
            obtain ⟨hn16, hf⟩ := fg_gdE hf
            refine fg_iald hx hb hK h (fg_p2_6 (by decide)) (fun _ => rfl) hn16 dX3_goesAsTold_47 ?_
            refine lv_icmp_eq (tgt := 53) hx hb dX3_goesAsTold_48 (by decide) (fun hc => ?_) (fun hc => ?_)
            · have hf := fg_ifT hf hc
              refine lv_iinc (v := (v3_2 + 1)) (lv' := [(3, .int (v3_2 + 1)), (4, .int x15), (0, .ref (g.1 3 0 0)), (1, .int a1), (2, .ref (g.1 0 j 0))]) hx hb dX3_goesAsTold_53 hl (k := 4) rfl rfl (by decide) rfl (fun ls hl => ?_)
              refine lv_goto (tgt := 2) hx hb dX3_goesAsTold_56 (by decide) ?_
              exact ih_2 (v3_2 + 1) w12 _ _ ls h (lv_sub hl [2, 3, 4, 0] rfl) hf
            · have hf := fg_ifF hf hc
              refine lv_iconst (v := 0) hx hb dX3_goesAsTold_51 rfl ?_
              exact fg_retz hx hb hr hlk hK h hf (by decide) dX3_goesAsTold_52
  exact hL_2 _ hK_2 fg_fuel 0 w _ _ ls h (lv_sub hl [1, 2, 3, 0] rfl) hf
set_option maxHeartbeats 4000000 in
set_option maxRecDepth 100000 in
theorem c_X3_fits (l : Launch) (D : va_G) (g : fg_G) (a1 : Int32) (a2 : Int32) (w : fg_W) (r : Int32) (w' : fg_W) (hf : f_X3_fits a1 a2 w = some (r, w')) : fg_M l yX3_fits cX3_fits 6 (some .int) 6 138 D g [.ref (g.1 3 0 0), .int a1, .int a2] w (fg_Qi D g r w') := by
  refine fg_M.of rfl (Nat.le_of_ble_eq_true rfl) (fun p e s m below meth c ls S hr hlk hK h hl => ?_)
  have hx := S.1
  have hb := S.2.1
  have hl : lv_has ls 6 [(0, .ref (g.1 3 0 0)), (1, .int a1), (2, .int a2)] := hl
  unfold f_X3_fits at hf
  refine lv_aload_n hx hb dX3_fits_0 rfl (lv_at hl 0 rfl) ?_
  refine lv_iload_n hx hb dX3_fits_1 rfl (lv_at hl 1 rfl) ?_
  refine lv_iload_n hx hb dX3_fits_2 rfl (lv_at hl 2 rfl) ?_
  obtain ⟨r3, w1, hc2, hf⟩ := fg_biE hf
  refine fg_ci h (fg_runV (rest := []) S hK h (c_X3_faultOfTold l D g a1 a2  w r3 w1 hc2) vg_RX3_156 vd_X3_faultOfTold ⟨by decide, by decide⟩ fg_p3_0 rfl rfl rfl hl.1 rfl (Nat.le_of_ble_eq_true rfl) dX3_fits_3 ⟨Nat.zero_le _, Nat.zero_le _⟩) (fun H locs h => ?_)
  refine lv_istore_n (lv' := [(3, .int r3), (0, .ref (g.1 3 0 0)), (1, .int a1), (2, .int a2)]) hx hb dX3_fits_6 rfl hl (by decide) rfl (fun ls hl => ?_)
  refine lv_iload_n hx hb dX3_fits_7 rfl (lv_at hl 0 rfl) ?_
  refine lv_if_lt (tgt := 17) hx hb dX3_fits_8 (by decide) (fun hc => ?_) (fun hc => ?_)
  · have hf := fg_ifT hf hc
    refine lv_iconst (v := 0) hx hb dX3_fits_17 rfl ?_
    refine lv_istore (lv' := [(4, .int 0), (3, .int r3), (0, .ref (g.1 3 0 0)), (1, .int a1), (2, .int a2)]) hx hb dX3_fits_18 hl (by decide) rfl (fun ls hl => ?_)
    refine lv_iconst (v := 0) hx hb dX3_fits_20 rfl ?_
    refine lv_istore (lv' := [(5, .int 0), (4, .int 0), (3, .int r3), (0, .ref (g.1 3 0 0)), (1, .int a1), (2, .int a2)]) hx hb dX3_fits_21 hl (by decide) rfl (fun ls hl => ?_)
    have hK_23 : ∀ (v4_23 : Int32) (v5_23 : Int32) (w_23 : fg_W) (H : Heap) (locs : List Loc) (ls : Array Slot), fg_H D g s.heap w_23 H locs → lv_has ls 6 [(0, .ref (g.1 3 0 0)), (1, .int a1), (2, .int a2), (3, .int r3), (4, .int v4_23), (5, .int v5_23)] → (some (v4_23, w_23)) = some (r, w') → fg_Gi p l e 6 138 s m [.ref (g.1 3 0 0), .int a1, .int a2] below meth c D g r w' H locs 75 ls [] := by
      intro v4_23 v5_23 w_23 H locs ls h hl hf
      refine lv_iload hx hb dX3_fits_75 (lv_at hl 4 rfl) ?_
      exact fg_reti hx hb hr hlk hK h hf dX3_fits_77
    have hL_23 : ∀ (KK_23 : Int32 → Int32 → fg_W → Option (Int32 × fg_W)) (hK_23 : ∀ (v4_23 : Int32) (v5_23 : Int32) (w_23 : fg_W) (H : Heap) (locs : List Loc) (ls : Array Slot), fg_H D g s.heap w_23 H locs → lv_has ls 6 [(0, .ref (g.1 3 0 0)), (1, .int a1), (2, .int a2), (3, .int r3), (4, .int v4_23), (5, .int v5_23)] → KK_23 v4_23 v5_23 w_23 = some (r, w') → fg_Gi p l e 6 138 s m [.ref (g.1 3 0 0), .int a1, .int a2] below meth c D g r w' H locs 75 ls []) (n : Nat) (v4_23 : Int32) (v5_23 : Int32) (w_23 : fg_W) (H : Heap) (locs : List Loc) (ls : Array Slot), fg_H D g s.heap w_23 H locs → lv_has ls 6 [(0, .ref (g.1 3 0 0)), (1, .int a1), (2, .int a2), (3, .int r3), (4, .int v4_23), (5, .int v5_23)] → f_X3_fits_L23 a1 a2 KK_23 n v4_23 v5_23 w_23 = some (r, w') → fg_Gi p l e 6 138 s m [.ref (g.1 3 0 0), .int a1, .int a2] below meth c D g r w' H locs 23 ls [] := by
      intro KK_23 hK_23 n
      induction n with
      | zero => intro v4_23 v5_23 w_23 H locs ls h hl hf; exact fg_no hf
      | succ n_23 ih_23 =>
        intro v4_23 v5_23 w_23 H locs ls h hl hf
        unfold f_X3_fits_L23 at hf
        refine lv_iload hx hb dX3_fits_23 (lv_at hl 5 rfl) ?_
        refine lv_bipush (v := 99) hx hb dX3_fits_25 rfl ?_
        refine lv_icmp_gt (tgt := 75) hx hb dX3_fits_27 (by decide) (fun hc => ?_) (fun hc => ?_)
        · have hf := fg_ifT hf hc
          exact hK_23 v4_23 v5_23 w_23 _ _ ls h (lv_sub hl [0, 1, 2, 3, 4, 5] rfl) hf
        · have hf := fg_ifF hf hc
          refine lv_aload_n hx hb dX3_fits_30 rfl (lv_at hl 0 rfl) ?_
          refine fg_get (C := RX3) (T := TX3) (N := 7) S vu_X3 hK h fg_p3_0 rfl rfl 1 (by decide) vf_RX3_16 rfl rfl dX3_fits_31 ?_
          refine lv_aload_n hx hb dX3_fits_34 rfl (lv_at hl 0 rfl) ?_
          refine fg_get (C := RX3) (T := TX3) (N := 7) S vu_X3 hK h fg_p3_0 rfl rfl 0 (by decide) vf_RX3_10 rfl rfl dX3_fits_35 ?_
          obtain ⟨w12, hc13, hf⟩ := fg_bvE hf
          refine fg_cv h (fg_runV (rest := []) S hK h (c_X2_become l D g 1 0 (by decide) (by decide) w_23 w12 hc13) vg_RX3_144 vd_X2_become ⟨by decide, by decide⟩ (fg_p2_0 (by decide)) rfl rfl rfl hl.1 rfl (Nat.le_of_ble_eq_true rfl) dX3_fits_38 ⟨Nat.zero_le _, Nat.zero_le _⟩) (fun H locs h => ?_)
          refine lv_aload_n hx hb dX3_fits_41 rfl (lv_at hl 0 rfl) ?_
          refine fg_get (C := RX3) (T := TX3) (N := 7) S vu_X3 hK h fg_p3_0 rfl rfl 1 (by decide) vf_RX3_16 rfl rfl dX3_fits_42 ?_
          refine fg_get (C := RX2) (T := TX2) (N := 16) S vu_X2 hK h (fg_p2_0 (by decide)) rfl rfl 8 (by decide) vf_RX3_113 rfl rfl dX3_fits_45 ?_
          refine lv_iload_n hx hb dX3_fits_48 rfl (lv_at hl 2 rfl) ?_
          refine lv_iload hx hb dX3_fits_49 (lv_at hl 5 rfl) ?_
          obtain ⟨hn15, hf⟩ := fg_gdE hf
          refine fg_iast hx hb hK h (fg_p2_7 (by decide)) (fun _ => rfl) hn15 dX3_fits_51 (fun w14 H locs ew h => ?_)
          have hf := fg_letE ew hf
          refine lv_aload_n hx hb dX3_fits_52 rfl (lv_at hl 0 rfl) ?_
          refine lv_iload_n hx hb dX3_fits_53 rfl (lv_at hl 2 rfl) ?_
          refine lv_aload_n hx hb dX3_fits_54 rfl (lv_at hl 0 rfl) ?_
          refine fg_get (C := RX3) (T := TX3) (N := 7) S vu_X3 hK h fg_p3_0 rfl rfl 5 (by decide) vf_RX3_35 rfl rfl dX3_fits_55 ?_
          refine lv_iload_n hx hb dX3_fits_58 rfl (lv_at hl 1 rfl) ?_
          obtain ⟨hn16, hf⟩ := fg_gdE hf
          refine fg_aald hx hb hK h hn16 dX3_fits_59 ?_
          obtain ⟨r19, w17, hc18, hf⟩ := fg_biE hf
          refine fg_ci h (fg_runV (rest := []) S hK h (c_X3_goesAsTold l D g a2 a1.toNatClampNeg (fg_vlt hn16) w14 r19 w17 hc18) vg_RX3_159 vd_X3_goesAsTold ⟨by decide, by decide⟩ fg_p3_0 rfl rfl rfl hl.1 rfl (Nat.le_of_ble_eq_true rfl) dX3_fits_60 ⟨Nat.zero_le _, Nat.zero_le _⟩) (fun H locs h => ?_)
          refine lv_if_eq (tgt := 69) hx hb dX3_fits_63 (by decide) (fun hc => ?_) (fun hc => ?_)
          · have hf := fg_ifT hf hc
            refine lv_iinc (v := (v5_23 + 1)) (lv' := [(5, .int (v5_23 + 1)), (0, .ref (g.1 3 0 0)), (1, .int a1), (2, .int a2), (3, .int r3), (4, .int v4_23)]) hx hb dX3_fits_69 hl (k := 5) rfl rfl (by decide) rfl (fun ls hl => ?_)
            refine lv_goto (tgt := 23) hx hb dX3_fits_72 (by decide) ?_
            exact ih_23 v4_23 (v5_23 + 1) w17 _ _ ls h (lv_sub hl [1, 2, 3, 4, 5, 0] rfl) hf
          · have hf := fg_ifF hf hc
            refine lv_iinc (v := (v4_23 + 1)) (lv' := [(4, .int (v4_23 + 1)), (0, .ref (g.1 3 0 0)), (1, .int a1), (2, .int a2), (3, .int r3), (5, .int v5_23)]) hx hb dX3_fits_66 hl (k := 4) rfl rfl (by decide) rfl (fun ls hl => ?_)
            refine lv_iinc (v := (v5_23 + 1)) (lv' := [(5, .int (v5_23 + 1)), (4, .int (v4_23 + 1)), (0, .ref (g.1 3 0 0)), (1, .int a1), (2, .int a2), (3, .int r3)]) hx hb dX3_fits_69 hl (k := 5) rfl rfl (by decide) rfl (fun ls hl => ?_)
            refine lv_goto (tgt := 23) hx hb dX3_fits_72 (by decide) ?_
            exact ih_23 (v4_23 + 1) (v5_23 + 1) w17 _ _ ls h (lv_sub hl [2, 3, 4, 5, 1, 0] rfl) hf
    exact hL_23 _ hK_23 fg_fuel 0 0 w1 _ _ ls h (lv_sub hl [3, 4, 5, 2, 1, 0] rfl) hf
  · have hf := fg_ifF hf hc
    refine lv_aload_n hx hb dX3_fits_11 rfl (lv_at hl 1 rfl) ?_
    refine lv_iload_n hx hb dX3_fits_12 rfl (lv_at hl 0 rfl) ?_
    obtain ⟨r22, w20, hc21, hf⟩ := fg_biE hf
    refine fg_ci h (fg_runV (rest := []) S hK h (c_X3_finding l D g r3  w1 r22 w20 hc21) vg_RX3_48 vd_X3_finding ⟨by decide, by decide⟩ fg_p3_0 rfl rfl rfl hl.1 rfl (Nat.le_of_ble_eq_true rfl) dX3_fits_13 ⟨Nat.zero_le _, Nat.zero_le _⟩) (fun H locs h => ?_)
    exact fg_reti hx hb hr hlk hK h hf dX3_fits_16
