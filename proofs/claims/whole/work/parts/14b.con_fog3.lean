set_option maxHeartbeats 4000000 in
set_option maxRecDepth 100000 in
theorem c_X3_believed (l : Launch) (D : va_G) (g : fg_G) (a1 : Int32) (a2 : Int32) (w : fg_W) (r : Int32) (w' : fg_W) (hf : f_X3_believed a1 a2 w = some (r, w')) : fg_M l yX3_believed cX3_believed 5 (some .int) 6 138 D g [.ref (g.1 3 0 0), .int a1, .int a2] w (fg_Qi D g r w') := by
  refine fg_M.of rfl (Nat.le_of_ble_eq_true rfl) (fun p e s m below meth c ls S hr hlk hK h hl => ?_)
  have hx := S.1
  have hb := S.2.1
  have hl : lv_has ls 5 [(0, .ref (g.1 3 0 0)), (1, .int a1), (2, .int a2)] := hl
  unfold f_X3_believed at hf
  refine lv_aload_n hx hb dX3_believed_0 rfl (lv_at hl 0 rfl) ?_
  refine lv_iload_n hx hb dX3_believed_1 rfl (lv_at hl 1 rfl) ?_
  refine lv_iload_n hx hb dX3_believed_2 rfl (lv_at hl 2 rfl) ?_
  obtain ⟨r3, w1, hc2, hf⟩ := fg_biE hf
  refine fg_ci h (fg_runV (rest := []) S hK h (c_X3_faultOfTold l D g a1 a2  w r3 w1 hc2) vg_RX3_156 vd_X3_faultOfTold ⟨by decide, by decide⟩ fg_p3_0 rfl rfl rfl hl.1 rfl (Nat.le_of_ble_eq_true rfl) dX3_believed_3 ⟨Nat.zero_le _, Nat.zero_le _⟩) (fun H locs h => ?_)
  refine lv_istore_n (lv' := [(3, .int r3), (0, .ref (g.1 3 0 0)), (1, .int a1), (2, .int a2)]) hx hb dX3_believed_6 rfl hl (by decide) rfl (fun ls hl => ?_)
  refine lv_iload_n hx hb dX3_believed_7 rfl (lv_at hl 0 rfl) ?_
  refine lv_if_lt (tgt := 17) hx hb dX3_believed_8 (by decide) (fun hc => ?_) (fun hc => ?_)
  · have hf := fg_ifT hf hc
    refine lv_iconst (v := 0) hx hb dX3_believed_17 rfl ?_
    refine lv_istore (lv' := [(4, .int 0), (3, .int r3), (0, .ref (g.1 3 0 0)), (1, .int a1), (2, .int a2)]) hx hb dX3_believed_18 hl (by decide) rfl (fun ls hl => ?_)
    have hK_20 : ∀ (v4_20 : Int32) (w_20 : fg_W) (H : Heap) (locs : List Loc) (ls : Array Slot), fg_H D g s.heap w_20 H locs → lv_has ls 5 [(0, .ref (g.1 3 0 0)), (1, .int a1), (2, .int a2), (3, .int r3), (4, .int v4_20)] → (fg_bi (f_X3_finding 3 w_20) (fun r6 w4 => some (r6, w4))) = some (r, w') → fg_Gi p l e 6 138 s m [.ref (g.1 3 0 0), .int a1, .int a2] below meth c D g r w' H locs 72 ls [] := by
      intro v4_20 w_20 H locs ls h hl hf
      refine lv_aload_n hx hb dX3_believed_72 rfl (lv_at hl 0 rfl) ?_
      refine lv_iconst (v := 3) hx hb dX3_believed_73 rfl ?_
      obtain ⟨r6, w4, hc5, hf⟩ := fg_biE hf
      refine fg_ci h (fg_runV (rest := []) S hK h (c_X3_finding l D g 3  w_20 r6 w4 hc5) vg_RX3_48 vd_X3_finding ⟨by decide, by decide⟩ fg_p3_0 rfl rfl rfl hl.1 rfl (Nat.le_of_ble_eq_true rfl) dX3_believed_74 ⟨Nat.zero_le _, Nat.zero_le _⟩) (fun H locs h => ?_)
      exact fg_reti hx hb hr hlk hK h hf dX3_believed_77
    have hL_20 : ∀ (KK_20 : Int32 → fg_W → Option (Int32 × fg_W)) (hK_20 : ∀ (v4_20 : Int32) (w_20 : fg_W) (H : Heap) (locs : List Loc) (ls : Array Slot), fg_H D g s.heap w_20 H locs → lv_has ls 5 [(0, .ref (g.1 3 0 0)), (1, .int a1), (2, .int a2), (3, .int r3), (4, .int v4_20)] → KK_20 v4_20 w_20 = some (r, w') → fg_Gi p l e 6 138 s m [.ref (g.1 3 0 0), .int a1, .int a2] below meth c D g r w' H locs 72 ls []) (n : Nat) (v4_20 : Int32) (w_20 : fg_W) (H : Heap) (locs : List Loc) (ls : Array Slot), fg_H D g s.heap w_20 H locs → lv_has ls 5 [(0, .ref (g.1 3 0 0)), (1, .int a1), (2, .int a2), (3, .int r3), (4, .int v4_20)] → f_X3_believed_L20 a1 a2 KK_20 n v4_20 w_20 = some (r, w') → fg_Gi p l e 6 138 s m [.ref (g.1 3 0 0), .int a1, .int a2] below meth c D g r w' H locs 20 ls [] := by
      intro KK_20 hK_20 n
      induction n with
      | zero => intro v4_20 w_20 H locs ls h hl hf; exact fg_no hf
      | succ n_20 ih_20 =>
        intro v4_20 w_20 H locs ls h hl hf
        unfold f_X3_believed_L20 at hf
        refine lv_iload hx hb dX3_believed_20 (lv_at hl 4 rfl) ?_
        refine lv_bipush (v := 99) hx hb dX3_believed_22 rfl ?_
        refine lv_icmp_gt (tgt := 72) hx hb dX3_believed_24 (by decide) (fun hc => ?_) (fun hc => ?_)
        · have hf := fg_ifT hf hc
          exact hK_20 v4_20 w_20 _ _ ls h (lv_sub hl [0, 1, 2, 3, 4] rfl) hf
        · have hf := fg_ifF hf hc
          refine lv_aload_n hx hb dX3_believed_27 rfl (lv_at hl 0 rfl) ?_
          refine fg_get (C := RX3) (T := TX3) (N := 7) S vu_X3 hK h fg_p3_0 rfl rfl 1 (by decide) vf_RX3_16 rfl rfl dX3_believed_28 ?_
          refine lv_aload_n hx hb dX3_believed_31 rfl (lv_at hl 0 rfl) ?_
          refine fg_get (C := RX3) (T := TX3) (N := 7) S vu_X3 hK h fg_p3_0 rfl rfl 0 (by decide) vf_RX3_10 rfl rfl dX3_believed_32 ?_
          obtain ⟨w15, hc16, hf⟩ := fg_bvE hf
          refine fg_cv h (fg_runV (rest := []) S hK h (c_X2_become l D g 1 0 (by decide) (by decide) w_20 w15 hc16) vg_RX3_144 vd_X2_become ⟨by decide, by decide⟩ (fg_p2_0 (by decide)) rfl rfl rfl hl.1 rfl (Nat.le_of_ble_eq_true rfl) dX3_believed_35 ⟨Nat.zero_le _, Nat.zero_le _⟩) (fun H locs h => ?_)
          refine lv_aload_n hx hb dX3_believed_38 rfl (lv_at hl 0 rfl) ?_
          refine fg_get (C := RX3) (T := TX3) (N := 7) S vu_X3 hK h fg_p3_0 rfl rfl 1 (by decide) vf_RX3_16 rfl rfl dX3_believed_39 ?_
          refine fg_get (C := RX2) (T := TX2) (N := 16) S vu_X2 hK h (fg_p2_0 (by decide)) rfl rfl 8 (by decide) vf_RX3_113 rfl rfl dX3_believed_42 ?_
          refine lv_iload_n hx hb dX3_believed_45 rfl (lv_at hl 2 rfl) ?_
          refine lv_iload hx hb dX3_believed_46 (lv_at hl 4 rfl) ?_
          obtain ⟨hn18, hf⟩ := fg_gdE hf
          refine fg_iast hx hb hK h (fg_p2_7 (by decide)) (fun _ => rfl) hn18 dX3_believed_48 (fun w17 H locs ew h => ?_)
          have hf := fg_letE ew hf
          refine lv_aload_n hx hb dX3_believed_49 rfl (lv_at hl 0 rfl) ?_
          refine lv_iload_n hx hb dX3_believed_50 rfl (lv_at hl 2 rfl) ?_
          refine lv_aload_n hx hb dX3_believed_51 rfl (lv_at hl 0 rfl) ?_
          refine fg_get (C := RX3) (T := TX3) (N := 7) S vu_X3 hK h fg_p3_0 rfl rfl 5 (by decide) vf_RX3_35 rfl rfl dX3_believed_52 ?_
          refine lv_iload_n hx hb dX3_believed_55 rfl (lv_at hl 1 rfl) ?_
          obtain ⟨hn19, hf⟩ := fg_gdE hf
          refine fg_aald hx hb hK h hn19 dX3_believed_56 ?_
          obtain ⟨r22, w20, hc21, hf⟩ := fg_biE hf
          refine fg_ci h (fg_runV (rest := []) S hK h (c_X3_goesAsTold l D g a2 a1.toNatClampNeg (fg_vlt hn19) w17 r22 w20 hc21) vg_RX3_159 vd_X3_goesAsTold ⟨by decide, by decide⟩ fg_p3_0 rfl rfl rfl hl.1 rfl (Nat.le_of_ble_eq_true rfl) dX3_believed_57 ⟨Nat.zero_le _, Nat.zero_le _⟩) (fun H locs h => ?_)
          refine lv_if_eq (tgt := 66) hx hb dX3_believed_60 (by decide) (fun hc => ?_) (fun hc => ?_)
          · have hf := fg_ifT hf hc
            refine lv_iinc (v := (v4_20 + 1)) (lv' := [(4, .int (v4_20 + 1)), (0, .ref (g.1 3 0 0)), (1, .int a1), (2, .int a2), (3, .int r3)]) hx hb dX3_believed_66 hl (k := 4) rfl rfl (by decide) rfl (fun ls hl => ?_)
            refine lv_goto (tgt := 20) hx hb dX3_believed_69 (by decide) ?_
            exact ih_20 (v4_20 + 1) w20 _ _ ls h (lv_sub hl [1, 2, 3, 4, 0] rfl) hf
          · have hf := fg_ifF hf hc
            refine lv_iload hx hb dX3_believed_63 (lv_at hl 4 rfl) ?_
            exact fg_reti hx hb hr hlk hK h hf dX3_believed_65
    exact hL_20 _ hK_20 fg_fuel 0 w1 _ _ ls h (lv_sub hl [2, 3, 4, 1, 0] rfl) hf
  · have hf := fg_ifF hf hc
    refine lv_aload_n hx hb dX3_believed_11 rfl (lv_at hl 1 rfl) ?_
    refine lv_iload_n hx hb dX3_believed_12 rfl (lv_at hl 0 rfl) ?_
    obtain ⟨r25, w23, hc24, hf⟩ := fg_biE hf
    refine fg_ci h (fg_runV (rest := []) S hK h (c_X3_finding l D g r3  w1 r25 w23 hc24) vg_RX3_48 vd_X3_finding ⟨by decide, by decide⟩ fg_p3_0 rfl rfl rfl hl.1 rfl (Nat.le_of_ble_eq_true rfl) dX3_believed_13 ⟨Nat.zero_le _, Nat.zero_le _⟩) (fun H locs h => ?_)
    exact fg_reti hx hb hr hlk hK h hf dX3_believed_16
set_option maxHeartbeats 4000000 in
set_option maxRecDepth 100000 in
theorem c_X3_kinds (l : Launch) (D : va_G) (g : fg_G) (a1 : Int32) (a2 : Int32) (w : fg_W) (r : Int32) (w' : fg_W) (hf : f_X3_kinds a1 a2 w = some (r, w')) : fg_M l yX3_kinds cX3_kinds 6 (some .int) 6 138 D g [.ref (g.1 3 0 0), .int a1, .int a2] w (fg_Qi D g r w') := by
  refine fg_M.of rfl (Nat.le_of_ble_eq_true rfl) (fun p e s m below meth c ls S hr hlk hK h hl => ?_)
  have hx := S.1
  have hb := S.2.1
  have hl : lv_has ls 6 [(0, .ref (g.1 3 0 0)), (1, .int a1), (2, .int a2)] := hl
  unfold f_X3_kinds at hf
  refine lv_aload_n hx hb dX3_kinds_0 rfl (lv_at hl 0 rfl) ?_
  refine lv_iload_n hx hb dX3_kinds_1 rfl (lv_at hl 1 rfl) ?_
  refine lv_iload_n hx hb dX3_kinds_2 rfl (lv_at hl 2 rfl) ?_
  obtain ⟨r3, w1, hc2, hf⟩ := fg_biE hf
  refine fg_ci h (fg_runV (rest := []) S hK h (c_X3_faultOfTold l D g a1 a2  w r3 w1 hc2) vg_RX3_156 vd_X3_faultOfTold ⟨by decide, by decide⟩ fg_p3_0 rfl rfl rfl hl.1 rfl (Nat.le_of_ble_eq_true rfl) dX3_kinds_3 ⟨Nat.zero_le _, Nat.zero_le _⟩) (fun H locs h => ?_)
  refine lv_istore_n (lv' := [(3, .int r3), (0, .ref (g.1 3 0 0)), (1, .int a1), (2, .int a2)]) hx hb dX3_kinds_6 rfl hl (by decide) rfl (fun ls hl => ?_)
  refine lv_iload_n hx hb dX3_kinds_7 rfl (lv_at hl 0 rfl) ?_
  refine lv_if_lt (tgt := 17) hx hb dX3_kinds_8 (by decide) (fun hc => ?_) (fun hc => ?_)
  · have hf := fg_ifT hf hc
    refine lv_iconst (v := 0) hx hb dX3_kinds_17 rfl ?_
    refine lv_istore (lv' := [(4, .int 0), (3, .int r3), (0, .ref (g.1 3 0 0)), (1, .int a1), (2, .int a2)]) hx hb dX3_kinds_18 hl (by decide) rfl (fun ls hl => ?_)
    refine lv_iconst (v := 0) hx hb dX3_kinds_20 rfl ?_
    refine lv_istore (lv' := [(5, .int 0), (4, .int 0), (3, .int r3), (0, .ref (g.1 3 0 0)), (1, .int a1), (2, .int a2)]) hx hb dX3_kinds_21 hl (by decide) rfl (fun ls hl => ?_)
    have hK_23 : ∀ (v4_23 : Int32) (v5_23 : Int32) (w_23 : fg_W) (H : Heap) (locs : List Loc) (ls : Array Slot), fg_H D g s.heap w_23 H locs → lv_has ls 6 [(0, .ref (g.1 3 0 0)), (1, .int a1), (2, .int a2), (3, .int r3), (4, .int v4_23), (5, .int v5_23)] → (some (v4_23, w_23)) = some (r, w') → fg_Gi p l e 6 138 s m [.ref (g.1 3 0 0), .int a1, .int a2] below meth c D g r w' H locs 81 ls [] := by
      intro v4_23 v5_23 w_23 H locs ls h hl hf
      refine lv_iload hx hb dX3_kinds_81 (lv_at hl 4 rfl) ?_
      exact fg_reti hx hb hr hlk hK h hf dX3_kinds_83
    have hL_23 : ∀ (KK_23 : Int32 → Int32 → fg_W → Option (Int32 × fg_W)) (hK_23 : ∀ (v4_23 : Int32) (v5_23 : Int32) (w_23 : fg_W) (H : Heap) (locs : List Loc) (ls : Array Slot), fg_H D g s.heap w_23 H locs → lv_has ls 6 [(0, .ref (g.1 3 0 0)), (1, .int a1), (2, .int a2), (3, .int r3), (4, .int v4_23), (5, .int v5_23)] → KK_23 v4_23 v5_23 w_23 = some (r, w') → fg_Gi p l e 6 138 s m [.ref (g.1 3 0 0), .int a1, .int a2] below meth c D g r w' H locs 81 ls []) (n : Nat) (v4_23 : Int32) (v5_23 : Int32) (w_23 : fg_W) (H : Heap) (locs : List Loc) (ls : Array Slot), fg_H D g s.heap w_23 H locs → lv_has ls 6 [(0, .ref (g.1 3 0 0)), (1, .int a1), (2, .int a2), (3, .int r3), (4, .int v4_23), (5, .int v5_23)] → f_X3_kinds_L23 a1 a2 KK_23 n v4_23 v5_23 w_23 = some (r, w') → fg_Gi p l e 6 138 s m [.ref (g.1 3 0 0), .int a1, .int a2] below meth c D g r w' H locs 23 ls [] := by
      intro KK_23 hK_23 n
      induction n with
      | zero => intro v4_23 v5_23 w_23 H locs ls h hl hf; exact fg_no hf
      | succ n_23 ih_23 =>
        intro v4_23 v5_23 w_23 H locs ls h hl hf
        unfold f_X3_kinds_L23 at hf
        refine lv_iload hx hb dX3_kinds_23 (lv_at hl 5 rfl) ?_
        refine lv_bipush (v := 7) hx hb dX3_kinds_25 rfl ?_
        refine lv_icmp_ge (tgt := 81) hx hb dX3_kinds_27 (by decide) (fun hc => ?_) (fun hc => ?_)
        · have hf := fg_ifT hf hc
          exact hK_23 v4_23 v5_23 w_23 _ _ ls h (lv_sub hl [0, 1, 2, 3, 4, 5] rfl) hf
        · have hf := fg_ifF hf hc
          refine lv_aload_n hx hb dX3_kinds_30 rfl (lv_at hl 0 rfl) ?_
          refine fg_get (C := RX3) (T := TX3) (N := 7) S vu_X3 hK h fg_p3_0 rfl rfl 1 (by decide) vf_RX3_16 rfl rfl dX3_kinds_31 ?_
          refine lv_aload_n hx hb dX3_kinds_34 rfl (lv_at hl 0 rfl) ?_
          refine fg_get (C := RX3) (T := TX3) (N := 7) S vu_X3 hK h fg_p3_0 rfl rfl 0 (by decide) vf_RX3_10 rfl rfl dX3_kinds_35 ?_
          obtain ⟨w13, hc14, hf⟩ := fg_bvE hf
          refine fg_cv h (fg_runV (rest := []) S hK h (c_X2_become l D g 1 0 (by decide) (by decide) w_23 w13 hc14) vg_RX3_144 vd_X2_become ⟨by decide, by decide⟩ (fg_p2_0 (by decide)) rfl rfl rfl hl.1 rfl (Nat.le_of_ble_eq_true rfl) dX3_kinds_38 ⟨Nat.zero_le _, Nat.zero_le _⟩) (fun H locs h => ?_)
          refine lv_aload_n hx hb dX3_kinds_41 rfl (lv_at hl 0 rfl) ?_
          refine fg_get (C := RX3) (T := TX3) (N := 7) S vu_X3 hK h fg_p3_0 rfl rfl 1 (by decide) vf_RX3_16 rfl rfl dX3_kinds_42 ?_
          refine fg_get (C := RX2) (T := TX2) (N := 16) S vu_X2 hK h (fg_p2_0 (by decide)) rfl rfl 6 (by decide) vf_RX3_94 rfl rfl dX3_kinds_45 ?_
          refine lv_iload_n hx hb dX3_kinds_48 rfl (lv_at hl 2 rfl) ?_
          refine lv_iload hx hb dX3_kinds_49 (lv_at hl 5 rfl) ?_
          obtain ⟨hn16, hf⟩ := fg_gdE hf
          refine fg_iast hx hb hK h (fg_p2_5 (by decide)) (fun _ => rfl) hn16 dX3_kinds_51 (fun w15 H locs ew h => ?_)
          have hf := fg_letE ew hf
          refine lv_aload_n hx hb dX3_kinds_52 rfl (lv_at hl 0 rfl) ?_
          refine lv_iload_n hx hb dX3_kinds_53 rfl (lv_at hl 2 rfl) ?_
          refine lv_aload_n hx hb dX3_kinds_54 rfl (lv_at hl 0 rfl) ?_
          refine fg_get (C := RX3) (T := TX3) (N := 7) S vu_X3 hK h fg_p3_0 rfl rfl 5 (by decide) vf_RX3_35 rfl rfl dX3_kinds_55 ?_
          refine lv_iload_n hx hb dX3_kinds_58 rfl (lv_at hl 1 rfl) ?_
          obtain ⟨hn17, hf⟩ := fg_gdE hf
          refine fg_aald hx hb hK h hn17 dX3_kinds_59 ?_
          obtain ⟨r20, w18, hc19, hf⟩ := fg_biE hf
          refine fg_ci h (fg_runV (rest := []) S hK h (c_X3_goesAsTold l D g a2 a1.toNatClampNeg (fg_vlt hn17) w15 r20 w18 hc19) vg_RX3_159 vd_X3_goesAsTold ⟨by decide, by decide⟩ fg_p3_0 rfl rfl rfl hl.1 rfl (Nat.le_of_ble_eq_true rfl) dX3_kinds_60 ⟨Nat.zero_le _, Nat.zero_le _⟩) (fun H locs h => ?_)
          refine lv_if_eq (tgt := 75) hx hb dX3_kinds_63 (by decide) (fun hc => ?_) (fun hc => ?_)
          · have hf := fg_ifT hf hc
            refine lv_iinc (v := (v5_23 + 1)) (lv' := [(5, .int (v5_23 + 1)), (0, .ref (g.1 3 0 0)), (1, .int a1), (2, .int a2), (3, .int r3), (4, .int v4_23)]) hx hb dX3_kinds_75 hl (k := 5) rfl rfl (by decide) rfl (fun ls hl => ?_)
            refine lv_goto (tgt := 23) hx hb dX3_kinds_78 (by decide) ?_
            exact ih_23 v4_23 (v5_23 + 1) w18 _ _ ls h (lv_sub hl [1, 2, 3, 4, 5, 0] rfl) hf
          · have hf := fg_ifF hf hc
            refine lv_iload hx hb dX3_kinds_66 (lv_at hl 4 rfl) ?_
            refine lv_iconst (v := 1) hx hb dX3_kinds_68 rfl ?_
            refine lv_iload hx hb dX3_kinds_69 (lv_at hl 5 rfl) ?_
            refine lv_ishl hx hb dX3_kinds_71 ?_
            refine lv_ior hx hb dX3_kinds_72 ?_
            refine lv_topi (fun x21 e_x21 => ?_)
            have hf := fg_letE e_x21 hf
            refine lv_istore (lv' := [(4, .int x21), (0, .ref (g.1 3 0 0)), (1, .int a1), (2, .int a2), (3, .int r3), (5, .int v5_23)]) hx hb dX3_kinds_73 hl (by decide) rfl (fun ls hl => ?_)
            refine lv_iinc (v := (v5_23 + 1)) (lv' := [(5, .int (v5_23 + 1)), (4, .int x21), (0, .ref (g.1 3 0 0)), (1, .int a1), (2, .int a2), (3, .int r3)]) hx hb dX3_kinds_75 hl (k := 5) rfl rfl (by decide) rfl (fun ls hl => ?_)
            refine lv_goto (tgt := 23) hx hb dX3_kinds_78 (by decide) ?_
            exact ih_23 x21 (v5_23 + 1) w18 _ _ ls h (lv_sub hl [2, 3, 4, 5, 1, 0] rfl) hf
    exact hL_23 _ hK_23 fg_fuel 0 0 w1 _ _ ls h (lv_sub hl [3, 4, 5, 2, 1, 0] rfl) hf
  · have hf := fg_ifF hf hc
    refine lv_aload_n hx hb dX3_kinds_11 rfl (lv_at hl 1 rfl) ?_
    refine lv_iload_n hx hb dX3_kinds_12 rfl (lv_at hl 0 rfl) ?_
    obtain ⟨r24, w22, hc23, hf⟩ := fg_biE hf
    refine fg_ci h (fg_runV (rest := []) S hK h (c_X3_finding l D g r3  w1 r24 w22 hc23) vg_RX3_48 vd_X3_finding ⟨by decide, by decide⟩ fg_p3_0 rfl rfl rfl hl.1 rfl (Nat.le_of_ble_eq_true rfl) dX3_kinds_13 ⟨Nat.zero_le _, Nat.zero_le _⟩) (fun H locs h => ?_)
    exact fg_reti hx hb hr hlk hK h hf dX3_kinds_16
set_option maxHeartbeats 4000000 in
set_option maxRecDepth 100000 in
theorem c_X3_fine (l : Launch) (D : va_G) (g : fg_G) (a1 : Int32) (w : fg_W) (r : Int32) (w' : fg_W) (hf : f_X3_fine a1 w = some (r, w')) : fg_M l yX3_fine cX3_fine 3 (some .int) 5 114 D g [.ref (g.1 3 0 0), .int a1] w (fg_Qi D g r w') := by
  refine fg_M.of rfl (Nat.le_of_ble_eq_true rfl) (fun p e s m below meth c ls S hr hlk hK h hl => ?_)
  have hx := S.1
  have hb := S.2.1
  have hl : lv_has ls 3 [(0, .ref (g.1 3 0 0)), (1, .int a1)] := hl
  unfold f_X3_fine at hf
  refine lv_iload_n hx hb dX3_fine_0 rfl (lv_at hl 1 rfl) ?_
  refine lv_iconst (v := 1) hx hb dX3_fine_1 rfl ?_
  refine lv_bipush (v := 20) hx hb dX3_fine_2 rfl ?_
  obtain ⟨r3, w1, hc2, hf⟩ := fg_biE hf
  refine fg_ci h (fg_runS (rest := []) S hK h (c_X3_within l D g a1 1 20  w r3 w1 hc2) vk_X3_within vm_RX3_52 vs_X3_within vi_RX3 vd_X3_within.2 ⟨by decide, by decide⟩ rfl hl.1 rfl (Nat.le_of_ble_eq_true rfl) dX3_fine_4 ⟨Nat.zero_le _, Nat.zero_le _⟩) (fun H locs h => ?_)
  refine lv_if_ne (tgt := 16) hx hb dX3_fine_7 (by decide) (fun hc => ?_) (fun hc => ?_)
  · have hf := fg_ifF hf hc
    refine lv_aload_n hx hb dX3_fine_16 rfl (lv_at hl 0 rfl) ?_
    refine fg_get (C := RX3) (T := TX3) (N := 7) S vu_X3 hK h fg_p3_0 rfl rfl 0 (by decide) vf_RX3_10 rfl rfl dX3_fine_17 ?_
    refine fg_get (C := RX2) (T := TX2) (N := 16) S vu_X2 hK h (fg_p2_0 (by decide)) rfl rfl 12 (by decide) vf_RX3_125 rfl rfl dX3_fine_20 ?_
    refine lv_iload_n hx hb dX3_fine_23 rfl (lv_at hl 1 rfl) ?_
    refine lv_iadd hx hb dX3_fine_24 ?_
    refine lv_ldc hx hb S.2.2.2.1 (S.2.2.2.2 _ vc_RX3_128) dX3_fine_25 ?_
    refine lv_icmp_le (tgt := 36) hx hb dX3_fine_27 (by decide) (fun hc => ?_) (fun hc => ?_)
    · have hf := fg_ifT hf hc
      refine lv_iconst (v := 0) hx hb dX3_fine_36 rfl ?_
      refine lv_istore_n (lv' := [(2, .int 0), (0, .ref (g.1 3 0 0)), (1, .int a1)]) hx hb dX3_fine_37 rfl hl (by decide) rfl (fun ls hl => ?_)
      have hK_38 : ∀ (v2_38 : Int32) (w_38 : fg_W) (H : Heap) (locs : List Loc) (ls : Array Slot), fg_H D g s.heap w_38 H locs → lv_has ls 3 [(0, .ref (g.1 3 0 0)), (1, .int a1), (2, .int v2_38)] → (fg_bi (f_X2_thoseOnLots 0 w_38) (fun r6 w4 => some (r6, w4))) = some (r, w') → fg_Gi p l e 5 114 s m [.ref (g.1 3 0 0), .int a1] below meth c D g r w' H locs 104 ls [] := by
        intro v2_38 w_38 H locs ls h hl hf
        refine lv_aload_n hx hb dX3_fine_104 rfl (lv_at hl 0 rfl) ?_
        refine fg_get (C := RX3) (T := TX3) (N := 7) S vu_X3 hK h fg_p3_0 rfl rfl 0 (by decide) vf_RX3_10 rfl rfl dX3_fine_105 ?_
        obtain ⟨r6, w4, hc5, hf⟩ := fg_biE hf
        refine fg_ci h (fg_runV (rest := []) S hK h (c_X2_thoseOnLots l D g 0 (by decide) w_38 r6 w4 hc5) vg_RX3_133 vd_X2_thoseOnLots ⟨by decide, by decide⟩ (fg_p2_0 (by decide)) rfl rfl rfl hl.1 rfl (Nat.le_of_ble_eq_true rfl) dX3_fine_108 ⟨Nat.zero_le _, Nat.zero_le _⟩) (fun H locs h => ?_)
        exact fg_reti hx hb hr hlk hK h hf dX3_fine_111
      have hL_38 : ∀ (KK_38 : Int32 → fg_W → Option (Int32 × fg_W)) (hK_38 : ∀ (v2_38 : Int32) (w_38 : fg_W) (H : Heap) (locs : List Loc) (ls : Array Slot), fg_H D g s.heap w_38 H locs → lv_has ls 3 [(0, .ref (g.1 3 0 0)), (1, .int a1), (2, .int v2_38)] → KK_38 v2_38 w_38 = some (r, w') → fg_Gi p l e 5 114 s m [.ref (g.1 3 0 0), .int a1] below meth c D g r w' H locs 104 ls []) (n : Nat) (v2_38 : Int32) (w_38 : fg_W) (H : Heap) (locs : List Loc) (ls : Array Slot), fg_H D g s.heap w_38 H locs → lv_has ls 3 [(0, .ref (g.1 3 0 0)), (1, .int a1), (2, .int v2_38)] → f_X3_fine_L38 a1 KK_38 n v2_38 w_38 = some (r, w') → fg_Gi p l e 5 114 s m [.ref (g.1 3 0 0), .int a1] below meth c D g r w' H locs 38 ls [] := by
        intro KK_38 hK_38 n
        induction n with
        | zero => intro v2_38 w_38 H locs ls h hl hf; exact fg_no hf
        | succ n_38 ih_38 =>
          intro v2_38 w_38 H locs ls h hl hf
          unfold f_X3_fine_L38 at hf
          refine lv_iload_n hx hb dX3_fine_38 rfl (lv_at hl 2 rfl) ?_
          refine lv_iload_n hx hb dX3_fine_39 rfl (lv_at hl 1 rfl) ?_
          refine lv_icmp_ge (tgt := 104) hx hb dX3_fine_40 (by decide) (fun hc => ?_) (fun hc => ?_)
          · have hf := fg_ifT hf hc
            exact hK_38 v2_38 w_38 _ _ ls h (lv_sub hl [0, 1, 2] rfl) hf
          · have hf := fg_ifF hf hc
            refine lv_aload_n hx hb dX3_fine_43 rfl (lv_at hl 0 rfl) ?_
            refine fg_get (C := RX3) (T := TX3) (N := 7) S vu_X3 hK h fg_p3_0 rfl rfl 0 (by decide) vf_RX3_10 rfl rfl dX3_fine_44 ?_
            refine fg_get (C := RX2) (T := TX2) (N := 16) S vu_X2 hK h (fg_p2_0 (by decide)) rfl rfl 3 (by decide) vf_RX3_78 rfl rfl dX3_fine_47 ?_
            refine lv_aload_n hx hb dX3_fine_50 rfl (lv_at hl 0 rfl) ?_
            refine fg_get (C := RX3) (T := TX3) (N := 7) S vu_X3 hK h fg_p3_0 rfl rfl 0 (by decide) vf_RX3_10 rfl rfl dX3_fine_51 ?_
            refine fg_get (C := RX2) (T := TX2) (N := 16) S vu_X2 hK h (fg_p2_0 (by decide)) rfl rfl 12 (by decide) vf_RX3_125 rfl rfl dX3_fine_54 ?_
            refine lv_bipush (v := 6) hx hb dX3_fine_57 rfl ?_
            refine lv_irem hx hb dX3_fine_59 (by decide) ?_
            refine lv_aload_n hx hb dX3_fine_60 rfl (lv_at hl 0 rfl) ?_
            refine fg_get (C := RX3) (T := TX3) (N := 7) S vu_X3 hK h fg_p3_0 rfl rfl 0 (by decide) vf_RX3_10 rfl rfl dX3_fine_61 ?_
            obtain ⟨r21, w19, hc20, hf⟩ := fg_biE hf
            refine fg_ci h (fg_runV (rest := [.int ((w_38.1 2 0 0 12) - (w_38.1 2 0 0 12) / 6 * 6), .ref (g.1 2 0 4)]) S hK h (c_X2_draw l D g 0 (by decide) w_38 r21 w19 hc20) vg_RX3_163 vd_X2_draw ⟨by decide, by decide⟩ (fg_p2_0 (by decide)) rfl rfl rfl hl.1 rfl (Nat.le_of_ble_eq_true rfl) dX3_fine_64 ⟨Nat.zero_le _, Nat.zero_le _⟩) (fun H locs h => ?_)
            refine lv_bipush (v := 41) hx hb dX3_fine_67 rfl ?_
            refine lv_irem hx hb dX3_fine_69 (by decide) ?_
            obtain ⟨hn23, hf⟩ := fg_gdE hf
            refine fg_iast hx hb hK h (fg_p2_4 (by decide)) (fun _ => rfl) hn23 dX3_fine_70 (fun w22 H locs ew h => ?_)
            have hf := fg_letE ew hf
            refine lv_aload_n hx hb dX3_fine_71 rfl (lv_at hl 0 rfl) ?_
            refine fg_get (C := RX3) (T := TX3) (N := 7) S vu_X3 hK h fg_p3_0 rfl rfl 0 (by decide) vf_RX3_10 rfl rfl dX3_fine_72 ?_
            refine fg_get (C := RX2) (T := TX2) (N := 16) S vu_X2 hK h (fg_p2_0 (by decide)) rfl rfl 2 (by decide) vf_RX3_69 rfl rfl dX3_fine_75 ?_
            refine lv_aload_n hx hb dX3_fine_78 rfl (lv_at hl 0 rfl) ?_
            refine fg_get (C := RX3) (T := TX3) (N := 7) S vu_X3 hK h fg_p3_0 rfl rfl 0 (by decide) vf_RX3_10 rfl rfl dX3_fine_79 ?_
            obtain ⟨r26, w24, hc25, hf⟩ := fg_biE hf
            refine fg_ci h (fg_runV (rest := [.ref (g.1 2 0 3)]) S hK h (c_X2_draw l D g 0 (by decide) w22 r26 w24 hc25) vg_RX3_163 vd_X2_draw ⟨by decide, by decide⟩ (fg_p2_0 (by decide)) rfl rfl rfl hl.1 rfl (Nat.le_of_ble_eq_true rfl) dX3_fine_82 ⟨Nat.zero_le _, Nat.zero_le _⟩) (fun H locs h => ?_)
            refine lv_bipush (v := 10) hx hb dX3_fine_85 rfl ?_
            refine lv_irem hx hb dX3_fine_87 (by decide) ?_
            refine lv_iconst (v := (-1)) hx hb dX3_fine_88 rfl ?_
            obtain ⟨hn28, hf⟩ := fg_gdE hf
            refine fg_iast hx hb hK h (fg_p2_3 (by decide)) (fun _ => rfl) hn28 dX3_fine_89 (fun w27 H locs ew h => ?_)
            have hf := fg_letE ew hf
            refine lv_aload_n hx hb dX3_fine_90 rfl (lv_at hl 0 rfl) ?_
            refine fg_get (C := RX3) (T := TX3) (N := 7) S vu_X3 hK h fg_p3_0 rfl rfl 0 (by decide) vf_RX3_10 rfl rfl dX3_fine_91 ?_
            refine lv_iconst (v := 1) hx hb dX3_fine_94 rfl ?_
            obtain ⟨w29, hc30, hf⟩ := fg_bvE hf
            refine fg_cv h (fg_runV (rest := []) S hK h (c_X2_passDays l D g 0 1 (by decide) w27 w29 hc30) vg_RX3_129 vd_X2_passDays ⟨by decide, by decide⟩ (fg_p2_0 (by decide)) rfl rfl rfl hl.1 rfl (Nat.le_of_ble_eq_true rfl) dX3_fine_95 ⟨Nat.zero_le _, Nat.zero_le _⟩) (fun H locs h => ?_)
            refine lv_iinc (v := (v2_38 + 1)) (lv' := [(2, .int (v2_38 + 1)), (0, .ref (g.1 3 0 0)), (1, .int a1)]) hx hb dX3_fine_98 hl (k := 2) rfl rfl (by decide) rfl (fun ls hl => ?_)
            refine lv_goto (tgt := 38) hx hb dX3_fine_101 (by decide) ?_
            exact ih_38 (v2_38 + 1) w29 _ _ ls h (lv_sub hl [1, 2, 0] rfl) hf
      exact hL_38 _ hK_38 fg_fuel 0 w1 _ _ ls h (lv_sub hl [1, 2, 0] rfl) hf
    · have hf := fg_ifF hf hc
      refine lv_aload_n hx hb dX3_fine_30 rfl (lv_at hl 0 rfl) ?_
      refine lv_iconst (v := 4) hx hb dX3_fine_31 rfl ?_
      obtain ⟨r33, w31, hc32, hf⟩ := fg_biE hf
      refine fg_ci h (fg_runV (rest := []) S hK h (c_X3_finding l D g 4  w1 r33 w31 hc32) vg_RX3_48 vd_X3_finding ⟨by decide, by decide⟩ fg_p3_0 rfl rfl rfl hl.1 rfl (Nat.le_of_ble_eq_true rfl) dX3_fine_32 ⟨Nat.zero_le _, Nat.zero_le _⟩) (fun H locs h => ?_)
      exact fg_reti hx hb hr hlk hK h hf dX3_fine_35
  · have hf := fg_ifT hf hc
    refine lv_aload_n hx hb dX3_fine_10 rfl (lv_at hl 0 rfl) ?_
    refine lv_iconst (v := 0) hx hb dX3_fine_11 rfl ?_
    obtain ⟨r36, w34, hc35, hf⟩ := fg_biE hf
    refine fg_ci h (fg_runV (rest := []) S hK h (c_X3_finding l D g 0  w1 r36 w34 hc35) vg_RX3_48 vd_X3_finding ⟨by decide, by decide⟩ fg_p3_0 rfl rfl rfl hl.1 rfl (Nat.le_of_ble_eq_true rfl) dX3_fine_12 ⟨Nat.zero_le _, Nat.zero_le _⟩) (fun H locs h => ?_)
    exact fg_reti hx hb hr hlk hK h hf dX3_fine_15
set_option maxHeartbeats 4000000 in
set_option maxRecDepth 100000 in
theorem c_X3_odds (l : Launch) (D : va_G) (g : fg_G) (a1 : Int32) (a2 : Int32) (a3 : Int32) (w : fg_W) (r : Int64) (w' : fg_W) (hf : f_X3_odds a1 a2 a3 w = some (r, w')) : fg_M l yX3_odds cX3_odds 10 (some .long) 2 48 D g [.ref (g.1 3 0 0), .int a1, .int a2, .int a3] w (fg_Ql D g r w') := by
  refine fg_M.of rfl (Nat.le_of_ble_eq_true rfl) (fun p e s m below meth c ls S hr hlk hK h hl => ?_)
  have hx := S.1
  have hb := S.2.1
  have hl : lv_has ls 10 [(0, .ref (g.1 3 0 0)), (1, .int a1), (2, .int a2), (3, .int a3)] := hl
  unfold f_X3_odds at hf
  refine lv_aload_n hx hb dX3_odds_0 rfl (lv_at hl 0 rfl) ?_
  refine fg_get (C := RX3) (T := TX3) (N := 7) S vu_X3 hK h fg_p3_0 rfl rfl 0 (by decide) vf_RX3_10 rfl rfl dX3_odds_1 ?_
  refine lv_iload_n hx hb dX3_odds_4 rfl (lv_at hl 1 rfl) ?_
  obtain ⟨r3, w1, hc2, hf⟩ := fg_biE hf
  refine fg_ci h (fg_runV (rest := []) S hK h (c_X2_isPerson l D g 0 a1 (by decide) w r3 w1 hc2) vg_RX3_66 vd_X2_isPerson ⟨by decide, by decide⟩ (fg_p2_0 (by decide)) rfl rfl rfl hl.1 rfl (Nat.le_of_ble_eq_true rfl) dX3_odds_5 ⟨Nat.zero_le _, Nat.zero_le _⟩) (fun H locs h => ?_)
  refine lv_if_eq (tgt := 30) hx hb dX3_odds_8 (by decide) (fun hc => ?_) (fun hc => ?_)
  · have hf := fg_ifT hf hc
    refine lv_aload_n hx hb dX3_odds_30 rfl (lv_at hl 0 rfl) ?_
    refine lv_iconst (v := 0) hx hb dX3_odds_31 rfl ?_
    obtain ⟨r6, w4, hc5, hf⟩ := fg_biE hf
    refine fg_ci h (fg_runV (rest := []) S hK h (c_X3_finding l D g 0  w1 r6 w4 hc5) vg_RX3_48 vd_X3_finding ⟨by decide, by decide⟩ fg_p3_0 rfl rfl rfl hl.1 rfl (Nat.le_of_ble_eq_true rfl) dX3_odds_32 ⟨Nat.zero_le _, Nat.zero_le _⟩) (fun H locs h => ?_)
    refine lv_i2l hx hb dX3_odds_35 rfl ?_
    exact fg_retl hx hb hr hlk hK h hf dX3_odds_36
  · have hf := fg_ifF hf hc
    refine lv_iload_n hx hb dX3_odds_11 rfl (lv_at hl 2 rfl) ?_
    refine lv_iconst (v := 0) hx hb dX3_odds_12 rfl ?_
    refine lv_bipush (v := 18) hx hb dX3_odds_13 rfl ?_
    obtain ⟨r9, w7, hc8, hf⟩ := fg_biE hf
    refine fg_ci h (fg_runS (rest := []) S hK h (c_X3_within l D g a2 0 18  w1 r9 w7 hc8) vk_X3_within vm_RX3_52 vs_X3_within vi_RX3 vd_X3_within.2 ⟨by decide, by decide⟩ rfl hl.1 rfl (Nat.le_of_ble_eq_true rfl) dX3_odds_15 ⟨Nat.zero_le _, Nat.zero_le _⟩) (fun H locs h => ?_)
    refine lv_if_eq (tgt := 30) hx hb dX3_odds_18 (by decide) (fun hc => ?_) (fun hc => ?_)
    · have hf := fg_ifT hf hc
      refine lv_aload_n hx hb dX3_odds_30 rfl (lv_at hl 0 rfl) ?_
      refine lv_iconst (v := 0) hx hb dX3_odds_31 rfl ?_
      obtain ⟨r12, w10, hc11, hf⟩ := fg_biE hf
      refine fg_ci h (fg_runV (rest := []) S hK h (c_X3_finding l D g 0  w7 r12 w10 hc11) vg_RX3_48 vd_X3_finding ⟨by decide, by decide⟩ fg_p3_0 rfl rfl rfl hl.1 rfl (Nat.le_of_ble_eq_true rfl) dX3_odds_32 ⟨Nat.zero_le _, Nat.zero_le _⟩) (fun H locs h => ?_)
      refine lv_i2l hx hb dX3_odds_35 rfl ?_
      exact fg_retl hx hb hr hlk hK h hf dX3_odds_36
    · have hf := fg_ifF hf hc
      refine lv_iload_n hx hb dX3_odds_21 rfl (lv_at hl 3 rfl) ?_
      refine lv_iconst (v := 0) hx hb dX3_odds_22 rfl ?_
      refine lv_iconst (v := 1) hx hb dX3_odds_23 rfl ?_
      obtain ⟨r15, w13, hc14, hf⟩ := fg_biE hf
      refine fg_ci h (fg_runS (rest := []) S hK h (c_X3_within l D g a3 0 1  w7 r15 w13 hc14) vk_X3_within vm_RX3_52 vs_X3_within vi_RX3 vd_X3_within.2 ⟨by decide, by decide⟩ rfl hl.1 rfl (Nat.le_of_ble_eq_true rfl) dX3_odds_24 ⟨Nat.zero_le _, Nat.zero_le _⟩) (fun H locs h => ?_)
      refine lv_if_ne (tgt := 37) hx hb dX3_odds_27 (by decide) (fun hc => ?_) (fun hc => ?_)
      · have hf := fg_ifF hf hc
        refine lv_iconst (v := 0) hx hb dX3_odds_37 rfl ?_
        refine lv_istore (lv' := [(4, .int 0), (0, .ref (g.1 3 0 0)), (1, .int a1), (2, .int a2), (3, .int a3)]) hx hb dX3_odds_38 hl (by decide) rfl (fun ls hl => ?_)
        refine lv_iconst (v := 0) hx hb dX3_odds_40 rfl ?_
        refine lv_istore (lv' := [(5, .int 0), (4, .int 0), (0, .ref (g.1 3 0 0)), (1, .int a1), (2, .int a2), (3, .int a3)]) hx hb dX3_odds_41 hl (by decide) rfl (fun ls hl => ?_)
        have hK_43 : ∀ (v4_43 : Int32) (v5_43 : Int32) (w_43 : fg_W) (H : Heap) (locs : List Loc) (ls : Array Slot), fg_H D g s.heap w_43 H locs → lv_has ls 10 [(0, .ref (g.1 3 0 0)), (1, .int a1), (2, .int a2), (3, .int a3), (4, .int v4_43), (5, .int v5_43)] → (fg_bi (f_X3_greatestCommon v4_43 10 w_43) (fun r18 w16 => if a3 = 0 then (fg_gp (¬ r18 = 0) (fg_let ((v4_43 / r18) : Int32) (fun x24 => f_X3_odds_L106 a2 x24 (fun v7_106 v9_106 w_106 => some (v7_106, w_106)) fg_fuel 1 0 w16))) else (fg_gp (¬ r18 = 0) (fg_let ((10 / r18) : Int32) (fun x20 => f_X3_odds_L106 a2 x20 (fun v7_106 v9_106 w_106 => some (v7_106, w_106)) fg_fuel 1 0 w16))))) = some (r, w') → fg_Gl p l e 2 48 s m [.ref (g.1 3 0 0), .int a1, .int a2, .int a3] below meth c D g r w' H locs 72 ls [] := by
          intro v4_43 v5_43 w_43 H locs ls h hl hf
          refine lv_iload hx hb dX3_odds_72 (lv_at hl 4 rfl) ?_
          refine lv_bipush (v := 10) hx hb dX3_odds_74 rfl ?_
          obtain ⟨r18, w16, hc17, hf⟩ := fg_biE hf
          refine fg_ci h (fg_runS (rest := []) S hK h (c_X3_greatestCommon l D g v4_43 10  w_43 r18 w16 hc17) vk_X3_greatestCommon vm_RX3_170 vs_X3_greatestCommon vi_RX3 vd_X3_greatestCommon.2 ⟨by decide, by decide⟩ rfl hl.1 rfl (Nat.le_of_ble_eq_true rfl) dX3_odds_76 ⟨Nat.zero_le _, Nat.zero_le _⟩) (fun H locs h => ?_)
          refine lv_istore (lv' := [(5, .int r18), (0, .ref (g.1 3 0 0)), (1, .int a1), (2, .int a2), (3, .int a3), (4, .int v4_43)]) hx hb dX3_odds_79 hl (by decide) rfl (fun ls hl => ?_)
          refine lv_iload_n hx hb dX3_odds_81 rfl (lv_at hl 4 rfl) ?_
          refine lv_if_ne (tgt := 93) hx hb dX3_odds_82 (by decide) (fun hc => ?_) (fun hc => ?_)
          · have hf := fg_ifF hf hc
            refine lv_bipush (v := 10) hx hb dX3_odds_93 rfl ?_
            refine lv_iload hx hb dX3_odds_95 (lv_at hl 0 rfl) ?_
            obtain ⟨hz19, hf⟩ := fg_gpE hf
            refine lv_idiv hx hb dX3_odds_97 hz19 ?_
            refine lv_topi (fun x20 e_x20 => ?_)
            have hf := fg_letE e_x20 hf
            refine lv_istore (lv' := [(6, .int x20), (5, .int r18), (0, .ref (g.1 3 0 0)), (1, .int a1), (2, .int a2), (3, .int a3), (4, .int v4_43)]) hx hb dX3_odds_98 hl (by decide) rfl (fun ls hl => ?_)
            refine lv_lconst (v := 1) hx hb dX3_odds_100 rfl ?_
            refine lv_lstore (lv' := [(7, .long 1), (6, .int x20), (5, .int r18), (0, .ref (g.1 3 0 0)), (1, .int a1), (2, .int a2), (3, .int a3), (4, .int v4_43)]) hx hb dX3_odds_101 hl (by decide) rfl (fun ls hl => ?_)
            refine lv_iconst (v := 0) hx hb dX3_odds_103 rfl ?_
            refine lv_istore (lv' := [(9, .int 0), (7, .long 1), (6, .int x20), (5, .int r18), (0, .ref (g.1 3 0 0)), (1, .int a1), (2, .int a2), (3, .int a3), (4, .int v4_43)]) hx hb dX3_odds_104 hl (by decide) rfl (fun ls hl => ?_)
            have hK_106 : ∀ (v7_106 : Int64) (v9_106 : Int32) (w_106 : fg_W) (H : Heap) (locs : List Loc) (ls : Array Slot), fg_H D g s.heap w_106 H locs → lv_has ls 10 [(0, .ref (g.1 3 0 0)), (1, .int a1), (2, .int a2), (3, .int a3), (4, .int v4_43), (5, .int r18), (6, .int x20), (7, .long v7_106), (9, .int v9_106)] → (some (v7_106, w_106)) = some (r, w') → fg_Gl p l e 2 48 s m [.ref (g.1 3 0 0), .int a1, .int a2, .int a3] below meth c D g r w' H locs 126 ls [] := by
              intro v7_106 v9_106 w_106 H locs ls h hl hf
              refine lv_lload hx hb dX3_odds_126 (lv_at hl 7 rfl) ?_
              exact fg_retl hx hb hr hlk hK h hf dX3_odds_128
            have hL_106 : ∀ (KK_106 : Int64 → Int32 → fg_W → Option (Int64 × fg_W)) (hK_106 : ∀ (v7_106 : Int64) (v9_106 : Int32) (w_106 : fg_W) (H : Heap) (locs : List Loc) (ls : Array Slot), fg_H D g s.heap w_106 H locs → lv_has ls 10 [(0, .ref (g.1 3 0 0)), (1, .int a1), (2, .int a2), (3, .int a3), (4, .int v4_43), (5, .int r18), (6, .int x20), (7, .long v7_106), (9, .int v9_106)] → KK_106 v7_106 v9_106 w_106 = some (r, w') → fg_Gl p l e 2 48 s m [.ref (g.1 3 0 0), .int a1, .int a2, .int a3] below meth c D g r w' H locs 126 ls []) (n : Nat) (v7_106 : Int64) (v9_106 : Int32) (w_106 : fg_W) (H : Heap) (locs : List Loc) (ls : Array Slot), fg_H D g s.heap w_106 H locs → lv_has ls 10 [(0, .ref (g.1 3 0 0)), (1, .int a1), (2, .int a2), (3, .int a3), (4, .int v4_43), (5, .int r18), (6, .int x20), (7, .long v7_106), (9, .int v9_106)] → f_X3_odds_L106 a2 x20 KK_106 n v7_106 v9_106 w_106 = some (r, w') → fg_Gl p l e 2 48 s m [.ref (g.1 3 0 0), .int a1, .int a2, .int a3] below meth c D g r w' H locs 106 ls [] := by
              intro KK_106 hK_106 n
              induction n with
              | zero => intro v7_106 v9_106 w_106 H locs ls h hl hf; exact fg_no hf
              | succ n_106 ih_106 =>
                intro v7_106 v9_106 w_106 H locs ls h hl hf
                unfold f_X3_odds_L106 at hf
                refine lv_iload hx hb dX3_odds_106 (lv_at hl 8 rfl) ?_
                refine lv_iload_n hx hb dX3_odds_108 rfl (lv_at hl 2 rfl) ?_
                refine lv_icmp_ge (tgt := 126) hx hb dX3_odds_109 (by decide) (fun hc => ?_) (fun hc => ?_)
                · have hf := fg_ifT hf hc
                  exact hK_106 v7_106 v9_106 w_106 _ _ ls h (lv_sub hl [0, 1, 2, 3, 4, 5, 6, 7, 8] rfl) hf
                · have hf := fg_ifF hf hc
                  refine lv_lload hx hb dX3_odds_112 (lv_at hl 7 rfl) ?_
                  refine lv_iload hx hb dX3_odds_114 (lv_at hl 6 rfl) ?_
                  refine lv_i2l hx hb dX3_odds_116 rfl ?_
                  refine lv_lmul hx hb dX3_odds_117 ?_
                  refine lv_topl (fun x22 e_x22 => ?_)
                  have hf := fg_letE e_x22 hf
                  refine lv_lstore (lv' := [(7, .long x22), (0, .ref (g.1 3 0 0)), (1, .int a1), (2, .int a2), (3, .int a3), (4, .int v4_43), (5, .int r18), (6, .int x20), (9, .int v9_106)]) hx hb dX3_odds_118 hl (by decide) rfl (fun ls hl => ?_)
                  refine lv_iinc (v := (v9_106 + 1)) (lv' := [(9, .int (v9_106 + 1)), (7, .long x22), (0, .ref (g.1 3 0 0)), (1, .int a1), (2, .int a2), (3, .int a3), (4, .int v4_43), (5, .int r18), (6, .int x20)]) hx hb dX3_odds_120 hl (k := 8) rfl rfl (by decide) rfl (fun ls hl => ?_)
                  refine lv_goto (tgt := 106) hx hb dX3_odds_123 (by decide) ?_
                  exact ih_106 x22 (v9_106 + 1) w_106 _ _ ls h (lv_sub hl [2, 3, 4, 5, 6, 7, 8, 1, 0] rfl) hf
            exact hL_106 _ hK_106 fg_fuel 1 0 w16 _ _ ls h (lv_sub hl [4, 5, 6, 7, 8, 3, 2, 1, 0] rfl) hf
          · have hf := fg_ifT hf hc
            refine lv_iload hx hb dX3_odds_85 (lv_at hl 5 rfl) ?_
            refine lv_iload hx hb dX3_odds_87 (lv_at hl 0 rfl) ?_
            obtain ⟨hz23, hf⟩ := fg_gpE hf
            refine lv_idiv hx hb dX3_odds_89 hz23 ?_
            refine lv_goto (tgt := 98) hx hb dX3_odds_90 (by decide) ?_
            refine lv_topi (fun x24 e_x24 => ?_)
            have hf := fg_letE e_x24 hf
            refine lv_istore (lv' := [(6, .int x24), (5, .int r18), (0, .ref (g.1 3 0 0)), (1, .int a1), (2, .int a2), (3, .int a3), (4, .int v4_43)]) hx hb dX3_odds_98 hl (by decide) rfl (fun ls hl => ?_)
            refine lv_lconst (v := 1) hx hb dX3_odds_100 rfl ?_
            refine lv_lstore (lv' := [(7, .long 1), (6, .int x24), (5, .int r18), (0, .ref (g.1 3 0 0)), (1, .int a1), (2, .int a2), (3, .int a3), (4, .int v4_43)]) hx hb dX3_odds_101 hl (by decide) rfl (fun ls hl => ?_)
            refine lv_iconst (v := 0) hx hb dX3_odds_103 rfl ?_
            refine lv_istore (lv' := [(9, .int 0), (7, .long 1), (6, .int x24), (5, .int r18), (0, .ref (g.1 3 0 0)), (1, .int a1), (2, .int a2), (3, .int a3), (4, .int v4_43)]) hx hb dX3_odds_104 hl (by decide) rfl (fun ls hl => ?_)
            have hK_106 : ∀ (v7_106 : Int64) (v9_106 : Int32) (w_106 : fg_W) (H : Heap) (locs : List Loc) (ls : Array Slot), fg_H D g s.heap w_106 H locs → lv_has ls 10 [(0, .ref (g.1 3 0 0)), (1, .int a1), (2, .int a2), (3, .int a3), (4, .int v4_43), (5, .int r18), (6, .int x24), (7, .long v7_106), (9, .int v9_106)] → (some (v7_106, w_106)) = some (r, w') → fg_Gl p l e 2 48 s m [.ref (g.1 3 0 0), .int a1, .int a2, .int a3] below meth c D g r w' H locs 126 ls [] := by
              intro v7_106 v9_106 w_106 H locs ls h hl hf
              refine lv_lload hx hb dX3_odds_126 (lv_at hl 7 rfl) ?_
              exact fg_retl hx hb hr hlk hK h hf dX3_odds_128
            have hL_106 : ∀ (KK_106 : Int64 → Int32 → fg_W → Option (Int64 × fg_W)) (hK_106 : ∀ (v7_106 : Int64) (v9_106 : Int32) (w_106 : fg_W) (H : Heap) (locs : List Loc) (ls : Array Slot), fg_H D g s.heap w_106 H locs → lv_has ls 10 [(0, .ref (g.1 3 0 0)), (1, .int a1), (2, .int a2), (3, .int a3), (4, .int v4_43), (5, .int r18), (6, .int x24), (7, .long v7_106), (9, .int v9_106)] → KK_106 v7_106 v9_106 w_106 = some (r, w') → fg_Gl p l e 2 48 s m [.ref (g.1 3 0 0), .int a1, .int a2, .int a3] below meth c D g r w' H locs 126 ls []) (n : Nat) (v7_106 : Int64) (v9_106 : Int32) (w_106 : fg_W) (H : Heap) (locs : List Loc) (ls : Array Slot), fg_H D g s.heap w_106 H locs → lv_has ls 10 [(0, .ref (g.1 3 0 0)), (1, .int a1), (2, .int a2), (3, .int a3), (4, .int v4_43), (5, .int r18), (6, .int x24), (7, .long v7_106), (9, .int v9_106)] → f_X3_odds_L106 a2 x24 KK_106 n v7_106 v9_106 w_106 = some (r, w') → fg_Gl p l e 2 48 s m [.ref (g.1 3 0 0), .int a1, .int a2, .int a3] below meth c D g r w' H locs 106 ls [] := by
              intro KK_106 hK_106 n
              induction n with
              | zero => intro v7_106 v9_106 w_106 H locs ls h hl hf; exact fg_no hf
              | succ n_106 ih_106 =>
                intro v7_106 v9_106 w_106 H locs ls h hl hf
                unfold f_X3_odds_L106 at hf
                refine lv_iload hx hb dX3_odds_106 (lv_at hl 8 rfl) ?_
                refine lv_iload_n hx hb dX3_odds_108 rfl (lv_at hl 2 rfl) ?_
                refine lv_icmp_ge (tgt := 126) hx hb dX3_odds_109 (by decide) (fun hc => ?_) (fun hc => ?_)
                · have hf := fg_ifT hf hc
                  exact hK_106 v7_106 v9_106 w_106 _ _ ls h (lv_sub hl [0, 1, 2, 3, 4, 5, 6, 7, 8] rfl) hf
                · have hf := fg_ifF hf hc
                  refine lv_lload hx hb dX3_odds_112 (lv_at hl 7 rfl) ?_
                  refine lv_iload hx hb dX3_odds_114 (lv_at hl 6 rfl) ?_
                  refine lv_i2l hx hb dX3_odds_116 rfl ?_
                  refine lv_lmul hx hb dX3_odds_117 ?_
                  refine lv_topl (fun x25 e_x25 => ?_)
                  have hf := fg_letE e_x25 hf
                  refine lv_lstore (lv' := [(7, .long x25), (0, .ref (g.1 3 0 0)), (1, .int a1), (2, .int a2), (3, .int a3), (4, .int v4_43), (5, .int r18), (6, .int x24), (9, .int v9_106)]) hx hb dX3_odds_118 hl (by decide) rfl (fun ls hl => ?_)
                  refine lv_iinc (v := (v9_106 + 1)) (lv' := [(9, .int (v9_106 + 1)), (7, .long x25), (0, .ref (g.1 3 0 0)), (1, .int a1), (2, .int a2), (3, .int a3), (4, .int v4_43), (5, .int r18), (6, .int x24)]) hx hb dX3_odds_120 hl (k := 8) rfl rfl (by decide) rfl (fun ls hl => ?_)
                  refine lv_goto (tgt := 106) hx hb dX3_odds_123 (by decide) ?_
                  exact ih_106 x25 (v9_106 + 1) w_106 _ _ ls h (lv_sub hl [2, 3, 4, 5, 6, 7, 8, 1, 0] rfl) hf
            exact hL_106 _ hK_106 fg_fuel 1 0 w16 _ _ ls h (lv_sub hl [4, 5, 6, 7, 8, 3, 2, 1, 0] rfl) hf
        have hL_43 : ∀ (KK_43 : Int32 → Int32 → fg_W → Option (Int64 × fg_W)) (hK_43 : ∀ (v4_43 : Int32) (v5_43 : Int32) (w_43 : fg_W) (H : Heap) (locs : List Loc) (ls : Array Slot), fg_H D g s.heap w_43 H locs → lv_has ls 10 [(0, .ref (g.1 3 0 0)), (1, .int a1), (2, .int a2), (3, .int a3), (4, .int v4_43), (5, .int v5_43)] → KK_43 v4_43 v5_43 w_43 = some (r, w') → fg_Gl p l e 2 48 s m [.ref (g.1 3 0 0), .int a1, .int a2, .int a3] below meth c D g r w' H locs 72 ls []) (n : Nat) (v4_43 : Int32) (v5_43 : Int32) (w_43 : fg_W) (H : Heap) (locs : List Loc) (ls : Array Slot), fg_H D g s.heap w_43 H locs → lv_has ls 10 [(0, .ref (g.1 3 0 0)), (1, .int a1), (2, .int a2), (3, .int a3), (4, .int v4_43), (5, .int v5_43)] → f_X3_odds_L43 a1 KK_43 n v4_43 v5_43 w_43 = some (r, w') → fg_Gl p l e 2 48 s m [.ref (g.1 3 0 0), .int a1, .int a2, .int a3] below meth c D g r w' H locs 43 ls [] := by
          intro KK_43 hK_43 n
          induction n with
          | zero => intro v4_43 v5_43 w_43 H locs ls h hl hf; exact fg_no hf
          | succ n_43 ih_43 =>
            intro v4_43 v5_43 w_43 H locs ls h hl hf
            unfold f_X3_odds_L43 at hf
            refine lv_iload hx hb dX3_odds_43 (lv_at hl 5 rfl) ?_
            refine lv_bipush (v := 10) hx hb dX3_odds_45 rfl ?_
            refine lv_icmp_ge (tgt := 72) hx hb dX3_odds_47 (by decide) (fun hc => ?_) (fun hc => ?_)
            · have hf := fg_ifT hf hc
              exact hK_43 v4_43 v5_43 w_43 _ _ ls h (lv_sub hl [0, 1, 2, 3, 4, 5] rfl) hf
            · have hf := fg_ifF hf hc
              refine lv_aload_n hx hb dX3_odds_50 rfl (lv_at hl 0 rfl) ?_
              refine fg_get (C := RX3) (T := TX3) (N := 7) S vu_X3 hK h fg_p3_0 rfl rfl 0 (by decide) vf_RX3_10 rfl rfl dX3_odds_51 ?_
              refine lv_iload_n hx hb dX3_odds_54 rfl (lv_at hl 1 rfl) ?_
              refine lv_iload hx hb dX3_odds_55 (lv_at hl 5 rfl) ?_
              obtain ⟨r31, w29, hc30, hf⟩ := fg_biE hf
              refine fg_ci h (fg_runV (rest := []) S hK h (c_X2_stands l D g 0 a1 v5_43 (by decide) w_43 r31 w29 hc30) vg_RX3_166 vd_X2_stands ⟨by decide, by decide⟩ (fg_p2_0 (by decide)) rfl rfl rfl hl.1 rfl (Nat.le_of_ble_eq_true rfl) dX3_odds_57 ⟨Nat.zero_le _, Nat.zero_le _⟩) (fun H locs h => ?_)
              refine lv_if_eq (tgt := 66) hx hb dX3_odds_60 (by decide) (fun hc => ?_) (fun hc => ?_)
              · have hf := fg_ifT hf hc
                refine lv_iinc (v := (v5_43 + 1)) (lv' := [(5, .int (v5_43 + 1)), (0, .ref (g.1 3 0 0)), (1, .int a1), (2, .int a2), (3, .int a3), (4, .int v4_43)]) hx hb dX3_odds_66 hl (k := 5) rfl rfl (by decide) rfl (fun ls hl => ?_)
                refine lv_goto (tgt := 43) hx hb dX3_odds_69 (by decide) ?_
                exact ih_43 v4_43 (v5_43 + 1) w29 _ _ ls h (lv_sub hl [1, 2, 3, 4, 5, 0] rfl) hf
              · have hf := fg_ifF hf hc
                refine lv_iinc (v := (v4_43 + 1)) (lv' := [(4, .int (v4_43 + 1)), (0, .ref (g.1 3 0 0)), (1, .int a1), (2, .int a2), (3, .int a3), (5, .int v5_43)]) hx hb dX3_odds_63 hl (k := 4) rfl rfl (by decide) rfl (fun ls hl => ?_)
                refine lv_iinc (v := (v5_43 + 1)) (lv' := [(5, .int (v5_43 + 1)), (4, .int (v4_43 + 1)), (0, .ref (g.1 3 0 0)), (1, .int a1), (2, .int a2), (3, .int a3)]) hx hb dX3_odds_66 hl (k := 5) rfl rfl (by decide) rfl (fun ls hl => ?_)
                refine lv_goto (tgt := 43) hx hb dX3_odds_69 (by decide) ?_
                exact ih_43 (v4_43 + 1) (v5_43 + 1) w29 _ _ ls h (lv_sub hl [2, 3, 4, 5, 1, 0] rfl) hf
        exact hL_43 _ hK_43 fg_fuel 0 0 w13 _ _ ls h (lv_sub hl [2, 3, 4, 5, 1, 0] rfl) hf
      · have hf := fg_ifT hf hc
        refine lv_aload_n hx hb dX3_odds_30 rfl (lv_at hl 0 rfl) ?_
        refine lv_iconst (v := 0) hx hb dX3_odds_31 rfl ?_
        obtain ⟨r34, w32, hc33, hf⟩ := fg_biE hf
        refine fg_ci h (fg_runV (rest := []) S hK h (c_X3_finding l D g 0  w13 r34 w32 hc33) vg_RX3_48 vd_X3_finding ⟨by decide, by decide⟩ fg_p3_0 rfl rfl rfl hl.1 rfl (Nat.le_of_ble_eq_true rfl) dX3_odds_32 ⟨Nat.zero_le _, Nat.zero_le _⟩) (fun H locs h => ?_)
        refine lv_i2l hx hb dX3_odds_35 rfl ?_
        exact fg_retl hx hb hr hlk hK h hf dX3_odds_36
set_option maxHeartbeats 4000000 in
set_option maxRecDepth 100000 in
theorem c_X3_seed (l : Launch) (D : va_G) (g : fg_G) (a1 : Int32) (w : fg_W) (r : Int32) (w' : fg_W) (hf : f_X3_seed a1 w = some (r, w')) : fg_M l yX3_seed cX3_seed 3 (some .int) 0 0 D g [.ref (g.1 3 0 0), .int a1] w (fg_Qi D g r w') := by
  refine fg_M.of rfl (Nat.le_of_ble_eq_true rfl) (fun p e s m below meth c ls S hr hlk hK h hl => ?_)
  have hx := S.1
  have hb := S.2.1
  have hl : lv_has ls 3 [(0, .ref (g.1 3 0 0)), (1, .int a1)] := hl
  unfold f_X3_seed at hf
  refine lv_aload_n hx hb dX3_seed_0 rfl (lv_at hl 0 rfl) ?_
  refine fg_get (C := RX3) (T := TX3) (N := 7) S vu_X3 hK h fg_p3_0 rfl rfl 0 (by decide) vf_RX3_10 rfl rfl dX3_seed_1 ?_
  refine fg_get (C := RX2) (T := TX2) (N := 16) S vu_X2 hK h (fg_p2_0 (by decide)) rfl rfl 13 (by decide) vf_RX3_173 rfl rfl dX3_seed_4 ?_
  refine lv_topi (fun x1 e_x1 => ?_)
  have hf := fg_letE e_x1 hf
  refine lv_istore_n (lv' := [(2, .int x1), (0, .ref (g.1 3 0 0)), (1, .int a1)]) hx hb dX3_seed_7 rfl hl (by decide) rfl (fun ls hl => ?_)
  refine lv_aload_n hx hb dX3_seed_8 rfl (lv_at hl 1 rfl) ?_
  refine fg_get (C := RX3) (T := TX3) (N := 7) S vu_X3 hK h fg_p3_0 rfl rfl 0 (by decide) vf_RX3_10 rfl rfl dX3_seed_9 ?_
  refine lv_iload_n hx hb dX3_seed_12 rfl (lv_at hl 2 rfl) ?_
  refine fg_putI (C := RX2) (T := TX2) (N := 16) (fs := (fg_f2 g 0)) S vu_X2 tyX2 tyX2_ok nmX2 hK h (fg_p2_0 (by decide)) (fun _ _ => rfl) rfl 13 (by decide) vf_RX3_173 rfl rfl (tyX2_ok 13 (by decide)) rfl rfl (fun _ => Nat.le_of_ble_eq_true rfl) (fun _ => rfl) dX3_seed_13 (fun w2 H locs ew h => ?_)
  have hf := fg_letE ew hf
  refine lv_iload_n hx hb dX3_seed_16 rfl (lv_at hl 0 rfl) ?_
  exact fg_reti hx hb hr hlk hK h hf dX3_seed_17
set_option maxHeartbeats 4000000 in
set_option maxRecDepth 100000 in
theorem c_X3_feed (l : Launch) (D : va_G) (g : fg_G) (a1 : Int32) (a2 : Int32) (w : fg_W) (r : Int32) (w' : fg_W) (hf : f_X3_feed a1 a2 w = some (r, w')) : fg_M l yX3_feed cX3_feed 4 (some .int) 1 22 D g [.ref (g.1 3 0 0), .int a1, .int a2] w (fg_Qi D g r w') := by
  refine fg_M.of rfl (Nat.le_of_ble_eq_true rfl) (fun p e s m below meth c ls S hr hlk hK h hl => ?_)
  have hx := S.1
  have hb := S.2.1
  have hl : lv_has ls 4 [(0, .ref (g.1 3 0 0)), (1, .int a1), (2, .int a2)] := hl
  unfold f_X3_feed at hf
  refine lv_iload_n hx hb dX3_feed_0 rfl (lv_at hl 2 rfl) ?_
  refine lv_iconst (v := 1) hx hb dX3_feed_1 rfl ?_
  refine lv_iconst (v := 4) hx hb dX3_feed_2 rfl ?_
  obtain ⟨r3, w1, hc2, hf⟩ := fg_biE hf
  refine fg_ci h (fg_runS (rest := []) S hK h (c_X3_within l D g a2 1 4  w r3 w1 hc2) vk_X3_within vm_RX3_52 vs_X3_within vi_RX3 vd_X3_within.2 ⟨by decide, by decide⟩ rfl hl.1 rfl (Nat.le_of_ble_eq_true rfl) dX3_feed_3 ⟨Nat.zero_le _, Nat.zero_le _⟩) (fun H locs h => ?_)
  refine lv_if_ne (tgt := 15) hx hb dX3_feed_6 (by decide) (fun hc => ?_) (fun hc => ?_)
  · have hf := fg_ifF hf hc
    refine lv_aload_n hx hb dX3_feed_15 rfl (lv_at hl 0 rfl) ?_
    refine fg_get (C := RX3) (T := TX3) (N := 7) S vu_X3 hK h fg_p3_0 rfl rfl 4 (by decide) vf_RX3_29 rfl rfl dX3_feed_16 ?_
    refine fg_get (C := RX1) (T := TX1) (N := 7) S vu_X1 hK h fg_p1_0 rfl rfl 1 (by decide) vf_RX3_176 rfl rfl dX3_feed_19 ?_
    refine lv_iload_n hx hb dX3_feed_22 rfl (lv_at hl 2 rfl) ?_
    refine lv_iadd hx hb dX3_feed_23 ?_
    refine lv_bipush (v := 120) hx hb dX3_feed_24 rfl ?_
    refine lv_icmp_le (tgt := 35) hx hb dX3_feed_26 (by decide) (fun hc => ?_) (fun hc => ?_)
    · have hf := fg_ifT hf hc
      refine lv_iload_n hx hb dX3_feed_35 rfl (lv_at hl 2 rfl) ?_
      refine lv_iconst (v := 1) hx hb dX3_feed_36 rfl ?_
      refine lv_isub hx hb dX3_feed_37 ?_
      refine lv_topi (fun x4 e_x4 => ?_)
      have hf := fg_letE e_x4 hf
      refine lv_istore_n (lv' := [(3, .int x4), (0, .ref (g.1 3 0 0)), (1, .int a1), (2, .int a2)]) hx hb dX3_feed_38 rfl hl (by decide) rfl (fun ls hl => ?_)
      have hK_39 : ∀ (v3_39 : Int32) (w_39 : fg_W) (H : Heap) (locs : List Loc) (ls : Array Slot), fg_H D g s.heap w_39 H locs → lv_has ls 4 [(0, .ref (g.1 3 0 0)), (1, .int a1), (2, .int a2), (3, .int v3_39)] → (some ((w_39.1 1 0 0 1), w_39)) = some (r, w') → fg_Gi p l e 1 22 s m [.ref (g.1 3 0 0), .int a1, .int a2] below meth c D g r w' H locs 62 ls [] := by
        intro v3_39 w_39 H locs ls h hl hf
        refine lv_aload_n hx hb dX3_feed_62 rfl (lv_at hl 0 rfl) ?_
        refine fg_get (C := RX3) (T := TX3) (N := 7) S vu_X3 hK h fg_p3_0 rfl rfl 4 (by decide) vf_RX3_29 rfl rfl dX3_feed_63 ?_
        refine fg_get (C := RX1) (T := TX1) (N := 7) S vu_X1 hK h fg_p1_0 rfl rfl 1 (by decide) vf_RX3_176 rfl rfl dX3_feed_66 ?_
        exact fg_reti hx hb hr hlk hK h hf dX3_feed_69
      have hL_39 : ∀ (KK_39 : Int32 → fg_W → Option (Int32 × fg_W)) (hK_39 : ∀ (v3_39 : Int32) (w_39 : fg_W) (H : Heap) (locs : List Loc) (ls : Array Slot), fg_H D g s.heap w_39 H locs → lv_has ls 4 [(0, .ref (g.1 3 0 0)), (1, .int a1), (2, .int a2), (3, .int v3_39)] → KK_39 v3_39 w_39 = some (r, w') → fg_Gi p l e 1 22 s m [.ref (g.1 3 0 0), .int a1, .int a2] below meth c D g r w' H locs 62 ls []) (n : Nat) (v3_39 : Int32) (w_39 : fg_W) (H : Heap) (locs : List Loc) (ls : Array Slot), fg_H D g s.heap w_39 H locs → lv_has ls 4 [(0, .ref (g.1 3 0 0)), (1, .int a1), (2, .int a2), (3, .int v3_39)] → f_X3_feed_L39 a1 KK_39 n v3_39 w_39 = some (r, w') → fg_Gi p l e 1 22 s m [.ref (g.1 3 0 0), .int a1, .int a2] below meth c D g r w' H locs 39 ls [] := by
        intro KK_39 hK_39 n
        induction n with
        | zero => intro v3_39 w_39 H locs ls h hl hf; exact fg_no hf
        | succ n_39 ih_39 =>
          intro v3_39 w_39 H locs ls h hl hf
          unfold f_X3_feed_L39 at hf
          refine lv_iload_n hx hb dX3_feed_39 rfl (lv_at hl 3 rfl) ?_
          refine lv_if_lt (tgt := 62) hx hb dX3_feed_40 (by decide) (fun hc => ?_) (fun hc => ?_)
          · have hf := fg_ifT hf hc
            exact hK_39 v3_39 w_39 _ _ ls h (lv_sub hl [0, 1, 2, 3] rfl) hf
          · have hf := fg_ifF hf hc
            refine lv_aload_n hx hb dX3_feed_43 rfl (lv_at hl 0 rfl) ?_
            refine fg_get (C := RX3) (T := TX3) (N := 7) S vu_X3 hK h fg_p3_0 rfl rfl 4 (by decide) vf_RX3_29 rfl rfl dX3_feed_44 ?_
            refine lv_iload_n hx hb dX3_feed_47 rfl (lv_at hl 1 rfl) ?_
            refine lv_bipush (v := 8) hx hb dX3_feed_48 rfl ?_
            refine lv_iload_n hx hb dX3_feed_50 rfl (lv_at hl 3 rfl) ?_
            refine lv_imul hx hb dX3_feed_51 ?_
            refine lv_iushr hx hb dX3_feed_52 rfl ?_
            obtain ⟨w7, hc8, hf⟩ := fg_bvE hf
            refine fg_cv h (fg_runV (rest := []) S hK h (c_X1_append l D g (((a1).toUInt32 >>> (((8 * v3_39) : Int32).toUInt32 &&& Int32.toUInt32 31)).toInt32)  w_39 w7 hc8) vg_RX3_179 vd_X1_append ⟨by decide, by decide⟩ fg_p1_0 rfl rfl rfl hl.1 rfl (Nat.le_of_ble_eq_true rfl) dX3_feed_53 ⟨Nat.zero_le _, Nat.zero_le _⟩) (fun H locs h => ?_)
            refine lv_iinc (v := (v3_39 + (-1))) (lv' := [(3, .int (v3_39 + (-1))), (0, .ref (g.1 3 0 0)), (1, .int a1), (2, .int a2)]) hx hb dX3_feed_56 hl (k := 3) rfl rfl (by decide) rfl (fun ls hl => ?_)
            refine lv_goto (tgt := 39) hx hb dX3_feed_59 (by decide) ?_
            exact ih_39 (v3_39 + (-1)) w7 _ _ ls h (lv_sub hl [1, 2, 3, 0] rfl) hf
      exact hL_39 _ hK_39 fg_fuel x4 w1 _ _ ls h (lv_sub hl [1, 2, 3, 0] rfl) hf
    · have hf := fg_ifF hf hc
      refine lv_aload_n hx hb dX3_feed_29 rfl (lv_at hl 0 rfl) ?_
      refine lv_iconst (v := 1) hx hb dX3_feed_30 rfl ?_
      obtain ⟨r11, w9, hc10, hf⟩ := fg_biE hf
      refine fg_ci h (fg_runV (rest := []) S hK h (c_X3_finding l D g 1  w1 r11 w9 hc10) vg_RX3_48 vd_X3_finding ⟨by decide, by decide⟩ fg_p3_0 rfl rfl rfl hl.1 rfl (Nat.le_of_ble_eq_true rfl) dX3_feed_31 ⟨Nat.zero_le _, Nat.zero_le _⟩) (fun H locs h => ?_)
      exact fg_reti hx hb hr hlk hK h hf dX3_feed_34
  · have hf := fg_ifT hf hc
    refine lv_aload_n hx hb dX3_feed_9 rfl (lv_at hl 0 rfl) ?_
    refine lv_iconst (v := 0) hx hb dX3_feed_10 rfl ?_
    obtain ⟨r14, w12, hc13, hf⟩ := fg_biE hf
    refine fg_ci h (fg_runV (rest := []) S hK h (c_X3_finding l D g 0  w1 r14 w12 hc13) vg_RX3_48 vd_X3_finding ⟨by decide, by decide⟩ fg_p3_0 rfl rfl rfl hl.1 rfl (Nat.le_of_ble_eq_true rfl) dX3_feed_11 ⟨Nat.zero_le _, Nat.zero_le _⟩) (fun H locs h => ?_)
    exact fg_reti hx hb hr hlk hK h hf dX3_feed_14
set_option maxHeartbeats 4000000 in
set_option maxRecDepth 100000 in
theorem c_X3_wipe (l : Launch) (D : va_G) (g : fg_G)  (w : fg_W) (r : Int32) (w' : fg_W) (hf : f_X3_wipe  w = some (r, w')) : fg_M l yX3_wipe cX3_wipe 2 (some .int) 0 0 D g [.ref (g.1 3 0 0)] w (fg_Qi D g r w') := by
  refine fg_M.of rfl (Nat.le_of_ble_eq_true rfl) (fun p e s m below meth c ls S hr hlk hK h hl => ?_)
  have hx := S.1
  have hb := S.2.1
  have hl : lv_has ls 2 [(0, .ref (g.1 3 0 0))] := hl
  unfold f_X3_wipe at hf
  refine lv_aload_n hx hb dX3_wipe_0 rfl (lv_at hl 0 rfl) ?_
  refine fg_get (C := RX3) (T := TX3) (N := 7) S vu_X3 hK h fg_p3_0 rfl rfl 4 (by decide) vf_RX3_29 rfl rfl dX3_wipe_1 ?_
  refine fg_get (C := RX1) (T := TX1) (N := 7) S vu_X1 hK h fg_p1_0 rfl rfl 1 (by decide) vf_RX3_176 rfl rfl dX3_wipe_4 ?_
  refine lv_topi (fun x1 e_x1 => ?_)
  have hf := fg_letE e_x1 hf
  refine lv_istore_n (lv' := [(1, .int x1), (0, .ref (g.1 3 0 0))]) hx hb dX3_wipe_7 rfl hl (by decide) rfl (fun ls hl => ?_)
  refine lv_aload_n hx hb dX3_wipe_8 rfl (lv_at hl 1 rfl) ?_
  refine fg_get (C := RX3) (T := TX3) (N := 7) S vu_X3 hK h fg_p3_0 rfl rfl 4 (by decide) vf_RX3_29 rfl rfl dX3_wipe_9 ?_
  refine lv_iconst (v := 0) hx hb dX3_wipe_12 rfl ?_
  refine fg_putI (C := RX1) (T := TX1) (N := 7) (fs := (fg_f1 g 0)) S vu_X1 tyX1 tyX1_ok nmX1 hK h fg_p1_0 (fun _ _ => rfl) rfl 1 (by decide) vf_RX3_176 rfl rfl (tyX1_ok 1 (by decide)) rfl rfl (fun _ => Nat.le_of_ble_eq_true rfl) (fun _ => rfl) dX3_wipe_13 (fun w2 H locs ew h => ?_)
  have hf := fg_letE ew hf
  refine lv_iload_n hx hb dX3_wipe_16 rfl (lv_at hl 0 rfl) ?_
  exact fg_reti hx hb hr hlk hK h hf dX3_wipe_17
set_option maxHeartbeats 4000000 in
set_option maxRecDepth 100000 in
theorem c_X3_hold (l : Launch) (D : va_G) (g : fg_G) (a1 : Int32) (a2 : Int32) (w : fg_W) (r : Int32) (w' : fg_W) (hf : f_X3_hold a1 a2 w = some (r, w')) : fg_M l yX3_hold cX3_hold 3 (some .int) 1 22 D g [.ref (g.1 3 0 0), .int a1, .int a2] w (fg_Qi D g r w') := by
  refine fg_M.of rfl (Nat.le_of_ble_eq_true rfl) (fun p e s m below meth c ls S hr hlk hK h hl => ?_)
  have hx := S.1
  have hb := S.2.1
  have hl : lv_has ls 3 [(0, .ref (g.1 3 0 0)), (1, .int a1), (2, .int a2)] := hl
  unfold f_X3_hold at hf
  refine lv_iload_n hx hb dX3_hold_0 rfl (lv_at hl 1 rfl) ?_
  refine lv_iconst (v := 0) hx hb dX3_hold_1 rfl ?_
  refine lv_bipush (v := 9) hx hb dX3_hold_2 rfl ?_
  obtain ⟨r3, w1, hc2, hf⟩ := fg_biE hf
  refine fg_ci h (fg_runS (rest := []) S hK h (c_X3_within l D g a1 0 9  w r3 w1 hc2) vk_X3_within vm_RX3_52 vs_X3_within vi_RX3 vd_X3_within.2 ⟨by decide, by decide⟩ rfl hl.1 rfl (Nat.le_of_ble_eq_true rfl) dX3_hold_4 ⟨Nat.zero_le _, Nat.zero_le _⟩) (fun H locs h => ?_)
  refine lv_if_eq (tgt := 26) hx hb dX3_hold_7 (by decide) (fun hc => ?_) (fun hc => ?_)
  · have hf := fg_ifT hf hc
    refine lv_aload_n hx hb dX3_hold_26 rfl (lv_at hl 0 rfl) ?_
    refine lv_iconst (v := 0) hx hb dX3_hold_27 rfl ?_
    obtain ⟨r6, w4, hc5, hf⟩ := fg_biE hf
    refine fg_ci h (fg_runV (rest := []) S hK h (c_X3_finding l D g 0  w1 r6 w4 hc5) vg_RX3_48 vd_X3_finding ⟨by decide, by decide⟩ fg_p3_0 rfl rfl rfl hl.1 rfl (Nat.le_of_ble_eq_true rfl) dX3_hold_28 ⟨Nat.zero_le _, Nat.zero_le _⟩) (fun H locs h => ?_)
    exact fg_reti hx hb hr hlk hK h hf dX3_hold_31
  · have hf := fg_ifF hf hc
    refine lv_iload_n hx hb dX3_hold_10 rfl (lv_at hl 2 rfl) ?_
    refine lv_iconst (v := (-1)) hx hb dX3_hold_11 rfl ?_
    refine lv_icmp_eq (tgt := 32) hx hb dX3_hold_12 (by decide) (fun hc => ?_) (fun hc => ?_)
    · have hf := fg_ifT hf hc
      refine lv_aload_n hx hb dX3_hold_32 rfl (lv_at hl 0 rfl) ?_
      refine fg_get (C := RX3) (T := TX3) (N := 7) S vu_X3 hK h fg_p3_0 rfl rfl 0 (by decide) vf_RX3_10 rfl rfl dX3_hold_33 ?_
      refine fg_get (C := RX2) (T := TX2) (N := 16) S vu_X2 hK h (fg_p2_0 (by decide)) rfl rfl 14 (by decide) vf_RX3_189 rfl rfl dX3_hold_36 ?_
      refine lv_iload_n hx hb dX3_hold_39 rfl (lv_at hl 1 rfl) ?_
      refine lv_iload_n hx hb dX3_hold_40 rfl (lv_at hl 2 rfl) ?_
      obtain ⟨hn8, hf⟩ := fg_gdE hf
      refine fg_iast hx hb hK h (fg_p2_10 (by decide)) (fun _ => rfl) hn8 dX3_hold_41 (fun w7 H locs ew h => ?_)
      have hf := fg_letE ew hf
      refine lv_iconst (v := 1) hx hb dX3_hold_42 rfl ?_
      exact fg_reti hx hb hr hlk hK h hf dX3_hold_43
    · have hf := fg_ifF hf hc
      refine lv_aload_n hx hb dX3_hold_15 rfl (lv_at hl 0 rfl) ?_
      refine fg_get (C := RX3) (T := TX3) (N := 7) S vu_X3 hK h fg_p3_0 rfl rfl 0 (by decide) vf_RX3_10 rfl rfl dX3_hold_16 ?_
      refine lv_iload_n hx hb dX3_hold_19 rfl (lv_at hl 2 rfl) ?_
      obtain ⟨r11, w9, hc10, hf⟩ := fg_biE hf
      refine fg_ci h (fg_runV (rest := []) S hK h (c_X2_isPerson l D g 0 a2 (by decide) w1 r11 w9 hc10) vg_RX3_66 vd_X2_isPerson ⟨by decide, by decide⟩ (fg_p2_0 (by decide)) rfl rfl rfl hl.1 rfl (Nat.le_of_ble_eq_true rfl) dX3_hold_20 ⟨Nat.zero_le _, Nat.zero_le _⟩) (fun H locs h => ?_)
      refine lv_if_ne (tgt := 32) hx hb dX3_hold_23 (by decide) (fun hc => ?_) (fun hc => ?_)
      · have hf := fg_ifF hf hc
        refine lv_aload_n hx hb dX3_hold_32 rfl (lv_at hl 0 rfl) ?_
        refine fg_get (C := RX3) (T := TX3) (N := 7) S vu_X3 hK h fg_p3_0 rfl rfl 0 (by decide) vf_RX3_10 rfl rfl dX3_hold_33 ?_
        refine fg_get (C := RX2) (T := TX2) (N := 16) S vu_X2 hK h (fg_p2_0 (by decide)) rfl rfl 14 (by decide) vf_RX3_189 rfl rfl dX3_hold_36 ?_
        refine lv_iload_n hx hb dX3_hold_39 rfl (lv_at hl 1 rfl) ?_
        refine lv_iload_n hx hb dX3_hold_40 rfl (lv_at hl 2 rfl) ?_
        obtain ⟨hn13, hf⟩ := fg_gdE hf
        refine fg_iast hx hb hK h (fg_p2_10 (by decide)) (fun _ => rfl) hn13 dX3_hold_41 (fun w12 H locs ew h => ?_)
        have hf := fg_letE ew hf
        refine lv_iconst (v := 1) hx hb dX3_hold_42 rfl ?_
        exact fg_reti hx hb hr hlk hK h hf dX3_hold_43
      · have hf := fg_ifT hf hc
        refine lv_aload_n hx hb dX3_hold_26 rfl (lv_at hl 0 rfl) ?_
        refine lv_iconst (v := 0) hx hb dX3_hold_27 rfl ?_
        obtain ⟨r16, w14, hc15, hf⟩ := fg_biE hf
        refine fg_ci h (fg_runV (rest := []) S hK h (c_X3_finding l D g 0  w9 r16 w14 hc15) vg_RX3_48 vd_X3_finding ⟨by decide, by decide⟩ fg_p3_0 rfl rfl rfl hl.1 rfl (Nat.le_of_ble_eq_true rfl) dX3_hold_28 ⟨Nat.zero_le _, Nat.zero_le _⟩) (fun H locs h => ?_)
        exact fg_reti hx hb hr hlk hK h hf dX3_hold_31
set_option maxHeartbeats 4000000 in
set_option maxRecDepth 100000 in
theorem c_X3_as (l : Launch) (D : va_G) (g : fg_G) (a1 : Int32) (a2 : Int32) (w : fg_W) (r : Int32) (w' : fg_W) (hf : f_X3_as a1 a2 w = some (r, w')) : fg_M l yX3_as cX3_as 4 (some .int) 2 43 D g [.ref (g.1 3 0 0), .int a1, .int a2] w (fg_Qi D g r w') := by
  refine fg_M.of rfl (Nat.le_of_ble_eq_true rfl) (fun p e s m below meth c ls S hr hlk hK h hl => ?_)
  have hx := S.1
  have hb := S.2.1
  have hl : lv_has ls 4 [(0, .ref (g.1 3 0 0)), (1, .int a1), (2, .int a2)] := hl
  unfold f_X3_as at hf
  refine lv_iload_n hx hb dX3_as_0 rfl (lv_at hl 1 rfl) ?_
  refine lv_iconst (v := 0) hx hb dX3_as_1 rfl ?_
  refine lv_bipush (v := 9) hx hb dX3_as_2 rfl ?_
  obtain ⟨r3, w1, hc2, hf⟩ := fg_biE hf
  refine fg_ci h (fg_runS (rest := []) S hK h (c_X3_within l D g a1 0 9  w r3 w1 hc2) vk_X3_within vm_RX3_52 vs_X3_within vi_RX3 vd_X3_within.2 ⟨by decide, by decide⟩ rfl hl.1 rfl (Nat.le_of_ble_eq_true rfl) dX3_as_4 ⟨Nat.zero_le _, Nat.zero_le _⟩) (fun H locs h => ?_)
  refine lv_if_eq (tgt := 17) hx hb dX3_as_7 (by decide) (fun hc => ?_) (fun hc => ?_)
  · have hf := fg_ifT hf hc
    refine lv_aload_n hx hb dX3_as_17 rfl (lv_at hl 0 rfl) ?_
    refine lv_iconst (v := 0) hx hb dX3_as_18 rfl ?_
    obtain ⟨r6, w4, hc5, hf⟩ := fg_biE hf
    refine fg_ci h (fg_runV (rest := []) S hK h (c_X3_finding l D g 0  w1 r6 w4 hc5) vg_RX3_48 vd_X3_finding ⟨by decide, by decide⟩ fg_p3_0 rfl rfl rfl hl.1 rfl (Nat.le_of_ble_eq_true rfl) dX3_as_19 ⟨Nat.zero_le _, Nat.zero_le _⟩) (fun H locs h => ?_)
    exact fg_reti hx hb hr hlk hK h hf dX3_as_22
  · have hf := fg_ifF hf hc
    refine lv_iload_n hx hb dX3_as_10 rfl (lv_at hl 2 rfl) ?_
    obtain ⟨r9, w7, hc8, hf⟩ := fg_biE hf
    refine fg_ci h (fg_runS (rest := []) S hK h (c_X3_isKind l D g a2  w1 r9 w7 hc8) vk_X3_isKind vm_RX3_85 vs_X3_isKind vi_RX3 vd_X3_isKind.2 ⟨by decide, by decide⟩ rfl hl.1 rfl (Nat.le_of_ble_eq_true rfl) dX3_as_11 ⟨Nat.zero_le _, Nat.zero_le _⟩) (fun H locs h => ?_)
    refine lv_if_ne (tgt := 23) hx hb dX3_as_14 (by decide) (fun hc => ?_) (fun hc => ?_)
    · have hf := fg_ifF hf hc
      refine lv_aload_n hx hb dX3_as_23 rfl (lv_at hl 0 rfl) ?_
      refine fg_get (C := RX3) (T := TX3) (N := 7) S vu_X3 hK h fg_p3_0 rfl rfl 0 (by decide) vf_RX3_10 rfl rfl dX3_as_24 ?_
      refine fg_get (C := RX2) (T := TX2) (N := 16) S vu_X2 hK h (fg_p2_0 (by decide)) rfl rfl 14 (by decide) vf_RX3_189 rfl rfl dX3_as_27 ?_
      refine lv_iload_n hx hb dX3_as_30 rfl (lv_at hl 1 rfl) ?_
      obtain ⟨hn10, hf⟩ := fg_gdE hf
      refine fg_iald hx hb hK h (fg_p2_10 (by decide)) (fun _ => rfl) hn10 dX3_as_31 ?_
      refine lv_topi (fun x11 e_x11 => ?_)
      have hf := fg_letE e_x11 hf
      refine lv_istore_n (lv' := [(3, .int x11), (0, .ref (g.1 3 0 0)), (1, .int a1), (2, .int a2)]) hx hb dX3_as_32 rfl hl (by decide) rfl (fun ls hl => ?_)
      refine lv_aload_n hx hb dX3_as_33 rfl (lv_at hl 1 rfl) ?_
      refine fg_get (C := RX3) (T := TX3) (N := 7) S vu_X3 hK h fg_p3_0 rfl rfl 0 (by decide) vf_RX3_10 rfl rfl dX3_as_34 ?_
      refine lv_iload_n hx hb dX3_as_37 rfl (lv_at hl 0 rfl) ?_
      obtain ⟨r14, w12, hc13, hf⟩ := fg_biE hf
      refine fg_ci h (fg_runV (rest := []) S hK h (c_X2_isPerson l D g 0 x11 (by decide) w7 r14 w12 hc13) vg_RX3_66 vd_X2_isPerson ⟨by decide, by decide⟩ (fg_p2_0 (by decide)) rfl rfl rfl hl.1 rfl (Nat.le_of_ble_eq_true rfl) dX3_as_38 ⟨Nat.zero_le _, Nat.zero_le _⟩) (fun H locs h => ?_)
      refine lv_if_ne (tgt := 50) hx hb dX3_as_41 (by decide) (fun hc => ?_) (fun hc => ?_)
      · have hf := fg_ifF hf hc
        refine lv_aload_n hx hb dX3_as_50 rfl (lv_at hl 1 rfl) ?_
        refine fg_get (C := RX3) (T := TX3) (N := 7) S vu_X3 hK h fg_p3_0 rfl rfl 0 (by decide) vf_RX3_10 rfl rfl dX3_as_51 ?_
        refine fg_get (C := RX2) (T := TX2) (N := 16) S vu_X2 hK h (fg_p2_0 (by decide)) rfl rfl 6 (by decide) vf_RX3_94 rfl rfl dX3_as_54 ?_
        refine lv_iload_n hx hb dX3_as_57 rfl (lv_at hl 0 rfl) ?_
        obtain ⟨hn15, hf⟩ := fg_gdE hf
        refine fg_iald hx hb hK h (fg_p2_5 (by decide)) (fun _ => rfl) hn15 dX3_as_58 ?_
        refine lv_iload_n hx hb dX3_as_59 rfl (lv_at hl 3 rfl) ?_
        obtain ⟨r18, w16, hc17, hf⟩ := fg_biE hf
        refine fg_ci h (fg_runS (rest := []) S hK h (c_X3_isUnder l D g (w12.1 2 0 5 x11.toNatClampNeg) a2  w12 r18 w16 hc17) vk_X3_isUnder vm_RX3_192 vs_X3_isUnder vi_RX3 vd_X3_isUnder.2 ⟨by decide, by decide⟩ rfl hl.1 rfl (Nat.le_of_ble_eq_true rfl) dX3_as_60 ⟨Nat.zero_le _, Nat.zero_le _⟩) (fun H locs h => ?_)
        refine lv_if_ne (tgt := 72) hx hb dX3_as_63 (by decide) (fun hc => ?_) (fun hc => ?_)
        · have hf := fg_ifF hf hc
          refine lv_iload_n hx hb dX3_as_72 rfl (lv_at hl 0 rfl) ?_
          exact fg_reti hx hb hr hlk hK h hf dX3_as_73
        · have hf := fg_ifT hf hc
          refine lv_aload_n hx hb dX3_as_66 rfl (lv_at hl 1 rfl) ?_
          refine lv_iconst (v := 2) hx hb dX3_as_67 rfl ?_
          obtain ⟨r21, w19, hc20, hf⟩ := fg_biE hf
          refine fg_ci h (fg_runV (rest := []) S hK h (c_X3_finding l D g 2  w16 r21 w19 hc20) vg_RX3_48 vd_X3_finding ⟨by decide, by decide⟩ fg_p3_0 rfl rfl rfl hl.1 rfl (Nat.le_of_ble_eq_true rfl) dX3_as_68 ⟨Nat.zero_le _, Nat.zero_le _⟩) (fun H locs h => ?_)
          exact fg_reti hx hb hr hlk hK h hf dX3_as_71
      · have hf := fg_ifT hf hc
        refine lv_aload_n hx hb dX3_as_44 rfl (lv_at hl 1 rfl) ?_
        refine lv_iconst (v := 5) hx hb dX3_as_45 rfl ?_
        obtain ⟨r24, w22, hc23, hf⟩ := fg_biE hf
        refine fg_ci h (fg_runV (rest := []) S hK h (c_X3_finding l D g 5  w12 r24 w22 hc23) vg_RX3_48 vd_X3_finding ⟨by decide, by decide⟩ fg_p3_0 rfl rfl rfl hl.1 rfl (Nat.le_of_ble_eq_true rfl) dX3_as_46 ⟨Nat.zero_le _, Nat.zero_le _⟩) (fun H locs h => ?_)
        exact fg_reti hx hb hr hlk hK h hf dX3_as_49
    · have hf := fg_ifT hf hc
      refine lv_aload_n hx hb dX3_as_17 rfl (lv_at hl 0 rfl) ?_
      refine lv_iconst (v := 0) hx hb dX3_as_18 rfl ?_
      obtain ⟨r27, w25, hc26, hf⟩ := fg_biE hf
      refine fg_ci h (fg_runV (rest := []) S hK h (c_X3_finding l D g 0  w7 r27 w25 hc26) vg_RX3_48 vd_X3_finding ⟨by decide, by decide⟩ fg_p3_0 rfl rfl rfl hl.1 rfl (Nat.le_of_ble_eq_true rfl) dX3_as_19 ⟨Nat.zero_le _, Nat.zero_le _⟩) (fun H locs h => ?_)
      exact fg_reti hx hb hr hlk hK h hf dX3_as_22
set_option maxHeartbeats 4000000 in
set_option maxRecDepth 100000 in
theorem c_X3_sheet (l : Launch) (D : va_G) (g : fg_G) (a1 : Int32) (a2 : Int32) (a3 : Int32) (w : fg_W) (r : Int32) (w' : fg_W) (hf : f_X3_sheet a1 a2 a3 w = some (r, w')) : fg_M l yX3_sheet cX3_sheet 5 (some .int) 1 23 D g [.ref (g.1 3 0 0), .int a1, .int a2, .int a3] w (fg_Qi D g r w') := by
  refine fg_M.of rfl (Nat.le_of_ble_eq_true rfl) (fun p e s m below meth c ls S hr hlk hK h hl => ?_)
  have hx := S.1
  have hb := S.2.1
  have hl : lv_has ls 5 [(0, .ref (g.1 3 0 0)), (1, .int a1), (2, .int a2), (3, .int a3)] := hl
  unfold f_X3_sheet at hf
  refine lv_iload_n hx hb dX3_sheet_0 rfl (lv_at hl 2 rfl) ?_
  refine lv_if_eq (tgt := 22) hx hb dX3_sheet_1 (by decide) (fun hc => ?_) (fun hc => ?_)
  · have hf := fg_ifT hf hc
    refine lv_iconst (v := 1) hx hb dX3_sheet_22 rfl ?_
    refine lv_goto (tgt := 27) hx hb dX3_sheet_23 (by decide) ?_
    refine lv_istore (lv' := [(4, .int 1), (0, .ref (g.1 3 0 0)), (1, .int a1), (2, .int a2), (3, .int a3)]) hx hb dX3_sheet_27 hl (by decide) rfl (fun ls hl => ?_)
    refine lv_iload_n hx hb dX3_sheet_29 rfl (lv_at hl 2 rfl) ?_
    obtain ⟨r3, w1, hc2, hf⟩ := fg_biE hf
    refine fg_ci h (fg_runS (rest := []) S hK h (c_X3_isSheet l D g a1  w r3 w1 hc2) vk_X3_isSheet vm_RX3_195 vs_X3_isSheet vi_RX3 vd_X3_isSheet.2 ⟨by decide, by decide⟩ rfl hl.1 rfl (Nat.le_of_ble_eq_true rfl) dX3_sheet_30 ⟨Nat.zero_le _, Nat.zero_le _⟩) (fun H locs h => ?_)
    refine lv_if_eq (tgt := 41) hx hb dX3_sheet_33 (by decide) (fun hc => ?_) (fun hc => ?_)
    · have hf := fg_ifT hf hc
      refine lv_aload_n hx hb dX3_sheet_41 rfl (lv_at hl 1 rfl) ?_
      refine lv_iconst (v := 0) hx hb dX3_sheet_42 rfl ?_
      obtain ⟨r6, w4, hc5, hf⟩ := fg_biE hf
      refine fg_ci h (fg_runV (rest := []) S hK h (c_X3_finding l D g 0  w1 r6 w4 hc5) vg_RX3_48 vd_X3_finding ⟨by decide, by decide⟩ fg_p3_0 rfl rfl rfl hl.1 rfl (Nat.le_of_ble_eq_true rfl) dX3_sheet_43 ⟨Nat.zero_le _, Nat.zero_le _⟩) (fun H locs h => ?_)
      exact fg_reti hx hb hr hlk hK h hf dX3_sheet_46
    · have hf := fg_ifF hf hc
      refine lv_iload hx hb dX3_sheet_36 (lv_at hl 0 rfl) ?_
      refine lv_if_ne (tgt := 47) hx hb dX3_sheet_38 (by decide) (fun hc => ?_) (fun hc => ?_)
      · refine lv_iload_n hx hb dX3_sheet_47 rfl (lv_at hl 4 rfl) ?_
        refine lv_if_ge (tgt := 58) hx hb dX3_sheet_48 (by decide) (fun hc => ?_) (fun hc => ?_)
        · have hf := fg_ifT hf hc
          refine lv_iload_n hx hb dX3_sheet_58 rfl (lv_at hl 4 rfl) ?_
          refine lv_bipush (v := 40) hx hb dX3_sheet_59 rfl ?_
          refine lv_icmp_le (tgt := 70) hx hb dX3_sheet_61 (by decide) (fun hc => ?_) (fun hc => ?_)
          · have hf := fg_ifT hf hc
            refine lv_aload_n hx hb dX3_sheet_70 rfl (lv_at hl 1 rfl) ?_
            refine fg_get (C := RX3) (T := TX3) (N := 7) S vu_X3 hK h fg_p3_0 rfl rfl 5 (by decide) vf_RX3_35 rfl rfl dX3_sheet_71 ?_
            refine lv_iload_n hx hb dX3_sheet_74 rfl (lv_at hl 2 rfl) ?_
            obtain ⟨hn7, hf⟩ := fg_gdE hf
            refine fg_aald hx hb hK h hn7 dX3_sheet_75 ?_
            refine lv_iload_n hx hb dX3_sheet_76 rfl (lv_at hl 3 rfl) ?_
            refine lv_iload_n hx hb dX3_sheet_77 rfl (lv_at hl 4 rfl) ?_
            obtain ⟨w8, hc9, hf⟩ := fg_bvE hf
            refine fg_cv h (fg_runV (rest := []) S hK h (c_X0_begin l D g a1.toNatClampNeg a2 a3 (fg_vlt hn7) w1 w8 hc9) vg_RX3_198 vd_X0_begin ⟨by decide, by decide⟩ (fg_p0_0 (fg_vlt hn7)) rfl rfl rfl hl.1 rfl (Nat.le_of_ble_eq_true rfl) dX3_sheet_78 ⟨Nat.zero_le _, Nat.zero_le _⟩) (fun H locs h => ?_)
            refine lv_aload_n hx hb dX3_sheet_81 rfl (lv_at hl 1 rfl) ?_
            refine fg_get (C := RX3) (T := TX3) (N := 7) S vu_X3 hK h fg_p3_0 rfl rfl 5 (by decide) vf_RX3_35 rfl rfl dX3_sheet_82 ?_
            refine lv_iload_n hx hb dX3_sheet_85 rfl (lv_at hl 2 rfl) ?_
            obtain ⟨hn10, hf⟩ := fg_gdE hf
            refine fg_aald hx hb hK h hn10 dX3_sheet_86 ?_
            refine fg_get (C := RX0) (T := TX0) (N := 3) S vu_X0 hK h (fg_p0_0 (fg_vlt hn10)) rfl rfl 1 (by decide) vf_RX3_202 rfl rfl dX3_sheet_87 ?_
            exact fg_reti hx hb hr hlk hK h hf dX3_sheet_90
          · have hf := fg_ifF hf hc
            refine lv_aload_n hx hb dX3_sheet_64 rfl (lv_at hl 1 rfl) ?_
            refine lv_iconst (v := 0) hx hb dX3_sheet_65 rfl ?_
            obtain ⟨r13, w11, hc12, hf⟩ := fg_biE hf
            refine fg_ci h (fg_runV (rest := []) S hK h (c_X3_finding l D g 0  w1 r13 w11 hc12) vg_RX3_48 vd_X3_finding ⟨by decide, by decide⟩ fg_p3_0 rfl rfl rfl hl.1 rfl (Nat.le_of_ble_eq_true rfl) dX3_sheet_66 ⟨Nat.zero_le _, Nat.zero_le _⟩) (fun H locs h => ?_)
            exact fg_reti hx hb hr hlk hK h hf dX3_sheet_69
        · have hf := fg_ifF hf hc
          refine lv_aload_n hx hb dX3_sheet_51 rfl (lv_at hl 1 rfl) ?_
          refine lv_bipush (v := 6) hx hb dX3_sheet_52 rfl ?_
          obtain ⟨r16, w14, hc15, hf⟩ := fg_biE hf
          refine fg_ci h (fg_runV (rest := []) S hK h (c_X3_finding l D g 6  w1 r16 w14 hc15) vg_RX3_48 vd_X3_finding ⟨by decide, by decide⟩ fg_p3_0 rfl rfl rfl hl.1 rfl (Nat.le_of_ble_eq_true rfl) dX3_sheet_54 ⟨Nat.zero_le _, Nat.zero_le _⟩) (fun H locs h => ?_)
          exact fg_reti hx hb hr hlk hK h hf dX3_sheet_57
      · exact absurd hc (by decide)
  · have hf := fg_ifF hf hc
    refine lv_iload_n hx hb dX3_sheet_4 rfl (lv_at hl 2 rfl) ?_
    refine lv_bipush (v := 8) hx hb dX3_sheet_5 rfl ?_
    refine lv_icmp_eq (tgt := 22) hx hb dX3_sheet_7 (by decide) (fun hc => ?_) (fun hc => ?_)
    · have hf := fg_ifT hf hc
      refine lv_iconst (v := 1) hx hb dX3_sheet_22 rfl ?_
      refine lv_goto (tgt := 27) hx hb dX3_sheet_23 (by decide) ?_
      refine lv_istore (lv' := [(4, .int 1), (0, .ref (g.1 3 0 0)), (1, .int a1), (2, .int a2), (3, .int a3)]) hx hb dX3_sheet_27 hl (by decide) rfl (fun ls hl => ?_)
      refine lv_iload_n hx hb dX3_sheet_29 rfl (lv_at hl 2 rfl) ?_
      obtain ⟨r19, w17, hc18, hf⟩ := fg_biE hf
      refine fg_ci h (fg_runS (rest := []) S hK h (c_X3_isSheet l D g a1  w r19 w17 hc18) vk_X3_isSheet vm_RX3_195 vs_X3_isSheet vi_RX3 vd_X3_isSheet.2 ⟨by decide, by decide⟩ rfl hl.1 rfl (Nat.le_of_ble_eq_true rfl) dX3_sheet_30 ⟨Nat.zero_le _, Nat.zero_le _⟩) (fun H locs h => ?_)
      refine lv_if_eq (tgt := 41) hx hb dX3_sheet_33 (by decide) (fun hc => ?_) (fun hc => ?_)
      · have hf := fg_ifT hf hc
        refine lv_aload_n hx hb dX3_sheet_41 rfl (lv_at hl 1 rfl) ?_
        refine lv_iconst (v := 0) hx hb dX3_sheet_42 rfl ?_
        obtain ⟨r22, w20, hc21, hf⟩ := fg_biE hf
        refine fg_ci h (fg_runV (rest := []) S hK h (c_X3_finding l D g 0  w17 r22 w20 hc21) vg_RX3_48 vd_X3_finding ⟨by decide, by decide⟩ fg_p3_0 rfl rfl rfl hl.1 rfl (Nat.le_of_ble_eq_true rfl) dX3_sheet_43 ⟨Nat.zero_le _, Nat.zero_le _⟩) (fun H locs h => ?_)
        exact fg_reti hx hb hr hlk hK h hf dX3_sheet_46
      · have hf := fg_ifF hf hc
        refine lv_iload hx hb dX3_sheet_36 (lv_at hl 0 rfl) ?_
        refine lv_if_ne (tgt := 47) hx hb dX3_sheet_38 (by decide) (fun hc => ?_) (fun hc => ?_)
        · refine lv_iload_n hx hb dX3_sheet_47 rfl (lv_at hl 4 rfl) ?_
          refine lv_if_ge (tgt := 58) hx hb dX3_sheet_48 (by decide) (fun hc => ?_) (fun hc => ?_)
          · have hf := fg_ifT hf hc
            refine lv_iload_n hx hb dX3_sheet_58 rfl (lv_at hl 4 rfl) ?_
            refine lv_bipush (v := 40) hx hb dX3_sheet_59 rfl ?_
            refine lv_icmp_le (tgt := 70) hx hb dX3_sheet_61 (by decide) (fun hc => ?_) (fun hc => ?_)
            · have hf := fg_ifT hf hc
              refine lv_aload_n hx hb dX3_sheet_70 rfl (lv_at hl 1 rfl) ?_
              refine fg_get (C := RX3) (T := TX3) (N := 7) S vu_X3 hK h fg_p3_0 rfl rfl 5 (by decide) vf_RX3_35 rfl rfl dX3_sheet_71 ?_
              refine lv_iload_n hx hb dX3_sheet_74 rfl (lv_at hl 2 rfl) ?_
              obtain ⟨hn23, hf⟩ := fg_gdE hf
              refine fg_aald hx hb hK h hn23 dX3_sheet_75 ?_
              refine lv_iload_n hx hb dX3_sheet_76 rfl (lv_at hl 3 rfl) ?_
              refine lv_iload_n hx hb dX3_sheet_77 rfl (lv_at hl 4 rfl) ?_
              obtain ⟨w24, hc25, hf⟩ := fg_bvE hf
              refine fg_cv h (fg_runV (rest := []) S hK h (c_X0_begin l D g a1.toNatClampNeg a2 a3 (fg_vlt hn23) w17 w24 hc25) vg_RX3_198 vd_X0_begin ⟨by decide, by decide⟩ (fg_p0_0 (fg_vlt hn23)) rfl rfl rfl hl.1 rfl (Nat.le_of_ble_eq_true rfl) dX3_sheet_78 ⟨Nat.zero_le _, Nat.zero_le _⟩) (fun H locs h => ?_)
              refine lv_aload_n hx hb dX3_sheet_81 rfl (lv_at hl 1 rfl) ?_
              refine fg_get (C := RX3) (T := TX3) (N := 7) S vu_X3 hK h fg_p3_0 rfl rfl 5 (by decide) vf_RX3_35 rfl rfl dX3_sheet_82 ?_
              refine lv_iload_n hx hb dX3_sheet_85 rfl (lv_at hl 2 rfl) ?_
              obtain ⟨hn26, hf⟩ := fg_gdE hf
              refine fg_aald hx hb hK h hn26 dX3_sheet_86 ?_
              refine fg_get (C := RX0) (T := TX0) (N := 3) S vu_X0 hK h (fg_p0_0 (fg_vlt hn26)) rfl rfl 1 (by decide) vf_RX3_202 rfl rfl dX3_sheet_87 ?_
              exact fg_reti hx hb hr hlk hK h hf dX3_sheet_90
            · have hf := fg_ifF hf hc
              refine lv_aload_n hx hb dX3_sheet_64 rfl (lv_at hl 1 rfl) ?_
              refine lv_iconst (v := 0) hx hb dX3_sheet_65 rfl ?_
              obtain ⟨r29, w27, hc28, hf⟩ := fg_biE hf
              refine fg_ci h (fg_runV (rest := []) S hK h (c_X3_finding l D g 0  w17 r29 w27 hc28) vg_RX3_48 vd_X3_finding ⟨by decide, by decide⟩ fg_p3_0 rfl rfl rfl hl.1 rfl (Nat.le_of_ble_eq_true rfl) dX3_sheet_66 ⟨Nat.zero_le _, Nat.zero_le _⟩) (fun H locs h => ?_)
              exact fg_reti hx hb hr hlk hK h hf dX3_sheet_69
          · have hf := fg_ifF hf hc
            refine lv_aload_n hx hb dX3_sheet_51 rfl (lv_at hl 1 rfl) ?_
            refine lv_bipush (v := 6) hx hb dX3_sheet_52 rfl ?_
            obtain ⟨r32, w30, hc31, hf⟩ := fg_biE hf
            refine fg_ci h (fg_runV (rest := []) S hK h (c_X3_finding l D g 6  w17 r32 w30 hc31) vg_RX3_48 vd_X3_finding ⟨by decide, by decide⟩ fg_p3_0 rfl rfl rfl hl.1 rfl (Nat.le_of_ble_eq_true rfl) dX3_sheet_54 ⟨Nat.zero_le _, Nat.zero_le _⟩) (fun H locs h => ?_)
            exact fg_reti hx hb hr hlk hK h hf dX3_sheet_57
        · exact absurd hc (by decide)
    · have hf := fg_ifF hf hc
      refine lv_iload_n hx hb dX3_sheet_10 rfl (lv_at hl 2 rfl) ?_
      refine lv_bipush (v := 16) hx hb dX3_sheet_11 rfl ?_
      refine lv_icmp_eq (tgt := 22) hx hb dX3_sheet_13 (by decide) (fun hc => ?_) (fun hc => ?_)
      · have hf := fg_ifT hf hc
        refine lv_iconst (v := 1) hx hb dX3_sheet_22 rfl ?_
        refine lv_goto (tgt := 27) hx hb dX3_sheet_23 (by decide) ?_
        refine lv_istore (lv' := [(4, .int 1), (0, .ref (g.1 3 0 0)), (1, .int a1), (2, .int a2), (3, .int a3)]) hx hb dX3_sheet_27 hl (by decide) rfl (fun ls hl => ?_)
        refine lv_iload_n hx hb dX3_sheet_29 rfl (lv_at hl 2 rfl) ?_
        obtain ⟨r35, w33, hc34, hf⟩ := fg_biE hf
        refine fg_ci h (fg_runS (rest := []) S hK h (c_X3_isSheet l D g a1  w r35 w33 hc34) vk_X3_isSheet vm_RX3_195 vs_X3_isSheet vi_RX3 vd_X3_isSheet.2 ⟨by decide, by decide⟩ rfl hl.1 rfl (Nat.le_of_ble_eq_true rfl) dX3_sheet_30 ⟨Nat.zero_le _, Nat.zero_le _⟩) (fun H locs h => ?_)
        refine lv_if_eq (tgt := 41) hx hb dX3_sheet_33 (by decide) (fun hc => ?_) (fun hc => ?_)
        · have hf := fg_ifT hf hc
          refine lv_aload_n hx hb dX3_sheet_41 rfl (lv_at hl 1 rfl) ?_
          refine lv_iconst (v := 0) hx hb dX3_sheet_42 rfl ?_
          obtain ⟨r38, w36, hc37, hf⟩ := fg_biE hf
          refine fg_ci h (fg_runV (rest := []) S hK h (c_X3_finding l D g 0  w33 r38 w36 hc37) vg_RX3_48 vd_X3_finding ⟨by decide, by decide⟩ fg_p3_0 rfl rfl rfl hl.1 rfl (Nat.le_of_ble_eq_true rfl) dX3_sheet_43 ⟨Nat.zero_le _, Nat.zero_le _⟩) (fun H locs h => ?_)
          exact fg_reti hx hb hr hlk hK h hf dX3_sheet_46
        · have hf := fg_ifF hf hc
          refine lv_iload hx hb dX3_sheet_36 (lv_at hl 0 rfl) ?_
          refine lv_if_ne (tgt := 47) hx hb dX3_sheet_38 (by decide) (fun hc => ?_) (fun hc => ?_)
          · refine lv_iload_n hx hb dX3_sheet_47 rfl (lv_at hl 4 rfl) ?_
            refine lv_if_ge (tgt := 58) hx hb dX3_sheet_48 (by decide) (fun hc => ?_) (fun hc => ?_)
            · have hf := fg_ifT hf hc
              refine lv_iload_n hx hb dX3_sheet_58 rfl (lv_at hl 4 rfl) ?_
              refine lv_bipush (v := 40) hx hb dX3_sheet_59 rfl ?_
              refine lv_icmp_le (tgt := 70) hx hb dX3_sheet_61 (by decide) (fun hc => ?_) (fun hc => ?_)
              · have hf := fg_ifT hf hc
                refine lv_aload_n hx hb dX3_sheet_70 rfl (lv_at hl 1 rfl) ?_
                refine fg_get (C := RX3) (T := TX3) (N := 7) S vu_X3 hK h fg_p3_0 rfl rfl 5 (by decide) vf_RX3_35 rfl rfl dX3_sheet_71 ?_
                refine lv_iload_n hx hb dX3_sheet_74 rfl (lv_at hl 2 rfl) ?_
                obtain ⟨hn39, hf⟩ := fg_gdE hf
                refine fg_aald hx hb hK h hn39 dX3_sheet_75 ?_
                refine lv_iload_n hx hb dX3_sheet_76 rfl (lv_at hl 3 rfl) ?_
                refine lv_iload_n hx hb dX3_sheet_77 rfl (lv_at hl 4 rfl) ?_
                obtain ⟨w40, hc41, hf⟩ := fg_bvE hf
                refine fg_cv h (fg_runV (rest := []) S hK h (c_X0_begin l D g a1.toNatClampNeg a2 a3 (fg_vlt hn39) w33 w40 hc41) vg_RX3_198 vd_X0_begin ⟨by decide, by decide⟩ (fg_p0_0 (fg_vlt hn39)) rfl rfl rfl hl.1 rfl (Nat.le_of_ble_eq_true rfl) dX3_sheet_78 ⟨Nat.zero_le _, Nat.zero_le _⟩) (fun H locs h => ?_)
                refine lv_aload_n hx hb dX3_sheet_81 rfl (lv_at hl 1 rfl) ?_
                refine fg_get (C := RX3) (T := TX3) (N := 7) S vu_X3 hK h fg_p3_0 rfl rfl 5 (by decide) vf_RX3_35 rfl rfl dX3_sheet_82 ?_
                refine lv_iload_n hx hb dX3_sheet_85 rfl (lv_at hl 2 rfl) ?_
                obtain ⟨hn42, hf⟩ := fg_gdE hf
                refine fg_aald hx hb hK h hn42 dX3_sheet_86 ?_
                refine fg_get (C := RX0) (T := TX0) (N := 3) S vu_X0 hK h (fg_p0_0 (fg_vlt hn42)) rfl rfl 1 (by decide) vf_RX3_202 rfl rfl dX3_sheet_87 ?_
                exact fg_reti hx hb hr hlk hK h hf dX3_sheet_90
              · have hf := fg_ifF hf hc
                refine lv_aload_n hx hb dX3_sheet_64 rfl (lv_at hl 1 rfl) ?_
                refine lv_iconst (v := 0) hx hb dX3_sheet_65 rfl ?_
                obtain ⟨r45, w43, hc44, hf⟩ := fg_biE hf
                refine fg_ci h (fg_runV (rest := []) S hK h (c_X3_finding l D g 0  w33 r45 w43 hc44) vg_RX3_48 vd_X3_finding ⟨by decide, by decide⟩ fg_p3_0 rfl rfl rfl hl.1 rfl (Nat.le_of_ble_eq_true rfl) dX3_sheet_66 ⟨Nat.zero_le _, Nat.zero_le _⟩) (fun H locs h => ?_)
                exact fg_reti hx hb hr hlk hK h hf dX3_sheet_69
            · have hf := fg_ifF hf hc
              refine lv_aload_n hx hb dX3_sheet_51 rfl (lv_at hl 1 rfl) ?_
              refine lv_bipush (v := 6) hx hb dX3_sheet_52 rfl ?_
              obtain ⟨r48, w46, hc47, hf⟩ := fg_biE hf
              refine fg_ci h (fg_runV (rest := []) S hK h (c_X3_finding l D g 6  w33 r48 w46 hc47) vg_RX3_48 vd_X3_finding ⟨by decide, by decide⟩ fg_p3_0 rfl rfl rfl hl.1 rfl (Nat.le_of_ble_eq_true rfl) dX3_sheet_54 ⟨Nat.zero_le _, Nat.zero_le _⟩) (fun H locs h => ?_)
              exact fg_reti hx hb hr hlk hK h hf dX3_sheet_57
          · exact absurd hc (by decide)
      · have hf := fg_ifF hf hc
        refine lv_iload_n hx hb dX3_sheet_16 rfl (lv_at hl 2 rfl) ?_
        refine lv_bipush (v := 32) hx hb dX3_sheet_17 rfl ?_
        refine lv_icmp_ne (tgt := 26) hx hb dX3_sheet_19 (by decide) (fun hc => ?_) (fun hc => ?_)
        · have hf := fg_ifF hf hc
          refine lv_iconst (v := 0) hx hb dX3_sheet_26 rfl ?_
          refine lv_istore (lv' := [(4, .int 0), (0, .ref (g.1 3 0 0)), (1, .int a1), (2, .int a2), (3, .int a3)]) hx hb dX3_sheet_27 hl (by decide) rfl (fun ls hl => ?_)
          refine lv_iload_n hx hb dX3_sheet_29 rfl (lv_at hl 2 rfl) ?_
          obtain ⟨r51, w49, hc50, hf⟩ := fg_biE hf
          refine fg_ci h (fg_runS (rest := []) S hK h (c_X3_isSheet l D g a1  w r51 w49 hc50) vk_X3_isSheet vm_RX3_195 vs_X3_isSheet vi_RX3 vd_X3_isSheet.2 ⟨by decide, by decide⟩ rfl hl.1 rfl (Nat.le_of_ble_eq_true rfl) dX3_sheet_30 ⟨Nat.zero_le _, Nat.zero_le _⟩) (fun H locs h => ?_)
          refine lv_if_eq (tgt := 41) hx hb dX3_sheet_33 (by decide) (fun hc => ?_) (fun hc => ?_)
          · have hf := fg_ifT hf hc
            refine lv_aload_n hx hb dX3_sheet_41 rfl (lv_at hl 1 rfl) ?_
            refine lv_iconst (v := 0) hx hb dX3_sheet_42 rfl ?_
            obtain ⟨r54, w52, hc53, hf⟩ := fg_biE hf
            refine fg_ci h (fg_runV (rest := []) S hK h (c_X3_finding l D g 0  w49 r54 w52 hc53) vg_RX3_48 vd_X3_finding ⟨by decide, by decide⟩ fg_p3_0 rfl rfl rfl hl.1 rfl (Nat.le_of_ble_eq_true rfl) dX3_sheet_43 ⟨Nat.zero_le _, Nat.zero_le _⟩) (fun H locs h => ?_)
            exact fg_reti hx hb hr hlk hK h hf dX3_sheet_46
          · have hf := fg_ifF hf hc
            refine lv_iload hx hb dX3_sheet_36 (lv_at hl 0 rfl) ?_
            refine lv_if_ne (tgt := 47) hx hb dX3_sheet_38 (by decide) (fun hc => ?_) (fun hc => ?_)
            · exact absurd hc (by decide)
            · refine lv_aload_n hx hb dX3_sheet_41 rfl (lv_at hl 1 rfl) ?_
              refine lv_iconst (v := 0) hx hb dX3_sheet_42 rfl ?_
              obtain ⟨r57, w55, hc56, hf⟩ := fg_biE hf
              refine fg_ci h (fg_runV (rest := []) S hK h (c_X3_finding l D g 0  w49 r57 w55 hc56) vg_RX3_48 vd_X3_finding ⟨by decide, by decide⟩ fg_p3_0 rfl rfl rfl hl.1 rfl (Nat.le_of_ble_eq_true rfl) dX3_sheet_43 ⟨Nat.zero_le _, Nat.zero_le _⟩) (fun H locs h => ?_)
              exact fg_reti hx hb hr hlk hK h hf dX3_sheet_46
        · have hf := fg_ifT hf hc
          refine lv_iconst (v := 1) hx hb dX3_sheet_22 rfl ?_
          refine lv_goto (tgt := 27) hx hb dX3_sheet_23 (by decide) ?_
          refine lv_istore (lv' := [(4, .int 1), (0, .ref (g.1 3 0 0)), (1, .int a1), (2, .int a2), (3, .int a3)]) hx hb dX3_sheet_27 hl (by decide) rfl (fun ls hl => ?_)
          refine lv_iload_n hx hb dX3_sheet_29 rfl (lv_at hl 2 rfl) ?_
          obtain ⟨r60, w58, hc59, hf⟩ := fg_biE hf
          refine fg_ci h (fg_runS (rest := []) S hK h (c_X3_isSheet l D g a1  w r60 w58 hc59) vk_X3_isSheet vm_RX3_195 vs_X3_isSheet vi_RX3 vd_X3_isSheet.2 ⟨by decide, by decide⟩ rfl hl.1 rfl (Nat.le_of_ble_eq_true rfl) dX3_sheet_30 ⟨Nat.zero_le _, Nat.zero_le _⟩) (fun H locs h => ?_)
          refine lv_if_eq (tgt := 41) hx hb dX3_sheet_33 (by decide) (fun hc => ?_) (fun hc => ?_)
          · have hf := fg_ifT hf hc
            refine lv_aload_n hx hb dX3_sheet_41 rfl (lv_at hl 1 rfl) ?_
            refine lv_iconst (v := 0) hx hb dX3_sheet_42 rfl ?_
            obtain ⟨r63, w61, hc62, hf⟩ := fg_biE hf
            refine fg_ci h (fg_runV (rest := []) S hK h (c_X3_finding l D g 0  w58 r63 w61 hc62) vg_RX3_48 vd_X3_finding ⟨by decide, by decide⟩ fg_p3_0 rfl rfl rfl hl.1 rfl (Nat.le_of_ble_eq_true rfl) dX3_sheet_43 ⟨Nat.zero_le _, Nat.zero_le _⟩) (fun H locs h => ?_)
            exact fg_reti hx hb hr hlk hK h hf dX3_sheet_46
          · have hf := fg_ifF hf hc
            refine lv_iload hx hb dX3_sheet_36 (lv_at hl 0 rfl) ?_
            refine lv_if_ne (tgt := 47) hx hb dX3_sheet_38 (by decide) (fun hc => ?_) (fun hc => ?_)
            · refine lv_iload_n hx hb dX3_sheet_47 rfl (lv_at hl 4 rfl) ?_
              refine lv_if_ge (tgt := 58) hx hb dX3_sheet_48 (by decide) (fun hc => ?_) (fun hc => ?_)
              · have hf := fg_ifT hf hc
                refine lv_iload_n hx hb dX3_sheet_58 rfl (lv_at hl 4 rfl) ?_
                refine lv_bipush (v := 40) hx hb dX3_sheet_59 rfl ?_
                refine lv_icmp_le (tgt := 70) hx hb dX3_sheet_61 (by decide) (fun hc => ?_) (fun hc => ?_)
                · have hf := fg_ifT hf hc
                  refine lv_aload_n hx hb dX3_sheet_70 rfl (lv_at hl 1 rfl) ?_
                  refine fg_get (C := RX3) (T := TX3) (N := 7) S vu_X3 hK h fg_p3_0 rfl rfl 5 (by decide) vf_RX3_35 rfl rfl dX3_sheet_71 ?_
                  refine lv_iload_n hx hb dX3_sheet_74 rfl (lv_at hl 2 rfl) ?_
                  obtain ⟨hn64, hf⟩ := fg_gdE hf
                  refine fg_aald hx hb hK h hn64 dX3_sheet_75 ?_
                  refine lv_iload_n hx hb dX3_sheet_76 rfl (lv_at hl 3 rfl) ?_
                  refine lv_iload_n hx hb dX3_sheet_77 rfl (lv_at hl 4 rfl) ?_
                  obtain ⟨w65, hc66, hf⟩ := fg_bvE hf
                  refine fg_cv h (fg_runV (rest := []) S hK h (c_X0_begin l D g a1.toNatClampNeg a2 a3 (fg_vlt hn64) w58 w65 hc66) vg_RX3_198 vd_X0_begin ⟨by decide, by decide⟩ (fg_p0_0 (fg_vlt hn64)) rfl rfl rfl hl.1 rfl (Nat.le_of_ble_eq_true rfl) dX3_sheet_78 ⟨Nat.zero_le _, Nat.zero_le _⟩) (fun H locs h => ?_)
                  refine lv_aload_n hx hb dX3_sheet_81 rfl (lv_at hl 1 rfl) ?_
                  refine fg_get (C := RX3) (T := TX3) (N := 7) S vu_X3 hK h fg_p3_0 rfl rfl 5 (by decide) vf_RX3_35 rfl rfl dX3_sheet_82 ?_
                  refine lv_iload_n hx hb dX3_sheet_85 rfl (lv_at hl 2 rfl) ?_
                  obtain ⟨hn67, hf⟩ := fg_gdE hf
                  refine fg_aald hx hb hK h hn67 dX3_sheet_86 ?_
                  refine fg_get (C := RX0) (T := TX0) (N := 3) S vu_X0 hK h (fg_p0_0 (fg_vlt hn67)) rfl rfl 1 (by decide) vf_RX3_202 rfl rfl dX3_sheet_87 ?_
                  exact fg_reti hx hb hr hlk hK h hf dX3_sheet_90
                · have hf := fg_ifF hf hc
                  refine lv_aload_n hx hb dX3_sheet_64 rfl (lv_at hl 1 rfl) ?_
                  refine lv_iconst (v := 0) hx hb dX3_sheet_65 rfl ?_
                  obtain ⟨r70, w68, hc69, hf⟩ := fg_biE hf
                  refine fg_ci h (fg_runV (rest := []) S hK h (c_X3_finding l D g 0  w58 r70 w68 hc69) vg_RX3_48 vd_X3_finding ⟨by decide, by decide⟩ fg_p3_0 rfl rfl rfl hl.1 rfl (Nat.le_of_ble_eq_true rfl) dX3_sheet_66 ⟨Nat.zero_le _, Nat.zero_le _⟩) (fun H locs h => ?_)
                  exact fg_reti hx hb hr hlk hK h hf dX3_sheet_69
              · have hf := fg_ifF hf hc
                refine lv_aload_n hx hb dX3_sheet_51 rfl (lv_at hl 1 rfl) ?_
                refine lv_bipush (v := 6) hx hb dX3_sheet_52 rfl ?_
                obtain ⟨r73, w71, hc72, hf⟩ := fg_biE hf
                refine fg_ci h (fg_runV (rest := []) S hK h (c_X3_finding l D g 6  w58 r73 w71 hc72) vg_RX3_48 vd_X3_finding ⟨by decide, by decide⟩ fg_p3_0 rfl rfl rfl hl.1 rfl (Nat.le_of_ble_eq_true rfl) dX3_sheet_54 ⟨Nat.zero_le _, Nat.zero_le _⟩) (fun H locs h => ?_)
                exact fg_reti hx hb hr hlk hK h hf dX3_sheet_57
            · exact absurd hc (by decide)
set_option maxHeartbeats 4000000 in
set_option maxRecDepth 100000 in
theorem c_X3_write (l : Launch) (D : va_G) (g : fg_G) (a1 : Int32) (a2 : Int32) (a3 : Int32) (w : fg_W) (r : Int32) (w' : fg_W) (hf : f_X3_write a1 a2 a3 w = some (r, w')) : fg_M l yX3_write cX3_write 4 (some .int) 1 22 D g [.ref (g.1 3 0 0), .int a1, .int a2, .int a3] w (fg_Qi D g r w') := by
  refine fg_M.of rfl (Nat.le_of_ble_eq_true rfl) (fun p e s m below meth c ls S hr hlk hK h hl => ?_)
  have hx := S.1
  have hb := S.2.1
  have hl : lv_has ls 4 [(0, .ref (g.1 3 0 0)), (1, .int a1), (2, .int a2), (3, .int a3)] := hl
  unfold f_X3_write at hf
  refine lv_iload_n hx hb dX3_write_0 rfl (lv_at hl 1 rfl) ?_
  obtain ⟨r3, w1, hc2, hf⟩ := fg_biE hf
  refine fg_ci h (fg_runS (rest := []) S hK h (c_X3_isSheet l D g a1  w r3 w1 hc2) vk_X3_isSheet vm_RX3_195 vs_X3_isSheet vi_RX3 vd_X3_isSheet.2 ⟨by decide, by decide⟩ rfl hl.1 rfl (Nat.le_of_ble_eq_true rfl) dX3_write_1 ⟨Nat.zero_le _, Nat.zero_le _⟩) (fun H locs h => ?_)
  refine lv_if_ne (tgt := 13) hx hb dX3_write_4 (by decide) (fun hc => ?_) (fun hc => ?_)
  · have hf := fg_ifF hf hc
    refine lv_aload_n hx hb dX3_write_13 rfl (lv_at hl 0 rfl) ?_
    refine fg_get (C := RX3) (T := TX3) (N := 7) S vu_X3 hK h fg_p3_0 rfl rfl 5 (by decide) vf_RX3_35 rfl rfl dX3_write_14 ?_
    refine lv_iload_n hx hb dX3_write_17 rfl (lv_at hl 1 rfl) ?_
    obtain ⟨hn4, hf⟩ := fg_gdE hf
    refine fg_aald hx hb hK h hn4 dX3_write_18 ?_
    obtain ⟨r7, w5, hc6, hf⟩ := fg_biE hf
    refine fg_ci h (fg_runV (rest := []) S hK h (c_X0_isMissing l D g a1.toNatClampNeg (fg_vlt hn4) w1 r7 w5 hc6) vg_RX3_203 vd_X0_isMissing ⟨by decide, by decide⟩ (fg_p0_0 (fg_vlt hn4)) rfl rfl rfl hl.1 rfl (Nat.le_of_ble_eq_true rfl) dX3_write_19 ⟨Nat.zero_le _, Nat.zero_le _⟩) (fun H locs h => ?_)
    refine lv_if_eq (tgt := 31) hx hb dX3_write_22 (by decide) (fun hc => ?_) (fun hc => ?_)
    · have hf := fg_ifT hf hc
      refine lv_iload_n hx hb dX3_write_31 rfl (lv_at hl 2 rfl) ?_
      refine lv_iconst (v := 0) hx hb dX3_write_32 rfl ?_
      refine lv_aload_n hx hb dX3_write_33 rfl (lv_at hl 0 rfl) ?_
      refine fg_get (C := RX3) (T := TX3) (N := 7) S vu_X3 hK h fg_p3_0 rfl rfl 5 (by decide) vf_RX3_35 rfl rfl dX3_write_34 ?_
      refine lv_iload_n hx hb dX3_write_37 rfl (lv_at hl 1 rfl) ?_
      obtain ⟨hn8, hf⟩ := fg_gdE hf
      refine fg_aald hx hb hK h hn8 dX3_write_38 ?_
      refine fg_get (C := RX0) (T := TX0) (N := 3) S vu_X0 hK h (fg_p0_0 (fg_vlt hn8)) rfl rfl 1 (by decide) vf_RX3_202 rfl rfl dX3_write_39 ?_
      refine lv_iconst (v := 1) hx hb dX3_write_42 rfl ?_
      refine lv_isub hx hb dX3_write_43 ?_
      obtain ⟨r11, w9, hc10, hf⟩ := fg_biE hf
      refine fg_ci h (fg_runS (rest := []) S hK h (c_X3_within l D g a2 0 ((w5.1 0 a1.toNatClampNeg 0 1) - 1)  w5 r11 w9 hc10) vk_X3_within vm_RX3_52 vs_X3_within vi_RX3 vd_X3_within.2 ⟨by decide, by decide⟩ rfl hl.1 rfl (Nat.le_of_ble_eq_true rfl) dX3_write_44 ⟨Nat.zero_le _, Nat.zero_le _⟩) (fun H locs h => ?_)
      refine lv_if_ne (tgt := 56) hx hb dX3_write_47 (by decide) (fun hc => ?_) (fun hc => ?_)
      · have hf := fg_ifF hf hc
        refine lv_aload_n hx hb dX3_write_56 rfl (lv_at hl 0 rfl) ?_
        refine fg_get (C := RX3) (T := TX3) (N := 7) S vu_X3 hK h fg_p3_0 rfl rfl 5 (by decide) vf_RX3_35 rfl rfl dX3_write_57 ?_
        refine lv_iload_n hx hb dX3_write_60 rfl (lv_at hl 1 rfl) ?_
        obtain ⟨hn12, hf⟩ := fg_gdE hf
        refine fg_aald hx hb hK h hn12 dX3_write_61 ?_
        refine lv_iload_n hx hb dX3_write_62 rfl (lv_at hl 2 rfl) ?_
        refine lv_iload_n hx hb dX3_write_63 rfl (lv_at hl 3 rfl) ?_
        obtain ⟨w13, hc14, hf⟩ := fg_bvE hf
        refine fg_cv h (fg_runV (rest := []) S hK h (c_X0_put l D g a1.toNatClampNeg a2 a3 (fg_vlt hn12) w9 w13 hc14) vg_RX3_207 vd_X0_put ⟨by decide, by decide⟩ (fg_p0_0 (fg_vlt hn12)) rfl rfl rfl hl.1 rfl (Nat.le_of_ble_eq_true rfl) dX3_write_64 ⟨Nat.zero_le _, Nat.zero_le _⟩) (fun H locs h => ?_)
        refine lv_iconst (v := 1) hx hb dX3_write_67 rfl ?_
        exact fg_reti hx hb hr hlk hK h hf dX3_write_68
      · have hf := fg_ifT hf hc
        refine lv_aload_n hx hb dX3_write_50 rfl (lv_at hl 0 rfl) ?_
        refine lv_iconst (v := 0) hx hb dX3_write_51 rfl ?_
        obtain ⟨r17, w15, hc16, hf⟩ := fg_biE hf
        refine fg_ci h (fg_runV (rest := []) S hK h (c_X3_finding l D g 0  w9 r17 w15 hc16) vg_RX3_48 vd_X3_finding ⟨by decide, by decide⟩ fg_p3_0 rfl rfl rfl hl.1 rfl (Nat.le_of_ble_eq_true rfl) dX3_write_52 ⟨Nat.zero_le _, Nat.zero_le _⟩) (fun H locs h => ?_)
        exact fg_reti hx hb hr hlk hK h hf dX3_write_55
    · have hf := fg_ifF hf hc
      refine lv_aload_n hx hb dX3_write_25 rfl (lv_at hl 0 rfl) ?_
      refine lv_iconst (v := 5) hx hb dX3_write_26 rfl ?_
      obtain ⟨r20, w18, hc19, hf⟩ := fg_biE hf
      refine fg_ci h (fg_runV (rest := []) S hK h (c_X3_finding l D g 5  w5 r20 w18 hc19) vg_RX3_48 vd_X3_finding ⟨by decide, by decide⟩ fg_p3_0 rfl rfl rfl hl.1 rfl (Nat.le_of_ble_eq_true rfl) dX3_write_27 ⟨Nat.zero_le _, Nat.zero_le _⟩) (fun H locs h => ?_)
      exact fg_reti hx hb hr hlk hK h hf dX3_write_30
  · have hf := fg_ifT hf hc
    refine lv_aload_n hx hb dX3_write_7 rfl (lv_at hl 0 rfl) ?_
    refine lv_iconst (v := 0) hx hb dX3_write_8 rfl ?_
    obtain ⟨r23, w21, hc22, hf⟩ := fg_biE hf
    refine fg_ci h (fg_runV (rest := []) S hK h (c_X3_finding l D g 0  w1 r23 w21 hc22) vg_RX3_48 vd_X3_finding ⟨by decide, by decide⟩ fg_p3_0 rfl rfl rfl hl.1 rfl (Nat.le_of_ble_eq_true rfl) dX3_write_9 ⟨Nat.zero_le _, Nat.zero_le _⟩) (fun H locs h => ?_)
    exact fg_reti hx hb hr hlk hK h hf dX3_write_12
set_option maxHeartbeats 4000000 in
set_option maxRecDepth 100000 in
theorem c_X3_copy (l : Launch) (D : va_G) (g : fg_G) (a1 : Int32) (a2 : Int32) (a3 : Int32) (a4 : Int32) (a5 : Int32) (w : fg_W) (r : Int32) (w' : fg_W) (hf : f_X3_copy a1 a2 a3 a4 a5 w = some (r, w')) : fg_M l yX3_copy cX3_copy 6 (some .int) 1 40 D g [.ref (g.1 3 0 0), .int a1, .int a2, .int a3, .int a4, .int a5] w (fg_Qi D g r w') := by
  refine fg_M.of rfl (Nat.le_of_ble_eq_true rfl) (fun p e s m below meth c ls S hr hlk hK h hl => ?_)
  have hx := S.1
  have hb := S.2.1
  have hl : lv_has ls 6 [(0, .ref (g.1 3 0 0)), (1, .int a1), (2, .int a2), (3, .int a3), (4, .int a4), (5, .int a5)] := hl
  unfold f_X3_copy at hf
  refine lv_iload_n hx hb dX3_copy_0 rfl (lv_at hl 1 rfl) ?_
  obtain ⟨r3, w1, hc2, hf⟩ := fg_biE hf
  refine fg_ci h (fg_runS (rest := []) S hK h (c_X3_isSheet l D g a1  w r3 w1 hc2) vk_X3_isSheet vm_RX3_195 vs_X3_isSheet vi_RX3 vd_X3_isSheet.2 ⟨by decide, by decide⟩ rfl hl.1 rfl (Nat.le_of_ble_eq_true rfl) dX3_copy_1 ⟨Nat.zero_le _, Nat.zero_le _⟩) (fun H locs h => ?_)
  refine lv_if_eq (tgt := 14) hx hb dX3_copy_4 (by decide) (fun hc => ?_) (fun hc => ?_)
  · have hf := fg_ifT hf hc
    refine lv_aload_n hx hb dX3_copy_14 rfl (lv_at hl 0 rfl) ?_
    refine lv_iconst (v := 0) hx hb dX3_copy_15 rfl ?_
    obtain ⟨r6, w4, hc5, hf⟩ := fg_biE hf
    refine fg_ci h (fg_runV (rest := []) S hK h (c_X3_finding l D g 0  w1 r6 w4 hc5) vg_RX3_48 vd_X3_finding ⟨by decide, by decide⟩ fg_p3_0 rfl rfl rfl hl.1 rfl (Nat.le_of_ble_eq_true rfl) dX3_copy_16 ⟨Nat.zero_le _, Nat.zero_le _⟩) (fun H locs h => ?_)
    exact fg_reti hx hb hr hlk hK h hf dX3_copy_19
  · have hf := fg_ifF hf hc
    refine lv_iload_n hx hb dX3_copy_7 rfl (lv_at hl 3 rfl) ?_
    obtain ⟨r9, w7, hc8, hf⟩ := fg_biE hf
    refine fg_ci h (fg_runS (rest := []) S hK h (c_X3_isSheet l D g a3  w1 r9 w7 hc8) vk_X3_isSheet vm_RX3_195 vs_X3_isSheet vi_RX3 vd_X3_isSheet.2 ⟨by decide, by decide⟩ rfl hl.1 rfl (Nat.le_of_ble_eq_true rfl) dX3_copy_8 ⟨Nat.zero_le _, Nat.zero_le _⟩) (fun H locs h => ?_)
    refine lv_if_ne (tgt := 20) hx hb dX3_copy_11 (by decide) (fun hc => ?_) (fun hc => ?_)
    · have hf := fg_ifF hf hc
      refine lv_aload_n hx hb dX3_copy_20 rfl (lv_at hl 0 rfl) ?_
      refine fg_get (C := RX3) (T := TX3) (N := 7) S vu_X3 hK h fg_p3_0 rfl rfl 5 (by decide) vf_RX3_35 rfl rfl dX3_copy_21 ?_
      refine lv_iload_n hx hb dX3_copy_24 rfl (lv_at hl 1 rfl) ?_
      obtain ⟨hn10, hf⟩ := fg_gdE hf
      refine fg_aald hx hb hK h hn10 dX3_copy_25 ?_
      obtain ⟨r13, w11, hc12, hf⟩ := fg_biE hf
      refine fg_ci h (fg_runV (rest := []) S hK h (c_X0_isMissing l D g a1.toNatClampNeg (fg_vlt hn10) w7 r13 w11 hc12) vg_RX3_203 vd_X0_isMissing ⟨by decide, by decide⟩ (fg_p0_0 (fg_vlt hn10)) rfl rfl rfl hl.1 rfl (Nat.le_of_ble_eq_true rfl) dX3_copy_26 ⟨Nat.zero_le _, Nat.zero_le _⟩) (fun H locs h => ?_)
      refine lv_if_ne (tgt := 44) hx hb dX3_copy_29 (by decide) (fun hc => ?_) (fun hc => ?_)
      · have hf := fg_ifF hf hc
        refine lv_aload_n hx hb dX3_copy_44 rfl (lv_at hl 0 rfl) ?_
        refine lv_iconst (v := 5) hx hb dX3_copy_45 rfl ?_
        obtain ⟨r16, w14, hc15, hf⟩ := fg_biE hf
        refine fg_ci h (fg_runV (rest := []) S hK h (c_X3_finding l D g 5  w11 r16 w14 hc15) vg_RX3_48 vd_X3_finding ⟨by decide, by decide⟩ fg_p3_0 rfl rfl rfl hl.1 rfl (Nat.le_of_ble_eq_true rfl) dX3_copy_46 ⟨Nat.zero_le _, Nat.zero_le _⟩) (fun H locs h => ?_)
        exact fg_reti hx hb hr hlk hK h hf dX3_copy_49
      · have hf := fg_ifT hf hc
        refine lv_aload_n hx hb dX3_copy_32 rfl (lv_at hl 0 rfl) ?_
        refine fg_get (C := RX3) (T := TX3) (N := 7) S vu_X3 hK h fg_p3_0 rfl rfl 5 (by decide) vf_RX3_35 rfl rfl dX3_copy_33 ?_
        refine lv_iload_n hx hb dX3_copy_36 rfl (lv_at hl 3 rfl) ?_
        obtain ⟨hn17, hf⟩ := fg_gdE hf
        refine fg_aald hx hb hK h hn17 dX3_copy_37 ?_
        obtain ⟨r20, w18, hc19, hf⟩ := fg_biE hf
        refine fg_ci h (fg_runV (rest := []) S hK h (c_X0_isMissing l D g a3.toNatClampNeg (fg_vlt hn17) w11 r20 w18 hc19) vg_RX3_203 vd_X0_isMissing ⟨by decide, by decide⟩ (fg_p0_0 (fg_vlt hn17)) rfl rfl rfl hl.1 rfl (Nat.le_of_ble_eq_true rfl) dX3_copy_38 ⟨Nat.zero_le _, Nat.zero_le _⟩) (fun H locs h => ?_)
        refine lv_if_eq (tgt := 50) hx hb dX3_copy_41 (by decide) (fun hc => ?_) (fun hc => ?_)
        · have hf := fg_ifT hf hc
          refine lv_aload_n hx hb dX3_copy_50 rfl (lv_at hl 0 rfl) ?_
          refine fg_get (C := RX3) (T := TX3) (N := 7) S vu_X3 hK h fg_p3_0 rfl rfl 5 (by decide) vf_RX3_35 rfl rfl dX3_copy_51 ?_
          refine lv_iload_n hx hb dX3_copy_54 rfl (lv_at hl 1 rfl) ?_
          obtain ⟨hn21, hf⟩ := fg_gdE hf
          refine fg_aald hx hb hK h hn21 dX3_copy_55 ?_
          refine fg_get (C := RX0) (T := TX0) (N := 3) S vu_X0 hK h (fg_p0_0 (fg_vlt hn21)) rfl rfl 0 (by decide) vf_RX3_210 rfl rfl dX3_copy_56 ?_
          refine lv_aload_n hx hb dX3_copy_59 rfl (lv_at hl 0 rfl) ?_
          refine fg_get (C := RX3) (T := TX3) (N := 7) S vu_X3 hK h fg_p3_0 rfl rfl 5 (by decide) vf_RX3_35 rfl rfl dX3_copy_60 ?_
          refine lv_iload_n hx hb dX3_copy_63 rfl (lv_at hl 3 rfl) ?_
          obtain ⟨hn22, hf⟩ := fg_gdE hf
          refine fg_aald hx hb hK h hn22 dX3_copy_64 ?_
          refine fg_get (C := RX0) (T := TX0) (N := 3) S vu_X0 hK h (fg_p0_0 (fg_vlt hn22)) rfl rfl 0 (by decide) vf_RX3_210 rfl rfl dX3_copy_65 ?_
          refine lv_icmp_eq (tgt := 77) hx hb dX3_copy_68 (by decide) (fun hc => ?_) (fun hc => ?_)
          · have hf := fg_ifT hf hc
            refine lv_aload_n hx hb dX3_copy_77 rfl (lv_at hl 0 rfl) ?_
            refine fg_get (C := RX3) (T := TX3) (N := 7) S vu_X3 hK h fg_p3_0 rfl rfl 5 (by decide) vf_RX3_35 rfl rfl dX3_copy_78 ?_
            refine lv_iload_n hx hb dX3_copy_81 rfl (lv_at hl 1 rfl) ?_
            obtain ⟨hn23, hf⟩ := fg_gdE hf
            refine fg_aald hx hb hK h hn23 dX3_copy_82 ?_
            refine lv_iload_n hx hb dX3_copy_83 rfl (lv_at hl 2 rfl) ?_
            refine lv_iload hx hb dX3_copy_84 (lv_at hl 5 rfl) ?_
            obtain ⟨r26, w24, hc25, hf⟩ := fg_biE hf
            refine fg_ci h (fg_runV (rest := []) S hK h (c_X0_has l D g a1.toNatClampNeg a2 a5 (fg_vlt hn23) w18 r26 w24 hc25) vg_RX3_213 vd_X0_has ⟨by decide, by decide⟩ (fg_p0_0 (fg_vlt hn23)) rfl rfl rfl hl.1 rfl (Nat.le_of_ble_eq_true rfl) dX3_copy_86 ⟨Nat.zero_le _, Nat.zero_le _⟩) (fun H locs h => ?_)
            refine lv_if_eq (tgt := 108) hx hb dX3_copy_89 (by decide) (fun hc => ?_) (fun hc => ?_)
            · have hf := fg_ifT hf hc
              refine lv_aload_n hx hb dX3_copy_108 rfl (lv_at hl 0 rfl) ?_
              refine lv_iconst (v := 0) hx hb dX3_copy_109 rfl ?_
              obtain ⟨r29, w27, hc28, hf⟩ := fg_biE hf
              refine fg_ci h (fg_runV (rest := []) S hK h (c_X3_finding l D g 0  w24 r29 w27 hc28) vg_RX3_48 vd_X3_finding ⟨by decide, by decide⟩ fg_p3_0 rfl rfl rfl hl.1 rfl (Nat.le_of_ble_eq_true rfl) dX3_copy_110 ⟨Nat.zero_le _, Nat.zero_le _⟩) (fun H locs h => ?_)
              exact fg_reti hx hb hr hlk hK h hf dX3_copy_113
            · have hf := fg_ifF hf hc
              refine lv_aload_n hx hb dX3_copy_92 rfl (lv_at hl 0 rfl) ?_
              refine fg_get (C := RX3) (T := TX3) (N := 7) S vu_X3 hK h fg_p3_0 rfl rfl 5 (by decide) vf_RX3_35 rfl rfl dX3_copy_93 ?_
              refine lv_iload_n hx hb dX3_copy_96 rfl (lv_at hl 3 rfl) ?_
              obtain ⟨hn30, hf⟩ := fg_gdE hf
              refine fg_aald hx hb hK h hn30 dX3_copy_97 ?_
              refine lv_iload hx hb dX3_copy_98 (lv_at hl 4 rfl) ?_
              refine lv_iload hx hb dX3_copy_100 (lv_at hl 5 rfl) ?_
              obtain ⟨r33, w31, hc32, hf⟩ := fg_biE hf
              refine fg_ci h (fg_runV (rest := []) S hK h (c_X0_has l D g a3.toNatClampNeg a4 a5 (fg_vlt hn30) w24 r33 w31 hc32) vg_RX3_213 vd_X0_has ⟨by decide, by decide⟩ (fg_p0_0 (fg_vlt hn30)) rfl rfl rfl hl.1 rfl (Nat.le_of_ble_eq_true rfl) dX3_copy_102 ⟨Nat.zero_le _, Nat.zero_le _⟩) (fun H locs h => ?_)
              refine lv_if_ne (tgt := 114) hx hb dX3_copy_105 (by decide) (fun hc => ?_) (fun hc => ?_)
              · have hf := fg_ifF hf hc
                refine lv_aload_n hx hb dX3_copy_114 rfl (lv_at hl 0 rfl) ?_
                refine fg_get (C := RX3) (T := TX3) (N := 7) S vu_X3 hK h fg_p3_0 rfl rfl 5 (by decide) vf_RX3_35 rfl rfl dX3_copy_115 ?_
                refine lv_iload_n hx hb dX3_copy_118 rfl (lv_at hl 1 rfl) ?_
                obtain ⟨hn34, hf⟩ := fg_gdE hf
                refine fg_aald hx hb hK h hn34 dX3_copy_119 ?_
                refine fg_get (C := RX0) (T := TX0) (N := 3) S vu_X0 hK h (fg_p0_0 (fg_vlt hn34)) rfl rfl 2 (by decide) vf_RX3_216 rfl rfl dX3_copy_120 ?_
                refine lv_iload_n hx hb dX3_copy_123 rfl (lv_at hl 2 rfl) ?_
                refine lv_aload_n hx hb dX3_copy_124 rfl (lv_at hl 0 rfl) ?_
                refine fg_get (C := RX3) (T := TX3) (N := 7) S vu_X3 hK h fg_p3_0 rfl rfl 5 (by decide) vf_RX3_35 rfl rfl dX3_copy_125 ?_
                refine lv_iload_n hx hb dX3_copy_128 rfl (lv_at hl 3 rfl) ?_
                obtain ⟨hn35, hf⟩ := fg_gdE hf
                refine fg_aald hx hb hK h hn35 dX3_copy_129 ?_
                refine fg_get (C := RX0) (T := TX0) (N := 3) S vu_X0 hK h (fg_p0_0 (fg_vlt hn35)) rfl rfl 2 (by decide) vf_RX3_216 rfl rfl dX3_copy_130 ?_
                refine lv_iload hx hb dX3_copy_133 (lv_at hl 4 rfl) ?_
                refine lv_iload hx hb dX3_copy_135 (lv_at hl 5 rfl) ?_
                obtain ⟨hn37, hf⟩ := fg_gpE hf
                refine fg_copy S hK h (fg_p0_1 (fg_vlt hn34)) (fun _ => rfl) (fg_p0_1 (fg_vlt hn35)) (fun _ => rfl) rfl rfl rfl hn37.1 hn37.2.1 hn37.2.2.1 hn37.2.2.2.1 hn37.2.2.2.2 vm_RX3_219 hl.1 (by decide) (Nat.le_of_ble_eq_true rfl) dX3_copy_137 (fun w36 H locs ew h => ?_)
                have hf := fg_letE ew hf
                refine lv_iload hx hb dX3_copy_140 (lv_at hl 5 rfl) ?_
                exact fg_reti hx hb hr hlk hK h hf dX3_copy_142
              · have hf := fg_ifT hf hc
                refine lv_aload_n hx hb dX3_copy_108 rfl (lv_at hl 0 rfl) ?_
                refine lv_iconst (v := 0) hx hb dX3_copy_109 rfl ?_
                obtain ⟨r40, w38, hc39, hf⟩ := fg_biE hf
                refine fg_ci h (fg_runV (rest := []) S hK h (c_X3_finding l D g 0  w31 r40 w38 hc39) vg_RX3_48 vd_X3_finding ⟨by decide, by decide⟩ fg_p3_0 rfl rfl rfl hl.1 rfl (Nat.le_of_ble_eq_true rfl) dX3_copy_110 ⟨Nat.zero_le _, Nat.zero_le _⟩) (fun H locs h => ?_)
                exact fg_reti hx hb hr hlk hK h hf dX3_copy_113
          · have hf := fg_ifF hf hc
            refine lv_aload_n hx hb dX3_copy_71 rfl (lv_at hl 0 rfl) ?_
            refine lv_iconst (v := 2) hx hb dX3_copy_72 rfl ?_
            obtain ⟨r43, w41, hc42, hf⟩ := fg_biE hf
            refine fg_ci h (fg_runV (rest := []) S hK h (c_X3_finding l D g 2  w18 r43 w41 hc42) vg_RX3_48 vd_X3_finding ⟨by decide, by decide⟩ fg_p3_0 rfl rfl rfl hl.1 rfl (Nat.le_of_ble_eq_true rfl) dX3_copy_73 ⟨Nat.zero_le _, Nat.zero_le _⟩) (fun H locs h => ?_)
            exact fg_reti hx hb hr hlk hK h hf dX3_copy_76
        · have hf := fg_ifF hf hc
          refine lv_aload_n hx hb dX3_copy_44 rfl (lv_at hl 0 rfl) ?_
          refine lv_iconst (v := 5) hx hb dX3_copy_45 rfl ?_
          obtain ⟨r46, w44, hc45, hf⟩ := fg_biE hf
          refine fg_ci h (fg_runV (rest := []) S hK h (c_X3_finding l D g 5  w18 r46 w44 hc45) vg_RX3_48 vd_X3_finding ⟨by decide, by decide⟩ fg_p3_0 rfl rfl rfl hl.1 rfl (Nat.le_of_ble_eq_true rfl) dX3_copy_46 ⟨Nat.zero_le _, Nat.zero_le _⟩) (fun H locs h => ?_)
          exact fg_reti hx hb hr hlk hK h hf dX3_copy_49
    · have hf := fg_ifT hf hc
      refine lv_aload_n hx hb dX3_copy_14 rfl (lv_at hl 0 rfl) ?_
      refine lv_iconst (v := 0) hx hb dX3_copy_15 rfl ?_
      obtain ⟨r49, w47, hc48, hf⟩ := fg_biE hf
      refine fg_ci h (fg_runV (rest := []) S hK h (c_X3_finding l D g 0  w7 r49 w47 hc48) vg_RX3_48 vd_X3_finding ⟨by decide, by decide⟩ fg_p3_0 rfl rfl rfl hl.1 rfl (Nat.le_of_ble_eq_true rfl) dX3_copy_16 ⟨Nat.zero_le _, Nat.zero_le _⟩) (fun H locs h => ?_)
      exact fg_reti hx hb hr hlk hK h hf dX3_copy_19
set_option maxHeartbeats 4000000 in
set_option maxRecDepth 100000 in
theorem c_X3_load (l : Launch) (D : va_G) (g : fg_G) (a1 : Int32) (w : fg_W) (r : Int32) (w' : fg_W) (hf : f_X3_load a1 w = some (r, w')) : fg_M l yX3_load cX3_load 4 (some .int) 1 22 D g [.ref (g.1 3 0 0), .int a1] w (fg_Qi D g r w') := by
  refine fg_M.of rfl (Nat.le_of_ble_eq_true rfl) (fun p e s m below meth c ls S hr hlk hK h hl => ?_)
  have hx := S.1
  have hb := S.2.1
  have hl : lv_has ls 4 [(0, .ref (g.1 3 0 0)), (1, .int a1)] := hl
  unfold f_X3_load at hf
  refine lv_iload_n hx hb dX3_load_0 rfl (lv_at hl 1 rfl) ?_
  obtain ⟨r3, w1, hc2, hf⟩ := fg_biE hf
  refine fg_ci h (fg_runS (rest := []) S hK h (c_X3_isSheet l D g a1  w r3 w1 hc2) vk_X3_isSheet vm_RX3_195 vs_X3_isSheet vi_RX3 vd_X3_isSheet.2 ⟨by decide, by decide⟩ rfl hl.1 rfl (Nat.le_of_ble_eq_true rfl) dX3_load_1 ⟨Nat.zero_le _, Nat.zero_le _⟩) (fun H locs h => ?_)
  refine lv_if_ne (tgt := 13) hx hb dX3_load_4 (by decide) (fun hc => ?_) (fun hc => ?_)
  · have hf := fg_ifF hf hc
    refine lv_aload_n hx hb dX3_load_13 rfl (lv_at hl 0 rfl) ?_
    refine fg_get (C := RX3) (T := TX3) (N := 7) S vu_X3 hK h fg_p3_0 rfl rfl 5 (by decide) vf_RX3_35 rfl rfl dX3_load_14 ?_
    refine lv_iload_n hx hb dX3_load_17 rfl (lv_at hl 1 rfl) ?_
    obtain ⟨hn4, hf⟩ := fg_gdE hf
    refine fg_aald hx hb hK h hn4 dX3_load_18 ?_
    refine lv_astore_n (lv' := [(2, .ref (g.1 0 a1.toNatClampNeg 0)), (0, .ref (g.1 3 0 0)), (1, .int a1)]) hx hb dX3_load_19 rfl hl (by decide) rfl (fun ls hl => ?_)
    refine lv_aload_n hx hb dX3_load_20 rfl (lv_at hl 0 rfl) ?_
    obtain ⟨r7, w5, hc6, hf⟩ := fg_biE hf
    refine fg_ci h (fg_runV (rest := []) S hK h (c_X0_isMissing l D g a1.toNatClampNeg (fg_vlt hn4) w1 r7 w5 hc6) vg_RX3_203 vd_X0_isMissing ⟨by decide, by decide⟩ (fg_p0_0 (fg_vlt hn4)) rfl rfl rfl hl.1 rfl (Nat.le_of_ble_eq_true rfl) dX3_load_21 ⟨Nat.zero_le _, Nat.zero_le _⟩) (fun H locs h => ?_)
    refine lv_if_eq (tgt := 33) hx hb dX3_load_24 (by decide) (fun hc => ?_) (fun hc => ?_)
    · have hf := fg_ifT hf hc
      refine lv_iconst (v := 0) hx hb dX3_load_33 rfl ?_
      refine lv_istore_n (lv' := [(3, .int 0), (2, .ref (g.1 0 a1.toNatClampNeg 0)), (0, .ref (g.1 3 0 0)), (1, .int a1)]) hx hb dX3_load_34 rfl hl (by decide) rfl (fun ls hl => ?_)
      have hK_35 : ∀ (v3_35 : Int32) (w_35 : fg_W) (H : Heap) (locs : List Loc) (ls : Array Slot), fg_H D g s.heap w_35 H locs → lv_has ls 4 [(0, .ref (g.1 3 0 0)), (1, .int a1), (2, .ref (g.1 0 a1.toNatClampNeg 0)), (3, .int v3_35)] → (some (v3_35, w_35)) = some (r, w') → fg_Gi p l e 1 22 s m [.ref (g.1 3 0 0), .int a1] below meth c D g r w' H locs 85 ls [] := by
        intro v3_35 w_35 H locs ls h hl hf
        refine lv_iload_n hx hb dX3_load_85 rfl (lv_at hl 3 rfl) ?_
        exact fg_reti hx hb hr hlk hK h hf dX3_load_86
      have hL_35 : ∀ (KK_35 : Int32 → fg_W → Option (Int32 × fg_W)) (hK_35 : ∀ (v3_35 : Int32) (w_35 : fg_W) (H : Heap) (locs : List Loc) (ls : Array Slot), fg_H D g s.heap w_35 H locs → lv_has ls 4 [(0, .ref (g.1 3 0 0)), (1, .int a1), (2, .ref (g.1 0 a1.toNatClampNeg 0)), (3, .int v3_35)] → KK_35 v3_35 w_35 = some (r, w') → fg_Gi p l e 1 22 s m [.ref (g.1 3 0 0), .int a1] below meth c D g r w' H locs 85 ls []) (n : Nat) (v3_35 : Int32) (w_35 : fg_W) (H : Heap) (locs : List Loc) (ls : Array Slot), fg_H D g s.heap w_35 H locs → lv_has ls 4 [(0, .ref (g.1 3 0 0)), (1, .int a1), (2, .ref (g.1 0 a1.toNatClampNeg 0)), (3, .int v3_35)] → f_X3_load_L35 a1.toNatClampNeg KK_35 n v3_35 w_35 = some (r, w') → fg_Gi p l e 1 22 s m [.ref (g.1 3 0 0), .int a1] below meth c D g r w' H locs 35 ls [] := by
        intro KK_35 hK_35 n
        induction n with
        | zero => intro v3_35 w_35 H locs ls h hl hf; exact fg_no hf
        | succ n_35 ih_35 =>
          intro v3_35 w_35 H locs ls h hl hf
          unfold f_X3_load_L35 at hf
          refine lv_iload_n hx hb dX3_load_35 rfl (lv_at hl 3 rfl) ?_
          refine lv_bipush (v := 10) hx hb dX3_load_36 rfl ?_
          refine lv_icmp_ge (tgt := 85) hx hb dX3_load_38 (by decide) (fun hc => ?_) (fun hc => ?_)
          · have hf := fg_ifT hf hc
            exact hK_35 v3_35 w_35 _ _ ls h (lv_sub hl [0, 1, 2, 3] rfl) hf
          · have hf := fg_ifF hf hc
            refine lv_iload_n hx hb dX3_load_41 rfl (lv_at hl 3 rfl) ?_
            refine lv_aload_n hx hb dX3_load_42 rfl (lv_at hl 2 rfl) ?_
            refine fg_get (C := RX0) (T := TX0) (N := 3) S vu_X0 hK h (fg_p0_0 (fg_vlt hn4)) rfl rfl 1 (by decide) vf_RX3_202 rfl rfl dX3_load_43 ?_
            refine lv_icmp_ge (tgt := 85) hx hb dX3_load_46 (by decide) (fun hc => ?_) (fun hc => ?_)
            · have hf := fg_ifT hf hc
              exact hK_35 v3_35 w_35 _ _ ls h (lv_sub hl [0, 1, 2, 3] rfl) hf
            · have hf := fg_ifF hf hc
              refine lv_aload_n hx hb dX3_load_49 rfl (lv_at hl 2 rfl) ?_
              refine fg_get (C := RX0) (T := TX0) (N := 3) S vu_X0 hK h (fg_p0_0 (fg_vlt hn4)) rfl rfl 2 (by decide) vf_RX3_216 rfl rfl dX3_load_50 ?_
              refine lv_iload_n hx hb dX3_load_53 rfl (lv_at hl 3 rfl) ?_
              obtain ⟨hn15, hf⟩ := fg_gdE hf
              refine fg_iald hx hb hK h (fg_p0_1 (fg_vlt hn4)) (fun _ => rfl) hn15 dX3_load_54 ?_
              refine lv_iconst (v := 0) hx hb dX3_load_55 rfl ?_
              refine lv_bipush (v := 99) hx hb dX3_load_56 rfl ?_
              obtain ⟨r18, w16, hc17, hf⟩ := fg_biE hf
              refine fg_ci h (fg_runS (rest := []) S hK h (c_X3_within l D g (w_35.1 0 a1.toNatClampNeg 1 v3_35.toNatClampNeg) 0 99  w_35 r18 w16 hc17) vk_X3_within vm_RX3_52 vs_X3_within vi_RX3 vd_X3_within.2 ⟨by decide, by decide⟩ rfl hl.1 rfl (Nat.le_of_ble_eq_true rfl) dX3_load_58 ⟨Nat.zero_le _, Nat.zero_le _⟩) (fun H locs h => ?_)
              refine lv_if_eq (tgt := 85) hx hb dX3_load_61 (by decide) (fun hc => ?_) (fun hc => ?_)
              · have hf := fg_ifT hf hc
                exact hK_35 v3_35 w16 _ _ ls h (lv_sub hl [0, 1, 2, 3] rfl) hf
              · have hf := fg_ifF hf hc
                refine lv_aload_n hx hb dX3_load_64 rfl (lv_at hl 0 rfl) ?_
                refine fg_get (C := RX3) (T := TX3) (N := 7) S vu_X3 hK h fg_p3_0 rfl rfl 0 (by decide) vf_RX3_10 rfl rfl dX3_load_65 ?_
                refine fg_get (C := RX2) (T := TX2) (N := 16) S vu_X2 hK h (fg_p2_0 (by decide)) rfl rfl 0 (by decide) vf_RX3_56 rfl rfl dX3_load_68 ?_
                refine lv_iload_n hx hb dX3_load_71 rfl (lv_at hl 3 rfl) ?_
                refine lv_aload_n hx hb dX3_load_72 rfl (lv_at hl 2 rfl) ?_
                refine fg_get (C := RX0) (T := TX0) (N := 3) S vu_X0 hK h (fg_p0_0 (fg_vlt hn4)) rfl rfl 2 (by decide) vf_RX3_216 rfl rfl dX3_load_73 ?_
                refine lv_iload_n hx hb dX3_load_76 rfl (lv_at hl 3 rfl) ?_
                obtain ⟨hn19, hf⟩ := fg_gdE hf
                refine fg_iald hx hb hK h (fg_p0_1 (fg_vlt hn4)) (fun _ => rfl) hn19 dX3_load_77 ?_
                obtain ⟨hn21, hf⟩ := fg_gdE hf
                refine fg_iast hx hb hK h (fg_p2_1 (by decide)) (fun _ => rfl) hn21 dX3_load_78 (fun w20 H locs ew h => ?_)
                have hf := fg_letE ew hf
                refine lv_iinc (v := (v3_35 + 1)) (lv' := [(3, .int (v3_35 + 1)), (0, .ref (g.1 3 0 0)), (1, .int a1), (2, .ref (g.1 0 a1.toNatClampNeg 0))]) hx hb dX3_load_79 hl (k := 3) rfl rfl (by decide) rfl (fun ls hl => ?_)
                refine lv_goto (tgt := 35) hx hb dX3_load_82 (by decide) ?_
                exact ih_35 (v3_35 + 1) w20 _ _ ls h (lv_sub hl [1, 2, 3, 0] rfl) hf
      exact hL_35 _ hK_35 fg_fuel 0 w5 _ _ ls h (lv_sub hl [2, 3, 1, 0] rfl) hf
    · have hf := fg_ifF hf hc
      refine lv_aload_n hx hb dX3_load_27 rfl (lv_at hl 1 rfl) ?_
      refine lv_iconst (v := 5) hx hb dX3_load_28 rfl ?_
      obtain ⟨r24, w22, hc23, hf⟩ := fg_biE hf
      refine fg_ci h (fg_runV (rest := []) S hK h (c_X3_finding l D g 5  w5 r24 w22 hc23) vg_RX3_48 vd_X3_finding ⟨by decide, by decide⟩ fg_p3_0 rfl rfl rfl hl.1 rfl (Nat.le_of_ble_eq_true rfl) dX3_load_29 ⟨Nat.zero_le _, Nat.zero_le _⟩) (fun H locs h => ?_)
      exact fg_reti hx hb hr hlk hK h hf dX3_load_32
  · have hf := fg_ifT hf hc
    refine lv_aload_n hx hb dX3_load_7 rfl (lv_at hl 0 rfl) ?_
    refine lv_iconst (v := 0) hx hb dX3_load_8 rfl ?_
    obtain ⟨r27, w25, hc26, hf⟩ := fg_biE hf
    refine fg_ci h (fg_runV (rest := []) S hK h (c_X3_finding l D g 0  w1 r27 w25 hc26) vg_RX3_48 vd_X3_finding ⟨by decide, by decide⟩ fg_p3_0 rfl rfl rfl hl.1 rfl (Nat.le_of_ble_eq_true rfl) dX3_load_9 ⟨Nat.zero_le _, Nat.zero_le _⟩) (fun H locs h => ?_)
    exact fg_reti hx hb hr hlk hK h hf dX3_load_12
set_option maxHeartbeats 4000000 in
set_option maxRecDepth 100000 in
theorem c_X3_judge (l : Launch) (D : va_G) (g : fg_G) (a1 : Int32) (w : fg_W) (r : Int32) (w' : fg_W) (hf : f_X3_judge a1 w = some (r, w')) : fg_M l yX3_judge cX3_judge 4 (some .int) 1 21 D g [.ref (g.1 3 0 0), .int a1] w (fg_Qi D g r w') := by
  refine fg_M.of rfl (Nat.le_of_ble_eq_true rfl) (fun p e s m below meth c ls S hr hlk hK h hl => ?_)
  have hx := S.1
  have hb := S.2.1
  have hl : lv_has ls 4 [(0, .ref (g.1 3 0 0)), (1, .int a1)] := hl
  unfold f_X3_judge at hf
  refine lv_iload_n hx hb dX3_judge_0 rfl (lv_at hl 1 rfl) ?_
  obtain ⟨r3, w1, hc2, hf⟩ := fg_biE hf
  refine fg_ci h (fg_runS (rest := []) S hK h (c_X3_isSheet l D g a1  w r3 w1 hc2) vk_X3_isSheet vm_RX3_195 vs_X3_isSheet vi_RX3 vd_X3_isSheet.2 ⟨by decide, by decide⟩ rfl hl.1 rfl (Nat.le_of_ble_eq_true rfl) dX3_judge_1 ⟨Nat.zero_le _, Nat.zero_le _⟩) (fun H locs h => ?_)
  refine lv_if_ne (tgt := 13) hx hb dX3_judge_4 (by decide) (fun hc => ?_) (fun hc => ?_)
  · have hf := fg_ifF hf hc
    refine lv_aload_n hx hb dX3_judge_13 rfl (lv_at hl 0 rfl) ?_
    refine fg_get (C := RX3) (T := TX3) (N := 7) S vu_X3 hK h fg_p3_0 rfl rfl 5 (by decide) vf_RX3_35 rfl rfl dX3_judge_14 ?_
    refine lv_iload_n hx hb dX3_judge_17 rfl (lv_at hl 1 rfl) ?_
    obtain ⟨hn4, hf⟩ := fg_gdE hf
    refine fg_aald hx hb hK h hn4 dX3_judge_18 ?_
    refine lv_astore_n (lv' := [(2, .ref (g.1 0 a1.toNatClampNeg 0)), (0, .ref (g.1 3 0 0)), (1, .int a1)]) hx hb dX3_judge_19 rfl hl (by decide) rfl (fun ls hl => ?_)
    refine lv_aload_n hx hb dX3_judge_20 rfl (lv_at hl 0 rfl) ?_
    obtain ⟨r7, w5, hc6, hf⟩ := fg_biE hf
    refine fg_ci h (fg_runV (rest := []) S hK h (c_X0_isMissing l D g a1.toNatClampNeg (fg_vlt hn4) w1 r7 w5 hc6) vg_RX3_203 vd_X0_isMissing ⟨by decide, by decide⟩ (fg_p0_0 (fg_vlt hn4)) rfl rfl rfl hl.1 rfl (Nat.le_of_ble_eq_true rfl) dX3_judge_21 ⟨Nat.zero_le _, Nat.zero_le _⟩) (fun H locs h => ?_)
    refine lv_if_eq (tgt := 33) hx hb dX3_judge_24 (by decide) (fun hc => ?_) (fun hc => ?_)
    · have hf := fg_ifT hf hc
      refine lv_iconst (v := 0) hx hb dX3_judge_33 rfl ?_
      refine lv_istore_n (lv' := [(3, .int 0), (2, .ref (g.1 0 a1.toNatClampNeg 0)), (0, .ref (g.1 3 0 0)), (1, .int a1)]) hx hb dX3_judge_34 rfl hl (by decide) rfl (fun ls hl => ?_)
      have hK_35 : ∀ (v3_35 : Int32) (w_35 : fg_W) (H : Heap) (locs : List Loc) (ls : Array Slot), fg_H D g s.heap w_35 H locs → lv_has ls 4 [(0, .ref (g.1 3 0 0)), (1, .int a1), (2, .ref (g.1 0 a1.toNatClampNeg 0)), (3, .int v3_35)] → (some (0, w_35)) = some (r, w') → fg_Gi p l e 1 21 s m [.ref (g.1 3 0 0), .int a1] below meth c D g r w' H locs 82 ls [] := by
        intro v3_35 w_35 H locs ls h hl hf
        refine lv_iconst (v := 0) hx hb dX3_judge_82 rfl ?_
        exact fg_reti hx hb hr hlk hK h hf dX3_judge_83
      have hL_35 : ∀ (KK_35 : Int32 → fg_W → Option (Int32 × fg_W)) (hK_35 : ∀ (v3_35 : Int32) (w_35 : fg_W) (H : Heap) (locs : List Loc) (ls : Array Slot), fg_H D g s.heap w_35 H locs → lv_has ls 4 [(0, .ref (g.1 3 0 0)), (1, .int a1), (2, .ref (g.1 0 a1.toNatClampNeg 0)), (3, .int v3_35)] → KK_35 v3_35 w_35 = some (r, w') → fg_Gi p l e 1 21 s m [.ref (g.1 3 0 0), .int a1] below meth c D g r w' H locs 82 ls []) (n : Nat) (v3_35 : Int32) (w_35 : fg_W) (H : Heap) (locs : List Loc) (ls : Array Slot), fg_H D g s.heap w_35 H locs → lv_has ls 4 [(0, .ref (g.1 3 0 0)), (1, .int a1), (2, .ref (g.1 0 a1.toNatClampNeg 0)), (3, .int v3_35)] → f_X3_judge_L35 a1.toNatClampNeg KK_35 n v3_35 w_35 = some (r, w') → fg_Gi p l e 1 21 s m [.ref (g.1 3 0 0), .int a1] below meth c D g r w' H locs 35 ls [] := by
        intro KK_35 hK_35 n
        induction n with
        | zero => intro v3_35 w_35 H locs ls h hl hf; exact fg_no hf
        | succ n_35 ih_35 =>
          intro v3_35 w_35 H locs ls h hl hf
          unfold f_X3_judge_L35 at hf
          refine lv_iload_n hx hb dX3_judge_35 rfl (lv_at hl 3 rfl) ?_
          refine lv_aload_n hx hb dX3_judge_36 rfl (lv_at hl 2 rfl) ?_
          refine fg_get (C := RX0) (T := TX0) (N := 3) S vu_X0 hK h (fg_p0_0 (fg_vlt hn4)) rfl rfl 1 (by decide) vf_RX3_202 rfl rfl dX3_judge_37 ?_
          refine lv_icmp_ge (tgt := 82) hx hb dX3_judge_40 (by decide) (fun hc => ?_) (fun hc => ?_)
          · have hf := fg_ifT hf hc
            exact hK_35 v3_35 w_35 _ _ ls h (lv_sub hl [0, 1, 2, 3] rfl) hf
          · have hf := fg_ifF hf hc
            refine lv_aload_n hx hb dX3_judge_43 rfl (lv_at hl 0 rfl) ?_
            refine fg_get (C := RX3) (T := TX3) (N := 7) S vu_X3 hK h fg_p3_0 rfl rfl 0 (by decide) vf_RX3_10 rfl rfl dX3_judge_44 ?_
            refine lv_iload_n hx hb dX3_judge_47 rfl (lv_at hl 3 rfl) ?_
            obtain ⟨r15, w13, hc14, hf⟩ := fg_biE hf
            refine fg_ci h (fg_runV (rest := []) S hK h (c_X2_isPerson l D g 0 v3_35 (by decide) w_35 r15 w13 hc14) vg_RX3_66 vd_X2_isPerson ⟨by decide, by decide⟩ (fg_p2_0 (by decide)) rfl rfl rfl hl.1 rfl (Nat.le_of_ble_eq_true rfl) dX3_judge_48 ⟨Nat.zero_le _, Nat.zero_le _⟩) (fun H locs h => ?_)
            refine lv_if_eq (tgt := 72) hx hb dX3_judge_51 (by decide) (fun hc => ?_) (fun hc => ?_)
            · have hf := fg_ifT hf hc
              refine lv_iconst (v := 1) hx hb dX3_judge_72 rfl ?_
              refine lv_iload_n hx hb dX3_judge_73 rfl (lv_at hl 3 rfl) ?_
              refine lv_iadd hx hb dX3_judge_74 ?_
              exact fg_reti hx hb hr hlk hK h hf dX3_judge_75
            · have hf := fg_ifF hf hc
              refine lv_aload_n hx hb dX3_judge_54 rfl (lv_at hl 0 rfl) ?_
              refine fg_get (C := RX3) (T := TX3) (N := 7) S vu_X3 hK h fg_p3_0 rfl rfl 0 (by decide) vf_RX3_10 rfl rfl dX3_judge_55 ?_
              refine fg_get (C := RX2) (T := TX2) (N := 16) S vu_X2 hK h (fg_p2_0 (by decide)) rfl rfl 7 (by decide) vf_RX3_110 rfl rfl dX3_judge_58 ?_
              refine lv_iload_n hx hb dX3_judge_61 rfl (lv_at hl 3 rfl) ?_
              obtain ⟨hn16, hf⟩ := fg_gdE hf
              refine fg_iald hx hb hK h (fg_p2_6 (by decide)) (fun _ => rfl) hn16 dX3_judge_62 ?_
              refine lv_aload_n hx hb dX3_judge_63 rfl (lv_at hl 2 rfl) ?_
              refine fg_get (C := RX0) (T := TX0) (N := 3) S vu_X0 hK h (fg_p0_0 (fg_vlt hn4)) rfl rfl 2 (by decide) vf_RX3_216 rfl rfl dX3_judge_64 ?_
              refine lv_iload_n hx hb dX3_judge_67 rfl (lv_at hl 3 rfl) ?_
              obtain ⟨hn17, hf⟩ := fg_gdE hf
              refine fg_iald hx hb hK h (fg_p0_1 (fg_vlt hn4)) (fun _ => rfl) hn17 dX3_judge_68 ?_
              refine lv_icmp_eq (tgt := 76) hx hb dX3_judge_69 (by decide) (fun hc => ?_) (fun hc => ?_)
              · have hf := fg_ifT hf hc
                refine lv_iinc (v := (v3_35 + 1)) (lv' := [(3, .int (v3_35 + 1)), (0, .ref (g.1 3 0 0)), (1, .int a1), (2, .ref (g.1 0 a1.toNatClampNeg 0))]) hx hb dX3_judge_76 hl (k := 3) rfl rfl (by decide) rfl (fun ls hl => ?_)
                refine lv_goto (tgt := 35) hx hb dX3_judge_79 (by decide) ?_
                exact ih_35 (v3_35 + 1) w13 _ _ ls h (lv_sub hl [1, 2, 3, 0] rfl) hf
              · have hf := fg_ifF hf hc
                refine lv_iconst (v := 1) hx hb dX3_judge_72 rfl ?_
                refine lv_iload_n hx hb dX3_judge_73 rfl (lv_at hl 3 rfl) ?_
                refine lv_iadd hx hb dX3_judge_74 ?_
                exact fg_reti hx hb hr hlk hK h hf dX3_judge_75
      exact hL_35 _ hK_35 fg_fuel 0 w5 _ _ ls h (lv_sub hl [2, 3, 1, 0] rfl) hf
    · have hf := fg_ifF hf hc
      refine lv_aload_n hx hb dX3_judge_27 rfl (lv_at hl 1 rfl) ?_
      refine lv_iconst (v := 5) hx hb dX3_judge_28 rfl ?_
      obtain ⟨r20, w18, hc19, hf⟩ := fg_biE hf
      refine fg_ci h (fg_runV (rest := []) S hK h (c_X3_finding l D g 5  w5 r20 w18 hc19) vg_RX3_48 vd_X3_finding ⟨by decide, by decide⟩ fg_p3_0 rfl rfl rfl hl.1 rfl (Nat.le_of_ble_eq_true rfl) dX3_judge_29 ⟨Nat.zero_le _, Nat.zero_le _⟩) (fun H locs h => ?_)
      exact fg_reti hx hb hr hlk hK h hf dX3_judge_32
  · have hf := fg_ifT hf hc
    refine lv_aload_n hx hb dX3_judge_7 rfl (lv_at hl 0 rfl) ?_
    refine lv_iconst (v := 0) hx hb dX3_judge_8 rfl ?_
    obtain ⟨r23, w21, hc22, hf⟩ := fg_biE hf
    refine fg_ci h (fg_runV (rest := []) S hK h (c_X3_finding l D g 0  w1 r23 w21 hc22) vg_RX3_48 vd_X3_finding ⟨by decide, by decide⟩ fg_p3_0 rfl rfl rfl hl.1 rfl (Nat.le_of_ble_eq_true rfl) dX3_judge_9 ⟨Nat.zero_le _, Nat.zero_le _⟩) (fun H locs h => ?_)
    exact fg_reti hx hb hr hlk hK h hf dX3_judge_12
set_option maxHeartbeats 4000000 in
set_option maxRecDepth 100000 in
theorem c_X3_image (l : Launch) (D : va_G) (g : fg_G)  (w : fg_W) (r : Int32) (w' : fg_W) (hf : f_X3_image  w = some (r, w')) : fg_M l yX3_image cX3_image 1 (some .int) 2 61 D g [.ref (g.1 3 0 0)] w (fg_Qi D g r w') := by
  refine fg_M.of rfl (Nat.le_of_ble_eq_true rfl) (fun p e s m below meth c ls S hr hlk hK h hl => ?_)
  have hx := S.1
  have hb := S.2.1
  have hl : lv_has ls 1 [(0, .ref (g.1 3 0 0))] := hl
  unfold f_X3_image at hf
  refine lv_aload_n hx hb dX3_image_0 rfl (lv_at hl 0 rfl) ?_
  refine fg_get (C := RX3) (T := TX3) (N := 7) S vu_X3 hK h fg_p3_0 rfl rfl 2 (by decide) vf_RX3_19 rfl rfl dX3_image_1 ?_
  refine lv_aload_n hx hb dX3_image_4 rfl (lv_at hl 0 rfl) ?_
  refine fg_get (C := RX3) (T := TX3) (N := 7) S vu_X3 hK h fg_p3_0 rfl rfl 0 (by decide) vf_RX3_10 rfl rfl dX3_image_5 ?_
  obtain ⟨w1, hc2, hf⟩ := fg_bvE hf
  refine fg_cv h (fg_runV (rest := []) S hK h (c_X2_become l D g 2 0 (by decide) (by decide) w w1 hc2) vg_RX3_144 vd_X2_become ⟨by decide, by decide⟩ (fg_p2_0 (by decide)) rfl rfl rfl hl.1 rfl (Nat.le_of_ble_eq_true rfl) dX3_image_8 ⟨Nat.zero_le _, Nat.zero_le _⟩) (fun H locs h => ?_)
  refine lv_aload_n hx hb dX3_image_11 rfl (lv_at hl 0 rfl) ?_
  refine lv_iconst (v := 1) hx hb dX3_image_12 rfl ?_
  refine fg_putI (C := RX3) (T := TX3) (N := 7) (fs := (fg_f3 g 0)) S vu_X3 tyX3 tyX3_ok nmX3 hK h fg_p3_0 (fun _ _ => rfl) rfl 3 (by decide) vf_RX3_22 rfl rfl (tyX3_ok 3 (by decide)) rfl rfl (fun _ => Nat.le_of_ble_eq_true rfl) (fun _ => rfl) dX3_image_13 (fun w3 H locs ew h => ?_)
  have hf := fg_letE ew hf
  refine lv_iconst (v := 1) hx hb dX3_image_16 rfl ?_
  exact fg_reti hx hb hr hlk hK h hf dX3_image_17
set_option maxHeartbeats 4000000 in
set_option maxRecDepth 100000 in
theorem c_X3_undo (l : Launch) (D : va_G) (g : fg_G)  (w : fg_W) (r : Int32) (w' : fg_W) (hf : f_X3_undo  w = some (r, w')) : fg_M l yX3_undo cX3_undo 1 (some .int) 2 61 D g [.ref (g.1 3 0 0)] w (fg_Qi D g r w') := by
  refine fg_M.of rfl (Nat.le_of_ble_eq_true rfl) (fun p e s m below meth c ls S hr hlk hK h hl => ?_)
  have hx := S.1
  have hb := S.2.1
  have hl : lv_has ls 1 [(0, .ref (g.1 3 0 0))] := hl
  unfold f_X3_undo at hf
  refine lv_aload_n hx hb dX3_undo_0 rfl (lv_at hl 0 rfl) ?_
  refine fg_get (C := RX3) (T := TX3) (N := 7) S vu_X3 hK h fg_p3_0 rfl rfl 3 (by decide) vf_RX3_22 rfl rfl dX3_undo_1 ?_
  refine lv_if_ne (tgt := 13) hx hb dX3_undo_4 (by decide) (fun hc => ?_) (fun hc => ?_)
  · have hf := fg_ifF hf hc
    refine lv_aload_n hx hb dX3_undo_13 rfl (lv_at hl 0 rfl) ?_
    refine fg_get (C := RX3) (T := TX3) (N := 7) S vu_X3 hK h fg_p3_0 rfl rfl 0 (by decide) vf_RX3_10 rfl rfl dX3_undo_14 ?_
    refine lv_aload_n hx hb dX3_undo_17 rfl (lv_at hl 0 rfl) ?_
    refine fg_get (C := RX3) (T := TX3) (N := 7) S vu_X3 hK h fg_p3_0 rfl rfl 2 (by decide) vf_RX3_19 rfl rfl dX3_undo_18 ?_
    obtain ⟨w1, hc2, hf⟩ := fg_bvE hf
    refine fg_cv h (fg_runV (rest := []) S hK h (c_X2_become l D g 0 2 (by decide) (by decide) w w1 hc2) vg_RX3_144 vd_X2_become ⟨by decide, by decide⟩ (fg_p2_0 (by decide)) rfl rfl rfl hl.1 rfl (Nat.le_of_ble_eq_true rfl) dX3_undo_21 ⟨Nat.zero_le _, Nat.zero_le _⟩) (fun H locs h => ?_)
    refine lv_aload_n hx hb dX3_undo_24 rfl (lv_at hl 0 rfl) ?_
    refine fg_get (C := RX3) (T := TX3) (N := 7) S vu_X3 hK h fg_p3_0 rfl rfl 0 (by decide) vf_RX3_10 rfl rfl dX3_undo_25 ?_
    refine fg_get (C := RX2) (T := TX2) (N := 16) S vu_X2 hK h (fg_p2_0 (by decide)) rfl rfl 12 (by decide) vf_RX3_125 rfl rfl dX3_undo_28 ?_
    exact fg_reti hx hb hr hlk hK h hf dX3_undo_31
  · have hf := fg_ifT hf hc
    refine lv_aload_n hx hb dX3_undo_7 rfl (lv_at hl 0 rfl) ?_
    refine lv_iconst (v := 3) hx hb dX3_undo_8 rfl ?_
    obtain ⟨r5, w3, hc4, hf⟩ := fg_biE hf
    refine fg_ci h (fg_runV (rest := []) S hK h (c_X3_finding l D g 3  w r5 w3 hc4) vg_RX3_48 vd_X3_finding ⟨by decide, by decide⟩ fg_p3_0 rfl rfl rfl hl.1 rfl (Nat.le_of_ble_eq_true rfl) dX3_undo_9 ⟨Nat.zero_le _, Nat.zero_le _⟩) (fun H locs h => ?_)
    exact fg_reti hx hb hr hlk hK h hf dX3_undo_12
set_option maxHeartbeats 4000000 in
set_option maxRecDepth 100000 in
theorem c_X3_tear (l : Launch) (D : va_G) (g : fg_G)  (w : fg_W) (r : Int32) (w' : fg_W) (hf : f_X3_tear  w = some (r, w')) : fg_M l yX3_tear cX3_tear 2 (some .int) 0 0 D g [.ref (g.1 3 0 0)] w (fg_Qi D g r w') := by
  refine fg_M.of rfl (Nat.le_of_ble_eq_true rfl) (fun p e s m below meth c ls S hr hlk hK h hl => ?_)
  have hx := S.1
  have hb := S.2.1
  have hl : lv_has ls 2 [(0, .ref (g.1 3 0 0))] := hl
  unfold f_X3_tear at hf
  refine lv_aload_n hx hb dX3_tear_0 rfl (lv_at hl 0 rfl) ?_
  refine fg_get (C := RX3) (T := TX3) (N := 7) S vu_X3 hK h fg_p3_0 rfl rfl 3 (by decide) vf_RX3_22 rfl rfl dX3_tear_1 ?_
  refine lv_if_eq (tgt := 11) hx hb dX3_tear_4 (by decide) (fun hc => ?_) (fun hc => ?_)
  · have hf := fg_ifT hf hc
    refine lv_iconst (v := 0) hx hb dX3_tear_11 rfl ?_
    refine lv_istore_n (lv' := [(1, .int 0), (0, .ref (g.1 3 0 0))]) hx hb dX3_tear_12 rfl hl (by decide) rfl (fun ls hl => ?_)
    refine lv_aload_n hx hb dX3_tear_13 rfl (lv_at hl 1 rfl) ?_
    refine lv_iconst (v := 0) hx hb dX3_tear_14 rfl ?_
    refine fg_putI (C := RX3) (T := TX3) (N := 7) (fs := (fg_f3 g 0)) S vu_X3 tyX3 tyX3_ok nmX3 hK h fg_p3_0 (fun _ _ => rfl) rfl 3 (by decide) vf_RX3_22 rfl rfl (tyX3_ok 3 (by decide)) rfl rfl (fun _ => Nat.le_of_ble_eq_true rfl) (fun _ => rfl) dX3_tear_15 (fun w1 H locs ew h => ?_)
    have hf := fg_letE ew hf
    refine lv_iload_n hx hb dX3_tear_18 rfl (lv_at hl 0 rfl) ?_
    exact fg_reti hx hb hr hlk hK h hf dX3_tear_19
  · have hf := fg_ifF hf hc
    refine lv_iconst (v := 1) hx hb dX3_tear_7 rfl ?_
    refine lv_goto (tgt := 12) hx hb dX3_tear_8 (by decide) ?_
    refine lv_istore_n (lv' := [(1, .int 1), (0, .ref (g.1 3 0 0))]) hx hb dX3_tear_12 rfl hl (by decide) rfl (fun ls hl => ?_)
    refine lv_aload_n hx hb dX3_tear_13 rfl (lv_at hl 1 rfl) ?_
    refine lv_iconst (v := 0) hx hb dX3_tear_14 rfl ?_
    refine fg_putI (C := RX3) (T := TX3) (N := 7) (fs := (fg_f3 g 0)) S vu_X3 tyX3 tyX3_ok nmX3 hK h fg_p3_0 (fun _ _ => rfl) rfl 3 (by decide) vf_RX3_22 rfl rfl (tyX3_ok 3 (by decide)) rfl rfl (fun _ => Nat.le_of_ble_eq_true rfl) (fun _ => rfl) dX3_tear_15 (fun w2 H locs ew h => ?_)
    have hf := fg_letE ew hf
    refine lv_iload_n hx hb dX3_tear_18 rfl (lv_at hl 0 rfl) ?_
    exact fg_reti hx hb hr hlk hK h hf dX3_tear_19
set_option maxHeartbeats 4000000 in
set_option maxRecDepth 100000 in
theorem c_X3_count (l : Launch) (D : va_G) (g : fg_G) (a1 : Int32) (w : fg_W) (r : Int32) (w' : fg_W) (hf : f_X3_count a1 w = some (r, w')) : fg_M l yX3_count cX3_count 2 (some .int) 1 23 D g [.ref (g.1 3 0 0), .int a1] w (fg_Qi D g r w') := by
  refine fg_M.of rfl (Nat.le_of_ble_eq_true rfl) (fun p e s m below meth c ls S hr hlk hK h hl => ?_)
  have hx := S.1
  have hb := S.2.1
  have hl : lv_has ls 2 [(0, .ref (g.1 3 0 0)), (1, .int a1)] := hl
  unfold f_X3_count at hf
  refine lv_iload_n hx hb dX3_count_0 rfl (lv_at hl 1 rfl) ?_
  by_cases hq1_0 : a1 = 0
  · refine lv_tableIn (tgt := 48) hx hb dX3_count_1 (by rw [hq1_0]; decide) (by rw [hq1_0]; decide) (off := 47) (by rw [hq1_0]; rfl) (by decide) ?_
    have hf := fg_ifT hf hq1_0
    refine lv_aload_n hx hb dX3_count_48 rfl (lv_at hl 0 rfl) ?_
    refine fg_get (C := RX3) (T := TX3) (N := 7) S vu_X3 hK h fg_p3_0 rfl rfl 0 (by decide) vf_RX3_10 rfl rfl dX3_count_49 ?_
    refine fg_get (C := RX2) (T := TX2) (N := 16) S vu_X2 hK h (fg_p2_0 (by decide)) rfl rfl 12 (by decide) vf_RX3_125 rfl rfl dX3_count_52 ?_
    exact fg_reti hx hb hr hlk hK h hf dX3_count_55
  have hf := fg_ifF hf hq1_0
  by_cases hq1_1 : a1 = 1
  · refine lv_tableIn (tgt := 56) hx hb dX3_count_1 (by rw [hq1_1]; decide) (by rw [hq1_1]; decide) (off := 55) (by rw [hq1_1]; rfl) (by decide) ?_
    have hf := fg_ifT hf hq1_1
    refine lv_aload_n hx hb dX3_count_56 rfl (lv_at hl 0 rfl) ?_
    refine fg_get (C := RX3) (T := TX3) (N := 7) S vu_X3 hK h fg_p3_0 rfl rfl 0 (by decide) vf_RX3_10 rfl rfl dX3_count_57 ?_
    refine fg_get (C := RX2) (T := TX2) (N := 16) S vu_X2 hK h (fg_p2_0 (by decide)) rfl rfl 5 (by decide) vf_RX3_88 rfl rfl dX3_count_60 ?_
    exact fg_reti hx hb hr hlk hK h hf dX3_count_63
  have hf := fg_ifF hf hq1_1
  by_cases hq1_2 : a1 = 2
  · refine lv_tableIn (tgt := 64) hx hb dX3_count_1 (by rw [hq1_2]; decide) (by rw [hq1_2]; decide) (off := 63) (by rw [hq1_2]; rfl) (by decide) ?_
    have hf := fg_ifT hf hq1_2
    refine lv_aload_n hx hb dX3_count_64 rfl (lv_at hl 0 rfl) ?_
    refine fg_get (C := RX3) (T := TX3) (N := 7) S vu_X3 hK h fg_p3_0 rfl rfl 0 (by decide) vf_RX3_10 rfl rfl dX3_count_65 ?_
    obtain ⟨r3, w1, hc2, hf⟩ := fg_biE hf
    refine fg_ci h (fg_runV (rest := []) S hK h (c_X2_thoseOnLots l D g 0 (by decide) w r3 w1 hc2) vg_RX3_133 vd_X2_thoseOnLots ⟨by decide, by decide⟩ (fg_p2_0 (by decide)) rfl rfl rfl hl.1 rfl (Nat.le_of_ble_eq_true rfl) dX3_count_68 ⟨Nat.zero_le _, Nat.zero_le _⟩) (fun H locs h => ?_)
    obtain ⟨r6, w4, hc5, hf⟩ := fg_biE hf
    refine fg_ci h (fg_runS (rest := []) S hK h (c_J6_bitCount_0f7a4 l D g r3  w1 r6 w4 hc5) vk_J6_bitCount_0f7a4 vm_RX3_148 vs_J6_bitCount_0f7a4 vi_RJ6 vd_J6_bitCount_0f7a4.2 ⟨by decide, by decide⟩ rfl hl.1 rfl (Nat.le_of_ble_eq_true rfl) dX3_count_71 ⟨Nat.zero_le _, Nat.zero_le _⟩) (fun H locs h => ?_)
    exact fg_reti hx hb hr hlk hK h hf dX3_count_74
  have hf := fg_ifF hf hq1_2
  by_cases hq1_3 : a1 = 3
  · refine lv_tableIn (tgt := 75) hx hb dX3_count_1 (by rw [hq1_3]; decide) (by rw [hq1_3]; decide) (off := 74) (by rw [hq1_3]; rfl) (by decide) ?_
    have hf := fg_ifT hf hq1_3
    refine lv_aload_n hx hb dX3_count_75 rfl (lv_at hl 0 rfl) ?_
    refine fg_get (C := RX3) (T := TX3) (N := 7) S vu_X3 hK h fg_p3_0 rfl rfl 0 (by decide) vf_RX3_10 rfl rfl dX3_count_76 ?_
    refine fg_get (C := RX2) (T := TX2) (N := 16) S vu_X2 hK h (fg_p2_0 (by decide)) rfl rfl 10 (by decide) vf_RX3_119 rfl rfl dX3_count_79 ?_
    refine lv_aload_n hx hb dX3_count_82 rfl (lv_at hl 0 rfl) ?_
    refine fg_get (C := RX3) (T := TX3) (N := 7) S vu_X3 hK h fg_p3_0 rfl rfl 0 (by decide) vf_RX3_10 rfl rfl dX3_count_83 ?_
    refine fg_get (C := RX2) (T := TX2) (N := 16) S vu_X2 hK h (fg_p2_0 (by decide)) rfl rfl 5 (by decide) vf_RX3_88 rfl rfl dX3_count_86 ?_
    obtain ⟨r9, w7, hc8, hf⟩ := fg_biE hf
    refine fg_ci h (fg_runS (rest := []) S hK h (c_X3_sumOf l D g 2 0 9 8 (w.1 2 0 0 5) (fg_p2_9 (by decide)) (fun _ => rfl) w r9 w7 hc8) vk_X3_sumOf vm_RX3_137 vs_X3_sumOf vi_RX3 vd_X3_sumOf.2 ⟨by decide, by decide⟩ rfl hl.1 rfl (Nat.le_of_ble_eq_true rfl) dX3_count_89 ⟨Nat.zero_le _, Nat.zero_le _⟩) (fun H locs h => ?_)
    exact fg_reti hx hb hr hlk hK h hf dX3_count_92
  have hf := fg_ifF hf hq1_3
  by_cases hq1_4 : a1 = 4
  · refine lv_tableIn (tgt := 93) hx hb dX3_count_1 (by rw [hq1_4]; decide) (by rw [hq1_4]; decide) (off := 92) (by rw [hq1_4]; rfl) (by decide) ?_
    have hf := fg_ifT hf hq1_4
    refine lv_aload_n hx hb dX3_count_93 rfl (lv_at hl 0 rfl) ?_
    refine fg_get (C := RX3) (T := TX3) (N := 7) S vu_X3 hK h fg_p3_0 rfl rfl 0 (by decide) vf_RX3_10 rfl rfl dX3_count_94 ?_
    refine fg_get (C := RX2) (T := TX2) (N := 16) S vu_X2 hK h (fg_p2_0 (by decide)) rfl rfl 9 (by decide) vf_RX3_116 rfl rfl dX3_count_97 ?_
    refine lv_aload_n hx hb dX3_count_100 rfl (lv_at hl 0 rfl) ?_
    refine fg_get (C := RX3) (T := TX3) (N := 7) S vu_X3 hK h fg_p3_0 rfl rfl 0 (by decide) vf_RX3_10 rfl rfl dX3_count_101 ?_
    refine fg_get (C := RX2) (T := TX2) (N := 16) S vu_X2 hK h (fg_p2_0 (by decide)) rfl rfl 5 (by decide) vf_RX3_88 rfl rfl dX3_count_104 ?_
    obtain ⟨r12, w10, hc11, hf⟩ := fg_biE hf
    refine fg_ci h (fg_runS (rest := []) S hK h (c_X3_sumOf l D g 2 0 8 8 (w.1 2 0 0 5) (fg_p2_8 (by decide)) (fun _ => rfl) w r12 w10 hc11) vk_X3_sumOf vm_RX3_137 vs_X3_sumOf vi_RX3 vd_X3_sumOf.2 ⟨by decide, by decide⟩ rfl hl.1 rfl (Nat.le_of_ble_eq_true rfl) dX3_count_107 ⟨Nat.zero_le _, Nat.zero_le _⟩) (fun H locs h => ?_)
    exact fg_reti hx hb hr hlk hK h hf dX3_count_110
  have hf := fg_ifF hf hq1_4
  by_cases hq1_5 : a1 = 5
  · refine lv_tableIn (tgt := 111) hx hb dX3_count_1 (by rw [hq1_5]; decide) (by rw [hq1_5]; decide) (off := 110) (by rw [hq1_5]; rfl) (by decide) ?_
    have hf := fg_ifT hf hq1_5
    refine lv_aload_n hx hb dX3_count_111 rfl (lv_at hl 0 rfl) ?_
    refine fg_get (C := RX3) (T := TX3) (N := 7) S vu_X3 hK h fg_p3_0 rfl rfl 4 (by decide) vf_RX3_29 rfl rfl dX3_count_112 ?_
    refine fg_get (C := RX1) (T := TX1) (N := 7) S vu_X1 hK h fg_p1_0 rfl rfl 1 (by decide) vf_RX3_176 rfl rfl dX3_count_115 ?_
    exact fg_reti hx hb hr hlk hK h hf dX3_count_118
  have hf := fg_ifF hf hq1_5
  by_cases hq1_6 : a1 = 6
  · refine lv_tableIn (tgt := 119) hx hb dX3_count_1 (by rw [hq1_6]; decide) (by rw [hq1_6]; decide) (off := 118) (by rw [hq1_6]; rfl) (by decide) ?_
    have hf := fg_ifT hf hq1_6
    refine lv_aload_n hx hb dX3_count_119 rfl (lv_at hl 0 rfl) ?_
    refine fg_get (C := RX3) (T := TX3) (N := 7) S vu_X3 hK h fg_p3_0 rfl rfl 0 (by decide) vf_RX3_10 rfl rfl dX3_count_120 ?_
    refine fg_get (C := RX2) (T := TX2) (N := 16) S vu_X2 hK h (fg_p2_0 (by decide)) rfl rfl 13 (by decide) vf_RX3_173 rfl rfl dX3_count_123 ?_
    exact fg_reti hx hb hr hlk hK h hf dX3_count_126
  have hf := fg_ifF hf hq1_6
  by_cases hq1_7 : a1 = 7
  · refine lv_tableIn (tgt := 127) hx hb dX3_count_1 (by rw [hq1_7]; decide) (by rw [hq1_7]; decide) (off := 126) (by rw [hq1_7]; rfl) (by decide) ?_
    have hf := fg_ifT hf hq1_7
    refine lv_aload_n hx hb dX3_count_127 rfl (lv_at hl 0 rfl) ?_
    refine fg_get (C := RX3) (T := TX3) (N := 7) S vu_X3 hK h fg_p3_0 rfl rfl 0 (by decide) vf_RX3_10 rfl rfl dX3_count_128 ?_
    obtain ⟨r15, w13, hc14, hf⟩ := fg_biE hf
    refine fg_ci h (fg_runV (rest := []) S hK h (c_X2_spotsHeld l D g 0 (by decide) w r15 w13 hc14) vg_RX3_225 vd_X2_spotsHeld ⟨by decide, by decide⟩ (fg_p2_0 (by decide)) rfl rfl rfl hl.1 rfl (Nat.le_of_ble_eq_true rfl) dX3_count_131 ⟨Nat.zero_le _, Nat.zero_le _⟩) (fun H locs h => ?_)
    exact fg_reti hx hb hr hlk hK h hf dX3_count_134
  have hf := fg_ifF hf hq1_7
  refine lv_tableOut (tgt := 135) hx hb dX3_count_1 (by have := lv_neT hq1_0 (show (0 : Int32).toInt = 0 from rfl); have := lv_neT hq1_1 (show (1 : Int32).toInt = 1 from rfl); have := lv_neT hq1_2 (show (2 : Int32).toInt = 2 from rfl); have := lv_neT hq1_3 (show (3 : Int32).toInt = 3 from rfl); have := lv_neT hq1_4 (show (4 : Int32).toInt = 4 from rfl); have := lv_neT hq1_5 (show (5 : Int32).toInt = 5 from rfl); have := lv_neT hq1_6 (show (6 : Int32).toInt = 6 from rfl); have := lv_neT hq1_7 (show (7 : Int32).toInt = 7 from rfl); omega) (by decide) ?_
  refine lv_aload_n hx hb dX3_count_135 rfl (lv_at hl 0 rfl) ?_
  refine lv_iconst (v := 0) hx hb dX3_count_136 rfl ?_
  obtain ⟨r18, w16, hc17, hf⟩ := fg_biE hf
  refine fg_ci h (fg_runV (rest := []) S hK h (c_X3_finding l D g 0  w r18 w16 hc17) vg_RX3_48 vd_X3_finding ⟨by decide, by decide⟩ fg_p3_0 rfl rfl rfl hl.1 rfl (Nat.le_of_ble_eq_true rfl) dX3_count_137 ⟨Nat.zero_le _, Nat.zero_le _⟩) (fun H locs h => ?_)
  exact fg_reti hx hb hr hlk hK h hf dX3_count_140
set_option maxHeartbeats 4000000 in
set_option maxRecDepth 100000 in
theorem c_X3_status (l : Launch) (D : va_G) (g : fg_G) (a1 : Int32) (w : fg_W) (r : Int32) (w' : fg_W) (hf : f_X3_status a1 w = some (r, w')) : fg_M l yX3_status cX3_status 2 (some .int) 1 23 D g [.ref (g.1 3 0 0), .int a1] w (fg_Qi D g r w') := by
  refine fg_M.of rfl (Nat.le_of_ble_eq_true rfl) (fun p e s m below meth c ls S hr hlk hK h hl => ?_)
  have hx := S.1
  have hb := S.2.1
  have hl : lv_has ls 2 [(0, .ref (g.1 3 0 0)), (1, .int a1)] := hl
  unfold f_X3_status at hf
  refine lv_iload_n hx hb dX3_status_0 rfl (lv_at hl 1 rfl) ?_
  refine lv_iconst (v := (-1)) hx hb dX3_status_1 rfl ?_
  refine lv_icmp_ne (tgt := 15) hx hb dX3_status_2 (by decide) (fun hc => ?_) (fun hc => ?_)
  · have hf := fg_ifF hf hc
    refine lv_iload_n hx hb dX3_status_15 rfl (lv_at hl 1 rfl) ?_
    refine lv_iconst (v := 0) hx hb dX3_status_16 rfl ?_
    refine lv_bipush (v := 6) hx hb dX3_status_17 rfl ?_
    obtain ⟨r3, w1, hc2, hf⟩ := fg_biE hf
    refine fg_ci h (fg_runS (rest := []) S hK h (c_X3_within l D g a1 0 6  w r3 w1 hc2) vk_X3_within vm_RX3_52 vs_X3_within vi_RX3 vd_X3_within.2 ⟨by decide, by decide⟩ rfl hl.1 rfl (Nat.le_of_ble_eq_true rfl) dX3_status_19 ⟨Nat.zero_le _, Nat.zero_le _⟩) (fun H locs h => ?_)
    refine lv_if_ne (tgt := 31) hx hb dX3_status_22 (by decide) (fun hc => ?_) (fun hc => ?_)
    · have hf := fg_ifF hf hc
      refine lv_aload_n hx hb dX3_status_31 rfl (lv_at hl 0 rfl) ?_
      refine fg_get (C := RX3) (T := TX3) (N := 7) S vu_X3 hK h fg_p3_0 rfl rfl 6 (by decide) vf_RX3_40 rfl rfl dX3_status_32 ?_
      refine lv_iload_n hx hb dX3_status_35 rfl (lv_at hl 1 rfl) ?_
      obtain ⟨hn4, hf⟩ := fg_gdE hf
      refine fg_iald hx hb hK h fg_p3_1 (fun _ => rfl) hn4 dX3_status_36 ?_
      exact fg_reti hx hb hr hlk hK h hf dX3_status_37
    · have hf := fg_ifT hf hc
      refine lv_aload_n hx hb dX3_status_25 rfl (lv_at hl 0 rfl) ?_
      refine lv_iconst (v := 0) hx hb dX3_status_26 rfl ?_
      obtain ⟨r7, w5, hc6, hf⟩ := fg_biE hf
      refine fg_ci h (fg_runV (rest := []) S hK h (c_X3_finding l D g 0  w1 r7 w5 hc6) vg_RX3_48 vd_X3_finding ⟨by decide, by decide⟩ fg_p3_0 rfl rfl rfl hl.1 rfl (Nat.le_of_ble_eq_true rfl) dX3_status_27 ⟨Nat.zero_le _, Nat.zero_le _⟩) (fun H locs h => ?_)
      exact fg_reti hx hb hr hlk hK h hf dX3_status_30
  · have hf := fg_ifT hf hc
    refine lv_aload_n hx hb dX3_status_5 rfl (lv_at hl 0 rfl) ?_
    refine fg_get (C := RX3) (T := TX3) (N := 7) S vu_X3 hK h fg_p3_0 rfl rfl 6 (by decide) vf_RX3_40 rfl rfl dX3_status_6 ?_
    refine lv_bipush (v := 7) hx hb dX3_status_9 rfl ?_
    obtain ⟨r10, w8, hc9, hf⟩ := fg_biE hf
    refine fg_ci h (fg_runS (rest := []) S hK h (c_X3_sumOf l D g 3 0 1 7 7 fg_p3_1 (fun _ => rfl) w r10 w8 hc9) vk_X3_sumOf vm_RX3_137 vs_X3_sumOf vi_RX3 vd_X3_sumOf.2 ⟨by decide, by decide⟩ rfl hl.1 rfl (Nat.le_of_ble_eq_true rfl) dX3_status_11 ⟨Nat.zero_le _, Nat.zero_le _⟩) (fun H locs h => ?_)
    exact fg_reti hx hb hr hlk hK h hf dX3_status_14
