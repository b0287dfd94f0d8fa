set_option maxHeartbeats 4000000 in
set_option maxRecDepth 100000 in
theorem c_X4_fog (l : Launch) (D : va_G) (g : fg_G) (a1 : Int32) (a2 : Int32) (w : fg_W) (r : Int32) (w' : fg_W) (hf : f_X4_fog a1 a2 w = some (r, w')) : fg_M l yX4_fog cX4_fog 4 (some .int) 8 180 D g [.ref (g.1 4 0 0), .int a1, .int a2] w (fg_Qi D g r w') := by
  refine fg_M.of rfl (Nat.le_of_ble_eq_true rfl) (fun p e s m below meth c ls S hr hlk hK h hl => ?_)
  have hx := S.1
  have hb := S.2.1
  have hl : lv_has ls 4 [(0, .ref (g.1 4 0 0)), (1, .int a1), (2, .int a2)] := hl
  unfold f_X4_fog at hf
  refine lv_iload_n hx hb dX4_fog_0 rfl (lv_at hl 1 rfl) ?_
  obtain ⟨r3, w1, hc2, hf⟩ := fg_biE hf
  refine fg_ci h (fg_runS (rest := []) S hK h (c_X4_isLot l D g a1  w r3 w1 hc2) vk_X4_isLot vm_RX4_126 vs_X4_isLot vi_RX4 vd_X4_isLot.2 ⟨by decide, by decide⟩ rfl hl.1 rfl (Nat.le_of_ble_eq_true rfl) dX4_fog_1 ⟨Nat.zero_le _, Nat.zero_le _⟩) (fun H locs h => ?_)
  refine lv_if_eq (tgt := 17) hx hb dX4_fog_4 (by decide) (fun hc => ?_) (fun hc => ?_)
  · have hf := fg_ifT hf hc
    refine lv_aload_n hx hb dX4_fog_17 rfl (lv_at hl 0 rfl) ?_
    refine lv_iconst (v := 0) hx hb dX4_fog_18 rfl ?_
    obtain ⟨r6, w4, hc5, hf⟩ := fg_biE hf
    refine fg_ci h (fg_runV (rest := []) S hK h (c_X4_no l D g 0  w1 r6 w4 hc5) vg_RX4_129 vd_X4_no ⟨by decide, by decide⟩ fg_p4_0 rfl rfl rfl hl.1 rfl (Nat.le_of_ble_eq_true rfl) dX4_fog_19 ⟨Nat.zero_le _, Nat.zero_le _⟩) (fun H locs h => ?_)
    exact fg_reti hx hb hr hlk hK h hf dX4_fog_22
  · have hf := fg_ifF hf hc
    refine lv_iload_n hx hb dX4_fog_7 rfl (lv_at hl 2 rfl) ?_
    refine lv_iconst (v := 0) hx hb dX4_fog_8 rfl ?_
    refine lv_bipush (v := 100) hx hb dX4_fog_9 rfl ?_
    obtain ⟨r9, w7, hc8, hf⟩ := fg_biE hf
    refine fg_ci h (fg_runS (rest := []) S hK h (c_X4_in1 l D g a2 0 100  w1 r9 w7 hc8) vk_X4_in1 vm_RX4_61 vs_X4_in1 vi_RX4 vd_X4_in1.2 ⟨by decide, by decide⟩ rfl hl.1 rfl (Nat.le_of_ble_eq_true rfl) dX4_fog_11 ⟨Nat.zero_le _, Nat.zero_le _⟩) (fun H locs h => ?_)
    refine lv_if_ne (tgt := 23) hx hb dX4_fog_14 (by decide) (fun hc => ?_) (fun hc => ?_)
    · have hf := fg_ifF hf hc
      refine lv_aload_n hx hb dX4_fog_23 rfl (lv_at hl 0 rfl) ?_
      obtain ⟨w10, hc11, hf⟩ := fg_bvE hf
      refine fg_cv h (fg_runV (rest := []) S hK h (c_X4_setsAside l D g   w7 w10 hc11) vg_RX4_163 vd_X4_setsAside ⟨by decide, by decide⟩ fg_p4_0 rfl rfl rfl hl.1 rfl (Nat.le_of_ble_eq_true rfl) dX4_fog_24 ⟨Nat.zero_le _, Nat.zero_le _⟩) (fun H locs h => ?_)
      refine lv_aload_n hx hb dX4_fog_27 rfl (lv_at hl 0 rfl) ?_
      refine lv_iload_n hx hb dX4_fog_28 rfl (lv_at hl 2 rfl) ?_
      obtain ⟨w12, hc13, hf⟩ := fg_bvE hf
      refine fg_cv h (fg_runV (rest := []) S hK h (c_X4_goes l D g a2  w10 w12 hc13) vg_RX4_144 vd_X4_goes ⟨by decide, by decide⟩ fg_p4_0 rfl rfl rfl hl.1 rfl (Nat.le_of_ble_eq_true rfl) dX4_fog_29 ⟨Nat.zero_le _, Nat.zero_le _⟩) (fun H locs h => ?_)
      refine lv_aload_n hx hb dX4_fog_32 rfl (lv_at hl 0 rfl) ?_
      refine lv_iload_n hx hb dX4_fog_33 rfl (lv_at hl 1 rfl) ?_
      refine lv_iconst (v := 0) hx hb dX4_fog_34 rfl ?_
      obtain ⟨r16, w14, hc15, hf⟩ := fg_biE hf
      refine fg_ci h (fg_runV (rest := []) S hK h (c_X4_of1 l D g a1 0  w12 r16 w14 hc15) vg_RX4_73 vd_X4_of1 ⟨by decide, by decide⟩ fg_p4_0 rfl rfl rfl hl.1 rfl (Nat.le_of_ble_eq_true rfl) dX4_fog_35 ⟨Nat.zero_le _, Nat.zero_le _⟩) (fun H locs h => ?_)
      refine lv_istore_n (lv' := [(3, .int r16), (0, .ref (g.1 4 0 0)), (1, .int a1), (2, .int a2)]) hx hb dX4_fog_38 rfl hl (by decide) rfl (fun ls hl => ?_)
      refine lv_aload_n hx hb dX4_fog_39 rfl (lv_at hl 1 rfl) ?_
      obtain ⟨w17, hc18, hf⟩ := fg_bvE hf
      refine fg_cv h (fg_runV (rest := []) S hK h (c_X4_laysBack l D g   w14 w17 hc18) vg_RX4_166 vd_X4_laysBack ⟨by decide, by decide⟩ fg_p4_0 rfl rfl rfl hl.1 rfl (Nat.le_of_ble_eq_true rfl) dX4_fog_40 ⟨Nat.zero_le _, Nat.zero_le _⟩) (fun H locs h => ?_)
      refine lv_iload_n hx hb dX4_fog_43 rfl (lv_at hl 0 rfl) ?_
      exact fg_reti hx hb hr hlk hK h hf dX4_fog_44
    · have hf := fg_ifT hf hc
      refine lv_aload_n hx hb dX4_fog_17 rfl (lv_at hl 0 rfl) ?_
      refine lv_iconst (v := 0) hx hb dX4_fog_18 rfl ?_
      obtain ⟨r21, w19, hc20, hf⟩ := fg_biE hf
      refine fg_ci h (fg_runV (rest := []) S hK h (c_X4_no l D g 0  w7 r21 w19 hc20) vg_RX4_129 vd_X4_no ⟨by decide, by decide⟩ fg_p4_0 rfl rfl rfl hl.1 rfl (Nat.le_of_ble_eq_true rfl) dX4_fog_19 ⟨Nat.zero_le _, Nat.zero_le _⟩) (fun H locs h => ?_)
      exact fg_reti hx hb hr hlk hK h hf dX4_fog_22
set_option maxHeartbeats 4000000 in
set_option maxRecDepth 100000 in
theorem c_X4_isSo (l : Launch) (D : va_G) (g : fg_G) (a1 : Int32) (a2 : Int32) (a3 : Int32) (w : fg_W) (r : Int32) (w' : fg_W) (hf : f_X4_isSo a1 a2 a3 w = some (r, w')) : fg_M l yX4_isSo cX4_isSo 4 (some .boolean) 3 65 D g [.ref (g.1 4 0 0), .int a1, .int a2, .int a3] w (fg_Qi D g r w') := by
  refine fg_M.of rfl (Nat.le_of_ble_eq_true rfl) (fun p e s m below meth c ls S hr hlk hK h hl => ?_)
  have hx := S.1
  have hb := S.2.1
  have hl : lv_has ls 4 [(0, .ref (g.1 4 0 0)), (1, .int a1), (2, .int a2), (3, .int a3)] := hl
  unfold f_X4_isSo at hf
  refine lv_iload_n hx hb dX4_isSo_0 rfl (lv_at hl 3 rfl) ?_
  refine lv_if_ne (tgt := 22) hx hb dX4_isSo_1 (by decide) (fun hc => ?_) (fun hc => ?_)
  · have hf := fg_ifF hf hc
    refine lv_iload_n hx hb dX4_isSo_22 rfl (lv_at hl 3 rfl) ?_
    refine lv_iconst (v := 1) hx hb dX4_isSo_23 rfl ?_
    refine lv_icmp_ne (tgt := 42) hx hb dX4_isSo_24 (by decide) (fun hc => ?_) (fun hc => ?_)
    · have hf := fg_ifF hf hc
      refine lv_aload_n hx hb dX4_isSo_42 rfl (lv_at hl 0 rfl) ?_
      refine lv_iload_n hx hb dX4_isSo_43 rfl (lv_at hl 1 rfl) ?_
      refine lv_iconst (v := 1) hx hb dX4_isSo_44 rfl ?_
      obtain ⟨r3, w1, hc2, hf⟩ := fg_biE hf
      refine fg_ci h (fg_runV (rest := []) S hK h (c_X4_get l D g a1 1  w r3 w1 hc2) vg_RX4_65 vd_X4_get ⟨by decide, by decide⟩ fg_p4_0 rfl rfl rfl hl.1 rfl (Nat.le_of_ble_eq_true rfl) dX4_isSo_45 ⟨Nat.zero_le _, Nat.zero_le _⟩) (fun H locs h => ?_)
      refine lv_if_lt (tgt := 70) hx hb dX4_isSo_48 (by decide) (fun hc => ?_) (fun hc => ?_)
      · have hf := fg_ifT hf hc
        refine lv_iconst (v := 0) hx hb dX4_isSo_70 rfl ?_
        exact fg_retz hx hb hr hlk hK h hf (by decide) dX4_isSo_71
      · have hf := fg_ifF hf hc
        refine lv_aload_n hx hb dX4_isSo_51 rfl (lv_at hl 0 rfl) ?_
        refine lv_iload_n hx hb dX4_isSo_52 rfl (lv_at hl 1 rfl) ?_
        refine lv_iconst (v := 1) hx hb dX4_isSo_53 rfl ?_
        obtain ⟨r6, w4, hc5, hf⟩ := fg_biE hf
        refine fg_ci h (fg_runV (rest := []) S hK h (c_X4_get l D g a1 1  w1 r6 w4 hc5) vg_RX4_65 vd_X4_get ⟨by decide, by decide⟩ fg_p4_0 rfl rfl rfl hl.1 rfl (Nat.le_of_ble_eq_true rfl) dX4_isSo_54 ⟨Nat.zero_le _, Nat.zero_le _⟩) (fun H locs h => ?_)
        refine lv_aload_n hx hb dX4_isSo_57 rfl (lv_at hl 0 rfl) ?_
        refine lv_iload_n hx hb dX4_isSo_58 rfl (lv_at hl 2 rfl) ?_
        refine lv_iconst (v := 1) hx hb dX4_isSo_59 rfl ?_
        obtain ⟨r9, w7, hc8, hf⟩ := fg_biE hf
        refine fg_ci h (fg_runV (rest := [.int r6]) S hK h (c_X4_get l D g a2 1  w4 r9 w7 hc8) vg_RX4_65 vd_X4_get ⟨by decide, by decide⟩ fg_p4_0 rfl rfl rfl hl.1 rfl (Nat.le_of_ble_eq_true rfl) dX4_isSo_60 ⟨Nat.zero_le _, Nat.zero_le _⟩) (fun H locs h => ?_)
        refine lv_icmp_ne (tgt := 70) hx hb dX4_isSo_63 (by decide) (fun hc => ?_) (fun hc => ?_)
        · have hf := fg_ifF hf hc
          refine lv_iconst (v := 0) hx hb dX4_isSo_70 rfl ?_
          exact fg_retz hx hb hr hlk hK h hf (by decide) dX4_isSo_71
        · have hf := fg_ifT hf hc
          refine lv_iconst (v := 1) hx hb dX4_isSo_66 rfl ?_
          refine lv_goto (tgt := 71) hx hb dX4_isSo_67 (by decide) ?_
          exact fg_retz hx hb hr hlk hK h hf (by decide) dX4_isSo_71
    · have hf := fg_ifT hf hc
      refine lv_aload_n hx hb dX4_isSo_27 rfl (lv_at hl 0 rfl) ?_
      obtain ⟨r12, w10, hc11, hf⟩ := fg_biE hf
      refine fg_ci h (fg_runV (rest := []) S hK h (c_X4_onLots l D g   w r12 w10 hc11) vg_RX4_147 vd_X4_onLots ⟨by decide, by decide⟩ fg_p4_0 rfl rfl rfl hl.1 rfl (Nat.le_of_ble_eq_true rfl) dX4_isSo_28 ⟨Nat.zero_le _, Nat.zero_le _⟩) (fun H locs h => ?_)
      refine lv_if_ne (tgt := 38) hx hb dX4_isSo_31 (by decide) (fun hc => ?_) (fun hc => ?_)
      · have hf := fg_ifF hf hc
        refine lv_iconst (v := 0) hx hb dX4_isSo_38 rfl ?_
        refine lv_goto (tgt := 71) hx hb dX4_isSo_39 (by decide) ?_
        exact fg_retz hx hb hr hlk hK h hf (by decide) dX4_isSo_71
      · have hf := fg_ifT hf hc
        refine lv_iconst (v := 1) hx hb dX4_isSo_34 rfl ?_
        refine lv_goto (tgt := 71) hx hb dX4_isSo_35 (by decide) ?_
        exact fg_retz hx hb hr hlk hK h hf (by decide) dX4_isSo_71
  · have hf := fg_ifT hf hc
    refine lv_aload_n hx hb dX4_isSo_4 rfl (lv_at hl 0 rfl) ?_
    refine lv_iload_n hx hb dX4_isSo_5 rfl (lv_at hl 1 rfl) ?_
    refine lv_iconst (v := 4) hx hb dX4_isSo_6 rfl ?_
    obtain ⟨r15, w13, hc14, hf⟩ := fg_biE hf
    refine fg_ci h (fg_runV (rest := []) S hK h (c_X4_get l D g a1 4  w r15 w13 hc14) vg_RX4_65 vd_X4_get ⟨by decide, by decide⟩ fg_p4_0 rfl rfl rfl hl.1 rfl (Nat.le_of_ble_eq_true rfl) dX4_isSo_7 ⟨Nat.zero_le _, Nat.zero_le _⟩) (fun H locs h => ?_)
    refine lv_iload_n hx hb dX4_isSo_10 rfl (lv_at hl 2 rfl) ?_
    refine lv_icmp_le (tgt := 18) hx hb dX4_isSo_11 (by decide) (fun hc => ?_) (fun hc => ?_)
    · have hf := fg_ifT hf hc
      refine lv_iconst (v := 0) hx hb dX4_isSo_18 rfl ?_
      refine lv_goto (tgt := 71) hx hb dX4_isSo_19 (by decide) ?_
      exact fg_retz hx hb hr hlk hK h hf (by decide) dX4_isSo_71
    · have hf := fg_ifF hf hc
      refine lv_iconst (v := 1) hx hb dX4_isSo_14 rfl ?_
      refine lv_goto (tgt := 71) hx hb dX4_isSo_15 (by decide) ?_
      exact fg_retz hx hb hr hlk hK h hf (by decide) dX4_isSo_71
set_option maxHeartbeats 4000000 in
set_option maxRecDepth 100000 in
theorem c_X4_firstBy (l : Launch) (D : va_G) (g : fg_G) (a1 : Int32) (a2 : Int32) (a3 : Int32) (w : fg_W) (r : Int32) (w' : fg_W) (hf : f_X4_firstBy a1 a2 a3 w = some (r, w')) : fg_M l yX4_firstBy cX4_firstBy 5 (some .int) 7 158 D g [.ref (g.1 4 0 0), .int a1, .int a2, .int a3] w (fg_Qi D g r w') := by
  refine fg_M.of rfl (Nat.le_of_ble_eq_true rfl) (fun p e s m below meth c ls S hr hlk hK h hl => ?_)
  have hx := S.1
  have hb := S.2.1
  have hl : lv_has ls 5 [(0, .ref (g.1 4 0 0)), (1, .int a1), (2, .int a2), (3, .int a3)] := hl
  unfold f_X4_firstBy at hf
  refine lv_aload_n hx hb dX4_firstBy_0 rfl (lv_at hl 0 rfl) ?_
  obtain ⟨w1, hc2, hf⟩ := fg_bvE hf
  refine fg_cv h (fg_runV (rest := []) S hK h (c_X4_setsAside l D g   w w1 hc2) vg_RX4_163 vd_X4_setsAside ⟨by decide, by decide⟩ fg_p4_0 rfl rfl rfl hl.1 rfl (Nat.le_of_ble_eq_true rfl) dX4_firstBy_1 ⟨Nat.zero_le _, Nat.zero_le _⟩) (fun H locs h => ?_)
  refine lv_iconst (v := 0) hx hb dX4_firstBy_4 rfl ?_
  refine lv_istore (lv' := [(4, .int 0), (0, .ref (g.1 4 0 0)), (1, .int a1), (2, .int a2), (3, .int a3)]) hx hb dX4_firstBy_5 hl (by decide) rfl (fun ls hl => ?_)
  have hK_7 : ∀ (v4_7 : Int32) (w_7 : fg_W) (H : Heap) (locs : List Loc) (ls : Array Slot), fg_H D g s.heap w_7 H locs → lv_has ls 5 [(0, .ref (g.1 4 0 0)), (1, .int a1), (2, .int a2), (3, .int a3), (4, .int v4_7)] → (fg_bv (f_X4_laysBack  w_7) (fun w3 => if v4_7 ≤ 100 then (some (v4_7, w3)) else (fg_bi (f_X4_no 3 w3) (fun r7 w5 => some (r7, w5))))) = some (r, w') → fg_Gi p l e 7 158 s m [.ref (g.1 4 0 0), .int a1, .int a2, .int a3] below meth c D g r w' H locs 34 ls [] := by
    intro v4_7 w_7 H locs ls h hl hf
    refine lv_aload_n hx hb dX4_firstBy_34 rfl (lv_at hl 0 rfl) ?_
    obtain ⟨w3, hc4, hf⟩ := fg_bvE hf
    refine fg_cv h (fg_runV (rest := []) S hK h (c_X4_laysBack l D g   w_7 w3 hc4) vg_RX4_166 vd_X4_laysBack ⟨by decide, by decide⟩ fg_p4_0 rfl rfl rfl hl.1 rfl (Nat.le_of_ble_eq_true rfl) dX4_firstBy_35 ⟨Nat.zero_le _, Nat.zero_le _⟩) (fun H locs h => ?_)
    refine lv_iload hx hb dX4_firstBy_38 (lv_at hl 4 rfl) ?_
    refine lv_bipush (v := 100) hx hb dX4_firstBy_40 rfl ?_
    refine lv_icmp_le (tgt := 53) hx hb dX4_firstBy_42 (by decide) (fun hc => ?_) (fun hc => ?_)
    · have hf := fg_ifT hf hc
      refine lv_iload hx hb dX4_firstBy_53 (lv_at hl 4 rfl) ?_
      exact fg_reti hx hb hr hlk hK h hf dX4_firstBy_55
    · have hf := fg_ifF hf hc
      refine lv_aload_n hx hb dX4_firstBy_45 rfl (lv_at hl 0 rfl) ?_
      refine lv_iconst (v := 3) hx hb dX4_firstBy_46 rfl ?_
      obtain ⟨r7, w5, hc6, hf⟩ := fg_biE hf
      refine fg_ci h (fg_runV (rest := []) S hK h (c_X4_no l D g 3  w3 r7 w5 hc6) vg_RX4_129 vd_X4_no ⟨by decide, by decide⟩ fg_p4_0 rfl rfl rfl hl.1 rfl (Nat.le_of_ble_eq_true rfl) dX4_firstBy_47 ⟨Nat.zero_le _, Nat.zero_le _⟩) (fun H locs h => ?_)
      refine lv_goto (tgt := 55) hx hb dX4_firstBy_50 (by decide) ?_
      exact fg_reti hx hb hr hlk hK h hf dX4_firstBy_55
  have hL_7 : ∀ (KK_7 : Int32 → fg_W → Option (Int32 × fg_W)) (hK_7 : ∀ (v4_7 : Int32) (w_7 : fg_W) (H : Heap) (locs : List Loc) (ls : Array Slot), fg_H D g s.heap w_7 H locs → lv_has ls 5 [(0, .ref (g.1 4 0 0)), (1, .int a1), (2, .int a2), (3, .int a3), (4, .int v4_7)] → KK_7 v4_7 w_7 = some (r, w') → fg_Gi p l e 7 158 s m [.ref (g.1 4 0 0), .int a1, .int a2, .int a3] below meth c D g r w' H locs 34 ls []) (n : Nat) (v4_7 : Int32) (w_7 : fg_W) (H : Heap) (locs : List Loc) (ls : Array Slot), fg_H D g s.heap w_7 H locs → lv_has ls 5 [(0, .ref (g.1 4 0 0)), (1, .int a1), (2, .int a2), (3, .int a3), (4, .int v4_7)] → f_X4_firstBy_L7 a1 a2 a3 KK_7 n v4_7 w_7 = some (r, w') → fg_Gi p l e 7 158 s m [.ref (g.1 4 0 0), .int a1, .int a2, .int a3] below meth c D g r w' H locs 7 ls [] := by
    intro KK_7 hK_7 n
    induction n with
    | zero => intro v4_7 w_7 H locs ls h hl hf; exact fg_no hf
    | succ n_7 ih_7 =>
      intro v4_7 w_7 H locs ls h hl hf
      unfold f_X4_firstBy_L7 at hf
      refine lv_iload hx hb dX4_firstBy_7 (lv_at hl 4 rfl) ?_
      refine lv_bipush (v := 100) hx hb dX4_firstBy_9 rfl ?_
      refine lv_icmp_gt (tgt := 34) hx hb dX4_firstBy_11 (by decide) (fun hc => ?_) (fun hc => ?_)
      · have hf := fg_ifT hf hc
        exact hK_7 v4_7 w_7 _ _ ls h (lv_sub hl [0, 1, 2, 3, 4] rfl) hf
      · have hf := fg_ifF hf hc
        refine lv_aload_n hx hb dX4_firstBy_14 rfl (lv_at hl 0 rfl) ?_
        refine lv_iload_n hx hb dX4_firstBy_15 rfl (lv_at hl 1 rfl) ?_
        refine lv_iload_n hx hb dX4_firstBy_16 rfl (lv_at hl 2 rfl) ?_
        refine lv_iload_n hx hb dX4_firstBy_17 rfl (lv_at hl 3 rfl) ?_
        obtain ⟨r15, w13, hc14, hf⟩ := fg_biE hf
        refine fg_ci h (fg_runV (rest := []) S hK h (c_X4_isSo l D g a1 a2 a3  w_7 r15 w13 hc14) vg_RX4_169 vd_X4_isSo ⟨by decide, by decide⟩ fg_p4_0 rfl rfl rfl hl.1 rfl (Nat.le_of_ble_eq_true rfl) dX4_firstBy_18 ⟨Nat.zero_le _, Nat.zero_le _⟩) (fun H locs h => ?_)
        refine lv_if_ne (tgt := 34) hx hb dX4_firstBy_21 (by decide) (fun hc => ?_) (fun hc => ?_)
        · have hf := fg_ifF hf hc
          exact hK_7 v4_7 w13 _ _ ls h (lv_sub hl [0, 1, 2, 3, 4] rfl) hf
        · have hf := fg_ifT hf hc
          refine lv_aload_n hx hb dX4_firstBy_24 rfl (lv_at hl 0 rfl) ?_
          obtain ⟨w16, hc17, hf⟩ := fg_bvE hf
          refine fg_cv h (fg_runV (rest := []) S hK h (c_X4_day l D g   w13 w16 hc17) vg_RX4_123 vd_X4_day ⟨by decide, by decide⟩ fg_p4_0 rfl rfl rfl hl.1 rfl (Nat.le_of_ble_eq_true rfl) dX4_firstBy_25 ⟨Nat.zero_le _, Nat.zero_le _⟩) (fun H locs h => ?_)
          refine lv_iinc (v := (v4_7 + 1)) (lv' := [(4, .int (v4_7 + 1)), (0, .ref (g.1 4 0 0)), (1, .int a1), (2, .int a2), (3, .int a3)]) hx hb dX4_firstBy_28 hl (k := 4) rfl rfl (by decide) rfl (fun ls hl => ?_)
          refine lv_goto (tgt := 7) hx hb dX4_firstBy_31 (by decide) ?_
          exact ih_7 (v4_7 + 1) w16 _ _ ls h (lv_sub hl [1, 2, 3, 4, 0] rfl) hf
  exact hL_7 _ hK_7 fg_fuel 0 w1 _ _ ls h (lv_sub hl [1, 2, 3, 4, 0] rfl) hf
set_option maxHeartbeats 4000000 in
set_option maxRecDepth 100000 in
theorem c_X4_falls (l : Launch) (D : va_G) (g : fg_G) (a1 : Int32) (w : fg_W) (r : Int32) (w' : fg_W) (hf : f_X4_falls a1 w = some (r, w')) : fg_M l yX4_falls cX4_falls 2 (some .int) 8 182 D g [.ref (g.1 4 0 0), .int a1] w (fg_Qi D g r w') := by
  refine fg_M.of rfl (Nat.le_of_ble_eq_true rfl) (fun p e s m below meth c ls S hr hlk hK h hl => ?_)
  have hx := S.1
  have hb := S.2.1
  have hl : lv_has ls 2 [(0, .ref (g.1 4 0 0)), (1, .int a1)] := hl
  unfold f_X4_falls at hf
  refine lv_aload_n hx hb dX4_falls_0 rfl (lv_at hl 0 rfl) ?_
  refine lv_iload_n hx hb dX4_falls_1 rfl (lv_at hl 1 rfl) ?_
  obtain ⟨r3, w1, hc2, hf⟩ := fg_biE hf
  refine fg_ci h (fg_runV (rest := []) S hK h (c_X4_isPerson l D g a1  w r3 w1 hc2) vg_RX4_138 vd_X4_isPerson ⟨by decide, by decide⟩ fg_p4_0 rfl rfl rfl hl.1 rfl (Nat.le_of_ble_eq_true rfl) dX4_falls_2 ⟨Nat.zero_le _, Nat.zero_le _⟩) (fun H locs h => ?_)
  refine lv_if_eq (tgt := 23) hx hb dX4_falls_5 (by decide) (fun hc => ?_) (fun hc => ?_)
  · have hf := fg_ifT hf hc
    refine lv_aload_n hx hb dX4_falls_23 rfl (lv_at hl 0 rfl) ?_
    refine lv_iconst (v := 0) hx hb dX4_falls_24 rfl ?_
    obtain ⟨r6, w4, hc5, hf⟩ := fg_biE hf
    refine fg_ci h (fg_runV (rest := []) S hK h (c_X4_no l D g 0  w1 r6 w4 hc5) vg_RX4_129 vd_X4_no ⟨by decide, by decide⟩ fg_p4_0 rfl rfl rfl hl.1 rfl (Nat.le_of_ble_eq_true rfl) dX4_falls_25 ⟨Nat.zero_le _, Nat.zero_le _⟩) (fun H locs h => ?_)
    exact fg_reti hx hb hr hlk hK h hf dX4_falls_28
  · have hf := fg_ifF hf hc
    refine lv_aload_n hx hb dX4_falls_8 rfl (lv_at hl 0 rfl) ?_
    refine lv_iload_n hx hb dX4_falls_9 rfl (lv_at hl 1 rfl) ?_
    refine lv_aload_n hx hb dX4_falls_10 rfl (lv_at hl 0 rfl) ?_
    refine lv_iload_n hx hb dX4_falls_11 rfl (lv_at hl 1 rfl) ?_
    refine lv_iconst (v := 4) hx hb dX4_falls_12 rfl ?_
    obtain ⟨r9, w7, hc8, hf⟩ := fg_biE hf
    refine fg_ci h (fg_runV (rest := [.int a1, .ref (g.1 4 0 0)]) S hK h (c_X4_get l D g a1 4  w1 r9 w7 hc8) vg_RX4_65 vd_X4_get ⟨by decide, by decide⟩ fg_p4_0 rfl rfl rfl hl.1 rfl (Nat.le_of_ble_eq_true rfl) dX4_falls_13 ⟨Nat.zero_le _, Nat.zero_le _⟩) (fun H locs h => ?_)
    refine lv_iconst (v := 0) hx hb dX4_falls_16 rfl ?_
    obtain ⟨r12, w10, hc11, hf⟩ := fg_biE hf
    refine fg_ci h (fg_runV (rest := []) S hK h (c_X4_firstBy l D g a1 r9 0  w7 r12 w10 hc11) vg_RX4_172 vd_X4_firstBy ⟨by decide, by decide⟩ fg_p4_0 rfl rfl rfl hl.1 rfl (Nat.le_of_ble_eq_true rfl) dX4_falls_17 ⟨Nat.zero_le _, Nat.zero_le _⟩) (fun H locs h => ?_)
    refine lv_goto (tgt := 28) hx hb dX4_falls_20 (by decide) ?_
    exact fg_reti hx hb hr hlk hK h hf dX4_falls_28
set_option maxHeartbeats 4000000 in
set_option maxRecDepth 100000 in
theorem c_X4_bare (l : Launch) (D : va_G) (g : fg_G)  (w : fg_W) (r : Int32) (w' : fg_W) (hf : f_X4_bare  w = some (r, w')) : fg_M l yX4_bare cX4_bare 1 (some .int) 8 182 D g [.ref (g.1 4 0 0)] w (fg_Qi D g r w') := by
  refine fg_M.of rfl (Nat.le_of_ble_eq_true rfl) (fun p e s m below meth c ls S hr hlk hK h hl => ?_)
  have hx := S.1
  have hb := S.2.1
  have hl : lv_has ls 1 [(0, .ref (g.1 4 0 0))] := hl
  unfold f_X4_bare at hf
  refine lv_aload_n hx hb dX4_bare_0 rfl (lv_at hl 0 rfl) ?_
  refine lv_iconst (v := 0) hx hb dX4_bare_1 rfl ?_
  refine lv_iconst (v := 0) hx hb dX4_bare_2 rfl ?_
  refine lv_iconst (v := 1) hx hb dX4_bare_3 rfl ?_
  obtain ⟨r3, w1, hc2, hf⟩ := fg_biE hf
  refine fg_ci h (fg_runV (rest := []) S hK h (c_X4_firstBy l D g 0 0 1  w r3 w1 hc2) vg_RX4_172 vd_X4_firstBy ⟨by decide, by decide⟩ fg_p4_0 rfl rfl rfl hl.1 rfl (Nat.le_of_ble_eq_true rfl) dX4_bare_4 ⟨Nat.zero_le _, Nat.zero_le _⟩) (fun H locs h => ?_)
  exact fg_reti hx hb hr hlk hK h hf dX4_bare_7
set_option maxHeartbeats 4000000 in
set_option maxRecDepth 100000 in
theorem c_X4_meet (l : Launch) (D : va_G) (g : fg_G) (a1 : Int32) (a2 : Int32) (w : fg_W) (r : Int32) (w' : fg_W) (hf : f_X4_meet a1 a2 w = some (r, w')) : fg_M l yX4_meet cX4_meet 3 (some .int) 8 182 D g [.ref (g.1 4 0 0), .int a1, .int a2] w (fg_Qi D g r w') := by
  refine fg_M.of rfl (Nat.le_of_ble_eq_true rfl) (fun p e s m below meth c ls S hr hlk hK h hl => ?_)
  have hx := S.1
  have hb := S.2.1
  have hl : lv_has ls 3 [(0, .ref (g.1 4 0 0)), (1, .int a1), (2, .int a2)] := hl
  unfold f_X4_meet at hf
  refine lv_aload_n hx hb dX4_meet_0 rfl (lv_at hl 0 rfl) ?_
  refine lv_iload_n hx hb dX4_meet_1 rfl (lv_at hl 1 rfl) ?_
  obtain ⟨r3, w1, hc2, hf⟩ := fg_biE hf
  refine fg_ci h (fg_runV (rest := []) S hK h (c_X4_isPerson l D g a1  w r3 w1 hc2) vg_RX4_138 vd_X4_isPerson ⟨by decide, by decide⟩ fg_p4_0 rfl rfl rfl hl.1 rfl (Nat.le_of_ble_eq_true rfl) dX4_meet_2 ⟨Nat.zero_le _, Nat.zero_le _⟩) (fun H locs h => ?_)
  refine lv_if_eq (tgt := 31) hx hb dX4_meet_5 (by decide) (fun hc => ?_) (fun hc => ?_)
  · have hf := fg_ifT hf hc
    refine lv_aload_n hx hb dX4_meet_31 rfl (lv_at hl 0 rfl) ?_
    refine lv_iconst (v := 0) hx hb dX4_meet_32 rfl ?_
    obtain ⟨r6, w4, hc5, hf⟩ := fg_biE hf
    refine fg_ci h (fg_runV (rest := []) S hK h (c_X4_no l D g 0  w1 r6 w4 hc5) vg_RX4_129 vd_X4_no ⟨by decide, by decide⟩ fg_p4_0 rfl rfl rfl hl.1 rfl (Nat.le_of_ble_eq_true rfl) dX4_meet_33 ⟨Nat.zero_le _, Nat.zero_le _⟩) (fun H locs h => ?_)
    exact fg_reti hx hb hr hlk hK h hf dX4_meet_36
  · have hf := fg_ifF hf hc
    refine lv_aload_n hx hb dX4_meet_8 rfl (lv_at hl 0 rfl) ?_
    refine lv_iload_n hx hb dX4_meet_9 rfl (lv_at hl 2 rfl) ?_
    obtain ⟨r9, w7, hc8, hf⟩ := fg_biE hf
    refine fg_ci h (fg_runV (rest := []) S hK h (c_X4_isPerson l D g a2  w1 r9 w7 hc8) vg_RX4_138 vd_X4_isPerson ⟨by decide, by decide⟩ fg_p4_0 rfl rfl rfl hl.1 rfl (Nat.le_of_ble_eq_true rfl) dX4_meet_10 ⟨Nat.zero_le _, Nat.zero_le _⟩) (fun H locs h => ?_)
    refine lv_if_eq (tgt := 31) hx hb dX4_meet_13 (by decide) (fun hc => ?_) (fun hc => ?_)
    · have hf := fg_ifT hf hc
      refine lv_aload_n hx hb dX4_meet_31 rfl (lv_at hl 0 rfl) ?_
      refine lv_iconst (v := 0) hx hb dX4_meet_32 rfl ?_
      obtain ⟨r12, w10, hc11, hf⟩ := fg_biE hf
      refine fg_ci h (fg_runV (rest := []) S hK h (c_X4_no l D g 0  w7 r12 w10 hc11) vg_RX4_129 vd_X4_no ⟨by decide, by decide⟩ fg_p4_0 rfl rfl rfl hl.1 rfl (Nat.le_of_ble_eq_true rfl) dX4_meet_33 ⟨Nat.zero_le _, Nat.zero_le _⟩) (fun H locs h => ?_)
      exact fg_reti hx hb hr hlk hK h hf dX4_meet_36
    · have hf := fg_ifF hf hc
      refine lv_iload_n hx hb dX4_meet_16 rfl (lv_at hl 1 rfl) ?_
      refine lv_iload_n hx hb dX4_meet_17 rfl (lv_at hl 2 rfl) ?_
      refine lv_icmp_eq (tgt := 31) hx hb dX4_meet_18 (by decide) (fun hc => ?_) (fun hc => ?_)
      · have hf := fg_ifT hf hc
        refine lv_aload_n hx hb dX4_meet_31 rfl (lv_at hl 0 rfl) ?_
        refine lv_iconst (v := 0) hx hb dX4_meet_32 rfl ?_
        obtain ⟨r15, w13, hc14, hf⟩ := fg_biE hf
        refine fg_ci h (fg_runV (rest := []) S hK h (c_X4_no l D g 0  w7 r15 w13 hc14) vg_RX4_129 vd_X4_no ⟨by decide, by decide⟩ fg_p4_0 rfl rfl rfl hl.1 rfl (Nat.le_of_ble_eq_true rfl) dX4_meet_33 ⟨Nat.zero_le _, Nat.zero_le _⟩) (fun H locs h => ?_)
        exact fg_reti hx hb hr hlk hK h hf dX4_meet_36
      · have hf := fg_ifF hf hc
        refine lv_aload_n hx hb dX4_meet_21 rfl (lv_at hl 0 rfl) ?_
        refine lv_iload_n hx hb dX4_meet_22 rfl (lv_at hl 1 rfl) ?_
        refine lv_iload_n hx hb dX4_meet_23 rfl (lv_at hl 2 rfl) ?_
        refine lv_iconst (v := 2) hx hb dX4_meet_24 rfl ?_
        obtain ⟨r18, w16, hc17, hf⟩ := fg_biE hf
        refine fg_ci h (fg_runV (rest := []) S hK h (c_X4_firstBy l D g a1 a2 2  w7 r18 w16 hc17) vg_RX4_172 vd_X4_firstBy ⟨by decide, by decide⟩ fg_p4_0 rfl rfl rfl hl.1 rfl (Nat.le_of_ble_eq_true rfl) dX4_meet_25 ⟨Nat.zero_le _, Nat.zero_le _⟩) (fun H locs h => ?_)
        refine lv_goto (tgt := 36) hx hb dX4_meet_28 (by decide) ?_
        exact fg_reti hx hb hr hlk hK h hf dX4_meet_36
set_option maxHeartbeats 4000000 in
set_option maxRecDepth 100000 in
theorem c_X4_isSoon (l : Launch) (D : va_G) (g : fg_G) (a1 : Int32) (w : fg_W) (r : Int32) (w' : fg_W) (hf : f_X4_isSoon a1 w = some (r, w')) : fg_M l yX4_isSoon cX4_isSoon 1 (some .boolean) 1 22 D g [.int a1] w (fg_Qi D g r w') := by
  refine fg_M.of rfl (Nat.le_of_ble_eq_true rfl) (fun p e s m below meth c ls S hr hlk hK h hl => ?_)
  have hx := S.1
  have hb := S.2.1
  have hl : lv_has ls 1 [(0, .int a1)] := hl
  unfold f_X4_isSoon at hf
  refine lv_iload_n hx hb dX4_isSoon_0 rfl (lv_at hl 0 rfl) ?_
  refine lv_iconst (v := 0) hx hb dX4_isSoon_1 rfl ?_
  refine lv_bipush (v := 40) hx hb dX4_isSoon_2 rfl ?_
  obtain ⟨r3, w1, hc2, hf⟩ := fg_biE hf
  refine fg_ci h (fg_runS (rest := []) S hK h (c_X4_in1 l D g a1 0 40  w r3 w1 hc2) vk_X4_in1 vm_RX4_61 vs_X4_in1 vi_RX4 vd_X4_in1.2 ⟨by decide, by decide⟩ rfl hl.1 rfl (Nat.le_of_ble_eq_true rfl) dX4_isSoon_4 ⟨Nat.zero_le _, Nat.zero_le _⟩) (fun H locs h => ?_)
  obtain ⟨hz, hf⟩ := fg_gpE hf
  exact fg_retz hx hb hr hlk hK h hf hz dX4_isSoon_7
set_option maxHeartbeats 4000000 in
set_option maxRecDepth 100000 in
theorem c_X4_thenWith (l : Launch) (D : va_G) (g : fg_G) (a1 : Int32) (a2 : Int32) (a3 : Int32) (a4 : Int32) (a5 : Int32) (w : fg_W) (r : Int32) (w' : fg_W) (hf : f_X4_thenWith a1 a2 a3 a4 a5 w = some (r, w')) : fg_M l yX4_thenWith cX4_thenWith 7 (some .int) 8 180 D g [.ref (g.1 4 0 0), .int a1, .int a2, .int a3, .int a4, .int a5] w (fg_Qi D g r w') := by
  refine fg_M.of rfl (Nat.le_of_ble_eq_true rfl) (fun p e s m below meth c ls S hr hlk hK h hl => ?_)
  have hx := S.1
  have hb := S.2.1
  have hl : lv_has ls 7 [(0, .ref (g.1 4 0 0)), (1, .int a1), (2, .int a2), (3, .int a3), (4, .int a4), (5, .int a5)] := hl
  unfold f_X4_thenWith at hf
  refine lv_aload_n hx hb dX4_thenWith_0 rfl (lv_at hl 0 rfl) ?_
  obtain ⟨w1, hc2, hf⟩ := fg_bvE hf
  refine fg_cv h (fg_runV (rest := []) S hK h (c_X4_setsAside l D g   w w1 hc2) vg_RX4_163 vd_X4_setsAside ⟨by decide, by decide⟩ fg_p4_0 rfl rfl rfl hl.1 rfl (Nat.le_of_ble_eq_true rfl) dX4_thenWith_1 ⟨Nat.zero_le _, Nat.zero_le _⟩) (fun H locs h => ?_)
  refine lv_aload_n hx hb dX4_thenWith_4 rfl (lv_at hl 0 rfl) ?_
  refine lv_iload_n hx hb dX4_thenWith_5 rfl (lv_at hl 1 rfl) ?_
  refine lv_iload_n hx hb dX4_thenWith_6 rfl (lv_at hl 2 rfl) ?_
  refine lv_iload_n hx hb dX4_thenWith_7 rfl (lv_at hl 3 rfl) ?_
  obtain ⟨w3, hc4, hf⟩ := fg_bvE hf
  refine fg_cv h (fg_runV (rest := []) S hK h (c_X4_puts l D g a1 a2 a3  w1 w3 hc4) vg_RX4_95 vd_X4_puts ⟨by decide, by decide⟩ fg_p4_0 rfl rfl rfl hl.1 rfl (Nat.le_of_ble_eq_true rfl) dX4_thenWith_8 ⟨Nat.zero_le _, Nat.zero_le _⟩) (fun H locs h => ?_)
  refine lv_aload_n hx hb dX4_thenWith_11 rfl (lv_at hl 0 rfl) ?_
  refine lv_iload hx hb dX4_thenWith_12 (lv_at hl 4 rfl) ?_
  obtain ⟨w5, hc6, hf⟩ := fg_bvE hf
  refine fg_cv h (fg_runV (rest := []) S hK h (c_X4_goes l D g a4  w3 w5 hc6) vg_RX4_144 vd_X4_goes ⟨by decide, by decide⟩ fg_p4_0 rfl rfl rfl hl.1 rfl (Nat.le_of_ble_eq_true rfl) dX4_thenWith_14 ⟨Nat.zero_le _, Nat.zero_le _⟩) (fun H locs h => ?_)
  refine lv_aload_n hx hb dX4_thenWith_17 rfl (lv_at hl 0 rfl) ?_
  refine lv_iload_n hx hb dX4_thenWith_18 rfl (lv_at hl 1 rfl) ?_
  refine lv_iload hx hb dX4_thenWith_19 (lv_at hl 5 rfl) ?_
  obtain ⟨r9, w7, hc8, hf⟩ := fg_biE hf
  refine fg_ci h (fg_runV (rest := []) S hK h (c_X4_get l D g a1 a5  w5 r9 w7 hc8) vg_RX4_65 vd_X4_get ⟨by decide, by decide⟩ fg_p4_0 rfl rfl rfl hl.1 rfl (Nat.le_of_ble_eq_true rfl) dX4_thenWith_21 ⟨Nat.zero_le _, Nat.zero_le _⟩) (fun H locs h => ?_)
  refine lv_istore (lv' := [(6, .int r9), (0, .ref (g.1 4 0 0)), (1, .int a1), (2, .int a2), (3, .int a3), (4, .int a4), (5, .int a5)]) hx hb dX4_thenWith_24 hl (by decide) rfl (fun ls hl => ?_)
  refine lv_aload_n hx hb dX4_thenWith_26 rfl (lv_at hl 1 rfl) ?_
  obtain ⟨w10, hc11, hf⟩ := fg_bvE hf
  refine fg_cv h (fg_runV (rest := []) S hK h (c_X4_laysBack l D g   w7 w10 hc11) vg_RX4_166 vd_X4_laysBack ⟨by decide, by decide⟩ fg_p4_0 rfl rfl rfl hl.1 rfl (Nat.le_of_ble_eq_true rfl) dX4_thenWith_27 ⟨Nat.zero_le _, Nat.zero_le _⟩) (fun H locs h => ?_)
  refine lv_iload hx hb dX4_thenWith_30 (lv_at hl 0 rfl) ?_
  exact fg_reti hx hb hr hlk hK h hf dX4_thenWith_32
set_option maxHeartbeats 4000000 in
set_option maxRecDepth 100000 in
theorem c_X4_beliefFor (l : Launch) (D : va_G) (g : fg_G) (a1 : Int32) (a2 : Int32) (w : fg_W) (r : Int32) (w' : fg_W) (hf : f_X4_beliefFor a1 a2 w = some (r, w')) : fg_M l yX4_beliefFor cX4_beliefFor 4 (some .int) 9 206 D g [.ref (g.1 4 0 0), .int a1, .int a2] w (fg_Qi D g r w') := by
  refine fg_M.of rfl (Nat.le_of_ble_eq_true rfl) (fun p e s m below meth c ls S hr hlk hK h hl => ?_)
  have hx := S.1
  have hb := S.2.1
  have hl : lv_has ls 4 [(0, .ref (g.1 4 0 0)), (1, .int a1), (2, .int a2)] := hl
  unfold f_X4_beliefFor at hf
  refine lv_aload_n hx hb dX4_beliefFor_0 rfl (lv_at hl 0 rfl) ?_
  refine lv_iload_n hx hb dX4_beliefFor_1 rfl (lv_at hl 1 rfl) ?_
  obtain ⟨r3, w1, hc2, hf⟩ := fg_biE hf
  refine fg_ci h (fg_runV (rest := []) S hK h (c_X4_isPerson l D g a1  w r3 w1 hc2) vg_RX4_138 vd_X4_isPerson ⟨by decide, by decide⟩ fg_p4_0 rfl rfl rfl hl.1 rfl (Nat.le_of_ble_eq_true rfl) dX4_beliefFor_2 ⟨Nat.zero_le _, Nat.zero_le _⟩) (fun H locs h => ?_)
  refine lv_if_eq (tgt := 15) hx hb dX4_beliefFor_5 (by decide) (fun hc => ?_) (fun hc => ?_)
  · have hf := fg_ifT hf hc
    refine lv_aload_n hx hb dX4_beliefFor_15 rfl (lv_at hl 0 rfl) ?_
    refine lv_iconst (v := 0) hx hb dX4_beliefFor_16 rfl ?_
    obtain ⟨r6, w4, hc5, hf⟩ := fg_biE hf
    refine fg_ci h (fg_runV (rest := []) S hK h (c_X4_no l D g 0  w1 r6 w4 hc5) vg_RX4_129 vd_X4_no ⟨by decide, by decide⟩ fg_p4_0 rfl rfl rfl hl.1 rfl (Nat.le_of_ble_eq_true rfl) dX4_beliefFor_17 ⟨Nat.zero_le _, Nat.zero_le _⟩) (fun H locs h => ?_)
    exact fg_reti hx hb hr hlk hK h hf dX4_beliefFor_20
  · have hf := fg_ifF hf hc
    refine lv_iload_n hx hb dX4_beliefFor_8 rfl (lv_at hl 2 rfl) ?_
    obtain ⟨r9, w7, hc8, hf⟩ := fg_biE hf
    refine fg_ci h (fg_runS (rest := []) S hK h (c_X4_isSoon l D g a2  w1 r9 w7 hc8) vk_X4_isSoon vm_RX4_176 vs_X4_isSoon vi_RX4 vd_X4_isSoon.2 ⟨by decide, by decide⟩ rfl hl.1 rfl (Nat.le_of_ble_eq_true rfl) dX4_beliefFor_9 ⟨Nat.zero_le _, Nat.zero_le _⟩) (fun H locs h => ?_)
    refine lv_if_ne (tgt := 21) hx hb dX4_beliefFor_12 (by decide) (fun hc => ?_) (fun hc => ?_)
    · have hf := fg_ifF hf hc
      refine lv_iconst (v := 0) hx hb dX4_beliefFor_21 rfl ?_
      refine lv_istore_n (lv' := [(3, .int 0), (0, .ref (g.1 4 0 0)), (1, .int a1), (2, .int a2)]) hx hb dX4_beliefFor_22 rfl hl (by decide) rfl (fun ls hl => ?_)
      have hK_23 : ∀ (v3_23 : Int32) (w_23 : fg_W) (H : Heap) (locs : List Loc) (ls : Array Slot), fg_H D g s.heap w_23 H locs → lv_has ls 4 [(0, .ref (g.1 4 0 0)), (1, .int a1), (2, .int a2), (3, .int v3_23)] → (if v3_23 = 100 then (fg_bi (f_X4_no 3 w_23) (fun r12 w10 => some (r12, w10))) else (some (v3_23, w_23))) = some (r, w') → fg_Gi p l e 9 206 s m [.ref (g.1 4 0 0), .int a1, .int a2] below meth c D g r w' H locs 53 ls [] := by
        intro v3_23 w_23 H locs ls h hl hf
        refine lv_iload_n hx hb dX4_beliefFor_53 rfl (lv_at hl 3 rfl) ?_
        refine lv_bipush (v := 100) hx hb dX4_beliefFor_54 rfl ?_
        refine lv_icmp_ne (tgt := 67) hx hb dX4_beliefFor_56 (by decide) (fun hc => ?_) (fun hc => ?_)
        · have hf := fg_ifF hf hc
          refine lv_iload_n hx hb dX4_beliefFor_67 rfl (lv_at hl 3 rfl) ?_
          exact fg_reti hx hb hr hlk hK h hf dX4_beliefFor_68
        · have hf := fg_ifT hf hc
          refine lv_aload_n hx hb dX4_beliefFor_59 rfl (lv_at hl 0 rfl) ?_
          refine lv_iconst (v := 3) hx hb dX4_beliefFor_60 rfl ?_
          obtain ⟨r12, w10, hc11, hf⟩ := fg_biE hf
          refine fg_ci h (fg_runV (rest := []) S hK h (c_X4_no l D g 3  w_23 r12 w10 hc11) vg_RX4_129 vd_X4_no ⟨by decide, by decide⟩ fg_p4_0 rfl rfl rfl hl.1 rfl (Nat.le_of_ble_eq_true rfl) dX4_beliefFor_61 ⟨Nat.zero_le _, Nat.zero_le _⟩) (fun H locs h => ?_)
          refine lv_goto (tgt := 68) hx hb dX4_beliefFor_64 (by decide) ?_
          exact fg_reti hx hb hr hlk hK h hf dX4_beliefFor_68
      have hL_23 : ∀ (KK_23 : Int32 → fg_W → Option (Int32 × fg_W)) (hK_23 : ∀ (v3_23 : Int32) (w_23 : fg_W) (H : Heap) (locs : List Loc) (ls : Array Slot), fg_H D g s.heap w_23 H locs → lv_has ls 4 [(0, .ref (g.1 4 0 0)), (1, .int a1), (2, .int a2), (3, .int v3_23)] → KK_23 v3_23 w_23 = some (r, w') → fg_Gi p l e 9 206 s m [.ref (g.1 4 0 0), .int a1, .int a2] below meth c D g r w' H locs 53 ls []) (n : Nat) (v3_23 : Int32) (w_23 : fg_W) (H : Heap) (locs : List Loc) (ls : Array Slot), fg_H D g s.heap w_23 H locs → lv_has ls 4 [(0, .ref (g.1 4 0 0)), (1, .int a1), (2, .int a2), (3, .int v3_23)] → f_X4_beliefFor_L23 a1 a2 KK_23 n v3_23 w_23 = some (r, w') → fg_Gi p l e 9 206 s m [.ref (g.1 4 0 0), .int a1, .int a2] below meth c D g r w' H locs 23 ls [] := by
        intro KK_23 hK_23 n
        induction n with
        | zero => intro v3_23 w_23 H locs ls h hl hf; exact fg_no hf
        | succ n_23 ih_23 =>
          intro v3_23 w_23 H locs ls h hl hf
          unfold f_X4_beliefFor_L23 at hf
          refine lv_iload_n hx hb dX4_beliefFor_23 rfl (lv_at hl 3 rfl) ?_
          refine lv_bipush (v := 100) hx hb dX4_beliefFor_24 rfl ?_
          refine lv_icmp_ge (tgt := 53) hx hb dX4_beliefFor_26 (by decide) (fun hc => ?_) (fun hc => ?_)
          · have hf := fg_ifT hf hc
            exact hK_23 v3_23 w_23 _ _ ls h (lv_sub hl [0, 1, 2, 3] rfl) hf
          · have hf := fg_ifF hf hc
            refine lv_aload_n hx hb dX4_beliefFor_29 rfl (lv_at hl 0 rfl) ?_
            refine lv_iload_n hx hb dX4_beliefFor_30 rfl (lv_at hl 1 rfl) ?_
            refine lv_iconst (v := 2) hx hb dX4_beliefFor_31 rfl ?_
            refine lv_iload_n hx hb dX4_beliefFor_32 rfl (lv_at hl 3 rfl) ?_
            refine lv_iload_n hx hb dX4_beliefFor_33 rfl (lv_at hl 2 rfl) ?_
            refine lv_iconst (v := 4) hx hb dX4_beliefFor_34 rfl ?_
            obtain ⟨r21, w19, hc20, hf⟩ := fg_biE hf
            refine fg_ci h (fg_runV (rest := []) S hK h (c_X4_thenWith l D g a1 2 v3_23 a2 4  w_23 r21 w19 hc20) vg_RX4_179 vd_X4_thenWith ⟨by decide, by decide⟩ fg_p4_0 rfl rfl rfl hl.1 rfl (Nat.le_of_ble_eq_true rfl) dX4_beliefFor_35 ⟨Nat.zero_le _, Nat.zero_le _⟩) (fun H locs h => ?_)
            refine lv_aload_n hx hb dX4_beliefFor_38 rfl (lv_at hl 0 rfl) ?_
            refine lv_iload_n hx hb dX4_beliefFor_39 rfl (lv_at hl 1 rfl) ?_
            refine lv_iconst (v := 4) hx hb dX4_beliefFor_40 rfl ?_
            obtain ⟨r24, w22, hc23, hf⟩ := fg_biE hf
            refine fg_ci h (fg_runV (rest := [.int r21]) S hK h (c_X4_get l D g a1 4  w19 r24 w22 hc23) vg_RX4_65 vd_X4_get ⟨by decide, by decide⟩ fg_p4_0 rfl rfl rfl hl.1 rfl (Nat.le_of_ble_eq_true rfl) dX4_beliefFor_41 ⟨Nat.zero_le _, Nat.zero_le _⟩) (fun H locs h => ?_)
            refine lv_icmp_eq (tgt := 53) hx hb dX4_beliefFor_44 (by decide) (fun hc => ?_) (fun hc => ?_)
            · have hf := fg_ifT hf hc
              exact hK_23 v3_23 w22 _ _ ls h (lv_sub hl [0, 1, 2, 3] rfl) hf
            · have hf := fg_ifF hf hc
              refine lv_iinc (v := (v3_23 + 1)) (lv' := [(3, .int (v3_23 + 1)), (0, .ref (g.1 4 0 0)), (1, .int a1), (2, .int a2)]) hx hb dX4_beliefFor_47 hl (k := 3) rfl rfl (by decide) rfl (fun ls hl => ?_)
              refine lv_goto (tgt := 23) hx hb dX4_beliefFor_50 (by decide) ?_
              exact ih_23 (v3_23 + 1) w22 _ _ ls h (lv_sub hl [1, 2, 3, 0] rfl) hf
      exact hL_23 _ hK_23 fg_fuel 0 w7 _ _ ls h (lv_sub hl [1, 2, 3, 0] rfl) hf
    · have hf := fg_ifT hf hc
      refine lv_aload_n hx hb dX4_beliefFor_15 rfl (lv_at hl 0 rfl) ?_
      refine lv_iconst (v := 0) hx hb dX4_beliefFor_16 rfl ?_
      obtain ⟨r27, w25, hc26, hf⟩ := fg_biE hf
      refine fg_ci h (fg_runV (rest := []) S hK h (c_X4_no l D g 0  w7 r27 w25 hc26) vg_RX4_129 vd_X4_no ⟨by decide, by decide⟩ fg_p4_0 rfl rfl rfl hl.1 rfl (Nat.le_of_ble_eq_true rfl) dX4_beliefFor_17 ⟨Nat.zero_le _, Nat.zero_le _⟩) (fun H locs h => ?_)
      exact fg_reti hx hb hr hlk hK h hf dX4_beliefFor_20
set_option maxHeartbeats 4000000 in
set_option maxRecDepth 100000 in
theorem c_X4_settle (l : Launch) (D : va_G) (g : fg_G) (a1 : Int32) (a2 : Int32) (w : fg_W) (r : Int32) (w' : fg_W) (hf : f_X4_settle a1 a2 w = some (r, w')) : fg_M l yX4_settle cX4_settle 7 (some .int) 9 206 D g [.ref (g.1 4 0 0), .int a1, .int a2] w (fg_Qi D g r w') := by
  refine fg_M.of rfl (Nat.le_of_ble_eq_true rfl) (fun p e s m below meth c ls S hr hlk hK h hl => ?_)
  have hx := S.1
  have hb := S.2.1
  have hl : lv_has ls 7 [(0, .ref (g.1 4 0 0)), (1, .int a1), (2, .int a2)] := hl
  unfold f_X4_settle at hf
  refine lv_aload_n hx hb dX4_settle_0 rfl (lv_at hl 0 rfl) ?_
  refine lv_iload_n hx hb dX4_settle_1 rfl (lv_at hl 1 rfl) ?_
  obtain ⟨r3, w1, hc2, hf⟩ := fg_biE hf
  refine fg_ci h (fg_runV (rest := []) S hK h (c_X4_isPerson l D g a1  w r3 w1 hc2) vg_RX4_138 vd_X4_isPerson ⟨by decide, by decide⟩ fg_p4_0 rfl rfl rfl hl.1 rfl (Nat.le_of_ble_eq_true rfl) dX4_settle_2 ⟨Nat.zero_le _, Nat.zero_le _⟩) (fun H locs h => ?_)
  refine lv_if_eq (tgt := 15) hx hb dX4_settle_5 (by decide) (fun hc => ?_) (fun hc => ?_)
  · have hf := fg_ifT hf hc
    refine lv_aload_n hx hb dX4_settle_15 rfl (lv_at hl 0 rfl) ?_
    refine lv_iconst (v := 0) hx hb dX4_settle_16 rfl ?_
    obtain ⟨r6, w4, hc5, hf⟩ := fg_biE hf
    refine fg_ci h (fg_runV (rest := []) S hK h (c_X4_no l D g 0  w1 r6 w4 hc5) vg_RX4_129 vd_X4_no ⟨by decide, by decide⟩ fg_p4_0 rfl rfl rfl hl.1 rfl (Nat.le_of_ble_eq_true rfl) dX4_settle_17 ⟨Nat.zero_le _, Nat.zero_le _⟩) (fun H locs h => ?_)
    exact fg_reti hx hb hr hlk hK h hf dX4_settle_20
  · have hf := fg_ifF hf hc
    refine lv_iload_n hx hb dX4_settle_8 rfl (lv_at hl 2 rfl) ?_
    obtain ⟨r9, w7, hc8, hf⟩ := fg_biE hf
    refine fg_ci h (fg_runS (rest := []) S hK h (c_X4_isSoon l D g a2  w1 r9 w7 hc8) vk_X4_isSoon vm_RX4_176 vs_X4_isSoon vi_RX4 vd_X4_isSoon.2 ⟨by decide, by decide⟩ rfl hl.1 rfl (Nat.le_of_ble_eq_true rfl) dX4_settle_9 ⟨Nat.zero_le _, Nat.zero_le _⟩) (fun H locs h => ?_)
    refine lv_if_ne (tgt := 21) hx hb dX4_settle_12 (by decide) (fun hc => ?_) (fun hc => ?_)
    · have hf := fg_ifF hf hc
      refine lv_iconst (v := 0) hx hb dX4_settle_21 rfl ?_
      refine lv_istore_n (lv' := [(3, .int 0), (0, .ref (g.1 4 0 0)), (1, .int a1), (2, .int a2)]) hx hb dX4_settle_22 rfl hl (by decide) rfl (fun ls hl => ?_)
      refine lv_aload_n hx hb dX4_settle_23 rfl (lv_at hl 1 rfl) ?_
      refine lv_iload_n hx hb dX4_settle_24 rfl (lv_at hl 2 rfl) ?_
      refine lv_iconst (v := 1) hx hb dX4_settle_25 rfl ?_
      refine lv_iconst (v := 0) hx hb dX4_settle_26 rfl ?_
      refine lv_iload_n hx hb dX4_settle_27 rfl (lv_at hl 3 rfl) ?_
      refine lv_iconst (v := 4) hx hb dX4_settle_28 rfl ?_
      obtain ⟨r12, w10, hc11, hf⟩ := fg_biE hf
      refine fg_ci h (fg_runV (rest := []) S hK h (c_X4_thenWith l D g a1 1 0 a2 4  w7 r12 w10 hc11) vg_RX4_179 vd_X4_thenWith ⟨by decide, by decide⟩ fg_p4_0 rfl rfl rfl hl.1 rfl (Nat.le_of_ble_eq_true rfl) dX4_settle_29 ⟨Nat.zero_le _, Nat.zero_le _⟩) (fun H locs h => ?_)
      refine lv_istore (lv' := [(4, .int r12), (3, .int 0), (0, .ref (g.1 4 0 0)), (1, .int a1), (2, .int a2)]) hx hb dX4_settle_32 hl (by decide) rfl (fun ls hl => ?_)
      refine lv_iconst (v := 1) hx hb dX4_settle_34 rfl ?_
      refine lv_istore (lv' := [(5, .int 1), (4, .int r12), (3, .int 0), (0, .ref (g.1 4 0 0)), (1, .int a1), (2, .int a2)]) hx hb dX4_settle_35 hl (by decide) rfl (fun ls hl => ?_)
      have hK_37 : ∀ (v3_37 : Int32) (v4_37 : Int32) (v5_37 : Int32) (w_37 : fg_W) (H : Heap) (locs : List Loc) (ls : Array Slot), fg_H D g s.heap w_37 H locs → lv_has ls 7 [(0, .ref (g.1 4 0 0)), (1, .int a1), (2, .int a2), (3, .int v3_37), (4, .int v4_37), (5, .int v5_37)] → (some (v3_37, w_37)) = some (r, w') → fg_Gi p l e 9 206 s m [.ref (g.1 4 0 0), .int a1, .int a2] below meth c D g r w' H locs 85 ls [] := by
        intro v3_37 v4_37 v5_37 w_37 H locs ls h hl hf
        refine lv_iload_n hx hb dX4_settle_85 rfl (lv_at hl 3 rfl) ?_
        exact fg_reti hx hb hr hlk hK h hf dX4_settle_86
      have hL_37 : ∀ (KK_37 : Int32 → Int32 → Int32 → fg_W → Option (Int32 × fg_W)) (hK_37 : ∀ (v3_37 : Int32) (v4_37 : Int32) (v5_37 : Int32) (w_37 : fg_W) (H : Heap) (locs : List Loc) (ls : Array Slot), fg_H D g s.heap w_37 H locs → lv_has ls 7 [(0, .ref (g.1 4 0 0)), (1, .int a1), (2, .int a2), (3, .int v3_37), (4, .int v4_37), (5, .int v5_37)] → KK_37 v3_37 v4_37 v5_37 w_37 = some (r, w') → fg_Gi p l e 9 206 s m [.ref (g.1 4 0 0), .int a1, .int a2] below meth c D g r w' H locs 85 ls []) (n : Nat) (v3_37 : Int32) (v4_37 : Int32) (v5_37 : Int32) (w_37 : fg_W) (H : Heap) (locs : List Loc) (ls : Array Slot), fg_H D g s.heap w_37 H locs → lv_has ls 7 [(0, .ref (g.1 4 0 0)), (1, .int a1), (2, .int a2), (3, .int v3_37), (4, .int v4_37), (5, .int v5_37)] → f_X4_settle_L37 a1 a2 KK_37 n v3_37 v4_37 v5_37 w_37 = some (r, w') → fg_Gi p l e 9 206 s m [.ref (g.1 4 0 0), .int a1, .int a2] below meth c D g r w' H locs 37 ls [] := by
        intro KK_37 hK_37 n
        induction n with
        | zero => intro v3_37 v4_37 v5_37 w_37 H locs ls h hl hf; exact fg_no hf
        | succ n_37 ih_37 =>
          intro v3_37 v4_37 v5_37 w_37 H locs ls h hl hf
          unfold f_X4_settle_L37 at hf
          refine lv_iload hx hb dX4_settle_37 (lv_at hl 5 rfl) ?_
          refine lv_bipush (v := 10) hx hb dX4_settle_39 rfl ?_
          refine lv_icmp_ge (tgt := 85) hx hb dX4_settle_41 (by decide) (fun hc => ?_) (fun hc => ?_)
          · have hf := fg_ifT hf hc
            exact hK_37 v3_37 v4_37 v5_37 w_37 _ _ ls h (lv_sub hl [0, 1, 2, 3, 4, 5] rfl) hf
          · have hf := fg_ifF hf hc
            refine lv_aload_n hx hb dX4_settle_44 rfl (lv_at hl 0 rfl) ?_
            refine lv_iload_n hx hb dX4_settle_45 rfl (lv_at hl 1 rfl) ?_
            refine lv_iconst (v := 1) hx hb dX4_settle_46 rfl ?_
            refine lv_iload hx hb dX4_settle_47 (lv_at hl 5 rfl) ?_
            refine lv_iload_n hx hb dX4_settle_49 rfl (lv_at hl 2 rfl) ?_
            refine lv_iconst (v := 4) hx hb dX4_settle_50 rfl ?_
            obtain ⟨r24, w22, hc23, hf⟩ := fg_biE hf
            refine fg_ci h (fg_runV (rest := []) S hK h (c_X4_thenWith l D g a1 1 v5_37 a2 4  w_37 r24 w22 hc23) vg_RX4_179 vd_X4_thenWith ⟨by decide, by decide⟩ fg_p4_0 rfl rfl rfl hl.1 rfl (Nat.le_of_ble_eq_true rfl) dX4_settle_51 ⟨Nat.zero_le _, Nat.zero_le _⟩) (fun H locs h => ?_)
            refine lv_istore (lv' := [(6, .int r24), (0, .ref (g.1 4 0 0)), (1, .int a1), (2, .int a2), (3, .int v3_37), (4, .int v4_37), (5, .int v5_37)]) hx hb dX4_settle_54 hl (by decide) rfl (fun ls hl => ?_)
            refine lv_iload hx hb dX4_settle_56 (lv_at hl 0 rfl) ?_
            refine lv_iload hx hb dX4_settle_58 (lv_at hl 5 rfl) ?_
            refine lv_icmp_ge (tgt := 68) hx hb dX4_settle_60 (by decide) (fun hc => ?_) (fun hc => ?_)
            · have hf := fg_ifT hf hc
              refine lv_iload_n hx hb dX4_settle_68 rfl (lv_at hl 4 rfl) ?_
              refine lv_istore_n (lv' := [(3, .int v3_37), (6, .int r24), (0, .ref (g.1 4 0 0)), (1, .int a1), (2, .int a2), (4, .int v4_37), (5, .int v5_37)]) hx hb dX4_settle_69 rfl hl (by decide) rfl (fun ls hl => ?_)
              refine lv_iload hx hb dX4_settle_70 (lv_at hl 1 rfl) ?_
              refine lv_iload hx hb dX4_settle_72 (lv_at hl 5 rfl) ?_
              obtain ⟨r27, w25, hc26, hf⟩ := fg_biE hf
              refine fg_ci h (fg_runS (rest := []) S hK h (c_X4_less l D g r24 v4_37  w22 r27 w25 hc26) vk_X4_less vm_RX4_89 vs_X4_less vi_RX4 vd_X4_less.2 ⟨by decide, by decide⟩ rfl hl.1 rfl (Nat.le_of_ble_eq_true rfl) dX4_settle_74 ⟨Nat.zero_le _, Nat.zero_le _⟩) (fun H locs h => ?_)
              refine lv_istore (lv' := [(4, .int r27), (3, .int v3_37), (6, .int r24), (0, .ref (g.1 4 0 0)), (1, .int a1), (2, .int a2), (5, .int v5_37)]) hx hb dX4_settle_77 hl (by decide) rfl (fun ls hl => ?_)
              refine lv_iinc (v := (v5_37 + 1)) (lv' := [(5, .int (v5_37 + 1)), (4, .int r27), (3, .int v3_37), (6, .int r24), (0, .ref (g.1 4 0 0)), (1, .int a1), (2, .int a2)]) hx hb dX4_settle_79 hl (k := 6) rfl rfl (by decide) rfl (fun ls hl => ?_)
              refine lv_goto (tgt := 37) hx hb dX4_settle_82 (by decide) ?_
              exact ih_37 v3_37 r27 (v5_37 + 1) w25 _ _ ls h (lv_sub hl [4, 5, 6, 2, 1, 0] rfl) hf
            · have hf := fg_ifF hf hc
              refine lv_iload hx hb dX4_settle_63 (lv_at hl 6 rfl) ?_
              refine lv_goto (tgt := 69) hx hb dX4_settle_65 (by decide) ?_
              refine lv_istore_n (lv' := [(3, .int v5_37), (6, .int r24), (0, .ref (g.1 4 0 0)), (1, .int a1), (2, .int a2), (4, .int v4_37), (5, .int v5_37)]) hx hb dX4_settle_69 rfl hl (by decide) rfl (fun ls hl => ?_)
              refine lv_iload hx hb dX4_settle_70 (lv_at hl 1 rfl) ?_
              refine lv_iload hx hb dX4_settle_72 (lv_at hl 5 rfl) ?_
              obtain ⟨r30, w28, hc29, hf⟩ := fg_biE hf
              refine fg_ci h (fg_runS (rest := []) S hK h (c_X4_less l D g r24 v4_37  w22 r30 w28 hc29) vk_X4_less vm_RX4_89 vs_X4_less vi_RX4 vd_X4_less.2 ⟨by decide, by decide⟩ rfl hl.1 rfl (Nat.le_of_ble_eq_true rfl) dX4_settle_74 ⟨Nat.zero_le _, Nat.zero_le _⟩) (fun H locs h => ?_)
              refine lv_istore (lv' := [(4, .int r30), (3, .int v5_37), (6, .int r24), (0, .ref (g.1 4 0 0)), (1, .int a1), (2, .int a2), (5, .int v5_37)]) hx hb dX4_settle_77 hl (by decide) rfl (fun ls hl => ?_)
              refine lv_iinc (v := (v5_37 + 1)) (lv' := [(5, .int (v5_37 + 1)), (4, .int r30), (3, .int v5_37), (6, .int r24), (0, .ref (g.1 4 0 0)), (1, .int a1), (2, .int a2)]) hx hb dX4_settle_79 hl (k := 6) rfl rfl (by decide) rfl (fun ls hl => ?_)
              refine lv_goto (tgt := 37) hx hb dX4_settle_82 (by decide) ?_
              exact ih_37 v5_37 r30 (v5_37 + 1) w28 _ _ ls h (lv_sub hl [4, 5, 6, 2, 1, 0] rfl) hf
      exact hL_37 _ hK_37 fg_fuel 0 r12 1 w10 _ _ ls h (lv_sub hl [3, 4, 5, 2, 1, 0] rfl) hf
    · have hf := fg_ifT hf hc
      refine lv_aload_n hx hb dX4_settle_15 rfl (lv_at hl 0 rfl) ?_
      refine lv_iconst (v := 0) hx hb dX4_settle_16 rfl ?_
      obtain ⟨r33, w31, hc32, hf⟩ := fg_biE hf
      refine fg_ci h (fg_runV (rest := []) S hK h (c_X4_no l D g 0  w7 r33 w31 hc32) vg_RX4_129 vd_X4_no ⟨by decide, by decide⟩ fg_p4_0 rfl rfl rfl hl.1 rfl (Nat.le_of_ble_eq_true rfl) dX4_settle_17 ⟨Nat.zero_le _, Nat.zero_le _⟩) (fun H locs h => ?_)
      exact fg_reti hx hb hr hlk hK h hf dX4_settle_20
set_option maxHeartbeats 4000000 in
set_option maxRecDepth 100000 in
theorem c_X4_kindFor (l : Launch) (D : va_G) (g : fg_G) (a1 : Int32) (a2 : Int32) (w : fg_W) (r : Int32) (w' : fg_W) (hf : f_X4_kindFor a1 a2 w = some (r, w')) : fg_M l yX4_kindFor cX4_kindFor 7 (some .int) 9 206 D g [.ref (g.1 4 0 0), .int a1, .int a2] w (fg_Qi D g r w') := by
  refine fg_M.of rfl (Nat.le_of_ble_eq_true rfl) (fun p e s m below meth c ls S hr hlk hK h hl => ?_)
  have hx := S.1
  have hb := S.2.1
  have hl : lv_has ls 7 [(0, .ref (g.1 4 0 0)), (1, .int a1), (2, .int a2)] := hl
  unfold f_X4_kindFor at hf
  refine lv_aload_n hx hb dX4_kindFor_0 rfl (lv_at hl 0 rfl) ?_
  refine lv_iload_n hx hb dX4_kindFor_1 rfl (lv_at hl 1 rfl) ?_
  obtain ⟨r3, w1, hc2, hf⟩ := fg_biE hf
  refine fg_ci h (fg_runV (rest := []) S hK h (c_X4_isPerson l D g a1  w r3 w1 hc2) vg_RX4_138 vd_X4_isPerson ⟨by decide, by decide⟩ fg_p4_0 rfl rfl rfl hl.1 rfl (Nat.le_of_ble_eq_true rfl) dX4_kindFor_2 ⟨Nat.zero_le _, Nat.zero_le _⟩) (fun H locs h => ?_)
  refine lv_if_eq (tgt := 15) hx hb dX4_kindFor_5 (by decide) (fun hc => ?_) (fun hc => ?_)
  · have hf := fg_ifT hf hc
    refine lv_aload_n hx hb dX4_kindFor_15 rfl (lv_at hl 0 rfl) ?_
    refine lv_iconst (v := 0) hx hb dX4_kindFor_16 rfl ?_
    obtain ⟨r6, w4, hc5, hf⟩ := fg_biE hf
    refine fg_ci h (fg_runV (rest := []) S hK h (c_X4_no l D g 0  w1 r6 w4 hc5) vg_RX4_129 vd_X4_no ⟨by decide, by decide⟩ fg_p4_0 rfl rfl rfl hl.1 rfl (Nat.le_of_ble_eq_true rfl) dX4_kindFor_17 ⟨Nat.zero_le _, Nat.zero_le _⟩) (fun H locs h => ?_)
    exact fg_reti hx hb hr hlk hK h hf dX4_kindFor_20
  · have hf := fg_ifF hf hc
    refine lv_iload_n hx hb dX4_kindFor_8 rfl (lv_at hl 2 rfl) ?_
    obtain ⟨r9, w7, hc8, hf⟩ := fg_biE hf
    refine fg_ci h (fg_runS (rest := []) S hK h (c_X4_isSoon l D g a2  w1 r9 w7 hc8) vk_X4_isSoon vm_RX4_176 vs_X4_isSoon vi_RX4 vd_X4_isSoon.2 ⟨by decide, by decide⟩ rfl hl.1 rfl (Nat.le_of_ble_eq_true rfl) dX4_kindFor_9 ⟨Nat.zero_le _, Nat.zero_le _⟩) (fun H locs h => ?_)
    refine lv_if_ne (tgt := 21) hx hb dX4_kindFor_12 (by decide) (fun hc => ?_) (fun hc => ?_)
    · have hf := fg_ifF hf hc
      refine lv_iconst (v := 0) hx hb dX4_kindFor_21 rfl ?_
      refine lv_istore_n (lv' := [(3, .int 0), (0, .ref (g.1 4 0 0)), (1, .int a1), (2, .int a2)]) hx hb dX4_kindFor_22 rfl hl (by decide) rfl (fun ls hl => ?_)
      refine lv_aload_n hx hb dX4_kindFor_23 rfl (lv_at hl 1 rfl) ?_
      refine lv_iload_n hx hb dX4_kindFor_24 rfl (lv_at hl 2 rfl) ?_
      refine lv_iconst (v := 0) hx hb dX4_kindFor_25 rfl ?_
      refine lv_iconst (v := 0) hx hb dX4_kindFor_26 rfl ?_
      refine lv_iload_n hx hb dX4_kindFor_27 rfl (lv_at hl 3 rfl) ?_
      refine lv_iconst (v := 3) hx hb dX4_kindFor_28 rfl ?_
      obtain ⟨r12, w10, hc11, hf⟩ := fg_biE hf
      refine fg_ci h (fg_runV (rest := []) S hK h (c_X4_thenWith l D g a1 0 0 a2 3  w7 r12 w10 hc11) vg_RX4_179 vd_X4_thenWith ⟨by decide, by decide⟩ fg_p4_0 rfl rfl rfl hl.1 rfl (Nat.le_of_ble_eq_true rfl) dX4_kindFor_29 ⟨Nat.zero_le _, Nat.zero_le _⟩) (fun H locs h => ?_)
      refine lv_istore (lv' := [(4, .int r12), (3, .int 0), (0, .ref (g.1 4 0 0)), (1, .int a1), (2, .int a2)]) hx hb dX4_kindFor_32 hl (by decide) rfl (fun ls hl => ?_)
      refine lv_iconst (v := 1) hx hb dX4_kindFor_34 rfl ?_
      refine lv_istore (lv' := [(5, .int 1), (4, .int r12), (3, .int 0), (0, .ref (g.1 4 0 0)), (1, .int a1), (2, .int a2)]) hx hb dX4_kindFor_35 hl (by decide) rfl (fun ls hl => ?_)
      have hK_37 : ∀ (v3_37 : Int32) (v4_37 : Int32) (v5_37 : Int32) (w_37 : fg_W) (H : Heap) (locs : List Loc) (ls : Array Slot), fg_H D g s.heap w_37 H locs → lv_has ls 7 [(0, .ref (g.1 4 0 0)), (1, .int a1), (2, .int a2), (3, .int v3_37), (4, .int v4_37), (5, .int v5_37)] → (some (v3_37, w_37)) = some (r, w') → fg_Gi p l e 9 206 s m [.ref (g.1 4 0 0), .int a1, .int a2] below meth c D g r w' H locs 92 ls [] := by
        intro v3_37 v4_37 v5_37 w_37 H locs ls h hl hf
        refine lv_iload_n hx hb dX4_kindFor_92 rfl (lv_at hl 3 rfl) ?_
        exact fg_reti hx hb hr hlk hK h hf dX4_kindFor_93
      have hL_37 : ∀ (KK_37 : Int32 → Int32 → Int32 → fg_W → Option (Int32 × fg_W)) (hK_37 : ∀ (v3_37 : Int32) (v4_37 : Int32) (v5_37 : Int32) (w_37 : fg_W) (H : Heap) (locs : List Loc) (ls : Array Slot), fg_H D g s.heap w_37 H locs → lv_has ls 7 [(0, .ref (g.1 4 0 0)), (1, .int a1), (2, .int a2), (3, .int v3_37), (4, .int v4_37), (5, .int v5_37)] → KK_37 v3_37 v4_37 v5_37 w_37 = some (r, w') → fg_Gi p l e 9 206 s m [.ref (g.1 4 0 0), .int a1, .int a2] below meth c D g r w' H locs 92 ls []) (n : Nat) (v3_37 : Int32) (v4_37 : Int32) (v5_37 : Int32) (w_37 : fg_W) (H : Heap) (locs : List Loc) (ls : Array Slot), fg_H D g s.heap w_37 H locs → lv_has ls 7 [(0, .ref (g.1 4 0 0)), (1, .int a1), (2, .int a2), (3, .int v3_37), (4, .int v4_37), (5, .int v5_37)] → f_X4_kindFor_L37 a1 a2 KK_37 n v3_37 v4_37 v5_37 w_37 = some (r, w') → fg_Gi p l e 9 206 s m [.ref (g.1 4 0 0), .int a1, .int a2] below meth c D g r w' H locs 37 ls [] := by
        intro KK_37 hK_37 n
        induction n with
        | zero => intro v3_37 v4_37 v5_37 w_37 H locs ls h hl hf; exact fg_no hf
        | succ n_37 ih_37 =>
          intro v3_37 v4_37 v5_37 w_37 H locs ls h hl hf
          unfold f_X4_kindFor_L37 at hf
          refine lv_iload hx hb dX4_kindFor_37 (lv_at hl 5 rfl) ?_
          refine lv_bipush (v := 6) hx hb dX4_kindFor_39 rfl ?_
          refine lv_icmp_gt (tgt := 92) hx hb dX4_kindFor_41 (by decide) (fun hc => ?_) (fun hc => ?_)
          · have hf := fg_ifT hf hc
            exact hK_37 v3_37 v4_37 v5_37 w_37 _ _ ls h (lv_sub hl [0, 1, 2, 3, 4, 5] rfl) hf
          · have hf := fg_ifF hf hc
            refine lv_aload_n hx hb dX4_kindFor_44 rfl (lv_at hl 0 rfl) ?_
            refine lv_iload_n hx hb dX4_kindFor_45 rfl (lv_at hl 1 rfl) ?_
            refine lv_iconst (v := 0) hx hb dX4_kindFor_46 rfl ?_
            refine lv_iload hx hb dX4_kindFor_47 (lv_at hl 5 rfl) ?_
            refine lv_iload_n hx hb dX4_kindFor_49 rfl (lv_at hl 2 rfl) ?_
            refine lv_iconst (v := 3) hx hb dX4_kindFor_50 rfl ?_
            obtain ⟨r18, w16, hc17, hf⟩ := fg_biE hf
            refine fg_ci h (fg_runV (rest := []) S hK h (c_X4_thenWith l D g a1 0 v5_37 a2 3  w_37 r18 w16 hc17) vg_RX4_179 vd_X4_thenWith ⟨by decide, by decide⟩ fg_p4_0 rfl rfl rfl hl.1 rfl (Nat.le_of_ble_eq_true rfl) dX4_kindFor_51 ⟨Nat.zero_le _, Nat.zero_le _⟩) (fun H locs h => ?_)
            refine lv_istore (lv' := [(6, .int r18), (0, .ref (g.1 4 0 0)), (1, .int a1), (2, .int a2), (3, .int v3_37), (4, .int v4_37), (5, .int v5_37)]) hx hb dX4_kindFor_54 hl (by decide) rfl (fun ls hl => ?_)
            refine lv_iload hx hb dX4_kindFor_56 (lv_at hl 0 rfl) ?_
            refine lv_iload hx hb dX4_kindFor_58 (lv_at hl 5 rfl) ?_
            refine lv_icmp_le (tgt := 68) hx hb dX4_kindFor_60 (by decide) (fun hc => ?_) (fun hc => ?_)
            · have hf := fg_ifT hf hc
              refine lv_iload_n hx hb dX4_kindFor_68 rfl (lv_at hl 4 rfl) ?_
              refine lv_istore_n (lv' := [(3, .int v3_37), (6, .int r18), (0, .ref (g.1 4 0 0)), (1, .int a1), (2, .int a2), (4, .int v4_37), (5, .int v5_37)]) hx hb dX4_kindFor_69 rfl hl (by decide) rfl (fun ls hl => ?_)
              refine lv_iload hx hb dX4_kindFor_70 (lv_at hl 1 rfl) ?_
              refine lv_iload hx hb dX4_kindFor_72 (lv_at hl 5 rfl) ?_
              refine lv_icmp_le (tgt := 82) hx hb dX4_kindFor_74 (by decide) (fun hc => ?_) (fun hc => ?_)
              · have hf := fg_ifT hf hc
                refine lv_iload hx hb dX4_kindFor_82 (lv_at hl 5 rfl) ?_
                refine lv_istore (lv' := [(4, .int v4_37), (3, .int v3_37), (6, .int r18), (0, .ref (g.1 4 0 0)), (1, .int a1), (2, .int a2), (5, .int v5_37)]) hx hb dX4_kindFor_84 hl (by decide) rfl (fun ls hl => ?_)
                refine lv_iinc (v := (v5_37 + 1)) (lv' := [(5, .int (v5_37 + 1)), (4, .int v4_37), (3, .int v3_37), (6, .int r18), (0, .ref (g.1 4 0 0)), (1, .int a1), (2, .int a2)]) hx hb dX4_kindFor_86 hl (k := 6) rfl rfl (by decide) rfl (fun ls hl => ?_)
                refine lv_goto (tgt := 37) hx hb dX4_kindFor_89 (by decide) ?_
                exact ih_37 v3_37 v4_37 (v5_37 + 1) w16 _ _ ls h (lv_sub hl [4, 5, 6, 2, 1, 0] rfl) hf
              · have hf := fg_ifF hf hc
                refine lv_iload hx hb dX4_kindFor_77 (lv_at hl 1 rfl) ?_
                refine lv_goto (tgt := 84) hx hb dX4_kindFor_79 (by decide) ?_
                refine lv_istore (lv' := [(4, .int r18), (3, .int v3_37), (6, .int r18), (0, .ref (g.1 4 0 0)), (1, .int a1), (2, .int a2), (5, .int v5_37)]) hx hb dX4_kindFor_84 hl (by decide) rfl (fun ls hl => ?_)
                refine lv_iinc (v := (v5_37 + 1)) (lv' := [(5, .int (v5_37 + 1)), (4, .int r18), (3, .int v3_37), (6, .int r18), (0, .ref (g.1 4 0 0)), (1, .int a1), (2, .int a2)]) hx hb dX4_kindFor_86 hl (k := 6) rfl rfl (by decide) rfl (fun ls hl => ?_)
                refine lv_goto (tgt := 37) hx hb dX4_kindFor_89 (by decide) ?_
                exact ih_37 v3_37 r18 (v5_37 + 1) w16 _ _ ls h (lv_sub hl [4, 5, 6, 2, 1, 0] rfl) hf
            · have hf := fg_ifF hf hc
              refine lv_iload hx hb dX4_kindFor_63 (lv_at hl 6 rfl) ?_
              refine lv_goto (tgt := 69) hx hb dX4_kindFor_65 (by decide) ?_
              refine lv_istore_n (lv' := [(3, .int v5_37), (6, .int r18), (0, .ref (g.1 4 0 0)), (1, .int a1), (2, .int a2), (4, .int v4_37), (5, .int v5_37)]) hx hb dX4_kindFor_69 rfl hl (by decide) rfl (fun ls hl => ?_)
              refine lv_iload hx hb dX4_kindFor_70 (lv_at hl 1 rfl) ?_
              refine lv_iload hx hb dX4_kindFor_72 (lv_at hl 5 rfl) ?_
              refine lv_icmp_le (tgt := 82) hx hb dX4_kindFor_74 (by decide) (fun hc => ?_) (fun hc => ?_)
              · have hf := fg_ifT hf hc
                refine lv_iload hx hb dX4_kindFor_82 (lv_at hl 5 rfl) ?_
                refine lv_istore (lv' := [(4, .int v4_37), (3, .int v5_37), (6, .int r18), (0, .ref (g.1 4 0 0)), (1, .int a1), (2, .int a2), (5, .int v5_37)]) hx hb dX4_kindFor_84 hl (by decide) rfl (fun ls hl => ?_)
                refine lv_iinc (v := (v5_37 + 1)) (lv' := [(5, .int (v5_37 + 1)), (4, .int v4_37), (3, .int v5_37), (6, .int r18), (0, .ref (g.1 4 0 0)), (1, .int a1), (2, .int a2)]) hx hb dX4_kindFor_86 hl (k := 6) rfl rfl (by decide) rfl (fun ls hl => ?_)
                refine lv_goto (tgt := 37) hx hb dX4_kindFor_89 (by decide) ?_
                exact ih_37 v5_37 v4_37 (v5_37 + 1) w16 _ _ ls h (lv_sub hl [4, 5, 6, 2, 1, 0] rfl) hf
              · have hf := fg_ifF hf hc
                refine lv_iload hx hb dX4_kindFor_77 (lv_at hl 1 rfl) ?_
                refine lv_goto (tgt := 84) hx hb dX4_kindFor_79 (by decide) ?_
                refine lv_istore (lv' := [(4, .int r18), (3, .int v5_37), (6, .int r18), (0, .ref (g.1 4 0 0)), (1, .int a1), (2, .int a2), (5, .int v5_37)]) hx hb dX4_kindFor_84 hl (by decide) rfl (fun ls hl => ?_)
                refine lv_iinc (v := (v5_37 + 1)) (lv' := [(5, .int (v5_37 + 1)), (4, .int r18), (3, .int v5_37), (6, .int r18), (0, .ref (g.1 4 0 0)), (1, .int a1), (2, .int a2)]) hx hb dX4_kindFor_86 hl (k := 6) rfl rfl (by decide) rfl (fun ls hl => ?_)
                refine lv_goto (tgt := 37) hx hb dX4_kindFor_89 (by decide) ?_
                exact ih_37 v5_37 r18 (v5_37 + 1) w16 _ _ ls h (lv_sub hl [4, 5, 6, 2, 1, 0] rfl) hf
      exact hL_37 _ hK_37 fg_fuel 0 r12 1 w10 _ _ ls h (lv_sub hl [3, 4, 5, 2, 1, 0] rfl) hf
    · have hf := fg_ifT hf hc
      refine lv_aload_n hx hb dX4_kindFor_15 rfl (lv_at hl 0 rfl) ?_
      refine lv_iconst (v := 0) hx hb dX4_kindFor_16 rfl ?_
      obtain ⟨r21, w19, hc20, hf⟩ := fg_biE hf
      refine fg_ci h (fg_runV (rest := []) S hK h (c_X4_no l D g 0  w7 r21 w19 hc20) vg_RX4_129 vd_X4_no ⟨by decide, by decide⟩ fg_p4_0 rfl rfl rfl hl.1 rfl (Nat.le_of_ble_eq_true rfl) dX4_kindFor_17 ⟨Nat.zero_le _, Nat.zero_le _⟩) (fun H locs h => ?_)
      exact fg_reti hx hb hr hlk hK h hf dX4_kindFor_20
set_option maxHeartbeats 4000000 in
set_option maxRecDepth 100000 in
theorem c_X4_rentFor (l : Launch) (D : va_G) (g : fg_G) (a1 : Int32) (a2 : Int32) (w : fg_W) (r : Int32) (w' : fg_W) (hf : f_X4_rentFor a1 a2 w = some (r, w')) : fg_M l yX4_rentFor cX4_rentFor 8 (some .int) 8 180 D g [.ref (g.1 4 0 0), .int a1, .int a2] w (fg_Qi D g r w') := by
  refine fg_M.of rfl (Nat.le_of_ble_eq_true rfl) (fun p e s m below meth c ls S hr hlk hK h hl => ?_)
  have hx := S.1
  have hb := S.2.1
  have hl : lv_has ls 8 [(0, .ref (g.1 4 0 0)), (1, .int a1), (2, .int a2)] := hl
  unfold f_X4_rentFor at hf
  refine lv_iload_n hx hb dX4_rentFor_0 rfl (lv_at hl 1 rfl) ?_
  obtain ⟨r3, w1, hc2, hf⟩ := fg_biE hf
  refine fg_ci h (fg_runS (rest := []) S hK h (c_X4_isLot l D g a1  w r3 w1 hc2) vk_X4_isLot vm_RX4_126 vs_X4_isLot vi_RX4 vd_X4_isLot.2 ⟨by decide, by decide⟩ rfl hl.1 rfl (Nat.le_of_ble_eq_true rfl) dX4_rentFor_1 ⟨Nat.zero_le _, Nat.zero_le _⟩) (fun H locs h => ?_)
  refine lv_if_eq (tgt := 14) hx hb dX4_rentFor_4 (by decide) (fun hc => ?_) (fun hc => ?_)
  · have hf := fg_ifT hf hc
    refine lv_aload_n hx hb dX4_rentFor_14 rfl (lv_at hl 0 rfl) ?_
    refine lv_iconst (v := 0) hx hb dX4_rentFor_15 rfl ?_
    obtain ⟨r6, w4, hc5, hf⟩ := fg_biE hf
    refine fg_ci h (fg_runV (rest := []) S hK h (c_X4_no l D g 0  w1 r6 w4 hc5) vg_RX4_129 vd_X4_no ⟨by decide, by decide⟩ fg_p4_0 rfl rfl rfl hl.1 rfl (Nat.le_of_ble_eq_true rfl) dX4_rentFor_16 ⟨Nat.zero_le _, Nat.zero_le _⟩) (fun H locs h => ?_)
    exact fg_reti hx hb hr hlk hK h hf dX4_rentFor_19
  · have hf := fg_ifF hf hc
    refine lv_iload_n hx hb dX4_rentFor_7 rfl (lv_at hl 2 rfl) ?_
    obtain ⟨r9, w7, hc8, hf⟩ := fg_biE hf
    refine fg_ci h (fg_runS (rest := []) S hK h (c_X4_isSoon l D g a2  w1 r9 w7 hc8) vk_X4_isSoon vm_RX4_176 vs_X4_isSoon vi_RX4 vd_X4_isSoon.2 ⟨by decide, by decide⟩ rfl hl.1 rfl (Nat.le_of_ble_eq_true rfl) dX4_rentFor_8 ⟨Nat.zero_le _, Nat.zero_le _⟩) (fun H locs h => ?_)
    refine lv_if_ne (tgt := 20) hx hb dX4_rentFor_11 (by decide) (fun hc => ?_) (fun hc => ?_)
    · have hf := fg_ifF hf hc
      refine lv_aload_n hx hb dX4_rentFor_20 rfl (lv_at hl 0 rfl) ?_
      refine lv_iload_n hx hb dX4_rentFor_21 rfl (lv_at hl 1 rfl) ?_
      refine lv_iconst (v := 2) hx hb dX4_rentFor_22 rfl ?_
      obtain ⟨r12, w10, hc11, hf⟩ := fg_biE hf
      refine fg_ci h (fg_runV (rest := []) S hK h (c_X4_of1 l D g a1 2  w7 r12 w10 hc11) vg_RX4_73 vd_X4_of1 ⟨by decide, by decide⟩ fg_p4_0 rfl rfl rfl hl.1 rfl (Nat.le_of_ble_eq_true rfl) dX4_rentFor_23 ⟨Nat.zero_le _, Nat.zero_le _⟩) (fun H locs h => ?_)
      refine lv_istore_n (lv' := [(3, .int r12), (0, .ref (g.1 4 0 0)), (1, .int a1), (2, .int a2)]) hx hb dX4_rentFor_26 rfl hl (by decide) rfl (fun ls hl => ?_)
      refine lv_iload_n hx hb dX4_rentFor_27 rfl (lv_at hl 0 rfl) ?_
      refine lv_if_ge (tgt := 37) hx hb dX4_rentFor_28 (by decide) (fun hc => ?_) (fun hc => ?_)
      · have hf := fg_ifT hf hc
        refine lv_iconst (v := 0) hx hb dX4_rentFor_37 rfl ?_
        refine lv_istore (lv' := [(4, .int 0), (3, .int r12), (0, .ref (g.1 4 0 0)), (1, .int a1), (2, .int a2)]) hx hb dX4_rentFor_38 hl (by decide) rfl (fun ls hl => ?_)
        refine lv_iconst (v := (-1)) hx hb dX4_rentFor_40 rfl ?_
        refine lv_istore (lv' := [(5, .int (-1)), (4, .int 0), (3, .int r12), (0, .ref (g.1 4 0 0)), (1, .int a1), (2, .int a2)]) hx hb dX4_rentFor_41 hl (by decide) rfl (fun ls hl => ?_)
        refine lv_iconst (v := 0) hx hb dX4_rentFor_43 rfl ?_
        refine lv_istore (lv' := [(6, .int 0), (5, .int (-1)), (4, .int 0), (3, .int r12), (0, .ref (g.1 4 0 0)), (1, .int a1), (2, .int a2)]) hx hb dX4_rentFor_44 hl (by decide) rfl (fun ls hl => ?_)
        have hK_46 : ∀ (v4_46 : Int32) (v5_46 : Int32) (v6_46 : Int32) (w_46 : fg_W) (H : Heap) (locs : List Loc) (ls : Array Slot), fg_H D g s.heap w_46 H locs → lv_has ls 8 [(0, .ref (g.1 4 0 0)), (1, .int a1), (2, .int a2), (3, .int r12), (4, .int v4_46), (5, .int v5_46), (6, .int v6_46)] → (some (v4_46, w_46)) = some (r, w') → fg_Gi p l e 8 180 s m [.ref (g.1 4 0 0), .int a1, .int a2] below meth c D g r w' H locs 120 ls [] := by
          intro v4_46 v5_46 v6_46 w_46 H locs ls h hl hf
          refine lv_iload hx hb dX4_rentFor_120 (lv_at hl 4 rfl) ?_
          exact fg_reti hx hb hr hlk hK h hf dX4_rentFor_122
        have hL_46 : ∀ (KK_46 : Int32 → Int32 → Int32 → fg_W → Option (Int32 × fg_W)) (hK_46 : ∀ (v4_46 : Int32) (v5_46 : Int32) (v6_46 : Int32) (w_46 : fg_W) (H : Heap) (locs : List Loc) (ls : Array Slot), fg_H D g s.heap w_46 H locs → lv_has ls 8 [(0, .ref (g.1 4 0 0)), (1, .int a1), (2, .int a2), (3, .int r12), (4, .int v4_46), (5, .int v5_46), (6, .int v6_46)] → KK_46 v4_46 v5_46 v6_46 w_46 = some (r, w') → fg_Gi p l e 8 180 s m [.ref (g.1 4 0 0), .int a1, .int a2] below meth c D g r w' H locs 120 ls []) (n : Nat) (v4_46 : Int32) (v5_46 : Int32) (v6_46 : Int32) (w_46 : fg_W) (H : Heap) (locs : List Loc) (ls : Array Slot), fg_H D g s.heap w_46 H locs → lv_has ls 8 [(0, .ref (g.1 4 0 0)), (1, .int a1), (2, .int a2), (3, .int r12), (4, .int v4_46), (5, .int v5_46), (6, .int v6_46)] → f_X4_rentFor_L46 a1 a2 r12 KK_46 n v4_46 v5_46 v6_46 w_46 = some (r, w') → fg_Gi p l e 8 180 s m [.ref (g.1 4 0 0), .int a1, .int a2] below meth c D g r w' H locs 46 ls [] := by
          intro KK_46 hK_46 n
          induction n with
          | zero => intro v4_46 v5_46 v6_46 w_46 H locs ls h hl hf; exact fg_no hf
          | succ n_46 ih_46 =>
            intro v4_46 v5_46 v6_46 w_46 H locs ls h hl hf
            unfold f_X4_rentFor_L46 at hf
            refine lv_iload hx hb dX4_rentFor_46 (lv_at hl 6 rfl) ?_
            refine lv_bipush (v := 20) hx hb dX4_rentFor_48 rfl ?_
            refine lv_icmp_gt (tgt := 120) hx hb dX4_rentFor_50 (by decide) (fun hc => ?_) (fun hc => ?_)
            · have hf := fg_ifT hf hc
              exact hK_46 v4_46 v5_46 v6_46 w_46 _ _ ls h (lv_sub hl [0, 1, 2, 3, 4, 5, 6] rfl) hf
            · have hf := fg_ifF hf hc
              refine lv_aload_n hx hb dX4_rentFor_53 rfl (lv_at hl 0 rfl) ?_
              obtain ⟨w24, hc25, hf⟩ := fg_bvE hf
              refine fg_cv h (fg_runV (rest := []) S hK h (c_X4_setsAside l D g   w_46 w24 hc25) vg_RX4_163 vd_X4_setsAside ⟨by decide, by decide⟩ fg_p4_0 rfl rfl rfl hl.1 rfl (Nat.le_of_ble_eq_true rfl) dX4_rentFor_54 ⟨Nat.zero_le _, Nat.zero_le _⟩) (fun H locs h => ?_)
              refine lv_aload_n hx hb dX4_rentFor_57 rfl (lv_at hl 0 rfl) ?_
              refine lv_iload_n hx hb dX4_rentFor_58 rfl (lv_at hl 1 rfl) ?_
              refine lv_iconst (v := 1) hx hb dX4_rentFor_59 rfl ?_
              refine lv_iload hx hb dX4_rentFor_60 (lv_at hl 6 rfl) ?_
              obtain ⟨w26, hc27, hf⟩ := fg_bvE hf
              refine fg_cv h (fg_runV (rest := []) S hK h (c_X4_lays1 l D g a1 1 v6_46  w24 w26 hc27) vg_RX4_56 vd_X4_lays1 ⟨by decide, by decide⟩ fg_p4_0 rfl rfl rfl hl.1 rfl (Nat.le_of_ble_eq_true rfl) dX4_rentFor_62 ⟨Nat.zero_le _, Nat.zero_le _⟩) (fun H locs h => ?_)
              refine lv_aload_n hx hb dX4_rentFor_65 rfl (lv_at hl 0 rfl) ?_
              refine lv_iload_n hx hb dX4_rentFor_66 rfl (lv_at hl 2 rfl) ?_
              obtain ⟨w28, hc29, hf⟩ := fg_bvE hf
              refine fg_cv h (fg_runV (rest := []) S hK h (c_X4_goes l D g a2  w26 w28 hc29) vg_RX4_144 vd_X4_goes ⟨by decide, by decide⟩ fg_p4_0 rfl rfl rfl hl.1 rfl (Nat.le_of_ble_eq_true rfl) dX4_rentFor_67 ⟨Nat.zero_le _, Nat.zero_le _⟩) (fun H locs h => ?_)
              refine lv_aload_n hx hb dX4_rentFor_70 rfl (lv_at hl 0 rfl) ?_
              refine lv_iload_n hx hb dX4_rentFor_71 rfl (lv_at hl 3 rfl) ?_
              refine lv_iconst (v := 3) hx hb dX4_rentFor_72 rfl ?_
              obtain ⟨r32, w30, hc31, hf⟩ := fg_biE hf
              refine fg_ci h (fg_runV (rest := []) S hK h (c_X4_get l D g r12 3  w28 r32 w30 hc31) vg_RX4_65 vd_X4_get ⟨by decide, by decide⟩ fg_p4_0 rfl rfl rfl hl.1 rfl (Nat.le_of_ble_eq_true rfl) dX4_rentFor_73 ⟨Nat.zero_le _, Nat.zero_le _⟩) (fun H locs h => ?_)
              refine lv_istore (lv' := [(7, .int r32), (0, .ref (g.1 4 0 0)), (1, .int a1), (2, .int a2), (3, .int r12), (4, .int v4_46), (5, .int v5_46), (6, .int v6_46)]) hx hb dX4_rentFor_76 hl (by decide) rfl (fun ls hl => ?_)
              refine lv_aload_n hx hb dX4_rentFor_78 rfl (lv_at hl 1 rfl) ?_
              obtain ⟨w33, hc34, hf⟩ := fg_bvE hf
              refine fg_cv h (fg_runV (rest := []) S hK h (c_X4_laysBack l D g   w30 w33 hc34) vg_RX4_166 vd_X4_laysBack ⟨by decide, by decide⟩ fg_p4_0 rfl rfl rfl hl.1 rfl (Nat.le_of_ble_eq_true rfl) dX4_rentFor_79 ⟨Nat.zero_le _, Nat.zero_le _⟩) (fun H locs h => ?_)
              refine lv_iload hx hb dX4_rentFor_82 (lv_at hl 0 rfl) ?_
              refine lv_iload hx hb dX4_rentFor_84 (lv_at hl 6 rfl) ?_
              refine lv_icmp_le (tgt := 94) hx hb dX4_rentFor_86 (by decide) (fun hc => ?_) (fun hc => ?_)
              · have hf := fg_ifT hf hc
                refine lv_iload hx hb dX4_rentFor_94 (lv_at hl 5 rfl) ?_
                refine lv_istore (lv' := [(4, .int v4_46), (7, .int r32), (0, .ref (g.1 4 0 0)), (1, .int a1), (2, .int a2), (3, .int r12), (5, .int v5_46), (6, .int v6_46)]) hx hb dX4_rentFor_96 hl (by decide) rfl (fun ls hl => ?_)
                refine lv_iload hx hb dX4_rentFor_98 (lv_at hl 1 rfl) ?_
                refine lv_iload hx hb dX4_rentFor_100 (lv_at hl 6 rfl) ?_
                refine lv_icmp_le (tgt := 110) hx hb dX4_rentFor_102 (by decide) (fun hc => ?_) (fun hc => ?_)
                · have hf := fg_ifT hf hc
                  refine lv_iload hx hb dX4_rentFor_110 (lv_at hl 6 rfl) ?_
                  refine lv_istore (lv' := [(5, .int v5_46), (4, .int v4_46), (7, .int r32), (0, .ref (g.1 4 0 0)), (1, .int a1), (2, .int a2), (3, .int r12), (6, .int v6_46)]) hx hb dX4_rentFor_112 hl (by decide) rfl (fun ls hl => ?_)
                  refine lv_iinc (v := (v6_46 + 1)) (lv' := [(6, .int (v6_46 + 1)), (5, .int v5_46), (4, .int v4_46), (7, .int r32), (0, .ref (g.1 4 0 0)), (1, .int a1), (2, .int a2), (3, .int r12)]) hx hb dX4_rentFor_114 hl (k := 7) rfl rfl (by decide) rfl (fun ls hl => ?_)
                  refine lv_goto (tgt := 46) hx hb dX4_rentFor_117 (by decide) ?_
                  exact ih_46 v4_46 v5_46 (v6_46 + 1) w33 _ _ ls h (lv_sub hl [4, 5, 6, 7, 2, 1, 0] rfl) hf
                · have hf := fg_ifF hf hc
                  refine lv_iload hx hb dX4_rentFor_105 (lv_at hl 1 rfl) ?_
                  refine lv_goto (tgt := 112) hx hb dX4_rentFor_107 (by decide) ?_
                  refine lv_istore (lv' := [(5, .int r32), (4, .int v4_46), (7, .int r32), (0, .ref (g.1 4 0 0)), (1, .int a1), (2, .int a2), (3, .int r12), (6, .int v6_46)]) hx hb dX4_rentFor_112 hl (by decide) rfl (fun ls hl => ?_)
                  refine lv_iinc (v := (v6_46 + 1)) (lv' := [(6, .int (v6_46 + 1)), (5, .int r32), (4, .int v4_46), (7, .int r32), (0, .ref (g.1 4 0 0)), (1, .int a1), (2, .int a2), (3, .int r12)]) hx hb dX4_rentFor_114 hl (k := 7) rfl rfl (by decide) rfl (fun ls hl => ?_)
                  refine lv_goto (tgt := 46) hx hb dX4_rentFor_117 (by decide) ?_
                  exact ih_46 v4_46 r32 (v6_46 + 1) w33 _ _ ls h (lv_sub hl [4, 5, 6, 7, 2, 1, 0] rfl) hf
              · have hf := fg_ifF hf hc
                refine lv_iload hx hb dX4_rentFor_89 (lv_at hl 7 rfl) ?_
                refine lv_goto (tgt := 96) hx hb dX4_rentFor_91 (by decide) ?_
                refine lv_istore (lv' := [(4, .int v6_46), (7, .int r32), (0, .ref (g.1 4 0 0)), (1, .int a1), (2, .int a2), (3, .int r12), (5, .int v5_46), (6, .int v6_46)]) hx hb dX4_rentFor_96 hl (by decide) rfl (fun ls hl => ?_)
                refine lv_iload hx hb dX4_rentFor_98 (lv_at hl 1 rfl) ?_
                refine lv_iload hx hb dX4_rentFor_100 (lv_at hl 6 rfl) ?_
                refine lv_icmp_le (tgt := 110) hx hb dX4_rentFor_102 (by decide) (fun hc => ?_) (fun hc => ?_)
                · have hf := fg_ifT hf hc
                  refine lv_iload hx hb dX4_rentFor_110 (lv_at hl 6 rfl) ?_
                  refine lv_istore (lv' := [(5, .int v5_46), (4, .int v6_46), (7, .int r32), (0, .ref (g.1 4 0 0)), (1, .int a1), (2, .int a2), (3, .int r12), (6, .int v6_46)]) hx hb dX4_rentFor_112 hl (by decide) rfl (fun ls hl => ?_)
                  refine lv_iinc (v := (v6_46 + 1)) (lv' := [(6, .int (v6_46 + 1)), (5, .int v5_46), (4, .int v6_46), (7, .int r32), (0, .ref (g.1 4 0 0)), (1, .int a1), (2, .int a2), (3, .int r12)]) hx hb dX4_rentFor_114 hl (k := 7) rfl rfl (by decide) rfl (fun ls hl => ?_)
                  refine lv_goto (tgt := 46) hx hb dX4_rentFor_117 (by decide) ?_
                  exact ih_46 v6_46 v5_46 (v6_46 + 1) w33 _ _ ls h (lv_sub hl [4, 5, 6, 7, 2, 1, 0] rfl) hf
                · have hf := fg_ifF hf hc
                  refine lv_iload hx hb dX4_rentFor_105 (lv_at hl 1 rfl) ?_
                  refine lv_goto (tgt := 112) hx hb dX4_rentFor_107 (by decide) ?_
                  refine lv_istore (lv' := [(5, .int r32), (4, .int v6_46), (7, .int r32), (0, .ref (g.1 4 0 0)), (1, .int a1), (2, .int a2), (3, .int r12), (6, .int v6_46)]) hx hb dX4_rentFor_112 hl (by decide) rfl (fun ls hl => ?_)
                  refine lv_iinc (v := (v6_46 + 1)) (lv' := [(6, .int (v6_46 + 1)), (5, .int r32), (4, .int v6_46), (7, .int r32), (0, .ref (g.1 4 0 0)), (1, .int a1), (2, .int a2), (3, .int r12)]) hx hb dX4_rentFor_114 hl (k := 7) rfl rfl (by decide) rfl (fun ls hl => ?_)
                  refine lv_goto (tgt := 46) hx hb dX4_rentFor_117 (by decide) ?_
                  exact ih_46 v6_46 r32 (v6_46 + 1) w33 _ _ ls h (lv_sub hl [4, 5, 6, 7, 2, 1, 0] rfl) hf
        exact hL_46 _ hK_46 fg_fuel 0 (-1) 0 w10 _ _ ls h (lv_sub hl [4, 5, 6, 3, 2, 1, 0] rfl) hf
      · have hf := fg_ifF hf hc
        refine lv_aload_n hx hb dX4_rentFor_31 rfl (lv_at hl 1 rfl) ?_
        refine lv_iconst (v := 3) hx hb dX4_rentFor_32 rfl ?_
        obtain ⟨r37, w35, hc36, hf⟩ := fg_biE hf
        refine fg_ci h (fg_runV (rest := []) S hK h (c_X4_no l D g 3  w10 r37 w35 hc36) vg_RX4_129 vd_X4_no ⟨by decide, by decide⟩ fg_p4_0 rfl rfl rfl hl.1 rfl (Nat.le_of_ble_eq_true rfl) dX4_rentFor_33 ⟨Nat.zero_le _, Nat.zero_le _⟩) (fun H locs h => ?_)
        exact fg_reti hx hb hr hlk hK h hf dX4_rentFor_36
    · have hf := fg_ifT hf hc
      refine lv_aload_n hx hb dX4_rentFor_14 rfl (lv_at hl 0 rfl) ?_
      refine lv_iconst (v := 0) hx hb dX4_rentFor_15 rfl ?_
      obtain ⟨r40, w38, hc39, hf⟩ := fg_biE hf
      refine fg_ci h (fg_runV (rest := []) S hK h (c_X4_no l D g 0  w7 r40 w38 hc39) vg_RX4_129 vd_X4_no ⟨by decide, by decide⟩ fg_p4_0 rfl rfl rfl hl.1 rfl (Nat.le_of_ble_eq_true rfl) dX4_rentFor_16 ⟨Nat.zero_le _, Nat.zero_le _⟩) (fun H locs h => ?_)
      exact fg_reti hx hb hr hlk hK h hf dX4_rentFor_19
set_option maxHeartbeats 4000000 in
set_option maxRecDepth 100000 in
theorem c_X4_fellBy (l : Launch) (D : va_G) (g : fg_G) (a1 : Int32) (a2 : Int32) (w : fg_W) (r : Int32) (w' : fg_W) (hf : f_X4_fellBy a1 a2 w = some (r, w')) : fg_M l yX4_fellBy cX4_fellBy 4 (some .int) 8 180 D g [.ref (g.1 4 0 0), .int a1, .int a2] w (fg_Qi D g r w') := by
  refine fg_M.of rfl (Nat.le_of_ble_eq_true rfl) (fun p e s m below meth c ls S hr hlk hK h hl => ?_)
  have hx := S.1
  have hb := S.2.1
  have hl : lv_has ls 4 [(0, .ref (g.1 4 0 0)), (1, .int a1), (2, .int a2)] := hl
  unfold f_X4_fellBy at hf
  refine lv_aload_n hx hb dX4_fellBy_0 rfl (lv_at hl 0 rfl) ?_
  obtain ⟨w1, hc2, hf⟩ := fg_bvE hf
  refine fg_cv h (fg_runV (rest := []) S hK h (c_X4_setsAside l D g   w w1 hc2) vg_RX4_163 vd_X4_setsAside ⟨by decide, by decide⟩ fg_p4_0 rfl rfl rfl hl.1 rfl (Nat.le_of_ble_eq_true rfl) dX4_fellBy_1 ⟨Nat.zero_le _, Nat.zero_le _⟩) (fun H locs h => ?_)
  refine lv_iconst (v := 0) hx hb dX4_fellBy_4 rfl ?_
  refine lv_istore_n (lv' := [(3, .int 0), (0, .ref (g.1 4 0 0)), (1, .int a1), (2, .int a2)]) hx hb dX4_fellBy_5 rfl hl (by decide) rfl (fun ls hl => ?_)
  have hK_6 : ∀ (v3_6 : Int32) (w_6 : fg_W) (H : Heap) (locs : List Loc) (ls : Array Slot), fg_H D g s.heap w_6 H locs → lv_has ls 4 [(0, .ref (g.1 4 0 0)), (1, .int a1), (2, .int a2), (3, .int v3_6)] → (fg_bv (f_X4_goes a2 w_6) (fun w3 => fg_bi (f_X4_sumOf 4 w3) (fun r7 w5 => fg_bv (f_X4_laysBack  w5) (fun w8 => some (r7, w8))))) = some (r, w') → fg_Gi p l e 8 180 s m [.ref (g.1 4 0 0), .int a1, .int a2] below meth c D g r w' H locs 27 ls [] := by
    intro v3_6 w_6 H locs ls h hl hf
    refine lv_aload_n hx hb dX4_fellBy_27 rfl (lv_at hl 0 rfl) ?_
    refine lv_iload_n hx hb dX4_fellBy_28 rfl (lv_at hl 2 rfl) ?_
    obtain ⟨w3, hc4, hf⟩ := fg_bvE hf
    refine fg_cv h (fg_runV (rest := []) S hK h (c_X4_goes l D g a2  w_6 w3 hc4) vg_RX4_144 vd_X4_goes ⟨by decide, by decide⟩ fg_p4_0 rfl rfl rfl hl.1 rfl (Nat.le_of_ble_eq_true rfl) dX4_fellBy_29 ⟨Nat.zero_le _, Nat.zero_le _⟩) (fun H locs h => ?_)
    refine lv_aload_n hx hb dX4_fellBy_32 rfl (lv_at hl 0 rfl) ?_
    refine lv_iconst (v := 4) hx hb dX4_fellBy_33 rfl ?_
    obtain ⟨r7, w5, hc6, hf⟩ := fg_biE hf
    refine fg_ci h (fg_runV (rest := []) S hK h (c_X4_sumOf l D g 4  w3 r7 w5 hc6) vg_RX4_154 vd_X4_sumOf ⟨by decide, by decide⟩ fg_p4_0 rfl rfl rfl hl.1 rfl (Nat.le_of_ble_eq_true rfl) dX4_fellBy_34 ⟨Nat.zero_le _, Nat.zero_le _⟩) (fun H locs h => ?_)
    refine lv_istore_n (lv' := [(3, .int r7), (0, .ref (g.1 4 0 0)), (1, .int a1), (2, .int a2)]) hx hb dX4_fellBy_37 rfl hl (by decide) rfl (fun ls hl => ?_)
    refine lv_aload_n hx hb dX4_fellBy_38 rfl (lv_at hl 1 rfl) ?_
    obtain ⟨w8, hc9, hf⟩ := fg_bvE hf
    refine fg_cv h (fg_runV (rest := []) S hK h (c_X4_laysBack l D g   w5 w8 hc9) vg_RX4_166 vd_X4_laysBack ⟨by decide, by decide⟩ fg_p4_0 rfl rfl rfl hl.1 rfl (Nat.le_of_ble_eq_true rfl) dX4_fellBy_39 ⟨Nat.zero_le _, Nat.zero_le _⟩) (fun H locs h => ?_)
    refine lv_iload_n hx hb dX4_fellBy_42 rfl (lv_at hl 0 rfl) ?_
    exact fg_reti hx hb hr hlk hK h hf dX4_fellBy_43
  have hL_6 : ∀ (KK_6 : Int32 → fg_W → Option (Int32 × fg_W)) (hK_6 : ∀ (v3_6 : Int32) (w_6 : fg_W) (H : Heap) (locs : List Loc) (ls : Array Slot), fg_H D g s.heap w_6 H locs → lv_has ls 4 [(0, .ref (g.1 4 0 0)), (1, .int a1), (2, .int a2), (3, .int v3_6)] → KK_6 v3_6 w_6 = some (r, w') → fg_Gi p l e 8 180 s m [.ref (g.1 4 0 0), .int a1, .int a2] below meth c D g r w' H locs 27 ls []) (n : Nat) (v3_6 : Int32) (w_6 : fg_W) (H : Heap) (locs : List Loc) (ls : Array Slot), fg_H D g s.heap w_6 H locs → lv_has ls 4 [(0, .ref (g.1 4 0 0)), (1, .int a1), (2, .int a2), (3, .int v3_6)] → f_X4_fellBy_L6 a1 KK_6 n v3_6 w_6 = some (r, w') → fg_Gi p l e 8 180 s m [.ref (g.1 4 0 0), .int a1, .int a2] below meth c D g r w' H locs 6 ls [] := by
    intro KK_6 hK_6 n
    induction n with
    | zero => intro v3_6 w_6 H locs ls h hl hf; exact fg_no hf
    | succ n_6 ih_6 =>
      intro v3_6 w_6 H locs ls h hl hf
      unfold f_X4_fellBy_L6 at hf
      refine lv_iload_n hx hb dX4_fellBy_6 rfl (lv_at hl 3 rfl) ?_
      refine lv_bipush (v := 6) hx hb dX4_fellBy_7 rfl ?_
      refine lv_icmp_ge (tgt := 27) hx hb dX4_fellBy_9 (by decide) (fun hc => ?_) (fun hc => ?_)
      · have hf := fg_ifT hf hc
        exact hK_6 v3_6 w_6 _ _ ls h (lv_sub hl [0, 1, 2, 3] rfl) hf
      · have hf := fg_ifF hf hc
        refine lv_aload_n hx hb dX4_fellBy_12 rfl (lv_at hl 0 rfl) ?_
        refine fg_get (C := RX4) (T := TX4) (N := 22) S vu_X4 hK h fg_p4_0 rfl rfl 0 (by decide) vf_RX4_9 rfl rfl dX4_fellBy_13 ?_
        refine lv_iconst (v := 4) hx hb dX4_fellBy_16 rfl ?_
        refine lv_iload_n hx hb dX4_fellBy_17 rfl (lv_at hl 3 rfl) ?_
        refine lv_iadd hx hb dX4_fellBy_18 ?_
        refine lv_iload_n hx hb dX4_fellBy_19 rfl (lv_at hl 1 rfl) ?_
        obtain ⟨hn13, hf⟩ := fg_gdE hf
        refine fg_iast hx hb hK h fg_p4_1 (fun _ => rfl) hn13 dX4_fellBy_20 (fun w12 H locs ew h => ?_)
        have hf := fg_letE ew hf
        refine lv_iinc (v := (v3_6 + 1)) (lv' := [(3, .int (v3_6 + 1)), (0, .ref (g.1 4 0 0)), (1, .int a1), (2, .int a2)]) hx hb dX4_fellBy_21 hl (k := 3) rfl rfl (by decide) rfl (fun ls hl => ?_)
        refine lv_goto (tgt := 6) hx hb dX4_fellBy_24 (by decide) ?_
        exact ih_6 (v3_6 + 1) w12 _ _ ls h (lv_sub hl [1, 2, 3, 0] rfl) hf
  exact hL_6 _ hK_6 fg_fuel 0 w1 _ _ ls h (lv_sub hl [1, 2, 3, 0] rfl) hf
set_option maxHeartbeats 4000000 in
set_option maxRecDepth 100000 in
theorem c_X4_sunFor (l : Launch) (D : va_G) (g : fg_G) (a1 : Int32) (w : fg_W) (r : Int32) (w' : fg_W) (hf : f_X4_sunFor a1 w = some (r, w')) : fg_M l yX4_sunFor cX4_sunFor 3 (some .int) 9 203 D g [.ref (g.1 4 0 0), .int a1] w (fg_Qi D g r w') := by
  refine fg_M.of rfl (Nat.le_of_ble_eq_true rfl) (fun p e s m below meth c ls S hr hlk hK h hl => ?_)
  have hx := S.1
  have hb := S.2.1
  have hl : lv_has ls 3 [(0, .ref (g.1 4 0 0)), (1, .int a1)] := hl
  unfold f_X4_sunFor at hf
  refine lv_iload_n hx hb dX4_sunFor_0 rfl (lv_at hl 1 rfl) ?_
  obtain ⟨r3, w1, hc2, hf⟩ := fg_biE hf
  refine fg_ci h (fg_runS (rest := []) S hK h (c_X4_isSoon l D g a1  w r3 w1 hc2) vk_X4_isSoon vm_RX4_176 vs_X4_isSoon vi_RX4 vd_X4_isSoon.2 ⟨by decide, by decide⟩ rfl hl.1 rfl (Nat.le_of_ble_eq_true rfl) dX4_sunFor_1 ⟨Nat.zero_le _, Nat.zero_le _⟩) (fun H locs h => ?_)
  refine lv_if_ne (tgt := 13) hx hb dX4_sunFor_4 (by decide) (fun hc => ?_) (fun hc => ?_)
  · have hf := fg_ifF hf hc
    refine lv_bipush (v := 40) hx hb dX4_sunFor_13 rfl ?_
    refine lv_istore_n (lv' := [(2, .int 40), (0, .ref (g.1 4 0 0)), (1, .int a1)]) hx hb dX4_sunFor_15 rfl hl (by decide) rfl (fun ls hl => ?_)
    have hK_16 : ∀ (v2_16 : Int32) (w_16 : fg_W) (H : Heap) (locs : List Loc) (ls : Array Slot), fg_H D g s.heap w_16 H locs → lv_has ls 3 [(0, .ref (g.1 4 0 0)), (1, .int a1), (2, .int v2_16)] → (if 0 ≤ v2_16 then (some (v2_16, w_16)) else (fg_bi (f_X4_no 3 w_16) (fun r6 w4 => some (r6, w4)))) = some (r, w') → fg_Gi p l e 9 203 s m [.ref (g.1 4 0 0), .int a1] below meth c D g r w' H locs 40 ls [] := by
      intro v2_16 w_16 H locs ls h hl hf
      refine lv_iload_n hx hb dX4_sunFor_40 rfl (lv_at hl 2 rfl) ?_
      refine lv_if_ge (tgt := 52) hx hb dX4_sunFor_41 (by decide) (fun hc => ?_) (fun hc => ?_)
      · have hf := fg_ifT hf hc
        refine lv_iload_n hx hb dX4_sunFor_52 rfl (lv_at hl 2 rfl) ?_
        exact fg_reti hx hb hr hlk hK h hf dX4_sunFor_53
      · have hf := fg_ifF hf hc
        refine lv_aload_n hx hb dX4_sunFor_44 rfl (lv_at hl 0 rfl) ?_
        refine lv_iconst (v := 3) hx hb dX4_sunFor_45 rfl ?_
        obtain ⟨r6, w4, hc5, hf⟩ := fg_biE hf
        refine fg_ci h (fg_runV (rest := []) S hK h (c_X4_no l D g 3  w_16 r6 w4 hc5) vg_RX4_129 vd_X4_no ⟨by decide, by decide⟩ fg_p4_0 rfl rfl rfl hl.1 rfl (Nat.le_of_ble_eq_true rfl) dX4_sunFor_46 ⟨Nat.zero_le _, Nat.zero_le _⟩) (fun H locs h => ?_)
        refine lv_goto (tgt := 53) hx hb dX4_sunFor_49 (by decide) ?_
        exact fg_reti hx hb hr hlk hK h hf dX4_sunFor_53
    have hL_16 : ∀ (KK_16 : Int32 → fg_W → Option (Int32 × fg_W)) (hK_16 : ∀ (v2_16 : Int32) (w_16 : fg_W) (H : Heap) (locs : List Loc) (ls : Array Slot), fg_H D g s.heap w_16 H locs → lv_has ls 3 [(0, .ref (g.1 4 0 0)), (1, .int a1), (2, .int v2_16)] → KK_16 v2_16 w_16 = some (r, w') → fg_Gi p l e 9 203 s m [.ref (g.1 4 0 0), .int a1] below meth c D g r w' H locs 40 ls []) (n : Nat) (v2_16 : Int32) (w_16 : fg_W) (H : Heap) (locs : List Loc) (ls : Array Slot), fg_H D g s.heap w_16 H locs → lv_has ls 3 [(0, .ref (g.1 4 0 0)), (1, .int a1), (2, .int v2_16)] → f_X4_sunFor_L16 a1 KK_16 n v2_16 w_16 = some (r, w') → fg_Gi p l e 9 203 s m [.ref (g.1 4 0 0), .int a1] below meth c D g r w' H locs 16 ls [] := by
      intro KK_16 hK_16 n
      induction n with
      | zero => intro v2_16 w_16 H locs ls h hl hf; exact fg_no hf
      | succ n_16 ih_16 =>
        intro v2_16 w_16 H locs ls h hl hf
        unfold f_X4_sunFor_L16 at hf
        refine lv_iload_n hx hb dX4_sunFor_16 rfl (lv_at hl 2 rfl) ?_
        refine lv_if_lt (tgt := 40) hx hb dX4_sunFor_17 (by decide) (fun hc => ?_) (fun hc => ?_)
        · have hf := fg_ifT hf hc
          exact hK_16 v2_16 w_16 _ _ ls h (lv_sub hl [0, 1, 2] rfl) hf
        · have hf := fg_ifF hf hc
          refine lv_aload_n hx hb dX4_sunFor_20 rfl (lv_at hl 0 rfl) ?_
          refine lv_iload_n hx hb dX4_sunFor_21 rfl (lv_at hl 2 rfl) ?_
          refine lv_iload_n hx hb dX4_sunFor_22 rfl (lv_at hl 1 rfl) ?_
          obtain ⟨r15, w13, hc14, hf⟩ := fg_biE hf
          refine fg_ci h (fg_runV (rest := []) S hK h (c_X4_fellBy l D g v2_16 a1  w_16 r15 w13 hc14) vg_RX4_183 vd_X4_fellBy ⟨by decide, by decide⟩ fg_p4_0 rfl rfl rfl hl.1 rfl (Nat.le_of_ble_eq_true rfl) dX4_sunFor_23 ⟨Nat.zero_le _, Nat.zero_le _⟩) (fun H locs h => ?_)
          refine lv_aload_n hx hb dX4_sunFor_26 rfl (lv_at hl 0 rfl) ?_
          refine lv_iconst (v := 4) hx hb dX4_sunFor_27 rfl ?_
          obtain ⟨r18, w16, hc17, hf⟩ := fg_biE hf
          refine fg_ci h (fg_runV (rest := [.int r15]) S hK h (c_X4_sumOf l D g 4  w13 r18 w16 hc17) vg_RX4_154 vd_X4_sumOf ⟨by decide, by decide⟩ fg_p4_0 rfl rfl rfl hl.1 rfl (Nat.le_of_ble_eq_true rfl) dX4_sunFor_28 ⟨Nat.zero_le _, Nat.zero_le _⟩) (fun H locs h => ?_)
          refine lv_icmp_eq (tgt := 40) hx hb dX4_sunFor_31 (by decide) (fun hc => ?_) (fun hc => ?_)
          · have hf := fg_ifT hf hc
            exact hK_16 v2_16 w16 _ _ ls h (lv_sub hl [0, 1, 2] rfl) hf
          · have hf := fg_ifF hf hc
            refine lv_iinc (v := (v2_16 + (-1))) (lv' := [(2, .int (v2_16 + (-1))), (0, .ref (g.1 4 0 0)), (1, .int a1)]) hx hb dX4_sunFor_34 hl (k := 2) rfl rfl (by decide) rfl (fun ls hl => ?_)
            refine lv_goto (tgt := 16) hx hb dX4_sunFor_37 (by decide) ?_
            exact ih_16 (v2_16 + (-1)) w16 _ _ ls h (lv_sub hl [1, 2, 0] rfl) hf
    exact hL_16 _ hK_16 fg_fuel 40 w1 _ _ ls h (lv_sub hl [1, 2, 0] rfl) hf
  · have hf := fg_ifT hf hc
    refine lv_aload_n hx hb dX4_sunFor_7 rfl (lv_at hl 0 rfl) ?_
    refine lv_iconst (v := 0) hx hb dX4_sunFor_8 rfl ?_
    obtain ⟨r21, w19, hc20, hf⟩ := fg_biE hf
    refine fg_ci h (fg_runV (rest := []) S hK h (c_X4_no l D g 0  w1 r21 w19 hc20) vg_RX4_129 vd_X4_no ⟨by decide, by decide⟩ fg_p4_0 rfl rfl rfl hl.1 rfl (Nat.le_of_ble_eq_true rfl) dX4_sunFor_9 ⟨Nat.zero_le _, Nat.zero_le _⟩) (fun H locs h => ?_)
    exact fg_reti hx hb hr hlk hK h hf dX4_sunFor_12
set_option maxHeartbeats 4000000 in
set_option maxRecDepth 100000 in
theorem c_X4_standsWithout (l : Launch) (D : va_G) (g : fg_G) (a1 : Int32) (a2 : Int32) (a3 : Int32) (w : fg_W) (r : Int32) (w' : fg_W) (hf : f_X4_standsWithout a1 a2 a3 w = some (r, w')) : fg_M l yX4_standsWithout cX4_standsWithout 5 (some .boolean) 8 180 D g [.ref (g.1 4 0 0), .int a1, .int a2, .int a3] w (fg_Qi D g r w') := by
  refine fg_M.of rfl (Nat.le_of_ble_eq_true rfl) (fun p e s m below meth c ls S hr hlk hK h hl => ?_)
  have hx := S.1
  have hb := S.2.1
  have hl : lv_has ls 5 [(0, .ref (g.1 4 0 0)), (1, .int a1), (2, .int a2), (3, .int a3)] := hl
  unfold f_X4_standsWithout at hf
  refine lv_aload_n hx hb dX4_standsWithout_0 rfl (lv_at hl 0 rfl) ?_
  obtain ⟨w1, hc2, hf⟩ := fg_bvE hf
  refine fg_cv h (fg_runV (rest := []) S hK h (c_X4_setsAside l D g   w w1 hc2) vg_RX4_163 vd_X4_setsAside ⟨by decide, by decide⟩ fg_p4_0 rfl rfl rfl hl.1 rfl (Nat.le_of_ble_eq_true rfl) dX4_standsWithout_1 ⟨Nat.zero_le _, Nat.zero_le _⟩) (fun H locs h => ?_)
  refine lv_aload_n hx hb dX4_standsWithout_4 rfl (lv_at hl 0 rfl) ?_
  refine lv_iload_n hx hb dX4_standsWithout_5 rfl (lv_at hl 2 rfl) ?_
  refine fg_putI (C := RX4) (T := TX4) (N := 22) (fs := (fun f => fg_f4 g 0 f w1.2)) S vu_X4 tyX4 tyX4_ok nmX4 hK h fg_p4_0 (fun _ e4 => by rw [← e4]; rfl) rfl 5 (by decide) vf_RX4_101 rfl rfl (tyX4_ok 5 (by decide)) rfl rfl (fun _ => Nat.le_of_ble_eq_true rfl) (fun _ => rfl) dX4_standsWithout_6 (fun w3 H locs ew h => ?_)
  have hf := fg_letE ew hf
  refine lv_iconst (v := 0) hx hb dX4_standsWithout_9 rfl ?_
  refine lv_istore (lv' := [(4, .int 0), (0, .ref (g.1 4 0 0)), (1, .int a1), (2, .int a2), (3, .int a3)]) hx hb dX4_standsWithout_10 hl (by decide) rfl (fun ls hl => ?_)
  have hK_12 : ∀ (v4_12 : Int32) (w_12 : fg_W) (H : Heap) (locs : List Loc) (ls : Array Slot), fg_H D g s.heap w_12 H locs → lv_has ls 5 [(0, .ref (g.1 4 0 0)), (1, .int a1), (2, .int a2), (3, .int a3), (4, .int v4_12)] → (fg_bv (f_X4_goes a3 w_12) (fun w4 => fg_let (fg_st w4 4 0 0 (upd (w4.1 4 0 0) 5 0)) (fun w6 => fg_bi (f_X4_get a1 1 w6) (fun r9 w7 => if r9 < 0 then (fg_bv (f_X4_laysBack  w7) (fun w10 => some (0, w10))) else (fg_bv (f_X4_laysBack  w7) (fun w12 => some (1, w12))))))) = some (r, w') → fg_Gi p l e 8 180 s m [.ref (g.1 4 0 0), .int a1, .int a2, .int a3] below meth c D g r w' H locs 56 ls [] := by
    intro v4_12 w_12 H locs ls h hl hf
    refine lv_aload_n hx hb dX4_standsWithout_56 rfl (lv_at hl 0 rfl) ?_
    refine lv_iload_n hx hb dX4_standsWithout_57 rfl (lv_at hl 3 rfl) ?_
    obtain ⟨w4, hc5, hf⟩ := fg_bvE hf
    refine fg_cv h (fg_runV (rest := []) S hK h (c_X4_goes l D g a3  w_12 w4 hc5) vg_RX4_144 vd_X4_goes ⟨by decide, by decide⟩ fg_p4_0 rfl rfl rfl hl.1 rfl (Nat.le_of_ble_eq_true rfl) dX4_standsWithout_58 ⟨Nat.zero_le _, Nat.zero_le _⟩) (fun H locs h => ?_)
    refine lv_aload_n hx hb dX4_standsWithout_61 rfl (lv_at hl 0 rfl) ?_
    refine lv_iconst (v := 0) hx hb dX4_standsWithout_62 rfl ?_
    refine fg_putI (C := RX4) (T := TX4) (N := 22) (fs := (fun f => fg_f4 g 0 f w4.2)) S vu_X4 tyX4 tyX4_ok nmX4 hK h fg_p4_0 (fun _ e4 => by rw [← e4]; rfl) rfl 5 (by decide) vf_RX4_101 rfl rfl (tyX4_ok 5 (by decide)) rfl rfl (fun _ => Nat.le_of_ble_eq_true rfl) (fun _ => rfl) dX4_standsWithout_63 (fun w6 H locs ew h => ?_)
    have hf := fg_letE ew hf
    refine lv_aload_n hx hb dX4_standsWithout_66 rfl (lv_at hl 0 rfl) ?_
    refine lv_iload_n hx hb dX4_standsWithout_67 rfl (lv_at hl 1 rfl) ?_
    refine lv_iconst (v := 1) hx hb dX4_standsWithout_68 rfl ?_
    obtain ⟨r9, w7, hc8, hf⟩ := fg_biE hf
    refine fg_ci h (fg_runV (rest := []) S hK h (c_X4_get l D g a1 1  w6 r9 w7 hc8) vg_RX4_65 vd_X4_get ⟨by decide, by decide⟩ fg_p4_0 rfl rfl rfl hl.1 rfl (Nat.le_of_ble_eq_true rfl) dX4_standsWithout_69 ⟨Nat.zero_le _, Nat.zero_le _⟩) (fun H locs h => ?_)
    refine lv_if_lt (tgt := 79) hx hb dX4_standsWithout_72 (by decide) (fun hc => ?_) (fun hc => ?_)
    · have hf := fg_ifT hf hc
      refine lv_iconst (v := 0) hx hb dX4_standsWithout_79 rfl ?_
      refine lv_istore (lv' := [(4, .int 0), (0, .ref (g.1 4 0 0)), (1, .int a1), (2, .int a2), (3, .int a3)]) hx hb dX4_standsWithout_80 hl (by decide) rfl (fun ls hl => ?_)
      refine lv_aload_n hx hb dX4_standsWithout_82 rfl (lv_at hl 1 rfl) ?_
      obtain ⟨w10, hc11, hf⟩ := fg_bvE hf
      refine fg_cv h (fg_runV (rest := []) S hK h (c_X4_laysBack l D g   w7 w10 hc11) vg_RX4_166 vd_X4_laysBack ⟨by decide, by decide⟩ fg_p4_0 rfl rfl rfl hl.1 rfl (Nat.le_of_ble_eq_true rfl) dX4_standsWithout_83 ⟨Nat.zero_le _, Nat.zero_le _⟩) (fun H locs h => ?_)
      refine lv_iload hx hb dX4_standsWithout_86 (lv_at hl 0 rfl) ?_
      exact fg_retz hx hb hr hlk hK h hf (by decide) dX4_standsWithout_88
    · have hf := fg_ifF hf hc
      refine lv_iconst (v := 1) hx hb dX4_standsWithout_75 rfl ?_
      refine lv_goto (tgt := 80) hx hb dX4_standsWithout_76 (by decide) ?_
      refine lv_istore (lv' := [(4, .int 1), (0, .ref (g.1 4 0 0)), (1, .int a1), (2, .int a2), (3, .int a3)]) hx hb dX4_standsWithout_80 hl (by decide) rfl (fun ls hl => ?_)
      refine lv_aload_n hx hb dX4_standsWithout_82 rfl (lv_at hl 1 rfl) ?_
      obtain ⟨w12, hc13, hf⟩ := fg_bvE hf
      refine fg_cv h (fg_runV (rest := []) S hK h (c_X4_laysBack l D g   w7 w12 hc13) vg_RX4_166 vd_X4_laysBack ⟨by decide, by decide⟩ fg_p4_0 rfl rfl rfl hl.1 rfl (Nat.le_of_ble_eq_true rfl) dX4_standsWithout_83 ⟨Nat.zero_le _, Nat.zero_le _⟩) (fun H locs h => ?_)
      refine lv_iload hx hb dX4_standsWithout_86 (lv_at hl 0 rfl) ?_
      exact fg_retz hx hb hr hlk hK h hf (by decide) dX4_standsWithout_88
  have hL_12 : ∀ (KK_12 : Int32 → fg_W → Option (Int32 × fg_W)) (hK_12 : ∀ (v4_12 : Int32) (w_12 : fg_W) (H : Heap) (locs : List Loc) (ls : Array Slot), fg_H D g s.heap w_12 H locs → lv_has ls 5 [(0, .ref (g.1 4 0 0)), (1, .int a1), (2, .int a2), (3, .int a3), (4, .int v4_12)] → KK_12 v4_12 w_12 = some (r, w') → fg_Gi p l e 8 180 s m [.ref (g.1 4 0 0), .int a1, .int a2, .int a3] below meth c D g r w' H locs 56 ls []) (n : Nat) (v4_12 : Int32) (w_12 : fg_W) (H : Heap) (locs : List Loc) (ls : Array Slot), fg_H D g s.heap w_12 H locs → lv_has ls 5 [(0, .ref (g.1 4 0 0)), (1, .int a1), (2, .int a2), (3, .int a3), (4, .int v4_12)] → f_X4_standsWithout_L12  KK_12 n v4_12 w_12 = some (r, w') → fg_Gi p l e 8 180 s m [.ref (g.1 4 0 0), .int a1, .int a2, .int a3] below meth c D g r w' H locs 12 ls [] := by
    intro KK_12 hK_12 n
    induction n with
    | zero => intro v4_12 w_12 H locs ls h hl hf; exact fg_no hf
    | succ n_12 ih_12 =>
      intro v4_12 w_12 H locs ls h hl hf
      unfold f_X4_standsWithout_L12 at hf
      refine lv_iload hx hb dX4_standsWithout_12 (lv_at hl 4 rfl) ?_
      refine lv_aload_n hx hb dX4_standsWithout_14 rfl (lv_at hl 0 rfl) ?_
      refine fg_get (C := RX4) (T := TX4) (N := 22) S vu_X4 hK h fg_p4_0 rfl rfl 0 (by decide) vf_RX4_9 rfl rfl dX4_standsWithout_15 ?_
      refine lv_iconst (v := 1) hx hb dX4_standsWithout_18 rfl ?_
      refine fg_ialdL (j := 1) hx hb hK h fg_p4_1 (fun _ => rfl) (by decide) rfl dX4_standsWithout_19 ?_
      refine lv_icmp_ge (tgt := 56) hx hb dX4_standsWithout_20 (by decide) (fun hc => ?_) (fun hc => ?_)
      · have hf := fg_ifT hf hc
        exact hK_12 v4_12 w_12 _ _ ls h (lv_sub hl [0, 1, 2, 3, 4] rfl) hf
      · have hf := fg_ifF hf hc
        refine lv_aload_n hx hb dX4_standsWithout_23 rfl (lv_at hl 0 rfl) ?_
        refine lv_iload hx hb dX4_standsWithout_24 (lv_at hl 4 rfl) ?_
        refine lv_iconst (v := 1) hx hb dX4_standsWithout_26 rfl ?_
        refine lv_aload_n hx hb dX4_standsWithout_27 rfl (lv_at hl 0 rfl) ?_
        refine lv_iload hx hb dX4_standsWithout_28 (lv_at hl 4 rfl) ?_
        obtain ⟨r26, w24, hc25, hf⟩ := fg_biE hf
        refine fg_ci h (fg_runV (rest := [.int 1, .int v4_12, .ref (g.1 4 0 0)]) S hK h (c_X4_isAway l D g v4_12  w_12 r26 w24 hc25) vg_RX4_108 vd_X4_isAway ⟨by decide, by decide⟩ fg_p4_0 rfl rfl rfl hl.1 rfl (Nat.le_of_ble_eq_true rfl) dX4_standsWithout_30 ⟨Nat.zero_le _, Nat.zero_le _⟩) (fun H locs h => ?_)
        refine lv_if_eq (tgt := 40) hx hb dX4_standsWithout_33 (by decide) (fun hc => ?_) (fun hc => ?_)
        · have hf := fg_ifT hf hc
          refine lv_aload_n hx hb dX4_standsWithout_40 rfl (lv_at hl 0 rfl) ?_
          refine lv_iload hx hb dX4_standsWithout_41 (lv_at hl 4 rfl) ?_
          refine lv_iconst (v := 1) hx hb dX4_standsWithout_43 rfl ?_
          obtain ⟨r29, w27, hc28, hf⟩ := fg_biE hf
          refine fg_ci h (fg_runV (rest := [.int 1, .int v4_12, .ref (g.1 4 0 0)]) S hK h (c_X4_get l D g v4_12 1  w24 r29 w27 hc28) vg_RX4_65 vd_X4_get ⟨by decide, by decide⟩ fg_p4_0 rfl rfl rfl hl.1 rfl (Nat.le_of_ble_eq_true rfl) dX4_standsWithout_44 ⟨Nat.zero_le _, Nat.zero_le _⟩) (fun H locs h => ?_)
          obtain ⟨w30, hc31, hf⟩ := fg_bvE hf
          refine fg_cv h (fg_runV (rest := []) S hK h (c_X4_puts l D g v4_12 1 r29  w27 w30 hc31) vg_RX4_95 vd_X4_puts ⟨by decide, by decide⟩ fg_p4_0 rfl rfl rfl hl.1 rfl (Nat.le_of_ble_eq_true rfl) dX4_standsWithout_47 ⟨Nat.zero_le _, Nat.zero_le _⟩) (fun H locs h => ?_)
          refine lv_iinc (v := (v4_12 + 1)) (lv' := [(4, .int (v4_12 + 1)), (0, .ref (g.1 4 0 0)), (1, .int a1), (2, .int a2), (3, .int a3)]) hx hb dX4_standsWithout_50 hl (k := 4) rfl rfl (by decide) rfl (fun ls hl => ?_)
          refine lv_goto (tgt := 12) hx hb dX4_standsWithout_53 (by decide) ?_
          exact ih_12 (v4_12 + 1) w30 _ _ ls h (lv_sub hl [1, 2, 3, 4, 0] rfl) hf
        · have hf := fg_ifF hf hc
          refine lv_iconst (v := (-1)) hx hb dX4_standsWithout_36 rfl ?_
          refine lv_goto (tgt := 47) hx hb dX4_standsWithout_37 (by decide) ?_
          obtain ⟨w32, hc33, hf⟩ := fg_bvE hf
          refine fg_cv h (fg_runV (rest := []) S hK h (c_X4_puts l D g v4_12 1 (-1)  w24 w32 hc33) vg_RX4_95 vd_X4_puts ⟨by decide, by decide⟩ fg_p4_0 rfl rfl rfl hl.1 rfl (Nat.le_of_ble_eq_true rfl) dX4_standsWithout_47 ⟨Nat.zero_le _, Nat.zero_le _⟩) (fun H locs h => ?_)
          refine lv_iinc (v := (v4_12 + 1)) (lv' := [(4, .int (v4_12 + 1)), (0, .ref (g.1 4 0 0)), (1, .int a1), (2, .int a2), (3, .int a3)]) hx hb dX4_standsWithout_50 hl (k := 4) rfl rfl (by decide) rfl (fun ls hl => ?_)
          refine lv_goto (tgt := 12) hx hb dX4_standsWithout_53 (by decide) ?_
          exact ih_12 (v4_12 + 1) w32 _ _ ls h (lv_sub hl [1, 2, 3, 4, 0] rfl) hf
  exact hL_12 _ hK_12 fg_fuel 0 w3 _ _ ls h (lv_sub hl [1, 2, 3, 4, 0] rfl) hf
set_option maxHeartbeats 4000000 in
set_option maxRecDepth 100000 in
theorem c_X4_away (l : Launch) (D : va_G) (g : fg_G) (a1 : Int32) (a2 : Int32) (w : fg_W) (r : Int32) (w' : fg_W) (hf : f_X4_away a1 a2 w = some (r, w')) : fg_M l yX4_away cX4_away 6 (some .int) 9 204 D g [.ref (g.1 4 0 0), .int a1, .int a2] w (fg_Qi D g r w') := by
  refine fg_M.of rfl (Nat.le_of_ble_eq_true rfl) (fun p e s m below meth c ls S hr hlk hK h hl => ?_)
  have hx := S.1
  have hb := S.2.1
  have hl : lv_has ls 6 [(0, .ref (g.1 4 0 0)), (1, .int a1), (2, .int a2)] := hl
  unfold f_X4_away at hf
  refine lv_aload_n hx hb dX4_away_0 rfl (lv_at hl 0 rfl) ?_
  refine lv_iload_n hx hb dX4_away_1 rfl (lv_at hl 1 rfl) ?_
  obtain ⟨r3, w1, hc2, hf⟩ := fg_biE hf
  refine fg_ci h (fg_runV (rest := []) S hK h (c_X4_isPerson l D g a1  w r3 w1 hc2) vg_RX4_138 vd_X4_isPerson ⟨by decide, by decide⟩ fg_p4_0 rfl rfl rfl hl.1 rfl (Nat.le_of_ble_eq_true rfl) dX4_away_2 ⟨Nat.zero_le _, Nat.zero_le _⟩) (fun H locs h => ?_)
  refine lv_if_eq (tgt := 18) hx hb dX4_away_5 (by decide) (fun hc => ?_) (fun hc => ?_)
  · have hf := fg_ifT hf hc
    refine lv_aload_n hx hb dX4_away_18 rfl (lv_at hl 0 rfl) ?_
    refine lv_iconst (v := 0) hx hb dX4_away_19 rfl ?_
    obtain ⟨r6, w4, hc5, hf⟩ := fg_biE hf
    refine fg_ci h (fg_runV (rest := []) S hK h (c_X4_no l D g 0  w1 r6 w4 hc5) vg_RX4_129 vd_X4_no ⟨by decide, by decide⟩ fg_p4_0 rfl rfl rfl hl.1 rfl (Nat.le_of_ble_eq_true rfl) dX4_away_20 ⟨Nat.zero_le _, Nat.zero_le _⟩) (fun H locs h => ?_)
    exact fg_reti hx hb hr hlk hK h hf dX4_away_23
  · have hf := fg_ifF hf hc
    refine lv_iload_n hx hb dX4_away_8 rfl (lv_at hl 2 rfl) ?_
    refine lv_iconst (v := 0) hx hb dX4_away_9 rfl ?_
    refine lv_bipush (v := 12) hx hb dX4_away_10 rfl ?_
    obtain ⟨r9, w7, hc8, hf⟩ := fg_biE hf
    refine fg_ci h (fg_runS (rest := []) S hK h (c_X4_in1 l D g a2 0 12  w1 r9 w7 hc8) vk_X4_in1 vm_RX4_61 vs_X4_in1 vi_RX4 vd_X4_in1.2 ⟨by decide, by decide⟩ rfl hl.1 rfl (Nat.le_of_ble_eq_true rfl) dX4_away_12 ⟨Nat.zero_le _, Nat.zero_le _⟩) (fun H locs h => ?_)
    refine lv_if_ne (tgt := 24) hx hb dX4_away_15 (by decide) (fun hc => ?_) (fun hc => ?_)
    · have hf := fg_ifF hf hc
      refine lv_iconst (v := (-1)) hx hb dX4_away_24 rfl ?_
      refine lv_istore_n (lv' := [(3, .int (-1)), (0, .ref (g.1 4 0 0)), (1, .int a1), (2, .int a2)]) hx hb dX4_away_25 rfl hl (by decide) rfl (fun ls hl => ?_)
      refine lv_iconst (v := 0) hx hb dX4_away_26 rfl ?_
      refine lv_istore (lv' := [(4, .int 0), (3, .int (-1)), (0, .ref (g.1 4 0 0)), (1, .int a1), (2, .int a2)]) hx hb dX4_away_27 hl (by decide) rfl (fun ls hl => ?_)
      have hK_29 : ∀ (v3_29 : Int32) (v4_29 : Int32) (w_29 : fg_W) (H : Heap) (locs : List Loc) (ls : Array Slot), fg_H D g s.heap w_29 H locs → lv_has ls 6 [(0, .ref (g.1 4 0 0)), (1, .int a1), (2, .int a2), (3, .int v3_29), (4, .int v4_29)] → (if 0 ≤ v3_29 then (some (v3_29, w_29)) else (fg_bi (f_X4_no 3 w_29) (fun r12 w10 => some (r12, w10)))) = some (r, w') → fg_Gi p l e 9 204 s m [.ref (g.1 4 0 0), .int a1, .int a2] below meth c D g r w' H locs 103 ls [] := by
        intro v3_29 v4_29 w_29 H locs ls h hl hf
        refine lv_iload_n hx hb dX4_away_103 rfl (lv_at hl 3 rfl) ?_
        refine lv_if_ge (tgt := 115) hx hb dX4_away_104 (by decide) (fun hc => ?_) (fun hc => ?_)
        · have hf := fg_ifT hf hc
          refine lv_iload_n hx hb dX4_away_115 rfl (lv_at hl 3 rfl) ?_
          exact fg_reti hx hb hr hlk hK h hf dX4_away_116
        · have hf := fg_ifF hf hc
          refine lv_aload_n hx hb dX4_away_107 rfl (lv_at hl 0 rfl) ?_
          refine lv_iconst (v := 3) hx hb dX4_away_108 rfl ?_
          obtain ⟨r12, w10, hc11, hf⟩ := fg_biE hf
          refine fg_ci h (fg_runV (rest := []) S hK h (c_X4_no l D g 3  w_29 r12 w10 hc11) vg_RX4_129 vd_X4_no ⟨by decide, by decide⟩ fg_p4_0 rfl rfl rfl hl.1 rfl (Nat.le_of_ble_eq_true rfl) dX4_away_109 ⟨Nat.zero_le _, Nat.zero_le _⟩) (fun H locs h => ?_)
          refine lv_goto (tgt := 116) hx hb dX4_away_112 (by decide) ?_
          exact fg_reti hx hb hr hlk hK h hf dX4_away_116
      have hL_29 : ∀ (KK_29 : Int32 → Int32 → fg_W → Option (Int32 × fg_W)) (hK_29 : ∀ (v3_29 : Int32) (v4_29 : Int32) (w_29 : fg_W) (H : Heap) (locs : List Loc) (ls : Array Slot), fg_H D g s.heap w_29 H locs → lv_has ls 6 [(0, .ref (g.1 4 0 0)), (1, .int a1), (2, .int a2), (3, .int v3_29), (4, .int v4_29)] → KK_29 v3_29 v4_29 w_29 = some (r, w') → fg_Gi p l e 9 204 s m [.ref (g.1 4 0 0), .int a1, .int a2] below meth c D g r w' H locs 103 ls []) (n : Nat) (v3_29 : Int32) (v4_29 : Int32) (w_29 : fg_W) (H : Heap) (locs : List Loc) (ls : Array Slot), fg_H D g s.heap w_29 H locs → lv_has ls 6 [(0, .ref (g.1 4 0 0)), (1, .int a1), (2, .int a2), (3, .int v3_29), (4, .int v4_29)] → f_X4_away_L29 a1 a2 KK_29 n v3_29 v4_29 w_29 = some (r, w') → fg_Gi p l e 9 204 s m [.ref (g.1 4 0 0), .int a1, .int a2] below meth c D g r w' H locs 29 ls [] := by
        intro KK_29 hK_29 n
        induction n with
        | zero => intro v3_29 v4_29 w_29 H locs ls h hl hf; exact fg_no hf
        | succ n_29 ih_29 =>
          intro v3_29 v4_29 w_29 H locs ls h hl hf
          unfold f_X4_away_L29 at hf
          refine lv_iload hx hb dX4_away_29 (lv_at hl 4 rfl) ?_
          refine lv_iconst (v := 1) hx hb dX4_away_31 rfl ?_
          refine lv_aload_n hx hb dX4_away_32 rfl (lv_at hl 0 rfl) ?_
          refine fg_get (C := RX4) (T := TX4) (N := 22) S vu_X4 hK h fg_p4_0 rfl rfl 0 (by decide) vf_RX4_9 rfl rfl dX4_away_33 ?_
          refine lv_iconst (v := 1) hx hb dX4_away_36 rfl ?_
          refine fg_ialdL (j := 1) hx hb hK h fg_p4_1 (fun _ => rfl) (by decide) rfl dX4_away_37 ?_
          refine lv_ishl hx hb dX4_away_38 ?_
          refine lv_icmp_ge (tgt := 103) hx hb dX4_away_39 (by decide) (fun hc => ?_) (fun hc => ?_)
          · have hf := fg_ifT hf hc
            exact hK_29 v3_29 v4_29 w_29 _ _ ls h (lv_sub hl [0, 1, 2, 3, 4] rfl) hf
          · have hf := fg_ifF hf hc
            refine lv_iload hx hb dX4_away_42 (lv_at hl 4 rfl) ?_
            refine lv_iload_n hx hb dX4_away_44 rfl (lv_at hl 1 rfl) ?_
            refine lv_ishr hx hb dX4_away_45 ?_
            refine lv_iconst (v := 1) hx hb dX4_away_46 rfl ?_
            refine lv_iand hx hb dX4_away_47 ?_
            refine lv_if_ne (tgt := 71) hx hb dX4_away_48 (by decide) (fun hc => ?_) (fun hc => ?_)
            · have hf := fg_ifF hf hc
              refine lv_iconst (v := 0) hx hb dX4_away_71 rfl ?_
              refine lv_istore (lv' := [(5, .int 0), (0, .ref (g.1 4 0 0)), (1, .int a1), (2, .int a2), (3, .int v3_29), (4, .int v4_29)]) hx hb dX4_away_72 hl (by decide) rfl (fun ls hl => ?_)
              refine lv_iload hx hb dX4_away_74 (lv_at hl 0 rfl) ?_
              refine lv_if_eq (tgt := 95) hx hb dX4_away_76 (by decide) (fun hc => ?_) (fun hc => ?_)
              · refine lv_iload_n hx hb dX4_away_95 rfl (lv_at hl 4 rfl) ?_
                refine lv_istore_n (lv' := [(3, .int v3_29), (5, .int 0), (0, .ref (g.1 4 0 0)), (1, .int a1), (2, .int a2), (4, .int v4_29)]) hx hb dX4_away_96 rfl hl (by decide) rfl (fun ls hl => ?_)
                refine lv_iinc (v := (v4_29 + 1)) (lv' := [(4, .int (v4_29 + 1)), (3, .int v3_29), (5, .int 0), (0, .ref (g.1 4 0 0)), (1, .int a1), (2, .int a2)]) hx hb dX4_away_97 hl (k := 5) rfl rfl (by decide) rfl (fun ls hl => ?_)
                refine lv_goto (tgt := 29) hx hb dX4_away_100 (by decide) ?_
                exact ih_29 v3_29 (v4_29 + 1) w_29 _ _ ls h (lv_sub hl [3, 4, 5, 1, 0] rfl) hf
              · exact absurd hc (by decide)
            · have hf := fg_ifT hf hc
              refine lv_iload_n hx hb dX4_away_51 rfl (lv_at hl 3 rfl) ?_
              refine lv_if_lt (tgt := 67) hx hb dX4_away_52 (by decide) (fun hc => ?_) (fun hc => ?_)
              · have hf := fg_ifT hf hc
                refine lv_iconst (v := 1) hx hb dX4_away_67 rfl ?_
                refine lv_goto (tgt := 72) hx hb dX4_away_68 (by decide) ?_
                refine lv_istore (lv' := [(5, .int 1), (0, .ref (g.1 4 0 0)), (1, .int a1), (2, .int a2), (3, .int v3_29), (4, .int v4_29)]) hx hb dX4_away_72 hl (by decide) rfl (fun ls hl => ?_)
                refine lv_iload hx hb dX4_away_74 (lv_at hl 0 rfl) ?_
                refine lv_if_eq (tgt := 95) hx hb dX4_away_76 (by decide) (fun hc => ?_) (fun hc => ?_)
                · exact absurd hc (by decide)
                · refine lv_aload_n hx hb dX4_away_79 rfl (lv_at hl 1 rfl) ?_
                  refine lv_iload_n hx hb dX4_away_80 rfl (lv_at hl 2 rfl) ?_
                  refine lv_iload hx hb dX4_away_81 (lv_at hl 5 rfl) ?_
                  refine lv_iload_n hx hb dX4_away_83 rfl (lv_at hl 3 rfl) ?_
                  obtain ⟨r27, w25, hc26, hf⟩ := fg_biE hf
                  refine fg_ci h (fg_runV (rest := []) S hK h (c_X4_standsWithout l D g a1 v4_29 a2  w_29 r27 w25 hc26) vg_RX4_186 vd_X4_standsWithout ⟨by decide, by decide⟩ fg_p4_0 rfl rfl rfl hl.1 rfl (Nat.le_of_ble_eq_true rfl) dX4_away_84 ⟨Nat.zero_le _, Nat.zero_le _⟩) (fun H locs h => ?_)
                  refine lv_if_eq (tgt := 95) hx hb dX4_away_87 (by decide) (fun hc => ?_) (fun hc => ?_)
                  · have hf := fg_ifT hf hc
                    refine lv_iload_n hx hb dX4_away_95 rfl (lv_at hl 4 rfl) ?_
                    refine lv_istore_n (lv' := [(3, .int v3_29), (5, .int 1), (0, .ref (g.1 4 0 0)), (1, .int a1), (2, .int a2), (4, .int v4_29)]) hx hb dX4_away_96 rfl hl (by decide) rfl (fun ls hl => ?_)
                    refine lv_iinc (v := (v4_29 + 1)) (lv' := [(4, .int (v4_29 + 1)), (3, .int v3_29), (5, .int 1), (0, .ref (g.1 4 0 0)), (1, .int a1), (2, .int a2)]) hx hb dX4_away_97 hl (k := 5) rfl rfl (by decide) rfl (fun ls hl => ?_)
                    refine lv_goto (tgt := 29) hx hb dX4_away_100 (by decide) ?_
                    exact ih_29 v3_29 (v4_29 + 1) w25 _ _ ls h (lv_sub hl [3, 4, 5, 1, 0] rfl) hf
                  · have hf := fg_ifF hf hc
                    refine lv_iload hx hb dX4_away_90 (lv_at hl 5 rfl) ?_
                    refine lv_goto (tgt := 96) hx hb dX4_away_92 (by decide) ?_
                    refine lv_istore_n (lv' := [(3, .int v4_29), (5, .int 1), (0, .ref (g.1 4 0 0)), (1, .int a1), (2, .int a2), (4, .int v4_29)]) hx hb dX4_away_96 rfl hl (by decide) rfl (fun ls hl => ?_)
                    refine lv_iinc (v := (v4_29 + 1)) (lv' := [(4, .int (v4_29 + 1)), (3, .int v4_29), (5, .int 1), (0, .ref (g.1 4 0 0)), (1, .int a1), (2, .int a2)]) hx hb dX4_away_97 hl (k := 5) rfl rfl (by decide) rfl (fun ls hl => ?_)
                    refine lv_goto (tgt := 29) hx hb dX4_away_100 (by decide) ?_
                    exact ih_29 v4_29 (v4_29 + 1) w25 _ _ ls h (lv_sub hl [3, 4, 5, 1, 0] rfl) hf
              · have hf := fg_ifF hf hc
                refine lv_iload hx hb dX4_away_55 (lv_at hl 4 rfl) ?_
                obtain ⟨r30, w28, hc29, hf⟩ := fg_biE hf
                refine fg_ci h (fg_runS (rest := []) S hK h (c_X4_bits l D g v4_29  w_29 r30 w28 hc29) vk_X4_bits vm_RX4_76 vs_X4_bits vi_RX4 vd_X4_bits.2 ⟨by decide, by decide⟩ rfl hl.1 rfl (Nat.le_of_ble_eq_true rfl) dX4_away_57 ⟨Nat.zero_le _, Nat.zero_le _⟩) (fun H locs h => ?_)
                refine lv_iload_n hx hb dX4_away_60 rfl (lv_at hl 3 rfl) ?_
                obtain ⟨r33, w31, hc32, hf⟩ := fg_biE hf
                refine fg_ci h (fg_runS (rest := [.int r30]) S hK h (c_X4_bits l D g v3_29  w28 r33 w31 hc32) vk_X4_bits vm_RX4_76 vs_X4_bits vi_RX4 vd_X4_bits.2 ⟨by decide, by decide⟩ rfl hl.1 rfl (Nat.le_of_ble_eq_true rfl) dX4_away_61 ⟨Nat.zero_le _, Nat.zero_le _⟩) (fun H locs h => ?_)
                refine lv_icmp_ge (tgt := 71) hx hb dX4_away_64 (by decide) (fun hc => ?_) (fun hc => ?_)
                · have hf := fg_ifT hf hc
                  refine lv_iconst (v := 0) hx hb dX4_away_71 rfl ?_
                  refine lv_istore (lv' := [(5, .int 0), (0, .ref (g.1 4 0 0)), (1, .int a1), (2, .int a2), (3, .int v3_29), (4, .int v4_29)]) hx hb dX4_away_72 hl (by decide) rfl (fun ls hl => ?_)
                  refine lv_iload hx hb dX4_away_74 (lv_at hl 0 rfl) ?_
                  refine lv_if_eq (tgt := 95) hx hb dX4_away_76 (by decide) (fun hc => ?_) (fun hc => ?_)
                  · refine lv_iload_n hx hb dX4_away_95 rfl (lv_at hl 4 rfl) ?_
                    refine lv_istore_n (lv' := [(3, .int v3_29), (5, .int 0), (0, .ref (g.1 4 0 0)), (1, .int a1), (2, .int a2), (4, .int v4_29)]) hx hb dX4_away_96 rfl hl (by decide) rfl (fun ls hl => ?_)
                    refine lv_iinc (v := (v4_29 + 1)) (lv' := [(4, .int (v4_29 + 1)), (3, .int v3_29), (5, .int 0), (0, .ref (g.1 4 0 0)), (1, .int a1), (2, .int a2)]) hx hb dX4_away_97 hl (k := 5) rfl rfl (by decide) rfl (fun ls hl => ?_)
                    refine lv_goto (tgt := 29) hx hb dX4_away_100 (by decide) ?_
                    exact ih_29 v3_29 (v4_29 + 1) w31 _ _ ls h (lv_sub hl [3, 4, 5, 1, 0] rfl) hf
                  · exact absurd hc (by decide)
                · have hf := fg_ifF hf hc
                  refine lv_iconst (v := 1) hx hb dX4_away_67 rfl ?_
                  refine lv_goto (tgt := 72) hx hb dX4_away_68 (by decide) ?_
                  refine lv_istore (lv' := [(5, .int 1), (0, .ref (g.1 4 0 0)), (1, .int a1), (2, .int a2), (3, .int v3_29), (4, .int v4_29)]) hx hb dX4_away_72 hl (by decide) rfl (fun ls hl => ?_)
                  refine lv_iload hx hb dX4_away_74 (lv_at hl 0 rfl) ?_
                  refine lv_if_eq (tgt := 95) hx hb dX4_away_76 (by decide) (fun hc => ?_) (fun hc => ?_)
                  · exact absurd hc (by decide)
                  · refine lv_aload_n hx hb dX4_away_79 rfl (lv_at hl 1 rfl) ?_
                    refine lv_iload_n hx hb dX4_away_80 rfl (lv_at hl 2 rfl) ?_
                    refine lv_iload hx hb dX4_away_81 (lv_at hl 5 rfl) ?_
                    refine lv_iload_n hx hb dX4_away_83 rfl (lv_at hl 3 rfl) ?_
                    obtain ⟨r36, w34, hc35, hf⟩ := fg_biE hf
                    refine fg_ci h (fg_runV (rest := []) S hK h (c_X4_standsWithout l D g a1 v4_29 a2  w31 r36 w34 hc35) vg_RX4_186 vd_X4_standsWithout ⟨by decide, by decide⟩ fg_p4_0 rfl rfl rfl hl.1 rfl (Nat.le_of_ble_eq_true rfl) dX4_away_84 ⟨Nat.zero_le _, Nat.zero_le _⟩) (fun H locs h => ?_)
                    refine lv_if_eq (tgt := 95) hx hb dX4_away_87 (by decide) (fun hc => ?_) (fun hc => ?_)
                    · have hf := fg_ifT hf hc
                      refine lv_iload_n hx hb dX4_away_95 rfl (lv_at hl 4 rfl) ?_
                      refine lv_istore_n (lv' := [(3, .int v3_29), (5, .int 1), (0, .ref (g.1 4 0 0)), (1, .int a1), (2, .int a2), (4, .int v4_29)]) hx hb dX4_away_96 rfl hl (by decide) rfl (fun ls hl => ?_)
                      refine lv_iinc (v := (v4_29 + 1)) (lv' := [(4, .int (v4_29 + 1)), (3, .int v3_29), (5, .int 1), (0, .ref (g.1 4 0 0)), (1, .int a1), (2, .int a2)]) hx hb dX4_away_97 hl (k := 5) rfl rfl (by decide) rfl (fun ls hl => ?_)
                      refine lv_goto (tgt := 29) hx hb dX4_away_100 (by decide) ?_
                      exact ih_29 v3_29 (v4_29 + 1) w34 _ _ ls h (lv_sub hl [3, 4, 5, 1, 0] rfl) hf
                    · have hf := fg_ifF hf hc
                      refine lv_iload hx hb dX4_away_90 (lv_at hl 5 rfl) ?_
                      refine lv_goto (tgt := 96) hx hb dX4_away_92 (by decide) ?_
                      refine lv_istore_n (lv' := [(3, .int v4_29), (5, .int 1), (0, .ref (g.1 4 0 0)), (1, .int a1), (2, .int a2), (4, .int v4_29)]) hx hb dX4_away_96 rfl hl (by decide) rfl (fun ls hl => ?_)
                      refine lv_iinc (v := (v4_29 + 1)) (lv' := [(4, .int (v4_29 + 1)), (3, .int v4_29), (5, .int 1), (0, .ref (g.1 4 0 0)), (1, .int a1), (2, .int a2)]) hx hb dX4_away_97 hl (k := 5) rfl rfl (by decide) rfl (fun ls hl => ?_)
                      refine lv_goto (tgt := 29) hx hb dX4_away_100 (by decide) ?_
                      exact ih_29 v4_29 (v4_29 + 1) w34 _ _ ls h (lv_sub hl [3, 4, 5, 1, 0] rfl) hf
      exact hL_29 _ hK_29 fg_fuel (-1) 0 w7 _ _ ls h (lv_sub hl [2, 3, 4, 1, 0] rfl) hf
    · have hf := fg_ifT hf hc
      refine lv_aload_n hx hb dX4_away_18 rfl (lv_at hl 0 rfl) ?_
      refine lv_iconst (v := 0) hx hb dX4_away_19 rfl ?_
      obtain ⟨r39, w37, hc38, hf⟩ := fg_biE hf
      refine fg_ci h (fg_runV (rest := []) S hK h (c_X4_no l D g 0  w7 r39 w37 hc38) vg_RX4_129 vd_X4_no ⟨by decide, by decide⟩ fg_p4_0 rfl rfl rfl hl.1 rfl (Nat.le_of_ble_eq_true rfl) dX4_away_20 ⟨Nat.zero_le _, Nat.zero_le _⟩) (fun H locs h => ?_)
      exact fg_reti hx hb hr hlk hK h hf dX4_away_23
set_option maxHeartbeats 4000000 in
set_option maxRecDepth 100000 in
theorem c_X4_isSheet (l : Launch) (D : va_G) (g : fg_G) (a1 : Int32) (w : fg_W) (r : Int32) (w' : fg_W) (hf : f_X4_isSheet a1 w = some (r, w')) : fg_M l yX4_isSheet cX4_isSheet 1 (some .boolean) 1 22 D g [.int a1] w (fg_Qi D g r w') := by
  refine fg_M.of rfl (Nat.le_of_ble_eq_true rfl) (fun p e s m below meth c ls S hr hlk hK h hl => ?_)
  have hx := S.1
  have hb := S.2.1
  have hl : lv_has ls 1 [(0, .int a1)] := hl
  unfold f_X4_isSheet at hf
  refine lv_iload_n hx hb dX4_isSheet_0 rfl (lv_at hl 0 rfl) ?_
  refine lv_iconst (v := 0) hx hb dX4_isSheet_1 rfl ?_
  refine lv_iconst (v := 3) hx hb dX4_isSheet_2 rfl ?_
  obtain ⟨r3, w1, hc2, hf⟩ := fg_biE hf
  refine fg_ci h (fg_runS (rest := []) S hK h (c_X4_in1 l D g a1 0 3  w r3 w1 hc2) vk_X4_in1 vm_RX4_61 vs_X4_in1 vi_RX4 vd_X4_in1.2 ⟨by decide, by decide⟩ rfl hl.1 rfl (Nat.le_of_ble_eq_true rfl) dX4_isSheet_3 ⟨Nat.zero_le _, Nat.zero_le _⟩) (fun H locs h => ?_)
  obtain ⟨hz, hf⟩ := fg_gpE hf
  exact fg_retz hx hb hr hlk hK h hf hz dX4_isSheet_6
set_option maxHeartbeats 4000000 in
set_option maxRecDepth 100000 in
theorem c_X4_wrongSheet (l : Launch) (D : va_G) (g : fg_G) (a1 : Int32) (w : fg_W) (r : Int32) (w' : fg_W) (hf : f_X4_wrongSheet a1 w = some (r, w')) : fg_M l yX4_wrongSheet cX4_wrongSheet 2 (some .int) 2 42 D g [.ref (g.1 4 0 0), .int a1] w (fg_Qi D g r w') := by
  refine fg_M.of rfl (Nat.le_of_ble_eq_true rfl) (fun p e s m below meth c ls S hr hlk hK h hl => ?_)
  have hx := S.1
  have hb := S.2.1
  have hl : lv_has ls 2 [(0, .ref (g.1 4 0 0)), (1, .int a1)] := hl
  unfold f_X4_wrongSheet at hf
  refine lv_iload_n hx hb dX4_wrongSheet_0 rfl (lv_at hl 1 rfl) ?_
  obtain ⟨r3, w1, hc2, hf⟩ := fg_biE hf
  refine fg_ci h (fg_runS (rest := []) S hK h (c_X4_isSheet l D g a1  w r3 w1 hc2) vk_X4_isSheet vm_RX4_189 vs_X4_isSheet vi_RX4 vd_X4_isSheet.2 ⟨by decide, by decide⟩ rfl hl.1 rfl (Nat.le_of_ble_eq_true rfl) dX4_wrongSheet_1 ⟨Nat.zero_le _, Nat.zero_le _⟩) (fun H locs h => ?_)
  refine lv_if_ne (tgt := 11) hx hb dX4_wrongSheet_4 (by decide) (fun hc => ?_) (fun hc => ?_)
  · have hf := fg_ifF hf hc
    refine lv_aload_n hx hb dX4_wrongSheet_11 rfl (lv_at hl 0 rfl) ?_
    refine fg_get (C := RX4) (T := TX4) (N := 22) S vu_X4 hK h fg_p4_0 rfl rfl 18 (by decide) vf_RX4_44 rfl rfl dX4_wrongSheet_12 ?_
    refine lv_iload_n hx hb dX4_wrongSheet_15 rfl (lv_at hl 1 rfl) ?_
    obtain ⟨hn4, hf⟩ := fg_gdE hf
    refine fg_iald hx hb hK h fg_p4_12 (fun _ => rfl) hn4 dX4_wrongSheet_16 ?_
    refine lv_if_ne (tgt := 24) hx hb dX4_wrongSheet_17 (by decide) (fun hc => ?_) (fun hc => ?_)
    · have hf := fg_ifF hf hc
      refine lv_iconst (v := (-1)) hx hb dX4_wrongSheet_24 rfl ?_
      exact fg_reti hx hb hr hlk hK h hf dX4_wrongSheet_25
    · have hf := fg_ifT hf hc
      refine lv_iconst (v := 5) hx hb dX4_wrongSheet_20 rfl ?_
      refine lv_goto (tgt := 25) hx hb dX4_wrongSheet_21 (by decide) ?_
      exact fg_reti hx hb hr hlk hK h hf dX4_wrongSheet_25
  · have hf := fg_ifT hf hc
    refine lv_iconst (v := 0) hx hb dX4_wrongSheet_7 rfl ?_
    refine lv_goto (tgt := 25) hx hb dX4_wrongSheet_8 (by decide) ?_
    exact fg_reti hx hb hr hlk hK h hf dX4_wrongSheet_25
set_option maxHeartbeats 4000000 in
set_option maxRecDepth 100000 in
theorem c_X4_wrongTold (l : Launch) (D : va_G) (g : fg_G) (a1 : Int32) (a2 : Int32) (w : fg_W) (r : Int32) (w' : fg_W) (hf : f_X4_wrongTold a1 a2 w = some (r, w')) : fg_M l yX4_wrongTold cX4_wrongTold 4 (some .int) 3 63 D g [.ref (g.1 4 0 0), .int a1, .int a2] w (fg_Qi D g r w') := by
  refine fg_M.of rfl (Nat.le_of_ble_eq_true rfl) (fun p e s m below meth c ls S hr hlk hK h hl => ?_)
  have hx := S.1
  have hb := S.2.1
  have hl : lv_has ls 4 [(0, .ref (g.1 4 0 0)), (1, .int a1), (2, .int a2)] := hl
  unfold f_X4_wrongTold at hf
  refine lv_aload_n hx hb dX4_wrongTold_0 rfl (lv_at hl 0 rfl) ?_
  refine lv_iload_n hx hb dX4_wrongTold_1 rfl (lv_at hl 1 rfl) ?_
  obtain ⟨r3, w1, hc2, hf⟩ := fg_biE hf
  refine fg_ci h (fg_runV (rest := []) S hK h (c_X4_wrongSheet l D g a1  w r3 w1 hc2) vg_RX4_192 vd_X4_wrongSheet ⟨by decide, by decide⟩ fg_p4_0 rfl rfl rfl hl.1 rfl (Nat.le_of_ble_eq_true rfl) dX4_wrongTold_2 ⟨Nat.zero_le _, Nat.zero_le _⟩) (fun H locs h => ?_)
  refine lv_istore_n (lv' := [(3, .int r3), (0, .ref (g.1 4 0 0)), (1, .int a1), (2, .int a2)]) hx hb dX4_wrongTold_5 rfl hl (by decide) rfl (fun ls hl => ?_)
  refine lv_iload_n hx hb dX4_wrongTold_6 rfl (lv_at hl 0 rfl) ?_
  refine lv_if_lt (tgt := 14) hx hb dX4_wrongTold_7 (by decide) (fun hc => ?_) (fun hc => ?_)
  · have hf := fg_ifT hf hc
    refine lv_aload_n hx hb dX4_wrongTold_14 rfl (lv_at hl 1 rfl) ?_
    refine lv_iload_n hx hb dX4_wrongTold_15 rfl (lv_at hl 3 rfl) ?_
    obtain ⟨r6, w4, hc5, hf⟩ := fg_biE hf
    refine fg_ci h (fg_runV (rest := []) S hK h (c_X4_isPerson l D g a2  w1 r6 w4 hc5) vg_RX4_138 vd_X4_isPerson ⟨by decide, by decide⟩ fg_p4_0 rfl rfl rfl hl.1 rfl (Nat.le_of_ble_eq_true rfl) dX4_wrongTold_16 ⟨Nat.zero_le _, Nat.zero_le _⟩) (fun H locs h => ?_)
    refine lv_if_eq (tgt := 26) hx hb dX4_wrongTold_19 (by decide) (fun hc => ?_) (fun hc => ?_)
    · have hf := fg_ifT hf hc
      refine lv_iconst (v := 0) hx hb dX4_wrongTold_26 rfl ?_
      exact fg_reti hx hb hr hlk hK h hf dX4_wrongTold_27
    · have hf := fg_ifF hf hc
      refine lv_iconst (v := (-1)) hx hb dX4_wrongTold_22 rfl ?_
      refine lv_goto (tgt := 27) hx hb dX4_wrongTold_23 (by decide) ?_
      exact fg_reti hx hb hr hlk hK h hf dX4_wrongTold_27
  · have hf := fg_ifF hf hc
    refine lv_iload_n hx hb dX4_wrongTold_10 rfl (lv_at hl 0 rfl) ?_
    refine lv_goto (tgt := 27) hx hb dX4_wrongTold_11 (by decide) ?_
    exact fg_reti hx hb hr hlk hK h hf dX4_wrongTold_27
set_option maxHeartbeats 4000000 in
set_option maxRecDepth 100000 in
theorem c_X4_told (l : Launch) (D : va_G) (g : fg_G) (a1 : Int32) (a2 : Int32) (w : fg_W) (r : Int32) (w' : fg_W) (hf : f_X4_told a1 a2 w = some (r, w')) : fg_M l yX4_told cX4_told 3 (some .int) 0 0 D g [.ref (g.1 4 0 0), .int a1, .int a2] w (fg_Qi D g r w') := by
  refine fg_M.of rfl (Nat.le_of_ble_eq_true rfl) (fun p e s m below meth c ls S hr hlk hK h hl => ?_)
  have hx := S.1
  have hb := S.2.1
  have hl : lv_has ls 3 [(0, .ref (g.1 4 0 0)), (1, .int a1), (2, .int a2)] := hl
  unfold f_X4_told at hf
  refine lv_aload_n hx hb dX4_told_0 rfl (lv_at hl 0 rfl) ?_
  refine fg_get (C := RX4) (T := TX4) (N := 22) S vu_X4 hK h fg_p4_0 rfl rfl 20 (by decide) vf_RX4_50 rfl rfl dX4_told_1 ?_
  refine lv_bipush (v := 40) hx hb dX4_told_4 rfl ?_
  refine lv_iload_n hx hb dX4_told_6 rfl (lv_at hl 1 rfl) ?_
  refine lv_imul hx hb dX4_told_7 ?_
  refine lv_iload_n hx hb dX4_told_8 rfl (lv_at hl 2 rfl) ?_
  refine lv_iadd hx hb dX4_told_9 ?_
  obtain ⟨hn1, hf⟩ := fg_gdE hf
  refine fg_iald hx hb hK h fg_p4_14 (fun _ => rfl) hn1 dX4_told_10 ?_
  exact fg_reti hx hb hr hlk hK h hf dX4_told_11
set_option maxHeartbeats 4000000 in
set_option maxRecDepth 100000 in
theorem c_X4_fitsAs (l : Launch) (D : va_G) (g : fg_G) (a1 : Int32) (a2 : Int32) (a3 : Int32) (a4 : Int32) (w : fg_W) (r : Int32) (w' : fg_W) (hf : f_X4_fitsAs a1 a2 a3 a4 w = some (r, w')) : fg_M l yX4_fitsAs cX4_fitsAs 7 (some .boolean) 7 158 D g [.ref (g.1 4 0 0), .int a1, .int a2, .int a3, .int a4] w (fg_Qi D g r w') := by
  refine fg_M.of rfl (Nat.le_of_ble_eq_true rfl) (fun p e s m below meth c ls S hr hlk hK h hl => ?_)
  have hx := S.1
  have hb := S.2.1
  have hl : lv_has ls 7 [(0, .ref (g.1 4 0 0)), (1, .int a1), (2, .int a2), (3, .int a3), (4, .int a4)] := hl
  unfold f_X4_fitsAs at hf
  refine lv_aload_n hx hb dX4_fitsAs_0 rfl (lv_at hl 0 rfl) ?_
  obtain ⟨w1, hc2, hf⟩ := fg_bvE hf
  refine fg_cv h (fg_runV (rest := []) S hK h (c_X4_setsAside l D g   w w1 hc2) vg_RX4_163 vd_X4_setsAside ⟨by decide, by decide⟩ fg_p4_0 rfl rfl rfl hl.1 rfl (Nat.le_of_ble_eq_true rfl) dX4_fitsAs_1 ⟨Nat.zero_le _, Nat.zero_le _⟩) (fun H locs h => ?_)
  refine lv_aload_n hx hb dX4_fitsAs_4 rfl (lv_at hl 0 rfl) ?_
  refine lv_iload_n hx hb dX4_fitsAs_5 rfl (lv_at hl 2 rfl) ?_
  refine lv_iload_n hx hb dX4_fitsAs_6 rfl (lv_at hl 3 rfl) ?_
  refine lv_iload hx hb dX4_fitsAs_7 (lv_at hl 4 rfl) ?_
  obtain ⟨w3, hc4, hf⟩ := fg_bvE hf
  refine fg_cv h (fg_runV (rest := []) S hK h (c_X4_puts l D g a2 a3 a4  w1 w3 hc4) vg_RX4_95 vd_X4_puts ⟨by decide, by decide⟩ fg_p4_0 rfl rfl rfl hl.1 rfl (Nat.le_of_ble_eq_true rfl) dX4_fitsAs_9 ⟨Nat.zero_le _, Nat.zero_le _⟩) (fun H locs h => ?_)
  refine lv_iconst (v := 1) hx hb dX4_fitsAs_12 rfl ?_
  refine lv_istore (lv' := [(5, .int 1), (0, .ref (g.1 4 0 0)), (1, .int a1), (2, .int a2), (3, .int a3), (4, .int a4)]) hx hb dX4_fitsAs_13 hl (by decide) rfl (fun ls hl => ?_)
  refine lv_iconst (v := 0) hx hb dX4_fitsAs_15 rfl ?_
  refine lv_istore (lv' := [(6, .int 0), (5, .int 1), (0, .ref (g.1 4 0 0)), (1, .int a1), (2, .int a2), (3, .int a3), (4, .int a4)]) hx hb dX4_fitsAs_16 hl (by decide) rfl (fun ls hl => ?_)
  have hK_18 : ∀ (v5_18 : Int32) (v6_18 : Int32) (w_18 : fg_W) (H : Heap) (locs : List Loc) (ls : Array Slot), fg_H D g s.heap w_18 H locs → lv_has ls 7 [(0, .ref (g.1 4 0 0)), (1, .int a1), (2, .int a2), (3, .int a3), (4, .int a4), (5, .int v5_18), (6, .int v6_18)] → (fg_bv (f_X4_laysBack  w_18) (fun w5 => fg_gp (v5_18 = 0 ∨ v5_18 = 1) (some (v5_18, w5)))) = some (r, w') → fg_Gi p l e 7 158 s m [.ref (g.1 4 0 0), .int a1, .int a2, .int a3, .int a4] below meth c D g r w' H locs 79 ls [] := by
    intro v5_18 v6_18 w_18 H locs ls h hl hf
    refine lv_aload_n hx hb dX4_fitsAs_79 rfl (lv_at hl 0 rfl) ?_
    obtain ⟨w5, hc6, hf⟩ := fg_bvE hf
    refine fg_cv h (fg_runV (rest := []) S hK h (c_X4_laysBack l D g   w_18 w5 hc6) vg_RX4_166 vd_X4_laysBack ⟨by decide, by decide⟩ fg_p4_0 rfl rfl rfl hl.1 rfl (Nat.le_of_ble_eq_true rfl) dX4_fitsAs_80 ⟨Nat.zero_le _, Nat.zero_le _⟩) (fun H locs h => ?_)
    refine lv_iload hx hb dX4_fitsAs_83 (lv_at hl 5 rfl) ?_
    obtain ⟨hz, hf⟩ := fg_gpE hf
    exact fg_retz hx hb hr hlk hK h hf hz dX4_fitsAs_85
  have hL_18 : ∀ (KK_18 : Int32 → Int32 → fg_W → Option (Int32 × fg_W)) (hK_18 : ∀ (v5_18 : Int32) (v6_18 : Int32) (w_18 : fg_W) (H : Heap) (locs : List Loc) (ls : Array Slot), fg_H D g s.heap w_18 H locs → lv_has ls 7 [(0, .ref (g.1 4 0 0)), (1, .int a1), (2, .int a2), (3, .int a3), (4, .int a4), (5, .int v5_18), (6, .int v6_18)] → KK_18 v5_18 v6_18 w_18 = some (r, w') → fg_Gi p l e 7 158 s m [.ref (g.1 4 0 0), .int a1, .int a2, .int a3, .int a4] below meth c D g r w' H locs 79 ls []) (n : Nat) (v5_18 : Int32) (v6_18 : Int32) (w_18 : fg_W) (H : Heap) (locs : List Loc) (ls : Array Slot), fg_H D g s.heap w_18 H locs → lv_has ls 7 [(0, .ref (g.1 4 0 0)), (1, .int a1), (2, .int a2), (3, .int a3), (4, .int a4), (5, .int v5_18), (6, .int v6_18)] → f_X4_fitsAs_L18 a1 a2 KK_18 n v5_18 v6_18 w_18 = some (r, w') → fg_Gi p l e 7 158 s m [.ref (g.1 4 0 0), .int a1, .int a2, .int a3, .int a4] below meth c D g r w' H locs 18 ls [] := by
    intro KK_18 hK_18 n
    induction n with
    | zero => intro v5_18 v6_18 w_18 H locs ls h hl hf; exact fg_no hf
    | succ n_18 ih_18 =>
      intro v5_18 v6_18 w_18 H locs ls h hl hf
      unfold f_X4_fitsAs_L18 at hf
      refine lv_iload hx hb dX4_fitsAs_18 (lv_at hl 6 rfl) ?_
      refine lv_aload_n hx hb dX4_fitsAs_20 rfl (lv_at hl 0 rfl) ?_
      refine fg_get (C := RX4) (T := TX4) (N := 22) S vu_X4 hK h fg_p4_0 rfl rfl 19 (by decide) vf_RX4_47 rfl rfl dX4_fitsAs_21 ?_
      refine lv_iload_n hx hb dX4_fitsAs_24 rfl (lv_at hl 1 rfl) ?_
      obtain ⟨hn23, hf⟩ := fg_gdE hf
      refine fg_iald hx hb hK h fg_p4_13 (fun _ => rfl) hn23 dX4_fitsAs_25 ?_
      refine lv_icmp_ge (tgt := 79) hx hb dX4_fitsAs_26 (by decide) (fun hc => ?_) (fun hc => ?_)
      · have hf := fg_ifT hf hc
        exact hK_18 v5_18 v6_18 w_18 _ _ ls h (lv_sub hl [0, 1, 2, 3, 4, 5, 6] rfl) hf
      · have hf := fg_ifF hf hc
        refine lv_iload hx hb dX4_fitsAs_29 (lv_at hl 5 rfl) ?_
        refine lv_if_eq (tgt := 79) hx hb dX4_fitsAs_31 (by decide) (fun hc => ?_) (fun hc => ?_)
        · have hf := fg_ifT hf hc
          exact hK_18 v5_18 v6_18 w_18 _ _ ls h (lv_sub hl [0, 1, 2, 3, 4, 5, 6] rfl) hf
        · have hf := fg_ifF hf hc
          refine lv_aload_n hx hb dX4_fitsAs_34 rfl (lv_at hl 0 rfl) ?_
          refine lv_iload_n hx hb dX4_fitsAs_35 rfl (lv_at hl 1 rfl) ?_
          refine lv_iload hx hb dX4_fitsAs_36 (lv_at hl 6 rfl) ?_
          obtain ⟨r26, w24, hc25, hf⟩ := fg_biE hf
          refine fg_ci h (fg_runV (rest := []) S hK h (c_X4_told l D g a1 v6_18  w_18 r26 w24 hc25) vg_RX4_195 vd_X4_told ⟨by decide, by decide⟩ fg_p4_0 rfl rfl rfl hl.1 rfl (Nat.le_of_ble_eq_true rfl) dX4_fitsAs_38 ⟨Nat.zero_le _, Nat.zero_le _⟩) (fun H locs h => ?_)
          refine lv_bipush (v := (-2)) hx hb dX4_fitsAs_41 rfl ?_
          refine lv_icmp_eq (tgt := 62) hx hb dX4_fitsAs_43 (by decide) (fun hc => ?_) (fun hc => ?_)
          · have hf := fg_ifT hf hc
            refine lv_iconst (v := 1) hx hb dX4_fitsAs_62 rfl ?_
            refine lv_goto (tgt := 67) hx hb dX4_fitsAs_63 (by decide) ?_
            refine lv_istore (lv' := [(5, .int 1), (0, .ref (g.1 4 0 0)), (1, .int a1), (2, .int a2), (3, .int a3), (4, .int a4), (6, .int v6_18)]) hx hb dX4_fitsAs_67 hl (by decide) rfl (fun ls hl => ?_)
            refine lv_aload_n hx hb dX4_fitsAs_69 rfl (lv_at hl 1 rfl) ?_
            obtain ⟨w27, hc28, hf⟩ := fg_bvE hf
            refine fg_cv h (fg_runV (rest := []) S hK h (c_X4_day l D g   w24 w27 hc28) vg_RX4_123 vd_X4_day ⟨by decide, by decide⟩ fg_p4_0 rfl rfl rfl hl.1 rfl (Nat.le_of_ble_eq_true rfl) dX4_fitsAs_70 ⟨Nat.zero_le _, Nat.zero_le _⟩) (fun H locs h => ?_)
            refine lv_iinc (v := (v6_18 + 1)) (lv' := [(6, .int (v6_18 + 1)), (5, .int 1), (0, .ref (g.1 4 0 0)), (1, .int a1), (2, .int a2), (3, .int a3), (4, .int a4)]) hx hb dX4_fitsAs_73 hl (k := 6) rfl rfl (by decide) rfl (fun ls hl => ?_)
            refine lv_goto (tgt := 18) hx hb dX4_fitsAs_76 (by decide) ?_
            exact ih_18 1 (v6_18 + 1) w27 _ _ ls h (lv_sub hl [2, 3, 4, 5, 6, 1, 0] rfl) hf
          · have hf := fg_ifF hf hc
            refine lv_aload_n hx hb dX4_fitsAs_46 rfl (lv_at hl 0 rfl) ?_
            refine lv_iload_n hx hb dX4_fitsAs_47 rfl (lv_at hl 1 rfl) ?_
            refine lv_iload hx hb dX4_fitsAs_48 (lv_at hl 6 rfl) ?_
            obtain ⟨r31, w29, hc30, hf⟩ := fg_biE hf
            refine fg_ci h (fg_runV (rest := []) S hK h (c_X4_told l D g a1 v6_18  w24 r31 w29 hc30) vg_RX4_195 vd_X4_told ⟨by decide, by decide⟩ fg_p4_0 rfl rfl rfl hl.1 rfl (Nat.le_of_ble_eq_true rfl) dX4_fitsAs_50 ⟨Nat.zero_le _, Nat.zero_le _⟩) (fun H locs h => ?_)
            refine lv_aload_n hx hb dX4_fitsAs_53 rfl (lv_at hl 0 rfl) ?_
            refine lv_iload_n hx hb dX4_fitsAs_54 rfl (lv_at hl 2 rfl) ?_
            refine lv_iconst (v := 1) hx hb dX4_fitsAs_55 rfl ?_
            obtain ⟨r34, w32, hc33, hf⟩ := fg_biE hf
            refine fg_ci h (fg_runV (rest := [.int r31]) S hK h (c_X4_get l D g a2 1  w29 r34 w32 hc33) vg_RX4_65 vd_X4_get ⟨by decide, by decide⟩ fg_p4_0 rfl rfl rfl hl.1 rfl (Nat.le_of_ble_eq_true rfl) dX4_fitsAs_56 ⟨Nat.zero_le _, Nat.zero_le _⟩) (fun H locs h => ?_)
            refine lv_icmp_ne (tgt := 66) hx hb dX4_fitsAs_59 (by decide) (fun hc => ?_) (fun hc => ?_)
            · have hf := fg_ifF hf hc
              refine lv_iconst (v := 0) hx hb dX4_fitsAs_66 rfl ?_
              refine lv_istore (lv' := [(5, .int 0), (0, .ref (g.1 4 0 0)), (1, .int a1), (2, .int a2), (3, .int a3), (4, .int a4), (6, .int v6_18)]) hx hb dX4_fitsAs_67 hl (by decide) rfl (fun ls hl => ?_)
              refine lv_aload_n hx hb dX4_fitsAs_69 rfl (lv_at hl 1 rfl) ?_
              obtain ⟨w35, hc36, hf⟩ := fg_bvE hf
              refine fg_cv h (fg_runV (rest := []) S hK h (c_X4_day l D g   w32 w35 hc36) vg_RX4_123 vd_X4_day ⟨by decide, by decide⟩ fg_p4_0 rfl rfl rfl hl.1 rfl (Nat.le_of_ble_eq_true rfl) dX4_fitsAs_70 ⟨Nat.zero_le _, Nat.zero_le _⟩) (fun H locs h => ?_)
              refine lv_iinc (v := (v6_18 + 1)) (lv' := [(6, .int (v6_18 + 1)), (5, .int 0), (0, .ref (g.1 4 0 0)), (1, .int a1), (2, .int a2), (3, .int a3), (4, .int a4)]) hx hb dX4_fitsAs_73 hl (k := 6) rfl rfl (by decide) rfl (fun ls hl => ?_)
              refine lv_goto (tgt := 18) hx hb dX4_fitsAs_76 (by decide) ?_
              exact ih_18 0 (v6_18 + 1) w35 _ _ ls h (lv_sub hl [2, 3, 4, 5, 6, 1, 0] rfl) hf
            · have hf := fg_ifT hf hc
              refine lv_iconst (v := 1) hx hb dX4_fitsAs_62 rfl ?_
              refine lv_goto (tgt := 67) hx hb dX4_fitsAs_63 (by decide) ?_
              refine lv_istore (lv' := [(5, .int 1), (0, .ref (g.1 4 0 0)), (1, .int a1), (2, .int a2), (3, .int a3), (4, .int a4), (6, .int v6_18)]) hx hb dX4_fitsAs_67 hl (by decide) rfl (fun ls hl => ?_)
              refine lv_aload_n hx hb dX4_fitsAs_69 rfl (lv_at hl 1 rfl) ?_
              obtain ⟨w37, hc38, hf⟩ := fg_bvE hf
              refine fg_cv h (fg_runV (rest := []) S hK h (c_X4_day l D g   w32 w37 hc38) vg_RX4_123 vd_X4_day ⟨by decide, by decide⟩ fg_p4_0 rfl rfl rfl hl.1 rfl (Nat.le_of_ble_eq_true rfl) dX4_fitsAs_70 ⟨Nat.zero_le _, Nat.zero_le _⟩) (fun H locs h => ?_)
              refine lv_iinc (v := (v6_18 + 1)) (lv' := [(6, .int (v6_18 + 1)), (5, .int 1), (0, .ref (g.1 4 0 0)), (1, .int a1), (2, .int a2), (3, .int a3), (4, .int a4)]) hx hb dX4_fitsAs_73 hl (k := 6) rfl rfl (by decide) rfl (fun ls hl => ?_)
              refine lv_goto (tgt := 18) hx hb dX4_fitsAs_76 (by decide) ?_
              exact ih_18 1 (v6_18 + 1) w37 _ _ ls h (lv_sub hl [2, 3, 4, 5, 6, 1, 0] rfl) hf
  exact hL_18 _ hK_18 fg_fuel 1 0 w3 _ _ ls h (lv_sub hl [2, 3, 4, 5, 6, 1, 0] rfl) hf
set_option maxHeartbeats 4000000 in
set_option maxRecDepth 100000 in
theorem c_X4_fits (l : Launch) (D : va_G) (g : fg_G) (a1 : Int32) (a2 : Int32) (w : fg_W) (r : Int32) (w' : fg_W) (hf : f_X4_fits a1 a2 w = some (r, w')) : fg_M l yX4_fits cX4_fits 6 (some .int) 8 184 D g [.ref (g.1 4 0 0), .int a1, .int a2] w (fg_Qi D g r w') := by
  refine fg_M.of rfl (Nat.le_of_ble_eq_true rfl) (fun p e s m below meth c ls S hr hlk hK h hl => ?_)
  have hx := S.1
  have hb := S.2.1
  have hl : lv_has ls 6 [(0, .ref (g.1 4 0 0)), (1, .int a1), (2, .int a2)] := hl
  unfold f_X4_fits at hf
  refine lv_aload_n hx hb dX4_fits_0 rfl (lv_at hl 0 rfl) ?_
  refine lv_iload_n hx hb dX4_fits_1 rfl (lv_at hl 1 rfl) ?_
  refine lv_iload_n hx hb dX4_fits_2 rfl (lv_at hl 2 rfl) ?_
  obtain ⟨r3, w1, hc2, hf⟩ := fg_biE hf
  refine fg_ci h (fg_runV (rest := []) S hK h (c_X4_wrongTold l D g a1 a2  w r3 w1 hc2) vg_RX4_198 vd_X4_wrongTold ⟨by decide, by decide⟩ fg_p4_0 rfl rfl rfl hl.1 rfl (Nat.le_of_ble_eq_true rfl) dX4_fits_3 ⟨Nat.zero_le _, Nat.zero_le _⟩) (fun H locs h => ?_)
  refine lv_istore_n (lv' := [(3, .int r3), (0, .ref (g.1 4 0 0)), (1, .int a1), (2, .int a2)]) hx hb dX4_fits_6 rfl hl (by decide) rfl (fun ls hl => ?_)
  refine lv_iload_n hx hb dX4_fits_7 rfl (lv_at hl 0 rfl) ?_
  refine lv_if_lt (tgt := 17) hx hb dX4_fits_8 (by decide) (fun hc => ?_) (fun hc => ?_)
  · have hf := fg_ifT hf hc
    refine lv_iconst (v := 0) hx hb dX4_fits_17 rfl ?_
    refine lv_istore (lv' := [(4, .int 0), (3, .int r3), (0, .ref (g.1 4 0 0)), (1, .int a1), (2, .int a2)]) hx hb dX4_fits_18 hl (by decide) rfl (fun ls hl => ?_)
    refine lv_iconst (v := 0) hx hb dX4_fits_20 rfl ?_
    refine lv_istore (lv' := [(5, .int 0), (4, .int 0), (3, .int r3), (0, .ref (g.1 4 0 0)), (1, .int a1), (2, .int a2)]) hx hb dX4_fits_21 hl (by decide) rfl (fun ls hl => ?_)
    have hK_23 : ∀ (v4_23 : Int32) (v5_23 : Int32) (w_23 : fg_W) (H : Heap) (locs : List Loc) (ls : Array Slot), fg_H D g s.heap w_23 H locs → lv_has ls 6 [(0, .ref (g.1 4 0 0)), (1, .int a1), (2, .int a2), (3, .int r3), (4, .int v4_23), (5, .int v5_23)] → (some (v4_23, w_23)) = some (r, w') → fg_Gi p l e 8 184 s m [.ref (g.1 4 0 0), .int a1, .int a2] below meth c D g r w' H locs 58 ls [] := by
      intro v4_23 v5_23 w_23 H locs ls h hl hf
      refine lv_iload hx hb dX4_fits_58 (lv_at hl 4 rfl) ?_
      exact fg_reti hx hb hr hlk hK h hf dX4_fits_60
    have hL_23 : ∀ (KK_23 : Int32 → Int32 → fg_W → Option (Int32 × fg_W)) (hK_23 : ∀ (v4_23 : Int32) (v5_23 : Int32) (w_23 : fg_W) (H : Heap) (locs : List Loc) (ls : Array Slot), fg_H D g s.heap w_23 H locs → lv_has ls 6 [(0, .ref (g.1 4 0 0)), (1, .int a1), (2, .int a2), (3, .int r3), (4, .int v4_23), (5, .int v5_23)] → KK_23 v4_23 v5_23 w_23 = some (r, w') → fg_Gi p l e 8 184 s m [.ref (g.1 4 0 0), .int a1, .int a2] below meth c D g r w' H locs 58 ls []) (n : Nat) (v4_23 : Int32) (v5_23 : Int32) (w_23 : fg_W) (H : Heap) (locs : List Loc) (ls : Array Slot), fg_H D g s.heap w_23 H locs → lv_has ls 6 [(0, .ref (g.1 4 0 0)), (1, .int a1), (2, .int a2), (3, .int r3), (4, .int v4_23), (5, .int v5_23)] → f_X4_fits_L23 a1 a2 KK_23 n v4_23 v5_23 w_23 = some (r, w') → fg_Gi p l e 8 184 s m [.ref (g.1 4 0 0), .int a1, .int a2] below meth c D g r w' H locs 23 ls [] := by
      intro KK_23 hK_23 n
      induction n with
      | zero => intro v4_23 v5_23 w_23 H locs ls h hl hf; exact fg_no hf
      | succ n_23 ih_23 =>
        intro v4_23 v5_23 w_23 H locs ls h hl hf
        unfold f_X4_fits_L23 at hf
        refine lv_iload hx hb dX4_fits_23 (lv_at hl 5 rfl) ?_
        refine lv_bipush (v := 100) hx hb dX4_fits_25 rfl ?_
        refine lv_icmp_ge (tgt := 58) hx hb dX4_fits_27 (by decide) (fun hc => ?_) (fun hc => ?_)
        · have hf := fg_ifT hf hc
          exact hK_23 v4_23 v5_23 w_23 _ _ ls h (lv_sub hl [0, 1, 2, 3, 4, 5] rfl) hf
        · have hf := fg_ifF hf hc
          refine lv_iload hx hb dX4_fits_30 (lv_at hl 4 rfl) ?_
          refine lv_aload_n hx hb dX4_fits_32 rfl (lv_at hl 0 rfl) ?_
          refine lv_iload_n hx hb dX4_fits_33 rfl (lv_at hl 1 rfl) ?_
          refine lv_iload_n hx hb dX4_fits_34 rfl (lv_at hl 2 rfl) ?_
          refine lv_iconst (v := 2) hx hb dX4_fits_35 rfl ?_
          refine lv_iload hx hb dX4_fits_36 (lv_at hl 5 rfl) ?_
          obtain ⟨r11, w9, hc10, hf⟩ := fg_biE hf
          refine fg_ci h (fg_runV (rest := [.int v4_23]) S hK h (c_X4_fitsAs l D g a1 a2 2 v5_23  w_23 r11 w9 hc10) vg_RX4_201 vd_X4_fitsAs ⟨by decide, by decide⟩ fg_p4_0 rfl rfl rfl hl.1 rfl (Nat.le_of_ble_eq_true rfl) dX4_fits_38 ⟨Nat.zero_le _, Nat.zero_le _⟩) (fun H locs h => ?_)
          refine lv_if_eq (tgt := 48) hx hb dX4_fits_41 (by decide) (fun hc => ?_) (fun hc => ?_)
          · have hf := fg_ifT hf hc
            refine lv_iconst (v := 0) hx hb dX4_fits_48 rfl ?_
            refine lv_iadd hx hb dX4_fits_49 ?_
            refine lv_topi (fun x12 e_x12 => ?_)
            have hf := fg_letE e_x12 hf
            refine lv_istore (lv' := [(4, .int x12), (0, .ref (g.1 4 0 0)), (1, .int a1), (2, .int a2), (3, .int r3), (5, .int v5_23)]) hx hb dX4_fits_50 hl (by decide) rfl (fun ls hl => ?_)
            refine lv_iinc (v := (v5_23 + 1)) (lv' := [(5, .int (v5_23 + 1)), (4, .int x12), (0, .ref (g.1 4 0 0)), (1, .int a1), (2, .int a2), (3, .int r3)]) hx hb dX4_fits_52 hl (k := 5) rfl rfl (by decide) rfl (fun ls hl => ?_)
            refine lv_goto (tgt := 23) hx hb dX4_fits_55 (by decide) ?_
            exact ih_23 x12 (v5_23 + 1) w9 _ _ ls h (lv_sub hl [2, 3, 4, 5, 1, 0] rfl) hf
          · have hf := fg_ifF hf hc
            refine lv_iconst (v := 1) hx hb dX4_fits_44 rfl ?_
            refine lv_goto (tgt := 49) hx hb dX4_fits_45 (by decide) ?_
            refine lv_iadd hx hb dX4_fits_49 ?_
            refine lv_topi (fun x13 e_x13 => ?_)
            have hf := fg_letE e_x13 hf
            refine lv_istore (lv' := [(4, .int x13), (0, .ref (g.1 4 0 0)), (1, .int a1), (2, .int a2), (3, .int r3), (5, .int v5_23)]) hx hb dX4_fits_50 hl (by decide) rfl (fun ls hl => ?_)
            refine lv_iinc (v := (v5_23 + 1)) (lv' := [(5, .int (v5_23 + 1)), (4, .int x13), (0, .ref (g.1 4 0 0)), (1, .int a1), (2, .int a2), (3, .int r3)]) hx hb dX4_fits_52 hl (k := 5) rfl rfl (by decide) rfl (fun ls hl => ?_)
            refine lv_goto (tgt := 23) hx hb dX4_fits_55 (by decide) ?_
            exact ih_23 x13 (v5_23 + 1) w9 _ _ ls h (lv_sub hl [2, 3, 4, 5, 1, 0] rfl) hf
    exact hL_23 _ hK_23 fg_fuel 0 0 w1 _ _ ls h (lv_sub hl [3, 4, 5, 2, 1, 0] rfl) hf
  · have hf := fg_ifF hf hc
    refine lv_aload_n hx hb dX4_fits_11 rfl (lv_at hl 1 rfl) ?_
    refine lv_iload_n hx hb dX4_fits_12 rfl (lv_at hl 0 rfl) ?_
    obtain ⟨r16, w14, hc15, hf⟩ := fg_biE hf
    refine fg_ci h (fg_runV (rest := []) S hK h (c_X4_no l D g r3  w1 r16 w14 hc15) vg_RX4_129 vd_X4_no ⟨by decide, by decide⟩ fg_p4_0 rfl rfl rfl hl.1 rfl (Nat.le_of_ble_eq_true rfl) dX4_fits_13 ⟨Nat.zero_le _, Nat.zero_le _⟩) (fun H locs h => ?_)
    exact fg_reti hx hb hr hlk hK h hf dX4_fits_16
set_option maxHeartbeats 4000000 in
set_option maxRecDepth 100000 in
theorem c_X4_believed (l : Launch) (D : va_G) (g : fg_G) (a1 : Int32) (a2 : Int32) (w : fg_W) (r : Int32) (w' : fg_W) (hf : f_X4_believed a1 a2 w = some (r, w')) : fg_M l yX4_believed cX4_believed 5 (some .int) 8 184 D g [.ref (g.1 4 0 0), .int a1, .int a2] w (fg_Qi D g r w') := by
  refine fg_M.of rfl (Nat.le_of_ble_eq_true rfl) (fun p e s m below meth c ls S hr hlk hK h hl => ?_)
  have hx := S.1
  have hb := S.2.1
  have hl : lv_has ls 5 [(0, .ref (g.1 4 0 0)), (1, .int a1), (2, .int a2)] := hl
  unfold f_X4_believed at hf
  refine lv_aload_n hx hb dX4_believed_0 rfl (lv_at hl 0 rfl) ?_
  refine lv_iload_n hx hb dX4_believed_1 rfl (lv_at hl 1 rfl) ?_
  refine lv_iload_n hx hb dX4_believed_2 rfl (lv_at hl 2 rfl) ?_
  obtain ⟨r3, w1, hc2, hf⟩ := fg_biE hf
  refine fg_ci h (fg_runV (rest := []) S hK h (c_X4_wrongTold l D g a1 a2  w r3 w1 hc2) vg_RX4_198 vd_X4_wrongTold ⟨by decide, by decide⟩ fg_p4_0 rfl rfl rfl hl.1 rfl (Nat.le_of_ble_eq_true rfl) dX4_believed_3 ⟨Nat.zero_le _, Nat.zero_le _⟩) (fun H locs h => ?_)
  refine lv_istore_n (lv' := [(3, .int r3), (0, .ref (g.1 4 0 0)), (1, .int a1), (2, .int a2)]) hx hb dX4_believed_6 rfl hl (by decide) rfl (fun ls hl => ?_)
  refine lv_iload_n hx hb dX4_believed_7 rfl (lv_at hl 0 rfl) ?_
  refine lv_if_lt (tgt := 17) hx hb dX4_believed_8 (by decide) (fun hc => ?_) (fun hc => ?_)
  · have hf := fg_ifT hf hc
    refine lv_iconst (v := 0) hx hb dX4_believed_17 rfl ?_
    refine lv_istore (lv' := [(4, .int 0), (3, .int r3), (0, .ref (g.1 4 0 0)), (1, .int a1), (2, .int a2)]) hx hb dX4_believed_18 hl (by decide) rfl (fun ls hl => ?_)
    have hK_20 : ∀ (v4_20 : Int32) (w_20 : fg_W) (H : Heap) (locs : List Loc) (ls : Array Slot), fg_H D g s.heap w_20 H locs → lv_has ls 5 [(0, .ref (g.1 4 0 0)), (1, .int a1), (2, .int a2), (3, .int r3), (4, .int v4_20)] → (if v4_20 = 100 then (fg_bi (f_X4_no 3 w_20) (fun r6 w4 => some (r6, w4))) else (some (v4_20, w_20))) = some (r, w') → fg_Gi p l e 8 184 s m [.ref (g.1 4 0 0), .int a1, .int a2] below meth c D g r w' H locs 45 ls [] := by
      intro v4_20 w_20 H locs ls h hl hf
      refine lv_iload hx hb dX4_believed_45 (lv_at hl 4 rfl) ?_
      refine lv_bipush (v := 100) hx hb dX4_believed_47 rfl ?_
      refine lv_icmp_ne (tgt := 60) hx hb dX4_believed_49 (by decide) (fun hc => ?_) (fun hc => ?_)
      · have hf := fg_ifF hf hc
        refine lv_iload hx hb dX4_believed_60 (lv_at hl 4 rfl) ?_
        exact fg_reti hx hb hr hlk hK h hf dX4_believed_62
      · have hf := fg_ifT hf hc
        refine lv_aload_n hx hb dX4_believed_52 rfl (lv_at hl 0 rfl) ?_
        refine lv_iconst (v := 3) hx hb dX4_believed_53 rfl ?_
        obtain ⟨r6, w4, hc5, hf⟩ := fg_biE hf
        refine fg_ci h (fg_runV (rest := []) S hK h (c_X4_no l D g 3  w_20 r6 w4 hc5) vg_RX4_129 vd_X4_no ⟨by decide, by decide⟩ fg_p4_0 rfl rfl rfl hl.1 rfl (Nat.le_of_ble_eq_true rfl) dX4_believed_54 ⟨Nat.zero_le _, Nat.zero_le _⟩) (fun H locs h => ?_)
        refine lv_goto (tgt := 62) hx hb dX4_believed_57 (by decide) ?_
        exact fg_reti hx hb hr hlk hK h hf dX4_believed_62
    have hL_20 : ∀ (KK_20 : Int32 → fg_W → Option (Int32 × fg_W)) (hK_20 : ∀ (v4_20 : Int32) (w_20 : fg_W) (H : Heap) (locs : List Loc) (ls : Array Slot), fg_H D g s.heap w_20 H locs → lv_has ls 5 [(0, .ref (g.1 4 0 0)), (1, .int a1), (2, .int a2), (3, .int r3), (4, .int v4_20)] → KK_20 v4_20 w_20 = some (r, w') → fg_Gi p l e 8 184 s m [.ref (g.1 4 0 0), .int a1, .int a2] below meth c D g r w' H locs 45 ls []) (n : Nat) (v4_20 : Int32) (w_20 : fg_W) (H : Heap) (locs : List Loc) (ls : Array Slot), fg_H D g s.heap w_20 H locs → lv_has ls 5 [(0, .ref (g.1 4 0 0)), (1, .int a1), (2, .int a2), (3, .int r3), (4, .int v4_20)] → f_X4_believed_L20 a1 a2 KK_20 n v4_20 w_20 = some (r, w') → fg_Gi p l e 8 184 s m [.ref (g.1 4 0 0), .int a1, .int a2] below meth c D g r w' H locs 20 ls [] := by
      intro KK_20 hK_20 n
      induction n with
      | zero => intro v4_20 w_20 H locs ls h hl hf; exact fg_no hf
      | succ n_20 ih_20 =>
        intro v4_20 w_20 H locs ls h hl hf
        unfold f_X4_believed_L20 at hf
        refine lv_iload hx hb dX4_believed_20 (lv_at hl 4 rfl) ?_
        refine lv_bipush (v := 100) hx hb dX4_believed_22 rfl ?_
        refine lv_icmp_ge (tgt := 45) hx hb dX4_believed_24 (by decide) (fun hc => ?_) (fun hc => ?_)
        · have hf := fg_ifT hf hc
          exact hK_20 v4_20 w_20 _ _ ls h (lv_sub hl [0, 1, 2, 3, 4] rfl) hf
        · have hf := fg_ifF hf hc
          refine lv_aload_n hx hb dX4_believed_27 rfl (lv_at hl 0 rfl) ?_
          refine lv_iload_n hx hb dX4_believed_28 rfl (lv_at hl 1 rfl) ?_
          refine lv_iload_n hx hb dX4_believed_29 rfl (lv_at hl 2 rfl) ?_
          refine lv_iconst (v := 2) hx hb dX4_believed_30 rfl ?_
          refine lv_iload hx hb dX4_believed_31 (lv_at hl 4 rfl) ?_
          obtain ⟨r12, w10, hc11, hf⟩ := fg_biE hf
          refine fg_ci h (fg_runV (rest := []) S hK h (c_X4_fitsAs l D g a1 a2 2 v4_20  w_20 r12 w10 hc11) vg_RX4_201 vd_X4_fitsAs ⟨by decide, by decide⟩ fg_p4_0 rfl rfl rfl hl.1 rfl (Nat.le_of_ble_eq_true rfl) dX4_believed_33 ⟨Nat.zero_le _, Nat.zero_le _⟩) (fun H locs h => ?_)
          refine lv_if_ne (tgt := 45) hx hb dX4_believed_36 (by decide) (fun hc => ?_) (fun hc => ?_)
          · have hf := fg_ifF hf hc
            exact hK_20 v4_20 w10 _ _ ls h (lv_sub hl [0, 1, 2, 3, 4] rfl) hf
          · have hf := fg_ifT hf hc
            refine lv_iinc (v := (v4_20 + 1)) (lv' := [(4, .int (v4_20 + 1)), (0, .ref (g.1 4 0 0)), (1, .int a1), (2, .int a2), (3, .int r3)]) hx hb dX4_believed_39 hl (k := 4) rfl rfl (by decide) rfl (fun ls hl => ?_)
            refine lv_goto (tgt := 20) hx hb dX4_believed_42 (by decide) ?_
            exact ih_20 (v4_20 + 1) w10 _ _ ls h (lv_sub hl [1, 2, 3, 4, 0] rfl) hf
    exact hL_20 _ hK_20 fg_fuel 0 w1 _ _ ls h (lv_sub hl [2, 3, 4, 1, 0] rfl) hf
  · have hf := fg_ifF hf hc
    refine lv_aload_n hx hb dX4_believed_11 rfl (lv_at hl 1 rfl) ?_
    refine lv_iload_n hx hb dX4_believed_12 rfl (lv_at hl 0 rfl) ?_
    obtain ⟨r15, w13, hc14, hf⟩ := fg_biE hf
    refine fg_ci h (fg_runV (rest := []) S hK h (c_X4_no l D g r3  w1 r15 w13 hc14) vg_RX4_129 vd_X4_no ⟨by decide, by decide⟩ fg_p4_0 rfl rfl rfl hl.1 rfl (Nat.le_of_ble_eq_true rfl) dX4_believed_13 ⟨Nat.zero_le _, Nat.zero_le _⟩) (fun H locs h => ?_)
    exact fg_reti hx hb hr hlk hK h hf dX4_believed_16
set_option maxHeartbeats 4000000 in
set_option maxRecDepth 100000 in
theorem c_X4_kinds (l : Launch) (D : va_G) (g : fg_G) (a1 : Int32) (a2 : Int32) (w : fg_W) (r : Int32) (w' : fg_W) (hf : f_X4_kinds a1 a2 w = some (r, w')) : fg_M l yX4_kinds cX4_kinds 6 (some .int) 8 184 D g [.ref (g.1 4 0 0), .int a1, .int a2] w (fg_Qi D g r w') := by
  refine fg_M.of rfl (Nat.le_of_ble_eq_true rfl) (fun p e s m below meth c ls S hr hlk hK h hl => ?_)
  have hx := S.1
  have hb := S.2.1
  have hl : lv_has ls 6 [(0, .ref (g.1 4 0 0)), (1, .int a1), (2, .int a2)] := hl
  unfold f_X4_kinds at hf
  refine lv_aload_n hx hb dX4_kinds_0 rfl (lv_at hl 0 rfl) ?_
  refine lv_iload_n hx hb dX4_kinds_1 rfl (lv_at hl 1 rfl) ?_
  refine lv_iload_n hx hb dX4_kinds_2 rfl (lv_at hl 2 rfl) ?_
  obtain ⟨r3, w1, hc2, hf⟩ := fg_biE hf
  refine fg_ci h (fg_runV (rest := []) S hK h (c_X4_wrongTold l D g a1 a2  w r3 w1 hc2) vg_RX4_198 vd_X4_wrongTold ⟨by decide, by decide⟩ fg_p4_0 rfl rfl rfl hl.1 rfl (Nat.le_of_ble_eq_true rfl) dX4_kinds_3 ⟨Nat.zero_le _, Nat.zero_le _⟩) (fun H locs h => ?_)
  refine lv_istore_n (lv' := [(3, .int r3), (0, .ref (g.1 4 0 0)), (1, .int a1), (2, .int a2)]) hx hb dX4_kinds_6 rfl hl (by decide) rfl (fun ls hl => ?_)
  refine lv_iload_n hx hb dX4_kinds_7 rfl (lv_at hl 0 rfl) ?_
  refine lv_if_lt (tgt := 17) hx hb dX4_kinds_8 (by decide) (fun hc => ?_) (fun hc => ?_)
  · have hf := fg_ifT hf hc
    refine lv_iconst (v := 0) hx hb dX4_kinds_17 rfl ?_
    refine lv_istore (lv' := [(4, .int 0), (3, .int r3), (0, .ref (g.1 4 0 0)), (1, .int a1), (2, .int a2)]) hx hb dX4_kinds_18 hl (by decide) rfl (fun ls hl => ?_)
    refine lv_iconst (v := 0) hx hb dX4_kinds_20 rfl ?_
    refine lv_istore (lv' := [(5, .int 0), (4, .int 0), (3, .int r3), (0, .ref (g.1 4 0 0)), (1, .int a1), (2, .int a2)]) hx hb dX4_kinds_21 hl (by decide) rfl (fun ls hl => ?_)
    have hK_23 : ∀ (v4_23 : Int32) (v5_23 : Int32) (w_23 : fg_W) (H : Heap) (locs : List Loc) (ls : Array Slot), fg_H D g s.heap w_23 H locs → lv_has ls 6 [(0, .ref (g.1 4 0 0)), (1, .int a1), (2, .int a2), (3, .int r3), (4, .int v4_23), (5, .int v5_23)] → (some (v4_23, w_23)) = some (r, w') → fg_Gi p l e 8 184 s m [.ref (g.1 4 0 0), .int a1, .int a2] below meth c D g r w' H locs 61 ls [] := by
      intro v4_23 v5_23 w_23 H locs ls h hl hf
      refine lv_iload hx hb dX4_kinds_61 (lv_at hl 4 rfl) ?_
      exact fg_reti hx hb hr hlk hK h hf dX4_kinds_63
    have hL_23 : ∀ (KK_23 : Int32 → Int32 → fg_W → Option (Int32 × fg_W)) (hK_23 : ∀ (v4_23 : Int32) (v5_23 : Int32) (w_23 : fg_W) (H : Heap) (locs : List Loc) (ls : Array Slot), fg_H D g s.heap w_23 H locs → lv_has ls 6 [(0, .ref (g.1 4 0 0)), (1, .int a1), (2, .int a2), (3, .int r3), (4, .int v4_23), (5, .int v5_23)] → KK_23 v4_23 v5_23 w_23 = some (r, w') → fg_Gi p l e 8 184 s m [.ref (g.1 4 0 0), .int a1, .int a2] below meth c D g r w' H locs 61 ls []) (n : Nat) (v4_23 : Int32) (v5_23 : Int32) (w_23 : fg_W) (H : Heap) (locs : List Loc) (ls : Array Slot), fg_H D g s.heap w_23 H locs → lv_has ls 6 [(0, .ref (g.1 4 0 0)), (1, .int a1), (2, .int a2), (3, .int r3), (4, .int v4_23), (5, .int v5_23)] → f_X4_kinds_L23 a1 a2 KK_23 n v4_23 v5_23 w_23 = some (r, w') → fg_Gi p l e 8 184 s m [.ref (g.1 4 0 0), .int a1, .int a2] below meth c D g r w' H locs 23 ls [] := by
      intro KK_23 hK_23 n
      induction n with
      | zero => intro v4_23 v5_23 w_23 H locs ls h hl hf; exact fg_no hf
      | succ n_23 ih_23 =>
        intro v4_23 v5_23 w_23 H locs ls h hl hf
        unfold f_X4_kinds_L23 at hf
        refine lv_iload hx hb dX4_kinds_23 (lv_at hl 5 rfl) ?_
        refine lv_bipush (v := 6) hx hb dX4_kinds_25 rfl ?_
        refine lv_icmp_gt (tgt := 61) hx hb dX4_kinds_27 (by decide) (fun hc => ?_) (fun hc => ?_)
        · have hf := fg_ifT hf hc
          exact hK_23 v4_23 v5_23 w_23 _ _ ls h (lv_sub hl [0, 1, 2, 3, 4, 5] rfl) hf
        · have hf := fg_ifF hf hc
          refine lv_iload hx hb dX4_kinds_30 (lv_at hl 4 rfl) ?_
          refine lv_aload_n hx hb dX4_kinds_32 rfl (lv_at hl 0 rfl) ?_
          refine lv_iload_n hx hb dX4_kinds_33 rfl (lv_at hl 1 rfl) ?_
          refine lv_iload_n hx hb dX4_kinds_34 rfl (lv_at hl 2 rfl) ?_
          refine lv_iconst (v := 0) hx hb dX4_kinds_35 rfl ?_
          refine lv_iload hx hb dX4_kinds_36 (lv_at hl 5 rfl) ?_
          obtain ⟨r11, w9, hc10, hf⟩ := fg_biE hf
          refine fg_ci h (fg_runV (rest := [.int v4_23]) S hK h (c_X4_fitsAs l D g a1 a2 0 v5_23  w_23 r11 w9 hc10) vg_RX4_201 vd_X4_fitsAs ⟨by decide, by decide⟩ fg_p4_0 rfl rfl rfl hl.1 rfl (Nat.le_of_ble_eq_true rfl) dX4_kinds_38 ⟨Nat.zero_le _, Nat.zero_le _⟩) (fun H locs h => ?_)
          refine lv_if_eq (tgt := 51) hx hb dX4_kinds_41 (by decide) (fun hc => ?_) (fun hc => ?_)
          · have hf := fg_ifT hf hc
            refine lv_iconst (v := 0) hx hb dX4_kinds_51 rfl ?_
            refine lv_ior hx hb dX4_kinds_52 ?_
            refine lv_topi (fun x12 e_x12 => ?_)
            have hf := fg_letE e_x12 hf
            refine lv_istore (lv' := [(4, .int x12), (0, .ref (g.1 4 0 0)), (1, .int a1), (2, .int a2), (3, .int r3), (5, .int v5_23)]) hx hb dX4_kinds_53 hl (by decide) rfl (fun ls hl => ?_)
            refine lv_iinc (v := (v5_23 + 1)) (lv' := [(5, .int (v5_23 + 1)), (4, .int x12), (0, .ref (g.1 4 0 0)), (1, .int a1), (2, .int a2), (3, .int r3)]) hx hb dX4_kinds_55 hl (k := 5) rfl rfl (by decide) rfl (fun ls hl => ?_)
            refine lv_goto (tgt := 23) hx hb dX4_kinds_58 (by decide) ?_
            exact ih_23 x12 (v5_23 + 1) w9 _ _ ls h (lv_sub hl [2, 3, 4, 5, 1, 0] rfl) hf
          · have hf := fg_ifF hf hc
            refine lv_iconst (v := 1) hx hb dX4_kinds_44 rfl ?_
            refine lv_iload hx hb dX4_kinds_45 (lv_at hl 5 rfl) ?_
            refine lv_ishl hx hb dX4_kinds_47 ?_
            refine lv_goto (tgt := 52) hx hb dX4_kinds_48 (by decide) ?_
            refine lv_ior hx hb dX4_kinds_52 ?_
            refine lv_topi (fun x13 e_x13 => ?_)
            have hf := fg_letE e_x13 hf
            refine lv_istore (lv' := [(4, .int x13), (0, .ref (g.1 4 0 0)), (1, .int a1), (2, .int a2), (3, .int r3), (5, .int v5_23)]) hx hb dX4_kinds_53 hl (by decide) rfl (fun ls hl => ?_)
            refine lv_iinc (v := (v5_23 + 1)) (lv' := [(5, .int (v5_23 + 1)), (4, .int x13), (0, .ref (g.1 4 0 0)), (1, .int a1), (2, .int a2), (3, .int r3)]) hx hb dX4_kinds_55 hl (k := 5) rfl rfl (by decide) rfl (fun ls hl => ?_)
            refine lv_goto (tgt := 23) hx hb dX4_kinds_58 (by decide) ?_
            exact ih_23 x13 (v5_23 + 1) w9 _ _ ls h (lv_sub hl [2, 3, 4, 5, 1, 0] rfl) hf
    exact hL_23 _ hK_23 fg_fuel 0 0 w1 _ _ ls h (lv_sub hl [3, 4, 5, 2, 1, 0] rfl) hf
  · have hf := fg_ifF hf hc
    refine lv_aload_n hx hb dX4_kinds_11 rfl (lv_at hl 1 rfl) ?_
    refine lv_iload_n hx hb dX4_kinds_12 rfl (lv_at hl 0 rfl) ?_
    obtain ⟨r16, w14, hc15, hf⟩ := fg_biE hf
    refine fg_ci h (fg_runV (rest := []) S hK h (c_X4_no l D g r3  w1 r16 w14 hc15) vg_RX4_129 vd_X4_no ⟨by decide, by decide⟩ fg_p4_0 rfl rfl rfl hl.1 rfl (Nat.le_of_ble_eq_true rfl) dX4_kinds_13 ⟨Nat.zero_le _, Nat.zero_le _⟩) (fun H locs h => ?_)
    exact fg_reti hx hb hr hlk hK h hf dX4_kinds_16
set_option maxHeartbeats 4000000 in
set_option maxRecDepth 100000 in
theorem c_X4_draw (l : Launch) (D : va_G) (g : fg_G)  (w : fg_W) (r : Int32) (w' : fg_W) (hf : f_X4_draw  w = some (r, w')) : fg_M l yX4_draw cX4_draw 1 (some .int) 0 0 D g [.ref (g.1 4 0 0)] w (fg_Qi D g r w') := by
  refine fg_M.of rfl (Nat.le_of_ble_eq_true rfl) (fun p e s m below meth c ls S hr hlk hK h hl => ?_)
  have hx := S.1
  have hb := S.2.1
  have hl : lv_has ls 1 [(0, .ref (g.1 4 0 0))] := hl
  unfold f_X4_draw at hf
  refine lv_aload_n hx hb dX4_draw_0 rfl (lv_at hl 0 rfl) ?_
  refine fg_get (C := RX4) (T := TX4) (N := 22) S vu_X4 hK h fg_p4_0 rfl rfl 0 (by decide) vf_RX4_9 rfl rfl dX4_draw_1 ?_
  refine lv_iconst (v := 2) hx hb dX4_draw_4 rfl ?_
  refine lv_aload_n hx hb dX4_draw_5 rfl (lv_at hl 0 rfl) ?_
  refine fg_get (C := RX4) (T := TX4) (N := 22) S vu_X4 hK h fg_p4_0 rfl rfl 0 (by decide) vf_RX4_9 rfl rfl dX4_draw_6 ?_
  refine lv_iconst (v := 2) hx hb dX4_draw_9 rfl ?_
  refine fg_ialdL (j := 2) hx hb hK h fg_p4_1 (fun _ => rfl) (by decide) rfl dX4_draw_10 ?_
  refine lv_ldc hx hb S.2.2.2.1 (S.2.2.2.2 _ vc_RX4_205) dX4_draw_11 ?_
  refine lv_imul hx hb dX4_draw_13 ?_
  refine lv_sipush (v := 12345) hx hb dX4_draw_14 rfl ?_
  refine lv_iadd hx hb dX4_draw_17 ?_
  refine fg_iastL (j := 2) hx hb hK h fg_p4_1 (fun _ => rfl) (by decide) rfl dX4_draw_18 (fun w1 H locs ew h => ?_)
  have hf := fg_letE ew hf
  refine lv_aload_n hx hb dX4_draw_19 rfl (lv_at hl 0 rfl) ?_
  refine fg_get (C := RX4) (T := TX4) (N := 22) S vu_X4 hK h fg_p4_0 rfl rfl 0 (by decide) vf_RX4_9 rfl rfl dX4_draw_20 ?_
  refine lv_iconst (v := 2) hx hb dX4_draw_23 rfl ?_
  refine fg_ialdL (j := 2) hx hb hK h fg_p4_1 (fun _ => rfl) (by decide) rfl dX4_draw_24 ?_
  refine lv_bipush (v := 8) hx hb dX4_draw_25 rfl ?_
  refine lv_iushr hx hb dX4_draw_27 rfl ?_
  exact fg_reti hx hb hr hlk hK h hf dX4_draw_28
set_option maxHeartbeats 4000000 in
set_option maxRecDepth 100000 in
theorem c_X4_fine (l : Launch) (D : va_G) (g : fg_G) (a1 : Int32) (w : fg_W) (r : Int32) (w' : fg_W) (hf : f_X4_fine a1 w = some (r, w')) : fg_M l yX4_fine cX4_fine 3 (some .int) 7 158 D g [.ref (g.1 4 0 0), .int a1] w (fg_Qi D g r w') := by
  refine fg_M.of rfl (Nat.le_of_ble_eq_true rfl) (fun p e s m below meth c ls S hr hlk hK h hl => ?_)
  have hx := S.1
  have hb := S.2.1
  have hl : lv_has ls 3 [(0, .ref (g.1 4 0 0)), (1, .int a1)] := hl
  unfold f_X4_fine at hf
  refine lv_iload_n hx hb dX4_fine_0 rfl (lv_at hl 1 rfl) ?_
  refine lv_iconst (v := 1) hx hb dX4_fine_1 rfl ?_
  refine lv_bipush (v := 20) hx hb dX4_fine_2 rfl ?_
  obtain ⟨r3, w1, hc2, hf⟩ := fg_biE hf
  refine fg_ci h (fg_runS (rest := []) S hK h (c_X4_in1 l D g a1 1 20  w r3 w1 hc2) vk_X4_in1 vm_RX4_61 vs_X4_in1 vi_RX4 vd_X4_in1.2 ⟨by decide, by decide⟩ rfl hl.1 rfl (Nat.le_of_ble_eq_true rfl) dX4_fine_4 ⟨Nat.zero_le _, Nat.zero_le _⟩) (fun H locs h => ?_)
  refine lv_if_ne (tgt := 16) hx hb dX4_fine_7 (by decide) (fun hc => ?_) (fun hc => ?_)
  · have hf := fg_ifF hf hc
    refine lv_aload_n hx hb dX4_fine_16 rfl (lv_at hl 0 rfl) ?_
    refine fg_get (C := RX4) (T := TX4) (N := 22) S vu_X4 hK h fg_p4_0 rfl rfl 0 (by decide) vf_RX4_9 rfl rfl dX4_fine_17 ?_
    refine lv_iconst (v := 0) hx hb dX4_fine_20 rfl ?_
    refine fg_ialdL (j := 0) hx hb hK h fg_p4_1 (fun _ => rfl) (by decide) rfl dX4_fine_21 ?_
    refine lv_iload_n hx hb dX4_fine_22 rfl (lv_at hl 1 rfl) ?_
    refine lv_iadd hx hb dX4_fine_23 ?_
    refine lv_ldc hx hb S.2.2.2.1 (S.2.2.2.2 _ vc_RX4_122) dX4_fine_24 ?_
    refine lv_icmp_le (tgt := 35) hx hb dX4_fine_26 (by decide) (fun hc => ?_) (fun hc => ?_)
    · have hf := fg_ifT hf hc
      refine lv_iconst (v := 0) hx hb dX4_fine_35 rfl ?_
      refine lv_istore_n (lv' := [(2, .int 0), (0, .ref (g.1 4 0 0)), (1, .int a1)]) hx hb dX4_fine_36 rfl hl (by decide) rfl (fun ls hl => ?_)
      have hK_37 : ∀ (v2_37 : Int32) (w_37 : fg_W) (H : Heap) (locs : List Loc) (ls : Array Slot), fg_H D g s.heap w_37 H locs → lv_has ls 3 [(0, .ref (g.1 4 0 0)), (1, .int a1), (2, .int v2_37)] → (fg_bi (f_X4_onLots  w_37) (fun r6 w4 => some (r6, w4))) = some (r, w') → fg_Gi p l e 7 158 s m [.ref (g.1 4 0 0), .int a1] below meth c D g r w' H locs 88 ls [] := by
        intro v2_37 w_37 H locs ls h hl hf
        refine lv_aload_n hx hb dX4_fine_88 rfl (lv_at hl 0 rfl) ?_
        obtain ⟨r6, w4, hc5, hf⟩ := fg_biE hf
        refine fg_ci h (fg_runV (rest := []) S hK h (c_X4_onLots l D g   w_37 r6 w4 hc5) vg_RX4_147 vd_X4_onLots ⟨by decide, by decide⟩ fg_p4_0 rfl rfl rfl hl.1 rfl (Nat.le_of_ble_eq_true rfl) dX4_fine_89 ⟨Nat.zero_le _, Nat.zero_le _⟩) (fun H locs h => ?_)
        exact fg_reti hx hb hr hlk hK h hf dX4_fine_92
      have hL_37 : ∀ (KK_37 : Int32 → fg_W → Option (Int32 × fg_W)) (hK_37 : ∀ (v2_37 : Int32) (w_37 : fg_W) (H : Heap) (locs : List Loc) (ls : Array Slot), fg_H D g s.heap w_37 H locs → lv_has ls 3 [(0, .ref (g.1 4 0 0)), (1, .int a1), (2, .int v2_37)] → KK_37 v2_37 w_37 = some (r, w') → fg_Gi p l e 7 158 s m [.ref (g.1 4 0 0), .int a1] below meth c D g r w' H locs 88 ls []) (n : Nat) (v2_37 : Int32) (w_37 : fg_W) (H : Heap) (locs : List Loc) (ls : Array Slot), fg_H D g s.heap w_37 H locs → lv_has ls 3 [(0, .ref (g.1 4 0 0)), (1, .int a1), (2, .int v2_37)] → f_X4_fine_L37 a1 KK_37 n v2_37 w_37 = some (r, w') → fg_Gi p l e 7 158 s m [.ref (g.1 4 0 0), .int a1] below meth c D g r w' H locs 37 ls [] := by
        intro KK_37 hK_37 n
        induction n with
        | zero => intro v2_37 w_37 H locs ls h hl hf; exact fg_no hf
        | succ n_37 ih_37 =>
          intro v2_37 w_37 H locs ls h hl hf
          unfold f_X4_fine_L37 at hf
          refine lv_iload_n hx hb dX4_fine_37 rfl (lv_at hl 2 rfl) ?_
          refine lv_iload_n hx hb dX4_fine_38 rfl (lv_at hl 1 rfl) ?_
          refine lv_icmp_ge (tgt := 88) hx hb dX4_fine_39 (by decide) (fun hc => ?_) (fun hc => ?_)
          · have hf := fg_ifT hf hc
            exact hK_37 v2_37 w_37 _ _ ls h (lv_sub hl [0, 1, 2] rfl) hf
          · have hf := fg_ifF hf hc
            refine lv_aload_n hx hb dX4_fine_42 rfl (lv_at hl 0 rfl) ?_
            refine fg_get (C := RX4) (T := TX4) (N := 22) S vu_X4 hK h fg_p4_0 rfl rfl 0 (by decide) vf_RX4_9 rfl rfl dX4_fine_43 ?_
            refine lv_iconst (v := 4) hx hb dX4_fine_46 rfl ?_
            refine lv_aload_n hx hb dX4_fine_47 rfl (lv_at hl 0 rfl) ?_
            refine fg_get (C := RX4) (T := TX4) (N := 22) S vu_X4 hK h fg_p4_0 rfl rfl 0 (by decide) vf_RX4_9 rfl rfl dX4_fine_48 ?_
            refine lv_iconst (v := 0) hx hb dX4_fine_51 rfl ?_
            refine fg_ialdL (j := 0) hx hb hK h fg_p4_1 (fun _ => rfl) (by decide) rfl dX4_fine_52 ?_
            refine lv_bipush (v := 6) hx hb dX4_fine_53 rfl ?_
            refine lv_irem hx hb dX4_fine_55 (by decide) ?_
            refine lv_iadd hx hb dX4_fine_56 ?_
            refine lv_aload_n hx hb dX4_fine_57 rfl (lv_at hl 0 rfl) ?_
            obtain ⟨r21, w19, hc20, hf⟩ := fg_biE hf
            refine fg_ci h (fg_runV (rest := [.int (4 + ((w_37.1 4 0 1 0) - (w_37.1 4 0 1 0) / 6 * 6)), .ref (g.1 4 0 1)]) S hK h (c_X4_draw l D g   w_37 r21 w19 hc20) vg_RX4_206 vd_X4_draw ⟨by decide, by decide⟩ fg_p4_0 rfl rfl rfl hl.1 rfl (Nat.le_of_ble_eq_true rfl) dX4_fine_58 ⟨Nat.zero_le _, Nat.zero_le _⟩) (fun H locs h => ?_)
            refine lv_bipush (v := 41) hx hb dX4_fine_61 rfl ?_
            refine lv_irem hx hb dX4_fine_63 (by decide) ?_
            obtain ⟨hn23, hf⟩ := fg_gdE hf
            refine fg_iast hx hb hK h fg_p4_1 (fun _ => rfl) hn23 dX4_fine_64 (fun w22 H locs ew h => ?_)
            have hf := fg_letE ew hf
            refine lv_aload_n hx hb dX4_fine_65 rfl (lv_at hl 0 rfl) ?_
            refine lv_aload_n hx hb dX4_fine_66 rfl (lv_at hl 0 rfl) ?_
            obtain ⟨r26, w24, hc25, hf⟩ := fg_biE hf
            refine fg_ci h (fg_runV (rest := [.ref (g.1 4 0 0)]) S hK h (c_X4_draw l D g   w22 r26 w24 hc25) vg_RX4_206 vd_X4_draw ⟨by decide, by decide⟩ fg_p4_0 rfl rfl rfl hl.1 rfl (Nat.le_of_ble_eq_true rfl) dX4_fine_67 ⟨Nat.zero_le _, Nat.zero_le _⟩) (fun H locs h => ?_)
            refine lv_bipush (v := 10) hx hb dX4_fine_70 rfl ?_
            refine lv_irem hx hb dX4_fine_72 (by decide) ?_
            refine lv_iconst (v := 2) hx hb dX4_fine_73 rfl ?_
            refine lv_iconst (v := (-1)) hx hb dX4_fine_74 rfl ?_
            obtain ⟨w27, hc28, hf⟩ := fg_bvE hf
            refine fg_cv h (fg_runV (rest := []) S hK h (c_X4_lays1 l D g (r26 - r26 / 10 * 10) 2 (-1)  w24 w27 hc28) vg_RX4_56 vd_X4_lays1 ⟨by decide, by decide⟩ fg_p4_0 rfl rfl rfl hl.1 rfl (Nat.le_of_ble_eq_true rfl) dX4_fine_75 ⟨Nat.zero_le _, Nat.zero_le _⟩) (fun H locs h => ?_)
            refine lv_aload_n hx hb dX4_fine_78 rfl (lv_at hl 0 rfl) ?_
            obtain ⟨w29, hc30, hf⟩ := fg_bvE hf
            refine fg_cv h (fg_runV (rest := []) S hK h (c_X4_day l D g   w27 w29 hc30) vg_RX4_123 vd_X4_day ⟨by decide, by decide⟩ fg_p4_0 rfl rfl rfl hl.1 rfl (Nat.le_of_ble_eq_true rfl) dX4_fine_79 ⟨Nat.zero_le _, Nat.zero_le _⟩) (fun H locs h => ?_)
            refine lv_iinc (v := (v2_37 + 1)) (lv' := [(2, .int (v2_37 + 1)), (0, .ref (g.1 4 0 0)), (1, .int a1)]) hx hb dX4_fine_82 hl (k := 2) rfl rfl (by decide) rfl (fun ls hl => ?_)
            refine lv_goto (tgt := 37) hx hb dX4_fine_85 (by decide) ?_
            exact ih_37 (v2_37 + 1) w29 _ _ ls h (lv_sub hl [1, 2, 0] rfl) hf
      exact hL_37 _ hK_37 fg_fuel 0 w1 _ _ ls h (lv_sub hl [1, 2, 0] rfl) hf
    · have hf := fg_ifF hf hc
      refine lv_aload_n hx hb dX4_fine_29 rfl (lv_at hl 0 rfl) ?_
      refine lv_iconst (v := 4) hx hb dX4_fine_30 rfl ?_
      obtain ⟨r33, w31, hc32, hf⟩ := fg_biE hf
      refine fg_ci h (fg_runV (rest := []) S hK h (c_X4_no l D g 4  w1 r33 w31 hc32) vg_RX4_129 vd_X4_no ⟨by decide, by decide⟩ fg_p4_0 rfl rfl rfl hl.1 rfl (Nat.le_of_ble_eq_true rfl) dX4_fine_31 ⟨Nat.zero_le _, Nat.zero_le _⟩) (fun H locs h => ?_)
      exact fg_reti hx hb hr hlk hK h hf dX4_fine_34
  · have hf := fg_ifT hf hc
    refine lv_aload_n hx hb dX4_fine_10 rfl (lv_at hl 0 rfl) ?_
    refine lv_iconst (v := 0) hx hb dX4_fine_11 rfl ?_
    obtain ⟨r36, w34, hc35, hf⟩ := fg_biE hf
    refine fg_ci h (fg_runV (rest := []) S hK h (c_X4_no l D g 0  w1 r36 w34 hc35) vg_RX4_129 vd_X4_no ⟨by decide, by decide⟩ fg_p4_0 rfl rfl rfl hl.1 rfl (Nat.le_of_ble_eq_true rfl) dX4_fine_12 ⟨Nat.zero_le _, Nat.zero_le _⟩) (fun H locs h => ?_)
    exact fg_reti hx hb hr hlk hK h hf dX4_fine_15
set_option maxHeartbeats 4000000 in
set_option maxRecDepth 100000 in
theorem c_X4_odds (l : Launch) (D : va_G) (g : fg_G) (a1 : Int32) (a2 : Int32) (a3 : Int32) (w : fg_W) (r : Int64) (w' : fg_W) (hf : f_X4_odds a1 a2 a3 w = some (r, w')) : fg_M l yX4_odds cX4_odds 15 (some .long) 4 91 D g [.ref (g.1 4 0 0), .int a1, .int a2, .int a3] w (fg_Ql D g r w') := by
  refine fg_M.of rfl (Nat.le_of_ble_eq_true rfl) (fun p e s m below meth c ls S hr hlk hK h hl => ?_)
  have hx := S.1
  have hb := S.2.1
  have hl : lv_has ls 15 [(0, .ref (g.1 4 0 0)), (1, .int a1), (2, .int a2), (3, .int a3)] := hl
  unfold f_X4_odds at hf
  refine lv_aload_n hx hb dX4_odds_0 rfl (lv_at hl 0 rfl) ?_
  refine lv_iload_n hx hb dX4_odds_1 rfl (lv_at hl 1 rfl) ?_
  obtain ⟨r3, w1, hc2, hf⟩ := fg_biE hf
  refine fg_ci h (fg_runV (rest := []) S hK h (c_X4_isPerson l D g a1  w r3 w1 hc2) vg_RX4_138 vd_X4_isPerson ⟨by decide, by decide⟩ fg_p4_0 rfl rfl rfl hl.1 rfl (Nat.le_of_ble_eq_true rfl) dX4_odds_2 ⟨Nat.zero_le _, Nat.zero_le _⟩) (fun H locs h => ?_)
  refine lv_if_eq (tgt := 27) hx hb dX4_odds_5 (by decide) (fun hc => ?_) (fun hc => ?_)
  · have hf := fg_ifT hf hc
    refine lv_aload_n hx hb dX4_odds_27 rfl (lv_at hl 0 rfl) ?_
    refine lv_iconst (v := 0) hx hb dX4_odds_28 rfl ?_
    obtain ⟨r6, w4, hc5, hf⟩ := fg_biE hf
    refine fg_ci h (fg_runV (rest := []) S hK h (c_X4_no l D g 0  w1 r6 w4 hc5) vg_RX4_129 vd_X4_no ⟨by decide, by decide⟩ fg_p4_0 rfl rfl rfl hl.1 rfl (Nat.le_of_ble_eq_true rfl) dX4_odds_29 ⟨Nat.zero_le _, Nat.zero_le _⟩) (fun H locs h => ?_)
    refine lv_i2l hx hb dX4_odds_32 rfl ?_
    exact fg_retl hx hb hr hlk hK h hf dX4_odds_33
  · have hf := fg_ifF hf hc
    refine lv_iload_n hx hb dX4_odds_8 rfl (lv_at hl 2 rfl) ?_
    refine lv_iconst (v := 0) hx hb dX4_odds_9 rfl ?_
    refine lv_bipush (v := 18) hx hb dX4_odds_10 rfl ?_
    obtain ⟨r9, w7, hc8, hf⟩ := fg_biE hf
    refine fg_ci h (fg_runS (rest := []) S hK h (c_X4_in1 l D g a2 0 18  w1 r9 w7 hc8) vk_X4_in1 vm_RX4_61 vs_X4_in1 vi_RX4 vd_X4_in1.2 ⟨by decide, by decide⟩ rfl hl.1 rfl (Nat.le_of_ble_eq_true rfl) dX4_odds_12 ⟨Nat.zero_le _, Nat.zero_le _⟩) (fun H locs h => ?_)
    refine lv_if_eq (tgt := 27) hx hb dX4_odds_15 (by decide) (fun hc => ?_) (fun hc => ?_)
    · have hf := fg_ifT hf hc
      refine lv_aload_n hx hb dX4_odds_27 rfl (lv_at hl 0 rfl) ?_
      refine lv_iconst (v := 0) hx hb dX4_odds_28 rfl ?_
      obtain ⟨r12, w10, hc11, hf⟩ := fg_biE hf
      refine fg_ci h (fg_runV (rest := []) S hK h (c_X4_no l D g 0  w7 r12 w10 hc11) vg_RX4_129 vd_X4_no ⟨by decide, by decide⟩ fg_p4_0 rfl rfl rfl hl.1 rfl (Nat.le_of_ble_eq_true rfl) dX4_odds_29 ⟨Nat.zero_le _, Nat.zero_le _⟩) (fun H locs h => ?_)
      refine lv_i2l hx hb dX4_odds_32 rfl ?_
      exact fg_retl hx hb hr hlk hK h hf dX4_odds_33
    · have hf := fg_ifF hf hc
      refine lv_iload_n hx hb dX4_odds_18 rfl (lv_at hl 3 rfl) ?_
      refine lv_iconst (v := 0) hx hb dX4_odds_19 rfl ?_
      refine lv_iconst (v := 1) hx hb dX4_odds_20 rfl ?_
      obtain ⟨r15, w13, hc14, hf⟩ := fg_biE hf
      refine fg_ci h (fg_runS (rest := []) S hK h (c_X4_in1 l D g a3 0 1  w7 r15 w13 hc14) vk_X4_in1 vm_RX4_61 vs_X4_in1 vi_RX4 vd_X4_in1.2 ⟨by decide, by decide⟩ rfl hl.1 rfl (Nat.le_of_ble_eq_true rfl) dX4_odds_21 ⟨Nat.zero_le _, Nat.zero_le _⟩) (fun H locs h => ?_)
      refine lv_if_ne (tgt := 34) hx hb dX4_odds_24 (by decide) (fun hc => ?_) (fun hc => ?_)
      · have hf := fg_ifF hf hc
        refine lv_iconst (v := 0) hx hb dX4_odds_34 rfl ?_
        refine lv_istore (lv' := [(4, .int 0), (0, .ref (g.1 4 0 0)), (1, .int a1), (2, .int a2), (3, .int a3)]) hx hb dX4_odds_35 hl (by decide) rfl (fun ls hl => ?_)
        refine lv_iconst (v := 0) hx hb dX4_odds_37 rfl ?_
        refine lv_istore (lv' := [(5, .int 0), (4, .int 0), (0, .ref (g.1 4 0 0)), (1, .int a1), (2, .int a2), (3, .int a3)]) hx hb dX4_odds_38 hl (by decide) rfl (fun ls hl => ?_)
        have hK_40 : ∀ (v4_40 : Int32) (v5_40 : Int32) (w_40 : fg_W) (H : Heap) (locs : List Loc) (ls : Array Slot), fg_H D g s.heap w_40 H locs → lv_has ls 15 [(0, .ref (g.1 4 0 0)), (1, .int a1), (2, .int a2), (3, .int a3), (4, .int v4_40), (5, .int v5_40)] → (f_X4_odds_L82 a2 v4_40 (fun v5_82 v7_82 v9_82 w_82 => f_X4_odds_L118  (fun v9_118 v11_118 w_118 => if a3 = 0 then (fg_gp (¬ v9_118 = 0) (some ((v5_82 / v9_118), w_118))) else (fg_gp (¬ v9_118 = 0) (some ((v7_82 / v9_118), w_118)))) fg_fuel v5_82 v7_82 w_82) fg_fuel 1 1 0 w_40) = some (r, w') → fg_Gl p l e 4 91 s m [.ref (g.1 4 0 0), .int a1, .int a2, .int a3] below meth c D g r w' H locs 73 ls [] := by
          intro v4_40 v5_40 w_40 H locs ls h hl hf
          refine lv_lconst (v := 1) hx hb dX4_odds_73 rfl ?_
          refine lv_lstore (lv' := [(5, .long 1), (0, .ref (g.1 4 0 0)), (1, .int a1), (2, .int a2), (3, .int a3), (4, .int v4_40)]) hx hb dX4_odds_74 hl (by decide) rfl (fun ls hl => ?_)
          refine lv_lconst (v := 1) hx hb dX4_odds_76 rfl ?_
          refine lv_lstore (lv' := [(7, .long 1), (5, .long 1), (0, .ref (g.1 4 0 0)), (1, .int a1), (2, .int a2), (3, .int a3), (4, .int v4_40)]) hx hb dX4_odds_77 hl (by decide) rfl (fun ls hl => ?_)
          refine lv_iconst (v := 0) hx hb dX4_odds_79 rfl ?_
          refine lv_istore (lv' := [(9, .int 0), (7, .long 1), (5, .long 1), (0, .ref (g.1 4 0 0)), (1, .int a1), (2, .int a2), (3, .int a3), (4, .int v4_40)]) hx hb dX4_odds_80 hl (by decide) rfl (fun ls hl => ?_)
          have hK_82 : ∀ (v5_82 : Int64) (v7_82 : Int64) (v9_82 : Int32) (w_82 : fg_W) (H : Heap) (locs : List Loc) (ls : Array Slot), fg_H D g s.heap w_82 H locs → lv_has ls 15 [(0, .ref (g.1 4 0 0)), (1, .int a1), (2, .int a2), (3, .int a3), (4, .int v4_40), (5, .long v5_82), (7, .long v7_82), (9, .int v9_82)] → (f_X4_odds_L118  (fun v9_118 v11_118 w_118 => if a3 = 0 then (fg_gp (¬ v9_118 = 0) (some ((v5_82 / v9_118), w_118))) else (fg_gp (¬ v9_118 = 0) (some ((v7_82 / v9_118), w_118)))) fg_fuel v5_82 v7_82 w_82) = some (r, w') → fg_Gl p l e 4 91 s m [.ref (g.1 4 0 0), .int a1, .int a2, .int a3] below meth c D g r w' H locs 110 ls [] := by
            intro v5_82 v7_82 v9_82 w_82 H locs ls h hl hf
            refine lv_lload hx hb dX4_odds_110 (lv_at hl 5 rfl) ?_
            refine lv_lstore (lv' := [(9, .long v5_82), (0, .ref (g.1 4 0 0)), (1, .int a1), (2, .int a2), (3, .int a3), (4, .int v4_40), (5, .long v5_82), (7, .long v7_82)]) hx hb dX4_odds_112 hl (by decide) rfl (fun ls hl => ?_)
            refine lv_lload hx hb dX4_odds_114 (lv_at hl 7 rfl) ?_
            refine lv_lstore (lv' := [(11, .long v7_82), (9, .long v5_82), (0, .ref (g.1 4 0 0)), (1, .int a1), (2, .int a2), (3, .int a3), (4, .int v4_40), (5, .long v5_82), (7, .long v7_82)]) hx hb dX4_odds_116 hl (by decide) rfl (fun ls hl => ?_)
            have hK_118 : ∀ (v9_118 : Int64) (v11_118 : Int64) (w_118 : fg_W) (H : Heap) (locs : List Loc) (ls : Array Slot), fg_H D g s.heap w_118 H locs → lv_has ls 15 [(0, .ref (g.1 4 0 0)), (1, .int a1), (2, .int a2), (3, .int a3), (4, .int v4_40), (5, .long v5_82), (7, .long v7_82), (9, .long v9_118), (11, .long v11_118)] → (if a3 = 0 then (fg_gp (¬ v9_118 = 0) (some ((v5_82 / v9_118), w_118))) else (fg_gp (¬ v9_118 = 0) (some ((v7_82 / v9_118), w_118)))) = some (r, w') → fg_Gl p l e 4 91 s m [.ref (g.1 4 0 0), .int a1, .int a2, .int a3] below meth c D g r w' H locs 143 ls [] := by
              intro v9_118 v11_118 w_118 H locs ls h hl hf
              refine lv_iload_n hx hb dX4_odds_143 rfl (lv_at hl 3 rfl) ?_
              refine lv_if_ne (tgt := 155) hx hb dX4_odds_144 (by decide) (fun hc => ?_) (fun hc => ?_)
              · have hf := fg_ifF hf hc
                refine lv_lload hx hb dX4_odds_155 (lv_at hl 6 rfl) ?_
                refine lv_lload hx hb dX4_odds_157 (lv_at hl 7 rfl) ?_
                obtain ⟨hz16, hf⟩ := fg_gpE hf
                refine lv_ldiv hx hb dX4_odds_159 hz16 ?_
                exact fg_retl hx hb hr hlk hK h hf dX4_odds_160
              · have hf := fg_ifT hf hc
                refine lv_lload hx hb dX4_odds_147 (lv_at hl 5 rfl) ?_
                refine lv_lload hx hb dX4_odds_149 (lv_at hl 7 rfl) ?_
                obtain ⟨hz17, hf⟩ := fg_gpE hf
                refine lv_ldiv hx hb dX4_odds_151 hz17 ?_
                refine lv_goto (tgt := 160) hx hb dX4_odds_152 (by decide) ?_
                exact fg_retl hx hb hr hlk hK h hf dX4_odds_160
            have hL_118 : ∀ (KK_118 : Int64 → Int64 → fg_W → Option (Int64 × fg_W)) (hK_118 : ∀ (v9_118 : Int64) (v11_118 : Int64) (w_118 : fg_W) (H : Heap) (locs : List Loc) (ls : Array Slot), fg_H D g s.heap w_118 H locs → lv_has ls 15 [(0, .ref (g.1 4 0 0)), (1, .int a1), (2, .int a2), (3, .int a3), (4, .int v4_40), (5, .long v5_82), (7, .long v7_82), (9, .long v9_118), (11, .long v11_118)] → KK_118 v9_118 v11_118 w_118 = some (r, w') → fg_Gl p l e 4 91 s m [.ref (g.1 4 0 0), .int a1, .int a2, .int a3] below meth c D g r w' H locs 143 ls []) (n : Nat) (v9_118 : Int64) (v11_118 : Int64) (w_118 : fg_W) (H : Heap) (locs : List Loc) (ls : Array Slot), fg_H D g s.heap w_118 H locs → lv_has ls 15 [(0, .ref (g.1 4 0 0)), (1, .int a1), (2, .int a2), (3, .int a3), (4, .int v4_40), (5, .long v5_82), (7, .long v7_82), (9, .long v9_118), (11, .long v11_118)] → f_X4_odds_L118  KK_118 n v9_118 v11_118 w_118 = some (r, w') → fg_Gl p l e 4 91 s m [.ref (g.1 4 0 0), .int a1, .int a2, .int a3] below meth c D g r w' H locs 118 ls [] := by
              intro KK_118 hK_118 n
              induction n with
              | zero => intro v9_118 v11_118 w_118 H locs ls h hl hf; exact fg_no hf
              | succ n_118 ih_118 =>
                intro v9_118 v11_118 w_118 H locs ls h hl hf
                unfold f_X4_odds_L118 at hf
                refine lv_lload hx hb dX4_odds_118 (lv_at hl 8 rfl) ?_
                refine lv_lconst (v := 0) hx hb dX4_odds_120 rfl ?_
                refine W.lcmp hx hb dX4_odds_121 ?_
                refine lv_if_eq (tgt := 143) hx hb dX4_odds_122 (by decide) (fun hc => ?_) (fun hc => ?_)
                · have hf := fg_ifT hf hc
                  exact hK_118 v9_118 v11_118 w_118 _ _ ls h (lv_sub hl [0, 1, 2, 3, 4, 5, 6, 7, 8] rfl) hf
                · have hf := fg_ifF hf hc
                  refine lv_lload hx hb dX4_odds_125 (lv_at hl 7 rfl) ?_
                  refine lv_lload hx hb dX4_odds_127 (lv_at hl 8 rfl) ?_
                  obtain ⟨hz20, hf⟩ := fg_gpE hf
                  refine lv_lrem hx hb dX4_odds_129 hz20 ?_
                  refine lv_topl (fun x21 e_x21 => ?_)
                  have hf := fg_letE e_x21 hf
                  refine lv_lstore (lv' := [(13, .long x21), (0, .ref (g.1 4 0 0)), (1, .int a1), (2, .int a2), (3, .int a3), (4, .int v4_40), (5, .long v5_82), (7, .long v7_82), (9, .long v9_118), (11, .long v11_118)]) hx hb dX4_odds_130 hl (by decide) rfl (fun ls hl => ?_)
                  refine lv_lload hx hb dX4_odds_132 (lv_at hl 9 rfl) ?_
                  refine lv_lstore (lv' := [(9, .long v11_118), (13, .long x21), (0, .ref (g.1 4 0 0)), (1, .int a1), (2, .int a2), (3, .int a3), (4, .int v4_40), (5, .long v5_82), (7, .long v7_82), (11, .long v11_118)]) hx hb dX4_odds_134 hl (by decide) rfl (fun ls hl => ?_)
                  refine lv_lload hx hb dX4_odds_136 (lv_at hl 1 rfl) ?_
                  refine lv_lstore (lv' := [(11, .long x21), (9, .long v11_118), (13, .long x21), (0, .ref (g.1 4 0 0)), (1, .int a1), (2, .int a2), (3, .int a3), (4, .int v4_40), (5, .long v5_82), (7, .long v7_82)]) hx hb dX4_odds_138 hl (by decide) rfl (fun ls hl => ?_)
                  refine lv_goto (tgt := 118) hx hb dX4_odds_140 (by decide) ?_
                  exact ih_118 v11_118 x21 w_118 _ _ ls h (lv_sub hl [3, 4, 5, 6, 7, 8, 9, 1, 0] rfl) hf
            exact hL_118 _ hK_118 fg_fuel v5_82 v7_82 w_82 _ _ ls h (lv_sub hl [2, 3, 4, 5, 6, 7, 8, 1, 0] rfl) hf
          have hL_82 : ∀ (KK_82 : Int64 → Int64 → Int32 → fg_W → Option (Int64 × fg_W)) (hK_82 : ∀ (v5_82 : Int64) (v7_82 : Int64) (v9_82 : Int32) (w_82 : fg_W) (H : Heap) (locs : List Loc) (ls : Array Slot), fg_H D g s.heap w_82 H locs → lv_has ls 15 [(0, .ref (g.1 4 0 0)), (1, .int a1), (2, .int a2), (3, .int a3), (4, .int v4_40), (5, .long v5_82), (7, .long v7_82), (9, .int v9_82)] → KK_82 v5_82 v7_82 v9_82 w_82 = some (r, w') → fg_Gl p l e 4 91 s m [.ref (g.1 4 0 0), .int a1, .int a2, .int a3] below meth c D g r w' H locs 110 ls []) (n : Nat) (v5_82 : Int64) (v7_82 : Int64) (v9_82 : Int32) (w_82 : fg_W) (H : Heap) (locs : List Loc) (ls : Array Slot), fg_H D g s.heap w_82 H locs → lv_has ls 15 [(0, .ref (g.1 4 0 0)), (1, .int a1), (2, .int a2), (3, .int a3), (4, .int v4_40), (5, .long v5_82), (7, .long v7_82), (9, .int v9_82)] → f_X4_odds_L82 a2 v4_40 KK_82 n v5_82 v7_82 v9_82 w_82 = some (r, w') → fg_Gl p l e 4 91 s m [.ref (g.1 4 0 0), .int a1, .int a2, .int a3] below meth c D g r w' H locs 82 ls [] := by
            intro KK_82 hK_82 n
            induction n with
            | zero => intro v5_82 v7_82 v9_82 w_82 H locs ls h hl hf; exact fg_no hf
            | succ n_82 ih_82 =>
              intro v5_82 v7_82 v9_82 w_82 H locs ls h hl hf
              unfold f_X4_odds_L82 at hf
              refine lv_iload hx hb dX4_odds_82 (lv_at hl 7 rfl) ?_
              refine lv_iload_n hx hb dX4_odds_84 rfl (lv_at hl 2 rfl) ?_
              refine lv_icmp_ge (tgt := 110) hx hb dX4_odds_85 (by decide) (fun hc => ?_) (fun hc => ?_)
              · have hf := fg_ifT hf hc
                exact hK_82 v5_82 v7_82 v9_82 w_82 _ _ ls h (lv_sub hl [0, 1, 2, 3, 4, 5, 6, 7] rfl) hf
              · have hf := fg_ifF hf hc
                refine lv_lload hx hb dX4_odds_88 (lv_at hl 5 rfl) ?_
                refine lv_iload hx hb dX4_odds_90 (lv_at hl 4 rfl) ?_
                refine lv_i2l hx hb dX4_odds_92 rfl ?_
                refine lv_lmul hx hb dX4_odds_93 ?_
                refine lv_topl (fun x24 e_x24 => ?_)
                have hf := fg_letE e_x24 hf
                refine lv_lstore (lv' := [(5, .long x24), (0, .ref (g.1 4 0 0)), (1, .int a1), (2, .int a2), (3, .int a3), (4, .int v4_40), (7, .long v7_82), (9, .int v9_82)]) hx hb dX4_odds_94 hl (by decide) rfl (fun ls hl => ?_)
                refine lv_lload hx hb dX4_odds_96 (lv_at hl 6 rfl) ?_
                refine lv_ldc2 hx hb S.2.2.2.1 (S.2.2.2.2 _ vl_RX4_209) dX4_odds_98 ?_
                refine lv_lmul hx hb dX4_odds_101 ?_
                refine lv_topl (fun x25 e_x25 => ?_)
                have hf := fg_letE e_x25 hf
                refine lv_lstore (lv' := [(7, .long x25), (5, .long x24), (0, .ref (g.1 4 0 0)), (1, .int a1), (2, .int a2), (3, .int a3), (4, .int v4_40), (9, .int v9_82)]) hx hb dX4_odds_102 hl (by decide) rfl (fun ls hl => ?_)
                refine lv_iinc (v := (v9_82 + 1)) (lv' := [(9, .int (v9_82 + 1)), (7, .long x25), (5, .long x24), (0, .ref (g.1 4 0 0)), (1, .int a1), (2, .int a2), (3, .int a3), (4, .int v4_40)]) hx hb dX4_odds_104 hl (k := 7) rfl rfl (by decide) rfl (fun ls hl => ?_)
                refine lv_goto (tgt := 82) hx hb dX4_odds_107 (by decide) ?_
                exact ih_82 x24 x25 (v9_82 + 1) w_82 _ _ ls h (lv_sub hl [3, 4, 5, 6, 7, 2, 1, 0] rfl) hf
          exact hL_82 _ hK_82 fg_fuel 1 1 0 w_40 _ _ ls h (lv_sub hl [3, 4, 5, 6, 7, 2, 1, 0] rfl) hf
        have hL_40 : ∀ (KK_40 : Int32 → Int32 → fg_W → Option (Int64 × fg_W)) (hK_40 : ∀ (v4_40 : Int32) (v5_40 : Int32) (w_40 : fg_W) (H : Heap) (locs : List Loc) (ls : Array Slot), fg_H D g s.heap w_40 H locs → lv_has ls 15 [(0, .ref (g.1 4 0 0)), (1, .int a1), (2, .int a2), (3, .int a3), (4, .int v4_40), (5, .int v5_40)] → KK_40 v4_40 v5_40 w_40 = some (r, w') → fg_Gl p l e 4 91 s m [.ref (g.1 4 0 0), .int a1, .int a2, .int a3] below meth c D g r w' H locs 73 ls []) (n : Nat) (v4_40 : Int32) (v5_40 : Int32) (w_40 : fg_W) (H : Heap) (locs : List Loc) (ls : Array Slot), fg_H D g s.heap w_40 H locs → lv_has ls 15 [(0, .ref (g.1 4 0 0)), (1, .int a1), (2, .int a2), (3, .int a3), (4, .int v4_40), (5, .int v5_40)] → f_X4_odds_L40 a1 KK_40 n v4_40 v5_40 w_40 = some (r, w') → fg_Gl p l e 4 91 s m [.ref (g.1 4 0 0), .int a1, .int a2, .int a3] below meth c D g r w' H locs 40 ls [] := by
          intro KK_40 hK_40 n
          induction n with
          | zero => intro v4_40 v5_40 w_40 H locs ls h hl hf; exact fg_no hf
          | succ n_40 ih_40 =>
            intro v4_40 v5_40 w_40 H locs ls h hl hf
            unfold f_X4_odds_L40 at hf
            refine lv_iload hx hb dX4_odds_40 (lv_at hl 5 rfl) ?_
            refine lv_bipush (v := 10) hx hb dX4_odds_42 rfl ?_
            refine lv_icmp_ge (tgt := 73) hx hb dX4_odds_44 (by decide) (fun hc => ?_) (fun hc => ?_)
            · have hf := fg_ifT hf hc
              exact hK_40 v4_40 v5_40 w_40 _ _ ls h (lv_sub hl [0, 1, 2, 3, 4, 5] rfl) hf
            · have hf := fg_ifF hf hc
              refine lv_iload hx hb dX4_odds_47 (lv_at hl 4 rfl) ?_
              refine lv_aload_n hx hb dX4_odds_49 rfl (lv_at hl 0 rfl) ?_
              refine lv_iload_n hx hb dX4_odds_50 rfl (lv_at hl 1 rfl) ?_
              refine lv_iload hx hb dX4_odds_51 (lv_at hl 5 rfl) ?_
              obtain ⟨r33, w31, hc32, hf⟩ := fg_biE hf
              refine fg_ci h (fg_runV (rest := [.int v4_40]) S hK h (c_X4_stands l D g a1 v5_40  w_40 r33 w31 hc32) vg_RX4_82 vd_X4_stands ⟨by decide, by decide⟩ fg_p4_0 rfl rfl rfl hl.1 rfl (Nat.le_of_ble_eq_true rfl) dX4_odds_53 ⟨Nat.zero_le _, Nat.zero_le _⟩) (fun H locs h => ?_)
              refine lv_if_eq (tgt := 63) hx hb dX4_odds_56 (by decide) (fun hc => ?_) (fun hc => ?_)
              · have hf := fg_ifT hf hc
                refine lv_iconst (v := 0) hx hb dX4_odds_63 rfl ?_
                refine lv_iadd hx hb dX4_odds_64 ?_
                refine lv_topi (fun x34 e_x34 => ?_)
                have hf := fg_letE e_x34 hf
                refine lv_istore (lv' := [(4, .int x34), (0, .ref (g.1 4 0 0)), (1, .int a1), (2, .int a2), (3, .int a3), (5, .int v5_40)]) hx hb dX4_odds_65 hl (by decide) rfl (fun ls hl => ?_)
                refine lv_iinc (v := (v5_40 + 1)) (lv' := [(5, .int (v5_40 + 1)), (4, .int x34), (0, .ref (g.1 4 0 0)), (1, .int a1), (2, .int a2), (3, .int a3)]) hx hb dX4_odds_67 hl (k := 5) rfl rfl (by decide) rfl (fun ls hl => ?_)
                refine lv_goto (tgt := 40) hx hb dX4_odds_70 (by decide) ?_
                exact ih_40 x34 (v5_40 + 1) w31 _ _ ls h (lv_sub hl [2, 3, 4, 5, 1, 0] rfl) hf
              · have hf := fg_ifF hf hc
                refine lv_iconst (v := 1) hx hb dX4_odds_59 rfl ?_
                refine lv_goto (tgt := 64) hx hb dX4_odds_60 (by decide) ?_
                refine lv_iadd hx hb dX4_odds_64 ?_
                refine lv_topi (fun x35 e_x35 => ?_)
                have hf := fg_letE e_x35 hf
                refine lv_istore (lv' := [(4, .int x35), (0, .ref (g.1 4 0 0)), (1, .int a1), (2, .int a2), (3, .int a3), (5, .int v5_40)]) hx hb dX4_odds_65 hl (by decide) rfl (fun ls hl => ?_)
                refine lv_iinc (v := (v5_40 + 1)) (lv' := [(5, .int (v5_40 + 1)), (4, .int x35), (0, .ref (g.1 4 0 0)), (1, .int a1), (2, .int a2), (3, .int a3)]) hx hb dX4_odds_67 hl (k := 5) rfl rfl (by decide) rfl (fun ls hl => ?_)
                refine lv_goto (tgt := 40) hx hb dX4_odds_70 (by decide) ?_
                exact ih_40 x35 (v5_40 + 1) w31 _ _ ls h (lv_sub hl [2, 3, 4, 5, 1, 0] rfl) hf
        exact hL_40 _ hK_40 fg_fuel 0 0 w13 _ _ ls h (lv_sub hl [2, 3, 4, 5, 1, 0] rfl) hf
      · have hf := fg_ifT hf hc
        refine lv_aload_n hx hb dX4_odds_27 rfl (lv_at hl 0 rfl) ?_
        refine lv_iconst (v := 0) hx hb dX4_odds_28 rfl ?_
        obtain ⟨r38, w36, hc37, hf⟩ := fg_biE hf
        refine fg_ci h (fg_runV (rest := []) S hK h (c_X4_no l D g 0  w13 r38 w36 hc37) vg_RX4_129 vd_X4_no ⟨by decide, by decide⟩ fg_p4_0 rfl rfl rfl hl.1 rfl (Nat.le_of_ble_eq_true rfl) dX4_odds_29 ⟨Nat.zero_le _, Nat.zero_le _⟩) (fun H locs h => ?_)
        refine lv_i2l hx hb dX4_odds_32 rfl ?_
        exact fg_retl hx hb hr hlk hK h hf dX4_odds_33
set_option maxHeartbeats 4000000 in
set_option maxRecDepth 100000 in
theorem c_X4_seed (l : Launch) (D : va_G) (g : fg_G) (a1 : Int32) (w : fg_W) (r : Int32) (w' : fg_W) (hf : f_X4_seed a1 w = some (r, w')) : fg_M l yX4_seed cX4_seed 3 (some .int) 0 0 D g [.ref (g.1 4 0 0), .int a1] w (fg_Qi D g r w') := by
  refine fg_M.of rfl (Nat.le_of_ble_eq_true rfl) (fun p e s m below meth c ls S hr hlk hK h hl => ?_)
  have hx := S.1
  have hb := S.2.1
  have hl : lv_has ls 3 [(0, .ref (g.1 4 0 0)), (1, .int a1)] := hl
  unfold f_X4_seed at hf
  refine lv_aload_n hx hb dX4_seed_0 rfl (lv_at hl 0 rfl) ?_
  refine fg_get (C := RX4) (T := TX4) (N := 22) S vu_X4 hK h fg_p4_0 rfl rfl 0 (by decide) vf_RX4_9 rfl rfl dX4_seed_1 ?_
  refine lv_iconst (v := 2) hx hb dX4_seed_4 rfl ?_
  refine fg_ialdL (j := 2) hx hb hK h fg_p4_1 (fun _ => rfl) (by decide) rfl dX4_seed_5 ?_
  refine lv_topi (fun x1 e_x1 => ?_)
  have hf := fg_letE e_x1 hf
  refine lv_istore_n (lv' := [(2, .int x1), (0, .ref (g.1 4 0 0)), (1, .int a1)]) hx hb dX4_seed_6 rfl hl (by decide) rfl (fun ls hl => ?_)
  refine lv_aload_n hx hb dX4_seed_7 rfl (lv_at hl 1 rfl) ?_
  refine fg_get (C := RX4) (T := TX4) (N := 22) S vu_X4 hK h fg_p4_0 rfl rfl 0 (by decide) vf_RX4_9 rfl rfl dX4_seed_8 ?_
  refine lv_iconst (v := 2) hx hb dX4_seed_11 rfl ?_
  refine lv_iload_n hx hb dX4_seed_12 rfl (lv_at hl 2 rfl) ?_
  refine fg_iastL (j := 2) hx hb hK h fg_p4_1 (fun _ => rfl) (by decide) rfl dX4_seed_13 (fun w2 H locs ew h => ?_)
  have hf := fg_letE ew hf
  refine lv_iload_n hx hb dX4_seed_14 rfl (lv_at hl 0 rfl) ?_
  exact fg_reti hx hb hr hlk hK h hf dX4_seed_15
set_option maxHeartbeats 4000000 in
set_option maxRecDepth 100000 in
theorem c_X4_feed (l : Launch) (D : va_G) (g : fg_G) (a1 : Int32) (a2 : Int32) (w : fg_W) (r : Int32) (w' : fg_W) (hf : f_X4_feed a1 a2 w = some (r, w')) : fg_M l yX4_feed cX4_feed 4 (some .int) 1 22 D g [.ref (g.1 4 0 0), .int a1, .int a2] w (fg_Qi D g r w') := by
  refine fg_M.of rfl (Nat.le_of_ble_eq_true rfl) (fun p e s m below meth c ls S hr hlk hK h hl => ?_)
  have hx := S.1
  have hb := S.2.1
  have hl : lv_has ls 4 [(0, .ref (g.1 4 0 0)), (1, .int a1), (2, .int a2)] := hl
  unfold f_X4_feed at hf
  refine lv_iload_n hx hb dX4_feed_0 rfl (lv_at hl 2 rfl) ?_
  refine lv_iconst (v := 1) hx hb dX4_feed_1 rfl ?_
  refine lv_iconst (v := 4) hx hb dX4_feed_2 rfl ?_
  obtain ⟨r3, w1, hc2, hf⟩ := fg_biE hf
  refine fg_ci h (fg_runS (rest := []) S hK h (c_X4_in1 l D g a2 1 4  w r3 w1 hc2) vk_X4_in1 vm_RX4_61 vs_X4_in1 vi_RX4 vd_X4_in1.2 ⟨by decide, by decide⟩ rfl hl.1 rfl (Nat.le_of_ble_eq_true rfl) dX4_feed_3 ⟨Nat.zero_le _, Nat.zero_le _⟩) (fun H locs h => ?_)
  refine lv_if_ne (tgt := 15) hx hb dX4_feed_6 (by decide) (fun hc => ?_) (fun hc => ?_)
  · have hf := fg_ifF hf hc
    refine lv_aload_n hx hb dX4_feed_15 rfl (lv_at hl 0 rfl) ?_
    refine fg_get (C := RX4) (T := TX4) (N := 22) S vu_X4 hK h fg_p4_0 rfl rfl 9 (by decide) vf_RX4_211 rfl rfl dX4_feed_16 ?_
    refine lv_iload_n hx hb dX4_feed_19 rfl (lv_at hl 2 rfl) ?_
    refine lv_iadd hx hb dX4_feed_20 ?_
    refine lv_bipush (v := 120) hx hb dX4_feed_21 rfl ?_
    refine lv_icmp_le (tgt := 32) hx hb dX4_feed_23 (by decide) (fun hc => ?_) (fun hc => ?_)
    · have hf := fg_ifT hf hc
      refine lv_iload_n hx hb dX4_feed_32 rfl (lv_at hl 2 rfl) ?_
      refine lv_iconst (v := 1) hx hb dX4_feed_33 rfl ?_
      refine lv_isub hx hb dX4_feed_34 ?_
      refine lv_topi (fun x4 e_x4 => ?_)
      have hf := fg_letE e_x4 hf
      refine lv_istore_n (lv' := [(3, .int x4), (0, .ref (g.1 4 0 0)), (1, .int a1), (2, .int a2)]) hx hb dX4_feed_35 rfl hl (by decide) rfl (fun ls hl => ?_)
      have hK_36 : ∀ (v3_36 : Int32) (w_36 : fg_W) (H : Heap) (locs : List Loc) (ls : Array Slot), fg_H D g s.heap w_36 H locs → lv_has ls 4 [(0, .ref (g.1 4 0 0)), (1, .int a1), (2, .int a2), (3, .int v3_36)] → (some ((w_36.1 4 0 0 9), w_36)) = some (r, w') → fg_Gi p l e 1 22 s m [.ref (g.1 4 0 0), .int a1, .int a2] below meth c D g r w' H locs 75 ls [] := by
        intro v3_36 w_36 H locs ls h hl hf
        refine lv_aload_n hx hb dX4_feed_75 rfl (lv_at hl 0 rfl) ?_
        refine fg_get (C := RX4) (T := TX4) (N := 22) S vu_X4 hK h fg_p4_0 rfl rfl 9 (by decide) vf_RX4_211 rfl rfl dX4_feed_76 ?_
        exact fg_reti hx hb hr hlk hK h hf dX4_feed_79
      have hL_36 : ∀ (KK_36 : Int32 → fg_W → Option (Int32 × fg_W)) (hK_36 : ∀ (v3_36 : Int32) (w_36 : fg_W) (H : Heap) (locs : List Loc) (ls : Array Slot), fg_H D g s.heap w_36 H locs → lv_has ls 4 [(0, .ref (g.1 4 0 0)), (1, .int a1), (2, .int a2), (3, .int v3_36)] → KK_36 v3_36 w_36 = some (r, w') → fg_Gi p l e 1 22 s m [.ref (g.1 4 0 0), .int a1, .int a2] below meth c D g r w' H locs 75 ls []) (n : Nat) (v3_36 : Int32) (w_36 : fg_W) (H : Heap) (locs : List Loc) (ls : Array Slot), fg_H D g s.heap w_36 H locs → lv_has ls 4 [(0, .ref (g.1 4 0 0)), (1, .int a1), (2, .int a2), (3, .int v3_36)] → f_X4_feed_L36 a1 KK_36 n v3_36 w_36 = some (r, w') → fg_Gi p l e 1 22 s m [.ref (g.1 4 0 0), .int a1, .int a2] below meth c D g r w' H locs 36 ls [] := by
        intro KK_36 hK_36 n
        induction n with
        | zero => intro v3_36 w_36 H locs ls h hl hf; exact fg_no hf
        | succ n_36 ih_36 =>
          intro v3_36 w_36 H locs ls h hl hf
          unfold f_X4_feed_L36 at hf
          refine lv_iload_n hx hb dX4_feed_36 rfl (lv_at hl 3 rfl) ?_
          refine lv_if_lt (tgt := 75) hx hb dX4_feed_37 (by decide) (fun hc => ?_) (fun hc => ?_)
          · have hf := fg_ifT hf hc
            exact hK_36 v3_36 w_36 _ _ ls h (lv_sub hl [0, 1, 2, 3] rfl) hf
          · have hf := fg_ifF hf hc
            refine lv_aload_n hx hb dX4_feed_40 rfl (lv_at hl 0 rfl) ?_
            refine fg_get (C := RX4) (T := TX4) (N := 22) S vu_X4 hK h fg_p4_0 rfl rfl 8 (by decide) vf_RX4_28 rfl rfl dX4_feed_41 ?_
            refine lv_aload_n hx hb dX4_feed_44 rfl (lv_at hl 0 rfl) ?_
            refine fg_get (C := RX4) (T := TX4) (N := 22) S vu_X4 hK h fg_p4_0 rfl rfl 9 (by decide) vf_RX4_211 rfl rfl dX4_feed_45 ?_
            refine lv_iload_n hx hb dX4_feed_48 rfl (lv_at hl 1 rfl) ?_
            refine lv_bipush (v := 8) hx hb dX4_feed_49 rfl ?_
            refine lv_iload_n hx hb dX4_feed_51 rfl (lv_at hl 3 rfl) ?_
            refine lv_imul hx hb dX4_feed_52 ?_
            refine lv_ishr hx hb dX4_feed_53 ?_
            refine lv_sipush (v := 255) hx hb dX4_feed_54 rfl ?_
            refine lv_iand hx hb dX4_feed_57 ?_
            obtain ⟨hn9, hf⟩ := fg_gdE hf
            refine fg_iast hx hb hK h fg_p4_7 (fun _ => rfl) hn9 dX4_feed_58 (fun w8 H locs ew h => ?_)
            have hf := fg_letE ew hf
            refine lv_aload_n hx hb dX4_feed_59 rfl (lv_at hl 0 rfl) ?_
            refine lv_dup hx hb dX4_feed_60 rfl ?_
            refine fg_get (C := RX4) (T := TX4) (N := 22) S vu_X4 hK h fg_p4_0 rfl rfl 9 (by decide) vf_RX4_211 rfl rfl dX4_feed_61 ?_
            refine lv_iconst (v := 1) hx hb dX4_feed_64 rfl ?_
            refine lv_iadd hx hb dX4_feed_65 ?_
            refine fg_putI (C := RX4) (T := TX4) (N := 22) (fs := (fun f => fg_f4 g 0 f w8.2)) S vu_X4 tyX4 tyX4_ok nmX4 hK h fg_p4_0 (fun _ e4 => by rw [← e4]; rfl) rfl 9 (by decide) vf_RX4_211 rfl rfl (tyX4_ok 9 (by decide)) rfl rfl (fun _ => Nat.le_of_ble_eq_true rfl) (fun _ => rfl) dX4_feed_66 (fun w10 H locs ew h => ?_)
            have hf := fg_letE ew hf
            refine lv_iinc (v := (v3_36 + (-1))) (lv' := [(3, .int (v3_36 + (-1))), (0, .ref (g.1 4 0 0)), (1, .int a1), (2, .int a2)]) hx hb dX4_feed_69 hl (k := 3) rfl rfl (by decide) rfl (fun ls hl => ?_)
            refine lv_goto (tgt := 36) hx hb dX4_feed_72 (by decide) ?_
            exact ih_36 (v3_36 + (-1)) w10 _ _ ls h (lv_sub hl [1, 2, 3, 0] rfl) hf
      exact hL_36 _ hK_36 fg_fuel x4 w1 _ _ ls h (lv_sub hl [1, 2, 3, 0] rfl) hf
    · have hf := fg_ifF hf hc
      refine lv_aload_n hx hb dX4_feed_26 rfl (lv_at hl 0 rfl) ?_
      refine lv_iconst (v := 1) hx hb dX4_feed_27 rfl ?_
      obtain ⟨r13, w11, hc12, hf⟩ := fg_biE hf
      refine fg_ci h (fg_runV (rest := []) S hK h (c_X4_no l D g 1  w1 r13 w11 hc12) vg_RX4_129 vd_X4_no ⟨by decide, by decide⟩ fg_p4_0 rfl rfl rfl hl.1 rfl (Nat.le_of_ble_eq_true rfl) dX4_feed_28 ⟨Nat.zero_le _, Nat.zero_le _⟩) (fun H locs h => ?_)
      exact fg_reti hx hb hr hlk hK h hf dX4_feed_31
  · have hf := fg_ifT hf hc
    refine lv_aload_n hx hb dX4_feed_9 rfl (lv_at hl 0 rfl) ?_
    refine lv_iconst (v := 0) hx hb dX4_feed_10 rfl ?_
    obtain ⟨r16, w14, hc15, hf⟩ := fg_biE hf
    refine fg_ci h (fg_runV (rest := []) S hK h (c_X4_no l D g 0  w1 r16 w14 hc15) vg_RX4_129 vd_X4_no ⟨by decide, by decide⟩ fg_p4_0 rfl rfl rfl hl.1 rfl (Nat.le_of_ble_eq_true rfl) dX4_feed_11 ⟨Nat.zero_le _, Nat.zero_le _⟩) (fun H locs h => ?_)
    exact fg_reti hx hb hr hlk hK h hf dX4_feed_14
set_option maxHeartbeats 4000000 in
set_option maxRecDepth 100000 in
theorem c_X4_wipe (l : Launch) (D : va_G) (g : fg_G)  (w : fg_W) (r : Int32) (w' : fg_W) (hf : f_X4_wipe  w = some (r, w')) : fg_M l yX4_wipe cX4_wipe 2 (some .int) 0 0 D g [.ref (g.1 4 0 0)] w (fg_Qi D g r w') := by
  refine fg_M.of rfl (Nat.le_of_ble_eq_true rfl) (fun p e s m below meth c ls S hr hlk hK h hl => ?_)
  have hx := S.1
  have hb := S.2.1
  have hl : lv_has ls 2 [(0, .ref (g.1 4 0 0))] := hl
  unfold f_X4_wipe at hf
  refine lv_aload_n hx hb dX4_wipe_0 rfl (lv_at hl 0 rfl) ?_
  refine fg_get (C := RX4) (T := TX4) (N := 22) S vu_X4 hK h fg_p4_0 rfl rfl 9 (by decide) vf_RX4_211 rfl rfl dX4_wipe_1 ?_
  refine lv_topi (fun x1 e_x1 => ?_)
  have hf := fg_letE e_x1 hf
  refine lv_istore_n (lv' := [(1, .int x1), (0, .ref (g.1 4 0 0))]) hx hb dX4_wipe_4 rfl hl (by decide) rfl (fun ls hl => ?_)
  refine lv_aload_n hx hb dX4_wipe_5 rfl (lv_at hl 1 rfl) ?_
  refine lv_iconst (v := 0) hx hb dX4_wipe_6 rfl ?_
  refine fg_putI (C := RX4) (T := TX4) (N := 22) (fs := (fun f => fg_f4 g 0 f w.2)) S vu_X4 tyX4 tyX4_ok nmX4 hK h fg_p4_0 (fun _ e4 => by rw [← e4]; rfl) rfl 9 (by decide) vf_RX4_211 rfl rfl (tyX4_ok 9 (by decide)) rfl rfl (fun _ => Nat.le_of_ble_eq_true rfl) (fun _ => rfl) dX4_wipe_7 (fun w2 H locs ew h => ?_)
  have hf := fg_letE ew hf
  refine lv_iload_n hx hb dX4_wipe_10 rfl (lv_at hl 0 rfl) ?_
  exact fg_reti hx hb hr hlk hK h hf dX4_wipe_11
set_option maxHeartbeats 4000000 in
set_option maxRecDepth 100000 in
theorem c_X4_isLetter (l : Launch) (D : va_G) (g : fg_G) (a1 : Int32) (w : fg_W) (r : Int32) (w' : fg_W) (hf : f_X4_isLetter a1 w = some (r, w')) : fg_M l yX4_isLetter cX4_isLetter 1 (some .boolean) 1 22 D g [.int a1] w (fg_Qi D g r w') := by
  refine fg_M.of rfl (Nat.le_of_ble_eq_true rfl) (fun p e s m below meth c ls S hr hlk hK h hl => ?_)
  have hx := S.1
  have hb := S.2.1
  have hl : lv_has ls 1 [(0, .int a1)] := hl
  unfold f_X4_isLetter at hf
  refine lv_iload_n hx hb dX4_isLetter_0 rfl (lv_at hl 0 rfl) ?_
  refine lv_bipush (v := 97) hx hb dX4_isLetter_1 rfl ?_
  refine lv_bipush (v := 122) hx hb dX4_isLetter_3 rfl ?_
  obtain ⟨r3, w1, hc2, hf⟩ := fg_biE hf
  refine fg_ci h (fg_runS (rest := []) S hK h (c_X4_in1 l D g a1 97 122  w r3 w1 hc2) vk_X4_in1 vm_RX4_61 vs_X4_in1 vi_RX4 vd_X4_in1.2 ⟨by decide, by decide⟩ rfl hl.1 rfl (Nat.le_of_ble_eq_true rfl) dX4_isLetter_5 ⟨Nat.zero_le _, Nat.zero_le _⟩) (fun H locs h => ?_)
  obtain ⟨hz, hf⟩ := fg_gpE hf
  exact fg_retz hx hb hr hlk hK h hf hz dX4_isLetter_8
set_option maxHeartbeats 4000000 in
set_option maxRecDepth 100000 in
theorem c_X4_isDigit (l : Launch) (D : va_G) (g : fg_G) (a1 : Int32) (w : fg_W) (r : Int32) (w' : fg_W) (hf : f_X4_isDigit a1 w = some (r, w')) : fg_M l yX4_isDigit cX4_isDigit 1 (some .boolean) 1 22 D g [.int a1] w (fg_Qi D g r w') := by
  refine fg_M.of rfl (Nat.le_of_ble_eq_true rfl) (fun p e s m below meth c ls S hr hlk hK h hl => ?_)
  have hx := S.1
  have hb := S.2.1
  have hl : lv_has ls 1 [(0, .int a1)] := hl
  unfold f_X4_isDigit at hf
  refine lv_iload_n hx hb dX4_isDigit_0 rfl (lv_at hl 0 rfl) ?_
  refine lv_bipush (v := 48) hx hb dX4_isDigit_1 rfl ?_
  refine lv_bipush (v := 57) hx hb dX4_isDigit_3 rfl ?_
  obtain ⟨r3, w1, hc2, hf⟩ := fg_biE hf
  refine fg_ci h (fg_runS (rest := []) S hK h (c_X4_in1 l D g a1 48 57  w r3 w1 hc2) vk_X4_in1 vm_RX4_61 vs_X4_in1 vi_RX4 vd_X4_in1.2 ⟨by decide, by decide⟩ rfl hl.1 rfl (Nat.le_of_ble_eq_true rfl) dX4_isDigit_5 ⟨Nat.zero_le _, Nat.zero_le _⟩) (fun H locs h => ?_)
  obtain ⟨hz, hf⟩ := fg_gpE hf
  exact fg_retz hx hb hr hlk hK h hf hz dX4_isDigit_8
set_option maxHeartbeats 4000000 in
set_option maxRecDepth 100000 in
theorem c_X4_nextToken (l : Launch) (D : va_G) (g : fg_G)  (w : fg_W) (w' : fg_W) (hf : f_X4_nextToken  w = some w') : fg_M l yX4_nextToken cX4_nextToken 1 none 2 42 D g [.ref (g.1 4 0 0)] w (fg_Qv D g w') := by
  refine fg_M.of rfl (Nat.le_of_ble_eq_true rfl) (fun p e s m below meth c ls S hr hlk hK h hl => ?_)
  have hx := S.1
  have hb := S.2.1
  have hl : lv_has ls 1 [(0, .ref (g.1 4 0 0))] := hl
  unfold f_X4_nextToken at hf
  refine lv_aload_n hx hb dX4_nextToken_0 rfl (lv_at hl 0 rfl) ?_
  refine lv_aload_n hx hb dX4_nextToken_1 rfl (lv_at hl 0 rfl) ?_
  refine fg_get (C := RX4) (T := TX4) (N := 22) S vu_X4 hK h fg_p4_0 rfl rfl 12 (by decide) vf_RX4_214 rfl rfl dX4_nextToken_2 ?_
  refine fg_putI (C := RX4) (T := TX4) (N := 22) (fs := (fun f => fg_f4 g 0 f w.2)) S vu_X4 tyX4 tyX4_ok nmX4 hK h fg_p4_0 (fun _ e4 => by rw [← e4]; rfl) rfl 11 (by decide) vf_RX4_217 rfl rfl (tyX4_ok 11 (by decide)) rfl rfl (fun _ => Nat.le_of_ble_eq_true rfl) (fun _ => rfl) dX4_nextToken_5 (fun w1 H locs ew h => ?_)
  have hf := fg_letE ew hf
  have hK_8 : ∀ (w_8 : fg_W) (H : Heap) (locs : List Loc) (ls : Array Slot), fg_H D g s.heap w_8 H locs → lv_has ls 1 [(0, .ref (g.1 4 0 0))] → (fg_let (fg_st w_8 4 0 0 (upd (w_8.1 4 0 0) 12 (w_8.1 4 0 0 11))) (fun w2 => fg_let (fg_sl w2 0) (fun w3 => if (w3.1 4 0 0 11) = (w3.1 4 0 0 9) then (fg_let (fg_st w3 4 0 0 (upd (w3.1 4 0 0) 10 0)) (fun w56 => some w56)) else (fg_gd (w3.1 4 0 0 11) 120 (fg_bi (f_X4_isLetter (w3.1 4 0 7 (w3.1 4 0 0 11).toNatClampNeg) w3) (fun r7 w5 => if r7 = 0 then (fg_gd (w5.1 4 0 0 11) 120 (fg_bi (f_X4_isDigit (w5.1 4 0 7 (w5.1 4 0 0 11).toNatClampNeg) w5) (fun r11 w9 => if r11 = 0 then (fg_gd (w9.1 4 0 0 11) 120 (if (w9.1 4 0 7 (w9.1 4 0 0 11).toNatClampNeg) = 59 then (fg_let (fg_st w9 4 0 0 (upd (w9.1 4 0 0) 10 3)) (fun w15 => fg_let (fg_st w15 4 0 0 (upd (w15.1 4 0 0) 12 ((w15.1 4 0 0 12) + 1))) (fun w16 => some w16))) else (fg_let (fg_st w9 4 0 0 (upd (w9.1 4 0 0) 10 4)) (fun w13 => fg_let (fg_st w13 4 0 0 (upd (w13.1 4 0 0) 12 ((w13.1 4 0 0 12) + 1))) (fun w14 => some w14))))) else (f_X4_nextToken_L197  (fun  w_197 => if (lg_cmp w_197.2 9999) ≤ 0 then (fg_let (fg_st w_197 4 0 0 (upd (w_197.1 4 0 0) 10 2)) (fun w17 => some w17)) else (fg_let (fg_st w_197 4 0 0 (upd (w_197.1 4 0 0) 10 4)) (fun w18 => some w18))) fg_fuel w9)))) else (fg_let (fg_st w5 4 0 0 (upd (w5.1 4 0 0) 10 1)) (fun w37 => f_X4_nextToken_L98  (fun  w_98 => some w_98) fg_fuel w37)))))))) = some w' → fg_Gv p l e 2 42 s m [.ref (g.1 4 0 0)] below meth c D g w' H locs 46 ls [] := by
    intro  w_8 H locs ls h hl hf
    refine lv_aload_n hx hb dX4_nextToken_46 rfl (lv_at hl 0 rfl) ?_
    refine lv_aload_n hx hb dX4_nextToken_47 rfl (lv_at hl 0 rfl) ?_
    refine fg_get (C := RX4) (T := TX4) (N := 22) S vu_X4 hK h fg_p4_0 rfl rfl 11 (by decide) vf_RX4_217 rfl rfl dX4_nextToken_48 ?_
    refine fg_putI (C := RX4) (T := TX4) (N := 22) (fs := (fun f => fg_f4 g 0 f w_8.2)) S vu_X4 tyX4 tyX4_ok nmX4 hK h fg_p4_0 (fun _ e4 => by rw [← e4]; rfl) rfl 12 (by decide) vf_RX4_214 rfl rfl (tyX4_ok 12 (by decide)) rfl rfl (fun _ => Nat.le_of_ble_eq_true rfl) (fun _ => rfl) dX4_nextToken_51 (fun w2 H locs ew h => ?_)
    have hf := fg_letE ew hf
    refine lv_aload_n hx hb dX4_nextToken_54 rfl (lv_at hl 0 rfl) ?_
    refine lv_lconst (v := 0) hx hb dX4_nextToken_55 rfl ?_
    refine fg_putL S hK h vf_RX4_220 dX4_nextToken_56 (fun w3 H locs ew h => ?_)
    have hf := fg_letE ew hf
    refine lv_aload_n hx hb dX4_nextToken_59 rfl (lv_at hl 0 rfl) ?_
    refine fg_get (C := RX4) (T := TX4) (N := 22) S vu_X4 hK h fg_p4_0 rfl rfl 11 (by decide) vf_RX4_217 rfl rfl dX4_nextToken_60 ?_
    refine lv_aload_n hx hb dX4_nextToken_63 rfl (lv_at hl 0 rfl) ?_
    refine fg_get (C := RX4) (T := TX4) (N := 22) S vu_X4 hK h fg_p4_0 rfl rfl 9 (by decide) vf_RX4_211 rfl rfl dX4_nextToken_64 ?_
    refine lv_icmp_ne (tgt := 78) hx hb dX4_nextToken_67 (by decide) (fun hc => ?_) (fun hc => ?_)
    · have hf := fg_ifF hf hc
      refine lv_aload_n hx hb dX4_nextToken_78 rfl (lv_at hl 0 rfl) ?_
      refine fg_get (C := RX4) (T := TX4) (N := 22) S vu_X4 hK h fg_p4_0 rfl rfl 8 (by decide) vf_RX4_28 rfl rfl dX4_nextToken_79 ?_
      refine lv_aload_n hx hb dX4_nextToken_82 rfl (lv_at hl 0 rfl) ?_
      refine fg_get (C := RX4) (T := TX4) (N := 22) S vu_X4 hK h fg_p4_0 rfl rfl 11 (by decide) vf_RX4_217 rfl rfl dX4_nextToken_83 ?_
      obtain ⟨hn4, hf⟩ := fg_gdE hf
      refine fg_iald hx hb hK h fg_p4_7 (fun _ => rfl) hn4 dX4_nextToken_86 ?_
      obtain ⟨r7, w5, hc6, hf⟩ := fg_biE hf
      refine fg_ci h (fg_runS (rest := []) S hK h (c_X4_isLetter l D g (w3.1 4 0 7 (w3.1 4 0 0 11).toNatClampNeg)  w3 r7 w5 hc6) vk_X4_isLetter vm_RX4_227 vs_X4_isLetter vi_RX4 vd_X4_isLetter.2 ⟨by decide, by decide⟩ rfl hl.1 rfl (Nat.le_of_ble_eq_true rfl) dX4_nextToken_87 ⟨Nat.zero_le _, Nat.zero_le _⟩) (fun H locs h => ?_)
      refine lv_if_eq (tgt := 182) hx hb dX4_nextToken_90 (by decide) (fun hc => ?_) (fun hc => ?_)
      · have hf := fg_ifT hf hc
        refine lv_aload_n hx hb dX4_nextToken_182 rfl (lv_at hl 0 rfl) ?_
        refine fg_get (C := RX4) (T := TX4) (N := 22) S vu_X4 hK h fg_p4_0 rfl rfl 8 (by decide) vf_RX4_28 rfl rfl dX4_nextToken_183 ?_
        refine lv_aload_n hx hb dX4_nextToken_186 rfl (lv_at hl 0 rfl) ?_
        refine fg_get (C := RX4) (T := TX4) (N := 22) S vu_X4 hK h fg_p4_0 rfl rfl 11 (by decide) vf_RX4_217 rfl rfl dX4_nextToken_187 ?_
        obtain ⟨hn8, hf⟩ := fg_gdE hf
        refine fg_iald hx hb hK h fg_p4_7 (fun _ => rfl) hn8 dX4_nextToken_190 ?_
        obtain ⟨r11, w9, hc10, hf⟩ := fg_biE hf
        refine fg_ci h (fg_runS (rest := []) S hK h (c_X4_isDigit l D g (w5.1 4 0 7 (w5.1 4 0 0 11).toNatClampNeg)  w5 r11 w9 hc10) vk_X4_isDigit vm_RX4_236 vs_X4_isDigit vi_RX4 vd_X4_isDigit.2 ⟨by decide, by decide⟩ rfl hl.1 rfl (Nat.le_of_ble_eq_true rfl) dX4_nextToken_191 ⟨Nat.zero_le _, Nat.zero_le _⟩) (fun H locs h => ?_)
        refine lv_if_eq (tgt := 304) hx hb dX4_nextToken_194 (by decide) (fun hc => ?_) (fun hc => ?_)
        · have hf := fg_ifT hf hc
          refine lv_aload_n hx hb dX4_nextToken_304 rfl (lv_at hl 0 rfl) ?_
          refine lv_aload_n hx hb dX4_nextToken_305 rfl (lv_at hl 0 rfl) ?_
          refine fg_get (C := RX4) (T := TX4) (N := 22) S vu_X4 hK h fg_p4_0 rfl rfl 8 (by decide) vf_RX4_28 rfl rfl dX4_nextToken_306 ?_
          refine lv_aload_n hx hb dX4_nextToken_309 rfl (lv_at hl 0 rfl) ?_
          refine fg_get (C := RX4) (T := TX4) (N := 22) S vu_X4 hK h fg_p4_0 rfl rfl 11 (by decide) vf_RX4_217 rfl rfl dX4_nextToken_310 ?_
          obtain ⟨hn12, hf⟩ := fg_gdE hf
          refine fg_iald hx hb hK h fg_p4_7 (fun _ => rfl) hn12 dX4_nextToken_313 ?_
          refine lv_bipush (v := 59) hx hb dX4_nextToken_314 rfl ?_
          refine lv_icmp_ne (tgt := 323) hx hb dX4_nextToken_316 (by decide) (fun hc => ?_) (fun hc => ?_)
          · have hf := fg_ifF hf hc
            refine lv_iconst (v := 4) hx hb dX4_nextToken_323 rfl ?_
            refine fg_putI (C := RX4) (T := TX4) (N := 22) (fs := (fun f => fg_f4 g 0 f w9.2)) S vu_X4 tyX4 tyX4_ok nmX4 hK h fg_p4_0 (fun _ e4 => by rw [← e4]; rfl) rfl 10 (by decide) vf_RX4_224 rfl rfl (tyX4_ok 10 (by decide)) rfl rfl (fun _ => Nat.le_of_ble_eq_true rfl) (fun _ => rfl) dX4_nextToken_324 (fun w13 H locs ew h => ?_)
            have hf := fg_letE ew hf
            refine lv_aload_n hx hb dX4_nextToken_327 rfl (lv_at hl 0 rfl) ?_
            refine lv_dup hx hb dX4_nextToken_328 rfl ?_
            refine fg_get (C := RX4) (T := TX4) (N := 22) S vu_X4 hK h fg_p4_0 rfl rfl 12 (by decide) vf_RX4_214 rfl rfl dX4_nextToken_329 ?_
            refine lv_iconst (v := 1) hx hb dX4_nextToken_332 rfl ?_
            refine lv_iadd hx hb dX4_nextToken_333 ?_
            refine fg_putI (C := RX4) (T := TX4) (N := 22) (fs := (fun f => fg_f4 g 0 f w13.2)) S vu_X4 tyX4 tyX4_ok nmX4 hK h fg_p4_0 (fun _ e4 => by rw [← e4]; rfl) rfl 12 (by decide) vf_RX4_214 rfl rfl (tyX4_ok 12 (by decide)) rfl rfl (fun _ => Nat.le_of_ble_eq_true rfl) (fun _ => rfl) dX4_nextToken_334 (fun w14 H locs ew h => ?_)
            have hf := fg_letE ew hf
            exact fg_retv hx hb hr hlk hK h hf dX4_nextToken_337
          · have hf := fg_ifT hf hc
            refine lv_iconst (v := 3) hx hb dX4_nextToken_319 rfl ?_
            refine lv_goto (tgt := 324) hx hb dX4_nextToken_320 (by decide) ?_
            refine fg_putI (C := RX4) (T := TX4) (N := 22) (fs := (fun f => fg_f4 g 0 f w9.2)) S vu_X4 tyX4 tyX4_ok nmX4 hK h fg_p4_0 (fun _ e4 => by rw [← e4]; rfl) rfl 10 (by decide) vf_RX4_224 rfl rfl (tyX4_ok 10 (by decide)) rfl rfl (fun _ => Nat.le_of_ble_eq_true rfl) (fun _ => rfl) dX4_nextToken_324 (fun w15 H locs ew h => ?_)
            have hf := fg_letE ew hf
            refine lv_aload_n hx hb dX4_nextToken_327 rfl (lv_at hl 0 rfl) ?_
            refine lv_dup hx hb dX4_nextToken_328 rfl ?_
            refine fg_get (C := RX4) (T := TX4) (N := 22) S vu_X4 hK h fg_p4_0 rfl rfl 12 (by decide) vf_RX4_214 rfl rfl dX4_nextToken_329 ?_
            refine lv_iconst (v := 1) hx hb dX4_nextToken_332 rfl ?_
            refine lv_iadd hx hb dX4_nextToken_333 ?_
            refine fg_putI (C := RX4) (T := TX4) (N := 22) (fs := (fun f => fg_f4 g 0 f w15.2)) S vu_X4 tyX4 tyX4_ok nmX4 hK h fg_p4_0 (fun _ e4 => by rw [← e4]; rfl) rfl 12 (by decide) vf_RX4_214 rfl rfl (tyX4_ok 12 (by decide)) rfl rfl (fun _ => Nat.le_of_ble_eq_true rfl) (fun _ => rfl) dX4_nextToken_334 (fun w16 H locs ew h => ?_)
            have hf := fg_letE ew hf
            exact fg_retv hx hb hr hlk hK h hf dX4_nextToken_337
        · have hf := fg_ifF hf hc
          have hK_197 : ∀ (w_197 : fg_W) (H : Heap) (locs : List Loc) (ls : Array Slot), fg_H D g s.heap w_197 H locs → lv_has ls 1 [(0, .ref (g.1 4 0 0))] → (if (lg_cmp w_197.2 9999) ≤ 0 then (fg_let (fg_st w_197 4 0 0 (upd (w_197.1 4 0 0) 10 2)) (fun w17 => some w17)) else (fg_let (fg_st w_197 4 0 0 (upd (w_197.1 4 0 0) 10 4)) (fun w18 => some w18))) = some w' → fg_Gv p l e 2 42 s m [.ref (g.1 4 0 0)] below meth c D g w' H locs 281 ls [] := by
            intro  w_197 H locs ls h hl hf
            refine lv_aload_n hx hb dX4_nextToken_281 rfl (lv_at hl 0 rfl) ?_
            refine lv_aload_n hx hb dX4_nextToken_282 rfl (lv_at hl 0 rfl) ?_
            refine fg_get (C := RX4) (T := TX4) (N := 22) S vu_X4 hK h fg_p4_0 rfl rfl 13 (by decide) vf_RX4_220 rfl rfl dX4_nextToken_283 ?_
            refine lv_ldc2 hx hb S.2.2.2.1 (S.2.2.2.2 _ vl_RX4_239) dX4_nextToken_286 ?_
            refine W.lcmp hx hb dX4_nextToken_289 ?_
            refine lv_if_le (tgt := 297) hx hb dX4_nextToken_290 (by decide) (fun hc => ?_) (fun hc => ?_)
            · have hf := fg_ifT hf hc
              refine lv_iconst (v := 2) hx hb dX4_nextToken_297 rfl ?_
              refine fg_putI (C := RX4) (T := TX4) (N := 22) (fs := (fun f => fg_f4 g 0 f w_197.2)) S vu_X4 tyX4 tyX4_ok nmX4 hK h fg_p4_0 (fun _ e4 => by rw [← e4]; rfl) rfl 10 (by decide) vf_RX4_224 rfl rfl (tyX4_ok 10 (by decide)) rfl rfl (fun _ => Nat.le_of_ble_eq_true rfl) (fun _ => rfl) dX4_nextToken_298 (fun w17 H locs ew h => ?_)
              have hf := fg_letE ew hf
              refine lv_goto (tgt := 337) hx hb dX4_nextToken_301 (by decide) ?_
              exact fg_retv hx hb hr hlk hK h hf dX4_nextToken_337
            · have hf := fg_ifF hf hc
              refine lv_iconst (v := 4) hx hb dX4_nextToken_293 rfl ?_
              refine lv_goto (tgt := 298) hx hb dX4_nextToken_294 (by decide) ?_
              refine fg_putI (C := RX4) (T := TX4) (N := 22) (fs := (fun f => fg_f4 g 0 f w_197.2)) S vu_X4 tyX4 tyX4_ok nmX4 hK h fg_p4_0 (fun _ e4 => by rw [← e4]; rfl) rfl 10 (by decide) vf_RX4_224 rfl rfl (tyX4_ok 10 (by decide)) rfl rfl (fun _ => Nat.le_of_ble_eq_true rfl) (fun _ => rfl) dX4_nextToken_298 (fun w18 H locs ew h => ?_)
              have hf := fg_letE ew hf
              refine lv_goto (tgt := 337) hx hb dX4_nextToken_301 (by decide) ?_
              exact fg_retv hx hb hr hlk hK h hf dX4_nextToken_337
          have hL_197 : ∀ (KK_197 : fg_W → Option fg_W) (hK_197 : ∀ (w_197 : fg_W) (H : Heap) (locs : List Loc) (ls : Array Slot), fg_H D g s.heap w_197 H locs → lv_has ls 1 [(0, .ref (g.1 4 0 0))] → KK_197  w_197 = some w' → fg_Gv p l e 2 42 s m [.ref (g.1 4 0 0)] below meth c D g w' H locs 281 ls []) (n : Nat) (w_197 : fg_W) (H : Heap) (locs : List Loc) (ls : Array Slot), fg_H D g s.heap w_197 H locs → lv_has ls 1 [(0, .ref (g.1 4 0 0))] → f_X4_nextToken_L197  KK_197 n  w_197 = some w' → fg_Gv p l e 2 42 s m [.ref (g.1 4 0 0)] below meth c D g w' H locs 197 ls [] := by
            intro KK_197 hK_197 n
            induction n with
            | zero => intro  w_197 H locs ls h hl hf; exact fg_no hf
            | succ n_197 ih_197 =>
              intro  w_197 H locs ls h hl hf
              unfold f_X4_nextToken_L197 at hf
              refine lv_aload_n hx hb dX4_nextToken_197 rfl (lv_at hl 0 rfl) ?_
              refine fg_get (C := RX4) (T := TX4) (N := 22) S vu_X4 hK h fg_p4_0 rfl rfl 12 (by decide) vf_RX4_214 rfl rfl dX4_nextToken_198 ?_
              refine lv_aload_n hx hb dX4_nextToken_201 rfl (lv_at hl 0 rfl) ?_
              refine fg_get (C := RX4) (T := TX4) (N := 22) S vu_X4 hK h fg_p4_0 rfl rfl 9 (by decide) vf_RX4_211 rfl rfl dX4_nextToken_202 ?_
              refine lv_icmp_ge (tgt := 281) hx hb dX4_nextToken_205 (by decide) (fun hc => ?_) (fun hc => ?_)
              · have hf := fg_ifT hf hc
                exact hK_197 w_197 _ _ ls h (lv_sub hl [0] rfl) hf
              · have hf := fg_ifF hf hc
                refine lv_aload_n hx hb dX4_nextToken_208 rfl (lv_at hl 0 rfl) ?_
                refine fg_get (C := RX4) (T := TX4) (N := 22) S vu_X4 hK h fg_p4_0 rfl rfl 8 (by decide) vf_RX4_28 rfl rfl dX4_nextToken_209 ?_
                refine lv_aload_n hx hb dX4_nextToken_212 rfl (lv_at hl 0 rfl) ?_
                refine fg_get (C := RX4) (T := TX4) (N := 22) S vu_X4 hK h fg_p4_0 rfl rfl 12 (by decide) vf_RX4_214 rfl rfl dX4_nextToken_213 ?_
                obtain ⟨hn28, hf⟩ := fg_gdE hf
                refine fg_iald hx hb hK h fg_p4_7 (fun _ => rfl) hn28 dX4_nextToken_216 ?_
                obtain ⟨r31, w29, hc30, hf⟩ := fg_biE hf
                refine fg_ci h (fg_runS (rest := []) S hK h (c_X4_isDigit l D g (w_197.1 4 0 7 (w_197.1 4 0 0 12).toNatClampNeg)  w_197 r31 w29 hc30) vk_X4_isDigit vm_RX4_236 vs_X4_isDigit vi_RX4 vd_X4_isDigit.2 ⟨by decide, by decide⟩ rfl hl.1 rfl (Nat.le_of_ble_eq_true rfl) dX4_nextToken_217 ⟨Nat.zero_le _, Nat.zero_le _⟩) (fun H locs h => ?_)
                refine lv_if_eq (tgt := 281) hx hb dX4_nextToken_220 (by decide) (fun hc => ?_) (fun hc => ?_)
                · have hf := fg_ifT hf hc
                  exact hK_197 w29 _ _ ls h (lv_sub hl [0] rfl) hf
                · have hf := fg_ifF hf hc
                  refine lv_aload_n hx hb dX4_nextToken_223 rfl (lv_at hl 0 rfl) ?_
                  refine lv_aload_n hx hb dX4_nextToken_224 rfl (lv_at hl 0 rfl) ?_
                  refine fg_get (C := RX4) (T := TX4) (N := 22) S vu_X4 hK h fg_p4_0 rfl rfl 13 (by decide) vf_RX4_220 rfl rfl dX4_nextToken_225 ?_
                  refine lv_ldc2 hx hb S.2.2.2.1 (S.2.2.2.2 _ vl_RX4_239) dX4_nextToken_228 ?_
                  refine W.lcmp hx hb dX4_nextToken_231 ?_
                  refine lv_if_le (tgt := 242) hx hb dX4_nextToken_232 (by decide) (fun hc => ?_) (fun hc => ?_)
                  · have hf := fg_ifT hf hc
                    refine lv_aload_n hx hb dX4_nextToken_242 rfl (lv_at hl 0 rfl) ?_
                    refine fg_get (C := RX4) (T := TX4) (N := 22) S vu_X4 hK h fg_p4_0 rfl rfl 13 (by decide) vf_RX4_220 rfl rfl dX4_nextToken_243 ?_
                    refine lv_ldc2 hx hb S.2.2.2.1 (S.2.2.2.2 _ vl_RX4_209) dX4_nextToken_246 ?_
                    refine lv_lmul hx hb dX4_nextToken_249 ?_
                    refine lv_aload_n hx hb dX4_nextToken_250 rfl (lv_at hl 0 rfl) ?_
                    refine fg_get (C := RX4) (T := TX4) (N := 22) S vu_X4 hK h fg_p4_0 rfl rfl 8 (by decide) vf_RX4_28 rfl rfl dX4_nextToken_251 ?_
                    refine lv_aload_n hx hb dX4_nextToken_254 rfl (lv_at hl 0 rfl) ?_
                    refine fg_get (C := RX4) (T := TX4) (N := 22) S vu_X4 hK h fg_p4_0 rfl rfl 12 (by decide) vf_RX4_214 rfl rfl dX4_nextToken_255 ?_
                    obtain ⟨hn32, hf⟩ := fg_gdE hf
                    refine fg_iald hx hb hK h fg_p4_7 (fun _ => rfl) hn32 dX4_nextToken_258 ?_
                    refine lv_i2l hx hb dX4_nextToken_259 rfl ?_
                    refine lv_ladd hx hb dX4_nextToken_260 ?_
                    refine lv_ldc2 hx hb S.2.2.2.1 (S.2.2.2.2 _ vl_RX4_241) dX4_nextToken_261 ?_
                    refine lv_lsub hx hb dX4_nextToken_264 ?_
                    refine fg_putL S hK h vf_RX4_220 dX4_nextToken_265 (fun w33 H locs ew h => ?_)
                    have hf := fg_letE ew hf
                    refine lv_aload_n hx hb dX4_nextToken_268 rfl (lv_at hl 0 rfl) ?_
                    refine lv_dup hx hb dX4_nextToken_269 rfl ?_
                    refine fg_get (C := RX4) (T := TX4) (N := 22) S vu_X4 hK h fg_p4_0 rfl rfl 12 (by decide) vf_RX4_214 rfl rfl dX4_nextToken_270 ?_
                    refine lv_iconst (v := 1) hx hb dX4_nextToken_273 rfl ?_
                    refine lv_iadd hx hb dX4_nextToken_274 ?_
                    refine fg_putI (C := RX4) (T := TX4) (N := 22) (fs := (fun f => fg_f4 g 0 f w33.2)) S vu_X4 tyX4 tyX4_ok nmX4 hK h fg_p4_0 (fun _ e4 => by rw [← e4]; rfl) rfl 12 (by decide) vf_RX4_214 rfl rfl (tyX4_ok 12 (by decide)) rfl rfl (fun _ => Nat.le_of_ble_eq_true rfl) (fun _ => rfl) dX4_nextToken_275 (fun w34 H locs ew h => ?_)
                    have hf := fg_letE ew hf
                    refine lv_goto (tgt := 197) hx hb dX4_nextToken_278 (by decide) ?_
                    exact ih_197 w34 _ _ ls h (lv_sub hl [0] rfl) hf
                  · have hf := fg_ifF hf hc
                    refine lv_aload_n hx hb dX4_nextToken_235 rfl (lv_at hl 0 rfl) ?_
                    refine fg_get (C := RX4) (T := TX4) (N := 22) S vu_X4 hK h fg_p4_0 rfl rfl 13 (by decide) vf_RX4_220 rfl rfl dX4_nextToken_236 ?_
                    refine lv_goto (tgt := 265) hx hb dX4_nextToken_239 (by decide) ?_
                    refine fg_putL S hK h vf_RX4_220 dX4_nextToken_265 (fun w35 H locs ew h => ?_)
                    have hf := fg_letE ew hf
                    refine lv_aload_n hx hb dX4_nextToken_268 rfl (lv_at hl 0 rfl) ?_
                    refine lv_dup hx hb dX4_nextToken_269 rfl ?_
                    refine fg_get (C := RX4) (T := TX4) (N := 22) S vu_X4 hK h fg_p4_0 rfl rfl 12 (by decide) vf_RX4_214 rfl rfl dX4_nextToken_270 ?_
                    refine lv_iconst (v := 1) hx hb dX4_nextToken_273 rfl ?_
                    refine lv_iadd hx hb dX4_nextToken_274 ?_
                    refine fg_putI (C := RX4) (T := TX4) (N := 22) (fs := (fun f => fg_f4 g 0 f w35.2)) S vu_X4 tyX4 tyX4_ok nmX4 hK h fg_p4_0 (fun _ e4 => by rw [← e4]; rfl) rfl 12 (by decide) vf_RX4_214 rfl rfl (tyX4_ok 12 (by decide)) rfl rfl (fun _ => Nat.le_of_ble_eq_true rfl) (fun _ => rfl) dX4_nextToken_275 (fun w36 H locs ew h => ?_)
                    have hf := fg_letE ew hf
                    refine lv_goto (tgt := 197) hx hb dX4_nextToken_278 (by decide) ?_
                    exact ih_197 w36 _ _ ls h (lv_sub hl [0] rfl) hf
          exact hL_197 _ hK_197 fg_fuel w9 _ _ ls h (lv_sub hl [0] rfl) hf
      · have hf := fg_ifF hf hc
        refine lv_aload_n hx hb dX4_nextToken_93 rfl (lv_at hl 0 rfl) ?_
        refine lv_iconst (v := 1) hx hb dX4_nextToken_94 rfl ?_
        refine fg_putI (C := RX4) (T := TX4) (N := 22) (fs := (fun f => fg_f4 g 0 f w5.2)) S vu_X4 tyX4 tyX4_ok nmX4 hK h fg_p4_0 (fun _ e4 => by rw [← e4]; rfl) rfl 10 (by decide) vf_RX4_224 rfl rfl (tyX4_ok 10 (by decide)) rfl rfl (fun _ => Nat.le_of_ble_eq_true rfl) (fun _ => rfl) dX4_nextToken_95 (fun w37 H locs ew h => ?_)
        have hf := fg_letE ew hf
        have hK_98 : ∀ (w_98 : fg_W) (H : Heap) (locs : List Loc) (ls : Array Slot), fg_H D g s.heap w_98 H locs → lv_has ls 1 [(0, .ref (g.1 4 0 0))] → (some w_98) = some w' → fg_Gv p l e 2 42 s m [.ref (g.1 4 0 0)] below meth c D g w' H locs 337 ls [] := by
          intro  w_98 H locs ls h hl hf
          exact fg_retv hx hb hr hlk hK h hf dX4_nextToken_337
        have hL_98 : ∀ (KK_98 : fg_W → Option fg_W) (hK_98 : ∀ (w_98 : fg_W) (H : Heap) (locs : List Loc) (ls : Array Slot), fg_H D g s.heap w_98 H locs → lv_has ls 1 [(0, .ref (g.1 4 0 0))] → KK_98  w_98 = some w' → fg_Gv p l e 2 42 s m [.ref (g.1 4 0 0)] below meth c D g w' H locs 337 ls []) (n : Nat) (w_98 : fg_W) (H : Heap) (locs : List Loc) (ls : Array Slot), fg_H D g s.heap w_98 H locs → lv_has ls 1 [(0, .ref (g.1 4 0 0))] → f_X4_nextToken_L98  KK_98 n  w_98 = some w' → fg_Gv p l e 2 42 s m [.ref (g.1 4 0 0)] below meth c D g w' H locs 98 ls [] := by
          intro KK_98 hK_98 n
          induction n with
          | zero => intro  w_98 H locs ls h hl hf; exact fg_no hf
          | succ n_98 ih_98 =>
            intro  w_98 H locs ls h hl hf
            unfold f_X4_nextToken_L98 at hf
            refine lv_aload_n hx hb dX4_nextToken_98 rfl (lv_at hl 0 rfl) ?_
            refine fg_get (C := RX4) (T := TX4) (N := 22) S vu_X4 hK h fg_p4_0 rfl rfl 12 (by decide) vf_RX4_214 rfl rfl dX4_nextToken_99 ?_
            refine lv_aload_n hx hb dX4_nextToken_102 rfl (lv_at hl 0 rfl) ?_
            refine fg_get (C := RX4) (T := TX4) (N := 22) S vu_X4 hK h fg_p4_0 rfl rfl 9 (by decide) vf_RX4_211 rfl rfl dX4_nextToken_103 ?_
            refine lv_icmp_ge (tgt := 337) hx hb dX4_nextToken_106 (by decide) (fun hc => ?_) (fun hc => ?_)
            · have hf := fg_ifT hf hc
              exact hK_98 w_98 _ _ ls h (lv_sub hl [0] rfl) hf
            · have hf := fg_ifF hf hc
              refine lv_aload_n hx hb dX4_nextToken_109 rfl (lv_at hl 0 rfl) ?_
              refine fg_get (C := RX4) (T := TX4) (N := 22) S vu_X4 hK h fg_p4_0 rfl rfl 8 (by decide) vf_RX4_28 rfl rfl dX4_nextToken_110 ?_
              refine lv_aload_n hx hb dX4_nextToken_113 rfl (lv_at hl 0 rfl) ?_
              refine fg_get (C := RX4) (T := TX4) (N := 22) S vu_X4 hK h fg_p4_0 rfl rfl 12 (by decide) vf_RX4_214 rfl rfl dX4_nextToken_114 ?_
              obtain ⟨hn47, hf⟩ := fg_gdE hf
              refine fg_iald hx hb hK h fg_p4_7 (fun _ => rfl) hn47 dX4_nextToken_117 ?_
              obtain ⟨r50, w48, hc49, hf⟩ := fg_biE hf
              refine fg_ci h (fg_runS (rest := []) S hK h (c_X4_isLetter l D g (w_98.1 4 0 7 (w_98.1 4 0 0 12).toNatClampNeg)  w_98 r50 w48 hc49) vk_X4_isLetter vm_RX4_227 vs_X4_isLetter vi_RX4 vd_X4_isLetter.2 ⟨by decide, by decide⟩ rfl hl.1 rfl (Nat.le_of_ble_eq_true rfl) dX4_nextToken_118 ⟨Nat.zero_le _, Nat.zero_le _⟩) (fun H locs h => ?_)
              refine lv_if_eq (tgt := 337) hx hb dX4_nextToken_121 (by decide) (fun hc => ?_) (fun hc => ?_)
              · have hf := fg_ifT hf hc
                exact hK_98 w48 _ _ ls h (lv_sub hl [0] rfl) hf
              · have hf := fg_ifF hf hc
                refine lv_aload_n hx hb dX4_nextToken_124 rfl (lv_at hl 0 rfl) ?_
                refine lv_aload_n hx hb dX4_nextToken_125 rfl (lv_at hl 0 rfl) ?_
                refine fg_get (C := RX4) (T := TX4) (N := 22) S vu_X4 hK h fg_p4_0 rfl rfl 13 (by decide) vf_RX4_220 rfl rfl dX4_nextToken_126 ?_
                refine lv_ldc2 hx hb S.2.2.2.1 (S.2.2.2.2 _ vl_RX4_230) dX4_nextToken_129 ?_
                refine W.lcmp hx hb dX4_nextToken_132 ?_
                refine lv_if_le (tgt := 143) hx hb dX4_nextToken_133 (by decide) (fun hc => ?_) (fun hc => ?_)
                · have hf := fg_ifT hf hc
                  refine lv_aload_n hx hb dX4_nextToken_143 rfl (lv_at hl 0 rfl) ?_
                  refine fg_get (C := RX4) (T := TX4) (N := 22) S vu_X4 hK h fg_p4_0 rfl rfl 13 (by decide) vf_RX4_220 rfl rfl dX4_nextToken_144 ?_
                  refine lv_ldc2 hx hb S.2.2.2.1 (S.2.2.2.2 _ vl_RX4_232) dX4_nextToken_147 ?_
                  refine lv_lmul hx hb dX4_nextToken_150 ?_
                  refine lv_aload_n hx hb dX4_nextToken_151 rfl (lv_at hl 0 rfl) ?_
                  refine fg_get (C := RX4) (T := TX4) (N := 22) S vu_X4 hK h fg_p4_0 rfl rfl 8 (by decide) vf_RX4_28 rfl rfl dX4_nextToken_152 ?_
                  refine lv_aload_n hx hb dX4_nextToken_155 rfl (lv_at hl 0 rfl) ?_
                  refine fg_get (C := RX4) (T := TX4) (N := 22) S vu_X4 hK h fg_p4_0 rfl rfl 12 (by decide) vf_RX4_214 rfl rfl dX4_nextToken_156 ?_
                  obtain ⟨hn51, hf⟩ := fg_gdE hf
                  refine fg_iald hx hb hK h fg_p4_7 (fun _ => rfl) hn51 dX4_nextToken_159 ?_
                  refine lv_i2l hx hb dX4_nextToken_160 rfl ?_
                  refine lv_ladd hx hb dX4_nextToken_161 ?_
                  refine lv_ldc2 hx hb S.2.2.2.1 (S.2.2.2.2 _ vl_RX4_234) dX4_nextToken_162 ?_
                  refine lv_lsub hx hb dX4_nextToken_165 ?_
                  refine fg_putL S hK h vf_RX4_220 dX4_nextToken_166 (fun w52 H locs ew h => ?_)
                  have hf := fg_letE ew hf
                  refine lv_aload_n hx hb dX4_nextToken_169 rfl (lv_at hl 0 rfl) ?_
                  refine lv_dup hx hb dX4_nextToken_170 rfl ?_
                  refine fg_get (C := RX4) (T := TX4) (N := 22) S vu_X4 hK h fg_p4_0 rfl rfl 12 (by decide) vf_RX4_214 rfl rfl dX4_nextToken_171 ?_
                  refine lv_iconst (v := 1) hx hb dX4_nextToken_174 rfl ?_
                  refine lv_iadd hx hb dX4_nextToken_175 ?_
                  refine fg_putI (C := RX4) (T := TX4) (N := 22) (fs := (fun f => fg_f4 g 0 f w52.2)) S vu_X4 tyX4 tyX4_ok nmX4 hK h fg_p4_0 (fun _ e4 => by rw [← e4]; rfl) rfl 12 (by decide) vf_RX4_214 rfl rfl (tyX4_ok 12 (by decide)) rfl rfl (fun _ => Nat.le_of_ble_eq_true rfl) (fun _ => rfl) dX4_nextToken_176 (fun w53 H locs ew h => ?_)
                  have hf := fg_letE ew hf
                  refine lv_goto (tgt := 98) hx hb dX4_nextToken_179 (by decide) ?_
                  exact ih_98 w53 _ _ ls h (lv_sub hl [0] rfl) hf
                · have hf := fg_ifF hf hc
                  refine lv_aload_n hx hb dX4_nextToken_136 rfl (lv_at hl 0 rfl) ?_
                  refine fg_get (C := RX4) (T := TX4) (N := 22) S vu_X4 hK h fg_p4_0 rfl rfl 13 (by decide) vf_RX4_220 rfl rfl dX4_nextToken_137 ?_
                  refine lv_goto (tgt := 166) hx hb dX4_nextToken_140 (by decide) ?_
                  refine fg_putL S hK h vf_RX4_220 dX4_nextToken_166 (fun w54 H locs ew h => ?_)
                  have hf := fg_letE ew hf
                  refine lv_aload_n hx hb dX4_nextToken_169 rfl (lv_at hl 0 rfl) ?_
                  refine lv_dup hx hb dX4_nextToken_170 rfl ?_
                  refine fg_get (C := RX4) (T := TX4) (N := 22) S vu_X4 hK h fg_p4_0 rfl rfl 12 (by decide) vf_RX4_214 rfl rfl dX4_nextToken_171 ?_
                  refine lv_iconst (v := 1) hx hb dX4_nextToken_174 rfl ?_
                  refine lv_iadd hx hb dX4_nextToken_175 ?_
                  refine fg_putI (C := RX4) (T := TX4) (N := 22) (fs := (fun f => fg_f4 g 0 f w54.2)) S vu_X4 tyX4 tyX4_ok nmX4 hK h fg_p4_0 (fun _ e4 => by rw [← e4]; rfl) rfl 12 (by decide) vf_RX4_214 rfl rfl (tyX4_ok 12 (by decide)) rfl rfl (fun _ => Nat.le_of_ble_eq_true rfl) (fun _ => rfl) dX4_nextToken_176 (fun w55 H locs ew h => ?_)
                  have hf := fg_letE ew hf
                  refine lv_goto (tgt := 98) hx hb dX4_nextToken_179 (by decide) ?_
                  exact ih_98 w55 _ _ ls h (lv_sub hl [0] rfl) hf
        exact hL_98 _ hK_98 fg_fuel w37 _ _ ls h (lv_sub hl [0] rfl) hf
    · have hf := fg_ifT hf hc
      refine lv_aload_n hx hb dX4_nextToken_70 rfl (lv_at hl 0 rfl) ?_
      refine lv_iconst (v := 0) hx hb dX4_nextToken_71 rfl ?_
      refine fg_putI (C := RX4) (T := TX4) (N := 22) (fs := (fun f => fg_f4 g 0 f w3.2)) S vu_X4 tyX4 tyX4_ok nmX4 hK h fg_p4_0 (fun _ e4 => by rw [← e4]; rfl) rfl 10 (by decide) vf_RX4_224 rfl rfl (tyX4_ok 10 (by decide)) rfl rfl (fun _ => Nat.le_of_ble_eq_true rfl) (fun _ => rfl) dX4_nextToken_72 (fun w56 H locs ew h => ?_)
      have hf := fg_letE ew hf
      refine lv_goto (tgt := 337) hx hb dX4_nextToken_75 (by decide) ?_
      exact fg_retv hx hb hr hlk hK h hf dX4_nextToken_337
  have hL_8 : ∀ (KK_8 : fg_W → Option fg_W) (hK_8 : ∀ (w_8 : fg_W) (H : Heap) (locs : List Loc) (ls : Array Slot), fg_H D g s.heap w_8 H locs → lv_has ls 1 [(0, .ref (g.1 4 0 0))] → KK_8  w_8 = some w' → fg_Gv p l e 2 42 s m [.ref (g.1 4 0 0)] below meth c D g w' H locs 46 ls []) (n : Nat) (w_8 : fg_W) (H : Heap) (locs : List Loc) (ls : Array Slot), fg_H D g s.heap w_8 H locs → lv_has ls 1 [(0, .ref (g.1 4 0 0))] → f_X4_nextToken_L8  KK_8 n  w_8 = some w' → fg_Gv p l e 2 42 s m [.ref (g.1 4 0 0)] below meth c D g w' H locs 8 ls [] := by
    intro KK_8 hK_8 n
    induction n with
    | zero => intro  w_8 H locs ls h hl hf; exact fg_no hf
    | succ n_8 ih_8 =>
      intro  w_8 H locs ls h hl hf
      unfold f_X4_nextToken_L8 at hf
      refine lv_aload_n hx hb dX4_nextToken_8 rfl (lv_at hl 0 rfl) ?_
      refine fg_get (C := RX4) (T := TX4) (N := 22) S vu_X4 hK h fg_p4_0 rfl rfl 11 (by decide) vf_RX4_217 rfl rfl dX4_nextToken_9 ?_
      refine lv_aload_n hx hb dX4_nextToken_12 rfl (lv_at hl 0 rfl) ?_
      refine fg_get (C := RX4) (T := TX4) (N := 22) S vu_X4 hK h fg_p4_0 rfl rfl 9 (by decide) vf_RX4_211 rfl rfl dX4_nextToken_13 ?_
      refine lv_icmp_ge (tgt := 46) hx hb dX4_nextToken_16 (by decide) (fun hc => ?_) (fun hc => ?_)
      · have hf := fg_ifT hf hc
        exact hK_8 w_8 _ _ ls h (lv_sub hl [0] rfl) hf
      · have hf := fg_ifF hf hc
        refine lv_aload_n hx hb dX4_nextToken_19 rfl (lv_at hl 0 rfl) ?_
        refine fg_get (C := RX4) (T := TX4) (N := 22) S vu_X4 hK h fg_p4_0 rfl rfl 8 (by decide) vf_RX4_28 rfl rfl dX4_nextToken_20 ?_
        refine lv_aload_n hx hb dX4_nextToken_23 rfl (lv_at hl 0 rfl) ?_
        refine fg_get (C := RX4) (T := TX4) (N := 22) S vu_X4 hK h fg_p4_0 rfl rfl 11 (by decide) vf_RX4_217 rfl rfl dX4_nextToken_24 ?_
        obtain ⟨hn59, hf⟩ := fg_gdE hf
        refine fg_iald hx hb hK h fg_p4_7 (fun _ => rfl) hn59 dX4_nextToken_27 ?_
        refine lv_bipush (v := 32) hx hb dX4_nextToken_28 rfl ?_
        refine lv_icmp_ne (tgt := 46) hx hb dX4_nextToken_30 (by decide) (fun hc => ?_) (fun hc => ?_)
        · have hf := fg_ifF hf hc
          exact hK_8 w_8 _ _ ls h (lv_sub hl [0] rfl) hf
        · have hf := fg_ifT hf hc
          refine lv_aload_n hx hb dX4_nextToken_33 rfl (lv_at hl 0 rfl) ?_
          refine lv_dup hx hb dX4_nextToken_34 rfl ?_
          refine fg_get (C := RX4) (T := TX4) (N := 22) S vu_X4 hK h fg_p4_0 rfl rfl 11 (by decide) vf_RX4_217 rfl rfl dX4_nextToken_35 ?_
          refine lv_iconst (v := 1) hx hb dX4_nextToken_38 rfl ?_
          refine lv_iadd hx hb dX4_nextToken_39 ?_
          refine fg_putI (C := RX4) (T := TX4) (N := 22) (fs := (fun f => fg_f4 g 0 f w_8.2)) S vu_X4 tyX4 tyX4_ok nmX4 hK h fg_p4_0 (fun _ e4 => by rw [← e4]; rfl) rfl 11 (by decide) vf_RX4_217 rfl rfl (tyX4_ok 11 (by decide)) rfl rfl (fun _ => Nat.le_of_ble_eq_true rfl) (fun _ => rfl) dX4_nextToken_40 (fun w60 H locs ew h => ?_)
          have hf := fg_letE ew hf
          refine lv_goto (tgt := 8) hx hb dX4_nextToken_43 (by decide) ?_
          exact ih_8 w60 _ _ ls h (lv_sub hl [0] rfl) hf
  exact hL_8 _ hK_8 fg_fuel w1 _ _ ls h (lv_sub hl [0] rfl) hf
set_option maxHeartbeats 4000000 in
set_option maxRecDepth 100000 in
theorem c_X4_wordOf (l : Launch) (D : va_G) (g : fg_G) (pK : Nat) (pi : Nat) (pb : Nat) (pn : Nat) (ps : fg_ok pK pi pb) (pe : ∀ w : fg_W, fg_E g w pK pi pb = .inl (g.2.2.1, pn, .inl (w.1 pK pi pb))) (w : fg_W) (r : Int32) (w' : fg_W) (hf : f_X4_wordOf pK pi pb pn w = some (r, w')) : fg_M l yX4_wordOf cX4_wordOf 7 (some .int) 0 0 D g [.ref (g.1 4 0 0), .ref (g.1 pK pi pb)] w (fg_Qi D g r w') := by
  refine fg_M.of rfl (Nat.le_of_ble_eq_true rfl) (fun p e s m below meth c ls S hr hlk hK h hl => ?_)
  have hx := S.1
  have hb := S.2.1
  have hl : lv_has ls 7 [(0, .ref (g.1 4 0 0)), (1, .ref (g.1 pK pi pb))] := hl
  unfold f_X4_wordOf at hf
  refine lv_iconst (v := (-1)) hx hb dX4_wordOf_0 rfl ?_
  refine lv_istore_n (lv' := [(2, .int (-1)), (0, .ref (g.1 4 0 0)), (1, .ref (g.1 pK pi pb))]) hx hb dX4_wordOf_1 rfl hl (by decide) rfl (fun ls hl => ?_)
  refine lv_iconst (v := 0) hx hb dX4_wordOf_2 rfl ?_
  refine lv_istore_n (lv' := [(3, .int 0), (2, .int (-1)), (0, .ref (g.1 4 0 0)), (1, .ref (g.1 pK pi pb))]) hx hb dX4_wordOf_3 rfl hl (by decide) rfl (fun ls hl => ?_)
  have hK_4 : ∀ (v2_4 : Int32) (v3_4 : Int32) (w_4 : fg_W) (H : Heap) (locs : List Loc) (ls : Array Slot), fg_H D g s.heap w_4 H locs → lv_has ls 7 [(0, .ref (g.1 4 0 0)), (1, .ref (g.1 pK pi pb)), (2, .int v2_4), (3, .int v3_4)] → (some (v2_4, w_4)) = some (r, w') → fg_Gi p l e 0 0 s m [.ref (g.1 4 0 0), .ref (g.1 pK pi pb)] below meth c D g r w' H locs 104 ls [] := by
    intro v2_4 v3_4 w_4 H locs ls h hl hf
    refine lv_iload_n hx hb dX4_wordOf_104 rfl (lv_at hl 2 rfl) ?_
    exact fg_reti hx hb hr hlk hK h hf dX4_wordOf_105
  have hL_4 : ∀ (KK_4 : Int32 → Int32 → fg_W → Option (Int32 × fg_W)) (hK_4 : ∀ (v2_4 : Int32) (v3_4 : Int32) (w_4 : fg_W) (H : Heap) (locs : List Loc) (ls : Array Slot), fg_H D g s.heap w_4 H locs → lv_has ls 7 [(0, .ref (g.1 4 0 0)), (1, .ref (g.1 pK pi pb)), (2, .int v2_4), (3, .int v3_4)] → KK_4 v2_4 v3_4 w_4 = some (r, w') → fg_Gi p l e 0 0 s m [.ref (g.1 4 0 0), .ref (g.1 pK pi pb)] below meth c D g r w' H locs 104 ls []) (n : Nat) (v2_4 : Int32) (v3_4 : Int32) (w_4 : fg_W) (H : Heap) (locs : List Loc) (ls : Array Slot), fg_H D g s.heap w_4 H locs → lv_has ls 7 [(0, .ref (g.1 4 0 0)), (1, .ref (g.1 pK pi pb)), (2, .int v2_4), (3, .int v3_4)] → f_X4_wordOf_L4 pK pi pb pn KK_4 n v2_4 v3_4 w_4 = some (r, w') → fg_Gi p l e 0 0 s m [.ref (g.1 4 0 0), .ref (g.1 pK pi pb)] below meth c D g r w' H locs 4 ls [] := by
    intro KK_4 hK_4 n
    induction n with
    | zero => intro v2_4 v3_4 w_4 H locs ls h hl hf; exact fg_no hf
    | succ n_4 ih_4 =>
      intro v2_4 v3_4 w_4 H locs ls h hl hf
      unfold f_X4_wordOf_L4 at hf
      refine lv_iload_n hx hb dX4_wordOf_4 rfl (lv_at hl 3 rfl) ?_
      refine lv_aload_n hx hb dX4_wordOf_5 rfl (lv_at hl 1 rfl) ?_
      refine fg_alen hx hb hK h ps pe dX4_wordOf_6 ?_
      refine lv_bipush (v := 8) hx hb dX4_wordOf_7 rfl ?_
      refine lv_idiv hx hb dX4_wordOf_9 (by decide) ?_
      refine lv_icmp_ge (tgt := 104) hx hb dX4_wordOf_10 (by decide) (fun hc => ?_) (fun hc => ?_)
      · have hf := fg_ifT hf hc
        exact hK_4 v2_4 v3_4 w_4 _ _ ls h (lv_sub hl [0, 1, 2, 3] rfl) hf
      · have hf := fg_ifF hf hc
        refine lv_aload_n hx hb dX4_wordOf_13 rfl (lv_at hl 0 rfl) ?_
        refine fg_get (C := RX4) (T := TX4) (N := 22) S vu_X4 hK h fg_p4_0 rfl rfl 10 (by decide) vf_RX4_224 rfl rfl dX4_wordOf_14 ?_
        refine lv_iconst (v := 1) hx hb dX4_wordOf_17 rfl ?_
        refine lv_icmp_ne (tgt := 104) hx hb dX4_wordOf_18 (by decide) (fun hc => ?_) (fun hc => ?_)
        · have hf := fg_ifF hf hc
          exact hK_4 v2_4 v3_4 w_4 _ _ ls h (lv_sub hl [0, 1, 2, 3] rfl) hf
        · have hf := fg_ifT hf hc
          refine lv_lconst (v := 0) hx hb dX4_wordOf_21 rfl ?_
          refine lv_lstore (lv' := [(4, .long 0), (0, .ref (g.1 4 0 0)), (1, .ref (g.1 pK pi pb)), (2, .int v2_4), (3, .int v3_4)]) hx hb dX4_wordOf_22 hl (by decide) rfl (fun ls hl => ?_)
          refine lv_iconst (v := 0) hx hb dX4_wordOf_24 rfl ?_
          refine lv_istore (lv' := [(6, .int 0), (4, .long 0), (0, .ref (g.1 4 0 0)), (1, .ref (g.1 pK pi pb)), (2, .int v2_4), (3, .int v3_4)]) hx hb dX4_wordOf_25 hl (by decide) rfl (fun ls hl => ?_)
          have hK_27 : ∀ (v4_27 : Int64) (v6_27 : Int32) (w_27 : fg_W) (H : Heap) (locs : List Loc) (ls : Array Slot), fg_H D g s.heap w_27 H locs → lv_has ls 7 [(0, .ref (g.1 4 0 0)), (1, .ref (g.1 pK pi pb)), (2, .int v2_4), (3, .int v3_4), (4, .long v4_27), (6, .int v6_27)] → (if (lg_cmp v4_27 w_27.2) = 0 then ((f_X4_wordOf_L4 pK pi pb pn KK_4 n_4 v3_4 (v3_4 + 1) w_27)) else ((f_X4_wordOf_L4 pK pi pb pn KK_4 n_4 v2_4 (v3_4 + 1) w_27))) = some (r, w') → fg_Gi p l e 0 0 s m [.ref (g.1 4 0 0), .ref (g.1 pK pi pb)] below meth c D g r w' H locs 82 ls [] := by
            intro v4_27 v6_27 w_27 H locs ls h hl hf
            refine lv_lload hx hb dX4_wordOf_82 (lv_at hl 4 rfl) ?_
            refine lv_aload_n hx hb dX4_wordOf_84 rfl (lv_at hl 0 rfl) ?_
            refine fg_get (C := RX4) (T := TX4) (N := 22) S vu_X4 hK h fg_p4_0 rfl rfl 13 (by decide) vf_RX4_220 rfl rfl dX4_wordOf_85 ?_
            refine W.lcmp hx hb dX4_wordOf_88 ?_
            refine lv_if_ne (tgt := 96) hx hb dX4_wordOf_89 (by decide) (fun hc => ?_) (fun hc => ?_)
            · have hf := fg_ifF hf hc
              refine lv_iload_n hx hb dX4_wordOf_96 rfl (lv_at hl 2 rfl) ?_
              refine lv_istore_n (lv' := [(2, .int v2_4), (0, .ref (g.1 4 0 0)), (1, .ref (g.1 pK pi pb)), (3, .int v3_4), (4, .long v4_27), (6, .int v6_27)]) hx hb dX4_wordOf_97 rfl hl (by decide) rfl (fun ls hl => ?_)
              refine lv_iinc (v := (v3_4 + 1)) (lv' := [(3, .int (v3_4 + 1)), (2, .int v2_4), (0, .ref (g.1 4 0 0)), (1, .ref (g.1 pK pi pb)), (4, .long v4_27), (6, .int v6_27)]) hx hb dX4_wordOf_98 hl (k := 3) rfl rfl (by decide) rfl (fun ls hl => ?_)
              refine lv_goto (tgt := 4) hx hb dX4_wordOf_101 (by decide) ?_
              exact ih_4 v2_4 (v3_4 + 1) w_27 _ _ ls h (lv_sub hl [2, 3, 1, 0] rfl) hf
            · have hf := fg_ifT hf hc
              refine lv_iload_n hx hb dX4_wordOf_92 rfl (lv_at hl 3 rfl) ?_
              refine lv_goto (tgt := 97) hx hb dX4_wordOf_93 (by decide) ?_
              refine lv_istore_n (lv' := [(2, .int v3_4), (0, .ref (g.1 4 0 0)), (1, .ref (g.1 pK pi pb)), (3, .int v3_4), (4, .long v4_27), (6, .int v6_27)]) hx hb dX4_wordOf_97 rfl hl (by decide) rfl (fun ls hl => ?_)
              refine lv_iinc (v := (v3_4 + 1)) (lv' := [(3, .int (v3_4 + 1)), (2, .int v3_4), (0, .ref (g.1 4 0 0)), (1, .ref (g.1 pK pi pb)), (4, .long v4_27), (6, .int v6_27)]) hx hb dX4_wordOf_98 hl (k := 3) rfl rfl (by decide) rfl (fun ls hl => ?_)
              refine lv_goto (tgt := 4) hx hb dX4_wordOf_101 (by decide) ?_
              exact ih_4 v3_4 (v3_4 + 1) w_27 _ _ ls h (lv_sub hl [2, 3, 1, 0] rfl) hf
          have hL_27 : ∀ (KK_27 : Int64 → Int32 → fg_W → Option (Int32 × fg_W)) (hK_27 : ∀ (v4_27 : Int64) (v6_27 : Int32) (w_27 : fg_W) (H : Heap) (locs : List Loc) (ls : Array Slot), fg_H D g s.heap w_27 H locs → lv_has ls 7 [(0, .ref (g.1 4 0 0)), (1, .ref (g.1 pK pi pb)), (2, .int v2_4), (3, .int v3_4), (4, .long v4_27), (6, .int v6_27)] → KK_27 v4_27 v6_27 w_27 = some (r, w') → fg_Gi p l e 0 0 s m [.ref (g.1 4 0 0), .ref (g.1 pK pi pb)] below meth c D g r w' H locs 82 ls []) (n : Nat) (v4_27 : Int64) (v6_27 : Int32) (w_27 : fg_W) (H : Heap) (locs : List Loc) (ls : Array Slot), fg_H D g s.heap w_27 H locs → lv_has ls 7 [(0, .ref (g.1 4 0 0)), (1, .ref (g.1 pK pi pb)), (2, .int v2_4), (3, .int v3_4), (4, .long v4_27), (6, .int v6_27)] → f_X4_wordOf_L27 pK pi pb pn v3_4 KK_27 n v4_27 v6_27 w_27 = some (r, w') → fg_Gi p l e 0 0 s m [.ref (g.1 4 0 0), .ref (g.1 pK pi pb)] below meth c D g r w' H locs 27 ls [] := by
            intro KK_27 hK_27 n
            induction n with
            | zero => intro v4_27 v6_27 w_27 H locs ls h hl hf; exact fg_no hf
            | succ n_27 ih_27 =>
              intro v4_27 v6_27 w_27 H locs ls h hl hf
              unfold f_X4_wordOf_L27 at hf
              refine lv_iload hx hb dX4_wordOf_27 (lv_at hl 5 rfl) ?_
              refine lv_bipush (v := 8) hx hb dX4_wordOf_29 rfl ?_
              refine lv_icmp_ge (tgt := 82) hx hb dX4_wordOf_31 (by decide) (fun hc => ?_) (fun hc => ?_)
              · have hf := fg_ifT hf hc
                exact hK_27 v4_27 v6_27 w_27 _ _ ls h (lv_sub hl [0, 1, 2, 3, 4, 5] rfl) hf
              · have hf := fg_ifF hf hc
                refine lv_aload_n hx hb dX4_wordOf_34 rfl (lv_at hl 1 rfl) ?_
                refine lv_bipush (v := 8) hx hb dX4_wordOf_35 rfl ?_
                refine lv_iload_n hx hb dX4_wordOf_37 rfl (lv_at hl 3 rfl) ?_
                refine lv_imul hx hb dX4_wordOf_38 ?_
                refine lv_iload hx hb dX4_wordOf_39 (lv_at hl 5 rfl) ?_
                refine lv_iadd hx hb dX4_wordOf_41 ?_
                obtain ⟨hn7, hf⟩ := fg_gdE hf
                refine fg_cald hx hb hK h ps pe hn7 dX4_wordOf_42 ?_
                refine lv_bipush (v := 32) hx hb dX4_wordOf_43 rfl ?_
                refine lv_icmp_ne (tgt := 53) hx hb dX4_wordOf_45 (by decide) (fun hc => ?_) (fun hc => ?_)
                · have hf := fg_ifF hf hc
                  refine lv_lload hx hb dX4_wordOf_53 (lv_at hl 4 rfl) ?_
                  refine lv_ldc2 hx hb S.2.2.2.1 (S.2.2.2.2 _ vl_RX4_232) dX4_wordOf_55 ?_
                  refine lv_lmul hx hb dX4_wordOf_58 ?_
                  refine lv_aload_n hx hb dX4_wordOf_59 rfl (lv_at hl 1 rfl) ?_
                  refine lv_bipush (v := 8) hx hb dX4_wordOf_60 rfl ?_
                  refine lv_iload_n hx hb dX4_wordOf_62 rfl (lv_at hl 3 rfl) ?_
                  refine lv_imul hx hb dX4_wordOf_63 ?_
                  refine lv_iload hx hb dX4_wordOf_64 (lv_at hl 5 rfl) ?_
                  refine lv_iadd hx hb dX4_wordOf_66 ?_
                  obtain ⟨hn8, hf⟩ := fg_gdE hf
                  refine fg_cald hx hb hK h ps pe hn8 dX4_wordOf_67 ?_
                  refine lv_i2l hx hb dX4_wordOf_68 rfl ?_
                  refine lv_ladd hx hb dX4_wordOf_69 ?_
                  refine lv_ldc2 hx hb S.2.2.2.1 (S.2.2.2.2 _ vl_RX4_234) dX4_wordOf_70 ?_
                  refine lv_lsub hx hb dX4_wordOf_73 ?_
                  refine lv_topl (fun x9 e_x9 => ?_)
                  have hf := fg_letE e_x9 hf
                  refine lv_lstore (lv' := [(4, .long x9), (0, .ref (g.1 4 0 0)), (1, .ref (g.1 pK pi pb)), (2, .int v2_4), (3, .int v3_4), (6, .int v6_27)]) hx hb dX4_wordOf_74 hl (by decide) rfl (fun ls hl => ?_)
                  refine lv_iinc (v := (v6_27 + 1)) (lv' := [(6, .int (v6_27 + 1)), (4, .long x9), (0, .ref (g.1 4 0 0)), (1, .ref (g.1 pK pi pb)), (2, .int v2_4), (3, .int v3_4)]) hx hb dX4_wordOf_76 hl (k := 5) rfl rfl (by decide) rfl (fun ls hl => ?_)
                  refine lv_goto (tgt := 27) hx hb dX4_wordOf_79 (by decide) ?_
                  exact ih_27 x9 (v6_27 + 1) w_27 _ _ ls h (lv_sub hl [2, 3, 4, 5, 1, 0] rfl) hf
                · have hf := fg_ifT hf hc
                  refine lv_lload hx hb dX4_wordOf_48 (lv_at hl 4 rfl) ?_
                  refine lv_goto (tgt := 74) hx hb dX4_wordOf_50 (by decide) ?_
                  refine lv_lstore (lv' := [(4, .long v4_27), (0, .ref (g.1 4 0 0)), (1, .ref (g.1 pK pi pb)), (2, .int v2_4), (3, .int v3_4), (6, .int v6_27)]) hx hb dX4_wordOf_74 hl (by decide) rfl (fun ls hl => ?_)
                  refine lv_iinc (v := (v6_27 + 1)) (lv' := [(6, .int (v6_27 + 1)), (4, .long v4_27), (0, .ref (g.1 4 0 0)), (1, .ref (g.1 pK pi pb)), (2, .int v2_4), (3, .int v3_4)]) hx hb dX4_wordOf_76 hl (k := 5) rfl rfl (by decide) rfl (fun ls hl => ?_)
                  refine lv_goto (tgt := 27) hx hb dX4_wordOf_79 (by decide) ?_
                  exact ih_27 v4_27 (v6_27 + 1) w_27 _ _ ls h (lv_sub hl [2, 3, 4, 5, 1, 0] rfl) hf
          exact hL_27 _ hK_27 fg_fuel 0 0 w_4 _ _ ls h (lv_sub hl [2, 3, 4, 5, 1, 0] rfl) hf
  exact hL_4 _ hK_4 fg_fuel (-1) 0 w _ _ ls h (lv_sub hl [2, 3, 1, 0] rfl) hf
set_option maxHeartbeats 4000000 in
set_option maxRecDepth 100000 in
theorem c_X4_takesNumber (l : Launch) (D : va_G) (g : fg_G) (a1 : Int32) (a2 : Int32) (w : fg_W) (r : Int32) (w' : fg_W) (hf : f_X4_takesNumber a1 a2 w = some (r, w')) : fg_M l yX4_takesNumber cX4_takesNumber 4 (some .int) 3 62 D g [.ref (g.1 4 0 0), .int a1, .int a2] w (fg_Qi D g r w') := by
  refine fg_M.of rfl (Nat.le_of_ble_eq_true rfl) (fun p e s m below meth c ls S hr hlk hK h hl => ?_)
  have hx := S.1
  have hb := S.2.1
  have hl : lv_has ls 4 [(0, .ref (g.1 4 0 0)), (1, .int a1), (2, .int a2)] := hl
  unfold f_X4_takesNumber at hf
  refine lv_aload_n hx hb dX4_takesNumber_0 rfl (lv_at hl 0 rfl) ?_
  refine fg_get (C := RX4) (T := TX4) (N := 22) S vu_X4 hK h fg_p4_0 rfl rfl 10 (by decide) vf_RX4_224 rfl rfl dX4_takesNumber_1 ?_
  refine lv_iconst (v := 2) hx hb dX4_takesNumber_4 rfl ?_
  refine lv_icmp_ne (tgt := 29) hx hb dX4_takesNumber_5 (by decide) (fun hc => ?_) (fun hc => ?_)
  · have hf := fg_ifF hf hc
    refine lv_iconst (v := (-1)) hx hb dX4_takesNumber_29 rfl ?_
    refine lv_istore_n (lv' := [(3, .int (-1)), (0, .ref (g.1 4 0 0)), (1, .int a1), (2, .int a2)]) hx hb dX4_takesNumber_30 rfl hl (by decide) rfl (fun ls hl => ?_)
    refine lv_iload_n hx hb dX4_takesNumber_31 rfl (lv_at hl 0 rfl) ?_
    refine lv_if_lt (tgt := 39) hx hb dX4_takesNumber_32 (by decide) (fun hc => ?_) (fun hc => ?_)
    · refine lv_iload_n hx hb dX4_takesNumber_39 rfl (lv_at hl 0 rfl) ?_
      exact fg_reti hx hb hr hlk hK h hf dX4_takesNumber_40
    · exact absurd hc (by decide)
  · have hf := fg_ifT hf hc
    refine lv_aload_n hx hb dX4_takesNumber_8 rfl (lv_at hl 0 rfl) ?_
    refine fg_get (C := RX4) (T := TX4) (N := 22) S vu_X4 hK h fg_p4_0 rfl rfl 13 (by decide) vf_RX4_220 rfl rfl dX4_takesNumber_9 ?_
    refine lv_l2i hx hb dX4_takesNumber_12 rfl ?_
    refine lv_iload_n hx hb dX4_takesNumber_13 rfl (lv_at hl 1 rfl) ?_
    refine lv_iload_n hx hb dX4_takesNumber_14 rfl (lv_at hl 2 rfl) ?_
    obtain ⟨r3, w1, hc2, hf⟩ := fg_biE hf
    refine fg_ci h (fg_runS (rest := []) S hK h (c_X4_in1 l D g ((w.2).toInt32) a1 a2  w r3 w1 hc2) vk_X4_in1 vm_RX4_61 vs_X4_in1 vi_RX4 vd_X4_in1.2 ⟨by decide, by decide⟩ rfl hl.1 rfl (Nat.le_of_ble_eq_true rfl) dX4_takesNumber_15 ⟨Nat.zero_le _, Nat.zero_le _⟩) (fun H locs h => ?_)
    refine lv_if_eq (tgt := 29) hx hb dX4_takesNumber_18 (by decide) (fun hc => ?_) (fun hc => ?_)
    · have hf := fg_ifT hf hc
      refine lv_iconst (v := (-1)) hx hb dX4_takesNumber_29 rfl ?_
      refine lv_istore_n (lv' := [(3, .int (-1)), (0, .ref (g.1 4 0 0)), (1, .int a1), (2, .int a2)]) hx hb dX4_takesNumber_30 rfl hl (by decide) rfl (fun ls hl => ?_)
      refine lv_iload_n hx hb dX4_takesNumber_31 rfl (lv_at hl 0 rfl) ?_
      refine lv_if_lt (tgt := 39) hx hb dX4_takesNumber_32 (by decide) (fun hc => ?_) (fun hc => ?_)
      · refine lv_iload_n hx hb dX4_takesNumber_39 rfl (lv_at hl 0 rfl) ?_
        exact fg_reti hx hb hr hlk hK h hf dX4_takesNumber_40
      · exact absurd hc (by decide)
    · have hf := fg_ifF hf hc
      refine lv_aload_n hx hb dX4_takesNumber_21 rfl (lv_at hl 0 rfl) ?_
      refine fg_get (C := RX4) (T := TX4) (N := 22) S vu_X4 hK h fg_p4_0 rfl rfl 13 (by decide) vf_RX4_220 rfl rfl dX4_takesNumber_22 ?_
      refine lv_l2i hx hb dX4_takesNumber_25 rfl ?_
      refine lv_goto (tgt := 30) hx hb dX4_takesNumber_26 (by decide) ?_
      refine lv_topi (fun x4 e_x4 => ?_)
      have hf := fg_letE e_x4 hf
      refine lv_istore_n (lv' := [(3, .int x4), (0, .ref (g.1 4 0 0)), (1, .int a1), (2, .int a2)]) hx hb dX4_takesNumber_30 rfl hl (by decide) rfl (fun ls hl => ?_)
      refine lv_iload_n hx hb dX4_takesNumber_31 rfl (lv_at hl 0 rfl) ?_
      refine lv_if_lt (tgt := 39) hx hb dX4_takesNumber_32 (by decide) (fun hc => ?_) (fun hc => ?_)
      · have hf := fg_ifT hf hc
        refine lv_iload_n hx hb dX4_takesNumber_39 rfl (lv_at hl 0 rfl) ?_
        exact fg_reti hx hb hr hlk hK h hf dX4_takesNumber_40
      · have hf := fg_ifF hf hc
        refine lv_aload_n hx hb dX4_takesNumber_35 rfl (lv_at hl 1 rfl) ?_
        obtain ⟨w5, hc6, hf⟩ := fg_bvE hf
        refine fg_cv h (fg_runV (rest := []) S hK h (c_X4_nextToken l D g   w1 w5 hc6) vg_RX4_243 vd_X4_nextToken ⟨by decide, by decide⟩ fg_p4_0 rfl rfl rfl hl.1 rfl (Nat.le_of_ble_eq_true rfl) dX4_takesNumber_36 ⟨Nat.zero_le _, Nat.zero_le _⟩) (fun H locs h => ?_)
        refine lv_iload_n hx hb dX4_takesNumber_39 rfl (lv_at hl 0 rfl) ?_
        exact fg_reti hx hb hr hlk hK h hf dX4_takesNumber_40
set_option maxHeartbeats 4000000 in
set_option maxRecDepth 100000 in
theorem c_X4_readsPerson (l : Launch) (D : va_G) (g : fg_G) (a1 : Int32) (w : fg_W) (r : Int32) (w' : fg_W) (hf : f_X4_readsPerson a1 w = some (r, w')) : fg_M l yX4_readsPerson cX4_readsPerson 5 (some .boolean) 4 85 D g [.ref (g.1 4 0 0), .int a1] w (fg_Qi D g r w') := by
  refine fg_M.of rfl (Nat.le_of_ble_eq_true rfl) (fun p e s m below meth c ls S hr hlk hK h hl => ?_)
  have hx := S.1
  have hb := S.2.1
  have hl : lv_has ls 5 [(0, .ref (g.1 4 0 0)), (1, .int a1)] := hl
  unfold f_X4_readsPerson at hf
  refine lv_aload_n hx hb dX4_readsPerson_0 rfl (lv_at hl 0 rfl) ?_
  refine fg_get (C := RX4) (T := TX4) (N := 22) S vu_X4 hK h fg_p4_0 rfl rfl 0 (by decide) vf_RX4_9 rfl rfl dX4_readsPerson_1 ?_
  refine lv_iconst (v := 1) hx hb dX4_readsPerson_4 rfl ?_
  refine fg_ialdL (j := 1) hx hb hK h fg_p4_1 (fun _ => rfl) (by decide) rfl dX4_readsPerson_5 ?_
  refine lv_bipush (v := 8) hx hb dX4_readsPerson_6 rfl ?_
  refine lv_icmp_ne (tgt := 13) hx hb dX4_readsPerson_8 (by decide) (fun hc => ?_) (fun hc => ?_)
  · have hf := fg_ifF hf hc
    refine lv_aload_n hx hb dX4_readsPerson_13 rfl (lv_at hl 0 rfl) ?_
    refine fg_get (C := RX4) (T := TX4) (N := 22) S vu_X4 hK h fg_p4_0 rfl rfl 0 (by decide) vf_RX4_9 rfl rfl dX4_readsPerson_14 ?_
    refine lv_iconst (v := 1) hx hb dX4_readsPerson_17 rfl ?_
    refine fg_ialdL (j := 1) hx hb hK h fg_p4_1 (fun _ => rfl) (by decide) rfl dX4_readsPerson_18 ?_
    refine lv_topi (fun x1 e_x1 => ?_)
    have hf := fg_letE e_x1 hf
    refine lv_istore_n (lv' := [(2, .int x1), (0, .ref (g.1 4 0 0)), (1, .int a1)]) hx hb dX4_readsPerson_19 rfl hl (by decide) rfl (fun ls hl => ?_)
    refine lv_aload_n hx hb dX4_readsPerson_20 rfl (lv_at hl 1 rfl) ?_
    refine lv_iload_n hx hb dX4_readsPerson_21 rfl (lv_at hl 2 rfl) ?_
    obtain ⟨w2, hc3, hf⟩ := fg_bvE hf
    refine fg_cv h (fg_runV (rest := []) S hK h (c_X4_adds l D g a1  w w2 hc3) vg_RX4_135 vd_X4_adds ⟨by decide, by decide⟩ fg_p4_0 rfl rfl rfl hl.1 rfl (Nat.le_of_ble_eq_true rfl) dX4_readsPerson_22 ⟨Nat.zero_le _, Nat.zero_le _⟩) (fun H locs h => ?_)
    refine lv_aload_n hx hb dX4_readsPerson_25 rfl (lv_at hl 1 rfl) ?_
    obtain ⟨w4, hc5, hf⟩ := fg_bvE hf
    refine fg_cv h (fg_runV (rest := []) S hK h (c_X4_nextToken l D g   w2 w4 hc5) vg_RX4_243 vd_X4_nextToken ⟨by decide, by decide⟩ fg_p4_0 rfl rfl rfl hl.1 rfl (Nat.le_of_ble_eq_true rfl) dX4_readsPerson_26 ⟨Nat.zero_le _, Nat.zero_le _⟩) (fun H locs h => ?_)
    refine lv_iconst (v := 0) hx hb dX4_readsPerson_29 rfl ?_
    refine lv_istore_n (lv' := [(3, .int 0), (2, .int x1), (0, .ref (g.1 4 0 0)), (1, .int a1)]) hx hb dX4_readsPerson_30 rfl hl (by decide) rfl (fun ls hl => ?_)
    have hK_31 : ∀ (v3_31 : Int32) (w_31 : fg_W) (H : Heap) (locs : List Loc) (ls : Array Slot), fg_H D g s.heap w_31 H locs → lv_has ls 5 [(0, .ref (g.1 4 0 0)), (1, .int a1), (2, .int x1), (3, .int v3_31)] → (some (1, w_31)) = some (r, w') → fg_Gi p l e 4 85 s m [.ref (g.1 4 0 0), .int a1] below meth c D g r w' H locs 104 ls [] := by
      intro v3_31 w_31 H locs ls h hl hf
      refine lv_iconst (v := 1) hx hb dX4_readsPerson_104 rfl ?_
      exact fg_retz hx hb hr hlk hK h hf (by decide) dX4_readsPerson_105
    have hL_31 : ∀ (KK_31 : Int32 → fg_W → Option (Int32 × fg_W)) (hK_31 : ∀ (v3_31 : Int32) (w_31 : fg_W) (H : Heap) (locs : List Loc) (ls : Array Slot), fg_H D g s.heap w_31 H locs → lv_has ls 5 [(0, .ref (g.1 4 0 0)), (1, .int a1), (2, .int x1), (3, .int v3_31)] → KK_31 v3_31 w_31 = some (r, w') → fg_Gi p l e 4 85 s m [.ref (g.1 4 0 0), .int a1] below meth c D g r w' H locs 104 ls []) (n : Nat) (v3_31 : Int32) (w_31 : fg_W) (H : Heap) (locs : List Loc) (ls : Array Slot), fg_H D g s.heap w_31 H locs → lv_has ls 5 [(0, .ref (g.1 4 0 0)), (1, .int a1), (2, .int x1), (3, .int v3_31)] → f_X4_readsPerson_L31 x1 KK_31 n v3_31 w_31 = some (r, w') → fg_Gi p l e 4 85 s m [.ref (g.1 4 0 0), .int a1] below meth c D g r w' H locs 31 ls [] := by
      intro KK_31 hK_31 n
      induction n with
      | zero => intro v3_31 w_31 H locs ls h hl hf; exact fg_no hf
      | succ n_31 ih_31 =>
        intro v3_31 w_31 H locs ls h hl hf
        unfold f_X4_readsPerson_L31 at hf
        refine lv_iload_n hx hb dX4_readsPerson_31 rfl (lv_at hl 3 rfl) ?_
        refine lv_iconst (v := 3) hx hb dX4_readsPerson_32 rfl ?_
        refine lv_icmp_ge (tgt := 104) hx hb dX4_readsPerson_33 (by decide) (fun hc => ?_) (fun hc => ?_)
        · have hf := fg_ifT hf hc
          exact hK_31 v3_31 w_31 _ _ ls h (lv_sub hl [0, 1, 2, 3] rfl) hf
        · have hf := fg_ifF hf hc
          refine lv_aload_n hx hb dX4_readsPerson_36 rfl (lv_at hl 0 rfl) ?_
          refine lv_aload_n hx hb dX4_readsPerson_37 rfl (lv_at hl 0 rfl) ?_
          refine fg_get (C := RX4) (T := TX4) (N := 22) S vu_X4 hK h fg_p4_0 rfl rfl 15 (by decide) vf_RX4_35 rfl rfl dX4_readsPerson_38 ?_
          obtain ⟨r28, w26, hc27, hf⟩ := fg_biE hf
          refine fg_ci h (fg_runV (rest := []) S hK h (c_X4_wordOf l D g 4 0 9 24 fg_p4_9 (fun _ => rfl) w_31 r28 w26 hc27) vg_RX4_246 vd_X4_wordOf ⟨by decide, by decide⟩ fg_p4_0 rfl rfl rfl hl.1 rfl (Nat.le_of_ble_eq_true rfl) dX4_readsPerson_41 ⟨Nat.zero_le _, Nat.zero_le _⟩) (fun H locs h => ?_)
          refine lv_iload_n hx hb dX4_readsPerson_44 rfl (lv_at hl 3 rfl) ?_
          refine lv_icmp_ne (tgt := 98) hx hb dX4_readsPerson_45 (by decide) (fun hc => ?_) (fun hc => ?_)
          · have hf := fg_ifF hf hc
            refine lv_iinc (v := (v3_31 + 1)) (lv' := [(3, .int (v3_31 + 1)), (0, .ref (g.1 4 0 0)), (1, .int a1), (2, .int x1)]) hx hb dX4_readsPerson_98 hl (k := 3) rfl rfl (by decide) rfl (fun ls hl => ?_)
            refine lv_goto (tgt := 31) hx hb dX4_readsPerson_101 (by decide) ?_
            exact ih_31 (v3_31 + 1) w26 _ _ ls h (lv_sub hl [1, 2, 3, 0] rfl) hf
          · have hf := fg_ifT hf hc
            refine lv_aload_n hx hb dX4_readsPerson_48 rfl (lv_at hl 0 rfl) ?_
            obtain ⟨w29, hc30, hf⟩ := fg_bvE hf
            refine fg_cv h (fg_runV (rest := []) S hK h (c_X4_nextToken l D g   w26 w29 hc30) vg_RX4_243 vd_X4_nextToken ⟨by decide, by decide⟩ fg_p4_0 rfl rfl rfl hl.1 rfl (Nat.le_of_ble_eq_true rfl) dX4_readsPerson_49 ⟨Nat.zero_le _, Nat.zero_le _⟩) (fun H locs h => ?_)
            refine lv_aload_n hx hb dX4_readsPerson_52 rfl (lv_at hl 0 rfl) ?_
            refine lv_iconst (v := 0) hx hb dX4_readsPerson_53 rfl ?_
            refine lv_iload_n hx hb dX4_readsPerson_54 rfl (lv_at hl 3 rfl) ?_
            refine lv_if_ne (tgt := 63) hx hb dX4_readsPerson_55 (by decide) (fun hc => ?_) (fun hc => ?_)
            · have hf := fg_ifF hf hc
              refine lv_iload_n hx hb dX4_readsPerson_63 rfl (lv_at hl 3 rfl) ?_
              refine lv_iconst (v := 1) hx hb dX4_readsPerson_64 rfl ?_
              refine lv_icmp_ne (tgt := 73) hx hb dX4_readsPerson_65 (by decide) (fun hc => ?_) (fun hc => ?_)
              · have hf := fg_ifF hf hc
                refine lv_sipush (v := 9999) hx hb dX4_readsPerson_73 rfl ?_
                obtain ⟨r33, w31, hc32, hf⟩ := fg_biE hf
                refine fg_ci h (fg_runV (rest := []) S hK h (c_X4_takesNumber l D g 0 9999  w29 r33 w31 hc32) vg_RX4_250 vd_X4_takesNumber ⟨by decide, by decide⟩ fg_p4_0 rfl rfl rfl hl.1 rfl (Nat.le_of_ble_eq_true rfl) dX4_readsPerson_76 ⟨Nat.zero_le _, Nat.zero_le _⟩) (fun H locs h => ?_)
                refine lv_istore (lv' := [(4, .int r33), (0, .ref (g.1 4 0 0)), (1, .int a1), (2, .int x1), (3, .int v3_31)]) hx hb dX4_readsPerson_79 hl (by decide) rfl (fun ls hl => ?_)
                refine lv_iload hx hb dX4_readsPerson_81 (lv_at hl 0 rfl) ?_
                refine lv_if_ge (tgt := 88) hx hb dX4_readsPerson_83 (by decide) (fun hc => ?_) (fun hc => ?_)
                · have hf := fg_ifT hf hc
                  refine lv_aload_n hx hb dX4_readsPerson_88 rfl (lv_at hl 1 rfl) ?_
                  refine lv_iload_n hx hb dX4_readsPerson_89 rfl (lv_at hl 3 rfl) ?_
                  refine lv_iconst (v := 1) hx hb dX4_readsPerson_90 rfl ?_
                  refine lv_iload_n hx hb dX4_readsPerson_91 rfl (lv_at hl 4 rfl) ?_
                  refine lv_iadd hx hb dX4_readsPerson_92 ?_
                  refine lv_iload hx hb dX4_readsPerson_93 (lv_at hl 0 rfl) ?_
                  obtain ⟨w34, hc35, hf⟩ := fg_bvE hf
                  refine fg_cv h (fg_runV (rest := []) S hK h (c_X4_puts l D g x1 (1 + v3_31) r33  w31 w34 hc35) vg_RX4_95 vd_X4_puts ⟨by decide, by decide⟩ fg_p4_0 rfl rfl rfl hl.1 rfl (Nat.le_of_ble_eq_true rfl) dX4_readsPerson_95 ⟨Nat.zero_le _, Nat.zero_le _⟩) (fun H locs h => ?_)
                  refine lv_iinc (v := (v3_31 + 1)) (lv' := [(3, .int (v3_31 + 1)), (4, .int r33), (0, .ref (g.1 4 0 0)), (1, .int a1), (2, .int x1)]) hx hb dX4_readsPerson_98 hl (k := 4) rfl rfl (by decide) rfl (fun ls hl => ?_)
                  refine lv_goto (tgt := 31) hx hb dX4_readsPerson_101 (by decide) ?_
                  exact ih_31 (v3_31 + 1) w34 _ _ ls h (lv_sub hl [2, 3, 4, 0] rfl) hf
                · have hf := fg_ifF hf hc
                  refine lv_iconst (v := 0) hx hb dX4_readsPerson_86 rfl ?_
                  exact fg_retz hx hb hr hlk hK h hf (by decide) dX4_readsPerson_87
              · have hf := fg_ifT hf hc
                refine lv_bipush (v := 99) hx hb dX4_readsPerson_68 rfl ?_
                refine lv_goto (tgt := 76) hx hb dX4_readsPerson_70 (by decide) ?_
                obtain ⟨r38, w36, hc37, hf⟩ := fg_biE hf
                refine fg_ci h (fg_runV (rest := []) S hK h (c_X4_takesNumber l D g 0 99  w29 r38 w36 hc37) vg_RX4_250 vd_X4_takesNumber ⟨by decide, by decide⟩ fg_p4_0 rfl rfl rfl hl.1 rfl (Nat.le_of_ble_eq_true rfl) dX4_readsPerson_76 ⟨Nat.zero_le _, Nat.zero_le _⟩) (fun H locs h => ?_)
                refine lv_istore (lv' := [(4, .int r38), (0, .ref (g.1 4 0 0)), (1, .int a1), (2, .int x1), (3, .int v3_31)]) hx hb dX4_readsPerson_79 hl (by decide) rfl (fun ls hl => ?_)
                refine lv_iload hx hb dX4_readsPerson_81 (lv_at hl 0 rfl) ?_
                refine lv_if_ge (tgt := 88) hx hb dX4_readsPerson_83 (by decide) (fun hc => ?_) (fun hc => ?_)
                · have hf := fg_ifT hf hc
                  refine lv_aload_n hx hb dX4_readsPerson_88 rfl (lv_at hl 1 rfl) ?_
                  refine lv_iload_n hx hb dX4_readsPerson_89 rfl (lv_at hl 3 rfl) ?_
                  refine lv_iconst (v := 1) hx hb dX4_readsPerson_90 rfl ?_
                  refine lv_iload_n hx hb dX4_readsPerson_91 rfl (lv_at hl 4 rfl) ?_
                  refine lv_iadd hx hb dX4_readsPerson_92 ?_
                  refine lv_iload hx hb dX4_readsPerson_93 (lv_at hl 0 rfl) ?_
                  obtain ⟨w39, hc40, hf⟩ := fg_bvE hf
                  refine fg_cv h (fg_runV (rest := []) S hK h (c_X4_puts l D g x1 (1 + v3_31) r38  w36 w39 hc40) vg_RX4_95 vd_X4_puts ⟨by decide, by decide⟩ fg_p4_0 rfl rfl rfl hl.1 rfl (Nat.le_of_ble_eq_true rfl) dX4_readsPerson_95 ⟨Nat.zero_le _, Nat.zero_le _⟩) (fun H locs h => ?_)
                  refine lv_iinc (v := (v3_31 + 1)) (lv' := [(3, .int (v3_31 + 1)), (4, .int r38), (0, .ref (g.1 4 0 0)), (1, .int a1), (2, .int x1)]) hx hb dX4_readsPerson_98 hl (k := 4) rfl rfl (by decide) rfl (fun ls hl => ?_)
                  refine lv_goto (tgt := 31) hx hb dX4_readsPerson_101 (by decide) ?_
                  exact ih_31 (v3_31 + 1) w39 _ _ ls h (lv_sub hl [2, 3, 4, 0] rfl) hf
                · have hf := fg_ifF hf hc
                  refine lv_iconst (v := 0) hx hb dX4_readsPerson_86 rfl ?_
                  exact fg_retz hx hb hr hlk hK h hf (by decide) dX4_readsPerson_87
            · have hf := fg_ifT hf hc
              refine lv_bipush (v := 9) hx hb dX4_readsPerson_58 rfl ?_
              refine lv_goto (tgt := 76) hx hb dX4_readsPerson_60 (by decide) ?_
              obtain ⟨r43, w41, hc42, hf⟩ := fg_biE hf
              refine fg_ci h (fg_runV (rest := []) S hK h (c_X4_takesNumber l D g 0 9  w29 r43 w41 hc42) vg_RX4_250 vd_X4_takesNumber ⟨by decide, by decide⟩ fg_p4_0 rfl rfl rfl hl.1 rfl (Nat.le_of_ble_eq_true rfl) dX4_readsPerson_76 ⟨Nat.zero_le _, Nat.zero_le _⟩) (fun H locs h => ?_)
              refine lv_istore (lv' := [(4, .int r43), (0, .ref (g.1 4 0 0)), (1, .int a1), (2, .int x1), (3, .int v3_31)]) hx hb dX4_readsPerson_79 hl (by decide) rfl (fun ls hl => ?_)
              refine lv_iload hx hb dX4_readsPerson_81 (lv_at hl 0 rfl) ?_
              refine lv_if_ge (tgt := 88) hx hb dX4_readsPerson_83 (by decide) (fun hc => ?_) (fun hc => ?_)
              · have hf := fg_ifT hf hc
                refine lv_aload_n hx hb dX4_readsPerson_88 rfl (lv_at hl 1 rfl) ?_
                refine lv_iload_n hx hb dX4_readsPerson_89 rfl (lv_at hl 3 rfl) ?_
                refine lv_iconst (v := 1) hx hb dX4_readsPerson_90 rfl ?_
                refine lv_iload_n hx hb dX4_readsPerson_91 rfl (lv_at hl 4 rfl) ?_
                refine lv_iadd hx hb dX4_readsPerson_92 ?_
                refine lv_iload hx hb dX4_readsPerson_93 (lv_at hl 0 rfl) ?_
                obtain ⟨w44, hc45, hf⟩ := fg_bvE hf
                refine fg_cv h (fg_runV (rest := []) S hK h (c_X4_puts l D g x1 (1 + v3_31) r43  w41 w44 hc45) vg_RX4_95 vd_X4_puts ⟨by decide, by decide⟩ fg_p4_0 rfl rfl rfl hl.1 rfl (Nat.le_of_ble_eq_true rfl) dX4_readsPerson_95 ⟨Nat.zero_le _, Nat.zero_le _⟩) (fun H locs h => ?_)
                refine lv_iinc (v := (v3_31 + 1)) (lv' := [(3, .int (v3_31 + 1)), (4, .int r43), (0, .ref (g.1 4 0 0)), (1, .int a1), (2, .int x1)]) hx hb dX4_readsPerson_98 hl (k := 4) rfl rfl (by decide) rfl (fun ls hl => ?_)
                refine lv_goto (tgt := 31) hx hb dX4_readsPerson_101 (by decide) ?_
                exact ih_31 (v3_31 + 1) w44 _ _ ls h (lv_sub hl [2, 3, 4, 0] rfl) hf
              · have hf := fg_ifF hf hc
                refine lv_iconst (v := 0) hx hb dX4_readsPerson_86 rfl ?_
                exact fg_retz hx hb hr hlk hK h hf (by decide) dX4_readsPerson_87
    exact hL_31 _ hK_31 fg_fuel 0 w4 _ _ ls h (lv_sub hl [2, 3, 1, 0] rfl) hf
  · have hf := fg_ifT hf hc
    refine lv_iconst (v := 0) hx hb dX4_readsPerson_11 rfl ?_
    exact fg_retz hx hb hr hlk hK h hf (by decide) dX4_readsPerson_12
set_option maxHeartbeats 4000000 in
set_option maxRecDepth 100000 in
theorem c_X4_readsLot (l : Launch) (D : va_G) (g : fg_G)  (w : fg_W) (r : Int32) (w' : fg_W) (hf : f_X4_readsLot  w = some (r, w')) : fg_M l yX4_readsLot cX4_readsLot 4 (some .boolean) 4 85 D g [.ref (g.1 4 0 0)] w (fg_Qi D g r w') := by
  refine fg_M.of rfl (Nat.le_of_ble_eq_true rfl) (fun p e s m below meth c ls S hr hlk hK h hl => ?_)
  have hx := S.1
  have hb := S.2.1
  have hl : lv_has ls 4 [(0, .ref (g.1 4 0 0))] := hl
  unfold f_X4_readsLot at hf
  refine lv_aload_n hx hb dX4_readsLot_0 rfl (lv_at hl 0 rfl) ?_
  refine lv_iconst (v := 0) hx hb dX4_readsLot_1 rfl ?_
  refine lv_bipush (v := 9) hx hb dX4_readsLot_2 rfl ?_
  obtain ⟨r3, w1, hc2, hf⟩ := fg_biE hf
  refine fg_ci h (fg_runV (rest := []) S hK h (c_X4_takesNumber l D g 0 9  w r3 w1 hc2) vg_RX4_250 vd_X4_takesNumber ⟨by decide, by decide⟩ fg_p4_0 rfl rfl rfl hl.1 rfl (Nat.le_of_ble_eq_true rfl) dX4_readsLot_4 ⟨Nat.zero_le _, Nat.zero_le _⟩) (fun H locs h => ?_)
  refine lv_istore_n (lv' := [(1, .int r3), (0, .ref (g.1 4 0 0))]) hx hb dX4_readsLot_7 rfl hl (by decide) rfl (fun ls hl => ?_)
  refine lv_iload_n hx hb dX4_readsLot_8 rfl (lv_at hl 0 rfl) ?_
  refine lv_if_ge (tgt := 14) hx hb dX4_readsLot_9 (by decide) (fun hc => ?_) (fun hc => ?_)
  · have hf := fg_ifT hf hc
    refine lv_iconst (v := 0) hx hb dX4_readsLot_14 rfl ?_
    refine lv_istore_n (lv' := [(2, .int 0), (1, .int r3), (0, .ref (g.1 4 0 0))]) hx hb dX4_readsLot_15 rfl hl (by decide) rfl (fun ls hl => ?_)
    have hK_16 : ∀ (v2_16 : Int32) (w_16 : fg_W) (H : Heap) (locs : List Loc) (ls : Array Slot), fg_H D g s.heap w_16 H locs → lv_has ls 4 [(0, .ref (g.1 4 0 0)), (1, .int r3), (2, .int v2_16)] → (some (1, w_16)) = some (r, w') → fg_Gi p l e 4 85 s m [.ref (g.1 4 0 0)] below meth c D g r w' H locs 89 ls [] := by
      intro v2_16 w_16 H locs ls h hl hf
      refine lv_iconst (v := 1) hx hb dX4_readsLot_89 rfl ?_
      exact fg_retz hx hb hr hlk hK h hf (by decide) dX4_readsLot_90
    have hL_16 : ∀ (KK_16 : Int32 → fg_W → Option (Int32 × fg_W)) (hK_16 : ∀ (v2_16 : Int32) (w_16 : fg_W) (H : Heap) (locs : List Loc) (ls : Array Slot), fg_H D g s.heap w_16 H locs → lv_has ls 4 [(0, .ref (g.1 4 0 0)), (1, .int r3), (2, .int v2_16)] → KK_16 v2_16 w_16 = some (r, w') → fg_Gi p l e 4 85 s m [.ref (g.1 4 0 0)] below meth c D g r w' H locs 89 ls []) (n : Nat) (v2_16 : Int32) (w_16 : fg_W) (H : Heap) (locs : List Loc) (ls : Array Slot), fg_H D g s.heap w_16 H locs → lv_has ls 4 [(0, .ref (g.1 4 0 0)), (1, .int r3), (2, .int v2_16)] → f_X4_readsLot_L16 r3 KK_16 n v2_16 w_16 = some (r, w') → fg_Gi p l e 4 85 s m [.ref (g.1 4 0 0)] below meth c D g r w' H locs 16 ls [] := by
      intro KK_16 hK_16 n
      induction n with
      | zero => intro v2_16 w_16 H locs ls h hl hf; exact fg_no hf
      | succ n_16 ih_16 =>
        intro v2_16 w_16 H locs ls h hl hf
        unfold f_X4_readsLot_L16 at hf
        refine lv_iload_n hx hb dX4_readsLot_16 rfl (lv_at hl 2 rfl) ?_
        refine lv_iconst (v := 3) hx hb dX4_readsLot_17 rfl ?_
        refine lv_icmp_ge (tgt := 89) hx hb dX4_readsLot_18 (by decide) (fun hc => ?_) (fun hc => ?_)
        · have hf := fg_ifT hf hc
          exact hK_16 v2_16 w_16 _ _ ls h (lv_sub hl [0, 1, 2] rfl) hf
        · have hf := fg_ifF hf hc
          refine lv_aload_n hx hb dX4_readsLot_21 rfl (lv_at hl 0 rfl) ?_
          refine lv_aload_n hx hb dX4_readsLot_22 rfl (lv_at hl 0 rfl) ?_
          refine fg_get (C := RX4) (T := TX4) (N := 22) S vu_X4 hK h fg_p4_0 rfl rfl 17 (by decide) vf_RX4_41 rfl rfl dX4_readsLot_23 ?_
          obtain ⟨r26, w24, hc25, hf⟩ := fg_biE hf
          refine fg_ci h (fg_runV (rest := []) S hK h (c_X4_wordOf l D g 4 0 11 24 fg_p4_11 (fun _ => rfl) w_16 r26 w24 hc25) vg_RX4_246 vd_X4_wordOf ⟨by decide, by decide⟩ fg_p4_0 rfl rfl rfl hl.1 rfl (Nat.le_of_ble_eq_true rfl) dX4_readsLot_26 ⟨Nat.zero_le _, Nat.zero_le _⟩) (fun H locs h => ?_)
          refine lv_iload_n hx hb dX4_readsLot_29 rfl (lv_at hl 2 rfl) ?_
          refine lv_icmp_ne (tgt := 83) hx hb dX4_readsLot_30 (by decide) (fun hc => ?_) (fun hc => ?_)
          · have hf := fg_ifF hf hc
            refine lv_iinc (v := (v2_16 + 1)) (lv' := [(2, .int (v2_16 + 1)), (0, .ref (g.1 4 0 0)), (1, .int r3)]) hx hb dX4_readsLot_83 hl (k := 2) rfl rfl (by decide) rfl (fun ls hl => ?_)
            refine lv_goto (tgt := 16) hx hb dX4_readsLot_86 (by decide) ?_
            exact ih_16 (v2_16 + 1) w24 _ _ ls h (lv_sub hl [1, 2, 0] rfl) hf
          · have hf := fg_ifT hf hc
            refine lv_aload_n hx hb dX4_readsLot_33 rfl (lv_at hl 0 rfl) ?_
            obtain ⟨w27, hc28, hf⟩ := fg_bvE hf
            refine fg_cv h (fg_runV (rest := []) S hK h (c_X4_nextToken l D g   w24 w27 hc28) vg_RX4_243 vd_X4_nextToken ⟨by decide, by decide⟩ fg_p4_0 rfl rfl rfl hl.1 rfl (Nat.le_of_ble_eq_true rfl) dX4_readsLot_34 ⟨Nat.zero_le _, Nat.zero_le _⟩) (fun H locs h => ?_)
            refine lv_aload_n hx hb dX4_readsLot_37 rfl (lv_at hl 0 rfl) ?_
            refine lv_iconst (v := 0) hx hb dX4_readsLot_38 rfl ?_
            refine lv_iload_n hx hb dX4_readsLot_39 rfl (lv_at hl 2 rfl) ?_
            refine lv_if_ne (tgt := 48) hx hb dX4_readsLot_40 (by decide) (fun hc => ?_) (fun hc => ?_)
            · have hf := fg_ifF hf hc
              refine lv_iload_n hx hb dX4_readsLot_48 rfl (lv_at hl 2 rfl) ?_
              refine lv_iconst (v := 1) hx hb dX4_readsLot_49 rfl ?_
              refine lv_icmp_ne (tgt := 58) hx hb dX4_readsLot_50 (by decide) (fun hc => ?_) (fun hc => ?_)
              · have hf := fg_ifF hf hc
                refine lv_aload_n hx hb dX4_readsLot_58 rfl (lv_at hl 0 rfl) ?_
                refine fg_get (C := RX4) (T := TX4) (N := 22) S vu_X4 hK h fg_p4_0 rfl rfl 0 (by decide) vf_RX4_9 rfl rfl dX4_readsLot_59 ?_
                refine lv_iconst (v := 1) hx hb dX4_readsLot_62 rfl ?_
                refine fg_ialdL (j := 1) hx hb hK h fg_p4_1 (fun _ => rfl) (by decide) rfl dX4_readsLot_63 ?_
                refine lv_iconst (v := 1) hx hb dX4_readsLot_64 rfl ?_
                refine lv_isub hx hb dX4_readsLot_65 ?_
                obtain ⟨r31, w29, hc30, hf⟩ := fg_biE hf
                refine fg_ci h (fg_runV (rest := []) S hK h (c_X4_takesNumber l D g 0 ((w27.1 4 0 1 1) - 1)  w27 r31 w29 hc30) vg_RX4_250 vd_X4_takesNumber ⟨by decide, by decide⟩ fg_p4_0 rfl rfl rfl hl.1 rfl (Nat.le_of_ble_eq_true rfl) dX4_readsLot_66 ⟨Nat.zero_le _, Nat.zero_le _⟩) (fun H locs h => ?_)
                refine lv_istore_n (lv' := [(3, .int r31), (0, .ref (g.1 4 0 0)), (1, .int r3), (2, .int v2_16)]) hx hb dX4_readsLot_69 rfl hl (by decide) rfl (fun ls hl => ?_)
                refine lv_iload_n hx hb dX4_readsLot_70 rfl (lv_at hl 0 rfl) ?_
                refine lv_if_ge (tgt := 76) hx hb dX4_readsLot_71 (by decide) (fun hc => ?_) (fun hc => ?_)
                · have hf := fg_ifT hf hc
                  refine lv_aload_n hx hb dX4_readsLot_76 rfl (lv_at hl 1 rfl) ?_
                  refine lv_iload_n hx hb dX4_readsLot_77 rfl (lv_at hl 2 rfl) ?_
                  refine lv_iload_n hx hb dX4_readsLot_78 rfl (lv_at hl 3 rfl) ?_
                  refine lv_iload_n hx hb dX4_readsLot_79 rfl (lv_at hl 0 rfl) ?_
                  obtain ⟨w32, hc33, hf⟩ := fg_bvE hf
                  refine fg_cv h (fg_runV (rest := []) S hK h (c_X4_lays1 l D g r3 v2_16 r31  w29 w32 hc33) vg_RX4_56 vd_X4_lays1 ⟨by decide, by decide⟩ fg_p4_0 rfl rfl rfl hl.1 rfl (Nat.le_of_ble_eq_true rfl) dX4_readsLot_80 ⟨Nat.zero_le _, Nat.zero_le _⟩) (fun H locs h => ?_)
                  refine lv_iinc (v := (v2_16 + 1)) (lv' := [(2, .int (v2_16 + 1)), (3, .int r31), (0, .ref (g.1 4 0 0)), (1, .int r3)]) hx hb dX4_readsLot_83 hl (k := 3) rfl rfl (by decide) rfl (fun ls hl => ?_)
                  refine lv_goto (tgt := 16) hx hb dX4_readsLot_86 (by decide) ?_
                  exact ih_16 (v2_16 + 1) w32 _ _ ls h (lv_sub hl [2, 3, 0] rfl) hf
                · have hf := fg_ifF hf hc
                  refine lv_iconst (v := 0) hx hb dX4_readsLot_74 rfl ?_
                  exact fg_retz hx hb hr hlk hK h hf (by decide) dX4_readsLot_75
              · have hf := fg_ifT hf hc
                refine lv_bipush (v := 20) hx hb dX4_readsLot_53 rfl ?_
                refine lv_goto (tgt := 66) hx hb dX4_readsLot_55 (by decide) ?_
                obtain ⟨r36, w34, hc35, hf⟩ := fg_biE hf
                refine fg_ci h (fg_runV (rest := []) S hK h (c_X4_takesNumber l D g 0 20  w27 r36 w34 hc35) vg_RX4_250 vd_X4_takesNumber ⟨by decide, by decide⟩ fg_p4_0 rfl rfl rfl hl.1 rfl (Nat.le_of_ble_eq_true rfl) dX4_readsLot_66 ⟨Nat.zero_le _, Nat.zero_le _⟩) (fun H locs h => ?_)
                refine lv_istore_n (lv' := [(3, .int r36), (0, .ref (g.1 4 0 0)), (1, .int r3), (2, .int v2_16)]) hx hb dX4_readsLot_69 rfl hl (by decide) rfl (fun ls hl => ?_)
                refine lv_iload_n hx hb dX4_readsLot_70 rfl (lv_at hl 0 rfl) ?_
                refine lv_if_ge (tgt := 76) hx hb dX4_readsLot_71 (by decide) (fun hc => ?_) (fun hc => ?_)
                · have hf := fg_ifT hf hc
                  refine lv_aload_n hx hb dX4_readsLot_76 rfl (lv_at hl 1 rfl) ?_
                  refine lv_iload_n hx hb dX4_readsLot_77 rfl (lv_at hl 2 rfl) ?_
                  refine lv_iload_n hx hb dX4_readsLot_78 rfl (lv_at hl 3 rfl) ?_
                  refine lv_iload_n hx hb dX4_readsLot_79 rfl (lv_at hl 0 rfl) ?_
                  obtain ⟨w37, hc38, hf⟩ := fg_bvE hf
                  refine fg_cv h (fg_runV (rest := []) S hK h (c_X4_lays1 l D g r3 v2_16 r36  w34 w37 hc38) vg_RX4_56 vd_X4_lays1 ⟨by decide, by decide⟩ fg_p4_0 rfl rfl rfl hl.1 rfl (Nat.le_of_ble_eq_true rfl) dX4_readsLot_80 ⟨Nat.zero_le _, Nat.zero_le _⟩) (fun H locs h => ?_)
                  refine lv_iinc (v := (v2_16 + 1)) (lv' := [(2, .int (v2_16 + 1)), (3, .int r36), (0, .ref (g.1 4 0 0)), (1, .int r3)]) hx hb dX4_readsLot_83 hl (k := 3) rfl rfl (by decide) rfl (fun ls hl => ?_)
                  refine lv_goto (tgt := 16) hx hb dX4_readsLot_86 (by decide) ?_
                  exact ih_16 (v2_16 + 1) w37 _ _ ls h (lv_sub hl [2, 3, 0] rfl) hf
                · have hf := fg_ifF hf hc
                  refine lv_iconst (v := 0) hx hb dX4_readsLot_74 rfl ?_
                  exact fg_retz hx hb hr hlk hK h hf (by decide) dX4_readsLot_75
            · have hf := fg_ifT hf hc
              refine lv_bipush (v := 99) hx hb dX4_readsLot_43 rfl ?_
              refine lv_goto (tgt := 66) hx hb dX4_readsLot_45 (by decide) ?_
              obtain ⟨r41, w39, hc40, hf⟩ := fg_biE hf
              refine fg_ci h (fg_runV (rest := []) S hK h (c_X4_takesNumber l D g 0 99  w27 r41 w39 hc40) vg_RX4_250 vd_X4_takesNumber ⟨by decide, by decide⟩ fg_p4_0 rfl rfl rfl hl.1 rfl (Nat.le_of_ble_eq_true rfl) dX4_readsLot_66 ⟨Nat.zero_le _, Nat.zero_le _⟩) (fun H locs h => ?_)
              refine lv_istore_n (lv' := [(3, .int r41), (0, .ref (g.1 4 0 0)), (1, .int r3), (2, .int v2_16)]) hx hb dX4_readsLot_69 rfl hl (by decide) rfl (fun ls hl => ?_)
              refine lv_iload_n hx hb dX4_readsLot_70 rfl (lv_at hl 0 rfl) ?_
              refine lv_if_ge (tgt := 76) hx hb dX4_readsLot_71 (by decide) (fun hc => ?_) (fun hc => ?_)
              · have hf := fg_ifT hf hc
                refine lv_aload_n hx hb dX4_readsLot_76 rfl (lv_at hl 1 rfl) ?_
                refine lv_iload_n hx hb dX4_readsLot_77 rfl (lv_at hl 2 rfl) ?_
                refine lv_iload_n hx hb dX4_readsLot_78 rfl (lv_at hl 3 rfl) ?_
                refine lv_iload_n hx hb dX4_readsLot_79 rfl (lv_at hl 0 rfl) ?_
                obtain ⟨w42, hc43, hf⟩ := fg_bvE hf
                refine fg_cv h (fg_runV (rest := []) S hK h (c_X4_lays1 l D g r3 v2_16 r41  w39 w42 hc43) vg_RX4_56 vd_X4_lays1 ⟨by decide, by decide⟩ fg_p4_0 rfl rfl rfl hl.1 rfl (Nat.le_of_ble_eq_true rfl) dX4_readsLot_80 ⟨Nat.zero_le _, Nat.zero_le _⟩) (fun H locs h => ?_)
                refine lv_iinc (v := (v2_16 + 1)) (lv' := [(2, .int (v2_16 + 1)), (3, .int r41), (0, .ref (g.1 4 0 0)), (1, .int r3)]) hx hb dX4_readsLot_83 hl (k := 3) rfl rfl (by decide) rfl (fun ls hl => ?_)
                refine lv_goto (tgt := 16) hx hb dX4_readsLot_86 (by decide) ?_
                exact ih_16 (v2_16 + 1) w42 _ _ ls h (lv_sub hl [2, 3, 0] rfl) hf
              · have hf := fg_ifF hf hc
                refine lv_iconst (v := 0) hx hb dX4_readsLot_74 rfl ?_
                exact fg_retz hx hb hr hlk hK h hf (by decide) dX4_readsLot_75
    exact hL_16 _ hK_16 fg_fuel 0 w1 _ _ ls h (lv_sub hl [2, 1, 0] rfl) hf
  · have hf := fg_ifF hf hc
    refine lv_iconst (v := 0) hx hb dX4_readsLot_12 rfl ?_
    exact fg_retz hx hb hr hlk hK h hf (by decide) dX4_readsLot_13
set_option maxHeartbeats 4000000 in
set_option maxRecDepth 100000 in
theorem c_X4_readsSun (l : Launch) (D : va_G) (g : fg_G) (a1 : Int32) (w : fg_W) (r : Int32) (w' : fg_W) (hf : f_X4_readsSun a1 w = some (r, w')) : fg_M l yX4_readsSun cX4_readsSun 4 (some .boolean) 4 85 D g [.ref (g.1 4 0 0), .int a1] w (fg_Qi D g r w') := by
  refine fg_M.of rfl (Nat.le_of_ble_eq_true rfl) (fun p e s m below meth c ls S hr hlk hK h hl => ?_)
  have hx := S.1
  have hb := S.2.1
  have hl : lv_has ls 4 [(0, .ref (g.1 4 0 0)), (1, .int a1)] := hl
  unfold f_X4_readsSun at hf
  refine lv_iload_n hx hb dX4_readsSun_0 rfl (lv_at hl 1 rfl) ?_
  refine lv_if_eq (tgt := 8) hx hb dX4_readsSun_1 (by decide) (fun hc => ?_) (fun hc => ?_)
  · have hf := fg_ifT hf hc
    refine lv_aload_n hx hb dX4_readsSun_8 rfl (lv_at hl 0 rfl) ?_
    refine lv_iconst (v := 0) hx hb dX4_readsSun_9 rfl ?_
    refine lv_iconst (v := 5) hx hb dX4_readsSun_10 rfl ?_
    obtain ⟨r3, w1, hc2, hf⟩ := fg_biE hf
    refine fg_ci h (fg_runV (rest := []) S hK h (c_X4_takesNumber l D g 0 5  w r3 w1 hc2) vg_RX4_250 vd_X4_takesNumber ⟨by decide, by decide⟩ fg_p4_0 rfl rfl rfl hl.1 rfl (Nat.le_of_ble_eq_true rfl) dX4_readsSun_11 ⟨Nat.zero_le _, Nat.zero_le _⟩) (fun H locs h => ?_)
    refine lv_istore_n (lv' := [(2, .int r3), (0, .ref (g.1 4 0 0)), (1, .int a1)]) hx hb dX4_readsSun_14 rfl hl (by decide) rfl (fun ls hl => ?_)
    refine lv_iload_n hx hb dX4_readsSun_15 rfl (lv_at hl 0 rfl) ?_
    refine lv_if_ge (tgt := 23) hx hb dX4_readsSun_16 (by decide) (fun hc => ?_) (fun hc => ?_)
    · have hf := fg_ifT hf hc
      refine lv_aload_n hx hb dX4_readsSun_23 rfl (lv_at hl 1 rfl) ?_
      refine lv_iconst (v := 0) hx hb dX4_readsSun_24 rfl ?_
      refine lv_bipush (v := 40) hx hb dX4_readsSun_25 rfl ?_
      obtain ⟨r6, w4, hc5, hf⟩ := fg_biE hf
      refine fg_ci h (fg_runV (rest := []) S hK h (c_X4_takesNumber l D g 0 40  w1 r6 w4 hc5) vg_RX4_250 vd_X4_takesNumber ⟨by decide, by decide⟩ fg_p4_0 rfl rfl rfl hl.1 rfl (Nat.le_of_ble_eq_true rfl) dX4_readsSun_27 ⟨Nat.zero_le _, Nat.zero_le _⟩) (fun H locs h => ?_)
      refine lv_istore_n (lv' := [(3, .int r6), (2, .int r3), (0, .ref (g.1 4 0 0)), (1, .int a1)]) hx hb dX4_readsSun_30 rfl hl (by decide) rfl (fun ls hl => ?_)
      refine lv_iload_n hx hb dX4_readsSun_31 rfl (lv_at hl 0 rfl) ?_
      refine lv_if_lt (tgt := 52) hx hb dX4_readsSun_32 (by decide) (fun hc => ?_) (fun hc => ?_)
      · have hf := fg_ifT hf hc
        refine lv_iload_n hx hb dX4_readsSun_52 rfl (lv_at hl 0 rfl) ?_
        refine lv_if_lt (tgt := 60) hx hb dX4_readsSun_53 (by decide) (fun hc => ?_) (fun hc => ?_)
        · have hf := fg_ifT hf hc
          refine lv_iconst (v := 0) hx hb dX4_readsSun_60 rfl ?_
          exact fg_retz hx hb hr hlk hK h hf (by decide) dX4_readsSun_61
        · have hf := fg_ifF hf hc
          refine lv_iconst (v := 1) hx hb dX4_readsSun_56 rfl ?_
          refine lv_goto (tgt := 61) hx hb dX4_readsSun_57 (by decide) ?_
          exact fg_retz hx hb hr hlk hK h hf (by decide) dX4_readsSun_61
      · have hf := fg_ifF hf hc
        refine lv_aload_n hx hb dX4_readsSun_35 rfl (lv_at hl 2 rfl) ?_
        refine fg_get (C := RX4) (T := TX4) (N := 22) S vu_X4 hK h fg_p4_0 rfl rfl 0 (by decide) vf_RX4_9 rfl rfl dX4_readsSun_36 ?_
        refine lv_iload_n hx hb dX4_readsSun_39 rfl (lv_at hl 3 rfl) ?_
        refine lv_if_eq (tgt := 47) hx hb dX4_readsSun_40 (by decide) (fun hc => ?_) (fun hc => ?_)
        · have hf := fg_ifT hf hc
          refine lv_iconst (v := 4) hx hb dX4_readsSun_47 rfl ?_
          refine lv_iload_n hx hb dX4_readsSun_48 rfl (lv_at hl 1 rfl) ?_
          refine lv_iadd hx hb dX4_readsSun_49 ?_
          refine lv_iload_n hx hb dX4_readsSun_50 rfl (lv_at hl 0 rfl) ?_
          obtain ⟨hn8, hf⟩ := fg_gdE hf
          refine fg_iast hx hb hK h fg_p4_1 (fun _ => rfl) hn8 dX4_readsSun_51 (fun w7 H locs ew h => ?_)
          have hf := fg_letE ew hf
          refine lv_iload_n hx hb dX4_readsSun_52 rfl (lv_at hl 0 rfl) ?_
          refine lv_if_lt (tgt := 60) hx hb dX4_readsSun_53 (by decide) (fun hc => ?_) (fun hc => ?_)
          · have hf := fg_ifT hf hc
            refine lv_iconst (v := 0) hx hb dX4_readsSun_60 rfl ?_
            exact fg_retz hx hb hr hlk hK h hf (by decide) dX4_readsSun_61
          · have hf := fg_ifF hf hc
            refine lv_iconst (v := 1) hx hb dX4_readsSun_56 rfl ?_
            refine lv_goto (tgt := 61) hx hb dX4_readsSun_57 (by decide) ?_
            exact fg_retz hx hb hr hlk hK h hf (by decide) dX4_readsSun_61
        · have hf := fg_ifF hf hc
          refine lv_iconst (v := 3) hx hb dX4_readsSun_43 rfl ?_
          refine lv_goto (tgt := 50) hx hb dX4_readsSun_44 (by decide) ?_
          refine lv_iload_n hx hb dX4_readsSun_50 rfl (lv_at hl 0 rfl) ?_
          refine fg_iastL (j := 3) hx hb hK h fg_p4_1 (fun _ => rfl) (by decide) rfl dX4_readsSun_51 (fun w9 H locs ew h => ?_)
          have hf := fg_letE ew hf
          refine lv_iload_n hx hb dX4_readsSun_52 rfl (lv_at hl 0 rfl) ?_
          refine lv_if_lt (tgt := 60) hx hb dX4_readsSun_53 (by decide) (fun hc => ?_) (fun hc => ?_)
          · have hf := fg_ifT hf hc
            refine lv_iconst (v := 0) hx hb dX4_readsSun_60 rfl ?_
            exact fg_retz hx hb hr hlk hK h hf (by decide) dX4_readsSun_61
          · have hf := fg_ifF hf hc
            refine lv_iconst (v := 1) hx hb dX4_readsSun_56 rfl ?_
            refine lv_goto (tgt := 61) hx hb dX4_readsSun_57 (by decide) ?_
            exact fg_retz hx hb hr hlk hK h hf (by decide) dX4_readsSun_61
    · have hf := fg_ifF hf hc
      refine lv_iconst (v := (-1)) hx hb dX4_readsSun_19 rfl ?_
      refine lv_goto (tgt := 30) hx hb dX4_readsSun_20 (by decide) ?_
      refine lv_istore_n (lv' := [(3, .int (-1)), (2, .int r3), (0, .ref (g.1 4 0 0)), (1, .int a1)]) hx hb dX4_readsSun_30 rfl hl (by decide) rfl (fun ls hl => ?_)
      refine lv_iload_n hx hb dX4_readsSun_31 rfl (lv_at hl 0 rfl) ?_
      refine lv_if_lt (tgt := 52) hx hb dX4_readsSun_32 (by decide) (fun hc => ?_) (fun hc => ?_)
      · refine lv_iload_n hx hb dX4_readsSun_52 rfl (lv_at hl 0 rfl) ?_
        refine lv_if_lt (tgt := 60) hx hb dX4_readsSun_53 (by decide) (fun hc => ?_) (fun hc => ?_)
        · refine lv_iconst (v := 0) hx hb dX4_readsSun_60 rfl ?_
          exact fg_retz hx hb hr hlk hK h hf (by decide) dX4_readsSun_61
        · exact absurd hc (by decide)
      · exact absurd hc (by decide)
  · have hf := fg_ifF hf hc
    refine lv_iconst (v := 0) hx hb dX4_readsSun_4 rfl ?_
    refine lv_goto (tgt := 14) hx hb dX4_readsSun_5 (by decide) ?_
    refine lv_istore_n (lv' := [(2, .int 0), (0, .ref (g.1 4 0 0)), (1, .int a1)]) hx hb dX4_readsSun_14 rfl hl (by decide) rfl (fun ls hl => ?_)
    refine lv_iload_n hx hb dX4_readsSun_15 rfl (lv_at hl 0 rfl) ?_
    refine lv_if_ge (tgt := 23) hx hb dX4_readsSun_16 (by decide) (fun hc => ?_) (fun hc => ?_)
    · refine lv_aload_n hx hb dX4_readsSun_23 rfl (lv_at hl 1 rfl) ?_
      refine lv_iconst (v := 0) hx hb dX4_readsSun_24 rfl ?_
      refine lv_bipush (v := 40) hx hb dX4_readsSun_25 rfl ?_
      obtain ⟨r12, w10, hc11, hf⟩ := fg_biE hf
      refine fg_ci h (fg_runV (rest := []) S hK h (c_X4_takesNumber l D g 0 40  w r12 w10 hc11) vg_RX4_250 vd_X4_takesNumber ⟨by decide, by decide⟩ fg_p4_0 rfl rfl rfl hl.1 rfl (Nat.le_of_ble_eq_true rfl) dX4_readsSun_27 ⟨Nat.zero_le _, Nat.zero_le _⟩) (fun H locs h => ?_)
      refine lv_istore_n (lv' := [(3, .int r12), (2, .int 0), (0, .ref (g.1 4 0 0)), (1, .int a1)]) hx hb dX4_readsSun_30 rfl hl (by decide) rfl (fun ls hl => ?_)
      refine lv_iload_n hx hb dX4_readsSun_31 rfl (lv_at hl 0 rfl) ?_
      refine lv_if_lt (tgt := 52) hx hb dX4_readsSun_32 (by decide) (fun hc => ?_) (fun hc => ?_)
      · have hf := fg_ifT hf hc
        refine lv_iload_n hx hb dX4_readsSun_52 rfl (lv_at hl 0 rfl) ?_
        refine lv_if_lt (tgt := 60) hx hb dX4_readsSun_53 (by decide) (fun hc => ?_) (fun hc => ?_)
        · have hf := fg_ifT hf hc
          refine lv_iconst (v := 0) hx hb dX4_readsSun_60 rfl ?_
          exact fg_retz hx hb hr hlk hK h hf (by decide) dX4_readsSun_61
        · have hf := fg_ifF hf hc
          refine lv_iconst (v := 1) hx hb dX4_readsSun_56 rfl ?_
          refine lv_goto (tgt := 61) hx hb dX4_readsSun_57 (by decide) ?_
          exact fg_retz hx hb hr hlk hK h hf (by decide) dX4_readsSun_61
      · have hf := fg_ifF hf hc
        refine lv_aload_n hx hb dX4_readsSun_35 rfl (lv_at hl 2 rfl) ?_
        refine fg_get (C := RX4) (T := TX4) (N := 22) S vu_X4 hK h fg_p4_0 rfl rfl 0 (by decide) vf_RX4_9 rfl rfl dX4_readsSun_36 ?_
        refine lv_iload_n hx hb dX4_readsSun_39 rfl (lv_at hl 3 rfl) ?_
        refine lv_if_eq (tgt := 47) hx hb dX4_readsSun_40 (by decide) (fun hc => ?_) (fun hc => ?_)
        · have hf := fg_ifT hf hc
          refine lv_iconst (v := 4) hx hb dX4_readsSun_47 rfl ?_
          refine lv_iload_n hx hb dX4_readsSun_48 rfl (lv_at hl 1 rfl) ?_
          refine lv_iadd hx hb dX4_readsSun_49 ?_
          refine lv_iload_n hx hb dX4_readsSun_50 rfl (lv_at hl 0 rfl) ?_
          refine fg_iastL (j := 4) hx hb hK h fg_p4_1 (fun _ => rfl) (by decide) rfl dX4_readsSun_51 (fun w13 H locs ew h => ?_)
          have hf := fg_letE ew hf
          refine lv_iload_n hx hb dX4_readsSun_52 rfl (lv_at hl 0 rfl) ?_
          refine lv_if_lt (tgt := 60) hx hb dX4_readsSun_53 (by decide) (fun hc => ?_) (fun hc => ?_)
          · have hf := fg_ifT hf hc
            refine lv_iconst (v := 0) hx hb dX4_readsSun_60 rfl ?_
            exact fg_retz hx hb hr hlk hK h hf (by decide) dX4_readsSun_61
          · have hf := fg_ifF hf hc
            refine lv_iconst (v := 1) hx hb dX4_readsSun_56 rfl ?_
            refine lv_goto (tgt := 61) hx hb dX4_readsSun_57 (by decide) ?_
            exact fg_retz hx hb hr hlk hK h hf (by decide) dX4_readsSun_61
        · have hf := fg_ifF hf hc
          refine lv_iconst (v := 3) hx hb dX4_readsSun_43 rfl ?_
          refine lv_goto (tgt := 50) hx hb dX4_readsSun_44 (by decide) ?_
          refine lv_iload_n hx hb dX4_readsSun_50 rfl (lv_at hl 0 rfl) ?_
          refine fg_iastL (j := 3) hx hb hK h fg_p4_1 (fun _ => rfl) (by decide) rfl dX4_readsSun_51 (fun w14 H locs ew h => ?_)
          have hf := fg_letE ew hf
          refine lv_iload_n hx hb dX4_readsSun_52 rfl (lv_at hl 0 rfl) ?_
          refine lv_if_lt (tgt := 60) hx hb dX4_readsSun_53 (by decide) (fun hc => ?_) (fun hc => ?_)
          · have hf := fg_ifT hf hc
            refine lv_iconst (v := 0) hx hb dX4_readsSun_60 rfl ?_
            exact fg_retz hx hb hr hlk hK h hf (by decide) dX4_readsSun_61
          · have hf := fg_ifF hf hc
            refine lv_iconst (v := 1) hx hb dX4_readsSun_56 rfl ?_
            refine lv_goto (tgt := 61) hx hb dX4_readsSun_57 (by decide) ?_
            exact fg_retz hx hb hr hlk hK h hf (by decide) dX4_readsSun_61
    · exact absurd hc (by decide)
set_option maxHeartbeats 4000000 in
set_option maxRecDepth 100000 in
theorem c_X4_readsItem (l : Launch) (D : va_G) (g : fg_G)  (w : fg_W) (r : Int32) (w' : fg_W) (hf : f_X4_readsItem  w = some (r, w')) : fg_M l yX4_readsItem cX4_readsItem 3 (some .boolean) 5 109 D g [.ref (g.1 4 0 0)] w (fg_Qi D g r w') := by
  refine fg_M.of rfl (Nat.le_of_ble_eq_true rfl) (fun p e s m below meth c ls S hr hlk hK h hl => ?_)
  have hx := S.1
  have hb := S.2.1
  have hl : lv_has ls 3 [(0, .ref (g.1 4 0 0))] := hl
  unfold f_X4_readsItem at hf
  refine lv_aload_n hx hb dX4_readsItem_0 rfl (lv_at hl 0 rfl) ?_
  refine lv_aload_n hx hb dX4_readsItem_1 rfl (lv_at hl 0 rfl) ?_
  refine fg_get (C := RX4) (T := TX4) (N := 22) S vu_X4 hK h fg_p4_0 rfl rfl 14 (by decide) vf_RX4_31 rfl rfl dX4_readsItem_2 ?_
  obtain ⟨r3, w1, hc2, hf⟩ := fg_biE hf
  refine fg_ci h (fg_runV (rest := []) S hK h (c_X4_wordOf l D g 4 0 8 56 fg_p4_8 (fun _ => rfl) w r3 w1 hc2) vg_RX4_246 vd_X4_wordOf ⟨by decide, by decide⟩ fg_p4_0 rfl rfl rfl hl.1 rfl (Nat.le_of_ble_eq_true rfl) dX4_readsItem_5 ⟨Nat.zero_le _, Nat.zero_le _⟩) (fun H locs h => ?_)
  refine lv_istore_n (lv' := [(1, .int r3), (0, .ref (g.1 4 0 0))]) hx hb dX4_readsItem_8 rfl hl (by decide) rfl (fun ls hl => ?_)
  refine lv_iload_n hx hb dX4_readsItem_9 rfl (lv_at hl 0 rfl) ?_
  refine lv_if_lt (tgt := 19) hx hb dX4_readsItem_10 (by decide) (fun hc => ?_) (fun hc => ?_)
  · have hf := fg_ifT hf hc
    refine lv_aload_n hx hb dX4_readsItem_19 rfl (lv_at hl 1 rfl) ?_
    refine lv_aload_n hx hb dX4_readsItem_20 rfl (lv_at hl 1 rfl) ?_
    refine fg_get (C := RX4) (T := TX4) (N := 22) S vu_X4 hK h fg_p4_0 rfl rfl 16 (by decide) vf_RX4_38 rfl rfl dX4_readsItem_21 ?_
    obtain ⟨r6, w4, hc5, hf⟩ := fg_biE hf
    refine fg_ci h (fg_runV (rest := []) S hK h (c_X4_wordOf l D g 4 0 10 24 fg_p4_10 (fun _ => rfl) w1 r6 w4 hc5) vg_RX4_246 vd_X4_wordOf ⟨by decide, by decide⟩ fg_p4_0 rfl rfl rfl hl.1 rfl (Nat.le_of_ble_eq_true rfl) dX4_readsItem_24 ⟨Nat.zero_le _, Nat.zero_le _⟩) (fun H locs h => ?_)
    refine lv_istore_n (lv' := [(2, .int r6), (1, .int r3), (0, .ref (g.1 4 0 0))]) hx hb dX4_readsItem_27 rfl hl (by decide) rfl (fun ls hl => ?_)
    refine lv_iload_n hx hb dX4_readsItem_28 rfl (lv_at hl 0 rfl) ?_
    refine lv_if_ge (tgt := 34) hx hb dX4_readsItem_29 (by decide) (fun hc => ?_) (fun hc => ?_)
    · have hf := fg_ifT hf hc
      refine lv_aload_n hx hb dX4_readsItem_34 rfl (lv_at hl 2 rfl) ?_
      obtain ⟨w7, hc8, hf⟩ := fg_bvE hf
      refine fg_cv h (fg_runV (rest := []) S hK h (c_X4_nextToken l D g   w4 w7 hc8) vg_RX4_243 vd_X4_nextToken ⟨by decide, by decide⟩ fg_p4_0 rfl rfl rfl hl.1 rfl (Nat.le_of_ble_eq_true rfl) dX4_readsItem_35 ⟨Nat.zero_le _, Nat.zero_le _⟩) (fun H locs h => ?_)
      refine lv_iload_n hx hb dX4_readsItem_38 rfl (lv_at hl 0 rfl) ?_
      refine lv_if_ne (tgt := 49) hx hb dX4_readsItem_39 (by decide) (fun hc => ?_) (fun hc => ?_)
      · have hf := fg_ifF hf hc
        refine lv_aload_n hx hb dX4_readsItem_49 rfl (lv_at hl 2 rfl) ?_
        refine lv_iload_n hx hb dX4_readsItem_50 rfl (lv_at hl 0 rfl) ?_
        refine lv_iconst (v := 2) hx hb dX4_readsItem_51 rfl ?_
        refine lv_icmp_ne (tgt := 59) hx hb dX4_readsItem_52 (by decide) (fun hc => ?_) (fun hc => ?_)
        · have hf := fg_ifF hf hc
          refine lv_iconst (v := 0) hx hb dX4_readsItem_59 rfl ?_
          obtain ⟨r11, w9, hc10, hf⟩ := fg_biE hf
          refine fg_ci h (fg_runV (rest := []) S hK h (c_X4_readsSun l D g 0  w7 r11 w9 hc10) vg_RX4_260 vd_X4_readsSun ⟨by decide, by decide⟩ fg_p4_0 rfl rfl rfl hl.1 rfl (Nat.le_of_ble_eq_true rfl) dX4_readsItem_60 ⟨Nat.zero_le _, Nat.zero_le _⟩) (fun H locs h => ?_)
          obtain ⟨hz, hf⟩ := fg_gpE hf
          exact fg_retz hx hb hr hlk hK h hf hz dX4_readsItem_63
        · have hf := fg_ifT hf hc
          refine lv_iconst (v := 1) hx hb dX4_readsItem_55 rfl ?_
          refine lv_goto (tgt := 60) hx hb dX4_readsItem_56 (by decide) ?_
          obtain ⟨r14, w12, hc13, hf⟩ := fg_biE hf
          refine fg_ci h (fg_runV (rest := []) S hK h (c_X4_readsSun l D g 1  w7 r14 w12 hc13) vg_RX4_260 vd_X4_readsSun ⟨by decide, by decide⟩ fg_p4_0 rfl rfl rfl hl.1 rfl (Nat.le_of_ble_eq_true rfl) dX4_readsItem_60 ⟨Nat.zero_le _, Nat.zero_le _⟩) (fun H locs h => ?_)
          obtain ⟨hz, hf⟩ := fg_gpE hf
          exact fg_retz hx hb hr hlk hK h hf hz dX4_readsItem_63
      · have hf := fg_ifT hf hc
        refine lv_aload_n hx hb dX4_readsItem_42 rfl (lv_at hl 2 rfl) ?_
        obtain ⟨r17, w15, hc16, hf⟩ := fg_biE hf
        refine fg_ci h (fg_runV (rest := []) S hK h (c_X4_readsLot l D g   w7 r17 w15 hc16) vg_RX4_256 vd_X4_readsLot ⟨by decide, by decide⟩ fg_p4_0 rfl rfl rfl hl.1 rfl (Nat.le_of_ble_eq_true rfl) dX4_readsItem_43 ⟨Nat.zero_le _, Nat.zero_le _⟩) (fun H locs h => ?_)
        refine lv_goto (tgt := 63) hx hb dX4_readsItem_46 (by decide) ?_
        obtain ⟨hz, hf⟩ := fg_gpE hf
        exact fg_retz hx hb hr hlk hK h hf hz dX4_readsItem_63
    · have hf := fg_ifF hf hc
      refine lv_iconst (v := 0) hx hb dX4_readsItem_32 rfl ?_
      exact fg_retz hx hb hr hlk hK h hf (by decide) dX4_readsItem_33
  · have hf := fg_ifF hf hc
    refine lv_aload_n hx hb dX4_readsItem_13 rfl (lv_at hl 1 rfl) ?_
    refine lv_iload_n hx hb dX4_readsItem_14 rfl (lv_at hl 0 rfl) ?_
    obtain ⟨r20, w18, hc19, hf⟩ := fg_biE hf
    refine fg_ci h (fg_runV (rest := []) S hK h (c_X4_readsPerson l D g r3  w1 r20 w18 hc19) vg_RX4_253 vd_X4_readsPerson ⟨by decide, by decide⟩ fg_p4_0 rfl rfl rfl hl.1 rfl (Nat.le_of_ble_eq_true rfl) dX4_readsItem_15 ⟨Nat.zero_le _, Nat.zero_le _⟩) (fun H locs h => ?_)
    obtain ⟨hz, hf⟩ := fg_gpE hf
    exact fg_retz hx hb hr hlk hK h hf hz dX4_readsItem_18
set_option maxHeartbeats 4000000 in
set_option maxRecDepth 100000 in
theorem c_X4_text (l : Launch) (D : va_G) (g : fg_G)  (w : fg_W) (r : Int32) (w' : fg_W) (hf : f_X4_text  w = some (r, w')) : fg_M l yX4_text cX4_text 3 (some .int) 6 131 D g [.ref (g.1 4 0 0)] w (fg_Qi D g r w') := by
  refine fg_M.of rfl (Nat.le_of_ble_eq_true rfl) (fun p e s m below meth c ls S hr hlk hK h hl => ?_)
  have hx := S.1
  have hb := S.2.1
  have hl : lv_has ls 3 [(0, .ref (g.1 4 0 0))] := hl
  unfold f_X4_text at hf
  refine lv_aload_n hx hb dX4_text_0 rfl (lv_at hl 0 rfl) ?_
  obtain ⟨w1, hc2, hf⟩ := fg_bvE hf
  refine fg_cv h (fg_runV (rest := []) S hK h (c_X4_setsAside l D g   w w1 hc2) vg_RX4_163 vd_X4_setsAside ⟨by decide, by decide⟩ fg_p4_0 rfl rfl rfl hl.1 rfl (Nat.le_of_ble_eq_true rfl) dX4_text_1 ⟨Nat.zero_le _, Nat.zero_le _⟩) (fun H locs h => ?_)
  refine lv_aload_n hx hb dX4_text_4 rfl (lv_at hl 0 rfl) ?_
  refine lv_iconst (v := 0) hx hb dX4_text_5 rfl ?_
  refine fg_putI (C := RX4) (T := TX4) (N := 22) (fs := (fun f => fg_f4 g 0 f w1.2)) S vu_X4 tyX4 tyX4_ok nmX4 hK h fg_p4_0 (fun _ e4 => by rw [← e4]; rfl) rfl 12 (by decide) vf_RX4_214 rfl rfl (tyX4_ok 12 (by decide)) rfl rfl (fun _ => Nat.le_of_ble_eq_true rfl) (fun _ => rfl) dX4_text_6 (fun w3 H locs ew h => ?_)
  have hf := fg_letE ew hf
  refine lv_aload_n hx hb dX4_text_9 rfl (lv_at hl 0 rfl) ?_
  obtain ⟨w4, hc5, hf⟩ := fg_bvE hf
  refine fg_cv h (fg_runV (rest := []) S hK h (c_X4_nextToken l D g   w3 w4 hc5) vg_RX4_243 vd_X4_nextToken ⟨by decide, by decide⟩ fg_p4_0 rfl rfl rfl hl.1 rfl (Nat.le_of_ble_eq_true rfl) dX4_text_10 ⟨Nat.zero_le _, Nat.zero_le _⟩) (fun H locs h => ?_)
  refine lv_iconst (v := 1) hx hb dX4_text_13 rfl ?_
  refine lv_istore_n (lv' := [(1, .int 1), (0, .ref (g.1 4 0 0))]) hx hb dX4_text_14 rfl hl (by decide) rfl (fun ls hl => ?_)
  refine lv_aload_n hx hb dX4_text_15 rfl (lv_at hl 1 rfl) ?_
  obtain ⟨r8, w6, hc7, hf⟩ := fg_biE hf
  refine fg_ci h (fg_runV (rest := []) S hK h (c_X4_readsItem l D g   w4 r8 w6 hc7) vg_RX4_264 vd_X4_readsItem ⟨by decide, by decide⟩ fg_p4_0 rfl rfl rfl hl.1 rfl (Nat.le_of_ble_eq_true rfl) dX4_text_16 ⟨Nat.zero_le _, Nat.zero_le _⟩) (fun H locs h => ?_)
  refine lv_istore_n (lv' := [(2, .int r8), (1, .int 1), (0, .ref (g.1 4 0 0))]) hx hb dX4_text_19 rfl hl (by decide) rfl (fun ls hl => ?_)
  have hK_20 : ∀ (v1_20 : Int32) (v2_20 : Int32) (w_20 : fg_W) (H : Heap) (locs : List Loc) (ls : Array Slot), fg_H D g s.heap w_20 H locs → lv_has ls 3 [(0, .ref (g.1 4 0 0)), (1, .int v1_20), (2, .int v2_20)] → (if v2_20 = 0 then (fg_let (fg_st w_20 4 0 0 (upd (w_20.1 4 0 0) 9 0)) (fun w9 => fg_bv (f_X4_laysBack  w9) (fun w10 => some (((-1) - (w10.1 4 0 0 11)), w10)))) else (if (w_20.1 4 0 0 10) = 0 then (fg_let (fg_st w_20 4 0 0 (upd (w_20.1 4 0 0) 9 0)) (fun w15 => some (v1_20, w15))) else (fg_let (fg_st w_20 4 0 0 (upd (w_20.1 4 0 0) 9 0)) (fun w12 => fg_bv (f_X4_laysBack  w12) (fun w13 => some (((-1) - (w13.1 4 0 0 11)), w13)))))) = some (r, w') → fg_Gi p l e 6 131 s m [.ref (g.1 4 0 0)] below meth c D g r w' H locs 47 ls [] := by
    intro v1_20 v2_20 w_20 H locs ls h hl hf
    refine lv_iload_n hx hb dX4_text_47 rfl (lv_at hl 2 rfl) ?_
    refine lv_if_eq (tgt := 62) hx hb dX4_text_48 (by decide) (fun hc => ?_) (fun hc => ?_)
    · have hf := fg_ifT hf hc
      refine lv_iconst (v := 0) hx hb dX4_text_62 rfl ?_
      refine lv_istore_n (lv' := [(2, .int 0), (0, .ref (g.1 4 0 0)), (1, .int v1_20)]) hx hb dX4_text_63 rfl hl (by decide) rfl (fun ls hl => ?_)
      refine lv_aload_n hx hb dX4_text_64 rfl (lv_at hl 1 rfl) ?_
      refine lv_iconst (v := 0) hx hb dX4_text_65 rfl ?_
      refine fg_putI (C := RX4) (T := TX4) (N := 22) (fs := (fun f => fg_f4 g 0 f w_20.2)) S vu_X4 tyX4 tyX4_ok nmX4 hK h fg_p4_0 (fun _ e4 => by rw [← e4]; rfl) rfl 9 (by decide) vf_RX4_211 rfl rfl (tyX4_ok 9 (by decide)) rfl rfl (fun _ => Nat.le_of_ble_eq_true rfl) (fun _ => rfl) dX4_text_66 (fun w9 H locs ew h => ?_)
      have hf := fg_letE ew hf
      refine lv_iload_n hx hb dX4_text_69 rfl (lv_at hl 0 rfl) ?_
      refine lv_if_ne (tgt := 84) hx hb dX4_text_70 (by decide) (fun hc => ?_) (fun hc => ?_)
      · exact absurd hc (by decide)
      · refine lv_aload_n hx hb dX4_text_73 rfl (lv_at hl 1 rfl) ?_
        obtain ⟨w10, hc11, hf⟩ := fg_bvE hf
        refine fg_cv h (fg_runV (rest := []) S hK h (c_X4_laysBack l D g   w9 w10 hc11) vg_RX4_166 vd_X4_laysBack ⟨by decide, by decide⟩ fg_p4_0 rfl rfl rfl hl.1 rfl (Nat.le_of_ble_eq_true rfl) dX4_text_74 ⟨Nat.zero_le _, Nat.zero_le _⟩) (fun H locs h => ?_)
        refine lv_iconst (v := (-1)) hx hb dX4_text_77 rfl ?_
        refine lv_aload_n hx hb dX4_text_78 rfl (lv_at hl 1 rfl) ?_
        refine fg_get (C := RX4) (T := TX4) (N := 22) S vu_X4 hK h fg_p4_0 rfl rfl 11 (by decide) vf_RX4_217 rfl rfl dX4_text_79 ?_
        refine lv_isub hx hb dX4_text_82 ?_
        exact fg_reti hx hb hr hlk hK h hf dX4_text_83
    · have hf := fg_ifF hf hc
      refine lv_aload_n hx hb dX4_text_51 rfl (lv_at hl 0 rfl) ?_
      refine fg_get (C := RX4) (T := TX4) (N := 22) S vu_X4 hK h fg_p4_0 rfl rfl 10 (by decide) vf_RX4_224 rfl rfl dX4_text_52 ?_
      refine lv_if_ne (tgt := 62) hx hb dX4_text_55 (by decide) (fun hc => ?_) (fun hc => ?_)
      · have hf := fg_ifF hf hc
        refine lv_iconst (v := 0) hx hb dX4_text_62 rfl ?_
        refine lv_istore_n (lv' := [(2, .int 0), (0, .ref (g.1 4 0 0)), (1, .int v1_20)]) hx hb dX4_text_63 rfl hl (by decide) rfl (fun ls hl => ?_)
        refine lv_aload_n hx hb dX4_text_64 rfl (lv_at hl 1 rfl) ?_
        refine lv_iconst (v := 0) hx hb dX4_text_65 rfl ?_
        refine fg_putI (C := RX4) (T := TX4) (N := 22) (fs := (fun f => fg_f4 g 0 f w_20.2)) S vu_X4 tyX4 tyX4_ok nmX4 hK h fg_p4_0 (fun _ e4 => by rw [← e4]; rfl) rfl 9 (by decide) vf_RX4_211 rfl rfl (tyX4_ok 9 (by decide)) rfl rfl (fun _ => Nat.le_of_ble_eq_true rfl) (fun _ => rfl) dX4_text_66 (fun w12 H locs ew h => ?_)
        have hf := fg_letE ew hf
        refine lv_iload_n hx hb dX4_text_69 rfl (lv_at hl 0 rfl) ?_
        refine lv_if_ne (tgt := 84) hx hb dX4_text_70 (by decide) (fun hc => ?_) (fun hc => ?_)
        · exact absurd hc (by decide)
        · refine lv_aload_n hx hb dX4_text_73 rfl (lv_at hl 1 rfl) ?_
          obtain ⟨w13, hc14, hf⟩ := fg_bvE hf
          refine fg_cv h (fg_runV (rest := []) S hK h (c_X4_laysBack l D g   w12 w13 hc14) vg_RX4_166 vd_X4_laysBack ⟨by decide, by decide⟩ fg_p4_0 rfl rfl rfl hl.1 rfl (Nat.le_of_ble_eq_true rfl) dX4_text_74 ⟨Nat.zero_le _, Nat.zero_le _⟩) (fun H locs h => ?_)
          refine lv_iconst (v := (-1)) hx hb dX4_text_77 rfl ?_
          refine lv_aload_n hx hb dX4_text_78 rfl (lv_at hl 1 rfl) ?_
          refine fg_get (C := RX4) (T := TX4) (N := 22) S vu_X4 hK h fg_p4_0 rfl rfl 11 (by decide) vf_RX4_217 rfl rfl dX4_text_79 ?_
          refine lv_isub hx hb dX4_text_82 ?_
          exact fg_reti hx hb hr hlk hK h hf dX4_text_83
      · have hf := fg_ifT hf hc
        refine lv_iconst (v := 1) hx hb dX4_text_58 rfl ?_
        refine lv_goto (tgt := 63) hx hb dX4_text_59 (by decide) ?_
        refine lv_istore_n (lv' := [(2, .int 1), (0, .ref (g.1 4 0 0)), (1, .int v1_20)]) hx hb dX4_text_63 rfl hl (by decide) rfl (fun ls hl => ?_)
        refine lv_aload_n hx hb dX4_text_64 rfl (lv_at hl 1 rfl) ?_
        refine lv_iconst (v := 0) hx hb dX4_text_65 rfl ?_
        refine fg_putI (C := RX4) (T := TX4) (N := 22) (fs := (fun f => fg_f4 g 0 f w_20.2)) S vu_X4 tyX4 tyX4_ok nmX4 hK h fg_p4_0 (fun _ e4 => by rw [← e4]; rfl) rfl 9 (by decide) vf_RX4_211 rfl rfl (tyX4_ok 9 (by decide)) rfl rfl (fun _ => Nat.le_of_ble_eq_true rfl) (fun _ => rfl) dX4_text_66 (fun w15 H locs ew h => ?_)
        have hf := fg_letE ew hf
        refine lv_iload_n hx hb dX4_text_69 rfl (lv_at hl 0 rfl) ?_
        refine lv_if_ne (tgt := 84) hx hb dX4_text_70 (by decide) (fun hc => ?_) (fun hc => ?_)
        · refine lv_iload_n hx hb dX4_text_84 rfl (lv_at hl 2 rfl) ?_
          exact fg_reti hx hb hr hlk hK h hf dX4_text_85
        · exact absurd hc (by decide)
  have hL_20 : ∀ (KK_20 : Int32 → Int32 → fg_W → Option (Int32 × fg_W)) (hK_20 : ∀ (v1_20 : Int32) (v2_20 : Int32) (w_20 : fg_W) (H : Heap) (locs : List Loc) (ls : Array Slot), fg_H D g s.heap w_20 H locs → lv_has ls 3 [(0, .ref (g.1 4 0 0)), (1, .int v1_20), (2, .int v2_20)] → KK_20 v1_20 v2_20 w_20 = some (r, w') → fg_Gi p l e 6 131 s m [.ref (g.1 4 0 0)] below meth c D g r w' H locs 47 ls []) (n : Nat) (v1_20 : Int32) (v2_20 : Int32) (w_20 : fg_W) (H : Heap) (locs : List Loc) (ls : Array Slot), fg_H D g s.heap w_20 H locs → lv_has ls 3 [(0, .ref (g.1 4 0 0)), (1, .int v1_20), (2, .int v2_20)] → f_X4_text_L20  KK_20 n v1_20 v2_20 w_20 = some (r, w') → fg_Gi p l e 6 131 s m [.ref (g.1 4 0 0)] below meth c D g r w' H locs 20 ls [] := by
    intro KK_20 hK_20 n
    induction n with
    | zero => intro v1_20 v2_20 w_20 H locs ls h hl hf; exact fg_no hf
    | succ n_20 ih_20 =>
      intro v1_20 v2_20 w_20 H locs ls h hl hf
      unfold f_X4_text_L20 at hf
      refine lv_iload_n hx hb dX4_text_20 rfl (lv_at hl 2 rfl) ?_
      refine lv_if_eq (tgt := 47) hx hb dX4_text_21 (by decide) (fun hc => ?_) (fun hc => ?_)
      · have hf := fg_ifT hf hc
        exact hK_20 v1_20 v2_20 w_20 _ _ ls h (lv_sub hl [0, 1, 2] rfl) hf
      · have hf := fg_ifF hf hc
        refine lv_aload_n hx hb dX4_text_24 rfl (lv_at hl 0 rfl) ?_
        refine fg_get (C := RX4) (T := TX4) (N := 22) S vu_X4 hK h fg_p4_0 rfl rfl 10 (by decide) vf_RX4_224 rfl rfl dX4_text_25 ?_
        refine lv_iconst (v := 3) hx hb dX4_text_28 rfl ?_
        refine lv_icmp_ne (tgt := 47) hx hb dX4_text_29 (by decide) (fun hc => ?_) (fun hc => ?_)
        · have hf := fg_ifF hf hc
          exact hK_20 v1_20 v2_20 w_20 _ _ ls h (lv_sub hl [0, 1, 2] rfl) hf
        · have hf := fg_ifT hf hc
          refine lv_aload_n hx hb dX4_text_32 rfl (lv_at hl 0 rfl) ?_
          obtain ⟨w21, hc22, hf⟩ := fg_bvE hf
          refine fg_cv h (fg_runV (rest := []) S hK h (c_X4_nextToken l D g   w_20 w21 hc22) vg_RX4_243 vd_X4_nextToken ⟨by decide, by decide⟩ fg_p4_0 rfl rfl rfl hl.1 rfl (Nat.le_of_ble_eq_true rfl) dX4_text_33 ⟨Nat.zero_le _, Nat.zero_le _⟩) (fun H locs h => ?_)
          refine lv_aload_n hx hb dX4_text_36 rfl (lv_at hl 0 rfl) ?_
          obtain ⟨r25, w23, hc24, hf⟩ := fg_biE hf
          refine fg_ci h (fg_runV (rest := []) S hK h (c_X4_readsItem l D g   w21 r25 w23 hc24) vg_RX4_264 vd_X4_readsItem ⟨by decide, by decide⟩ fg_p4_0 rfl rfl rfl hl.1 rfl (Nat.le_of_ble_eq_true rfl) dX4_text_37 ⟨Nat.zero_le _, Nat.zero_le _⟩) (fun H locs h => ?_)
          refine lv_istore_n (lv' := [(2, .int r25), (0, .ref (g.1 4 0 0)), (1, .int v1_20)]) hx hb dX4_text_40 rfl hl (by decide) rfl (fun ls hl => ?_)
          refine lv_iinc (v := (v1_20 + 1)) (lv' := [(1, .int (v1_20 + 1)), (2, .int r25), (0, .ref (g.1 4 0 0))]) hx hb dX4_text_41 hl (k := 2) rfl rfl (by decide) rfl (fun ls hl => ?_)
          refine lv_goto (tgt := 20) hx hb dX4_text_44 (by decide) ?_
          exact ih_20 (v1_20 + 1) r25 w23 _ _ ls h (lv_sub hl [2, 0, 1] rfl) hf
  exact hL_20 _ hK_20 fg_fuel 1 r8 w6 _ _ ls h (lv_sub hl [2, 1, 0] rfl) hf
set_option maxHeartbeats 4000000 in
set_option maxRecDepth 100000 in
theorem c_X4_isSpot (l : Launch) (D : va_G) (g : fg_G) (a1 : Int32) (w : fg_W) (r : Int32) (w' : fg_W) (hf : f_X4_isSpot a1 w = some (r, w')) : fg_M l yX4_isSpot cX4_isSpot 1 (some .boolean) 1 22 D g [.int a1] w (fg_Qi D g r w') := by
  refine fg_M.of rfl (Nat.le_of_ble_eq_true rfl) (fun p e s m below meth c ls S hr hlk hK h hl => ?_)
  have hx := S.1
  have hb := S.2.1
  have hl : lv_has ls 1 [(0, .int a1)] := hl
  unfold f_X4_isSpot at hf
  refine lv_iload_n hx hb dX4_isSpot_0 rfl (lv_at hl 0 rfl) ?_
  refine lv_iconst (v := 0) hx hb dX4_isSpot_1 rfl ?_
  refine lv_bipush (v := 9) hx hb dX4_isSpot_2 rfl ?_
  obtain ⟨r3, w1, hc2, hf⟩ := fg_biE hf
  refine fg_ci h (fg_runS (rest := []) S hK h (c_X4_in1 l D g a1 0 9  w r3 w1 hc2) vk_X4_in1 vm_RX4_61 vs_X4_in1 vi_RX4 vd_X4_in1.2 ⟨by decide, by decide⟩ rfl hl.1 rfl (Nat.le_of_ble_eq_true rfl) dX4_isSpot_4 ⟨Nat.zero_le _, Nat.zero_le _⟩) (fun H locs h => ?_)
  obtain ⟨hz, hf⟩ := fg_gpE hf
  exact fg_retz hx hb hr hlk hK h hf hz dX4_isSpot_7
set_option maxHeartbeats 4000000 in
set_option maxRecDepth 100000 in
theorem c_X4_hold (l : Launch) (D : va_G) (g : fg_G) (a1 : Int32) (a2 : Int32) (w : fg_W) (r : Int32) (w' : fg_W) (hf : f_X4_hold a1 a2 w = some (r, w')) : fg_M l yX4_hold cX4_hold 3 (some .int) 2 43 D g [.ref (g.1 4 0 0), .int a1, .int a2] w (fg_Qi D g r w') := by
  refine fg_M.of rfl (Nat.le_of_ble_eq_true rfl) (fun p e s m below meth c ls S hr hlk hK h hl => ?_)
  have hx := S.1
  have hb := S.2.1
  have hl : lv_has ls 3 [(0, .ref (g.1 4 0 0)), (1, .int a1), (2, .int a2)] := hl
  unfold f_X4_hold at hf
  refine lv_iload_n hx hb dX4_hold_0 rfl (lv_at hl 1 rfl) ?_
  obtain ⟨r3, w1, hc2, hf⟩ := fg_biE hf
  refine fg_ci h (fg_runS (rest := []) S hK h (c_X4_isSpot l D g a1  w r3 w1 hc2) vk_X4_isSpot vm_RX4_267 vs_X4_isSpot vi_RX4 vd_X4_isSpot.2 ⟨by decide, by decide⟩ rfl hl.1 rfl (Nat.le_of_ble_eq_true rfl) dX4_hold_1 ⟨Nat.zero_le _, Nat.zero_le _⟩) (fun H locs h => ?_)
  refine lv_if_eq (tgt := 20) hx hb dX4_hold_4 (by decide) (fun hc => ?_) (fun hc => ?_)
  · have hf := fg_ifT hf hc
    refine lv_aload_n hx hb dX4_hold_20 rfl (lv_at hl 0 rfl) ?_
    refine lv_iconst (v := 0) hx hb dX4_hold_21 rfl ?_
    obtain ⟨r6, w4, hc5, hf⟩ := fg_biE hf
    refine fg_ci h (fg_runV (rest := []) S hK h (c_X4_no l D g 0  w1 r6 w4 hc5) vg_RX4_129 vd_X4_no ⟨by decide, by decide⟩ fg_p4_0 rfl rfl rfl hl.1 rfl (Nat.le_of_ble_eq_true rfl) dX4_hold_22 ⟨Nat.zero_le _, Nat.zero_le _⟩) (fun H locs h => ?_)
    exact fg_reti hx hb hr hlk hK h hf dX4_hold_25
  · have hf := fg_ifF hf hc
    refine lv_iload_n hx hb dX4_hold_7 rfl (lv_at hl 2 rfl) ?_
    refine lv_iconst (v := (-1)) hx hb dX4_hold_8 rfl ?_
    refine lv_icmp_eq (tgt := 26) hx hb dX4_hold_9 (by decide) (fun hc => ?_) (fun hc => ?_)
    · have hf := fg_ifT hf hc
      refine lv_aload_n hx hb dX4_hold_26 rfl (lv_at hl 0 rfl) ?_
      refine fg_get (C := RX4) (T := TX4) (N := 22) S vu_X4 hK h fg_p4_0 rfl rfl 0 (by decide) vf_RX4_9 rfl rfl dX4_hold_27 ?_
      refine lv_bipush (v := 80) hx hb dX4_hold_30 rfl ?_
      refine lv_iload_n hx hb dX4_hold_32 rfl (lv_at hl 1 rfl) ?_
      refine lv_iadd hx hb dX4_hold_33 ?_
      refine lv_iload_n hx hb dX4_hold_34 rfl (lv_at hl 2 rfl) ?_
      obtain ⟨hn8, hf⟩ := fg_gdE hf
      refine fg_iast hx hb hK h fg_p4_1 (fun _ => rfl) hn8 dX4_hold_35 (fun w7 H locs ew h => ?_)
      have hf := fg_letE ew hf
      refine lv_iconst (v := 1) hx hb dX4_hold_36 rfl ?_
      exact fg_reti hx hb hr hlk hK h hf dX4_hold_37
    · have hf := fg_ifF hf hc
      refine lv_aload_n hx hb dX4_hold_12 rfl (lv_at hl 0 rfl) ?_
      refine lv_iload_n hx hb dX4_hold_13 rfl (lv_at hl 2 rfl) ?_
      obtain ⟨r11, w9, hc10, hf⟩ := fg_biE hf
      refine fg_ci h (fg_runV (rest := []) S hK h (c_X4_isPerson l D g a2  w1 r11 w9 hc10) vg_RX4_138 vd_X4_isPerson ⟨by decide, by decide⟩ fg_p4_0 rfl rfl rfl hl.1 rfl (Nat.le_of_ble_eq_true rfl) dX4_hold_14 ⟨Nat.zero_le _, Nat.zero_le _⟩) (fun H locs h => ?_)
      refine lv_if_ne (tgt := 26) hx hb dX4_hold_17 (by decide) (fun hc => ?_) (fun hc => ?_)
      · have hf := fg_ifF hf hc
        refine lv_aload_n hx hb dX4_hold_26 rfl (lv_at hl 0 rfl) ?_
        refine fg_get (C := RX4) (T := TX4) (N := 22) S vu_X4 hK h fg_p4_0 rfl rfl 0 (by decide) vf_RX4_9 rfl rfl dX4_hold_27 ?_
        refine lv_bipush (v := 80) hx hb dX4_hold_30 rfl ?_
        refine lv_iload_n hx hb dX4_hold_32 rfl (lv_at hl 1 rfl) ?_
        refine lv_iadd hx hb dX4_hold_33 ?_
        refine lv_iload_n hx hb dX4_hold_34 rfl (lv_at hl 2 rfl) ?_
        obtain ⟨hn13, hf⟩ := fg_gdE hf
        refine fg_iast hx hb hK h fg_p4_1 (fun _ => rfl) hn13 dX4_hold_35 (fun w12 H locs ew h => ?_)
        have hf := fg_letE ew hf
        refine lv_iconst (v := 1) hx hb dX4_hold_36 rfl ?_
        exact fg_reti hx hb hr hlk hK h hf dX4_hold_37
      · have hf := fg_ifT hf hc
        refine lv_aload_n hx hb dX4_hold_20 rfl (lv_at hl 0 rfl) ?_
        refine lv_iconst (v := 0) hx hb dX4_hold_21 rfl ?_
        obtain ⟨r16, w14, hc15, hf⟩ := fg_biE hf
        refine fg_ci h (fg_runV (rest := []) S hK h (c_X4_no l D g 0  w9 r16 w14 hc15) vg_RX4_129 vd_X4_no ⟨by decide, by decide⟩ fg_p4_0 rfl rfl rfl hl.1 rfl (Nat.le_of_ble_eq_true rfl) dX4_hold_22 ⟨Nat.zero_le _, Nat.zero_le _⟩) (fun H locs h => ?_)
        exact fg_reti hx hb hr hlk hK h hf dX4_hold_25
set_option maxHeartbeats 4000000 in
set_option maxRecDepth 100000 in
theorem c_X4_above (l : Launch) (D : va_G) (g : fg_G) (a1 : Int32) (w : fg_W) (r : Int32) (w' : fg_W) (hf : f_X4_above a1 w = some (r, w')) : fg_M l yX4_above cX4_above 1 (some .int) 0 0 D g [.int a1] w (fg_Qi D g r w') := by
  refine fg_M.of rfl (Nat.le_of_ble_eq_true rfl) (fun p e s m below meth c ls S hr hlk hK h hl => ?_)
  have hx := S.1
  have hb := S.2.1
  have hl : lv_has ls 1 [(0, .int a1)] := hl
  unfold f_X4_above at hf
  refine lv_iload_n hx hb dX4_above_0 rfl (lv_at hl 0 rfl) ?_
  refine lv_iconst (v := 3) hx hb dX4_above_1 rfl ?_
  refine lv_icmp_ne (tgt := 9) hx hb dX4_above_2 (by decide) (fun hc => ?_) (fun hc => ?_)
  · have hf := fg_ifF hf hc
    refine lv_iload_n hx hb dX4_above_9 rfl (lv_at hl 0 rfl) ?_
    refine lv_iconst (v := 4) hx hb dX4_above_10 rfl ?_
    refine lv_icmp_ne (tgt := 18) hx hb dX4_above_11 (by decide) (fun hc => ?_) (fun hc => ?_)
    · have hf := fg_ifF hf hc
      refine lv_iload_n hx hb dX4_above_18 rfl (lv_at hl 0 rfl) ?_
      refine lv_bipush (v := 6) hx hb dX4_above_19 rfl ?_
      refine lv_icmp_ne (tgt := 28) hx hb dX4_above_21 (by decide) (fun hc => ?_) (fun hc => ?_)
      · have hf := fg_ifF hf hc
        refine lv_iconst (v := 0) hx hb dX4_above_28 rfl ?_
        exact fg_reti hx hb hr hlk hK h hf dX4_above_29
      · have hf := fg_ifT hf hc
        refine lv_iconst (v := 1) hx hb dX4_above_24 rfl ?_
        refine lv_goto (tgt := 29) hx hb dX4_above_25 (by decide) ?_
        exact fg_reti hx hb hr hlk hK h hf dX4_above_29
    · have hf := fg_ifT hf hc
      refine lv_iconst (v := 3) hx hb dX4_above_14 rfl ?_
      refine lv_goto (tgt := 29) hx hb dX4_above_15 (by decide) ?_
      exact fg_reti hx hb hr hlk hK h hf dX4_above_29
  · have hf := fg_ifT hf hc
    refine lv_iconst (v := 2) hx hb dX4_above_5 rfl ?_
    refine lv_goto (tgt := 29) hx hb dX4_above_6 (by decide) ?_
    exact fg_reti hx hb hr hlk hK h hf dX4_above_29
set_option maxHeartbeats 4000000 in
set_option maxRecDepth 100000 in
theorem c_X4_as (l : Launch) (D : va_G) (g : fg_G) (a1 : Int32) (a2 : Int32) (w : fg_W) (r : Int32) (w' : fg_W) (hf : f_X4_as a1 a2 w = some (r, w')) : fg_M l yX4_as cX4_as 5 (some .int) 2 42 D g [.ref (g.1 4 0 0), .int a1, .int a2] w (fg_Qi D g r w') := by
  refine fg_M.of rfl (Nat.le_of_ble_eq_true rfl) (fun p e s m below meth c ls S hr hlk hK h hl => ?_)
  have hx := S.1
  have hb := S.2.1
  have hl : lv_has ls 5 [(0, .ref (g.1 4 0 0)), (1, .int a1), (2, .int a2)] := hl
  unfold f_X4_as at hf
  refine lv_iload_n hx hb dX4_as_0 rfl (lv_at hl 1 rfl) ?_
  obtain ⟨r3, w1, hc2, hf⟩ := fg_biE hf
  refine fg_ci h (fg_runS (rest := []) S hK h (c_X4_isSpot l D g a1  w r3 w1 hc2) vk_X4_isSpot vm_RX4_267 vs_X4_isSpot vi_RX4 vd_X4_isSpot.2 ⟨by decide, by decide⟩ rfl hl.1 rfl (Nat.le_of_ble_eq_true rfl) dX4_as_1 ⟨Nat.zero_le _, Nat.zero_le _⟩) (fun H locs h => ?_)
  refine lv_if_eq (tgt := 17) hx hb dX4_as_4 (by decide) (fun hc => ?_) (fun hc => ?_)
  · have hf := fg_ifT hf hc
    refine lv_aload_n hx hb dX4_as_17 rfl (lv_at hl 0 rfl) ?_
    refine lv_iconst (v := 0) hx hb dX4_as_18 rfl ?_
    obtain ⟨r6, w4, hc5, hf⟩ := fg_biE hf
    refine fg_ci h (fg_runV (rest := []) S hK h (c_X4_no l D g 0  w1 r6 w4 hc5) vg_RX4_129 vd_X4_no ⟨by decide, by decide⟩ fg_p4_0 rfl rfl rfl hl.1 rfl (Nat.le_of_ble_eq_true rfl) dX4_as_19 ⟨Nat.zero_le _, Nat.zero_le _⟩) (fun H locs h => ?_)
    exact fg_reti hx hb hr hlk hK h hf dX4_as_22
  · have hf := fg_ifF hf hc
    refine lv_iload_n hx hb dX4_as_7 rfl (lv_at hl 2 rfl) ?_
    refine lv_iconst (v := 0) hx hb dX4_as_8 rfl ?_
    refine lv_bipush (v := 6) hx hb dX4_as_9 rfl ?_
    obtain ⟨r9, w7, hc8, hf⟩ := fg_biE hf
    refine fg_ci h (fg_runS (rest := []) S hK h (c_X4_in1 l D g a2 0 6  w1 r9 w7 hc8) vk_X4_in1 vm_RX4_61 vs_X4_in1 vi_RX4 vd_X4_in1.2 ⟨by decide, by decide⟩ rfl hl.1 rfl (Nat.le_of_ble_eq_true rfl) dX4_as_11 ⟨Nat.zero_le _, Nat.zero_le _⟩) (fun H locs h => ?_)
    refine lv_if_ne (tgt := 23) hx hb dX4_as_14 (by decide) (fun hc => ?_) (fun hc => ?_)
    · have hf := fg_ifF hf hc
      refine lv_aload_n hx hb dX4_as_23 rfl (lv_at hl 0 rfl) ?_
      refine fg_get (C := RX4) (T := TX4) (N := 22) S vu_X4 hK h fg_p4_0 rfl rfl 0 (by decide) vf_RX4_9 rfl rfl dX4_as_24 ?_
      refine lv_bipush (v := 80) hx hb dX4_as_27 rfl ?_
      refine lv_iload_n hx hb dX4_as_29 rfl (lv_at hl 1 rfl) ?_
      refine lv_iadd hx hb dX4_as_30 ?_
      obtain ⟨hn10, hf⟩ := fg_gdE hf
      refine fg_iald hx hb hK h fg_p4_1 (fun _ => rfl) hn10 dX4_as_31 ?_
      refine lv_topi (fun x11 e_x11 => ?_)
      have hf := fg_letE e_x11 hf
      refine lv_istore_n (lv' := [(3, .int x11), (0, .ref (g.1 4 0 0)), (1, .int a1), (2, .int a2)]) hx hb dX4_as_32 rfl hl (by decide) rfl (fun ls hl => ?_)
      refine lv_iload_n hx hb dX4_as_33 rfl (lv_at hl 0 rfl) ?_
      refine lv_if_ge (tgt := 43) hx hb dX4_as_34 (by decide) (fun hc => ?_) (fun hc => ?_)
      · have hf := fg_ifT hf hc
        refine lv_aload_n hx hb dX4_as_43 rfl (lv_at hl 1 rfl) ?_
        refine lv_iload_n hx hb dX4_as_44 rfl (lv_at hl 0 rfl) ?_
        refine lv_iconst (v := 0) hx hb dX4_as_45 rfl ?_
        obtain ⟨r14, w12, hc13, hf⟩ := fg_biE hf
        refine fg_ci h (fg_runV (rest := []) S hK h (c_X4_get l D g x11 0  w7 r14 w12 hc13) vg_RX4_65 vd_X4_get ⟨by decide, by decide⟩ fg_p4_0 rfl rfl rfl hl.1 rfl (Nat.le_of_ble_eq_true rfl) dX4_as_46 ⟨Nat.zero_le _, Nat.zero_le _⟩) (fun H locs h => ?_)
        refine lv_istore (lv' := [(4, .int r14), (3, .int x11), (0, .ref (g.1 4 0 0)), (1, .int a1), (2, .int a2)]) hx hb dX4_as_49 hl (by decide) rfl (fun ls hl => ?_)
        have hK_51 : ∀ (v4_51 : Int32) (w_51 : fg_W) (H : Heap) (locs : List Loc) (ls : Array Slot), fg_H D g s.heap w_51 H locs → lv_has ls 5 [(0, .ref (g.1 4 0 0)), (1, .int a1), (2, .int a2), (3, .int x11), (4, .int v4_51)] → (if v4_51 = a2 then (some (x11, w_51)) else (fg_bi (f_X4_no 2 w_51) (fun r17 w15 => some (r17, w15)))) = some (r, w') → fg_Gi p l e 2 42 s m [.ref (g.1 4 0 0), .int a1, .int a2] below meth c D g r w' H locs 72 ls [] := by
          intro v4_51 w_51 H locs ls h hl hf
          refine lv_iload hx hb dX4_as_72 (lv_at hl 4 rfl) ?_
          refine lv_iload_n hx hb dX4_as_74 rfl (lv_at hl 2 rfl) ?_
          refine lv_icmp_ne (tgt := 82) hx hb dX4_as_75 (by decide) (fun hc => ?_) (fun hc => ?_)
          · have hf := fg_ifF hf hc
            refine lv_aload_n hx hb dX4_as_82 rfl (lv_at hl 0 rfl) ?_
            refine lv_iconst (v := 2) hx hb dX4_as_83 rfl ?_
            obtain ⟨r17, w15, hc16, hf⟩ := fg_biE hf
            refine fg_ci h (fg_runV (rest := []) S hK h (c_X4_no l D g 2  w_51 r17 w15 hc16) vg_RX4_129 vd_X4_no ⟨by decide, by decide⟩ fg_p4_0 rfl rfl rfl hl.1 rfl (Nat.le_of_ble_eq_true rfl) dX4_as_84 ⟨Nat.zero_le _, Nat.zero_le _⟩) (fun H locs h => ?_)
            exact fg_reti hx hb hr hlk hK h hf dX4_as_87
          · have hf := fg_ifT hf hc
            refine lv_iload_n hx hb dX4_as_78 rfl (lv_at hl 3 rfl) ?_
            refine lv_goto (tgt := 87) hx hb dX4_as_79 (by decide) ?_
            exact fg_reti hx hb hr hlk hK h hf dX4_as_87
        have hL_51 : ∀ (KK_51 : Int32 → fg_W → Option (Int32 × fg_W)) (hK_51 : ∀ (v4_51 : Int32) (w_51 : fg_W) (H : Heap) (locs : List Loc) (ls : Array Slot), fg_H D g s.heap w_51 H locs → lv_has ls 5 [(0, .ref (g.1 4 0 0)), (1, .int a1), (2, .int a2), (3, .int x11), (4, .int v4_51)] → KK_51 v4_51 w_51 = some (r, w') → fg_Gi p l e 2 42 s m [.ref (g.1 4 0 0), .int a1, .int a2] below meth c D g r w' H locs 72 ls []) (n : Nat) (v4_51 : Int32) (w_51 : fg_W) (H : Heap) (locs : List Loc) (ls : Array Slot), fg_H D g s.heap w_51 H locs → lv_has ls 5 [(0, .ref (g.1 4 0 0)), (1, .int a1), (2, .int a2), (3, .int x11), (4, .int v4_51)] → f_X4_as_L51 a2 KK_51 n v4_51 w_51 = some (r, w') → fg_Gi p l e 2 42 s m [.ref (g.1 4 0 0), .int a1, .int a2] below meth c D g r w' H locs 51 ls [] := by
          intro KK_51 hK_51 n
          induction n with
          | zero => intro v4_51 w_51 H locs ls h hl hf; exact fg_no hf
          | succ n_51 ih_51 =>
            intro v4_51 w_51 H locs ls h hl hf
            unfold f_X4_as_L51 at hf
            refine lv_iload hx hb dX4_as_51 (lv_at hl 4 rfl) ?_
            refine lv_iload_n hx hb dX4_as_53 rfl (lv_at hl 2 rfl) ?_
            refine lv_icmp_eq (tgt := 72) hx hb dX4_as_54 (by decide) (fun hc => ?_) (fun hc => ?_)
            · have hf := fg_ifT hf hc
              exact hK_51 v4_51 w_51 _ _ ls h (lv_sub hl [0, 1, 2, 3, 4] rfl) hf
            · have hf := fg_ifF hf hc
              refine lv_iload hx hb dX4_as_57 (lv_at hl 4 rfl) ?_
              refine lv_if_eq (tgt := 72) hx hb dX4_as_59 (by decide) (fun hc => ?_) (fun hc => ?_)
              · have hf := fg_ifT hf hc
                exact hK_51 v4_51 w_51 _ _ ls h (lv_sub hl [0, 1, 2, 3, 4] rfl) hf
              · have hf := fg_ifF hf hc
                refine lv_iload hx hb dX4_as_62 (lv_at hl 4 rfl) ?_
                obtain ⟨r23, w21, hc22, hf⟩ := fg_biE hf
                refine fg_ci h (fg_runS (rest := []) S hK h (c_X4_above l D g v4_51  w_51 r23 w21 hc22) vk_X4_above vm_RX4_270 vs_X4_above vi_RX4 vd_X4_above.2 ⟨by decide, by decide⟩ rfl hl.1 rfl (Nat.le_of_ble_eq_true rfl) dX4_as_64 ⟨Nat.zero_le _, Nat.zero_le _⟩) (fun H locs h => ?_)
                refine lv_istore (lv' := [(4, .int r23), (0, .ref (g.1 4 0 0)), (1, .int a1), (2, .int a2), (3, .int x11)]) hx hb dX4_as_67 hl (by decide) rfl (fun ls hl => ?_)
                refine lv_goto (tgt := 51) hx hb dX4_as_69 (by decide) ?_
                exact ih_51 r23 w21 _ _ ls h (lv_sub hl [1, 2, 3, 4, 0] rfl) hf
        exact hL_51 _ hK_51 fg_fuel r14 w12 _ _ ls h (lv_sub hl [2, 3, 4, 1, 0] rfl) hf
      · have hf := fg_ifF hf hc
        refine lv_aload_n hx hb dX4_as_37 rfl (lv_at hl 1 rfl) ?_
        refine lv_iconst (v := 5) hx hb dX4_as_38 rfl ?_
        obtain ⟨r26, w24, hc25, hf⟩ := fg_biE hf
        refine fg_ci h (fg_runV (rest := []) S hK h (c_X4_no l D g 5  w7 r26 w24 hc25) vg_RX4_129 vd_X4_no ⟨by decide, by decide⟩ fg_p4_0 rfl rfl rfl hl.1 rfl (Nat.le_of_ble_eq_true rfl) dX4_as_39 ⟨Nat.zero_le _, Nat.zero_le _⟩) (fun H locs h => ?_)
        exact fg_reti hx hb hr hlk hK h hf dX4_as_42
    · have hf := fg_ifT hf hc
      refine lv_aload_n hx hb dX4_as_17 rfl (lv_at hl 0 rfl) ?_
      refine lv_iconst (v := 0) hx hb dX4_as_18 rfl ?_
      obtain ⟨r29, w27, hc28, hf⟩ := fg_biE hf
      refine fg_ci h (fg_runV (rest := []) S hK h (c_X4_no l D g 0  w7 r29 w27 hc28) vg_RX4_129 vd_X4_no ⟨by decide, by decide⟩ fg_p4_0 rfl rfl rfl hl.1 rfl (Nat.le_of_ble_eq_true rfl) dX4_as_19 ⟨Nat.zero_le _, Nat.zero_le _⟩) (fun H locs h => ?_)
      exact fg_reti hx hb hr hlk hK h hf dX4_as_22
set_option maxHeartbeats 4000000 in
set_option maxRecDepth 100000 in
theorem c_X4_sheet (l : Launch) (D : va_G) (g : fg_G) (a1 : Int32) (a2 : Int32) (a3 : Int32) (w : fg_W) (r : Int32) (w' : fg_W) (hf : f_X4_sheet a1 a2 a3 w = some (r, w')) : fg_M l yX4_sheet cX4_sheet 5 (some .int) 2 42 D g [.ref (g.1 4 0 0), .int a1, .int a2, .int a3] w (fg_Qi D g r w') := by
  refine fg_M.of rfl (Nat.le_of_ble_eq_true rfl) (fun p e s m below meth c ls S hr hlk hK h hl => ?_)
  have hx := S.1
  have hb := S.2.1
  have hl : lv_has ls 5 [(0, .ref (g.1 4 0 0)), (1, .int a1), (2, .int a2), (3, .int a3)] := hl
  unfold f_X4_sheet at hf
  refine lv_iload_n hx hb dX4_sheet_0 rfl (lv_at hl 1 rfl) ?_
  obtain ⟨r3, w1, hc2, hf⟩ := fg_biE hf
  refine fg_ci h (fg_runS (rest := []) S hK h (c_X4_isSheet l D g a1  w r3 w1 hc2) vk_X4_isSheet vm_RX4_189 vs_X4_isSheet vi_RX4 vd_X4_isSheet.2 ⟨by decide, by decide⟩ rfl hl.1 rfl (Nat.le_of_ble_eq_true rfl) dX4_sheet_1 ⟨Nat.zero_le _, Nat.zero_le _⟩) (fun H locs h => ?_)
  refine lv_if_eq (tgt := 29) hx hb dX4_sheet_4 (by decide) (fun hc => ?_) (fun hc => ?_)
  · have hf := fg_ifT hf hc
    refine lv_aload_n hx hb dX4_sheet_29 rfl (lv_at hl 0 rfl) ?_
    refine lv_iconst (v := 0) hx hb dX4_sheet_30 rfl ?_
    obtain ⟨r6, w4, hc5, hf⟩ := fg_biE hf
    refine fg_ci h (fg_runV (rest := []) S hK h (c_X4_no l D g 0  w1 r6 w4 hc5) vg_RX4_129 vd_X4_no ⟨by decide, by decide⟩ fg_p4_0 rfl rfl rfl hl.1 rfl (Nat.le_of_ble_eq_true rfl) dX4_sheet_31 ⟨Nat.zero_le _, Nat.zero_le _⟩) (fun H locs h => ?_)
    exact fg_reti hx hb hr hlk hK h hf dX4_sheet_34
  · have hf := fg_ifF hf hc
    refine lv_iload_n hx hb dX4_sheet_7 rfl (lv_at hl 2 rfl) ?_
    refine lv_if_eq (tgt := 35) hx hb dX4_sheet_8 (by decide) (fun hc => ?_) (fun hc => ?_)
    · have hf := fg_ifT hf hc
      refine lv_iload_n hx hb dX4_sheet_35 rfl (lv_at hl 3 rfl) ?_
      refine lv_if_ge (tgt := 46) hx hb dX4_sheet_36 (by decide) (fun hc => ?_) (fun hc => ?_)
      · have hf := fg_ifT hf hc
        refine lv_iload_n hx hb dX4_sheet_46 rfl (lv_at hl 3 rfl) ?_
        refine lv_bipush (v := 40) hx hb dX4_sheet_47 rfl ?_
        refine lv_icmp_le (tgt := 58) hx hb dX4_sheet_49 (by decide) (fun hc => ?_) (fun hc => ?_)
        · have hf := fg_ifT hf hc
          refine lv_aload_n hx hb dX4_sheet_58 rfl (lv_at hl 0 rfl) ?_
          refine fg_get (C := RX4) (T := TX4) (N := 22) S vu_X4 hK h fg_p4_0 rfl rfl 18 (by decide) vf_RX4_44 rfl rfl dX4_sheet_59 ?_
          refine lv_iload_n hx hb dX4_sheet_62 rfl (lv_at hl 1 rfl) ?_
          refine lv_iload_n hx hb dX4_sheet_63 rfl (lv_at hl 2 rfl) ?_
          obtain ⟨hn8, hf⟩ := fg_gdE hf
          refine fg_iast hx hb hK h fg_p4_12 (fun _ => rfl) hn8 dX4_sheet_64 (fun w7 H locs ew h => ?_)
          have hf := fg_letE ew hf
          refine lv_aload_n hx hb dX4_sheet_65 rfl (lv_at hl 0 rfl) ?_
          refine fg_get (C := RX4) (T := TX4) (N := 22) S vu_X4 hK h fg_p4_0 rfl rfl 19 (by decide) vf_RX4_47 rfl rfl dX4_sheet_66 ?_
          refine lv_iload_n hx hb dX4_sheet_69 rfl (lv_at hl 1 rfl) ?_
          refine lv_iload_n hx hb dX4_sheet_70 rfl (lv_at hl 2 rfl) ?_
          refine lv_if_ne (tgt := 78) hx hb dX4_sheet_71 (by decide) (fun hc => ?_) (fun hc => ?_)
          · have hf := fg_ifF hf hc
            refine lv_iload_n hx hb dX4_sheet_78 rfl (lv_at hl 3 rfl) ?_
            obtain ⟨hn10, hf⟩ := fg_gdE hf
            refine fg_iast hx hb hK h fg_p4_13 (fun _ => rfl) hn10 dX4_sheet_79 (fun w9 H locs ew h => ?_)
            have hf := fg_letE ew hf
            refine lv_iconst (v := 0) hx hb dX4_sheet_80 rfl ?_
            refine lv_istore (lv' := [(4, .int 0), (0, .ref (g.1 4 0 0)), (1, .int a1), (2, .int a2), (3, .int a3)]) hx hb dX4_sheet_81 hl (by decide) rfl (fun ls hl => ?_)
            have hK_83 : ∀ (v4_83 : Int32) (w_83 : fg_W) (H : Heap) (locs : List Loc) (ls : Array Slot), fg_H D g s.heap w_83 H locs → lv_has ls 5 [(0, .ref (g.1 4 0 0)), (1, .int a1), (2, .int a2), (3, .int a3), (4, .int v4_83)] → (fg_gd a1 4 (some ((w_83.1 4 0 13 a1.toNatClampNeg), w_83))) = some (r, w') → fg_Gi p l e 2 42 s m [.ref (g.1 4 0 0), .int a1, .int a2, .int a3] below meth c D g r w' H locs 109 ls [] := by
              intro v4_83 w_83 H locs ls h hl hf
              refine lv_aload_n hx hb dX4_sheet_109 rfl (lv_at hl 0 rfl) ?_
              refine fg_get (C := RX4) (T := TX4) (N := 22) S vu_X4 hK h fg_p4_0 rfl rfl 19 (by decide) vf_RX4_47 rfl rfl dX4_sheet_110 ?_
              refine lv_iload_n hx hb dX4_sheet_113 rfl (lv_at hl 1 rfl) ?_
              obtain ⟨hn11, hf⟩ := fg_gdE hf
              refine fg_iald hx hb hK h fg_p4_13 (fun _ => rfl) hn11 dX4_sheet_114 ?_
              exact fg_reti hx hb hr hlk hK h hf dX4_sheet_115
            have hL_83 : ∀ (KK_83 : Int32 → fg_W → Option (Int32 × fg_W)) (hK_83 : ∀ (v4_83 : Int32) (w_83 : fg_W) (H : Heap) (locs : List Loc) (ls : Array Slot), fg_H D g s.heap w_83 H locs → lv_has ls 5 [(0, .ref (g.1 4 0 0)), (1, .int a1), (2, .int a2), (3, .int a3), (4, .int v4_83)] → KK_83 v4_83 w_83 = some (r, w') → fg_Gi p l e 2 42 s m [.ref (g.1 4 0 0), .int a1, .int a2, .int a3] below meth c D g r w' H locs 109 ls []) (n : Nat) (v4_83 : Int32) (w_83 : fg_W) (H : Heap) (locs : List Loc) (ls : Array Slot), fg_H D g s.heap w_83 H locs → lv_has ls 5 [(0, .ref (g.1 4 0 0)), (1, .int a1), (2, .int a2), (3, .int a3), (4, .int v4_83)] → f_X4_sheet_L83 a1 KK_83 n v4_83 w_83 = some (r, w') → fg_Gi p l e 2 42 s m [.ref (g.1 4 0 0), .int a1, .int a2, .int a3] below meth c D g r w' H locs 83 ls [] := by
              intro KK_83 hK_83 n
              induction n with
              | zero => intro v4_83 w_83 H locs ls h hl hf; exact fg_no hf
              | succ n_83 ih_83 =>
                intro v4_83 w_83 H locs ls h hl hf
                unfold f_X4_sheet_L83 at hf
                refine lv_iload hx hb dX4_sheet_83 (lv_at hl 4 rfl) ?_
                refine lv_bipush (v := 40) hx hb dX4_sheet_85 rfl ?_
                refine lv_icmp_ge (tgt := 109) hx hb dX4_sheet_87 (by decide) (fun hc => ?_) (fun hc => ?_)
                · have hf := fg_ifT hf hc
                  exact hK_83 v4_83 w_83 _ _ ls h (lv_sub hl [0, 1, 2, 3, 4] rfl) hf
                · have hf := fg_ifF hf hc
                  refine lv_aload_n hx hb dX4_sheet_90 rfl (lv_at hl 0 rfl) ?_
                  refine fg_get (C := RX4) (T := TX4) (N := 22) S vu_X4 hK h fg_p4_0 rfl rfl 20 (by decide) vf_RX4_50 rfl rfl dX4_sheet_91 ?_
                  refine lv_bipush (v := 40) hx hb dX4_sheet_94 rfl ?_
                  refine lv_iload_n hx hb dX4_sheet_96 rfl (lv_at hl 1 rfl) ?_
                  refine lv_imul hx hb dX4_sheet_97 ?_
                  refine lv_iload hx hb dX4_sheet_98 (lv_at hl 4 rfl) ?_
                  refine lv_iadd hx hb dX4_sheet_100 ?_
                  refine lv_iconst (v := 0) hx hb dX4_sheet_101 rfl ?_
                  obtain ⟨hn15, hf⟩ := fg_gdE hf
                  refine fg_iast hx hb hK h fg_p4_14 (fun _ => rfl) hn15 dX4_sheet_102 (fun w14 H locs ew h => ?_)
                  have hf := fg_letE ew hf
                  refine lv_iinc (v := (v4_83 + 1)) (lv' := [(4, .int (v4_83 + 1)), (0, .ref (g.1 4 0 0)), (1, .int a1), (2, .int a2), (3, .int a3)]) hx hb dX4_sheet_103 hl (k := 4) rfl rfl (by decide) rfl (fun ls hl => ?_)
                  refine lv_goto (tgt := 83) hx hb dX4_sheet_106 (by decide) ?_
                  exact ih_83 (v4_83 + 1) w14 _ _ ls h (lv_sub hl [1, 2, 3, 4, 0] rfl) hf
            exact hL_83 _ hK_83 fg_fuel 0 w9 _ _ ls h (lv_sub hl [1, 2, 3, 4, 0] rfl) hf
          · have hf := fg_ifT hf hc
            refine lv_iconst (v := 0) hx hb dX4_sheet_74 rfl ?_
            refine lv_goto (tgt := 79) hx hb dX4_sheet_75 (by decide) ?_
            obtain ⟨hn17, hf⟩ := fg_gdE hf
            refine fg_iast hx hb hK h fg_p4_13 (fun _ => rfl) hn17 dX4_sheet_79 (fun w16 H locs ew h => ?_)
            have hf := fg_letE ew hf
            refine lv_iconst (v := 0) hx hb dX4_sheet_80 rfl ?_
            refine lv_istore (lv' := [(4, .int 0), (0, .ref (g.1 4 0 0)), (1, .int a1), (2, .int a2), (3, .int a3)]) hx hb dX4_sheet_81 hl (by decide) rfl (fun ls hl => ?_)
            have hK_83 : ∀ (v4_83 : Int32) (w_83 : fg_W) (H : Heap) (locs : List Loc) (ls : Array Slot), fg_H D g s.heap w_83 H locs → lv_has ls 5 [(0, .ref (g.1 4 0 0)), (1, .int a1), (2, .int a2), (3, .int a3), (4, .int v4_83)] → (fg_gd a1 4 (some ((w_83.1 4 0 13 a1.toNatClampNeg), w_83))) = some (r, w') → fg_Gi p l e 2 42 s m [.ref (g.1 4 0 0), .int a1, .int a2, .int a3] below meth c D g r w' H locs 109 ls [] := by
              intro v4_83 w_83 H locs ls h hl hf
              refine lv_aload_n hx hb dX4_sheet_109 rfl (lv_at hl 0 rfl) ?_
              refine fg_get (C := RX4) (T := TX4) (N := 22) S vu_X4 hK h fg_p4_0 rfl rfl 19 (by decide) vf_RX4_47 rfl rfl dX4_sheet_110 ?_
              refine lv_iload_n hx hb dX4_sheet_113 rfl (lv_at hl 1 rfl) ?_
              obtain ⟨hn18, hf⟩ := fg_gdE hf
              refine fg_iald hx hb hK h fg_p4_13 (fun _ => rfl) hn18 dX4_sheet_114 ?_
              exact fg_reti hx hb hr hlk hK h hf dX4_sheet_115
            have hL_83 : ∀ (KK_83 : Int32 → fg_W → Option (Int32 × fg_W)) (hK_83 : ∀ (v4_83 : Int32) (w_83 : fg_W) (H : Heap) (locs : List Loc) (ls : Array Slot), fg_H D g s.heap w_83 H locs → lv_has ls 5 [(0, .ref (g.1 4 0 0)), (1, .int a1), (2, .int a2), (3, .int a3), (4, .int v4_83)] → KK_83 v4_83 w_83 = some (r, w') → fg_Gi p l e 2 42 s m [.ref (g.1 4 0 0), .int a1, .int a2, .int a3] below meth c D g r w' H locs 109 ls []) (n : Nat) (v4_83 : Int32) (w_83 : fg_W) (H : Heap) (locs : List Loc) (ls : Array Slot), fg_H D g s.heap w_83 H locs → lv_has ls 5 [(0, .ref (g.1 4 0 0)), (1, .int a1), (2, .int a2), (3, .int a3), (4, .int v4_83)] → f_X4_sheet_L83 a1 KK_83 n v4_83 w_83 = some (r, w') → fg_Gi p l e 2 42 s m [.ref (g.1 4 0 0), .int a1, .int a2, .int a3] below meth c D g r w' H locs 83 ls [] := by
              intro KK_83 hK_83 n
              induction n with
              | zero => intro v4_83 w_83 H locs ls h hl hf; exact fg_no hf
              | succ n_83 ih_83 =>
                intro v4_83 w_83 H locs ls h hl hf
                unfold f_X4_sheet_L83 at hf
                refine lv_iload hx hb dX4_sheet_83 (lv_at hl 4 rfl) ?_
                refine lv_bipush (v := 40) hx hb dX4_sheet_85 rfl ?_
                refine lv_icmp_ge (tgt := 109) hx hb dX4_sheet_87 (by decide) (fun hc => ?_) (fun hc => ?_)
                · have hf := fg_ifT hf hc
                  exact hK_83 v4_83 w_83 _ _ ls h (lv_sub hl [0, 1, 2, 3, 4] rfl) hf
                · have hf := fg_ifF hf hc
                  refine lv_aload_n hx hb dX4_sheet_90 rfl (lv_at hl 0 rfl) ?_
                  refine fg_get (C := RX4) (T := TX4) (N := 22) S vu_X4 hK h fg_p4_0 rfl rfl 20 (by decide) vf_RX4_50 rfl rfl dX4_sheet_91 ?_
                  refine lv_bipush (v := 40) hx hb dX4_sheet_94 rfl ?_
                  refine lv_iload_n hx hb dX4_sheet_96 rfl (lv_at hl 1 rfl) ?_
                  refine lv_imul hx hb dX4_sheet_97 ?_
                  refine lv_iload hx hb dX4_sheet_98 (lv_at hl 4 rfl) ?_
                  refine lv_iadd hx hb dX4_sheet_100 ?_
                  refine lv_iconst (v := 0) hx hb dX4_sheet_101 rfl ?_
                  obtain ⟨hn20, hf⟩ := fg_gdE hf
                  refine fg_iast hx hb hK h fg_p4_14 (fun _ => rfl) hn20 dX4_sheet_102 (fun w19 H locs ew h => ?_)
                  have hf := fg_letE ew hf
                  refine lv_iinc (v := (v4_83 + 1)) (lv' := [(4, .int (v4_83 + 1)), (0, .ref (g.1 4 0 0)), (1, .int a1), (2, .int a2), (3, .int a3)]) hx hb dX4_sheet_103 hl (k := 4) rfl rfl (by decide) rfl (fun ls hl => ?_)
                  refine lv_goto (tgt := 83) hx hb dX4_sheet_106 (by decide) ?_
                  exact ih_83 (v4_83 + 1) w19 _ _ ls h (lv_sub hl [1, 2, 3, 4, 0] rfl) hf
            exact hL_83 _ hK_83 fg_fuel 0 w16 _ _ ls h (lv_sub hl [1, 2, 3, 4, 0] rfl) hf
        · have hf := fg_ifF hf hc
          refine lv_aload_n hx hb dX4_sheet_52 rfl (lv_at hl 0 rfl) ?_
          refine lv_iconst (v := 0) hx hb dX4_sheet_53 rfl ?_
          obtain ⟨r23, w21, hc22, hf⟩ := fg_biE hf
          refine fg_ci h (fg_runV (rest := []) S hK h (c_X4_no l D g 0  w1 r23 w21 hc22) vg_RX4_129 vd_X4_no ⟨by decide, by decide⟩ fg_p4_0 rfl rfl rfl hl.1 rfl (Nat.le_of_ble_eq_true rfl) dX4_sheet_54 ⟨Nat.zero_le _, Nat.zero_le _⟩) (fun H locs h => ?_)
          exact fg_reti hx hb hr hlk hK h hf dX4_sheet_57
      · have hf := fg_ifF hf hc
        refine lv_aload_n hx hb dX4_sheet_39 rfl (lv_at hl 0 rfl) ?_
        refine lv_bipush (v := 6) hx hb dX4_sheet_40 rfl ?_
        obtain ⟨r26, w24, hc25, hf⟩ := fg_biE hf
        refine fg_ci h (fg_runV (rest := []) S hK h (c_X4_no l D g 6  w1 r26 w24 hc25) vg_RX4_129 vd_X4_no ⟨by decide, by decide⟩ fg_p4_0 rfl rfl rfl hl.1 rfl (Nat.le_of_ble_eq_true rfl) dX4_sheet_42 ⟨Nat.zero_le _, Nat.zero_le _⟩) (fun H locs h => ?_)
        exact fg_reti hx hb hr hlk hK h hf dX4_sheet_45
    · have hf := fg_ifF hf hc
      refine lv_iload_n hx hb dX4_sheet_11 rfl (lv_at hl 2 rfl) ?_
      refine lv_bipush (v := 8) hx hb dX4_sheet_12 rfl ?_
      refine lv_icmp_eq (tgt := 35) hx hb dX4_sheet_14 (by decide) (fun hc => ?_) (fun hc => ?_)
      · have hf := fg_ifT hf hc
        refine lv_iload_n hx hb dX4_sheet_35 rfl (lv_at hl 3 rfl) ?_
        refine lv_if_ge (tgt := 46) hx hb dX4_sheet_36 (by decide) (fun hc => ?_) (fun hc => ?_)
        · have hf := fg_ifT hf hc
          refine lv_iload_n hx hb dX4_sheet_46 rfl (lv_at hl 3 rfl) ?_
          refine lv_bipush (v := 40) hx hb dX4_sheet_47 rfl ?_
          refine lv_icmp_le (tgt := 58) hx hb dX4_sheet_49 (by decide) (fun hc => ?_) (fun hc => ?_)
          · have hf := fg_ifT hf hc
            refine lv_aload_n hx hb dX4_sheet_58 rfl (lv_at hl 0 rfl) ?_
            refine fg_get (C := RX4) (T := TX4) (N := 22) S vu_X4 hK h fg_p4_0 rfl rfl 18 (by decide) vf_RX4_44 rfl rfl dX4_sheet_59 ?_
            refine lv_iload_n hx hb dX4_sheet_62 rfl (lv_at hl 1 rfl) ?_
            refine lv_iload_n hx hb dX4_sheet_63 rfl (lv_at hl 2 rfl) ?_
            obtain ⟨hn28, hf⟩ := fg_gdE hf
            refine fg_iast hx hb hK h fg_p4_12 (fun _ => rfl) hn28 dX4_sheet_64 (fun w27 H locs ew h => ?_)
            have hf := fg_letE ew hf
            refine lv_aload_n hx hb dX4_sheet_65 rfl (lv_at hl 0 rfl) ?_
            refine fg_get (C := RX4) (T := TX4) (N := 22) S vu_X4 hK h fg_p4_0 rfl rfl 19 (by decide) vf_RX4_47 rfl rfl dX4_sheet_66 ?_
            refine lv_iload_n hx hb dX4_sheet_69 rfl (lv_at hl 1 rfl) ?_
            refine lv_iload_n hx hb dX4_sheet_70 rfl (lv_at hl 2 rfl) ?_
            refine lv_if_ne (tgt := 78) hx hb dX4_sheet_71 (by decide) (fun hc => ?_) (fun hc => ?_)
            · have hf := fg_ifF hf hc
              refine lv_iload_n hx hb dX4_sheet_78 rfl (lv_at hl 3 rfl) ?_
              obtain ⟨hn30, hf⟩ := fg_gdE hf
              refine fg_iast hx hb hK h fg_p4_13 (fun _ => rfl) hn30 dX4_sheet_79 (fun w29 H locs ew h => ?_)
              have hf := fg_letE ew hf
              refine lv_iconst (v := 0) hx hb dX4_sheet_80 rfl ?_
              refine lv_istore (lv' := [(4, .int 0), (0, .ref (g.1 4 0 0)), (1, .int a1), (2, .int a2), (3, .int a3)]) hx hb dX4_sheet_81 hl (by decide) rfl (fun ls hl => ?_)
              have hK_83 : ∀ (v4_83 : Int32) (w_83 : fg_W) (H : Heap) (locs : List Loc) (ls : Array Slot), fg_H D g s.heap w_83 H locs → lv_has ls 5 [(0, .ref (g.1 4 0 0)), (1, .int a1), (2, .int a2), (3, .int a3), (4, .int v4_83)] → (fg_gd a1 4 (some ((w_83.1 4 0 13 a1.toNatClampNeg), w_83))) = some (r, w') → fg_Gi p l e 2 42 s m [.ref (g.1 4 0 0), .int a1, .int a2, .int a3] below meth c D g r w' H locs 109 ls [] := by
                intro v4_83 w_83 H locs ls h hl hf
                refine lv_aload_n hx hb dX4_sheet_109 rfl (lv_at hl 0 rfl) ?_
                refine fg_get (C := RX4) (T := TX4) (N := 22) S vu_X4 hK h fg_p4_0 rfl rfl 19 (by decide) vf_RX4_47 rfl rfl dX4_sheet_110 ?_
                refine lv_iload_n hx hb dX4_sheet_113 rfl (lv_at hl 1 rfl) ?_
                obtain ⟨hn31, hf⟩ := fg_gdE hf
                refine fg_iald hx hb hK h fg_p4_13 (fun _ => rfl) hn31 dX4_sheet_114 ?_
                exact fg_reti hx hb hr hlk hK h hf dX4_sheet_115
              have hL_83 : ∀ (KK_83 : Int32 → fg_W → Option (Int32 × fg_W)) (hK_83 : ∀ (v4_83 : Int32) (w_83 : fg_W) (H : Heap) (locs : List Loc) (ls : Array Slot), fg_H D g s.heap w_83 H locs → lv_has ls 5 [(0, .ref (g.1 4 0 0)), (1, .int a1), (2, .int a2), (3, .int a3), (4, .int v4_83)] → KK_83 v4_83 w_83 = some (r, w') → fg_Gi p l e 2 42 s m [.ref (g.1 4 0 0), .int a1, .int a2, .int a3] below meth c D g r w' H locs 109 ls []) (n : Nat) (v4_83 : Int32) (w_83 : fg_W) (H : Heap) (locs : List Loc) (ls : Array Slot), fg_H D g s.heap w_83 H locs → lv_has ls 5 [(0, .ref (g.1 4 0 0)), (1, .int a1), (2, .int a2), (3, .int a3), (4, .int v4_83)] → f_X4_sheet_L83 a1 KK_83 n v4_83 w_83 = some (r, w') → fg_Gi p l e 2 42 s m [.ref (g.1 4 0 0), .int a1, .int a2, .int a3] below meth c D g r w' H locs 83 ls [] := by
                intro KK_83 hK_83 n
                induction n with
                | zero => intro v4_83 w_83 H locs ls h hl hf; exact fg_no hf
                | succ n_83 ih_83 =>
                  intro v4_83 w_83 H locs ls h hl hf
                  unfold f_X4_sheet_L83 at hf
                  refine lv_iload hx hb dX4_sheet_83 (lv_at hl 4 rfl) ?_
                  refine lv_bipush (v := 40) hx hb dX4_sheet_85 rfl ?_
                  refine lv_icmp_ge (tgt := 109) hx hb dX4_sheet_87 (by decide) (fun hc => ?_) (fun hc => ?_)
                  · have hf := fg_ifT hf hc
                    exact hK_83 v4_83 w_83 _ _ ls h (lv_sub hl [0, 1, 2, 3, 4] rfl) hf
                  · have hf := fg_ifF hf hc
                    refine lv_aload_n hx hb dX4_sheet_90 rfl (lv_at hl 0 rfl) ?_
                    refine fg_get (C := RX4) (T := TX4) (N := 22) S vu_X4 hK h fg_p4_0 rfl rfl 20 (by decide) vf_RX4_50 rfl rfl dX4_sheet_91 ?_
                    refine lv_bipush (v := 40) hx hb dX4_sheet_94 rfl ?_
                    refine lv_iload_n hx hb dX4_sheet_96 rfl (lv_at hl 1 rfl) ?_
                    refine lv_imul hx hb dX4_sheet_97 ?_
                    refine lv_iload hx hb dX4_sheet_98 (lv_at hl 4 rfl) ?_
                    refine lv_iadd hx hb dX4_sheet_100 ?_
                    refine lv_iconst (v := 0) hx hb dX4_sheet_101 rfl ?_
                    obtain ⟨hn33, hf⟩ := fg_gdE hf
                    refine fg_iast hx hb hK h fg_p4_14 (fun _ => rfl) hn33 dX4_sheet_102 (fun w32 H locs ew h => ?_)
                    have hf := fg_letE ew hf
                    refine lv_iinc (v := (v4_83 + 1)) (lv' := [(4, .int (v4_83 + 1)), (0, .ref (g.1 4 0 0)), (1, .int a1), (2, .int a2), (3, .int a3)]) hx hb dX4_sheet_103 hl (k := 4) rfl rfl (by decide) rfl (fun ls hl => ?_)
                    refine lv_goto (tgt := 83) hx hb dX4_sheet_106 (by decide) ?_
                    exact ih_83 (v4_83 + 1) w32 _ _ ls h (lv_sub hl [1, 2, 3, 4, 0] rfl) hf
              exact hL_83 _ hK_83 fg_fuel 0 w29 _ _ ls h (lv_sub hl [1, 2, 3, 4, 0] rfl) hf
            · have hf := fg_ifT hf hc
              refine lv_iconst (v := 0) hx hb dX4_sheet_74 rfl ?_
              refine lv_goto (tgt := 79) hx hb dX4_sheet_75 (by decide) ?_
              obtain ⟨hn35, hf⟩ := fg_gdE hf
              refine fg_iast hx hb hK h fg_p4_13 (fun _ => rfl) hn35 dX4_sheet_79 (fun w34 H locs ew h => ?_)
              have hf := fg_letE ew hf
              refine lv_iconst (v := 0) hx hb dX4_sheet_80 rfl ?_
              refine lv_istore (lv' := [(4, .int 0), (0, .ref (g.1 4 0 0)), (1, .int a1), (2, .int a2), (3, .int a3)]) hx hb dX4_sheet_81 hl (by decide) rfl (fun ls hl => ?_)
              have hK_83 : ∀ (v4_83 : Int32) (w_83 : fg_W) (H : Heap) (locs : List Loc) (ls : Array Slot), fg_H D g s.heap w_83 H locs → lv_has ls 5 [(0, .ref (g.1 4 0 0)), (1, .int a1), (2, .int a2), (3, .int a3), (4, .int v4_83)] → (fg_gd a1 4 (some ((w_83.1 4 0 13 a1.toNatClampNeg), w_83))) = some (r, w') → fg_Gi p l e 2 42 s m [.ref (g.1 4 0 0), .int a1, .int a2, .int a3] below meth c D g r w' H locs 109 ls [] := by
                intro v4_83 w_83 H locs ls h hl hf
                refine lv_aload_n hx hb dX4_sheet_109 rfl (lv_at hl 0 rfl) ?_
                refine fg_get (C := RX4) (T := TX4) (N := 22) S vu_X4 hK h fg_p4_0 rfl rfl 19 (by decide) vf_RX4_47 rfl rfl dX4_sheet_110 ?_
                refine lv_iload_n hx hb dX4_sheet_113 rfl (lv_at hl 1 rfl) ?_
                obtain ⟨hn36, hf⟩ := fg_gdE hf
                refine fg_iald hx hb hK h fg_p4_13 (fun _ => rfl) hn36 dX4_sheet_114 ?_
                exact fg_reti hx hb hr hlk hK h hf dX4_sheet_115
              have hL_83 : ∀ (KK_83 : Int32 → fg_W → Option (Int32 × fg_W)) (hK_83 : ∀ (v4_83 : Int32) (w_83 : fg_W) (H : Heap) (locs : List Loc) (ls : Array Slot), fg_H D g s.heap w_83 H locs → lv_has ls 5 [(0, .ref (g.1 4 0 0)), (1, .int a1), (2, .int a2), (3, .int a3), (4, .int v4_83)] → KK_83 v4_83 w_83 = some (r, w') → fg_Gi p l e 2 42 s m [.ref (g.1 4 0 0), .int a1, .int a2, .int a3] below meth c D g r w' H locs 109 ls []) (n : Nat) (v4_83 : Int32) (w_83 : fg_W) (H : Heap) (locs : List Loc) (ls : Array Slot), fg_H D g s.heap w_83 H locs → lv_has ls 5 [(0, .ref (g.1 4 0 0)), (1, .int a1), (2, .int a2), (3, .int a3), (4, .int v4_83)] → f_X4_sheet_L83 a1 KK_83 n v4_83 w_83 = some (r, w') → fg_Gi p l e 2 42 s m [.ref (g.1 4 0 0), .int a1, .int a2, .int a3] below meth c D g r w' H locs 83 ls [] := by
                intro KK_83 hK_83 n
                induction n with
                | zero => intro v4_83 w_83 H locs ls h hl hf; exact fg_no hf
                | succ n_83 ih_83 =>
                  intro v4_83 w_83 H locs ls h hl hf
                  unfold f_X4_sheet_L83 at hf
                  refine lv_iload hx hb dX4_sheet_83 (lv_at hl 4 rfl) ?_
                  refine lv_bipush (v := 40) hx hb dX4_sheet_85 rfl ?_
                  refine lv_icmp_ge (tgt := 109) hx hb dX4_sheet_87 (by decide) (fun hc => ?_) (fun hc => ?_)
                  · have hf := fg_ifT hf hc
                    exact hK_83 v4_83 w_83 _ _ ls h (lv_sub hl [0, 1, 2, 3, 4] rfl) hf
                  · have hf := fg_ifF hf hc
                    refine lv_aload_n hx hb dX4_sheet_90 rfl (lv_at hl 0 rfl) ?_
                    refine fg_get (C := RX4) (T := TX4) (N := 22) S vu_X4 hK h fg_p4_0 rfl rfl 20 (by decide) vf_RX4_50 rfl rfl dX4_sheet_91 ?_
                    refine lv_bipush (v := 40) hx hb dX4_sheet_94 rfl ?_
                    refine lv_iload_n hx hb dX4_sheet_96 rfl (lv_at hl 1 rfl) ?_
                    refine lv_imul hx hb dX4_sheet_97 ?_
                    refine lv_iload hx hb dX4_sheet_98 (lv_at hl 4 rfl) ?_
                    refine lv_iadd hx hb dX4_sheet_100 ?_
                    refine lv_iconst (v := 0) hx hb dX4_sheet_101 rfl ?_
                    obtain ⟨hn38, hf⟩ := fg_gdE hf
                    refine fg_iast hx hb hK h fg_p4_14 (fun _ => rfl) hn38 dX4_sheet_102 (fun w37 H locs ew h => ?_)
                    have hf := fg_letE ew hf
                    refine lv_iinc (v := (v4_83 + 1)) (lv' := [(4, .int (v4_83 + 1)), (0, .ref (g.1 4 0 0)), (1, .int a1), (2, .int a2), (3, .int a3)]) hx hb dX4_sheet_103 hl (k := 4) rfl rfl (by decide) rfl (fun ls hl => ?_)
                    refine lv_goto (tgt := 83) hx hb dX4_sheet_106 (by decide) ?_
                    exact ih_83 (v4_83 + 1) w37 _ _ ls h (lv_sub hl [1, 2, 3, 4, 0] rfl) hf
              exact hL_83 _ hK_83 fg_fuel 0 w34 _ _ ls h (lv_sub hl [1, 2, 3, 4, 0] rfl) hf
          · have hf := fg_ifF hf hc
            refine lv_aload_n hx hb dX4_sheet_52 rfl (lv_at hl 0 rfl) ?_
            refine lv_iconst (v := 0) hx hb dX4_sheet_53 rfl ?_
            obtain ⟨r41, w39, hc40, hf⟩ := fg_biE hf
            refine fg_ci h (fg_runV (rest := []) S hK h (c_X4_no l D g 0  w1 r41 w39 hc40) vg_RX4_129 vd_X4_no ⟨by decide, by decide⟩ fg_p4_0 rfl rfl rfl hl.1 rfl (Nat.le_of_ble_eq_true rfl) dX4_sheet_54 ⟨Nat.zero_le _, Nat.zero_le _⟩) (fun H locs h => ?_)
            exact fg_reti hx hb hr hlk hK h hf dX4_sheet_57
        · have hf := fg_ifF hf hc
          refine lv_aload_n hx hb dX4_sheet_39 rfl (lv_at hl 0 rfl) ?_
          refine lv_bipush (v := 6) hx hb dX4_sheet_40 rfl ?_
          obtain ⟨r44, w42, hc43, hf⟩ := fg_biE hf
          refine fg_ci h (fg_runV (rest := []) S hK h (c_X4_no l D g 6  w1 r44 w42 hc43) vg_RX4_129 vd_X4_no ⟨by decide, by decide⟩ fg_p4_0 rfl rfl rfl hl.1 rfl (Nat.le_of_ble_eq_true rfl) dX4_sheet_42 ⟨Nat.zero_le _, Nat.zero_le _⟩) (fun H locs h => ?_)
          exact fg_reti hx hb hr hlk hK h hf dX4_sheet_45
      · have hf := fg_ifF hf hc
        refine lv_iload_n hx hb dX4_sheet_17 rfl (lv_at hl 2 rfl) ?_
        refine lv_bipush (v := 16) hx hb dX4_sheet_18 rfl ?_
        refine lv_icmp_eq (tgt := 35) hx hb dX4_sheet_20 (by decide) (fun hc => ?_) (fun hc => ?_)
        · have hf := fg_ifT hf hc
          refine lv_iload_n hx hb dX4_sheet_35 rfl (lv_at hl 3 rfl) ?_
          refine lv_if_ge (tgt := 46) hx hb dX4_sheet_36 (by decide) (fun hc => ?_) (fun hc => ?_)
          · have hf := fg_ifT hf hc
            refine lv_iload_n hx hb dX4_sheet_46 rfl (lv_at hl 3 rfl) ?_
            refine lv_bipush (v := 40) hx hb dX4_sheet_47 rfl ?_
            refine lv_icmp_le (tgt := 58) hx hb dX4_sheet_49 (by decide) (fun hc => ?_) (fun hc => ?_)
            · have hf := fg_ifT hf hc
              refine lv_aload_n hx hb dX4_sheet_58 rfl (lv_at hl 0 rfl) ?_
              refine fg_get (C := RX4) (T := TX4) (N := 22) S vu_X4 hK h fg_p4_0 rfl rfl 18 (by decide) vf_RX4_44 rfl rfl dX4_sheet_59 ?_
              refine lv_iload_n hx hb dX4_sheet_62 rfl (lv_at hl 1 rfl) ?_
              refine lv_iload_n hx hb dX4_sheet_63 rfl (lv_at hl 2 rfl) ?_
              obtain ⟨hn46, hf⟩ := fg_gdE hf
              refine fg_iast hx hb hK h fg_p4_12 (fun _ => rfl) hn46 dX4_sheet_64 (fun w45 H locs ew h => ?_)
              have hf := fg_letE ew hf
              refine lv_aload_n hx hb dX4_sheet_65 rfl (lv_at hl 0 rfl) ?_
              refine fg_get (C := RX4) (T := TX4) (N := 22) S vu_X4 hK h fg_p4_0 rfl rfl 19 (by decide) vf_RX4_47 rfl rfl dX4_sheet_66 ?_
              refine lv_iload_n hx hb dX4_sheet_69 rfl (lv_at hl 1 rfl) ?_
              refine lv_iload_n hx hb dX4_sheet_70 rfl (lv_at hl 2 rfl) ?_
              refine lv_if_ne (tgt := 78) hx hb dX4_sheet_71 (by decide) (fun hc => ?_) (fun hc => ?_)
              · have hf := fg_ifF hf hc
                refine lv_iload_n hx hb dX4_sheet_78 rfl (lv_at hl 3 rfl) ?_
                obtain ⟨hn48, hf⟩ := fg_gdE hf
                refine fg_iast hx hb hK h fg_p4_13 (fun _ => rfl) hn48 dX4_sheet_79 (fun w47 H locs ew h => ?_)
                have hf := fg_letE ew hf
                refine lv_iconst (v := 0) hx hb dX4_sheet_80 rfl ?_
                refine lv_istore (lv' := [(4, .int 0), (0, .ref (g.1 4 0 0)), (1, .int a1), (2, .int a2), (3, .int a3)]) hx hb dX4_sheet_81 hl (by decide) rfl (fun ls hl => ?_)
                have hK_83 : ∀ (v4_83 : Int32) (w_83 : fg_W) (H : Heap) (locs : List Loc) (ls : Array Slot), fg_H D g s.heap w_83 H locs → lv_has ls 5 [(0, .ref (g.1 4 0 0)), (1, .int a1), (2, .int a2), (3, .int a3), (4, .int v4_83)] → (fg_gd a1 4 (some ((w_83.1 4 0 13 a1.toNatClampNeg), w_83))) = some (r, w') → fg_Gi p l e 2 42 s m [.ref (g.1 4 0 0), .int a1, .int a2, .int a3] below meth c D g r w' H locs 109 ls [] := by
                  intro v4_83 w_83 H locs ls h hl hf
                  refine lv_aload_n hx hb dX4_sheet_109 rfl (lv_at hl 0 rfl) ?_
                  refine fg_get (C := RX4) (T := TX4) (N := 22) S vu_X4 hK h fg_p4_0 rfl rfl 19 (by decide) vf_RX4_47 rfl rfl dX4_sheet_110 ?_
                  refine lv_iload_n hx hb dX4_sheet_113 rfl (lv_at hl 1 rfl) ?_
                  obtain ⟨hn49, hf⟩ := fg_gdE hf
                  refine fg_iald hx hb hK h fg_p4_13 (fun _ => rfl) hn49 dX4_sheet_114 ?_
                  exact fg_reti hx hb hr hlk hK h hf dX4_sheet_115
                have hL_83 : ∀ (KK_83 : Int32 → fg_W → Option (Int32 × fg_W)) (hK_83 : ∀ (v4_83 : Int32) (w_83 : fg_W) (H : Heap) (locs : List Loc) (ls : Array Slot), fg_H D g s.heap w_83 H locs → lv_has ls 5 [(0, .ref (g.1 4 0 0)), (1, .int a1), (2, .int a2), (3, .int a3), (4, .int v4_83)] → KK_83 v4_83 w_83 = some (r, w') → fg_Gi p l e 2 42 s m [.ref (g.1 4 0 0), .int a1, .int a2, .int a3] below meth c D g r w' H locs 109 ls []) (n : Nat) (v4_83 : Int32) (w_83 : fg_W) (H : Heap) (locs : List Loc) (ls : Array Slot), fg_H D g s.heap w_83 H locs → lv_has ls 5 [(0, .ref (g.1 4 0 0)), (1, .int a1), (2, .int a2), (3, .int a3), (4, .int v4_83)] → f_X4_sheet_L83 a1 KK_83 n v4_83 w_83 = some (r, w') → fg_Gi p l e 2 42 s m [.ref (g.1 4 0 0), .int a1, .int a2, .int a3] below meth c D g r w' H locs 83 ls [] := by
                  intro KK_83 hK_83 n
                  induction n with
                  | zero => intro v4_83 w_83 H locs ls h hl hf; exact fg_no hf
                  | succ n_83 ih_83 =>
                    intro v4_83 w_83 H locs ls h hl hf
                    unfold f_X4_sheet_L83 at hf
                    refine lv_iload hx hb dX4_sheet_83 (lv_at hl 4 rfl) ?_
                    refine lv_bipush (v := 40) hx hb dX4_sheet_85 rfl ?_
                    refine lv_icmp_ge (tgt := 109) hx hb dX4_sheet_87 (by decide) (fun hc => ?_) (fun hc => ?_)
                    · have hf := fg_ifT hf hc
                      exact hK_83 v4_83 w_83 _ _ ls h (lv_sub hl [0, 1, 2, 3, 4] rfl) hf
                    · have hf := fg_ifF hf hc
                      refine lv_aload_n hx hb dX4_sheet_90 rfl (lv_at hl 0 rfl) ?_
                      refine fg_get (C := RX4) (T := TX4) (N := 22) S vu_X4 hK h fg_p4_0 rfl rfl 20 (by decide) vf_RX4_50 rfl rfl dX4_sheet_91 ?_
                      refine lv_bipush (v := 40) hx hb dX4_sheet_94 rfl ?_
                      refine lv_iload_n hx hb dX4_sheet_96 rfl (lv_at hl 1 rfl) ?_
                      refine lv_imul hx hb dX4_sheet_97 ?_
                      refine lv_iload hx hb dX4_sheet_98 (lv_at hl 4 rfl) ?_
                      refine lv_iadd hx hb dX4_sheet_100 ?_
                      refine lv_iconst (v := 0) hx hb dX4_sheet_101 rfl ?_
                      obtain ⟨hn51, hf⟩ := fg_gdE hf
                      refine fg_iast hx hb hK h fg_p4_14 (fun _ => rfl) hn51 dX4_sheet_102 (fun w50 H locs ew h => ?_)
                      have hf := fg_letE ew hf
                      refine lv_iinc (v := (v4_83 + 1)) (lv' := [(4, .int (v4_83 + 1)), (0, .ref (g.1 4 0 0)), (1, .int a1), (2, .int a2), (3, .int a3)]) hx hb dX4_sheet_103 hl (k := 4) rfl rfl (by decide) rfl (fun ls hl => ?_)
                      refine lv_goto (tgt := 83) hx hb dX4_sheet_106 (by decide) ?_
                      exact ih_83 (v4_83 + 1) w50 _ _ ls h (lv_sub hl [1, 2, 3, 4, 0] rfl) hf
                exact hL_83 _ hK_83 fg_fuel 0 w47 _ _ ls h (lv_sub hl [1, 2, 3, 4, 0] rfl) hf
              · have hf := fg_ifT hf hc
                refine lv_iconst (v := 0) hx hb dX4_sheet_74 rfl ?_
                refine lv_goto (tgt := 79) hx hb dX4_sheet_75 (by decide) ?_
                obtain ⟨hn53, hf⟩ := fg_gdE hf
                refine fg_iast hx hb hK h fg_p4_13 (fun _ => rfl) hn53 dX4_sheet_79 (fun w52 H locs ew h => ?_)
                have hf := fg_letE ew hf
                refine lv_iconst (v := 0) hx hb dX4_sheet_80 rfl ?_
                refine lv_istore (lv' := [(4, .int 0), (0, .ref (g.1 4 0 0)), (1, .int a1), (2, .int a2), (3, .int a3)]) hx hb dX4_sheet_81 hl (by decide) rfl (fun ls hl => ?_)
                have hK_83 : ∀ (v4_83 : Int32) (w_83 : fg_W) (H : Heap) (locs : List Loc) (ls : Array Slot), fg_H D g s.heap w_83 H locs → lv_has ls 5 [(0, .ref (g.1 4 0 0)), (1, .int a1), (2, .int a2), (3, .int a3), (4, .int v4_83)] → (fg_gd a1 4 (some ((w_83.1 4 0 13 a1.toNatClampNeg), w_83))) = some (r, w') → fg_Gi p l e 2 42 s m [.ref (g.1 4 0 0), .int a1, .int a2, .int a3] below meth c D g r w' H locs 109 ls [] := by
                  intro v4_83 w_83 H locs ls h hl hf
                  refine lv_aload_n hx hb dX4_sheet_109 rfl (lv_at hl 0 rfl) ?_
                  refine fg_get (C := RX4) (T := TX4) (N := 22) S vu_X4 hK h fg_p4_0 rfl rfl 19 (by decide) vf_RX4_47 rfl rfl dX4_sheet_110 ?_
                  refine lv_iload_n hx hb dX4_sheet_113 rfl (lv_at hl 1 rfl) ?_
                  obtain ⟨hn54, hf⟩ := fg_gdE hf
                  refine fg_iald hx hb hK h fg_p4_13 (fun _ => rfl) hn54 dX4_sheet_114 ?_
                  exact fg_reti hx hb hr hlk hK h hf dX4_sheet_115
                have hL_83 : ∀ (KK_83 : Int32 → fg_W → Option (Int32 × fg_W)) (hK_83 : ∀ (v4_83 : Int32) (w_83 : fg_W) (H : Heap) (locs : List Loc) (ls : Array Slot), fg_H D g s.heap w_83 H locs → lv_has ls 5 [(0, .ref (g.1 4 0 0)), (1, .int a1), (2, .int a2), (3, .int a3), (4, .int v4_83)] → KK_83 v4_83 w_83 = some (r, w') → fg_Gi p l e 2 42 s m [.ref (g.1 4 0 0), .int a1, .int a2, .int a3] below meth c D g r w' H locs 109 ls []) (n : Nat) (v4_83 : Int32) (w_83 : fg_W) (H : Heap) (locs : List Loc) (ls : Array Slot), fg_H D g s.heap w_83 H locs → lv_has ls 5 [(0, .ref (g.1 4 0 0)), (1, .int a1), (2, .int a2), (3, .int a3), (4, .int v4_83)] → f_X4_sheet_L83 a1 KK_83 n v4_83 w_83 = some (r, w') → fg_Gi p l e 2 42 s m [.ref (g.1 4 0 0), .int a1, .int a2, .int a3] below meth c D g r w' H locs 83 ls [] := by
                  intro KK_83 hK_83 n
                  induction n with
                  | zero => intro v4_83 w_83 H locs ls h hl hf; exact fg_no hf
                  | succ n_83 ih_83 =>
                    intro v4_83 w_83 H locs ls h hl hf
                    unfold f_X4_sheet_L83 at hf
                    refine lv_iload hx hb dX4_sheet_83 (lv_at hl 4 rfl) ?_
                    refine lv_bipush (v := 40) hx hb dX4_sheet_85 rfl ?_
                    refine lv_icmp_ge (tgt := 109) hx hb dX4_sheet_87 (by decide) (fun hc => ?_) (fun hc => ?_)
                    · have hf := fg_ifT hf hc
                      exact hK_83 v4_83 w_83 _ _ ls h (lv_sub hl [0, 1, 2, 3, 4] rfl) hf
                    · have hf := fg_ifF hf hc
                      refine lv_aload_n hx hb dX4_sheet_90 rfl (lv_at hl 0 rfl) ?_
                      refine fg_get (C := RX4) (T := TX4) (N := 22) S vu_X4 hK h fg_p4_0 rfl rfl 20 (by decide) vf_RX4_50 rfl rfl dX4_sheet_91 ?_
                      refine lv_bipush (v := 40) hx hb dX4_sheet_94 rfl ?_
                      refine lv_iload_n hx hb dX4_sheet_96 rfl (lv_at hl 1 rfl) ?_
                      refine lv_imul hx hb dX4_sheet_97 ?_
                      refine lv_iload hx hb dX4_sheet_98 (lv_at hl 4 rfl) ?_
                      refine lv_iadd hx hb dX4_sheet_100 ?_
                      refine lv_iconst (v := 0) hx hb dX4_sheet_101 rfl ?_
                      obtain ⟨hn56, hf⟩ := fg_gdE hf
                      refine fg_iast hx hb hK h fg_p4_14 (fun _ => rfl) hn56 dX4_sheet_102 (fun w55 H locs ew h => ?_)
                      have hf := fg_letE ew hf
                      refine lv_iinc (v := (v4_83 + 1)) (lv' := [(4, .int (v4_83 + 1)), (0, .ref (g.1 4 0 0)), (1, .int a1), (2, .int a2), (3, .int a3)]) hx hb dX4_sheet_103 hl (k := 4) rfl rfl (by decide) rfl (fun ls hl => ?_)
                      refine lv_goto (tgt := 83) hx hb dX4_sheet_106 (by decide) ?_
                      exact ih_83 (v4_83 + 1) w55 _ _ ls h (lv_sub hl [1, 2, 3, 4, 0] rfl) hf
                exact hL_83 _ hK_83 fg_fuel 0 w52 _ _ ls h (lv_sub hl [1, 2, 3, 4, 0] rfl) hf
            · have hf := fg_ifF hf hc
              refine lv_aload_n hx hb dX4_sheet_52 rfl (lv_at hl 0 rfl) ?_
              refine lv_iconst (v := 0) hx hb dX4_sheet_53 rfl ?_
              obtain ⟨r59, w57, hc58, hf⟩ := fg_biE hf
              refine fg_ci h (fg_runV (rest := []) S hK h (c_X4_no l D g 0  w1 r59 w57 hc58) vg_RX4_129 vd_X4_no ⟨by decide, by decide⟩ fg_p4_0 rfl rfl rfl hl.1 rfl (Nat.le_of_ble_eq_true rfl) dX4_sheet_54 ⟨Nat.zero_le _, Nat.zero_le _⟩) (fun H locs h => ?_)
              exact fg_reti hx hb hr hlk hK h hf dX4_sheet_57
          · have hf := fg_ifF hf hc
            refine lv_aload_n hx hb dX4_sheet_39 rfl (lv_at hl 0 rfl) ?_
            refine lv_bipush (v := 6) hx hb dX4_sheet_40 rfl ?_
            obtain ⟨r62, w60, hc61, hf⟩ := fg_biE hf
            refine fg_ci h (fg_runV (rest := []) S hK h (c_X4_no l D g 6  w1 r62 w60 hc61) vg_RX4_129 vd_X4_no ⟨by decide, by decide⟩ fg_p4_0 rfl rfl rfl hl.1 rfl (Nat.le_of_ble_eq_true rfl) dX4_sheet_42 ⟨Nat.zero_le _, Nat.zero_le _⟩) (fun H locs h => ?_)
            exact fg_reti hx hb hr hlk hK h hf dX4_sheet_45
        · have hf := fg_ifF hf hc
          refine lv_iload_n hx hb dX4_sheet_23 rfl (lv_at hl 2 rfl) ?_
          refine lv_bipush (v := 32) hx hb dX4_sheet_24 rfl ?_
          refine lv_icmp_eq (tgt := 35) hx hb dX4_sheet_26 (by decide) (fun hc => ?_) (fun hc => ?_)
          · have hf := fg_ifT hf hc
            refine lv_iload_n hx hb dX4_sheet_35 rfl (lv_at hl 3 rfl) ?_
            refine lv_if_ge (tgt := 46) hx hb dX4_sheet_36 (by decide) (fun hc => ?_) (fun hc => ?_)
            · have hf := fg_ifT hf hc
              refine lv_iload_n hx hb dX4_sheet_46 rfl (lv_at hl 3 rfl) ?_
              refine lv_bipush (v := 40) hx hb dX4_sheet_47 rfl ?_
              refine lv_icmp_le (tgt := 58) hx hb dX4_sheet_49 (by decide) (fun hc => ?_) (fun hc => ?_)
              · have hf := fg_ifT hf hc
                refine lv_aload_n hx hb dX4_sheet_58 rfl (lv_at hl 0 rfl) ?_
                refine fg_get (C := RX4) (T := TX4) (N := 22) S vu_X4 hK h fg_p4_0 rfl rfl 18 (by decide) vf_RX4_44 rfl rfl dX4_sheet_59 ?_
                refine lv_iload_n hx hb dX4_sheet_62 rfl (lv_at hl 1 rfl) ?_
                refine lv_iload_n hx hb dX4_sheet_63 rfl (lv_at hl 2 rfl) ?_
                obtain ⟨hn64, hf⟩ := fg_gdE hf
                refine fg_iast hx hb hK h fg_p4_12 (fun _ => rfl) hn64 dX4_sheet_64 (fun w63 H locs ew h => ?_)
                have hf := fg_letE ew hf
                refine lv_aload_n hx hb dX4_sheet_65 rfl (lv_at hl 0 rfl) ?_
                refine fg_get (C := RX4) (T := TX4) (N := 22) S vu_X4 hK h fg_p4_0 rfl rfl 19 (by decide) vf_RX4_47 rfl rfl dX4_sheet_66 ?_
                refine lv_iload_n hx hb dX4_sheet_69 rfl (lv_at hl 1 rfl) ?_
                refine lv_iload_n hx hb dX4_sheet_70 rfl (lv_at hl 2 rfl) ?_
                refine lv_if_ne (tgt := 78) hx hb dX4_sheet_71 (by decide) (fun hc => ?_) (fun hc => ?_)
                · have hf := fg_ifF hf hc
                  refine lv_iload_n hx hb dX4_sheet_78 rfl (lv_at hl 3 rfl) ?_
                  obtain ⟨hn66, hf⟩ := fg_gdE hf
                  refine fg_iast hx hb hK h fg_p4_13 (fun _ => rfl) hn66 dX4_sheet_79 (fun w65 H locs ew h => ?_)
                  have hf := fg_letE ew hf
                  refine lv_iconst (v := 0) hx hb dX4_sheet_80 rfl ?_
                  refine lv_istore (lv' := [(4, .int 0), (0, .ref (g.1 4 0 0)), (1, .int a1), (2, .int a2), (3, .int a3)]) hx hb dX4_sheet_81 hl (by decide) rfl (fun ls hl => ?_)
                  have hK_83 : ∀ (v4_83 : Int32) (w_83 : fg_W) (H : Heap) (locs : List Loc) (ls : Array Slot), fg_H D g s.heap w_83 H locs → lv_has ls 5 [(0, .ref (g.1 4 0 0)), (1, .int a1), (2, .int a2), (3, .int a3), (4, .int v4_83)] → (fg_gd a1 4 (some ((w_83.1 4 0 13 a1.toNatClampNeg), w_83))) = some (r, w') → fg_Gi p l e 2 42 s m [.ref (g.1 4 0 0), .int a1, .int a2, .int a3] below meth c D g r w' H locs 109 ls [] := by
                    intro v4_83 w_83 H locs ls h hl hf
                    refine lv_aload_n hx hb dX4_sheet_109 rfl (lv_at hl 0 rfl) ?_
                    refine fg_get (C := RX4) (T := TX4) (N := 22) S vu_X4 hK h fg_p4_0 rfl rfl 19 (by decide) vf_RX4_47 rfl rfl dX4_sheet_110 ?_
                    refine lv_iload_n hx hb dX4_sheet_113 rfl (lv_at hl 1 rfl) ?_
                    obtain ⟨hn67, hf⟩ := fg_gdE hf
                    refine fg_iald hx hb hK h fg_p4_13 (fun _ => rfl) hn67 dX4_sheet_114 ?_
                    exact fg_reti hx hb hr hlk hK h hf dX4_sheet_115
                  have hL_83 : ∀ (KK_83 : Int32 → fg_W → Option (Int32 × fg_W)) (hK_83 : ∀ (v4_83 : Int32) (w_83 : fg_W) (H : Heap) (locs : List Loc) (ls : Array Slot), fg_H D g s.heap w_83 H locs → lv_has ls 5 [(0, .ref (g.1 4 0 0)), (1, .int a1), (2, .int a2), (3, .int a3), (4, .int v4_83)] → KK_83 v4_83 w_83 = some (r, w') → fg_Gi p l e 2 42 s m [.ref (g.1 4 0 0), .int a1, .int a2, .int a3] below meth c D g r w' H locs 109 ls []) (n : Nat) (v4_83 : Int32) (w_83 : fg_W) (H : Heap) (locs : List Loc) (ls : Array Slot), fg_H D g s.heap w_83 H locs → lv_has ls 5 [(0, .ref (g.1 4 0 0)), (1, .int a1), (2, .int a2), (3, .int a3), (4, .int v4_83)] → f_X4_sheet_L83 a1 KK_83 n v4_83 w_83 = some (r, w') → fg_Gi p l e 2 42 s m [.ref (g.1 4 0 0), .int a1, .int a2, .int a3] below meth c D g r w' H locs 83 ls [] := by
                    intro KK_83 hK_83 n
                    induction n with
                    | zero => intro v4_83 w_83 H locs ls h hl hf; exact fg_no hf
                    | succ n_83 ih_83 =>
                      intro v4_83 w_83 H locs ls h hl hf
                      unfold f_X4_sheet_L83 at hf
                      refine lv_iload hx hb dX4_sheet_83 (lv_at hl 4 rfl) ?_
                      refine lv_bipush (v := 40) hx hb dX4_sheet_85 rfl ?_
                      refine lv_icmp_ge (tgt := 109) hx hb dX4_sheet_87 (by decide) (fun hc => ?_) (fun hc => ?_)
                      · have hf := fg_ifT hf hc
                        exact hK_83 v4_83 w_83 _ _ ls h (lv_sub hl [0, 1, 2, 3, 4] rfl) hf
                      · have hf := fg_ifF hf hc
                        refine lv_aload_n hx hb dX4_sheet_90 rfl (lv_at hl 0 rfl) ?_
                        refine fg_get (C := RX4) (T := TX4) (N := 22) S vu_X4 hK h fg_p4_0 rfl rfl 20 (by decide) vf_RX4_50 rfl rfl dX4_sheet_91 ?_
                        refine lv_bipush (v := 40) hx hb dX4_sheet_94 rfl ?_
                        refine lv_iload_n hx hb dX4_sheet_96 rfl (lv_at hl 1 rfl) ?_
                        refine lv_imul hx hb dX4_sheet_97 ?_
                        refine lv_iload hx hb dX4_sheet_98 (lv_at hl 4 rfl) ?_
                        refine lv_iadd hx hb dX4_sheet_100 ?_
                        refine lv_iconst (v := 0) hx hb dX4_sheet_101 rfl ?_
                        obtain ⟨hn69, hf⟩ := fg_gdE hf
                        refine fg_iast hx hb hK h fg_p4_14 (fun _ => rfl) hn69 dX4_sheet_102 (fun w68 H locs ew h => ?_)
                        have hf := fg_letE ew hf
                        refine lv_iinc (v := (v4_83 + 1)) (lv' := [(4, .int (v4_83 + 1)), (0, .ref (g.1 4 0 0)), (1, .int a1), (2, .int a2), (3, .int a3)]) hx hb dX4_sheet_103 hl (k := 4) rfl rfl (by decide) rfl (fun ls hl => ?_)
                        refine lv_goto (tgt := 83) hx hb dX4_sheet_106 (by decide) ?_
                        exact ih_83 (v4_83 + 1) w68 _ _ ls h (lv_sub hl [1, 2, 3, 4, 0] rfl) hf
                  exact hL_83 _ hK_83 fg_fuel 0 w65 _ _ ls h (lv_sub hl [1, 2, 3, 4, 0] rfl) hf
                · have hf := fg_ifT hf hc
                  refine lv_iconst (v := 0) hx hb dX4_sheet_74 rfl ?_
                  refine lv_goto (tgt := 79) hx hb dX4_sheet_75 (by decide) ?_
                  obtain ⟨hn71, hf⟩ := fg_gdE hf
                  refine fg_iast hx hb hK h fg_p4_13 (fun _ => rfl) hn71 dX4_sheet_79 (fun w70 H locs ew h => ?_)
                  have hf := fg_letE ew hf
                  refine lv_iconst (v := 0) hx hb dX4_sheet_80 rfl ?_
                  refine lv_istore (lv' := [(4, .int 0), (0, .ref (g.1 4 0 0)), (1, .int a1), (2, .int a2), (3, .int a3)]) hx hb dX4_sheet_81 hl (by decide) rfl (fun ls hl => ?_)
                  have hK_83 : ∀ (v4_83 : Int32) (w_83 : fg_W) (H : Heap) (locs : List Loc) (ls : Array Slot), fg_H D g s.heap w_83 H locs → lv_has ls 5 [(0, .ref (g.1 4 0 0)), (1, .int a1), (2, .int a2), (3, .int a3), (4, .int v4_83)] → (fg_gd a1 4 (some ((w_83.1 4 0 13 a1.toNatClampNeg), w_83))) = some (r, w') → fg_Gi p l e 2 42 s m [.ref (g.1 4 0 0), .int a1, .int a2, .int a3] below meth c D g r w' H locs 109 ls [] := by
                    intro v4_83 w_83 H locs ls h hl hf
                    refine lv_aload_n hx hb dX4_sheet_109 rfl (lv_at hl 0 rfl) ?_
                    refine fg_get (C := RX4) (T := TX4) (N := 22) S vu_X4 hK h fg_p4_0 rfl rfl 19 (by decide) vf_RX4_47 rfl rfl dX4_sheet_110 ?_
                    refine lv_iload_n hx hb dX4_sheet_113 rfl (lv_at hl 1 rfl) ?_
                    obtain ⟨hn72, hf⟩ := fg_gdE hf
                    refine fg_iald hx hb hK h fg_p4_13 (fun _ => rfl) hn72 dX4_sheet_114 ?_
                    exact fg_reti hx hb hr hlk hK h hf dX4_sheet_115
                  have hL_83 : ∀ (KK_83 : Int32 → fg_W → Option (Int32 × fg_W)) (hK_83 : ∀ (v4_83 : Int32) (w_83 : fg_W) (H : Heap) (locs : List Loc) (ls : Array Slot), fg_H D g s.heap w_83 H locs → lv_has ls 5 [(0, .ref (g.1 4 0 0)), (1, .int a1), (2, .int a2), (3, .int a3), (4, .int v4_83)] → KK_83 v4_83 w_83 = some (r, w') → fg_Gi p l e 2 42 s m [.ref (g.1 4 0 0), .int a1, .int a2, .int a3] below meth c D g r w' H locs 109 ls []) (n : Nat) (v4_83 : Int32) (w_83 : fg_W) (H : Heap) (locs : List Loc) (ls : Array Slot), fg_H D g s.heap w_83 H locs → lv_has ls 5 [(0, .ref (g.1 4 0 0)), (1, .int a1), (2, .int a2), (3, .int a3), (4, .int v4_83)] → f_X4_sheet_L83 a1 KK_83 n v4_83 w_83 = some (r, w') → fg_Gi p l e 2 42 s m [.ref (g.1 4 0 0), .int a1, .int a2, .int a3] below meth c D g r w' H locs 83 ls [] := by
                    intro KK_83 hK_83 n
                    induction n with
                    | zero => intro v4_83 w_83 H locs ls h hl hf; exact fg_no hf
                    | succ n_83 ih_83 =>
                      intro v4_83 w_83 H locs ls h hl hf
                      unfold f_X4_sheet_L83 at hf
                      refine lv_iload hx hb dX4_sheet_83 (lv_at hl 4 rfl) ?_
                      refine lv_bipush (v := 40) hx hb dX4_sheet_85 rfl ?_
                      refine lv_icmp_ge (tgt := 109) hx hb dX4_sheet_87 (by decide) (fun hc => ?_) (fun hc => ?_)
                      · have hf := fg_ifT hf hc
                        exact hK_83 v4_83 w_83 _ _ ls h (lv_sub hl [0, 1, 2, 3, 4] rfl) hf
                      · have hf := fg_ifF hf hc
                        refine lv_aload_n hx hb dX4_sheet_90 rfl (lv_at hl 0 rfl) ?_
                        refine fg_get (C := RX4) (T := TX4) (N := 22) S vu_X4 hK h fg_p4_0 rfl rfl 20 (by decide) vf_RX4_50 rfl rfl dX4_sheet_91 ?_
                        refine lv_bipush (v := 40) hx hb dX4_sheet_94 rfl ?_
                        refine lv_iload_n hx hb dX4_sheet_96 rfl (lv_at hl 1 rfl) ?_
                        refine lv_imul hx hb dX4_sheet_97 ?_
                        refine lv_iload hx hb dX4_sheet_98 (lv_at hl 4 rfl) ?_
                        refine lv_iadd hx hb dX4_sheet_100 ?_
                        refine lv_iconst (v := 0) hx hb dX4_sheet_101 rfl ?_
                        obtain ⟨hn74, hf⟩ := fg_gdE hf
                        refine fg_iast hx hb hK h fg_p4_14 (fun _ => rfl) hn74 dX4_sheet_102 (fun w73 H locs ew h => ?_)
                        have hf := fg_letE ew hf
                        refine lv_iinc (v := (v4_83 + 1)) (lv' := [(4, .int (v4_83 + 1)), (0, .ref (g.1 4 0 0)), (1, .int a1), (2, .int a2), (3, .int a3)]) hx hb dX4_sheet_103 hl (k := 4) rfl rfl (by decide) rfl (fun ls hl => ?_)
                        refine lv_goto (tgt := 83) hx hb dX4_sheet_106 (by decide) ?_
                        exact ih_83 (v4_83 + 1) w73 _ _ ls h (lv_sub hl [1, 2, 3, 4, 0] rfl) hf
                  exact hL_83 _ hK_83 fg_fuel 0 w70 _ _ ls h (lv_sub hl [1, 2, 3, 4, 0] rfl) hf
              · have hf := fg_ifF hf hc
                refine lv_aload_n hx hb dX4_sheet_52 rfl (lv_at hl 0 rfl) ?_
                refine lv_iconst (v := 0) hx hb dX4_sheet_53 rfl ?_
                obtain ⟨r77, w75, hc76, hf⟩ := fg_biE hf
                refine fg_ci h (fg_runV (rest := []) S hK h (c_X4_no l D g 0  w1 r77 w75 hc76) vg_RX4_129 vd_X4_no ⟨by decide, by decide⟩ fg_p4_0 rfl rfl rfl hl.1 rfl (Nat.le_of_ble_eq_true rfl) dX4_sheet_54 ⟨Nat.zero_le _, Nat.zero_le _⟩) (fun H locs h => ?_)
                exact fg_reti hx hb hr hlk hK h hf dX4_sheet_57
            · have hf := fg_ifF hf hc
              refine lv_aload_n hx hb dX4_sheet_39 rfl (lv_at hl 0 rfl) ?_
              refine lv_bipush (v := 6) hx hb dX4_sheet_40 rfl ?_
              obtain ⟨r80, w78, hc79, hf⟩ := fg_biE hf
              refine fg_ci h (fg_runV (rest := []) S hK h (c_X4_no l D g 6  w1 r80 w78 hc79) vg_RX4_129 vd_X4_no ⟨by decide, by decide⟩ fg_p4_0 rfl rfl rfl hl.1 rfl (Nat.le_of_ble_eq_true rfl) dX4_sheet_42 ⟨Nat.zero_le _, Nat.zero_le _⟩) (fun H locs h => ?_)
              exact fg_reti hx hb hr hlk hK h hf dX4_sheet_45
          · have hf := fg_ifF hf hc
            refine lv_aload_n hx hb dX4_sheet_29 rfl (lv_at hl 0 rfl) ?_
            refine lv_iconst (v := 0) hx hb dX4_sheet_30 rfl ?_
            obtain ⟨r83, w81, hc82, hf⟩ := fg_biE hf
            refine fg_ci h (fg_runV (rest := []) S hK h (c_X4_no l D g 0  w1 r83 w81 hc82) vg_RX4_129 vd_X4_no ⟨by decide, by decide⟩ fg_p4_0 rfl rfl rfl hl.1 rfl (Nat.le_of_ble_eq_true rfl) dX4_sheet_31 ⟨Nat.zero_le _, Nat.zero_le _⟩) (fun H locs h => ?_)
            exact fg_reti hx hb hr hlk hK h hf dX4_sheet_34
set_option maxHeartbeats 4000000 in
set_option maxRecDepth 100000 in
theorem c_X4_write (l : Launch) (D : va_G) (g : fg_G) (a1 : Int32) (a2 : Int32) (a3 : Int32) (w : fg_W) (r : Int32) (w' : fg_W) (hf : f_X4_write a1 a2 a3 w = some (r, w')) : fg_M l yX4_write cX4_write 5 (some .int) 3 63 D g [.ref (g.1 4 0 0), .int a1, .int a2, .int a3] w (fg_Qi D g r w') := by
  refine fg_M.of rfl (Nat.le_of_ble_eq_true rfl) (fun p e s m below meth c ls S hr hlk hK h hl => ?_)
  have hx := S.1
  have hb := S.2.1
  have hl : lv_has ls 5 [(0, .ref (g.1 4 0 0)), (1, .int a1), (2, .int a2), (3, .int a3)] := hl
  unfold f_X4_write at hf
  refine lv_aload_n hx hb dX4_write_0 rfl (lv_at hl 0 rfl) ?_
  refine lv_iload_n hx hb dX4_write_1 rfl (lv_at hl 1 rfl) ?_
  obtain ⟨r3, w1, hc2, hf⟩ := fg_biE hf
  refine fg_ci h (fg_runV (rest := []) S hK h (c_X4_wrongSheet l D g a1  w r3 w1 hc2) vg_RX4_192 vd_X4_wrongSheet ⟨by decide, by decide⟩ fg_p4_0 rfl rfl rfl hl.1 rfl (Nat.le_of_ble_eq_true rfl) dX4_write_2 ⟨Nat.zero_le _, Nat.zero_le _⟩) (fun H locs h => ?_)
  refine lv_istore (lv' := [(4, .int r3), (0, .ref (g.1 4 0 0)), (1, .int a1), (2, .int a2), (3, .int a3)]) hx hb dX4_write_5 hl (by decide) rfl (fun ls hl => ?_)
  refine lv_iload hx hb dX4_write_7 (lv_at hl 0 rfl) ?_
  refine lv_if_ge (tgt := 31) hx hb dX4_write_9 (by decide) (fun hc => ?_) (fun hc => ?_)
  · have hf := fg_ifT hf hc
    refine lv_iload hx hb dX4_write_31 (lv_at hl 0 rfl) ?_
    refine lv_if_lt (tgt := 43) hx hb dX4_write_33 (by decide) (fun hc => ?_) (fun hc => ?_)
    · have hf := fg_ifT hf hc
      refine lv_aload_n hx hb dX4_write_43 rfl (lv_at hl 1 rfl) ?_
      refine fg_get (C := RX4) (T := TX4) (N := 22) S vu_X4 hK h fg_p4_0 rfl rfl 20 (by decide) vf_RX4_50 rfl rfl dX4_write_44 ?_
      refine lv_bipush (v := 40) hx hb dX4_write_47 rfl ?_
      refine lv_iload_n hx hb dX4_write_49 rfl (lv_at hl 2 rfl) ?_
      refine lv_imul hx hb dX4_write_50 ?_
      refine lv_iload_n hx hb dX4_write_51 rfl (lv_at hl 3 rfl) ?_
      refine lv_iadd hx hb dX4_write_52 ?_
      refine lv_aload_n hx hb dX4_write_53 rfl (lv_at hl 1 rfl) ?_
      refine fg_get (C := RX4) (T := TX4) (N := 22) S vu_X4 hK h fg_p4_0 rfl rfl 18 (by decide) vf_RX4_44 rfl rfl dX4_write_54 ?_
      refine lv_iload_n hx hb dX4_write_57 rfl (lv_at hl 2 rfl) ?_
      obtain ⟨hn4, hf⟩ := fg_gdE hf
      refine fg_iald hx hb hK h fg_p4_12 (fun _ => rfl) hn4 dX4_write_58 ?_
      refine lv_bipush (v := 8) hx hb dX4_write_59 rfl ?_
      refine lv_icmp_ne (tgt := 69) hx hb dX4_write_61 (by decide) (fun hc => ?_) (fun hc => ?_)
      · have hf := fg_ifF hf hc
        refine lv_aload_n hx hb dX4_write_69 rfl (lv_at hl 1 rfl) ?_
        refine fg_get (C := RX4) (T := TX4) (N := 22) S vu_X4 hK h fg_p4_0 rfl rfl 18 (by decide) vf_RX4_44 rfl rfl dX4_write_70 ?_
        refine lv_iload_n hx hb dX4_write_73 rfl (lv_at hl 2 rfl) ?_
        obtain ⟨hn5, hf⟩ := fg_gdE hf
        refine fg_iald hx hb hK h fg_p4_12 (fun _ => rfl) hn5 dX4_write_74 ?_
        refine lv_bipush (v := 16) hx hb dX4_write_75 rfl ?_
        refine lv_icmp_ne (tgt := 85) hx hb dX4_write_77 (by decide) (fun hc => ?_) (fun hc => ?_)
        · have hf := fg_ifF hf hc
          refine lv_iload_n hx hb dX4_write_85 rfl (lv_at hl 4 rfl) ?_
          obtain ⟨hn7, hf⟩ := fg_gdE hf
          refine fg_iast hx hb hK h fg_p4_14 (fun _ => rfl) hn7 dX4_write_86 (fun w6 H locs ew h => ?_)
          have hf := fg_letE ew hf
          refine lv_iconst (v := 1) hx hb dX4_write_87 rfl ?_
          exact fg_reti hx hb hr hlk hK h hf dX4_write_88
        · have hf := fg_ifT hf hc
          refine lv_iload_n hx hb dX4_write_80 rfl (lv_at hl 4 rfl) ?_
          refine lv_i2s hx hb dX4_write_81 rfl ?_
          refine lv_goto (tgt := 86) hx hb dX4_write_82 (by decide) ?_
          obtain ⟨hn9, hf⟩ := fg_gdE hf
          refine fg_iast hx hb hK h fg_p4_14 (fun _ => rfl) hn9 dX4_write_86 (fun w8 H locs ew h => ?_)
          have hf := fg_letE ew hf
          refine lv_iconst (v := 1) hx hb dX4_write_87 rfl ?_
          exact fg_reti hx hb hr hlk hK h hf dX4_write_88
      · have hf := fg_ifT hf hc
        refine lv_iload_n hx hb dX4_write_64 rfl (lv_at hl 4 rfl) ?_
        refine lv_i2b hx hb dX4_write_65 rfl ?_
        refine lv_goto (tgt := 86) hx hb dX4_write_66 (by decide) ?_
        obtain ⟨hn11, hf⟩ := fg_gdE hf
        refine fg_iast hx hb hK h fg_p4_14 (fun _ => rfl) hn11 dX4_write_86 (fun w10 H locs ew h => ?_)
        have hf := fg_letE ew hf
        refine lv_iconst (v := 1) hx hb dX4_write_87 rfl ?_
        exact fg_reti hx hb hr hlk hK h hf dX4_write_88
    · have hf := fg_ifF hf hc
      refine lv_aload_n hx hb dX4_write_36 rfl (lv_at hl 1 rfl) ?_
      refine lv_iload hx hb dX4_write_37 (lv_at hl 0 rfl) ?_
      obtain ⟨r14, w12, hc13, hf⟩ := fg_biE hf
      refine fg_ci h (fg_runV (rest := []) S hK h (c_X4_no l D g r3  w1 r14 w12 hc13) vg_RX4_129 vd_X4_no ⟨by decide, by decide⟩ fg_p4_0 rfl rfl rfl hl.1 rfl (Nat.le_of_ble_eq_true rfl) dX4_write_39 ⟨Nat.zero_le _, Nat.zero_le _⟩) (fun H locs h => ?_)
      exact fg_reti hx hb hr hlk hK h hf dX4_write_42
  · have hf := fg_ifF hf hc
    refine lv_iload_n hx hb dX4_write_12 rfl (lv_at hl 3 rfl) ?_
    refine lv_iconst (v := 0) hx hb dX4_write_13 rfl ?_
    refine lv_aload_n hx hb dX4_write_14 rfl (lv_at hl 1 rfl) ?_
    refine fg_get (C := RX4) (T := TX4) (N := 22) S vu_X4 hK h fg_p4_0 rfl rfl 19 (by decide) vf_RX4_47 rfl rfl dX4_write_15 ?_
    refine lv_iload_n hx hb dX4_write_18 rfl (lv_at hl 2 rfl) ?_
    obtain ⟨hn15, hf⟩ := fg_gdE hf
    refine fg_iald hx hb hK h fg_p4_13 (fun _ => rfl) hn15 dX4_write_19 ?_
    refine lv_iconst (v := 1) hx hb dX4_write_20 rfl ?_
    refine lv_isub hx hb dX4_write_21 ?_
    obtain ⟨r18, w16, hc17, hf⟩ := fg_biE hf
    refine fg_ci h (fg_runS (rest := []) S hK h (c_X4_in1 l D g a2 0 ((w1.1 4 0 13 a1.toNatClampNeg) - 1)  w1 r18 w16 hc17) vk_X4_in1 vm_RX4_61 vs_X4_in1 vi_RX4 vd_X4_in1.2 ⟨by decide, by decide⟩ rfl hl.1 rfl (Nat.le_of_ble_eq_true rfl) dX4_write_22 ⟨Nat.zero_le _, Nat.zero_le _⟩) (fun H locs h => ?_)
    refine lv_if_ne (tgt := 31) hx hb dX4_write_25 (by decide) (fun hc => ?_) (fun hc => ?_)
    · have hf := fg_ifF hf hc
      refine lv_iload hx hb dX4_write_31 (lv_at hl 0 rfl) ?_
      refine lv_if_lt (tgt := 43) hx hb dX4_write_33 (by decide) (fun hc => ?_) (fun hc => ?_)
      · have hf := fg_ifT hf hc
        refine lv_aload_n hx hb dX4_write_43 rfl (lv_at hl 1 rfl) ?_
        refine fg_get (C := RX4) (T := TX4) (N := 22) S vu_X4 hK h fg_p4_0 rfl rfl 20 (by decide) vf_RX4_50 rfl rfl dX4_write_44 ?_
        refine lv_bipush (v := 40) hx hb dX4_write_47 rfl ?_
        refine lv_iload_n hx hb dX4_write_49 rfl (lv_at hl 2 rfl) ?_
        refine lv_imul hx hb dX4_write_50 ?_
        refine lv_iload_n hx hb dX4_write_51 rfl (lv_at hl 3 rfl) ?_
        refine lv_iadd hx hb dX4_write_52 ?_
        refine lv_aload_n hx hb dX4_write_53 rfl (lv_at hl 1 rfl) ?_
        refine fg_get (C := RX4) (T := TX4) (N := 22) S vu_X4 hK h fg_p4_0 rfl rfl 18 (by decide) vf_RX4_44 rfl rfl dX4_write_54 ?_
        refine lv_iload_n hx hb dX4_write_57 rfl (lv_at hl 2 rfl) ?_
        obtain ⟨hn19, hf⟩ := fg_gdE hf
        refine fg_iald hx hb hK h fg_p4_12 (fun _ => rfl) hn19 dX4_write_58 ?_
        refine lv_bipush (v := 8) hx hb dX4_write_59 rfl ?_
        refine lv_icmp_ne (tgt := 69) hx hb dX4_write_61 (by decide) (fun hc => ?_) (fun hc => ?_)
        · have hf := fg_ifF hf hc
          refine lv_aload_n hx hb dX4_write_69 rfl (lv_at hl 1 rfl) ?_
          refine fg_get (C := RX4) (T := TX4) (N := 22) S vu_X4 hK h fg_p4_0 rfl rfl 18 (by decide) vf_RX4_44 rfl rfl dX4_write_70 ?_
          refine lv_iload_n hx hb dX4_write_73 rfl (lv_at hl 2 rfl) ?_
          obtain ⟨hn20, hf⟩ := fg_gdE hf
          refine fg_iald hx hb hK h fg_p4_12 (fun _ => rfl) hn20 dX4_write_74 ?_
          refine lv_bipush (v := 16) hx hb dX4_write_75 rfl ?_
          refine lv_icmp_ne (tgt := 85) hx hb dX4_write_77 (by decide) (fun hc => ?_) (fun hc => ?_)
          · have hf := fg_ifF hf hc
            refine lv_iload_n hx hb dX4_write_85 rfl (lv_at hl 4 rfl) ?_
            obtain ⟨hn22, hf⟩ := fg_gdE hf
            refine fg_iast hx hb hK h fg_p4_14 (fun _ => rfl) hn22 dX4_write_86 (fun w21 H locs ew h => ?_)
            have hf := fg_letE ew hf
            refine lv_iconst (v := 1) hx hb dX4_write_87 rfl ?_
            exact fg_reti hx hb hr hlk hK h hf dX4_write_88
          · have hf := fg_ifT hf hc
            refine lv_iload_n hx hb dX4_write_80 rfl (lv_at hl 4 rfl) ?_
            refine lv_i2s hx hb dX4_write_81 rfl ?_
            refine lv_goto (tgt := 86) hx hb dX4_write_82 (by decide) ?_
            obtain ⟨hn24, hf⟩ := fg_gdE hf
            refine fg_iast hx hb hK h fg_p4_14 (fun _ => rfl) hn24 dX4_write_86 (fun w23 H locs ew h => ?_)
            have hf := fg_letE ew hf
            refine lv_iconst (v := 1) hx hb dX4_write_87 rfl ?_
            exact fg_reti hx hb hr hlk hK h hf dX4_write_88
        · have hf := fg_ifT hf hc
          refine lv_iload_n hx hb dX4_write_64 rfl (lv_at hl 4 rfl) ?_
          refine lv_i2b hx hb dX4_write_65 rfl ?_
          refine lv_goto (tgt := 86) hx hb dX4_write_66 (by decide) ?_
          obtain ⟨hn26, hf⟩ := fg_gdE hf
          refine fg_iast hx hb hK h fg_p4_14 (fun _ => rfl) hn26 dX4_write_86 (fun w25 H locs ew h => ?_)
          have hf := fg_letE ew hf
          refine lv_iconst (v := 1) hx hb dX4_write_87 rfl ?_
          exact fg_reti hx hb hr hlk hK h hf dX4_write_88
      · have hf := fg_ifF hf hc
        refine lv_aload_n hx hb dX4_write_36 rfl (lv_at hl 1 rfl) ?_
        refine lv_iload hx hb dX4_write_37 (lv_at hl 0 rfl) ?_
        obtain ⟨r29, w27, hc28, hf⟩ := fg_biE hf
        refine fg_ci h (fg_runV (rest := []) S hK h (c_X4_no l D g r3  w16 r29 w27 hc28) vg_RX4_129 vd_X4_no ⟨by decide, by decide⟩ fg_p4_0 rfl rfl rfl hl.1 rfl (Nat.le_of_ble_eq_true rfl) dX4_write_39 ⟨Nat.zero_le _, Nat.zero_le _⟩) (fun H locs h => ?_)
        exact fg_reti hx hb hr hlk hK h hf dX4_write_42
    · have hf := fg_ifT hf hc
      refine lv_iconst (v := 0) hx hb dX4_write_28 rfl ?_
      refine lv_istore (lv' := [(4, .int 0), (0, .ref (g.1 4 0 0)), (1, .int a1), (2, .int a2), (3, .int a3)]) hx hb dX4_write_29 hl (by decide) rfl (fun ls hl => ?_)
      refine lv_iload hx hb dX4_write_31 (lv_at hl 0 rfl) ?_
      refine lv_if_lt (tgt := 43) hx hb dX4_write_33 (by decide) (fun hc => ?_) (fun hc => ?_)
      · exact absurd hc (by decide)
      · refine lv_aload_n hx hb dX4_write_36 rfl (lv_at hl 1 rfl) ?_
        refine lv_iload hx hb dX4_write_37 (lv_at hl 0 rfl) ?_
        obtain ⟨r32, w30, hc31, hf⟩ := fg_biE hf
        refine fg_ci h (fg_runV (rest := []) S hK h (c_X4_no l D g 0  w16 r32 w30 hc31) vg_RX4_129 vd_X4_no ⟨by decide, by decide⟩ fg_p4_0 rfl rfl rfl hl.1 rfl (Nat.le_of_ble_eq_true rfl) dX4_write_39 ⟨Nat.zero_le _, Nat.zero_le _⟩) (fun H locs h => ?_)
        exact fg_reti hx hb hr hlk hK h hf dX4_write_42
set_option maxHeartbeats 4000000 in
set_option maxRecDepth 100000 in
theorem c_X4_copy (l : Launch) (D : va_G) (g : fg_G) (a1 : Int32) (a2 : Int32) (a3 : Int32) (a4 : Int32) (a5 : Int32) (w : fg_W) (r : Int32) (w' : fg_W) (hf : f_X4_copy a1 a2 a3 a4 a5 w = some (r, w')) : fg_M l yX4_copy cX4_copy 7 (some .int) 2 42 D g [.ref (g.1 4 0 0), .int a1, .int a2, .int a3, .int a4, .int a5] w (fg_Qi D g r w') := by
  refine fg_M.of rfl (Nat.le_of_ble_eq_true rfl) (fun p e s m below meth c ls S hr hlk hK h hl => ?_)
  have hx := S.1
  have hb := S.2.1
  have hl : lv_has ls 7 [(0, .ref (g.1 4 0 0)), (1, .int a1), (2, .int a2), (3, .int a3), (4, .int a4), (5, .int a5)] := hl
  unfold f_X4_copy at hf
  refine lv_iload_n hx hb dX4_copy_0 rfl (lv_at hl 1 rfl) ?_
  obtain ⟨r3, w1, hc2, hf⟩ := fg_biE hf
  refine fg_ci h (fg_runS (rest := []) S hK h (c_X4_isSheet l D g a1  w r3 w1 hc2) vk_X4_isSheet vm_RX4_189 vs_X4_isSheet vi_RX4 vd_X4_isSheet.2 ⟨by decide, by decide⟩ rfl hl.1 rfl (Nat.le_of_ble_eq_true rfl) dX4_copy_1 ⟨Nat.zero_le _, Nat.zero_le _⟩) (fun H locs h => ?_)
  refine lv_if_eq (tgt := 14) hx hb dX4_copy_4 (by decide) (fun hc => ?_) (fun hc => ?_)
  · have hf := fg_ifT hf hc
    refine lv_aload_n hx hb dX4_copy_14 rfl (lv_at hl 0 rfl) ?_
    refine lv_iconst (v := 0) hx hb dX4_copy_15 rfl ?_
    obtain ⟨r6, w4, hc5, hf⟩ := fg_biE hf
    refine fg_ci h (fg_runV (rest := []) S hK h (c_X4_no l D g 0  w1 r6 w4 hc5) vg_RX4_129 vd_X4_no ⟨by decide, by decide⟩ fg_p4_0 rfl rfl rfl hl.1 rfl (Nat.le_of_ble_eq_true rfl) dX4_copy_16 ⟨Nat.zero_le _, Nat.zero_le _⟩) (fun H locs h => ?_)
    exact fg_reti hx hb hr hlk hK h hf dX4_copy_19
  · have hf := fg_ifF hf hc
    refine lv_iload_n hx hb dX4_copy_7 rfl (lv_at hl 3 rfl) ?_
    obtain ⟨r9, w7, hc8, hf⟩ := fg_biE hf
    refine fg_ci h (fg_runS (rest := []) S hK h (c_X4_isSheet l D g a3  w1 r9 w7 hc8) vk_X4_isSheet vm_RX4_189 vs_X4_isSheet vi_RX4 vd_X4_isSheet.2 ⟨by decide, by decide⟩ rfl hl.1 rfl (Nat.le_of_ble_eq_true rfl) dX4_copy_8 ⟨Nat.zero_le _, Nat.zero_le _⟩) (fun H locs h => ?_)
    refine lv_if_ne (tgt := 20) hx hb dX4_copy_11 (by decide) (fun hc => ?_) (fun hc => ?_)
    · have hf := fg_ifF hf hc
      refine lv_aload_n hx hb dX4_copy_20 rfl (lv_at hl 0 rfl) ?_
      refine fg_get (C := RX4) (T := TX4) (N := 22) S vu_X4 hK h fg_p4_0 rfl rfl 18 (by decide) vf_RX4_44 rfl rfl dX4_copy_21 ?_
      refine lv_iload_n hx hb dX4_copy_24 rfl (lv_at hl 1 rfl) ?_
      obtain ⟨hn10, hf⟩ := fg_gdE hf
      refine fg_iald hx hb hK h fg_p4_12 (fun _ => rfl) hn10 dX4_copy_25 ?_
      refine lv_if_eq (tgt := 38) hx hb dX4_copy_26 (by decide) (fun hc => ?_) (fun hc => ?_)
      · have hf := fg_ifT hf hc
        refine lv_aload_n hx hb dX4_copy_38 rfl (lv_at hl 0 rfl) ?_
        refine lv_iconst (v := 5) hx hb dX4_copy_39 rfl ?_
        obtain ⟨r13, w11, hc12, hf⟩ := fg_biE hf
        refine fg_ci h (fg_runV (rest := []) S hK h (c_X4_no l D g 5  w7 r13 w11 hc12) vg_RX4_129 vd_X4_no ⟨by decide, by decide⟩ fg_p4_0 rfl rfl rfl hl.1 rfl (Nat.le_of_ble_eq_true rfl) dX4_copy_40 ⟨Nat.zero_le _, Nat.zero_le _⟩) (fun H locs h => ?_)
        exact fg_reti hx hb hr hlk hK h hf dX4_copy_43
      · have hf := fg_ifF hf hc
        refine lv_aload_n hx hb dX4_copy_29 rfl (lv_at hl 0 rfl) ?_
        refine fg_get (C := RX4) (T := TX4) (N := 22) S vu_X4 hK h fg_p4_0 rfl rfl 18 (by decide) vf_RX4_44 rfl rfl dX4_copy_30 ?_
        refine lv_iload_n hx hb dX4_copy_33 rfl (lv_at hl 3 rfl) ?_
        obtain ⟨hn14, hf⟩ := fg_gdE hf
        refine fg_iald hx hb hK h fg_p4_12 (fun _ => rfl) hn14 dX4_copy_34 ?_
        refine lv_if_ne (tgt := 44) hx hb dX4_copy_35 (by decide) (fun hc => ?_) (fun hc => ?_)
        · have hf := fg_ifF hf hc
          refine lv_aload_n hx hb dX4_copy_44 rfl (lv_at hl 0 rfl) ?_
          refine fg_get (C := RX4) (T := TX4) (N := 22) S vu_X4 hK h fg_p4_0 rfl rfl 18 (by decide) vf_RX4_44 rfl rfl dX4_copy_45 ?_
          refine lv_iload_n hx hb dX4_copy_48 rfl (lv_at hl 1 rfl) ?_
          obtain ⟨hn15, hf⟩ := fg_gdE hf
          refine fg_iald hx hb hK h fg_p4_12 (fun _ => rfl) hn15 dX4_copy_49 ?_
          refine lv_aload_n hx hb dX4_copy_50 rfl (lv_at hl 0 rfl) ?_
          refine fg_get (C := RX4) (T := TX4) (N := 22) S vu_X4 hK h fg_p4_0 rfl rfl 18 (by decide) vf_RX4_44 rfl rfl dX4_copy_51 ?_
          refine lv_iload_n hx hb dX4_copy_54 rfl (lv_at hl 3 rfl) ?_
          obtain ⟨hn16, hf⟩ := fg_gdE hf
          refine fg_iald hx hb hK h fg_p4_12 (fun _ => rfl) hn16 dX4_copy_55 ?_
          refine lv_icmp_eq (tgt := 65) hx hb dX4_copy_56 (by decide) (fun hc => ?_) (fun hc => ?_)
          · have hf := fg_ifT hf hc
            refine lv_iload hx hb dX4_copy_65 (lv_at hl 5 rfl) ?_
            refine lv_if_lt (tgt := 106) hx hb dX4_copy_67 (by decide) (fun hc => ?_) (fun hc => ?_)
            · have hf := fg_ifT hf hc
              refine lv_aload_n hx hb dX4_copy_106 rfl (lv_at hl 0 rfl) ?_
              refine lv_iconst (v := 0) hx hb dX4_copy_107 rfl ?_
              obtain ⟨r19, w17, hc18, hf⟩ := fg_biE hf
              refine fg_ci h (fg_runV (rest := []) S hK h (c_X4_no l D g 0  w7 r19 w17 hc18) vg_RX4_129 vd_X4_no ⟨by decide, by decide⟩ fg_p4_0 rfl rfl rfl hl.1 rfl (Nat.le_of_ble_eq_true rfl) dX4_copy_108 ⟨Nat.zero_le _, Nat.zero_le _⟩) (fun H locs h => ?_)
              exact fg_reti hx hb hr hlk hK h hf dX4_copy_111
            · have hf := fg_ifF hf hc
              refine lv_iload_n hx hb dX4_copy_70 rfl (lv_at hl 2 rfl) ?_
              refine lv_if_lt (tgt := 106) hx hb dX4_copy_71 (by decide) (fun hc => ?_) (fun hc => ?_)
              · have hf := fg_ifT hf hc
                refine lv_aload_n hx hb dX4_copy_106 rfl (lv_at hl 0 rfl) ?_
                refine lv_iconst (v := 0) hx hb dX4_copy_107 rfl ?_
                obtain ⟨r22, w20, hc21, hf⟩ := fg_biE hf
                refine fg_ci h (fg_runV (rest := []) S hK h (c_X4_no l D g 0  w7 r22 w20 hc21) vg_RX4_129 vd_X4_no ⟨by decide, by decide⟩ fg_p4_0 rfl rfl rfl hl.1 rfl (Nat.le_of_ble_eq_true rfl) dX4_copy_108 ⟨Nat.zero_le _, Nat.zero_le _⟩) (fun H locs h => ?_)
                exact fg_reti hx hb hr hlk hK h hf dX4_copy_111
              · have hf := fg_ifF hf hc
                refine lv_iload hx hb dX4_copy_74 (lv_at hl 4 rfl) ?_
                refine lv_if_lt (tgt := 106) hx hb dX4_copy_76 (by decide) (fun hc => ?_) (fun hc => ?_)
                · have hf := fg_ifT hf hc
                  refine lv_aload_n hx hb dX4_copy_106 rfl (lv_at hl 0 rfl) ?_
                  refine lv_iconst (v := 0) hx hb dX4_copy_107 rfl ?_
                  obtain ⟨r25, w23, hc24, hf⟩ := fg_biE hf
                  refine fg_ci h (fg_runV (rest := []) S hK h (c_X4_no l D g 0  w7 r25 w23 hc24) vg_RX4_129 vd_X4_no ⟨by decide, by decide⟩ fg_p4_0 rfl rfl rfl hl.1 rfl (Nat.le_of_ble_eq_true rfl) dX4_copy_108 ⟨Nat.zero_le _, Nat.zero_le _⟩) (fun H locs h => ?_)
                  exact fg_reti hx hb hr hlk hK h hf dX4_copy_111
                · have hf := fg_ifF hf hc
                  refine lv_iload_n hx hb dX4_copy_79 rfl (lv_at hl 2 rfl) ?_
                  refine lv_aload_n hx hb dX4_copy_80 rfl (lv_at hl 0 rfl) ?_
                  refine fg_get (C := RX4) (T := TX4) (N := 22) S vu_X4 hK h fg_p4_0 rfl rfl 19 (by decide) vf_RX4_47 rfl rfl dX4_copy_81 ?_
                  refine lv_iload_n hx hb dX4_copy_84 rfl (lv_at hl 1 rfl) ?_
                  obtain ⟨hn26, hf⟩ := fg_gdE hf
                  refine fg_iald hx hb hK h fg_p4_13 (fun _ => rfl) hn26 dX4_copy_85 ?_
                  refine lv_iload hx hb dX4_copy_86 (lv_at hl 5 rfl) ?_
                  refine lv_isub hx hb dX4_copy_88 ?_
                  refine lv_icmp_gt (tgt := 106) hx hb dX4_copy_89 (by decide) (fun hc => ?_) (fun hc => ?_)
                  · have hf := fg_ifT hf hc
                    refine lv_aload_n hx hb dX4_copy_106 rfl (lv_at hl 0 rfl) ?_
                    refine lv_iconst (v := 0) hx hb dX4_copy_107 rfl ?_
                    obtain ⟨r29, w27, hc28, hf⟩ := fg_biE hf
                    refine fg_ci h (fg_runV (rest := []) S hK h (c_X4_no l D g 0  w7 r29 w27 hc28) vg_RX4_129 vd_X4_no ⟨by decide, by decide⟩ fg_p4_0 rfl rfl rfl hl.1 rfl (Nat.le_of_ble_eq_true rfl) dX4_copy_108 ⟨Nat.zero_le _, Nat.zero_le _⟩) (fun H locs h => ?_)
                    exact fg_reti hx hb hr hlk hK h hf dX4_copy_111
                  · have hf := fg_ifF hf hc
                    refine lv_iload hx hb dX4_copy_92 (lv_at hl 4 rfl) ?_
                    refine lv_aload_n hx hb dX4_copy_94 rfl (lv_at hl 0 rfl) ?_
                    refine fg_get (C := RX4) (T := TX4) (N := 22) S vu_X4 hK h fg_p4_0 rfl rfl 19 (by decide) vf_RX4_47 rfl rfl dX4_copy_95 ?_
                    refine lv_iload_n hx hb dX4_copy_98 rfl (lv_at hl 3 rfl) ?_
                    obtain ⟨hn30, hf⟩ := fg_gdE hf
                    refine fg_iald hx hb hK h fg_p4_13 (fun _ => rfl) hn30 dX4_copy_99 ?_
                    refine lv_iload hx hb dX4_copy_100 (lv_at hl 5 rfl) ?_
                    refine lv_isub hx hb dX4_copy_102 ?_
                    refine lv_icmp_le (tgt := 112) hx hb dX4_copy_103 (by decide) (fun hc => ?_) (fun hc => ?_)
                    · have hf := fg_ifT hf hc
                      refine lv_iconst (v := 0) hx hb dX4_copy_112 rfl ?_
                      refine lv_istore (lv' := [(6, .int 0), (0, .ref (g.1 4 0 0)), (1, .int a1), (2, .int a2), (3, .int a3), (4, .int a4), (5, .int a5)]) hx hb dX4_copy_113 hl (by decide) rfl (fun ls hl => ?_)
                      have hK_115 : ∀ (v6_115 : Int32) (w_115 : fg_W) (H : Heap) (locs : List Loc) (ls : Array Slot), fg_H D g s.heap w_115 H locs → lv_has ls 7 [(0, .ref (g.1 4 0 0)), (1, .int a1), (2, .int a2), (3, .int a3), (4, .int a4), (5, .int a5), (6, .int v6_115)] → (f_X4_copy_L152 a3 a4 a5 (fun v6_152 w_152 => some (a5, w_152)) fg_fuel 0 w_115) = some (r, w') → fg_Gi p l e 2 42 s m [.ref (g.1 4 0 0), .int a1, .int a2, .int a3, .int a4, .int a5] below meth c D g r w' H locs 149 ls [] := by
                        intro v6_115 w_115 H locs ls h hl hf
                        refine lv_iconst (v := 0) hx hb dX4_copy_149 rfl ?_
                        refine lv_istore (lv' := [(6, .int 0), (0, .ref (g.1 4 0 0)), (1, .int a1), (2, .int a2), (3, .int a3), (4, .int a4), (5, .int a5)]) hx hb dX4_copy_150 hl (by decide) rfl (fun ls hl => ?_)
                        have hK_152 : ∀ (v6_152 : Int32) (w_152 : fg_W) (H : Heap) (locs : List Loc) (ls : Array Slot), fg_H D g s.heap w_152 H locs → lv_has ls 7 [(0, .ref (g.1 4 0 0)), (1, .int a1), (2, .int a2), (3, .int a3), (4, .int a4), (5, .int a5), (6, .int v6_152)] → (some (a5, w_152)) = some (r, w') → fg_Gi p l e 2 42 s m [.ref (g.1 4 0 0), .int a1, .int a2, .int a3, .int a4, .int a5] below meth c D g r w' H locs 187 ls [] := by
                          intro v6_152 w_152 H locs ls h hl hf
                          refine lv_iload hx hb dX4_copy_187 (lv_at hl 5 rfl) ?_
                          exact fg_reti hx hb hr hlk hK h hf dX4_copy_189
                        have hL_152 : ∀ (KK_152 : Int32 → fg_W → Option (Int32 × fg_W)) (hK_152 : ∀ (v6_152 : Int32) (w_152 : fg_W) (H : Heap) (locs : List Loc) (ls : Array Slot), fg_H D g s.heap w_152 H locs → lv_has ls 7 [(0, .ref (g.1 4 0 0)), (1, .int a1), (2, .int a2), (3, .int a3), (4, .int a4), (5, .int a5), (6, .int v6_152)] → KK_152 v6_152 w_152 = some (r, w') → fg_Gi p l e 2 42 s m [.ref (g.1 4 0 0), .int a1, .int a2, .int a3, .int a4, .int a5] below meth c D g r w' H locs 187 ls []) (n : Nat) (v6_152 : Int32) (w_152 : fg_W) (H : Heap) (locs : List Loc) (ls : Array Slot), fg_H D g s.heap w_152 H locs → lv_has ls 7 [(0, .ref (g.1 4 0 0)), (1, .int a1), (2, .int a2), (3, .int a3), (4, .int a4), (5, .int a5), (6, .int v6_152)] → f_X4_copy_L152 a3 a4 a5 KK_152 n v6_152 w_152 = some (r, w') → fg_Gi p l e 2 42 s m [.ref (g.1 4 0 0), .int a1, .int a2, .int a3, .int a4, .int a5] below meth c D g r w' H locs 152 ls [] := by
                          intro KK_152 hK_152 n
                          induction n with
                          | zero => intro v6_152 w_152 H locs ls h hl hf; exact fg_no hf
                          | succ n_152 ih_152 =>
                            intro v6_152 w_152 H locs ls h hl hf
                            unfold f_X4_copy_L152 at hf
                            refine lv_iload hx hb dX4_copy_152 (lv_at hl 6 rfl) ?_
                            refine lv_iload hx hb dX4_copy_154 (lv_at hl 5 rfl) ?_
                            refine lv_icmp_ge (tgt := 187) hx hb dX4_copy_156 (by decide) (fun hc => ?_) (fun hc => ?_)
                            · have hf := fg_ifT hf hc
                              exact hK_152 v6_152 w_152 _ _ ls h (lv_sub hl [0, 1, 2, 3, 4, 5, 6] rfl) hf
                            · have hf := fg_ifF hf hc
                              refine lv_aload_n hx hb dX4_copy_159 rfl (lv_at hl 0 rfl) ?_
                              refine fg_get (C := RX4) (T := TX4) (N := 22) S vu_X4 hK h fg_p4_0 rfl rfl 20 (by decide) vf_RX4_50 rfl rfl dX4_copy_160 ?_
                              refine lv_bipush (v := 40) hx hb dX4_copy_163 rfl ?_
                              refine lv_iload_n hx hb dX4_copy_165 rfl (lv_at hl 3 rfl) ?_
                              refine lv_imul hx hb dX4_copy_166 ?_
                              refine lv_iload hx hb dX4_copy_167 (lv_at hl 4 rfl) ?_
                              refine lv_iadd hx hb dX4_copy_169 ?_
                              refine lv_iload hx hb dX4_copy_170 (lv_at hl 6 rfl) ?_
                              refine lv_iadd hx hb dX4_copy_172 ?_
                              refine lv_aload_n hx hb dX4_copy_173 rfl (lv_at hl 0 rfl) ?_
                              refine fg_get (C := RX4) (T := TX4) (N := 22) S vu_X4 hK h fg_p4_0 rfl rfl 21 (by decide) vf_RX4_53 rfl rfl dX4_copy_174 ?_
                              refine lv_iload hx hb dX4_copy_177 (lv_at hl 6 rfl) ?_
                              obtain ⟨hn34, hf⟩ := fg_gdE hf
                              refine fg_iald hx hb hK h fg_p4_15 (fun _ => rfl) hn34 dX4_copy_179 ?_
                              obtain ⟨hn36, hf⟩ := fg_gdE hf
                              refine fg_iast hx hb hK h fg_p4_14 (fun _ => rfl) hn36 dX4_copy_180 (fun w35 H locs ew h => ?_)
                              have hf := fg_letE ew hf
                              refine lv_iinc (v := (v6_152 + 1)) (lv' := [(6, .int (v6_152 + 1)), (0, .ref (g.1 4 0 0)), (1, .int a1), (2, .int a2), (3, .int a3), (4, .int a4), (5, .int a5)]) hx hb dX4_copy_181 hl (k := 6) rfl rfl (by decide) rfl (fun ls hl => ?_)
                              refine lv_goto (tgt := 152) hx hb dX4_copy_184 (by decide) ?_
                              exact ih_152 (v6_152 + 1) w35 _ _ ls h (lv_sub hl [1, 2, 3, 4, 5, 6, 0] rfl) hf
                        exact hL_152 _ hK_152 fg_fuel 0 w_115 _ _ ls h (lv_sub hl [1, 2, 3, 4, 5, 6, 0] rfl) hf
                      have hL_115 : ∀ (KK_115 : Int32 → fg_W → Option (Int32 × fg_W)) (hK_115 : ∀ (v6_115 : Int32) (w_115 : fg_W) (H : Heap) (locs : List Loc) (ls : Array Slot), fg_H D g s.heap w_115 H locs → lv_has ls 7 [(0, .ref (g.1 4 0 0)), (1, .int a1), (2, .int a2), (3, .int a3), (4, .int a4), (5, .int a5), (6, .int v6_115)] → KK_115 v6_115 w_115 = some (r, w') → fg_Gi p l e 2 42 s m [.ref (g.1 4 0 0), .int a1, .int a2, .int a3, .int a4, .int a5] below meth c D g r w' H locs 149 ls []) (n : Nat) (v6_115 : Int32) (w_115 : fg_W) (H : Heap) (locs : List Loc) (ls : Array Slot), fg_H D g s.heap w_115 H locs → lv_has ls 7 [(0, .ref (g.1 4 0 0)), (1, .int a1), (2, .int a2), (3, .int a3), (4, .int a4), (5, .int a5), (6, .int v6_115)] → f_X4_copy_L115 a1 a2 a5 KK_115 n v6_115 w_115 = some (r, w') → fg_Gi p l e 2 42 s m [.ref (g.1 4 0 0), .int a1, .int a2, .int a3, .int a4, .int a5] below meth c D g r w' H locs 115 ls [] := by
                        intro KK_115 hK_115 n
                        induction n with
                        | zero => intro v6_115 w_115 H locs ls h hl hf; exact fg_no hf
                        | succ n_115 ih_115 =>
                          intro v6_115 w_115 H locs ls h hl hf
                          unfold f_X4_copy_L115 at hf
                          refine lv_iload hx hb dX4_copy_115 (lv_at hl 6 rfl) ?_
                          refine lv_iload hx hb dX4_copy_117 (lv_at hl 5 rfl) ?_
                          refine lv_icmp_ge (tgt := 149) hx hb dX4_copy_119 (by decide) (fun hc => ?_) (fun hc => ?_)
                          · have hf := fg_ifT hf hc
                            exact hK_115 v6_115 w_115 _ _ ls h (lv_sub hl [0, 1, 2, 3, 4, 5, 6] rfl) hf
                          · have hf := fg_ifF hf hc
                            refine lv_aload_n hx hb dX4_copy_122 rfl (lv_at hl 0 rfl) ?_
                            refine fg_get (C := RX4) (T := TX4) (N := 22) S vu_X4 hK h fg_p4_0 rfl rfl 21 (by decide) vf_RX4_53 rfl rfl dX4_copy_123 ?_
                            refine lv_iload hx hb dX4_copy_126 (lv_at hl 6 rfl) ?_
                            refine lv_aload_n hx hb dX4_copy_128 rfl (lv_at hl 0 rfl) ?_
                            refine fg_get (C := RX4) (T := TX4) (N := 22) S vu_X4 hK h fg_p4_0 rfl rfl 20 (by decide) vf_RX4_50 rfl rfl dX4_copy_129 ?_
                            refine lv_bipush (v := 40) hx hb dX4_copy_132 rfl ?_
                            refine lv_iload_n hx hb dX4_copy_134 rfl (lv_at hl 1 rfl) ?_
                            refine lv_imul hx hb dX4_copy_135 ?_
                            refine lv_iload_n hx hb dX4_copy_136 rfl (lv_at hl 2 rfl) ?_
                            refine lv_iadd hx hb dX4_copy_137 ?_
                            refine lv_iload hx hb dX4_copy_138 (lv_at hl 6 rfl) ?_
                            refine lv_iadd hx hb dX4_copy_140 ?_
                            obtain ⟨hn40, hf⟩ := fg_gdE hf
                            refine fg_iald hx hb hK h fg_p4_14 (fun _ => rfl) hn40 dX4_copy_141 ?_
                            obtain ⟨hn42, hf⟩ := fg_gdE hf
                            refine fg_iast hx hb hK h fg_p4_15 (fun _ => rfl) hn42 dX4_copy_142 (fun w41 H locs ew h => ?_)
                            have hf := fg_letE ew hf
                            refine lv_iinc (v := (v6_115 + 1)) (lv' := [(6, .int (v6_115 + 1)), (0, .ref (g.1 4 0 0)), (1, .int a1), (2, .int a2), (3, .int a3), (4, .int a4), (5, .int a5)]) hx hb dX4_copy_143 hl (k := 6) rfl rfl (by decide) rfl (fun ls hl => ?_)
                            refine lv_goto (tgt := 115) hx hb dX4_copy_146 (by decide) ?_
                            exact ih_115 (v6_115 + 1) w41 _ _ ls h (lv_sub hl [1, 2, 3, 4, 5, 6, 0] rfl) hf
                      exact hL_115 _ hK_115 fg_fuel 0 w7 _ _ ls h (lv_sub hl [1, 2, 3, 4, 5, 6, 0] rfl) hf
                    · have hf := fg_ifF hf hc
                      refine lv_aload_n hx hb dX4_copy_106 rfl (lv_at hl 0 rfl) ?_
                      refine lv_iconst (v := 0) hx hb dX4_copy_107 rfl ?_
                      obtain ⟨r45, w43, hc44, hf⟩ := fg_biE hf
                      refine fg_ci h (fg_runV (rest := []) S hK h (c_X4_no l D g 0  w7 r45 w43 hc44) vg_RX4_129 vd_X4_no ⟨by decide, by decide⟩ fg_p4_0 rfl rfl rfl hl.1 rfl (Nat.le_of_ble_eq_true rfl) dX4_copy_108 ⟨Nat.zero_le _, Nat.zero_le _⟩) (fun H locs h => ?_)
                      exact fg_reti hx hb hr hlk hK h hf dX4_copy_111
          · have hf := fg_ifF hf hc
            refine lv_aload_n hx hb dX4_copy_59 rfl (lv_at hl 0 rfl) ?_
            refine lv_iconst (v := 2) hx hb dX4_copy_60 rfl ?_
            obtain ⟨r48, w46, hc47, hf⟩ := fg_biE hf
            refine fg_ci h (fg_runV (rest := []) S hK h (c_X4_no l D g 2  w7 r48 w46 hc47) vg_RX4_129 vd_X4_no ⟨by decide, by decide⟩ fg_p4_0 rfl rfl rfl hl.1 rfl (Nat.le_of_ble_eq_true rfl) dX4_copy_61 ⟨Nat.zero_le _, Nat.zero_le _⟩) (fun H locs h => ?_)
            exact fg_reti hx hb hr hlk hK h hf dX4_copy_64
        · have hf := fg_ifT hf hc
          refine lv_aload_n hx hb dX4_copy_38 rfl (lv_at hl 0 rfl) ?_
          refine lv_iconst (v := 5) hx hb dX4_copy_39 rfl ?_
          obtain ⟨r51, w49, hc50, hf⟩ := fg_biE hf
          refine fg_ci h (fg_runV (rest := []) S hK h (c_X4_no l D g 5  w7 r51 w49 hc50) vg_RX4_129 vd_X4_no ⟨by decide, by decide⟩ fg_p4_0 rfl rfl rfl hl.1 rfl (Nat.le_of_ble_eq_true rfl) dX4_copy_40 ⟨Nat.zero_le _, Nat.zero_le _⟩) (fun H locs h => ?_)
          exact fg_reti hx hb hr hlk hK h hf dX4_copy_43
    · have hf := fg_ifT hf hc
      refine lv_aload_n hx hb dX4_copy_14 rfl (lv_at hl 0 rfl) ?_
      refine lv_iconst (v := 0) hx hb dX4_copy_15 rfl ?_
      obtain ⟨r54, w52, hc53, hf⟩ := fg_biE hf
      refine fg_ci h (fg_runV (rest := []) S hK h (c_X4_no l D g 0  w7 r54 w52 hc53) vg_RX4_129 vd_X4_no ⟨by decide, by decide⟩ fg_p4_0 rfl rfl rfl hl.1 rfl (Nat.le_of_ble_eq_true rfl) dX4_copy_16 ⟨Nat.zero_le _, Nat.zero_le _⟩) (fun H locs h => ?_)
      exact fg_reti hx hb hr hlk hK h hf dX4_copy_19
set_option maxHeartbeats 4000000 in
set_option maxRecDepth 100000 in
theorem c_X4_load (l : Launch) (D : va_G) (g : fg_G) (a1 : Int32) (w : fg_W) (r : Int32) (w' : fg_W) (hf : f_X4_load a1 w = some (r, w')) : fg_M l yX4_load cX4_load 4 (some .int) 3 63 D g [.ref (g.1 4 0 0), .int a1] w (fg_Qi D g r w') := by
  refine fg_M.of rfl (Nat.le_of_ble_eq_true rfl) (fun p e s m below meth c ls S hr hlk hK h hl => ?_)
  have hx := S.1
  have hb := S.2.1
  have hl : lv_has ls 4 [(0, .ref (g.1 4 0 0)), (1, .int a1)] := hl
  unfold f_X4_load at hf
  refine lv_aload_n hx hb dX4_load_0 rfl (lv_at hl 0 rfl) ?_
  refine lv_iload_n hx hb dX4_load_1 rfl (lv_at hl 1 rfl) ?_
  obtain ⟨r3, w1, hc2, hf⟩ := fg_biE hf
  refine fg_ci h (fg_runV (rest := []) S hK h (c_X4_wrongSheet l D g a1  w r3 w1 hc2) vg_RX4_192 vd_X4_wrongSheet ⟨by decide, by decide⟩ fg_p4_0 rfl rfl rfl hl.1 rfl (Nat.le_of_ble_eq_true rfl) dX4_load_2 ⟨Nat.zero_le _, Nat.zero_le _⟩) (fun H locs h => ?_)
  refine lv_istore_n (lv' := [(2, .int r3), (0, .ref (g.1 4 0 0)), (1, .int a1)]) hx hb dX4_load_5 rfl hl (by decide) rfl (fun ls hl => ?_)
  refine lv_iload_n hx hb dX4_load_6 rfl (lv_at hl 0 rfl) ?_
  refine lv_if_lt (tgt := 16) hx hb dX4_load_7 (by decide) (fun hc => ?_) (fun hc => ?_)
  · have hf := fg_ifT hf hc
    refine lv_iconst (v := 0) hx hb dX4_load_16 rfl ?_
    refine lv_istore_n (lv' := [(3, .int 0), (2, .int r3), (0, .ref (g.1 4 0 0)), (1, .int a1)]) hx hb dX4_load_17 rfl hl (by decide) rfl (fun ls hl => ?_)
    have hK_18 : ∀ (v3_18 : Int32) (w_18 : fg_W) (H : Heap) (locs : List Loc) (ls : Array Slot), fg_H D g s.heap w_18 H locs → lv_has ls 4 [(0, .ref (g.1 4 0 0)), (1, .int a1), (2, .int r3), (3, .int v3_18)] → (some (v3_18, w_18)) = some (r, w') → fg_Gi p l e 3 63 s m [.ref (g.1 4 0 0), .int a1] below meth c D g r w' H locs 67 ls [] := by
      intro v3_18 w_18 H locs ls h hl hf
      refine lv_iload_n hx hb dX4_load_67 rfl (lv_at hl 3 rfl) ?_
      exact fg_reti hx hb hr hlk hK h hf dX4_load_68
    have hL_18 : ∀ (KK_18 : Int32 → fg_W → Option (Int32 × fg_W)) (hK_18 : ∀ (v3_18 : Int32) (w_18 : fg_W) (H : Heap) (locs : List Loc) (ls : Array Slot), fg_H D g s.heap w_18 H locs → lv_has ls 4 [(0, .ref (g.1 4 0 0)), (1, .int a1), (2, .int r3), (3, .int v3_18)] → KK_18 v3_18 w_18 = some (r, w') → fg_Gi p l e 3 63 s m [.ref (g.1 4 0 0), .int a1] below meth c D g r w' H locs 67 ls []) (n : Nat) (v3_18 : Int32) (w_18 : fg_W) (H : Heap) (locs : List Loc) (ls : Array Slot), fg_H D g s.heap w_18 H locs → lv_has ls 4 [(0, .ref (g.1 4 0 0)), (1, .int a1), (2, .int r3), (3, .int v3_18)] → f_X4_load_L18 a1 KK_18 n v3_18 w_18 = some (r, w') → fg_Gi p l e 3 63 s m [.ref (g.1 4 0 0), .int a1] below meth c D g r w' H locs 18 ls [] := by
      intro KK_18 hK_18 n
      induction n with
      | zero => intro v3_18 w_18 H locs ls h hl hf; exact fg_no hf
      | succ n_18 ih_18 =>
        intro v3_18 w_18 H locs ls h hl hf
        unfold f_X4_load_L18 at hf
        refine lv_iload_n hx hb dX4_load_18 rfl (lv_at hl 3 rfl) ?_
        refine lv_aload_n hx hb dX4_load_19 rfl (lv_at hl 0 rfl) ?_
        refine fg_get (C := RX4) (T := TX4) (N := 22) S vu_X4 hK h fg_p4_0 rfl rfl 19 (by decide) vf_RX4_47 rfl rfl dX4_load_20 ?_
        refine lv_iload_n hx hb dX4_load_23 rfl (lv_at hl 1 rfl) ?_
        obtain ⟨hn16, hf⟩ := fg_gdE hf
        refine fg_iald hx hb hK h fg_p4_13 (fun _ => rfl) hn16 dX4_load_24 ?_
        refine lv_icmp_ge (tgt := 67) hx hb dX4_load_25 (by decide) (fun hc => ?_) (fun hc => ?_)
        · have hf := fg_ifT hf hc
          exact hK_18 v3_18 w_18 _ _ ls h (lv_sub hl [0, 1, 2, 3] rfl) hf
        · have hf := fg_ifF hf hc
          refine lv_iload_n hx hb dX4_load_28 rfl (lv_at hl 3 rfl) ?_
          refine lv_bipush (v := 10) hx hb dX4_load_29 rfl ?_
          refine lv_icmp_ge (tgt := 67) hx hb dX4_load_31 (by decide) (fun hc => ?_) (fun hc => ?_)
          · have hf := fg_ifT hf hc
            exact hK_18 v3_18 w_18 _ _ ls h (lv_sub hl [0, 1, 2, 3] rfl) hf
          · have hf := fg_ifF hf hc
            refine lv_aload_n hx hb dX4_load_34 rfl (lv_at hl 0 rfl) ?_
            refine lv_iload_n hx hb dX4_load_35 rfl (lv_at hl 1 rfl) ?_
            refine lv_iload_n hx hb dX4_load_36 rfl (lv_at hl 3 rfl) ?_
            obtain ⟨r19, w17, hc18, hf⟩ := fg_biE hf
            refine fg_ci h (fg_runV (rest := []) S hK h (c_X4_told l D g a1 v3_18  w_18 r19 w17 hc18) vg_RX4_195 vd_X4_told ⟨by decide, by decide⟩ fg_p4_0 rfl rfl rfl hl.1 rfl (Nat.le_of_ble_eq_true rfl) dX4_load_37 ⟨Nat.zero_le _, Nat.zero_le _⟩) (fun H locs h => ?_)
            refine lv_iconst (v := 0) hx hb dX4_load_40 rfl ?_
            refine lv_bipush (v := 99) hx hb dX4_load_41 rfl ?_
            obtain ⟨r22, w20, hc21, hf⟩ := fg_biE hf
            refine fg_ci h (fg_runS (rest := []) S hK h (c_X4_in1 l D g r19 0 99  w17 r22 w20 hc21) vk_X4_in1 vm_RX4_61 vs_X4_in1 vi_RX4 vd_X4_in1.2 ⟨by decide, by decide⟩ rfl hl.1 rfl (Nat.le_of_ble_eq_true rfl) dX4_load_43 ⟨Nat.zero_le _, Nat.zero_le _⟩) (fun H locs h => ?_)
            refine lv_if_eq (tgt := 67) hx hb dX4_load_46 (by decide) (fun hc => ?_) (fun hc => ?_)
            · have hf := fg_ifT hf hc
              exact hK_18 v3_18 w20 _ _ ls h (lv_sub hl [0, 1, 2, 3] rfl) hf
            · have hf := fg_ifF hf hc
              refine lv_aload_n hx hb dX4_load_49 rfl (lv_at hl 0 rfl) ?_
              refine lv_iload_n hx hb dX4_load_50 rfl (lv_at hl 3 rfl) ?_
              refine lv_iconst (v := 0) hx hb dX4_load_51 rfl ?_
              refine lv_aload_n hx hb dX4_load_52 rfl (lv_at hl 0 rfl) ?_
              refine lv_iload_n hx hb dX4_load_53 rfl (lv_at hl 1 rfl) ?_
              refine lv_iload_n hx hb dX4_load_54 rfl (lv_at hl 3 rfl) ?_
              obtain ⟨r25, w23, hc24, hf⟩ := fg_biE hf
              refine fg_ci h (fg_runV (rest := [.int 0, .int v3_18, .ref (g.1 4 0 0)]) S hK h (c_X4_told l D g a1 v3_18  w20 r25 w23 hc24) vg_RX4_195 vd_X4_told ⟨by decide, by decide⟩ fg_p4_0 rfl rfl rfl hl.1 rfl (Nat.le_of_ble_eq_true rfl) dX4_load_55 ⟨Nat.zero_le _, Nat.zero_le _⟩) (fun H locs h => ?_)
              obtain ⟨w26, hc27, hf⟩ := fg_bvE hf
              refine fg_cv h (fg_runV (rest := []) S hK h (c_X4_lays1 l D g v3_18 0 r25  w23 w26 hc27) vg_RX4_56 vd_X4_lays1 ⟨by decide, by decide⟩ fg_p4_0 rfl rfl rfl hl.1 rfl (Nat.le_of_ble_eq_true rfl) dX4_load_58 ⟨Nat.zero_le _, Nat.zero_le _⟩) (fun H locs h => ?_)
              refine lv_iinc (v := (v3_18 + 1)) (lv' := [(3, .int (v3_18 + 1)), (0, .ref (g.1 4 0 0)), (1, .int a1), (2, .int r3)]) hx hb dX4_load_61 hl (k := 3) rfl rfl (by decide) rfl (fun ls hl => ?_)
              refine lv_goto (tgt := 18) hx hb dX4_load_64 (by decide) ?_
              exact ih_18 (v3_18 + 1) w26 _ _ ls h (lv_sub hl [1, 2, 3, 0] rfl) hf
    exact hL_18 _ hK_18 fg_fuel 0 w1 _ _ ls h (lv_sub hl [2, 3, 1, 0] rfl) hf
  · have hf := fg_ifF hf hc
    refine lv_aload_n hx hb dX4_load_10 rfl (lv_at hl 1 rfl) ?_
    refine lv_iload_n hx hb dX4_load_11 rfl (lv_at hl 0 rfl) ?_
    obtain ⟨r30, w28, hc29, hf⟩ := fg_biE hf
    refine fg_ci h (fg_runV (rest := []) S hK h (c_X4_no l D g r3  w1 r30 w28 hc29) vg_RX4_129 vd_X4_no ⟨by decide, by decide⟩ fg_p4_0 rfl rfl rfl hl.1 rfl (Nat.le_of_ble_eq_true rfl) dX4_load_12 ⟨Nat.zero_le _, Nat.zero_le _⟩) (fun H locs h => ?_)
    exact fg_reti hx hb hr hlk hK h hf dX4_load_15
set_option maxHeartbeats 4000000 in
set_option maxRecDepth 100000 in
theorem c_X4_judge (l : Launch) (D : va_G) (g : fg_G) (a1 : Int32) (w : fg_W) (r : Int32) (w' : fg_W) (hf : f_X4_judge a1 w = some (r, w')) : fg_M l yX4_judge cX4_judge 4 (some .int) 3 63 D g [.ref (g.1 4 0 0), .int a1] w (fg_Qi D g r w') := by
  refine fg_M.of rfl (Nat.le_of_ble_eq_true rfl) (fun p e s m below meth c ls S hr hlk hK h hl => ?_)
  have hx := S.1
  have hb := S.2.1
  have hl : lv_has ls 4 [(0, .ref (g.1 4 0 0)), (1, .int a1)] := hl
  unfold f_X4_judge at hf
  refine lv_aload_n hx hb dX4_judge_0 rfl (lv_at hl 0 rfl) ?_
  refine lv_iload_n hx hb dX4_judge_1 rfl (lv_at hl 1 rfl) ?_
  obtain ⟨r3, w1, hc2, hf⟩ := fg_biE hf
  refine fg_ci h (fg_runV (rest := []) S hK h (c_X4_wrongSheet l D g a1  w r3 w1 hc2) vg_RX4_192 vd_X4_wrongSheet ⟨by decide, by decide⟩ fg_p4_0 rfl rfl rfl hl.1 rfl (Nat.le_of_ble_eq_true rfl) dX4_judge_2 ⟨Nat.zero_le _, Nat.zero_le _⟩) (fun H locs h => ?_)
  refine lv_istore_n (lv' := [(2, .int r3), (0, .ref (g.1 4 0 0)), (1, .int a1)]) hx hb dX4_judge_5 rfl hl (by decide) rfl (fun ls hl => ?_)
  refine lv_iload_n hx hb dX4_judge_6 rfl (lv_at hl 0 rfl) ?_
  refine lv_if_lt (tgt := 16) hx hb dX4_judge_7 (by decide) (fun hc => ?_) (fun hc => ?_)
  · have hf := fg_ifT hf hc
    refine lv_iconst (v := 0) hx hb dX4_judge_16 rfl ?_
    refine lv_istore_n (lv' := [(3, .int 0), (2, .int r3), (0, .ref (g.1 4 0 0)), (1, .int a1)]) hx hb dX4_judge_17 rfl hl (by decide) rfl (fun ls hl => ?_)
    have hK_18 : ∀ (v3_18 : Int32) (w_18 : fg_W) (H : Heap) (locs : List Loc) (ls : Array Slot), fg_H D g s.heap w_18 H locs → lv_has ls 4 [(0, .ref (g.1 4 0 0)), (1, .int a1), (2, .int r3), (3, .int v3_18)] → (some (0, w_18)) = some (r, w') → fg_Gi p l e 3 63 s m [.ref (g.1 4 0 0), .int a1] below meth c D g r w' H locs 61 ls [] := by
      intro v3_18 w_18 H locs ls h hl hf
      refine lv_iconst (v := 0) hx hb dX4_judge_61 rfl ?_
      exact fg_reti hx hb hr hlk hK h hf dX4_judge_62
    have hL_18 : ∀ (KK_18 : Int32 → fg_W → Option (Int32 × fg_W)) (hK_18 : ∀ (v3_18 : Int32) (w_18 : fg_W) (H : Heap) (locs : List Loc) (ls : Array Slot), fg_H D g s.heap w_18 H locs → lv_has ls 4 [(0, .ref (g.1 4 0 0)), (1, .int a1), (2, .int r3), (3, .int v3_18)] → KK_18 v3_18 w_18 = some (r, w') → fg_Gi p l e 3 63 s m [.ref (g.1 4 0 0), .int a1] below meth c D g r w' H locs 61 ls []) (n : Nat) (v3_18 : Int32) (w_18 : fg_W) (H : Heap) (locs : List Loc) (ls : Array Slot), fg_H D g s.heap w_18 H locs → lv_has ls 4 [(0, .ref (g.1 4 0 0)), (1, .int a1), (2, .int r3), (3, .int v3_18)] → f_X4_judge_L18 a1 KK_18 n v3_18 w_18 = some (r, w') → fg_Gi p l e 3 63 s m [.ref (g.1 4 0 0), .int a1] below meth c D g r w' H locs 18 ls [] := by
      intro KK_18 hK_18 n
      induction n with
      | zero => intro v3_18 w_18 H locs ls h hl hf; exact fg_no hf
      | succ n_18 ih_18 =>
        intro v3_18 w_18 H locs ls h hl hf
        unfold f_X4_judge_L18 at hf
        refine lv_iload_n hx hb dX4_judge_18 rfl (lv_at hl 3 rfl) ?_
        refine lv_aload_n hx hb dX4_judge_19 rfl (lv_at hl 0 rfl) ?_
        refine fg_get (C := RX4) (T := TX4) (N := 22) S vu_X4 hK h fg_p4_0 rfl rfl 19 (by decide) vf_RX4_47 rfl rfl dX4_judge_20 ?_
        refine lv_iload_n hx hb dX4_judge_23 rfl (lv_at hl 1 rfl) ?_
        obtain ⟨hn14, hf⟩ := fg_gdE hf
        refine fg_iald hx hb hK h fg_p4_13 (fun _ => rfl) hn14 dX4_judge_24 ?_
        refine lv_icmp_ge (tgt := 61) hx hb dX4_judge_25 (by decide) (fun hc => ?_) (fun hc => ?_)
        · have hf := fg_ifT hf hc
          exact hK_18 v3_18 w_18 _ _ ls h (lv_sub hl [0, 1, 2, 3] rfl) hf
        · have hf := fg_ifF hf hc
          refine lv_aload_n hx hb dX4_judge_28 rfl (lv_at hl 0 rfl) ?_
          refine lv_iload_n hx hb dX4_judge_29 rfl (lv_at hl 3 rfl) ?_
          obtain ⟨r17, w15, hc16, hf⟩ := fg_biE hf
          refine fg_ci h (fg_runV (rest := []) S hK h (c_X4_isPerson l D g v3_18  w_18 r17 w15 hc16) vg_RX4_138 vd_X4_isPerson ⟨by decide, by decide⟩ fg_p4_0 rfl rfl rfl hl.1 rfl (Nat.le_of_ble_eq_true rfl) dX4_judge_30 ⟨Nat.zero_le _, Nat.zero_le _⟩) (fun H locs h => ?_)
          refine lv_if_eq (tgt := 51) hx hb dX4_judge_33 (by decide) (fun hc => ?_) (fun hc => ?_)
          · have hf := fg_ifT hf hc
            refine lv_iconst (v := 1) hx hb dX4_judge_51 rfl ?_
            refine lv_iload_n hx hb dX4_judge_52 rfl (lv_at hl 3 rfl) ?_
            refine lv_iadd hx hb dX4_judge_53 ?_
            exact fg_reti hx hb hr hlk hK h hf dX4_judge_54
          · have hf := fg_ifF hf hc
            refine lv_aload_n hx hb dX4_judge_36 rfl (lv_at hl 0 rfl) ?_
            refine lv_iload_n hx hb dX4_judge_37 rfl (lv_at hl 3 rfl) ?_
            refine lv_iconst (v := 1) hx hb dX4_judge_38 rfl ?_
            obtain ⟨r20, w18, hc19, hf⟩ := fg_biE hf
            refine fg_ci h (fg_runV (rest := []) S hK h (c_X4_get l D g v3_18 1  w15 r20 w18 hc19) vg_RX4_65 vd_X4_get ⟨by decide, by decide⟩ fg_p4_0 rfl rfl rfl hl.1 rfl (Nat.le_of_ble_eq_true rfl) dX4_judge_39 ⟨Nat.zero_le _, Nat.zero_le _⟩) (fun H locs h => ?_)
            refine lv_aload_n hx hb dX4_judge_42 rfl (lv_at hl 0 rfl) ?_
            refine lv_iload_n hx hb dX4_judge_43 rfl (lv_at hl 1 rfl) ?_
            refine lv_iload_n hx hb dX4_judge_44 rfl (lv_at hl 3 rfl) ?_
            obtain ⟨r23, w21, hc22, hf⟩ := fg_biE hf
            refine fg_ci h (fg_runV (rest := [.int r20]) S hK h (c_X4_told l D g a1 v3_18  w18 r23 w21 hc22) vg_RX4_195 vd_X4_told ⟨by decide, by decide⟩ fg_p4_0 rfl rfl rfl hl.1 rfl (Nat.le_of_ble_eq_true rfl) dX4_judge_45 ⟨Nat.zero_le _, Nat.zero_le _⟩) (fun H locs h => ?_)
            refine lv_icmp_eq (tgt := 55) hx hb dX4_judge_48 (by decide) (fun hc => ?_) (fun hc => ?_)
            · have hf := fg_ifT hf hc
              refine lv_iinc (v := (v3_18 + 1)) (lv' := [(3, .int (v3_18 + 1)), (0, .ref (g.1 4 0 0)), (1, .int a1), (2, .int r3)]) hx hb dX4_judge_55 hl (k := 3) rfl rfl (by decide) rfl (fun ls hl => ?_)
              refine lv_goto (tgt := 18) hx hb dX4_judge_58 (by decide) ?_
              exact ih_18 (v3_18 + 1) w21 _ _ ls h (lv_sub hl [1, 2, 3, 0] rfl) hf
            · have hf := fg_ifF hf hc
              refine lv_iconst (v := 1) hx hb dX4_judge_51 rfl ?_
              refine lv_iload_n hx hb dX4_judge_52 rfl (lv_at hl 3 rfl) ?_
              refine lv_iadd hx hb dX4_judge_53 ?_
              exact fg_reti hx hb hr hlk hK h hf dX4_judge_54
    exact hL_18 _ hK_18 fg_fuel 0 w1 _ _ ls h (lv_sub hl [2, 3, 1, 0] rfl) hf
  · have hf := fg_ifF hf hc
    refine lv_aload_n hx hb dX4_judge_10 rfl (lv_at hl 1 rfl) ?_
    refine lv_iload_n hx hb dX4_judge_11 rfl (lv_at hl 0 rfl) ?_
    obtain ⟨r26, w24, hc25, hf⟩ := fg_biE hf
    refine fg_ci h (fg_runV (rest := []) S hK h (c_X4_no l D g r3  w1 r26 w24 hc25) vg_RX4_129 vd_X4_no ⟨by decide, by decide⟩ fg_p4_0 rfl rfl rfl hl.1 rfl (Nat.le_of_ble_eq_true rfl) dX4_judge_12 ⟨Nat.zero_le _, Nat.zero_le _⟩) (fun H locs h => ?_)
    exact fg_reti hx hb hr hlk hK h hf dX4_judge_15
set_option maxHeartbeats 4000000 in
set_option maxRecDepth 100000 in
theorem c_X4_image (l : Launch) (D : va_G) (g : fg_G)  (w : fg_W) (r : Int32) (w' : fg_W) (hf : f_X4_image  w = some (r, w')) : fg_M l yX4_image cX4_image 2 (some .int) 0 0 D g [.ref (g.1 4 0 0)] w (fg_Qi D g r w') := by
  refine fg_M.of rfl (Nat.le_of_ble_eq_true rfl) (fun p e s m below meth c ls S hr hlk hK h hl => ?_)
  have hx := S.1
  have hb := S.2.1
  have hl : lv_has ls 2 [(0, .ref (g.1 4 0 0))] := hl
  unfold f_X4_image at hf
  refine lv_iconst (v := 0) hx hb dX4_image_0 rfl ?_
  refine lv_istore_n (lv' := [(1, .int 0), (0, .ref (g.1 4 0 0))]) hx hb dX4_image_1 rfl hl (by decide) rfl (fun ls hl => ?_)
  have hK_2 : ∀ (v1_2 : Int32) (w_2 : fg_W) (H : Heap) (locs : List Loc) (ls : Array Slot), fg_H D g s.heap w_2 H locs → lv_has ls 2 [(0, .ref (g.1 4 0 0)), (1, .int v1_2)] → (fg_let (fg_st w_2 4 0 0 (upd (w_2.1 4 0 0) 3 1)) (fun w1 => some (1, w1))) = some (r, w') → fg_Gi p l e 0 0 s m [.ref (g.1 4 0 0)] below meth c D g r w' H locs 26 ls [] := by
    intro v1_2 w_2 H locs ls h hl hf
    refine lv_aload_n hx hb dX4_image_26 rfl (lv_at hl 0 rfl) ?_
    refine lv_iconst (v := 1) hx hb dX4_image_27 rfl ?_
    refine fg_putI (C := RX4) (T := TX4) (N := 22) (fs := (fun f => fg_f4 g 0 f w_2.2)) S vu_X4 tyX4 tyX4_ok nmX4 hK h fg_p4_0 (fun _ e4 => by rw [← e4]; rfl) rfl 3 (by decide) vf_RX4_273 rfl rfl (tyX4_ok 3 (by decide)) rfl rfl (fun _ => Nat.le_of_ble_eq_true rfl) (fun _ => rfl) dX4_image_28 (fun w1 H locs ew h => ?_)
    have hf := fg_letE ew hf
    refine lv_iconst (v := 1) hx hb dX4_image_31 rfl ?_
    exact fg_reti hx hb hr hlk hK h hf dX4_image_32
  have hL_2 : ∀ (KK_2 : Int32 → fg_W → Option (Int32 × fg_W)) (hK_2 : ∀ (v1_2 : Int32) (w_2 : fg_W) (H : Heap) (locs : List Loc) (ls : Array Slot), fg_H D g s.heap w_2 H locs → lv_has ls 2 [(0, .ref (g.1 4 0 0)), (1, .int v1_2)] → KK_2 v1_2 w_2 = some (r, w') → fg_Gi p l e 0 0 s m [.ref (g.1 4 0 0)] below meth c D g r w' H locs 26 ls []) (n : Nat) (v1_2 : Int32) (w_2 : fg_W) (H : Heap) (locs : List Loc) (ls : Array Slot), fg_H D g s.heap w_2 H locs → lv_has ls 2 [(0, .ref (g.1 4 0 0)), (1, .int v1_2)] → f_X4_image_L2  KK_2 n v1_2 w_2 = some (r, w') → fg_Gi p l e 0 0 s m [.ref (g.1 4 0 0)] below meth c D g r w' H locs 2 ls [] := by
    intro KK_2 hK_2 n
    induction n with
    | zero => intro v1_2 w_2 H locs ls h hl hf; exact fg_no hf
    | succ n_2 ih_2 =>
      intro v1_2 w_2 H locs ls h hl hf
      unfold f_X4_image_L2 at hf
      refine lv_iload_n hx hb dX4_image_2 rfl (lv_at hl 1 rfl) ?_
      refine lv_bipush (v := 90) hx hb dX4_image_3 rfl ?_
      refine lv_icmp_ge (tgt := 26) hx hb dX4_image_5 (by decide) (fun hc => ?_) (fun hc => ?_)
      · have hf := fg_ifT hf hc
        exact hK_2 v1_2 w_2 _ _ ls h (lv_sub hl [0, 1] rfl) hf
      · have hf := fg_ifF hf hc
        refine lv_aload_n hx hb dX4_image_8 rfl (lv_at hl 0 rfl) ?_
        refine fg_get (C := RX4) (T := TX4) (N := 22) S vu_X4 hK h fg_p4_0 rfl rfl 1 (by decide) vf_RX4_13 rfl rfl dX4_image_9 ?_
        refine lv_iload_n hx hb dX4_image_12 rfl (lv_at hl 1 rfl) ?_
        refine lv_aload_n hx hb dX4_image_13 rfl (lv_at hl 0 rfl) ?_
        refine fg_get (C := RX4) (T := TX4) (N := 22) S vu_X4 hK h fg_p4_0 rfl rfl 0 (by decide) vf_RX4_9 rfl rfl dX4_image_14 ?_
        refine lv_iload_n hx hb dX4_image_17 rfl (lv_at hl 1 rfl) ?_
        obtain ⟨hn5, hf⟩ := fg_gdE hf
        refine fg_iald hx hb hK h fg_p4_1 (fun _ => rfl) hn5 dX4_image_18 ?_
        obtain ⟨hn7, hf⟩ := fg_gdE hf
        refine fg_iast hx hb hK h fg_p4_2 (fun _ => rfl) hn7 dX4_image_19 (fun w6 H locs ew h => ?_)
        have hf := fg_letE ew hf
        refine lv_iinc (v := (v1_2 + 1)) (lv' := [(1, .int (v1_2 + 1)), (0, .ref (g.1 4 0 0))]) hx hb dX4_image_20 hl (k := 1) rfl rfl (by decide) rfl (fun ls hl => ?_)
        refine lv_goto (tgt := 2) hx hb dX4_image_23 (by decide) ?_
        exact ih_2 (v1_2 + 1) w6 _ _ ls h (lv_sub hl [1, 0] rfl) hf
  exact hL_2 _ hK_2 fg_fuel 0 w _ _ ls h (lv_sub hl [1, 0] rfl) hf
set_option maxHeartbeats 4000000 in
set_option maxRecDepth 100000 in
theorem c_X4_undo (l : Launch) (D : va_G) (g : fg_G)  (w : fg_W) (r : Int32) (w' : fg_W) (hf : f_X4_undo  w = some (r, w')) : fg_M l yX4_undo cX4_undo 2 (some .int) 1 21 D g [.ref (g.1 4 0 0)] w (fg_Qi D g r w') := by
  refine fg_M.of rfl (Nat.le_of_ble_eq_true rfl) (fun p e s m below meth c ls S hr hlk hK h hl => ?_)
  have hx := S.1
  have hb := S.2.1
  have hl : lv_has ls 2 [(0, .ref (g.1 4 0 0))] := hl
  unfold f_X4_undo at hf
  refine lv_aload_n hx hb dX4_undo_0 rfl (lv_at hl 0 rfl) ?_
  refine fg_get (C := RX4) (T := TX4) (N := 22) S vu_X4 hK h fg_p4_0 rfl rfl 3 (by decide) vf_RX4_273 rfl rfl dX4_undo_1 ?_
  refine lv_if_ne (tgt := 13) hx hb dX4_undo_4 (by decide) (fun hc => ?_) (fun hc => ?_)
  · have hf := fg_ifF hf hc
    refine lv_iconst (v := 0) hx hb dX4_undo_13 rfl ?_
    refine lv_istore_n (lv' := [(1, .int 0), (0, .ref (g.1 4 0 0))]) hx hb dX4_undo_14 rfl hl (by decide) rfl (fun ls hl => ?_)
    have hK_15 : ∀ (v1_15 : Int32) (w_15 : fg_W) (H : Heap) (locs : List Loc) (ls : Array Slot), fg_H D g s.heap w_15 H locs → lv_has ls 2 [(0, .ref (g.1 4 0 0)), (1, .int v1_15)] → (some ((w_15.1 4 0 1 0), w_15)) = some (r, w') → fg_Gi p l e 1 21 s m [.ref (g.1 4 0 0)] below meth c D g r w' H locs 39 ls [] := by
      intro v1_15 w_15 H locs ls h hl hf
      refine lv_aload_n hx hb dX4_undo_39 rfl (lv_at hl 0 rfl) ?_
      refine fg_get (C := RX4) (T := TX4) (N := 22) S vu_X4 hK h fg_p4_0 rfl rfl 0 (by decide) vf_RX4_9 rfl rfl dX4_undo_40 ?_
      refine lv_iconst (v := 0) hx hb dX4_undo_43 rfl ?_
      refine fg_ialdL (j := 0) hx hb hK h fg_p4_1 (fun _ => rfl) (by decide) rfl dX4_undo_44 ?_
      exact fg_reti hx hb hr hlk hK h hf dX4_undo_45
    have hL_15 : ∀ (KK_15 : Int32 → fg_W → Option (Int32 × fg_W)) (hK_15 : ∀ (v1_15 : Int32) (w_15 : fg_W) (H : Heap) (locs : List Loc) (ls : Array Slot), fg_H D g s.heap w_15 H locs → lv_has ls 2 [(0, .ref (g.1 4 0 0)), (1, .int v1_15)] → KK_15 v1_15 w_15 = some (r, w') → fg_Gi p l e 1 21 s m [.ref (g.1 4 0 0)] below meth c D g r w' H locs 39 ls []) (n : Nat) (v1_15 : Int32) (w_15 : fg_W) (H : Heap) (locs : List Loc) (ls : Array Slot), fg_H D g s.heap w_15 H locs → lv_has ls 2 [(0, .ref (g.1 4 0 0)), (1, .int v1_15)] → f_X4_undo_L15  KK_15 n v1_15 w_15 = some (r, w') → fg_Gi p l e 1 21 s m [.ref (g.1 4 0 0)] below meth c D g r w' H locs 15 ls [] := by
      intro KK_15 hK_15 n
      induction n with
      | zero => intro v1_15 w_15 H locs ls h hl hf; exact fg_no hf
      | succ n_15 ih_15 =>
        intro v1_15 w_15 H locs ls h hl hf
        unfold f_X4_undo_L15 at hf
        refine lv_iload_n hx hb dX4_undo_15 rfl (lv_at hl 1 rfl) ?_
        refine lv_bipush (v := 90) hx hb dX4_undo_16 rfl ?_
        refine lv_icmp_ge (tgt := 39) hx hb dX4_undo_18 (by decide) (fun hc => ?_) (fun hc => ?_)
        · have hf := fg_ifT hf hc
          exact hK_15 v1_15 w_15 _ _ ls h (lv_sub hl [0, 1] rfl) hf
        · have hf := fg_ifF hf hc
          refine lv_aload_n hx hb dX4_undo_21 rfl (lv_at hl 0 rfl) ?_
          refine fg_get (C := RX4) (T := TX4) (N := 22) S vu_X4 hK h fg_p4_0 rfl rfl 0 (by decide) vf_RX4_9 rfl rfl dX4_undo_22 ?_
          refine lv_iload_n hx hb dX4_undo_25 rfl (lv_at hl 1 rfl) ?_
          refine lv_aload_n hx hb dX4_undo_26 rfl (lv_at hl 0 rfl) ?_
          refine fg_get (C := RX4) (T := TX4) (N := 22) S vu_X4 hK h fg_p4_0 rfl rfl 1 (by decide) vf_RX4_13 rfl rfl dX4_undo_27 ?_
          refine lv_iload_n hx hb dX4_undo_30 rfl (lv_at hl 1 rfl) ?_
          obtain ⟨hn4, hf⟩ := fg_gdE hf
          refine fg_iald hx hb hK h fg_p4_2 (fun _ => rfl) hn4 dX4_undo_31 ?_
          obtain ⟨hn6, hf⟩ := fg_gdE hf
          refine fg_iast hx hb hK h fg_p4_1 (fun _ => rfl) hn6 dX4_undo_32 (fun w5 H locs ew h => ?_)
          have hf := fg_letE ew hf
          refine lv_iinc (v := (v1_15 + 1)) (lv' := [(1, .int (v1_15 + 1)), (0, .ref (g.1 4 0 0))]) hx hb dX4_undo_33 hl (k := 1) rfl rfl (by decide) rfl (fun ls hl => ?_)
          refine lv_goto (tgt := 15) hx hb dX4_undo_36 (by decide) ?_
          exact ih_15 (v1_15 + 1) w5 _ _ ls h (lv_sub hl [1, 0] rfl) hf
    exact hL_15 _ hK_15 fg_fuel 0 w _ _ ls h (lv_sub hl [1, 0] rfl) hf
  · have hf := fg_ifT hf hc
    refine lv_aload_n hx hb dX4_undo_7 rfl (lv_at hl 0 rfl) ?_
    refine lv_iconst (v := 3) hx hb dX4_undo_8 rfl ?_
    obtain ⟨r9, w7, hc8, hf⟩ := fg_biE hf
    refine fg_ci h (fg_runV (rest := []) S hK h (c_X4_no l D g 3  w r9 w7 hc8) vg_RX4_129 vd_X4_no ⟨by decide, by decide⟩ fg_p4_0 rfl rfl rfl hl.1 rfl (Nat.le_of_ble_eq_true rfl) dX4_undo_9 ⟨Nat.zero_le _, Nat.zero_le _⟩) (fun H locs h => ?_)
    exact fg_reti hx hb hr hlk hK h hf dX4_undo_12
set_option maxHeartbeats 4000000 in
set_option maxRecDepth 100000 in
theorem c_X4_tear (l : Launch) (D : va_G) (g : fg_G)  (w : fg_W) (r : Int32) (w' : fg_W) (hf : f_X4_tear  w = some (r, w')) : fg_M l yX4_tear cX4_tear 2 (some .int) 0 0 D g [.ref (g.1 4 0 0)] w (fg_Qi D g r w') := by
  refine fg_M.of rfl (Nat.le_of_ble_eq_true rfl) (fun p e s m below meth c ls S hr hlk hK h hl => ?_)
  have hx := S.1
  have hb := S.2.1
  have hl : lv_has ls 2 [(0, .ref (g.1 4 0 0))] := hl
  unfold f_X4_tear at hf
  refine lv_aload_n hx hb dX4_tear_0 rfl (lv_at hl 0 rfl) ?_
  refine fg_get (C := RX4) (T := TX4) (N := 22) S vu_X4 hK h fg_p4_0 rfl rfl 3 (by decide) vf_RX4_273 rfl rfl dX4_tear_1 ?_
  refine lv_if_eq (tgt := 11) hx hb dX4_tear_4 (by decide) (fun hc => ?_) (fun hc => ?_)
  · have hf := fg_ifT hf hc
    refine lv_iconst (v := 0) hx hb dX4_tear_11 rfl ?_
    refine lv_istore_n (lv' := [(1, .int 0), (0, .ref (g.1 4 0 0))]) hx hb dX4_tear_12 rfl hl (by decide) rfl (fun ls hl => ?_)
    refine lv_aload_n hx hb dX4_tear_13 rfl (lv_at hl 1 rfl) ?_
    refine lv_iconst (v := 0) hx hb dX4_tear_14 rfl ?_
    refine fg_putI (C := RX4) (T := TX4) (N := 22) (fs := (fun f => fg_f4 g 0 f w.2)) S vu_X4 tyX4 tyX4_ok nmX4 hK h fg_p4_0 (fun _ e4 => by rw [← e4]; rfl) rfl 3 (by decide) vf_RX4_273 rfl rfl (tyX4_ok 3 (by decide)) rfl rfl (fun _ => Nat.le_of_ble_eq_true rfl) (fun _ => rfl) dX4_tear_15 (fun w1 H locs ew h => ?_)
    have hf := fg_letE ew hf
    refine lv_iload_n hx hb dX4_tear_18 rfl (lv_at hl 0 rfl) ?_
    exact fg_reti hx hb hr hlk hK h hf dX4_tear_19
  · have hf := fg_ifF hf hc
    refine lv_iconst (v := 1) hx hb dX4_tear_7 rfl ?_
    refine lv_goto (tgt := 12) hx hb dX4_tear_8 (by decide) ?_
    refine lv_istore_n (lv' := [(1, .int 1), (0, .ref (g.1 4 0 0))]) hx hb dX4_tear_12 rfl hl (by decide) rfl (fun ls hl => ?_)
    refine lv_aload_n hx hb dX4_tear_13 rfl (lv_at hl 1 rfl) ?_
    refine lv_iconst (v := 0) hx hb dX4_tear_14 rfl ?_
    refine fg_putI (C := RX4) (T := TX4) (N := 22) (fs := (fun f => fg_f4 g 0 f w.2)) S vu_X4 tyX4 tyX4_ok nmX4 hK h fg_p4_0 (fun _ e4 => by rw [← e4]; rfl) rfl 3 (by decide) vf_RX4_273 rfl rfl (tyX4_ok 3 (by decide)) rfl rfl (fun _ => Nat.le_of_ble_eq_true rfl) (fun _ => rfl) dX4_tear_15 (fun w2 H locs ew h => ?_)
    have hf := fg_letE ew hf
    refine lv_iload_n hx hb dX4_tear_18 rfl (lv_at hl 0 rfl) ?_
    exact fg_reti hx hb hr hlk hK h hf dX4_tear_19
set_option maxHeartbeats 4000000 in
set_option maxRecDepth 100000 in
theorem c_X4_count (l : Launch) (D : va_G) (g : fg_G) (a1 : Int32) (w : fg_W) (r : Int32) (w' : fg_W) (hf : f_X4_count a1 w = some (r, w')) : fg_M l yX4_count cX4_count 4 (some .int) 3 65 D g [.ref (g.1 4 0 0), .int a1] w (fg_Qi D g r w') := by
  refine fg_M.of rfl (Nat.le_of_ble_eq_true rfl) (fun p e s m below meth c ls S hr hlk hK h hl => ?_)
  have hx := S.1
  have hb := S.2.1
  have hl : lv_has ls 4 [(0, .ref (g.1 4 0 0)), (1, .int a1)] := hl
  unfold f_X4_count at hf
  refine lv_iconst (v := 0) hx hb dX4_count_0 rfl ?_
  refine lv_istore_n (lv' := [(2, .int 0), (0, .ref (g.1 4 0 0)), (1, .int a1)]) hx hb dX4_count_1 rfl hl (by decide) rfl (fun ls hl => ?_)
  refine lv_iload_n hx hb dX4_count_2 rfl (lv_at hl 2 rfl) ?_
  by_cases hq3_0 : a1 = 0
  · refine lv_tableIn (tgt := 48) hx hb dX4_count_3 (by rw [hq3_0]; decide) (by rw [hq3_0]; decide) (off := 45) (by rw [hq3_0]; rfl) (by decide) ?_
    have hf := fg_ifT hf hq3_0
    refine lv_aload_n hx hb dX4_count_48 rfl (lv_at hl 1 rfl) ?_
    refine fg_get (C := RX4) (T := TX4) (N := 22) S vu_X4 hK h fg_p4_0 rfl rfl 0 (by decide) vf_RX4_9 rfl rfl dX4_count_49 ?_
    refine lv_iconst (v := 0) hx hb dX4_count_52 rfl ?_
    refine fg_ialdL (j := 0) hx hb hK h fg_p4_1 (fun _ => rfl) (by decide) rfl dX4_count_53 ?_
    exact fg_reti hx hb hr hlk hK h hf dX4_count_54
  have hf := fg_ifF hf hq3_0
  by_cases hq3_1 : a1 = 1
  · refine lv_tableIn (tgt := 55) hx hb dX4_count_3 (by rw [hq3_1]; decide) (by rw [hq3_1]; decide) (off := 52) (by rw [hq3_1]; rfl) (by decide) ?_
    have hf := fg_ifT hf hq3_1
    refine lv_aload_n hx hb dX4_count_55 rfl (lv_at hl 1 rfl) ?_
    refine fg_get (C := RX4) (T := TX4) (N := 22) S vu_X4 hK h fg_p4_0 rfl rfl 0 (by decide) vf_RX4_9 rfl rfl dX4_count_56 ?_
    refine lv_iconst (v := 1) hx hb dX4_count_59 rfl ?_
    refine fg_ialdL (j := 1) hx hb hK h fg_p4_1 (fun _ => rfl) (by decide) rfl dX4_count_60 ?_
    exact fg_reti hx hb hr hlk hK h hf dX4_count_61
  have hf := fg_ifF hf hq3_1
  by_cases hq3_2 : a1 = 2
  · refine lv_tableIn (tgt := 62) hx hb dX4_count_3 (by rw [hq3_2]; decide) (by rw [hq3_2]; decide) (off := 59) (by rw [hq3_2]; rfl) (by decide) ?_
    have hf := fg_ifT hf hq3_2
    refine lv_aload_n hx hb dX4_count_62 rfl (lv_at hl 1 rfl) ?_
    obtain ⟨r3, w1, hc2, hf⟩ := fg_biE hf
    refine fg_ci h (fg_runV (rest := []) S hK h (c_X4_onLots l D g   w r3 w1 hc2) vg_RX4_147 vd_X4_onLots ⟨by decide, by decide⟩ fg_p4_0 rfl rfl rfl hl.1 rfl (Nat.le_of_ble_eq_true rfl) dX4_count_63 ⟨Nat.zero_le _, Nat.zero_le _⟩) (fun H locs h => ?_)
    obtain ⟨r6, w4, hc5, hf⟩ := fg_biE hf
    refine fg_ci h (fg_runS (rest := []) S hK h (c_X4_bits l D g r3  w1 r6 w4 hc5) vk_X4_bits vm_RX4_76 vs_X4_bits vi_RX4 vd_X4_bits.2 ⟨by decide, by decide⟩ rfl hl.1 rfl (Nat.le_of_ble_eq_true rfl) dX4_count_66 ⟨Nat.zero_le _, Nat.zero_le _⟩) (fun H locs h => ?_)
    exact fg_reti hx hb hr hlk hK h hf dX4_count_69
  have hf := fg_ifF hf hq3_2
  by_cases hq3_3 : a1 = 3
  · refine lv_tableIn (tgt := 70) hx hb dX4_count_3 (by rw [hq3_3]; decide) (by rw [hq3_3]; decide) (off := 67) (by rw [hq3_3]; rfl) (by decide) ?_
    have hf := fg_ifT hf hq3_3
    refine lv_aload_n hx hb dX4_count_70 rfl (lv_at hl 1 rfl) ?_
    refine lv_iconst (v := 4) hx hb dX4_count_71 rfl ?_
    obtain ⟨r9, w7, hc8, hf⟩ := fg_biE hf
    refine fg_ci h (fg_runV (rest := []) S hK h (c_X4_sumOf l D g 4  w r9 w7 hc8) vg_RX4_154 vd_X4_sumOf ⟨by decide, by decide⟩ fg_p4_0 rfl rfl rfl hl.1 rfl (Nat.le_of_ble_eq_true rfl) dX4_count_72 ⟨Nat.zero_le _, Nat.zero_le _⟩) (fun H locs h => ?_)
    exact fg_reti hx hb hr hlk hK h hf dX4_count_75
  have hf := fg_ifF hf hq3_3
  by_cases hq3_4 : a1 = 4
  · refine lv_tableIn (tgt := 76) hx hb dX4_count_3 (by rw [hq3_4]; decide) (by rw [hq3_4]; decide) (off := 73) (by rw [hq3_4]; rfl) (by decide) ?_
    have hf := fg_ifT hf hq3_4
    refine lv_aload_n hx hb dX4_count_76 rfl (lv_at hl 1 rfl) ?_
    refine lv_iconst (v := 3) hx hb dX4_count_77 rfl ?_
    obtain ⟨r12, w10, hc11, hf⟩ := fg_biE hf
    refine fg_ci h (fg_runV (rest := []) S hK h (c_X4_sumOf l D g 3  w r12 w10 hc11) vg_RX4_154 vd_X4_sumOf ⟨by decide, by decide⟩ fg_p4_0 rfl rfl rfl hl.1 rfl (Nat.le_of_ble_eq_true rfl) dX4_count_78 ⟨Nat.zero_le _, Nat.zero_le _⟩) (fun H locs h => ?_)
    exact fg_reti hx hb hr hlk hK h hf dX4_count_81
  have hf := fg_ifF hf hq3_4
  by_cases hq3_5 : a1 = 5
  · refine lv_tableIn (tgt := 82) hx hb dX4_count_3 (by rw [hq3_5]; decide) (by rw [hq3_5]; decide) (off := 79) (by rw [hq3_5]; rfl) (by decide) ?_
    have hf := fg_ifT hf hq3_5
    refine lv_aload_n hx hb dX4_count_82 rfl (lv_at hl 1 rfl) ?_
    refine fg_get (C := RX4) (T := TX4) (N := 22) S vu_X4 hK h fg_p4_0 rfl rfl 9 (by decide) vf_RX4_211 rfl rfl dX4_count_83 ?_
    exact fg_reti hx hb hr hlk hK h hf dX4_count_86
  have hf := fg_ifF hf hq3_5
  by_cases hq3_6 : a1 = 6
  · refine lv_tableIn (tgt := 87) hx hb dX4_count_3 (by rw [hq3_6]; decide) (by rw [hq3_6]; decide) (off := 84) (by rw [hq3_6]; rfl) (by decide) ?_
    have hf := fg_ifT hf hq3_6
    refine lv_aload_n hx hb dX4_count_87 rfl (lv_at hl 1 rfl) ?_
    refine fg_get (C := RX4) (T := TX4) (N := 22) S vu_X4 hK h fg_p4_0 rfl rfl 0 (by decide) vf_RX4_9 rfl rfl dX4_count_88 ?_
    refine lv_iconst (v := 2) hx hb dX4_count_91 rfl ?_
    refine fg_ialdL (j := 2) hx hb hK h fg_p4_1 (fun _ => rfl) (by decide) rfl dX4_count_92 ?_
    exact fg_reti hx hb hr hlk hK h hf dX4_count_93
  have hf := fg_ifF hf hq3_6
  by_cases hq3_7 : a1 = 7
  · refine lv_tableIn (tgt := 94) hx hb dX4_count_3 (by rw [hq3_7]; decide) (by rw [hq3_7]; decide) (off := 91) (by rw [hq3_7]; rfl) (by decide) ?_
    have hf := fg_ifT hf hq3_7
    refine lv_iconst (v := 0) hx hb dX4_count_94 rfl ?_
    refine lv_istore_n (lv' := [(3, .int 0), (2, .int 0), (0, .ref (g.1 4 0 0)), (1, .int a1)]) hx hb dX4_count_95 rfl hl (by decide) rfl (fun ls hl => ?_)
    have hK_96 : ∀ (v2_96 : Int32) (v3_96 : Int32) (w_96 : fg_W) (H : Heap) (locs : List Loc) (ls : Array Slot), fg_H D g s.heap w_96 H locs → lv_has ls 4 [(0, .ref (g.1 4 0 0)), (1, .int a1), (2, .int v2_96), (3, .int v3_96)] → (some (v2_96, w_96)) = some (r, w') → fg_Gi p l e 3 65 s m [.ref (g.1 4 0 0), .int a1] below meth c D g r w' H locs 128 ls [] := by
      intro v2_96 v3_96 w_96 H locs ls h hl hf
      refine lv_iload_n hx hb dX4_count_128 rfl (lv_at hl 2 rfl) ?_
      exact fg_reti hx hb hr hlk hK h hf dX4_count_129
    have hL_96 : ∀ (KK_96 : Int32 → Int32 → fg_W → Option (Int32 × fg_W)) (hK_96 : ∀ (v2_96 : Int32) (v3_96 : Int32) (w_96 : fg_W) (H : Heap) (locs : List Loc) (ls : Array Slot), fg_H D g s.heap w_96 H locs → lv_has ls 4 [(0, .ref (g.1 4 0 0)), (1, .int a1), (2, .int v2_96), (3, .int v3_96)] → KK_96 v2_96 v3_96 w_96 = some (r, w') → fg_Gi p l e 3 65 s m [.ref (g.1 4 0 0), .int a1] below meth c D g r w' H locs 128 ls []) (n : Nat) (v2_96 : Int32) (v3_96 : Int32) (w_96 : fg_W) (H : Heap) (locs : List Loc) (ls : Array Slot), fg_H D g s.heap w_96 H locs → lv_has ls 4 [(0, .ref (g.1 4 0 0)), (1, .int a1), (2, .int v2_96), (3, .int v3_96)] → f_X4_count_L96  KK_96 n v2_96 v3_96 w_96 = some (r, w') → fg_Gi p l e 3 65 s m [.ref (g.1 4 0 0), .int a1] below meth c D g r w' H locs 96 ls [] := by
      intro KK_96 hK_96 n
      induction n with
      | zero => intro v2_96 v3_96 w_96 H locs ls h hl hf; exact fg_no hf
      | succ n_96 ih_96 =>
        intro v2_96 v3_96 w_96 H locs ls h hl hf
        unfold f_X4_count_L96 at hf
        refine lv_iload_n hx hb dX4_count_96 rfl (lv_at hl 3 rfl) ?_
        refine lv_bipush (v := 10) hx hb dX4_count_97 rfl ?_
        refine lv_icmp_ge (tgt := 128) hx hb dX4_count_99 (by decide) (fun hc => ?_) (fun hc => ?_)
        · have hf := fg_ifT hf hc
          exact hK_96 v2_96 v3_96 w_96 _ _ ls h (lv_sub hl [0, 1, 2, 3] rfl) hf
        · have hf := fg_ifF hf hc
          refine lv_iload_n hx hb dX4_count_102 rfl (lv_at hl 2 rfl) ?_
          refine lv_aload_n hx hb dX4_count_103 rfl (lv_at hl 0 rfl) ?_
          refine fg_get (C := RX4) (T := TX4) (N := 22) S vu_X4 hK h fg_p4_0 rfl rfl 0 (by decide) vf_RX4_9 rfl rfl dX4_count_104 ?_
          refine lv_bipush (v := 80) hx hb dX4_count_107 rfl ?_
          refine lv_iload_n hx hb dX4_count_109 rfl (lv_at hl 3 rfl) ?_
          refine lv_iadd hx hb dX4_count_110 ?_
          obtain ⟨hn16, hf⟩ := fg_gdE hf
          refine fg_iald hx hb hK h fg_p4_1 (fun _ => rfl) hn16 dX4_count_111 ?_
          refine lv_if_lt (tgt := 119) hx hb dX4_count_112 (by decide) (fun hc => ?_) (fun hc => ?_)
          · have hf := fg_ifT hf hc
            refine lv_iconst (v := 0) hx hb dX4_count_119 rfl ?_
            refine lv_iadd hx hb dX4_count_120 ?_
            refine lv_topi (fun x17 e_x17 => ?_)
            have hf := fg_letE e_x17 hf
            refine lv_istore_n (lv' := [(2, .int x17), (0, .ref (g.1 4 0 0)), (1, .int a1), (3, .int v3_96)]) hx hb dX4_count_121 rfl hl (by decide) rfl (fun ls hl => ?_)
            refine lv_iinc (v := (v3_96 + 1)) (lv' := [(3, .int (v3_96 + 1)), (2, .int x17), (0, .ref (g.1 4 0 0)), (1, .int a1)]) hx hb dX4_count_122 hl (k := 3) rfl rfl (by decide) rfl (fun ls hl => ?_)
            refine lv_goto (tgt := 96) hx hb dX4_count_125 (by decide) ?_
            exact ih_96 x17 (v3_96 + 1) w_96 _ _ ls h (lv_sub hl [2, 3, 1, 0] rfl) hf
          · have hf := fg_ifF hf hc
            refine lv_iconst (v := 1) hx hb dX4_count_115 rfl ?_
            refine lv_goto (tgt := 120) hx hb dX4_count_116 (by decide) ?_
            refine lv_iadd hx hb dX4_count_120 ?_
            refine lv_topi (fun x18 e_x18 => ?_)
            have hf := fg_letE e_x18 hf
            refine lv_istore_n (lv' := [(2, .int x18), (0, .ref (g.1 4 0 0)), (1, .int a1), (3, .int v3_96)]) hx hb dX4_count_121 rfl hl (by decide) rfl (fun ls hl => ?_)
            refine lv_iinc (v := (v3_96 + 1)) (lv' := [(3, .int (v3_96 + 1)), (2, .int x18), (0, .ref (g.1 4 0 0)), (1, .int a1)]) hx hb dX4_count_122 hl (k := 3) rfl rfl (by decide) rfl (fun ls hl => ?_)
            refine lv_goto (tgt := 96) hx hb dX4_count_125 (by decide) ?_
            exact ih_96 x18 (v3_96 + 1) w_96 _ _ ls h (lv_sub hl [2, 3, 1, 0] rfl) hf
    exact hL_96 _ hK_96 fg_fuel 0 0 w _ _ ls h (lv_sub hl [2, 3, 1, 0] rfl) hf
  have hf := fg_ifF hf hq3_7
  refine lv_tableOut (tgt := 130) hx hb dX4_count_3 (by have := lv_neT hq3_0 (show (0 : Int32).toInt = 0 from rfl); have := lv_neT hq3_1 (show (1 : Int32).toInt = 1 from rfl); have := lv_neT hq3_2 (show (2 : Int32).toInt = 2 from rfl); have := lv_neT hq3_3 (show (3 : Int32).toInt = 3 from rfl); have := lv_neT hq3_4 (show (4 : Int32).toInt = 4 from rfl); have := lv_neT hq3_5 (show (5 : Int32).toInt = 5 from rfl); have := lv_neT hq3_6 (show (6 : Int32).toInt = 6 from rfl); have := lv_neT hq3_7 (show (7 : Int32).toInt = 7 from rfl); omega) (by decide) ?_
  refine lv_aload_n hx hb dX4_count_130 rfl (lv_at hl 1 rfl) ?_
  refine lv_iconst (v := 0) hx hb dX4_count_131 rfl ?_
  obtain ⟨r21, w19, hc20, hf⟩ := fg_biE hf
  refine fg_ci h (fg_runV (rest := []) S hK h (c_X4_no l D g 0  w r21 w19 hc20) vg_RX4_129 vd_X4_no ⟨by decide, by decide⟩ fg_p4_0 rfl rfl rfl hl.1 rfl (Nat.le_of_ble_eq_true rfl) dX4_count_132 ⟨Nat.zero_le _, Nat.zero_le _⟩) (fun H locs h => ?_)
  exact fg_reti hx hb hr hlk hK h hf dX4_count_135
set_option maxHeartbeats 4000000 in
set_option maxRecDepth 100000 in
theorem c_X4_status (l : Launch) (D : va_G) (g : fg_G) (a1 : Int32) (w : fg_W) (r : Int32) (w' : fg_W) (hf : f_X4_status a1 w = some (r, w')) : fg_M l yX4_status cX4_status 4 (some .int) 1 22 D g [.ref (g.1 4 0 0), .int a1] w (fg_Qi D g r w') := by
  refine fg_M.of rfl (Nat.le_of_ble_eq_true rfl) (fun p e s m below meth c ls S hr hlk hK h hl => ?_)
  have hx := S.1
  have hb := S.2.1
  have hl : lv_has ls 4 [(0, .ref (g.1 4 0 0)), (1, .int a1)] := hl
  unfold f_X4_status at hf
  refine lv_iload_n hx hb dX4_status_0 rfl (lv_at hl 1 rfl) ?_
  refine lv_iconst (v := (-1)) hx hb dX4_status_1 rfl ?_
  refine lv_bipush (v := 6) hx hb dX4_status_2 rfl ?_
  obtain ⟨r3, w1, hc2, hf⟩ := fg_biE hf
  refine fg_ci h (fg_runS (rest := []) S hK h (c_X4_in1 l D g a1 (-1) 6  w r3 w1 hc2) vk_X4_in1 vm_RX4_61 vs_X4_in1 vi_RX4 vd_X4_in1.2 ⟨by decide, by decide⟩ rfl hl.1 rfl (Nat.le_of_ble_eq_true rfl) dX4_status_4 ⟨Nat.zero_le _, Nat.zero_le _⟩) (fun H locs h => ?_)
  refine lv_if_ne (tgt := 16) hx hb dX4_status_7 (by decide) (fun hc => ?_) (fun hc => ?_)
  · have hf := fg_ifF hf hc
    refine lv_iconst (v := 0) hx hb dX4_status_16 rfl ?_
    refine lv_istore_n (lv' := [(2, .int 0), (0, .ref (g.1 4 0 0)), (1, .int a1)]) hx hb dX4_status_17 rfl hl (by decide) rfl (fun ls hl => ?_)
    refine lv_iconst (v := 0) hx hb dX4_status_18 rfl ?_
    refine lv_istore_n (lv' := [(3, .int 0), (2, .int 0), (0, .ref (g.1 4 0 0)), (1, .int a1)]) hx hb dX4_status_19 rfl hl (by decide) rfl (fun ls hl => ?_)
    have hK_20 : ∀ (v2_20 : Int32) (v3_20 : Int32) (w_20 : fg_W) (H : Heap) (locs : List Loc) (ls : Array Slot), fg_H D g s.heap w_20 H locs → lv_has ls 4 [(0, .ref (g.1 4 0 0)), (1, .int a1), (2, .int v2_20), (3, .int v3_20)] → (some (v2_20, w_20)) = some (r, w') → fg_Gi p l e 1 22 s m [.ref (g.1 4 0 0), .int a1] below meth c D g r w' H locs 55 ls [] := by
      intro v2_20 v3_20 w_20 H locs ls h hl hf
      refine lv_iload_n hx hb dX4_status_55 rfl (lv_at hl 2 rfl) ?_
      exact fg_reti hx hb hr hlk hK h hf dX4_status_56
    have hL_20 : ∀ (KK_20 : Int32 → Int32 → fg_W → Option (Int32 × fg_W)) (hK_20 : ∀ (v2_20 : Int32) (v3_20 : Int32) (w_20 : fg_W) (H : Heap) (locs : List Loc) (ls : Array Slot), fg_H D g s.heap w_20 H locs → lv_has ls 4 [(0, .ref (g.1 4 0 0)), (1, .int a1), (2, .int v2_20), (3, .int v3_20)] → KK_20 v2_20 v3_20 w_20 = some (r, w') → fg_Gi p l e 1 22 s m [.ref (g.1 4 0 0), .int a1] below meth c D g r w' H locs 55 ls []) (n : Nat) (v2_20 : Int32) (v3_20 : Int32) (w_20 : fg_W) (H : Heap) (locs : List Loc) (ls : Array Slot), fg_H D g s.heap w_20 H locs → lv_has ls 4 [(0, .ref (g.1 4 0 0)), (1, .int a1), (2, .int v2_20), (3, .int v3_20)] → f_X4_status_L20 a1 KK_20 n v2_20 v3_20 w_20 = some (r, w') → fg_Gi p l e 1 22 s m [.ref (g.1 4 0 0), .int a1] below meth c D g r w' H locs 20 ls [] := by
      intro KK_20 hK_20 n
      induction n with
      | zero => intro v2_20 v3_20 w_20 H locs ls h hl hf; exact fg_no hf
      | succ n_20 ih_20 =>
        intro v2_20 v3_20 w_20 H locs ls h hl hf
        unfold f_X4_status_L20 at hf
        refine lv_iload_n hx hb dX4_status_20 rfl (lv_at hl 3 rfl) ?_
        refine lv_bipush (v := 7) hx hb dX4_status_21 rfl ?_
        refine lv_icmp_ge (tgt := 55) hx hb dX4_status_23 (by decide) (fun hc => ?_) (fun hc => ?_)
        · have hf := fg_ifT hf hc
          exact hK_20 v2_20 v3_20 w_20 _ _ ls h (lv_sub hl [0, 1, 2, 3] rfl) hf
        · have hf := fg_ifF hf hc
          refine lv_iload_n hx hb dX4_status_26 rfl (lv_at hl 2 rfl) ?_
          refine lv_iload_n hx hb dX4_status_27 rfl (lv_at hl 1 rfl) ?_
          refine lv_iconst (v := (-1)) hx hb dX4_status_28 rfl ?_
          refine lv_icmp_eq (tgt := 37) hx hb dX4_status_29 (by decide) (fun hc => ?_) (fun hc => ?_)
          · have hf := fg_ifT hf hc
            refine lv_aload_n hx hb dX4_status_37 rfl (lv_at hl 0 rfl) ?_
            refine fg_get (C := RX4) (T := TX4) (N := 22) S vu_X4 hK h fg_p4_0 rfl rfl 4 (by decide) vf_RX4_19 rfl rfl dX4_status_38 ?_
            refine lv_iload_n hx hb dX4_status_41 rfl (lv_at hl 3 rfl) ?_
            obtain ⟨hn9, hf⟩ := fg_gdE hf
            refine fg_iald hx hb hK h fg_p4_4 (fun _ => rfl) hn9 dX4_status_42 ?_
            refine lv_goto (tgt := 47) hx hb dX4_status_43 (by decide) ?_
            refine lv_iadd hx hb dX4_status_47 ?_
            refine lv_topi (fun x10 e_x10 => ?_)
            have hf := fg_letE e_x10 hf
            refine lv_istore_n (lv' := [(2, .int x10), (0, .ref (g.1 4 0 0)), (1, .int a1), (3, .int v3_20)]) hx hb dX4_status_48 rfl hl (by decide) rfl (fun ls hl => ?_)
            refine lv_iinc (v := (v3_20 + 1)) (lv' := [(3, .int (v3_20 + 1)), (2, .int x10), (0, .ref (g.1 4 0 0)), (1, .int a1)]) hx hb dX4_status_49 hl (k := 3) rfl rfl (by decide) rfl (fun ls hl => ?_)
            refine lv_goto (tgt := 20) hx hb dX4_status_52 (by decide) ?_
            exact ih_20 x10 (v3_20 + 1) w_20 _ _ ls h (lv_sub hl [2, 3, 1, 0] rfl) hf
          · have hf := fg_ifF hf hc
            refine lv_iload_n hx hb dX4_status_32 rfl (lv_at hl 1 rfl) ?_
            refine lv_iload_n hx hb dX4_status_33 rfl (lv_at hl 3 rfl) ?_
            refine lv_icmp_ne (tgt := 46) hx hb dX4_status_34 (by decide) (fun hc => ?_) (fun hc => ?_)
            · have hf := fg_ifF hf hc
              refine lv_iconst (v := 0) hx hb dX4_status_46 rfl ?_
              refine lv_iadd hx hb dX4_status_47 ?_
              refine lv_topi (fun x11 e_x11 => ?_)
              have hf := fg_letE e_x11 hf
              refine lv_istore_n (lv' := [(2, .int x11), (0, .ref (g.1 4 0 0)), (1, .int a1), (3, .int v3_20)]) hx hb dX4_status_48 rfl hl (by decide) rfl (fun ls hl => ?_)
              refine lv_iinc (v := (v3_20 + 1)) (lv' := [(3, .int (v3_20 + 1)), (2, .int x11), (0, .ref (g.1 4 0 0)), (1, .int a1)]) hx hb dX4_status_49 hl (k := 3) rfl rfl (by decide) rfl (fun ls hl => ?_)
              refine lv_goto (tgt := 20) hx hb dX4_status_52 (by decide) ?_
              exact ih_20 x11 (v3_20 + 1) w_20 _ _ ls h (lv_sub hl [2, 3, 1, 0] rfl) hf
            · have hf := fg_ifT hf hc
              refine lv_aload_n hx hb dX4_status_37 rfl (lv_at hl 0 rfl) ?_
              refine fg_get (C := RX4) (T := TX4) (N := 22) S vu_X4 hK h fg_p4_0 rfl rfl 4 (by decide) vf_RX4_19 rfl rfl dX4_status_38 ?_
              refine lv_iload_n hx hb dX4_status_41 rfl (lv_at hl 3 rfl) ?_
              obtain ⟨hn12, hf⟩ := fg_gdE hf
              refine fg_iald hx hb hK h fg_p4_4 (fun _ => rfl) hn12 dX4_status_42 ?_
              refine lv_goto (tgt := 47) hx hb dX4_status_43 (by decide) ?_
              refine lv_iadd hx hb dX4_status_47 ?_
              refine lv_topi (fun x13 e_x13 => ?_)
              have hf := fg_letE e_x13 hf
              refine lv_istore_n (lv' := [(2, .int x13), (0, .ref (g.1 4 0 0)), (1, .int a1), (3, .int v3_20)]) hx hb dX4_status_48 rfl hl (by decide) rfl (fun ls hl => ?_)
              refine lv_iinc (v := (v3_20 + 1)) (lv' := [(3, .int (v3_20 + 1)), (2, .int x13), (0, .ref (g.1 4 0 0)), (1, .int a1)]) hx hb dX4_status_49 hl (k := 3) rfl rfl (by decide) rfl (fun ls hl => ?_)
              refine lv_goto (tgt := 20) hx hb dX4_status_52 (by decide) ?_
              exact ih_20 x13 (v3_20 + 1) w_20 _ _ ls h (lv_sub hl [2, 3, 1, 0] rfl) hf
    exact hL_20 _ hK_20 fg_fuel 0 0 w1 _ _ ls h (lv_sub hl [2, 3, 1, 0] rfl) hf
  · have hf := fg_ifT hf hc
    refine lv_aload_n hx hb dX4_status_10 rfl (lv_at hl 0 rfl) ?_
    refine lv_iconst (v := 0) hx hb dX4_status_11 rfl ?_
    obtain ⟨r16, w14, hc15, hf⟩ := fg_biE hf
    refine fg_ci h (fg_runV (rest := []) S hK h (c_X4_no l D g 0  w1 r16 w14 hc15) vg_RX4_129 vd_X4_no ⟨by decide, by decide⟩ fg_p4_0 rfl rfl rfl hl.1 rfl (Nat.le_of_ble_eq_true rfl) dX4_status_12 ⟨Nat.zero_le _, Nat.zero_le _⟩) (fun H locs h => ?_)
    exact fg_reti hx hb hr hlk hK h hf dX4_status_15
