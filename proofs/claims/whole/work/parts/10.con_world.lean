set_option maxHeartbeats 4000000 in
set_option maxRecDepth 100000 in
theorem c_X2_isPerson (l : Launch) (D : va_G) (g : fg_G) (i : Nat) (a1 : Int32) (hi : i < 3) (w : fg_W) (r : Int32) (w' : fg_W) (hf : f_X2_isPerson i a1 w = some (r, w')) : fg_M l yX2_isPerson cX2_isPerson 2 (some .boolean) 0 0 D g [.ref (g.1 2 i 0), .int a1] w (fg_Qi D g r w') := by
  refine fg_M.of rfl (Nat.le_of_ble_eq_true rfl) (fun p e s m below meth c ls S hr hlk hK h hl => ?_)
  have hx := S.1
  have hb := S.2.1
  have hl : lv_has ls 2 [(0, .ref (g.1 2 i 0)), (1, .int a1)] := hl
  unfold f_X2_isPerson at hf
  refine lv_iload_n hx hb dX2_isPerson_0 rfl (lv_at hl 1 rfl) ?_
  refine lv_if_lt (tgt := 16) hx hb dX2_isPerson_1 (by decide) (fun hc => ?_) (fun hc => ?_)
  · have hf := fg_ifT hf hc
    refine lv_iconst (v := 0) hx hb dX2_isPerson_16 rfl ?_
    exact fg_retz hx hb hr hlk hK h hf (by decide) dX2_isPerson_17
  · have hf := fg_ifF hf hc
    refine lv_iload_n hx hb dX2_isPerson_4 rfl (lv_at hl 1 rfl) ?_
    refine lv_aload_n hx hb dX2_isPerson_5 rfl (lv_at hl 0 rfl) ?_
    refine fg_get (C := RX2) (T := TX2) (N := 16) S vu_X2 hK h (fg_p2_0 hi) rfl rfl 5 (by decide) vf_RX2_28 rfl rfl dX2_isPerson_6 ?_
    refine lv_icmp_ge (tgt := 16) hx hb dX2_isPerson_9 (by decide) (fun hc => ?_) (fun hc => ?_)
    · have hf := fg_ifT hf hc
      refine lv_iconst (v := 0) hx hb dX2_isPerson_16 rfl ?_
      exact fg_retz hx hb hr hlk hK h hf (by decide) dX2_isPerson_17
    · have hf := fg_ifF hf hc
      refine lv_iconst (v := 1) hx hb dX2_isPerson_12 rfl ?_
      refine lv_goto (tgt := 17) hx hb dX2_isPerson_13 (by decide) ?_
      exact fg_retz hx hb hr hlk hK h hf (by decide) dX2_isPerson_17
set_option maxHeartbeats 4000000 in
set_option maxRecDepth 100000 in
theorem c_X2_thoseOn (l : Launch) (D : va_G) (g : fg_G) (i : Nat) (a1 : Int32) (hi : i < 3) (w : fg_W) (r : Int32) (w' : fg_W) (hf : f_X2_thoseOn i a1 w = some (r, w')) : fg_M l yX2_thoseOn cX2_thoseOn 4 (some .int) 0 0 D g [.ref (g.1 2 i 0), .int a1] w (fg_Qi D g r w') := by
  refine fg_M.of rfl (Nat.le_of_ble_eq_true rfl) (fun p e s m below meth c ls S hr hlk hK h hl => ?_)
  have hx := S.1
  have hb := S.2.1
  have hl : lv_has ls 4 [(0, .ref (g.1 2 i 0)), (1, .int a1)] := hl
  unfold f_X2_thoseOn at hf
  refine lv_iconst (v := 0) hx hb dX2_thoseOn_0 rfl ?_
  refine lv_istore_n (lv' := [(2, .int 0), (0, .ref (g.1 2 i 0)), (1, .int a1)]) hx hb dX2_thoseOn_1 rfl hl (by decide) rfl (fun ls hl => ?_)
  refine lv_iconst (v := 0) hx hb dX2_thoseOn_2 rfl ?_
  refine lv_istore_n (lv' := [(3, .int 0), (2, .int 0), (0, .ref (g.1 2 i 0)), (1, .int a1)]) hx hb dX2_thoseOn_3 rfl hl (by decide) rfl (fun ls hl => ?_)
  have hK_4 : ∀ (v2_4 : Int32) (v3_4 : Int32) (w_4 : fg_W) (H : Heap) (locs : List Loc) (ls : Array Slot), fg_H D g s.heap w_4 H locs → lv_has ls 4 [(0, .ref (g.1 2 i 0)), (1, .int a1), (2, .int v2_4), (3, .int v3_4)] → (some (v2_4, w_4)) = some (r, w') → fg_Gi p l e 0 0 s m [.ref (g.1 2 i 0), .int a1] below meth c D g r w' H locs 34 ls [] := by
    intro v2_4 v3_4 w_4 H locs ls h hl hf
    refine lv_iload_n hx hb dX2_thoseOn_34 rfl (lv_at hl 2 rfl) ?_
    exact fg_reti hx hb hr hlk hK h hf dX2_thoseOn_35
  have hL_4 : ∀ (KK_4 : Int32 → Int32 → fg_W → Option (Int32 × fg_W)) (hK_4 : ∀ (v2_4 : Int32) (v3_4 : Int32) (w_4 : fg_W) (H : Heap) (locs : List Loc) (ls : Array Slot), fg_H D g s.heap w_4 H locs → lv_has ls 4 [(0, .ref (g.1 2 i 0)), (1, .int a1), (2, .int v2_4), (3, .int v3_4)] → KK_4 v2_4 v3_4 w_4 = some (r, w') → fg_Gi p l e 0 0 s m [.ref (g.1 2 i 0), .int a1] below meth c D g r w' H locs 34 ls []) (n : Nat) (v2_4 : Int32) (v3_4 : Int32) (w_4 : fg_W) (H : Heap) (locs : List Loc) (ls : Array Slot), fg_H D g s.heap w_4 H locs → lv_has ls 4 [(0, .ref (g.1 2 i 0)), (1, .int a1), (2, .int v2_4), (3, .int v3_4)] → f_X2_thoseOn_L4 i a1 KK_4 n v2_4 v3_4 w_4 = some (r, w') → fg_Gi p l e 0 0 s m [.ref (g.1 2 i 0), .int a1] below meth c D g r w' H locs 4 ls [] := by
    intro KK_4 hK_4 n
    induction n with
    | zero => intro v2_4 v3_4 w_4 H locs ls h hl hf; exact fg_no hf
    | succ n_4 ih_4 =>
      intro v2_4 v3_4 w_4 H locs ls h hl hf
      unfold f_X2_thoseOn_L4 at hf
      refine lv_iload_n hx hb dX2_thoseOn_4 rfl (lv_at hl 3 rfl) ?_
      refine lv_aload_n hx hb dX2_thoseOn_5 rfl (lv_at hl 0 rfl) ?_
      refine fg_get (C := RX2) (T := TX2) (N := 16) S vu_X2 hK h (fg_p2_0 hi) rfl rfl 5 (by decide) vf_RX2_28 rfl rfl dX2_thoseOn_6 ?_
      refine lv_icmp_ge (tgt := 34) hx hb dX2_thoseOn_9 (by decide) (fun hc => ?_) (fun hc => ?_)
      · have hf := fg_ifT hf hc
        exact hK_4 v2_4 v3_4 w_4 _ _ ls h (lv_sub hl [0, 1, 2, 3] rfl) hf
      · have hf := fg_ifF hf hc
        refine lv_aload_n hx hb dX2_thoseOn_12 rfl (lv_at hl 0 rfl) ?_
        refine fg_get (C := RX2) (T := TX2) (N := 16) S vu_X2 hK h (fg_p2_0 hi) rfl rfl 7 (by decide) vf_RX2_34 rfl rfl dX2_thoseOn_13 ?_
        refine lv_iload_n hx hb dX2_thoseOn_16 rfl (lv_at hl 3 rfl) ?_
        obtain ⟨hn3, hf⟩ := fg_gdE hf
        refine fg_iald hx hb hK h (fg_p2_6 hi) (fun _ => rfl) hn3 dX2_thoseOn_17 ?_
        refine lv_iload_n hx hb dX2_thoseOn_18 rfl (lv_at hl 1 rfl) ?_
        refine lv_icmp_ne (tgt := 28) hx hb dX2_thoseOn_19 (by decide) (fun hc => ?_) (fun hc => ?_)
        · have hf := fg_ifF hf hc
          refine lv_iinc (v := (v3_4 + 1)) (lv' := [(3, .int (v3_4 + 1)), (0, .ref (g.1 2 i 0)), (1, .int a1), (2, .int v2_4)]) hx hb dX2_thoseOn_28 hl (k := 3) rfl rfl (by decide) rfl (fun ls hl => ?_)
          refine lv_goto (tgt := 4) hx hb dX2_thoseOn_31 (by decide) ?_
          exact ih_4 v2_4 (v3_4 + 1) w_4 _ _ ls h (lv_sub hl [1, 2, 3, 0] rfl) hf
        · have hf := fg_ifT hf hc
          refine lv_iload_n hx hb dX2_thoseOn_22 rfl (lv_at hl 2 rfl) ?_
          refine lv_iconst (v := 1) hx hb dX2_thoseOn_23 rfl ?_
          refine lv_iload_n hx hb dX2_thoseOn_24 rfl (lv_at hl 3 rfl) ?_
          refine lv_ishl hx hb dX2_thoseOn_25 ?_
          refine lv_ior hx hb dX2_thoseOn_26 ?_
          refine lv_topi (fun x4 e_x4 => ?_)
          have hf := fg_letE e_x4 hf
          refine lv_istore_n (lv' := [(2, .int x4), (0, .ref (g.1 2 i 0)), (1, .int a1), (3, .int v3_4)]) hx hb dX2_thoseOn_27 rfl hl (by decide) rfl (fun ls hl => ?_)
          refine lv_iinc (v := (v3_4 + 1)) (lv' := [(3, .int (v3_4 + 1)), (2, .int x4), (0, .ref (g.1 2 i 0)), (1, .int a1)]) hx hb dX2_thoseOn_28 hl (k := 3) rfl rfl (by decide) rfl (fun ls hl => ?_)
          refine lv_goto (tgt := 4) hx hb dX2_thoseOn_31 (by decide) ?_
          exact ih_4 x4 (v3_4 + 1) w_4 _ _ ls h (lv_sub hl [2, 3, 1, 0] rfl) hf
  exact hL_4 _ hK_4 fg_fuel 0 0 w _ _ ls h (lv_sub hl [2, 3, 1, 0] rfl) hf
set_option maxHeartbeats 4000000 in
set_option maxRecDepth 100000 in
theorem c_X2_trustOf (l : Launch) (D : va_G) (g : fg_G) (i : Nat) (a1 : Int32) (a2 : Int32) (hi : i < 3) (w : fg_W) (r : Int32) (w' : fg_W) (hf : f_X2_trustOf i a1 a2 w = some (r, w')) : fg_M l yX2_trustOf cX2_trustOf 7 (some .int) 0 0 D g [.ref (g.1 2 i 0), .int a1, .int a2] w (fg_Qi D g r w') := by
  refine fg_M.of rfl (Nat.le_of_ble_eq_true rfl) (fun p e s m below meth c ls S hr hlk hK h hl => ?_)
  have hx := S.1
  have hb := S.2.1
  have hl : lv_has ls 7 [(0, .ref (g.1 2 i 0)), (1, .int a1), (2, .int a2)] := hl
  unfold f_X2_trustOf at hf
  refine lv_aload_n hx hb dX2_trustOf_0 rfl (lv_at hl 0 rfl) ?_
  refine fg_get (C := RX2) (T := TX2) (N := 16) S vu_X2 hK h (fg_p2_0 hi) rfl rfl 8 (by decide) vf_RX2_37 rfl rfl dX2_trustOf_1 ?_
  refine lv_iload_n hx hb dX2_trustOf_4 rfl (lv_at hl 1 rfl) ?_
  obtain ⟨hn1, hf⟩ := fg_gdE hf
  refine fg_iald hx hb hK h (fg_p2_7 hi) (fun _ => rfl) hn1 dX2_trustOf_5 ?_
  refine lv_iconst (v := 2) hx hb dX2_trustOf_6 rfl ?_
  refine lv_idiv hx hb dX2_trustOf_7 (by decide) ?_
  refine lv_topi (fun x2 e_x2 => ?_)
  have hf := fg_letE e_x2 hf
  refine lv_istore_n (lv' := [(3, .int x2), (0, .ref (g.1 2 i 0)), (1, .int a1), (2, .int a2)]) hx hb dX2_trustOf_8 rfl hl (by decide) rfl (fun ls hl => ?_)
  refine lv_iload_n hx hb dX2_trustOf_9 rfl (lv_at hl 0 rfl) ?_
  refine lv_bipush (v := 10) hx hb dX2_trustOf_10 rfl ?_
  refine lv_icmp_le (tgt := 22) hx hb dX2_trustOf_12 (by decide) (fun hc => ?_) (fun hc => ?_)
  · have hf := fg_ifT hf hc
    refine lv_iconst (v := 0) hx hb dX2_trustOf_22 rfl ?_
    refine lv_istore (lv' := [(4, .int 0), (3, .int x2), (0, .ref (g.1 2 i 0)), (1, .int a1), (2, .int a2)]) hx hb dX2_trustOf_23 hl (by decide) rfl (fun ls hl => ?_)
    refine lv_aload_n hx hb dX2_trustOf_25 rfl (lv_at hl 2 rfl) ?_
    refine fg_get (C := RX2) (T := TX2) (N := 16) S vu_X2 hK h (fg_p2_0 hi) rfl rfl 6 (by decide) vf_RX2_31 rfl rfl dX2_trustOf_26 ?_
    refine lv_iload_n hx hb dX2_trustOf_29 rfl (lv_at hl 3 rfl) ?_
    obtain ⟨hn3, hf⟩ := fg_gdE hf
    refine fg_iald hx hb hK h (fg_p2_5 hi) (fun _ => rfl) hn3 dX2_trustOf_30 ?_
    by_cases hq31_1 : (w.1 2 i 5 a1.toNatClampNeg) = 1
    · refine lv_tableIn (tgt := 68) hx hb dX2_trustOf_31 (by rw [hq31_1]; decide) (by rw [hq31_1]; decide) (off := 37) (by rw [hq31_1]; rfl) (by decide) ?_
      have hf := fg_ifT hf hq31_1
      refine lv_iload_n hx hb dX2_trustOf_68 rfl (lv_at hl 1 rfl) ?_
      refine lv_bipush (v := 20) hx hb dX2_trustOf_69 rfl ?_
      refine lv_iadd hx hb dX2_trustOf_71 ?_
      exact fg_reti hx hb hr hlk hK h hf dX2_trustOf_72
    have hf := fg_ifF hf hq31_1
    by_cases hq31_2 : (w.1 2 i 5 a1.toNatClampNeg) = 2
    · refine lv_tableIn (tgt := 73) hx hb dX2_trustOf_31 (by rw [hq31_2]; decide) (by rw [hq31_2]; decide) (off := 42) (by rw [hq31_2]; rfl) (by decide) ?_
      have hf := fg_ifT hf hq31_2
      refine lv_iload hx hb dX2_trustOf_73 (lv_at hl 0 rfl) ?_
      exact fg_reti hx hb hr hlk hK h hf dX2_trustOf_75
    have hf := fg_ifF hf hq31_2
    by_cases hq31_3 : (w.1 2 i 5 a1.toNatClampNeg) = 3
    · refine lv_tableIn (tgt := 76) hx hb dX2_trustOf_31 (by rw [hq31_3]; decide) (by rw [hq31_3]; decide) (off := 45) (by rw [hq31_3]; rfl) (by decide) ?_
      have hf := fg_ifT hf hq31_3
      refine lv_aload_n hx hb dX2_trustOf_76 rfl (lv_at hl 2 rfl) ?_
      refine fg_get (C := RX2) (T := TX2) (N := 16) S vu_X2 hK h (fg_p2_0 hi) rfl rfl 2 (by decide) vf_RX2_18 rfl rfl dX2_trustOf_77 ?_
      refine lv_iload_n hx hb dX2_trustOf_80 rfl (lv_at hl 4 rfl) ?_
      obtain ⟨hn4, hf⟩ := fg_gdE hf
      refine fg_iald hx hb hK h (fg_p2_3 hi) (fun _ => rfl) hn4 dX2_trustOf_81 ?_
      refine lv_iload_n hx hb dX2_trustOf_82 rfl (lv_at hl 3 rfl) ?_
      refine lv_icmp_ne (tgt := 94) hx hb dX2_trustOf_83 (by decide) (fun hc => ?_) (fun hc => ?_)
      · have hf := fg_ifF hf hc
        refine lv_iload hx hb dX2_trustOf_94 (lv_at hl 0 rfl) ?_
        exact fg_reti hx hb hr hlk hK h hf dX2_trustOf_96
      · have hf := fg_ifT hf hc
        refine lv_iload hx hb dX2_trustOf_86 (lv_at hl 0 rfl) ?_
        refine lv_bipush (v := 30) hx hb dX2_trustOf_88 rfl ?_
        refine lv_iadd hx hb dX2_trustOf_90 ?_
        refine lv_goto (tgt := 96) hx hb dX2_trustOf_91 (by decide) ?_
        exact fg_reti hx hb hr hlk hK h hf dX2_trustOf_96
    have hf := fg_ifF hf hq31_3
    by_cases hq31_4 : (w.1 2 i 5 a1.toNatClampNeg) = 4
    · refine lv_tableIn (tgt := 97) hx hb dX2_trustOf_31 (by rw [hq31_4]; decide) (by rw [hq31_4]; decide) (off := 66) (by rw [hq31_4]; rfl) (by decide) ?_
      have hf := fg_ifT hf hq31_4
      refine lv_bipush (v := 60) hx hb dX2_trustOf_97 rfl ?_
      exact fg_reti hx hb hr hlk hK h hf dX2_trustOf_99
    have hf := fg_ifF hf hq31_4
    by_cases hq31_5 : (w.1 2 i 5 a1.toNatClampNeg) = 5
    · refine lv_tableIn (tgt := 100) hx hb dX2_trustOf_31 (by rw [hq31_5]; decide) (by rw [hq31_5]; decide) (off := 69) (by rw [hq31_5]; rfl) (by decide) ?_
      have hf := fg_ifT hf hq31_5
      refine lv_iconst (v := 0) hx hb dX2_trustOf_100 rfl ?_
      exact fg_reti hx hb hr hlk hK h hf dX2_trustOf_101
    have hf := fg_ifF hf hq31_5
    by_cases hq31_6 : (w.1 2 i 5 a1.toNatClampNeg) = 6
    · refine lv_tableIn (tgt := 102) hx hb dX2_trustOf_31 (by rw [hq31_6]; decide) (by rw [hq31_6]; decide) (off := 71) (by rw [hq31_6]; rfl) (by decide) ?_
      have hf := fg_ifT hf hq31_6
      refine lv_iconst (v := 0) hx hb dX2_trustOf_102 rfl ?_
      refine lv_istore (lv' := [(5, .int 0), (4, .int 0), (3, .int x2), (0, .ref (g.1 2 i 0)), (1, .int a1), (2, .int a2)]) hx hb dX2_trustOf_103 hl (by decide) rfl (fun ls hl => ?_)
      refine lv_iconst (v := 0) hx hb dX2_trustOf_105 rfl ?_
      refine lv_istore (lv' := [(6, .int 0), (5, .int 0), (4, .int 0), (3, .int x2), (0, .ref (g.1 2 i 0)), (1, .int a1), (2, .int a2)]) hx hb dX2_trustOf_106 hl (by decide) rfl (fun ls hl => ?_)
      have hK_108 : ∀ (v5_108 : Int32) (v6_108 : Int32) (w_108 : fg_W) (H : Heap) (locs : List Loc) (ls : Array Slot), fg_H D g s.heap w_108 H locs → lv_has ls 7 [(0, .ref (g.1 2 i 0)), (1, .int a1), (2, .int a2), (3, .int x2), (4, .int 0), (5, .int v5_108), (6, .int v6_108)] → (some (((x2 + 20) + (2 * v5_108)), w_108)) = some (r, w') → fg_Gi p l e 0 0 s m [.ref (g.1 2 i 0), .int a1, .int a2] below meth c D g r w' H locs 150 ls [] := by
        intro v5_108 v6_108 w_108 H locs ls h hl hf
        refine lv_iload_n hx hb dX2_trustOf_150 rfl (lv_at hl 3 rfl) ?_
        refine lv_bipush (v := 20) hx hb dX2_trustOf_151 rfl ?_
        refine lv_iadd hx hb dX2_trustOf_153 ?_
        refine lv_iconst (v := 2) hx hb dX2_trustOf_154 rfl ?_
        refine lv_iload hx hb dX2_trustOf_155 (lv_at hl 5 rfl) ?_
        refine lv_imul hx hb dX2_trustOf_157 ?_
        refine lv_iadd hx hb dX2_trustOf_158 ?_
        exact fg_reti hx hb hr hlk hK h hf dX2_trustOf_159
      have hL_108 : ∀ (KK_108 : Int32 → Int32 → fg_W → Option (Int32 × fg_W)) (hK_108 : ∀ (v5_108 : Int32) (v6_108 : Int32) (w_108 : fg_W) (H : Heap) (locs : List Loc) (ls : Array Slot), fg_H D g s.heap w_108 H locs → lv_has ls 7 [(0, .ref (g.1 2 i 0)), (1, .int a1), (2, .int a2), (3, .int x2), (4, .int 0), (5, .int v5_108), (6, .int v6_108)] → KK_108 v5_108 v6_108 w_108 = some (r, w') → fg_Gi p l e 0 0 s m [.ref (g.1 2 i 0), .int a1, .int a2] below meth c D g r w' H locs 150 ls []) (n : Nat) (v5_108 : Int32) (v6_108 : Int32) (w_108 : fg_W) (H : Heap) (locs : List Loc) (ls : Array Slot), fg_H D g s.heap w_108 H locs → lv_has ls 7 [(0, .ref (g.1 2 i 0)), (1, .int a1), (2, .int a2), (3, .int x2), (4, .int 0), (5, .int v5_108), (6, .int v6_108)] → f_X2_trustOf_L108 i a1 a2 KK_108 n v5_108 v6_108 w_108 = some (r, w') → fg_Gi p l e 0 0 s m [.ref (g.1 2 i 0), .int a1, .int a2] below meth c D g r w' H locs 108 ls [] := by
        intro KK_108 hK_108 n
        induction n with
        | zero => intro v5_108 v6_108 w_108 H locs ls h hl hf; exact fg_no hf
        | succ n_108 ih_108 =>
          intro v5_108 v6_108 w_108 H locs ls h hl hf
          unfold f_X2_trustOf_L108 at hf
          refine lv_iload hx hb dX2_trustOf_108 (lv_at hl 6 rfl) ?_
          refine lv_aload_n hx hb dX2_trustOf_110 rfl (lv_at hl 0 rfl) ?_
          refine fg_get (C := RX2) (T := TX2) (N := 16) S vu_X2 hK h (fg_p2_0 hi) rfl rfl 5 (by decide) vf_RX2_28 rfl rfl dX2_trustOf_111 ?_
          refine lv_icmp_ge (tgt := 150) hx hb dX2_trustOf_114 (by decide) (fun hc => ?_) (fun hc => ?_)
          · have hf := fg_ifT hf hc
            exact hK_108 v5_108 v6_108 w_108 _ _ ls h (lv_sub hl [0, 1, 2, 3, 4, 5, 6] rfl) hf
          · have hf := fg_ifF hf hc
            refine lv_iload hx hb dX2_trustOf_117 (lv_at hl 5 rfl) ?_
            refine lv_iload hx hb dX2_trustOf_119 (lv_at hl 6 rfl) ?_
            refine lv_iload_n hx hb dX2_trustOf_121 rfl (lv_at hl 1 rfl) ?_
            refine lv_icmp_eq (tgt := 140) hx hb dX2_trustOf_122 (by decide) (fun hc => ?_) (fun hc => ?_)
            · have hf := fg_ifT hf hc
              refine lv_iconst (v := 0) hx hb dX2_trustOf_140 rfl ?_
              refine lv_iadd hx hb dX2_trustOf_141 ?_
              refine lv_topi (fun x9 e_x9 => ?_)
              have hf := fg_letE e_x9 hf
              refine lv_istore (lv' := [(5, .int x9), (0, .ref (g.1 2 i 0)), (1, .int a1), (2, .int a2), (3, .int x2), (4, .int 0), (6, .int v6_108)]) hx hb dX2_trustOf_142 hl (by decide) rfl (fun ls hl => ?_)
              refine lv_iinc (v := (v6_108 + 1)) (lv' := [(6, .int (v6_108 + 1)), (5, .int x9), (0, .ref (g.1 2 i 0)), (1, .int a1), (2, .int a2), (3, .int x2), (4, .int 0)]) hx hb dX2_trustOf_144 hl (k := 6) rfl rfl (by decide) rfl (fun ls hl => ?_)
              refine lv_goto (tgt := 108) hx hb dX2_trustOf_147 (by decide) ?_
              exact ih_108 x9 (v6_108 + 1) w_108 _ _ ls h (lv_sub hl [2, 3, 4, 5, 6, 1, 0] rfl) hf
            · have hf := fg_ifF hf hc
              refine lv_aload_n hx hb dX2_trustOf_125 rfl (lv_at hl 0 rfl) ?_
              refine fg_get (C := RX2) (T := TX2) (N := 16) S vu_X2 hK h (fg_p2_0 hi) rfl rfl 7 (by decide) vf_RX2_34 rfl rfl dX2_trustOf_126 ?_
              refine lv_iload hx hb dX2_trustOf_129 (lv_at hl 6 rfl) ?_
              obtain ⟨hn10, hf⟩ := fg_gdE hf
              refine fg_iald hx hb hK h (fg_p2_6 hi) (fun _ => rfl) hn10 dX2_trustOf_131 ?_
              refine lv_iload_n hx hb dX2_trustOf_132 rfl (lv_at hl 2 rfl) ?_
              refine lv_icmp_ne (tgt := 140) hx hb dX2_trustOf_133 (by decide) (fun hc => ?_) (fun hc => ?_)
              · have hf := fg_ifF hf hc
                refine lv_iconst (v := 0) hx hb dX2_trustOf_140 rfl ?_
                refine lv_iadd hx hb dX2_trustOf_141 ?_
                refine lv_topi (fun x11 e_x11 => ?_)
                have hf := fg_letE e_x11 hf
                refine lv_istore (lv' := [(5, .int x11), (0, .ref (g.1 2 i 0)), (1, .int a1), (2, .int a2), (3, .int x2), (4, .int 0), (6, .int v6_108)]) hx hb dX2_trustOf_142 hl (by decide) rfl (fun ls hl => ?_)
                refine lv_iinc (v := (v6_108 + 1)) (lv' := [(6, .int (v6_108 + 1)), (5, .int x11), (0, .ref (g.1 2 i 0)), (1, .int a1), (2, .int a2), (3, .int x2), (4, .int 0)]) hx hb dX2_trustOf_144 hl (k := 6) rfl rfl (by decide) rfl (fun ls hl => ?_)
                refine lv_goto (tgt := 108) hx hb dX2_trustOf_147 (by decide) ?_
                exact ih_108 x11 (v6_108 + 1) w_108 _ _ ls h (lv_sub hl [2, 3, 4, 5, 6, 1, 0] rfl) hf
              · have hf := fg_ifT hf hc
                refine lv_iconst (v := 1) hx hb dX2_trustOf_136 rfl ?_
                refine lv_goto (tgt := 141) hx hb dX2_trustOf_137 (by decide) ?_
                refine lv_iadd hx hb dX2_trustOf_141 ?_
                refine lv_topi (fun x12 e_x12 => ?_)
                have hf := fg_letE e_x12 hf
                refine lv_istore (lv' := [(5, .int x12), (0, .ref (g.1 2 i 0)), (1, .int a1), (2, .int a2), (3, .int x2), (4, .int 0), (6, .int v6_108)]) hx hb dX2_trustOf_142 hl (by decide) rfl (fun ls hl => ?_)
                refine lv_iinc (v := (v6_108 + 1)) (lv' := [(6, .int (v6_108 + 1)), (5, .int x12), (0, .ref (g.1 2 i 0)), (1, .int a1), (2, .int a2), (3, .int x2), (4, .int 0)]) hx hb dX2_trustOf_144 hl (k := 6) rfl rfl (by decide) rfl (fun ls hl => ?_)
                refine lv_goto (tgt := 108) hx hb dX2_trustOf_147 (by decide) ?_
                exact ih_108 x12 (v6_108 + 1) w_108 _ _ ls h (lv_sub hl [2, 3, 4, 5, 6, 1, 0] rfl) hf
      exact hL_108 _ hK_108 fg_fuel 0 0 w _ _ ls h (lv_sub hl [4, 5, 6, 3, 2, 1, 0] rfl) hf
    have hf := fg_ifF hf hq31_6
    refine lv_tableOut (tgt := 160) hx hb dX2_trustOf_31 (by have := lv_neT hq31_1 (show (1 : Int32).toInt = 1 from rfl); have := lv_neT hq31_2 (show (2 : Int32).toInt = 2 from rfl); have := lv_neT hq31_3 (show (3 : Int32).toInt = 3 from rfl); have := lv_neT hq31_4 (show (4 : Int32).toInt = 4 from rfl); have := lv_neT hq31_5 (show (5 : Int32).toInt = 5 from rfl); have := lv_neT hq31_6 (show (6 : Int32).toInt = 6 from rfl); omega) (by decide) ?_
    refine lv_iload_n hx hb dX2_trustOf_160 rfl (lv_at hl 1 rfl) ?_
    exact fg_reti hx hb hr hlk hK h hf dX2_trustOf_161
  · have hf := fg_ifF hf hc
    refine lv_iload_n hx hb dX2_trustOf_15 rfl (lv_at hl 0 rfl) ?_
    refine lv_bipush (v := 10) hx hb dX2_trustOf_16 rfl ?_
    refine lv_isub hx hb dX2_trustOf_18 ?_
    refine lv_goto (tgt := 23) hx hb dX2_trustOf_19 (by decide) ?_
    refine lv_topi (fun x13 e_x13 => ?_)
    have hf := fg_letE e_x13 hf
    refine lv_istore (lv' := [(4, .int x13), (3, .int x2), (0, .ref (g.1 2 i 0)), (1, .int a1), (2, .int a2)]) hx hb dX2_trustOf_23 hl (by decide) rfl (fun ls hl => ?_)
    refine lv_aload_n hx hb dX2_trustOf_25 rfl (lv_at hl 2 rfl) ?_
    refine fg_get (C := RX2) (T := TX2) (N := 16) S vu_X2 hK h (fg_p2_0 hi) rfl rfl 6 (by decide) vf_RX2_31 rfl rfl dX2_trustOf_26 ?_
    refine lv_iload_n hx hb dX2_trustOf_29 rfl (lv_at hl 3 rfl) ?_
    obtain ⟨hn14, hf⟩ := fg_gdE hf
    refine fg_iald hx hb hK h (fg_p2_5 hi) (fun _ => rfl) hn14 dX2_trustOf_30 ?_
    by_cases hq31_1 : (w.1 2 i 5 a1.toNatClampNeg) = 1
    · refine lv_tableIn (tgt := 68) hx hb dX2_trustOf_31 (by rw [hq31_1]; decide) (by rw [hq31_1]; decide) (off := 37) (by rw [hq31_1]; rfl) (by decide) ?_
      have hf := fg_ifT hf hq31_1
      refine lv_iload_n hx hb dX2_trustOf_68 rfl (lv_at hl 1 rfl) ?_
      refine lv_bipush (v := 20) hx hb dX2_trustOf_69 rfl ?_
      refine lv_iadd hx hb dX2_trustOf_71 ?_
      exact fg_reti hx hb hr hlk hK h hf dX2_trustOf_72
    have hf := fg_ifF hf hq31_1
    by_cases hq31_2 : (w.1 2 i 5 a1.toNatClampNeg) = 2
    · refine lv_tableIn (tgt := 73) hx hb dX2_trustOf_31 (by rw [hq31_2]; decide) (by rw [hq31_2]; decide) (off := 42) (by rw [hq31_2]; rfl) (by decide) ?_
      have hf := fg_ifT hf hq31_2
      refine lv_iload hx hb dX2_trustOf_73 (lv_at hl 0 rfl) ?_
      exact fg_reti hx hb hr hlk hK h hf dX2_trustOf_75
    have hf := fg_ifF hf hq31_2
    by_cases hq31_3 : (w.1 2 i 5 a1.toNatClampNeg) = 3
    · refine lv_tableIn (tgt := 76) hx hb dX2_trustOf_31 (by rw [hq31_3]; decide) (by rw [hq31_3]; decide) (off := 45) (by rw [hq31_3]; rfl) (by decide) ?_
      have hf := fg_ifT hf hq31_3
      refine lv_aload_n hx hb dX2_trustOf_76 rfl (lv_at hl 2 rfl) ?_
      refine fg_get (C := RX2) (T := TX2) (N := 16) S vu_X2 hK h (fg_p2_0 hi) rfl rfl 2 (by decide) vf_RX2_18 rfl rfl dX2_trustOf_77 ?_
      refine lv_iload_n hx hb dX2_trustOf_80 rfl (lv_at hl 4 rfl) ?_
      obtain ⟨hn15, hf⟩ := fg_gdE hf
      refine fg_iald hx hb hK h (fg_p2_3 hi) (fun _ => rfl) hn15 dX2_trustOf_81 ?_
      refine lv_iload_n hx hb dX2_trustOf_82 rfl (lv_at hl 3 rfl) ?_
      refine lv_icmp_ne (tgt := 94) hx hb dX2_trustOf_83 (by decide) (fun hc => ?_) (fun hc => ?_)
      · have hf := fg_ifF hf hc
        refine lv_iload hx hb dX2_trustOf_94 (lv_at hl 0 rfl) ?_
        exact fg_reti hx hb hr hlk hK h hf dX2_trustOf_96
      · have hf := fg_ifT hf hc
        refine lv_iload hx hb dX2_trustOf_86 (lv_at hl 0 rfl) ?_
        refine lv_bipush (v := 30) hx hb dX2_trustOf_88 rfl ?_
        refine lv_iadd hx hb dX2_trustOf_90 ?_
        refine lv_goto (tgt := 96) hx hb dX2_trustOf_91 (by decide) ?_
        exact fg_reti hx hb hr hlk hK h hf dX2_trustOf_96
    have hf := fg_ifF hf hq31_3
    by_cases hq31_4 : (w.1 2 i 5 a1.toNatClampNeg) = 4
    · refine lv_tableIn (tgt := 97) hx hb dX2_trustOf_31 (by rw [hq31_4]; decide) (by rw [hq31_4]; decide) (off := 66) (by rw [hq31_4]; rfl) (by decide) ?_
      have hf := fg_ifT hf hq31_4
      refine lv_bipush (v := 60) hx hb dX2_trustOf_97 rfl ?_
      exact fg_reti hx hb hr hlk hK h hf dX2_trustOf_99
    have hf := fg_ifF hf hq31_4
    by_cases hq31_5 : (w.1 2 i 5 a1.toNatClampNeg) = 5
    · refine lv_tableIn (tgt := 100) hx hb dX2_trustOf_31 (by rw [hq31_5]; decide) (by rw [hq31_5]; decide) (off := 69) (by rw [hq31_5]; rfl) (by decide) ?_
      have hf := fg_ifT hf hq31_5
      refine lv_iconst (v := 0) hx hb dX2_trustOf_100 rfl ?_
      exact fg_reti hx hb hr hlk hK h hf dX2_trustOf_101
    have hf := fg_ifF hf hq31_5
    by_cases hq31_6 : (w.1 2 i 5 a1.toNatClampNeg) = 6
    · refine lv_tableIn (tgt := 102) hx hb dX2_trustOf_31 (by rw [hq31_6]; decide) (by rw [hq31_6]; decide) (off := 71) (by rw [hq31_6]; rfl) (by decide) ?_
      have hf := fg_ifT hf hq31_6
      refine lv_iconst (v := 0) hx hb dX2_trustOf_102 rfl ?_
      refine lv_istore (lv' := [(5, .int 0), (4, .int x13), (3, .int x2), (0, .ref (g.1 2 i 0)), (1, .int a1), (2, .int a2)]) hx hb dX2_trustOf_103 hl (by decide) rfl (fun ls hl => ?_)
      refine lv_iconst (v := 0) hx hb dX2_trustOf_105 rfl ?_
      refine lv_istore (lv' := [(6, .int 0), (5, .int 0), (4, .int x13), (3, .int x2), (0, .ref (g.1 2 i 0)), (1, .int a1), (2, .int a2)]) hx hb dX2_trustOf_106 hl (by decide) rfl (fun ls hl => ?_)
      have hK_108 : ∀ (v5_108 : Int32) (v6_108 : Int32) (w_108 : fg_W) (H : Heap) (locs : List Loc) (ls : Array Slot), fg_H D g s.heap w_108 H locs → lv_has ls 7 [(0, .ref (g.1 2 i 0)), (1, .int a1), (2, .int a2), (3, .int x2), (4, .int x13), (5, .int v5_108), (6, .int v6_108)] → (some (((x2 + 20) + (2 * v5_108)), w_108)) = some (r, w') → fg_Gi p l e 0 0 s m [.ref (g.1 2 i 0), .int a1, .int a2] below meth c D g r w' H locs 150 ls [] := by
        intro v5_108 v6_108 w_108 H locs ls h hl hf
        refine lv_iload_n hx hb dX2_trustOf_150 rfl (lv_at hl 3 rfl) ?_
        refine lv_bipush (v := 20) hx hb dX2_trustOf_151 rfl ?_
        refine lv_iadd hx hb dX2_trustOf_153 ?_
        refine lv_iconst (v := 2) hx hb dX2_trustOf_154 rfl ?_
        refine lv_iload hx hb dX2_trustOf_155 (lv_at hl 5 rfl) ?_
        refine lv_imul hx hb dX2_trustOf_157 ?_
        refine lv_iadd hx hb dX2_trustOf_158 ?_
        exact fg_reti hx hb hr hlk hK h hf dX2_trustOf_159
      have hL_108 : ∀ (KK_108 : Int32 → Int32 → fg_W → Option (Int32 × fg_W)) (hK_108 : ∀ (v5_108 : Int32) (v6_108 : Int32) (w_108 : fg_W) (H : Heap) (locs : List Loc) (ls : Array Slot), fg_H D g s.heap w_108 H locs → lv_has ls 7 [(0, .ref (g.1 2 i 0)), (1, .int a1), (2, .int a2), (3, .int x2), (4, .int x13), (5, .int v5_108), (6, .int v6_108)] → KK_108 v5_108 v6_108 w_108 = some (r, w') → fg_Gi p l e 0 0 s m [.ref (g.1 2 i 0), .int a1, .int a2] below meth c D g r w' H locs 150 ls []) (n : Nat) (v5_108 : Int32) (v6_108 : Int32) (w_108 : fg_W) (H : Heap) (locs : List Loc) (ls : Array Slot), fg_H D g s.heap w_108 H locs → lv_has ls 7 [(0, .ref (g.1 2 i 0)), (1, .int a1), (2, .int a2), (3, .int x2), (4, .int x13), (5, .int v5_108), (6, .int v6_108)] → f_X2_trustOf_L108 i a1 a2 KK_108 n v5_108 v6_108 w_108 = some (r, w') → fg_Gi p l e 0 0 s m [.ref (g.1 2 i 0), .int a1, .int a2] below meth c D g r w' H locs 108 ls [] := by
        intro KK_108 hK_108 n
        induction n with
        | zero => intro v5_108 v6_108 w_108 H locs ls h hl hf; exact fg_no hf
        | succ n_108 ih_108 =>
          intro v5_108 v6_108 w_108 H locs ls h hl hf
          unfold f_X2_trustOf_L108 at hf
          refine lv_iload hx hb dX2_trustOf_108 (lv_at hl 6 rfl) ?_
          refine lv_aload_n hx hb dX2_trustOf_110 rfl (lv_at hl 0 rfl) ?_
          refine fg_get (C := RX2) (T := TX2) (N := 16) S vu_X2 hK h (fg_p2_0 hi) rfl rfl 5 (by decide) vf_RX2_28 rfl rfl dX2_trustOf_111 ?_
          refine lv_icmp_ge (tgt := 150) hx hb dX2_trustOf_114 (by decide) (fun hc => ?_) (fun hc => ?_)
          · have hf := fg_ifT hf hc
            exact hK_108 v5_108 v6_108 w_108 _ _ ls h (lv_sub hl [0, 1, 2, 3, 4, 5, 6] rfl) hf
          · have hf := fg_ifF hf hc
            refine lv_iload hx hb dX2_trustOf_117 (lv_at hl 5 rfl) ?_
            refine lv_iload hx hb dX2_trustOf_119 (lv_at hl 6 rfl) ?_
            refine lv_iload_n hx hb dX2_trustOf_121 rfl (lv_at hl 1 rfl) ?_
            refine lv_icmp_eq (tgt := 140) hx hb dX2_trustOf_122 (by decide) (fun hc => ?_) (fun hc => ?_)
            · have hf := fg_ifT hf hc
              refine lv_iconst (v := 0) hx hb dX2_trustOf_140 rfl ?_
              refine lv_iadd hx hb dX2_trustOf_141 ?_
              refine lv_topi (fun x16 e_x16 => ?_)
              have hf := fg_letE e_x16 hf
              refine lv_istore (lv' := [(5, .int x16), (0, .ref (g.1 2 i 0)), (1, .int a1), (2, .int a2), (3, .int x2), (4, .int x13), (6, .int v6_108)]) hx hb dX2_trustOf_142 hl (by decide) rfl (fun ls hl => ?_)
              refine lv_iinc (v := (v6_108 + 1)) (lv' := [(6, .int (v6_108 + 1)), (5, .int x16), (0, .ref (g.1 2 i 0)), (1, .int a1), (2, .int a2), (3, .int x2), (4, .int x13)]) hx hb dX2_trustOf_144 hl (k := 6) rfl rfl (by decide) rfl (fun ls hl => ?_)
              refine lv_goto (tgt := 108) hx hb dX2_trustOf_147 (by decide) ?_
              exact ih_108 x16 (v6_108 + 1) w_108 _ _ ls h (lv_sub hl [2, 3, 4, 5, 6, 1, 0] rfl) hf
            · have hf := fg_ifF hf hc
              refine lv_aload_n hx hb dX2_trustOf_125 rfl (lv_at hl 0 rfl) ?_
              refine fg_get (C := RX2) (T := TX2) (N := 16) S vu_X2 hK h (fg_p2_0 hi) rfl rfl 7 (by decide) vf_RX2_34 rfl rfl dX2_trustOf_126 ?_
              refine lv_iload hx hb dX2_trustOf_129 (lv_at hl 6 rfl) ?_
              obtain ⟨hn17, hf⟩ := fg_gdE hf
              refine fg_iald hx hb hK h (fg_p2_6 hi) (fun _ => rfl) hn17 dX2_trustOf_131 ?_
              refine lv_iload_n hx hb dX2_trustOf_132 rfl (lv_at hl 2 rfl) ?_
              refine lv_icmp_ne (tgt := 140) hx hb dX2_trustOf_133 (by decide) (fun hc => ?_) (fun hc => ?_)
              · have hf := fg_ifF hf hc
                refine lv_iconst (v := 0) hx hb dX2_trustOf_140 rfl ?_
                refine lv_iadd hx hb dX2_trustOf_141 ?_
                refine lv_topi (fun x18 e_x18 => ?_)
                have hf := fg_letE e_x18 hf
                refine lv_istore (lv' := [(5, .int x18), (0, .ref (g.1 2 i 0)), (1, .int a1), (2, .int a2), (3, .int x2), (4, .int x13), (6, .int v6_108)]) hx hb dX2_trustOf_142 hl (by decide) rfl (fun ls hl => ?_)
                refine lv_iinc (v := (v6_108 + 1)) (lv' := [(6, .int (v6_108 + 1)), (5, .int x18), (0, .ref (g.1 2 i 0)), (1, .int a1), (2, .int a2), (3, .int x2), (4, .int x13)]) hx hb dX2_trustOf_144 hl (k := 6) rfl rfl (by decide) rfl (fun ls hl => ?_)
                refine lv_goto (tgt := 108) hx hb dX2_trustOf_147 (by decide) ?_
                exact ih_108 x18 (v6_108 + 1) w_108 _ _ ls h (lv_sub hl [2, 3, 4, 5, 6, 1, 0] rfl) hf
              · have hf := fg_ifT hf hc
                refine lv_iconst (v := 1) hx hb dX2_trustOf_136 rfl ?_
                refine lv_goto (tgt := 141) hx hb dX2_trustOf_137 (by decide) ?_
                refine lv_iadd hx hb dX2_trustOf_141 ?_
                refine lv_topi (fun x19 e_x19 => ?_)
                have hf := fg_letE e_x19 hf
                refine lv_istore (lv' := [(5, .int x19), (0, .ref (g.1 2 i 0)), (1, .int a1), (2, .int a2), (3, .int x2), (4, .int x13), (6, .int v6_108)]) hx hb dX2_trustOf_142 hl (by decide) rfl (fun ls hl => ?_)
                refine lv_iinc (v := (v6_108 + 1)) (lv' := [(6, .int (v6_108 + 1)), (5, .int x19), (0, .ref (g.1 2 i 0)), (1, .int a1), (2, .int a2), (3, .int x2), (4, .int x13)]) hx hb dX2_trustOf_144 hl (k := 6) rfl rfl (by decide) rfl (fun ls hl => ?_)
                refine lv_goto (tgt := 108) hx hb dX2_trustOf_147 (by decide) ?_
                exact ih_108 x19 (v6_108 + 1) w_108 _ _ ls h (lv_sub hl [2, 3, 4, 5, 6, 1, 0] rfl) hf
      exact hL_108 _ hK_108 fg_fuel 0 0 w _ _ ls h (lv_sub hl [4, 5, 6, 3, 2, 1, 0] rfl) hf
    have hf := fg_ifF hf hq31_6
    refine lv_tableOut (tgt := 160) hx hb dX2_trustOf_31 (by have := lv_neT hq31_1 (show (1 : Int32).toInt = 1 from rfl); have := lv_neT hq31_2 (show (2 : Int32).toInt = 2 from rfl); have := lv_neT hq31_3 (show (3 : Int32).toInt = 3 from rfl); have := lv_neT hq31_4 (show (4 : Int32).toInt = 4 from rfl); have := lv_neT hq31_5 (show (5 : Int32).toInt = 5 from rfl); have := lv_neT hq31_6 (show (6 : Int32).toInt = 6 from rfl); omega) (by decide) ?_
    refine lv_iload_n hx hb dX2_trustOf_160 rfl (lv_at hl 1 rfl) ?_
    exact fg_reti hx hb hr hlk hK h hf dX2_trustOf_161
set_option maxHeartbeats 4000000 in
set_option maxRecDepth 100000 in
theorem c_X2_stands (l : Launch) (D : va_G) (g : fg_G) (i : Nat) (a1 : Int32) (a2 : Int32) (hi : i < 3) (w : fg_W) (r : Int32) (w' : fg_W) (hf : f_X2_stands i a1 a2 w = some (r, w')) : fg_M l yX2_stands cX2_stands 3 (some .boolean) 1 26 D g [.ref (g.1 2 i 0), .int a1, .int a2] w (fg_Qi D g r w') := by
  refine fg_M.of rfl (Nat.le_of_ble_eq_true rfl) (fun p e s m below meth c ls S hr hlk hK h hl => ?_)
  have hx := S.1
  have hb := S.2.1
  have hl : lv_has ls 3 [(0, .ref (g.1 2 i 0)), (1, .int a1), (2, .int a2)] := hl
  unfold f_X2_stands at hf
  refine lv_aload_n hx hb dX2_stands_0 rfl (lv_at hl 0 rfl) ?_
  refine fg_get (C := RX2) (T := TX2) (N := 16) S vu_X2 hK h (fg_p2_0 hi) rfl rfl 0 (by decide) vf_RX2_9 rfl rfl dX2_stands_1 ?_
  refine lv_iload_n hx hb dX2_stands_4 rfl (lv_at hl 2 rfl) ?_
  obtain ⟨hn1, hf⟩ := fg_gdE hf
  refine fg_iald hx hb hK h (fg_p2_1 hi) (fun _ => rfl) hn1 dX2_stands_5 ?_
  refine lv_aload_n hx hb dX2_stands_6 rfl (lv_at hl 0 rfl) ?_
  refine lv_iload_n hx hb dX2_stands_7 rfl (lv_at hl 1 rfl) ?_
  refine lv_iload_n hx hb dX2_stands_8 rfl (lv_at hl 2 rfl) ?_
  obtain ⟨r4, w2, hc3, hf⟩ := fg_biE hf
  refine fg_ci h (fg_runV (rest := [.int (w.1 2 i 1 a2.toNatClampNeg)]) S hK h (c_X2_trustOf l D g i a1 a2 hi w r4 w2 hc3) vg_RX2_76 vd_X2_trustOf ⟨by decide, by decide⟩ (fg_p2_0 hi) rfl rfl rfl hl.1 rfl (Nat.le_of_ble_eq_true rfl) dX2_stands_9 ⟨Nat.zero_le _, Nat.zero_le _⟩) (fun H locs h => ?_)
  refine lv_iadd hx hb dX2_stands_12 ?_
  refine lv_bipush (v := 60) hx hb dX2_stands_13 rfl ?_
  refine lv_icmp_lt (tgt := 22) hx hb dX2_stands_15 (by decide) (fun hc => ?_) (fun hc => ?_)
  · have hf := fg_ifT hf hc
    refine lv_iconst (v := 0) hx hb dX2_stands_22 rfl ?_
    exact fg_retz hx hb hr hlk hK h hf (by decide) dX2_stands_23
  · have hf := fg_ifF hf hc
    refine lv_iconst (v := 1) hx hb dX2_stands_18 rfl ?_
    refine lv_goto (tgt := 23) hx hb dX2_stands_19 (by decide) ?_
    exact fg_retz hx hb hr hlk hK h hf (by decide) dX2_stands_23
set_option maxHeartbeats 4000000 in
set_option maxRecDepth 100000 in
theorem c_X2_thoseStanding (l : Launch) (D : va_G) (g : fg_G) (i : Nat) (a1 : Int32) (hi : i < 3) (w : fg_W) (r : Int32) (w' : fg_W) (hf : f_X2_thoseStanding i a1 w = some (r, w')) : fg_M l yX2_thoseStanding cX2_thoseStanding 4 (some .int) 2 48 D g [.ref (g.1 2 i 0), .int a1] w (fg_Qi D g r w') := by
  refine fg_M.of rfl (Nat.le_of_ble_eq_true rfl) (fun p e s m below meth c ls S hr hlk hK h hl => ?_)
  have hx := S.1
  have hb := S.2.1
  have hl : lv_has ls 4 [(0, .ref (g.1 2 i 0)), (1, .int a1)] := hl
  unfold f_X2_thoseStanding at hf
  refine lv_iconst (v := 0) hx hb dX2_thoseStanding_0 rfl ?_
  refine lv_istore_n (lv' := [(2, .int 0), (0, .ref (g.1 2 i 0)), (1, .int a1)]) hx hb dX2_thoseStanding_1 rfl hl (by decide) rfl (fun ls hl => ?_)
  refine lv_iconst (v := 0) hx hb dX2_thoseStanding_2 rfl ?_
  refine lv_istore_n (lv' := [(3, .int 0), (2, .int 0), (0, .ref (g.1 2 i 0)), (1, .int a1)]) hx hb dX2_thoseStanding_3 rfl hl (by decide) rfl (fun ls hl => ?_)
  have hK_4 : ∀ (v2_4 : Int32) (v3_4 : Int32) (w_4 : fg_W) (H : Heap) (locs : List Loc) (ls : Array Slot), fg_H D g s.heap w_4 H locs → lv_has ls 4 [(0, .ref (g.1 2 i 0)), (1, .int a1), (2, .int v2_4), (3, .int v3_4)] → (some (v2_4, w_4)) = some (r, w') → fg_Gi p l e 2 48 s m [.ref (g.1 2 i 0), .int a1] below meth c D g r w' H locs 33 ls [] := by
    intro v2_4 v3_4 w_4 H locs ls h hl hf
    refine lv_iload_n hx hb dX2_thoseStanding_33 rfl (lv_at hl 2 rfl) ?_
    exact fg_reti hx hb hr hlk hK h hf dX2_thoseStanding_34
  have hL_4 : ∀ (KK_4 : Int32 → Int32 → fg_W → Option (Int32 × fg_W)) (hK_4 : ∀ (v2_4 : Int32) (v3_4 : Int32) (w_4 : fg_W) (H : Heap) (locs : List Loc) (ls : Array Slot), fg_H D g s.heap w_4 H locs → lv_has ls 4 [(0, .ref (g.1 2 i 0)), (1, .int a1), (2, .int v2_4), (3, .int v3_4)] → KK_4 v2_4 v3_4 w_4 = some (r, w') → fg_Gi p l e 2 48 s m [.ref (g.1 2 i 0), .int a1] below meth c D g r w' H locs 33 ls []) (n : Nat) (v2_4 : Int32) (v3_4 : Int32) (w_4 : fg_W) (H : Heap) (locs : List Loc) (ls : Array Slot), fg_H D g s.heap w_4 H locs → lv_has ls 4 [(0, .ref (g.1 2 i 0)), (1, .int a1), (2, .int v2_4), (3, .int v3_4)] → f_X2_thoseStanding_L4 i a1 KK_4 n v2_4 v3_4 w_4 = some (r, w') → fg_Gi p l e 2 48 s m [.ref (g.1 2 i 0), .int a1] below meth c D g r w' H locs 4 ls [] := by
    intro KK_4 hK_4 n
    induction n with
    | zero => intro v2_4 v3_4 w_4 H locs ls h hl hf; exact fg_no hf
    | succ n_4 ih_4 =>
      intro v2_4 v3_4 w_4 H locs ls h hl hf
      unfold f_X2_thoseStanding_L4 at hf
      refine lv_iload_n hx hb dX2_thoseStanding_4 rfl (lv_at hl 3 rfl) ?_
      refine lv_aload_n hx hb dX2_thoseStanding_5 rfl (lv_at hl 0 rfl) ?_
      refine fg_get (C := RX2) (T := TX2) (N := 16) S vu_X2 hK h (fg_p2_0 hi) rfl rfl 5 (by decide) vf_RX2_28 rfl rfl dX2_thoseStanding_6 ?_
      refine lv_icmp_ge (tgt := 33) hx hb dX2_thoseStanding_9 (by decide) (fun hc => ?_) (fun hc => ?_)
      · have hf := fg_ifT hf hc
        exact hK_4 v2_4 v3_4 w_4 _ _ ls h (lv_sub hl [0, 1, 2, 3] rfl) hf
      · have hf := fg_ifF hf hc
        refine lv_aload_n hx hb dX2_thoseStanding_12 rfl (lv_at hl 0 rfl) ?_
        refine lv_iload_n hx hb dX2_thoseStanding_13 rfl (lv_at hl 3 rfl) ?_
        refine lv_iload_n hx hb dX2_thoseStanding_14 rfl (lv_at hl 1 rfl) ?_
        obtain ⟨r7, w5, hc6, hf⟩ := fg_biE hf
        refine fg_ci h (fg_runV (rest := []) S hK h (c_X2_stands l D g i v3_4 a1 hi w_4 r7 w5 hc6) vg_RX2_71 vd_X2_stands ⟨by decide, by decide⟩ (fg_p2_0 hi) rfl rfl rfl hl.1 rfl (Nat.le_of_ble_eq_true rfl) dX2_thoseStanding_15 ⟨Nat.zero_le _, Nat.zero_le _⟩) (fun H locs h => ?_)
        refine lv_if_eq (tgt := 27) hx hb dX2_thoseStanding_18 (by decide) (fun hc => ?_) (fun hc => ?_)
        · have hf := fg_ifT hf hc
          refine lv_iinc (v := (v3_4 + 1)) (lv' := [(3, .int (v3_4 + 1)), (0, .ref (g.1 2 i 0)), (1, .int a1), (2, .int v2_4)]) hx hb dX2_thoseStanding_27 hl (k := 3) rfl rfl (by decide) rfl (fun ls hl => ?_)
          refine lv_goto (tgt := 4) hx hb dX2_thoseStanding_30 (by decide) ?_
          exact ih_4 v2_4 (v3_4 + 1) w5 _ _ ls h (lv_sub hl [1, 2, 3, 0] rfl) hf
        · have hf := fg_ifF hf hc
          refine lv_iload_n hx hb dX2_thoseStanding_21 rfl (lv_at hl 2 rfl) ?_
          refine lv_iconst (v := 1) hx hb dX2_thoseStanding_22 rfl ?_
          refine lv_iload_n hx hb dX2_thoseStanding_23 rfl (lv_at hl 3 rfl) ?_
          refine lv_ishl hx hb dX2_thoseStanding_24 ?_
          refine lv_ior hx hb dX2_thoseStanding_25 ?_
          refine lv_topi (fun x8 e_x8 => ?_)
          have hf := fg_letE e_x8 hf
          refine lv_istore_n (lv' := [(2, .int x8), (0, .ref (g.1 2 i 0)), (1, .int a1), (3, .int v3_4)]) hx hb dX2_thoseStanding_26 rfl hl (by decide) rfl (fun ls hl => ?_)
          refine lv_iinc (v := (v3_4 + 1)) (lv' := [(3, .int (v3_4 + 1)), (2, .int x8), (0, .ref (g.1 2 i 0)), (1, .int a1)]) hx hb dX2_thoseStanding_27 hl (k := 3) rfl rfl (by decide) rfl (fun ls hl => ?_)
          refine lv_goto (tgt := 4) hx hb dX2_thoseStanding_30 (by decide) ?_
          exact ih_4 x8 (v3_4 + 1) w5 _ _ ls h (lv_sub hl [2, 3, 1, 0] rfl) hf
  exact hL_4 _ hK_4 fg_fuel 0 0 w _ _ ls h (lv_sub hl [2, 3, 1, 0] rfl) hf
set_option maxHeartbeats 4000000 in
set_option maxRecDepth 100000 in
theorem c_X2_add (l : Launch) (D : va_G) (g : fg_G) (i : Nat) (a1 : Int32) (hi : i < 3) (w : fg_W) (r : Int32) (w' : fg_W) (hf : f_X2_add i a1 w = some (r, w')) : fg_M l yX2_add cX2_add 3 (some .int) 0 0 D g [.ref (g.1 2 i 0), .int a1] w (fg_Qi D g r w') := by
  refine fg_M.of rfl (Nat.le_of_ble_eq_true rfl) (fun p e s m below meth c ls S hr hlk hK h hl => ?_)
  have hx := S.1
  have hb := S.2.1
  have hl : lv_has ls 3 [(0, .ref (g.1 2 i 0)), (1, .int a1)] := hl
  unfold f_X2_add at hf
  refine lv_aload_n hx hb dX2_add_0 rfl (lv_at hl 0 rfl) ?_
  refine fg_get (C := RX2) (T := TX2) (N := 16) S vu_X2 hK h (fg_p2_0 hi) rfl rfl 5 (by decide) vf_RX2_28 rfl rfl dX2_add_1 ?_
  refine lv_topi (fun x1 e_x1 => ?_)
  have hf := fg_letE e_x1 hf
  refine lv_istore_n (lv' := [(2, .int x1), (0, .ref (g.1 2 i 0)), (1, .int a1)]) hx hb dX2_add_4 rfl hl (by decide) rfl (fun ls hl => ?_)
  refine lv_aload_n hx hb dX2_add_5 rfl (lv_at hl 1 rfl) ?_
  refine fg_get (C := RX2) (T := TX2) (N := 16) S vu_X2 hK h (fg_p2_0 hi) rfl rfl 6 (by decide) vf_RX2_31 rfl rfl dX2_add_6 ?_
  refine lv_iload_n hx hb dX2_add_9 rfl (lv_at hl 0 rfl) ?_
  refine lv_iload_n hx hb dX2_add_10 rfl (lv_at hl 2 rfl) ?_
  obtain ⟨hn3, hf⟩ := fg_gdE hf
  refine fg_iast hx hb hK h (fg_p2_5 hi) (fun _ => rfl) hn3 dX2_add_11 (fun w2 H locs ew h => ?_)
  have hf := fg_letE ew hf
  refine lv_aload_n hx hb dX2_add_12 rfl (lv_at hl 1 rfl) ?_
  refine fg_get (C := RX2) (T := TX2) (N := 16) S vu_X2 hK h (fg_p2_0 hi) rfl rfl 7 (by decide) vf_RX2_34 rfl rfl dX2_add_13 ?_
  refine lv_iload_n hx hb dX2_add_16 rfl (lv_at hl 0 rfl) ?_
  refine lv_iconst (v := (-1)) hx hb dX2_add_17 rfl ?_
  obtain ⟨hn5, hf⟩ := fg_gdE hf
  refine fg_iast hx hb hK h (fg_p2_6 hi) (fun _ => rfl) hn5 dX2_add_18 (fun w4 H locs ew h => ?_)
  have hf := fg_letE ew hf
  refine lv_aload_n hx hb dX2_add_19 rfl (lv_at hl 1 rfl) ?_
  refine fg_get (C := RX2) (T := TX2) (N := 16) S vu_X2 hK h (fg_p2_0 hi) rfl rfl 8 (by decide) vf_RX2_37 rfl rfl dX2_add_20 ?_
  refine lv_iload_n hx hb dX2_add_23 rfl (lv_at hl 0 rfl) ?_
  refine lv_bipush (v := 50) hx hb dX2_add_24 rfl ?_
  obtain ⟨hn7, hf⟩ := fg_gdE hf
  refine fg_iast hx hb hK h (fg_p2_7 hi) (fun _ => rfl) hn7 dX2_add_26 (fun w6 H locs ew h => ?_)
  have hf := fg_letE ew hf
  refine lv_aload_n hx hb dX2_add_27 rfl (lv_at hl 1 rfl) ?_
  refine fg_get (C := RX2) (T := TX2) (N := 16) S vu_X2 hK h (fg_p2_0 hi) rfl rfl 9 (by decide) vf_RX2_40 rfl rfl dX2_add_28 ?_
  refine lv_iload_n hx hb dX2_add_31 rfl (lv_at hl 0 rfl) ?_
  refine lv_bipush (v := 50) hx hb dX2_add_32 rfl ?_
  obtain ⟨hn9, hf⟩ := fg_gdE hf
  refine fg_iast hx hb hK h (fg_p2_8 hi) (fun _ => rfl) hn9 dX2_add_34 (fun w8 H locs ew h => ?_)
  have hf := fg_letE ew hf
  refine lv_aload_n hx hb dX2_add_35 rfl (lv_at hl 1 rfl) ?_
  refine fg_get (C := RX2) (T := TX2) (N := 16) S vu_X2 hK h (fg_p2_0 hi) rfl rfl 10 (by decide) vf_RX2_43 rfl rfl dX2_add_36 ?_
  refine lv_iload_n hx hb dX2_add_39 rfl (lv_at hl 0 rfl) ?_
  refine lv_iconst (v := 0) hx hb dX2_add_40 rfl ?_
  obtain ⟨hn11, hf⟩ := fg_gdE hf
  refine fg_iast hx hb hK h (fg_p2_9 hi) (fun _ => rfl) hn11 dX2_add_41 (fun w10 H locs ew h => ?_)
  have hf := fg_letE ew hf
  refine lv_aload_n hx hb dX2_add_42 rfl (lv_at hl 1 rfl) ?_
  refine lv_dup hx hb dX2_add_43 rfl ?_
  refine fg_get (C := RX2) (T := TX2) (N := 16) S vu_X2 hK h (fg_p2_0 hi) rfl rfl 5 (by decide) vf_RX2_28 rfl rfl dX2_add_44 ?_
  refine lv_iconst (v := 1) hx hb dX2_add_47 rfl ?_
  refine lv_iadd hx hb dX2_add_48 ?_
  refine fg_putI (C := RX2) (T := TX2) (N := 16) (fs := (fg_f2 g i)) S vu_X2 tyX2 tyX2_ok nmX2 hK h (fg_p2_0 hi) (fun _ _ => rfl) rfl 5 (by decide) vf_RX2_28 rfl rfl (tyX2_ok 5 (by decide)) rfl rfl (fun _ => Nat.le_of_ble_eq_true rfl) (fun _ => rfl) dX2_add_49 (fun w12 H locs ew h => ?_)
  have hf := fg_letE ew hf
  refine lv_iload_n hx hb dX2_add_52 rfl (lv_at hl 0 rfl) ?_
  exact fg_reti hx hb hr hlk hK h hf dX2_add_53
set_option maxHeartbeats 4000000 in
set_option maxRecDepth 100000 in
theorem c_X3_losesOf (l : Launch) (D : va_G) (g : fg_G) (a1 : Int32) (w : fg_W) (r : Int32) (w' : fg_W) (hf : f_X3_losesOf a1 w = some (r, w')) : fg_M l yX3_losesOf cX3_losesOf 1 (some .int) 0 0 D g [.int a1] w (fg_Qi D g r w') := by
  refine fg_M.of rfl (Nat.le_of_ble_eq_true rfl) (fun p e s m below meth c ls S hr hlk hK h hl => ?_)
  have hx := S.1
  have hb := S.2.1
  have hl : lv_has ls 1 [(0, .int a1)] := hl
  unfold f_X3_losesOf at hf
  refine lv_iload_n hx hb dX3_losesOf_0 rfl (lv_at hl 0 rfl) ?_
  by_cases hq1_1 : a1 = 1
  · refine lv_tableIn (tgt := 40) hx hb dX3_losesOf_1 (by rw [hq1_1]; decide) (by rw [hq1_1]; decide) (off := 39) (by rw [hq1_1]; rfl) (by decide) ?_
    have hf := fg_ifT hf hq1_1
    refine lv_iconst (v := 2) hx hb dX3_losesOf_40 rfl ?_
    exact fg_reti hx hb hr hlk hK h hf dX3_losesOf_41
  have hf := fg_ifF hf hq1_1
  by_cases hq1_2 : a1 = 2
  · refine lv_tableIn (tgt := 49) hx hb dX3_losesOf_1 (by rw [hq1_2]; decide) (by rw [hq1_2]; decide) (off := 48) (by rw [hq1_2]; rfl) (by decide) ?_
    have hf := fg_ifT hf hq1_2
    refine lv_bipush (v := 10) hx hb dX3_losesOf_49 rfl ?_
    exact fg_reti hx hb hr hlk hK h hf dX3_losesOf_51
  have hf := fg_ifF hf hq1_2
  by_cases hq1_3 : a1 = 3
  · refine lv_tableIn (tgt := 42) hx hb dX3_losesOf_1 (by rw [hq1_3]; decide) (by rw [hq1_3]; decide) (off := 41) (by rw [hq1_3]; rfl) (by decide) ?_
    have hf := fg_ifT hf hq1_3
    refine lv_iconst (v := 5) hx hb dX3_losesOf_42 rfl ?_
    exact fg_reti hx hb hr hlk hK h hf dX3_losesOf_43
  have hf := fg_ifF hf hq1_3
  by_cases hq1_4 : a1 = 4
  · refine lv_tableIn (tgt := 44) hx hb dX3_losesOf_1 (by rw [hq1_4]; decide) (by rw [hq1_4]; decide) (off := 43) (by rw [hq1_4]; rfl) (by decide) ?_
    have hf := fg_ifT hf hq1_4
    refine lv_iconst (v := 0) hx hb dX3_losesOf_44 rfl ?_
    exact fg_reti hx hb hr hlk hK h hf dX3_losesOf_45
  have hf := fg_ifF hf hq1_4
  by_cases hq1_5 : a1 = 5
  · refine lv_tableIn (tgt := 46) hx hb dX3_losesOf_1 (by rw [hq1_5]; decide) (by rw [hq1_5]; decide) (off := 45) (by rw [hq1_5]; rfl) (by decide) ?_
    have hf := fg_ifT hf hq1_5
    refine lv_bipush (v := 20) hx hb dX3_losesOf_46 rfl ?_
    exact fg_reti hx hb hr hlk hK h hf dX3_losesOf_48
  have hf := fg_ifF hf hq1_5
  by_cases hq1_6 : a1 = 6
  · refine lv_tableIn (tgt := 40) hx hb dX3_losesOf_1 (by rw [hq1_6]; decide) (by rw [hq1_6]; decide) (off := 39) (by rw [hq1_6]; rfl) (by decide) ?_
    have hf := fg_ifT hf hq1_6
    refine lv_iconst (v := 2) hx hb dX3_losesOf_40 rfl ?_
    exact fg_reti hx hb hr hlk hK h hf dX3_losesOf_41
  have hf := fg_ifF hf hq1_6
  refine lv_tableOut (tgt := 49) hx hb dX3_losesOf_1 (by have := lv_neT hq1_1 (show (1 : Int32).toInt = 1 from rfl); have := lv_neT hq1_2 (show (2 : Int32).toInt = 2 from rfl); have := lv_neT hq1_3 (show (3 : Int32).toInt = 3 from rfl); have := lv_neT hq1_4 (show (4 : Int32).toInt = 4 from rfl); have := lv_neT hq1_5 (show (5 : Int32).toInt = 5 from rfl); have := lv_neT hq1_6 (show (6 : Int32).toInt = 6 from rfl); omega) (by decide) ?_
  refine lv_bipush (v := 10) hx hb dX3_losesOf_49 rfl ?_
  exact fg_reti hx hb hr hlk hK h hf dX3_losesOf_51
set_option maxHeartbeats 4000000 in
set_option maxRecDepth 100000 in
theorem c_X2_prefers (l : Launch) (D : va_G) (g : fg_G) (i : Nat) (a1 : Int32) (a2 : Int32) (a3 : Int32) (hi : i < 3) (w : fg_W) (r : Int32) (w' : fg_W) (hf : f_X2_prefers i a1 a2 a3 w = some (r, w')) : fg_M l yX2_prefers cX2_prefers 4 (some .boolean) 0 0 D g [.ref (g.1 2 i 0), .int a1, .int a2, .int a3] w (fg_Qi D g r w') := by
  refine fg_M.of rfl (Nat.le_of_ble_eq_true rfl) (fun p e s m below meth c ls S hr hlk hK h hl => ?_)
  have hx := S.1
  have hb := S.2.1
  have hl : lv_has ls 4 [(0, .ref (g.1 2 i 0)), (1, .int a1), (2, .int a2), (3, .int a3)] := hl
  unfold f_X2_prefers at hf
  refine lv_iload_n hx hb dX2_prefers_0 rfl (lv_at hl 1 rfl) ?_
  by_cases hq1_2 : a1 = 2
  · refine lv_tableIn (tgt := 38) hx hb dX2_prefers_1 (by rw [hq1_2]; decide) (by rw [hq1_2]; decide) (off := 37) (by rw [hq1_2]; rfl) (by decide) ?_
    have hf := fg_ifT hf hq1_2
    refine lv_aload_n hx hb dX2_prefers_38 rfl (lv_at hl 0 rfl) ?_
    refine fg_get (C := RX2) (T := TX2) (N := 16) S vu_X2 hK h (fg_p2_0 hi) rfl rfl 1 (by decide) vf_RX2_15 rfl rfl dX2_prefers_39 ?_
    refine lv_iload_n hx hb dX2_prefers_42 rfl (lv_at hl 2 rfl) ?_
    obtain ⟨hn1, hf⟩ := fg_gdE hf
    refine fg_iald hx hb hK h (fg_p2_2 hi) (fun _ => rfl) hn1 dX2_prefers_43 ?_
    refine lv_aload_n hx hb dX2_prefers_44 rfl (lv_at hl 0 rfl) ?_
    refine fg_get (C := RX2) (T := TX2) (N := 16) S vu_X2 hK h (fg_p2_0 hi) rfl rfl 1 (by decide) vf_RX2_15 rfl rfl dX2_prefers_45 ?_
    refine lv_iload_n hx hb dX2_prefers_48 rfl (lv_at hl 3 rfl) ?_
    obtain ⟨hn2, hf⟩ := fg_gdE hf
    refine fg_iald hx hb hK h (fg_p2_2 hi) (fun _ => rfl) hn2 dX2_prefers_49 ?_
    refine lv_icmp_ge (tgt := 57) hx hb dX2_prefers_50 (by decide) (fun hc => ?_) (fun hc => ?_)
    · have hf := fg_ifT hf hc
      refine lv_iconst (v := 0) hx hb dX2_prefers_57 rfl ?_
      exact fg_retz hx hb hr hlk hK h hf (by decide) dX2_prefers_58
    · have hf := fg_ifF hf hc
      refine lv_iconst (v := 1) hx hb dX2_prefers_53 rfl ?_
      refine lv_goto (tgt := 58) hx hb dX2_prefers_54 (by decide) ?_
      exact fg_retz hx hb hr hlk hK h hf (by decide) dX2_prefers_58
  have hf := fg_ifF hf hq1_2
  by_cases hq1_3 : a1 = 3
  · refine lv_tableIn (tgt := 38) hx hb dX2_prefers_1 (by rw [hq1_3]; decide) (by rw [hq1_3]; decide) (off := 37) (by rw [hq1_3]; rfl) (by decide) ?_
    have hf := fg_ifT hf hq1_3
    refine lv_aload_n hx hb dX2_prefers_38 rfl (lv_at hl 0 rfl) ?_
    refine fg_get (C := RX2) (T := TX2) (N := 16) S vu_X2 hK h (fg_p2_0 hi) rfl rfl 1 (by decide) vf_RX2_15 rfl rfl dX2_prefers_39 ?_
    refine lv_iload_n hx hb dX2_prefers_42 rfl (lv_at hl 2 rfl) ?_
    obtain ⟨hn3, hf⟩ := fg_gdE hf
    refine fg_iald hx hb hK h (fg_p2_2 hi) (fun _ => rfl) hn3 dX2_prefers_43 ?_
    refine lv_aload_n hx hb dX2_prefers_44 rfl (lv_at hl 0 rfl) ?_
    refine fg_get (C := RX2) (T := TX2) (N := 16) S vu_X2 hK h (fg_p2_0 hi) rfl rfl 1 (by decide) vf_RX2_15 rfl rfl dX2_prefers_45 ?_
    refine lv_iload_n hx hb dX2_prefers_48 rfl (lv_at hl 3 rfl) ?_
    obtain ⟨hn4, hf⟩ := fg_gdE hf
    refine fg_iald hx hb hK h (fg_p2_2 hi) (fun _ => rfl) hn4 dX2_prefers_49 ?_
    refine lv_icmp_ge (tgt := 57) hx hb dX2_prefers_50 (by decide) (fun hc => ?_) (fun hc => ?_)
    · have hf := fg_ifT hf hc
      refine lv_iconst (v := 0) hx hb dX2_prefers_57 rfl ?_
      exact fg_retz hx hb hr hlk hK h hf (by decide) dX2_prefers_58
    · have hf := fg_ifF hf hc
      refine lv_iconst (v := 1) hx hb dX2_prefers_53 rfl ?_
      refine lv_goto (tgt := 58) hx hb dX2_prefers_54 (by decide) ?_
      exact fg_retz hx hb hr hlk hK h hf (by decide) dX2_prefers_58
  have hf := fg_ifF hf hq1_3
  by_cases hq1_4 : a1 = 4
  · refine lv_tableIn (tgt := 38) hx hb dX2_prefers_1 (by rw [hq1_4]; decide) (by rw [hq1_4]; decide) (off := 37) (by rw [hq1_4]; rfl) (by decide) ?_
    have hf := fg_ifT hf hq1_4
    refine lv_aload_n hx hb dX2_prefers_38 rfl (lv_at hl 0 rfl) ?_
    refine fg_get (C := RX2) (T := TX2) (N := 16) S vu_X2 hK h (fg_p2_0 hi) rfl rfl 1 (by decide) vf_RX2_15 rfl rfl dX2_prefers_39 ?_
    refine lv_iload_n hx hb dX2_prefers_42 rfl (lv_at hl 2 rfl) ?_
    obtain ⟨hn5, hf⟩ := fg_gdE hf
    refine fg_iald hx hb hK h (fg_p2_2 hi) (fun _ => rfl) hn5 dX2_prefers_43 ?_
    refine lv_aload_n hx hb dX2_prefers_44 rfl (lv_at hl 0 rfl) ?_
    refine fg_get (C := RX2) (T := TX2) (N := 16) S vu_X2 hK h (fg_p2_0 hi) rfl rfl 1 (by decide) vf_RX2_15 rfl rfl dX2_prefers_45 ?_
    refine lv_iload_n hx hb dX2_prefers_48 rfl (lv_at hl 3 rfl) ?_
    obtain ⟨hn6, hf⟩ := fg_gdE hf
    refine fg_iald hx hb hK h (fg_p2_2 hi) (fun _ => rfl) hn6 dX2_prefers_49 ?_
    refine lv_icmp_ge (tgt := 57) hx hb dX2_prefers_50 (by decide) (fun hc => ?_) (fun hc => ?_)
    · have hf := fg_ifT hf hc
      refine lv_iconst (v := 0) hx hb dX2_prefers_57 rfl ?_
      exact fg_retz hx hb hr hlk hK h hf (by decide) dX2_prefers_58
    · have hf := fg_ifF hf hc
      refine lv_iconst (v := 1) hx hb dX2_prefers_53 rfl ?_
      refine lv_goto (tgt := 58) hx hb dX2_prefers_54 (by decide) ?_
      exact fg_retz hx hb hr hlk hK h hf (by decide) dX2_prefers_58
  have hf := fg_ifF hf hq1_4
  by_cases hq1_5 : a1 = 5
  · refine lv_tableIn (tgt := 59) hx hb dX2_prefers_1 (by rw [hq1_5]; decide) (by rw [hq1_5]; decide) (off := 58) (by rw [hq1_5]; rfl) (by decide) ?_
    have hf := fg_ifT hf hq1_5
    refine lv_aload_n hx hb dX2_prefers_59 rfl (lv_at hl 0 rfl) ?_
    refine fg_get (C := RX2) (T := TX2) (N := 16) S vu_X2 hK h (fg_p2_0 hi) rfl rfl 0 (by decide) vf_RX2_9 rfl rfl dX2_prefers_60 ?_
    refine lv_iload_n hx hb dX2_prefers_63 rfl (lv_at hl 2 rfl) ?_
    obtain ⟨hn7, hf⟩ := fg_gdE hf
    refine fg_iald hx hb hK h (fg_p2_1 hi) (fun _ => rfl) hn7 dX2_prefers_64 ?_
    refine lv_aload_n hx hb dX2_prefers_65 rfl (lv_at hl 0 rfl) ?_
    refine fg_get (C := RX2) (T := TX2) (N := 16) S vu_X2 hK h (fg_p2_0 hi) rfl rfl 0 (by decide) vf_RX2_9 rfl rfl dX2_prefers_66 ?_
    refine lv_iload_n hx hb dX2_prefers_69 rfl (lv_at hl 3 rfl) ?_
    obtain ⟨hn8, hf⟩ := fg_gdE hf
    refine fg_iald hx hb hK h (fg_p2_1 hi) (fun _ => rfl) hn8 dX2_prefers_70 ?_
    refine lv_icmp_le (tgt := 78) hx hb dX2_prefers_71 (by decide) (fun hc => ?_) (fun hc => ?_)
    · have hf := fg_ifT hf hc
      refine lv_iconst (v := 0) hx hb dX2_prefers_78 rfl ?_
      exact fg_retz hx hb hr hlk hK h hf (by decide) dX2_prefers_79
    · have hf := fg_ifF hf hc
      refine lv_iconst (v := 1) hx hb dX2_prefers_74 rfl ?_
      refine lv_goto (tgt := 79) hx hb dX2_prefers_75 (by decide) ?_
      exact fg_retz hx hb hr hlk hK h hf (by decide) dX2_prefers_79
  have hf := fg_ifF hf hq1_5
  by_cases hq1_6 : a1 = 6
  · refine lv_tableIn (tgt := 36) hx hb dX2_prefers_1 (by rw [hq1_6]; decide) (by rw [hq1_6]; decide) (off := 35) (by rw [hq1_6]; rfl) (by decide) ?_
    have hf := fg_ifT hf hq1_6
    refine lv_iconst (v := 0) hx hb dX2_prefers_36 rfl ?_
    exact fg_retz hx hb hr hlk hK h hf (by decide) dX2_prefers_37
  have hf := fg_ifF hf hq1_6
  refine lv_tableOut (tgt := 59) hx hb dX2_prefers_1 (by have := lv_neT hq1_2 (show (2 : Int32).toInt = 2 from rfl); have := lv_neT hq1_3 (show (3 : Int32).toInt = 3 from rfl); have := lv_neT hq1_4 (show (4 : Int32).toInt = 4 from rfl); have := lv_neT hq1_5 (show (5 : Int32).toInt = 5 from rfl); have := lv_neT hq1_6 (show (6 : Int32).toInt = 6 from rfl); omega) (by decide) ?_
  refine lv_aload_n hx hb dX2_prefers_59 rfl (lv_at hl 0 rfl) ?_
  refine fg_get (C := RX2) (T := TX2) (N := 16) S vu_X2 hK h (fg_p2_0 hi) rfl rfl 0 (by decide) vf_RX2_9 rfl rfl dX2_prefers_60 ?_
  refine lv_iload_n hx hb dX2_prefers_63 rfl (lv_at hl 2 rfl) ?_
  obtain ⟨hn9, hf⟩ := fg_gdE hf
  refine fg_iald hx hb hK h (fg_p2_1 hi) (fun _ => rfl) hn9 dX2_prefers_64 ?_
  refine lv_aload_n hx hb dX2_prefers_65 rfl (lv_at hl 0 rfl) ?_
  refine fg_get (C := RX2) (T := TX2) (N := 16) S vu_X2 hK h (fg_p2_0 hi) rfl rfl 0 (by decide) vf_RX2_9 rfl rfl dX2_prefers_66 ?_
  refine lv_iload_n hx hb dX2_prefers_69 rfl (lv_at hl 3 rfl) ?_
  obtain ⟨hn10, hf⟩ := fg_gdE hf
  refine fg_iald hx hb hK h (fg_p2_1 hi) (fun _ => rfl) hn10 dX2_prefers_70 ?_
  refine lv_icmp_le (tgt := 78) hx hb dX2_prefers_71 (by decide) (fun hc => ?_) (fun hc => ?_)
  · have hf := fg_ifT hf hc
    refine lv_iconst (v := 0) hx hb dX2_prefers_78 rfl ?_
    exact fg_retz hx hb hr hlk hK h hf (by decide) dX2_prefers_79
  · have hf := fg_ifF hf hc
    refine lv_iconst (v := 1) hx hb dX2_prefers_74 rfl ?_
    refine lv_goto (tgt := 79) hx hb dX2_prefers_75 (by decide) ?_
    exact fg_retz hx hb hr hlk hK h hf (by decide) dX2_prefers_79
set_option maxHeartbeats 4000000 in
set_option maxRecDepth 100000 in
theorem c_X2_lotMadeFor (l : Launch) (D : va_G) (g : fg_G) (i : Nat) (a1 : Int32) (hi : i < 3) (w : fg_W) (r : Int32) (w' : fg_W) (hf : f_X2_lotMadeFor i a1 w = some (r, w')) : fg_M l yX2_lotMadeFor cX2_lotMadeFor 4 (some .int) 2 48 D g [.ref (g.1 2 i 0), .int a1] w (fg_Qi D g r w') := by
  refine fg_M.of rfl (Nat.le_of_ble_eq_true rfl) (fun p e s m below meth c ls S hr hlk hK h hl => ?_)
  have hx := S.1
  have hb := S.2.1
  have hl : lv_has ls 4 [(0, .ref (g.1 2 i 0)), (1, .int a1)] := hl
  unfold f_X2_lotMadeFor at hf
  refine lv_iconst (v := (-1)) hx hb dX2_lotMadeFor_0 rfl ?_
  refine lv_istore_n (lv' := [(2, .int (-1)), (0, .ref (g.1 2 i 0)), (1, .int a1)]) hx hb dX2_lotMadeFor_1 rfl hl (by decide) rfl (fun ls hl => ?_)
  refine lv_iconst (v := 0) hx hb dX2_lotMadeFor_2 rfl ?_
  refine lv_istore_n (lv' := [(3, .int 0), (2, .int (-1)), (0, .ref (g.1 2 i 0)), (1, .int a1)]) hx hb dX2_lotMadeFor_3 rfl hl (by decide) rfl (fun ls hl => ?_)
  have hK_4 : ∀ (v2_4 : Int32) (v3_4 : Int32) (w_4 : fg_W) (H : Heap) (locs : List Loc) (ls : Array Slot), fg_H D g s.heap w_4 H locs → lv_has ls 4 [(0, .ref (g.1 2 i 0)), (1, .int a1), (2, .int v2_4), (3, .int v3_4)] → (some (v2_4, w_4)) = some (r, w') → fg_Gi p l e 2 48 s m [.ref (g.1 2 i 0), .int a1] below meth c D g r w' H locs 46 ls [] := by
    intro v2_4 v3_4 w_4 H locs ls h hl hf
    refine lv_iload_n hx hb dX2_lotMadeFor_46 rfl (lv_at hl 2 rfl) ?_
    exact fg_reti hx hb hr hlk hK h hf dX2_lotMadeFor_47
  have hL_4 : ∀ (KK_4 : Int32 → Int32 → fg_W → Option (Int32 × fg_W)) (hK_4 : ∀ (v2_4 : Int32) (v3_4 : Int32) (w_4 : fg_W) (H : Heap) (locs : List Loc) (ls : Array Slot), fg_H D g s.heap w_4 H locs → lv_has ls 4 [(0, .ref (g.1 2 i 0)), (1, .int a1), (2, .int v2_4), (3, .int v3_4)] → KK_4 v2_4 v3_4 w_4 = some (r, w') → fg_Gi p l e 2 48 s m [.ref (g.1 2 i 0), .int a1] below meth c D g r w' H locs 46 ls []) (n : Nat) (v2_4 : Int32) (v3_4 : Int32) (w_4 : fg_W) (H : Heap) (locs : List Loc) (ls : Array Slot), fg_H D g s.heap w_4 H locs → lv_has ls 4 [(0, .ref (g.1 2 i 0)), (1, .int a1), (2, .int v2_4), (3, .int v3_4)] → f_X2_lotMadeFor_L4 i a1 KK_4 n v2_4 v3_4 w_4 = some (r, w') → fg_Gi p l e 2 48 s m [.ref (g.1 2 i 0), .int a1] below meth c D g r w' H locs 4 ls [] := by
    intro KK_4 hK_4 n
    induction n with
    | zero => intro v2_4 v3_4 w_4 H locs ls h hl hf; exact fg_no hf
    | succ n_4 ih_4 =>
      intro v2_4 v3_4 w_4 H locs ls h hl hf
      unfold f_X2_lotMadeFor_L4 at hf
      refine lv_iload_n hx hb dX2_lotMadeFor_4 rfl (lv_at hl 3 rfl) ?_
      refine lv_bipush (v := 10) hx hb dX2_lotMadeFor_5 rfl ?_
      refine lv_icmp_ge (tgt := 46) hx hb dX2_lotMadeFor_7 (by decide) (fun hc => ?_) (fun hc => ?_)
      · have hf := fg_ifT hf hc
        exact hK_4 v2_4 v3_4 w_4 _ _ ls h (lv_sub hl [0, 1, 2, 3] rfl) hf
      · have hf := fg_ifF hf hc
        refine lv_aload_n hx hb dX2_lotMadeFor_10 rfl (lv_at hl 0 rfl) ?_
        refine lv_iload_n hx hb dX2_lotMadeFor_11 rfl (lv_at hl 1 rfl) ?_
        refine lv_iload_n hx hb dX2_lotMadeFor_12 rfl (lv_at hl 3 rfl) ?_
        obtain ⟨r10, w8, hc9, hf⟩ := fg_biE hf
        refine fg_ci h (fg_runV (rest := []) S hK h (c_X2_stands l D g i a1 v3_4 hi w_4 r10 w8 hc9) vg_RX2_71 vd_X2_stands ⟨by decide, by decide⟩ (fg_p2_0 hi) rfl rfl rfl hl.1 rfl (Nat.le_of_ble_eq_true rfl) dX2_lotMadeFor_13 ⟨Nat.zero_le _, Nat.zero_le _⟩) (fun H locs h => ?_)
        refine lv_if_eq (tgt := 40) hx hb dX2_lotMadeFor_16 (by decide) (fun hc => ?_) (fun hc => ?_)
        · have hf := fg_ifT hf hc
          refine lv_iinc (v := (v3_4 + 1)) (lv' := [(3, .int (v3_4 + 1)), (0, .ref (g.1 2 i 0)), (1, .int a1), (2, .int v2_4)]) hx hb dX2_lotMadeFor_40 hl (k := 3) rfl rfl (by decide) rfl (fun ls hl => ?_)
          refine lv_goto (tgt := 4) hx hb dX2_lotMadeFor_43 (by decide) ?_
          exact ih_4 v2_4 (v3_4 + 1) w8 _ _ ls h (lv_sub hl [1, 2, 3, 0] rfl) hf
        · have hf := fg_ifF hf hc
          refine lv_iload_n hx hb dX2_lotMadeFor_19 rfl (lv_at hl 2 rfl) ?_
          refine lv_if_lt (tgt := 38) hx hb dX2_lotMadeFor_20 (by decide) (fun hc => ?_) (fun hc => ?_)
          · have hf := fg_ifT hf hc
            refine lv_iload_n hx hb dX2_lotMadeFor_38 rfl (lv_at hl 3 rfl) ?_
            refine lv_istore_n (lv' := [(2, .int v3_4), (0, .ref (g.1 2 i 0)), (1, .int a1), (3, .int v3_4)]) hx hb dX2_lotMadeFor_39 rfl hl (by decide) rfl (fun ls hl => ?_)
            refine lv_iinc (v := (v3_4 + 1)) (lv' := [(3, .int (v3_4 + 1)), (2, .int v3_4), (0, .ref (g.1 2 i 0)), (1, .int a1)]) hx hb dX2_lotMadeFor_40 hl (k := 3) rfl rfl (by decide) rfl (fun ls hl => ?_)
            refine lv_goto (tgt := 4) hx hb dX2_lotMadeFor_43 (by decide) ?_
            exact ih_4 v3_4 (v3_4 + 1) w8 _ _ ls h (lv_sub hl [2, 3, 1, 0] rfl) hf
          · have hf := fg_ifF hf hc
            refine lv_aload_n hx hb dX2_lotMadeFor_23 rfl (lv_at hl 0 rfl) ?_
            refine lv_aload_n hx hb dX2_lotMadeFor_24 rfl (lv_at hl 0 rfl) ?_
            refine fg_get (C := RX2) (T := TX2) (N := 16) S vu_X2 hK h (fg_p2_0 hi) rfl rfl 6 (by decide) vf_RX2_31 rfl rfl dX2_lotMadeFor_25 ?_
            refine lv_iload_n hx hb dX2_lotMadeFor_28 rfl (lv_at hl 1 rfl) ?_
            obtain ⟨hn11, hf⟩ := fg_gdE hf
            refine fg_iald hx hb hK h (fg_p2_5 hi) (fun _ => rfl) hn11 dX2_lotMadeFor_29 ?_
            refine lv_iload_n hx hb dX2_lotMadeFor_30 rfl (lv_at hl 3 rfl) ?_
            refine lv_iload_n hx hb dX2_lotMadeFor_31 rfl (lv_at hl 2 rfl) ?_
            obtain ⟨r14, w12, hc13, hf⟩ := fg_biE hf
            refine fg_ci h (fg_runV (rest := []) S hK h (c_X2_prefers l D g i (w8.1 2 i 5 a1.toNatClampNeg) v3_4 v2_4 hi w8 r14 w12 hc13) vg_RX2_80 vd_X2_prefers ⟨by decide, by decide⟩ (fg_p2_0 hi) rfl rfl rfl hl.1 rfl (Nat.le_of_ble_eq_true rfl) dX2_lotMadeFor_32 ⟨Nat.zero_le _, Nat.zero_le _⟩) (fun H locs h => ?_)
            refine lv_if_eq (tgt := 40) hx hb dX2_lotMadeFor_35 (by decide) (fun hc => ?_) (fun hc => ?_)
            · have hf := fg_ifT hf hc
              refine lv_iinc (v := (v3_4 + 1)) (lv' := [(3, .int (v3_4 + 1)), (0, .ref (g.1 2 i 0)), (1, .int a1), (2, .int v2_4)]) hx hb dX2_lotMadeFor_40 hl (k := 3) rfl rfl (by decide) rfl (fun ls hl => ?_)
              refine lv_goto (tgt := 4) hx hb dX2_lotMadeFor_43 (by decide) ?_
              exact ih_4 v2_4 (v3_4 + 1) w12 _ _ ls h (lv_sub hl [1, 2, 3, 0] rfl) hf
            · have hf := fg_ifF hf hc
              refine lv_iload_n hx hb dX2_lotMadeFor_38 rfl (lv_at hl 3 rfl) ?_
              refine lv_istore_n (lv' := [(2, .int v3_4), (0, .ref (g.1 2 i 0)), (1, .int a1), (3, .int v3_4)]) hx hb dX2_lotMadeFor_39 rfl hl (by decide) rfl (fun ls hl => ?_)
              refine lv_iinc (v := (v3_4 + 1)) (lv' := [(3, .int (v3_4 + 1)), (2, .int v3_4), (0, .ref (g.1 2 i 0)), (1, .int a1)]) hx hb dX2_lotMadeFor_40 hl (k := 3) rfl rfl (by decide) rfl (fun ls hl => ?_)
              refine lv_goto (tgt := 4) hx hb dX2_lotMadeFor_43 (by decide) ?_
              exact ih_4 v3_4 (v3_4 + 1) w12 _ _ ls h (lv_sub hl [2, 3, 1, 0] rfl) hf
  exact hL_4 _ hK_4 fg_fuel (-1) 0 w _ _ ls h (lv_sub hl [2, 3, 1, 0] rfl) hf
set_option maxHeartbeats 4000000 in
set_option maxRecDepth 100000 in
theorem c_X2_lotsOwnedBy (l : Launch) (D : va_G) (g : fg_G) (i : Nat) (a1 : Int32) (hi : i < 3) (w : fg_W) (r : Int32) (w' : fg_W) (hf : f_X2_lotsOwnedBy i a1 w = some (r, w')) : fg_M l yX2_lotsOwnedBy cX2_lotsOwnedBy 4 (some .int) 0 0 D g [.ref (g.1 2 i 0), .int a1] w (fg_Qi D g r w') := by
  refine fg_M.of rfl (Nat.le_of_ble_eq_true rfl) (fun p e s m below meth c ls S hr hlk hK h hl => ?_)
  have hx := S.1
  have hb := S.2.1
  have hl : lv_has ls 4 [(0, .ref (g.1 2 i 0)), (1, .int a1)] := hl
  unfold f_X2_lotsOwnedBy at hf
  refine lv_iconst (v := 0) hx hb dX2_lotsOwnedBy_0 rfl ?_
  refine lv_istore_n (lv' := [(2, .int 0), (0, .ref (g.1 2 i 0)), (1, .int a1)]) hx hb dX2_lotsOwnedBy_1 rfl hl (by decide) rfl (fun ls hl => ?_)
  refine lv_iconst (v := 0) hx hb dX2_lotsOwnedBy_2 rfl ?_
  refine lv_istore_n (lv' := [(3, .int 0), (2, .int 0), (0, .ref (g.1 2 i 0)), (1, .int a1)]) hx hb dX2_lotsOwnedBy_3 rfl hl (by decide) rfl (fun ls hl => ?_)
  have hK_4 : ∀ (v2_4 : Int32) (v3_4 : Int32) (w_4 : fg_W) (H : Heap) (locs : List Loc) (ls : Array Slot), fg_H D g s.heap w_4 H locs → lv_has ls 4 [(0, .ref (g.1 2 i 0)), (1, .int a1), (2, .int v2_4), (3, .int v3_4)] → (some (v2_4, w_4)) = some (r, w') → fg_Gi p l e 0 0 s m [.ref (g.1 2 i 0), .int a1] below meth c D g r w' H locs 32 ls [] := by
    intro v2_4 v3_4 w_4 H locs ls h hl hf
    refine lv_iload_n hx hb dX2_lotsOwnedBy_32 rfl (lv_at hl 2 rfl) ?_
    exact fg_reti hx hb hr hlk hK h hf dX2_lotsOwnedBy_33
  have hL_4 : ∀ (KK_4 : Int32 → Int32 → fg_W → Option (Int32 × fg_W)) (hK_4 : ∀ (v2_4 : Int32) (v3_4 : Int32) (w_4 : fg_W) (H : Heap) (locs : List Loc) (ls : Array Slot), fg_H D g s.heap w_4 H locs → lv_has ls 4 [(0, .ref (g.1 2 i 0)), (1, .int a1), (2, .int v2_4), (3, .int v3_4)] → KK_4 v2_4 v3_4 w_4 = some (r, w') → fg_Gi p l e 0 0 s m [.ref (g.1 2 i 0), .int a1] below meth c D g r w' H locs 32 ls []) (n : Nat) (v2_4 : Int32) (v3_4 : Int32) (w_4 : fg_W) (H : Heap) (locs : List Loc) (ls : Array Slot), fg_H D g s.heap w_4 H locs → lv_has ls 4 [(0, .ref (g.1 2 i 0)), (1, .int a1), (2, .int v2_4), (3, .int v3_4)] → f_X2_lotsOwnedBy_L4 i a1 KK_4 n v2_4 v3_4 w_4 = some (r, w') → fg_Gi p l e 0 0 s m [.ref (g.1 2 i 0), .int a1] below meth c D g r w' H locs 4 ls [] := by
    intro KK_4 hK_4 n
    induction n with
    | zero => intro v2_4 v3_4 w_4 H locs ls h hl hf; exact fg_no hf
    | succ n_4 ih_4 =>
      intro v2_4 v3_4 w_4 H locs ls h hl hf
      unfold f_X2_lotsOwnedBy_L4 at hf
      refine lv_iload_n hx hb dX2_lotsOwnedBy_4 rfl (lv_at hl 3 rfl) ?_
      refine lv_bipush (v := 10) hx hb dX2_lotsOwnedBy_5 rfl ?_
      refine lv_icmp_ge (tgt := 32) hx hb dX2_lotsOwnedBy_7 (by decide) (fun hc => ?_) (fun hc => ?_)
      · have hf := fg_ifT hf hc
        exact hK_4 v2_4 v3_4 w_4 _ _ ls h (lv_sub hl [0, 1, 2, 3] rfl) hf
      · have hf := fg_ifF hf hc
        refine lv_aload_n hx hb dX2_lotsOwnedBy_10 rfl (lv_at hl 0 rfl) ?_
        refine fg_get (C := RX2) (T := TX2) (N := 16) S vu_X2 hK h (fg_p2_0 hi) rfl rfl 2 (by decide) vf_RX2_18 rfl rfl dX2_lotsOwnedBy_11 ?_
        refine lv_iload_n hx hb dX2_lotsOwnedBy_14 rfl (lv_at hl 3 rfl) ?_
        obtain ⟨hn3, hf⟩ := fg_gdE hf
        refine fg_iald hx hb hK h (fg_p2_3 hi) (fun _ => rfl) hn3 dX2_lotsOwnedBy_15 ?_
        refine lv_iload_n hx hb dX2_lotsOwnedBy_16 rfl (lv_at hl 1 rfl) ?_
        refine lv_icmp_ne (tgt := 26) hx hb dX2_lotsOwnedBy_17 (by decide) (fun hc => ?_) (fun hc => ?_)
        · have hf := fg_ifF hf hc
          refine lv_iinc (v := (v3_4 + 1)) (lv' := [(3, .int (v3_4 + 1)), (0, .ref (g.1 2 i 0)), (1, .int a1), (2, .int v2_4)]) hx hb dX2_lotsOwnedBy_26 hl (k := 3) rfl rfl (by decide) rfl (fun ls hl => ?_)
          refine lv_goto (tgt := 4) hx hb dX2_lotsOwnedBy_29 (by decide) ?_
          exact ih_4 v2_4 (v3_4 + 1) w_4 _ _ ls h (lv_sub hl [1, 2, 3, 0] rfl) hf
        · have hf := fg_ifT hf hc
          refine lv_iload_n hx hb dX2_lotsOwnedBy_20 rfl (lv_at hl 2 rfl) ?_
          refine lv_iconst (v := 1) hx hb dX2_lotsOwnedBy_21 rfl ?_
          refine lv_iload_n hx hb dX2_lotsOwnedBy_22 rfl (lv_at hl 3 rfl) ?_
          refine lv_ishl hx hb dX2_lotsOwnedBy_23 ?_
          refine lv_ior hx hb dX2_lotsOwnedBy_24 ?_
          refine lv_topi (fun x4 e_x4 => ?_)
          have hf := fg_letE e_x4 hf
          refine lv_istore_n (lv' := [(2, .int x4), (0, .ref (g.1 2 i 0)), (1, .int a1), (3, .int v3_4)]) hx hb dX2_lotsOwnedBy_25 rfl hl (by decide) rfl (fun ls hl => ?_)
          refine lv_iinc (v := (v3_4 + 1)) (lv' := [(3, .int (v3_4 + 1)), (2, .int x4), (0, .ref (g.1 2 i 0)), (1, .int a1)]) hx hb dX2_lotsOwnedBy_26 hl (k := 3) rfl rfl (by decide) rfl (fun ls hl => ?_)
          refine lv_goto (tgt := 4) hx hb dX2_lotsOwnedBy_29 (by decide) ?_
          exact ih_4 x4 (v3_4 + 1) w_4 _ _ ls h (lv_sub hl [2, 3, 1, 0] rfl) hf
  exact hL_4 _ hK_4 fg_fuel 0 0 w _ _ ls h (lv_sub hl [2, 3, 1, 0] rfl) hf
set_option maxHeartbeats 4000000 in
set_option maxRecDepth 100000 in
theorem c_X2_valueOf (l : Launch) (D : va_G) (g : fg_G) (i : Nat) (a1 : Int32) (a2 : Int32) (hi : i < 3) (w : fg_W) (r : Int32) (w' : fg_W) (hf : f_X2_valueOf i a1 a2 w = some (r, w')) : fg_M l yX2_valueOf cX2_valueOf 3 (some .int) 0 0 D g [.ref (g.1 2 i 0), .int a1, .int a2] w (fg_Qi D g r w') := by
  refine fg_M.of rfl (Nat.le_of_ble_eq_true rfl) (fun p e s m below meth c ls S hr hlk hK h hl => ?_)
  have hx := S.1
  have hb := S.2.1
  have hl : lv_has ls 3 [(0, .ref (g.1 2 i 0)), (1, .int a1), (2, .int a2)] := hl
  unfold f_X2_valueOf at hf
  refine lv_iload_n hx hb dX2_valueOf_0 rfl (lv_at hl 2 rfl) ?_
  by_cases hq1_1 : a2 = 1
  · refine lv_tableIn (tgt := 28) hx hb dX2_valueOf_1 (by rw [hq1_1]; decide) (by rw [hq1_1]; decide) (off := 27) (by rw [hq1_1]; rfl) (by decide) ?_
    have hf := fg_ifT hf hq1_1
    refine lv_aload_n hx hb dX2_valueOf_28 rfl (lv_at hl 0 rfl) ?_
    refine fg_get (C := RX2) (T := TX2) (N := 16) S vu_X2 hK h (fg_p2_0 hi) rfl rfl 7 (by decide) vf_RX2_34 rfl rfl dX2_valueOf_29 ?_
    refine lv_iload_n hx hb dX2_valueOf_32 rfl (lv_at hl 1 rfl) ?_
    obtain ⟨hn1, hf⟩ := fg_gdE hf
    refine fg_iald hx hb hK h (fg_p2_6 hi) (fun _ => rfl) hn1 dX2_valueOf_33 ?_
    exact fg_reti hx hb hr hlk hK h hf dX2_valueOf_34
  have hf := fg_ifF hf hq1_1
  by_cases hq1_2 : a2 = 2
  · refine lv_tableIn (tgt := 35) hx hb dX2_valueOf_1 (by rw [hq1_2]; decide) (by rw [hq1_2]; decide) (off := 34) (by rw [hq1_2]; rfl) (by decide) ?_
    have hf := fg_ifT hf hq1_2
    refine lv_aload_n hx hb dX2_valueOf_35 rfl (lv_at hl 0 rfl) ?_
    refine fg_get (C := RX2) (T := TX2) (N := 16) S vu_X2 hK h (fg_p2_0 hi) rfl rfl 8 (by decide) vf_RX2_37 rfl rfl dX2_valueOf_36 ?_
    refine lv_iload_n hx hb dX2_valueOf_39 rfl (lv_at hl 1 rfl) ?_
    obtain ⟨hn2, hf⟩ := fg_gdE hf
    refine fg_iald hx hb hK h (fg_p2_7 hi) (fun _ => rfl) hn2 dX2_valueOf_40 ?_
    exact fg_reti hx hb hr hlk hK h hf dX2_valueOf_41
  have hf := fg_ifF hf hq1_2
  by_cases hq1_3 : a2 = 3
  · refine lv_tableIn (tgt := 42) hx hb dX2_valueOf_1 (by rw [hq1_3]; decide) (by rw [hq1_3]; decide) (off := 41) (by rw [hq1_3]; rfl) (by decide) ?_
    have hf := fg_ifT hf hq1_3
    refine lv_aload_n hx hb dX2_valueOf_42 rfl (lv_at hl 0 rfl) ?_
    refine fg_get (C := RX2) (T := TX2) (N := 16) S vu_X2 hK h (fg_p2_0 hi) rfl rfl 9 (by decide) vf_RX2_40 rfl rfl dX2_valueOf_43 ?_
    refine lv_iload_n hx hb dX2_valueOf_46 rfl (lv_at hl 1 rfl) ?_
    obtain ⟨hn3, hf⟩ := fg_gdE hf
    refine fg_iald hx hb hK h (fg_p2_8 hi) (fun _ => rfl) hn3 dX2_valueOf_47 ?_
    exact fg_reti hx hb hr hlk hK h hf dX2_valueOf_48
  have hf := fg_ifF hf hq1_3
  refine lv_tableOut (tgt := 49) hx hb dX2_valueOf_1 (by have := lv_neT hq1_1 (show (1 : Int32).toInt = 1 from rfl); have := lv_neT hq1_2 (show (2 : Int32).toInt = 2 from rfl); have := lv_neT hq1_3 (show (3 : Int32).toInt = 3 from rfl); omega) (by decide) ?_
  refine lv_aload_n hx hb dX2_valueOf_49 rfl (lv_at hl 0 rfl) ?_
  refine fg_get (C := RX2) (T := TX2) (N := 16) S vu_X2 hK h (fg_p2_0 hi) rfl rfl 10 (by decide) vf_RX2_43 rfl rfl dX2_valueOf_50 ?_
  refine lv_iload_n hx hb dX2_valueOf_53 rfl (lv_at hl 1 rfl) ?_
  obtain ⟨hn4, hf⟩ := fg_gdE hf
  refine fg_iald hx hb hK h (fg_p2_9 hi) (fun _ => rfl) hn4 dX2_valueOf_54 ?_
  exact fg_reti hx hb hr hlk hK h hf dX2_valueOf_55
set_option maxHeartbeats 4000000 in
set_option maxRecDepth 100000 in
theorem c_X2_thinAndThicken (l : Launch) (D : va_G) (g : fg_G) (i : Nat) (hi : i < 3) (w : fg_W) (w' : fg_W) (hf : f_X2_thinAndThicken i w = some w') : fg_M l yX2_thinAndThicken cX2_thinAndThicken 3 none 1 24 D g [.ref (g.1 2 i 0)] w (fg_Qv D g w') := by
  refine fg_M.of rfl (Nat.le_of_ble_eq_true rfl) (fun p e s m below meth c ls S hr hlk hK h hl => ?_)
  have hx := S.1
  have hb := S.2.1
  have hl : lv_has ls 3 [(0, .ref (g.1 2 i 0))] := hl
  unfold f_X2_thinAndThicken at hf
  refine lv_aload_n hx hb dX2_thinAndThicken_0 rfl (lv_at hl 0 rfl) ?_
  refine fg_get (C := RX2) (T := TX2) (N := 16) S vu_X2 hK h (fg_p2_0 hi) rfl rfl 4 (by decide) vf_RX2_24 rfl rfl dX2_thinAndThicken_1 ?_
  refine lv_aload_n hx hb dX2_thinAndThicken_4 rfl (lv_at hl 0 rfl) ?_
  refine fg_get (C := RX2) (T := TX2) (N := 16) S vu_X2 hK h (fg_p2_0 hi) rfl rfl 3 (by decide) vf_RX2_21 rfl rfl dX2_thinAndThicken_5 ?_
  refine lv_aload_n hx hb dX2_thinAndThicken_8 rfl (lv_at hl 0 rfl) ?_
  refine fg_get (C := RX2) (T := TX2) (N := 16) S vu_X2 hK h (fg_p2_0 hi) rfl rfl 12 (by decide) vf_RX2_49 rfl rfl dX2_thinAndThicken_9 ?_
  refine lv_bipush (v := 6) hx hb dX2_thinAndThicken_12 rfl ?_
  refine lv_irem hx hb dX2_thinAndThicken_14 (by decide) ?_
  obtain ⟨hn1, hf⟩ := fg_gdE hf
  refine fg_iald hx hb hK h (fg_p2_4 hi) (fun _ => rfl) hn1 dX2_thinAndThicken_15 ?_
  refine lv_isub hx hb dX2_thinAndThicken_16 ?_
  refine lv_topi (fun x2 e_x2 => ?_)
  have hf := fg_letE e_x2 hf
  refine lv_istore_n (lv' := [(1, .int x2), (0, .ref (g.1 2 i 0))]) hx hb dX2_thinAndThicken_17 rfl hl (by decide) rfl (fun ls hl => ?_)
  refine lv_iconst (v := 0) hx hb dX2_thinAndThicken_18 rfl ?_
  refine lv_istore_n (lv' := [(2, .int 0), (1, .int x2), (0, .ref (g.1 2 i 0))]) hx hb dX2_thinAndThicken_19 rfl hl (by decide) rfl (fun ls hl => ?_)
  have hK_20 : ∀ (v2_20 : Int32) (w_20 : fg_W) (H : Heap) (locs : List Loc) (ls : Array Slot), fg_H D g s.heap w_20 H locs → lv_has ls 3 [(0, .ref (g.1 2 i 0)), (1, .int x2), (2, .int v2_20)] → (some w_20) = some w' → fg_Gv p l e 1 24 s m [.ref (g.1 2 i 0)] below meth c D g w' H locs 55 ls [] := by
    intro v2_20 w_20 H locs ls h hl hf
    exact fg_retv hx hb hr hlk hK h hf dX2_thinAndThicken_55
  have hL_20 : ∀ (KK_20 : Int32 → fg_W → Option fg_W) (hK_20 : ∀ (v2_20 : Int32) (w_20 : fg_W) (H : Heap) (locs : List Loc) (ls : Array Slot), fg_H D g s.heap w_20 H locs → lv_has ls 3 [(0, .ref (g.1 2 i 0)), (1, .int x2), (2, .int v2_20)] → KK_20 v2_20 w_20 = some w' → fg_Gv p l e 1 24 s m [.ref (g.1 2 i 0)] below meth c D g w' H locs 55 ls []) (n : Nat) (v2_20 : Int32) (w_20 : fg_W) (H : Heap) (locs : List Loc) (ls : Array Slot), fg_H D g s.heap w_20 H locs → lv_has ls 3 [(0, .ref (g.1 2 i 0)), (1, .int x2), (2, .int v2_20)] → f_X2_thinAndThicken_L20 i x2 KK_20 n v2_20 w_20 = some w' → fg_Gv p l e 1 24 s m [.ref (g.1 2 i 0)] below meth c D g w' H locs 20 ls [] := by
    intro KK_20 hK_20 n
    induction n with
    | zero => intro v2_20 w_20 H locs ls h hl hf; exact fg_no hf
    | succ n_20 ih_20 =>
      intro v2_20 w_20 H locs ls h hl hf
      unfold f_X2_thinAndThicken_L20 at hf
      refine lv_iload_n hx hb dX2_thinAndThicken_20 rfl (lv_at hl 2 rfl) ?_
      refine lv_bipush (v := 10) hx hb dX2_thinAndThicken_21 rfl ?_
      refine lv_icmp_ge (tgt := 55) hx hb dX2_thinAndThicken_23 (by decide) (fun hc => ?_) (fun hc => ?_)
      · have hf := fg_ifT hf hc
        exact hK_20 v2_20 w_20 _ _ ls h (lv_sub hl [0, 1, 2] rfl) hf
      · have hf := fg_ifF hf hc
        refine lv_aload_n hx hb dX2_thinAndThicken_26 rfl (lv_at hl 0 rfl) ?_
        refine fg_get (C := RX2) (T := TX2) (N := 16) S vu_X2 hK h (fg_p2_0 hi) rfl rfl 0 (by decide) vf_RX2_9 rfl rfl dX2_thinAndThicken_27 ?_
        refine lv_iload_n hx hb dX2_thinAndThicken_30 rfl (lv_at hl 2 rfl) ?_
        refine lv_iconst (v := 0) hx hb dX2_thinAndThicken_31 rfl ?_
        refine lv_bipush (v := 99) hx hb dX2_thinAndThicken_32 rfl ?_
        refine lv_aload_n hx hb dX2_thinAndThicken_34 rfl (lv_at hl 0 rfl) ?_
        refine fg_get (C := RX2) (T := TX2) (N := 16) S vu_X2 hK h (fg_p2_0 hi) rfl rfl 0 (by decide) vf_RX2_9 rfl rfl dX2_thinAndThicken_35 ?_
        refine lv_iload_n hx hb dX2_thinAndThicken_38 rfl (lv_at hl 2 rfl) ?_
        obtain ⟨hn6, hf⟩ := fg_gdE hf
        refine fg_iald hx hb hK h (fg_p2_1 hi) (fun _ => rfl) hn6 dX2_thinAndThicken_39 ?_
        refine lv_iload_n hx hb dX2_thinAndThicken_40 rfl (lv_at hl 1 rfl) ?_
        refine lv_iadd hx hb dX2_thinAndThicken_41 ?_
        refine va_mmin hx hb (S.2.2.1.trans hl.1.symm) S.2.2.2.1 (S.2.2.2.2 _ vm_RX2_100) (S.2.2.2.2 _ vs_J9_min_7cf53) (S.2.2.2.2 _ vi_Math) (S.2.2.2.2 _ vk_Mmin) (by decide) (Nat.le_of_ble_eq_true rfl) (Nat.zero_le _) (Nat.zero_le _) dX2_thinAndThicken_42 ?_
        refine va_mmax hx hb (S.2.2.1.trans hl.1.symm) S.2.2.2.1 (S.2.2.2.2 _ vm_RX2_105) (S.2.2.2.2 _ vs_J9_max_7cf53) (S.2.2.2.2 _ vi_Math) (S.2.2.2.2 _ vk_Mmax) (by decide) (Nat.le_of_ble_eq_true rfl) (Nat.zero_le _) (Nat.zero_le _) dX2_thinAndThicken_45 ?_
        obtain ⟨hn8, hf⟩ := fg_gdE hf
        refine fg_iast hx hb hK h (fg_p2_1 hi) (fun _ => rfl) hn8 dX2_thinAndThicken_48 (fun w7 H locs ew h => ?_)
        have hf := fg_letE ew hf
        refine lv_iinc (v := (v2_20 + 1)) (lv' := [(2, .int (v2_20 + 1)), (0, .ref (g.1 2 i 0)), (1, .int x2)]) hx hb dX2_thinAndThicken_49 hl (k := 2) rfl rfl (by decide) rfl (fun ls hl => ?_)
        refine lv_goto (tgt := 20) hx hb dX2_thinAndThicken_52 (by decide) ?_
        exact ih_20 (v2_20 + 1) w7 _ _ ls h (lv_sub hl [1, 2, 0] rfl) hf
  exact hL_20 _ hK_20 fg_fuel 0 w _ _ ls h (lv_sub hl [2, 1, 0] rfl) hf
set_option maxHeartbeats 4000000 in
set_option maxRecDepth 100000 in
theorem c_X2_spreadFog (l : Launch) (D : va_G) (g : fg_G) (i : Nat) (hi : i < 3) (w : fg_W) (w' : fg_W) (hf : f_X2_spreadFog i w = some w') : fg_M l yX2_spreadFog cX2_spreadFog 2 none 0 0 D g [.ref (g.1 2 i 0)] w (fg_Qv D g w') := by
  refine fg_M.of rfl (Nat.le_of_ble_eq_true rfl) (fun p e s m below meth c ls S hr hlk hK h hl => ?_)
  have hx := S.1
  have hb := S.2.1
  have hl : lv_has ls 2 [(0, .ref (g.1 2 i 0))] := hl
  unfold f_X2_spreadFog at hf
  refine lv_iconst (v := 0) hx hb dX2_spreadFog_0 rfl ?_
  refine lv_istore_n (lv' := [(1, .int 0), (0, .ref (g.1 2 i 0))]) hx hb dX2_spreadFog_1 rfl hl (by decide) rfl (fun ls hl => ?_)
  have hK_2 : ∀ (v1_2 : Int32) (w_2 : fg_W) (H : Heap) (locs : List Loc) (ls : Array Slot), fg_H D g s.heap w_2 H locs → lv_has ls 2 [(0, .ref (g.1 2 i 0)), (1, .int v1_2)] → (f_X2_spreadFog_L39 i (fun v1_39 w_39 => some w_39) fg_fuel 0 w_2) = some w' → fg_Gv p l e 0 0 s m [.ref (g.1 2 i 0)] below meth c D g w' H locs 37 ls [] := by
    intro v1_2 w_2 H locs ls h hl hf
    refine lv_iconst (v := 0) hx hb dX2_spreadFog_37 rfl ?_
    refine lv_istore_n (lv' := [(1, .int 0), (0, .ref (g.1 2 i 0))]) hx hb dX2_spreadFog_38 rfl hl (by decide) rfl (fun ls hl => ?_)
    have hK_39 : ∀ (v1_39 : Int32) (w_39 : fg_W) (H : Heap) (locs : List Loc) (ls : Array Slot), fg_H D g s.heap w_39 H locs → lv_has ls 2 [(0, .ref (g.1 2 i 0)), (1, .int v1_39)] → (some w_39) = some w' → fg_Gv p l e 0 0 s m [.ref (g.1 2 i 0)] below meth c D g w' H locs 83 ls [] := by
      intro v1_39 w_39 H locs ls h hl hf
      exact fg_retv hx hb hr hlk hK h hf dX2_spreadFog_83
    have hL_39 : ∀ (KK_39 : Int32 → fg_W → Option fg_W) (hK_39 : ∀ (v1_39 : Int32) (w_39 : fg_W) (H : Heap) (locs : List Loc) (ls : Array Slot), fg_H D g s.heap w_39 H locs → lv_has ls 2 [(0, .ref (g.1 2 i 0)), (1, .int v1_39)] → KK_39 v1_39 w_39 = some w' → fg_Gv p l e 0 0 s m [.ref (g.1 2 i 0)] below meth c D g w' H locs 83 ls []) (n : Nat) (v1_39 : Int32) (w_39 : fg_W) (H : Heap) (locs : List Loc) (ls : Array Slot), fg_H D g s.heap w_39 H locs → lv_has ls 2 [(0, .ref (g.1 2 i 0)), (1, .int v1_39)] → f_X2_spreadFog_L39 i KK_39 n v1_39 w_39 = some w' → fg_Gv p l e 0 0 s m [.ref (g.1 2 i 0)] below meth c D g w' H locs 39 ls [] := by
      intro KK_39 hK_39 n
      induction n with
      | zero => intro v1_39 w_39 H locs ls h hl hf; exact fg_no hf
      | succ n_39 ih_39 =>
        intro v1_39 w_39 H locs ls h hl hf
        unfold f_X2_spreadFog_L39 at hf
        refine lv_iload_n hx hb dX2_spreadFog_39 rfl (lv_at hl 1 rfl) ?_
        refine lv_bipush (v := 9) hx hb dX2_spreadFog_40 rfl ?_
        refine lv_icmp_ge (tgt := 83) hx hb dX2_spreadFog_42 (by decide) (fun hc => ?_) (fun hc => ?_)
        · have hf := fg_ifT hf hc
          exact hK_39 v1_39 w_39 _ _ ls h (lv_sub hl [0, 1] rfl) hf
        · have hf := fg_ifF hf hc
          refine lv_aload_n hx hb dX2_spreadFog_45 rfl (lv_at hl 0 rfl) ?_
          refine fg_get (C := RX2) (T := TX2) (N := 16) S vu_X2 hK h (fg_p2_0 hi) rfl rfl 0 (by decide) vf_RX2_9 rfl rfl dX2_spreadFog_46 ?_
          refine lv_iload_n hx hb dX2_spreadFog_49 rfl (lv_at hl 1 rfl) ?_
          refine lv_dup2_11 hx hb dX2_spreadFog_50 rfl rfl ?_
          obtain ⟨hn9, hf⟩ := fg_gdE hf
          refine fg_iald hx hb hK h (fg_p2_1 hi) (fun _ => rfl) hn9 dX2_spreadFog_51 ?_
          refine lv_aload_n hx hb dX2_spreadFog_52 rfl (lv_at hl 0 rfl) ?_
          refine fg_get (C := RX2) (T := TX2) (N := 16) S vu_X2 hK h (fg_p2_0 hi) rfl rfl 15 (by decide) vf_RX2_58 rfl rfl dX2_spreadFog_53 ?_
          refine lv_iload_n hx hb dX2_spreadFog_56 rfl (lv_at hl 1 rfl) ?_
          obtain ⟨hn10, hf⟩ := fg_gdE hf
          refine fg_iald hx hb hK h (fg_p2_11 hi) (fun _ => rfl) hn10 dX2_spreadFog_57 ?_
          refine lv_isub hx hb dX2_spreadFog_58 ?_
          obtain ⟨hn12, hf⟩ := fg_gdE hf
          refine fg_iast hx hb hK h (fg_p2_1 hi) (fun _ => rfl) hn12 dX2_spreadFog_59 (fun w11 H locs ew h => ?_)
          have hf := fg_letE ew hf
          refine lv_aload_n hx hb dX2_spreadFog_60 rfl (lv_at hl 0 rfl) ?_
          refine fg_get (C := RX2) (T := TX2) (N := 16) S vu_X2 hK h (fg_p2_0 hi) rfl rfl 0 (by decide) vf_RX2_9 rfl rfl dX2_spreadFog_61 ?_
          refine lv_iload_n hx hb dX2_spreadFog_64 rfl (lv_at hl 1 rfl) ?_
          refine lv_iconst (v := 1) hx hb dX2_spreadFog_65 rfl ?_
          refine lv_iadd hx hb dX2_spreadFog_66 ?_
          refine lv_dup2_11 hx hb dX2_spreadFog_67 rfl rfl ?_
          obtain ⟨hn13, hf⟩ := fg_gdE hf
          refine fg_iald hx hb hK h (fg_p2_1 hi) (fun _ => rfl) hn13 dX2_spreadFog_68 ?_
          refine lv_aload_n hx hb dX2_spreadFog_69 rfl (lv_at hl 0 rfl) ?_
          refine fg_get (C := RX2) (T := TX2) (N := 16) S vu_X2 hK h (fg_p2_0 hi) rfl rfl 15 (by decide) vf_RX2_58 rfl rfl dX2_spreadFog_70 ?_
          refine lv_iload_n hx hb dX2_spreadFog_73 rfl (lv_at hl 1 rfl) ?_
          obtain ⟨hn14, hf⟩ := fg_gdE hf
          refine fg_iald hx hb hK h (fg_p2_11 hi) (fun _ => rfl) hn14 dX2_spreadFog_74 ?_
          refine lv_iadd hx hb dX2_spreadFog_75 ?_
          obtain ⟨hn16, hf⟩ := fg_gdE hf
          refine fg_iast hx hb hK h (fg_p2_1 hi) (fun _ => rfl) hn16 dX2_spreadFog_76 (fun w15 H locs ew h => ?_)
          have hf := fg_letE ew hf
          refine lv_iinc (v := (v1_39 + 1)) (lv' := [(1, .int (v1_39 + 1)), (0, .ref (g.1 2 i 0))]) hx hb dX2_spreadFog_77 hl (k := 1) rfl rfl (by decide) rfl (fun ls hl => ?_)
          refine lv_goto (tgt := 39) hx hb dX2_spreadFog_80 (by decide) ?_
          exact ih_39 (v1_39 + 1) w15 _ _ ls h (lv_sub hl [1, 0] rfl) hf
    exact hL_39 _ hK_39 fg_fuel 0 w_2 _ _ ls h (lv_sub hl [1, 0] rfl) hf
  have hL_2 : ∀ (KK_2 : Int32 → fg_W → Option fg_W) (hK_2 : ∀ (v1_2 : Int32) (w_2 : fg_W) (H : Heap) (locs : List Loc) (ls : Array Slot), fg_H D g s.heap w_2 H locs → lv_has ls 2 [(0, .ref (g.1 2 i 0)), (1, .int v1_2)] → KK_2 v1_2 w_2 = some w' → fg_Gv p l e 0 0 s m [.ref (g.1 2 i 0)] below meth c D g w' H locs 37 ls []) (n : Nat) (v1_2 : Int32) (w_2 : fg_W) (H : Heap) (locs : List Loc) (ls : Array Slot), fg_H D g s.heap w_2 H locs → lv_has ls 2 [(0, .ref (g.1 2 i 0)), (1, .int v1_2)] → f_X2_spreadFog_L2 i KK_2 n v1_2 w_2 = some w' → fg_Gv p l e 0 0 s m [.ref (g.1 2 i 0)] below meth c D g w' H locs 2 ls [] := by
    intro KK_2 hK_2 n
    induction n with
    | zero => intro v1_2 w_2 H locs ls h hl hf; exact fg_no hf
    | succ n_2 ih_2 =>
      intro v1_2 w_2 H locs ls h hl hf
      unfold f_X2_spreadFog_L2 at hf
      refine lv_iload_n hx hb dX2_spreadFog_2 rfl (lv_at hl 1 rfl) ?_
      refine lv_bipush (v := 9) hx hb dX2_spreadFog_3 rfl ?_
      refine lv_icmp_ge (tgt := 37) hx hb dX2_spreadFog_5 (by decide) (fun hc => ?_) (fun hc => ?_)
      · have hf := fg_ifT hf hc
        exact hK_2 v1_2 w_2 _ _ ls h (lv_sub hl [0, 1] rfl) hf
      · have hf := fg_ifF hf hc
        refine lv_aload_n hx hb dX2_spreadFog_8 rfl (lv_at hl 0 rfl) ?_
        refine fg_get (C := RX2) (T := TX2) (N := 16) S vu_X2 hK h (fg_p2_0 hi) rfl rfl 15 (by decide) vf_RX2_58 rfl rfl dX2_spreadFog_9 ?_
        refine lv_iload_n hx hb dX2_spreadFog_12 rfl (lv_at hl 1 rfl) ?_
        refine lv_aload_n hx hb dX2_spreadFog_13 rfl (lv_at hl 0 rfl) ?_
        refine fg_get (C := RX2) (T := TX2) (N := 16) S vu_X2 hK h (fg_p2_0 hi) rfl rfl 0 (by decide) vf_RX2_9 rfl rfl dX2_spreadFog_14 ?_
        refine lv_iload_n hx hb dX2_spreadFog_17 rfl (lv_at hl 1 rfl) ?_
        obtain ⟨hn21, hf⟩ := fg_gdE hf
        refine fg_iald hx hb hK h (fg_p2_1 hi) (fun _ => rfl) hn21 dX2_spreadFog_18 ?_
        refine lv_aload_n hx hb dX2_spreadFog_19 rfl (lv_at hl 0 rfl) ?_
        refine fg_get (C := RX2) (T := TX2) (N := 16) S vu_X2 hK h (fg_p2_0 hi) rfl rfl 0 (by decide) vf_RX2_9 rfl rfl dX2_spreadFog_20 ?_
        refine lv_iload_n hx hb dX2_spreadFog_23 rfl (lv_at hl 1 rfl) ?_
        refine lv_iconst (v := 1) hx hb dX2_spreadFog_24 rfl ?_
        refine lv_iadd hx hb dX2_spreadFog_25 ?_
        obtain ⟨hn22, hf⟩ := fg_gdE hf
        refine fg_iald hx hb hK h (fg_p2_1 hi) (fun _ => rfl) hn22 dX2_spreadFog_26 ?_
        refine lv_isub hx hb dX2_spreadFog_27 ?_
        refine lv_iconst (v := 4) hx hb dX2_spreadFog_28 rfl ?_
        refine lv_idiv hx hb dX2_spreadFog_29 (by decide) ?_
        obtain ⟨hn24, hf⟩ := fg_gdE hf
        refine fg_iast hx hb hK h (fg_p2_11 hi) (fun _ => rfl) hn24 dX2_spreadFog_30 (fun w23 H locs ew h => ?_)
        have hf := fg_letE ew hf
        refine lv_iinc (v := (v1_2 + 1)) (lv' := [(1, .int (v1_2 + 1)), (0, .ref (g.1 2 i 0))]) hx hb dX2_spreadFog_31 hl (k := 1) rfl rfl (by decide) rfl (fun ls hl => ?_)
        refine lv_goto (tgt := 2) hx hb dX2_spreadFog_34 (by decide) ?_
        exact ih_2 (v1_2 + 1) w23 _ _ ls h (lv_sub hl [1, 0] rfl) hf
  exact hL_2 _ hK_2 fg_fuel 0 w _ _ ls h (lv_sub hl [1, 0] rfl) hf
set_option maxHeartbeats 4000000 in
set_option maxRecDepth 100000 in
theorem c_X2_isGone (l : Launch) (D : va_G) (g : fg_G) (i : Nat) (a1 : Int32) (hi : i < 3) (w : fg_W) (r : Int32) (w' : fg_W) (hf : f_X2_isGone i a1 w = some (r, w')) : fg_M l yX2_isGone cX2_isGone 2 (some .boolean) 0 0 D g [.ref (g.1 2 i 0), .int a1] w (fg_Qi D g r w') := by
  refine fg_M.of rfl (Nat.le_of_ble_eq_true rfl) (fun p e s m below meth c ls S hr hlk hK h hl => ?_)
  have hx := S.1
  have hb := S.2.1
  have hl : lv_has ls 2 [(0, .ref (g.1 2 i 0)), (1, .int a1)] := hl
  unfold f_X2_isGone at hf
  refine lv_aload_n hx hb dX2_isGone_0 rfl (lv_at hl 0 rfl) ?_
  refine fg_get (C := RX2) (T := TX2) (N := 16) S vu_X2 hK h (fg_p2_0 hi) rfl rfl 11 (by decide) vf_RX2_46 rfl rfl dX2_isGone_1 ?_
  refine lv_iload_n hx hb dX2_isGone_4 rfl (lv_at hl 1 rfl) ?_
  refine lv_ishr hx hb dX2_isGone_5 ?_
  refine lv_iconst (v := 1) hx hb dX2_isGone_6 rfl ?_
  refine lv_iand hx hb dX2_isGone_7 ?_
  refine lv_if_eq (tgt := 15) hx hb dX2_isGone_8 (by decide) (fun hc => ?_) (fun hc => ?_)
  · have hf := fg_ifT hf hc
    refine lv_iconst (v := 0) hx hb dX2_isGone_15 rfl ?_
    exact fg_retz hx hb hr hlk hK h hf (by decide) dX2_isGone_16
  · have hf := fg_ifF hf hc
    refine lv_iconst (v := 1) hx hb dX2_isGone_11 rfl ?_
    refine lv_goto (tgt := 16) hx hb dX2_isGone_12 (by decide) ?_
    exact fg_retz hx hb hr hlk hK h hf (by decide) dX2_isGone_16
set_option maxHeartbeats 4000000 in
set_option maxRecDepth 100000 in
theorem c_X2_fall (l : Launch) (D : va_G) (g : fg_G) (i : Nat) (a1 : Int32) (hi : i < 3) (w : fg_W) (w' : fg_W) (hf : f_X2_fall i a1 w = some w') : fg_M l yX2_fall cX2_fall 2 none 1 24 D g [.ref (g.1 2 i 0), .int a1] w (fg_Qv D g w') := by
  refine fg_M.of rfl (Nat.le_of_ble_eq_true rfl) (fun p e s m below meth c ls S hr hlk hK h hl => ?_)
  have hx := S.1
  have hb := S.2.1
  have hl : lv_has ls 2 [(0, .ref (g.1 2 i 0)), (1, .int a1)] := hl
  unfold f_X2_fall at hf
  refine lv_aload_n hx hb dX2_fall_0 rfl (lv_at hl 0 rfl) ?_
  refine fg_get (C := RX2) (T := TX2) (N := 16) S vu_X2 hK h (fg_p2_0 hi) rfl rfl 10 (by decide) vf_RX2_43 rfl rfl dX2_fall_1 ?_
  refine lv_iload_n hx hb dX2_fall_4 rfl (lv_at hl 1 rfl) ?_
  refine lv_sipush (v := 9999) hx hb dX2_fall_5 rfl ?_
  refine lv_aload_n hx hb dX2_fall_8 rfl (lv_at hl 0 rfl) ?_
  refine fg_get (C := RX2) (T := TX2) (N := 16) S vu_X2 hK h (fg_p2_0 hi) rfl rfl 10 (by decide) vf_RX2_43 rfl rfl dX2_fall_9 ?_
  refine lv_iload_n hx hb dX2_fall_12 rfl (lv_at hl 1 rfl) ?_
  obtain ⟨hn1, hf⟩ := fg_gdE hf
  refine fg_iald hx hb hK h (fg_p2_9 hi) (fun _ => rfl) hn1 dX2_fall_13 ?_
  refine lv_iconst (v := 1) hx hb dX2_fall_14 rfl ?_
  refine lv_iadd hx hb dX2_fall_15 ?_
  refine va_mmin hx hb (S.2.2.1.trans hl.1.symm) S.2.2.2.1 (S.2.2.2.2 _ vm_RX2_100) (S.2.2.2.2 _ vs_J9_min_7cf53) (S.2.2.2.2 _ vi_Math) (S.2.2.2.2 _ vk_Mmin) (by decide) (Nat.le_of_ble_eq_true rfl) (Nat.zero_le _) (Nat.zero_le _) dX2_fall_16 ?_
  obtain ⟨hn3, hf⟩ := fg_gdE hf
  refine fg_iast hx hb hK h (fg_p2_9 hi) (fun _ => rfl) hn3 dX2_fall_19 (fun w2 H locs ew h => ?_)
  have hf := fg_letE ew hf
  refine lv_aload_n hx hb dX2_fall_20 rfl (lv_at hl 0 rfl) ?_
  refine fg_get (C := RX2) (T := TX2) (N := 16) S vu_X2 hK h (fg_p2_0 hi) rfl rfl 8 (by decide) vf_RX2_37 rfl rfl dX2_fall_21 ?_
  refine lv_iload_n hx hb dX2_fall_24 rfl (lv_at hl 1 rfl) ?_
  refine lv_iconst (v := 0) hx hb dX2_fall_25 rfl ?_
  refine lv_aload_n hx hb dX2_fall_26 rfl (lv_at hl 0 rfl) ?_
  refine fg_get (C := RX2) (T := TX2) (N := 16) S vu_X2 hK h (fg_p2_0 hi) rfl rfl 8 (by decide) vf_RX2_37 rfl rfl dX2_fall_27 ?_
  refine lv_iload_n hx hb dX2_fall_30 rfl (lv_at hl 1 rfl) ?_
  obtain ⟨hn4, hf⟩ := fg_gdE hf
  refine fg_iald hx hb hK h (fg_p2_7 hi) (fun _ => rfl) hn4 dX2_fall_31 ?_
  refine lv_aload_n hx hb dX2_fall_32 rfl (lv_at hl 0 rfl) ?_
  refine fg_get (C := RX2) (T := TX2) (N := 16) S vu_X2 hK h (fg_p2_0 hi) rfl rfl 6 (by decide) vf_RX2_31 rfl rfl dX2_fall_33 ?_
  refine lv_iload_n hx hb dX2_fall_36 rfl (lv_at hl 1 rfl) ?_
  obtain ⟨hn5, hf⟩ := fg_gdE hf
  refine fg_iald hx hb hK h (fg_p2_5 hi) (fun _ => rfl) hn5 dX2_fall_37 ?_
  obtain ⟨r8, w6, hc7, hf⟩ := fg_biE hf
  refine fg_ci h (fg_runSN (rest := [.int (w2.1 2 i 7 a1.toNatClampNeg), .int 0, .int a1, .ref (g.1 2 i 7)]) S hK h (c_X3_losesOf l D g (w2.1 2 i 5 a1.toNatClampNeg)  w2 r8 w6 hc7) vk_X3_losesOf hK.2.1 vs_X3_losesOf vi_RX3 vd_X3_losesOf.2 ⟨by decide, by decide⟩ rfl hl.1 rfl (Nat.le_of_ble_eq_true rfl) dX2_fall_38 ⟨Nat.zero_le _, Nat.zero_le _⟩) (fun H locs h => ?_)
  refine lv_isub hx hb dX2_fall_41 ?_
  refine va_mmax hx hb (S.2.2.1.trans hl.1.symm) S.2.2.2.1 (S.2.2.2.2 _ vm_RX2_105) (S.2.2.2.2 _ vs_J9_max_7cf53) (S.2.2.2.2 _ vi_Math) (S.2.2.2.2 _ vk_Mmax) (by decide) (Nat.le_of_ble_eq_true rfl) (Nat.zero_le _) (Nat.zero_le _) dX2_fall_42 ?_
  obtain ⟨hn10, hf⟩ := fg_gdE hf
  refine fg_iast hx hb hK h (fg_p2_7 hi) (fun _ => rfl) hn10 dX2_fall_45 (fun w9 H locs ew h => ?_)
  have hf := fg_letE ew hf
  refine lv_aload_n hx hb dX2_fall_46 rfl (lv_at hl 0 rfl) ?_
  refine fg_get (C := RX2) (T := TX2) (N := 16) S vu_X2 hK h (fg_p2_0 hi) rfl rfl 7 (by decide) vf_RX2_34 rfl rfl dX2_fall_47 ?_
  refine lv_iload_n hx hb dX2_fall_50 rfl (lv_at hl 1 rfl) ?_
  refine lv_iconst (v := (-1)) hx hb dX2_fall_51 rfl ?_
  obtain ⟨hn12, hf⟩ := fg_gdE hf
  refine fg_iast hx hb hK h (fg_p2_6 hi) (fun _ => rfl) hn12 dX2_fall_52 (fun w11 H locs ew h => ?_)
  have hf := fg_letE ew hf
  exact fg_retv hx hb hr hlk hK h hf dX2_fall_53
set_option maxHeartbeats 4000000 in
set_option maxRecDepth 100000 in
theorem c_X2_movePeople (l : Launch) (D : va_G) (g : fg_G) (i : Nat) (hi : i < 3) (w : fg_W) (w' : fg_W) (hf : f_X2_movePeople i w = some w') : fg_M l yX2_movePeople cX2_movePeople 2 none 3 71 D g [.ref (g.1 2 i 0)] w (fg_Qv D g w') := by
  refine fg_M.of rfl (Nat.le_of_ble_eq_true rfl) (fun p e s m below meth c ls S hr hlk hK h hl => ?_)
  have hx := S.1
  have hb := S.2.1
  have hl : lv_has ls 2 [(0, .ref (g.1 2 i 0))] := hl
  unfold f_X2_movePeople at hf
  refine lv_iconst (v := 0) hx hb dX2_movePeople_0 rfl ?_
  refine lv_istore_n (lv' := [(1, .int 0), (0, .ref (g.1 2 i 0))]) hx hb dX2_movePeople_1 rfl hl (by decide) rfl (fun ls hl => ?_)
  have hK_2 : ∀ (v1_2 : Int32) (w_2 : fg_W) (H : Heap) (locs : List Loc) (ls : Array Slot), fg_H D g s.heap w_2 H locs → lv_has ls 2 [(0, .ref (g.1 2 i 0)), (1, .int v1_2)] → (some w_2) = some w' → fg_Gv p l e 3 71 s m [.ref (g.1 2 i 0)] below meth c D g w' H locs 70 ls [] := by
    intro v1_2 w_2 H locs ls h hl hf
    exact fg_retv hx hb hr hlk hK h hf dX2_movePeople_70
  have hL_2 : ∀ (KK_2 : Int32 → fg_W → Option fg_W) (hK_2 : ∀ (v1_2 : Int32) (w_2 : fg_W) (H : Heap) (locs : List Loc) (ls : Array Slot), fg_H D g s.heap w_2 H locs → lv_has ls 2 [(0, .ref (g.1 2 i 0)), (1, .int v1_2)] → KK_2 v1_2 w_2 = some w' → fg_Gv p l e 3 71 s m [.ref (g.1 2 i 0)] below meth c D g w' H locs 70 ls []) (n : Nat) (v1_2 : Int32) (w_2 : fg_W) (H : Heap) (locs : List Loc) (ls : Array Slot), fg_H D g s.heap w_2 H locs → lv_has ls 2 [(0, .ref (g.1 2 i 0)), (1, .int v1_2)] → f_X2_movePeople_L2 i KK_2 n v1_2 w_2 = some w' → fg_Gv p l e 3 71 s m [.ref (g.1 2 i 0)] below meth c D g w' H locs 2 ls [] := by
    intro KK_2 hK_2 n
    induction n with
    | zero => intro v1_2 w_2 H locs ls h hl hf; exact fg_no hf
    | succ n_2 ih_2 =>
      intro v1_2 w_2 H locs ls h hl hf
      unfold f_X2_movePeople_L2 at hf
      refine lv_iload_n hx hb dX2_movePeople_2 rfl (lv_at hl 1 rfl) ?_
      refine lv_aload_n hx hb dX2_movePeople_3 rfl (lv_at hl 0 rfl) ?_
      refine fg_get (C := RX2) (T := TX2) (N := 16) S vu_X2 hK h (fg_p2_0 hi) rfl rfl 5 (by decide) vf_RX2_28 rfl rfl dX2_movePeople_4 ?_
      refine lv_icmp_ge (tgt := 70) hx hb dX2_movePeople_7 (by decide) (fun hc => ?_) (fun hc => ?_)
      · have hf := fg_ifT hf hc
        exact hK_2 v1_2 w_2 _ _ ls h (lv_sub hl [0, 1] rfl) hf
      · have hf := fg_ifF hf hc
        refine lv_aload_n hx hb dX2_movePeople_10 rfl (lv_at hl 0 rfl) ?_
        refine lv_iload_n hx hb dX2_movePeople_11 rfl (lv_at hl 1 rfl) ?_
        obtain ⟨r18, w16, hc17, hf⟩ := fg_biE hf
        refine fg_ci h (fg_runV (rest := []) S hK h (c_X2_isGone l D g i v1_2 hi w_2 r18 w16 hc17) vg_RX2_67 vd_X2_isGone ⟨by decide, by decide⟩ (fg_p2_0 hi) rfl rfl rfl hl.1 rfl (Nat.le_of_ble_eq_true rfl) dX2_movePeople_12 ⟨Nat.zero_le _, Nat.zero_le _⟩) (fun H locs h => ?_)
        refine lv_if_eq (tgt := 21) hx hb dX2_movePeople_15 (by decide) (fun hc => ?_) (fun hc => ?_)
        · have hf := fg_ifT hf hc
          refine lv_aload_n hx hb dX2_movePeople_21 rfl (lv_at hl 0 rfl) ?_
          refine fg_get (C := RX2) (T := TX2) (N := 16) S vu_X2 hK h (fg_p2_0 hi) rfl rfl 7 (by decide) vf_RX2_34 rfl rfl dX2_movePeople_22 ?_
          refine lv_iload_n hx hb dX2_movePeople_25 rfl (lv_at hl 1 rfl) ?_
          obtain ⟨hn19, hf⟩ := fg_gdE hf
          refine fg_iald hx hb hK h (fg_p2_6 hi) (fun _ => rfl) hn19 dX2_movePeople_26 ?_
          refine lv_iconst (v := (-1)) hx hb dX2_movePeople_27 rfl ?_
          refine lv_icmp_ne (tgt := 45) hx hb dX2_movePeople_28 (by decide) (fun hc => ?_) (fun hc => ?_)
          · have hf := fg_ifF hf hc
            refine lv_aload_n hx hb dX2_movePeople_45 rfl (lv_at hl 0 rfl) ?_
            refine lv_iload_n hx hb dX2_movePeople_46 rfl (lv_at hl 1 rfl) ?_
            refine lv_aload_n hx hb dX2_movePeople_47 rfl (lv_at hl 0 rfl) ?_
            refine fg_get (C := RX2) (T := TX2) (N := 16) S vu_X2 hK h (fg_p2_0 hi) rfl rfl 7 (by decide) vf_RX2_34 rfl rfl dX2_movePeople_48 ?_
            refine lv_iload_n hx hb dX2_movePeople_51 rfl (lv_at hl 1 rfl) ?_
            obtain ⟨hn20, hf⟩ := fg_gdE hf
            refine fg_iald hx hb hK h (fg_p2_6 hi) (fun _ => rfl) hn20 dX2_movePeople_52 ?_
            obtain ⟨r23, w21, hc22, hf⟩ := fg_biE hf
            refine fg_ci h (fg_runV (rest := []) S hK h (c_X2_stands l D g i v1_2 (w16.1 2 i 6 v1_2.toNatClampNeg) hi w16 r23 w21 hc22) vg_RX2_71 vd_X2_stands ⟨by decide, by decide⟩ (fg_p2_0 hi) rfl rfl rfl hl.1 rfl (Nat.le_of_ble_eq_true rfl) dX2_movePeople_53 ⟨Nat.zero_le _, Nat.zero_le _⟩) (fun H locs h => ?_)
            refine lv_if_ne (tgt := 64) hx hb dX2_movePeople_56 (by decide) (fun hc => ?_) (fun hc => ?_)
            · have hf := fg_ifF hf hc
              refine lv_iinc (v := (v1_2 + 1)) (lv' := [(1, .int (v1_2 + 1)), (0, .ref (g.1 2 i 0))]) hx hb dX2_movePeople_64 hl (k := 1) rfl rfl (by decide) rfl (fun ls hl => ?_)
              refine lv_goto (tgt := 2) hx hb dX2_movePeople_67 (by decide) ?_
              exact ih_2 (v1_2 + 1) w21 _ _ ls h (lv_sub hl [1, 0] rfl) hf
            · have hf := fg_ifT hf hc
              refine lv_aload_n hx hb dX2_movePeople_59 rfl (lv_at hl 0 rfl) ?_
              refine lv_iload_n hx hb dX2_movePeople_60 rfl (lv_at hl 1 rfl) ?_
              obtain ⟨w24, hc25, hf⟩ := fg_bvE hf
              refine fg_cv h (fg_runV (rest := []) S hK h (c_X2_fall l D g i v1_2 hi w21 w24 hc25) vg_RX2_112 vd_X2_fall ⟨by decide, by decide⟩ (fg_p2_0 hi) rfl rfl rfl hl.1 rfl (Nat.le_of_ble_eq_true rfl) dX2_movePeople_61 ⟨Nat.zero_le _, Nat.zero_le _⟩) (fun H locs h => ?_)
              refine lv_iinc (v := (v1_2 + 1)) (lv' := [(1, .int (v1_2 + 1)), (0, .ref (g.1 2 i 0))]) hx hb dX2_movePeople_64 hl (k := 1) rfl rfl (by decide) rfl (fun ls hl => ?_)
              refine lv_goto (tgt := 2) hx hb dX2_movePeople_67 (by decide) ?_
              exact ih_2 (v1_2 + 1) w24 _ _ ls h (lv_sub hl [1, 0] rfl) hf
          · have hf := fg_ifT hf hc
            refine lv_aload_n hx hb dX2_movePeople_31 rfl (lv_at hl 0 rfl) ?_
            refine fg_get (C := RX2) (T := TX2) (N := 16) S vu_X2 hK h (fg_p2_0 hi) rfl rfl 7 (by decide) vf_RX2_34 rfl rfl dX2_movePeople_32 ?_
            refine lv_iload_n hx hb dX2_movePeople_35 rfl (lv_at hl 1 rfl) ?_
            refine lv_aload_n hx hb dX2_movePeople_36 rfl (lv_at hl 0 rfl) ?_
            refine lv_iload_n hx hb dX2_movePeople_37 rfl (lv_at hl 1 rfl) ?_
            obtain ⟨r28, w26, hc27, hf⟩ := fg_biE hf
            refine fg_ci h (fg_runV (rest := [.int v1_2, .ref (g.1 2 i 6)]) S hK h (c_X2_lotMadeFor l D g i v1_2 hi w16 r28 w26 hc27) vg_RX2_108 vd_X2_lotMadeFor ⟨by decide, by decide⟩ (fg_p2_0 hi) rfl rfl rfl hl.1 rfl (Nat.le_of_ble_eq_true rfl) dX2_movePeople_38 ⟨Nat.zero_le _, Nat.zero_le _⟩) (fun H locs h => ?_)
            obtain ⟨hn30, hf⟩ := fg_gdE hf
            refine fg_iast hx hb hK h (fg_p2_6 hi) (fun _ => rfl) hn30 dX2_movePeople_41 (fun w29 H locs ew h => ?_)
            have hf := fg_letE ew hf
            refine lv_goto (tgt := 64) hx hb dX2_movePeople_42 (by decide) ?_
            refine lv_iinc (v := (v1_2 + 1)) (lv' := [(1, .int (v1_2 + 1)), (0, .ref (g.1 2 i 0))]) hx hb dX2_movePeople_64 hl (k := 1) rfl rfl (by decide) rfl (fun ls hl => ?_)
            refine lv_goto (tgt := 2) hx hb dX2_movePeople_67 (by decide) ?_
            exact ih_2 (v1_2 + 1) w29 _ _ ls h (lv_sub hl [1, 0] rfl) hf
        · have hf := fg_ifF hf hc
          refine lv_goto (tgt := 64) hx hb dX2_movePeople_18 (by decide) ?_
          refine lv_iinc (v := (v1_2 + 1)) (lv' := [(1, .int (v1_2 + 1)), (0, .ref (g.1 2 i 0))]) hx hb dX2_movePeople_64 hl (k := 1) rfl rfl (by decide) rfl (fun ls hl => ?_)
          refine lv_goto (tgt := 2) hx hb dX2_movePeople_67 (by decide) ?_
          exact ih_2 (v1_2 + 1) w16 _ _ ls h (lv_sub hl [1, 0] rfl) hf
  exact hL_2 _ hK_2 fg_fuel 0 w _ _ ls h (lv_sub hl [1, 0] rfl) hf
set_option maxHeartbeats 4000000 in
set_option maxRecDepth 100000 in
theorem c_X2_payRents (l : Launch) (D : va_G) (g : fg_G) (i : Nat) (hi : i < 3) (w : fg_W) (w' : fg_W) (hf : f_X2_payRents i w = some w') : fg_M l yX2_payRents cX2_payRents 4 none 1 24 D g [.ref (g.1 2 i 0)] w (fg_Qv D g w') := by
  refine fg_M.of rfl (Nat.le_of_ble_eq_true rfl) (fun p e s m below meth c ls S hr hlk hK h hl => ?_)
  have hx := S.1
  have hb := S.2.1
  have hl : lv_has ls 4 [(0, .ref (g.1 2 i 0))] := hl
  unfold f_X2_payRents at hf
  refine lv_iconst (v := 0) hx hb dX2_payRents_0 rfl ?_
  refine lv_istore_n (lv' := [(1, .int 0), (0, .ref (g.1 2 i 0))]) hx hb dX2_payRents_1 rfl hl (by decide) rfl (fun ls hl => ?_)
  have hK_2 : ∀ (v1_2 : Int32) (w_2 : fg_W) (H : Heap) (locs : List Loc) (ls : Array Slot), fg_H D g s.heap w_2 H locs → lv_has ls 4 [(0, .ref (g.1 2 i 0)), (1, .int v1_2)] → (some w_2) = some w' → fg_Gv p l e 1 24 s m [.ref (g.1 2 i 0)] below meth c D g w' H locs 108 ls [] := by
    intro v1_2 w_2 H locs ls h hl hf
    exact fg_retv hx hb hr hlk hK h hf dX2_payRents_108
  have hL_2 : ∀ (KK_2 : Int32 → fg_W → Option fg_W) (hK_2 : ∀ (v1_2 : Int32) (w_2 : fg_W) (H : Heap) (locs : List Loc) (ls : Array Slot), fg_H D g s.heap w_2 H locs → lv_has ls 4 [(0, .ref (g.1 2 i 0)), (1, .int v1_2)] → KK_2 v1_2 w_2 = some w' → fg_Gv p l e 1 24 s m [.ref (g.1 2 i 0)] below meth c D g w' H locs 108 ls []) (n : Nat) (v1_2 : Int32) (w_2 : fg_W) (H : Heap) (locs : List Loc) (ls : Array Slot), fg_H D g s.heap w_2 H locs → lv_has ls 4 [(0, .ref (g.1 2 i 0)), (1, .int v1_2)] → f_X2_payRents_L2 i KK_2 n v1_2 w_2 = some w' → fg_Gv p l e 1 24 s m [.ref (g.1 2 i 0)] below meth c D g w' H locs 2 ls [] := by
    intro KK_2 hK_2 n
    induction n with
    | zero => intro v1_2 w_2 H locs ls h hl hf; exact fg_no hf
    | succ n_2 ih_2 =>
      intro v1_2 w_2 H locs ls h hl hf
      unfold f_X2_payRents_L2 at hf
      refine lv_iload_n hx hb dX2_payRents_2 rfl (lv_at hl 1 rfl) ?_
      refine lv_aload_n hx hb dX2_payRents_3 rfl (lv_at hl 0 rfl) ?_
      refine fg_get (C := RX2) (T := TX2) (N := 16) S vu_X2 hK h (fg_p2_0 hi) rfl rfl 5 (by decide) vf_RX2_28 rfl rfl dX2_payRents_4 ?_
      refine lv_icmp_ge (tgt := 108) hx hb dX2_payRents_7 (by decide) (fun hc => ?_) (fun hc => ?_)
      · have hf := fg_ifT hf hc
        exact hK_2 v1_2 w_2 _ _ ls h (lv_sub hl [0, 1] rfl) hf
      · have hf := fg_ifF hf hc
        refine lv_aload_n hx hb dX2_payRents_10 rfl (lv_at hl 0 rfl) ?_
        refine fg_get (C := RX2) (T := TX2) (N := 16) S vu_X2 hK h (fg_p2_0 hi) rfl rfl 7 (by decide) vf_RX2_34 rfl rfl dX2_payRents_11 ?_
        refine lv_iload_n hx hb dX2_payRents_14 rfl (lv_at hl 1 rfl) ?_
        obtain ⟨hn18, hf⟩ := fg_gdE hf
        refine fg_iald hx hb hK h (fg_p2_6 hi) (fun _ => rfl) hn18 dX2_payRents_15 ?_
        refine lv_iconst (v := (-1)) hx hb dX2_payRents_16 rfl ?_
        refine lv_icmp_ne (tgt := 23) hx hb dX2_payRents_17 (by decide) (fun hc => ?_) (fun hc => ?_)
        · have hf := fg_ifF hf hc
          refine lv_aload_n hx hb dX2_payRents_23 rfl (lv_at hl 0 rfl) ?_
          refine fg_get (C := RX2) (T := TX2) (N := 16) S vu_X2 hK h (fg_p2_0 hi) rfl rfl 2 (by decide) vf_RX2_18 rfl rfl dX2_payRents_24 ?_
          refine lv_aload_n hx hb dX2_payRents_27 rfl (lv_at hl 0 rfl) ?_
          refine fg_get (C := RX2) (T := TX2) (N := 16) S vu_X2 hK h (fg_p2_0 hi) rfl rfl 7 (by decide) vf_RX2_34 rfl rfl dX2_payRents_28 ?_
          refine lv_iload_n hx hb dX2_payRents_31 rfl (lv_at hl 1 rfl) ?_
          obtain ⟨hn19, hf⟩ := fg_gdE hf
          refine fg_iald hx hb hK h (fg_p2_6 hi) (fun _ => rfl) hn19 dX2_payRents_32 ?_
          obtain ⟨hn20, hf⟩ := fg_gdE hf
          refine fg_iald hx hb hK h (fg_p2_3 hi) (fun _ => rfl) hn20 dX2_payRents_33 ?_
          refine lv_topi (fun x21 e_x21 => ?_)
          have hf := fg_letE e_x21 hf
          refine lv_istore_n (lv' := [(2, .int x21), (0, .ref (g.1 2 i 0)), (1, .int v1_2)]) hx hb dX2_payRents_34 rfl hl (by decide) rfl (fun ls hl => ?_)
          refine lv_iload_n hx hb dX2_payRents_35 rfl (lv_at hl 0 rfl) ?_
          refine lv_iload_n hx hb dX2_payRents_36 rfl (lv_at hl 2 rfl) ?_
          refine lv_icmp_eq (tgt := 102) hx hb dX2_payRents_37 (by decide) (fun hc => ?_) (fun hc => ?_)
          · have hf := fg_ifT hf hc
            refine lv_iinc (v := (v1_2 + 1)) (lv' := [(1, .int (v1_2 + 1)), (2, .int x21), (0, .ref (g.1 2 i 0))]) hx hb dX2_payRents_102 hl (k := 2) rfl rfl (by decide) rfl (fun ls hl => ?_)
            refine lv_goto (tgt := 2) hx hb dX2_payRents_105 (by decide) ?_
            exact ih_2 (v1_2 + 1) w_2 _ _ ls h (lv_sub hl [2, 0] rfl) hf
          · have hf := fg_ifF hf hc
            refine lv_aload_n hx hb dX2_payRents_40 rfl (lv_at hl 1 rfl) ?_
            refine lv_iload_n hx hb dX2_payRents_41 rfl (lv_at hl 0 rfl) ?_
            obtain ⟨r24, w22, hc23, hf⟩ := fg_biE hf
            refine fg_ci h (fg_runV (rest := []) S hK h (c_X2_isPerson l D g i x21 hi w_2 r24 w22 hc23) vg_RX2_119 vd_X2_isPerson ⟨by decide, by decide⟩ (fg_p2_0 hi) rfl rfl rfl hl.1 rfl (Nat.le_of_ble_eq_true rfl) dX2_payRents_42 ⟨Nat.zero_le _, Nat.zero_le _⟩) (fun H locs h => ?_)
            refine lv_if_ne (tgt := 51) hx hb dX2_payRents_45 (by decide) (fun hc => ?_) (fun hc => ?_)
            · have hf := fg_ifF hf hc
              refine lv_aload_n hx hb dX2_payRents_51 rfl (lv_at hl 1 rfl) ?_
              refine fg_get (C := RX2) (T := TX2) (N := 16) S vu_X2 hK h (fg_p2_0 hi) rfl rfl 9 (by decide) vf_RX2_40 rfl rfl dX2_payRents_52 ?_
              refine lv_iload_n hx hb dX2_payRents_55 rfl (lv_at hl 2 rfl) ?_
              obtain ⟨hn25, hf⟩ := fg_gdE hf
              refine fg_iald hx hb hK h (fg_p2_8 hi) (fun _ => rfl) hn25 dX2_payRents_56 ?_
              refine lv_aload_n hx hb dX2_payRents_57 rfl (lv_at hl 1 rfl) ?_
              refine fg_get (C := RX2) (T := TX2) (N := 16) S vu_X2 hK h (fg_p2_0 hi) rfl rfl 1 (by decide) vf_RX2_15 rfl rfl dX2_payRents_58 ?_
              refine lv_aload_n hx hb dX2_payRents_61 rfl (lv_at hl 1 rfl) ?_
              refine fg_get (C := RX2) (T := TX2) (N := 16) S vu_X2 hK h (fg_p2_0 hi) rfl rfl 7 (by decide) vf_RX2_34 rfl rfl dX2_payRents_62 ?_
              refine lv_iload_n hx hb dX2_payRents_65 rfl (lv_at hl 2 rfl) ?_
              obtain ⟨hn26, hf⟩ := fg_gdE hf
              refine fg_iald hx hb hK h (fg_p2_6 hi) (fun _ => rfl) hn26 dX2_payRents_66 ?_
              obtain ⟨hn27, hf⟩ := fg_gdE hf
              refine fg_iald hx hb hK h (fg_p2_2 hi) (fun _ => rfl) hn27 dX2_payRents_67 ?_
              refine va_mmin hx hb (S.2.2.1.trans hl.1.symm) S.2.2.2.1 (S.2.2.2.2 _ vm_RX2_100) (S.2.2.2.2 _ vs_J9_min_7cf53) (S.2.2.2.2 _ vi_Math) (S.2.2.2.2 _ vk_Mmin) (by decide) (Nat.le_of_ble_eq_true rfl) (Nat.zero_le _) (Nat.zero_le _) dX2_payRents_68 ?_
              refine lv_topi (fun x28 e_x28 => ?_)
              have hf := fg_letE e_x28 hf
              refine lv_istore_n (lv' := [(3, .int x28), (2, .int x21), (0, .ref (g.1 2 i 0)), (1, .int v1_2)]) hx hb dX2_payRents_71 rfl hl (by decide) rfl (fun ls hl => ?_)
              refine lv_aload_n hx hb dX2_payRents_72 rfl (lv_at hl 2 rfl) ?_
              refine fg_get (C := RX2) (T := TX2) (N := 16) S vu_X2 hK h (fg_p2_0 hi) rfl rfl 9 (by decide) vf_RX2_40 rfl rfl dX2_payRents_73 ?_
              refine lv_iload_n hx hb dX2_payRents_76 rfl (lv_at hl 3 rfl) ?_
              refine lv_dup2_11 hx hb dX2_payRents_77 rfl rfl ?_
              obtain ⟨hn29, hf⟩ := fg_gdE hf
              refine fg_iald hx hb hK h (fg_p2_8 hi) (fun _ => rfl) hn29 dX2_payRents_78 ?_
              refine lv_iload_n hx hb dX2_payRents_79 rfl (lv_at hl 0 rfl) ?_
              refine lv_isub hx hb dX2_payRents_80 ?_
              obtain ⟨hn31, hf⟩ := fg_gdE hf
              refine fg_iast hx hb hK h (fg_p2_8 hi) (fun _ => rfl) hn31 dX2_payRents_81 (fun w30 H locs ew h => ?_)
              have hf := fg_letE ew hf
              refine lv_aload_n hx hb dX2_payRents_82 rfl (lv_at hl 2 rfl) ?_
              refine fg_get (C := RX2) (T := TX2) (N := 16) S vu_X2 hK h (fg_p2_0 hi) rfl rfl 9 (by decide) vf_RX2_40 rfl rfl dX2_payRents_83 ?_
              refine lv_iload_n hx hb dX2_payRents_86 rfl (lv_at hl 1 rfl) ?_
              refine lv_sipush (v := 9999) hx hb dX2_payRents_87 rfl ?_
              refine lv_aload_n hx hb dX2_payRents_90 rfl (lv_at hl 2 rfl) ?_
              refine fg_get (C := RX2) (T := TX2) (N := 16) S vu_X2 hK h (fg_p2_0 hi) rfl rfl 9 (by decide) vf_RX2_40 rfl rfl dX2_payRents_91 ?_
              refine lv_iload_n hx hb dX2_payRents_94 rfl (lv_at hl 1 rfl) ?_
              obtain ⟨hn32, hf⟩ := fg_gdE hf
              refine fg_iald hx hb hK h (fg_p2_8 hi) (fun _ => rfl) hn32 dX2_payRents_95 ?_
              refine lv_iload_n hx hb dX2_payRents_96 rfl (lv_at hl 0 rfl) ?_
              refine lv_iadd hx hb dX2_payRents_97 ?_
              refine va_mmin hx hb (S.2.2.1.trans hl.1.symm) S.2.2.2.1 (S.2.2.2.2 _ vm_RX2_100) (S.2.2.2.2 _ vs_J9_min_7cf53) (S.2.2.2.2 _ vi_Math) (S.2.2.2.2 _ vk_Mmin) (by decide) (Nat.le_of_ble_eq_true rfl) (Nat.zero_le _) (Nat.zero_le _) dX2_payRents_98 ?_
              obtain ⟨hn34, hf⟩ := fg_gdE hf
              refine fg_iast hx hb hK h (fg_p2_8 hi) (fun _ => rfl) hn34 dX2_payRents_101 (fun w33 H locs ew h => ?_)
              have hf := fg_letE ew hf
              refine lv_iinc (v := (v1_2 + 1)) (lv' := [(1, .int (v1_2 + 1)), (3, .int x28), (2, .int x21), (0, .ref (g.1 2 i 0))]) hx hb dX2_payRents_102 hl (k := 3) rfl rfl (by decide) rfl (fun ls hl => ?_)
              refine lv_goto (tgt := 2) hx hb dX2_payRents_105 (by decide) ?_
              exact ih_2 (v1_2 + 1) w33 _ _ ls h (lv_sub hl [3, 0] rfl) hf
            · have hf := fg_ifT hf hc
              refine lv_goto (tgt := 102) hx hb dX2_payRents_48 (by decide) ?_
              refine lv_iinc (v := (v1_2 + 1)) (lv' := [(1, .int (v1_2 + 1)), (2, .int x21), (0, .ref (g.1 2 i 0))]) hx hb dX2_payRents_102 hl (k := 2) rfl rfl (by decide) rfl (fun ls hl => ?_)
              refine lv_goto (tgt := 2) hx hb dX2_payRents_105 (by decide) ?_
              exact ih_2 (v1_2 + 1) w22 _ _ ls h (lv_sub hl [2, 0] rfl) hf
        · have hf := fg_ifT hf hc
          refine lv_goto (tgt := 102) hx hb dX2_payRents_20 (by decide) ?_
          refine lv_iinc (v := (v1_2 + 1)) (lv' := [(1, .int (v1_2 + 1)), (0, .ref (g.1 2 i 0))]) hx hb dX2_payRents_102 hl (k := 1) rfl rfl (by decide) rfl (fun ls hl => ?_)
          refine lv_goto (tgt := 2) hx hb dX2_payRents_105 (by decide) ?_
          exact ih_2 (v1_2 + 1) w_2 _ _ ls h (lv_sub hl [1, 0] rfl) hf
  exact hL_2 _ hK_2 fg_fuel 0 w _ _ ls h (lv_sub hl [1, 0] rfl) hf
set_option maxHeartbeats 4000000 in
set_option maxRecDepth 100000 in
theorem c_X2_greatestBeliefBeside (l : Launch) (D : va_G) (g : fg_G) (i : Nat) (a1 : Int32) (hi : i < 3) (w : fg_W) (r : Int32) (w' : fg_W) (hf : f_X2_greatestBeliefBeside i a1 w = some (r, w')) : fg_M l yX2_greatestBeliefBeside cX2_greatestBeliefBeside 4 (some .int) 1 24 D g [.ref (g.1 2 i 0), .int a1] w (fg_Qi D g r w') := by
  refine fg_M.of rfl (Nat.le_of_ble_eq_true rfl) (fun p e s m below meth c ls S hr hlk hK h hl => ?_)
  have hx := S.1
  have hb := S.2.1
  have hl : lv_has ls 4 [(0, .ref (g.1 2 i 0)), (1, .int a1)] := hl
  unfold f_X2_greatestBeliefBeside at hf
  refine lv_iconst (v := 0) hx hb dX2_greatestBeliefBeside_0 rfl ?_
  refine lv_istore_n (lv' := [(2, .int 0), (0, .ref (g.1 2 i 0)), (1, .int a1)]) hx hb dX2_greatestBeliefBeside_1 rfl hl (by decide) rfl (fun ls hl => ?_)
  refine lv_aload_n hx hb dX2_greatestBeliefBeside_2 rfl (lv_at hl 1 rfl) ?_
  refine fg_get (C := RX2) (T := TX2) (N := 16) S vu_X2 hK h (fg_p2_0 hi) rfl rfl 7 (by decide) vf_RX2_34 rfl rfl dX2_greatestBeliefBeside_3 ?_
  refine lv_iload_n hx hb dX2_greatestBeliefBeside_6 rfl (lv_at hl 2 rfl) ?_
  obtain ⟨hn1, hf⟩ := fg_gdE hf
  refine fg_iald hx hb hK h (fg_p2_6 hi) (fun _ => rfl) hn1 dX2_greatestBeliefBeside_7 ?_
  refine lv_iconst (v := (-1)) hx hb dX2_greatestBeliefBeside_8 rfl ?_
  refine lv_icmp_ne (tgt := 14) hx hb dX2_greatestBeliefBeside_9 (by decide) (fun hc => ?_) (fun hc => ?_)
  · have hf := fg_ifF hf hc
    refine lv_iconst (v := 0) hx hb dX2_greatestBeliefBeside_14 rfl ?_
    refine lv_istore_n (lv' := [(3, .int 0), (2, .int 0), (0, .ref (g.1 2 i 0)), (1, .int a1)]) hx hb dX2_greatestBeliefBeside_15 rfl hl (by decide) rfl (fun ls hl => ?_)
    have hK_16 : ∀ (v2_16 : Int32) (v3_16 : Int32) (w_16 : fg_W) (H : Heap) (locs : List Loc) (ls : Array Slot), fg_H D g s.heap w_16 H locs → lv_has ls 4 [(0, .ref (g.1 2 i 0)), (1, .int a1), (2, .int v2_16), (3, .int v3_16)] → (some (v2_16, w_16)) = some (r, w') → fg_Gi p l e 1 24 s m [.ref (g.1 2 i 0), .int a1] below meth c D g r w' H locs 61 ls [] := by
      intro v2_16 v3_16 w_16 H locs ls h hl hf
      refine lv_iload_n hx hb dX2_greatestBeliefBeside_61 rfl (lv_at hl 2 rfl) ?_
      exact fg_reti hx hb hr hlk hK h hf dX2_greatestBeliefBeside_62
    have hL_16 : ∀ (KK_16 : Int32 → Int32 → fg_W → Option (Int32 × fg_W)) (hK_16 : ∀ (v2_16 : Int32) (v3_16 : Int32) (w_16 : fg_W) (H : Heap) (locs : List Loc) (ls : Array Slot), fg_H D g s.heap w_16 H locs → lv_has ls 4 [(0, .ref (g.1 2 i 0)), (1, .int a1), (2, .int v2_16), (3, .int v3_16)] → KK_16 v2_16 v3_16 w_16 = some (r, w') → fg_Gi p l e 1 24 s m [.ref (g.1 2 i 0), .int a1] below meth c D g r w' H locs 61 ls []) (n : Nat) (v2_16 : Int32) (v3_16 : Int32) (w_16 : fg_W) (H : Heap) (locs : List Loc) (ls : Array Slot), fg_H D g s.heap w_16 H locs → lv_has ls 4 [(0, .ref (g.1 2 i 0)), (1, .int a1), (2, .int v2_16), (3, .int v3_16)] → f_X2_greatestBeliefBeside_L16 i a1 KK_16 n v2_16 v3_16 w_16 = some (r, w') → fg_Gi p l e 1 24 s m [.ref (g.1 2 i 0), .int a1] below meth c D g r w' H locs 16 ls [] := by
      intro KK_16 hK_16 n
      induction n with
      | zero => intro v2_16 v3_16 w_16 H locs ls h hl hf; exact fg_no hf
      | succ n_16 ih_16 =>
        intro v2_16 v3_16 w_16 H locs ls h hl hf
        unfold f_X2_greatestBeliefBeside_L16 at hf
        refine lv_iload_n hx hb dX2_greatestBeliefBeside_16 rfl (lv_at hl 3 rfl) ?_
        refine lv_aload_n hx hb dX2_greatestBeliefBeside_17 rfl (lv_at hl 0 rfl) ?_
        refine fg_get (C := RX2) (T := TX2) (N := 16) S vu_X2 hK h (fg_p2_0 hi) rfl rfl 5 (by decide) vf_RX2_28 rfl rfl dX2_greatestBeliefBeside_18 ?_
        refine lv_icmp_ge (tgt := 61) hx hb dX2_greatestBeliefBeside_21 (by decide) (fun hc => ?_) (fun hc => ?_)
        · have hf := fg_ifT hf hc
          exact hK_16 v2_16 v3_16 w_16 _ _ ls h (lv_sub hl [0, 1, 2, 3] rfl) hf
        · have hf := fg_ifF hf hc
          refine lv_iload_n hx hb dX2_greatestBeliefBeside_24 rfl (lv_at hl 3 rfl) ?_
          refine lv_iload_n hx hb dX2_greatestBeliefBeside_25 rfl (lv_at hl 1 rfl) ?_
          refine lv_icmp_eq (tgt := 55) hx hb dX2_greatestBeliefBeside_26 (by decide) (fun hc => ?_) (fun hc => ?_)
          · have hf := fg_ifT hf hc
            refine lv_iinc (v := (v3_16 + 1)) (lv' := [(3, .int (v3_16 + 1)), (0, .ref (g.1 2 i 0)), (1, .int a1), (2, .int v2_16)]) hx hb dX2_greatestBeliefBeside_55 hl (k := 3) rfl rfl (by decide) rfl (fun ls hl => ?_)
            refine lv_goto (tgt := 16) hx hb dX2_greatestBeliefBeside_58 (by decide) ?_
            exact ih_16 v2_16 (v3_16 + 1) w_16 _ _ ls h (lv_sub hl [1, 2, 3, 0] rfl) hf
          · have hf := fg_ifF hf hc
            refine lv_aload_n hx hb dX2_greatestBeliefBeside_29 rfl (lv_at hl 0 rfl) ?_
            refine fg_get (C := RX2) (T := TX2) (N := 16) S vu_X2 hK h (fg_p2_0 hi) rfl rfl 7 (by decide) vf_RX2_34 rfl rfl dX2_greatestBeliefBeside_30 ?_
            refine lv_iload_n hx hb dX2_greatestBeliefBeside_33 rfl (lv_at hl 3 rfl) ?_
            obtain ⟨hn6, hf⟩ := fg_gdE hf
            refine fg_iald hx hb hK h (fg_p2_6 hi) (fun _ => rfl) hn6 dX2_greatestBeliefBeside_34 ?_
            refine lv_aload_n hx hb dX2_greatestBeliefBeside_35 rfl (lv_at hl 0 rfl) ?_
            refine fg_get (C := RX2) (T := TX2) (N := 16) S vu_X2 hK h (fg_p2_0 hi) rfl rfl 7 (by decide) vf_RX2_34 rfl rfl dX2_greatestBeliefBeside_36 ?_
            refine lv_iload_n hx hb dX2_greatestBeliefBeside_39 rfl (lv_at hl 1 rfl) ?_
            obtain ⟨hn7, hf⟩ := fg_gdE hf
            refine fg_iald hx hb hK h (fg_p2_6 hi) (fun _ => rfl) hn7 dX2_greatestBeliefBeside_40 ?_
            refine lv_icmp_ne (tgt := 55) hx hb dX2_greatestBeliefBeside_41 (by decide) (fun hc => ?_) (fun hc => ?_)
            · have hf := fg_ifF hf hc
              refine lv_iinc (v := (v3_16 + 1)) (lv' := [(3, .int (v3_16 + 1)), (0, .ref (g.1 2 i 0)), (1, .int a1), (2, .int v2_16)]) hx hb dX2_greatestBeliefBeside_55 hl (k := 3) rfl rfl (by decide) rfl (fun ls hl => ?_)
              refine lv_goto (tgt := 16) hx hb dX2_greatestBeliefBeside_58 (by decide) ?_
              exact ih_16 v2_16 (v3_16 + 1) w_16 _ _ ls h (lv_sub hl [1, 2, 3, 0] rfl) hf
            · have hf := fg_ifT hf hc
              refine lv_iload_n hx hb dX2_greatestBeliefBeside_44 rfl (lv_at hl 2 rfl) ?_
              refine lv_aload_n hx hb dX2_greatestBeliefBeside_45 rfl (lv_at hl 0 rfl) ?_
              refine fg_get (C := RX2) (T := TX2) (N := 16) S vu_X2 hK h (fg_p2_0 hi) rfl rfl 8 (by decide) vf_RX2_37 rfl rfl dX2_greatestBeliefBeside_46 ?_
              refine lv_iload_n hx hb dX2_greatestBeliefBeside_49 rfl (lv_at hl 3 rfl) ?_
              obtain ⟨hn8, hf⟩ := fg_gdE hf
              refine fg_iald hx hb hK h (fg_p2_7 hi) (fun _ => rfl) hn8 dX2_greatestBeliefBeside_50 ?_
              refine va_mmax hx hb (S.2.2.1.trans hl.1.symm) S.2.2.2.1 (S.2.2.2.2 _ vm_RX2_105) (S.2.2.2.2 _ vs_J9_max_7cf53) (S.2.2.2.2 _ vi_Math) (S.2.2.2.2 _ vk_Mmax) (by decide) (Nat.le_of_ble_eq_true rfl) (Nat.zero_le _) (Nat.zero_le _) dX2_greatestBeliefBeside_51 ?_
              refine lv_topi (fun x9 e_x9 => ?_)
              have hf := fg_letE e_x9 hf
              refine lv_istore_n (lv' := [(2, .int x9), (0, .ref (g.1 2 i 0)), (1, .int a1), (3, .int v3_16)]) hx hb dX2_greatestBeliefBeside_54 rfl hl (by decide) rfl (fun ls hl => ?_)
              refine lv_iinc (v := (v3_16 + 1)) (lv' := [(3, .int (v3_16 + 1)), (2, .int x9), (0, .ref (g.1 2 i 0)), (1, .int a1)]) hx hb dX2_greatestBeliefBeside_55 hl (k := 3) rfl rfl (by decide) rfl (fun ls hl => ?_)
              refine lv_goto (tgt := 16) hx hb dX2_greatestBeliefBeside_58 (by decide) ?_
              exact ih_16 x9 (v3_16 + 1) w_16 _ _ ls h (lv_sub hl [2, 3, 1, 0] rfl) hf
    exact hL_16 _ hK_16 fg_fuel 0 0 w _ _ ls h (lv_sub hl [2, 3, 1, 0] rfl) hf
  · have hf := fg_ifT hf hc
    refine lv_iload_n hx hb dX2_greatestBeliefBeside_12 rfl (lv_at hl 0 rfl) ?_
    exact fg_reti hx hb hr hlk hK h hf dX2_greatestBeliefBeside_13
set_option maxHeartbeats 4000000 in
set_option maxRecDepth 100000 in
theorem c_X2_spreadBelief (l : Launch) (D : va_G) (g : fg_G) (i : Nat) (hi : i < 3) (w : fg_W) (w' : fg_W) (hf : f_X2_spreadBelief i w = some w') : fg_M l yX2_spreadBelief cX2_spreadBelief 3 none 2 47 D g [.ref (g.1 2 i 0)] w (fg_Qv D g w') := by
  refine fg_M.of rfl (Nat.le_of_ble_eq_true rfl) (fun p e s m below meth c ls S hr hlk hK h hl => ?_)
  have hx := S.1
  have hb := S.2.1
  have hl : lv_has ls 3 [(0, .ref (g.1 2 i 0))] := hl
  unfold f_X2_spreadBelief at hf
  refine lv_iconst (v := 0) hx hb dX2_spreadBelief_0 rfl ?_
  refine lv_istore_n (lv' := [(1, .int 0), (0, .ref (g.1 2 i 0))]) hx hb dX2_spreadBelief_1 rfl hl (by decide) rfl (fun ls hl => ?_)
  have hK_2 : ∀ (v1_2 : Int32) (w_2 : fg_W) (H : Heap) (locs : List Loc) (ls : Array Slot), fg_H D g s.heap w_2 H locs → lv_has ls 3 [(0, .ref (g.1 2 i 0)), (1, .int v1_2)] → (f_X2_spreadBelief_L48 i (fun v1_48 w_48 => some w_48) fg_fuel 0 w_2) = some w' → fg_Gv p l e 2 47 s m [.ref (g.1 2 i 0)] below meth c D g w' H locs 46 ls [] := by
    intro v1_2 w_2 H locs ls h hl hf
    refine lv_iconst (v := 0) hx hb dX2_spreadBelief_46 rfl ?_
    refine lv_istore_n (lv' := [(1, .int 0), (0, .ref (g.1 2 i 0))]) hx hb dX2_spreadBelief_47 rfl hl (by decide) rfl (fun ls hl => ?_)
    have hK_48 : ∀ (v1_48 : Int32) (w_48 : fg_W) (H : Heap) (locs : List Loc) (ls : Array Slot), fg_H D g s.heap w_48 H locs → lv_has ls 3 [(0, .ref (g.1 2 i 0)), (1, .int v1_48)] → (some w_48) = some w' → fg_Gv p l e 2 47 s m [.ref (g.1 2 i 0)] below meth c D g w' H locs 77 ls [] := by
      intro v1_48 w_48 H locs ls h hl hf
      exact fg_retv hx hb hr hlk hK h hf dX2_spreadBelief_77
    have hL_48 : ∀ (KK_48 : Int32 → fg_W → Option fg_W) (hK_48 : ∀ (v1_48 : Int32) (w_48 : fg_W) (H : Heap) (locs : List Loc) (ls : Array Slot), fg_H D g s.heap w_48 H locs → lv_has ls 3 [(0, .ref (g.1 2 i 0)), (1, .int v1_48)] → KK_48 v1_48 w_48 = some w' → fg_Gv p l e 2 47 s m [.ref (g.1 2 i 0)] below meth c D g w' H locs 77 ls []) (n : Nat) (v1_48 : Int32) (w_48 : fg_W) (H : Heap) (locs : List Loc) (ls : Array Slot), fg_H D g s.heap w_48 H locs → lv_has ls 3 [(0, .ref (g.1 2 i 0)), (1, .int v1_48)] → f_X2_spreadBelief_L48 i KK_48 n v1_48 w_48 = some w' → fg_Gv p l e 2 47 s m [.ref (g.1 2 i 0)] below meth c D g w' H locs 48 ls [] := by
      intro KK_48 hK_48 n
      induction n with
      | zero => intro v1_48 w_48 H locs ls h hl hf; exact fg_no hf
      | succ n_48 ih_48 =>
        intro v1_48 w_48 H locs ls h hl hf
        unfold f_X2_spreadBelief_L48 at hf
        refine lv_iload_n hx hb dX2_spreadBelief_48 rfl (lv_at hl 1 rfl) ?_
        refine lv_aload_n hx hb dX2_spreadBelief_49 rfl (lv_at hl 0 rfl) ?_
        refine fg_get (C := RX2) (T := TX2) (N := 16) S vu_X2 hK h (fg_p2_0 hi) rfl rfl 5 (by decide) vf_RX2_28 rfl rfl dX2_spreadBelief_50 ?_
        refine lv_icmp_ge (tgt := 77) hx hb dX2_spreadBelief_53 (by decide) (fun hc => ?_) (fun hc => ?_)
        · have hf := fg_ifT hf hc
          exact hK_48 v1_48 w_48 _ _ ls h (lv_sub hl [0, 1] rfl) hf
        · have hf := fg_ifF hf hc
          refine lv_aload_n hx hb dX2_spreadBelief_56 rfl (lv_at hl 0 rfl) ?_
          refine fg_get (C := RX2) (T := TX2) (N := 16) S vu_X2 hK h (fg_p2_0 hi) rfl rfl 8 (by decide) vf_RX2_37 rfl rfl dX2_spreadBelief_57 ?_
          refine lv_iload_n hx hb dX2_spreadBelief_60 rfl (lv_at hl 1 rfl) ?_
          refine lv_dup2_11 hx hb dX2_spreadBelief_61 rfl rfl ?_
          obtain ⟨hn5, hf⟩ := fg_gdE hf
          refine fg_iald hx hb hK h (fg_p2_7 hi) (fun _ => rfl) hn5 dX2_spreadBelief_62 ?_
          refine lv_aload_n hx hb dX2_spreadBelief_63 rfl (lv_at hl 0 rfl) ?_
          refine fg_get (C := RX2) (T := TX2) (N := 16) S vu_X2 hK h (fg_p2_0 hi) rfl rfl 15 (by decide) vf_RX2_58 rfl rfl dX2_spreadBelief_64 ?_
          refine lv_iload_n hx hb dX2_spreadBelief_67 rfl (lv_at hl 1 rfl) ?_
          obtain ⟨hn6, hf⟩ := fg_gdE hf
          refine fg_iald hx hb hK h (fg_p2_11 hi) (fun _ => rfl) hn6 dX2_spreadBelief_68 ?_
          refine lv_iadd hx hb dX2_spreadBelief_69 ?_
          obtain ⟨hn8, hf⟩ := fg_gdE hf
          refine fg_iast hx hb hK h (fg_p2_7 hi) (fun _ => rfl) hn8 dX2_spreadBelief_70 (fun w7 H locs ew h => ?_)
          have hf := fg_letE ew hf
          refine lv_iinc (v := (v1_48 + 1)) (lv' := [(1, .int (v1_48 + 1)), (0, .ref (g.1 2 i 0))]) hx hb dX2_spreadBelief_71 hl (k := 1) rfl rfl (by decide) rfl (fun ls hl => ?_)
          refine lv_goto (tgt := 48) hx hb dX2_spreadBelief_74 (by decide) ?_
          exact ih_48 (v1_48 + 1) w7 _ _ ls h (lv_sub hl [1, 0] rfl) hf
    exact hL_48 _ hK_48 fg_fuel 0 w_2 _ _ ls h (lv_sub hl [1, 0] rfl) hf
  have hL_2 : ∀ (KK_2 : Int32 → fg_W → Option fg_W) (hK_2 : ∀ (v1_2 : Int32) (w_2 : fg_W) (H : Heap) (locs : List Loc) (ls : Array Slot), fg_H D g s.heap w_2 H locs → lv_has ls 3 [(0, .ref (g.1 2 i 0)), (1, .int v1_2)] → KK_2 v1_2 w_2 = some w' → fg_Gv p l e 2 47 s m [.ref (g.1 2 i 0)] below meth c D g w' H locs 46 ls []) (n : Nat) (v1_2 : Int32) (w_2 : fg_W) (H : Heap) (locs : List Loc) (ls : Array Slot), fg_H D g s.heap w_2 H locs → lv_has ls 3 [(0, .ref (g.1 2 i 0)), (1, .int v1_2)] → f_X2_spreadBelief_L2 i KK_2 n v1_2 w_2 = some w' → fg_Gv p l e 2 47 s m [.ref (g.1 2 i 0)] below meth c D g w' H locs 2 ls [] := by
    intro KK_2 hK_2 n
    induction n with
    | zero => intro v1_2 w_2 H locs ls h hl hf; exact fg_no hf
    | succ n_2 ih_2 =>
      intro v1_2 w_2 H locs ls h hl hf
      unfold f_X2_spreadBelief_L2 at hf
      refine lv_iload_n hx hb dX2_spreadBelief_2 rfl (lv_at hl 1 rfl) ?_
      refine lv_aload_n hx hb dX2_spreadBelief_3 rfl (lv_at hl 0 rfl) ?_
      refine fg_get (C := RX2) (T := TX2) (N := 16) S vu_X2 hK h (fg_p2_0 hi) rfl rfl 5 (by decide) vf_RX2_28 rfl rfl dX2_spreadBelief_4 ?_
      refine lv_icmp_ge (tgt := 46) hx hb dX2_spreadBelief_7 (by decide) (fun hc => ?_) (fun hc => ?_)
      · have hf := fg_ifT hf hc
        exact hK_2 v1_2 w_2 _ _ ls h (lv_sub hl [0, 1] rfl) hf
      · have hf := fg_ifF hf hc
        refine lv_aload_n hx hb dX2_spreadBelief_10 rfl (lv_at hl 0 rfl) ?_
        refine lv_iload_n hx hb dX2_spreadBelief_11 rfl (lv_at hl 1 rfl) ?_
        obtain ⟨r20, w18, hc19, hf⟩ := fg_biE hf
        refine fg_ci h (fg_runV (rest := []) S hK h (c_X2_greatestBeliefBeside l D g i v1_2 hi w_2 r20 w18 hc19) vg_RX2_122 vd_X2_greatestBeliefBeside ⟨by decide, by decide⟩ (fg_p2_0 hi) rfl rfl rfl hl.1 rfl (Nat.le_of_ble_eq_true rfl) dX2_spreadBelief_12 ⟨Nat.zero_le _, Nat.zero_le _⟩) (fun H locs h => ?_)
        refine lv_aload_n hx hb dX2_spreadBelief_15 rfl (lv_at hl 0 rfl) ?_
        refine fg_get (C := RX2) (T := TX2) (N := 16) S vu_X2 hK h (fg_p2_0 hi) rfl rfl 8 (by decide) vf_RX2_37 rfl rfl dX2_spreadBelief_16 ?_
        refine lv_iload_n hx hb dX2_spreadBelief_19 rfl (lv_at hl 1 rfl) ?_
        obtain ⟨hn21, hf⟩ := fg_gdE hf
        refine fg_iald hx hb hK h (fg_p2_7 hi) (fun _ => rfl) hn21 dX2_spreadBelief_20 ?_
        refine lv_isub hx hb dX2_spreadBelief_21 ?_
        refine lv_topi (fun x22 e_x22 => ?_)
        have hf := fg_letE e_x22 hf
        refine lv_istore_n (lv' := [(2, .int x22), (0, .ref (g.1 2 i 0)), (1, .int v1_2)]) hx hb dX2_spreadBelief_22 rfl hl (by decide) rfl (fun ls hl => ?_)
        refine lv_aload_n hx hb dX2_spreadBelief_23 rfl (lv_at hl 1 rfl) ?_
        refine fg_get (C := RX2) (T := TX2) (N := 16) S vu_X2 hK h (fg_p2_0 hi) rfl rfl 15 (by decide) vf_RX2_58 rfl rfl dX2_spreadBelief_24 ?_
        refine lv_iload_n hx hb dX2_spreadBelief_27 rfl (lv_at hl 2 rfl) ?_
        refine lv_iload_n hx hb dX2_spreadBelief_28 rfl (lv_at hl 0 rfl) ?_
        refine lv_if_le (tgt := 38) hx hb dX2_spreadBelief_29 (by decide) (fun hc => ?_) (fun hc => ?_)
        · have hf := fg_ifT hf hc
          refine lv_iconst (v := 0) hx hb dX2_spreadBelief_38 rfl ?_
          obtain ⟨hn24, hf⟩ := fg_gdE hf
          refine fg_iast hx hb hK h (fg_p2_11 hi) (fun _ => rfl) hn24 dX2_spreadBelief_39 (fun w23 H locs ew h => ?_)
          have hf := fg_letE ew hf
          refine lv_iinc (v := (v1_2 + 1)) (lv' := [(1, .int (v1_2 + 1)), (2, .int x22), (0, .ref (g.1 2 i 0))]) hx hb dX2_spreadBelief_40 hl (k := 2) rfl rfl (by decide) rfl (fun ls hl => ?_)
          refine lv_goto (tgt := 2) hx hb dX2_spreadBelief_43 (by decide) ?_
          exact ih_2 (v1_2 + 1) w23 _ _ ls h (lv_sub hl [2, 0] rfl) hf
        · have hf := fg_ifF hf hc
          refine lv_iload_n hx hb dX2_spreadBelief_32 rfl (lv_at hl 0 rfl) ?_
          refine lv_iconst (v := 4) hx hb dX2_spreadBelief_33 rfl ?_
          refine lv_idiv hx hb dX2_spreadBelief_34 (by decide) ?_
          refine lv_goto (tgt := 39) hx hb dX2_spreadBelief_35 (by decide) ?_
          obtain ⟨hn26, hf⟩ := fg_gdE hf
          refine fg_iast hx hb hK h (fg_p2_11 hi) (fun _ => rfl) hn26 dX2_spreadBelief_39 (fun w25 H locs ew h => ?_)
          have hf := fg_letE ew hf
          refine lv_iinc (v := (v1_2 + 1)) (lv' := [(1, .int (v1_2 + 1)), (2, .int x22), (0, .ref (g.1 2 i 0))]) hx hb dX2_spreadBelief_40 hl (k := 2) rfl rfl (by decide) rfl (fun ls hl => ?_)
          refine lv_goto (tgt := 2) hx hb dX2_spreadBelief_43 (by decide) ?_
          exact ih_2 (v1_2 + 1) w25 _ _ ls h (lv_sub hl [2, 0] rfl) hf
  exact hL_2 _ hK_2 fg_fuel 0 w _ _ ls h (lv_sub hl [1, 0] rfl) hf
set_option maxHeartbeats 4000000 in
set_option maxRecDepth 100000 in
theorem c_X2_passDays (l : Launch) (D : va_G) (g : fg_G) (i : Nat) (a1 : Int32) (hi : i < 3) (w : fg_W) (w' : fg_W) (hf : f_X2_passDays i a1 w = some w') : fg_M l yX2_passDays cX2_passDays 3 none 4 92 D g [.ref (g.1 2 i 0), .int a1] w (fg_Qv D g w') := by
  refine fg_M.of rfl (Nat.le_of_ble_eq_true rfl) (fun p e s m below meth c ls S hr hlk hK h hl => ?_)
  have hx := S.1
  have hb := S.2.1
  have hl : lv_has ls 3 [(0, .ref (g.1 2 i 0)), (1, .int a1)] := hl
  unfold f_X2_passDays at hf
  refine lv_iconst (v := 0) hx hb dX2_passDays_0 rfl ?_
  refine lv_istore_n (lv' := [(2, .int 0), (0, .ref (g.1 2 i 0)), (1, .int a1)]) hx hb dX2_passDays_1 rfl hl (by decide) rfl (fun ls hl => ?_)
  have hK_2 : ∀ (v2_2 : Int32) (w_2 : fg_W) (H : Heap) (locs : List Loc) (ls : Array Slot), fg_H D g s.heap w_2 H locs → lv_has ls 3 [(0, .ref (g.1 2 i 0)), (1, .int a1), (2, .int v2_2)] → (some w_2) = some w' → fg_Gv p l e 4 92 s m [.ref (g.1 2 i 0), .int a1] below meth c D g w' H locs 57 ls [] := by
    intro v2_2 w_2 H locs ls h hl hf
    exact fg_retv hx hb hr hlk hK h hf dX2_passDays_57
  have hL_2 : ∀ (KK_2 : Int32 → fg_W → Option fg_W) (hK_2 : ∀ (v2_2 : Int32) (w_2 : fg_W) (H : Heap) (locs : List Loc) (ls : Array Slot), fg_H D g s.heap w_2 H locs → lv_has ls 3 [(0, .ref (g.1 2 i 0)), (1, .int a1), (2, .int v2_2)] → KK_2 v2_2 w_2 = some w' → fg_Gv p l e 4 92 s m [.ref (g.1 2 i 0), .int a1] below meth c D g w' H locs 57 ls []) (n : Nat) (v2_2 : Int32) (w_2 : fg_W) (H : Heap) (locs : List Loc) (ls : Array Slot), fg_H D g s.heap w_2 H locs → lv_has ls 3 [(0, .ref (g.1 2 i 0)), (1, .int a1), (2, .int v2_2)] → f_X2_passDays_L2 i a1 KK_2 n v2_2 w_2 = some w' → fg_Gv p l e 4 92 s m [.ref (g.1 2 i 0), .int a1] below meth c D g w' H locs 2 ls [] := by
    intro KK_2 hK_2 n
    induction n with
    | zero => intro v2_2 w_2 H locs ls h hl hf; exact fg_no hf
    | succ n_2 ih_2 =>
      intro v2_2 w_2 H locs ls h hl hf
      unfold f_X2_passDays_L2 at hf
      refine lv_iload_n hx hb dX2_passDays_2 rfl (lv_at hl 2 rfl) ?_
      refine lv_iload_n hx hb dX2_passDays_3 rfl (lv_at hl 1 rfl) ?_
      refine lv_icmp_ge (tgt := 57) hx hb dX2_passDays_4 (by decide) (fun hc => ?_) (fun hc => ?_)
      · have hf := fg_ifT hf hc
        exact hK_2 v2_2 w_2 _ _ ls h (lv_sub hl [0, 1, 2] rfl) hf
      · have hf := fg_ifF hf hc
        refine lv_aload_n hx hb dX2_passDays_7 rfl (lv_at hl 0 rfl) ?_
        obtain ⟨w13, hc14, hf⟩ := fg_bvE hf
        refine fg_cv h (fg_runV (rest := []) S hK h (c_X2_thinAndThicken l D g i hi w_2 w13 hc14) vg_RX2_84 vd_X2_thinAndThicken ⟨by decide, by decide⟩ (fg_p2_0 hi) rfl rfl rfl hl.1 rfl (Nat.le_of_ble_eq_true rfl) dX2_passDays_8 ⟨Nat.zero_le _, Nat.zero_le _⟩) (fun H locs h => ?_)
        refine lv_aload_n hx hb dX2_passDays_11 rfl (lv_at hl 0 rfl) ?_
        obtain ⟨w15, hc16, hf⟩ := fg_bvE hf
        refine fg_cv h (fg_runV (rest := []) S hK h (c_X2_spreadFog l D g i hi w13 w15 hc16) vg_RX2_87 vd_X2_spreadFog ⟨by decide, by decide⟩ (fg_p2_0 hi) rfl rfl rfl hl.1 rfl (Nat.le_of_ble_eq_true rfl) dX2_passDays_12 ⟨Nat.zero_le _, Nat.zero_le _⟩) (fun H locs h => ?_)
        refine lv_aload_n hx hb dX2_passDays_15 rfl (lv_at hl 0 rfl) ?_
        obtain ⟨w17, hc18, hf⟩ := fg_bvE hf
        refine fg_cv h (fg_runV (rest := []) S hK h (c_X2_movePeople l D g i hi w15 w17 hc18) vg_RX2_90 vd_X2_movePeople ⟨by decide, by decide⟩ (fg_p2_0 hi) rfl rfl rfl hl.1 rfl (Nat.le_of_ble_eq_true rfl) dX2_passDays_16 ⟨Nat.zero_le _, Nat.zero_le _⟩) (fun H locs h => ?_)
        refine lv_aload_n hx hb dX2_passDays_19 rfl (lv_at hl 0 rfl) ?_
        obtain ⟨w19, hc20, hf⟩ := fg_bvE hf
        refine fg_cv h (fg_runV (rest := []) S hK h (c_X2_payRents l D g i hi w17 w19 hc20) vg_RX2_93 vd_X2_payRents ⟨by decide, by decide⟩ (fg_p2_0 hi) rfl rfl rfl hl.1 rfl (Nat.le_of_ble_eq_true rfl) dX2_passDays_20 ⟨Nat.zero_le _, Nat.zero_le _⟩) (fun H locs h => ?_)
        refine lv_aload_n hx hb dX2_passDays_23 rfl (lv_at hl 0 rfl) ?_
        obtain ⟨w21, hc22, hf⟩ := fg_bvE hf
        refine fg_cv h (fg_runV (rest := []) S hK h (c_X2_spreadBelief l D g i hi w19 w21 hc22) vg_RX2_96 vd_X2_spreadBelief ⟨by decide, by decide⟩ (fg_p2_0 hi) rfl rfl rfl hl.1 rfl (Nat.le_of_ble_eq_true rfl) dX2_passDays_24 ⟨Nat.zero_le _, Nat.zero_le _⟩) (fun H locs h => ?_)
        refine lv_aload_n hx hb dX2_passDays_27 rfl (lv_at hl 0 rfl) ?_
        refine lv_aload_n hx hb dX2_passDays_28 rfl (lv_at hl 0 rfl) ?_
        refine fg_get (C := RX2) (T := TX2) (N := 16) S vu_X2 hK h (fg_p2_0 hi) rfl rfl 12 (by decide) vf_RX2_49 rfl rfl dX2_passDays_29 ?_
        refine lv_ldc hx hb S.2.2.2.1 (S.2.2.2.2 _ vc_RX2_99) dX2_passDays_32 ?_
        refine lv_icmp_ge (tgt := 46) hx hb dX2_passDays_34 (by decide) (fun hc => ?_) (fun hc => ?_)
        · have hf := fg_ifT hf hc
          refine lv_ldc hx hb S.2.2.2.1 (S.2.2.2.2 _ vc_RX2_99) dX2_passDays_46 ?_
          refine fg_putI (C := RX2) (T := TX2) (N := 16) (fs := (fg_f2 g i)) S vu_X2 tyX2 tyX2_ok nmX2 hK h (fg_p2_0 hi) (fun _ _ => rfl) rfl 12 (by decide) vf_RX2_49 rfl rfl (tyX2_ok 12 (by decide)) rfl rfl (fun _ => Nat.le_of_ble_eq_true rfl) (fun _ => rfl) dX2_passDays_48 (fun w23 H locs ew h => ?_)
          have hf := fg_letE ew hf
          refine lv_iinc (v := (v2_2 + 1)) (lv' := [(2, .int (v2_2 + 1)), (0, .ref (g.1 2 i 0)), (1, .int a1)]) hx hb dX2_passDays_51 hl (k := 2) rfl rfl (by decide) rfl (fun ls hl => ?_)
          refine lv_goto (tgt := 2) hx hb dX2_passDays_54 (by decide) ?_
          exact ih_2 (v2_2 + 1) w23 _ _ ls h (lv_sub hl [1, 2, 0] rfl) hf
        · have hf := fg_ifF hf hc
          refine lv_aload_n hx hb dX2_passDays_37 rfl (lv_at hl 0 rfl) ?_
          refine fg_get (C := RX2) (T := TX2) (N := 16) S vu_X2 hK h (fg_p2_0 hi) rfl rfl 12 (by decide) vf_RX2_49 rfl rfl dX2_passDays_38 ?_
          refine lv_iconst (v := 1) hx hb dX2_passDays_41 rfl ?_
          refine lv_iadd hx hb dX2_passDays_42 ?_
          refine lv_goto (tgt := 48) hx hb dX2_passDays_43 (by decide) ?_
          refine fg_putI (C := RX2) (T := TX2) (N := 16) (fs := (fg_f2 g i)) S vu_X2 tyX2 tyX2_ok nmX2 hK h (fg_p2_0 hi) (fun _ _ => rfl) rfl 12 (by decide) vf_RX2_49 rfl rfl (tyX2_ok 12 (by decide)) rfl rfl (fun _ => Nat.le_of_ble_eq_true rfl) (fun _ => rfl) dX2_passDays_48 (fun w24 H locs ew h => ?_)
          have hf := fg_letE ew hf
          refine lv_iinc (v := (v2_2 + 1)) (lv' := [(2, .int (v2_2 + 1)), (0, .ref (g.1 2 i 0)), (1, .int a1)]) hx hb dX2_passDays_51 hl (k := 2) rfl rfl (by decide) rfl (fun ls hl => ?_)
          refine lv_goto (tgt := 2) hx hb dX2_passDays_54 (by decide) ?_
          exact ih_2 (v2_2 + 1) w24 _ _ ls h (lv_sub hl [1, 2, 0] rfl) hf
  exact hL_2 _ hK_2 fg_fuel 0 w _ _ ls h (lv_sub hl [1, 2, 0] rfl) hf
set_option maxHeartbeats 4000000 in
set_option maxRecDepth 100000 in
theorem c_X2_thoseOnLots (l : Launch) (D : va_G) (g : fg_G) (i : Nat) (hi : i < 3) (w : fg_W) (r : Int32) (w' : fg_W) (hf : f_X2_thoseOnLots i w = some (r, w')) : fg_M l yX2_thoseOnLots cX2_thoseOnLots 3 (some .int) 0 0 D g [.ref (g.1 2 i 0)] w (fg_Qi D g r w') := by
  refine fg_M.of rfl (Nat.le_of_ble_eq_true rfl) (fun p e s m below meth c ls S hr hlk hK h hl => ?_)
  have hx := S.1
  have hb := S.2.1
  have hl : lv_has ls 3 [(0, .ref (g.1 2 i 0))] := hl
  unfold f_X2_thoseOnLots at hf
  refine lv_iconst (v := 0) hx hb dX2_thoseOnLots_0 rfl ?_
  refine lv_istore_n (lv' := [(1, .int 0), (0, .ref (g.1 2 i 0))]) hx hb dX2_thoseOnLots_1 rfl hl (by decide) rfl (fun ls hl => ?_)
  refine lv_iconst (v := 0) hx hb dX2_thoseOnLots_2 rfl ?_
  refine lv_istore_n (lv' := [(2, .int 0), (1, .int 0), (0, .ref (g.1 2 i 0))]) hx hb dX2_thoseOnLots_3 rfl hl (by decide) rfl (fun ls hl => ?_)
  have hK_4 : ∀ (v1_4 : Int32) (v2_4 : Int32) (w_4 : fg_W) (H : Heap) (locs : List Loc) (ls : Array Slot), fg_H D g s.heap w_4 H locs → lv_has ls 3 [(0, .ref (g.1 2 i 0)), (1, .int v1_4), (2, .int v2_4)] → (some (v1_4, w_4)) = some (r, w') → fg_Gi p l e 0 0 s m [.ref (g.1 2 i 0)] below meth c D g r w' H locs 34 ls [] := by
    intro v1_4 v2_4 w_4 H locs ls h hl hf
    refine lv_iload_n hx hb dX2_thoseOnLots_34 rfl (lv_at hl 1 rfl) ?_
    exact fg_reti hx hb hr hlk hK h hf dX2_thoseOnLots_35
  have hL_4 : ∀ (KK_4 : Int32 → Int32 → fg_W → Option (Int32 × fg_W)) (hK_4 : ∀ (v1_4 : Int32) (v2_4 : Int32) (w_4 : fg_W) (H : Heap) (locs : List Loc) (ls : Array Slot), fg_H D g s.heap w_4 H locs → lv_has ls 3 [(0, .ref (g.1 2 i 0)), (1, .int v1_4), (2, .int v2_4)] → KK_4 v1_4 v2_4 w_4 = some (r, w') → fg_Gi p l e 0 0 s m [.ref (g.1 2 i 0)] below meth c D g r w' H locs 34 ls []) (n : Nat) (v1_4 : Int32) (v2_4 : Int32) (w_4 : fg_W) (H : Heap) (locs : List Loc) (ls : Array Slot), fg_H D g s.heap w_4 H locs → lv_has ls 3 [(0, .ref (g.1 2 i 0)), (1, .int v1_4), (2, .int v2_4)] → f_X2_thoseOnLots_L4 i KK_4 n v1_4 v2_4 w_4 = some (r, w') → fg_Gi p l e 0 0 s m [.ref (g.1 2 i 0)] below meth c D g r w' H locs 4 ls [] := by
    intro KK_4 hK_4 n
    induction n with
    | zero => intro v1_4 v2_4 w_4 H locs ls h hl hf; exact fg_no hf
    | succ n_4 ih_4 =>
      intro v1_4 v2_4 w_4 H locs ls h hl hf
      unfold f_X2_thoseOnLots_L4 at hf
      refine lv_iload_n hx hb dX2_thoseOnLots_4 rfl (lv_at hl 2 rfl) ?_
      refine lv_aload_n hx hb dX2_thoseOnLots_5 rfl (lv_at hl 0 rfl) ?_
      refine fg_get (C := RX2) (T := TX2) (N := 16) S vu_X2 hK h (fg_p2_0 hi) rfl rfl 5 (by decide) vf_RX2_28 rfl rfl dX2_thoseOnLots_6 ?_
      refine lv_icmp_ge (tgt := 34) hx hb dX2_thoseOnLots_9 (by decide) (fun hc => ?_) (fun hc => ?_)
      · have hf := fg_ifT hf hc
        exact hK_4 v1_4 v2_4 w_4 _ _ ls h (lv_sub hl [0, 1, 2] rfl) hf
      · have hf := fg_ifF hf hc
        refine lv_aload_n hx hb dX2_thoseOnLots_12 rfl (lv_at hl 0 rfl) ?_
        refine fg_get (C := RX2) (T := TX2) (N := 16) S vu_X2 hK h (fg_p2_0 hi) rfl rfl 7 (by decide) vf_RX2_34 rfl rfl dX2_thoseOnLots_13 ?_
        refine lv_iload_n hx hb dX2_thoseOnLots_16 rfl (lv_at hl 2 rfl) ?_
        obtain ⟨hn3, hf⟩ := fg_gdE hf
        refine fg_iald hx hb hK h (fg_p2_6 hi) (fun _ => rfl) hn3 dX2_thoseOnLots_17 ?_
        refine lv_iconst (v := (-1)) hx hb dX2_thoseOnLots_18 rfl ?_
        refine lv_icmp_eq (tgt := 28) hx hb dX2_thoseOnLots_19 (by decide) (fun hc => ?_) (fun hc => ?_)
        · have hf := fg_ifT hf hc
          refine lv_iinc (v := (v2_4 + 1)) (lv' := [(2, .int (v2_4 + 1)), (0, .ref (g.1 2 i 0)), (1, .int v1_4)]) hx hb dX2_thoseOnLots_28 hl (k := 2) rfl rfl (by decide) rfl (fun ls hl => ?_)
          refine lv_goto (tgt := 4) hx hb dX2_thoseOnLots_31 (by decide) ?_
          exact ih_4 v1_4 (v2_4 + 1) w_4 _ _ ls h (lv_sub hl [1, 2, 0] rfl) hf
        · have hf := fg_ifF hf hc
          refine lv_iload_n hx hb dX2_thoseOnLots_22 rfl (lv_at hl 1 rfl) ?_
          refine lv_iconst (v := 1) hx hb dX2_thoseOnLots_23 rfl ?_
          refine lv_iload_n hx hb dX2_thoseOnLots_24 rfl (lv_at hl 2 rfl) ?_
          refine lv_ishl hx hb dX2_thoseOnLots_25 ?_
          refine lv_ior hx hb dX2_thoseOnLots_26 ?_
          refine lv_topi (fun x4 e_x4 => ?_)
          have hf := fg_letE e_x4 hf
          refine lv_istore_n (lv' := [(1, .int x4), (0, .ref (g.1 2 i 0)), (2, .int v2_4)]) hx hb dX2_thoseOnLots_27 rfl hl (by decide) rfl (fun ls hl => ?_)
          refine lv_iinc (v := (v2_4 + 1)) (lv' := [(2, .int (v2_4 + 1)), (1, .int x4), (0, .ref (g.1 2 i 0))]) hx hb dX2_thoseOnLots_28 hl (k := 2) rfl rfl (by decide) rfl (fun ls hl => ?_)
          refine lv_goto (tgt := 4) hx hb dX2_thoseOnLots_31 (by decide) ?_
          exact ih_4 x4 (v2_4 + 1) w_4 _ _ ls h (lv_sub hl [2, 1, 0] rfl) hf
  exact hL_4 _ hK_4 fg_fuel 0 0 w _ _ ls h (lv_sub hl [2, 1, 0] rfl) hf
set_option maxHeartbeats 4000000 in
set_option maxRecDepth 100000 in
theorem c_X2_become (l : Launch) (D : va_G) (g : fg_G) (i : Nat) (j : Nat) (hi : i < 3) (hj : j < 3) (w : fg_W) (w' : fg_W) (hf : f_X2_become i j w = some w') : fg_M l yX2_become cX2_become 2 none 1 40 D g [.ref (g.1 2 i 0), .ref (g.1 2 j 0)] w (fg_Qv D g w') := by
  refine fg_M.of rfl (Nat.le_of_ble_eq_true rfl) (fun p e s m below meth c ls S hr hlk hK h hl => ?_)
  have hx := S.1
  have hb := S.2.1
  have hl : lv_has ls 2 [(0, .ref (g.1 2 i 0)), (1, .ref (g.1 2 j 0))] := hl
  unfold f_X2_become at hf
  refine lv_aload_n hx hb dX2_become_0 rfl (lv_at hl 1 rfl) ?_
  refine fg_get (C := RX2) (T := TX2) (N := 16) S vu_X2 hK h (fg_p2_0 hj) rfl rfl 0 (by decide) vf_RX2_9 rfl rfl dX2_become_1 ?_
  refine lv_iconst (v := 0) hx hb dX2_become_4 rfl ?_
  refine lv_aload_n hx hb dX2_become_5 rfl (lv_at hl 0 rfl) ?_
  refine fg_get (C := RX2) (T := TX2) (N := 16) S vu_X2 hK h (fg_p2_0 hi) rfl rfl 0 (by decide) vf_RX2_9 rfl rfl dX2_become_6 ?_
  refine lv_iconst (v := 0) hx hb dX2_become_9 rfl ?_
  refine lv_bipush (v := 10) hx hb dX2_become_10 rfl ?_
  refine fg_copy (sj := 0) (dj := 0) (nj := 10) S hK h (fg_p2_1 hj) (fun _ => rfl) (fg_p2_1 hi) (fun _ => rfl) rfl rfl rfl (by decide) (by decide) (by decide) (by decide) (by decide) vm_RX2_61 hl.1 (by decide) (Nat.le_of_ble_eq_true rfl) dX2_become_12 (fun w1 H locs ew h => ?_)
  have hf := fg_letE ew hf
  refine lv_aload_n hx hb dX2_become_15 rfl (lv_at hl 1 rfl) ?_
  refine fg_get (C := RX2) (T := TX2) (N := 16) S vu_X2 hK h (fg_p2_0 hj) rfl rfl 1 (by decide) vf_RX2_15 rfl rfl dX2_become_16 ?_
  refine lv_iconst (v := 0) hx hb dX2_become_19 rfl ?_
  refine lv_aload_n hx hb dX2_become_20 rfl (lv_at hl 0 rfl) ?_
  refine fg_get (C := RX2) (T := TX2) (N := 16) S vu_X2 hK h (fg_p2_0 hi) rfl rfl 1 (by decide) vf_RX2_15 rfl rfl dX2_become_21 ?_
  refine lv_iconst (v := 0) hx hb dX2_become_24 rfl ?_
  refine lv_bipush (v := 10) hx hb dX2_become_25 rfl ?_
  refine fg_copy (sj := 0) (dj := 0) (nj := 10) S hK h (fg_p2_2 hj) (fun _ => rfl) (fg_p2_2 hi) (fun _ => rfl) rfl rfl rfl (by decide) (by decide) (by decide) (by decide) (by decide) vm_RX2_61 hl.1 (by decide) (Nat.le_of_ble_eq_true rfl) dX2_become_27 (fun w2 H locs ew h => ?_)
  have hf := fg_letE ew hf
  refine lv_aload_n hx hb dX2_become_30 rfl (lv_at hl 1 rfl) ?_
  refine fg_get (C := RX2) (T := TX2) (N := 16) S vu_X2 hK h (fg_p2_0 hj) rfl rfl 2 (by decide) vf_RX2_18 rfl rfl dX2_become_31 ?_
  refine lv_iconst (v := 0) hx hb dX2_become_34 rfl ?_
  refine lv_aload_n hx hb dX2_become_35 rfl (lv_at hl 0 rfl) ?_
  refine fg_get (C := RX2) (T := TX2) (N := 16) S vu_X2 hK h (fg_p2_0 hi) rfl rfl 2 (by decide) vf_RX2_18 rfl rfl dX2_become_36 ?_
  refine lv_iconst (v := 0) hx hb dX2_become_39 rfl ?_
  refine lv_bipush (v := 10) hx hb dX2_become_40 rfl ?_
  refine fg_copy (sj := 0) (dj := 0) (nj := 10) S hK h (fg_p2_3 hj) (fun _ => rfl) (fg_p2_3 hi) (fun _ => rfl) rfl rfl rfl (by decide) (by decide) (by decide) (by decide) (by decide) vm_RX2_61 hl.1 (by decide) (Nat.le_of_ble_eq_true rfl) dX2_become_42 (fun w3 H locs ew h => ?_)
  have hf := fg_letE ew hf
  refine lv_aload_n hx hb dX2_become_45 rfl (lv_at hl 1 rfl) ?_
  refine fg_get (C := RX2) (T := TX2) (N := 16) S vu_X2 hK h (fg_p2_0 hj) rfl rfl 3 (by decide) vf_RX2_21 rfl rfl dX2_become_46 ?_
  refine lv_iconst (v := 0) hx hb dX2_become_49 rfl ?_
  refine lv_aload_n hx hb dX2_become_50 rfl (lv_at hl 0 rfl) ?_
  refine fg_get (C := RX2) (T := TX2) (N := 16) S vu_X2 hK h (fg_p2_0 hi) rfl rfl 3 (by decide) vf_RX2_21 rfl rfl dX2_become_51 ?_
  refine lv_iconst (v := 0) hx hb dX2_become_54 rfl ?_
  refine lv_bipush (v := 6) hx hb dX2_become_55 rfl ?_
  refine fg_copy (sj := 0) (dj := 0) (nj := 6) S hK h (fg_p2_4 hj) (fun _ => rfl) (fg_p2_4 hi) (fun _ => rfl) rfl rfl rfl (by decide) (by decide) (by decide) (by decide) (by decide) vm_RX2_61 hl.1 (by decide) (Nat.le_of_ble_eq_true rfl) dX2_become_57 (fun w4 H locs ew h => ?_)
  have hf := fg_letE ew hf
  refine lv_aload_n hx hb dX2_become_60 rfl (lv_at hl 0 rfl) ?_
  refine lv_aload_n hx hb dX2_become_61 rfl (lv_at hl 1 rfl) ?_
  refine fg_get (C := RX2) (T := TX2) (N := 16) S vu_X2 hK h (fg_p2_0 hj) rfl rfl 4 (by decide) vf_RX2_24 rfl rfl dX2_become_62 ?_
  refine fg_putI (C := RX2) (T := TX2) (N := 16) (fs := (fg_f2 g i)) S vu_X2 tyX2 tyX2_ok nmX2 hK h (fg_p2_0 hi) (fun _ _ => rfl) rfl 4 (by decide) vf_RX2_24 rfl rfl (tyX2_ok 4 (by decide)) rfl rfl (fun _ => Nat.le_of_ble_eq_true rfl) (fun _ => rfl) dX2_become_65 (fun w5 H locs ew h => ?_)
  have hf := fg_letE ew hf
  refine lv_aload_n hx hb dX2_become_68 rfl (lv_at hl 0 rfl) ?_
  refine lv_aload_n hx hb dX2_become_69 rfl (lv_at hl 1 rfl) ?_
  refine fg_get (C := RX2) (T := TX2) (N := 16) S vu_X2 hK h (fg_p2_0 hj) rfl rfl 5 (by decide) vf_RX2_28 rfl rfl dX2_become_70 ?_
  refine fg_putI (C := RX2) (T := TX2) (N := 16) (fs := (fg_f2 g i)) S vu_X2 tyX2 tyX2_ok nmX2 hK h (fg_p2_0 hi) (fun _ _ => rfl) rfl 5 (by decide) vf_RX2_28 rfl rfl (tyX2_ok 5 (by decide)) rfl rfl (fun _ => Nat.le_of_ble_eq_true rfl) (fun _ => rfl) dX2_become_73 (fun w6 H locs ew h => ?_)
  have hf := fg_letE ew hf
  refine lv_aload_n hx hb dX2_become_76 rfl (lv_at hl 1 rfl) ?_
  refine fg_get (C := RX2) (T := TX2) (N := 16) S vu_X2 hK h (fg_p2_0 hj) rfl rfl 6 (by decide) vf_RX2_31 rfl rfl dX2_become_77 ?_
  refine lv_iconst (v := 0) hx hb dX2_become_80 rfl ?_
  refine lv_aload_n hx hb dX2_become_81 rfl (lv_at hl 0 rfl) ?_
  refine fg_get (C := RX2) (T := TX2) (N := 16) S vu_X2 hK h (fg_p2_0 hi) rfl rfl 6 (by decide) vf_RX2_31 rfl rfl dX2_become_82 ?_
  refine lv_iconst (v := 0) hx hb dX2_become_85 rfl ?_
  refine lv_bipush (v := 8) hx hb dX2_become_86 rfl ?_
  refine fg_copy (sj := 0) (dj := 0) (nj := 8) S hK h (fg_p2_5 hj) (fun _ => rfl) (fg_p2_5 hi) (fun _ => rfl) rfl rfl rfl (by decide) (by decide) (by decide) (by decide) (by decide) vm_RX2_61 hl.1 (by decide) (Nat.le_of_ble_eq_true rfl) dX2_become_88 (fun w7 H locs ew h => ?_)
  have hf := fg_letE ew hf
  refine lv_aload_n hx hb dX2_become_91 rfl (lv_at hl 1 rfl) ?_
  refine fg_get (C := RX2) (T := TX2) (N := 16) S vu_X2 hK h (fg_p2_0 hj) rfl rfl 7 (by decide) vf_RX2_34 rfl rfl dX2_become_92 ?_
  refine lv_iconst (v := 0) hx hb dX2_become_95 rfl ?_
  refine lv_aload_n hx hb dX2_become_96 rfl (lv_at hl 0 rfl) ?_
  refine fg_get (C := RX2) (T := TX2) (N := 16) S vu_X2 hK h (fg_p2_0 hi) rfl rfl 7 (by decide) vf_RX2_34 rfl rfl dX2_become_97 ?_
  refine lv_iconst (v := 0) hx hb dX2_become_100 rfl ?_
  refine lv_bipush (v := 8) hx hb dX2_become_101 rfl ?_
  refine fg_copy (sj := 0) (dj := 0) (nj := 8) S hK h (fg_p2_6 hj) (fun _ => rfl) (fg_p2_6 hi) (fun _ => rfl) rfl rfl rfl (by decide) (by decide) (by decide) (by decide) (by decide) vm_RX2_61 hl.1 (by decide) (Nat.le_of_ble_eq_true rfl) dX2_become_103 (fun w8 H locs ew h => ?_)
  have hf := fg_letE ew hf
  refine lv_aload_n hx hb dX2_become_106 rfl (lv_at hl 1 rfl) ?_
  refine fg_get (C := RX2) (T := TX2) (N := 16) S vu_X2 hK h (fg_p2_0 hj) rfl rfl 8 (by decide) vf_RX2_37 rfl rfl dX2_become_107 ?_
  refine lv_iconst (v := 0) hx hb dX2_become_110 rfl ?_
  refine lv_aload_n hx hb dX2_become_111 rfl (lv_at hl 0 rfl) ?_
  refine fg_get (C := RX2) (T := TX2) (N := 16) S vu_X2 hK h (fg_p2_0 hi) rfl rfl 8 (by decide) vf_RX2_37 rfl rfl dX2_become_112 ?_
  refine lv_iconst (v := 0) hx hb dX2_become_115 rfl ?_
  refine lv_bipush (v := 8) hx hb dX2_become_116 rfl ?_
  refine fg_copy (sj := 0) (dj := 0) (nj := 8) S hK h (fg_p2_7 hj) (fun _ => rfl) (fg_p2_7 hi) (fun _ => rfl) rfl rfl rfl (by decide) (by decide) (by decide) (by decide) (by decide) vm_RX2_61 hl.1 (by decide) (Nat.le_of_ble_eq_true rfl) dX2_become_118 (fun w9 H locs ew h => ?_)
  have hf := fg_letE ew hf
  refine lv_aload_n hx hb dX2_become_121 rfl (lv_at hl 1 rfl) ?_
  refine fg_get (C := RX2) (T := TX2) (N := 16) S vu_X2 hK h (fg_p2_0 hj) rfl rfl 9 (by decide) vf_RX2_40 rfl rfl dX2_become_122 ?_
  refine lv_iconst (v := 0) hx hb dX2_become_125 rfl ?_
  refine lv_aload_n hx hb dX2_become_126 rfl (lv_at hl 0 rfl) ?_
  refine fg_get (C := RX2) (T := TX2) (N := 16) S vu_X2 hK h (fg_p2_0 hi) rfl rfl 9 (by decide) vf_RX2_40 rfl rfl dX2_become_127 ?_
  refine lv_iconst (v := 0) hx hb dX2_become_130 rfl ?_
  refine lv_bipush (v := 8) hx hb dX2_become_131 rfl ?_
  refine fg_copy (sj := 0) (dj := 0) (nj := 8) S hK h (fg_p2_8 hj) (fun _ => rfl) (fg_p2_8 hi) (fun _ => rfl) rfl rfl rfl (by decide) (by decide) (by decide) (by decide) (by decide) vm_RX2_61 hl.1 (by decide) (Nat.le_of_ble_eq_true rfl) dX2_become_133 (fun w10 H locs ew h => ?_)
  have hf := fg_letE ew hf
  refine lv_aload_n hx hb dX2_become_136 rfl (lv_at hl 1 rfl) ?_
  refine fg_get (C := RX2) (T := TX2) (N := 16) S vu_X2 hK h (fg_p2_0 hj) rfl rfl 10 (by decide) vf_RX2_43 rfl rfl dX2_become_137 ?_
  refine lv_iconst (v := 0) hx hb dX2_become_140 rfl ?_
  refine lv_aload_n hx hb dX2_become_141 rfl (lv_at hl 0 rfl) ?_
  refine fg_get (C := RX2) (T := TX2) (N := 16) S vu_X2 hK h (fg_p2_0 hi) rfl rfl 10 (by decide) vf_RX2_43 rfl rfl dX2_become_142 ?_
  refine lv_iconst (v := 0) hx hb dX2_become_145 rfl ?_
  refine lv_bipush (v := 8) hx hb dX2_become_146 rfl ?_
  refine fg_copy (sj := 0) (dj := 0) (nj := 8) S hK h (fg_p2_9 hj) (fun _ => rfl) (fg_p2_9 hi) (fun _ => rfl) rfl rfl rfl (by decide) (by decide) (by decide) (by decide) (by decide) vm_RX2_61 hl.1 (by decide) (Nat.le_of_ble_eq_true rfl) dX2_become_148 (fun w11 H locs ew h => ?_)
  have hf := fg_letE ew hf
  refine lv_aload_n hx hb dX2_become_151 rfl (lv_at hl 0 rfl) ?_
  refine lv_aload_n hx hb dX2_become_152 rfl (lv_at hl 1 rfl) ?_
  refine fg_get (C := RX2) (T := TX2) (N := 16) S vu_X2 hK h (fg_p2_0 hj) rfl rfl 11 (by decide) vf_RX2_46 rfl rfl dX2_become_153 ?_
  refine fg_putI (C := RX2) (T := TX2) (N := 16) (fs := (fg_f2 g i)) S vu_X2 tyX2 tyX2_ok nmX2 hK h (fg_p2_0 hi) (fun _ _ => rfl) rfl 11 (by decide) vf_RX2_46 rfl rfl (tyX2_ok 11 (by decide)) rfl rfl (fun _ => Nat.le_of_ble_eq_true rfl) (fun _ => rfl) dX2_become_156 (fun w12 H locs ew h => ?_)
  have hf := fg_letE ew hf
  refine lv_aload_n hx hb dX2_become_159 rfl (lv_at hl 0 rfl) ?_
  refine lv_aload_n hx hb dX2_become_160 rfl (lv_at hl 1 rfl) ?_
  refine fg_get (C := RX2) (T := TX2) (N := 16) S vu_X2 hK h (fg_p2_0 hj) rfl rfl 12 (by decide) vf_RX2_49 rfl rfl dX2_become_161 ?_
  refine fg_putI (C := RX2) (T := TX2) (N := 16) (fs := (fg_f2 g i)) S vu_X2 tyX2 tyX2_ok nmX2 hK h (fg_p2_0 hi) (fun _ _ => rfl) rfl 12 (by decide) vf_RX2_49 rfl rfl (tyX2_ok 12 (by decide)) rfl rfl (fun _ => Nat.le_of_ble_eq_true rfl) (fun _ => rfl) dX2_become_164 (fun w13 H locs ew h => ?_)
  have hf := fg_letE ew hf
  refine lv_aload_n hx hb dX2_become_167 rfl (lv_at hl 0 rfl) ?_
  refine lv_aload_n hx hb dX2_become_168 rfl (lv_at hl 1 rfl) ?_
  refine fg_get (C := RX2) (T := TX2) (N := 16) S vu_X2 hK h (fg_p2_0 hj) rfl rfl 13 (by decide) vf_RX2_52 rfl rfl dX2_become_169 ?_
  refine fg_putI (C := RX2) (T := TX2) (N := 16) (fs := (fg_f2 g i)) S vu_X2 tyX2 tyX2_ok nmX2 hK h (fg_p2_0 hi) (fun _ _ => rfl) rfl 13 (by decide) vf_RX2_52 rfl rfl (tyX2_ok 13 (by decide)) rfl rfl (fun _ => Nat.le_of_ble_eq_true rfl) (fun _ => rfl) dX2_become_172 (fun w14 H locs ew h => ?_)
  have hf := fg_letE ew hf
  refine lv_aload_n hx hb dX2_become_175 rfl (lv_at hl 1 rfl) ?_
  refine fg_get (C := RX2) (T := TX2) (N := 16) S vu_X2 hK h (fg_p2_0 hj) rfl rfl 14 (by decide) vf_RX2_55 rfl rfl dX2_become_176 ?_
  refine lv_iconst (v := 0) hx hb dX2_become_179 rfl ?_
  refine lv_aload_n hx hb dX2_become_180 rfl (lv_at hl 0 rfl) ?_
  refine fg_get (C := RX2) (T := TX2) (N := 16) S vu_X2 hK h (fg_p2_0 hi) rfl rfl 14 (by decide) vf_RX2_55 rfl rfl dX2_become_181 ?_
  refine lv_iconst (v := 0) hx hb dX2_become_184 rfl ?_
  refine lv_bipush (v := 10) hx hb dX2_become_185 rfl ?_
  refine fg_copy (sj := 0) (dj := 0) (nj := 10) S hK h (fg_p2_10 hj) (fun _ => rfl) (fg_p2_10 hi) (fun _ => rfl) rfl rfl rfl (by decide) (by decide) (by decide) (by decide) (by decide) vm_RX2_61 hl.1 (by decide) (Nat.le_of_ble_eq_true rfl) dX2_become_187 (fun w15 H locs ew h => ?_)
  have hf := fg_letE ew hf
  exact fg_retv hx hb hr hlk hK h hf dX2_become_190
set_option maxHeartbeats 4000000 in
set_option maxRecDepth 100000 in
theorem c_J6_bitCount_0f7a4 (l : Launch) (D : va_G) (g : fg_G) (a1 : Int32) (w : fg_W) (r : Int32) (w' : fg_W) (hf : f_J6_bitCount_0f7a4 a1 w = some (r, w')) : fg_M l yJ6_bitCount_0f7a4 cJ6_bitCount_0f7a4 1 (some .int) 0 0 D g [.int a1] w (fg_Qi D g r w') := by
  refine fg_M.of rfl (Nat.le_of_ble_eq_true rfl) (fun p e s m below meth c ls S hr hlk hK h hl => ?_)
  have hx := S.1
  have hb := S.2.1
  have hl : lv_has ls 1 [(0, .int a1)] := hl
  unfold f_J6_bitCount_0f7a4 at hf
  refine lv_iload_n hx hb dJ6_bitCount_0f7a4_0 rfl (lv_at hl 0 rfl) ?_
  refine lv_iload_n hx hb dJ6_bitCount_0f7a4_1 rfl (lv_at hl 0 rfl) ?_
  refine lv_iconst (v := 1) hx hb dJ6_bitCount_0f7a4_2 rfl ?_
  refine lv_iushr hx hb dJ6_bitCount_0f7a4_3 rfl ?_
  refine lv_ldcw hx hb S.2.2.2.1 (S.2.2.2.2 _ vc_RJ6_265) dJ6_bitCount_0f7a4_4 ?_
  refine lv_iand hx hb dJ6_bitCount_0f7a4_7 ?_
  refine lv_isub hx hb dJ6_bitCount_0f7a4_8 ?_
  refine lv_topi (fun x1 e_x1 => ?_)
  have hf := fg_letE e_x1 hf
  refine lv_istore_n (lv' := [(0, .int x1)]) hx hb dJ6_bitCount_0f7a4_9 rfl hl (by decide) rfl (fun ls hl => ?_)
  refine lv_iload_n hx hb dJ6_bitCount_0f7a4_10 rfl (lv_at hl 0 rfl) ?_
  refine lv_ldcw hx hb S.2.2.2.1 (S.2.2.2.2 _ vc_RJ6_266) dJ6_bitCount_0f7a4_11 ?_
  refine lv_iand hx hb dJ6_bitCount_0f7a4_14 ?_
  refine lv_iload_n hx hb dJ6_bitCount_0f7a4_15 rfl (lv_at hl 0 rfl) ?_
  refine lv_iconst (v := 2) hx hb dJ6_bitCount_0f7a4_16 rfl ?_
  refine lv_iushr hx hb dJ6_bitCount_0f7a4_17 rfl ?_
  refine lv_ldcw hx hb S.2.2.2.1 (S.2.2.2.2 _ vc_RJ6_266) dJ6_bitCount_0f7a4_18 ?_
  refine lv_iand hx hb dJ6_bitCount_0f7a4_21 ?_
  refine lv_iadd hx hb dJ6_bitCount_0f7a4_22 ?_
  refine lv_topi (fun x2 e_x2 => ?_)
  have hf := fg_letE e_x2 hf
  refine lv_istore_n (lv' := [(0, .int x2)]) hx hb dJ6_bitCount_0f7a4_23 rfl hl (by decide) rfl (fun ls hl => ?_)
  refine lv_iload_n hx hb dJ6_bitCount_0f7a4_24 rfl (lv_at hl 0 rfl) ?_
  refine lv_iload_n hx hb dJ6_bitCount_0f7a4_25 rfl (lv_at hl 0 rfl) ?_
  refine lv_iconst (v := 4) hx hb dJ6_bitCount_0f7a4_26 rfl ?_
  refine lv_iushr hx hb dJ6_bitCount_0f7a4_27 rfl ?_
  refine lv_iadd hx hb dJ6_bitCount_0f7a4_28 ?_
  refine lv_ldcw hx hb S.2.2.2.1 (S.2.2.2.2 _ vc_RJ6_267) dJ6_bitCount_0f7a4_29 ?_
  refine lv_iand hx hb dJ6_bitCount_0f7a4_32 ?_
  refine lv_topi (fun x3 e_x3 => ?_)
  have hf := fg_letE e_x3 hf
  refine lv_istore_n (lv' := [(0, .int x3)]) hx hb dJ6_bitCount_0f7a4_33 rfl hl (by decide) rfl (fun ls hl => ?_)
  refine lv_iload_n hx hb dJ6_bitCount_0f7a4_34 rfl (lv_at hl 0 rfl) ?_
  refine lv_iload_n hx hb dJ6_bitCount_0f7a4_35 rfl (lv_at hl 0 rfl) ?_
  refine lv_bipush (v := 8) hx hb dJ6_bitCount_0f7a4_36 rfl ?_
  refine lv_iushr hx hb dJ6_bitCount_0f7a4_38 rfl ?_
  refine lv_iadd hx hb dJ6_bitCount_0f7a4_39 ?_
  refine lv_topi (fun x4 e_x4 => ?_)
  have hf := fg_letE e_x4 hf
  refine lv_istore_n (lv' := [(0, .int x4)]) hx hb dJ6_bitCount_0f7a4_40 rfl hl (by decide) rfl (fun ls hl => ?_)
  refine lv_iload_n hx hb dJ6_bitCount_0f7a4_41 rfl (lv_at hl 0 rfl) ?_
  refine lv_iload_n hx hb dJ6_bitCount_0f7a4_42 rfl (lv_at hl 0 rfl) ?_
  refine lv_bipush (v := 16) hx hb dJ6_bitCount_0f7a4_43 rfl ?_
  refine lv_iushr hx hb dJ6_bitCount_0f7a4_45 rfl ?_
  refine lv_iadd hx hb dJ6_bitCount_0f7a4_46 ?_
  refine lv_topi (fun x5 e_x5 => ?_)
  have hf := fg_letE e_x5 hf
  refine lv_istore_n (lv' := [(0, .int x5)]) hx hb dJ6_bitCount_0f7a4_47 rfl hl (by decide) rfl (fun ls hl => ?_)
  refine lv_iload_n hx hb dJ6_bitCount_0f7a4_48 rfl (lv_at hl 0 rfl) ?_
  refine lv_bipush (v := 63) hx hb dJ6_bitCount_0f7a4_49 rfl ?_
  refine lv_iand hx hb dJ6_bitCount_0f7a4_51 ?_
  exact fg_reti hx hb hr hlk hK h hf dJ6_bitCount_0f7a4_52
set_option maxHeartbeats 4000000 in
set_option maxRecDepth 100000 in
theorem c_X2_sendAway (l : Launch) (D : va_G) (g : fg_G) (i : Nat) (a1 : Int32) (hi : i < 3) (w : fg_W) (w' : fg_W) (hf : f_X2_sendAway i a1 w = some w') : fg_M l yX2_sendAway cX2_sendAway 3 none 1 21 D g [.ref (g.1 2 i 0), .int a1] w (fg_Qv D g w') := by
  refine fg_M.of rfl (Nat.le_of_ble_eq_true rfl) (fun p e s m below meth c ls S hr hlk hK h hl => ?_)
  have hx := S.1
  have hb := S.2.1
  have hl : lv_has ls 3 [(0, .ref (g.1 2 i 0)), (1, .int a1)] := hl
  unfold f_X2_sendAway at hf
  refine lv_aload_n hx hb dX2_sendAway_0 rfl (lv_at hl 0 rfl) ?_
  refine lv_iload_n hx hb dX2_sendAway_1 rfl (lv_at hl 1 rfl) ?_
  refine fg_putI (C := RX2) (T := TX2) (N := 16) (fs := (fg_f2 g i)) S vu_X2 tyX2 tyX2_ok nmX2 hK h (fg_p2_0 hi) (fun _ _ => rfl) rfl 11 (by decide) vf_RX2_46 rfl rfl (tyX2_ok 11 (by decide)) rfl rfl (fun _ => Nat.le_of_ble_eq_true rfl) (fun _ => rfl) dX2_sendAway_2 (fun w1 H locs ew h => ?_)
  have hf := fg_letE ew hf
  refine lv_iconst (v := 0) hx hb dX2_sendAway_5 rfl ?_
  refine lv_istore_n (lv' := [(2, .int 0), (0, .ref (g.1 2 i 0)), (1, .int a1)]) hx hb dX2_sendAway_6 rfl hl (by decide) rfl (fun ls hl => ?_)
  have hK_7 : ∀ (v2_7 : Int32) (w_7 : fg_W) (H : Heap) (locs : List Loc) (ls : Array Slot), fg_H D g s.heap w_7 H locs → lv_has ls 3 [(0, .ref (g.1 2 i 0)), (1, .int a1), (2, .int v2_7)] → (some w_7) = some w' → fg_Gv p l e 1 21 s m [.ref (g.1 2 i 0), .int a1] below meth c D g w' H locs 36 ls [] := by
    intro v2_7 w_7 H locs ls h hl hf
    exact fg_retv hx hb hr hlk hK h hf dX2_sendAway_36
  have hL_7 : ∀ (KK_7 : Int32 → fg_W → Option fg_W) (hK_7 : ∀ (v2_7 : Int32) (w_7 : fg_W) (H : Heap) (locs : List Loc) (ls : Array Slot), fg_H D g s.heap w_7 H locs → lv_has ls 3 [(0, .ref (g.1 2 i 0)), (1, .int a1), (2, .int v2_7)] → KK_7 v2_7 w_7 = some w' → fg_Gv p l e 1 21 s m [.ref (g.1 2 i 0), .int a1] below meth c D g w' H locs 36 ls []) (n : Nat) (v2_7 : Int32) (w_7 : fg_W) (H : Heap) (locs : List Loc) (ls : Array Slot), fg_H D g s.heap w_7 H locs → lv_has ls 3 [(0, .ref (g.1 2 i 0)), (1, .int a1), (2, .int v2_7)] → f_X2_sendAway_L7 i KK_7 n v2_7 w_7 = some w' → fg_Gv p l e 1 21 s m [.ref (g.1 2 i 0), .int a1] below meth c D g w' H locs 7 ls [] := by
    intro KK_7 hK_7 n
    induction n with
    | zero => intro v2_7 w_7 H locs ls h hl hf; exact fg_no hf
    | succ n_7 ih_7 =>
      intro v2_7 w_7 H locs ls h hl hf
      unfold f_X2_sendAway_L7 at hf
      refine lv_iload_n hx hb dX2_sendAway_7 rfl (lv_at hl 2 rfl) ?_
      refine lv_aload_n hx hb dX2_sendAway_8 rfl (lv_at hl 0 rfl) ?_
      refine fg_get (C := RX2) (T := TX2) (N := 16) S vu_X2 hK h (fg_p2_0 hi) rfl rfl 5 (by decide) vf_RX2_28 rfl rfl dX2_sendAway_9 ?_
      refine lv_icmp_ge (tgt := 36) hx hb dX2_sendAway_12 (by decide) (fun hc => ?_) (fun hc => ?_)
      · have hf := fg_ifT hf hc
        exact hK_7 v2_7 w_7 _ _ ls h (lv_sub hl [0, 1, 2] rfl) hf
      · have hf := fg_ifF hf hc
        refine lv_aload_n hx hb dX2_sendAway_15 rfl (lv_at hl 0 rfl) ?_
        refine lv_iload_n hx hb dX2_sendAway_16 rfl (lv_at hl 2 rfl) ?_
        obtain ⟨r9, w7, hc8, hf⟩ := fg_biE hf
        refine fg_ci h (fg_runV (rest := []) S hK h (c_X2_isGone l D g i v2_7 hi w_7 r9 w7 hc8) vg_RX2_67 vd_X2_isGone ⟨by decide, by decide⟩ (fg_p2_0 hi) rfl rfl rfl hl.1 rfl (Nat.le_of_ble_eq_true rfl) dX2_sendAway_17 ⟨Nat.zero_le _, Nat.zero_le _⟩) (fun H locs h => ?_)
        refine lv_if_eq (tgt := 30) hx hb dX2_sendAway_20 (by decide) (fun hc => ?_) (fun hc => ?_)
        · have hf := fg_ifT hf hc
          refine lv_iinc (v := (v2_7 + 1)) (lv' := [(2, .int (v2_7 + 1)), (0, .ref (g.1 2 i 0)), (1, .int a1)]) hx hb dX2_sendAway_30 hl (k := 2) rfl rfl (by decide) rfl (fun ls hl => ?_)
          refine lv_goto (tgt := 7) hx hb dX2_sendAway_33 (by decide) ?_
          exact ih_7 (v2_7 + 1) w7 _ _ ls h (lv_sub hl [1, 2, 0] rfl) hf
        · have hf := fg_ifF hf hc
          refine lv_aload_n hx hb dX2_sendAway_23 rfl (lv_at hl 0 rfl) ?_
          refine fg_get (C := RX2) (T := TX2) (N := 16) S vu_X2 hK h (fg_p2_0 hi) rfl rfl 7 (by decide) vf_RX2_34 rfl rfl dX2_sendAway_24 ?_
          refine lv_iload_n hx hb dX2_sendAway_27 rfl (lv_at hl 2 rfl) ?_
          refine lv_iconst (v := (-1)) hx hb dX2_sendAway_28 rfl ?_
          obtain ⟨hn11, hf⟩ := fg_gdE hf
          refine fg_iast hx hb hK h (fg_p2_6 hi) (fun _ => rfl) hn11 dX2_sendAway_29 (fun w10 H locs ew h => ?_)
          have hf := fg_letE ew hf
          refine lv_iinc (v := (v2_7 + 1)) (lv' := [(2, .int (v2_7 + 1)), (0, .ref (g.1 2 i 0)), (1, .int a1)]) hx hb dX2_sendAway_30 hl (k := 2) rfl rfl (by decide) rfl (fun ls hl => ?_)
          refine lv_goto (tgt := 7) hx hb dX2_sendAway_33 (by decide) ?_
          exact ih_7 (v2_7 + 1) w10 _ _ ls h (lv_sub hl [1, 2, 0] rfl) hf
  exact hL_7 _ hK_7 fg_fuel 0 w1 _ _ ls h (lv_sub hl [1, 2, 0] rfl) hf
set_option maxHeartbeats 4000000 in
set_option maxRecDepth 100000 in
theorem c_X2_draw (l : Launch) (D : va_G) (g : fg_G) (i : Nat) (hi : i < 3) (w : fg_W) (r : Int32) (w' : fg_W) (hf : f_X2_draw i w = some (r, w')) : fg_M l yX2_draw cX2_draw 1 (some .int) 0 0 D g [.ref (g.1 2 i 0)] w (fg_Qi D g r w') := by
  refine fg_M.of rfl (Nat.le_of_ble_eq_true rfl) (fun p e s m below meth c ls S hr hlk hK h hl => ?_)
  have hx := S.1
  have hb := S.2.1
  have hl : lv_has ls 1 [(0, .ref (g.1 2 i 0))] := hl
  unfold f_X2_draw at hf
  refine lv_aload_n hx hb dX2_draw_0 rfl (lv_at hl 0 rfl) ?_
  refine lv_aload_n hx hb dX2_draw_1 rfl (lv_at hl 0 rfl) ?_
  refine fg_get (C := RX2) (T := TX2) (N := 16) S vu_X2 hK h (fg_p2_0 hi) rfl rfl 13 (by decide) vf_RX2_52 rfl rfl dX2_draw_2 ?_
  refine lv_ldc hx hb S.2.2.2.1 (S.2.2.2.2 _ vc_RX2_75) dX2_draw_5 ?_
  refine lv_imul hx hb dX2_draw_7 ?_
  refine lv_sipush (v := 12345) hx hb dX2_draw_8 rfl ?_
  refine lv_iadd hx hb dX2_draw_11 ?_
  refine fg_putI (C := RX2) (T := TX2) (N := 16) (fs := (fg_f2 g i)) S vu_X2 tyX2 tyX2_ok nmX2 hK h (fg_p2_0 hi) (fun _ _ => rfl) rfl 13 (by decide) vf_RX2_52 rfl rfl (tyX2_ok 13 (by decide)) rfl rfl (fun _ => Nat.le_of_ble_eq_true rfl) (fun _ => rfl) dX2_draw_12 (fun w1 H locs ew h => ?_)
  have hf := fg_letE ew hf
  refine lv_aload_n hx hb dX2_draw_15 rfl (lv_at hl 0 rfl) ?_
  refine fg_get (C := RX2) (T := TX2) (N := 16) S vu_X2 hK h (fg_p2_0 hi) rfl rfl 13 (by decide) vf_RX2_52 rfl rfl dX2_draw_16 ?_
  refine lv_bipush (v := 8) hx hb dX2_draw_19 rfl ?_
  refine lv_iushr hx hb dX2_draw_21 rfl ?_
  exact fg_reti hx hb hr hlk hK h hf dX2_draw_22
set_option maxHeartbeats 4000000 in
set_option maxRecDepth 100000 in
theorem c_X2_spotsHeld (l : Launch) (D : va_G) (g : fg_G) (i : Nat) (hi : i < 3) (w : fg_W) (r : Int32) (w' : fg_W) (hf : f_X2_spotsHeld i w = some (r, w')) : fg_M l yX2_spotsHeld cX2_spotsHeld 3 (some .int) 0 0 D g [.ref (g.1 2 i 0)] w (fg_Qi D g r w') := by
  refine fg_M.of rfl (Nat.le_of_ble_eq_true rfl) (fun p e s m below meth c ls S hr hlk hK h hl => ?_)
  have hx := S.1
  have hb := S.2.1
  have hl : lv_has ls 3 [(0, .ref (g.1 2 i 0))] := hl
  unfold f_X2_spotsHeld at hf
  refine lv_iconst (v := 0) hx hb dX2_spotsHeld_0 rfl ?_
  refine lv_istore_n (lv' := [(1, .int 0), (0, .ref (g.1 2 i 0))]) hx hb dX2_spotsHeld_1 rfl hl (by decide) rfl (fun ls hl => ?_)
  refine lv_iconst (v := 0) hx hb dX2_spotsHeld_2 rfl ?_
  refine lv_istore_n (lv' := [(2, .int 0), (1, .int 0), (0, .ref (g.1 2 i 0))]) hx hb dX2_spotsHeld_3 rfl hl (by decide) rfl (fun ls hl => ?_)
  have hK_4 : ∀ (v1_4 : Int32) (v2_4 : Int32) (w_4 : fg_W) (H : Heap) (locs : List Loc) (ls : Array Slot), fg_H D g s.heap w_4 H locs → lv_has ls 3 [(0, .ref (g.1 2 i 0)), (1, .int v1_4), (2, .int v2_4)] → (some (v1_4, w_4)) = some (r, w') → fg_Gi p l e 0 0 s m [.ref (g.1 2 i 0)] below meth c D g r w' H locs 29 ls [] := by
    intro v1_4 v2_4 w_4 H locs ls h hl hf
    refine lv_iload_n hx hb dX2_spotsHeld_29 rfl (lv_at hl 1 rfl) ?_
    exact fg_reti hx hb hr hlk hK h hf dX2_spotsHeld_30
  have hL_4 : ∀ (KK_4 : Int32 → Int32 → fg_W → Option (Int32 × fg_W)) (hK_4 : ∀ (v1_4 : Int32) (v2_4 : Int32) (w_4 : fg_W) (H : Heap) (locs : List Loc) (ls : Array Slot), fg_H D g s.heap w_4 H locs → lv_has ls 3 [(0, .ref (g.1 2 i 0)), (1, .int v1_4), (2, .int v2_4)] → KK_4 v1_4 v2_4 w_4 = some (r, w') → fg_Gi p l e 0 0 s m [.ref (g.1 2 i 0)] below meth c D g r w' H locs 29 ls []) (n : Nat) (v1_4 : Int32) (v2_4 : Int32) (w_4 : fg_W) (H : Heap) (locs : List Loc) (ls : Array Slot), fg_H D g s.heap w_4 H locs → lv_has ls 3 [(0, .ref (g.1 2 i 0)), (1, .int v1_4), (2, .int v2_4)] → f_X2_spotsHeld_L4 i KK_4 n v1_4 v2_4 w_4 = some (r, w') → fg_Gi p l e 0 0 s m [.ref (g.1 2 i 0)] below meth c D g r w' H locs 4 ls [] := by
    intro KK_4 hK_4 n
    induction n with
    | zero => intro v1_4 v2_4 w_4 H locs ls h hl hf; exact fg_no hf
    | succ n_4 ih_4 =>
      intro v1_4 v2_4 w_4 H locs ls h hl hf
      unfold f_X2_spotsHeld_L4 at hf
      refine lv_iload_n hx hb dX2_spotsHeld_4 rfl (lv_at hl 2 rfl) ?_
      refine lv_bipush (v := 10) hx hb dX2_spotsHeld_5 rfl ?_
      refine lv_icmp_ge (tgt := 29) hx hb dX2_spotsHeld_7 (by decide) (fun hc => ?_) (fun hc => ?_)
      · have hf := fg_ifT hf hc
        exact hK_4 v1_4 v2_4 w_4 _ _ ls h (lv_sub hl [0, 1, 2] rfl) hf
      · have hf := fg_ifF hf hc
        refine lv_aload_n hx hb dX2_spotsHeld_10 rfl (lv_at hl 0 rfl) ?_
        refine fg_get (C := RX2) (T := TX2) (N := 16) S vu_X2 hK h (fg_p2_0 hi) rfl rfl 14 (by decide) vf_RX2_55 rfl rfl dX2_spotsHeld_11 ?_
        refine lv_iload_n hx hb dX2_spotsHeld_14 rfl (lv_at hl 2 rfl) ?_
        obtain ⟨hn2, hf⟩ := fg_gdE hf
        refine fg_iald hx hb hK h (fg_p2_10 hi) (fun _ => rfl) hn2 dX2_spotsHeld_15 ?_
        refine lv_iconst (v := (-1)) hx hb dX2_spotsHeld_16 rfl ?_
        refine lv_icmp_eq (tgt := 23) hx hb dX2_spotsHeld_17 (by decide) (fun hc => ?_) (fun hc => ?_)
        · have hf := fg_ifT hf hc
          refine lv_iinc (v := (v2_4 + 1)) (lv' := [(2, .int (v2_4 + 1)), (0, .ref (g.1 2 i 0)), (1, .int v1_4)]) hx hb dX2_spotsHeld_23 hl (k := 2) rfl rfl (by decide) rfl (fun ls hl => ?_)
          refine lv_goto (tgt := 4) hx hb dX2_spotsHeld_26 (by decide) ?_
          exact ih_4 v1_4 (v2_4 + 1) w_4 _ _ ls h (lv_sub hl [1, 2, 0] rfl) hf
        · have hf := fg_ifF hf hc
          refine lv_iinc (v := (v1_4 + 1)) (lv' := [(1, .int (v1_4 + 1)), (0, .ref (g.1 2 i 0)), (2, .int v2_4)]) hx hb dX2_spotsHeld_20 hl (k := 1) rfl rfl (by decide) rfl (fun ls hl => ?_)
          refine lv_iinc (v := (v2_4 + 1)) (lv' := [(2, .int (v2_4 + 1)), (1, .int (v1_4 + 1)), (0, .ref (g.1 2 i 0))]) hx hb dX2_spotsHeld_23 hl (k := 2) rfl rfl (by decide) rfl (fun ls hl => ?_)
          refine lv_goto (tgt := 4) hx hb dX2_spotsHeld_26 (by decide) ?_
          exact ih_4 (v1_4 + 1) (v2_4 + 1) w_4 _ _ ls h (lv_sub hl [2, 1, 0] rfl) hf
  exact hL_4 _ hK_4 fg_fuel 0 0 w _ _ ls h (lv_sub hl [2, 1, 0] rfl) hf
