set_option maxHeartbeats 4000000 in
set_option maxRecDepth 100000 in
theorem c_X1_isLetter (l : Launch) (D : va_G) (g : fg_G) (a1 : Int32) (w : fg_W) (r : Int32) (w' : fg_W) (hf : f_X1_isLetter a1 w = some (r, w')) : fg_M l yX1_isLetter cX1_isLetter 1 (some .boolean) 0 0 D g [.int a1] w (fg_Qi D g r w') := by
  refine fg_M.of rfl (Nat.le_of_ble_eq_true rfl) (fun p e s m below meth c ls S hr hlk hK h hl => ?_)
  have hx := S.1
  have hb := S.2.1
  have hl : lv_has ls 1 [(0, .int a1)] := hl
  unfold f_X1_isLetter at hf
  refine lv_iload_n hx hb dX1_isLetter_0 rfl (lv_at hl 0 rfl) ?_
  refine lv_bipush (v := 97) hx hb dX1_isLetter_1 rfl ?_
  refine lv_icmp_lt (tgt := 16) hx hb dX1_isLetter_3 (by decide) (fun hc => ?_) (fun hc => ?_)
  · have hf := fg_ifT hf hc
    refine lv_iconst (v := 0) hx hb dX1_isLetter_16 rfl ?_
    exact fg_retz hx hb hr hlk hK h hf (by decide) dX1_isLetter_17
  · have hf := fg_ifF hf hc
    refine lv_iload_n hx hb dX1_isLetter_6 rfl (lv_at hl 0 rfl) ?_
    refine lv_bipush (v := 122) hx hb dX1_isLetter_7 rfl ?_
    refine lv_icmp_gt (tgt := 16) hx hb dX1_isLetter_9 (by decide) (fun hc => ?_) (fun hc => ?_)
    · have hf := fg_ifT hf hc
      refine lv_iconst (v := 0) hx hb dX1_isLetter_16 rfl ?_
      exact fg_retz hx hb hr hlk hK h hf (by decide) dX1_isLetter_17
    · have hf := fg_ifF hf hc
      refine lv_iconst (v := 1) hx hb dX1_isLetter_12 rfl ?_
      refine lv_goto (tgt := 17) hx hb dX1_isLetter_13 (by decide) ?_
      exact fg_retz hx hb hr hlk hK h hf (by decide) dX1_isLetter_17
set_option maxHeartbeats 4000000 in
set_option maxRecDepth 100000 in
theorem c_X1_readWord (l : Launch) (D : va_G) (g : fg_G)  (w : fg_W) (w' : fg_W) (hf : f_X1_readWord  w = some w') : fg_M l yX1_readWord cX1_readWord 1 none 1 20 D g [.ref (g.1 1 0 0)] w (fg_Qv D g w') := by
  refine fg_M.of rfl (Nat.le_of_ble_eq_true rfl) (fun p e s m below meth c ls S hr hlk hK h hl => ?_)
  have hx := S.1
  have hb := S.2.1
  have hl : lv_has ls 1 [(0, .ref (g.1 1 0 0))] := hl
  unfold f_X1_readWord at hf
  refine lv_aload_n hx hb dX1_readWord_0 rfl (lv_at hl 0 rfl) ?_
  refine lv_iconst (v := 0) hx hb dX1_readWord_1 rfl ?_
  refine fg_putI (C := RX1) (T := TX1) (N := 7) (fs := (fg_f1 g 0)) S vu_X1 tyX1 tyX1_ok nmX1 hK h fg_p1_0 (fun _ _ => rfl) rfl 3 (by decide) vf_RX1_22 rfl rfl (tyX1_ok 3 (by decide)) rfl rfl (fun _ => Nat.le_of_ble_eq_true rfl) (fun _ => rfl) dX1_readWord_2 (fun w1 H locs ew h => ?_)
  have hf := fg_letE ew hf
  have hK_5 : ∀ (w_5 : fg_W) (H : Heap) (locs : List Loc) (ls : Array Slot), fg_H D g s.heap w_5 H locs → lv_has ls 1 [(0, .ref (g.1 1 0 0))] → (some w_5) = some w' → fg_Gv p l e 1 20 s m [.ref (g.1 1 0 0)] below meth c D g w' H locs 44 ls [] := by
    intro  w_5 H locs ls h hl hf
    exact fg_retv hx hb hr hlk hK h hf dX1_readWord_44
  have hL_5 : ∀ (KK_5 : fg_W → Option fg_W) (hK_5 : ∀ (w_5 : fg_W) (H : Heap) (locs : List Loc) (ls : Array Slot), fg_H D g s.heap w_5 H locs → lv_has ls 1 [(0, .ref (g.1 1 0 0))] → KK_5  w_5 = some w' → fg_Gv p l e 1 20 s m [.ref (g.1 1 0 0)] below meth c D g w' H locs 44 ls []) (n : Nat) (w_5 : fg_W) (H : Heap) (locs : List Loc) (ls : Array Slot), fg_H D g s.heap w_5 H locs → lv_has ls 1 [(0, .ref (g.1 1 0 0))] → f_X1_readWord_L5  KK_5 n  w_5 = some w' → fg_Gv p l e 1 20 s m [.ref (g.1 1 0 0)] below meth c D g w' H locs 5 ls [] := by
    intro KK_5 hK_5 n
    induction n with
    | zero => intro  w_5 H locs ls h hl hf; exact fg_no hf
    | succ n_5 ih_5 =>
      intro  w_5 H locs ls h hl hf
      unfold f_X1_readWord_L5 at hf
      refine lv_aload_n hx hb dX1_readWord_5 rfl (lv_at hl 0 rfl) ?_
      refine fg_get (C := RX1) (T := TX1) (N := 7) S vu_X1 hK h fg_p1_0 rfl rfl 5 (by decide) vf_RX1_28 rfl rfl dX1_readWord_6 ?_
      refine lv_aload_n hx hb dX1_readWord_9 rfl (lv_at hl 0 rfl) ?_
      refine fg_get (C := RX1) (T := TX1) (N := 7) S vu_X1 hK h fg_p1_0 rfl rfl 1 (by decide) vf_RX1_15 rfl rfl dX1_readWord_10 ?_
      refine lv_icmp_ge (tgt := 44) hx hb dX1_readWord_13 (by decide) (fun hc => ?_) (fun hc => ?_)
      · have hf := fg_ifT hf hc
        exact hK_5 w_5 _ _ ls h (lv_sub hl [0] rfl) hf
      · have hf := fg_ifF hf hc
        refine lv_aload_n hx hb dX1_readWord_16 rfl (lv_at hl 0 rfl) ?_
        refine fg_get (C := RX1) (T := TX1) (N := 7) S vu_X1 hK h fg_p1_0 rfl rfl 0 (by decide) vf_RX1_9 rfl rfl dX1_readWord_17 ?_
        refine lv_aload_n hx hb dX1_readWord_20 rfl (lv_at hl 0 rfl) ?_
        refine fg_get (C := RX1) (T := TX1) (N := 7) S vu_X1 hK h fg_p1_0 rfl rfl 5 (by decide) vf_RX1_28 rfl rfl dX1_readWord_21 ?_
        obtain ⟨hn7, hf⟩ := fg_gdE hf
        refine fg_iald hx hb hK h fg_p1_1 (fun _ => rfl) hn7 dX1_readWord_24 ?_
        obtain ⟨r10, w8, hc9, hf⟩ := fg_biE hf
        refine fg_ci h (fg_runS (rest := []) S hK h (c_X1_isLetter l D g (w_5.1 1 0 1 (w_5.1 1 0 0 5).toNatClampNeg)  w_5 r10 w8 hc9) vk_X1_isLetter vm_RX1_140 vs_X1_isLetter vi_RX1 vd_X1_isLetter.2 ⟨by decide, by decide⟩ rfl hl.1 rfl (Nat.le_of_ble_eq_true rfl) dX1_readWord_25 ⟨Nat.zero_le _, Nat.zero_le _⟩) (fun H locs h => ?_)
        refine lv_if_eq (tgt := 44) hx hb dX1_readWord_28 (by decide) (fun hc => ?_) (fun hc => ?_)
        · have hf := fg_ifT hf hc
          exact hK_5 w8 _ _ ls h (lv_sub hl [0] rfl) hf
        · have hf := fg_ifF hf hc
          refine lv_aload_n hx hb dX1_readWord_31 rfl (lv_at hl 0 rfl) ?_
          refine lv_dup hx hb dX1_readWord_32 rfl ?_
          refine fg_get (C := RX1) (T := TX1) (N := 7) S vu_X1 hK h fg_p1_0 rfl rfl 5 (by decide) vf_RX1_28 rfl rfl dX1_readWord_33 ?_
          refine lv_iconst (v := 1) hx hb dX1_readWord_36 rfl ?_
          refine lv_iadd hx hb dX1_readWord_37 ?_
          refine fg_putI (C := RX1) (T := TX1) (N := 7) (fs := (fg_f1 g 0)) S vu_X1 tyX1 tyX1_ok nmX1 hK h fg_p1_0 (fun _ _ => rfl) rfl 5 (by decide) vf_RX1_28 rfl rfl (tyX1_ok 5 (by decide)) rfl rfl (fun _ => Nat.le_of_ble_eq_true rfl) (fun _ => rfl) dX1_readWord_38 (fun w11 H locs ew h => ?_)
          have hf := fg_letE ew hf
          refine lv_goto (tgt := 5) hx hb dX1_readWord_41 (by decide) ?_
          exact ih_5 w11 _ _ ls h (lv_sub hl [0] rfl) hf
  exact hL_5 _ hK_5 fg_fuel w1 _ _ ls h (lv_sub hl [0] rfl) hf
set_option maxHeartbeats 4000000 in
set_option maxRecDepth 100000 in
theorem c_X1_isDigit (l : Launch) (D : va_G) (g : fg_G) (a1 : Int32) (w : fg_W) (r : Int32) (w' : fg_W) (hf : f_X1_isDigit a1 w = some (r, w')) : fg_M l yX1_isDigit cX1_isDigit 1 (some .boolean) 0 0 D g [.int a1] w (fg_Qi D g r w') := by
  refine fg_M.of rfl (Nat.le_of_ble_eq_true rfl) (fun p e s m below meth c ls S hr hlk hK h hl => ?_)
  have hx := S.1
  have hb := S.2.1
  have hl : lv_has ls 1 [(0, .int a1)] := hl
  unfold f_X1_isDigit at hf
  refine lv_iload_n hx hb dX1_isDigit_0 rfl (lv_at hl 0 rfl) ?_
  refine lv_bipush (v := 48) hx hb dX1_isDigit_1 rfl ?_
  refine lv_icmp_lt (tgt := 16) hx hb dX1_isDigit_3 (by decide) (fun hc => ?_) (fun hc => ?_)
  · have hf := fg_ifT hf hc
    refine lv_iconst (v := 0) hx hb dX1_isDigit_16 rfl ?_
    exact fg_retz hx hb hr hlk hK h hf (by decide) dX1_isDigit_17
  · have hf := fg_ifF hf hc
    refine lv_iload_n hx hb dX1_isDigit_6 rfl (lv_at hl 0 rfl) ?_
    refine lv_bipush (v := 57) hx hb dX1_isDigit_7 rfl ?_
    refine lv_icmp_gt (tgt := 16) hx hb dX1_isDigit_9 (by decide) (fun hc => ?_) (fun hc => ?_)
    · have hf := fg_ifT hf hc
      refine lv_iconst (v := 0) hx hb dX1_isDigit_16 rfl ?_
      exact fg_retz hx hb hr hlk hK h hf (by decide) dX1_isDigit_17
    · have hf := fg_ifF hf hc
      refine lv_iconst (v := 1) hx hb dX1_isDigit_12 rfl ?_
      refine lv_goto (tgt := 17) hx hb dX1_isDigit_13 (by decide) ?_
      exact fg_retz hx hb hr hlk hK h hf (by decide) dX1_isDigit_17
set_option maxHeartbeats 4000000 in
set_option maxRecDepth 100000 in
theorem c_X1_readNumber (l : Launch) (D : va_G) (g : fg_G)  (w : fg_W) (w' : fg_W) (hf : f_X1_readNumber  w = some w') : fg_M l yX1_readNumber cX1_readNumber 1 none 1 24 D g [.ref (g.1 1 0 0)] w (fg_Qv D g w') := by
  refine fg_M.of rfl (Nat.le_of_ble_eq_true rfl) (fun p e s m below meth c ls S hr hlk hK h hl => ?_)
  have hx := S.1
  have hb := S.2.1
  have hl : lv_has ls 1 [(0, .ref (g.1 1 0 0))] := hl
  unfold f_X1_readNumber at hf
  refine lv_aload_n hx hb dX1_readNumber_0 rfl (lv_at hl 0 rfl) ?_
  refine lv_iconst (v := 1) hx hb dX1_readNumber_1 rfl ?_
  refine fg_putI (C := RX1) (T := TX1) (N := 7) (fs := (fg_f1 g 0)) S vu_X1 tyX1 tyX1_ok nmX1 hK h fg_p1_0 (fun _ _ => rfl) rfl 3 (by decide) vf_RX1_22 rfl rfl (tyX1_ok 3 (by decide)) rfl rfl (fun _ => Nat.le_of_ble_eq_true rfl) (fun _ => rfl) dX1_readNumber_2 (fun w1 H locs ew h => ?_)
  have hf := fg_letE ew hf
  refine lv_aload_n hx hb dX1_readNumber_5 rfl (lv_at hl 0 rfl) ?_
  refine lv_iconst (v := 0) hx hb dX1_readNumber_6 rfl ?_
  refine fg_putI (C := RX1) (T := TX1) (N := 7) (fs := (fg_f1 g 0)) S vu_X1 tyX1 tyX1_ok nmX1 hK h fg_p1_0 (fun _ _ => rfl) rfl 6 (by decide) vf_RX1_31 rfl rfl (tyX1_ok 6 (by decide)) rfl rfl (fun _ => Nat.le_of_ble_eq_true rfl) (fun _ => rfl) dX1_readNumber_7 (fun w2 H locs ew h => ?_)
  have hf := fg_letE ew hf
  have hK_10 : ∀ (w_10 : fg_W) (H : Heap) (locs : List Loc) (ls : Array Slot), fg_H D g s.heap w_10 H locs → lv_has ls 1 [(0, .ref (g.1 1 0 0))] → (some w_10) = some w' → fg_Gv p l e 1 24 s m [.ref (g.1 1 0 0)] below meth c D g w' H locs 79 ls [] := by
    intro  w_10 H locs ls h hl hf
    exact fg_retv hx hb hr hlk hK h hf dX1_readNumber_79
  have hL_10 : ∀ (KK_10 : fg_W → Option fg_W) (hK_10 : ∀ (w_10 : fg_W) (H : Heap) (locs : List Loc) (ls : Array Slot), fg_H D g s.heap w_10 H locs → lv_has ls 1 [(0, .ref (g.1 1 0 0))] → KK_10  w_10 = some w' → fg_Gv p l e 1 24 s m [.ref (g.1 1 0 0)] below meth c D g w' H locs 79 ls []) (n : Nat) (w_10 : fg_W) (H : Heap) (locs : List Loc) (ls : Array Slot), fg_H D g s.heap w_10 H locs → lv_has ls 1 [(0, .ref (g.1 1 0 0))] → f_X1_readNumber_L10  KK_10 n  w_10 = some w' → fg_Gv p l e 1 24 s m [.ref (g.1 1 0 0)] below meth c D g w' H locs 10 ls [] := by
    intro KK_10 hK_10 n
    induction n with
    | zero => intro  w_10 H locs ls h hl hf; exact fg_no hf
    | succ n_10 ih_10 =>
      intro  w_10 H locs ls h hl hf
      unfold f_X1_readNumber_L10 at hf
      refine lv_aload_n hx hb dX1_readNumber_10 rfl (lv_at hl 0 rfl) ?_
      refine fg_get (C := RX1) (T := TX1) (N := 7) S vu_X1 hK h fg_p1_0 rfl rfl 5 (by decide) vf_RX1_28 rfl rfl dX1_readNumber_11 ?_
      refine lv_aload_n hx hb dX1_readNumber_14 rfl (lv_at hl 0 rfl) ?_
      refine fg_get (C := RX1) (T := TX1) (N := 7) S vu_X1 hK h fg_p1_0 rfl rfl 1 (by decide) vf_RX1_15 rfl rfl dX1_readNumber_15 ?_
      refine lv_icmp_ge (tgt := 79) hx hb dX1_readNumber_18 (by decide) (fun hc => ?_) (fun hc => ?_)
      · have hf := fg_ifT hf hc
        exact hK_10 w_10 _ _ ls h (lv_sub hl [0] rfl) hf
      · have hf := fg_ifF hf hc
        refine lv_aload_n hx hb dX1_readNumber_21 rfl (lv_at hl 0 rfl) ?_
        refine fg_get (C := RX1) (T := TX1) (N := 7) S vu_X1 hK h fg_p1_0 rfl rfl 0 (by decide) vf_RX1_9 rfl rfl dX1_readNumber_22 ?_
        refine lv_aload_n hx hb dX1_readNumber_25 rfl (lv_at hl 0 rfl) ?_
        refine fg_get (C := RX1) (T := TX1) (N := 7) S vu_X1 hK h fg_p1_0 rfl rfl 5 (by decide) vf_RX1_28 rfl rfl dX1_readNumber_26 ?_
        obtain ⟨hn10, hf⟩ := fg_gdE hf
        refine fg_iald hx hb hK h fg_p1_1 (fun _ => rfl) hn10 dX1_readNumber_29 ?_
        obtain ⟨r13, w11, hc12, hf⟩ := fg_biE hf
        refine fg_ci h (fg_runS (rest := []) S hK h (c_X1_isDigit l D g (w_10.1 1 0 1 (w_10.1 1 0 0 5).toNatClampNeg)  w_10 r13 w11 hc12) vk_X1_isDigit vm_RX1_146 vs_X1_isDigit vi_RX1 vd_X1_isDigit.2 ⟨by decide, by decide⟩ rfl hl.1 rfl (Nat.le_of_ble_eq_true rfl) dX1_readNumber_30 ⟨Nat.zero_le _, Nat.zero_le _⟩) (fun H locs h => ?_)
        refine lv_if_eq (tgt := 79) hx hb dX1_readNumber_33 (by decide) (fun hc => ?_) (fun hc => ?_)
        · have hf := fg_ifT hf hc
          exact hK_10 w11 _ _ ls h (lv_sub hl [0] rfl) hf
        · have hf := fg_ifF hf hc
          refine lv_aload_n hx hb dX1_readNumber_36 rfl (lv_at hl 0 rfl) ?_
          refine lv_sipush (v := 10000) hx hb dX1_readNumber_37 rfl ?_
          refine lv_aload_n hx hb dX1_readNumber_40 rfl (lv_at hl 0 rfl) ?_
          refine fg_get (C := RX1) (T := TX1) (N := 7) S vu_X1 hK h fg_p1_0 rfl rfl 6 (by decide) vf_RX1_31 rfl rfl dX1_readNumber_41 ?_
          refine lv_bipush (v := 10) hx hb dX1_readNumber_44 rfl ?_
          refine lv_imul hx hb dX1_readNumber_46 ?_
          refine lv_aload_n hx hb dX1_readNumber_47 rfl (lv_at hl 0 rfl) ?_
          refine fg_get (C := RX1) (T := TX1) (N := 7) S vu_X1 hK h fg_p1_0 rfl rfl 0 (by decide) vf_RX1_9 rfl rfl dX1_readNumber_48 ?_
          refine lv_aload_n hx hb dX1_readNumber_51 rfl (lv_at hl 0 rfl) ?_
          refine fg_get (C := RX1) (T := TX1) (N := 7) S vu_X1 hK h fg_p1_0 rfl rfl 5 (by decide) vf_RX1_28 rfl rfl dX1_readNumber_52 ?_
          obtain ⟨hn14, hf⟩ := fg_gdE hf
          refine fg_iald hx hb hK h fg_p1_1 (fun _ => rfl) hn14 dX1_readNumber_55 ?_
          refine lv_iadd hx hb dX1_readNumber_56 ?_
          refine lv_bipush (v := 48) hx hb dX1_readNumber_57 rfl ?_
          refine lv_isub hx hb dX1_readNumber_59 ?_
          refine va_mmin hx hb (S.2.2.1.trans hl.1.symm) S.2.2.2.1 (S.2.2.2.2 _ vm_RX1_152) (S.2.2.2.2 _ vs_J9_min_7cf53) (S.2.2.2.2 _ vi_Math) (S.2.2.2.2 _ vk_Mmin) (by decide) (Nat.le_of_ble_eq_true rfl) (Nat.zero_le _) (Nat.zero_le _) dX1_readNumber_60 ?_
          refine fg_putI (C := RX1) (T := TX1) (N := 7) (fs := (fg_f1 g 0)) S vu_X1 tyX1 tyX1_ok nmX1 hK h fg_p1_0 (fun _ _ => rfl) rfl 6 (by decide) vf_RX1_31 rfl rfl (tyX1_ok 6 (by decide)) rfl rfl (fun _ => Nat.le_of_ble_eq_true rfl) (fun _ => rfl) dX1_readNumber_63 (fun w15 H locs ew h => ?_)
          have hf := fg_letE ew hf
          refine lv_aload_n hx hb dX1_readNumber_66 rfl (lv_at hl 0 rfl) ?_
          refine lv_dup hx hb dX1_readNumber_67 rfl ?_
          refine fg_get (C := RX1) (T := TX1) (N := 7) S vu_X1 hK h fg_p1_0 rfl rfl 5 (by decide) vf_RX1_28 rfl rfl dX1_readNumber_68 ?_
          refine lv_iconst (v := 1) hx hb dX1_readNumber_71 rfl ?_
          refine lv_iadd hx hb dX1_readNumber_72 ?_
          refine fg_putI (C := RX1) (T := TX1) (N := 7) (fs := (fg_f1 g 0)) S vu_X1 tyX1 tyX1_ok nmX1 hK h fg_p1_0 (fun _ _ => rfl) rfl 5 (by decide) vf_RX1_28 rfl rfl (tyX1_ok 5 (by decide)) rfl rfl (fun _ => Nat.le_of_ble_eq_true rfl) (fun _ => rfl) dX1_readNumber_73 (fun w16 H locs ew h => ?_)
          have hf := fg_letE ew hf
          refine lv_goto (tgt := 10) hx hb dX1_readNumber_76 (by decide) ?_
          exact ih_10 w16 _ _ ls h (lv_sub hl [0] rfl) hf
  exact hL_10 _ hK_10 fg_fuel w2 _ _ ls h (lv_sub hl [0] rfl) hf
set_option maxHeartbeats 4000000 in
set_option maxRecDepth 100000 in
theorem c_X1_nextToken (l : Launch) (D : va_G) (g : fg_G)  (w : fg_W) (w' : fg_W) (hf : f_X1_nextToken  w = some w') : fg_M l yX1_nextToken cX1_nextToken 1 none 2 44 D g [.ref (g.1 1 0 0)] w (fg_Qv D g w') := by
  refine fg_M.of rfl (Nat.le_of_ble_eq_true rfl) (fun p e s m below meth c ls S hr hlk hK h hl => ?_)
  have hx := S.1
  have hb := S.2.1
  have hl : lv_has ls 1 [(0, .ref (g.1 1 0 0))] := hl
  unfold f_X1_nextToken at hf
  refine lv_aload_n hx hb dX1_nextToken_0 rfl (lv_at hl 0 rfl) ?_
  refine lv_aload_n hx hb dX1_nextToken_1 rfl (lv_at hl 0 rfl) ?_
  refine fg_get (C := RX1) (T := TX1) (N := 7) S vu_X1 hK h fg_p1_0 rfl rfl 5 (by decide) vf_RX1_28 rfl rfl dX1_nextToken_2 ?_
  refine fg_putI (C := RX1) (T := TX1) (N := 7) (fs := (fg_f1 g 0)) S vu_X1 tyX1 tyX1_ok nmX1 hK h fg_p1_0 (fun _ _ => rfl) rfl 4 (by decide) vf_RX1_25 rfl rfl (tyX1_ok 4 (by decide)) rfl rfl (fun _ => Nat.le_of_ble_eq_true rfl) (fun _ => rfl) dX1_nextToken_5 (fun w1 H locs ew h => ?_)
  have hf := fg_letE ew hf
  have hK_8 : ∀ (w_8 : fg_W) (H : Heap) (locs : List Loc) (ls : Array Slot), fg_H D g s.heap w_8 H locs → lv_has ls 1 [(0, .ref (g.1 1 0 0))] → (fg_let (fg_st w_8 1 0 0 (upd (w_8.1 1 0 0) 5 (w_8.1 1 0 0 4))) (fun w2 => if (w2.1 1 0 0 4) < (w2.1 1 0 0 1) then (fg_gd (w2.1 1 0 0 4) 120 (fg_bi (f_X1_isLetter (w2.1 1 0 1 (w2.1 1 0 0 4).toNatClampNeg) w2) (fun r6 w4 => if r6 = 0 then (fg_gd (w4.1 1 0 0 4) 120 (fg_bi (f_X1_isDigit (w4.1 1 0 1 (w4.1 1 0 0 4).toNatClampNeg) w4) (fun r10 w8 => if r10 = 0 then (fg_gd (w8.1 1 0 0 4) 120 (if (w8.1 1 0 1 (w8.1 1 0 0 4).toNatClampNeg) = 59 then (fg_let (fg_st w8 1 0 0 (upd (w8.1 1 0 0) 3 2)) (fun w14 => fg_let (fg_st w14 1 0 0 (upd (w14.1 1 0 0) 5 ((w14.1 1 0 0 4) + 1))) (fun w15 => some w15))) else (fg_let (fg_st w8 1 0 0 (upd (w8.1 1 0 0) 3 4)) (fun w12 => fg_let (fg_st w12 1 0 0 (upd (w12.1 1 0 0) 5 ((w12.1 1 0 0 4) + 1))) (fun w13 => some w13))))) else (fg_bv (f_X1_readNumber  w8) (fun w16 => some w16))))) else (fg_bv (f_X1_readWord  w4) (fun w18 => some w18))))) else (fg_let (fg_st w2 1 0 0 (upd (w2.1 1 0 0) 3 3)) (fun w20 => some w20)))) = some w' → fg_Gv p l e 2 44 s m [.ref (g.1 1 0 0)] below meth c D g w' H locs 46 ls [] := by
    intro  w_8 H locs ls h hl hf
    refine lv_aload_n hx hb dX1_nextToken_46 rfl (lv_at hl 0 rfl) ?_
    refine lv_aload_n hx hb dX1_nextToken_47 rfl (lv_at hl 0 rfl) ?_
    refine fg_get (C := RX1) (T := TX1) (N := 7) S vu_X1 hK h fg_p1_0 rfl rfl 4 (by decide) vf_RX1_25 rfl rfl dX1_nextToken_48 ?_
    refine fg_putI (C := RX1) (T := TX1) (N := 7) (fs := (fg_f1 g 0)) S vu_X1 tyX1 tyX1_ok nmX1 hK h fg_p1_0 (fun _ _ => rfl) rfl 5 (by decide) vf_RX1_28 rfl rfl (tyX1_ok 5 (by decide)) rfl rfl (fun _ => Nat.le_of_ble_eq_true rfl) (fun _ => rfl) dX1_nextToken_51 (fun w2 H locs ew h => ?_)
    have hf := fg_letE ew hf
    refine lv_aload_n hx hb dX1_nextToken_54 rfl (lv_at hl 0 rfl) ?_
    refine fg_get (C := RX1) (T := TX1) (N := 7) S vu_X1 hK h fg_p1_0 rfl rfl 4 (by decide) vf_RX1_25 rfl rfl dX1_nextToken_55 ?_
    refine lv_aload_n hx hb dX1_nextToken_58 rfl (lv_at hl 0 rfl) ?_
    refine fg_get (C := RX1) (T := TX1) (N := 7) S vu_X1 hK h fg_p1_0 rfl rfl 1 (by decide) vf_RX1_15 rfl rfl dX1_nextToken_59 ?_
    refine lv_icmp_lt (tgt := 73) hx hb dX1_nextToken_62 (by decide) (fun hc => ?_) (fun hc => ?_)
    · have hf := fg_ifT hf hc
      refine lv_aload_n hx hb dX1_nextToken_73 rfl (lv_at hl 0 rfl) ?_
      refine fg_get (C := RX1) (T := TX1) (N := 7) S vu_X1 hK h fg_p1_0 rfl rfl 0 (by decide) vf_RX1_9 rfl rfl dX1_nextToken_74 ?_
      refine lv_aload_n hx hb dX1_nextToken_77 rfl (lv_at hl 0 rfl) ?_
      refine fg_get (C := RX1) (T := TX1) (N := 7) S vu_X1 hK h fg_p1_0 rfl rfl 4 (by decide) vf_RX1_25 rfl rfl dX1_nextToken_78 ?_
      obtain ⟨hn3, hf⟩ := fg_gdE hf
      refine fg_iald hx hb hK h fg_p1_1 (fun _ => rfl) hn3 dX1_nextToken_81 ?_
      obtain ⟨r6, w4, hc5, hf⟩ := fg_biE hf
      refine fg_ci h (fg_runS (rest := []) S hK h (c_X1_isLetter l D g (w2.1 1 0 1 (w2.1 1 0 0 4).toNatClampNeg)  w2 r6 w4 hc5) vk_X1_isLetter vm_RX1_140 vs_X1_isLetter vi_RX1 vd_X1_isLetter.2 ⟨by decide, by decide⟩ rfl hl.1 rfl (Nat.le_of_ble_eq_true rfl) dX1_nextToken_82 ⟨Nat.zero_le _, Nat.zero_le _⟩) (fun H locs h => ?_)
      refine lv_if_eq (tgt := 95) hx hb dX1_nextToken_85 (by decide) (fun hc => ?_) (fun hc => ?_)
      · have hf := fg_ifT hf hc
        refine lv_aload_n hx hb dX1_nextToken_95 rfl (lv_at hl 0 rfl) ?_
        refine fg_get (C := RX1) (T := TX1) (N := 7) S vu_X1 hK h fg_p1_0 rfl rfl 0 (by decide) vf_RX1_9 rfl rfl dX1_nextToken_96 ?_
        refine lv_aload_n hx hb dX1_nextToken_99 rfl (lv_at hl 0 rfl) ?_
        refine fg_get (C := RX1) (T := TX1) (N := 7) S vu_X1 hK h fg_p1_0 rfl rfl 4 (by decide) vf_RX1_25 rfl rfl dX1_nextToken_100 ?_
        obtain ⟨hn7, hf⟩ := fg_gdE hf
        refine fg_iald hx hb hK h fg_p1_1 (fun _ => rfl) hn7 dX1_nextToken_103 ?_
        obtain ⟨r10, w8, hc9, hf⟩ := fg_biE hf
        refine fg_ci h (fg_runS (rest := []) S hK h (c_X1_isDigit l D g (w4.1 1 0 1 (w4.1 1 0 0 4).toNatClampNeg)  w4 r10 w8 hc9) vk_X1_isDigit vm_RX1_146 vs_X1_isDigit vi_RX1 vd_X1_isDigit.2 ⟨by decide, by decide⟩ rfl hl.1 rfl (Nat.le_of_ble_eq_true rfl) dX1_nextToken_104 ⟨Nat.zero_le _, Nat.zero_le _⟩) (fun H locs h => ?_)
        refine lv_if_eq (tgt := 117) hx hb dX1_nextToken_107 (by decide) (fun hc => ?_) (fun hc => ?_)
        · have hf := fg_ifT hf hc
          refine lv_aload_n hx hb dX1_nextToken_117 rfl (lv_at hl 0 rfl) ?_
          refine lv_aload_n hx hb dX1_nextToken_118 rfl (lv_at hl 0 rfl) ?_
          refine fg_get (C := RX1) (T := TX1) (N := 7) S vu_X1 hK h fg_p1_0 rfl rfl 0 (by decide) vf_RX1_9 rfl rfl dX1_nextToken_119 ?_
          refine lv_aload_n hx hb dX1_nextToken_122 rfl (lv_at hl 0 rfl) ?_
          refine fg_get (C := RX1) (T := TX1) (N := 7) S vu_X1 hK h fg_p1_0 rfl rfl 4 (by decide) vf_RX1_25 rfl rfl dX1_nextToken_123 ?_
          obtain ⟨hn11, hf⟩ := fg_gdE hf
          refine fg_iald hx hb hK h fg_p1_1 (fun _ => rfl) hn11 dX1_nextToken_126 ?_
          refine lv_bipush (v := 59) hx hb dX1_nextToken_127 rfl ?_
          refine lv_icmp_ne (tgt := 136) hx hb dX1_nextToken_129 (by decide) (fun hc => ?_) (fun hc => ?_)
          · have hf := fg_ifF hf hc
            refine lv_iconst (v := 4) hx hb dX1_nextToken_136 rfl ?_
            refine fg_putI (C := RX1) (T := TX1) (N := 7) (fs := (fg_f1 g 0)) S vu_X1 tyX1 tyX1_ok nmX1 hK h fg_p1_0 (fun _ _ => rfl) rfl 3 (by decide) vf_RX1_22 rfl rfl (tyX1_ok 3 (by decide)) rfl rfl (fun _ => Nat.le_of_ble_eq_true rfl) (fun _ => rfl) dX1_nextToken_137 (fun w12 H locs ew h => ?_)
            have hf := fg_letE ew hf
            refine lv_aload_n hx hb dX1_nextToken_140 rfl (lv_at hl 0 rfl) ?_
            refine lv_aload_n hx hb dX1_nextToken_141 rfl (lv_at hl 0 rfl) ?_
            refine fg_get (C := RX1) (T := TX1) (N := 7) S vu_X1 hK h fg_p1_0 rfl rfl 4 (by decide) vf_RX1_25 rfl rfl dX1_nextToken_142 ?_
            refine lv_iconst (v := 1) hx hb dX1_nextToken_145 rfl ?_
            refine lv_iadd hx hb dX1_nextToken_146 ?_
            refine fg_putI (C := RX1) (T := TX1) (N := 7) (fs := (fg_f1 g 0)) S vu_X1 tyX1 tyX1_ok nmX1 hK h fg_p1_0 (fun _ _ => rfl) rfl 5 (by decide) vf_RX1_28 rfl rfl (tyX1_ok 5 (by decide)) rfl rfl (fun _ => Nat.le_of_ble_eq_true rfl) (fun _ => rfl) dX1_nextToken_147 (fun w13 H locs ew h => ?_)
            have hf := fg_letE ew hf
            exact fg_retv hx hb hr hlk hK h hf dX1_nextToken_150
          · have hf := fg_ifT hf hc
            refine lv_iconst (v := 2) hx hb dX1_nextToken_132 rfl ?_
            refine lv_goto (tgt := 137) hx hb dX1_nextToken_133 (by decide) ?_
            refine fg_putI (C := RX1) (T := TX1) (N := 7) (fs := (fg_f1 g 0)) S vu_X1 tyX1 tyX1_ok nmX1 hK h fg_p1_0 (fun _ _ => rfl) rfl 3 (by decide) vf_RX1_22 rfl rfl (tyX1_ok 3 (by decide)) rfl rfl (fun _ => Nat.le_of_ble_eq_true rfl) (fun _ => rfl) dX1_nextToken_137 (fun w14 H locs ew h => ?_)
            have hf := fg_letE ew hf
            refine lv_aload_n hx hb dX1_nextToken_140 rfl (lv_at hl 0 rfl) ?_
            refine lv_aload_n hx hb dX1_nextToken_141 rfl (lv_at hl 0 rfl) ?_
            refine fg_get (C := RX1) (T := TX1) (N := 7) S vu_X1 hK h fg_p1_0 rfl rfl 4 (by decide) vf_RX1_25 rfl rfl dX1_nextToken_142 ?_
            refine lv_iconst (v := 1) hx hb dX1_nextToken_145 rfl ?_
            refine lv_iadd hx hb dX1_nextToken_146 ?_
            refine fg_putI (C := RX1) (T := TX1) (N := 7) (fs := (fg_f1 g 0)) S vu_X1 tyX1 tyX1_ok nmX1 hK h fg_p1_0 (fun _ _ => rfl) rfl 5 (by decide) vf_RX1_28 rfl rfl (tyX1_ok 5 (by decide)) rfl rfl (fun _ => Nat.le_of_ble_eq_true rfl) (fun _ => rfl) dX1_nextToken_147 (fun w15 H locs ew h => ?_)
            have hf := fg_letE ew hf
            exact fg_retv hx hb hr hlk hK h hf dX1_nextToken_150
        · have hf := fg_ifF hf hc
          refine lv_aload_n hx hb dX1_nextToken_110 rfl (lv_at hl 0 rfl) ?_
          obtain ⟨w16, hc17, hf⟩ := fg_bvE hf
          refine fg_cv h (fg_runV (rest := []) S hK h (c_X1_readNumber l D g   w8 w16 hc17) vg_RX1_149 vd_X1_readNumber ⟨by decide, by decide⟩ fg_p1_0 rfl rfl rfl hl.1 rfl (Nat.le_of_ble_eq_true rfl) dX1_nextToken_111 ⟨Nat.zero_le _, Nat.zero_le _⟩) (fun H locs h => ?_)
          refine lv_goto (tgt := 150) hx hb dX1_nextToken_114 (by decide) ?_
          exact fg_retv hx hb hr hlk hK h hf dX1_nextToken_150
      · have hf := fg_ifF hf hc
        refine lv_aload_n hx hb dX1_nextToken_88 rfl (lv_at hl 0 rfl) ?_
        obtain ⟨w18, hc19, hf⟩ := fg_bvE hf
        refine fg_cv h (fg_runV (rest := []) S hK h (c_X1_readWord l D g   w4 w18 hc19) vg_RX1_143 vd_X1_readWord ⟨by decide, by decide⟩ fg_p1_0 rfl rfl rfl hl.1 rfl (Nat.le_of_ble_eq_true rfl) dX1_nextToken_89 ⟨Nat.zero_le _, Nat.zero_le _⟩) (fun H locs h => ?_)
        refine lv_goto (tgt := 150) hx hb dX1_nextToken_92 (by decide) ?_
        exact fg_retv hx hb hr hlk hK h hf dX1_nextToken_150
    · have hf := fg_ifF hf hc
      refine lv_aload_n hx hb dX1_nextToken_65 rfl (lv_at hl 0 rfl) ?_
      refine lv_iconst (v := 3) hx hb dX1_nextToken_66 rfl ?_
      refine fg_putI (C := RX1) (T := TX1) (N := 7) (fs := (fg_f1 g 0)) S vu_X1 tyX1 tyX1_ok nmX1 hK h fg_p1_0 (fun _ _ => rfl) rfl 3 (by decide) vf_RX1_22 rfl rfl (tyX1_ok 3 (by decide)) rfl rfl (fun _ => Nat.le_of_ble_eq_true rfl) (fun _ => rfl) dX1_nextToken_67 (fun w20 H locs ew h => ?_)
      have hf := fg_letE ew hf
      refine lv_goto (tgt := 150) hx hb dX1_nextToken_70 (by decide) ?_
      exact fg_retv hx hb hr hlk hK h hf dX1_nextToken_150
  have hL_8 : ∀ (KK_8 : fg_W → Option fg_W) (hK_8 : ∀ (w_8 : fg_W) (H : Heap) (locs : List Loc) (ls : Array Slot), fg_H D g s.heap w_8 H locs → lv_has ls 1 [(0, .ref (g.1 1 0 0))] → KK_8  w_8 = some w' → fg_Gv p l e 2 44 s m [.ref (g.1 1 0 0)] below meth c D g w' H locs 46 ls []) (n : Nat) (w_8 : fg_W) (H : Heap) (locs : List Loc) (ls : Array Slot), fg_H D g s.heap w_8 H locs → lv_has ls 1 [(0, .ref (g.1 1 0 0))] → f_X1_nextToken_L8  KK_8 n  w_8 = some w' → fg_Gv p l e 2 44 s m [.ref (g.1 1 0 0)] below meth c D g w' H locs 8 ls [] := by
    intro KK_8 hK_8 n
    induction n with
    | zero => intro  w_8 H locs ls h hl hf; exact fg_no hf
    | succ n_8 ih_8 =>
      intro  w_8 H locs ls h hl hf
      unfold f_X1_nextToken_L8 at hf
      refine lv_aload_n hx hb dX1_nextToken_8 rfl (lv_at hl 0 rfl) ?_
      refine fg_get (C := RX1) (T := TX1) (N := 7) S vu_X1 hK h fg_p1_0 rfl rfl 4 (by decide) vf_RX1_25 rfl rfl dX1_nextToken_9 ?_
      refine lv_aload_n hx hb dX1_nextToken_12 rfl (lv_at hl 0 rfl) ?_
      refine fg_get (C := RX1) (T := TX1) (N := 7) S vu_X1 hK h fg_p1_0 rfl rfl 1 (by decide) vf_RX1_15 rfl rfl dX1_nextToken_13 ?_
      refine lv_icmp_ge (tgt := 46) hx hb dX1_nextToken_16 (by decide) (fun hc => ?_) (fun hc => ?_)
      · have hf := fg_ifT hf hc
        exact hK_8 w_8 _ _ ls h (lv_sub hl [0] rfl) hf
      · have hf := fg_ifF hf hc
        refine lv_aload_n hx hb dX1_nextToken_19 rfl (lv_at hl 0 rfl) ?_
        refine fg_get (C := RX1) (T := TX1) (N := 7) S vu_X1 hK h fg_p1_0 rfl rfl 0 (by decide) vf_RX1_9 rfl rfl dX1_nextToken_20 ?_
        refine lv_aload_n hx hb dX1_nextToken_23 rfl (lv_at hl 0 rfl) ?_
        refine fg_get (C := RX1) (T := TX1) (N := 7) S vu_X1 hK h fg_p1_0 rfl rfl 4 (by decide) vf_RX1_25 rfl rfl dX1_nextToken_24 ?_
        obtain ⟨hn23, hf⟩ := fg_gdE hf
        refine fg_iald hx hb hK h fg_p1_1 (fun _ => rfl) hn23 dX1_nextToken_27 ?_
        refine lv_bipush (v := 32) hx hb dX1_nextToken_28 rfl ?_
        refine lv_icmp_ne (tgt := 46) hx hb dX1_nextToken_30 (by decide) (fun hc => ?_) (fun hc => ?_)
        · have hf := fg_ifF hf hc
          exact hK_8 w_8 _ _ ls h (lv_sub hl [0] rfl) hf
        · have hf := fg_ifT hf hc
          refine lv_aload_n hx hb dX1_nextToken_33 rfl (lv_at hl 0 rfl) ?_
          refine lv_dup hx hb dX1_nextToken_34 rfl ?_
          refine fg_get (C := RX1) (T := TX1) (N := 7) S vu_X1 hK h fg_p1_0 rfl rfl 4 (by decide) vf_RX1_25 rfl rfl dX1_nextToken_35 ?_
          refine lv_iconst (v := 1) hx hb dX1_nextToken_38 rfl ?_
          refine lv_iadd hx hb dX1_nextToken_39 ?_
          refine fg_putI (C := RX1) (T := TX1) (N := 7) (fs := (fg_f1 g 0)) S vu_X1 tyX1 tyX1_ok nmX1 hK h fg_p1_0 (fun _ _ => rfl) rfl 4 (by decide) vf_RX1_25 rfl rfl (tyX1_ok 4 (by decide)) rfl rfl (fun _ => Nat.le_of_ble_eq_true rfl) (fun _ => rfl) dX1_nextToken_40 (fun w24 H locs ew h => ?_)
          have hf := fg_letE ew hf
          refine lv_goto (tgt := 8) hx hb dX1_nextToken_43 (by decide) ?_
          exact ih_8 w24 _ _ ls h (lv_sub hl [0] rfl) hf
  exact hL_8 _ hK_8 fg_fuel w1 _ _ ls h (lv_sub hl [0] rfl) hf
set_option maxHeartbeats 4000000 in
set_option maxRecDepth 100000 in
theorem c_X1_isWord (l : Launch) (D : va_G) (g : fg_G) (sx : Nat) (hsx : sx < 16) (w : fg_W) (r : Int32) (w' : fg_W) (hf : f_X1_isWord sx w = some (r, w')) : fg_M l yX1_isWord cX1_isWord 3 (some .boolean) 5 120 D g [.ref (g.1 1 0 0), .ref (g.2.2.2.2.1 sx)] w (fg_Qi D g r w') := by
  refine fg_M.of rfl (Nat.le_of_ble_eq_true rfl) (fun p e s m below meth c ls S hr hlk hK h hl => ?_)
  have hx := S.1
  have hb := S.2.1
  have hl : lv_has ls 3 [(0, .ref (g.1 1 0 0)), (1, .ref (g.2.2.2.2.1 sx))] := hl
  unfold f_X1_isWord at hf
  refine lv_aload_n hx hb dX1_isWord_0 rfl (lv_at hl 0 rfl) ?_
  refine fg_get (C := RX1) (T := TX1) (N := 7) S vu_X1 hK h fg_p1_0 rfl rfl 3 (by decide) vf_RX1_22 rfl rfl dX1_isWord_1 ?_
  refine lv_if_ne (tgt := 23) hx hb dX1_isWord_4 (by decide) (fun hc => ?_) (fun hc => ?_)
  · have hf := fg_ifF hf hc
    refine lv_iconst (v := 0) hx hb dX1_isWord_23 rfl ?_
    exact fg_retz hx hb hr hlk hK h hf (by decide) dX1_isWord_24
  · have hf := fg_ifT hf hc
    refine lv_aload_n hx hb dX1_isWord_7 rfl (lv_at hl 0 rfl) ?_
    refine fg_get (C := RX1) (T := TX1) (N := 7) S vu_X1 hK h fg_p1_0 rfl rfl 5 (by decide) vf_RX1_28 rfl rfl dX1_isWord_8 ?_
    refine lv_aload_n hx hb dX1_isWord_11 rfl (lv_at hl 0 rfl) ?_
    refine fg_get (C := RX1) (T := TX1) (N := 7) S vu_X1 hK h fg_p1_0 rfl rfl 4 (by decide) vf_RX1_25 rfl rfl dX1_isWord_12 ?_
    refine lv_isub hx hb dX1_isWord_15 ?_
    refine lv_aload_n hx hb dX1_isWord_16 rfl (lv_at hl 1 rfl) ?_
    refine fg_strLen (rest := [.int ((w.1 1 0 0 5) - (w.1 1 0 0 4))]) S hK h vm_RX1_132 hsx hl.1 (Nat.le_of_ble_eq_true rfl) (by decide) (by decide) dX1_isWord_17 (fun H locs h => ?_)
    refine lv_icmp_eq (tgt := 25) hx hb dX1_isWord_20 (by decide) (fun hc => ?_) (fun hc => ?_)
    · have hf := fg_ifT hf hc
      refine lv_iconst (v := 0) hx hb dX1_isWord_25 rfl ?_
      refine lv_istore_n (lv' := [(2, .int 0), (0, .ref (g.1 1 0 0)), (1, .ref (g.2.2.2.2.1 sx))]) hx hb dX1_isWord_26 rfl hl (by decide) rfl (fun ls hl => ?_)
      have hK_27 : ∀ (v2_27 : Int32) (w_27 : fg_W) (H : Heap) (locs : List Loc) (ls : Array Slot), fg_H D g s.heap w_27 H locs → lv_has ls 3 [(0, .ref (g.1 1 0 0)), (1, .ref (g.2.2.2.2.1 sx)), (2, .int v2_27)] → (some (1, w_27)) = some (r, w') → fg_Gi p l e 5 120 s m [.ref (g.1 1 0 0), .ref (g.2.2.2.2.1 sx)] below meth c D g r w' H locs 62 ls [] := by
        intro v2_27 w_27 H locs ls h hl hf
        refine lv_iconst (v := 1) hx hb dX1_isWord_62 rfl ?_
        exact fg_retz hx hb hr hlk hK h hf (by decide) dX1_isWord_63
      have hL_27 : ∀ (KK_27 : Int32 → fg_W → Option (Int32 × fg_W)) (hK_27 : ∀ (v2_27 : Int32) (w_27 : fg_W) (H : Heap) (locs : List Loc) (ls : Array Slot), fg_H D g s.heap w_27 H locs → lv_has ls 3 [(0, .ref (g.1 1 0 0)), (1, .ref (g.2.2.2.2.1 sx)), (2, .int v2_27)] → KK_27 v2_27 w_27 = some (r, w') → fg_Gi p l e 5 120 s m [.ref (g.1 1 0 0), .ref (g.2.2.2.2.1 sx)] below meth c D g r w' H locs 62 ls []) (n : Nat) (v2_27 : Int32) (w_27 : fg_W) (H : Heap) (locs : List Loc) (ls : Array Slot), fg_H D g s.heap w_27 H locs → lv_has ls 3 [(0, .ref (g.1 1 0 0)), (1, .ref (g.2.2.2.2.1 sx)), (2, .int v2_27)] → f_X1_isWord_L27 sx KK_27 n v2_27 w_27 = some (r, w') → fg_Gi p l e 5 120 s m [.ref (g.1 1 0 0), .ref (g.2.2.2.2.1 sx)] below meth c D g r w' H locs 27 ls [] := by
        intro KK_27 hK_27 n
        induction n with
        | zero => intro v2_27 w_27 H locs ls h hl hf; exact fg_no hf
        | succ n_27 ih_27 =>
          intro v2_27 w_27 H locs ls h hl hf
          unfold f_X1_isWord_L27 at hf
          refine lv_iload_n hx hb dX1_isWord_27 rfl (lv_at hl 2 rfl) ?_
          refine lv_aload_n hx hb dX1_isWord_28 rfl (lv_at hl 1 rfl) ?_
          refine fg_strLen (rest := [.int v2_27]) S hK h vm_RX1_132 hsx hl.1 (Nat.le_of_ble_eq_true rfl) (by decide) (by decide) dX1_isWord_29 (fun H locs h => ?_)
          refine lv_icmp_ge (tgt := 62) hx hb dX1_isWord_32 (by decide) (fun hc => ?_) (fun hc => ?_)
          · have hf := fg_ifT hf hc
            exact hK_27 v2_27 w_27 _ _ ls h (lv_sub hl [0, 1, 2] rfl) hf
          · have hf := fg_ifF hf hc
            refine lv_aload_n hx hb dX1_isWord_35 rfl (lv_at hl 0 rfl) ?_
            refine fg_get (C := RX1) (T := TX1) (N := 7) S vu_X1 hK h fg_p1_0 rfl rfl 0 (by decide) vf_RX1_9 rfl rfl dX1_isWord_36 ?_
            refine lv_aload_n hx hb dX1_isWord_39 rfl (lv_at hl 0 rfl) ?_
            refine fg_get (C := RX1) (T := TX1) (N := 7) S vu_X1 hK h fg_p1_0 rfl rfl 4 (by decide) vf_RX1_25 rfl rfl dX1_isWord_40 ?_
            refine lv_iload_n hx hb dX1_isWord_43 rfl (lv_at hl 2 rfl) ?_
            refine lv_iadd hx hb dX1_isWord_44 ?_
            obtain ⟨hn3, hf⟩ := fg_gdE hf
            refine fg_iald hx hb hK h fg_p1_1 (fun _ => rfl) hn3 dX1_isWord_45 ?_
            refine lv_aload_n hx hb dX1_isWord_46 rfl (lv_at hl 1 rfl) ?_
            refine lv_iload_n hx hb dX1_isWord_47 rfl (lv_at hl 2 rfl) ?_
            obtain ⟨hn4, hf⟩ := fg_gdE hf
            refine fg_strAt (rest := [.int (w_27.1 1 0 1 ((w_27.1 1 0 0 4) + v2_27).toNatClampNeg)]) S hK h vm_RX1_136 hsx hn4 hl.1 (Nat.le_of_ble_eq_true rfl) (by decide) (by decide) dX1_isWord_48 (fun H locs h => ?_)
            refine lv_icmp_eq (tgt := 56) hx hb dX1_isWord_51 (by decide) (fun hc => ?_) (fun hc => ?_)
            · have hf := fg_ifT hf hc
              refine lv_iinc (v := (v2_27 + 1)) (lv' := [(2, .int (v2_27 + 1)), (0, .ref (g.1 1 0 0)), (1, .ref (g.2.2.2.2.1 sx))]) hx hb dX1_isWord_56 hl (k := 2) rfl rfl (by decide) rfl (fun ls hl => ?_)
              refine lv_goto (tgt := 27) hx hb dX1_isWord_59 (by decide) ?_
              exact ih_27 (v2_27 + 1) w_27 _ _ ls h (lv_sub hl [1, 2, 0] rfl) hf
            · have hf := fg_ifF hf hc
              refine lv_iconst (v := 0) hx hb dX1_isWord_54 rfl ?_
              exact fg_retz hx hb hr hlk hK h hf (by decide) dX1_isWord_55
      exact hL_27 _ hK_27 fg_fuel 0 w _ _ ls h (lv_sub hl [1, 2, 0] rfl) hf
    · have hf := fg_ifF hf hc
      refine lv_iconst (v := 0) hx hb dX1_isWord_23 rfl ?_
      exact fg_retz hx hb hr hlk hK h hf (by decide) dX1_isWord_24
set_option maxHeartbeats 4000000 in
set_option maxRecDepth 100000 in
theorem c_X1_kindOfWord (l : Launch) (D : va_G) (g : fg_G)  (w : fg_W) (r : Int32) (w' : fg_W) (hf : f_X1_kindOfWord  w = some (r, w')) : fg_M l yX1_kindOfWord cX1_kindOfWord 1 (some .int) 6 142 D g [.ref (g.1 1 0 0)] w (fg_Qi D g r w') := by
  refine fg_M.of rfl (Nat.le_of_ble_eq_true rfl) (fun p e s m below meth c ls S hr hlk hK h hl => ?_)
  have hx := S.1
  have hb := S.2.1
  have hl : lv_has ls 1 [(0, .ref (g.1 1 0 0))] := hl
  unfold f_X1_kindOfWord at hf
  refine lv_aload_n hx hb dX1_kindOfWord_0 rfl (lv_at hl 0 rfl) ?_
  refine va_ldcS hx hb S.2.2.2.1 (hK.2.2.2.1 0 (by decide)) dX1_kindOfWord_1 ?_
  obtain ⟨r3, w1, hc2, hf⟩ := fg_biE hf
  refine fg_ci h (fg_runV (rest := []) S hK h (c_X1_isWord l D g 0 (by decide) w r3 w1 hc2) vg_RX1_115 vd_X1_isWord ⟨by decide, by decide⟩ fg_p1_0 rfl rfl rfl hl.1 rfl (Nat.le_of_ble_eq_true rfl) dX1_kindOfWord_3 ⟨Nat.zero_le _, Nat.zero_le _⟩) (fun H locs h => ?_)
  refine lv_if_eq (tgt := 11) hx hb dX1_kindOfWord_6 (by decide) (fun hc => ?_) (fun hc => ?_)
  · have hf := fg_ifT hf hc
    refine lv_aload_n hx hb dX1_kindOfWord_11 rfl (lv_at hl 0 rfl) ?_
    refine va_ldcS hx hb S.2.2.2.1 (hK.2.2.2.1 1 (by decide)) dX1_kindOfWord_12 ?_
    obtain ⟨r6, w4, hc5, hf⟩ := fg_biE hf
    refine fg_ci h (fg_runV (rest := []) S hK h (c_X1_isWord l D g 1 (by decide) w1 r6 w4 hc5) vg_RX1_115 vd_X1_isWord ⟨by decide, by decide⟩ fg_p1_0 rfl rfl rfl hl.1 rfl (Nat.le_of_ble_eq_true rfl) dX1_kindOfWord_14 ⟨Nat.zero_le _, Nat.zero_le _⟩) (fun H locs h => ?_)
    refine lv_if_eq (tgt := 22) hx hb dX1_kindOfWord_17 (by decide) (fun hc => ?_) (fun hc => ?_)
    · have hf := fg_ifT hf hc
      refine lv_aload_n hx hb dX1_kindOfWord_22 rfl (lv_at hl 0 rfl) ?_
      refine va_ldcS hx hb S.2.2.2.1 (hK.2.2.2.1 2 (by decide)) dX1_kindOfWord_23 ?_
      obtain ⟨r9, w7, hc8, hf⟩ := fg_biE hf
      refine fg_ci h (fg_runV (rest := []) S hK h (c_X1_isWord l D g 2 (by decide) w4 r9 w7 hc8) vg_RX1_115 vd_X1_isWord ⟨by decide, by decide⟩ fg_p1_0 rfl rfl rfl hl.1 rfl (Nat.le_of_ble_eq_true rfl) dX1_kindOfWord_25 ⟨Nat.zero_le _, Nat.zero_le _⟩) (fun H locs h => ?_)
      refine lv_if_eq (tgt := 33) hx hb dX1_kindOfWord_28 (by decide) (fun hc => ?_) (fun hc => ?_)
      · have hf := fg_ifT hf hc
        refine lv_aload_n hx hb dX1_kindOfWord_33 rfl (lv_at hl 0 rfl) ?_
        refine va_ldcS hx hb S.2.2.2.1 (hK.2.2.2.1 3 (by decide)) dX1_kindOfWord_34 ?_
        obtain ⟨r12, w10, hc11, hf⟩ := fg_biE hf
        refine fg_ci h (fg_runV (rest := []) S hK h (c_X1_isWord l D g 3 (by decide) w7 r12 w10 hc11) vg_RX1_115 vd_X1_isWord ⟨by decide, by decide⟩ fg_p1_0 rfl rfl rfl hl.1 rfl (Nat.le_of_ble_eq_true rfl) dX1_kindOfWord_36 ⟨Nat.zero_le _, Nat.zero_le _⟩) (fun H locs h => ?_)
        refine lv_if_eq (tgt := 44) hx hb dX1_kindOfWord_39 (by decide) (fun hc => ?_) (fun hc => ?_)
        · have hf := fg_ifT hf hc
          refine lv_aload_n hx hb dX1_kindOfWord_44 rfl (lv_at hl 0 rfl) ?_
          refine va_ldcS hx hb S.2.2.2.1 (hK.2.2.2.1 4 (by decide)) dX1_kindOfWord_45 ?_
          obtain ⟨r15, w13, hc14, hf⟩ := fg_biE hf
          refine fg_ci h (fg_runV (rest := []) S hK h (c_X1_isWord l D g 4 (by decide) w10 r15 w13 hc14) vg_RX1_115 vd_X1_isWord ⟨by decide, by decide⟩ fg_p1_0 rfl rfl rfl hl.1 rfl (Nat.le_of_ble_eq_true rfl) dX1_kindOfWord_47 ⟨Nat.zero_le _, Nat.zero_le _⟩) (fun H locs h => ?_)
          refine lv_if_eq (tgt := 55) hx hb dX1_kindOfWord_50 (by decide) (fun hc => ?_) (fun hc => ?_)
          · have hf := fg_ifT hf hc
            refine lv_aload_n hx hb dX1_kindOfWord_55 rfl (lv_at hl 0 rfl) ?_
            refine va_ldcS hx hb S.2.2.2.1 (hK.2.2.2.1 5 (by decide)) dX1_kindOfWord_56 ?_
            obtain ⟨r18, w16, hc17, hf⟩ := fg_biE hf
            refine fg_ci h (fg_runV (rest := []) S hK h (c_X1_isWord l D g 5 (by decide) w13 r18 w16 hc17) vg_RX1_115 vd_X1_isWord ⟨by decide, by decide⟩ fg_p1_0 rfl rfl rfl hl.1 rfl (Nat.le_of_ble_eq_true rfl) dX1_kindOfWord_58 ⟨Nat.zero_le _, Nat.zero_le _⟩) (fun H locs h => ?_)
            refine lv_if_eq (tgt := 66) hx hb dX1_kindOfWord_61 (by decide) (fun hc => ?_) (fun hc => ?_)
            · have hf := fg_ifT hf hc
              refine lv_aload_n hx hb dX1_kindOfWord_66 rfl (lv_at hl 0 rfl) ?_
              refine va_ldcS hx hb S.2.2.2.1 (hK.2.2.2.1 6 (by decide)) dX1_kindOfWord_67 ?_
              obtain ⟨r21, w19, hc20, hf⟩ := fg_biE hf
              refine fg_ci h (fg_runV (rest := []) S hK h (c_X1_isWord l D g 6 (by decide) w16 r21 w19 hc20) vg_RX1_115 vd_X1_isWord ⟨by decide, by decide⟩ fg_p1_0 rfl rfl rfl hl.1 rfl (Nat.le_of_ble_eq_true rfl) dX1_kindOfWord_69 ⟨Nat.zero_le _, Nat.zero_le _⟩) (fun H locs h => ?_)
              refine lv_if_eq (tgt := 80) hx hb dX1_kindOfWord_72 (by decide) (fun hc => ?_) (fun hc => ?_)
              · have hf := fg_ifT hf hc
                refine lv_iconst (v := (-1)) hx hb dX1_kindOfWord_80 rfl ?_
                exact fg_reti hx hb hr hlk hK h hf dX1_kindOfWord_81
              · have hf := fg_ifF hf hc
                refine lv_bipush (v := 6) hx hb dX1_kindOfWord_75 rfl ?_
                refine lv_goto (tgt := 81) hx hb dX1_kindOfWord_77 (by decide) ?_
                exact fg_reti hx hb hr hlk hK h hf dX1_kindOfWord_81
            · have hf := fg_ifF hf hc
              refine lv_iconst (v := 5) hx hb dX1_kindOfWord_64 rfl ?_
              exact fg_reti hx hb hr hlk hK h hf dX1_kindOfWord_65
          · have hf := fg_ifF hf hc
            refine lv_iconst (v := 4) hx hb dX1_kindOfWord_53 rfl ?_
            exact fg_reti hx hb hr hlk hK h hf dX1_kindOfWord_54
        · have hf := fg_ifF hf hc
          refine lv_iconst (v := 3) hx hb dX1_kindOfWord_42 rfl ?_
          exact fg_reti hx hb hr hlk hK h hf dX1_kindOfWord_43
      · have hf := fg_ifF hf hc
        refine lv_iconst (v := 2) hx hb dX1_kindOfWord_31 rfl ?_
        exact fg_reti hx hb hr hlk hK h hf dX1_kindOfWord_32
    · have hf := fg_ifF hf hc
      refine lv_iconst (v := 1) hx hb dX1_kindOfWord_20 rfl ?_
      exact fg_reti hx hb hr hlk hK h hf dX1_kindOfWord_21
  · have hf := fg_ifF hf hc
    refine lv_iconst (v := 0) hx hb dX1_kindOfWord_9 rfl ?_
    exact fg_reti hx hb hr hlk hK h hf dX1_kindOfWord_10
set_option maxHeartbeats 4000000 in
set_option maxRecDepth 100000 in
theorem c_X1_faultHere (l : Launch) (D : va_G) (g : fg_G)  (w : fg_W) (w' : fg_W) (hf : f_X1_faultHere  w = some w') : fg_M l yX1_faultHere cX1_faultHere 1 none 0 0 D g [.ref (g.1 1 0 0)] w (fg_Qv D g w') := by
  refine fg_M.of rfl (Nat.le_of_ble_eq_true rfl) (fun p e s m below meth c ls S hr hlk hK h hl => ?_)
  have hx := S.1
  have hb := S.2.1
  have hl : lv_has ls 1 [(0, .ref (g.1 1 0 0))] := hl
  unfold f_X1_faultHere at hf
  refine lv_aload_n hx hb dX1_faultHere_0 rfl (lv_at hl 0 rfl) ?_
  refine fg_get (C := RX1) (T := TX1) (N := 7) S vu_X1 hK h fg_p1_0 rfl rfl 2 (by decide) vf_RX1_19 rfl rfl dX1_faultHere_1 ?_
  refine lv_if_ge (tgt := 15) hx hb dX1_faultHere_4 (by decide) (fun hc => ?_) (fun hc => ?_)
  · have hf := fg_ifT hf hc
    exact fg_retv hx hb hr hlk hK h hf dX1_faultHere_15
  · have hf := fg_ifF hf hc
    refine lv_aload_n hx hb dX1_faultHere_7 rfl (lv_at hl 0 rfl) ?_
    refine lv_aload_n hx hb dX1_faultHere_8 rfl (lv_at hl 0 rfl) ?_
    refine fg_get (C := RX1) (T := TX1) (N := 7) S vu_X1 hK h fg_p1_0 rfl rfl 4 (by decide) vf_RX1_25 rfl rfl dX1_faultHere_9 ?_
    refine fg_putI (C := RX1) (T := TX1) (N := 7) (fs := (fg_f1 g 0)) S vu_X1 tyX1 tyX1_ok nmX1 hK h fg_p1_0 (fun _ _ => rfl) rfl 2 (by decide) vf_RX1_19 rfl rfl (tyX1_ok 2 (by decide)) rfl rfl (fun _ => Nat.le_of_ble_eq_true rfl) (fun _ => rfl) dX1_faultHere_12 (fun w1 H locs ew h => ?_)
    have hf := fg_letE ew hf
    exact fg_retv hx hb hr hlk hK h hf dX1_faultHere_15
set_option maxHeartbeats 4000000 in
set_option maxRecDepth 100000 in
theorem c_X1_took (l : Launch) (D : va_G) (g : fg_G) (sx : Nat) (hsx : sx < 16) (w : fg_W) (r : Int32) (w' : fg_W) (hf : f_X1_took sx w = some (r, w')) : fg_M l yX1_took cX1_took 3 (some .boolean) 6 142 D g [.ref (g.1 1 0 0), .ref (g.2.2.2.2.1 sx)] w (fg_Qi D g r w') := by
  refine fg_M.of rfl (Nat.le_of_ble_eq_true rfl) (fun p e s m below meth c ls S hr hlk hK h hl => ?_)
  have hx := S.1
  have hb := S.2.1
  have hl : lv_has ls 3 [(0, .ref (g.1 1 0 0)), (1, .ref (g.2.2.2.2.1 sx))] := hl
  unfold f_X1_took at hf
  refine lv_aload_n hx hb dX1_took_0 rfl (lv_at hl 0 rfl) ?_
  refine fg_get (C := RX1) (T := TX1) (N := 7) S vu_X1 hK h fg_p1_0 rfl rfl 2 (by decide) vf_RX1_19 rfl rfl dX1_took_1 ?_
  refine lv_if_ge (tgt := 19) hx hb dX1_took_4 (by decide) (fun hc => ?_) (fun hc => ?_)
  · have hf := fg_ifT hf hc
    refine lv_iconst (v := 0) hx hb dX1_took_19 rfl ?_
    refine lv_istore_n (lv' := [(2, .int 0), (0, .ref (g.1 1 0 0)), (1, .ref (g.2.2.2.2.1 sx))]) hx hb dX1_took_20 rfl hl (by decide) rfl (fun ls hl => ?_)
    refine lv_iload_n hx hb dX1_took_21 rfl (lv_at hl 0 rfl) ?_
    refine lv_if_eq (tgt := 29) hx hb dX1_took_22 (by decide) (fun hc => ?_) (fun hc => ?_)
    · refine lv_iload_n hx hb dX1_took_29 rfl (lv_at hl 0 rfl) ?_
      exact fg_retz hx hb hr hlk hK h hf (by decide) dX1_took_30
    · exact absurd hc (by decide)
  · have hf := fg_ifF hf hc
    refine lv_aload_n hx hb dX1_took_7 rfl (lv_at hl 0 rfl) ?_
    refine lv_aload_n hx hb dX1_took_8 rfl (lv_at hl 1 rfl) ?_
    obtain ⟨r3, w1, hc2, hf⟩ := fg_biE hf
    refine fg_ci h (fg_runV (rest := []) S hK h (c_X1_isWord l D g sx hsx w r3 w1 hc2) vg_RX1_115 vd_X1_isWord ⟨by decide, by decide⟩ fg_p1_0 rfl rfl rfl hl.1 rfl (Nat.le_of_ble_eq_true rfl) dX1_took_9 ⟨Nat.zero_le _, Nat.zero_le _⟩) (fun H locs h => ?_)
    refine lv_if_eq (tgt := 19) hx hb dX1_took_12 (by decide) (fun hc => ?_) (fun hc => ?_)
    · have hf := fg_ifT hf hc
      refine lv_iconst (v := 0) hx hb dX1_took_19 rfl ?_
      refine lv_istore_n (lv' := [(2, .int 0), (0, .ref (g.1 1 0 0)), (1, .ref (g.2.2.2.2.1 sx))]) hx hb dX1_took_20 rfl hl (by decide) rfl (fun ls hl => ?_)
      refine lv_iload_n hx hb dX1_took_21 rfl (lv_at hl 0 rfl) ?_
      refine lv_if_eq (tgt := 29) hx hb dX1_took_22 (by decide) (fun hc => ?_) (fun hc => ?_)
      · refine lv_iload_n hx hb dX1_took_29 rfl (lv_at hl 0 rfl) ?_
        exact fg_retz hx hb hr hlk hK h hf (by decide) dX1_took_30
      · exact absurd hc (by decide)
    · have hf := fg_ifF hf hc
      refine lv_iconst (v := 1) hx hb dX1_took_15 rfl ?_
      refine lv_goto (tgt := 20) hx hb dX1_took_16 (by decide) ?_
      refine lv_istore_n (lv' := [(2, .int 1), (0, .ref (g.1 1 0 0)), (1, .ref (g.2.2.2.2.1 sx))]) hx hb dX1_took_20 rfl hl (by decide) rfl (fun ls hl => ?_)
      refine lv_iload_n hx hb dX1_took_21 rfl (lv_at hl 0 rfl) ?_
      refine lv_if_eq (tgt := 29) hx hb dX1_took_22 (by decide) (fun hc => ?_) (fun hc => ?_)
      · exact absurd hc (by decide)
      · refine lv_aload_n hx hb dX1_took_25 rfl (lv_at hl 1 rfl) ?_
        obtain ⟨w4, hc5, hf⟩ := fg_bvE hf
        refine fg_cv h (fg_runV (rest := []) S hK h (c_X1_nextToken l D g   w1 w4 hc5) vg_RX1_34 vd_X1_nextToken ⟨by decide, by decide⟩ fg_p1_0 rfl rfl rfl hl.1 rfl (Nat.le_of_ble_eq_true rfl) dX1_took_26 ⟨Nat.zero_le _, Nat.zero_le _⟩) (fun H locs h => ?_)
        refine lv_iload_n hx hb dX1_took_29 rfl (lv_at hl 0 rfl) ?_
        exact fg_retz hx hb hr hlk hK h hf (by decide) dX1_took_30
set_option maxHeartbeats 4000000 in
set_option maxRecDepth 100000 in
theorem c_X1_takeNumber (l : Launch) (D : va_G) (g : fg_G) (a1 : Int32) (w : fg_W) (r : Int32) (w' : fg_W) (hf : f_X1_takeNumber a1 w = some (r, w')) : fg_M l yX1_takeNumber cX1_takeNumber 3 (some .int) 3 64 D g [.ref (g.1 1 0 0), .int a1] w (fg_Qi D g r w') := by
  refine fg_M.of rfl (Nat.le_of_ble_eq_true rfl) (fun p e s m below meth c ls S hr hlk hK h hl => ?_)
  have hx := S.1
  have hb := S.2.1
  have hl : lv_has ls 3 [(0, .ref (g.1 1 0 0)), (1, .int a1)] := hl
  unfold f_X1_takeNumber at hf
  refine lv_aload_n hx hb dX1_takeNumber_0 rfl (lv_at hl 0 rfl) ?_
  refine fg_get (C := RX1) (T := TX1) (N := 7) S vu_X1 hK h fg_p1_0 rfl rfl 2 (by decide) vf_RX1_19 rfl rfl dX1_takeNumber_1 ?_
  refine lv_if_ge (tgt := 23) hx hb dX1_takeNumber_4 (by decide) (fun hc => ?_) (fun hc => ?_)
  · have hf := fg_ifT hf hc
    refine lv_aload_n hx hb dX1_takeNumber_23 rfl (lv_at hl 0 rfl) ?_
    obtain ⟨w1, hc2, hf⟩ := fg_bvE hf
    refine fg_cv h (fg_runV (rest := []) S hK h (c_X1_faultHere l D g   w w1 hc2) vg_RX1_41 vd_X1_faultHere ⟨by decide, by decide⟩ fg_p1_0 rfl rfl rfl hl.1 rfl (Nat.le_of_ble_eq_true rfl) dX1_takeNumber_24 ⟨Nat.zero_le _, Nat.zero_le _⟩) (fun H locs h => ?_)
    refine lv_iconst (v := (-1)) hx hb dX1_takeNumber_27 rfl ?_
    exact fg_reti hx hb hr hlk hK h hf dX1_takeNumber_28
  · have hf := fg_ifF hf hc
    refine lv_aload_n hx hb dX1_takeNumber_7 rfl (lv_at hl 0 rfl) ?_
    refine fg_get (C := RX1) (T := TX1) (N := 7) S vu_X1 hK h fg_p1_0 rfl rfl 3 (by decide) vf_RX1_22 rfl rfl dX1_takeNumber_8 ?_
    refine lv_iconst (v := 1) hx hb dX1_takeNumber_11 rfl ?_
    refine lv_icmp_ne (tgt := 23) hx hb dX1_takeNumber_12 (by decide) (fun hc => ?_) (fun hc => ?_)
    · have hf := fg_ifF hf hc
      refine lv_aload_n hx hb dX1_takeNumber_23 rfl (lv_at hl 0 rfl) ?_
      obtain ⟨w3, hc4, hf⟩ := fg_bvE hf
      refine fg_cv h (fg_runV (rest := []) S hK h (c_X1_faultHere l D g   w w3 hc4) vg_RX1_41 vd_X1_faultHere ⟨by decide, by decide⟩ fg_p1_0 rfl rfl rfl hl.1 rfl (Nat.le_of_ble_eq_true rfl) dX1_takeNumber_24 ⟨Nat.zero_le _, Nat.zero_le _⟩) (fun H locs h => ?_)
      refine lv_iconst (v := (-1)) hx hb dX1_takeNumber_27 rfl ?_
      exact fg_reti hx hb hr hlk hK h hf dX1_takeNumber_28
    · have hf := fg_ifT hf hc
      refine lv_aload_n hx hb dX1_takeNumber_15 rfl (lv_at hl 0 rfl) ?_
      refine fg_get (C := RX1) (T := TX1) (N := 7) S vu_X1 hK h fg_p1_0 rfl rfl 6 (by decide) vf_RX1_31 rfl rfl dX1_takeNumber_16 ?_
      refine lv_iload_n hx hb dX1_takeNumber_19 rfl (lv_at hl 1 rfl) ?_
      refine lv_icmp_le (tgt := 29) hx hb dX1_takeNumber_20 (by decide) (fun hc => ?_) (fun hc => ?_)
      · have hf := fg_ifT hf hc
        refine lv_aload_n hx hb dX1_takeNumber_29 rfl (lv_at hl 0 rfl) ?_
        refine fg_get (C := RX1) (T := TX1) (N := 7) S vu_X1 hK h fg_p1_0 rfl rfl 6 (by decide) vf_RX1_31 rfl rfl dX1_takeNumber_30 ?_
        refine lv_topi (fun x5 e_x5 => ?_)
        have hf := fg_letE e_x5 hf
        refine lv_istore_n (lv' := [(2, .int x5), (0, .ref (g.1 1 0 0)), (1, .int a1)]) hx hb dX1_takeNumber_33 rfl hl (by decide) rfl (fun ls hl => ?_)
        refine lv_aload_n hx hb dX1_takeNumber_34 rfl (lv_at hl 1 rfl) ?_
        obtain ⟨w6, hc7, hf⟩ := fg_bvE hf
        refine fg_cv h (fg_runV (rest := []) S hK h (c_X1_nextToken l D g   w w6 hc7) vg_RX1_34 vd_X1_nextToken ⟨by decide, by decide⟩ fg_p1_0 rfl rfl rfl hl.1 rfl (Nat.le_of_ble_eq_true rfl) dX1_takeNumber_35 ⟨Nat.zero_le _, Nat.zero_le _⟩) (fun H locs h => ?_)
        refine lv_iload_n hx hb dX1_takeNumber_38 rfl (lv_at hl 0 rfl) ?_
        exact fg_reti hx hb hr hlk hK h hf dX1_takeNumber_39
      · have hf := fg_ifF hf hc
        refine lv_aload_n hx hb dX1_takeNumber_23 rfl (lv_at hl 0 rfl) ?_
        obtain ⟨w8, hc9, hf⟩ := fg_bvE hf
        refine fg_cv h (fg_runV (rest := []) S hK h (c_X1_faultHere l D g   w w8 hc9) vg_RX1_41 vd_X1_faultHere ⟨by decide, by decide⟩ fg_p1_0 rfl rfl rfl hl.1 rfl (Nat.le_of_ble_eq_true rfl) dX1_takeNumber_24 ⟨Nat.zero_le _, Nat.zero_le _⟩) (fun H locs h => ?_)
        refine lv_iconst (v := (-1)) hx hb dX1_takeNumber_27 rfl ?_
        exact fg_reti hx hb hr hlk hK h hf dX1_takeNumber_28
set_option maxHeartbeats 4000000 in
set_option maxRecDepth 100000 in
theorem c_X1_tellPerson (l : Launch) (D : va_G) (g : fg_G) (j : Nat) (a2 : Int32) (hj : j < 3) (w : fg_W) (w' : fg_W) (hf : f_X1_tellPerson j a2 w = some w') : fg_M l yX1_tellPerson cX1_tellPerson 4 none 7 164 D g [.ref (g.1 1 0 0), .ref (g.1 2 j 0), .int a2] w (fg_Qv D g w') := by
  refine fg_M.of rfl (Nat.le_of_ble_eq_true rfl) (fun p e s m below meth c ls S hr hlk hK h hl => ?_)
  have hx := S.1
  have hb := S.2.1
  have hl : lv_has ls 4 [(0, .ref (g.1 1 0 0)), (1, .ref (g.1 2 j 0)), (2, .int a2)] := hl
  unfold f_X1_tellPerson at hf
  refine lv_aload_n hx hb dX1_tellPerson_0 rfl (lv_at hl 1 rfl) ?_
  refine fg_get (C := RX2) (T := TX2) (N := 16) S vu_X2 hK h (fg_p2_0 hj) rfl rfl 5 (by decide) vf_RX1_76 rfl rfl dX1_tellPerson_1 ?_
  refine lv_bipush (v := 8) hx hb dX1_tellPerson_4 rfl ?_
  refine lv_icmp_lt (tgt := 14) hx hb dX1_tellPerson_6 (by decide) (fun hc => ?_) (fun hc => ?_)
  · have hf := fg_ifT hf hc
    refine lv_aload_n hx hb dX1_tellPerson_14 rfl (lv_at hl 0 rfl) ?_
    obtain ⟨w1, hc2, hf⟩ := fg_bvE hf
    refine fg_cv h (fg_runV (rest := []) S hK h (c_X1_nextToken l D g   w w1 hc2) vg_RX1_34 vd_X1_nextToken ⟨by decide, by decide⟩ fg_p1_0 rfl rfl rfl hl.1 rfl (Nat.le_of_ble_eq_true rfl) dX1_tellPerson_15 ⟨Nat.zero_le _, Nat.zero_le _⟩) (fun H locs h => ?_)
    refine lv_aload_n hx hb dX1_tellPerson_18 rfl (lv_at hl 1 rfl) ?_
    refine lv_iload_n hx hb dX1_tellPerson_19 rfl (lv_at hl 2 rfl) ?_
    obtain ⟨r5, w3, hc4, hf⟩ := fg_biE hf
    refine fg_ci h (fg_runV (rest := []) S hK h (c_X2_add l D g j a2 hj w1 r5 w3 hc4) vg_RX1_79 vd_X2_add ⟨by decide, by decide⟩ (fg_p2_0 hj) rfl rfl rfl hl.1 rfl (Nat.le_of_ble_eq_true rfl) dX1_tellPerson_20 ⟨Nat.zero_le _, Nat.zero_le _⟩) (fun H locs h => ?_)
    refine lv_istore_n (lv' := [(3, .int r5), (0, .ref (g.1 1 0 0)), (1, .ref (g.1 2 j 0)), (2, .int a2)]) hx hb dX1_tellPerson_23 rfl hl (by decide) rfl (fun ls hl => ?_)
    refine lv_aload_n hx hb dX1_tellPerson_24 rfl (lv_at hl 1 rfl) ?_
    refine va_ldcS hx hb S.2.2.2.1 (hK.2.2.2.1 10 (by decide)) dX1_tellPerson_25 ?_
    obtain ⟨r8, w6, hc7, hf⟩ := fg_biE hf
    refine fg_ci h (fg_runV (rest := []) S hK h (c_X1_took l D g 10 (by decide) w3 r8 w6 hc7) vg_RX1_54 vd_X1_took ⟨by decide, by decide⟩ fg_p1_0 rfl rfl rfl hl.1 rfl (Nat.le_of_ble_eq_true rfl) dX1_tellPerson_27 ⟨Nat.zero_le _, Nat.zero_le _⟩) (fun H locs h => ?_)
    refine lv_if_eq (tgt := 45) hx hb dX1_tellPerson_30 (by decide) (fun hc => ?_) (fun hc => ?_)
    · have hf := fg_ifT hf hc
      refine lv_aload_n hx hb dX1_tellPerson_45 rfl (lv_at hl 1 rfl) ?_
      refine va_ldcS hx hb S.2.2.2.1 (hK.2.2.2.1 11 (by decide)) dX1_tellPerson_46 ?_
      obtain ⟨r11, w9, hc10, hf⟩ := fg_biE hf
      refine fg_ci h (fg_runV (rest := []) S hK h (c_X1_took l D g 11 (by decide) w6 r11 w9 hc10) vg_RX1_54 vd_X1_took ⟨by decide, by decide⟩ fg_p1_0 rfl rfl rfl hl.1 rfl (Nat.le_of_ble_eq_true rfl) dX1_tellPerson_48 ⟨Nat.zero_le _, Nat.zero_le _⟩) (fun H locs h => ?_)
      refine lv_if_eq (tgt := 66) hx hb dX1_tellPerson_51 (by decide) (fun hc => ?_) (fun hc => ?_)
      · have hf := fg_ifT hf hc
        refine lv_aload_n hx hb dX1_tellPerson_66 rfl (lv_at hl 1 rfl) ?_
        refine va_ldcS hx hb S.2.2.2.1 (hK.2.2.2.1 12 (by decide)) dX1_tellPerson_67 ?_
        obtain ⟨r14, w12, hc13, hf⟩ := fg_biE hf
        refine fg_ci h (fg_runV (rest := []) S hK h (c_X1_took l D g 12 (by decide) w9 r14 w12 hc13) vg_RX1_54 vd_X1_took ⟨by decide, by decide⟩ fg_p1_0 rfl rfl rfl hl.1 rfl (Nat.le_of_ble_eq_true rfl) dX1_tellPerson_69 ⟨Nat.zero_le _, Nat.zero_le _⟩) (fun H locs h => ?_)
        refine lv_if_eq (tgt := 88) hx hb dX1_tellPerson_72 (by decide) (fun hc => ?_) (fun hc => ?_)
        · have hf := fg_ifT hf hc
          exact fg_retv hx hb hr hlk hK h hf dX1_tellPerson_88
        · have hf := fg_ifF hf hc
          refine lv_aload_n hx hb dX1_tellPerson_75 rfl (lv_at hl 2 rfl) ?_
          refine fg_get (C := RX2) (T := TX2) (N := 16) S vu_X2 hK h (fg_p2_0 hj) rfl rfl 9 (by decide) vf_RX1_94 rfl rfl dX1_tellPerson_76 ?_
          refine lv_iload_n hx hb dX1_tellPerson_79 rfl (lv_at hl 0 rfl) ?_
          refine lv_aload_n hx hb dX1_tellPerson_80 rfl (lv_at hl 1 rfl) ?_
          refine lv_sipush (v := 9999) hx hb dX1_tellPerson_81 rfl ?_
          obtain ⟨r17, w15, hc16, hf⟩ := fg_biE hf
          refine fg_ci h (fg_runV (rest := [.int r5, .ref (g.1 2 j 8)]) S hK h (c_X1_takeNumber l D g 9999  w12 r17 w15 hc16) vg_RX1_68 vd_X1_takeNumber ⟨by decide, by decide⟩ fg_p1_0 rfl rfl rfl hl.1 rfl (Nat.le_of_ble_eq_true rfl) dX1_tellPerson_84 ⟨Nat.zero_le _, Nat.zero_le _⟩) (fun H locs h => ?_)
          obtain ⟨hn19, hf⟩ := fg_gdE hf
          refine fg_iast hx hb hK h (fg_p2_8 hj) (fun _ => rfl) hn19 dX1_tellPerson_87 (fun w18 H locs ew h => ?_)
          have hf := fg_letE ew hf
          exact fg_retv hx hb hr hlk hK h hf dX1_tellPerson_88
      · have hf := fg_ifF hf hc
        refine lv_aload_n hx hb dX1_tellPerson_54 rfl (lv_at hl 2 rfl) ?_
        refine fg_get (C := RX2) (T := TX2) (N := 16) S vu_X2 hK h (fg_p2_0 hj) rfl rfl 8 (by decide) vf_RX1_89 rfl rfl dX1_tellPerson_55 ?_
        refine lv_iload_n hx hb dX1_tellPerson_58 rfl (lv_at hl 0 rfl) ?_
        refine lv_aload_n hx hb dX1_tellPerson_59 rfl (lv_at hl 1 rfl) ?_
        refine lv_bipush (v := 99) hx hb dX1_tellPerson_60 rfl ?_
        obtain ⟨r22, w20, hc21, hf⟩ := fg_biE hf
        refine fg_ci h (fg_runV (rest := [.int r5, .ref (g.1 2 j 7)]) S hK h (c_X1_takeNumber l D g 99  w9 r22 w20 hc21) vg_RX1_68 vd_X1_takeNumber ⟨by decide, by decide⟩ fg_p1_0 rfl rfl rfl hl.1 rfl (Nat.le_of_ble_eq_true rfl) dX1_tellPerson_62 ⟨Nat.zero_le _, Nat.zero_le _⟩) (fun H locs h => ?_)
        obtain ⟨hn24, hf⟩ := fg_gdE hf
        refine fg_iast hx hb hK h (fg_p2_7 hj) (fun _ => rfl) hn24 dX1_tellPerson_65 (fun w23 H locs ew h => ?_)
        have hf := fg_letE ew hf
        refine lv_aload_n hx hb dX1_tellPerson_66 rfl (lv_at hl 1 rfl) ?_
        refine va_ldcS hx hb S.2.2.2.1 (hK.2.2.2.1 12 (by decide)) dX1_tellPerson_67 ?_
        obtain ⟨r27, w25, hc26, hf⟩ := fg_biE hf
        refine fg_ci h (fg_runV (rest := []) S hK h (c_X1_took l D g 12 (by decide) w23 r27 w25 hc26) vg_RX1_54 vd_X1_took ⟨by decide, by decide⟩ fg_p1_0 rfl rfl rfl hl.1 rfl (Nat.le_of_ble_eq_true rfl) dX1_tellPerson_69 ⟨Nat.zero_le _, Nat.zero_le _⟩) (fun H locs h => ?_)
        refine lv_if_eq (tgt := 88) hx hb dX1_tellPerson_72 (by decide) (fun hc => ?_) (fun hc => ?_)
        · have hf := fg_ifT hf hc
          exact fg_retv hx hb hr hlk hK h hf dX1_tellPerson_88
        · have hf := fg_ifF hf hc
          refine lv_aload_n hx hb dX1_tellPerson_75 rfl (lv_at hl 2 rfl) ?_
          refine fg_get (C := RX2) (T := TX2) (N := 16) S vu_X2 hK h (fg_p2_0 hj) rfl rfl 9 (by decide) vf_RX1_94 rfl rfl dX1_tellPerson_76 ?_
          refine lv_iload_n hx hb dX1_tellPerson_79 rfl (lv_at hl 0 rfl) ?_
          refine lv_aload_n hx hb dX1_tellPerson_80 rfl (lv_at hl 1 rfl) ?_
          refine lv_sipush (v := 9999) hx hb dX1_tellPerson_81 rfl ?_
          obtain ⟨r30, w28, hc29, hf⟩ := fg_biE hf
          refine fg_ci h (fg_runV (rest := [.int r5, .ref (g.1 2 j 8)]) S hK h (c_X1_takeNumber l D g 9999  w25 r30 w28 hc29) vg_RX1_68 vd_X1_takeNumber ⟨by decide, by decide⟩ fg_p1_0 rfl rfl rfl hl.1 rfl (Nat.le_of_ble_eq_true rfl) dX1_tellPerson_84 ⟨Nat.zero_le _, Nat.zero_le _⟩) (fun H locs h => ?_)
          obtain ⟨hn32, hf⟩ := fg_gdE hf
          refine fg_iast hx hb hK h (fg_p2_8 hj) (fun _ => rfl) hn32 dX1_tellPerson_87 (fun w31 H locs ew h => ?_)
          have hf := fg_letE ew hf
          exact fg_retv hx hb hr hlk hK h hf dX1_tellPerson_88
    · have hf := fg_ifF hf hc
      refine lv_aload_n hx hb dX1_tellPerson_33 rfl (lv_at hl 2 rfl) ?_
      refine fg_get (C := RX2) (T := TX2) (N := 16) S vu_X2 hK h (fg_p2_0 hj) rfl rfl 7 (by decide) vf_RX1_84 rfl rfl dX1_tellPerson_34 ?_
      refine lv_iload_n hx hb dX1_tellPerson_37 rfl (lv_at hl 0 rfl) ?_
      refine lv_aload_n hx hb dX1_tellPerson_38 rfl (lv_at hl 1 rfl) ?_
      refine lv_bipush (v := 9) hx hb dX1_tellPerson_39 rfl ?_
      obtain ⟨r35, w33, hc34, hf⟩ := fg_biE hf
      refine fg_ci h (fg_runV (rest := [.int r5, .ref (g.1 2 j 6)]) S hK h (c_X1_takeNumber l D g 9  w6 r35 w33 hc34) vg_RX1_68 vd_X1_takeNumber ⟨by decide, by decide⟩ fg_p1_0 rfl rfl rfl hl.1 rfl (Nat.le_of_ble_eq_true rfl) dX1_tellPerson_41 ⟨Nat.zero_le _, Nat.zero_le _⟩) (fun H locs h => ?_)
      obtain ⟨hn37, hf⟩ := fg_gdE hf
      refine fg_iast hx hb hK h (fg_p2_6 hj) (fun _ => rfl) hn37 dX1_tellPerson_44 (fun w36 H locs ew h => ?_)
      have hf := fg_letE ew hf
      refine lv_aload_n hx hb dX1_tellPerson_45 rfl (lv_at hl 1 rfl) ?_
      refine va_ldcS hx hb S.2.2.2.1 (hK.2.2.2.1 11 (by decide)) dX1_tellPerson_46 ?_
      obtain ⟨r40, w38, hc39, hf⟩ := fg_biE hf
      refine fg_ci h (fg_runV (rest := []) S hK h (c_X1_took l D g 11 (by decide) w36 r40 w38 hc39) vg_RX1_54 vd_X1_took ⟨by decide, by decide⟩ fg_p1_0 rfl rfl rfl hl.1 rfl (Nat.le_of_ble_eq_true rfl) dX1_tellPerson_48 ⟨Nat.zero_le _, Nat.zero_le _⟩) (fun H locs h => ?_)
      refine lv_if_eq (tgt := 66) hx hb dX1_tellPerson_51 (by decide) (fun hc => ?_) (fun hc => ?_)
      · have hf := fg_ifT hf hc
        refine lv_aload_n hx hb dX1_tellPerson_66 rfl (lv_at hl 1 rfl) ?_
        refine va_ldcS hx hb S.2.2.2.1 (hK.2.2.2.1 12 (by decide)) dX1_tellPerson_67 ?_
        obtain ⟨r43, w41, hc42, hf⟩ := fg_biE hf
        refine fg_ci h (fg_runV (rest := []) S hK h (c_X1_took l D g 12 (by decide) w38 r43 w41 hc42) vg_RX1_54 vd_X1_took ⟨by decide, by decide⟩ fg_p1_0 rfl rfl rfl hl.1 rfl (Nat.le_of_ble_eq_true rfl) dX1_tellPerson_69 ⟨Nat.zero_le _, Nat.zero_le _⟩) (fun H locs h => ?_)
        refine lv_if_eq (tgt := 88) hx hb dX1_tellPerson_72 (by decide) (fun hc => ?_) (fun hc => ?_)
        · have hf := fg_ifT hf hc
          exact fg_retv hx hb hr hlk hK h hf dX1_tellPerson_88
        · have hf := fg_ifF hf hc
          refine lv_aload_n hx hb dX1_tellPerson_75 rfl (lv_at hl 2 rfl) ?_
          refine fg_get (C := RX2) (T := TX2) (N := 16) S vu_X2 hK h (fg_p2_0 hj) rfl rfl 9 (by decide) vf_RX1_94 rfl rfl dX1_tellPerson_76 ?_
          refine lv_iload_n hx hb dX1_tellPerson_79 rfl (lv_at hl 0 rfl) ?_
          refine lv_aload_n hx hb dX1_tellPerson_80 rfl (lv_at hl 1 rfl) ?_
          refine lv_sipush (v := 9999) hx hb dX1_tellPerson_81 rfl ?_
          obtain ⟨r46, w44, hc45, hf⟩ := fg_biE hf
          refine fg_ci h (fg_runV (rest := [.int r5, .ref (g.1 2 j 8)]) S hK h (c_X1_takeNumber l D g 9999  w41 r46 w44 hc45) vg_RX1_68 vd_X1_takeNumber ⟨by decide, by decide⟩ fg_p1_0 rfl rfl rfl hl.1 rfl (Nat.le_of_ble_eq_true rfl) dX1_tellPerson_84 ⟨Nat.zero_le _, Nat.zero_le _⟩) (fun H locs h => ?_)
          obtain ⟨hn48, hf⟩ := fg_gdE hf
          refine fg_iast hx hb hK h (fg_p2_8 hj) (fun _ => rfl) hn48 dX1_tellPerson_87 (fun w47 H locs ew h => ?_)
          have hf := fg_letE ew hf
          exact fg_retv hx hb hr hlk hK h hf dX1_tellPerson_88
      · have hf := fg_ifF hf hc
        refine lv_aload_n hx hb dX1_tellPerson_54 rfl (lv_at hl 2 rfl) ?_
        refine fg_get (C := RX2) (T := TX2) (N := 16) S vu_X2 hK h (fg_p2_0 hj) rfl rfl 8 (by decide) vf_RX1_89 rfl rfl dX1_tellPerson_55 ?_
        refine lv_iload_n hx hb dX1_tellPerson_58 rfl (lv_at hl 0 rfl) ?_
        refine lv_aload_n hx hb dX1_tellPerson_59 rfl (lv_at hl 1 rfl) ?_
        refine lv_bipush (v := 99) hx hb dX1_tellPerson_60 rfl ?_
        obtain ⟨r51, w49, hc50, hf⟩ := fg_biE hf
        refine fg_ci h (fg_runV (rest := [.int r5, .ref (g.1 2 j 7)]) S hK h (c_X1_takeNumber l D g 99  w38 r51 w49 hc50) vg_RX1_68 vd_X1_takeNumber ⟨by decide, by decide⟩ fg_p1_0 rfl rfl rfl hl.1 rfl (Nat.le_of_ble_eq_true rfl) dX1_tellPerson_62 ⟨Nat.zero_le _, Nat.zero_le _⟩) (fun H locs h => ?_)
        obtain ⟨hn53, hf⟩ := fg_gdE hf
        refine fg_iast hx hb hK h (fg_p2_7 hj) (fun _ => rfl) hn53 dX1_tellPerson_65 (fun w52 H locs ew h => ?_)
        have hf := fg_letE ew hf
        refine lv_aload_n hx hb dX1_tellPerson_66 rfl (lv_at hl 1 rfl) ?_
        refine va_ldcS hx hb S.2.2.2.1 (hK.2.2.2.1 12 (by decide)) dX1_tellPerson_67 ?_
        obtain ⟨r56, w54, hc55, hf⟩ := fg_biE hf
        refine fg_ci h (fg_runV (rest := []) S hK h (c_X1_took l D g 12 (by decide) w52 r56 w54 hc55) vg_RX1_54 vd_X1_took ⟨by decide, by decide⟩ fg_p1_0 rfl rfl rfl hl.1 rfl (Nat.le_of_ble_eq_true rfl) dX1_tellPerson_69 ⟨Nat.zero_le _, Nat.zero_le _⟩) (fun H locs h => ?_)
        refine lv_if_eq (tgt := 88) hx hb dX1_tellPerson_72 (by decide) (fun hc => ?_) (fun hc => ?_)
        · have hf := fg_ifT hf hc
          exact fg_retv hx hb hr hlk hK h hf dX1_tellPerson_88
        · have hf := fg_ifF hf hc
          refine lv_aload_n hx hb dX1_tellPerson_75 rfl (lv_at hl 2 rfl) ?_
          refine fg_get (C := RX2) (T := TX2) (N := 16) S vu_X2 hK h (fg_p2_0 hj) rfl rfl 9 (by decide) vf_RX1_94 rfl rfl dX1_tellPerson_76 ?_
          refine lv_iload_n hx hb dX1_tellPerson_79 rfl (lv_at hl 0 rfl) ?_
          refine lv_aload_n hx hb dX1_tellPerson_80 rfl (lv_at hl 1 rfl) ?_
          refine lv_sipush (v := 9999) hx hb dX1_tellPerson_81 rfl ?_
          obtain ⟨r59, w57, hc58, hf⟩ := fg_biE hf
          refine fg_ci h (fg_runV (rest := [.int r5, .ref (g.1 2 j 8)]) S hK h (c_X1_takeNumber l D g 9999  w54 r59 w57 hc58) vg_RX1_68 vd_X1_takeNumber ⟨by decide, by decide⟩ fg_p1_0 rfl rfl rfl hl.1 rfl (Nat.le_of_ble_eq_true rfl) dX1_tellPerson_84 ⟨Nat.zero_le _, Nat.zero_le _⟩) (fun H locs h => ?_)
          obtain ⟨hn61, hf⟩ := fg_gdE hf
          refine fg_iast hx hb hK h (fg_p2_8 hj) (fun _ => rfl) hn61 dX1_tellPerson_87 (fun w60 H locs ew h => ?_)
          have hf := fg_letE ew hf
          exact fg_retv hx hb hr hlk hK h hf dX1_tellPerson_88
  · have hf := fg_ifF hf hc
    refine lv_aload_n hx hb dX1_tellPerson_9 rfl (lv_at hl 0 rfl) ?_
    obtain ⟨w62, hc63, hf⟩ := fg_bvE hf
    refine fg_cv h (fg_runV (rest := []) S hK h (c_X1_faultHere l D g   w w62 hc63) vg_RX1_41 vd_X1_faultHere ⟨by decide, by decide⟩ fg_p1_0 rfl rfl rfl hl.1 rfl (Nat.le_of_ble_eq_true rfl) dX1_tellPerson_10 ⟨Nat.zero_le _, Nat.zero_le _⟩) (fun H locs h => ?_)
    exact fg_retv hx hb hr hlk hK h hf dX1_tellPerson_13
set_option maxHeartbeats 4000000 in
set_option maxRecDepth 100000 in
theorem c_X1_tellLot (l : Launch) (D : va_G) (g : fg_G) (j : Nat) (hj : j < 3) (w : fg_W) (w' : fg_W) (hf : f_X1_tellLot j w = some w') : fg_M l yX1_tellLot cX1_tellLot 3 none 7 164 D g [.ref (g.1 1 0 0), .ref (g.1 2 j 0)] w (fg_Qv D g w') := by
  refine fg_M.of rfl (Nat.le_of_ble_eq_true rfl) (fun p e s m below meth c ls S hr hlk hK h hl => ?_)
  have hx := S.1
  have hb := S.2.1
  have hl : lv_has ls 3 [(0, .ref (g.1 1 0 0)), (1, .ref (g.1 2 j 0))] := hl
  unfold f_X1_tellLot at hf
  refine lv_aload_n hx hb dX1_tellLot_0 rfl (lv_at hl 0 rfl) ?_
  refine lv_bipush (v := 9) hx hb dX1_tellLot_1 rfl ?_
  obtain ⟨r3, w1, hc2, hf⟩ := fg_biE hf
  refine fg_ci h (fg_runV (rest := []) S hK h (c_X1_takeNumber l D g 9  w r3 w1 hc2) vg_RX1_68 vd_X1_takeNumber ⟨by decide, by decide⟩ fg_p1_0 rfl rfl rfl hl.1 rfl (Nat.le_of_ble_eq_true rfl) dX1_tellLot_3 ⟨Nat.zero_le _, Nat.zero_le _⟩) (fun H locs h => ?_)
  refine lv_istore_n (lv' := [(2, .int r3), (0, .ref (g.1 1 0 0)), (1, .ref (g.1 2 j 0))]) hx hb dX1_tellLot_6 rfl hl (by decide) rfl (fun ls hl => ?_)
  refine lv_iload_n hx hb dX1_tellLot_7 rfl (lv_at hl 0 rfl) ?_
  obtain ⟨r6, w4, hc5, hf⟩ := fg_biE hf
  refine fg_ci h (fg_runSN (rest := []) S hK h (c_X3_isLot l D g r3  w1 r6 w4 hc5) vk_X3_isLot hK.2.2.1 vs_X3_isLot vi_RX3 vd_X3_isLot.2 ⟨by decide, by decide⟩ rfl hl.1 rfl (Nat.le_of_ble_eq_true rfl) dX1_tellLot_8 ⟨Nat.zero_le _, Nat.zero_le _⟩) (fun H locs h => ?_)
  refine lv_if_ne (tgt := 15) hx hb dX1_tellLot_11 (by decide) (fun hc => ?_) (fun hc => ?_)
  · have hf := fg_ifF hf hc
    refine lv_aload_n hx hb dX1_tellLot_15 rfl (lv_at hl 1 rfl) ?_
    refine va_ldcS hx hb S.2.2.2.1 (hK.2.2.2.1 13 (by decide)) dX1_tellLot_16 ?_
    obtain ⟨r9, w7, hc8, hf⟩ := fg_biE hf
    refine fg_ci h (fg_runV (rest := []) S hK h (c_X1_took l D g 13 (by decide) w4 r9 w7 hc8) vg_RX1_54 vd_X1_took ⟨by decide, by decide⟩ fg_p1_0 rfl rfl rfl hl.1 rfl (Nat.le_of_ble_eq_true rfl) dX1_tellLot_18 ⟨Nat.zero_le _, Nat.zero_le _⟩) (fun H locs h => ?_)
    refine lv_if_eq (tgt := 36) hx hb dX1_tellLot_21 (by decide) (fun hc => ?_) (fun hc => ?_)
    · have hf := fg_ifT hf hc
      refine lv_aload_n hx hb dX1_tellLot_36 rfl (lv_at hl 1 rfl) ?_
      refine va_ldcS hx hb S.2.2.2.1 (hK.2.2.2.1 14 (by decide)) dX1_tellLot_37 ?_
      obtain ⟨r12, w10, hc11, hf⟩ := fg_biE hf
      refine fg_ci h (fg_runV (rest := []) S hK h (c_X1_took l D g 14 (by decide) w7 r12 w10 hc11) vg_RX1_54 vd_X1_took ⟨by decide, by decide⟩ fg_p1_0 rfl rfl rfl hl.1 rfl (Nat.le_of_ble_eq_true rfl) dX1_tellLot_39 ⟨Nat.zero_le _, Nat.zero_le _⟩) (fun H locs h => ?_)
      refine lv_if_eq (tgt := 57) hx hb dX1_tellLot_42 (by decide) (fun hc => ?_) (fun hc => ?_)
      · have hf := fg_ifT hf hc
        refine lv_aload_n hx hb dX1_tellLot_57 rfl (lv_at hl 1 rfl) ?_
        refine va_ldcS hx hb S.2.2.2.1 (hK.2.2.2.1 15 (by decide)) dX1_tellLot_58 ?_
        obtain ⟨r15, w13, hc14, hf⟩ := fg_biE hf
        refine fg_ci h (fg_runV (rest := []) S hK h (c_X1_took l D g 15 (by decide) w10 r15 w13 hc14) vg_RX1_54 vd_X1_took ⟨by decide, by decide⟩ fg_p1_0 rfl rfl rfl hl.1 rfl (Nat.le_of_ble_eq_true rfl) dX1_tellLot_60 ⟨Nat.zero_le _, Nat.zero_le _⟩) (fun H locs h => ?_)
        refine lv_if_eq (tgt := 82) hx hb dX1_tellLot_63 (by decide) (fun hc => ?_) (fun hc => ?_)
        · have hf := fg_ifT hf hc
          exact fg_retv hx hb hr hlk hK h hf dX1_tellLot_82
        · have hf := fg_ifF hf hc
          refine lv_aload_n hx hb dX1_tellLot_66 rfl (lv_at hl 2 rfl) ?_
          refine fg_get (C := RX2) (T := TX2) (N := 16) S vu_X2 hK h (fg_p2_0 hj) rfl rfl 2 (by decide) vf_RX1_110 rfl rfl dX1_tellLot_67 ?_
          refine lv_iload_n hx hb dX1_tellLot_70 rfl (lv_at hl 0 rfl) ?_
          refine lv_aload_n hx hb dX1_tellLot_71 rfl (lv_at hl 1 rfl) ?_
          refine lv_aload_n hx hb dX1_tellLot_72 rfl (lv_at hl 2 rfl) ?_
          refine fg_get (C := RX2) (T := TX2) (N := 16) S vu_X2 hK h (fg_p2_0 hj) rfl rfl 5 (by decide) vf_RX1_76 rfl rfl dX1_tellLot_73 ?_
          refine lv_iconst (v := 1) hx hb dX1_tellLot_76 rfl ?_
          refine lv_isub hx hb dX1_tellLot_77 ?_
          obtain ⟨r18, w16, hc17, hf⟩ := fg_biE hf
          refine fg_ci h (fg_runV (rest := [.int r3, .ref (g.1 2 j 3)]) S hK h (c_X1_takeNumber l D g ((w13.1 2 j 0 5) - 1)  w13 r18 w16 hc17) vg_RX1_68 vd_X1_takeNumber ⟨by decide, by decide⟩ fg_p1_0 rfl rfl rfl hl.1 rfl (Nat.le_of_ble_eq_true rfl) dX1_tellLot_78 ⟨Nat.zero_le _, Nat.zero_le _⟩) (fun H locs h => ?_)
          obtain ⟨hn20, hf⟩ := fg_gdE hf
          refine fg_iast hx hb hK h (fg_p2_3 hj) (fun _ => rfl) hn20 dX1_tellLot_81 (fun w19 H locs ew h => ?_)
          have hf := fg_letE ew hf
          exact fg_retv hx hb hr hlk hK h hf dX1_tellLot_82
      · have hf := fg_ifF hf hc
        refine lv_aload_n hx hb dX1_tellLot_45 rfl (lv_at hl 2 rfl) ?_
        refine fg_get (C := RX2) (T := TX2) (N := 16) S vu_X2 hK h (fg_p2_0 hj) rfl rfl 1 (by decide) vf_RX1_106 rfl rfl dX1_tellLot_46 ?_
        refine lv_iload_n hx hb dX1_tellLot_49 rfl (lv_at hl 0 rfl) ?_
        refine lv_aload_n hx hb dX1_tellLot_50 rfl (lv_at hl 1 rfl) ?_
        refine lv_bipush (v := 20) hx hb dX1_tellLot_51 rfl ?_
        obtain ⟨r23, w21, hc22, hf⟩ := fg_biE hf
        refine fg_ci h (fg_runV (rest := [.int r3, .ref (g.1 2 j 2)]) S hK h (c_X1_takeNumber l D g 20  w10 r23 w21 hc22) vg_RX1_68 vd_X1_takeNumber ⟨by decide, by decide⟩ fg_p1_0 rfl rfl rfl hl.1 rfl (Nat.le_of_ble_eq_true rfl) dX1_tellLot_53 ⟨Nat.zero_le _, Nat.zero_le _⟩) (fun H locs h => ?_)
        obtain ⟨hn25, hf⟩ := fg_gdE hf
        refine fg_iast hx hb hK h (fg_p2_2 hj) (fun _ => rfl) hn25 dX1_tellLot_56 (fun w24 H locs ew h => ?_)
        have hf := fg_letE ew hf
        refine lv_aload_n hx hb dX1_tellLot_57 rfl (lv_at hl 1 rfl) ?_
        refine va_ldcS hx hb S.2.2.2.1 (hK.2.2.2.1 15 (by decide)) dX1_tellLot_58 ?_
        obtain ⟨r28, w26, hc27, hf⟩ := fg_biE hf
        refine fg_ci h (fg_runV (rest := []) S hK h (c_X1_took l D g 15 (by decide) w24 r28 w26 hc27) vg_RX1_54 vd_X1_took ⟨by decide, by decide⟩ fg_p1_0 rfl rfl rfl hl.1 rfl (Nat.le_of_ble_eq_true rfl) dX1_tellLot_60 ⟨Nat.zero_le _, Nat.zero_le _⟩) (fun H locs h => ?_)
        refine lv_if_eq (tgt := 82) hx hb dX1_tellLot_63 (by decide) (fun hc => ?_) (fun hc => ?_)
        · have hf := fg_ifT hf hc
          exact fg_retv hx hb hr hlk hK h hf dX1_tellLot_82
        · have hf := fg_ifF hf hc
          refine lv_aload_n hx hb dX1_tellLot_66 rfl (lv_at hl 2 rfl) ?_
          refine fg_get (C := RX2) (T := TX2) (N := 16) S vu_X2 hK h (fg_p2_0 hj) rfl rfl 2 (by decide) vf_RX1_110 rfl rfl dX1_tellLot_67 ?_
          refine lv_iload_n hx hb dX1_tellLot_70 rfl (lv_at hl 0 rfl) ?_
          refine lv_aload_n hx hb dX1_tellLot_71 rfl (lv_at hl 1 rfl) ?_
          refine lv_aload_n hx hb dX1_tellLot_72 rfl (lv_at hl 2 rfl) ?_
          refine fg_get (C := RX2) (T := TX2) (N := 16) S vu_X2 hK h (fg_p2_0 hj) rfl rfl 5 (by decide) vf_RX1_76 rfl rfl dX1_tellLot_73 ?_
          refine lv_iconst (v := 1) hx hb dX1_tellLot_76 rfl ?_
          refine lv_isub hx hb dX1_tellLot_77 ?_
          obtain ⟨r31, w29, hc30, hf⟩ := fg_biE hf
          refine fg_ci h (fg_runV (rest := [.int r3, .ref (g.1 2 j 3)]) S hK h (c_X1_takeNumber l D g ((w26.1 2 j 0 5) - 1)  w26 r31 w29 hc30) vg_RX1_68 vd_X1_takeNumber ⟨by decide, by decide⟩ fg_p1_0 rfl rfl rfl hl.1 rfl (Nat.le_of_ble_eq_true rfl) dX1_tellLot_78 ⟨Nat.zero_le _, Nat.zero_le _⟩) (fun H locs h => ?_)
          obtain ⟨hn33, hf⟩ := fg_gdE hf
          refine fg_iast hx hb hK h (fg_p2_3 hj) (fun _ => rfl) hn33 dX1_tellLot_81 (fun w32 H locs ew h => ?_)
          have hf := fg_letE ew hf
          exact fg_retv hx hb hr hlk hK h hf dX1_tellLot_82
    · have hf := fg_ifF hf hc
      refine lv_aload_n hx hb dX1_tellLot_24 rfl (lv_at hl 2 rfl) ?_
      refine fg_get (C := RX2) (T := TX2) (N := 16) S vu_X2 hK h (fg_p2_0 hj) rfl rfl 0 (by decide) vf_RX1_102 rfl rfl dX1_tellLot_25 ?_
      refine lv_iload_n hx hb dX1_tellLot_28 rfl (lv_at hl 0 rfl) ?_
      refine lv_aload_n hx hb dX1_tellLot_29 rfl (lv_at hl 1 rfl) ?_
      refine lv_bipush (v := 99) hx hb dX1_tellLot_30 rfl ?_
      obtain ⟨r36, w34, hc35, hf⟩ := fg_biE hf
      refine fg_ci h (fg_runV (rest := [.int r3, .ref (g.1 2 j 1)]) S hK h (c_X1_takeNumber l D g 99  w7 r36 w34 hc35) vg_RX1_68 vd_X1_takeNumber ⟨by decide, by decide⟩ fg_p1_0 rfl rfl rfl hl.1 rfl (Nat.le_of_ble_eq_true rfl) dX1_tellLot_32 ⟨Nat.zero_le _, Nat.zero_le _⟩) (fun H locs h => ?_)
      obtain ⟨hn38, hf⟩ := fg_gdE hf
      refine fg_iast hx hb hK h (fg_p2_1 hj) (fun _ => rfl) hn38 dX1_tellLot_35 (fun w37 H locs ew h => ?_)
      have hf := fg_letE ew hf
      refine lv_aload_n hx hb dX1_tellLot_36 rfl (lv_at hl 1 rfl) ?_
      refine va_ldcS hx hb S.2.2.2.1 (hK.2.2.2.1 14 (by decide)) dX1_tellLot_37 ?_
      obtain ⟨r41, w39, hc40, hf⟩ := fg_biE hf
      refine fg_ci h (fg_runV (rest := []) S hK h (c_X1_took l D g 14 (by decide) w37 r41 w39 hc40) vg_RX1_54 vd_X1_took ⟨by decide, by decide⟩ fg_p1_0 rfl rfl rfl hl.1 rfl (Nat.le_of_ble_eq_true rfl) dX1_tellLot_39 ⟨Nat.zero_le _, Nat.zero_le _⟩) (fun H locs h => ?_)
      refine lv_if_eq (tgt := 57) hx hb dX1_tellLot_42 (by decide) (fun hc => ?_) (fun hc => ?_)
      · have hf := fg_ifT hf hc
        refine lv_aload_n hx hb dX1_tellLot_57 rfl (lv_at hl 1 rfl) ?_
        refine va_ldcS hx hb S.2.2.2.1 (hK.2.2.2.1 15 (by decide)) dX1_tellLot_58 ?_
        obtain ⟨r44, w42, hc43, hf⟩ := fg_biE hf
        refine fg_ci h (fg_runV (rest := []) S hK h (c_X1_took l D g 15 (by decide) w39 r44 w42 hc43) vg_RX1_54 vd_X1_took ⟨by decide, by decide⟩ fg_p1_0 rfl rfl rfl hl.1 rfl (Nat.le_of_ble_eq_true rfl) dX1_tellLot_60 ⟨Nat.zero_le _, Nat.zero_le _⟩) (fun H locs h => ?_)
        refine lv_if_eq (tgt := 82) hx hb dX1_tellLot_63 (by decide) (fun hc => ?_) (fun hc => ?_)
        · have hf := fg_ifT hf hc
          exact fg_retv hx hb hr hlk hK h hf dX1_tellLot_82
        · have hf := fg_ifF hf hc
          refine lv_aload_n hx hb dX1_tellLot_66 rfl (lv_at hl 2 rfl) ?_
          refine fg_get (C := RX2) (T := TX2) (N := 16) S vu_X2 hK h (fg_p2_0 hj) rfl rfl 2 (by decide) vf_RX1_110 rfl rfl dX1_tellLot_67 ?_
          refine lv_iload_n hx hb dX1_tellLot_70 rfl (lv_at hl 0 rfl) ?_
          refine lv_aload_n hx hb dX1_tellLot_71 rfl (lv_at hl 1 rfl) ?_
          refine lv_aload_n hx hb dX1_tellLot_72 rfl (lv_at hl 2 rfl) ?_
          refine fg_get (C := RX2) (T := TX2) (N := 16) S vu_X2 hK h (fg_p2_0 hj) rfl rfl 5 (by decide) vf_RX1_76 rfl rfl dX1_tellLot_73 ?_
          refine lv_iconst (v := 1) hx hb dX1_tellLot_76 rfl ?_
          refine lv_isub hx hb dX1_tellLot_77 ?_
          obtain ⟨r47, w45, hc46, hf⟩ := fg_biE hf
          refine fg_ci h (fg_runV (rest := [.int r3, .ref (g.1 2 j 3)]) S hK h (c_X1_takeNumber l D g ((w42.1 2 j 0 5) - 1)  w42 r47 w45 hc46) vg_RX1_68 vd_X1_takeNumber ⟨by decide, by decide⟩ fg_p1_0 rfl rfl rfl hl.1 rfl (Nat.le_of_ble_eq_true rfl) dX1_tellLot_78 ⟨Nat.zero_le _, Nat.zero_le _⟩) (fun H locs h => ?_)
          obtain ⟨hn49, hf⟩ := fg_gdE hf
          refine fg_iast hx hb hK h (fg_p2_3 hj) (fun _ => rfl) hn49 dX1_tellLot_81 (fun w48 H locs ew h => ?_)
          have hf := fg_letE ew hf
          exact fg_retv hx hb hr hlk hK h hf dX1_tellLot_82
      · have hf := fg_ifF hf hc
        refine lv_aload_n hx hb dX1_tellLot_45 rfl (lv_at hl 2 rfl) ?_
        refine fg_get (C := RX2) (T := TX2) (N := 16) S vu_X2 hK h (fg_p2_0 hj) rfl rfl 1 (by decide) vf_RX1_106 rfl rfl dX1_tellLot_46 ?_
        refine lv_iload_n hx hb dX1_tellLot_49 rfl (lv_at hl 0 rfl) ?_
        refine lv_aload_n hx hb dX1_tellLot_50 rfl (lv_at hl 1 rfl) ?_
        refine lv_bipush (v := 20) hx hb dX1_tellLot_51 rfl ?_
        obtain ⟨r52, w50, hc51, hf⟩ := fg_biE hf
        refine fg_ci h (fg_runV (rest := [.int r3, .ref (g.1 2 j 2)]) S hK h (c_X1_takeNumber l D g 20  w39 r52 w50 hc51) vg_RX1_68 vd_X1_takeNumber ⟨by decide, by decide⟩ fg_p1_0 rfl rfl rfl hl.1 rfl (Nat.le_of_ble_eq_true rfl) dX1_tellLot_53 ⟨Nat.zero_le _, Nat.zero_le _⟩) (fun H locs h => ?_)
        obtain ⟨hn54, hf⟩ := fg_gdE hf
        refine fg_iast hx hb hK h (fg_p2_2 hj) (fun _ => rfl) hn54 dX1_tellLot_56 (fun w53 H locs ew h => ?_)
        have hf := fg_letE ew hf
        refine lv_aload_n hx hb dX1_tellLot_57 rfl (lv_at hl 1 rfl) ?_
        refine va_ldcS hx hb S.2.2.2.1 (hK.2.2.2.1 15 (by decide)) dX1_tellLot_58 ?_
        obtain ⟨r57, w55, hc56, hf⟩ := fg_biE hf
        refine fg_ci h (fg_runV (rest := []) S hK h (c_X1_took l D g 15 (by decide) w53 r57 w55 hc56) vg_RX1_54 vd_X1_took ⟨by decide, by decide⟩ fg_p1_0 rfl rfl rfl hl.1 rfl (Nat.le_of_ble_eq_true rfl) dX1_tellLot_60 ⟨Nat.zero_le _, Nat.zero_le _⟩) (fun H locs h => ?_)
        refine lv_if_eq (tgt := 82) hx hb dX1_tellLot_63 (by decide) (fun hc => ?_) (fun hc => ?_)
        · have hf := fg_ifT hf hc
          exact fg_retv hx hb hr hlk hK h hf dX1_tellLot_82
        · have hf := fg_ifF hf hc
          refine lv_aload_n hx hb dX1_tellLot_66 rfl (lv_at hl 2 rfl) ?_
          refine fg_get (C := RX2) (T := TX2) (N := 16) S vu_X2 hK h (fg_p2_0 hj) rfl rfl 2 (by decide) vf_RX1_110 rfl rfl dX1_tellLot_67 ?_
          refine lv_iload_n hx hb dX1_tellLot_70 rfl (lv_at hl 0 rfl) ?_
          refine lv_aload_n hx hb dX1_tellLot_71 rfl (lv_at hl 1 rfl) ?_
          refine lv_aload_n hx hb dX1_tellLot_72 rfl (lv_at hl 2 rfl) ?_
          refine fg_get (C := RX2) (T := TX2) (N := 16) S vu_X2 hK h (fg_p2_0 hj) rfl rfl 5 (by decide) vf_RX1_76 rfl rfl dX1_tellLot_73 ?_
          refine lv_iconst (v := 1) hx hb dX1_tellLot_76 rfl ?_
          refine lv_isub hx hb dX1_tellLot_77 ?_
          obtain ⟨r60, w58, hc59, hf⟩ := fg_biE hf
          refine fg_ci h (fg_runV (rest := [.int r3, .ref (g.1 2 j 3)]) S hK h (c_X1_takeNumber l D g ((w55.1 2 j 0 5) - 1)  w55 r60 w58 hc59) vg_RX1_68 vd_X1_takeNumber ⟨by decide, by decide⟩ fg_p1_0 rfl rfl rfl hl.1 rfl (Nat.le_of_ble_eq_true rfl) dX1_tellLot_78 ⟨Nat.zero_le _, Nat.zero_le _⟩) (fun H locs h => ?_)
          obtain ⟨hn62, hf⟩ := fg_gdE hf
          refine fg_iast hx hb hK h (fg_p2_3 hj) (fun _ => rfl) hn62 dX1_tellLot_81 (fun w61 H locs ew h => ?_)
          have hf := fg_letE ew hf
          exact fg_retv hx hb hr hlk hK h hf dX1_tellLot_82
  · have hf := fg_ifT hf hc
    exact fg_retv hx hb hr hlk hK h hf dX1_tellLot_14
set_option maxHeartbeats 4000000 in
set_option maxRecDepth 100000 in
theorem c_X1_tellSun (l : Launch) (D : va_G) (g : fg_G) (j : Nat) (hj : j < 3) (w : fg_W) (w' : fg_W) (hf : f_X1_tellSun j w = some w') : fg_M l yX1_tellSun cX1_tellSun 4 none 4 86 D g [.ref (g.1 1 0 0), .ref (g.1 2 j 0)] w (fg_Qv D g w') := by
  refine fg_M.of rfl (Nat.le_of_ble_eq_true rfl) (fun p e s m below meth c ls S hr hlk hK h hl => ?_)
  have hx := S.1
  have hb := S.2.1
  have hl : lv_has ls 4 [(0, .ref (g.1 1 0 0)), (1, .ref (g.1 2 j 0))] := hl
  unfold f_X1_tellSun at hf
  refine lv_aload_n hx hb dX1_tellSun_0 rfl (lv_at hl 0 rfl) ?_
  refine lv_iconst (v := 5) hx hb dX1_tellSun_1 rfl ?_
  obtain ⟨r3, w1, hc2, hf⟩ := fg_biE hf
  refine fg_ci h (fg_runV (rest := []) S hK h (c_X1_takeNumber l D g 5  w r3 w1 hc2) vg_RX1_68 vd_X1_takeNumber ⟨by decide, by decide⟩ fg_p1_0 rfl rfl rfl hl.1 rfl (Nat.le_of_ble_eq_true rfl) dX1_tellSun_2 ⟨Nat.zero_le _, Nat.zero_le _⟩) (fun H locs h => ?_)
  refine lv_istore_n (lv' := [(2, .int r3), (0, .ref (g.1 1 0 0)), (1, .ref (g.1 2 j 0))]) hx hb dX1_tellSun_5 rfl hl (by decide) rfl (fun ls hl => ?_)
  refine lv_aload_n hx hb dX1_tellSun_6 rfl (lv_at hl 1 rfl) ?_
  refine lv_bipush (v := 40) hx hb dX1_tellSun_7 rfl ?_
  obtain ⟨r6, w4, hc5, hf⟩ := fg_biE hf
  refine fg_ci h (fg_runV (rest := []) S hK h (c_X1_takeNumber l D g 40  w1 r6 w4 hc5) vg_RX1_68 vd_X1_takeNumber ⟨by decide, by decide⟩ fg_p1_0 rfl rfl rfl hl.1 rfl (Nat.le_of_ble_eq_true rfl) dX1_tellSun_9 ⟨Nat.zero_le _, Nat.zero_le _⟩) (fun H locs h => ?_)
  refine lv_istore_n (lv' := [(3, .int r6), (2, .int r3), (0, .ref (g.1 1 0 0)), (1, .ref (g.1 2 j 0))]) hx hb dX1_tellSun_12 rfl hl (by decide) rfl (fun ls hl => ?_)
  refine lv_aload_n hx hb dX1_tellSun_13 rfl (lv_at hl 2 rfl) ?_
  refine fg_get (C := RX1) (T := TX1) (N := 7) S vu_X1 hK h fg_p1_0 rfl rfl 2 (by decide) vf_RX1_19 rfl rfl dX1_tellSun_14 ?_
  refine lv_if_ge (tgt := 27) hx hb dX1_tellSun_17 (by decide) (fun hc => ?_) (fun hc => ?_)
  · have hf := fg_ifT hf hc
    exact fg_retv hx hb hr hlk hK h hf dX1_tellSun_27
  · have hf := fg_ifF hf hc
    refine lv_aload_n hx hb dX1_tellSun_20 rfl (lv_at hl 3 rfl) ?_
    refine fg_get (C := RX2) (T := TX2) (N := 16) S vu_X2 hK h (fg_p2_0 hj) rfl rfl 3 (by decide) vf_RX1_112 rfl rfl dX1_tellSun_21 ?_
    refine lv_iload_n hx hb dX1_tellSun_24 rfl (lv_at hl 1 rfl) ?_
    refine lv_iload_n hx hb dX1_tellSun_25 rfl (lv_at hl 0 rfl) ?_
    obtain ⟨hn8, hf⟩ := fg_gdE hf
    refine fg_iast hx hb hK h (fg_p2_4 hj) (fun _ => rfl) hn8 dX1_tellSun_26 (fun w7 H locs ew h => ?_)
    have hf := fg_letE ew hf
    exact fg_retv hx hb hr hlk hK h hf dX1_tellSun_27
set_option maxHeartbeats 4000000 in
set_option maxRecDepth 100000 in
theorem c_X1_tellItem (l : Launch) (D : va_G) (g : fg_G) (j : Nat) (hj : j < 3) (w : fg_W) (w' : fg_W) (hf : f_X1_tellItem j w = some w') : fg_M l yX1_tellItem cX1_tellItem 3 none 8 187 D g [.ref (g.1 1 0 0), .ref (g.1 2 j 0)] w (fg_Qv D g w') := by
  refine fg_M.of rfl (Nat.le_of_ble_eq_true rfl) (fun p e s m below meth c ls S hr hlk hK h hl => ?_)
  have hx := S.1
  have hb := S.2.1
  have hl : lv_has ls 3 [(0, .ref (g.1 1 0 0)), (1, .ref (g.1 2 j 0))] := hl
  unfold f_X1_tellItem at hf
  refine lv_aload_n hx hb dX1_tellItem_0 rfl (lv_at hl 0 rfl) ?_
  obtain ⟨r3, w1, hc2, hf⟩ := fg_biE hf
  refine fg_ci h (fg_runV (rest := []) S hK h (c_X1_kindOfWord l D g   w r3 w1 hc2) vg_RX1_44 vd_X1_kindOfWord ⟨by decide, by decide⟩ fg_p1_0 rfl rfl rfl hl.1 rfl (Nat.le_of_ble_eq_true rfl) dX1_tellItem_1 ⟨Nat.zero_le _, Nat.zero_le _⟩) (fun H locs h => ?_)
  refine lv_istore_n (lv' := [(2, .int r3), (0, .ref (g.1 1 0 0)), (1, .ref (g.1 2 j 0))]) hx hb dX1_tellItem_4 rfl hl (by decide) rfl (fun ls hl => ?_)
  refine lv_iload_n hx hb dX1_tellItem_5 rfl (lv_at hl 0 rfl) ?_
  refine lv_if_lt (tgt := 18) hx hb dX1_tellItem_6 (by decide) (fun hc => ?_) (fun hc => ?_)
  · have hf := fg_ifT hf hc
    refine lv_aload_n hx hb dX1_tellItem_18 rfl (lv_at hl 1 rfl) ?_
    refine va_ldcS hx hb S.2.2.2.1 (hK.2.2.2.1 7 (by decide)) dX1_tellItem_19 ?_
    obtain ⟨r6, w4, hc5, hf⟩ := fg_biE hf
    refine fg_ci h (fg_runV (rest := []) S hK h (c_X1_took l D g 7 (by decide) w1 r6 w4 hc5) vg_RX1_54 vd_X1_took ⟨by decide, by decide⟩ fg_p1_0 rfl rfl rfl hl.1 rfl (Nat.le_of_ble_eq_true rfl) dX1_tellItem_21 ⟨Nat.zero_le _, Nat.zero_le _⟩) (fun H locs h => ?_)
    refine lv_if_eq (tgt := 35) hx hb dX1_tellItem_24 (by decide) (fun hc => ?_) (fun hc => ?_)
    · have hf := fg_ifT hf hc
      refine lv_aload_n hx hb dX1_tellItem_35 rfl (lv_at hl 1 rfl) ?_
      refine va_ldcS hx hb S.2.2.2.1 (hK.2.2.2.1 8 (by decide)) dX1_tellItem_36 ?_
      obtain ⟨r9, w7, hc8, hf⟩ := fg_biE hf
      refine fg_ci h (fg_runV (rest := []) S hK h (c_X1_took l D g 8 (by decide) w4 r9 w7 hc8) vg_RX1_54 vd_X1_took ⟨by decide, by decide⟩ fg_p1_0 rfl rfl rfl hl.1 rfl (Nat.le_of_ble_eq_true rfl) dX1_tellItem_38 ⟨Nat.zero_le _, Nat.zero_le _⟩) (fun H locs h => ?_)
      refine lv_if_eq (tgt := 52) hx hb dX1_tellItem_41 (by decide) (fun hc => ?_) (fun hc => ?_)
      · have hf := fg_ifT hf hc
        refine lv_aload_n hx hb dX1_tellItem_52 rfl (lv_at hl 1 rfl) ?_
        refine va_ldcS hx hb S.2.2.2.1 (hK.2.2.2.1 9 (by decide)) dX1_tellItem_53 ?_
        obtain ⟨r12, w10, hc11, hf⟩ := fg_biE hf
        refine fg_ci h (fg_runV (rest := []) S hK h (c_X1_took l D g 9 (by decide) w7 r12 w10 hc11) vg_RX1_54 vd_X1_took ⟨by decide, by decide⟩ fg_p1_0 rfl rfl rfl hl.1 rfl (Nat.le_of_ble_eq_true rfl) dX1_tellItem_55 ⟨Nat.zero_le _, Nat.zero_le _⟩) (fun H locs h => ?_)
        refine lv_if_eq (tgt := 74) hx hb dX1_tellItem_58 (by decide) (fun hc => ?_) (fun hc => ?_)
        · have hf := fg_ifT hf hc
          refine lv_aload_n hx hb dX1_tellItem_74 rfl (lv_at hl 1 rfl) ?_
          obtain ⟨w13, hc14, hf⟩ := fg_bvE hf
          refine fg_cv h (fg_runV (rest := []) S hK h (c_X1_faultHere l D g   w10 w13 hc14) vg_RX1_41 vd_X1_faultHere ⟨by decide, by decide⟩ fg_p1_0 rfl rfl rfl hl.1 rfl (Nat.le_of_ble_eq_true rfl) dX1_tellItem_75 ⟨Nat.zero_le _, Nat.zero_le _⟩) (fun H locs h => ?_)
          exact fg_retv hx hb hr hlk hK h hf dX1_tellItem_78
        · have hf := fg_ifF hf hc
          refine lv_aload_n hx hb dX1_tellItem_61 rfl (lv_at hl 2 rfl) ?_
          refine lv_aload_n hx hb dX1_tellItem_62 rfl (lv_at hl 1 rfl) ?_
          refine lv_bipush (v := 40) hx hb dX1_tellItem_63 rfl ?_
          obtain ⟨r17, w15, hc16, hf⟩ := fg_biE hf
          refine fg_ci h (fg_runV (rest := [.ref (g.1 2 j 0)]) S hK h (c_X1_takeNumber l D g 40  w10 r17 w15 hc16) vg_RX1_68 vd_X1_takeNumber ⟨by decide, by decide⟩ fg_p1_0 rfl rfl rfl hl.1 rfl (Nat.le_of_ble_eq_true rfl) dX1_tellItem_65 ⟨Nat.zero_le _, Nat.zero_le _⟩) (fun H locs h => ?_)
          refine fg_putI (C := RX2) (T := TX2) (N := 16) (fs := (fg_f2 g j)) S vu_X2 tyX2 tyX2_ok nmX2 hK h (fg_p2_0 hj) (fun _ _ => rfl) rfl 4 (by decide) vf_RX1_72 rfl rfl (tyX2_ok 4 (by decide)) rfl rfl (fun _ => Nat.le_of_ble_eq_true rfl) (fun _ => rfl) dX1_tellItem_68 (fun w18 H locs ew h => ?_)
          have hf := fg_letE ew hf
          refine lv_goto (tgt := 78) hx hb dX1_tellItem_71 (by decide) ?_
          exact fg_retv hx hb hr hlk hK h hf dX1_tellItem_78
      · have hf := fg_ifF hf hc
        refine lv_aload_n hx hb dX1_tellItem_44 rfl (lv_at hl 1 rfl) ?_
        refine lv_aload_n hx hb dX1_tellItem_45 rfl (lv_at hl 2 rfl) ?_
        obtain ⟨w19, hc20, hf⟩ := fg_bvE hf
        refine fg_cv h (fg_runV (rest := []) S hK h (c_X1_tellSun l D g j hj w7 w19 hc20) vg_RX1_63 vd_X1_tellSun ⟨by decide, by decide⟩ fg_p1_0 rfl rfl rfl hl.1 rfl (Nat.le_of_ble_eq_true rfl) dX1_tellItem_46 ⟨Nat.zero_le _, Nat.zero_le _⟩) (fun H locs h => ?_)
        refine lv_goto (tgt := 78) hx hb dX1_tellItem_49 (by decide) ?_
        exact fg_retv hx hb hr hlk hK h hf dX1_tellItem_78
    · have hf := fg_ifF hf hc
      refine lv_aload_n hx hb dX1_tellItem_27 rfl (lv_at hl 1 rfl) ?_
      refine lv_aload_n hx hb dX1_tellItem_28 rfl (lv_at hl 2 rfl) ?_
      obtain ⟨w21, hc22, hf⟩ := fg_bvE hf
      refine fg_cv h (fg_runV (rest := []) S hK h (c_X1_tellLot l D g j hj w4 w21 hc22) vg_RX1_58 vd_X1_tellLot ⟨by decide, by decide⟩ fg_p1_0 rfl rfl rfl hl.1 rfl (Nat.le_of_ble_eq_true rfl) dX1_tellItem_29 ⟨Nat.zero_le _, Nat.zero_le _⟩) (fun H locs h => ?_)
      refine lv_goto (tgt := 78) hx hb dX1_tellItem_32 (by decide) ?_
      exact fg_retv hx hb hr hlk hK h hf dX1_tellItem_78
  · have hf := fg_ifF hf hc
    refine lv_aload_n hx hb dX1_tellItem_9 rfl (lv_at hl 1 rfl) ?_
    refine lv_aload_n hx hb dX1_tellItem_10 rfl (lv_at hl 2 rfl) ?_
    refine lv_iload_n hx hb dX1_tellItem_11 rfl (lv_at hl 0 rfl) ?_
    obtain ⟨w23, hc24, hf⟩ := fg_bvE hf
    refine fg_cv h (fg_runV (rest := []) S hK h (c_X1_tellPerson l D g j r3 hj w1 w23 hc24) vg_RX1_48 vd_X1_tellPerson ⟨by decide, by decide⟩ fg_p1_0 rfl rfl rfl hl.1 rfl (Nat.le_of_ble_eq_true rfl) dX1_tellItem_12 ⟨Nat.zero_le _, Nat.zero_le _⟩) (fun H locs h => ?_)
    refine lv_goto (tgt := 78) hx hb dX1_tellItem_15 (by decide) ?_
    exact fg_retv hx hb hr hlk hK h hf dX1_tellItem_78
set_option maxHeartbeats 4000000 in
set_option maxRecDepth 100000 in
theorem c_X1_tellTo (l : Launch) (D : va_G) (g : fg_G) (j : Nat) (hj : j < 3) (w : fg_W) (r : Int32) (w' : fg_W) (hf : f_X1_tellTo j w = some (r, w')) : fg_M l yX1_tellTo cX1_tellTo 4 (some .int) 9 209 D g [.ref (g.1 1 0 0), .ref (g.1 2 j 0)] w (fg_Qi D g r w') := by
  refine fg_M.of rfl (Nat.le_of_ble_eq_true rfl) (fun p e s m below meth c ls S hr hlk hK h hl => ?_)
  have hx := S.1
  have hb := S.2.1
  have hl : lv_has ls 4 [(0, .ref (g.1 1 0 0)), (1, .ref (g.1 2 j 0))] := hl
  unfold f_X1_tellTo at hf
  refine lv_aload_n hx hb dX1_tellTo_0 rfl (lv_at hl 0 rfl) ?_
  refine lv_iconst (v := (-1)) hx hb dX1_tellTo_1 rfl ?_
  refine fg_putI (C := RX1) (T := TX1) (N := 7) (fs := (fg_f1 g 0)) S vu_X1 tyX1 tyX1_ok nmX1 hK h fg_p1_0 (fun _ _ => rfl) rfl 2 (by decide) vf_RX1_19 rfl rfl (tyX1_ok 2 (by decide)) rfl rfl (fun _ => Nat.le_of_ble_eq_true rfl) (fun _ => rfl) dX1_tellTo_2 (fun w1 H locs ew h => ?_)
  have hf := fg_letE ew hf
  refine lv_aload_n hx hb dX1_tellTo_5 rfl (lv_at hl 0 rfl) ?_
  refine lv_iconst (v := 0) hx hb dX1_tellTo_6 rfl ?_
  refine fg_putI (C := RX1) (T := TX1) (N := 7) (fs := (fg_f1 g 0)) S vu_X1 tyX1 tyX1_ok nmX1 hK h fg_p1_0 (fun _ _ => rfl) rfl 5 (by decide) vf_RX1_28 rfl rfl (tyX1_ok 5 (by decide)) rfl rfl (fun _ => Nat.le_of_ble_eq_true rfl) (fun _ => rfl) dX1_tellTo_7 (fun w2 H locs ew h => ?_)
  have hf := fg_letE ew hf
  refine lv_aload_n hx hb dX1_tellTo_10 rfl (lv_at hl 0 rfl) ?_
  obtain ⟨w3, hc4, hf⟩ := fg_bvE hf
  refine fg_cv h (fg_runV (rest := []) S hK h (c_X1_nextToken l D g   w2 w3 hc4) vg_RX1_34 vd_X1_nextToken ⟨by decide, by decide⟩ fg_p1_0 rfl rfl rfl hl.1 rfl (Nat.le_of_ble_eq_true rfl) dX1_tellTo_11 ⟨Nat.zero_le _, Nat.zero_le _⟩) (fun H locs h => ?_)
  refine lv_iconst (v := 0) hx hb dX1_tellTo_14 rfl ?_
  refine lv_istore_n (lv' := [(2, .int 0), (0, .ref (g.1 1 0 0)), (1, .ref (g.1 2 j 0))]) hx hb dX1_tellTo_15 rfl hl (by decide) rfl (fun ls hl => ?_)
  refine lv_iconst (v := 1) hx hb dX1_tellTo_16 rfl ?_
  refine lv_istore_n (lv' := [(3, .int 1), (2, .int 0), (0, .ref (g.1 1 0 0)), (1, .ref (g.1 2 j 0))]) hx hb dX1_tellTo_17 rfl hl (by decide) rfl (fun ls hl => ?_)
  have hK_18 : ∀ (v2_18 : Int32) (v3_18 : Int32) (w_18 : fg_W) (H : Heap) (locs : List Loc) (ls : Array Slot), fg_H D g s.heap w_18 H locs → lv_has ls 4 [(0, .ref (g.1 1 0 0)), (1, .ref (g.1 2 j 0)), (2, .int v2_18), (3, .int v3_18)] → (some (v2_18, w_18)) = some (r, w') → fg_Gi p l e 9 209 s m [.ref (g.1 1 0 0), .ref (g.1 2 j 0)] below meth c D g r w' H locs 83 ls [] := by
    intro v2_18 v3_18 w_18 H locs ls h hl hf
    refine lv_iload_n hx hb dX1_tellTo_83 rfl (lv_at hl 2 rfl) ?_
    exact fg_reti hx hb hr hlk hK h hf dX1_tellTo_84
  have hL_18 : ∀ (KK_18 : Int32 → Int32 → fg_W → Option (Int32 × fg_W)) (hK_18 : ∀ (v2_18 : Int32) (v3_18 : Int32) (w_18 : fg_W) (H : Heap) (locs : List Loc) (ls : Array Slot), fg_H D g s.heap w_18 H locs → lv_has ls 4 [(0, .ref (g.1 1 0 0)), (1, .ref (g.1 2 j 0)), (2, .int v2_18), (3, .int v3_18)] → KK_18 v2_18 v3_18 w_18 = some (r, w') → fg_Gi p l e 9 209 s m [.ref (g.1 1 0 0), .ref (g.1 2 j 0)] below meth c D g r w' H locs 83 ls []) (n : Nat) (v2_18 : Int32) (v3_18 : Int32) (w_18 : fg_W) (H : Heap) (locs : List Loc) (ls : Array Slot), fg_H D g s.heap w_18 H locs → lv_has ls 4 [(0, .ref (g.1 1 0 0)), (1, .ref (g.1 2 j 0)), (2, .int v2_18), (3, .int v3_18)] → f_X1_tellTo_L18 j KK_18 n v2_18 v3_18 w_18 = some (r, w') → fg_Gi p l e 9 209 s m [.ref (g.1 1 0 0), .ref (g.1 2 j 0)] below meth c D g r w' H locs 18 ls [] := by
    intro KK_18 hK_18 n
    induction n with
    | zero => intro v2_18 v3_18 w_18 H locs ls h hl hf; exact fg_no hf
    | succ n_18 ih_18 =>
      intro v2_18 v3_18 w_18 H locs ls h hl hf
      unfold f_X1_tellTo_L18 at hf
      refine lv_iload_n hx hb dX1_tellTo_18 rfl (lv_at hl 3 rfl) ?_
      refine lv_if_eq (tgt := 83) hx hb dX1_tellTo_19 (by decide) (fun hc => ?_) (fun hc => ?_)
      · have hf := fg_ifT hf hc
        exact hK_18 v2_18 v3_18 w_18 _ _ ls h (lv_sub hl [0, 1, 2, 3] rfl) hf
      · have hf := fg_ifF hf hc
        refine lv_iload_n hx hb dX1_tellTo_22 rfl (lv_at hl 2 rfl) ?_
        refine lv_bipush (v := 120) hx hb dX1_tellTo_23 rfl ?_
        refine lv_icmp_ge (tgt := 83) hx hb dX1_tellTo_25 (by decide) (fun hc => ?_) (fun hc => ?_)
        · have hf := fg_ifT hf hc
          exact hK_18 v2_18 v3_18 w_18 _ _ ls h (lv_sub hl [0, 1, 2, 3] rfl) hf
        · have hf := fg_ifF hf hc
          refine lv_aload_n hx hb dX1_tellTo_28 rfl (lv_at hl 0 rfl) ?_
          refine lv_aload_n hx hb dX1_tellTo_29 rfl (lv_at hl 1 rfl) ?_
          obtain ⟨w13, hc14, hf⟩ := fg_bvE hf
          refine fg_cv h (fg_runV (rest := []) S hK h (c_X1_tellItem l D g j hj w_18 w13 hc14) vg_RX1_37 vd_X1_tellItem ⟨by decide, by decide⟩ fg_p1_0 rfl rfl rfl hl.1 rfl (Nat.le_of_ble_eq_true rfl) dX1_tellTo_30 ⟨Nat.zero_le _, Nat.zero_le _⟩) (fun H locs h => ?_)
          refine lv_iinc (v := (v2_18 + 1)) (lv' := [(2, .int (v2_18 + 1)), (0, .ref (g.1 1 0 0)), (1, .ref (g.1 2 j 0)), (3, .int v3_18)]) hx hb dX1_tellTo_33 hl (k := 2) rfl rfl (by decide) rfl (fun ls hl => ?_)
          refine lv_aload_n hx hb dX1_tellTo_36 rfl (lv_at hl 1 rfl) ?_
          refine fg_get (C := RX1) (T := TX1) (N := 7) S vu_X1 hK h fg_p1_0 rfl rfl 2 (by decide) vf_RX1_19 rfl rfl dX1_tellTo_37 ?_
          refine lv_if_ge (tgt := 55) hx hb dX1_tellTo_40 (by decide) (fun hc => ?_) (fun hc => ?_)
          · have hf := fg_ifT hf hc
            refine lv_iconst (v := 0) hx hb dX1_tellTo_55 rfl ?_
            refine lv_istore_n (lv' := [(3, .int 0), (2, .int (v2_18 + 1)), (0, .ref (g.1 1 0 0)), (1, .ref (g.1 2 j 0))]) hx hb dX1_tellTo_56 rfl hl (by decide) rfl (fun ls hl => ?_)
            refine lv_iload_n hx hb dX1_tellTo_57 rfl (lv_at hl 0 rfl) ?_
            refine lv_if_eq (tgt := 68) hx hb dX1_tellTo_58 (by decide) (fun hc => ?_) (fun hc => ?_)
            · refine lv_aload_n hx hb dX1_tellTo_68 rfl (lv_at hl 2 rfl) ?_
              refine fg_get (C := RX1) (T := TX1) (N := 7) S vu_X1 hK h fg_p1_0 rfl rfl 3 (by decide) vf_RX1_22 rfl rfl dX1_tellTo_69 ?_
              refine lv_iconst (v := 3) hx hb dX1_tellTo_72 rfl ?_
              refine lv_icmp_eq (tgt := 18) hx hb dX1_tellTo_73 (by decide) (fun hc => ?_) (fun hc => ?_)
              · have hf := fg_ifT hf hc
                exact ih_18 (v2_18 + 1) 0 w13 _ _ ls h (lv_sub hl [2, 3, 1, 0] rfl) hf
              · have hf := fg_ifF hf hc
                refine lv_aload_n hx hb dX1_tellTo_76 rfl (lv_at hl 2 rfl) ?_
                obtain ⟨w15, hc16, hf⟩ := fg_bvE hf
                refine fg_cv h (fg_runV (rest := []) S hK h (c_X1_faultHere l D g   w13 w15 hc16) vg_RX1_41 vd_X1_faultHere ⟨by decide, by decide⟩ fg_p1_0 rfl rfl rfl hl.1 rfl (Nat.le_of_ble_eq_true rfl) dX1_tellTo_77 ⟨Nat.zero_le _, Nat.zero_le _⟩) (fun H locs h => ?_)
                refine lv_goto (tgt := 18) hx hb dX1_tellTo_80 (by decide) ?_
                exact ih_18 (v2_18 + 1) 0 w15 _ _ ls h (lv_sub hl [2, 3, 1, 0] rfl) hf
            · exact absurd hc (by decide)
          · have hf := fg_ifF hf hc
            refine lv_aload_n hx hb dX1_tellTo_43 rfl (lv_at hl 1 rfl) ?_
            refine fg_get (C := RX1) (T := TX1) (N := 7) S vu_X1 hK h fg_p1_0 rfl rfl 3 (by decide) vf_RX1_22 rfl rfl dX1_tellTo_44 ?_
            refine lv_iconst (v := 2) hx hb dX1_tellTo_47 rfl ?_
            refine lv_icmp_ne (tgt := 55) hx hb dX1_tellTo_48 (by decide) (fun hc => ?_) (fun hc => ?_)
            · have hf := fg_ifF hf hc
              refine lv_iconst (v := 0) hx hb dX1_tellTo_55 rfl ?_
              refine lv_istore_n (lv' := [(3, .int 0), (2, .int (v2_18 + 1)), (0, .ref (g.1 1 0 0)), (1, .ref (g.1 2 j 0))]) hx hb dX1_tellTo_56 rfl hl (by decide) rfl (fun ls hl => ?_)
              refine lv_iload_n hx hb dX1_tellTo_57 rfl (lv_at hl 0 rfl) ?_
              refine lv_if_eq (tgt := 68) hx hb dX1_tellTo_58 (by decide) (fun hc => ?_) (fun hc => ?_)
              · refine lv_aload_n hx hb dX1_tellTo_68 rfl (lv_at hl 2 rfl) ?_
                refine fg_get (C := RX1) (T := TX1) (N := 7) S vu_X1 hK h fg_p1_0 rfl rfl 3 (by decide) vf_RX1_22 rfl rfl dX1_tellTo_69 ?_
                refine lv_iconst (v := 3) hx hb dX1_tellTo_72 rfl ?_
                refine lv_icmp_eq (tgt := 18) hx hb dX1_tellTo_73 (by decide) (fun hc => ?_) (fun hc => ?_)
                · have hf := fg_ifT hf hc
                  exact ih_18 (v2_18 + 1) 0 w13 _ _ ls h (lv_sub hl [2, 3, 1, 0] rfl) hf
                · have hf := fg_ifF hf hc
                  refine lv_aload_n hx hb dX1_tellTo_76 rfl (lv_at hl 2 rfl) ?_
                  obtain ⟨w17, hc18, hf⟩ := fg_bvE hf
                  refine fg_cv h (fg_runV (rest := []) S hK h (c_X1_faultHere l D g   w13 w17 hc18) vg_RX1_41 vd_X1_faultHere ⟨by decide, by decide⟩ fg_p1_0 rfl rfl rfl hl.1 rfl (Nat.le_of_ble_eq_true rfl) dX1_tellTo_77 ⟨Nat.zero_le _, Nat.zero_le _⟩) (fun H locs h => ?_)
                  refine lv_goto (tgt := 18) hx hb dX1_tellTo_80 (by decide) ?_
                  exact ih_18 (v2_18 + 1) 0 w17 _ _ ls h (lv_sub hl [2, 3, 1, 0] rfl) hf
              · exact absurd hc (by decide)
            · have hf := fg_ifT hf hc
              refine lv_iconst (v := 1) hx hb dX1_tellTo_51 rfl ?_
              refine lv_goto (tgt := 56) hx hb dX1_tellTo_52 (by decide) ?_
              refine lv_istore_n (lv' := [(3, .int 1), (2, .int (v2_18 + 1)), (0, .ref (g.1 1 0 0)), (1, .ref (g.1 2 j 0))]) hx hb dX1_tellTo_56 rfl hl (by decide) rfl (fun ls hl => ?_)
              refine lv_iload_n hx hb dX1_tellTo_57 rfl (lv_at hl 0 rfl) ?_
              refine lv_if_eq (tgt := 68) hx hb dX1_tellTo_58 (by decide) (fun hc => ?_) (fun hc => ?_)
              · exact absurd hc (by decide)
              · refine lv_aload_n hx hb dX1_tellTo_61 rfl (lv_at hl 2 rfl) ?_
                obtain ⟨w19, hc20, hf⟩ := fg_bvE hf
                refine fg_cv h (fg_runV (rest := []) S hK h (c_X1_nextToken l D g   w13 w19 hc20) vg_RX1_34 vd_X1_nextToken ⟨by decide, by decide⟩ fg_p1_0 rfl rfl rfl hl.1 rfl (Nat.le_of_ble_eq_true rfl) dX1_tellTo_62 ⟨Nat.zero_le _, Nat.zero_le _⟩) (fun H locs h => ?_)
                refine lv_goto (tgt := 18) hx hb dX1_tellTo_65 (by decide) ?_
                exact ih_18 (v2_18 + 1) 1 w19 _ _ ls h (lv_sub hl [2, 3, 1, 0] rfl) hf
  exact hL_18 _ hK_18 fg_fuel 0 1 w3 _ _ ls h (lv_sub hl [2, 3, 1, 0] rfl) hf
