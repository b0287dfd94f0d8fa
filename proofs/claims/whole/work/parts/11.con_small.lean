set_option maxHeartbeats 4000000 in
set_option maxRecDepth 100000 in
theorem c_X3_isLot (l : Launch) (D : va_G) (g : fg_G) (a1 : Int32) (w : fg_W) (r : Int32) (w' : fg_W) (hf : f_X3_isLot a1 w = some (r, w')) : fg_M l yX3_isLot cX3_isLot 1 (some .boolean) 0 0 D g [.int a1] w (fg_Qi D g r w') := by
  refine fg_M.of rfl (Nat.le_of_ble_eq_true rfl) (fun p e s m below meth c ls S hr hlk hK h hl => ?_)
  have hx := S.1
  have hb := S.2.1
  have hl : lv_has ls 1 [(0, .int a1)] := hl
  unfold f_X3_isLot at hf
  refine lv_iload_n hx hb dX3_isLot_0 rfl (lv_at hl 0 rfl) ?_
  refine lv_if_lt (tgt := 14) hx hb dX3_isLot_1 (by decide) (fun hc => ?_) (fun hc => ?_)
  · have hf := fg_ifT hf hc
    refine lv_iconst (v := 0) hx hb dX3_isLot_14 rfl ?_
    exact fg_retz hx hb hr hlk hK h hf (by decide) dX3_isLot_15
  · have hf := fg_ifF hf hc
    refine lv_iload_n hx hb dX3_isLot_4 rfl (lv_at hl 0 rfl) ?_
    refine lv_bipush (v := 10) hx hb dX3_isLot_5 rfl ?_
    refine lv_icmp_ge (tgt := 14) hx hb dX3_isLot_7 (by decide) (fun hc => ?_) (fun hc => ?_)
    · have hf := fg_ifT hf hc
      refine lv_iconst (v := 0) hx hb dX3_isLot_14 rfl ?_
      exact fg_retz hx hb hr hlk hK h hf (by decide) dX3_isLot_15
    · have hf := fg_ifF hf hc
      refine lv_iconst (v := 1) hx hb dX3_isLot_10 rfl ?_
      refine lv_goto (tgt := 15) hx hb dX3_isLot_11 (by decide) ?_
      exact fg_retz hx hb hr hlk hK h hf (by decide) dX3_isLot_15
set_option maxHeartbeats 4000000 in
set_option maxRecDepth 100000 in
theorem c_X3_finding (l : Launch) (D : va_G) (g : fg_G) (a1 : Int32) (w : fg_W) (r : Int32) (w' : fg_W) (hf : f_X3_finding a1 w = some (r, w')) : fg_M l yX3_finding cX3_finding 2 (some .int) 0 0 D g [.ref (g.1 3 0 0), .int a1] w (fg_Qi D g r w') := by
  refine fg_M.of rfl (Nat.le_of_ble_eq_true rfl) (fun p e s m below meth c ls S hr hlk hK h hl => ?_)
  have hx := S.1
  have hb := S.2.1
  have hl : lv_has ls 2 [(0, .ref (g.1 3 0 0)), (1, .int a1)] := hl
  unfold f_X3_finding at hf
  refine lv_aload_n hx hb dX3_finding_0 rfl (lv_at hl 0 rfl) ?_
  refine fg_get (C := RX3) (T := TX3) (N := 7) S vu_X3 hK h fg_p3_0 rfl rfl 6 (by decide) vf_RX3_40 rfl rfl dX3_finding_1 ?_
  refine lv_iload_n hx hb dX3_finding_4 rfl (lv_at hl 1 rfl) ?_
  refine lv_dup2_11 hx hb dX3_finding_5 rfl rfl ?_
  obtain ⟨hn1, hf⟩ := fg_gdE hf
  refine fg_iald hx hb hK h fg_p3_1 (fun _ => rfl) hn1 dX3_finding_6 ?_
  refine lv_iconst (v := 1) hx hb dX3_finding_7 rfl ?_
  refine lv_iadd hx hb dX3_finding_8 ?_
  obtain ⟨hn3, hf⟩ := fg_gdE hf
  refine fg_iast hx hb hK h fg_p3_1 (fun _ => rfl) hn3 dX3_finding_9 (fun w2 H locs ew h => ?_)
  have hf := fg_letE ew hf
  refine lv_ldc hx hb S.2.2.2.1 (S.2.2.2.2 _ vc_RX3_228) dX3_finding_10 ?_
  refine lv_iload_n hx hb dX3_finding_12 rfl (lv_at hl 1 rfl) ?_
  refine lv_isub hx hb dX3_finding_13 ?_
  exact fg_reti hx hb hr hlk hK h hf dX3_finding_14
set_option maxHeartbeats 4000000 in
set_option maxRecDepth 100000 in
theorem c_X3_within (l : Launch) (D : va_G) (g : fg_G) (a1 : Int32) (a2 : Int32) (a3 : Int32) (w : fg_W) (r : Int32) (w' : fg_W) (hf : f_X3_within a1 a2 a3 w = some (r, w')) : fg_M l yX3_within cX3_within 3 (some .boolean) 0 0 D g [.int a1, .int a2, .int a3] w (fg_Qi D g r w') := by
  refine fg_M.of rfl (Nat.le_of_ble_eq_true rfl) (fun p e s m below meth c ls S hr hlk hK h hl => ?_)
  have hx := S.1
  have hb := S.2.1
  have hl : lv_has ls 3 [(0, .int a1), (1, .int a2), (2, .int a3)] := hl
  unfold f_X3_within at hf
  refine lv_iload_n hx hb dX3_within_0 rfl (lv_at hl 0 rfl) ?_
  refine lv_iload_n hx hb dX3_within_1 rfl (lv_at hl 1 rfl) ?_
  refine lv_icmp_lt (tgt := 14) hx hb dX3_within_2 (by decide) (fun hc => ?_) (fun hc => ?_)
  · have hf := fg_ifT hf hc
    refine lv_iconst (v := 0) hx hb dX3_within_14 rfl ?_
    exact fg_retz hx hb hr hlk hK h hf (by decide) dX3_within_15
  · have hf := fg_ifF hf hc
    refine lv_iload_n hx hb dX3_within_5 rfl (lv_at hl 0 rfl) ?_
    refine lv_iload_n hx hb dX3_within_6 rfl (lv_at hl 2 rfl) ?_
    refine lv_icmp_gt (tgt := 14) hx hb dX3_within_7 (by decide) (fun hc => ?_) (fun hc => ?_)
    · have hf := fg_ifT hf hc
      refine lv_iconst (v := 0) hx hb dX3_within_14 rfl ?_
      exact fg_retz hx hb hr hlk hK h hf (by decide) dX3_within_15
    · have hf := fg_ifF hf hc
      refine lv_iconst (v := 1) hx hb dX3_within_10 rfl ?_
      refine lv_goto (tgt := 15) hx hb dX3_within_11 (by decide) ?_
      exact fg_retz hx hb hr hlk hK h hf (by decide) dX3_within_15
set_option maxHeartbeats 4000000 in
set_option maxRecDepth 100000 in
theorem c_X3_exchange (l : Launch) (D : va_G) (g : fg_G) (pK : Nat) (pi : Nat) (pb : Nat) (pn : Nat) (a2 : Int32) (a3 : Int32) (ps : fg_ok pK pi pb) (pe : ∀ w : fg_W, fg_E g w pK pi pb = .inl (g.2.1, pn, .inl (w.1 pK pi pb))) (w : fg_W) (r : Int32) (w' : fg_W) (hf : f_X3_exchange pK pi pb pn a2 a3 w = some (r, w')) : fg_M l yX3_exchange cX3_exchange 4 (some .int) 0 0 D g [.ref (g.1 pK pi pb), .int a2, .int a3] w (fg_Qi D g r w') := by
  refine fg_M.of rfl (Nat.le_of_ble_eq_true rfl) (fun p e s m below meth c ls S hr hlk hK h hl => ?_)
  have hx := S.1
  have hb := S.2.1
  have hl : lv_has ls 4 [(0, .ref (g.1 pK pi pb)), (1, .int a2), (2, .int a3)] := hl
  unfold f_X3_exchange at hf
  refine lv_aload_n hx hb dX3_exchange_0 rfl (lv_at hl 0 rfl) ?_
  refine lv_iload_n hx hb dX3_exchange_1 rfl (lv_at hl 1 rfl) ?_
  obtain ⟨hn1, hf⟩ := fg_gdE hf
  refine fg_iald hx hb hK h ps pe hn1 dX3_exchange_2 ?_
  refine lv_topi (fun x2 e_x2 => ?_)
  have hf := fg_letE e_x2 hf
  refine lv_istore_n (lv' := [(3, .int x2), (0, .ref (g.1 pK pi pb)), (1, .int a2), (2, .int a3)]) hx hb dX3_exchange_3 rfl hl (by decide) rfl (fun ls hl => ?_)
  refine lv_aload_n hx hb dX3_exchange_4 rfl (lv_at hl 1 rfl) ?_
  refine lv_iload_n hx hb dX3_exchange_5 rfl (lv_at hl 2 rfl) ?_
  refine lv_iload_n hx hb dX3_exchange_6 rfl (lv_at hl 3 rfl) ?_
  obtain ⟨hn4, hf⟩ := fg_gdE hf
  refine fg_iast hx hb hK h ps pe hn4 dX3_exchange_7 (fun w3 H locs ew h => ?_)
  have hf := fg_letE ew hf
  refine lv_iload_n hx hb dX3_exchange_8 rfl (lv_at hl 0 rfl) ?_
  exact fg_reti hx hb hr hlk hK h hf dX3_exchange_9
set_option maxHeartbeats 4000000 in
set_option maxRecDepth 100000 in
theorem c_X3_isKind (l : Launch) (D : va_G) (g : fg_G) (a1 : Int32) (w : fg_W) (r : Int32) (w' : fg_W) (hf : f_X3_isKind a1 w = some (r, w')) : fg_M l yX3_isKind cX3_isKind 1 (some .boolean) 0 0 D g [.int a1] w (fg_Qi D g r w') := by
  refine fg_M.of rfl (Nat.le_of_ble_eq_true rfl) (fun p e s m below meth c ls S hr hlk hK h hl => ?_)
  have hx := S.1
  have hb := S.2.1
  have hl : lv_has ls 1 [(0, .int a1)] := hl
  unfold f_X3_isKind at hf
  refine lv_iload_n hx hb dX3_isKind_0 rfl (lv_at hl 0 rfl) ?_
  refine lv_if_lt (tgt := 14) hx hb dX3_isKind_1 (by decide) (fun hc => ?_) (fun hc => ?_)
  · have hf := fg_ifT hf hc
    refine lv_iconst (v := 0) hx hb dX3_isKind_14 rfl ?_
    exact fg_retz hx hb hr hlk hK h hf (by decide) dX3_isKind_15
  · have hf := fg_ifF hf hc
    refine lv_iload_n hx hb dX3_isKind_4 rfl (lv_at hl 0 rfl) ?_
    refine lv_bipush (v := 7) hx hb dX3_isKind_5 rfl ?_
    refine lv_icmp_ge (tgt := 14) hx hb dX3_isKind_7 (by decide) (fun hc => ?_) (fun hc => ?_)
    · have hf := fg_ifT hf hc
      refine lv_iconst (v := 0) hx hb dX3_isKind_14 rfl ?_
      exact fg_retz hx hb hr hlk hK h hf (by decide) dX3_isKind_15
    · have hf := fg_ifF hf hc
      refine lv_iconst (v := 1) hx hb dX3_isKind_10 rfl ?_
      refine lv_goto (tgt := 15) hx hb dX3_isKind_11 (by decide) ?_
      exact fg_retz hx hb hr hlk hK h hf (by decide) dX3_isKind_15
set_option maxHeartbeats 4000000 in
set_option maxRecDepth 100000 in
theorem c_X3_sumOf (l : Launch) (D : va_G) (g : fg_G) (pK : Nat) (pi : Nat) (pb : Nat) (pn : Nat) (a2 : Int32) (ps : fg_ok pK pi pb) (pe : ∀ w : fg_W, fg_E g w pK pi pb = .inl (g.2.1, pn, .inl (w.1 pK pi pb))) (w : fg_W) (r : Int32) (w' : fg_W) (hf : f_X3_sumOf pK pi pb pn a2 w = some (r, w')) : fg_M l yX3_sumOf cX3_sumOf 4 (some .int) 0 0 D g [.ref (g.1 pK pi pb), .int a2] w (fg_Qi D g r w') := by
  refine fg_M.of rfl (Nat.le_of_ble_eq_true rfl) (fun p e s m below meth c ls S hr hlk hK h hl => ?_)
  have hx := S.1
  have hb := S.2.1
  have hl : lv_has ls 4 [(0, .ref (g.1 pK pi pb)), (1, .int a2)] := hl
  unfold f_X3_sumOf at hf
  refine lv_iconst (v := 0) hx hb dX3_sumOf_0 rfl ?_
  refine lv_istore_n (lv' := [(2, .int 0), (0, .ref (g.1 pK pi pb)), (1, .int a2)]) hx hb dX3_sumOf_1 rfl hl (by decide) rfl (fun ls hl => ?_)
  refine lv_iconst (v := 0) hx hb dX3_sumOf_2 rfl ?_
  refine lv_istore_n (lv' := [(3, .int 0), (2, .int 0), (0, .ref (g.1 pK pi pb)), (1, .int a2)]) hx hb dX3_sumOf_3 rfl hl (by decide) rfl (fun ls hl => ?_)
  have hK_4 : ∀ (v2_4 : Int32) (v3_4 : Int32) (w_4 : fg_W) (H : Heap) (locs : List Loc) (ls : Array Slot), fg_H D g s.heap w_4 H locs → lv_has ls 4 [(0, .ref (g.1 pK pi pb)), (1, .int a2), (2, .int v2_4), (3, .int v3_4)] → (some (v2_4, w_4)) = some (r, w') → fg_Gi p l e 0 0 s m [.ref (g.1 pK pi pb), .int a2] below meth c D g r w' H locs 21 ls [] := by
    intro v2_4 v3_4 w_4 H locs ls h hl hf
    refine lv_iload_n hx hb dX3_sumOf_21 rfl (lv_at hl 2 rfl) ?_
    exact fg_reti hx hb hr hlk hK h hf dX3_sumOf_22
  have hL_4 : ∀ (KK_4 : Int32 → Int32 → fg_W → Option (Int32 × fg_W)) (hK_4 : ∀ (v2_4 : Int32) (v3_4 : Int32) (w_4 : fg_W) (H : Heap) (locs : List Loc) (ls : Array Slot), fg_H D g s.heap w_4 H locs → lv_has ls 4 [(0, .ref (g.1 pK pi pb)), (1, .int a2), (2, .int v2_4), (3, .int v3_4)] → KK_4 v2_4 v3_4 w_4 = some (r, w') → fg_Gi p l e 0 0 s m [.ref (g.1 pK pi pb), .int a2] below meth c D g r w' H locs 21 ls []) (n : Nat) (v2_4 : Int32) (v3_4 : Int32) (w_4 : fg_W) (H : Heap) (locs : List Loc) (ls : Array Slot), fg_H D g s.heap w_4 H locs → lv_has ls 4 [(0, .ref (g.1 pK pi pb)), (1, .int a2), (2, .int v2_4), (3, .int v3_4)] → f_X3_sumOf_L4 pK pi pb pn a2 KK_4 n v2_4 v3_4 w_4 = some (r, w') → fg_Gi p l e 0 0 s m [.ref (g.1 pK pi pb), .int a2] below meth c D g r w' H locs 4 ls [] := by
    intro KK_4 hK_4 n
    induction n with
    | zero => intro v2_4 v3_4 w_4 H locs ls h hl hf; exact fg_no hf
    | succ n_4 ih_4 =>
      intro v2_4 v3_4 w_4 H locs ls h hl hf
      unfold f_X3_sumOf_L4 at hf
      refine lv_iload_n hx hb dX3_sumOf_4 rfl (lv_at hl 3 rfl) ?_
      refine lv_iload_n hx hb dX3_sumOf_5 rfl (lv_at hl 1 rfl) ?_
      refine lv_icmp_ge (tgt := 21) hx hb dX3_sumOf_6 (by decide) (fun hc => ?_) (fun hc => ?_)
      · have hf := fg_ifT hf hc
        exact hK_4 v2_4 v3_4 w_4 _ _ ls h (lv_sub hl [0, 1, 2, 3] rfl) hf
      · have hf := fg_ifF hf hc
        refine lv_iload_n hx hb dX3_sumOf_9 rfl (lv_at hl 2 rfl) ?_
        refine lv_aload_n hx hb dX3_sumOf_10 rfl (lv_at hl 0 rfl) ?_
        refine lv_iload_n hx hb dX3_sumOf_11 rfl (lv_at hl 3 rfl) ?_
        obtain ⟨hn3, hf⟩ := fg_gdE hf
        refine fg_iald hx hb hK h ps pe hn3 dX3_sumOf_12 ?_
        refine lv_iadd hx hb dX3_sumOf_13 ?_
        refine lv_topi (fun x4 e_x4 => ?_)
        have hf := fg_letE e_x4 hf
        refine lv_istore_n (lv' := [(2, .int x4), (0, .ref (g.1 pK pi pb)), (1, .int a2), (3, .int v3_4)]) hx hb dX3_sumOf_14 rfl hl (by decide) rfl (fun ls hl => ?_)
        refine lv_iinc (v := (v3_4 + 1)) (lv' := [(3, .int (v3_4 + 1)), (2, .int x4), (0, .ref (g.1 pK pi pb)), (1, .int a2)]) hx hb dX3_sumOf_15 hl (k := 3) rfl rfl (by decide) rfl (fun ls hl => ?_)
        refine lv_goto (tgt := 4) hx hb dX3_sumOf_18 (by decide) ?_
        exact ih_4 x4 (v3_4 + 1) w_4 _ _ ls h (lv_sub hl [2, 3, 1, 0] rfl) hf
  exact hL_4 _ hK_4 fg_fuel 0 0 w _ _ ls h (lv_sub hl [2, 3, 1, 0] rfl) hf
set_option maxHeartbeats 4000000 in
set_option maxRecDepth 100000 in
theorem c_X3_firstGreatest (l : Launch) (D : va_G) (g : fg_G) (pK : Nat) (pi : Nat) (pb : Nat) (pn : Nat) (a2 : Int32) (ps : fg_ok pK pi pb) (pe : ∀ w : fg_W, fg_E g w pK pi pb = .inl (g.2.1, pn, .inl (w.1 pK pi pb))) (w : fg_W) (r : Int32) (w' : fg_W) (hf : f_X3_firstGreatest pK pi pb pn a2 w = some (r, w')) : fg_M l yX3_firstGreatest cX3_firstGreatest 4 (some .int) 0 0 D g [.ref (g.1 pK pi pb), .int a2] w (fg_Qi D g r w') := by
  refine fg_M.of rfl (Nat.le_of_ble_eq_true rfl) (fun p e s m below meth c ls S hr hlk hK h hl => ?_)
  have hx := S.1
  have hb := S.2.1
  have hl : lv_has ls 4 [(0, .ref (g.1 pK pi pb)), (1, .int a2)] := hl
  unfold f_X3_firstGreatest at hf
  refine lv_iconst (v := (-1)) hx hb dX3_firstGreatest_0 rfl ?_
  refine lv_istore_n (lv' := [(2, .int (-1)), (0, .ref (g.1 pK pi pb)), (1, .int a2)]) hx hb dX3_firstGreatest_1 rfl hl (by decide) rfl (fun ls hl => ?_)
  refine lv_iconst (v := 0) hx hb dX3_firstGreatest_2 rfl ?_
  refine lv_istore_n (lv' := [(3, .int 0), (2, .int (-1)), (0, .ref (g.1 pK pi pb)), (1, .int a2)]) hx hb dX3_firstGreatest_3 rfl hl (by decide) rfl (fun ls hl => ?_)
  have hK_4 : ∀ (v2_4 : Int32) (v3_4 : Int32) (w_4 : fg_W) (H : Heap) (locs : List Loc) (ls : Array Slot), fg_H D g s.heap w_4 H locs → lv_has ls 4 [(0, .ref (g.1 pK pi pb)), (1, .int a2), (2, .int v2_4), (3, .int v3_4)] → (some (v2_4, w_4)) = some (r, w') → fg_Gi p l e 0 0 s m [.ref (g.1 pK pi pb), .int a2] below meth c D g r w' H locs 30 ls [] := by
    intro v2_4 v3_4 w_4 H locs ls h hl hf
    refine lv_iload_n hx hb dX3_firstGreatest_30 rfl (lv_at hl 2 rfl) ?_
    exact fg_reti hx hb hr hlk hK h hf dX3_firstGreatest_31
  have hL_4 : ∀ (KK_4 : Int32 → Int32 → fg_W → Option (Int32 × fg_W)) (hK_4 : ∀ (v2_4 : Int32) (v3_4 : Int32) (w_4 : fg_W) (H : Heap) (locs : List Loc) (ls : Array Slot), fg_H D g s.heap w_4 H locs → lv_has ls 4 [(0, .ref (g.1 pK pi pb)), (1, .int a2), (2, .int v2_4), (3, .int v3_4)] → KK_4 v2_4 v3_4 w_4 = some (r, w') → fg_Gi p l e 0 0 s m [.ref (g.1 pK pi pb), .int a2] below meth c D g r w' H locs 30 ls []) (n : Nat) (v2_4 : Int32) (v3_4 : Int32) (w_4 : fg_W) (H : Heap) (locs : List Loc) (ls : Array Slot), fg_H D g s.heap w_4 H locs → lv_has ls 4 [(0, .ref (g.1 pK pi pb)), (1, .int a2), (2, .int v2_4), (3, .int v3_4)] → f_X3_firstGreatest_L4 pK pi pb pn a2 KK_4 n v2_4 v3_4 w_4 = some (r, w') → fg_Gi p l e 0 0 s m [.ref (g.1 pK pi pb), .int a2] below meth c D g r w' H locs 4 ls [] := by
    intro KK_4 hK_4 n
    induction n with
    | zero => intro v2_4 v3_4 w_4 H locs ls h hl hf; exact fg_no hf
    | succ n_4 ih_4 =>
      intro v2_4 v3_4 w_4 H locs ls h hl hf
      unfold f_X3_firstGreatest_L4 at hf
      refine lv_iload_n hx hb dX3_firstGreatest_4 rfl (lv_at hl 3 rfl) ?_
      refine lv_iload_n hx hb dX3_firstGreatest_5 rfl (lv_at hl 1 rfl) ?_
      refine lv_icmp_ge (tgt := 30) hx hb dX3_firstGreatest_6 (by decide) (fun hc => ?_) (fun hc => ?_)
      · have hf := fg_ifT hf hc
        exact hK_4 v2_4 v3_4 w_4 _ _ ls h (lv_sub hl [0, 1, 2, 3] rfl) hf
      · have hf := fg_ifF hf hc
        refine lv_iload_n hx hb dX3_firstGreatest_9 rfl (lv_at hl 2 rfl) ?_
        refine lv_if_lt (tgt := 22) hx hb dX3_firstGreatest_10 (by decide) (fun hc => ?_) (fun hc => ?_)
        · have hf := fg_ifT hf hc
          refine lv_iload_n hx hb dX3_firstGreatest_22 rfl (lv_at hl 3 rfl) ?_
          refine lv_istore_n (lv' := [(2, .int v3_4), (0, .ref (g.1 pK pi pb)), (1, .int a2), (3, .int v3_4)]) hx hb dX3_firstGreatest_23 rfl hl (by decide) rfl (fun ls hl => ?_)
          refine lv_iinc (v := (v3_4 + 1)) (lv' := [(3, .int (v3_4 + 1)), (2, .int v3_4), (0, .ref (g.1 pK pi pb)), (1, .int a2)]) hx hb dX3_firstGreatest_24 hl (k := 3) rfl rfl (by decide) rfl (fun ls hl => ?_)
          refine lv_goto (tgt := 4) hx hb dX3_firstGreatest_27 (by decide) ?_
          exact ih_4 v3_4 (v3_4 + 1) w_4 _ _ ls h (lv_sub hl [2, 3, 1, 0] rfl) hf
        · have hf := fg_ifF hf hc
          refine lv_aload_n hx hb dX3_firstGreatest_13 rfl (lv_at hl 0 rfl) ?_
          refine lv_iload_n hx hb dX3_firstGreatest_14 rfl (lv_at hl 3 rfl) ?_
          obtain ⟨hn3, hf⟩ := fg_gdE hf
          refine fg_iald hx hb hK h ps pe hn3 dX3_firstGreatest_15 ?_
          refine lv_aload_n hx hb dX3_firstGreatest_16 rfl (lv_at hl 0 rfl) ?_
          refine lv_iload_n hx hb dX3_firstGreatest_17 rfl (lv_at hl 2 rfl) ?_
          obtain ⟨hn4, hf⟩ := fg_gdE hf
          refine fg_iald hx hb hK h ps pe hn4 dX3_firstGreatest_18 ?_
          refine lv_icmp_le (tgt := 24) hx hb dX3_firstGreatest_19 (by decide) (fun hc => ?_) (fun hc => ?_)
          · have hf := fg_ifT hf hc
            refine lv_iinc (v := (v3_4 + 1)) (lv' := [(3, .int (v3_4 + 1)), (0, .ref (g.1 pK pi pb)), (1, .int a2), (2, .int v2_4)]) hx hb dX3_firstGreatest_24 hl (k := 3) rfl rfl (by decide) rfl (fun ls hl => ?_)
            refine lv_goto (tgt := 4) hx hb dX3_firstGreatest_27 (by decide) ?_
            exact ih_4 v2_4 (v3_4 + 1) w_4 _ _ ls h (lv_sub hl [1, 2, 3, 0] rfl) hf
          · have hf := fg_ifF hf hc
            refine lv_iload_n hx hb dX3_firstGreatest_22 rfl (lv_at hl 3 rfl) ?_
            refine lv_istore_n (lv' := [(2, .int v3_4), (0, .ref (g.1 pK pi pb)), (1, .int a2), (3, .int v3_4)]) hx hb dX3_firstGreatest_23 rfl hl (by decide) rfl (fun ls hl => ?_)
            refine lv_iinc (v := (v3_4 + 1)) (lv' := [(3, .int (v3_4 + 1)), (2, .int v3_4), (0, .ref (g.1 pK pi pb)), (1, .int a2)]) hx hb dX3_firstGreatest_24 hl (k := 3) rfl rfl (by decide) rfl (fun ls hl => ?_)
            refine lv_goto (tgt := 4) hx hb dX3_firstGreatest_27 (by decide) ?_
            exact ih_4 v3_4 (v3_4 + 1) w_4 _ _ ls h (lv_sub hl [2, 3, 1, 0] rfl) hf
  exact hL_4 _ hK_4 fg_fuel (-1) 0 w _ _ ls h (lv_sub hl [2, 3, 1, 0] rfl) hf
set_option maxHeartbeats 4000000 in
set_option maxRecDepth 100000 in
theorem c_X3_isSheet (l : Launch) (D : va_G) (g : fg_G) (a1 : Int32) (w : fg_W) (r : Int32) (w' : fg_W) (hf : f_X3_isSheet a1 w = some (r, w')) : fg_M l yX3_isSheet cX3_isSheet 1 (some .boolean) 0 0 D g [.int a1] w (fg_Qi D g r w') := by
  refine fg_M.of rfl (Nat.le_of_ble_eq_true rfl) (fun p e s m below meth c ls S hr hlk hK h hl => ?_)
  have hx := S.1
  have hb := S.2.1
  have hl : lv_has ls 1 [(0, .int a1)] := hl
  unfold f_X3_isSheet at hf
  refine lv_iload_n hx hb dX3_isSheet_0 rfl (lv_at hl 0 rfl) ?_
  refine lv_if_lt (tgt := 13) hx hb dX3_isSheet_1 (by decide) (fun hc => ?_) (fun hc => ?_)
  · have hf := fg_ifT hf hc
    refine lv_iconst (v := 0) hx hb dX3_isSheet_13 rfl ?_
    exact fg_retz hx hb hr hlk hK h hf (by decide) dX3_isSheet_14
  · have hf := fg_ifF hf hc
    refine lv_iload_n hx hb dX3_isSheet_4 rfl (lv_at hl 0 rfl) ?_
    refine lv_iconst (v := 4) hx hb dX3_isSheet_5 rfl ?_
    refine lv_icmp_ge (tgt := 13) hx hb dX3_isSheet_6 (by decide) (fun hc => ?_) (fun hc => ?_)
    · have hf := fg_ifT hf hc
      refine lv_iconst (v := 0) hx hb dX3_isSheet_13 rfl ?_
      exact fg_retz hx hb hr hlk hK h hf (by decide) dX3_isSheet_14
    · have hf := fg_ifF hf hc
      refine lv_iconst (v := 1) hx hb dX3_isSheet_9 rfl ?_
      refine lv_goto (tgt := 14) hx hb dX3_isSheet_10 (by decide) ?_
      exact fg_retz hx hb hr hlk hK h hf (by decide) dX3_isSheet_14
set_option maxHeartbeats 4000000 in
set_option maxRecDepth 100000 in
theorem c_X0_isMissing (l : Launch) (D : va_G) (g : fg_G) (i : Nat) (hi : i < 4) (w : fg_W) (r : Int32) (w' : fg_W) (hf : f_X0_isMissing i w = some (r, w')) : fg_M l yX0_isMissing cX0_isMissing 1 (some .boolean) 0 0 D g [.ref (g.1 0 i 0)] w (fg_Qi D g r w') := by
  refine fg_M.of rfl (Nat.le_of_ble_eq_true rfl) (fun p e s m below meth c ls S hr hlk hK h hl => ?_)
  have hx := S.1
  have hb := S.2.1
  have hl : lv_has ls 1 [(0, .ref (g.1 0 i 0))] := hl
  unfold f_X0_isMissing at hf
  refine lv_aload_n hx hb dX0_isMissing_0 rfl (lv_at hl 0 rfl) ?_
  refine fg_get (C := RX0) (T := TX0) (N := 3) S vu_X0 hK h (fg_p0_0 hi) rfl rfl 0 (by decide) vf_RX0_9 rfl rfl dX0_isMissing_1 ?_
  refine lv_if_ne (tgt := 11) hx hb dX0_isMissing_4 (by decide) (fun hc => ?_) (fun hc => ?_)
  · have hf := fg_ifF hf hc
    refine lv_iconst (v := 0) hx hb dX0_isMissing_11 rfl ?_
    exact fg_retz hx hb hr hlk hK h hf (by decide) dX0_isMissing_12
  · have hf := fg_ifT hf hc
    refine lv_iconst (v := 1) hx hb dX0_isMissing_7 rfl ?_
    refine lv_goto (tgt := 12) hx hb dX0_isMissing_8 (by decide) ?_
    exact fg_retz hx hb hr hlk hK h hf (by decide) dX0_isMissing_12
set_option maxHeartbeats 4000000 in
set_option maxRecDepth 100000 in
theorem c_X3_greatestCommon (l : Launch) (D : va_G) (g : fg_G) (a1 : Int32) (a2 : Int32) (w : fg_W) (r : Int32) (w' : fg_W) (hf : f_X3_greatestCommon a1 a2 w = some (r, w')) : fg_M l yX3_greatestCommon cX3_greatestCommon 4 (some .int) 0 0 D g [.int a1, .int a2] w (fg_Qi D g r w') := by
  refine fg_M.of rfl (Nat.le_of_ble_eq_true rfl) (fun p e s m below meth c ls S hr hlk hK h hl => ?_)
  have hx := S.1
  have hb := S.2.1
  have hl : lv_has ls 4 [(0, .int a1), (1, .int a2)] := hl
  unfold f_X3_greatestCommon at hf
  refine lv_iconst (v := 1) hx hb dX3_greatestCommon_0 rfl ?_
  refine lv_istore_n (lv' := [(2, .int 1), (0, .int a1), (1, .int a2)]) hx hb dX3_greatestCommon_1 rfl hl (by decide) rfl (fun ls hl => ?_)
  refine lv_iconst (v := 2) hx hb dX3_greatestCommon_2 rfl ?_
  refine lv_istore_n (lv' := [(3, .int 2), (2, .int 1), (0, .int a1), (1, .int a2)]) hx hb dX3_greatestCommon_3 rfl hl (by decide) rfl (fun ls hl => ?_)
  have hK_4 : ∀ (v2_4 : Int32) (v3_4 : Int32) (w_4 : fg_W) (H : Heap) (locs : List Loc) (ls : Array Slot), fg_H D g s.heap w_4 H locs → lv_has ls 4 [(0, .int a1), (1, .int a2), (2, .int v2_4), (3, .int v3_4)] → (some (v2_4, w_4)) = some (r, w') → fg_Gi p l e 0 0 s m [.int a1, .int a2] below meth c D g r w' H locs 29 ls [] := by
    intro v2_4 v3_4 w_4 H locs ls h hl hf
    refine lv_iload_n hx hb dX3_greatestCommon_29 rfl (lv_at hl 2 rfl) ?_
    exact fg_reti hx hb hr hlk hK h hf dX3_greatestCommon_30
  have hL_4 : ∀ (KK_4 : Int32 → Int32 → fg_W → Option (Int32 × fg_W)) (hK_4 : ∀ (v2_4 : Int32) (v3_4 : Int32) (w_4 : fg_W) (H : Heap) (locs : List Loc) (ls : Array Slot), fg_H D g s.heap w_4 H locs → lv_has ls 4 [(0, .int a1), (1, .int a2), (2, .int v2_4), (3, .int v3_4)] → KK_4 v2_4 v3_4 w_4 = some (r, w') → fg_Gi p l e 0 0 s m [.int a1, .int a2] below meth c D g r w' H locs 29 ls []) (n : Nat) (v2_4 : Int32) (v3_4 : Int32) (w_4 : fg_W) (H : Heap) (locs : List Loc) (ls : Array Slot), fg_H D g s.heap w_4 H locs → lv_has ls 4 [(0, .int a1), (1, .int a2), (2, .int v2_4), (3, .int v3_4)] → f_X3_greatestCommon_L4 a1 a2 KK_4 n v2_4 v3_4 w_4 = some (r, w') → fg_Gi p l e 0 0 s m [.int a1, .int a2] below meth c D g r w' H locs 4 ls [] := by
    intro KK_4 hK_4 n
    induction n with
    | zero => intro v2_4 v3_4 w_4 H locs ls h hl hf; exact fg_no hf
    | succ n_4 ih_4 =>
      intro v2_4 v3_4 w_4 H locs ls h hl hf
      unfold f_X3_greatestCommon_L4 at hf
      refine lv_iload_n hx hb dX3_greatestCommon_4 rfl (lv_at hl 3 rfl) ?_
      refine lv_iload_n hx hb dX3_greatestCommon_5 rfl (lv_at hl 1 rfl) ?_
      refine lv_icmp_gt (tgt := 29) hx hb dX3_greatestCommon_6 (by decide) (fun hc => ?_) (fun hc => ?_)
      · have hf := fg_ifT hf hc
        exact hK_4 v2_4 v3_4 w_4 _ _ ls h (lv_sub hl [0, 1, 2, 3] rfl) hf
      · have hf := fg_ifF hf hc
        refine lv_iload_n hx hb dX3_greatestCommon_9 rfl (lv_at hl 0 rfl) ?_
        refine lv_iload_n hx hb dX3_greatestCommon_10 rfl (lv_at hl 3 rfl) ?_
        obtain ⟨hz3, hf⟩ := fg_gpE hf
        refine lv_irem hx hb dX3_greatestCommon_11 hz3 ?_
        refine lv_if_ne (tgt := 23) hx hb dX3_greatestCommon_12 (by decide) (fun hc => ?_) (fun hc => ?_)
        · have hf := fg_ifF hf hc
          refine lv_iinc (v := (v3_4 + 1)) (lv' := [(3, .int (v3_4 + 1)), (0, .int a1), (1, .int a2), (2, .int v2_4)]) hx hb dX3_greatestCommon_23 hl (k := 3) rfl rfl (by decide) rfl (fun ls hl => ?_)
          refine lv_goto (tgt := 4) hx hb dX3_greatestCommon_26 (by decide) ?_
          exact ih_4 v2_4 (v3_4 + 1) w_4 _ _ ls h (lv_sub hl [1, 2, 3, 0] rfl) hf
        · have hf := fg_ifT hf hc
          refine lv_iload_n hx hb dX3_greatestCommon_15 rfl (lv_at hl 1 rfl) ?_
          refine lv_iload_n hx hb dX3_greatestCommon_16 rfl (lv_at hl 3 rfl) ?_
          obtain ⟨hz4, hf⟩ := fg_gpE hf
          refine lv_irem hx hb dX3_greatestCommon_17 hz4 ?_
          refine lv_if_ne (tgt := 23) hx hb dX3_greatestCommon_18 (by decide) (fun hc => ?_) (fun hc => ?_)
          · have hf := fg_ifF hf hc
            refine lv_iinc (v := (v3_4 + 1)) (lv' := [(3, .int (v3_4 + 1)), (0, .int a1), (1, .int a2), (2, .int v2_4)]) hx hb dX3_greatestCommon_23 hl (k := 3) rfl rfl (by decide) rfl (fun ls hl => ?_)
            refine lv_goto (tgt := 4) hx hb dX3_greatestCommon_26 (by decide) ?_
            exact ih_4 v2_4 (v3_4 + 1) w_4 _ _ ls h (lv_sub hl [1, 2, 3, 0] rfl) hf
          · have hf := fg_ifT hf hc
            refine lv_iload_n hx hb dX3_greatestCommon_21 rfl (lv_at hl 3 rfl) ?_
            refine lv_istore_n (lv' := [(2, .int v3_4), (0, .int a1), (1, .int a2), (3, .int v3_4)]) hx hb dX3_greatestCommon_22 rfl hl (by decide) rfl (fun ls hl => ?_)
            refine lv_iinc (v := (v3_4 + 1)) (lv' := [(3, .int (v3_4 + 1)), (2, .int v3_4), (0, .int a1), (1, .int a2)]) hx hb dX3_greatestCommon_23 hl (k := 3) rfl rfl (by decide) rfl (fun ls hl => ?_)
            refine lv_goto (tgt := 4) hx hb dX3_greatestCommon_26 (by decide) ?_
            exact ih_4 v3_4 (v3_4 + 1) w_4 _ _ ls h (lv_sub hl [2, 3, 1, 0] rfl) hf
  exact hL_4 _ hK_4 fg_fuel 1 2 w _ _ ls h (lv_sub hl [2, 3, 1, 0] rfl) hf
set_option maxHeartbeats 4000000 in
set_option maxRecDepth 100000 in
theorem c_X1_append (l : Launch) (D : va_G) (g : fg_G) (a1 : Int32) (w : fg_W) (w' : fg_W) (hf : f_X1_append a1 w = some w') : fg_M l yX1_append cX1_append 2 none 0 0 D g [.ref (g.1 1 0 0), .int a1] w (fg_Qv D g w') := by
  refine fg_M.of rfl (Nat.le_of_ble_eq_true rfl) (fun p e s m below meth c ls S hr hlk hK h hl => ?_)
  have hx := S.1
  have hb := S.2.1
  have hl : lv_has ls 2 [(0, .ref (g.1 1 0 0)), (1, .int a1)] := hl
  unfold f_X1_append at hf
  refine lv_aload_n hx hb dX1_append_0 rfl (lv_at hl 0 rfl) ?_
  refine fg_get (C := RX1) (T := TX1) (N := 7) S vu_X1 hK h fg_p1_0 rfl rfl 0 (by decide) vf_RX1_9 rfl rfl dX1_append_1 ?_
  refine lv_aload_n hx hb dX1_append_4 rfl (lv_at hl 0 rfl) ?_
  refine fg_get (C := RX1) (T := TX1) (N := 7) S vu_X1 hK h fg_p1_0 rfl rfl 1 (by decide) vf_RX1_15 rfl rfl dX1_append_5 ?_
  refine lv_iload_n hx hb dX1_append_8 rfl (lv_at hl 1 rfl) ?_
  refine lv_sipush (v := 255) hx hb dX1_append_9 rfl ?_
  refine lv_iand hx hb dX1_append_12 ?_
  obtain ⟨hn2, hf⟩ := fg_gdE hf
  refine fg_iast hx hb hK h fg_p1_1 (fun _ => rfl) hn2 dX1_append_13 (fun w1 H locs ew h => ?_)
  have hf := fg_letE ew hf
  refine lv_aload_n hx hb dX1_append_14 rfl (lv_at hl 0 rfl) ?_
  refine lv_dup hx hb dX1_append_15 rfl ?_
  refine fg_get (C := RX1) (T := TX1) (N := 7) S vu_X1 hK h fg_p1_0 rfl rfl 1 (by decide) vf_RX1_15 rfl rfl dX1_append_16 ?_
  refine lv_iconst (v := 1) hx hb dX1_append_19 rfl ?_
  refine lv_iadd hx hb dX1_append_20 ?_
  refine fg_putI (C := RX1) (T := TX1) (N := 7) (fs := (fg_f1 g 0)) S vu_X1 tyX1 tyX1_ok nmX1 hK h fg_p1_0 (fun _ _ => rfl) rfl 1 (by decide) vf_RX1_15 rfl rfl (tyX1_ok 1 (by decide)) rfl rfl (fun _ => Nat.le_of_ble_eq_true rfl) (fun _ => rfl) dX1_append_21 (fun w3 H locs ew h => ?_)
  have hf := fg_letE ew hf
  exact fg_retv hx hb hr hlk hK h hf dX1_append_24
set_option maxHeartbeats 4000000 in
set_option maxRecDepth 100000 in
theorem c_X3_kindAbove (l : Launch) (D : va_G) (g : fg_G) (a1 : Int32) (w : fg_W) (r : Int32) (w' : fg_W) (hf : f_X3_kindAbove a1 w = some (r, w')) : fg_M l yX3_kindAbove cX3_kindAbove 1 (some .int) 0 0 D g [.int a1] w (fg_Qi D g r w') := by
  refine fg_M.of rfl (Nat.le_of_ble_eq_true rfl) (fun p e s m below meth c ls S hr hlk hK h hl => ?_)
  have hx := S.1
  have hb := S.2.1
  have hl : lv_has ls 1 [(0, .int a1)] := hl
  unfold f_X3_kindAbove at hf
  refine lv_iload_n hx hb dX3_kindAbove_0 rfl (lv_at hl 0 rfl) ?_
  by_cases hq1_1 : a1 = 1
  · refine lv_tableIn (tgt := 40) hx hb dX3_kindAbove_1 (by rw [hq1_1]; decide) (by rw [hq1_1]; decide) (off := 39) (by rw [hq1_1]; rfl) (by decide) ?_
    have hf := fg_ifT hf hq1_1
    refine lv_iconst (v := 0) hx hb dX3_kindAbove_40 rfl ?_
    exact fg_reti hx hb hr hlk hK h hf dX3_kindAbove_41
  have hf := fg_ifF hf hq1_1
  by_cases hq1_2 : a1 = 2
  · refine lv_tableIn (tgt := 40) hx hb dX3_kindAbove_1 (by rw [hq1_2]; decide) (by rw [hq1_2]; decide) (off := 39) (by rw [hq1_2]; rfl) (by decide) ?_
    have hf := fg_ifT hf hq1_2
    refine lv_iconst (v := 0) hx hb dX3_kindAbove_40 rfl ?_
    exact fg_reti hx hb hr hlk hK h hf dX3_kindAbove_41
  have hf := fg_ifF hf hq1_2
  by_cases hq1_3 : a1 = 3
  · refine lv_tableIn (tgt := 42) hx hb dX3_kindAbove_1 (by rw [hq1_3]; decide) (by rw [hq1_3]; decide) (off := 41) (by rw [hq1_3]; rfl) (by decide) ?_
    have hf := fg_ifT hf hq1_3
    refine lv_iconst (v := 2) hx hb dX3_kindAbove_42 rfl ?_
    exact fg_reti hx hb hr hlk hK h hf dX3_kindAbove_43
  have hf := fg_ifF hf hq1_3
  by_cases hq1_4 : a1 = 4
  · refine lv_tableIn (tgt := 44) hx hb dX3_kindAbove_1 (by rw [hq1_4]; decide) (by rw [hq1_4]; decide) (off := 43) (by rw [hq1_4]; rfl) (by decide) ?_
    have hf := fg_ifT hf hq1_4
    refine lv_iconst (v := 3) hx hb dX3_kindAbove_44 rfl ?_
    exact fg_reti hx hb hr hlk hK h hf dX3_kindAbove_45
  have hf := fg_ifF hf hq1_4
  by_cases hq1_5 : a1 = 5
  · refine lv_tableIn (tgt := 40) hx hb dX3_kindAbove_1 (by rw [hq1_5]; decide) (by rw [hq1_5]; decide) (off := 39) (by rw [hq1_5]; rfl) (by decide) ?_
    have hf := fg_ifT hf hq1_5
    refine lv_iconst (v := 0) hx hb dX3_kindAbove_40 rfl ?_
    exact fg_reti hx hb hr hlk hK h hf dX3_kindAbove_41
  have hf := fg_ifF hf hq1_5
  by_cases hq1_6 : a1 = 6
  · refine lv_tableIn (tgt := 46) hx hb dX3_kindAbove_1 (by rw [hq1_6]; decide) (by rw [hq1_6]; decide) (off := 45) (by rw [hq1_6]; rfl) (by decide) ?_
    have hf := fg_ifT hf hq1_6
    refine lv_iconst (v := 1) hx hb dX3_kindAbove_46 rfl ?_
    exact fg_reti hx hb hr hlk hK h hf dX3_kindAbove_47
  have hf := fg_ifF hf hq1_6
  refine lv_tableOut (tgt := 48) hx hb dX3_kindAbove_1 (by have := lv_neT hq1_1 (show (1 : Int32).toInt = 1 from rfl); have := lv_neT hq1_2 (show (2 : Int32).toInt = 2 from rfl); have := lv_neT hq1_3 (show (3 : Int32).toInt = 3 from rfl); have := lv_neT hq1_4 (show (4 : Int32).toInt = 4 from rfl); have := lv_neT hq1_5 (show (5 : Int32).toInt = 5 from rfl); have := lv_neT hq1_6 (show (6 : Int32).toInt = 6 from rfl); omega) (by decide) ?_
  refine lv_iconst (v := (-1)) hx hb dX3_kindAbove_48 rfl ?_
  exact fg_reti hx hb hr hlk hK h hf dX3_kindAbove_49
set_option maxHeartbeats 4000000 in
set_option maxRecDepth 100000 in
theorem c_X3_isUnder (l : Launch) (D : va_G) (g : fg_G) (a1 : Int32) (a2 : Int32) (w : fg_W) (r : Int32) (w' : fg_W) (hf : f_X3_isUnder a1 a2 w = some (r, w')) : fg_M l yX3_isUnder cX3_isUnder 4 (some .boolean) 1 20 D g [.int a1, .int a2] w (fg_Qi D g r w') := by
  refine fg_M.of rfl (Nat.le_of_ble_eq_true rfl) (fun p e s m below meth c ls S hr hlk hK h hl => ?_)
  have hx := S.1
  have hb := S.2.1
  have hl : lv_has ls 4 [(0, .int a1), (1, .int a2)] := hl
  unfold f_X3_isUnder at hf
  refine lv_iload_n hx hb dX3_isUnder_0 rfl (lv_at hl 0 rfl) ?_
  refine lv_istore_n (lv' := [(2, .int a1), (0, .int a1), (1, .int a2)]) hx hb dX3_isUnder_1 rfl hl (by decide) rfl (fun ls hl => ?_)
  refine lv_iconst (v := 0) hx hb dX3_isUnder_2 rfl ?_
  refine lv_istore_n (lv' := [(3, .int 0), (2, .int a1), (0, .int a1), (1, .int a2)]) hx hb dX3_isUnder_3 rfl hl (by decide) rfl (fun ls hl => ?_)
  have hK_4 : ∀ (v2_4 : Int32) (v3_4 : Int32) (w_4 : fg_W) (H : Heap) (locs : List Loc) (ls : Array Slot), fg_H D g s.heap w_4 H locs → lv_has ls 4 [(0, .int a1), (1, .int a2), (2, .int v2_4), (3, .int v3_4)] → (if v2_4 = a2 then (some (1, w_4)) else (some (0, w_4))) = some (r, w') → fg_Gi p l e 1 20 s m [.int a1, .int a2] below meth c D g r w' H locs 30 ls [] := by
    intro v2_4 v3_4 w_4 H locs ls h hl hf
    refine lv_iload_n hx hb dX3_isUnder_30 rfl (lv_at hl 2 rfl) ?_
    refine lv_iload_n hx hb dX3_isUnder_31 rfl (lv_at hl 1 rfl) ?_
    refine lv_icmp_ne (tgt := 39) hx hb dX3_isUnder_32 (by decide) (fun hc => ?_) (fun hc => ?_)
    · have hf := fg_ifF hf hc
      refine lv_iconst (v := 0) hx hb dX3_isUnder_39 rfl ?_
      exact fg_retz hx hb hr hlk hK h hf (by decide) dX3_isUnder_40
    · have hf := fg_ifT hf hc
      refine lv_iconst (v := 1) hx hb dX3_isUnder_35 rfl ?_
      refine lv_goto (tgt := 40) hx hb dX3_isUnder_36 (by decide) ?_
      exact fg_retz hx hb hr hlk hK h hf (by decide) dX3_isUnder_40
  have hL_4 : ∀ (KK_4 : Int32 → Int32 → fg_W → Option (Int32 × fg_W)) (hK_4 : ∀ (v2_4 : Int32) (v3_4 : Int32) (w_4 : fg_W) (H : Heap) (locs : List Loc) (ls : Array Slot), fg_H D g s.heap w_4 H locs → lv_has ls 4 [(0, .int a1), (1, .int a2), (2, .int v2_4), (3, .int v3_4)] → KK_4 v2_4 v3_4 w_4 = some (r, w') → fg_Gi p l e 1 20 s m [.int a1, .int a2] below meth c D g r w' H locs 30 ls []) (n : Nat) (v2_4 : Int32) (v3_4 : Int32) (w_4 : fg_W) (H : Heap) (locs : List Loc) (ls : Array Slot), fg_H D g s.heap w_4 H locs → lv_has ls 4 [(0, .int a1), (1, .int a2), (2, .int v2_4), (3, .int v3_4)] → f_X3_isUnder_L4 a2 KK_4 n v2_4 v3_4 w_4 = some (r, w') → fg_Gi p l e 1 20 s m [.int a1, .int a2] below meth c D g r w' H locs 4 ls [] := by
    intro KK_4 hK_4 n
    induction n with
    | zero => intro v2_4 v3_4 w_4 H locs ls h hl hf; exact fg_no hf
    | succ n_4 ih_4 =>
      intro v2_4 v3_4 w_4 H locs ls h hl hf
      unfold f_X3_isUnder_L4 at hf
      refine lv_iload_n hx hb dX3_isUnder_4 rfl (lv_at hl 3 rfl) ?_
      refine lv_bipush (v := 7) hx hb dX3_isUnder_5 rfl ?_
      refine lv_icmp_ge (tgt := 30) hx hb dX3_isUnder_7 (by decide) (fun hc => ?_) (fun hc => ?_)
      · have hf := fg_ifT hf hc
        exact hK_4 v2_4 v3_4 w_4 _ _ ls h (lv_sub hl [0, 1, 2, 3] rfl) hf
      · have hf := fg_ifF hf hc
        refine lv_iload_n hx hb dX3_isUnder_10 rfl (lv_at hl 2 rfl) ?_
        refine lv_iload_n hx hb dX3_isUnder_11 rfl (lv_at hl 1 rfl) ?_
        refine lv_icmp_eq (tgt := 30) hx hb dX3_isUnder_12 (by decide) (fun hc => ?_) (fun hc => ?_)
        · have hf := fg_ifT hf hc
          exact hK_4 v2_4 v3_4 w_4 _ _ ls h (lv_sub hl [0, 1, 2, 3] rfl) hf
        · have hf := fg_ifF hf hc
          refine lv_iload_n hx hb dX3_isUnder_15 rfl (lv_at hl 2 rfl) ?_
          refine lv_if_lt (tgt := 30) hx hb dX3_isUnder_16 (by decide) (fun hc => ?_) (fun hc => ?_)
          · have hf := fg_ifT hf hc
            exact hK_4 v2_4 v3_4 w_4 _ _ ls h (lv_sub hl [0, 1, 2, 3] rfl) hf
          · have hf := fg_ifF hf hc
            refine lv_iload_n hx hb dX3_isUnder_19 rfl (lv_at hl 2 rfl) ?_
            obtain ⟨r6, w4, hc5, hf⟩ := fg_biE hf
            refine fg_ci h (fg_runS (rest := []) S hK h (c_X3_kindAbove l D g v2_4  w_4 r6 w4 hc5) vk_X3_kindAbove vm_RX3_229 vs_X3_kindAbove vi_RX3 vd_X3_kindAbove.2 ⟨by decide, by decide⟩ rfl hl.1 rfl (Nat.le_of_ble_eq_true rfl) dX3_isUnder_20 ⟨Nat.zero_le _, Nat.zero_le _⟩) (fun H locs h => ?_)
            refine lv_istore_n (lv' := [(2, .int r6), (0, .int a1), (1, .int a2), (3, .int v3_4)]) hx hb dX3_isUnder_23 rfl hl (by decide) rfl (fun ls hl => ?_)
            refine lv_iinc (v := (v3_4 + 1)) (lv' := [(3, .int (v3_4 + 1)), (2, .int r6), (0, .int a1), (1, .int a2)]) hx hb dX3_isUnder_24 hl (k := 3) rfl rfl (by decide) rfl (fun ls hl => ?_)
            refine lv_goto (tgt := 4) hx hb dX3_isUnder_27 (by decide) ?_
            exact ih_4 r6 (v3_4 + 1) w4 _ _ ls h (lv_sub hl [2, 3, 1, 0] rfl) hf
  exact hL_4 _ hK_4 fg_fuel a1 0 w _ _ ls h (lv_sub hl [2, 3, 1, 0] rfl) hf
set_option maxHeartbeats 4000000 in
set_option maxRecDepth 100000 in
theorem c_X0_begin (l : Launch) (D : va_G) (g : fg_G) (i : Nat) (a1 : Int32) (a2 : Int32) (hi : i < 4) (w : fg_W) (w' : fg_W) (hf : f_X0_begin i a1 a2 w = some w') : fg_M l yX0_begin cX0_begin 4 none 0 0 D g [.ref (g.1 0 i 0), .int a1, .int a2] w (fg_Qv D g w') := by
  refine fg_M.of rfl (Nat.le_of_ble_eq_true rfl) (fun p e s m below meth c ls S hr hlk hK h hl => ?_)
  have hx := S.1
  have hb := S.2.1
  have hl : lv_has ls 4 [(0, .ref (g.1 0 i 0)), (1, .int a1), (2, .int a2)] := hl
  unfold f_X0_begin at hf
  refine lv_aload_n hx hb dX0_begin_0 rfl (lv_at hl 0 rfl) ?_
  refine lv_iload_n hx hb dX0_begin_1 rfl (lv_at hl 1 rfl) ?_
  refine fg_putI (C := RX0) (T := TX0) (N := 3) (fs := (fg_f0 g i)) S vu_X0 tyX0 tyX0_ok nmX0 hK h (fg_p0_0 hi) (fun _ _ => rfl) rfl 0 (by decide) vf_RX0_9 rfl rfl (tyX0_ok 0 (by decide)) rfl rfl (fun _ => Nat.le_of_ble_eq_true rfl) (fun _ => rfl) dX0_begin_2 (fun w1 H locs ew h => ?_)
  have hf := fg_letE ew hf
  refine lv_aload_n hx hb dX0_begin_5 rfl (lv_at hl 0 rfl) ?_
  refine lv_iload_n hx hb dX0_begin_6 rfl (lv_at hl 1 rfl) ?_
  refine lv_if_ne (tgt := 14) hx hb dX0_begin_7 (by decide) (fun hc => ?_) (fun hc => ?_)
  · have hf := fg_ifF hf hc
    refine lv_iload_n hx hb dX0_begin_14 rfl (lv_at hl 2 rfl) ?_
    refine fg_putI (C := RX0) (T := TX0) (N := 3) (fs := (fg_f0 g i)) S vu_X0 tyX0 tyX0_ok nmX0 hK h (fg_p0_0 hi) (fun _ _ => rfl) rfl 1 (by decide) vf_RX0_15 rfl rfl (tyX0_ok 1 (by decide)) rfl rfl (fun _ => Nat.le_of_ble_eq_true rfl) (fun _ => rfl) dX0_begin_15 (fun w2 H locs ew h => ?_)
    have hf := fg_letE ew hf
    refine lv_iconst (v := 0) hx hb dX0_begin_18 rfl ?_
    refine lv_istore_n (lv' := [(3, .int 0), (0, .ref (g.1 0 i 0)), (1, .int a1), (2, .int a2)]) hx hb dX0_begin_19 rfl hl (by decide) rfl (fun ls hl => ?_)
    have hK_20 : ∀ (v3_20 : Int32) (w_20 : fg_W) (H : Heap) (locs : List Loc) (ls : Array Slot), fg_H D g s.heap w_20 H locs → lv_has ls 4 [(0, .ref (g.1 0 i 0)), (1, .int a1), (2, .int a2), (3, .int v3_20)] → (some w_20) = some w' → fg_Gv p l e 0 0 s m [.ref (g.1 0 i 0), .int a1, .int a2] below meth c D g w' H locs 39 ls [] := by
      intro v3_20 w_20 H locs ls h hl hf
      exact fg_retv hx hb hr hlk hK h hf dX0_begin_39
    have hL_20 : ∀ (KK_20 : Int32 → fg_W → Option fg_W) (hK_20 : ∀ (v3_20 : Int32) (w_20 : fg_W) (H : Heap) (locs : List Loc) (ls : Array Slot), fg_H D g s.heap w_20 H locs → lv_has ls 4 [(0, .ref (g.1 0 i 0)), (1, .int a1), (2, .int a2), (3, .int v3_20)] → KK_20 v3_20 w_20 = some w' → fg_Gv p l e 0 0 s m [.ref (g.1 0 i 0), .int a1, .int a2] below meth c D g w' H locs 39 ls []) (n : Nat) (v3_20 : Int32) (w_20 : fg_W) (H : Heap) (locs : List Loc) (ls : Array Slot), fg_H D g s.heap w_20 H locs → lv_has ls 4 [(0, .ref (g.1 0 i 0)), (1, .int a1), (2, .int a2), (3, .int v3_20)] → f_X0_begin_L20 i KK_20 n v3_20 w_20 = some w' → fg_Gv p l e 0 0 s m [.ref (g.1 0 i 0), .int a1, .int a2] below meth c D g w' H locs 20 ls [] := by
      intro KK_20 hK_20 n
      induction n with
      | zero => intro v3_20 w_20 H locs ls h hl hf; exact fg_no hf
      | succ n_20 ih_20 =>
        intro v3_20 w_20 H locs ls h hl hf
        unfold f_X0_begin_L20 at hf
        refine lv_iload_n hx hb dX0_begin_20 rfl (lv_at hl 3 rfl) ?_
        refine lv_bipush (v := 40) hx hb dX0_begin_21 rfl ?_
        refine lv_icmp_ge (tgt := 39) hx hb dX0_begin_23 (by decide) (fun hc => ?_) (fun hc => ?_)
        · have hf := fg_ifT hf hc
          exact hK_20 v3_20 w_20 _ _ ls h (lv_sub hl [0, 1, 2, 3] rfl) hf
        · have hf := fg_ifF hf hc
          refine lv_aload_n hx hb dX0_begin_26 rfl (lv_at hl 0 rfl) ?_
          refine fg_get (C := RX0) (T := TX0) (N := 3) S vu_X0 hK h (fg_p0_0 hi) rfl rfl 2 (by decide) vf_RX0_18 rfl rfl dX0_begin_27 ?_
          refine lv_iload_n hx hb dX0_begin_30 rfl (lv_at hl 3 rfl) ?_
          refine lv_iconst (v := 0) hx hb dX0_begin_31 rfl ?_
          obtain ⟨hn6, hf⟩ := fg_gdE hf
          refine fg_iast hx hb hK h (fg_p0_1 hi) (fun _ => rfl) hn6 dX0_begin_32 (fun w5 H locs ew h => ?_)
          have hf := fg_letE ew hf
          refine lv_iinc (v := (v3_20 + 1)) (lv' := [(3, .int (v3_20 + 1)), (0, .ref (g.1 0 i 0)), (1, .int a1), (2, .int a2)]) hx hb dX0_begin_33 hl (k := 3) rfl rfl (by decide) rfl (fun ls hl => ?_)
          refine lv_goto (tgt := 20) hx hb dX0_begin_36 (by decide) ?_
          exact ih_20 (v3_20 + 1) w5 _ _ ls h (lv_sub hl [1, 2, 3, 0] rfl) hf
    exact hL_20 _ hK_20 fg_fuel 0 w2 _ _ ls h (lv_sub hl [1, 2, 3, 0] rfl) hf
  · have hf := fg_ifT hf hc
    refine lv_iconst (v := 0) hx hb dX0_begin_10 rfl ?_
    refine lv_goto (tgt := 15) hx hb dX0_begin_11 (by decide) ?_
    refine fg_putI (C := RX0) (T := TX0) (N := 3) (fs := (fg_f0 g i)) S vu_X0 tyX0 tyX0_ok nmX0 hK h (fg_p0_0 hi) (fun _ _ => rfl) rfl 1 (by decide) vf_RX0_15 rfl rfl (tyX0_ok 1 (by decide)) rfl rfl (fun _ => Nat.le_of_ble_eq_true rfl) (fun _ => rfl) dX0_begin_15 (fun w7 H locs ew h => ?_)
    have hf := fg_letE ew hf
    refine lv_iconst (v := 0) hx hb dX0_begin_18 rfl ?_
    refine lv_istore_n (lv' := [(3, .int 0), (0, .ref (g.1 0 i 0)), (1, .int a1), (2, .int a2)]) hx hb dX0_begin_19 rfl hl (by decide) rfl (fun ls hl => ?_)
    have hK_20 : ∀ (v3_20 : Int32) (w_20 : fg_W) (H : Heap) (locs : List Loc) (ls : Array Slot), fg_H D g s.heap w_20 H locs → lv_has ls 4 [(0, .ref (g.1 0 i 0)), (1, .int a1), (2, .int a2), (3, .int v3_20)] → (some w_20) = some w' → fg_Gv p l e 0 0 s m [.ref (g.1 0 i 0), .int a1, .int a2] below meth c D g w' H locs 39 ls [] := by
      intro v3_20 w_20 H locs ls h hl hf
      exact fg_retv hx hb hr hlk hK h hf dX0_begin_39
    have hL_20 : ∀ (KK_20 : Int32 → fg_W → Option fg_W) (hK_20 : ∀ (v3_20 : Int32) (w_20 : fg_W) (H : Heap) (locs : List Loc) (ls : Array Slot), fg_H D g s.heap w_20 H locs → lv_has ls 4 [(0, .ref (g.1 0 i 0)), (1, .int a1), (2, .int a2), (3, .int v3_20)] → KK_20 v3_20 w_20 = some w' → fg_Gv p l e 0 0 s m [.ref (g.1 0 i 0), .int a1, .int a2] below meth c D g w' H locs 39 ls []) (n : Nat) (v3_20 : Int32) (w_20 : fg_W) (H : Heap) (locs : List Loc) (ls : Array Slot), fg_H D g s.heap w_20 H locs → lv_has ls 4 [(0, .ref (g.1 0 i 0)), (1, .int a1), (2, .int a2), (3, .int v3_20)] → f_X0_begin_L20 i KK_20 n v3_20 w_20 = some w' → fg_Gv p l e 0 0 s m [.ref (g.1 0 i 0), .int a1, .int a2] below meth c D g w' H locs 20 ls [] := by
      intro KK_20 hK_20 n
      induction n with
      | zero => intro v3_20 w_20 H locs ls h hl hf; exact fg_no hf
      | succ n_20 ih_20 =>
        intro v3_20 w_20 H locs ls h hl hf
        unfold f_X0_begin_L20 at hf
        refine lv_iload_n hx hb dX0_begin_20 rfl (lv_at hl 3 rfl) ?_
        refine lv_bipush (v := 40) hx hb dX0_begin_21 rfl ?_
        refine lv_icmp_ge (tgt := 39) hx hb dX0_begin_23 (by decide) (fun hc => ?_) (fun hc => ?_)
        · have hf := fg_ifT hf hc
          exact hK_20 v3_20 w_20 _ _ ls h (lv_sub hl [0, 1, 2, 3] rfl) hf
        · have hf := fg_ifF hf hc
          refine lv_aload_n hx hb dX0_begin_26 rfl (lv_at hl 0 rfl) ?_
          refine fg_get (C := RX0) (T := TX0) (N := 3) S vu_X0 hK h (fg_p0_0 hi) rfl rfl 2 (by decide) vf_RX0_18 rfl rfl dX0_begin_27 ?_
          refine lv_iload_n hx hb dX0_begin_30 rfl (lv_at hl 3 rfl) ?_
          refine lv_iconst (v := 0) hx hb dX0_begin_31 rfl ?_
          obtain ⟨hn9, hf⟩ := fg_gdE hf
          refine fg_iast hx hb hK h (fg_p0_1 hi) (fun _ => rfl) hn9 dX0_begin_32 (fun w8 H locs ew h => ?_)
          have hf := fg_letE ew hf
          refine lv_iinc (v := (v3_20 + 1)) (lv' := [(3, .int (v3_20 + 1)), (0, .ref (g.1 0 i 0)), (1, .int a1), (2, .int a2)]) hx hb dX0_begin_33 hl (k := 3) rfl rfl (by decide) rfl (fun ls hl => ?_)
          refine lv_goto (tgt := 20) hx hb dX0_begin_36 (by decide) ?_
          exact ih_20 (v3_20 + 1) w8 _ _ ls h (lv_sub hl [1, 2, 3, 0] rfl) hf
    exact hL_20 _ hK_20 fg_fuel 0 w7 _ _ ls h (lv_sub hl [1, 2, 3, 0] rfl) hf
set_option maxHeartbeats 4000000 in
set_option maxRecDepth 100000 in
theorem c_X0_put (l : Launch) (D : va_G) (g : fg_G) (i : Nat) (a1 : Int32) (a2 : Int32) (hi : i < 4) (w : fg_W) (w' : fg_W) (hf : f_X0_put i a1 a2 w = some w') : fg_M l yX0_put cX0_put 3 none 0 0 D g [.ref (g.1 0 i 0), .int a1, .int a2] w (fg_Qv D g w') := by
  refine fg_M.of rfl (Nat.le_of_ble_eq_true rfl) (fun p e s m below meth c ls S hr hlk hK h hl => ?_)
  have hx := S.1
  have hb := S.2.1
  have hl : lv_has ls 3 [(0, .ref (g.1 0 i 0)), (1, .int a1), (2, .int a2)] := hl
  unfold f_X0_put at hf
  refine lv_aload_n hx hb dX0_put_0 rfl (lv_at hl 0 rfl) ?_
  refine fg_get (C := RX0) (T := TX0) (N := 3) S vu_X0 hK h (fg_p0_0 hi) rfl rfl 0 (by decide) vf_RX0_9 rfl rfl dX0_put_1 ?_
  refine lv_bipush (v := 8) hx hb dX0_put_4 rfl ?_
  refine lv_icmp_ne (tgt := 20) hx hb dX0_put_6 (by decide) (fun hc => ?_) (fun hc => ?_)
  · have hf := fg_ifF hf hc
    refine lv_aload_n hx hb dX0_put_20 rfl (lv_at hl 0 rfl) ?_
    refine fg_get (C := RX0) (T := TX0) (N := 3) S vu_X0 hK h (fg_p0_0 hi) rfl rfl 0 (by decide) vf_RX0_9 rfl rfl dX0_put_21 ?_
    refine lv_bipush (v := 16) hx hb dX0_put_24 rfl ?_
    refine lv_icmp_ne (tgt := 40) hx hb dX0_put_26 (by decide) (fun hc => ?_) (fun hc => ?_)
    · have hf := fg_ifF hf hc
      refine lv_aload_n hx hb dX0_put_40 rfl (lv_at hl 0 rfl) ?_
      refine fg_get (C := RX0) (T := TX0) (N := 3) S vu_X0 hK h (fg_p0_0 hi) rfl rfl 2 (by decide) vf_RX0_18 rfl rfl dX0_put_41 ?_
      refine lv_iload_n hx hb dX0_put_44 rfl (lv_at hl 1 rfl) ?_
      refine lv_iload_n hx hb dX0_put_45 rfl (lv_at hl 2 rfl) ?_
      obtain ⟨hn2, hf⟩ := fg_gdE hf
      refine fg_iast hx hb hK h (fg_p0_1 hi) (fun _ => rfl) hn2 dX0_put_46 (fun w1 H locs ew h => ?_)
      have hf := fg_letE ew hf
      exact fg_retv hx hb hr hlk hK h hf dX0_put_47
    · have hf := fg_ifT hf hc
      refine lv_aload_n hx hb dX0_put_29 rfl (lv_at hl 0 rfl) ?_
      refine fg_get (C := RX0) (T := TX0) (N := 3) S vu_X0 hK h (fg_p0_0 hi) rfl rfl 2 (by decide) vf_RX0_18 rfl rfl dX0_put_30 ?_
      refine lv_iload_n hx hb dX0_put_33 rfl (lv_at hl 1 rfl) ?_
      refine lv_iload_n hx hb dX0_put_34 rfl (lv_at hl 2 rfl) ?_
      refine lv_i2s hx hb dX0_put_35 rfl ?_
      obtain ⟨hn4, hf⟩ := fg_gdE hf
      refine fg_iast hx hb hK h (fg_p0_1 hi) (fun _ => rfl) hn4 dX0_put_36 (fun w3 H locs ew h => ?_)
      have hf := fg_letE ew hf
      refine lv_goto (tgt := 47) hx hb dX0_put_37 (by decide) ?_
      exact fg_retv hx hb hr hlk hK h hf dX0_put_47
  · have hf := fg_ifT hf hc
    refine lv_aload_n hx hb dX0_put_9 rfl (lv_at hl 0 rfl) ?_
    refine fg_get (C := RX0) (T := TX0) (N := 3) S vu_X0 hK h (fg_p0_0 hi) rfl rfl 2 (by decide) vf_RX0_18 rfl rfl dX0_put_10 ?_
    refine lv_iload_n hx hb dX0_put_13 rfl (lv_at hl 1 rfl) ?_
    refine lv_iload_n hx hb dX0_put_14 rfl (lv_at hl 2 rfl) ?_
    refine lv_i2b hx hb dX0_put_15 rfl ?_
    obtain ⟨hn6, hf⟩ := fg_gdE hf
    refine fg_iast hx hb hK h (fg_p0_1 hi) (fun _ => rfl) hn6 dX0_put_16 (fun w5 H locs ew h => ?_)
    have hf := fg_letE ew hf
    refine lv_goto (tgt := 47) hx hb dX0_put_17 (by decide) ?_
    exact fg_retv hx hb hr hlk hK h hf dX0_put_47
set_option maxHeartbeats 4000000 in
set_option maxRecDepth 100000 in
theorem c_X0_has (l : Launch) (D : va_G) (g : fg_G) (i : Nat) (a1 : Int32) (a2 : Int32) (hi : i < 4) (w : fg_W) (r : Int32) (w' : fg_W) (hf : f_X0_has i a1 a2 w = some (r, w')) : fg_M l yX0_has cX0_has 3 (some .boolean) 0 0 D g [.ref (g.1 0 i 0), .int a1, .int a2] w (fg_Qi D g r w') := by
  refine fg_M.of rfl (Nat.le_of_ble_eq_true rfl) (fun p e s m below meth c ls S hr hlk hK h hl => ?_)
  have hx := S.1
  have hb := S.2.1
  have hl : lv_has ls 3 [(0, .ref (g.1 0 i 0)), (1, .int a1), (2, .int a2)] := hl
  unfold f_X0_has at hf
  refine lv_iload_n hx hb dX0_has_0 rfl (lv_at hl 1 rfl) ?_
  refine lv_if_lt (tgt := 30) hx hb dX0_has_1 (by decide) (fun hc => ?_) (fun hc => ?_)
  · have hf := fg_ifT hf hc
    refine lv_iconst (v := 0) hx hb dX0_has_30 rfl ?_
    exact fg_retz hx hb hr hlk hK h hf (by decide) dX0_has_31
  · have hf := fg_ifF hf hc
    refine lv_iload_n hx hb dX0_has_4 rfl (lv_at hl 2 rfl) ?_
    refine lv_if_lt (tgt := 30) hx hb dX0_has_5 (by decide) (fun hc => ?_) (fun hc => ?_)
    · have hf := fg_ifT hf hc
      refine lv_iconst (v := 0) hx hb dX0_has_30 rfl ?_
      exact fg_retz hx hb hr hlk hK h hf (by decide) dX0_has_31
    · have hf := fg_ifF hf hc
      refine lv_iload_n hx hb dX0_has_8 rfl (lv_at hl 1 rfl) ?_
      refine lv_aload_n hx hb dX0_has_9 rfl (lv_at hl 0 rfl) ?_
      refine fg_get (C := RX0) (T := TX0) (N := 3) S vu_X0 hK h (fg_p0_0 hi) rfl rfl 1 (by decide) vf_RX0_15 rfl rfl dX0_has_10 ?_
      refine lv_icmp_gt (tgt := 30) hx hb dX0_has_13 (by decide) (fun hc => ?_) (fun hc => ?_)
      · have hf := fg_ifT hf hc
        refine lv_iconst (v := 0) hx hb dX0_has_30 rfl ?_
        exact fg_retz hx hb hr hlk hK h hf (by decide) dX0_has_31
      · have hf := fg_ifF hf hc
        refine lv_iload_n hx hb dX0_has_16 rfl (lv_at hl 2 rfl) ?_
        refine lv_aload_n hx hb dX0_has_17 rfl (lv_at hl 0 rfl) ?_
        refine fg_get (C := RX0) (T := TX0) (N := 3) S vu_X0 hK h (fg_p0_0 hi) rfl rfl 1 (by decide) vf_RX0_15 rfl rfl dX0_has_18 ?_
        refine lv_iload_n hx hb dX0_has_21 rfl (lv_at hl 1 rfl) ?_
        refine lv_isub hx hb dX0_has_22 ?_
        refine lv_icmp_gt (tgt := 30) hx hb dX0_has_23 (by decide) (fun hc => ?_) (fun hc => ?_)
        · have hf := fg_ifT hf hc
          refine lv_iconst (v := 0) hx hb dX0_has_30 rfl ?_
          exact fg_retz hx hb hr hlk hK h hf (by decide) dX0_has_31
        · have hf := fg_ifF hf hc
          refine lv_iconst (v := 1) hx hb dX0_has_26 rfl ?_
          refine lv_goto (tgt := 31) hx hb dX0_has_27 (by decide) ?_
          exact fg_retz hx hb hr hlk hK h hf (by decide) dX0_has_31
