set_option maxHeartbeats 4000000 in
set_option maxRecDepth 100000 in
theorem c_X3_text (l : Launch) (D : va_G) (g : fg_G)  (w : fg_W) (r : Int32) (w' : fg_W) (hf : f_X3_text  w = some (r, w')) : fg_M l yX3_text cX3_text 2 (some .int) 10 232 D g [.ref (g.1 3 0 0)] w (fg_Qi D g r w') := by
  refine fg_M.of rfl (Nat.le_of_ble_eq_true rfl) (fun p e s m below meth c ls S hr hlk hK h hl => ?_)
  have hx := S.1
  have hb := S.2.1
  have hl : lv_has ls 2 [(0, .ref (g.1 3 0 0))] := hl
  unfold f_X3_text at hf
  refine lv_aload_n hx hb dX3_text_0 rfl (lv_at hl 0 rfl) ?_
  refine fg_get (C := RX3) (T := TX3) (N := 7) S vu_X3 hK h fg_p3_0 rfl rfl 1 (by decide) vf_RX3_16 rfl rfl dX3_text_1 ?_
  refine lv_aload_n hx hb dX3_text_4 rfl (lv_at hl 0 rfl) ?_
  refine fg_get (C := RX3) (T := TX3) (N := 7) S vu_X3 hK h fg_p3_0 rfl rfl 0 (by decide) vf_RX3_10 rfl rfl dX3_text_5 ?_
  obtain ⟨w1, hc2, hf⟩ := fg_bvE hf
  refine fg_cv h (fg_runV (rest := []) S hK h (c_X2_become l D g 1 0 (by decide) (by decide) w w1 hc2) vg_RX3_144 vd_X2_become ⟨by decide, by decide⟩ (fg_p2_0 (by decide)) rfl rfl rfl hl.1 rfl (Nat.le_of_ble_eq_true rfl) dX3_text_8 ⟨Nat.zero_le _, Nat.zero_le _⟩) (fun H locs h => ?_)
  refine lv_aload_n hx hb dX3_text_11 rfl (lv_at hl 0 rfl) ?_
  refine fg_get (C := RX3) (T := TX3) (N := 7) S vu_X3 hK h fg_p3_0 rfl rfl 4 (by decide) vf_RX3_29 rfl rfl dX3_text_12 ?_
  refine lv_aload_n hx hb dX3_text_15 rfl (lv_at hl 0 rfl) ?_
  refine fg_get (C := RX3) (T := TX3) (N := 7) S vu_X3 hK h fg_p3_0 rfl rfl 1 (by decide) vf_RX3_16 rfl rfl dX3_text_16 ?_
  obtain ⟨r5, w3, hc4, hf⟩ := fg_biE hf
  refine fg_ci h (fg_runV (rest := []) S hK h (c_X1_tellTo l D g 1 (by decide) w1 r5 w3 hc4) vg_RX3_182 vd_X1_tellTo ⟨by decide, by decide⟩ fg_p1_0 rfl rfl rfl hl.1 rfl (Nat.le_of_ble_eq_true rfl) dX3_text_19 ⟨Nat.zero_le _, Nat.zero_le _⟩) (fun H locs h => ?_)
  refine lv_istore_n (lv' := [(1, .int r5), (0, .ref (g.1 3 0 0))]) hx hb dX3_text_22 rfl hl (by decide) rfl (fun ls hl => ?_)
  refine lv_aload_n hx hb dX3_text_23 rfl (lv_at hl 1 rfl) ?_
  refine fg_get (C := RX3) (T := TX3) (N := 7) S vu_X3 hK h fg_p3_0 rfl rfl 4 (by decide) vf_RX3_29 rfl rfl dX3_text_24 ?_
  refine lv_iconst (v := 0) hx hb dX3_text_27 rfl ?_
  refine fg_putI (C := RX1) (T := TX1) (N := 7) (fs := (fg_f1 g 0)) S vu_X1 tyX1 tyX1_ok nmX1 hK h fg_p1_0 (fun _ _ => rfl) rfl 1 (by decide) vf_RX3_176 rfl rfl (tyX1_ok 1 (by decide)) rfl rfl (fun _ => Nat.le_of_ble_eq_true rfl) (fun _ => rfl) dX3_text_28 (fun w6 H locs ew h => ?_)
  have hf := fg_letE ew hf
  refine lv_aload_n hx hb dX3_text_31 rfl (lv_at hl 1 rfl) ?_
  refine fg_get (C := RX3) (T := TX3) (N := 7) S vu_X3 hK h fg_p3_0 rfl rfl 4 (by decide) vf_RX3_29 rfl rfl dX3_text_32 ?_
  refine fg_get (C := RX1) (T := TX1) (N := 7) S vu_X1 hK h fg_p1_0 rfl rfl 2 (by decide) vf_RX3_186 rfl rfl dX3_text_35 ?_
  refine lv_if_lt (tgt := 51) hx hb dX3_text_38 (by decide) (fun hc => ?_) (fun hc => ?_)
  · have hf := fg_ifT hf hc
    refine lv_aload_n hx hb dX3_text_51 rfl (lv_at hl 1 rfl) ?_
    refine fg_get (C := RX3) (T := TX3) (N := 7) S vu_X3 hK h fg_p3_0 rfl rfl 0 (by decide) vf_RX3_10 rfl rfl dX3_text_52 ?_
    refine lv_aload_n hx hb dX3_text_55 rfl (lv_at hl 1 rfl) ?_
    refine fg_get (C := RX3) (T := TX3) (N := 7) S vu_X3 hK h fg_p3_0 rfl rfl 1 (by decide) vf_RX3_16 rfl rfl dX3_text_56 ?_
    obtain ⟨w7, hc8, hf⟩ := fg_bvE hf
    refine fg_cv h (fg_runV (rest := []) S hK h (c_X2_become l D g 0 1 (by decide) (by decide) w6 w7 hc8) vg_RX3_144 vd_X2_become ⟨by decide, by decide⟩ (fg_p2_0 (by decide)) rfl rfl rfl hl.1 rfl (Nat.le_of_ble_eq_true rfl) dX3_text_59 ⟨Nat.zero_le _, Nat.zero_le _⟩) (fun H locs h => ?_)
    refine lv_iload_n hx hb dX3_text_62 rfl (lv_at hl 0 rfl) ?_
    exact fg_reti hx hb hr hlk hK h hf dX3_text_63
  · have hf := fg_ifF hf hc
    refine lv_iconst (v := (-1)) hx hb dX3_text_41 rfl ?_
    refine lv_aload_n hx hb dX3_text_42 rfl (lv_at hl 1 rfl) ?_
    refine fg_get (C := RX3) (T := TX3) (N := 7) S vu_X3 hK h fg_p3_0 rfl rfl 4 (by decide) vf_RX3_29 rfl rfl dX3_text_43 ?_
    refine fg_get (C := RX1) (T := TX1) (N := 7) S vu_X1 hK h fg_p1_0 rfl rfl 2 (by decide) vf_RX3_186 rfl rfl dX3_text_46 ?_
    refine lv_isub hx hb dX3_text_49 ?_
    exact fg_reti hx hb hr hlk hK h hf dX3_text_50
