section FGS
variable {p : Program} {l : Launch} {e : Env} {R : Room} {s : State} {m : MethodId} {args : Array Value} {below : List Frame} {meth : Method} {c : Code} {H : Heap} {locs : List Loc} {cells slots : Nat} {Q : State → Prop}
variable {cc : ByteArray} {pc : Nat} {ls : Array Slot} {rest : List Value} {D : va_G} {g : fg_G} {w w' : fg_W} {own : String} {index nL maxL n fr lo sx : Nat} {y : MethodName} {bytes : ByteArray} {ret : Option FieldType} {As st0 : List Value}
theorem fg_rett {ty : FieldType} {r v : Int32} (hx : p.tables.exec = Jvm.exec) (hb : c.code = cc) (hr : meth.sig.returnType = some ty) (hlk : meth.locks = false) (hK : fg_KN D g s) (h : fg_H D g s.heap w H locs) (hf : some (v, w) = some (r, w')) (hn : narrow ty (.int v) = .int v) (hdg : decode cc pc = .ok (.ireturn, 1)) : W p l e R s m args below meth c H locs 0 0 (MQ below (fg_Qi D g r w' s.heap.size) args s 0 0 (fg_A g s.heap.size)) (F0 m pc ls [.int v]) := by
  cases hf
  exact W.zret hx hb hr hn (fun t ht hW => ⟨⟨_, _, rfl, ⟨rfl, rfl⟩, by rw [ht]; exact h.1, va_K.moved hW.alike hK.1⟩, h.2.2.F ht⟩) h.2.2.2.2 hdg hlk
theorem fg_runVs {Qc : Nat → Array Value → State → Outcome → State → Prop} (hsx : sx < 16) (S : CallFix p m c cc nL s args fg_TW own) (hK : fg_KN D g s) (h : fg_H D g s.heap w H locs) (hM : fg_M l y bytes maxL ret fr lo D g (.ref (g.2.2.2.2.1 sx) :: As) w Qc) (hG : GoodIn fg_TW (wsV own index RJ0 y (.code y bytes maxL ret :: fg_TW))) (hd : y.cls = RJ0 ∧ y.cls ≠ "java/lang/invoke/MethodHandle" ∧ y.cls ≠ "java/lang/invoke/VarHandle" ∧ (parseMethodDescriptor y.desc).map (fun d => d.parameters.length) = some n) (hR : fr + 1 ≤ R.frames ∧ 8 + (maxL + 11) + lo ≤ R.locals) (hn : As.length = n) (hl : ls.size = nL) (hst : st0 = As.reverse ++ .ref (g.2.2.2.2.1 sx) :: rest) (hW : (rest.map fun v => v.category).sum ≤ 8) (hdg : decode cc pc = .ok (.invokevirtual index, 3)) (hz : cells ≤ R.cells ∧ slots ≤ R.slots) :
    va_Run p l e R s m args below meth c H locs cells slots 0 0 (F0 m pc ls st0) rest (Qc H.size (Value.ref (g.2.2.2.2.1 sx) :: As).toArray) (fg_A g H.size) :=
  va_runV (As := As) (rest := rest) S (hM H.size) (cwV n S.2.2.2.2 hG rfl rfl rfl hd hR) ⟨fg_blind, vk_recv hK.2.2.2.2.1 hsx h.2.2, fg_pre hK h⟩ rfl hn hl hst (lv_room hW) hdg hz
end FGS
def fg_ch (i k : Nat) : Int32 := (fg_sb.getD i []).getD k 0 &&& 255
theorem fg_sn8 : ∀ i, i < 16 → fg_sn.getD i 0 ≤ 8 := by decide +kernel
theorem fg_chc : ∀ i, i < 16 → ∀ j, j < 8 → ((((fg_sb.getD i []).getD j 0) &&& 255).toUInt32 % 65536).toInt32 = fg_ch i j := by decide +kernel
theorem fg_shr0 {n : Nat} (h : n < 2 ^ 31) : nI n >>> ((0 : Int32) &&& 31) = nI n := by
  rw [pk_shrN h ((0 : Int32) &&& 31) 0 (by decide)]
  simp
set_option maxHeartbeats 4000000 in
theorem c_J0_coder (l : Launch) (D : va_G) (g : fg_G) (sx : Nat) (hsx : sx < 16) (w : fg_W) : fg_M l yJ0_coder_7d493 cJ0_coder_7d493 1 (some .byte) 0 0 D g [.ref (g.2.2.2.2.1 sx)] w (fg_Qi D g 0 w) := by
  refine fg_M.of rfl (Nat.le_of_ble_eq_true rfl) (fun p e s m below meth c ls S hr hlk hK h hl => ?_)
  have hx := S.1
  have hb := S.2.1
  have hl : lv_has ls 1 [(0, .ref (g.2.2.2.2.1 sx))] := hl
  refine va_gets hx hb hK.2.2.2.2.2.1 h.2.2 S.2.2.2.1 (S.2.2.2.2 _ vf_RJ0_38) (fun _ h9 => h9) dJ0_coder_7d493_0 ?_
  refine lv_if_eq (tgt := 13) hx hb dJ0_coder_7d493_3 (by decide) (fun hc => absurd hc (by decide)) (fun hc => ?_)
  refine lv_aload_n hx hb dJ0_coder_7d493_6 rfl (lv_at hl 0 rfl) ?_
  refine vk_getf hx hb (hK.2.2.2.2.1.1 sx hsx).2.1 h.2.2 S.2.2.2.1 (S.2.2.2.2 _ vf_RJ0_15) (fun _ h9 => h9) dJ0_coder_7d493_7 ?_
  refine lv_goto (tgt := 14) hx hb dJ0_coder_7d493_10 (by decide) ?_
  exact fg_rett hx hb hr hlk hK h rfl rfl dJ0_coder_7d493_14
set_option maxHeartbeats 4000000 in
theorem c_J0_isLatin1 (l : Launch) (D : va_G) (g : fg_G) (sx : Nat) (hsx : sx < 16) (w : fg_W) : fg_M l yJ0_isLatin1_aae02 cJ0_isLatin1_aae02 1 (some .boolean) 0 0 D g [.ref (g.2.2.2.2.1 sx)] w (fg_Qi D g 1 w) := by
  refine fg_M.of rfl (Nat.le_of_ble_eq_true rfl) (fun p e s m below meth c ls S hr hlk hK h hl => ?_)
  have hx := S.1
  have hb := S.2.1
  have hl : lv_has ls 1 [(0, .ref (g.2.2.2.2.1 sx))] := hl
  refine va_gets hx hb hK.2.2.2.2.2.1 h.2.2 S.2.2.2.1 (S.2.2.2.2 _ vf_RJ0_38) (fun _ h9 => h9) dJ0_isLatin1_aae02_0 ?_
  refine lv_if_eq (tgt := 17) hx hb dJ0_isLatin1_aae02_3 (by decide) (fun hc => absurd hc (by decide)) (fun hc => ?_)
  refine lv_aload_n hx hb dJ0_isLatin1_aae02_6 rfl (lv_at hl 0 rfl) ?_
  refine vk_getf hx hb (hK.2.2.2.2.1.1 sx hsx).2.1 h.2.2 S.2.2.2.1 (S.2.2.2.2 _ vf_RJ0_15) (fun _ h9 => h9) dJ0_isLatin1_aae02_7 ?_
  refine lv_if_ne (tgt := 17) hx hb dJ0_isLatin1_aae02_10 (by decide) (fun hc => absurd rfl hc) (fun hc => ?_)
  refine lv_iconst (v := 1) hx hb dJ0_isLatin1_aae02_13 rfl ?_
  refine lv_goto (tgt := 18) hx hb dJ0_isLatin1_aae02_14 (by decide) ?_
  exact fg_rett hx hb hr hlk hK h rfl rfl dJ0_isLatin1_aae02_18
set_option maxHeartbeats 4000000 in
theorem c_J0_length (l : Launch) (D : va_G) (g : fg_G) (sx : Nat) (hsx : sx < 16) (w : fg_W) : fg_M l yJ0_length_8abf5 cJ0_length_8abf5 1 (some .int) 1 20 D g [.ref (g.2.2.2.2.1 sx)] w (fg_Qi D g (nI (fg_sn.getD sx 0)) w) := by
  refine fg_M.of rfl (Nat.le_of_ble_eq_true rfl) (fun p e s m below meth c ls S hr hlk hK h hl => ?_)
  have hx := S.1
  have hb := S.2.1
  have h8 := fg_sn8 sx hsx
  have hl : lv_has ls 1 [(0, .ref (g.2.2.2.2.1 sx))] := hl
  refine lv_aload_n hx hb dJ0_length_8abf5_0 rfl (lv_at hl 0 rfl) ?_
  refine vk_getf hx hb (hK.2.2.2.2.1.1 sx hsx).2.2.1 h.2.2 S.2.2.2.1 (S.2.2.2.2 _ vf_RJ0_9) (fun _ h9 => h9) dJ0_length_8abf5_1 ?_
  refine va_tlen hx hb (hK.2.2.2.2.1.1 sx hsx).2.2.2 h.2.2 (v := nI (fg_sn.getD sx 0)) rfl dJ0_length_8abf5_4 ?_
  refine lv_aload_n hx hb dJ0_length_8abf5_5 rfl (lv_at hl 0 rfl) ?_
  refine fg_ci h (fg_runVs (rest := [.int (nI (fg_sn.getD sx 0))]) hsx S hK h (c_J0_coder l D g sx hsx w) (fg_gV vm_RJ0_335 vh_J0_coder_7d493 ve_J0_coder_7d493 vi_RJ0 vk_J0_coder_7d493) (n := 0) (by decide +kernel) ⟨by decide, by decide⟩ rfl hl.1 rfl (Nat.le_of_ble_eq_true rfl) dJ0_length_8abf5_6 ⟨Nat.zero_le _, Nat.zero_le _⟩) (fun H locs h => ?_)
  refine lv_ishr hx hb dJ0_length_8abf5_9 ?_
  rw [fg_shr0 (by omega)]
  exact fg_reti hx hb hr hlk hK h rfl dJ0_length_8abf5_10
set_option maxHeartbeats 4000000 in
theorem c_J3_checkIndex (l : Launch) (D : va_G) (g : fg_G) (N : Nat) (hN : N < 2 ^ 31) (x : Int32) (hin : vp_in x N) (v : Value) (hv : v = .null ∨ ∃ t, v = .ref t) (w : fg_W) : fg_M l yJ3_checkIndex_8e157 cJ3_checkIndex_8e157 3 (some .int) 0 0 D g [.int x, .int (nI N), v] w (fg_Qi D g x w) := by
  obtain ⟨j, hj, rfl⟩ := vp_in_of hin hN
  have hlen : (lg_sl [Value.int (nI j), Value.int (nI N), v]).length ≤ 3 := by
    rcases hv with rfl | ⟨t, rfl⟩ <;> exact Nat.le_of_ble_eq_true rfl
  refine fg_M.of rfl hlen (fun p e s m below meth c ls S hr hlk hK h hl => ?_)
  have hx := S.1
  have hb := S.2.1
  have hl : lv_has ls 3 [(0, .int (nI j)), (1, .int (nI N)), (2, v)] := hl
  refine lv_iload_n hx hb dJ3_checkIndex_8e157_0 rfl (lv_at hl 0 rfl) ?_
  refine lv_if_lt (tgt := 9) hx hb dJ3_checkIndex_8e157_1 (by decide) (fun hc => absurd hc (nI_pos (by omega))) (fun hc => ?_)
  refine lv_iload_n hx hb dJ3_checkIndex_8e157_4 rfl (lv_at hl 0 rfl) ?_
  refine lv_iload_n hx hb dJ3_checkIndex_8e157_5 rfl (lv_at hl 1 rfl) ?_
  refine lv_icmp_lt (tgt := 16) hx hb dJ3_checkIndex_8e157_6 (by decide) (fun hc => ?_) (fun hc => absurd (nI_lt hj hN) hc)
  refine lv_iload_n hx hb dJ3_checkIndex_8e157_16 rfl (lv_at hl 0 rfl) ?_
  exact fg_reti hx hb hr hlk hK h rfl dJ3_checkIndex_8e157_17
set_option maxHeartbeats 4000000 in
theorem c_J0_checkIndex (l : Launch) (D : va_G) (g : fg_G) (N : Nat) (hN : N < 2 ^ 31) (x : Int32) (hin : vp_in x N) (w : fg_W) : fg_M l yJ0_checkIndex_df160 cJ0_checkIndex_df160 2 none 1 22 D g [.int x, .int (nI N)] w (fg_Qv D g w) := by
  refine fg_M.of rfl (Nat.le_of_ble_eq_true rfl) (fun p e s m below meth c ls S hr hlk hK h hl => ?_)
  have hx := S.1
  have hb := S.2.1
  have hl : lv_has ls 2 [(0, .int x), (1, .int (nI N))] := hl
  refine lv_iload_n hx hb dJ0_checkIndex_df160_0 rfl (lv_at hl 0 rfl) ?_
  refine lv_iload_n hx hb dJ0_checkIndex_df160_1 rfl (lv_at hl 1 rfl) ?_
  have key : ∀ v : Value, (v = .null ∨ ∃ t, v = .ref t) → va_Z "jdk/internal/util/Preconditions" "SIOOBE_FORMATTER" "Ljava/util/function/BiFunction;" v (fg_A g s.heap.size) s s.heap → W p l e (fg_rm 1 22) s m [Value.int x, Value.int (nI N)].toArray below meth c s.heap [] 0 0 (MQ below (fg_Qv D g w s.heap.size) [Value.int x, Value.int (nI N)].toArray s 0 0 (fg_A g s.heap.size)) (F0 m 2 ls [.int (nI N), .int x]) := by
    intro v hv hz
    refine va_gets hx hb hz h.2.2 S.2.2.2.1 (S.2.2.2.2 _ vf_RJ0_1053) (fun _ h9 => h9) dJ0_checkIndex_df160_2 ?_
    refine fg_ci h (fg_runS (rest := []) S hK h (c_J3_checkIndex l D g N hN x hin v hv w) vk_J3_checkIndex_8e157 vm_RJ0_1059 vs_J3_checkIndex_8e157 vi_RJ3 (n := 3) (by decide +kernel) ⟨by decide, by decide⟩ rfl hl.1 rfl (Nat.le_of_ble_eq_true rfl) dJ0_checkIndex_df160_5 ⟨Nat.zero_le _, Nat.zero_le _⟩) (fun H locs h => ?_)
    refine lv_pop hx hb dJ0_checkIndex_df160_8 rfl ?_
    exact fg_retv hx hb hr hlk hK h rfl dJ0_checkIndex_df160_9
  rcases hK.2.2.2.2.2.2 with hz | ⟨t, hz⟩
  · exact key .null (Or.inl rfl) hz
  · exact key (.ref t) (Or.inr ⟨t, rfl⟩) hz
set_option maxHeartbeats 4000000 in
theorem c_J1_charAt (l : Launch) (D : va_G) (g : fg_G) (sx : Nat) (hsx : sx < 16) (x : Int32) (hin : vp_in x (fg_sn.getD sx 0)) (w : fg_W) : fg_M l yJ1_charAt_3b067 cJ1_charAt_3b067 2 (some .char) 2 43 D g [.ref (g.2.2.2.2.2 sx), .int x] w (fg_Qi D g (fg_ch sx x.toNatClampNeg) w) := by
  have h8 := fg_sn8 sx hsx
  refine fg_M.of rfl (Nat.le_of_ble_eq_true rfl) (fun p e s m below meth c ls S hr hlk hK h hl => ?_)
  have hx := S.1
  have hb := S.2.1
  have hl : lv_has ls 2 [(0, .ref (g.2.2.2.2.2 sx)), (1, .int x)] := hl
  refine lv_iload_n hx hb dJ1_charAt_3b067_0 rfl (lv_at hl 1 rfl) ?_
  refine lv_aload_n hx hb dJ1_charAt_3b067_1 rfl (lv_at hl 0 rfl) ?_
  refine va_tlen hx hb (hK.2.2.2.2.1.1 sx hsx).2.2.2 h.2.2 (v := nI (fg_sn.getD sx 0)) rfl dJ1_charAt_3b067_2 ?_
  refine fg_cv h (fg_runS (rest := []) S hK h (c_J0_checkIndex l D g (fg_sn.getD sx 0) (by omega) x hin w) vk_J0_checkIndex_df160 vm_RJ1_9 vs_J0_checkIndex_df160 vi_RJ0 (n := 2) (by decide +kernel) ⟨by decide, by decide⟩ rfl hl.1 rfl (Nat.le_of_ble_eq_true rfl) dJ1_charAt_3b067_3 ⟨Nat.zero_le _, Nat.zero_le _⟩) (fun H locs h => ?_)
  refine lv_aload_n hx hb dJ1_charAt_3b067_6 rfl (lv_at hl 0 rfl) ?_
  refine lv_iload_n hx hb dJ1_charAt_3b067_7 rfl (lv_at hl 1 rfl) ?_
  refine va_tb hx hb (hK.2.2.2.2.1.1 sx hsx).2.2.2 h.2.2 hin (v := .int ((fg_sb.getD sx []).getD x.toNatClampNeg 0)) rfl dJ1_charAt_3b067_8 ?_
  refine lv_sipush (v := 255) hx hb dJ1_charAt_3b067_9 rfl ?_
  refine lv_iand hx hb dJ1_charAt_3b067_12 ?_
  refine lv_i2c hx hb dJ1_charAt_3b067_13 rfl ?_
  have hj := fg_vlt hin
  have hnc := pk_nc (((fg_sb.getD sx []).getD x.toNatClampNeg 0) &&& 255)
  rw [fg_chc sx hsx x.toNatClampNeg (by omega)] at hnc ⊢
  exact fg_rett hx hb hr hlk hK h rfl hnc dJ1_charAt_3b067_14
set_option maxHeartbeats 4000000 in
theorem c_J0_charAt (l : Launch) (D : va_G) (g : fg_G) (sx : Nat) (hsx : sx < 16) (x : Int32) (hin : vp_in x (fg_sn.getD sx 0)) (w : fg_W) : fg_M l yJ0_charAt_5068e cJ0_charAt_5068e 2 (some .char) 3 64 D g [.ref (g.2.2.2.2.1 sx), .int x] w (fg_Qi D g (fg_ch sx x.toNatClampNeg) w) := by
  have h8 := fg_sn8 sx hsx
  refine fg_M.of rfl (Nat.le_of_ble_eq_true rfl) (fun p e s m below meth c ls S hr hlk hK h hl => ?_)
  have hx := S.1
  have hb := S.2.1
  have hl : lv_has ls 2 [(0, .ref (g.2.2.2.2.1 sx)), (1, .int x)] := hl
  refine lv_aload_n hx hb dJ0_charAt_5068e_0 rfl (lv_at hl 0 rfl) ?_
  refine fg_ci h (fg_runVs (rest := []) hsx S hK h (c_J0_isLatin1 l D g sx hsx w) (fg_gV vm_RJ0_492 vh_J0_isLatin1_aae02 ve_J0_isLatin1_aae02 vi_RJ0 vk_J0_isLatin1_aae02) (n := 0) (by decide +kernel) ⟨by decide, by decide⟩ rfl hl.1 rfl (Nat.le_of_ble_eq_true rfl) dJ0_charAt_5068e_1 ⟨Nat.zero_le _, Nat.zero_le _⟩) (fun H locs h => ?_)
  refine lv_if_eq (tgt := 16) hx hb dJ0_charAt_5068e_4 (by decide) (fun hc => absurd hc (by decide)) (fun hc => ?_)
  refine lv_aload_n hx hb dJ0_charAt_5068e_7 rfl (lv_at hl 0 rfl) ?_
  refine vk_getf hx hb (hK.2.2.2.2.1.1 sx hsx).2.2.1 h.2.2 S.2.2.2.1 (S.2.2.2.2 _ vf_RJ0_9) (fun _ h9 => h9) dJ0_charAt_5068e_8 ?_
  refine lv_iload_n hx hb dJ0_charAt_5068e_11 rfl (lv_at hl 1 rfl) ?_
  refine fg_ci h (fg_runS (rest := []) S hK h (c_J1_charAt l D g sx hsx x hin w) vk_J1_charAt_3b067 vm_RJ0_495 vs_J1_charAt_3b067 vi_RJ1 (n := 2) (by decide +kernel) ⟨by decide, by decide⟩ rfl hl.1 rfl (Nat.le_of_ble_eq_true rfl) dJ0_charAt_5068e_12 ⟨Nat.zero_le _, Nat.zero_le _⟩) (fun H locs h => ?_)
  have hj := fg_vlt hin
  have hnc := pk_nc (((fg_sb.getD sx []).getD x.toNatClampNeg 0) &&& 255)
  rw [fg_chc sx hsx x.toNatClampNeg (by omega)] at hnc
  exact fg_rett hx hb hr hlk hK h rfl hnc dJ0_charAt_5068e_15
section FGS2
variable {p : Program} {l : Launch} {e : Env} {R : Room} {s : State} {m : MethodId} {args : Array Value} {below : List Frame} {meth : Method} {c : Code} {H : Heap} {locs : List Loc} {Q : State → Prop}
variable {cc : ByteArray} {pc : Nat} {ls : Array Slot} {rest : List Value} {D : va_G} {g : fg_G} {w : fg_W} {own : String} {index nL sx : Nat}
theorem fg_strLen (S : CallFix p m c cc nL s args fg_TW own) (hK : fg_KN D g s) (h : fg_H D g s.heap w H locs) (hlk : Cond.methodLink own index yJ0_length_8abf5 ∈ fg_TW) (hsx : sx < 16) (hl : ls.size = nL) (hW : (rest.map fun v => v.category).sum ≤ 8) (hf : 5 ≤ R.frames) (ho : 120 ≤ R.locals) (hdg : decode cc pc = .ok (.invokevirtual index, 3))
    (kk : ∀ (H1 : Heap) (locs1 : List Loc), fg_H D g s.heap w H1 locs1 → W p l e R s m args below meth c H1 locs1 0 0 Q (F0 m (pc + 3) ls (.int (nI (fg_sn.getD sx 0)) :: rest))) : W p l e R s m args below meth c H locs 0 0 Q (F0 m pc ls (.ref (g.2.2.2.2.1 sx) :: rest)) :=
  fg_ci h (fg_runVs (rest := rest) hsx S hK h (c_J0_length l D g sx hsx w) (fg_gV hlk vh_J0_length_8abf5 ve_J0_length_8abf5 vi_RJ0 vk_J0_length_8abf5) (n := 0) (by decide +kernel) ⟨by omega, by omega⟩ rfl hl rfl hW hdg ⟨Nat.zero_le _, Nat.zero_le _⟩) kk
theorem fg_strAt (S : CallFix p m c cc nL s args fg_TW own) (hK : fg_KN D g s) (h : fg_H D g s.heap w H locs) (hlk : Cond.methodLink own index yJ0_charAt_5068e ∈ fg_TW) (hsx : sx < 16) {x : Int32} (hin : vp_in x (fg_sn.getD sx 0)) (hl : ls.size = nL) (hW : (rest.map fun v => v.category).sum ≤ 8) (hf : 5 ≤ R.frames) (ho : 120 ≤ R.locals) (hdg : decode cc pc = .ok (.invokevirtual index, 3))
    (kk : ∀ (H1 : Heap) (locs1 : List Loc), fg_H D g s.heap w H1 locs1 → W p l e R s m args below meth c H1 locs1 0 0 Q (F0 m (pc + 3) ls (.int (fg_ch sx x.toNatClampNeg) :: rest))) : W p l e R s m args below meth c H locs 0 0 Q (F0 m pc ls (.int x :: .ref (g.2.2.2.2.1 sx) :: rest)) :=
  fg_ci h (fg_runVs (As := [.int x]) (rest := rest) hsx S hK h (c_J0_charAt l D g sx hsx x hin w) (fg_gV hlk vh_J0_charAt_5068e ve_J0_charAt_5068e vi_RJ0 vk_J0_charAt_5068e) (n := 1) (by decide +kernel) ⟨by omega, by omega⟩ rfl hl rfl hW hdg ⟨Nat.zero_le _, Nat.zero_le _⟩) kk
end FGS2
