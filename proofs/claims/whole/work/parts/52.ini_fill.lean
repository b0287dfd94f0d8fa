set_option maxHeartbeats 4000000 in
theorem c_lays (l : Launch) (D : va_G) (cI cC cS : ClassId) (h0 a1 : Nat) (fs : List Value) (L : List Int32) (pa fa va : Int32) (k : Nat) (hin : ¬ ((10 + 3 * pa + fa) < 0 ∨ 90 ≤ (10 + 3 * pa + fa).toNatClampNeg)) (hk : (10 + 3 * pa + fa).toNatClampNeg = k) (hL : k < L.length) : in_M l yX4_lays1 cX4_lays1 4 0 0 0 0 D cI cC cS [.ref h0, .int pa, .int fa, .int va] [(h0, .inr (4, .ref a1 :: fs)), (a1, .inl (cI, 90, .inl (in_L L)))] (fun _ => [(h0, .inr (4, .ref a1 :: fs)), (a1, .inl (cI, 90, .inl (in_L (L.set k va))))]) := by
  refine in_M.of rfl (Nat.le_of_ble_eq_true rfl) (fun p e s m below meth c ls A S hr hlk _ hK hN h hl => ?_)
  have hl : lv_has ls 4 [(0, .ref h0), (1, .int pa), (2, .int fa), (3, .int va)] := hl
  refine lv_aload_n S.1 S.2.1 dX4_lays1_0 rfl (lv_at hl 0 rfl) ?_
  refine in_get (ci := 4) (C := RX4) (T := TX4) (N := 22) S vu_X4 hK h 0 rfl rfl 0 (by decide) vf_RX4_9 rfl rfl dX4_lays1_1 ?_
  refine lv_bipush (v := 10) S.1 S.2.1 dX4_lays1_4 rfl ?_
  refine lv_iconst (v := 3) S.1 S.2.1 dX4_lays1_6 rfl ?_
  refine lv_iload_n S.1 S.2.1 dX4_lays1_7 rfl (lv_at hl 1 rfl) ?_
  refine lv_imul S.1 S.2.1 dX4_lays1_8 ?_
  refine lv_iadd S.1 S.2.1 dX4_lays1_9 ?_
  refine lv_iload_n S.1 S.2.1 dX4_lays1_10 rfl (lv_at hl 2 rfl) ?_
  refine lv_iadd S.1 S.2.1 dX4_lays1_11 ?_
  refine lv_iload_n S.1 S.2.1 dX4_lays1_12 rfl (lv_at hl 3 rfl) ?_
  refine in_iast S hK h 1 rfl hin hk hL dX4_lays1_13 (fun H locs h => ?_)
  exact in_retv S hr hlk hK (fun _ => 0) h (Nat.le_refl _) (Nat.le_refl _) dX4_lays1_14
theorem in_lays {p : Program} {l : Launch} {e : Env} {R : Room} {s : State} {m : MethodId} {args : Array Value} {below : List Frame} {meth : Method} {c : Code} {H : Heap} {locs : List Loc} {cells slots : Nat} {Q : State → Prop} {cc : ByteArray} {pc : Nat} {ls : Array Slot} {rest : List Value} {D : va_G} {A : Nat → Prop} {ws : va_W} {nL h0 a1 k : Nat} {fs : List Value} {L : List Int32} {pa fa va : Int32} {cI cC cS : ClassId} (S : CallFix p m c cc nL s args fg_TW RX4) (hK : va_K D vwCl (in_T cI cC cS) s) (hN : in_N s) (h : in_H D A s.heap ((h0, .inr (4, .ref a1 :: fs)) :: (a1, .inl (cI, 90, .inl (in_L L))) :: ws) H locs) (hin : ¬ ((10 + 3 * pa + fa) < 0 ∨ 90 ≤ (10 + 3 * pa + fa).toNatClampNeg)) (hk : (10 + 3 * pa + fa).toNatClampNeg = k) (hL : k < L.length) (hR : 0 + 1 ≤ R.frames ∧ 8 + (4 + 11) + 0 ≤ R.locals) (hl : ls.size = nL) (hW : (rest.map fun v => v.category).sum ≤ 8) (hz : cells ≤ R.cells ∧ slots ≤ R.slots) (hdg : decode cc pc = .ok (.invokevirtual 56, 3))
    (kk : ∀ (H1 : Heap) (locs1 : List Loc), in_H D A s.heap ((h0, .inr (4, .ref a1 :: fs)) :: (a1, .inl (cI, 90, .inl (in_L (L.set k va)))) :: ws) H1 locs1 → W p l e R s m args below meth c H1 locs1 cells slots Q (F0 m (pc + 3) ls rest)) : W p l e R s m args below meth c H locs cells slots Q (F0 m pc ls (.int va :: .int fa :: .int pa :: .ref h0 :: rest)) := by
  have hP : va_P D vwCl ([(h0, .inr (4, .ref a1 :: fs)), (a1, .inl (cI, 90, .inl (in_L L)))] ++ ws) H := h.1
  have hD : va_D A ([(h0, .inr (4, .ref a1 :: fs)), (a1, .inl (cI, 90, .inl (in_L L)))] ++ ws) := h.2.1
  have hPc : va_P D vwCl [(h0, .inr (4, .ref a1 :: fs)), (a1, .inl (cI, 90, .inl (in_L L)))] H := fun k q hq => hP k q (by rw [List.getElem?_append_left (List.getElem?_eq_some_iff.mp hq).1]; exact hq)
  have hDc : va_D A [(h0, .inr (4, .ref a1 :: fs)), (a1, .inl (cI, 90, .inl (in_L L)))] := ⟨fun i j x y hx hy e => hD.1 i j x y (by rw [List.getElem?_append_left (List.getElem?_eq_some_iff.mp hx).1]; exact hx) (by rw [List.getElem?_append_left (List.getElem?_eq_some_iff.mp hy).1]; exact hy) e, fun k q hq => hD.2 k q (by rw [List.getElem?_append_left (List.getElem?_eq_some_iff.mp hq).1]; exact hq)⟩
  have hF : ∀ x, va_A [(h0, .inr (4, .ref a1 :: fs)), (a1, .inl (cI, 90, .inl (in_L L)))] H.size x → A x := fun x hx => by
    rcases hx with ⟨j, e, hx⟩ | hx
    · exact hDc.2 j (x, e) hx
    · exact h.2.2.2 x (Nat.le_trans h.2.2.1.1 hx)
  have hpre := in_pre (As := [.ref h0, .int pa, .int fa, .int va]) hK hN hPc hDc
  refine va_callv (va_runV (As := [.int pa, .int fa, .int va]) (rest := rest) S (c_lays l D cI cC cS h0 a1 fs L pa fa va k hin hk hL H.size) (cwV 3 S.2.2.2.2 vg_RX4_56 rfl rfl rfl vd_X4_lays1 hR) ⟨hpre.1, va_recv hK hPc (ci := 4) (q0 := 0) rfl rfl, hpre.2⟩ rfl rfl hl rfl (lv_room hW) hdg hz) h.2.2.1 (fun x _ hx => hF x hx) hF (fun a t H1 locs1 ht hvm hw hB hz hk hS1 => ?_)
  obtain ⟨hP1, hK1, hD1⟩ := hB
  rw [ht] at hP1
  obtain ⟨g1, g2⟩ := in_joinF hP hD hk hF hP1 hD1
  exact kk H1 locs1 ⟨g1, g2, hS1, h.2.2.2⟩
set_option maxHeartbeats 8000000 in
set_option maxRecDepth 100000 in
theorem in_fill65 {p : Program} {l : Launch} {e : Env} {R : Room} {s : State} {m : MethodId} {args : Array Value} {below : List Frame} {meth : Method} {c : Code} {H : Heap} {locs : List Loc} {cells slots : Nat} {Q : State → Prop} {ls : Array Slot} {rest : List Value} {D : va_G} {A : Nat → Prop} {H0 : Heap} {ws : va_W} {own : String} {nL q : Nat} {cI cC cS : ClassId} (S : CallFix p m c cX4_init nL s args fg_TW own) (hK : va_K D vwCl (in_T cI cC cS) s) (h : in_H D A H0 (ws ++ [(q, .inl (cC, 56, .inl (in_L (List.replicate 56 0))))]) H locs) (kk : ∀ (H : Heap) (locs : List Loc), in_H D A H0 (ws ++ [(q, .inl (cC, 56, .inl (in_L [112, 101, 114, 115, 111, 110, 32, 32, 99, 111, 116, 116, 97, 103, 101, 114, 115, 117, 114, 118, 101, 121, 111, 114, 109, 97, 121, 111, 114, 32, 32, 32, 109, 101, 109, 98, 101, 114, 32, 32, 100, 111, 117, 98, 116, 101, 114, 32, 112, 117, 112, 105, 108, 32, 32, 32])))]) H locs → W p l e R s m args below meth c H locs cells slots Q (F0 m 395 ls (.ref q :: rest))) : W p l e R s m args below meth c H locs cells slots Q (F0 m 65 ls (.ref q :: rest)) := by
  refine lv_dup S.1 S.2.1 dX4_init_65 rfl ?_
  refine lv_iconst (v := 0) S.1 S.2.1 dX4_init_66 rfl ?_
  refine lv_bipush (v := 112) S.1 S.2.1 dX4_init_67 rfl ?_
  refine in_cast (k := 0) S hK h (by decide) rfl (Nat.le_of_ble_eq_true rfl) rfl dX4_init_69 (fun H locs h => ?_)
  have h : in_H D A H0 (ws ++ [(q, .inl (cC, 56, .inl (in_L [112, 0, 0, 0, 0, 0, 0, 0, 0, 0, 0, 0, 0, 0, 0, 0, 0, 0, 0, 0, 0, 0, 0, 0, 0, 0, 0, 0, 0, 0, 0, 0, 0, 0, 0, 0, 0, 0, 0, 0, 0, 0, 0, 0, 0, 0, 0, 0, 0, 0, 0, 0, 0, 0, 0, 0])))]) H locs := h
  refine lv_dup S.1 S.2.1 dX4_init_70 rfl ?_
  refine lv_iconst (v := 1) S.1 S.2.1 dX4_init_71 rfl ?_
  refine lv_bipush (v := 101) S.1 S.2.1 dX4_init_72 rfl ?_
  refine in_cast (k := 1) S hK h (by decide) rfl (Nat.le_of_ble_eq_true rfl) rfl dX4_init_74 (fun H locs h => ?_)
  have h : in_H D A H0 (ws ++ [(q, .inl (cC, 56, .inl (in_L [112, 101, 0, 0, 0, 0, 0, 0, 0, 0, 0, 0, 0, 0, 0, 0, 0, 0, 0, 0, 0, 0, 0, 0, 0, 0, 0, 0, 0, 0, 0, 0, 0, 0, 0, 0, 0, 0, 0, 0, 0, 0, 0, 0, 0, 0, 0, 0, 0, 0, 0, 0, 0, 0, 0, 0])))]) H locs := h
  refine lv_dup S.1 S.2.1 dX4_init_75 rfl ?_
  refine lv_iconst (v := 2) S.1 S.2.1 dX4_init_76 rfl ?_
  refine lv_bipush (v := 114) S.1 S.2.1 dX4_init_77 rfl ?_
  refine in_cast (k := 2) S hK h (by decide) rfl (Nat.le_of_ble_eq_true rfl) rfl dX4_init_79 (fun H locs h => ?_)
  have h : in_H D A H0 (ws ++ [(q, .inl (cC, 56, .inl (in_L [112, 101, 114, 0, 0, 0, 0, 0, 0, 0, 0, 0, 0, 0, 0, 0, 0, 0, 0, 0, 0, 0, 0, 0, 0, 0, 0, 0, 0, 0, 0, 0, 0, 0, 0, 0, 0, 0, 0, 0, 0, 0, 0, 0, 0, 0, 0, 0, 0, 0, 0, 0, 0, 0, 0, 0])))]) H locs := h
  refine lv_dup S.1 S.2.1 dX4_init_80 rfl ?_
  refine lv_iconst (v := 3) S.1 S.2.1 dX4_init_81 rfl ?_
  refine lv_bipush (v := 115) S.1 S.2.1 dX4_init_82 rfl ?_
  refine in_cast (k := 3) S hK h (by decide) rfl (Nat.le_of_ble_eq_true rfl) rfl dX4_init_84 (fun H locs h => ?_)
  have h : in_H D A H0 (ws ++ [(q, .inl (cC, 56, .inl (in_L [112, 101, 114, 115, 0, 0, 0, 0, 0, 0, 0, 0, 0, 0, 0, 0, 0, 0, 0, 0, 0, 0, 0, 0, 0, 0, 0, 0, 0, 0, 0, 0, 0, 0, 0, 0, 0, 0, 0, 0, 0, 0, 0, 0, 0, 0, 0, 0, 0, 0, 0, 0, 0, 0, 0, 0])))]) H locs := h
  refine lv_dup S.1 S.2.1 dX4_init_85 rfl ?_
  refine lv_iconst (v := 4) S.1 S.2.1 dX4_init_86 rfl ?_
  refine lv_bipush (v := 111) S.1 S.2.1 dX4_init_87 rfl ?_
  refine in_cast (k := 4) S hK h (by decide) rfl (Nat.le_of_ble_eq_true rfl) rfl dX4_init_89 (fun H locs h => ?_)
  have h : in_H D A H0 (ws ++ [(q, .inl (cC, 56, .inl (in_L [112, 101, 114, 115, 111, 0, 0, 0, 0, 0, 0, 0, 0, 0, 0, 0, 0, 0, 0, 0, 0, 0, 0, 0, 0, 0, 0, 0, 0, 0, 0, 0, 0, 0, 0, 0, 0, 0, 0, 0, 0, 0, 0, 0, 0, 0, 0, 0, 0, 0, 0, 0, 0, 0, 0, 0])))]) H locs := h
  refine lv_dup S.1 S.2.1 dX4_init_90 rfl ?_
  refine lv_iconst (v := 5) S.1 S.2.1 dX4_init_91 rfl ?_
  refine lv_bipush (v := 110) S.1 S.2.1 dX4_init_92 rfl ?_
  refine in_cast (k := 5) S hK h (by decide) rfl (Nat.le_of_ble_eq_true rfl) rfl dX4_init_94 (fun H locs h => ?_)
  have h : in_H D A H0 (ws ++ [(q, .inl (cC, 56, .inl (in_L [112, 101, 114, 115, 111, 110, 0, 0, 0, 0, 0, 0, 0, 0, 0, 0, 0, 0, 0, 0, 0, 0, 0, 0, 0, 0, 0, 0, 0, 0, 0, 0, 0, 0, 0, 0, 0, 0, 0, 0, 0, 0, 0, 0, 0, 0, 0, 0, 0, 0, 0, 0, 0, 0, 0, 0])))]) H locs := h
  refine lv_dup S.1 S.2.1 dX4_init_95 rfl ?_
  refine lv_bipush (v := 6) S.1 S.2.1 dX4_init_96 rfl ?_
  refine lv_bipush (v := 32) S.1 S.2.1 dX4_init_98 rfl ?_
  refine in_cast (k := 6) S hK h (by decide) rfl (Nat.le_of_ble_eq_true rfl) rfl dX4_init_100 (fun H locs h => ?_)
  have h : in_H D A H0 (ws ++ [(q, .inl (cC, 56, .inl (in_L [112, 101, 114, 115, 111, 110, 32, 0, 0, 0, 0, 0, 0, 0, 0, 0, 0, 0, 0, 0, 0, 0, 0, 0, 0, 0, 0, 0, 0, 0, 0, 0, 0, 0, 0, 0, 0, 0, 0, 0, 0, 0, 0, 0, 0, 0, 0, 0, 0, 0, 0, 0, 0, 0, 0, 0])))]) H locs := h
  refine lv_dup S.1 S.2.1 dX4_init_101 rfl ?_
  refine lv_bipush (v := 7) S.1 S.2.1 dX4_init_102 rfl ?_
  refine lv_bipush (v := 32) S.1 S.2.1 dX4_init_104 rfl ?_
  refine in_cast (k := 7) S hK h (by decide) rfl (Nat.le_of_ble_eq_true rfl) rfl dX4_init_106 (fun H locs h => ?_)
  have h : in_H D A H0 (ws ++ [(q, .inl (cC, 56, .inl (in_L [112, 101, 114, 115, 111, 110, 32, 32, 0, 0, 0, 0, 0, 0, 0, 0, 0, 0, 0, 0, 0, 0, 0, 0, 0, 0, 0, 0, 0, 0, 0, 0, 0, 0, 0, 0, 0, 0, 0, 0, 0, 0, 0, 0, 0, 0, 0, 0, 0, 0, 0, 0, 0, 0, 0, 0])))]) H locs := h
  refine lv_dup S.1 S.2.1 dX4_init_107 rfl ?_
  refine lv_bipush (v := 8) S.1 S.2.1 dX4_init_108 rfl ?_
  refine lv_bipush (v := 99) S.1 S.2.1 dX4_init_110 rfl ?_
  refine in_cast (k := 8) S hK h (by decide) rfl (Nat.le_of_ble_eq_true rfl) rfl dX4_init_112 (fun H locs h => ?_)
  have h : in_H D A H0 (ws ++ [(q, .inl (cC, 56, .inl (in_L [112, 101, 114, 115, 111, 110, 32, 32, 99, 0, 0, 0, 0, 0, 0, 0, 0, 0, 0, 0, 0, 0, 0, 0, 0, 0, 0, 0, 0, 0, 0, 0, 0, 0, 0, 0, 0, 0, 0, 0, 0, 0, 0, 0, 0, 0, 0, 0, 0, 0, 0, 0, 0, 0, 0, 0])))]) H locs := h
  refine lv_dup S.1 S.2.1 dX4_init_113 rfl ?_
  refine lv_bipush (v := 9) S.1 S.2.1 dX4_init_114 rfl ?_
  refine lv_bipush (v := 111) S.1 S.2.1 dX4_init_116 rfl ?_
  refine in_cast (k := 9) S hK h (by decide) rfl (Nat.le_of_ble_eq_true rfl) rfl dX4_init_118 (fun H locs h => ?_)
  have h : in_H D A H0 (ws ++ [(q, .inl (cC, 56, .inl (in_L [112, 101, 114, 115, 111, 110, 32, 32, 99, 111, 0, 0, 0, 0, 0, 0, 0, 0, 0, 0, 0, 0, 0, 0, 0, 0, 0, 0, 0, 0, 0, 0, 0, 0, 0, 0, 0, 0, 0, 0, 0, 0, 0, 0, 0, 0, 0, 0, 0, 0, 0, 0, 0, 0, 0, 0])))]) H locs := h
  refine lv_dup S.1 S.2.1 dX4_init_119 rfl ?_
  refine lv_bipush (v := 10) S.1 S.2.1 dX4_init_120 rfl ?_
  refine lv_bipush (v := 116) S.1 S.2.1 dX4_init_122 rfl ?_
  refine in_cast (k := 10) S hK h (by decide) rfl (Nat.le_of_ble_eq_true rfl) rfl dX4_init_124 (fun H locs h => ?_)
  have h : in_H D A H0 (ws ++ [(q, .inl (cC, 56, .inl (in_L [112, 101, 114, 115, 111, 110, 32, 32, 99, 111, 116, 0, 0, 0, 0, 0, 0, 0, 0, 0, 0, 0, 0, 0, 0, 0, 0, 0, 0, 0, 0, 0, 0, 0, 0, 0, 0, 0, 0, 0, 0, 0, 0, 0, 0, 0, 0, 0, 0, 0, 0, 0, 0, 0, 0, 0])))]) H locs := h
  refine lv_dup S.1 S.2.1 dX4_init_125 rfl ?_
  refine lv_bipush (v := 11) S.1 S.2.1 dX4_init_126 rfl ?_
  refine lv_bipush (v := 116) S.1 S.2.1 dX4_init_128 rfl ?_
  refine in_cast (k := 11) S hK h (by decide) rfl (Nat.le_of_ble_eq_true rfl) rfl dX4_init_130 (fun H locs h => ?_)
  have h : in_H D A H0 (ws ++ [(q, .inl (cC, 56, .inl (in_L [112, 101, 114, 115, 111, 110, 32, 32, 99, 111, 116, 116, 0, 0, 0, 0, 0, 0, 0, 0, 0, 0, 0, 0, 0, 0, 0, 0, 0, 0, 0, 0, 0, 0, 0, 0, 0, 0, 0, 0, 0, 0, 0, 0, 0, 0, 0, 0, 0, 0, 0, 0, 0, 0, 0, 0])))]) H locs := h
  refine lv_dup S.1 S.2.1 dX4_init_131 rfl ?_
  refine lv_bipush (v := 12) S.1 S.2.1 dX4_init_132 rfl ?_
  refine lv_bipush (v := 97) S.1 S.2.1 dX4_init_134 rfl ?_
  refine in_cast (k := 12) S hK h (by decide) rfl (Nat.le_of_ble_eq_true rfl) rfl dX4_init_136 (fun H locs h => ?_)
  have h : in_H D A H0 (ws ++ [(q, .inl (cC, 56, .inl (in_L [112, 101, 114, 115, 111, 110, 32, 32, 99, 111, 116, 116, 97, 0, 0, 0, 0, 0, 0, 0, 0, 0, 0, 0, 0, 0, 0, 0, 0, 0, 0, 0, 0, 0, 0, 0, 0, 0, 0, 0, 0, 0, 0, 0, 0, 0, 0, 0, 0, 0, 0, 0, 0, 0, 0, 0])))]) H locs := h
  refine lv_dup S.1 S.2.1 dX4_init_137 rfl ?_
  refine lv_bipush (v := 13) S.1 S.2.1 dX4_init_138 rfl ?_
  refine lv_bipush (v := 103) S.1 S.2.1 dX4_init_140 rfl ?_
  refine in_cast (k := 13) S hK h (by decide) rfl (Nat.le_of_ble_eq_true rfl) rfl dX4_init_142 (fun H locs h => ?_)
  have h : in_H D A H0 (ws ++ [(q, .inl (cC, 56, .inl (in_L [112, 101, 114, 115, 111, 110, 32, 32, 99, 111, 116, 116, 97, 103, 0, 0, 0, 0, 0, 0, 0, 0, 0, 0, 0, 0, 0, 0, 0, 0, 0, 0, 0, 0, 0, 0, 0, 0, 0, 0, 0, 0, 0, 0, 0, 0, 0, 0, 0, 0, 0, 0, 0, 0, 0, 0])))]) H locs := h
  refine lv_dup S.1 S.2.1 dX4_init_143 rfl ?_
  refine lv_bipush (v := 14) S.1 S.2.1 dX4_init_144 rfl ?_
  refine lv_bipush (v := 101) S.1 S.2.1 dX4_init_146 rfl ?_
  refine in_cast (k := 14) S hK h (by decide) rfl (Nat.le_of_ble_eq_true rfl) rfl dX4_init_148 (fun H locs h => ?_)
  have h : in_H D A H0 (ws ++ [(q, .inl (cC, 56, .inl (in_L [112, 101, 114, 115, 111, 110, 32, 32, 99, 111, 116, 116, 97, 103, 101, 0, 0, 0, 0, 0, 0, 0, 0, 0, 0, 0, 0, 0, 0, 0, 0, 0, 0, 0, 0, 0, 0, 0, 0, 0, 0, 0, 0, 0, 0, 0, 0, 0, 0, 0, 0, 0, 0, 0, 0, 0])))]) H locs := h
  refine lv_dup S.1 S.2.1 dX4_init_149 rfl ?_
  refine lv_bipush (v := 15) S.1 S.2.1 dX4_init_150 rfl ?_
  refine lv_bipush (v := 114) S.1 S.2.1 dX4_init_152 rfl ?_
  refine in_cast (k := 15) S hK h (by decide) rfl (Nat.le_of_ble_eq_true rfl) rfl dX4_init_154 (fun H locs h => ?_)
  have h : in_H D A H0 (ws ++ [(q, .inl (cC, 56, .inl (in_L [112, 101, 114, 115, 111, 110, 32, 32, 99, 111, 116, 116, 97, 103, 101, 114, 0, 0, 0, 0, 0, 0, 0, 0, 0, 0, 0, 0, 0, 0, 0, 0, 0, 0, 0, 0, 0, 0, 0, 0, 0, 0, 0, 0, 0, 0, 0, 0, 0, 0, 0, 0, 0, 0, 0, 0])))]) H locs := h
  refine lv_dup S.1 S.2.1 dX4_init_155 rfl ?_
  refine lv_bipush (v := 16) S.1 S.2.1 dX4_init_156 rfl ?_
  refine lv_bipush (v := 115) S.1 S.2.1 dX4_init_158 rfl ?_
  refine in_cast (k := 16) S hK h (by decide) rfl (Nat.le_of_ble_eq_true rfl) rfl dX4_init_160 (fun H locs h => ?_)
  have h : in_H D A H0 (ws ++ [(q, .inl (cC, 56, .inl (in_L [112, 101, 114, 115, 111, 110, 32, 32, 99, 111, 116, 116, 97, 103, 101, 114, 115, 0, 0, 0, 0, 0, 0, 0, 0, 0, 0, 0, 0, 0, 0, 0, 0, 0, 0, 0, 0, 0, 0, 0, 0, 0, 0, 0, 0, 0, 0, 0, 0, 0, 0, 0, 0, 0, 0, 0])))]) H locs := h
  refine lv_dup S.1 S.2.1 dX4_init_161 rfl ?_
  refine lv_bipush (v := 17) S.1 S.2.1 dX4_init_162 rfl ?_
  refine lv_bipush (v := 117) S.1 S.2.1 dX4_init_164 rfl ?_
  refine in_cast (k := 17) S hK h (by decide) rfl (Nat.le_of_ble_eq_true rfl) rfl dX4_init_166 (fun H locs h => ?_)
  have h : in_H D A H0 (ws ++ [(q, .inl (cC, 56, .inl (in_L [112, 101, 114, 115, 111, 110, 32, 32, 99, 111, 116, 116, 97, 103, 101, 114, 115, 117, 0, 0, 0, 0, 0, 0, 0, 0, 0, 0, 0, 0, 0, 0, 0, 0, 0, 0, 0, 0, 0, 0, 0, 0, 0, 0, 0, 0, 0, 0, 0, 0, 0, 0, 0, 0, 0, 0])))]) H locs := h
  refine lv_dup S.1 S.2.1 dX4_init_167 rfl ?_
  refine lv_bipush (v := 18) S.1 S.2.1 dX4_init_168 rfl ?_
  refine lv_bipush (v := 114) S.1 S.2.1 dX4_init_170 rfl ?_
  refine in_cast (k := 18) S hK h (by decide) rfl (Nat.le_of_ble_eq_true rfl) rfl dX4_init_172 (fun H locs h => ?_)
  have h : in_H D A H0 (ws ++ [(q, .inl (cC, 56, .inl (in_L [112, 101, 114, 115, 111, 110, 32, 32, 99, 111, 116, 116, 97, 103, 101, 114, 115, 117, 114, 0, 0, 0, 0, 0, 0, 0, 0, 0, 0, 0, 0, 0, 0, 0, 0, 0, 0, 0, 0, 0, 0, 0, 0, 0, 0, 0, 0, 0, 0, 0, 0, 0, 0, 0, 0, 0])))]) H locs := h
  refine lv_dup S.1 S.2.1 dX4_init_173 rfl ?_
  refine lv_bipush (v := 19) S.1 S.2.1 dX4_init_174 rfl ?_
  refine lv_bipush (v := 118) S.1 S.2.1 dX4_init_176 rfl ?_
  refine in_cast (k := 19) S hK h (by decide) rfl (Nat.le_of_ble_eq_true rfl) rfl dX4_init_178 (fun H locs h => ?_)
  have h : in_H D A H0 (ws ++ [(q, .inl (cC, 56, .inl (in_L [112, 101, 114, 115, 111, 110, 32, 32, 99, 111, 116, 116, 97, 103, 101, 114, 115, 117, 114, 118, 0, 0, 0, 0, 0, 0, 0, 0, 0, 0, 0, 0, 0, 0, 0, 0, 0, 0, 0, 0, 0, 0, 0, 0, 0, 0, 0, 0, 0, 0, 0, 0, 0, 0, 0, 0])))]) H locs := h
  refine lv_dup S.1 S.2.1 dX4_init_179 rfl ?_
  refine lv_bipush (v := 20) S.1 S.2.1 dX4_init_180 rfl ?_
  refine lv_bipush (v := 101) S.1 S.2.1 dX4_init_182 rfl ?_
  refine in_cast (k := 20) S hK h (by decide) rfl (Nat.le_of_ble_eq_true rfl) rfl dX4_init_184 (fun H locs h => ?_)
  have h : in_H D A H0 (ws ++ [(q, .inl (cC, 56, .inl (in_L [112, 101, 114, 115, 111, 110, 32, 32, 99, 111, 116, 116, 97, 103, 101, 114, 115, 117, 114, 118, 101, 0, 0, 0, 0, 0, 0, 0, 0, 0, 0, 0, 0, 0, 0, 0, 0, 0, 0, 0, 0, 0, 0, 0, 0, 0, 0, 0, 0, 0, 0, 0, 0, 0, 0, 0])))]) H locs := h
  refine lv_dup S.1 S.2.1 dX4_init_185 rfl ?_
  refine lv_bipush (v := 21) S.1 S.2.1 dX4_init_186 rfl ?_
  refine lv_bipush (v := 121) S.1 S.2.1 dX4_init_188 rfl ?_
  refine in_cast (k := 21) S hK h (by decide) rfl (Nat.le_of_ble_eq_true rfl) rfl dX4_init_190 (fun H locs h => ?_)
  have h : in_H D A H0 (ws ++ [(q, .inl (cC, 56, .inl (in_L [112, 101, 114, 115, 111, 110, 32, 32, 99, 111, 116, 116, 97, 103, 101, 114, 115, 117, 114, 118, 101, 121, 0, 0, 0, 0, 0, 0, 0, 0, 0, 0, 0, 0, 0, 0, 0, 0, 0, 0, 0, 0, 0, 0, 0, 0, 0, 0, 0, 0, 0, 0, 0, 0, 0, 0])))]) H locs := h
  refine lv_dup S.1 S.2.1 dX4_init_191 rfl ?_
  refine lv_bipush (v := 22) S.1 S.2.1 dX4_init_192 rfl ?_
  refine lv_bipush (v := 111) S.1 S.2.1 dX4_init_194 rfl ?_
  refine in_cast (k := 22) S hK h (by decide) rfl (Nat.le_of_ble_eq_true rfl) rfl dX4_init_196 (fun H locs h => ?_)
  have h : in_H D A H0 (ws ++ [(q, .inl (cC, 56, .inl (in_L [112, 101, 114, 115, 111, 110, 32, 32, 99, 111, 116, 116, 97, 103, 101, 114, 115, 117, 114, 118, 101, 121, 111, 0, 0, 0, 0, 0, 0, 0, 0, 0, 0, 0, 0, 0, 0, 0, 0, 0, 0, 0, 0, 0, 0, 0, 0, 0, 0, 0, 0, 0, 0, 0, 0, 0])))]) H locs := h
  refine lv_dup S.1 S.2.1 dX4_init_197 rfl ?_
  refine lv_bipush (v := 23) S.1 S.2.1 dX4_init_198 rfl ?_
  refine lv_bipush (v := 114) S.1 S.2.1 dX4_init_200 rfl ?_
  refine in_cast (k := 23) S hK h (by decide) rfl (Nat.le_of_ble_eq_true rfl) rfl dX4_init_202 (fun H locs h => ?_)
  have h : in_H D A H0 (ws ++ [(q, .inl (cC, 56, .inl (in_L [112, 101, 114, 115, 111, 110, 32, 32, 99, 111, 116, 116, 97, 103, 101, 114, 115, 117, 114, 118, 101, 121, 111, 114, 0, 0, 0, 0, 0, 0, 0, 0, 0, 0, 0, 0, 0, 0, 0, 0, 0, 0, 0, 0, 0, 0, 0, 0, 0, 0, 0, 0, 0, 0, 0, 0])))]) H locs := h
  refine lv_dup S.1 S.2.1 dX4_init_203 rfl ?_
  refine lv_bipush (v := 24) S.1 S.2.1 dX4_init_204 rfl ?_
  refine lv_bipush (v := 109) S.1 S.2.1 dX4_init_206 rfl ?_
  refine in_cast (k := 24) S hK h (by decide) rfl (Nat.le_of_ble_eq_true rfl) rfl dX4_init_208 (fun H locs h => ?_)
  have h : in_H D A H0 (ws ++ [(q, .inl (cC, 56, .inl (in_L [112, 101, 114, 115, 111, 110, 32, 32, 99, 111, 116, 116, 97, 103, 101, 114, 115, 117, 114, 118, 101, 121, 111, 114, 109, 0, 0, 0, 0, 0, 0, 0, 0, 0, 0, 0, 0, 0, 0, 0, 0, 0, 0, 0, 0, 0, 0, 0, 0, 0, 0, 0, 0, 0, 0, 0])))]) H locs := h
  refine lv_dup S.1 S.2.1 dX4_init_209 rfl ?_
  refine lv_bipush (v := 25) S.1 S.2.1 dX4_init_210 rfl ?_
  refine lv_bipush (v := 97) S.1 S.2.1 dX4_init_212 rfl ?_
  refine in_cast (k := 25) S hK h (by decide) rfl (Nat.le_of_ble_eq_true rfl) rfl dX4_init_214 (fun H locs h => ?_)
  have h : in_H D A H0 (ws ++ [(q, .inl (cC, 56, .inl (in_L [112, 101, 114, 115, 111, 110, 32, 32, 99, 111, 116, 116, 97, 103, 101, 114, 115, 117, 114, 118, 101, 121, 111, 114, 109, 97, 0, 0, 0, 0, 0, 0, 0, 0, 0, 0, 0, 0, 0, 0, 0, 0, 0, 0, 0, 0, 0, 0, 0, 0, 0, 0, 0, 0, 0, 0])))]) H locs := h
  refine lv_dup S.1 S.2.1 dX4_init_215 rfl ?_
  refine lv_bipush (v := 26) S.1 S.2.1 dX4_init_216 rfl ?_
  refine lv_bipush (v := 121) S.1 S.2.1 dX4_init_218 rfl ?_
  refine in_cast (k := 26) S hK h (by decide) rfl (Nat.le_of_ble_eq_true rfl) rfl dX4_init_220 (fun H locs h => ?_)
  have h : in_H D A H0 (ws ++ [(q, .inl (cC, 56, .inl (in_L [112, 101, 114, 115, 111, 110, 32, 32, 99, 111, 116, 116, 97, 103, 101, 114, 115, 117, 114, 118, 101, 121, 111, 114, 109, 97, 121, 0, 0, 0, 0, 0, 0, 0, 0, 0, 0, 0, 0, 0, 0, 0, 0, 0, 0, 0, 0, 0, 0, 0, 0, 0, 0, 0, 0, 0])))]) H locs := h
  refine lv_dup S.1 S.2.1 dX4_init_221 rfl ?_
  refine lv_bipush (v := 27) S.1 S.2.1 dX4_init_222 rfl ?_
  refine lv_bipush (v := 111) S.1 S.2.1 dX4_init_224 rfl ?_
  refine in_cast (k := 27) S hK h (by decide) rfl (Nat.le_of_ble_eq_true rfl) rfl dX4_init_226 (fun H locs h => ?_)
  have h : in_H D A H0 (ws ++ [(q, .inl (cC, 56, .inl (in_L [112, 101, 114, 115, 111, 110, 32, 32, 99, 111, 116, 116, 97, 103, 101, 114, 115, 117, 114, 118, 101, 121, 111, 114, 109, 97, 121, 111, 0, 0, 0, 0, 0, 0, 0, 0, 0, 0, 0, 0, 0, 0, 0, 0, 0, 0, 0, 0, 0, 0, 0, 0, 0, 0, 0, 0])))]) H locs := h
  refine lv_dup S.1 S.2.1 dX4_init_227 rfl ?_
  refine lv_bipush (v := 28) S.1 S.2.1 dX4_init_228 rfl ?_
  refine lv_bipush (v := 114) S.1 S.2.1 dX4_init_230 rfl ?_
  refine in_cast (k := 28) S hK h (by decide) rfl (Nat.le_of_ble_eq_true rfl) rfl dX4_init_232 (fun H locs h => ?_)
  have h : in_H D A H0 (ws ++ [(q, .inl (cC, 56, .inl (in_L [112, 101, 114, 115, 111, 110, 32, 32, 99, 111, 116, 116, 97, 103, 101, 114, 115, 117, 114, 118, 101, 121, 111, 114, 109, 97, 121, 111, 114, 0, 0, 0, 0, 0, 0, 0, 0, 0, 0, 0, 0, 0, 0, 0, 0, 0, 0, 0, 0, 0, 0, 0, 0, 0, 0, 0])))]) H locs := h
  refine lv_dup S.1 S.2.1 dX4_init_233 rfl ?_
  refine lv_bipush (v := 29) S.1 S.2.1 dX4_init_234 rfl ?_
  refine lv_bipush (v := 32) S.1 S.2.1 dX4_init_236 rfl ?_
  refine in_cast (k := 29) S hK h (by decide) rfl (Nat.le_of_ble_eq_true rfl) rfl dX4_init_238 (fun H locs h => ?_)
  have h : in_H D A H0 (ws ++ [(q, .inl (cC, 56, .inl (in_L [112, 101, 114, 115, 111, 110, 32, 32, 99, 111, 116, 116, 97, 103, 101, 114, 115, 117, 114, 118, 101, 121, 111, 114, 109, 97, 121, 111, 114, 32, 0, 0, 0, 0, 0, 0, 0, 0, 0, 0, 0, 0, 0, 0, 0, 0, 0, 0, 0, 0, 0, 0, 0, 0, 0, 0])))]) H locs := h
  refine lv_dup S.1 S.2.1 dX4_init_239 rfl ?_
  refine lv_bipush (v := 30) S.1 S.2.1 dX4_init_240 rfl ?_
  refine lv_bipush (v := 32) S.1 S.2.1 dX4_init_242 rfl ?_
  refine in_cast (k := 30) S hK h (by decide) rfl (Nat.le_of_ble_eq_true rfl) rfl dX4_init_244 (fun H locs h => ?_)
  have h : in_H D A H0 (ws ++ [(q, .inl (cC, 56, .inl (in_L [112, 101, 114, 115, 111, 110, 32, 32, 99, 111, 116, 116, 97, 103, 101, 114, 115, 117, 114, 118, 101, 121, 111, 114, 109, 97, 121, 111, 114, 32, 32, 0, 0, 0, 0, 0, 0, 0, 0, 0, 0, 0, 0, 0, 0, 0, 0, 0, 0, 0, 0, 0, 0, 0, 0, 0])))]) H locs := h
  refine lv_dup S.1 S.2.1 dX4_init_245 rfl ?_
  refine lv_bipush (v := 31) S.1 S.2.1 dX4_init_246 rfl ?_
  refine lv_bipush (v := 32) S.1 S.2.1 dX4_init_248 rfl ?_
  refine in_cast (k := 31) S hK h (by decide) rfl (Nat.le_of_ble_eq_true rfl) rfl dX4_init_250 (fun H locs h => ?_)
  have h : in_H D A H0 (ws ++ [(q, .inl (cC, 56, .inl (in_L [112, 101, 114, 115, 111, 110, 32, 32, 99, 111, 116, 116, 97, 103, 101, 114, 115, 117, 114, 118, 101, 121, 111, 114, 109, 97, 121, 111, 114, 32, 32, 32, 0, 0, 0, 0, 0, 0, 0, 0, 0, 0, 0, 0, 0, 0, 0, 0, 0, 0, 0, 0, 0, 0, 0, 0])))]) H locs := h
  refine lv_dup S.1 S.2.1 dX4_init_251 rfl ?_
  refine lv_bipush (v := 32) S.1 S.2.1 dX4_init_252 rfl ?_
  refine lv_bipush (v := 109) S.1 S.2.1 dX4_init_254 rfl ?_
  refine in_cast (k := 32) S hK h (by decide) rfl (Nat.le_of_ble_eq_true rfl) rfl dX4_init_256 (fun H locs h => ?_)
  have h : in_H D A H0 (ws ++ [(q, .inl (cC, 56, .inl (in_L [112, 101, 114, 115, 111, 110, 32, 32, 99, 111, 116, 116, 97, 103, 101, 114, 115, 117, 114, 118, 101, 121, 111, 114, 109, 97, 121, 111, 114, 32, 32, 32, 109, 0, 0, 0, 0, 0, 0, 0, 0, 0, 0, 0, 0, 0, 0, 0, 0, 0, 0, 0, 0, 0, 0, 0])))]) H locs := h
  refine lv_dup S.1 S.2.1 dX4_init_257 rfl ?_
  refine lv_bipush (v := 33) S.1 S.2.1 dX4_init_258 rfl ?_
  refine lv_bipush (v := 101) S.1 S.2.1 dX4_init_260 rfl ?_
  refine in_cast (k := 33) S hK h (by decide) rfl (Nat.le_of_ble_eq_true rfl) rfl dX4_init_262 (fun H locs h => ?_)
  have h : in_H D A H0 (ws ++ [(q, .inl (cC, 56, .inl (in_L [112, 101, 114, 115, 111, 110, 32, 32, 99, 111, 116, 116, 97, 103, 101, 114, 115, 117, 114, 118, 101, 121, 111, 114, 109, 97, 121, 111, 114, 32, 32, 32, 109, 101, 0, 0, 0, 0, 0, 0, 0, 0, 0, 0, 0, 0, 0, 0, 0, 0, 0, 0, 0, 0, 0, 0])))]) H locs := h
  refine lv_dup S.1 S.2.1 dX4_init_263 rfl ?_
  refine lv_bipush (v := 34) S.1 S.2.1 dX4_init_264 rfl ?_
  refine lv_bipush (v := 109) S.1 S.2.1 dX4_init_266 rfl ?_
  refine in_cast (k := 34) S hK h (by decide) rfl (Nat.le_of_ble_eq_true rfl) rfl dX4_init_268 (fun H locs h => ?_)
  have h : in_H D A H0 (ws ++ [(q, .inl (cC, 56, .inl (in_L [112, 101, 114, 115, 111, 110, 32, 32, 99, 111, 116, 116, 97, 103, 101, 114, 115, 117, 114, 118, 101, 121, 111, 114, 109, 97, 121, 111, 114, 32, 32, 32, 109, 101, 109, 0, 0, 0, 0, 0, 0, 0, 0, 0, 0, 0, 0, 0, 0, 0, 0, 0, 0, 0, 0, 0])))]) H locs := h
  refine lv_dup S.1 S.2.1 dX4_init_269 rfl ?_
  refine lv_bipush (v := 35) S.1 S.2.1 dX4_init_270 rfl ?_
  refine lv_bipush (v := 98) S.1 S.2.1 dX4_init_272 rfl ?_
  refine in_cast (k := 35) S hK h (by decide) rfl (Nat.le_of_ble_eq_true rfl) rfl dX4_init_274 (fun H locs h => ?_)
  have h : in_H D A H0 (ws ++ [(q, .inl (cC, 56, .inl (in_L [112, 101, 114, 115, 111, 110, 32, 32, 99, 111, 116, 116, 97, 103, 101, 114, 115, 117, 114, 118, 101, 121, 111, 114, 109, 97, 121, 111, 114, 32, 32, 32, 109, 101, 109, 98, 0, 0, 0, 0, 0, 0, 0, 0, 0, 0, 0, 0, 0, 0, 0, 0, 0, 0, 0, 0])))]) H locs := h
  refine lv_dup S.1 S.2.1 dX4_init_275 rfl ?_
  refine lv_bipush (v := 36) S.1 S.2.1 dX4_init_276 rfl ?_
  refine lv_bipush (v := 101) S.1 S.2.1 dX4_init_278 rfl ?_
  refine in_cast (k := 36) S hK h (by decide) rfl (Nat.le_of_ble_eq_true rfl) rfl dX4_init_280 (fun H locs h => ?_)
  have h : in_H D A H0 (ws ++ [(q, .inl (cC, 56, .inl (in_L [112, 101, 114, 115, 111, 110, 32, 32, 99, 111, 116, 116, 97, 103, 101, 114, 115, 117, 114, 118, 101, 121, 111, 114, 109, 97, 121, 111, 114, 32, 32, 32, 109, 101, 109, 98, 101, 0, 0, 0, 0, 0, 0, 0, 0, 0, 0, 0, 0, 0, 0, 0, 0, 0, 0, 0])))]) H locs := h
  refine lv_dup S.1 S.2.1 dX4_init_281 rfl ?_
  refine lv_bipush (v := 37) S.1 S.2.1 dX4_init_282 rfl ?_
  refine lv_bipush (v := 114) S.1 S.2.1 dX4_init_284 rfl ?_
  refine in_cast (k := 37) S hK h (by decide) rfl (Nat.le_of_ble_eq_true rfl) rfl dX4_init_286 (fun H locs h => ?_)
  have h : in_H D A H0 (ws ++ [(q, .inl (cC, 56, .inl (in_L [112, 101, 114, 115, 111, 110, 32, 32, 99, 111, 116, 116, 97, 103, 101, 114, 115, 117, 114, 118, 101, 121, 111, 114, 109, 97, 121, 111, 114, 32, 32, 32, 109, 101, 109, 98, 101, 114, 0, 0, 0, 0, 0, 0, 0, 0, 0, 0, 0, 0, 0, 0, 0, 0, 0, 0])))]) H locs := h
  refine lv_dup S.1 S.2.1 dX4_init_287 rfl ?_
  refine lv_bipush (v := 38) S.1 S.2.1 dX4_init_288 rfl ?_
  refine lv_bipush (v := 32) S.1 S.2.1 dX4_init_290 rfl ?_
  refine in_cast (k := 38) S hK h (by decide) rfl (Nat.le_of_ble_eq_true rfl) rfl dX4_init_292 (fun H locs h => ?_)
  have h : in_H D A H0 (ws ++ [(q, .inl (cC, 56, .inl (in_L [112, 101, 114, 115, 111, 110, 32, 32, 99, 111, 116, 116, 97, 103, 101, 114, 115, 117, 114, 118, 101, 121, 111, 114, 109, 97, 121, 111, 114, 32, 32, 32, 109, 101, 109, 98, 101, 114, 32, 0, 0, 0, 0, 0, 0, 0, 0, 0, 0, 0, 0, 0, 0, 0, 0, 0])))]) H locs := h
  refine lv_dup S.1 S.2.1 dX4_init_293 rfl ?_
  refine lv_bipush (v := 39) S.1 S.2.1 dX4_init_294 rfl ?_
  refine lv_bipush (v := 32) S.1 S.2.1 dX4_init_296 rfl ?_
  refine in_cast (k := 39) S hK h (by decide) rfl (Nat.le_of_ble_eq_true rfl) rfl dX4_init_298 (fun H locs h => ?_)
  have h : in_H D A H0 (ws ++ [(q, .inl (cC, 56, .inl (in_L [112, 101, 114, 115, 111, 110, 32, 32, 99, 111, 116, 116, 97, 103, 101, 114, 115, 117, 114, 118, 101, 121, 111, 114, 109, 97, 121, 111, 114, 32, 32, 32, 109, 101, 109, 98, 101, 114, 32, 32, 0, 0, 0, 0, 0, 0, 0, 0, 0, 0, 0, 0, 0, 0, 0, 0])))]) H locs := h
  refine lv_dup S.1 S.2.1 dX4_init_299 rfl ?_
  refine lv_bipush (v := 40) S.1 S.2.1 dX4_init_300 rfl ?_
  refine lv_bipush (v := 100) S.1 S.2.1 dX4_init_302 rfl ?_
  refine in_cast (k := 40) S hK h (by decide) rfl (Nat.le_of_ble_eq_true rfl) rfl dX4_init_304 (fun H locs h => ?_)
  have h : in_H D A H0 (ws ++ [(q, .inl (cC, 56, .inl (in_L [112, 101, 114, 115, 111, 110, 32, 32, 99, 111, 116, 116, 97, 103, 101, 114, 115, 117, 114, 118, 101, 121, 111, 114, 109, 97, 121, 111, 114, 32, 32, 32, 109, 101, 109, 98, 101, 114, 32, 32, 100, 0, 0, 0, 0, 0, 0, 0, 0, 0, 0, 0, 0, 0, 0, 0])))]) H locs := h
  refine lv_dup S.1 S.2.1 dX4_init_305 rfl ?_
  refine lv_bipush (v := 41) S.1 S.2.1 dX4_init_306 rfl ?_
  refine lv_bipush (v := 111) S.1 S.2.1 dX4_init_308 rfl ?_
  refine in_cast (k := 41) S hK h (by decide) rfl (Nat.le_of_ble_eq_true rfl) rfl dX4_init_310 (fun H locs h => ?_)
  have h : in_H D A H0 (ws ++ [(q, .inl (cC, 56, .inl (in_L [112, 101, 114, 115, 111, 110, 32, 32, 99, 111, 116, 116, 97, 103, 101, 114, 115, 117, 114, 118, 101, 121, 111, 114, 109, 97, 121, 111, 114, 32, 32, 32, 109, 101, 109, 98, 101, 114, 32, 32, 100, 111, 0, 0, 0, 0, 0, 0, 0, 0, 0, 0, 0, 0, 0, 0])))]) H locs := h
  refine lv_dup S.1 S.2.1 dX4_init_311 rfl ?_
  refine lv_bipush (v := 42) S.1 S.2.1 dX4_init_312 rfl ?_
  refine lv_bipush (v := 117) S.1 S.2.1 dX4_init_314 rfl ?_
  refine in_cast (k := 42) S hK h (by decide) rfl (Nat.le_of_ble_eq_true rfl) rfl dX4_init_316 (fun H locs h => ?_)
  have h : in_H D A H0 (ws ++ [(q, .inl (cC, 56, .inl (in_L [112, 101, 114, 115, 111, 110, 32, 32, 99, 111, 116, 116, 97, 103, 101, 114, 115, 117, 114, 118, 101, 121, 111, 114, 109, 97, 121, 111, 114, 32, 32, 32, 109, 101, 109, 98, 101, 114, 32, 32, 100, 111, 117, 0, 0, 0, 0, 0, 0, 0, 0, 0, 0, 0, 0, 0])))]) H locs := h
  refine lv_dup S.1 S.2.1 dX4_init_317 rfl ?_
  refine lv_bipush (v := 43) S.1 S.2.1 dX4_init_318 rfl ?_
  refine lv_bipush (v := 98) S.1 S.2.1 dX4_init_320 rfl ?_
  refine in_cast (k := 43) S hK h (by decide) rfl (Nat.le_of_ble_eq_true rfl) rfl dX4_init_322 (fun H locs h => ?_)
  have h : in_H D A H0 (ws ++ [(q, .inl (cC, 56, .inl (in_L [112, 101, 114, 115, 111, 110, 32, 32, 99, 111, 116, 116, 97, 103, 101, 114, 115, 117, 114, 118, 101, 121, 111, 114, 109, 97, 121, 111, 114, 32, 32, 32, 109, 101, 109, 98, 101, 114, 32, 32, 100, 111, 117, 98, 0, 0, 0, 0, 0, 0, 0, 0, 0, 0, 0, 0])))]) H locs := h
  refine lv_dup S.1 S.2.1 dX4_init_323 rfl ?_
  refine lv_bipush (v := 44) S.1 S.2.1 dX4_init_324 rfl ?_
  refine lv_bipush (v := 116) S.1 S.2.1 dX4_init_326 rfl ?_
  refine in_cast (k := 44) S hK h (by decide) rfl (Nat.le_of_ble_eq_true rfl) rfl dX4_init_328 (fun H locs h => ?_)
  have h : in_H D A H0 (ws ++ [(q, .inl (cC, 56, .inl (in_L [112, 101, 114, 115, 111, 110, 32, 32, 99, 111, 116, 116, 97, 103, 101, 114, 115, 117, 114, 118, 101, 121, 111, 114, 109, 97, 121, 111, 114, 32, 32, 32, 109, 101, 109, 98, 101, 114, 32, 32, 100, 111, 117, 98, 116, 0, 0, 0, 0, 0, 0, 0, 0, 0, 0, 0])))]) H locs := h
  refine lv_dup S.1 S.2.1 dX4_init_329 rfl ?_
  refine lv_bipush (v := 45) S.1 S.2.1 dX4_init_330 rfl ?_
  refine lv_bipush (v := 101) S.1 S.2.1 dX4_init_332 rfl ?_
  refine in_cast (k := 45) S hK h (by decide) rfl (Nat.le_of_ble_eq_true rfl) rfl dX4_init_334 (fun H locs h => ?_)
  have h : in_H D A H0 (ws ++ [(q, .inl (cC, 56, .inl (in_L [112, 101, 114, 115, 111, 110, 32, 32, 99, 111, 116, 116, 97, 103, 101, 114, 115, 117, 114, 118, 101, 121, 111, 114, 109, 97, 121, 111, 114, 32, 32, 32, 109, 101, 109, 98, 101, 114, 32, 32, 100, 111, 117, 98, 116, 101, 0, 0, 0, 0, 0, 0, 0, 0, 0, 0])))]) H locs := h
  refine lv_dup S.1 S.2.1 dX4_init_335 rfl ?_
  refine lv_bipush (v := 46) S.1 S.2.1 dX4_init_336 rfl ?_
  refine lv_bipush (v := 114) S.1 S.2.1 dX4_init_338 rfl ?_
  refine in_cast (k := 46) S hK h (by decide) rfl (Nat.le_of_ble_eq_true rfl) rfl dX4_init_340 (fun H locs h => ?_)
  have h : in_H D A H0 (ws ++ [(q, .inl (cC, 56, .inl (in_L [112, 101, 114, 115, 111, 110, 32, 32, 99, 111, 116, 116, 97, 103, 101, 114, 115, 117, 114, 118, 101, 121, 111, 114, 109, 97, 121, 111, 114, 32, 32, 32, 109, 101, 109, 98, 101, 114, 32, 32, 100, 111, 117, 98, 116, 101, 114, 0, 0, 0, 0, 0, 0, 0, 0, 0])))]) H locs := h
  refine lv_dup S.1 S.2.1 dX4_init_341 rfl ?_
  refine lv_bipush (v := 47) S.1 S.2.1 dX4_init_342 rfl ?_
  refine lv_bipush (v := 32) S.1 S.2.1 dX4_init_344 rfl ?_
  refine in_cast (k := 47) S hK h (by decide) rfl (Nat.le_of_ble_eq_true rfl) rfl dX4_init_346 (fun H locs h => ?_)
  have h : in_H D A H0 (ws ++ [(q, .inl (cC, 56, .inl (in_L [112, 101, 114, 115, 111, 110, 32, 32, 99, 111, 116, 116, 97, 103, 101, 114, 115, 117, 114, 118, 101, 121, 111, 114, 109, 97, 121, 111, 114, 32, 32, 32, 109, 101, 109, 98, 101, 114, 32, 32, 100, 111, 117, 98, 116, 101, 114, 32, 0, 0, 0, 0, 0, 0, 0, 0])))]) H locs := h
  refine lv_dup S.1 S.2.1 dX4_init_347 rfl ?_
  refine lv_bipush (v := 48) S.1 S.2.1 dX4_init_348 rfl ?_
  refine lv_bipush (v := 112) S.1 S.2.1 dX4_init_350 rfl ?_
  refine in_cast (k := 48) S hK h (by decide) rfl (Nat.le_of_ble_eq_true rfl) rfl dX4_init_352 (fun H locs h => ?_)
  have h : in_H D A H0 (ws ++ [(q, .inl (cC, 56, .inl (in_L [112, 101, 114, 115, 111, 110, 32, 32, 99, 111, 116, 116, 97, 103, 101, 114, 115, 117, 114, 118, 101, 121, 111, 114, 109, 97, 121, 111, 114, 32, 32, 32, 109, 101, 109, 98, 101, 114, 32, 32, 100, 111, 117, 98, 116, 101, 114, 32, 112, 0, 0, 0, 0, 0, 0, 0])))]) H locs := h
  refine lv_dup S.1 S.2.1 dX4_init_353 rfl ?_
  refine lv_bipush (v := 49) S.1 S.2.1 dX4_init_354 rfl ?_
  refine lv_bipush (v := 117) S.1 S.2.1 dX4_init_356 rfl ?_
  refine in_cast (k := 49) S hK h (by decide) rfl (Nat.le_of_ble_eq_true rfl) rfl dX4_init_358 (fun H locs h => ?_)
  have h : in_H D A H0 (ws ++ [(q, .inl (cC, 56, .inl (in_L [112, 101, 114, 115, 111, 110, 32, 32, 99, 111, 116, 116, 97, 103, 101, 114, 115, 117, 114, 118, 101, 121, 111, 114, 109, 97, 121, 111, 114, 32, 32, 32, 109, 101, 109, 98, 101, 114, 32, 32, 100, 111, 117, 98, 116, 101, 114, 32, 112, 117, 0, 0, 0, 0, 0, 0])))]) H locs := h
  refine lv_dup S.1 S.2.1 dX4_init_359 rfl ?_
  refine lv_bipush (v := 50) S.1 S.2.1 dX4_init_360 rfl ?_
  refine lv_bipush (v := 112) S.1 S.2.1 dX4_init_362 rfl ?_
  refine in_cast (k := 50) S hK h (by decide) rfl (Nat.le_of_ble_eq_true rfl) rfl dX4_init_364 (fun H locs h => ?_)
  have h : in_H D A H0 (ws ++ [(q, .inl (cC, 56, .inl (in_L [112, 101, 114, 115, 111, 110, 32, 32, 99, 111, 116, 116, 97, 103, 101, 114, 115, 117, 114, 118, 101, 121, 111, 114, 109, 97, 121, 111, 114, 32, 32, 32, 109, 101, 109, 98, 101, 114, 32, 32, 100, 111, 117, 98, 116, 101, 114, 32, 112, 117, 112, 0, 0, 0, 0, 0])))]) H locs := h
  refine lv_dup S.1 S.2.1 dX4_init_365 rfl ?_
  refine lv_bipush (v := 51) S.1 S.2.1 dX4_init_366 rfl ?_
  refine lv_bipush (v := 105) S.1 S.2.1 dX4_init_368 rfl ?_
  refine in_cast (k := 51) S hK h (by decide) rfl (Nat.le_of_ble_eq_true rfl) rfl dX4_init_370 (fun H locs h => ?_)
  have h : in_H D A H0 (ws ++ [(q, .inl (cC, 56, .inl (in_L [112, 101, 114, 115, 111, 110, 32, 32, 99, 111, 116, 116, 97, 103, 101, 114, 115, 117, 114, 118, 101, 121, 111, 114, 109, 97, 121, 111, 114, 32, 32, 32, 109, 101, 109, 98, 101, 114, 32, 32, 100, 111, 117, 98, 116, 101, 114, 32, 112, 117, 112, 105, 0, 0, 0, 0])))]) H locs := h
  refine lv_dup S.1 S.2.1 dX4_init_371 rfl ?_
  refine lv_bipush (v := 52) S.1 S.2.1 dX4_init_372 rfl ?_
  refine lv_bipush (v := 108) S.1 S.2.1 dX4_init_374 rfl ?_
  refine in_cast (k := 52) S hK h (by decide) rfl (Nat.le_of_ble_eq_true rfl) rfl dX4_init_376 (fun H locs h => ?_)
  have h : in_H D A H0 (ws ++ [(q, .inl (cC, 56, .inl (in_L [112, 101, 114, 115, 111, 110, 32, 32, 99, 111, 116, 116, 97, 103, 101, 114, 115, 117, 114, 118, 101, 121, 111, 114, 109, 97, 121, 111, 114, 32, 32, 32, 109, 101, 109, 98, 101, 114, 32, 32, 100, 111, 117, 98, 116, 101, 114, 32, 112, 117, 112, 105, 108, 0, 0, 0])))]) H locs := h
  refine lv_dup S.1 S.2.1 dX4_init_377 rfl ?_
  refine lv_bipush (v := 53) S.1 S.2.1 dX4_init_378 rfl ?_
  refine lv_bipush (v := 32) S.1 S.2.1 dX4_init_380 rfl ?_
  refine in_cast (k := 53) S hK h (by decide) rfl (Nat.le_of_ble_eq_true rfl) rfl dX4_init_382 (fun H locs h => ?_)
  have h : in_H D A H0 (ws ++ [(q, .inl (cC, 56, .inl (in_L [112, 101, 114, 115, 111, 110, 32, 32, 99, 111, 116, 116, 97, 103, 101, 114, 115, 117, 114, 118, 101, 121, 111, 114, 109, 97, 121, 111, 114, 32, 32, 32, 109, 101, 109, 98, 101, 114, 32, 32, 100, 111, 117, 98, 116, 101, 114, 32, 112, 117, 112, 105, 108, 32, 0, 0])))]) H locs := h
  refine lv_dup S.1 S.2.1 dX4_init_383 rfl ?_
  refine lv_bipush (v := 54) S.1 S.2.1 dX4_init_384 rfl ?_
  refine lv_bipush (v := 32) S.1 S.2.1 dX4_init_386 rfl ?_
  refine in_cast (k := 54) S hK h (by decide) rfl (Nat.le_of_ble_eq_true rfl) rfl dX4_init_388 (fun H locs h => ?_)
  have h : in_H D A H0 (ws ++ [(q, .inl (cC, 56, .inl (in_L [112, 101, 114, 115, 111, 110, 32, 32, 99, 111, 116, 116, 97, 103, 101, 114, 115, 117, 114, 118, 101, 121, 111, 114, 109, 97, 121, 111, 114, 32, 32, 32, 109, 101, 109, 98, 101, 114, 32, 32, 100, 111, 117, 98, 116, 101, 114, 32, 112, 117, 112, 105, 108, 32, 32, 0])))]) H locs := h
  refine lv_dup S.1 S.2.1 dX4_init_389 rfl ?_
  refine lv_bipush (v := 55) S.1 S.2.1 dX4_init_390 rfl ?_
  refine lv_bipush (v := 32) S.1 S.2.1 dX4_init_392 rfl ?_
  refine in_cast (k := 55) S hK h (by decide) rfl (Nat.le_of_ble_eq_true rfl) rfl dX4_init_394 (fun H locs h => ?_)
  have h : in_H D A H0 (ws ++ [(q, .inl (cC, 56, .inl (in_L [112, 101, 114, 115, 111, 110, 32, 32, 99, 111, 116, 116, 97, 103, 101, 114, 115, 117, 114, 118, 101, 121, 111, 114, 109, 97, 121, 111, 114, 32, 32, 32, 109, 101, 109, 98, 101, 114, 32, 32, 100, 111, 117, 98, 116, 101, 114, 32, 112, 117, 112, 105, 108, 32, 32, 32])))]) H locs := h
  exact kk H locs h
set_option maxHeartbeats 8000000 in
set_option maxRecDepth 100000 in
theorem in_fill403 {p : Program} {l : Launch} {e : Env} {R : Room} {s : State} {m : MethodId} {args : Array Value} {below : List Frame} {meth : Method} {c : Code} {H : Heap} {locs : List Loc} {cells slots : Nat} {Q : State → Prop} {ls : Array Slot} {rest : List Value} {D : va_G} {A : Nat → Prop} {H0 : Heap} {ws : va_W} {own : String} {nL q : Nat} {cI cC cS : ClassId} (S : CallFix p m c cX4_init nL s args fg_TW own) (hK : va_K D vwCl (in_T cI cC cS) s) (h : in_H D A H0 (ws ++ [(q, .inl (cC, 24, .inl (in_L (List.replicate 24 0))))]) H locs) (kk : ∀ (H : Heap) (locs : List Loc), in_H D A H0 (ws ++ [(q, .inl (cC, 24, .inl (in_L [111, 110, 32, 32, 32, 32, 32, 32, 98, 101, 108, 105, 101, 118, 101, 115, 112, 117, 114, 115, 101, 32, 32, 32])))]) H locs → W p l e R s m args below meth c H locs cells slots Q (F0 m 541 ls (.ref q :: rest))) : W p l e R s m args below meth c H locs cells slots Q (F0 m 403 ls (.ref q :: rest)) := by
  refine lv_dup S.1 S.2.1 dX4_init_403 rfl ?_
  refine lv_iconst (v := 0) S.1 S.2.1 dX4_init_404 rfl ?_
  refine lv_bipush (v := 111) S.1 S.2.1 dX4_init_405 rfl ?_
  refine in_cast (k := 0) S hK h (by decide) rfl (Nat.le_of_ble_eq_true rfl) rfl dX4_init_407 (fun H locs h => ?_)
  have h : in_H D A H0 (ws ++ [(q, .inl (cC, 24, .inl (in_L [111, 0, 0, 0, 0, 0, 0, 0, 0, 0, 0, 0, 0, 0, 0, 0, 0, 0, 0, 0, 0, 0, 0, 0])))]) H locs := h
  refine lv_dup S.1 S.2.1 dX4_init_408 rfl ?_
  refine lv_iconst (v := 1) S.1 S.2.1 dX4_init_409 rfl ?_
  refine lv_bipush (v := 110) S.1 S.2.1 dX4_init_410 rfl ?_
  refine in_cast (k := 1) S hK h (by decide) rfl (Nat.le_of_ble_eq_true rfl) rfl dX4_init_412 (fun H locs h => ?_)
  have h : in_H D A H0 (ws ++ [(q, .inl (cC, 24, .inl (in_L [111, 110, 0, 0, 0, 0, 0, 0, 0, 0, 0, 0, 0, 0, 0, 0, 0, 0, 0, 0, 0, 0, 0, 0])))]) H locs := h
  refine lv_dup S.1 S.2.1 dX4_init_413 rfl ?_
  refine lv_iconst (v := 2) S.1 S.2.1 dX4_init_414 rfl ?_
  refine lv_bipush (v := 32) S.1 S.2.1 dX4_init_415 rfl ?_
  refine in_cast (k := 2) S hK h (by decide) rfl (Nat.le_of_ble_eq_true rfl) rfl dX4_init_417 (fun H locs h => ?_)
  have h : in_H D A H0 (ws ++ [(q, .inl (cC, 24, .inl (in_L [111, 110, 32, 0, 0, 0, 0, 0, 0, 0, 0, 0, 0, 0, 0, 0, 0, 0, 0, 0, 0, 0, 0, 0])))]) H locs := h
  refine lv_dup S.1 S.2.1 dX4_init_418 rfl ?_
  refine lv_iconst (v := 3) S.1 S.2.1 dX4_init_419 rfl ?_
  refine lv_bipush (v := 32) S.1 S.2.1 dX4_init_420 rfl ?_
  refine in_cast (k := 3) S hK h (by decide) rfl (Nat.le_of_ble_eq_true rfl) rfl dX4_init_422 (fun H locs h => ?_)
  have h : in_H D A H0 (ws ++ [(q, .inl (cC, 24, .inl (in_L [111, 110, 32, 32, 0, 0, 0, 0, 0, 0, 0, 0, 0, 0, 0, 0, 0, 0, 0, 0, 0, 0, 0, 0])))]) H locs := h
  refine lv_dup S.1 S.2.1 dX4_init_423 rfl ?_
  refine lv_iconst (v := 4) S.1 S.2.1 dX4_init_424 rfl ?_
  refine lv_bipush (v := 32) S.1 S.2.1 dX4_init_425 rfl ?_
  refine in_cast (k := 4) S hK h (by decide) rfl (Nat.le_of_ble_eq_true rfl) rfl dX4_init_427 (fun H locs h => ?_)
  have h : in_H D A H0 (ws ++ [(q, .inl (cC, 24, .inl (in_L [111, 110, 32, 32, 32, 0, 0, 0, 0, 0, 0, 0, 0, 0, 0, 0, 0, 0, 0, 0, 0, 0, 0, 0])))]) H locs := h
  refine lv_dup S.1 S.2.1 dX4_init_428 rfl ?_
  refine lv_iconst (v := 5) S.1 S.2.1 dX4_init_429 rfl ?_
  refine lv_bipush (v := 32) S.1 S.2.1 dX4_init_430 rfl ?_
  refine in_cast (k := 5) S hK h (by decide) rfl (Nat.le_of_ble_eq_true rfl) rfl dX4_init_432 (fun H locs h => ?_)
  have h : in_H D A H0 (ws ++ [(q, .inl (cC, 24, .inl (in_L [111, 110, 32, 32, 32, 32, 0, 0, 0, 0, 0, 0, 0, 0, 0, 0, 0, 0, 0, 0, 0, 0, 0, 0])))]) H locs := h
  refine lv_dup S.1 S.2.1 dX4_init_433 rfl ?_
  refine lv_bipush (v := 6) S.1 S.2.1 dX4_init_434 rfl ?_
  refine lv_bipush (v := 32) S.1 S.2.1 dX4_init_436 rfl ?_
  refine in_cast (k := 6) S hK h (by decide) rfl (Nat.le_of_ble_eq_true rfl) rfl dX4_init_438 (fun H locs h => ?_)
  have h : in_H D A H0 (ws ++ [(q, .inl (cC, 24, .inl (in_L [111, 110, 32, 32, 32, 32, 32, 0, 0, 0, 0, 0, 0, 0, 0, 0, 0, 0, 0, 0, 0, 0, 0, 0])))]) H locs := h
  refine lv_dup S.1 S.2.1 dX4_init_439 rfl ?_
  refine lv_bipush (v := 7) S.1 S.2.1 dX4_init_440 rfl ?_
  refine lv_bipush (v := 32) S.1 S.2.1 dX4_init_442 rfl ?_
  refine in_cast (k := 7) S hK h (by decide) rfl (Nat.le_of_ble_eq_true rfl) rfl dX4_init_444 (fun H locs h => ?_)
  have h : in_H D A H0 (ws ++ [(q, .inl (cC, 24, .inl (in_L [111, 110, 32, 32, 32, 32, 32, 32, 0, 0, 0, 0, 0, 0, 0, 0, 0, 0, 0, 0, 0, 0, 0, 0])))]) H locs := h
  refine lv_dup S.1 S.2.1 dX4_init_445 rfl ?_
  refine lv_bipush (v := 8) S.1 S.2.1 dX4_init_446 rfl ?_
  refine lv_bipush (v := 98) S.1 S.2.1 dX4_init_448 rfl ?_
  refine in_cast (k := 8) S hK h (by decide) rfl (Nat.le_of_ble_eq_true rfl) rfl dX4_init_450 (fun H locs h => ?_)
  have h : in_H D A H0 (ws ++ [(q, .inl (cC, 24, .inl (in_L [111, 110, 32, 32, 32, 32, 32, 32, 98, 0, 0, 0, 0, 0, 0, 0, 0, 0, 0, 0, 0, 0, 0, 0])))]) H locs := h
  refine lv_dup S.1 S.2.1 dX4_init_451 rfl ?_
  refine lv_bipush (v := 9) S.1 S.2.1 dX4_init_452 rfl ?_
  refine lv_bipush (v := 101) S.1 S.2.1 dX4_init_454 rfl ?_
  refine in_cast (k := 9) S hK h (by decide) rfl (Nat.le_of_ble_eq_true rfl) rfl dX4_init_456 (fun H locs h => ?_)
  have h : in_H D A H0 (ws ++ [(q, .inl (cC, 24, .inl (in_L [111, 110, 32, 32, 32, 32, 32, 32, 98, 101, 0, 0, 0, 0, 0, 0, 0, 0, 0, 0, 0, 0, 0, 0])))]) H locs := h
  refine lv_dup S.1 S.2.1 dX4_init_457 rfl ?_
  refine lv_bipush (v := 10) S.1 S.2.1 dX4_init_458 rfl ?_
  refine lv_bipush (v := 108) S.1 S.2.1 dX4_init_460 rfl ?_
  refine in_cast (k := 10) S hK h (by decide) rfl (Nat.le_of_ble_eq_true rfl) rfl dX4_init_462 (fun H locs h => ?_)
  have h : in_H D A H0 (ws ++ [(q, .inl (cC, 24, .inl (in_L [111, 110, 32, 32, 32, 32, 32, 32, 98, 101, 108, 0, 0, 0, 0, 0, 0, 0, 0, 0, 0, 0, 0, 0])))]) H locs := h
  refine lv_dup S.1 S.2.1 dX4_init_463 rfl ?_
  refine lv_bipush (v := 11) S.1 S.2.1 dX4_init_464 rfl ?_
  refine lv_bipush (v := 105) S.1 S.2.1 dX4_init_466 rfl ?_
  refine in_cast (k := 11) S hK h (by decide) rfl (Nat.le_of_ble_eq_true rfl) rfl dX4_init_468 (fun H locs h => ?_)
  have h : in_H D A H0 (ws ++ [(q, .inl (cC, 24, .inl (in_L [111, 110, 32, 32, 32, 32, 32, 32, 98, 101, 108, 105, 0, 0, 0, 0, 0, 0, 0, 0, 0, 0, 0, 0])))]) H locs := h
  refine lv_dup S.1 S.2.1 dX4_init_469 rfl ?_
  refine lv_bipush (v := 12) S.1 S.2.1 dX4_init_470 rfl ?_
  refine lv_bipush (v := 101) S.1 S.2.1 dX4_init_472 rfl ?_
  refine in_cast (k := 12) S hK h (by decide) rfl (Nat.le_of_ble_eq_true rfl) rfl dX4_init_474 (fun H locs h => ?_)
  have h : in_H D A H0 (ws ++ [(q, .inl (cC, 24, .inl (in_L [111, 110, 32, 32, 32, 32, 32, 32, 98, 101, 108, 105, 101, 0, 0, 0, 0, 0, 0, 0, 0, 0, 0, 0])))]) H locs := h
  refine lv_dup S.1 S.2.1 dX4_init_475 rfl ?_
  refine lv_bipush (v := 13) S.1 S.2.1 dX4_init_476 rfl ?_
  refine lv_bipush (v := 118) S.1 S.2.1 dX4_init_478 rfl ?_
  refine in_cast (k := 13) S hK h (by decide) rfl (Nat.le_of_ble_eq_true rfl) rfl dX4_init_480 (fun H locs h => ?_)
  have h : in_H D A H0 (ws ++ [(q, .inl (cC, 24, .inl (in_L [111, 110, 32, 32, 32, 32, 32, 32, 98, 101, 108, 105, 101, 118, 0, 0, 0, 0, 0, 0, 0, 0, 0, 0])))]) H locs := h
  refine lv_dup S.1 S.2.1 dX4_init_481 rfl ?_
  refine lv_bipush (v := 14) S.1 S.2.1 dX4_init_482 rfl ?_
  refine lv_bipush (v := 101) S.1 S.2.1 dX4_init_484 rfl ?_
  refine in_cast (k := 14) S hK h (by decide) rfl (Nat.le_of_ble_eq_true rfl) rfl dX4_init_486 (fun H locs h => ?_)
  have h : in_H D A H0 (ws ++ [(q, .inl (cC, 24, .inl (in_L [111, 110, 32, 32, 32, 32, 32, 32, 98, 101, 108, 105, 101, 118, 101, 0, 0, 0, 0, 0, 0, 0, 0, 0])))]) H locs := h
  refine lv_dup S.1 S.2.1 dX4_init_487 rfl ?_
  refine lv_bipush (v := 15) S.1 S.2.1 dX4_init_488 rfl ?_
  refine lv_bipush (v := 115) S.1 S.2.1 dX4_init_490 rfl ?_
  refine in_cast (k := 15) S hK h (by decide) rfl (Nat.le_of_ble_eq_true rfl) rfl dX4_init_492 (fun H locs h => ?_)
  have h : in_H D A H0 (ws ++ [(q, .inl (cC, 24, .inl (in_L [111, 110, 32, 32, 32, 32, 32, 32, 98, 101, 108, 105, 101, 118, 101, 115, 0, 0, 0, 0, 0, 0, 0, 0])))]) H locs := h
  refine lv_dup S.1 S.2.1 dX4_init_493 rfl ?_
  refine lv_bipush (v := 16) S.1 S.2.1 dX4_init_494 rfl ?_
  refine lv_bipush (v := 112) S.1 S.2.1 dX4_init_496 rfl ?_
  refine in_cast (k := 16) S hK h (by decide) rfl (Nat.le_of_ble_eq_true rfl) rfl dX4_init_498 (fun H locs h => ?_)
  have h : in_H D A H0 (ws ++ [(q, .inl (cC, 24, .inl (in_L [111, 110, 32, 32, 32, 32, 32, 32, 98, 101, 108, 105, 101, 118, 101, 115, 112, 0, 0, 0, 0, 0, 0, 0])))]) H locs := h
  refine lv_dup S.1 S.2.1 dX4_init_499 rfl ?_
  refine lv_bipush (v := 17) S.1 S.2.1 dX4_init_500 rfl ?_
  refine lv_bipush (v := 117) S.1 S.2.1 dX4_init_502 rfl ?_
  refine in_cast (k := 17) S hK h (by decide) rfl (Nat.le_of_ble_eq_true rfl) rfl dX4_init_504 (fun H locs h => ?_)
  have h : in_H D A H0 (ws ++ [(q, .inl (cC, 24, .inl (in_L [111, 110, 32, 32, 32, 32, 32, 32, 98, 101, 108, 105, 101, 118, 101, 115, 112, 117, 0, 0, 0, 0, 0, 0])))]) H locs := h
  refine lv_dup S.1 S.2.1 dX4_init_505 rfl ?_
  refine lv_bipush (v := 18) S.1 S.2.1 dX4_init_506 rfl ?_
  refine lv_bipush (v := 114) S.1 S.2.1 dX4_init_508 rfl ?_
  refine in_cast (k := 18) S hK h (by decide) rfl (Nat.le_of_ble_eq_true rfl) rfl dX4_init_510 (fun H locs h => ?_)
  have h : in_H D A H0 (ws ++ [(q, .inl (cC, 24, .inl (in_L [111, 110, 32, 32, 32, 32, 32, 32, 98, 101, 108, 105, 101, 118, 101, 115, 112, 117, 114, 0, 0, 0, 0, 0])))]) H locs := h
  refine lv_dup S.1 S.2.1 dX4_init_511 rfl ?_
  refine lv_bipush (v := 19) S.1 S.2.1 dX4_init_512 rfl ?_
  refine lv_bipush (v := 115) S.1 S.2.1 dX4_init_514 rfl ?_
  refine in_cast (k := 19) S hK h (by decide) rfl (Nat.le_of_ble_eq_true rfl) rfl dX4_init_516 (fun H locs h => ?_)
  have h : in_H D A H0 (ws ++ [(q, .inl (cC, 24, .inl (in_L [111, 110, 32, 32, 32, 32, 32, 32, 98, 101, 108, 105, 101, 118, 101, 115, 112, 117, 114, 115, 0, 0, 0, 0])))]) H locs := h
  refine lv_dup S.1 S.2.1 dX4_init_517 rfl ?_
  refine lv_bipush (v := 20) S.1 S.2.1 dX4_init_518 rfl ?_
  refine lv_bipush (v := 101) S.1 S.2.1 dX4_init_520 rfl ?_
  refine in_cast (k := 20) S hK h (by decide) rfl (Nat.le_of_ble_eq_true rfl) rfl dX4_init_522 (fun H locs h => ?_)
  have h : in_H D A H0 (ws ++ [(q, .inl (cC, 24, .inl (in_L [111, 110, 32, 32, 32, 32, 32, 32, 98, 101, 108, 105, 101, 118, 101, 115, 112, 117, 114, 115, 101, 0, 0, 0])))]) H locs := h
  refine lv_dup S.1 S.2.1 dX4_init_523 rfl ?_
  refine lv_bipush (v := 21) S.1 S.2.1 dX4_init_524 rfl ?_
  refine lv_bipush (v := 32) S.1 S.2.1 dX4_init_526 rfl ?_
  refine in_cast (k := 21) S hK h (by decide) rfl (Nat.le_of_ble_eq_true rfl) rfl dX4_init_528 (fun H locs h => ?_)
  have h : in_H D A H0 (ws ++ [(q, .inl (cC, 24, .inl (in_L [111, 110, 32, 32, 32, 32, 32, 32, 98, 101, 108, 105, 101, 118, 101, 115, 112, 117, 114, 115, 101, 32, 0, 0])))]) H locs := h
  refine lv_dup S.1 S.2.1 dX4_init_529 rfl ?_
  refine lv_bipush (v := 22) S.1 S.2.1 dX4_init_530 rfl ?_
  refine lv_bipush (v := 32) S.1 S.2.1 dX4_init_532 rfl ?_
  refine in_cast (k := 22) S hK h (by decide) rfl (Nat.le_of_ble_eq_true rfl) rfl dX4_init_534 (fun H locs h => ?_)
  have h : in_H D A H0 (ws ++ [(q, .inl (cC, 24, .inl (in_L [111, 110, 32, 32, 32, 32, 32, 32, 98, 101, 108, 105, 101, 118, 101, 115, 112, 117, 114, 115, 101, 32, 32, 0])))]) H locs := h
  refine lv_dup S.1 S.2.1 dX4_init_535 rfl ?_
  refine lv_bipush (v := 23) S.1 S.2.1 dX4_init_536 rfl ?_
  refine lv_bipush (v := 32) S.1 S.2.1 dX4_init_538 rfl ?_
  refine in_cast (k := 23) S hK h (by decide) rfl (Nat.le_of_ble_eq_true rfl) rfl dX4_init_540 (fun H locs h => ?_)
  have h : in_H D A H0 (ws ++ [(q, .inl (cC, 24, .inl (in_L [111, 110, 32, 32, 32, 32, 32, 32, 98, 101, 108, 105, 101, 118, 101, 115, 112, 117, 114, 115, 101, 32, 32, 32])))]) H locs := h
  exact kk H locs h
set_option maxHeartbeats 8000000 in
set_option maxRecDepth 100000 in
theorem in_fill549 {p : Program} {l : Launch} {e : Env} {R : Room} {s : State} {m : MethodId} {args : Array Value} {below : List Frame} {meth : Method} {c : Code} {H : Heap} {locs : List Loc} {cells slots : Nat} {Q : State → Prop} {ls : Array Slot} {rest : List Value} {D : va_G} {A : Nat → Prop} {H0 : Heap} {ws : va_W} {own : String} {nL q : Nat} {cI cC cS : ClassId} (S : CallFix p m c cX4_init nL s args fg_TW own) (hK : va_K D vwCl (in_T cI cC cS) s) (h : in_H D A H0 (ws ++ [(q, .inl (cC, 24, .inl (in_L (List.replicate 24 0))))]) H locs) (kk : ∀ (H : Heap) (locs : List Loc), in_H D A H0 (ws ++ [(q, .inl (cC, 24, .inl (in_L [108, 111, 116, 32, 32, 32, 32, 32, 115, 117, 110, 32, 32, 32, 32, 32, 109, 105, 115, 116, 32, 32, 32, 32])))]) H locs → W p l e R s m args below meth c H locs cells slots Q (F0 m 687 ls (.ref q :: rest))) : W p l e R s m args below meth c H locs cells slots Q (F0 m 549 ls (.ref q :: rest)) := by
  refine lv_dup S.1 S.2.1 dX4_init_549 rfl ?_
  refine lv_iconst (v := 0) S.1 S.2.1 dX4_init_550 rfl ?_
  refine lv_bipush (v := 108) S.1 S.2.1 dX4_init_551 rfl ?_
  refine in_cast (k := 0) S hK h (by decide) rfl (Nat.le_of_ble_eq_true rfl) rfl dX4_init_553 (fun H locs h => ?_)
  have h : in_H D A H0 (ws ++ [(q, .inl (cC, 24, .inl (in_L [108, 0, 0, 0, 0, 0, 0, 0, 0, 0, 0, 0, 0, 0, 0, 0, 0, 0, 0, 0, 0, 0, 0, 0])))]) H locs := h
  refine lv_dup S.1 S.2.1 dX4_init_554 rfl ?_
  refine lv_iconst (v := 1) S.1 S.2.1 dX4_init_555 rfl ?_
  refine lv_bipush (v := 111) S.1 S.2.1 dX4_init_556 rfl ?_
  refine in_cast (k := 1) S hK h (by decide) rfl (Nat.le_of_ble_eq_true rfl) rfl dX4_init_558 (fun H locs h => ?_)
  have h : in_H D A H0 (ws ++ [(q, .inl (cC, 24, .inl (in_L [108, 111, 0, 0, 0, 0, 0, 0, 0, 0, 0, 0, 0, 0, 0, 0, 0, 0, 0, 0, 0, 0, 0, 0])))]) H locs := h
  refine lv_dup S.1 S.2.1 dX4_init_559 rfl ?_
  refine lv_iconst (v := 2) S.1 S.2.1 dX4_init_560 rfl ?_
  refine lv_bipush (v := 116) S.1 S.2.1 dX4_init_561 rfl ?_
  refine in_cast (k := 2) S hK h (by decide) rfl (Nat.le_of_ble_eq_true rfl) rfl dX4_init_563 (fun H locs h => ?_)
  have h : in_H D A H0 (ws ++ [(q, .inl (cC, 24, .inl (in_L [108, 111, 116, 0, 0, 0, 0, 0, 0, 0, 0, 0, 0, 0, 0, 0, 0, 0, 0, 0, 0, 0, 0, 0])))]) H locs := h
  refine lv_dup S.1 S.2.1 dX4_init_564 rfl ?_
  refine lv_iconst (v := 3) S.1 S.2.1 dX4_init_565 rfl ?_
  refine lv_bipush (v := 32) S.1 S.2.1 dX4_init_566 rfl ?_
  refine in_cast (k := 3) S hK h (by decide) rfl (Nat.le_of_ble_eq_true rfl) rfl dX4_init_568 (fun H locs h => ?_)
  have h : in_H D A H0 (ws ++ [(q, .inl (cC, 24, .inl (in_L [108, 111, 116, 32, 0, 0, 0, 0, 0, 0, 0, 0, 0, 0, 0, 0, 0, 0, 0, 0, 0, 0, 0, 0])))]) H locs := h
  refine lv_dup S.1 S.2.1 dX4_init_569 rfl ?_
  refine lv_iconst (v := 4) S.1 S.2.1 dX4_init_570 rfl ?_
  refine lv_bipush (v := 32) S.1 S.2.1 dX4_init_571 rfl ?_
  refine in_cast (k := 4) S hK h (by decide) rfl (Nat.le_of_ble_eq_true rfl) rfl dX4_init_573 (fun H locs h => ?_)
  have h : in_H D A H0 (ws ++ [(q, .inl (cC, 24, .inl (in_L [108, 111, 116, 32, 32, 0, 0, 0, 0, 0, 0, 0, 0, 0, 0, 0, 0, 0, 0, 0, 0, 0, 0, 0])))]) H locs := h
  refine lv_dup S.1 S.2.1 dX4_init_574 rfl ?_
  refine lv_iconst (v := 5) S.1 S.2.1 dX4_init_575 rfl ?_
  refine lv_bipush (v := 32) S.1 S.2.1 dX4_init_576 rfl ?_
  refine in_cast (k := 5) S hK h (by decide) rfl (Nat.le_of_ble_eq_true rfl) rfl dX4_init_578 (fun H locs h => ?_)
  have h : in_H D A H0 (ws ++ [(q, .inl (cC, 24, .inl (in_L [108, 111, 116, 32, 32, 32, 0, 0, 0, 0, 0, 0, 0, 0, 0, 0, 0, 0, 0, 0, 0, 0, 0, 0])))]) H locs := h
  refine lv_dup S.1 S.2.1 dX4_init_579 rfl ?_
  refine lv_bipush (v := 6) S.1 S.2.1 dX4_init_580 rfl ?_
  refine lv_bipush (v := 32) S.1 S.2.1 dX4_init_582 rfl ?_
  refine in_cast (k := 6) S hK h (by decide) rfl (Nat.le_of_ble_eq_true rfl) rfl dX4_init_584 (fun H locs h => ?_)
  have h : in_H D A H0 (ws ++ [(q, .inl (cC, 24, .inl (in_L [108, 111, 116, 32, 32, 32, 32, 0, 0, 0, 0, 0, 0, 0, 0, 0, 0, 0, 0, 0, 0, 0, 0, 0])))]) H locs := h
  refine lv_dup S.1 S.2.1 dX4_init_585 rfl ?_
  refine lv_bipush (v := 7) S.1 S.2.1 dX4_init_586 rfl ?_
  refine lv_bipush (v := 32) S.1 S.2.1 dX4_init_588 rfl ?_
  refine in_cast (k := 7) S hK h (by decide) rfl (Nat.le_of_ble_eq_true rfl) rfl dX4_init_590 (fun H locs h => ?_)
  have h : in_H D A H0 (ws ++ [(q, .inl (cC, 24, .inl (in_L [108, 111, 116, 32, 32, 32, 32, 32, 0, 0, 0, 0, 0, 0, 0, 0, 0, 0, 0, 0, 0, 0, 0, 0])))]) H locs := h
  refine lv_dup S.1 S.2.1 dX4_init_591 rfl ?_
  refine lv_bipush (v := 8) S.1 S.2.1 dX4_init_592 rfl ?_
  refine lv_bipush (v := 115) S.1 S.2.1 dX4_init_594 rfl ?_
  refine in_cast (k := 8) S hK h (by decide) rfl (Nat.le_of_ble_eq_true rfl) rfl dX4_init_596 (fun H locs h => ?_)
  have h : in_H D A H0 (ws ++ [(q, .inl (cC, 24, .inl (in_L [108, 111, 116, 32, 32, 32, 32, 32, 115, 0, 0, 0, 0, 0, 0, 0, 0, 0, 0, 0, 0, 0, 0, 0])))]) H locs := h
  refine lv_dup S.1 S.2.1 dX4_init_597 rfl ?_
  refine lv_bipush (v := 9) S.1 S.2.1 dX4_init_598 rfl ?_
  refine lv_bipush (v := 117) S.1 S.2.1 dX4_init_600 rfl ?_
  refine in_cast (k := 9) S hK h (by decide) rfl (Nat.le_of_ble_eq_true rfl) rfl dX4_init_602 (fun H locs h => ?_)
  have h : in_H D A H0 (ws ++ [(q, .inl (cC, 24, .inl (in_L [108, 111, 116, 32, 32, 32, 32, 32, 115, 117, 0, 0, 0, 0, 0, 0, 0, 0, 0, 0, 0, 0, 0, 0])))]) H locs := h
  refine lv_dup S.1 S.2.1 dX4_init_603 rfl ?_
  refine lv_bipush (v := 10) S.1 S.2.1 dX4_init_604 rfl ?_
  refine lv_bipush (v := 110) S.1 S.2.1 dX4_init_606 rfl ?_
  refine in_cast (k := 10) S hK h (by decide) rfl (Nat.le_of_ble_eq_true rfl) rfl dX4_init_608 (fun H locs h => ?_)
  have h : in_H D A H0 (ws ++ [(q, .inl (cC, 24, .inl (in_L [108, 111, 116, 32, 32, 32, 32, 32, 115, 117, 110, 0, 0, 0, 0, 0, 0, 0, 0, 0, 0, 0, 0, 0])))]) H locs := h
  refine lv_dup S.1 S.2.1 dX4_init_609 rfl ?_
  refine lv_bipush (v := 11) S.1 S.2.1 dX4_init_610 rfl ?_
  refine lv_bipush (v := 32) S.1 S.2.1 dX4_init_612 rfl ?_
  refine in_cast (k := 11) S hK h (by decide) rfl (Nat.le_of_ble_eq_true rfl) rfl dX4_init_614 (fun H locs h => ?_)
  have h : in_H D A H0 (ws ++ [(q, .inl (cC, 24, .inl (in_L [108, 111, 116, 32, 32, 32, 32, 32, 115, 117, 110, 32, 0, 0, 0, 0, 0, 0, 0, 0, 0, 0, 0, 0])))]) H locs := h
  refine lv_dup S.1 S.2.1 dX4_init_615 rfl ?_
  refine lv_bipush (v := 12) S.1 S.2.1 dX4_init_616 rfl ?_
  refine lv_bipush (v := 32) S.1 S.2.1 dX4_init_618 rfl ?_
  refine in_cast (k := 12) S hK h (by decide) rfl (Nat.le_of_ble_eq_true rfl) rfl dX4_init_620 (fun H locs h => ?_)
  have h : in_H D A H0 (ws ++ [(q, .inl (cC, 24, .inl (in_L [108, 111, 116, 32, 32, 32, 32, 32, 115, 117, 110, 32, 32, 0, 0, 0, 0, 0, 0, 0, 0, 0, 0, 0])))]) H locs := h
  refine lv_dup S.1 S.2.1 dX4_init_621 rfl ?_
  refine lv_bipush (v := 13) S.1 S.2.1 dX4_init_622 rfl ?_
  refine lv_bipush (v := 32) S.1 S.2.1 dX4_init_624 rfl ?_
  refine in_cast (k := 13) S hK h (by decide) rfl (Nat.le_of_ble_eq_true rfl) rfl dX4_init_626 (fun H locs h => ?_)
  have h : in_H D A H0 (ws ++ [(q, .inl (cC, 24, .inl (in_L [108, 111, 116, 32, 32, 32, 32, 32, 115, 117, 110, 32, 32, 32, 0, 0, 0, 0, 0, 0, 0, 0, 0, 0])))]) H locs := h
  refine lv_dup S.1 S.2.1 dX4_init_627 rfl ?_
  refine lv_bipush (v := 14) S.1 S.2.1 dX4_init_628 rfl ?_
  refine lv_bipush (v := 32) S.1 S.2.1 dX4_init_630 rfl ?_
  refine in_cast (k := 14) S hK h (by decide) rfl (Nat.le_of_ble_eq_true rfl) rfl dX4_init_632 (fun H locs h => ?_)
  have h : in_H D A H0 (ws ++ [(q, .inl (cC, 24, .inl (in_L [108, 111, 116, 32, 32, 32, 32, 32, 115, 117, 110, 32, 32, 32, 32, 0, 0, 0, 0, 0, 0, 0, 0, 0])))]) H locs := h
  refine lv_dup S.1 S.2.1 dX4_init_633 rfl ?_
  refine lv_bipush (v := 15) S.1 S.2.1 dX4_init_634 rfl ?_
  refine lv_bipush (v := 32) S.1 S.2.1 dX4_init_636 rfl ?_
  refine in_cast (k := 15) S hK h (by decide) rfl (Nat.le_of_ble_eq_true rfl) rfl dX4_init_638 (fun H locs h => ?_)
  have h : in_H D A H0 (ws ++ [(q, .inl (cC, 24, .inl (in_L [108, 111, 116, 32, 32, 32, 32, 32, 115, 117, 110, 32, 32, 32, 32, 32, 0, 0, 0, 0, 0, 0, 0, 0])))]) H locs := h
  refine lv_dup S.1 S.2.1 dX4_init_639 rfl ?_
  refine lv_bipush (v := 16) S.1 S.2.1 dX4_init_640 rfl ?_
  refine lv_bipush (v := 109) S.1 S.2.1 dX4_init_642 rfl ?_
  refine in_cast (k := 16) S hK h (by decide) rfl (Nat.le_of_ble_eq_true rfl) rfl dX4_init_644 (fun H locs h => ?_)
  have h : in_H D A H0 (ws ++ [(q, .inl (cC, 24, .inl (in_L [108, 111, 116, 32, 32, 32, 32, 32, 115, 117, 110, 32, 32, 32, 32, 32, 109, 0, 0, 0, 0, 0, 0, 0])))]) H locs := h
  refine lv_dup S.1 S.2.1 dX4_init_645 rfl ?_
  refine lv_bipush (v := 17) S.1 S.2.1 dX4_init_646 rfl ?_
  refine lv_bipush (v := 105) S.1 S.2.1 dX4_init_648 rfl ?_
  refine in_cast (k := 17) S hK h (by decide) rfl (Nat.le_of_ble_eq_true rfl) rfl dX4_init_650 (fun H locs h => ?_)
  have h : in_H D A H0 (ws ++ [(q, .inl (cC, 24, .inl (in_L [108, 111, 116, 32, 32, 32, 32, 32, 115, 117, 110, 32, 32, 32, 32, 32, 109, 105, 0, 0, 0, 0, 0, 0])))]) H locs := h
  refine lv_dup S.1 S.2.1 dX4_init_651 rfl ?_
  refine lv_bipush (v := 18) S.1 S.2.1 dX4_init_652 rfl ?_
  refine lv_bipush (v := 115) S.1 S.2.1 dX4_init_654 rfl ?_
  refine in_cast (k := 18) S hK h (by decide) rfl (Nat.le_of_ble_eq_true rfl) rfl dX4_init_656 (fun H locs h => ?_)
  have h : in_H D A H0 (ws ++ [(q, .inl (cC, 24, .inl (in_L [108, 111, 116, 32, 32, 32, 32, 32, 115, 117, 110, 32, 32, 32, 32, 32, 109, 105, 115, 0, 0, 0, 0, 0])))]) H locs := h
  refine lv_dup S.1 S.2.1 dX4_init_657 rfl ?_
  refine lv_bipush (v := 19) S.1 S.2.1 dX4_init_658 rfl ?_
  refine lv_bipush (v := 116) S.1 S.2.1 dX4_init_660 rfl ?_
  refine in_cast (k := 19) S hK h (by decide) rfl (Nat.le_of_ble_eq_true rfl) rfl dX4_init_662 (fun H locs h => ?_)
  have h : in_H D A H0 (ws ++ [(q, .inl (cC, 24, .inl (in_L [108, 111, 116, 32, 32, 32, 32, 32, 115, 117, 110, 32, 32, 32, 32, 32, 109, 105, 115, 116, 0, 0, 0, 0])))]) H locs := h
  refine lv_dup S.1 S.2.1 dX4_init_663 rfl ?_
  refine lv_bipush (v := 20) S.1 S.2.1 dX4_init_664 rfl ?_
  refine lv_bipush (v := 32) S.1 S.2.1 dX4_init_666 rfl ?_
  refine in_cast (k := 20) S hK h (by decide) rfl (Nat.le_of_ble_eq_true rfl) rfl dX4_init_668 (fun H locs h => ?_)
  have h : in_H D A H0 (ws ++ [(q, .inl (cC, 24, .inl (in_L [108, 111, 116, 32, 32, 32, 32, 32, 115, 117, 110, 32, 32, 32, 32, 32, 109, 105, 115, 116, 32, 0, 0, 0])))]) H locs := h
  refine lv_dup S.1 S.2.1 dX4_init_669 rfl ?_
  refine lv_bipush (v := 21) S.1 S.2.1 dX4_init_670 rfl ?_
  refine lv_bipush (v := 32) S.1 S.2.1 dX4_init_672 rfl ?_
  refine in_cast (k := 21) S hK h (by decide) rfl (Nat.le_of_ble_eq_true rfl) rfl dX4_init_674 (fun H locs h => ?_)
  have h : in_H D A H0 (ws ++ [(q, .inl (cC, 24, .inl (in_L [108, 111, 116, 32, 32, 32, 32, 32, 115, 117, 110, 32, 32, 32, 32, 32, 109, 105, 115, 116, 32, 32, 0, 0])))]) H locs := h
  refine lv_dup S.1 S.2.1 dX4_init_675 rfl ?_
  refine lv_bipush (v := 22) S.1 S.2.1 dX4_init_676 rfl ?_
  refine lv_bipush (v := 32) S.1 S.2.1 dX4_init_678 rfl ?_
  refine in_cast (k := 22) S hK h (by decide) rfl (Nat.le_of_ble_eq_true rfl) rfl dX4_init_680 (fun H locs h => ?_)
  have h : in_H D A H0 (ws ++ [(q, .inl (cC, 24, .inl (in_L [108, 111, 116, 32, 32, 32, 32, 32, 115, 117, 110, 32, 32, 32, 32, 32, 109, 105, 115, 116, 32, 32, 32, 0])))]) H locs := h
  refine lv_dup S.1 S.2.1 dX4_init_681 rfl ?_
  refine lv_bipush (v := 23) S.1 S.2.1 dX4_init_682 rfl ?_
  refine lv_bipush (v := 32) S.1 S.2.1 dX4_init_684 rfl ?_
  refine in_cast (k := 23) S hK h (by decide) rfl (Nat.le_of_ble_eq_true rfl) rfl dX4_init_686 (fun H locs h => ?_)
  have h : in_H D A H0 (ws ++ [(q, .inl (cC, 24, .inl (in_L [108, 111, 116, 32, 32, 32, 32, 32, 115, 117, 110, 32, 32, 32, 32, 32, 109, 105, 115, 116, 32, 32, 32, 32])))]) H locs := h
  exact kk H locs h
set_option maxHeartbeats 8000000 in
set_option maxRecDepth 100000 in
theorem in_fill695 {p : Program} {l : Launch} {e : Env} {R : Room} {s : State} {m : MethodId} {args : Array Value} {below : List Frame} {meth : Method} {c : Code} {H : Heap} {locs : List Loc} {cells slots : Nat} {Q : State → Prop} {ls : Array Slot} {rest : List Value} {D : va_G} {A : Nat → Prop} {H0 : Heap} {ws : va_W} {own : String} {nL q : Nat} {cI cC cS : ClassId} (S : CallFix p m c cX4_init nL s args fg_TW own) (hK : va_K D vwCl (in_T cI cC cS) s) (h : in_H D A H0 (ws ++ [(q, .inl (cC, 24, .inl (in_L (List.replicate 24 0))))]) H locs) (kk : ∀ (H : Heap) (locs : List Loc), in_H D A H0 (ws ++ [(q, .inl (cC, 24, .inl (in_L [102, 111, 103, 32, 32, 32, 32, 32, 114, 101, 110, 116, 32, 32, 32, 32, 111, 119, 110, 101, 114, 32, 32, 32])))]) H locs → W p l e R s m args below meth c H locs cells slots Q (F0 m 833 ls (.ref q :: rest))) : W p l e R s m args below meth c H locs cells slots Q (F0 m 695 ls (.ref q :: rest)) := by
  refine lv_dup S.1 S.2.1 dX4_init_695 rfl ?_
  refine lv_iconst (v := 0) S.1 S.2.1 dX4_init_696 rfl ?_
  refine lv_bipush (v := 102) S.1 S.2.1 dX4_init_697 rfl ?_
  refine in_cast (k := 0) S hK h (by decide) rfl (Nat.le_of_ble_eq_true rfl) rfl dX4_init_699 (fun H locs h => ?_)
  have h : in_H D A H0 (ws ++ [(q, .inl (cC, 24, .inl (in_L [102, 0, 0, 0, 0, 0, 0, 0, 0, 0, 0, 0, 0, 0, 0, 0, 0, 0, 0, 0, 0, 0, 0, 0])))]) H locs := h
  refine lv_dup S.1 S.2.1 dX4_init_700 rfl ?_
  refine lv_iconst (v := 1) S.1 S.2.1 dX4_init_701 rfl ?_
  refine lv_bipush (v := 111) S.1 S.2.1 dX4_init_702 rfl ?_
  refine in_cast (k := 1) S hK h (by decide) rfl (Nat.le_of_ble_eq_true rfl) rfl dX4_init_704 (fun H locs h => ?_)
  have h : in_H D A H0 (ws ++ [(q, .inl (cC, 24, .inl (in_L [102, 111, 0, 0, 0, 0, 0, 0, 0, 0, 0, 0, 0, 0, 0, 0, 0, 0, 0, 0, 0, 0, 0, 0])))]) H locs := h
  refine lv_dup S.1 S.2.1 dX4_init_705 rfl ?_
  refine lv_iconst (v := 2) S.1 S.2.1 dX4_init_706 rfl ?_
  refine lv_bipush (v := 103) S.1 S.2.1 dX4_init_707 rfl ?_
  refine in_cast (k := 2) S hK h (by decide) rfl (Nat.le_of_ble_eq_true rfl) rfl dX4_init_709 (fun H locs h => ?_)
  have h : in_H D A H0 (ws ++ [(q, .inl (cC, 24, .inl (in_L [102, 111, 103, 0, 0, 0, 0, 0, 0, 0, 0, 0, 0, 0, 0, 0, 0, 0, 0, 0, 0, 0, 0, 0])))]) H locs := h
  refine lv_dup S.1 S.2.1 dX4_init_710 rfl ?_
  refine lv_iconst (v := 3) S.1 S.2.1 dX4_init_711 rfl ?_
  refine lv_bipush (v := 32) S.1 S.2.1 dX4_init_712 rfl ?_
  refine in_cast (k := 3) S hK h (by decide) rfl (Nat.le_of_ble_eq_true rfl) rfl dX4_init_714 (fun H locs h => ?_)
  have h : in_H D A H0 (ws ++ [(q, .inl (cC, 24, .inl (in_L [102, 111, 103, 32, 0, 0, 0, 0, 0, 0, 0, 0, 0, 0, 0, 0, 0, 0, 0, 0, 0, 0, 0, 0])))]) H locs := h
  refine lv_dup S.1 S.2.1 dX4_init_715 rfl ?_
  refine lv_iconst (v := 4) S.1 S.2.1 dX4_init_716 rfl ?_
  refine lv_bipush (v := 32) S.1 S.2.1 dX4_init_717 rfl ?_
  refine in_cast (k := 4) S hK h (by decide) rfl (Nat.le_of_ble_eq_true rfl) rfl dX4_init_719 (fun H locs h => ?_)
  have h : in_H D A H0 (ws ++ [(q, .inl (cC, 24, .inl (in_L [102, 111, 103, 32, 32, 0, 0, 0, 0, 0, 0, 0, 0, 0, 0, 0, 0, 0, 0, 0, 0, 0, 0, 0])))]) H locs := h
  refine lv_dup S.1 S.2.1 dX4_init_720 rfl ?_
  refine lv_iconst (v := 5) S.1 S.2.1 dX4_init_721 rfl ?_
  refine lv_bipush (v := 32) S.1 S.2.1 dX4_init_722 rfl ?_
  refine in_cast (k := 5) S hK h (by decide) rfl (Nat.le_of_ble_eq_true rfl) rfl dX4_init_724 (fun H locs h => ?_)
  have h : in_H D A H0 (ws ++ [(q, .inl (cC, 24, .inl (in_L [102, 111, 103, 32, 32, 32, 0, 0, 0, 0, 0, 0, 0, 0, 0, 0, 0, 0, 0, 0, 0, 0, 0, 0])))]) H locs := h
  refine lv_dup S.1 S.2.1 dX4_init_725 rfl ?_
  refine lv_bipush (v := 6) S.1 S.2.1 dX4_init_726 rfl ?_
  refine lv_bipush (v := 32) S.1 S.2.1 dX4_init_728 rfl ?_
  refine in_cast (k := 6) S hK h (by decide) rfl (Nat.le_of_ble_eq_true rfl) rfl dX4_init_730 (fun H locs h => ?_)
  have h : in_H D A H0 (ws ++ [(q, .inl (cC, 24, .inl (in_L [102, 111, 103, 32, 32, 32, 32, 0, 0, 0, 0, 0, 0, 0, 0, 0, 0, 0, 0, 0, 0, 0, 0, 0])))]) H locs := h
  refine lv_dup S.1 S.2.1 dX4_init_731 rfl ?_
  refine lv_bipush (v := 7) S.1 S.2.1 dX4_init_732 rfl ?_
  refine lv_bipush (v := 32) S.1 S.2.1 dX4_init_734 rfl ?_
  refine in_cast (k := 7) S hK h (by decide) rfl (Nat.le_of_ble_eq_true rfl) rfl dX4_init_736 (fun H locs h => ?_)
  have h : in_H D A H0 (ws ++ [(q, .inl (cC, 24, .inl (in_L [102, 111, 103, 32, 32, 32, 32, 32, 0, 0, 0, 0, 0, 0, 0, 0, 0, 0, 0, 0, 0, 0, 0, 0])))]) H locs := h
  refine lv_dup S.1 S.2.1 dX4_init_737 rfl ?_
  refine lv_bipush (v := 8) S.1 S.2.1 dX4_init_738 rfl ?_
  refine lv_bipush (v := 114) S.1 S.2.1 dX4_init_740 rfl ?_
  refine in_cast (k := 8) S hK h (by decide) rfl (Nat.le_of_ble_eq_true rfl) rfl dX4_init_742 (fun H locs h => ?_)
  have h : in_H D A H0 (ws ++ [(q, .inl (cC, 24, .inl (in_L [102, 111, 103, 32, 32, 32, 32, 32, 114, 0, 0, 0, 0, 0, 0, 0, 0, 0, 0, 0, 0, 0, 0, 0])))]) H locs := h
  refine lv_dup S.1 S.2.1 dX4_init_743 rfl ?_
  refine lv_bipush (v := 9) S.1 S.2.1 dX4_init_744 rfl ?_
  refine lv_bipush (v := 101) S.1 S.2.1 dX4_init_746 rfl ?_
  refine in_cast (k := 9) S hK h (by decide) rfl (Nat.le_of_ble_eq_true rfl) rfl dX4_init_748 (fun H locs h => ?_)
  have h : in_H D A H0 (ws ++ [(q, .inl (cC, 24, .inl (in_L [102, 111, 103, 32, 32, 32, 32, 32, 114, 101, 0, 0, 0, 0, 0, 0, 0, 0, 0, 0, 0, 0, 0, 0])))]) H locs := h
  refine lv_dup S.1 S.2.1 dX4_init_749 rfl ?_
  refine lv_bipush (v := 10) S.1 S.2.1 dX4_init_750 rfl ?_
  refine lv_bipush (v := 110) S.1 S.2.1 dX4_init_752 rfl ?_
  refine in_cast (k := 10) S hK h (by decide) rfl (Nat.le_of_ble_eq_true rfl) rfl dX4_init_754 (fun H locs h => ?_)
  have h : in_H D A H0 (ws ++ [(q, .inl (cC, 24, .inl (in_L [102, 111, 103, 32, 32, 32, 32, 32, 114, 101, 110, 0, 0, 0, 0, 0, 0, 0, 0, 0, 0, 0, 0, 0])))]) H locs := h
  refine lv_dup S.1 S.2.1 dX4_init_755 rfl ?_
  refine lv_bipush (v := 11) S.1 S.2.1 dX4_init_756 rfl ?_
  refine lv_bipush (v := 116) S.1 S.2.1 dX4_init_758 rfl ?_
  refine in_cast (k := 11) S hK h (by decide) rfl (Nat.le_of_ble_eq_true rfl) rfl dX4_init_760 (fun H locs h => ?_)
  have h : in_H D A H0 (ws ++ [(q, .inl (cC, 24, .inl (in_L [102, 111, 103, 32, 32, 32, 32, 32, 114, 101, 110, 116, 0, 0, 0, 0, 0, 0, 0, 0, 0, 0, 0, 0])))]) H locs := h
  refine lv_dup S.1 S.2.1 dX4_init_761 rfl ?_
  refine lv_bipush (v := 12) S.1 S.2.1 dX4_init_762 rfl ?_
  refine lv_bipush (v := 32) S.1 S.2.1 dX4_init_764 rfl ?_
  refine in_cast (k := 12) S hK h (by decide) rfl (Nat.le_of_ble_eq_true rfl) rfl dX4_init_766 (fun H locs h => ?_)
  have h : in_H D A H0 (ws ++ [(q, .inl (cC, 24, .inl (in_L [102, 111, 103, 32, 32, 32, 32, 32, 114, 101, 110, 116, 32, 0, 0, 0, 0, 0, 0, 0, 0, 0, 0, 0])))]) H locs := h
  refine lv_dup S.1 S.2.1 dX4_init_767 rfl ?_
  refine lv_bipush (v := 13) S.1 S.2.1 dX4_init_768 rfl ?_
  refine lv_bipush (v := 32) S.1 S.2.1 dX4_init_770 rfl ?_
  refine in_cast (k := 13) S hK h (by decide) rfl (Nat.le_of_ble_eq_true rfl) rfl dX4_init_772 (fun H locs h => ?_)
  have h : in_H D A H0 (ws ++ [(q, .inl (cC, 24, .inl (in_L [102, 111, 103, 32, 32, 32, 32, 32, 114, 101, 110, 116, 32, 32, 0, 0, 0, 0, 0, 0, 0, 0, 0, 0])))]) H locs := h
  refine lv_dup S.1 S.2.1 dX4_init_773 rfl ?_
  refine lv_bipush (v := 14) S.1 S.2.1 dX4_init_774 rfl ?_
  refine lv_bipush (v := 32) S.1 S.2.1 dX4_init_776 rfl ?_
  refine in_cast (k := 14) S hK h (by decide) rfl (Nat.le_of_ble_eq_true rfl) rfl dX4_init_778 (fun H locs h => ?_)
  have h : in_H D A H0 (ws ++ [(q, .inl (cC, 24, .inl (in_L [102, 111, 103, 32, 32, 32, 32, 32, 114, 101, 110, 116, 32, 32, 32, 0, 0, 0, 0, 0, 0, 0, 0, 0])))]) H locs := h
  refine lv_dup S.1 S.2.1 dX4_init_779 rfl ?_
  refine lv_bipush (v := 15) S.1 S.2.1 dX4_init_780 rfl ?_
  refine lv_bipush (v := 32) S.1 S.2.1 dX4_init_782 rfl ?_
  refine in_cast (k := 15) S hK h (by decide) rfl (Nat.le_of_ble_eq_true rfl) rfl dX4_init_784 (fun H locs h => ?_)
  have h : in_H D A H0 (ws ++ [(q, .inl (cC, 24, .inl (in_L [102, 111, 103, 32, 32, 32, 32, 32, 114, 101, 110, 116, 32, 32, 32, 32, 0, 0, 0, 0, 0, 0, 0, 0])))]) H locs := h
  refine lv_dup S.1 S.2.1 dX4_init_785 rfl ?_
  refine lv_bipush (v := 16) S.1 S.2.1 dX4_init_786 rfl ?_
  refine lv_bipush (v := 111) S.1 S.2.1 dX4_init_788 rfl ?_
  refine in_cast (k := 16) S hK h (by decide) rfl (Nat.le_of_ble_eq_true rfl) rfl dX4_init_790 (fun H locs h => ?_)
  have h : in_H D A H0 (ws ++ [(q, .inl (cC, 24, .inl (in_L [102, 111, 103, 32, 32, 32, 32, 32, 114, 101, 110, 116, 32, 32, 32, 32, 111, 0, 0, 0, 0, 0, 0, 0])))]) H locs := h
  refine lv_dup S.1 S.2.1 dX4_init_791 rfl ?_
  refine lv_bipush (v := 17) S.1 S.2.1 dX4_init_792 rfl ?_
  refine lv_bipush (v := 119) S.1 S.2.1 dX4_init_794 rfl ?_
  refine in_cast (k := 17) S hK h (by decide) rfl (Nat.le_of_ble_eq_true rfl) rfl dX4_init_796 (fun H locs h => ?_)
  have h : in_H D A H0 (ws ++ [(q, .inl (cC, 24, .inl (in_L [102, 111, 103, 32, 32, 32, 32, 32, 114, 101, 110, 116, 32, 32, 32, 32, 111, 119, 0, 0, 0, 0, 0, 0])))]) H locs := h
  refine lv_dup S.1 S.2.1 dX4_init_797 rfl ?_
  refine lv_bipush (v := 18) S.1 S.2.1 dX4_init_798 rfl ?_
  refine lv_bipush (v := 110) S.1 S.2.1 dX4_init_800 rfl ?_
  refine in_cast (k := 18) S hK h (by decide) rfl (Nat.le_of_ble_eq_true rfl) rfl dX4_init_802 (fun H locs h => ?_)
  have h : in_H D A H0 (ws ++ [(q, .inl (cC, 24, .inl (in_L [102, 111, 103, 32, 32, 32, 32, 32, 114, 101, 110, 116, 32, 32, 32, 32, 111, 119, 110, 0, 0, 0, 0, 0])))]) H locs := h
  refine lv_dup S.1 S.2.1 dX4_init_803 rfl ?_
  refine lv_bipush (v := 19) S.1 S.2.1 dX4_init_804 rfl ?_
  refine lv_bipush (v := 101) S.1 S.2.1 dX4_init_806 rfl ?_
  refine in_cast (k := 19) S hK h (by decide) rfl (Nat.le_of_ble_eq_true rfl) rfl dX4_init_808 (fun H locs h => ?_)
  have h : in_H D A H0 (ws ++ [(q, .inl (cC, 24, .inl (in_L [102, 111, 103, 32, 32, 32, 32, 32, 114, 101, 110, 116, 32, 32, 32, 32, 111, 119, 110, 101, 0, 0, 0, 0])))]) H locs := h
  refine lv_dup S.1 S.2.1 dX4_init_809 rfl ?_
  refine lv_bipush (v := 20) S.1 S.2.1 dX4_init_810 rfl ?_
  refine lv_bipush (v := 114) S.1 S.2.1 dX4_init_812 rfl ?_
  refine in_cast (k := 20) S hK h (by decide) rfl (Nat.le_of_ble_eq_true rfl) rfl dX4_init_814 (fun H locs h => ?_)
  have h : in_H D A H0 (ws ++ [(q, .inl (cC, 24, .inl (in_L [102, 111, 103, 32, 32, 32, 32, 32, 114, 101, 110, 116, 32, 32, 32, 32, 111, 119, 110, 101, 114, 0, 0, 0])))]) H locs := h
  refine lv_dup S.1 S.2.1 dX4_init_815 rfl ?_
  refine lv_bipush (v := 21) S.1 S.2.1 dX4_init_816 rfl ?_
  refine lv_bipush (v := 32) S.1 S.2.1 dX4_init_818 rfl ?_
  refine in_cast (k := 21) S hK h (by decide) rfl (Nat.le_of_ble_eq_true rfl) rfl dX4_init_820 (fun H locs h => ?_)
  have h : in_H D A H0 (ws ++ [(q, .inl (cC, 24, .inl (in_L [102, 111, 103, 32, 32, 32, 32, 32, 114, 101, 110, 116, 32, 32, 32, 32, 111, 119, 110, 101, 114, 32, 0, 0])))]) H locs := h
  refine lv_dup S.1 S.2.1 dX4_init_821 rfl ?_
  refine lv_bipush (v := 22) S.1 S.2.1 dX4_init_822 rfl ?_
  refine lv_bipush (v := 32) S.1 S.2.1 dX4_init_824 rfl ?_
  refine in_cast (k := 22) S hK h (by decide) rfl (Nat.le_of_ble_eq_true rfl) rfl dX4_init_826 (fun H locs h => ?_)
  have h : in_H D A H0 (ws ++ [(q, .inl (cC, 24, .inl (in_L [102, 111, 103, 32, 32, 32, 32, 32, 114, 101, 110, 116, 32, 32, 32, 32, 111, 119, 110, 101, 114, 32, 32, 0])))]) H locs := h
  refine lv_dup S.1 S.2.1 dX4_init_827 rfl ?_
  refine lv_bipush (v := 23) S.1 S.2.1 dX4_init_828 rfl ?_
  refine lv_bipush (v := 32) S.1 S.2.1 dX4_init_830 rfl ?_
  refine in_cast (k := 23) S hK h (by decide) rfl (Nat.le_of_ble_eq_true rfl) rfl dX4_init_832 (fun H locs h => ?_)
  have h : in_H D A H0 (ws ++ [(q, .inl (cC, 24, .inl (in_L [102, 111, 103, 32, 32, 32, 32, 32, 114, 101, 110, 116, 32, 32, 32, 32, 111, 119, 110, 101, 114, 32, 32, 32])))]) H locs := h
  exact kk H locs h
