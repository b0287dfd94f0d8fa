/-! THE CLAIM OUT OF ONE WALK OF THE LAW'S BODY. Your part is whole_start (and what it stands on); all else here is the same for every law, but numbers. -/
def R_law : String := "FogLotsLaw"
def lw_P (b : Addr) (xs : List Int32) (args : Array Value) (s : State) : Prop := args = #[.ref b] ∧ s.IntsAt b xs ∧ xs.length ≤ 3072 ∧ (Jvm.Cond.and given_1 narrow_1).before args s = true
def lw_Q (_ : Array Value) (s : State) (o : Outcome) (t : State) : Prop := o = .returned (some (.int 1)) ∧ Framed s o t [] 600000 7302250
def lw_Z (below : List Frame) (a : Array Value) (s : State) : State → Prop := fun t => ∃ o, t.status = .running ∧ Ended t below o ∧ lw_Q a s o t
/-- the law's own end, with 1 on the stack, nothing written that was there before, its room as the claim has it -/
theorem lw_ret {p : Program} {l : Launch} {e : Env} {s : State} {m : MethodId} {below : List Frame} {meth : Method} {c : Code} {b : Nat} (hx : p.tables.exec = Jvm.exec) (hb : c.code = code) (hr : meth.sig.returnType = ret) (hlocks : meth.locks = false) {pc : Nat} {H : Heap} {ls : Array Slot} (hdg : decode code pc = .ok (.ireturn, 1)) : W p l e room_1 s m #[Value.ref b] below meth c H [] 600000 7302250 (lw_Z below #[Value.ref b] s) (F0 m pc ls [.int 1]) := by
  intro T hT X
  obtain ⟨fs, hret, hrun, hended, hW, hframe⟩ := X.leave (v := some (.int 1)) (hlocks := hlocks) (fun h => by rw [hr] at h; cases h)
  have hmeth' : T.vm.method? m = some meth := X.method'
  refine ⟨T.setFrames fs, ?_, .returned (some (.int 1)), hrun, hended, rfl, ⟨_, rfl⟩, hW, hframe⟩
  jvm_step X.here [X.here.top, hx, hb, hdg, hmeth', hr, ret, narrow_b1]
  (try refine ⟨rfl, ?_⟩); (try refine ⟨rfl, ?_⟩)
  first | (intro acts; rw [hret _ acts rfl rfl rfl]) | rw [hret _ _ rfl rfl rfl]
  exact Steps.refl _
/-- what holds at the law's entry: the machine, the code, the tables' words (any of lw_tbl by 'hts w (by decide +kernel)'), the script of L ints xs at the cell b, what the Statement gives of the start (any of its parts by flat_of_before) -/
def lw_At (p : Program) (s : State) (m : MethodId) (meth : Method) (c : Code) (b L : Nat) (xs : Nat → Int32) : Prop :=
  p.tables.exec = Jvm.exec ∧ c.code = code ∧ meth.sig.returnType = ret ∧ c.maxLocals = 4 ∧ s.vm.findClass R_law = some m.cls ∧ (∀ w ∈ lw_tbl, w.before #[Value.ref b] s = true) ∧ va_X b L xs s s.heap ∧ b < s.heap.size ∧ meth.locks = false ∧ (Jvm.Cond.and given_1 narrow_1).before #[Value.ref b] s = true
theorem lw_le {L i : Nat} (hL : L ≤ 3072) (hi : i ≤ L + 6) (hc : ¬ (Int32.ofNat L - 6 < nI i)) : i + 6 ≤ L := by
  rw [Int32.lt_iff_toInt_lt, nI_toInt (show i < 2 ^ 31 by omega)] at hc
  have e1 : (Int32.ofNat L - 6 : Int32).toInt = (L : Int) - 6 := by
    show (nI L - nI 6).toInt = (L : Int) - 6
    rw [Int32.toInt_sub, nI_toInt (show L < 2 ^ 31 by omega), nI_toInt (by decide)]
    exact Int.bmod_eq_of_le (by omega) (by omega)
  rw [e1] at hc
  omega
theorem lw_step {p : Program} {e : Env} {s : State} {m : MethodId} {below : List Frame} {meth : Method} {c : Code} {l : Launch} {b L : Nat} {xs : Nat → Int32} (hL : L ≤ 3072) (C0 : lw_At p s m meth c b L xs) {D : va_G} {g : fg_G} (hK : fg_KN D g s) (hgA : ∀ q, fg_A g s.heap.size q → s.heap.size ≤ q) {i : Nat} (hi : i ≤ L + 6) {w : fg_W} {H : Heap} {locs : List Loc} {ls : Array Slot} (hw : rr w) (h : fg_H D g s.heap w H locs) (hl : lv_has ls 4 [(3, .int (nI i)), (0, .ref b), (1, .ref (g.1 3 0 0)), (2, .ref (g.1 4 0 0))])
    (kk : i + 6 ≤ L → ∀ (w : fg_W) (H : Heap) (locs : List Loc) (ls : Array Slot), rr w → fg_H D g s.heap w H locs → lv_has ls 4 [(3, .int (nI (i + 6))), (0, .ref b), (1, .ref (g.1 3 0 0)), (2, .ref (g.1 4 0 0))] → W p l e room_1 s m #[Value.ref b] below meth c H locs 65 1426 (lw_Z below #[Value.ref b] s) (F0 m 18 ls [])) : W p l e room_1 s m #[Value.ref b] below meth c H locs 65 1426 (lw_Z below #[Value.ref b] s) (F0 m 18 ls []) := by
  obtain ⟨hx, hb, hr, hml, hown, hts, hX, hbl, hlocks, hgv⟩ := id C0
  have S : CallFix p m c cL_law 4 s #[Value.ref b] fg_TW RL := ⟨hx, hb, hml, hown, fun w hw => hts w (List.mem_filter.mp hw).1⟩
  have hbA : ¬ fg_A g s.heap.size b := fun z => absurd (hgA b z) (Nat.not_le.mpr hbl)
  refine lv_iload_n S.1 S.2.1 dL_law_18 rfl (lv_at hl 0 rfl) ?_
  refine lv_aload_n S.1 S.2.1 dL_law_19 rfl (lv_at hl 1 rfl) ?_
  refine va_slen S.1 S.2.1 hX hbl hbA h.2.2 dL_law_20 ?_
  refine lv_bipush (v := 6) S.1 S.2.1 dL_law_21 rfl ?_
  refine lv_isub S.1 S.2.1 dL_law_23 ?_
  refine lv_icmp_gt (tgt := 1459) S.1 S.2.1 dL_law_24 (by decide) (fun hc => ?_) (fun hc => ?_)
  · refine lv_iconst (v := 1) S.1 S.2.1 dL_law_1459 rfl ?_
    refine va_forget (fun q hq => hgA _ (h.2.2.2.2 q hq)) ?_
    refine W.widen (k := 600000) (n := 7302250) (Nat.le_of_ble_eq_true rfl) (Nat.le_of_ble_eq_true rfl) ?_
    exact lw_ret hx hb hr hlocks dL_law_1460
  · have hi6 := lw_le hL hi hc
    refine lv_aload_n S.1 S.2.1 dL_law_27 rfl (lv_at hl 1 rfl) ?_
    refine lv_iload_n S.1 S.2.1 dL_law_28 rfl (lv_at hl 0 rfl) ?_
    refine va_sld S.1 S.2.1 hX hbl hbA h.2.2 (vp_in_nI (show i < L by omega) (by omega)) dL_law_29 ?_
    refine lv_bipush (v := 63) S.1 S.2.1 dL_law_30 rfl ?_
    refine lv_iand S.1 S.2.1 dL_law_32 ?_
    refine lw_switch _ S hX hbl hbA hK hw h hi6 hL hl ⟨Nat.le_of_ble_eq_true rfl, Nat.le_of_ble_eq_true rfl⟩ (fun w H locs hw h => ?_)
    refine lv_iinc (v := nI (i + 6)) (lv' := [(3, .int (nI (i + 6))), (0, .ref b), (1, .ref (g.1 3 0 0)), (2, .ref (g.1 4 0 0))]) S.1 S.2.1 dL_law_1453 hl (k := 0) rfl (nI_add i 6) (by decide) rfl (fun ls hl => ?_)
    refine lv_goto (tgt := 18) S.1 S.2.1 dL_law_1456 (by decide) ?_
    exact kk hi6 w H locs ls hw h hl
theorem lw_loop {p : Program} {e : Env} {s : State} {m : MethodId} {below : List Frame} {meth : Method} {c : Code} {l : Launch} {b L : Nat} {xs : Nat → Int32} (hL : L ≤ 3072) (C0 : lw_At p s m meth c b L xs) {D : va_G} {g : fg_G} (hK : fg_KN D g s) (hgA : ∀ q, fg_A g s.heap.size q → s.heap.size ≤ q) : ∀ (n i : Nat), L ≤ i + 6 * n → i ≤ L + 6 → ∀ (w : fg_W) (H : Heap) (locs : List Loc) (ls : Array Slot), rr w → fg_H D g s.heap w H locs → lv_has ls 4 [(3, .int (nI i)), (0, .ref b), (1, .ref (g.1 3 0 0)), (2, .ref (g.1 4 0 0))] → W p l e room_1 s m #[Value.ref b] below meth c H locs 65 1426 (lw_Z below #[Value.ref b] s) (F0 m 18 ls []) := by
  intro n
  induction n with
  | zero => exact fun i hn hi w H locs ls hw h hl => lw_step hL C0 hK hgA hi hw h hl (fun h6 => absurd h6 (by omega))
  | succ n ih => exact fun i hn hi w H locs ls hw h hl => lw_step hL C0 hK hgA hi hw h hl (fun h6 w H locs ls hw h hl => ih (i + 6) (by omega) (by omega) w H locs ls hw h hl)
set_option maxHeartbeats 4000000 in
set_option maxRecDepth 100000 in
theorem whole_start {p : Program} {e : Env} {s : State} {m : MethodId} {below : List Frame} {meth : Method} {c : Code} (l : Launch) (hflags : l.flags = flags0) {b L : Nat} {xs : Nat → Int32} (hL : L ≤ 3072) (C0 : lw_At p s m meth c b L xs) : W p l e room_1 s m #[Value.ref b] below meth c s.heap [] 0 0 (lw_Z below #[Value.ref b] s) (entryFrame m ([Value.ref b] : List Value).toArray 4) := by
  obtain ⟨hx, hb, hr, hml, hown, hts, hX, hbl, hlocks, hgv⟩ := id C0
  have S : CallFix p m c cL_law 4 s #[Value.ref b] fg_TW RL := ⟨hx, hb, hml, hown, fun w hw => hts w (List.mem_filter.mp hw).1⟩
  obtain ⟨D, cI, cC, cS, hK⟩ := lw_K S.2.2.2.2 hts
  obtain ⟨ad, av, hN0⟩ := lw_N hts hgv
  have hN : in_N s := lw_in_N hts
  have h : in_H D (fun q => s.heap.size ≤ q) s.heap [] s.heap [] := ⟨fun k q h => by simp at h, ⟨fun i j p q h => by simp at h, fun k q h => by simp at h⟩, va_S.rf, fun _ h => h⟩
  have hl := lv_entry ([.ref b]) (n := 4) (Nat.le_of_ble_eq_true rfl)
  rw [lg_entry_eq]
  generalize (lg_sl ([.ref b]) ++ List.replicate (4 - (lg_sl ([.ref b])).length) Slot.unset).toArray = ls at hl ⊢
  have hl : lv_has ls 4 [(0, .ref b)] := hl
  refine in_new (ci := 3) (fs := [.null, .null, .null, .int 0, .null, .null, .null]) S vu_X3 tyX3 tyX3_ok vx_cL_7 vx_i3 vi_RX3 hK h rfl in_d3 (Nat.le_of_ble_eq_true rfl) (Nat.le_of_ble_eq_true rfl) dL_law_0 (fun q3 H h => ?_)
  refine lv_dup S.1 S.2.1 dL_law_3 rfl ?_
  refine in_callI (ws := []) (q := q3) S hK hN h (c_X3_init l D cI cC cS q3) vk_X3_init vm_RL_9 vh_X3_init vi_RX3 rfl vd_X3_init.2 ⟨Nat.le_of_ble_eq_true rfl, Nat.le_of_ble_eq_true rfl⟩ hl.1 rfl (Nat.le_of_ble_eq_true rfl) ⟨Nat.le_of_ble_eq_true rfl, Nat.le_of_ble_eq_true rfl⟩ dL_law_4 (fun a3 H locs h => ?_)
  refine lv_astore_n (lv' := [(1, .ref q3), (0, .ref b)]) S.1 S.2.1 dL_law_7 rfl hl (by decide) rfl (fun ls hl => ?_)
  have h : in_H D (fun q => s.heap.size ≤ q) s.heap (in_w3 cI cS q3 a3) H locs := h
  refine in_new (ci := 4) (fs := [.null, .null, .null, .int 0, .null, .int 0, .null, .null, .null, .int 0, .int 0, .int 0, .int 0, .long 0, .null, .null, .null, .null, .null, .null, .null, .null]) S vu_X4 tyX4 tyX4_ok vx_cL_10 vx_i4 vi_RX4 hK h rfl in_d4 (Nat.le_of_ble_eq_true rfl) (Nat.le_of_ble_eq_true rfl) dL_law_8 (fun q4 H h => ?_)
  refine lv_dup S.1 S.2.1 dL_law_11 rfl ?_
  refine in_callI (ws := in_w3 cI cS q3 a3) (q := q4) S hK hN h (c_X4_init l D cI cC cS q4) vk_X4_init vm_RL_12 vh_X4_init vi_RX4 rfl vd_X4_init.2 ⟨Nat.le_of_ble_eq_true rfl, Nat.le_of_ble_eq_true rfl⟩ hl.1 rfl (Nat.le_of_ble_eq_true rfl) ⟨Nat.le_of_ble_eq_true rfl, Nat.le_of_ble_eq_true rfl⟩ dL_law_12 (fun a4 H locs h => ?_)
  refine lv_astore_n (lv' := [(2, .ref q4), (1, .ref q3), (0, .ref b)]) S.1 S.2.1 dL_law_15 rfl hl (by decide) rfl (fun ls hl => ?_)
  refine lv_iconst (v := 0) S.1 S.2.1 dL_law_16 rfl ?_
  refine lv_istore_n (lv' := [(3, .int 0), (2, .ref q4), (1, .ref q3), (0, .ref b)]) S.1 S.2.1 dL_law_17 rfl hl (by decide) rfl (fun ls hl => ?_)
  obtain ⟨hF, hgA⟩ := in_start ad av h
  refine W.widen (k := 65) (n := 1426) (Nat.le_of_ble_eq_true rfl) (Nat.le_of_ble_eq_true rfl) ?_
  have hl : lv_has ls 4 [(3, .int (nI 0)), (0, .ref b), (1, .ref (((in_g q3 a3 q4 a4, cI, cC, cS, ad, av) : fg_G).1 3 0 0)), (2, .ref (((in_g q3 a3 q4 a4, cI, cC, cS, ad, av) : fg_G).1 4 0 0))] := lv_sub hl [0, 3, 2, 1] rfl
  exact lw_loop hL C0 ⟨hK, hN0 _ cI cC cS hgA⟩ hgA L 0 (by omega) (by omega) in_w H locs ls in_rr hF hl
