/-! what is given of the start -/
theorem lw_m1 {w : Cond} (i : Nat) (h : tables_1_1[i]? = some w) : w ∈ lw_tbl := List.mem_append_right _ (show w ∈ tables_1_1 ++ (tables_1_2 ++ (tables_1_3 ++ (tables_1_4 ++ tables_1_5))) from List.mem_append_left _ (List.mem_of_getElem? h))
theorem lw_m2 {w : Cond} (i : Nat) (h : tables_1_2[i]? = some w) : w ∈ lw_tbl := List.mem_append_right _ (show w ∈ tables_1_1 ++ (tables_1_2 ++ (tables_1_3 ++ (tables_1_4 ++ tables_1_5))) from List.mem_append_right _ (List.mem_append_left _ (List.mem_of_getElem? h)))
theorem lw_m3 {w : Cond} (i : Nat) (h : tables_1_3[i]? = some w) : w ∈ lw_tbl := List.mem_append_right _ (show w ∈ tables_1_1 ++ (tables_1_2 ++ (tables_1_3 ++ (tables_1_4 ++ tables_1_5))) from List.mem_append_right _ (List.mem_append_right _ (List.mem_append_left _ (List.mem_of_getElem? h))))
def lw_fl : List Cond := flatC (Jvm.Cond.and given_1 narrow_1)
def lw_tm (i : Nat) : Term := .string RX1 (fg_sk.getD i 0)
theorem lw_fx : ∀ i, i < 16 → Cond.exactly (lw_tm i) "java/lang/String" ∈ lw_fl := by decide +kernel
theorem lw_fc : ∀ i, i < 16 → Cond.eq (.field (lw_tm i) "java/lang/String" "coder" "B") (.int 0) ∈ lw_fl := by decide +kernel
theorem lw_fa : ∀ i, i < 16 → Cond.arrayOf (.field (lw_tm i) "java/lang/String" "value" "[B") .byte ∈ lw_fl := by decide +kernel
theorem lw_fn : ∀ i, i < 16 → Cond.eq (.length (.field (lw_tm i) "java/lang/String" "value" "[B")) (.int (Int32.ofNat (fg_sn.getD i 0))) ∈ lw_fl := by decide +kernel
theorem lw_fe : ∀ i, i < 16 → ∀ j, j < fg_sn.getD i 0 → Cond.eq (.elem (.field (lw_tm i) "java/lang/String" "value" "[B") (.int (Int32.ofNat j))) (.int ((fg_sb.getD i []).getD j 0)) ∈ lw_fl := by decide +kernel
def lw_pr : List (Nat × Nat × Nat) := [(0, 1, 31), (0, 2, 44), (1, 2, 45), (0, 3, 55), (1, 3, 56), (2, 3, 57), (0, 4, 68), (1, 4, 69), (2, 4, 70), (3, 4, 71), (0, 5, 83), (1, 5, 84), (2, 5, 85), (3, 5, 86), (4, 5, 87), (0, 6, 97), (1, 6, 98), (2, 6, 99), (3, 6, 100), (4, 6, 101), (5, 6, 102), (0, 10, 109), (1, 10, 110), (2, 10, 111), (3, 10, 112), (4, 10, 113), (5, 10, 114), (6, 10, 115), (0, 11, 128), (1, 11, 129), (2, 11, 130), (3, 11, 131), (4, 11, 132), (5, 11, 133), (6, 11, 134), (10, 11, 135), (0, 12, 145), (1, 12, 146), (2, 12, 147), (3, 12, 148), (4, 12, 149), (5, 12, 150), (6, 12, 151), (10, 12, 152), (11, 12, 153), (0, 7, 161), (1, 7, 162), (2, 7, 163), (3, 7, 164), (4, 7, 165), (5, 7, 166), (6, 7, 167), (10, 7, 168), (11, 7, 169), (12, 7, 170), (0, 13, 178), (1, 13, 179), (2, 13, 180), (3, 13, 181), (4, 13, 182), (5, 13, 183), (6, 13, 184), (10, 13, 185), (11, 13, 186), (12, 13, 187), (7, 13, 188), (0, 14, 197), (1, 14, 198), (2, 14, 199), (3, 14, 200), (4, 14, 201), (5, 14, 202), (6, 14, 203), (10, 14, 204), (11, 14, 205), (12, 14, 206), (7, 14, 207), (13, 14, 208), (0, 15, 218), (1, 15, 219), (2, 15, 220), (3, 15, 221), (4, 15, 222), (5, 15, 223), (6, 15, 224), (10, 15, 225), (11, 15, 226), (12, 15, 227), (7, 15, 228), (13, 15, 229), (14, 15, 230), (0, 8, 238), (1, 8, 239), (2, 8, 240), (3, 8, 241), (4, 8, 242), (5, 8, 243), (6, 8, 244), (10, 8, 245), (11, 8, 246), (12, 8, 247), (7, 8, 248), (13, 8, 249), (14, 8, 250), (15, 8, 251), (0, 9, 260), (1, 9, 261), (2, 9, 262), (3, 9, 263), (4, 9, 264), (5, 9, 265), (6, 9, 266), (10, 9, 267), (11, 9, 268), (12, 9, 269), (7, 9, 270), (13, 9, 271), (14, 9, 272), (15, 9, 273), (8, 9, 274)]
theorem lw_pr1 : ∀ q ∈ lw_pr, lw_fl[q.2.2]? = some (Cond.not (Cond.eq (lw_tm q.1) (lw_tm q.2.1))) := by decide +kernel
theorem lw_pr2 : ∀ i, i < 16 → ∀ j, j < 16 → i ≠ j → ∃ q ∈ lw_pr, (q.1 = i ∧ q.2.1 = j) ∨ (q.1 = j ∧ q.2.1 = i) := by decide +kernel
theorem lw_fd (i : Nat) (hi : i < 16) (j : Nat) (hj : j < 16) (hij : i ≠ j) : Cond.not (Cond.eq (lw_tm i) (lw_tm j)) ∈ lw_fl ∨ Cond.not (Cond.eq (lw_tm j) (lw_tm i)) ∈ lw_fl := by
  obtain ⟨q, hq, h⟩ := lw_pr2 i hi j hj hij
  have hm := List.mem_of_getElem? (lw_pr1 q hq)
  rcases h with ⟨rfl, rfl⟩ | ⟨rfl, rfl⟩
  · exact Or.inl hm
  · exact Or.inr hm
theorem lw_f1 : Cond.eq (.static "java/lang/String" "COMPACT_STRINGS" "Z") (.int 1) ∈ lw_fl := by decide +kernel
theorem lw_f2 : Cond.isRef (.static "jdk/internal/util/Preconditions" "SIOOBE_FORMATTER" "Ljava/util/function/BiFunction;") ∈ lw_fl := by decide +kernel
theorem lw_sr : ∀ i, i < 16 → Cond.stringRef RX1 (fg_sk.getD i 0) (fg_sx.getD i "") ∈ lw_tbl := by decide +kernel
theorem lw_n1 : Cond.methodLinkNest RX3 28 yX1_init "FogLots" ∈ lw_tbl := lw_m1 102 rfl
theorem lw_n2 : Cond.methodLinkNest RX3 39 yX0_init "FogLots" ∈ lw_tbl := lw_m1 133 rfl
theorem lw_n3 : Cond.methodLinkNest RX2 116 yX3_losesOf "FogLots" ∈ lw_tbl := lw_m2 61 rfl
theorem lw_n4 : Cond.methodLinkNest RX1 96 yX3_isLot "FogLots" ∈ lw_tbl := lw_m3 90 rfl
theorem lw_ao : Cond.arrayOver (.object "FogLots$Sheet") ∈ lw_tbl := lw_m1 131 rfl
theorem lw_l1 : Cond.laysStatic "java/lang/String" "COMPACT_STRINGS" "Z" ∈ lw_tbl := lw_m3 20 rfl
theorem lw_l2 : Cond.laysStatic "jdk/internal/util/Preconditions" "SIOOBE_FORMATTER" "Ljava/util/function/BiFunction;" ∈ lw_tbl := lw_m3 36 rfl
theorem lw_in_N {s : State} {A : Array Value} (hts : ∀ w ∈ lw_tbl, w.before A s = true) : in_N s := ⟨va_Nw.of rfl (hts _ lw_n1), va_Nw.of rfl (hts _ lw_n2), va_AO.of (hts _ lw_ao)⟩
theorem lw_K {s : State} {A : Array Value} (hts : ∀ w ∈ fg_TW, w.before A s = true) (hts2 : ∀ w ∈ lw_tbl, w.before A s = true) : ∃ (D : va_G) (cI cC cS : ClassId), va_K D vwCl (in_T cI cC cS) s := by
  obtain ⟨c0, i0, h0⟩ := u_known (C := RX0) (T := TX0) (N := 3) (n := 3) hts vu_X0 (hts _ vx_i0)
  obtain ⟨c1, i1, h1⟩ := u_known (C := RX1) (T := TX1) (N := 7) (n := 7) hts vu_X1 (hts _ vx_i1)
  obtain ⟨c2, i2, h2⟩ := u_known (C := RX2) (T := TX2) (N := 16) (n := 16) hts vu_X2 (hts _ vx_i2)
  obtain ⟨c3, i3, h3⟩ := u_known (C := RX3) (T := TX3) (N := 7) (n := 7) hts vu_X3 (hts _ vx_i3)
  obtain ⟨c4, i4, h4⟩ := u_known (C := RX4) (T := TX4) (N := 22) (n := 22) hts vu_X4 (hts _ vx_i4)
  obtain ⟨cI, kI, pI, a1, a2, a3⟩ := Cond.arrayClass_spec (hts _ vx_int)
  obtain ⟨cC, kC, pC, b1, b2, b3⟩ := Cond.arrayClass_spec (hts _ vx_char)
  obtain ⟨pS, cS, kS, d1, d2, d3, d4, d5⟩ := Cond.arrayOver_spec (hts2 _ lw_ao)
  refine ⟨(fun k => match k with | 0 => c0 | 1 => c1 | 2 => c2 | 3 => c3 | _ => c4, fun k => match k with | 0 => i0 | 1 => i1 | 2 => i2 | 3 => i3 | _ => i4), cI, cC, cS, fun k q hq => ?_, fun k q hq => ?_⟩
  · match k, hq with
    | 0, hq => cases hq; exact h0
    | 1, hq => cases hq; exact h1
    | 2, hq => cases hq; exact h2
    | 3, hq => cases hq; exact h3
    | 4, hq => cases hq; exact h4
    | k + 5, hq => simp [vwCl] at hq
  · match k, hq with
    | 0, hq => cases hq; exact ⟨fun n z => ⟨fun k h => (by cases h), kI, a2, pI, a3⟩, a1⟩
    | 1, hq => cases hq; exact ⟨fun n z => ⟨fun k h => (by cases h), kC, b2, pC, b3⟩, b1⟩
    | 2, hq => cases hq; exact ⟨fun n z => ⟨fun k h => (by cases h), kS, d3, pS, d4⟩, ⟨kS, pS, d3, d4, d1, d5⟩⟩
    | k + 3, hq => simp [in_T] at hq
theorem lw_N {s : State} {A : Array Value} (hts : ∀ w ∈ lw_tbl, w.before A s = true) (hgv : (Jvm.Cond.and given_1 narrow_1).before A s = true) : ∃ ad av : Nat → Nat, ∀ (gf : Nat → Nat → Nat → Nat) (cI cC cS : ClassId), (∀ q, fg_A (gf, cI, cC, cS, ad, av) s.heap.size q → s.heap.size ≤ q) → fg_N (gf, cI, cC, cS, ad, av) s.heap.size s := by
  have hs : ∀ c ∈ lw_fl, c.before A s = true := flat_of_before _ hgv
  have hA : ∀ a : Nat, a < s.heap.size → ¬ (fun q : Nat => s.heap.size ≤ q) a := fun a h => Nat.not_le.mpr h
  obtain ⟨ad, av, hS, hE⟩ := vk_Sof (args := A) (s := s) (N := 16) (tm := lw_tm) (len := fg_sn) (byt := fg_sb) (A := fun q => s.heap.size ≤ q) (fun i hi => Nat.lt_of_le_of_lt (fg_sn8 i hi) (by decide)) (fun i hi => hs _ (lw_fx i hi)) (fun i hi => hs _ (lw_fc i hi)) (fun i hi => hs _ (lw_fa i hi)) (fun i hi => hs _ (lw_fn i hi)) (fun i hi j hj => hs _ (lw_fe i hi j hj)) (fun i j hi hj hij => (lw_fd i hi j hj hij).imp (fun z => hs _ z) (fun z => hs _ z)) hA
  refine ⟨ad, av, fun gf cI cC cS hg => ⟨va_Nw.of rfl (hts _ lw_n3), va_Nw.of rfl (hts _ lw_n4), fun i hi => vk_R.of (hts _ (lw_sr i hi)) (hE i hi), hS.narrow hg, (va_Zof (hts _ lw_l1) (hts _ (List.mem_filter.mp vi_RJ0).1) (va_eqi (hs _ lw_f1)) hA).narrow hg, (va_Zqof (hts _ lw_l2) (hts _ (List.mem_filter.mp vi_RJ3).1) (hs _ lw_f2) hA).narrow hg⟩⟩
