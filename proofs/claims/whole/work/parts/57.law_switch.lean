section LAWS
variable {p : Program} {l : Launch} {e : Env} {s : State} {m : MethodId} {below : List Frame} {meth : Method} {c : Code} {H : Heap} {locs : List Loc} {cells slots : Nat} {Q : State → Prop} {ls : Array Slot} {D : va_G} {g : fg_G} {w : fg_W} {b L i : Nat} {xs : Nat → Int32}
set_option maxHeartbeats 8000000 in
set_option maxRecDepth 100000 in
theorem lw_switch (x : Int32) (S : CallFix p m c cL_law 4 s #[Value.ref b] fg_TW RL) (hX : va_X b L xs s s.heap) (hbl : b < s.heap.size) (hbA : ¬ fg_A g s.heap.size b) (hK : fg_KN D g s) (hw : rr w) (h : fg_H D g s.heap w H locs) (hi : i + 6 ≤ L) (hL : L ≤ 3072) (hl : lv_has ls 4 [(3, .int (nI i)), (0, .ref b), (1, .ref (g.1 3 0 0)), (2, .ref (g.1 4 0 0))]) (hz : cells ≤ room_1.cells ∧ slots ≤ room_1.slots) (kk : ∀ (w : fg_W) (H : Heap) (locs : List Loc), rr w → fg_H D g s.heap w H locs → W p l e room_1 s m #[Value.ref b] below meth c H locs cells slots Q (F0 m 1453 ls [])) : W p l e room_1 s m #[Value.ref b] below meth c H locs cells slots Q (F0 m 33 ls [.int x]) := by
  by_cases hq0 : x = 0
  · exact lv_tableIn (tgt := 216) S.1 S.2.1 dL_law_33 (by rw [hq0]; decide) (by rw [hq0]; decide) (off := 183) (by rw [hq0]; rfl) (by decide) (lw_case0 S hX hbl hbA hK hw h hi hL hl hz kk)
  by_cases hq1 : x = 1
  · exact lv_tableIn (tgt := 259) S.1 S.2.1 dL_law_33 (by rw [hq1]; decide) (by rw [hq1]; decide) (off := 226) (by rw [hq1]; rfl) (by decide) (lw_case1 S hX hbl hbA hK hw h hi hL hl hz kk)
  by_cases hq2 : x = 2
  · exact lv_tableIn (tgt := 292) S.1 S.2.1 dL_law_33 (by rw [hq2]; decide) (by rw [hq2]; decide) (off := 259) (by rw [hq2]; rfl) (by decide) (lw_case2 S hX hbl hbA hK hw h hi hL hl hz kk)
  by_cases hq3 : x = 3
  · exact lv_tableIn (tgt := 325) S.1 S.2.1 dL_law_33 (by rw [hq3]; decide) (by rw [hq3]; decide) (off := 292) (by rw [hq3]; rfl) (by decide) (lw_case3 S hX hbl hbA hK hw h hi hL hl hz kk)
  by_cases hq4 : x = 4
  · exact lv_tableIn (tgt := 348) S.1 S.2.1 dL_law_33 (by rw [hq4]; decide) (by rw [hq4]; decide) (off := 315) (by rw [hq4]; rfl) (by decide) (lw_case4 S hX hbl hbA hK hw h hi hL hl hz kk)
  by_cases hq5 : x = 5
  · exact lv_tableIn (tgt := 371) S.1 S.2.1 dL_law_33 (by rw [hq5]; decide) (by rw [hq5]; decide) (off := 338) (by rw [hq5]; rfl) (by decide) (lw_case5 S hX hbl hbA hK hw h hi hL hl hz kk)
  by_cases hq6 : x = 6
  · exact lv_tableIn (tgt := 404) S.1 S.2.1 dL_law_33 (by rw [hq6]; decide) (by rw [hq6]; decide) (off := 371) (by rw [hq6]; rfl) (by decide) (lw_case6 S hX hbl hbA hK hw h hi hL hl hz kk)
  by_cases hq7 : x = 7
  · exact lv_tableIn (tgt := 447) S.1 S.2.1 dL_law_33 (by rw [hq7]; decide) (by rw [hq7]; decide) (off := 414) (by rw [hq7]; rfl) (by decide) (lw_case7 S hX hbl hbA hK hw h hi hL hl hz kk)
  by_cases hq8 : x = 8
  · exact lv_tableIn (tgt := 480) S.1 S.2.1 dL_law_33 (by rw [hq8]; decide) (by rw [hq8]; decide) (off := 447) (by rw [hq8]; rfl) (by decide) (lw_case8 S hX hbl hbA hK hw h hi hL hl hz kk)
  by_cases hq9 : x = 9
  · exact lv_tableIn (tgt := 503) S.1 S.2.1 dL_law_33 (by rw [hq9]; decide) (by rw [hq9]; decide) (off := 470) (by rw [hq9]; rfl) (by decide) (lw_case9 S hX hbl hbA hK hw h hi hL hl hz kk)
  by_cases hq10 : x = 10
  · exact lv_tableIn (tgt := 526) S.1 S.2.1 dL_law_33 (by rw [hq10]; decide) (by rw [hq10]; decide) (off := 493) (by rw [hq10]; rfl) (by decide) (lw_case10 S hX hbl hbA hK hw h hi hL hl hz kk)
  by_cases hq11 : x = 11
  · exact lv_tableIn (tgt := 569) S.1 S.2.1 dL_law_33 (by rw [hq11]; decide) (by rw [hq11]; decide) (off := 536) (by rw [hq11]; rfl) (by decide) (lw_case11 S hX hbl hbA hK hw h hi hL hl hz kk)
  by_cases hq12 : x = 12
  · exact lv_tableIn (tgt := 602) S.1 S.2.1 dL_law_33 (by rw [hq12]; decide) (by rw [hq12]; decide) (off := 569) (by rw [hq12]; rfl) (by decide) (lw_case12 S hX hbl hbA hK hw h hi hL hl hz kk)
  by_cases hq13 : x = 13
  · exact lv_tableIn (tgt := 625) S.1 S.2.1 dL_law_33 (by rw [hq13]; decide) (by rw [hq13]; decide) (off := 592) (by rw [hq13]; rfl) (by decide) (lw_case13 S hX hbl hbA hK hw h hi hL hl hz kk)
  by_cases hq14 : x = 14
  · exact lv_tableIn (tgt := 638) S.1 S.2.1 dL_law_33 (by rw [hq14]; decide) (by rw [hq14]; decide) (off := 605) (by rw [hq14]; rfl) (by decide) (lw_case14 S hX hbl hbA hK hw h hi hL hl hz kk)
  by_cases hq15 : x = 15
  · exact lv_tableIn (tgt := 671) S.1 S.2.1 dL_law_33 (by rw [hq15]; decide) (by rw [hq15]; decide) (off := 638) (by rw [hq15]; rfl) (by decide) (lw_case15 S hX hbl hbA hK hw h hi hL hl hz kk)
  by_cases hq16 : x = 16
  · exact lv_tableIn (tgt := 704) S.1 S.2.1 dL_law_33 (by rw [hq16]; decide) (by rw [hq16]; decide) (off := 671) (by rw [hq16]; rfl) (by decide) (lw_case16 S hX hbl hbA hK hw h hi hL hl hz kk)
  by_cases hq17 : x = 17
  · exact lv_tableIn (tgt := 737) S.1 S.2.1 dL_law_33 (by rw [hq17]; decide) (by rw [hq17]; decide) (off := 704) (by rw [hq17]; rfl) (by decide) (lw_case17 S hX hbl hbA hK hw h hi hL hl hz kk)
  by_cases hq18 : x = 18
  · exact lv_tableIn (tgt := 770) S.1 S.2.1 dL_law_33 (by rw [hq18]; decide) (by rw [hq18]; decide) (off := 737) (by rw [hq18]; rfl) (by decide) (lw_case18 S hX hbl hbA hK hw h hi hL hl hz kk)
  by_cases hq19 : x = 19
  · exact lv_tableIn (tgt := 803) S.1 S.2.1 dL_law_33 (by rw [hq19]; decide) (by rw [hq19]; decide) (off := 770) (by rw [hq19]; rfl) (by decide) (lw_case19 S hX hbl hbA hK hw h hi hL hl hz kk)
  by_cases hq20 : x = 20
  · exact lv_tableIn (tgt := 826) S.1 S.2.1 dL_law_33 (by rw [hq20]; decide) (by rw [hq20]; decide) (off := 793) (by rw [hq20]; rfl) (by decide) (lw_case20 S hX hbl hbA hK hw h hi hL hl hz kk)
  by_cases hq21 : x = 21
  · exact lv_tableIn (tgt := 859) S.1 S.2.1 dL_law_33 (by rw [hq21]; decide) (by rw [hq21]; decide) (off := 826) (by rw [hq21]; rfl) (by decide) (lw_case21 S hX hbl hbA hK hw h hi hL hl hz kk)
  by_cases hq22 : x = 22
  · exact lv_tableIn (tgt := 892) S.1 S.2.1 dL_law_33 (by rw [hq22]; decide) (by rw [hq22]; decide) (off := 859) (by rw [hq22]; rfl) (by decide) (lw_case22 S hX hbl hbA hK hw h hi hL hl hz kk)
  by_cases hq23 : x = 23
  · exact lv_tableIn (tgt := 925) S.1 S.2.1 dL_law_33 (by rw [hq23]; decide) (by rw [hq23]; decide) (off := 892) (by rw [hq23]; rfl) (by decide) (lw_case23 S hX hbl hbA hK hw h hi hL hl hz kk)
  by_cases hq24 : x = 24
  · exact lv_tableIn (tgt := 958) S.1 S.2.1 dL_law_33 (by rw [hq24]; decide) (by rw [hq24]; decide) (off := 925) (by rw [hq24]; rfl) (by decide) (lw_case24 S hX hbl hbA hK hw h hi hL hl hz kk)
  by_cases hq25 : x = 25
  · exact lv_tableIn (tgt := 981) S.1 S.2.1 dL_law_33 (by rw [hq25]; decide) (by rw [hq25]; decide) (off := 948) (by rw [hq25]; rfl) (by decide) (lw_case25 S hX hbl hbA hK hw h hi hL hl hz kk)
  by_cases hq26 : x = 26
  · exact lv_tableIn (tgt := 1025) S.1 S.2.1 dL_law_33 (by rw [hq26]; decide) (by rw [hq26]; decide) (off := 992) (by rw [hq26]; rfl) (by decide) (lw_case26 S hX hbl hbA hK hw h hi hL hl hz kk)
  by_cases hq27 : x = 27
  · exact lv_tableIn (tgt := 1048) S.1 S.2.1 dL_law_33 (by rw [hq27]; decide) (by rw [hq27]; decide) (off := 1015) (by rw [hq27]; rfl) (by decide) (lw_case27 S hX hbl hbA hK hw h hi hL hl hz kk)
  by_cases hq28 : x = 28
  · exact lv_tableIn (tgt := 1081) S.1 S.2.1 dL_law_33 (by rw [hq28]; decide) (by rw [hq28]; decide) (off := 1048) (by rw [hq28]; rfl) (by decide) (lw_case28 S hX hbl hbA hK hw h hi hL hl hz kk)
  by_cases hq29 : x = 29
  · exact lv_tableIn (tgt := 1094) S.1 S.2.1 dL_law_33 (by rw [hq29]; decide) (by rw [hq29]; decide) (off := 1061) (by rw [hq29]; rfl) (by decide) (lw_case29 S hX hbl hbA hK hw h hi hL hl hz kk)
  by_cases hq30 : x = 30
  · exact lv_tableIn (tgt := 1107) S.1 S.2.1 dL_law_33 (by rw [hq30]; decide) (by rw [hq30]; decide) (off := 1074) (by rw [hq30]; rfl) (by decide) (lw_case30 S hX hbl hbA hK hw h hi hL hl hz kk)
  by_cases hq31 : x = 31
  · exact lv_tableIn (tgt := 1140) S.1 S.2.1 dL_law_33 (by rw [hq31]; decide) (by rw [hq31]; decide) (off := 1107) (by rw [hq31]; rfl) (by decide) (lw_case31 S hX hbl hbA hK hw h hi hL hl hz kk)
  by_cases hq32 : x = 32
  · exact lv_tableIn (tgt := 1173) S.1 S.2.1 dL_law_33 (by rw [hq32]; decide) (by rw [hq32]; decide) (off := 1140) (by rw [hq32]; rfl) (by decide) (lw_case32 S hX hbl hbA hK hw h hi hL hl hz kk)
  by_cases hq33 : x = 33
  · exact lv_tableIn (tgt := 1216) S.1 S.2.1 dL_law_33 (by rw [hq33]; decide) (by rw [hq33]; decide) (off := 1183) (by rw [hq33]; rfl) (by decide) (lw_case33 S hX hbl hbA hK hw h hi hL hl hz kk)
  by_cases hq34 : x = 34
  · exact lv_tableIn (tgt := 1259) S.1 S.2.1 dL_law_33 (by rw [hq34]; decide) (by rw [hq34]; decide) (off := 1226) (by rw [hq34]; rfl) (by decide) (lw_case34 S hX hbl hbA hK hw h hi hL hl hz kk)
  by_cases hq35 : x = 35
  · exact lv_tableIn (tgt := 1322) S.1 S.2.1 dL_law_33 (by rw [hq35]; decide) (by rw [hq35]; decide) (off := 1289) (by rw [hq35]; rfl) (by decide) (lw_case35 S hX hbl hbA hK hw h hi hL hl hz kk)
  by_cases hq36 : x = 36
  · exact lv_tableIn (tgt := 1345) S.1 S.2.1 dL_law_33 (by rw [hq36]; decide) (by rw [hq36]; decide) (off := 1312) (by rw [hq36]; rfl) (by decide) (lw_case36 S hX hbl hbA hK hw h hi hL hl hz kk)
  by_cases hq37 : x = 37
  · exact lv_tableIn (tgt := 1368) S.1 S.2.1 dL_law_33 (by rw [hq37]; decide) (by rw [hq37]; decide) (off := 1335) (by rw [hq37]; rfl) (by decide) (lw_case37 S hX hbl hbA hK hw h hi hL hl hz kk)
  by_cases hq38 : x = 38
  · exact lv_tableIn (tgt := 1381) S.1 S.2.1 dL_law_33 (by rw [hq38]; decide) (by rw [hq38]; decide) (off := 1348) (by rw [hq38]; rfl) (by decide) (lw_case38 S hX hbl hbA hK hw h hi hL hl hz kk)
  by_cases hq39 : x = 39
  · exact lv_tableIn (tgt := 1394) S.1 S.2.1 dL_law_33 (by rw [hq39]; decide) (by rw [hq39]; decide) (off := 1361) (by rw [hq39]; rfl) (by decide) (lw_case39 S hX hbl hbA hK hw h hi hL hl hz kk)
  by_cases hq40 : x = 40
  · exact lv_tableIn (tgt := 1407) S.1 S.2.1 dL_law_33 (by rw [hq40]; decide) (by rw [hq40]; decide) (off := 1374) (by rw [hq40]; rfl) (by decide) (lw_case40 S hX hbl hbA hK hw h hi hL hl hz kk)
  by_cases hq41 : x = 41
  · exact lv_tableIn (tgt := 1430) S.1 S.2.1 dL_law_33 (by rw [hq41]; decide) (by rw [hq41]; decide) (off := 1397) (by rw [hq41]; rfl) (by decide) (lw_case41 S hX hbl hbA hK hw h hi hL hl hz kk)
  refine lv_tableOut (tgt := 1453) S.1 S.2.1 dL_law_33 ?_ (by decide) (kk w H locs hw h)
  have g0 := lv_neT hq0 (show (0 : Int32).toInt = 0 from rfl)
  have g1 := lv_neT hq1 (show (1 : Int32).toInt = 1 from rfl)
  have g2 := lv_neT hq2 (show (2 : Int32).toInt = 2 from rfl)
  have g3 := lv_neT hq3 (show (3 : Int32).toInt = 3 from rfl)
  have g4 := lv_neT hq4 (show (4 : Int32).toInt = 4 from rfl)
  have g5 := lv_neT hq5 (show (5 : Int32).toInt = 5 from rfl)
  have g6 := lv_neT hq6 (show (6 : Int32).toInt = 6 from rfl)
  have g7 := lv_neT hq7 (show (7 : Int32).toInt = 7 from rfl)
  have g8 := lv_neT hq8 (show (8 : Int32).toInt = 8 from rfl)
  have g9 := lv_neT hq9 (show (9 : Int32).toInt = 9 from rfl)
  have g10 := lv_neT hq10 (show (10 : Int32).toInt = 10 from rfl)
  have g11 := lv_neT hq11 (show (11 : Int32).toInt = 11 from rfl)
  have g12 := lv_neT hq12 (show (12 : Int32).toInt = 12 from rfl)
  have g13 := lv_neT hq13 (show (13 : Int32).toInt = 13 from rfl)
  have g14 := lv_neT hq14 (show (14 : Int32).toInt = 14 from rfl)
  have g15 := lv_neT hq15 (show (15 : Int32).toInt = 15 from rfl)
  have g16 := lv_neT hq16 (show (16 : Int32).toInt = 16 from rfl)
  have g17 := lv_neT hq17 (show (17 : Int32).toInt = 17 from rfl)
  have g18 := lv_neT hq18 (show (18 : Int32).toInt = 18 from rfl)
  have g19 := lv_neT hq19 (show (19 : Int32).toInt = 19 from rfl)
  have g20 := lv_neT hq20 (show (20 : Int32).toInt = 20 from rfl)
  have g21 := lv_neT hq21 (show (21 : Int32).toInt = 21 from rfl)
  have g22 := lv_neT hq22 (show (22 : Int32).toInt = 22 from rfl)
  have g23 := lv_neT hq23 (show (23 : Int32).toInt = 23 from rfl)
  have g24 := lv_neT hq24 (show (24 : Int32).toInt = 24 from rfl)
  have g25 := lv_neT hq25 (show (25 : Int32).toInt = 25 from rfl)
  have g26 := lv_neT hq26 (show (26 : Int32).toInt = 26 from rfl)
  have g27 := lv_neT hq27 (show (27 : Int32).toInt = 27 from rfl)
  have g28 := lv_neT hq28 (show (28 : Int32).toInt = 28 from rfl)
  have g29 := lv_neT hq29 (show (29 : Int32).toInt = 29 from rfl)
  have g30 := lv_neT hq30 (show (30 : Int32).toInt = 30 from rfl)
  have g31 := lv_neT hq31 (show (31 : Int32).toInt = 31 from rfl)
  have g32 := lv_neT hq32 (show (32 : Int32).toInt = 32 from rfl)
  have g33 := lv_neT hq33 (show (33 : Int32).toInt = 33 from rfl)
  have g34 := lv_neT hq34 (show (34 : Int32).toInt = 34 from rfl)
  have g35 := lv_neT hq35 (show (35 : Int32).toInt = 35 from rfl)
  have g36 := lv_neT hq36 (show (36 : Int32).toInt = 36 from rfl)
  have g37 := lv_neT hq37 (show (37 : Int32).toInt = 37 from rfl)
  have g38 := lv_neT hq38 (show (38 : Int32).toInt = 38 from rfl)
  have g39 := lv_neT hq39 (show (39 : Int32).toInt = 39 from rfl)
  have g40 := lv_neT hq40 (show (40 : Int32).toInt = 40 from rfl)
  have g41 := lv_neT hq41 (show (41 : Int32).toInt = 41 from rfl)
  omega
end LAWS
