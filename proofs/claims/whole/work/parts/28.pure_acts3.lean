theorem ch_no {k n : Nat} {w : fg_W} {v : Int32} (hn : bk_N (w.1 2 0) n) (c1 : f_X2_isPerson 0 (nI k) w = some (1, w)) {b : Int32} (g0 : ¬ b = 0) (g1 : ¬ b = 1) (g2 : ¬ b = 2) (g3 : ¬ b = 3) (g4 : ¬ b = 4) : f_X3_change (nI k) b v w = f_X3_finding 0 w := by
  unfold f_X3_change
  rw [c1, fg_bi_some, if_neg (by decide), if_neg g0, if_neg g1, if_neg g2, if_neg g3, if_neg g4, fg_bi_id]
set_option maxHeartbeats 4000000 in
theorem ch_0 {k n : Nat} {w : fg_W} {v : Int32} (c1 : f_X2_isPerson 0 (nI k) w = some (1, w)) (r : Int32) (ht : ∀ w, f_X3_isKind v w = some (r, w)) : f_X3_change (nI k) 0 v w = if r = 0 then f_X3_finding 0 w else f_X3_exchange 2 0 5 8 (nI k) v w := by
  unfold f_X3_change
  rw [c1, fg_bi_some, if_neg (by decide)]
  simp only [show ((0 : Int32) = 1) = False from by decide, show ((0 : Int32) = 2) = False from by decide, show ((0 : Int32) = 3) = False from by decide, show ((0 : Int32) = 4) = False from by decide, show ((1 : Int32) = 0) = False from by decide, show ((1 : Int32) = 2) = False from by decide, show ((1 : Int32) = 3) = False from by decide, show ((1 : Int32) = 4) = False from by decide, show ((2 : Int32) = 0) = False from by decide, show ((2 : Int32) = 1) = False from by decide, show ((2 : Int32) = 3) = False from by decide, show ((2 : Int32) = 4) = False from by decide, show ((3 : Int32) = 0) = False from by decide, show ((3 : Int32) = 1) = False from by decide, show ((3 : Int32) = 2) = False from by decide, show ((3 : Int32) = 4) = False from by decide, show ((4 : Int32) = 0) = False from by decide, show ((4 : Int32) = 1) = False from by decide, show ((4 : Int32) = 2) = False from by decide, show ((4 : Int32) = 3) = False from by decide, eq_self, if_true, if_false, ht, fg_bi_some, fg_bi_id]
set_option maxHeartbeats 4000000 in
theorem ch_2 {k n : Nat} {w : fg_W} {v : Int32} (c1 : f_X2_isPerson 0 (nI k) w = some (1, w)) (r : Int32) (ht : ∀ w, f_X3_within v 0 99 w = some (r, w)) : f_X3_change (nI k) 2 v w = if r = 0 then f_X3_finding 0 w else f_X3_exchange 2 0 7 8 (nI k) v w := by
  unfold f_X3_change
  rw [c1, fg_bi_some, if_neg (by decide)]
  simp only [show ((0 : Int32) = 1) = False from by decide, show ((0 : Int32) = 2) = False from by decide, show ((0 : Int32) = 3) = False from by decide, show ((0 : Int32) = 4) = False from by decide, show ((1 : Int32) = 0) = False from by decide, show ((1 : Int32) = 2) = False from by decide, show ((1 : Int32) = 3) = False from by decide, show ((1 : Int32) = 4) = False from by decide, show ((2 : Int32) = 0) = False from by decide, show ((2 : Int32) = 1) = False from by decide, show ((2 : Int32) = 3) = False from by decide, show ((2 : Int32) = 4) = False from by decide, show ((3 : Int32) = 0) = False from by decide, show ((3 : Int32) = 1) = False from by decide, show ((3 : Int32) = 2) = False from by decide, show ((3 : Int32) = 4) = False from by decide, show ((4 : Int32) = 0) = False from by decide, show ((4 : Int32) = 1) = False from by decide, show ((4 : Int32) = 2) = False from by decide, show ((4 : Int32) = 3) = False from by decide, eq_self, if_true, if_false, ht, fg_bi_some, fg_bi_id]
set_option maxHeartbeats 4000000 in
theorem ch_3 {k n : Nat} {w : fg_W} {v : Int32} (c1 : f_X2_isPerson 0 (nI k) w = some (1, w)) (r : Int32) (ht : ∀ w, f_X3_within v 0 9999 w = some (r, w)) : f_X3_change (nI k) 3 v w = if r = 0 then f_X3_finding 0 w else f_X3_exchange 2 0 8 8 (nI k) v w := by
  unfold f_X3_change
  rw [c1, fg_bi_some, if_neg (by decide)]
  simp only [show ((0 : Int32) = 1) = False from by decide, show ((0 : Int32) = 2) = False from by decide, show ((0 : Int32) = 3) = False from by decide, show ((0 : Int32) = 4) = False from by decide, show ((1 : Int32) = 0) = False from by decide, show ((1 : Int32) = 2) = False from by decide, show ((1 : Int32) = 3) = False from by decide, show ((1 : Int32) = 4) = False from by decide, show ((2 : Int32) = 0) = False from by decide, show ((2 : Int32) = 1) = False from by decide, show ((2 : Int32) = 3) = False from by decide, show ((2 : Int32) = 4) = False from by decide, show ((3 : Int32) = 0) = False from by decide, show ((3 : Int32) = 1) = False from by decide, show ((3 : Int32) = 2) = False from by decide, show ((3 : Int32) = 4) = False from by decide, show ((4 : Int32) = 0) = False from by decide, show ((4 : Int32) = 1) = False from by decide, show ((4 : Int32) = 2) = False from by decide, show ((4 : Int32) = 3) = False from by decide, eq_self, if_true, if_false, ht, fg_bi_some, fg_bi_id]
set_option maxHeartbeats 4000000 in
theorem ch_4 {k n : Nat} {w : fg_W} {v : Int32} (c1 : f_X2_isPerson 0 (nI k) w = some (1, w)) (r : Int32) (ht : ∀ w, f_X3_within v 0 9999 w = some (r, w)) : f_X3_change (nI k) 4 v w = if r = 0 then f_X3_finding 0 w else f_X3_exchange 2 0 9 8 (nI k) v w := by
  unfold f_X3_change
  rw [c1, fg_bi_some, if_neg (by decide)]
  simp only [show ((0 : Int32) = 1) = False from by decide, show ((0 : Int32) = 2) = False from by decide, show ((0 : Int32) = 3) = False from by decide, show ((0 : Int32) = 4) = False from by decide, show ((1 : Int32) = 0) = False from by decide, show ((1 : Int32) = 2) = False from by decide, show ((1 : Int32) = 3) = False from by decide, show ((1 : Int32) = 4) = False from by decide, show ((2 : Int32) = 0) = False from by decide, show ((2 : Int32) = 1) = False from by decide, show ((2 : Int32) = 3) = False from by decide, show ((2 : Int32) = 4) = False from by decide, show ((3 : Int32) = 0) = False from by decide, show ((3 : Int32) = 1) = False from by decide, show ((3 : Int32) = 2) = False from by decide, show ((3 : Int32) = 4) = False from by decide, show ((4 : Int32) = 0) = False from by decide, show ((4 : Int32) = 1) = False from by decide, show ((4 : Int32) = 2) = False from by decide, show ((4 : Int32) = 3) = False from by decide, eq_self, if_true, if_false, ht, fg_bi_some, fg_bi_id]
set_option maxHeartbeats 4000000 in
theorem ch_1 {k n : Nat} {w : fg_W} {v : Int32} (c1 : f_X2_isPerson 0 (nI k) w = some (1, w)) (r : Int32) (ht : ∀ w, f_X3_isLot v w = some (r, w)) : f_X3_change (nI k) 1 v w = if v = -1 then f_X3_exchange 2 0 6 8 (nI k) v w else if r = 0 then f_X3_finding 0 w else f_X3_exchange 2 0 6 8 (nI k) v w := by
  unfold f_X3_change
  rw [c1, fg_bi_some, if_neg (by decide)]
  simp only [show ((0 : Int32) = 1) = False from by decide, show ((0 : Int32) = 2) = False from by decide, show ((0 : Int32) = 3) = False from by decide, show ((0 : Int32) = 4) = False from by decide, show ((1 : Int32) = 0) = False from by decide, show ((1 : Int32) = 2) = False from by decide, show ((1 : Int32) = 3) = False from by decide, show ((1 : Int32) = 4) = False from by decide, show ((2 : Int32) = 0) = False from by decide, show ((2 : Int32) = 1) = False from by decide, show ((2 : Int32) = 3) = False from by decide, show ((2 : Int32) = 4) = False from by decide, show ((3 : Int32) = 0) = False from by decide, show ((3 : Int32) = 1) = False from by decide, show ((3 : Int32) = 2) = False from by decide, show ((3 : Int32) = 4) = False from by decide, show ((4 : Int32) = 0) = False from by decide, show ((4 : Int32) = 1) = False from by decide, show ((4 : Int32) = 2) = False from by decide, show ((4 : Int32) = 3) = False from by decide, eq_self, if_true, if_false, ht, fg_bi_some, fg_bi_id]
theorem mh_0 {k : Nat} {v : Int32} {w1 : fg_W} (c2 : f_X4_isPerson (nI k) w1 = some (1, w1)) (r : Int32) (ht : f_X3_within v 0 6 w1 = some (r, w1)) : f_X4_change (nI k) 0 v w1 = if r = 0 then f_X4_no 0 w1 else fg_bi (f_X4_get (nI k) 0 w1) (fun r w2 => fg_bv (f_X4_puts (nI k) 0 v w2) (fun w3 => some (r, w3))) := by
  unfold f_X4_change
  have hw : ∀ w, f_X3_within 0 0 4 w = some (1, w) := fun w => rfl
  rw [c2, fg_bi_some, if_neg (by decide), in1_eq, hw, fg_bi_some, if_neg (by decide)]
  simp only [show ((0 : Int32) = 1) = False from by decide, show ((0 : Int32) = 2) = False from by decide, show ((0 : Int32) = 3) = False from by decide, show ((0 : Int32) = 4) = False from by decide, show ((1 : Int32) = 0) = False from by decide, show ((1 : Int32) = 2) = False from by decide, show ((1 : Int32) = 3) = False from by decide, show ((1 : Int32) = 4) = False from by decide, show ((2 : Int32) = 0) = False from by decide, show ((2 : Int32) = 1) = False from by decide, show ((2 : Int32) = 3) = False from by decide, show ((2 : Int32) = 4) = False from by decide, show ((3 : Int32) = 0) = False from by decide, show ((3 : Int32) = 1) = False from by decide, show ((3 : Int32) = 2) = False from by decide, show ((3 : Int32) = 4) = False from by decide, show ((4 : Int32) = 0) = False from by decide, show ((4 : Int32) = 1) = False from by decide, show ((4 : Int32) = 2) = False from by decide, show ((4 : Int32) = 3) = False from by decide, eq_self, if_true, if_false, ht, fg_bi_some, fg_bi_id]
theorem mh_1 {k : Nat} {v : Int32} {w1 : fg_W} (c2 : f_X4_isPerson (nI k) w1 = some (1, w1)) (r : Int32) (ht : f_X3_within v (-1) 9 w1 = some (r, w1)) : f_X4_change (nI k) 1 v w1 = if r = 0 then f_X4_no 0 w1 else fg_bi (f_X4_get (nI k) 1 w1) (fun r w2 => fg_bv (f_X4_puts (nI k) 1 v w2) (fun w3 => some (r, w3))) := by
  unfold f_X4_change
  have hw : ∀ w, f_X3_within 1 0 4 w = some (1, w) := fun w => rfl
  rw [c2, fg_bi_some, if_neg (by decide), in1_eq, hw, fg_bi_some, if_neg (by decide)]
  simp only [show ((0 : Int32) = 1) = False from by decide, show ((0 : Int32) = 2) = False from by decide, show ((0 : Int32) = 3) = False from by decide, show ((0 : Int32) = 4) = False from by decide, show ((1 : Int32) = 0) = False from by decide, show ((1 : Int32) = 2) = False from by decide, show ((1 : Int32) = 3) = False from by decide, show ((1 : Int32) = 4) = False from by decide, show ((2 : Int32) = 0) = False from by decide, show ((2 : Int32) = 1) = False from by decide, show ((2 : Int32) = 3) = False from by decide, show ((2 : Int32) = 4) = False from by decide, show ((3 : Int32) = 0) = False from by decide, show ((3 : Int32) = 1) = False from by decide, show ((3 : Int32) = 2) = False from by decide, show ((3 : Int32) = 4) = False from by decide, show ((4 : Int32) = 0) = False from by decide, show ((4 : Int32) = 1) = False from by decide, show ((4 : Int32) = 2) = False from by decide, show ((4 : Int32) = 3) = False from by decide, eq_self, if_true, if_false, ht, fg_bi_some, fg_bi_id]
theorem mh_2 {k : Nat} {v : Int32} {w1 : fg_W} (c2 : f_X4_isPerson (nI k) w1 = some (1, w1)) (r : Int32) (ht : f_X3_within v 0 99 w1 = some (r, w1)) : f_X4_change (nI k) 2 v w1 = if r = 0 then f_X4_no 0 w1 else fg_bi (f_X4_get (nI k) 2 w1) (fun r w2 => fg_bv (f_X4_puts (nI k) 2 v w2) (fun w3 => some (r, w3))) := by
  unfold f_X4_change
  have hw : ∀ w, f_X3_within 2 0 4 w = some (1, w) := fun w => rfl
  rw [c2, fg_bi_some, if_neg (by decide), in1_eq, hw, fg_bi_some, if_neg (by decide)]
  simp only [show ((0 : Int32) = 1) = False from by decide, show ((0 : Int32) = 2) = False from by decide, show ((0 : Int32) = 3) = False from by decide, show ((0 : Int32) = 4) = False from by decide, show ((1 : Int32) = 0) = False from by decide, show ((1 : Int32) = 2) = False from by decide, show ((1 : Int32) = 3) = False from by decide, show ((1 : Int32) = 4) = False from by decide, show ((2 : Int32) = 0) = False from by decide, show ((2 : Int32) = 1) = False from by decide, show ((2 : Int32) = 3) = False from by decide, show ((2 : Int32) = 4) = False from by decide, show ((3 : Int32) = 0) = False from by decide, show ((3 : Int32) = 1) = False from by decide, show ((3 : Int32) = 2) = False from by decide, show ((3 : Int32) = 4) = False from by decide, show ((4 : Int32) = 0) = False from by decide, show ((4 : Int32) = 1) = False from by decide, show ((4 : Int32) = 2) = False from by decide, show ((4 : Int32) = 3) = False from by decide, eq_self, if_true, if_false, ht, fg_bi_some, fg_bi_id]
theorem mh_3 {k : Nat} {v : Int32} {w1 : fg_W} (c2 : f_X4_isPerson (nI k) w1 = some (1, w1)) (r : Int32) (ht : f_X3_within v 0 9999 w1 = some (r, w1)) : f_X4_change (nI k) 3 v w1 = if r = 0 then f_X4_no 0 w1 else fg_bi (f_X4_get (nI k) 3 w1) (fun r w2 => fg_bv (f_X4_puts (nI k) 3 v w2) (fun w3 => some (r, w3))) := by
  unfold f_X4_change
  have hw : ∀ w, f_X3_within 3 0 4 w = some (1, w) := fun w => rfl
  rw [c2, fg_bi_some, if_neg (by decide), in1_eq, hw, fg_bi_some, if_neg (by decide)]
  simp only [show ((0 : Int32) = 1) = False from by decide, show ((0 : Int32) = 2) = False from by decide, show ((0 : Int32) = 3) = False from by decide, show ((0 : Int32) = 4) = False from by decide, show ((1 : Int32) = 0) = False from by decide, show ((1 : Int32) = 2) = False from by decide, show ((1 : Int32) = 3) = False from by decide, show ((1 : Int32) = 4) = False from by decide, show ((2 : Int32) = 0) = False from by decide, show ((2 : Int32) = 1) = False from by decide, show ((2 : Int32) = 3) = False from by decide, show ((2 : Int32) = 4) = False from by decide, show ((3 : Int32) = 0) = False from by decide, show ((3 : Int32) = 1) = False from by decide, show ((3 : Int32) = 2) = False from by decide, show ((3 : Int32) = 4) = False from by decide, show ((4 : Int32) = 0) = False from by decide, show ((4 : Int32) = 1) = False from by decide, show ((4 : Int32) = 2) = False from by decide, show ((4 : Int32) = 3) = False from by decide, eq_self, if_true, if_false, ht, fg_bi_some, fg_bi_id]
theorem mh_4 {k : Nat} {v : Int32} {w1 : fg_W} (c2 : f_X4_isPerson (nI k) w1 = some (1, w1)) (r : Int32) (ht : f_X3_within v 0 9999 w1 = some (r, w1)) : f_X4_change (nI k) 4 v w1 = if r = 0 then f_X4_no 0 w1 else fg_bi (f_X4_get (nI k) 4 w1) (fun r w2 => fg_bv (f_X4_puts (nI k) 4 v w2) (fun w3 => some (r, w3))) := by
  unfold f_X4_change
  have hw : ∀ w, f_X3_within 4 0 4 w = some (1, w) := fun w => rfl
  rw [c2, fg_bi_some, if_neg (by decide), in1_eq, hw, fg_bi_some, if_neg (by decide)]
  simp only [show ((0 : Int32) = 1) = False from by decide, show ((0 : Int32) = 2) = False from by decide, show ((0 : Int32) = 3) = False from by decide, show ((0 : Int32) = 4) = False from by decide, show ((1 : Int32) = 0) = False from by decide, show ((1 : Int32) = 2) = False from by decide, show ((1 : Int32) = 3) = False from by decide, show ((1 : Int32) = 4) = False from by decide, show ((2 : Int32) = 0) = False from by decide, show ((2 : Int32) = 1) = False from by decide, show ((2 : Int32) = 3) = False from by decide, show ((2 : Int32) = 4) = False from by decide, show ((3 : Int32) = 0) = False from by decide, show ((3 : Int32) = 1) = False from by decide, show ((3 : Int32) = 2) = False from by decide, show ((3 : Int32) = 4) = False from by decide, show ((4 : Int32) = 0) = False from by decide, show ((4 : Int32) = 1) = False from by decide, show ((4 : Int32) = 2) = False from by decide, show ((4 : Int32) = 3) = False from by decide, eq_self, if_true, if_false, ht, fg_bi_some, fg_bi_id]
theorem ag_change {w : fg_W} (h : rr w) (a b v : Int32) : ag (f_X3_change a b v w) (f_X4_change a b v) := by
  have h' := h
  obtain ⟨n, h1, h2, h3, h4⟩ := h
  have hN := h2.1
  have h8 := hN.2
  have e4 : ∀ w1 : fg_W, w1.1 4 0 = w.1 4 0 → w1.1 4 0 1 1 = nI n := fun w1 e => by rw [e]; exact h1.1.2.1.trans hN.1
  rcases q_per a n h8 with ⟨k, hk, rfl, c1, c2⟩ | ⟨_, c1, c2⟩
  · have hk8 : k < 8 := by omega
    have p1 := c1 0 w hN
    have fin : ∀ (f : Nat), f < 5 → bk_I (bk_set (w.1 2 0) (5 + f) k v) n → f_X3_change (nI k) (nI f) v w = f_X3_exchange 2 0 (5 + f) 8 (nI k) v w → (∀ w1 : fg_W, rm w1 (w.1 2 0) → f_X4_change (nI k) (nI f) v w1 = fg_bi (f_X4_get (nI k) (nI f) w1) (fun r w2 => fg_bv (f_X4_puts (nI k) (nI f) v w2) (fun w3 => some (r, w3)))) → ag (f_X3_change (nI k) (nI f) v w) (f_X4_change (nI k) (nI f) v) := by
      intro f hf hI g1 g2
      refine ag.set1 (n := n) (c := 5 + f) (j := k) (ix := 40 + 5 * k + f) (r := w.1 2 0 (5 + f) k) h4 (fun w1 g => g.per v hf hk8) h1 hI (by rw [bk_nc _ _ (by omega)]; exact h3) (by rw [g1, p_exch hk8 (by decide)]) (fun w1 g => ?_)
      rw [g2 w1 g, m_get g f hk8 hf, fg_bi_some, m_puts f v hk8 hf, fg_bv_some]
    have q1 : ∀ w1 : fg_W, rm w1 (w.1 2 0) → f_X4_isPerson (nI k) w1 = some (1, w1) := fun w1 g => c2 w1 (g.1.2.1.trans hN.1)
    rcases q_in b 4 4 rfl (by decide) with ⟨j, hj, rfl, hw⟩ | ⟨hb, hw⟩
    · have : j = 0 ∨ j = 1 ∨ j = 2 ∨ j = 3 ∨ j = 4 := by omega
      rcases this with rfl | rfl | rfl | rfl | rfl
      · rcases q_kind v with ⟨q, hq, ev, t1, t2⟩ | ⟨_, t1, t2⟩
        · exact fin 0 (by decide) (h2.set (by decide) (by omega) (by omega) (fun _ => ⟨q, hq, ev⟩) (by omega) (by omega) (by omega) (by omega) (by omega)) ((ch_0 (n := n) p1 1 t1).trans (if_neg (by decide))) (fun w1 g => (mh_0 (q1 w1 g) 1 (t2 w1)).trans (if_neg (by decide)))
        · exact ag.fnd0 h' ((ch_0 (n := n) p1 0 t1).trans (if_pos rfl)) (fun w1 e => (mh_0 (c2 w1 (e4 w1 e)) 0 (t2 w1)).trans (if_pos rfl))
      · rcases q_m1 v 10 9 rfl (by decide) with ⟨hv, t2⟩ | ⟨⟨hv, hvb⟩, t2⟩
        · refine fin 1 (by decide) (h2.set (by decide) (by omega) (by omega) (by omega) (fun _ => hv) (by omega) (by omega) (by omega) (by omega)) ?_ (fun w1 g => (mh_1 (q1 w1 g) 1 (t2 w1)).trans (if_neg (by decide)))
          rcases q_lot v with ⟨p, hp, ep, l1, _⟩ | ⟨l1, _⟩
          · refine (ch_1 (n := n) p1 1 l1).trans ?_
            split
            · rfl
            · exact if_neg (by decide)
          · refine (ch_1 (n := n) p1 0 l1).trans ?_
            rcases hv with hv | ⟨p, hp, ep⟩
            · exact if_pos hv
            · rcases q_lot v with ⟨_, _, _, l3, _⟩ | ⟨l3, _⟩
              · have := (l1 w).symm.trans (l3 w); exact absurd (Prod.mk.inj (Option.some.inj this)).1 (by decide)
              · exfalso
                have := l3 w
                rw [ep] at this
                unfold f_X3_isLot at this
                rw [if_neg (nI_pos (by omega)), if_neg (show ¬ (10 : Int32) ≤ nI p from nI_ge (a := p) (b := 10) hp (by decide))] at this
                exact absurd (Prod.mk.inj (Option.some.inj this)).1 (by decide)
        · have l1 : ∀ w, f_X3_isLot v w = some (0, w) := by
            rcases q_lot v with ⟨p, hp, ep, _, _⟩ | ⟨l1, _⟩
            · rw [ep] at hvb
              rcases hvb with hvb | hvb
              · exact absurd hvb (nI_pos (by omega))
              · rw [bk_le_iff (by omega) (by omega)] at hvb; omega
            · exact l1
          exact ag.fnd0 h' ((ch_1 (n := n) p1 0 l1).trans ((if_neg hv).trans (if_pos rfl))) (fun w1 e => (mh_1 (c2 w1 (e4 w1 e)) 0 (t2 w1)).trans (if_pos rfl))
      · rcases q_in v 99 99 rfl (by decide) with ⟨q, hq, ev, t1⟩ | ⟨_, t1⟩
        · exact fin 2 (by decide) (h2.set (by decide) (by omega) (by omega) (by omega) (by omega) (fun _ => ⟨q, hq, ev⟩) (by omega) (by omega) (by omega)) ((ch_2 (n := n) p1 1 t1).trans (if_neg (by decide))) (fun w1 g => (mh_2 (q1 w1 g) 1 (t1 w1)).trans (if_neg (by decide)))
        · exact ag.fnd0 h' ((ch_2 (n := n) p1 0 t1).trans (if_pos rfl)) (fun w1 e => (mh_2 (c2 w1 (e4 w1 e)) 0 (t1 w1)).trans (if_pos rfl))
      · rcases q_in v 9999 9999 rfl (by decide) with ⟨q, hq, ev, t1⟩ | ⟨_, t1⟩
        · exact fin 3 (by decide) (h2.set (by decide) (by omega) (by omega) (by omega) (by omega) (by omega) (fun _ => ⟨q, hq, ev⟩) (by omega) (by omega)) ((ch_3 (n := n) p1 1 t1).trans (if_neg (by decide))) (fun w1 g => (mh_3 (q1 w1 g) 1 (t1 w1)).trans (if_neg (by decide)))
        · exact ag.fnd0 h' ((ch_3 (n := n) p1 0 t1).trans (if_pos rfl)) (fun w1 e => (mh_3 (c2 w1 (e4 w1 e)) 0 (t1 w1)).trans (if_pos rfl))
      · rcases q_in v 9999 9999 rfl (by decide) with ⟨q, hq, ev, t1⟩ | ⟨_, t1⟩
        · exact fin 4 (by decide) (h2.set (by decide) (by omega) (by omega) (by omega) (by omega) (by omega) (by omega) (fun _ => ⟨q, hq, ev⟩) (by omega)) ((ch_4 (n := n) p1 1 t1).trans (if_neg (by decide))) (fun w1 g => (mh_4 (q1 w1 g) 1 (t1 w1)).trans (if_neg (by decide)))
        · exact ag.fnd0 h' ((ch_4 (n := n) p1 0 t1).trans (if_pos rfl)) (fun w1 e => (mh_4 (c2 w1 (e4 w1 e)) 0 (t1 w1)).trans (if_pos rfl))
    · have nb := q_not (N := 4) rfl (by decide) hb
      refine ag.fnd0 h' (ch_no hN p1 (nb 0 (by omega)) (nb 1 (by omega)) (nb 2 (by omega)) (nb 3 (by omega)) (nb 4 (by omega))) (fun w1 e => ?_)
      unfold f_X4_change; rw [c2 w1 (e4 w1 e), fg_bi_some, if_neg (by decide), in1_eq, hw, fg_bi_some, if_pos rfl, fg_bi_id]
  · refine ag.fnd0 h' ?_ (fun w1 e => ?_)
    · unfold f_X3_change; rw [c1 0 w hN, fg_bi_some, if_pos rfl, fg_bi_id]
    · unfold f_X4_change; rw [c2 w1 (e4 w1 e), fg_bi_some, if_pos rfl, fg_bi_id]
-- status
theorem ag_status {w : fg_W} (h : rr w) (a : Int32) : ag (f_X3_status a w) (f_X4_status a) := by
  have h' := h
  obtain ⟨n, h1, h2, h3, h4⟩ := h
  have hF := h4.2.1
  by_cases hm : a = -1
  · subst hm
    refine ag.read (r := bk_sum (w.1 3 0 1) 7) h' ?_ ?_
    · unfold f_X3_status; rw [if_pos rfl, fg_bi_id, show (7 : Int32) = nI 7 from rfl, p_sum (by decide) (by decide)]
    · unfold f_X4_status
      rw [in1_eq, show f_X3_within (-1) (-1) 6 w = some (1, w) from rfl, fg_bi_some, if_neg (by decide)]
      refine lp_go (L := f_X4_status_L20 (-1) (fun v2_20 v3_20 w_20 => some (v2_20, w_20))) (K := fun v2_20 v3_20 w_20 => some (v2_20, w_20)) (acc := bk_sum (w.1 3 0 1)) (n := 7) (by omega) (fun fu => ?_) (fun fu j hj => ?_)
      · rw [f_X4_status_L20, if_pos (by decide)]
      · rw [f_X4_status_L20, if_neg (show ¬ (7 : Int32) ≤ nI j from nI_ge (a := j) (b := 7) hj (by decide)), if_pos rfl, fg_gd_nI hj (by decide), nI_clamp (by omega), nI_1, ← hF j hj]; rfl
  · rcases q_in a 6 6 rfl (by decide) with ⟨k, hk, rfl, hw⟩ | ⟨hb, hw⟩
    · refine ag.read (r := w.1 3 0 1 k) h' ?_ ?_
      · unfold f_X3_status; rw [if_neg hm, hw, fg_bi_some, if_neg (by decide), fg_gd_nI (by omega) (by decide), nI_clamp (by omega)]
      · unfold f_X4_status
        have hw2 : f_X3_within (nI k) (-1) 6 w = some (1, w) := by
          unfold f_X3_within
          rw [if_neg (fun z => nI_pos (n := k) (by omega) (Int32.lt_trans z (by decide))), if_neg (show ¬ (6 : Int32) < nI k from nI_nlt (a := 6) (b := k) (by omega) (by decide))]
        rw [in1_eq, hw2, fg_bi_some, if_neg (by decide)]
        have := lp_go (L := f_X4_status_L20 (nI k) (fun v2_20 v3_20 w_20 => some (v2_20, w_20))) (K := fun v2_20 v3_20 w_20 => some (v2_20, w_20)) (acc := fun j => if k < j then w.1 3 0 1 k else 0) (n := 7) (w := w) (by omega) (fun fu => by rw [f_X4_status_L20, if_pos (by decide)]) (fun fu j hj => ?_)
        · simp only [if_neg (show ¬ k < 0 by omega), if_pos (show k < 7 by omega)] at this
          exact this
        · rw [f_X4_status_L20, if_neg (show ¬ (7 : Int32) ≤ nI j from nI_ge (a := j) (b := 7) hj (by decide)), if_neg hm, nI_1]
          by_cases e : k = j
          · subst e
            rw [if_pos rfl, fg_gd_nI hj (by decide), nI_clamp (by omega), fg_let_eq, if_neg (by omega), if_pos (by omega), ← hF k hj]; simp
          · rw [if_neg (fun z => e ((nI_eq (by omega) (by omega)).mp z)), fg_let_eq]
            by_cases e2 : k < j
            · rw [if_pos e2, if_pos (by omega)]; simp
            · rw [if_neg e2, if_neg (by omega)]; simp
    · refine ag.fnd0 h' ?_ (fun w1 _ => ?_)
      · unfold f_X3_status; rw [if_neg hm, hw, fg_bi_some, if_pos rfl, fg_bi_id]
      · unfold f_X4_status
        have hw2 : f_X3_within a (-1) 6 w1 = some (0, w1) := by
          rcases q_m1 a 7 6 rfl (by decide) with ⟨hv, _⟩ | ⟨_, t⟩
          · rcases hv with hv | ⟨j, hj, e⟩
            · exact absurd hv hm
            · exact absurd e (q_not (N := 6) rfl (by decide) hb j (by omega))
          · exact t w1
        rw [in1_eq, hw2, fg_bi_some, if_pos rfl, fg_bi_id]
