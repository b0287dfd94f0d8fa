theorem bk_I.set {A : Nat → Nat → Int32} {n c j : Nat} {v : Int32} (h : bk_I A n) (hc : c ≠ 0) (h2 : c = 2 → ∃ r, r ≤ 20 ∧ v = nI r) (h3 : c = 3 → v = -1 ∨ ∃ k, k < n ∧ v = nI k) (h5 : c = 5 → ∃ q, q ≤ 6 ∧ v = nI q) (h6 : c = 6 → v = -1 ∨ ∃ p, p < 10 ∧ v = nI p) (h7 : c = 7 → ∃ b, b ≤ 99 ∧ v = nI b) (h8 : c = 8 → ∃ b, b ≤ 9999 ∧ v = nI b) (h9 : c = 9 → ∃ b, b ≤ 9999 ∧ v = nI b) (h10 : c = 10 → v = -1 ∨ ∃ k, k < n ∧ v = nI k) : bk_I (bk_set A c j v) n := by
  obtain ⟨⟨g1, g1'⟩, g2, g3, g4, g5, g6, g7, g8, g9, g10⟩ := h
  have key : ∀ c' j', (c' = c ∧ j' = j ∧ bk_set A c j v c' j' = v) ∨ bk_set A c j v c' j' = A c' j' := by
    intro c' j'
    by_cases e : c' = c ∧ j' = j
    · obtain ⟨rfl, rfl⟩ := e; exact Or.inl ⟨rfl, rfl, bk_same _ _ _ _⟩
    · exact Or.inr (bk_ne _ _ (by omega))
  refine ⟨⟨?_, g1'⟩, fun k hk => ?_, fun k hk => ?_, ?_, fun k hk => ?_, fun k hk => ?_, fun k hk => ?_, fun k hk => ?_, fun k hk => ?_, fun k hk => ?_⟩
  · rw [bk_nc _ _ (Ne.symm hc)]; exact g1
  · rcases key 6 k with ⟨e, _, r⟩ | r <;> rw [r]
    · exact h6 e.symm
    · exact g2 k hk
  · rcases key 3 k with ⟨e, _, r⟩ | r <;> rw [r]
    · exact h3 e.symm
    · exact g3 k hk
  · rw [bk_nc _ _ (Ne.symm hc)]; exact g4
  · rcases key 5 k with ⟨e, _, r⟩ | r <;> rw [r]
    · exact h5 e.symm
    · exact g5 k hk
  · rcases key 7 k with ⟨e, _, r⟩ | r <;> rw [r]
    · exact h7 e.symm
    · exact g6 k hk
  · rcases key 8 k with ⟨e, _, r⟩ | r <;> rw [r]
    · exact h8 e.symm
    · exact g7 k hk
  · rcases key 9 k with ⟨e, _, r⟩ | r <;> rw [r]
    · exact h9 e.symm
    · exact g8 k hk
  · rcases key 2 k with ⟨e, _, r⟩ | r <;> rw [r]
    · exact h2 e.symm
    · exact g9 k hk
  · rcases key 10 k with ⟨e, _, r⟩ | r <;> rw [r]
    · exact h10 e.symm
    · exact g10 k hk
theorem q_m1 (a : Int32) (N : Nat) (hi : Int32) (e : hi = nI N - 1) (hN : N < 2 ^ 30) : ((a = -1 ∨ ∃ j, j < N ∧ a = nI j) ∧ ∀ w, f_X3_within a (-1) hi w = some (1, w)) ∨ ((¬ a = -1 ∧ (a < 0 ∨ nI N ≤ a)) ∧ ∀ w, f_X3_within a (-1) hi w = some (0, w)) := by
  subst e
  have t1 : (nI N - 1).toInt = (N : Int) - 1 := by
    have := pk_sub_toInt (a := N) (b := 1) hN (by decide)
    exact this
  by_cases h1 : a < -1
  · refine Or.inr ⟨⟨fun z => ?_, Or.inl (Int32.lt_trans h1 (by decide))⟩, fun w => by unfold f_X3_within; rw [if_pos h1]⟩
    rw [z] at h1; exact absurd h1 (by decide)
  · by_cases h2 : a = -1
    · refine Or.inl ⟨Or.inl h2, fun w => ?_⟩
      unfold f_X3_within
      rw [if_neg h1, if_neg]
      rw [h2, Int32.lt_iff_toInt_lt, t1, show (-1 : Int32).toInt = -1 from rfl]
      omega
    · have h0 : ¬ a < 0 := by
        intro z
        rw [Int32.lt_iff_toInt_lt] at h1 z
        rw [show (-1 : Int32).toInt = -1 from rfl] at h1
        rw [show (0 : Int32).toInt = 0 from rfl] at z
        exact h2 (Int32.toInt_inj.mp (by rw [show (-1 : Int32).toInt = -1 from rfl]; omega))
      obtain ⟨j, hj, rfl⟩ := nI_of h0
      by_cases h3 : j < N
      · refine Or.inl ⟨Or.inr ⟨j, h3, rfl⟩, fun w => ?_⟩
        unfold f_X3_within
        rw [if_neg h1, if_neg]
        rw [Int32.lt_iff_toInt_lt, t1, nI_toInt hj]; omega
      · refine Or.inr ⟨⟨h2, Or.inr (nI_le (by omega) hj)⟩, fun w => ?_⟩
        unfold f_X3_within
        rw [if_neg h1, if_pos]
        rw [Int32.lt_iff_toInt_lt, t1, nI_toInt hj]; omega
theorem nI_ne_m1 {p : Nat} (h : p < 2 ^ 31) : ¬ nI p = -1 := fun z => by have := nI_pos (n := p) h; rw [z] at this; exact this (by decide)
theorem ag_hold {w : fg_W} (h : rr w) (a b : Int32) : ag (f_X3_hold a b w) (f_X4_hold a b) := by
  rcases q_in a 9 9 rfl (by decide) with ⟨j, hj, e, hw⟩ | ⟨_, hw⟩
  · have hs : ∀ w, f_X4_isSpot a w = some (1, w) := fun w => by unfold f_X4_isSpot; rw [in1_eq, hw, fg_bi_some, fg_gp_in (by decide)]
    obtain ⟨n, h1, h2, h3, h4⟩ := h
    have h8 := h2.1.2
    subst e
    have fin : (b = -1 ∨ ∃ k, k < n ∧ b = nI k) → f_X3_hold (nI j) b w = some (1, fg_sw w 2 0 (bk_set (w.1 2 0) 10 j b)) → (∀ w1 : fg_W, rm w1 (w.1 2 0) → f_X4_hold (nI j) b w1 = some (1, fg_sw w1 4 0 (bk_set (w1.1 4 0) 1 (80 + j) b))) → ag (f_X3_hold (nI j) b w) (f_X4_hold (nI j) b) := fun hb g1 g2 =>
      ag.set1 (n := n) (c := 10) (j := j) (ix := 80 + j) h4 (fun w1 g => g.spot b (by omega)) h1 (h2.set (by decide) (by omega) (by omega) (by omega) (by omega) (by omega) (by omega) (by omega) (fun _ => hb)) (by rw [bk_nc _ _ (by decide)]; exact h3) g1 g2
    by_cases hb : b = -1
    · refine fin (Or.inl hb) ?_ (fun w1 g => ?_)
      · unfold f_X3_hold; rw [hw, fg_bi_some, if_neg (by decide), if_pos hb, fg_gd_nI (by omega) (by decide), fg_let_eq, nI_clamp (by omega), fg_st_set]
      · unfold f_X4_hold; rw [hs, fg_bi_some, if_neg (by decide), if_pos hb, show (80 : Int32) + nI j = nI (80 + j) from nI_add 80 j, fg_gd_nI (by omega) (by decide), fg_let_eq, nI_clamp (by omega), fg_st_set]
    · rcases q_per b n h8 with ⟨k, hk, ek, c1, c2⟩ | ⟨_, c1, c2⟩
      · refine fin (Or.inr ⟨k, hk, ek⟩) ?_ (fun w1 g => ?_)
        · unfold f_X3_hold; rw [hw, fg_bi_some, if_neg (by decide), if_neg hb, c1 0 w h2.1, fg_bi_some, if_neg (by decide), fg_gd_nI (by omega) (by decide), fg_let_eq, nI_clamp (by omega), fg_st_set]
        · unfold f_X4_hold; rw [hs, fg_bi_some, if_neg (by decide), if_neg hb, c2 w1 (g.1.2.1.trans h2.1.1), fg_bi_some, if_neg (by decide), show (80 : Int32) + nI j = nI (80 + j) from nI_add 80 j, fg_gd_nI (by omega) (by decide), fg_let_eq, nI_clamp (by omega), fg_st_set]
      · have hl : f_X3_hold (nI j) b w = f_X3_finding 0 w := by unfold f_X3_hold; rw [hw, fg_bi_some, if_neg (by decide), if_neg hb, c1 0 w h2.1, fg_bi_some, if_pos rfl, fg_bi_id]
        obtain ⟨r, w1, w2, e1, e2, e3⟩ := ag.find0 (w := w) ⟨n, h1, h2, h3, h4⟩
        refine ⟨r, w1, w2, by rw [hl]; exact e1, ?_, e3⟩
        have ew : w1.1 4 0 = w.1 4 0 := by
          have := (p_find (c := 0) (by decide) w).symm.trans e1
          cases this
          exact fg_sw_K _ _ _ _ _ _ (by decide)
        unfold f_X4_hold
        rw [hs, fg_bi_some, if_neg (by decide), if_neg hb, c2 w1 (by rw [ew]; exact h1.1.2.1.trans h2.1.1), fg_bi_some, if_pos rfl, fg_bi_id]
        exact e2
  · have hl : f_X3_hold a b w = f_X3_finding 0 w := by unfold f_X3_hold; rw [hw, fg_bi_some, if_pos rfl, fg_bi_id]
    have hr : f_X4_hold a b = f_X4_no 0 := by
      funext w1; unfold f_X4_hold f_X4_isSpot; rw [in1_eq, hw, fg_bi_some, fg_gp_in (by decide), fg_bi_some, if_pos rfl, fg_bi_id]
    rw [hl, hr]; exact ag.find0 h
/-- a finding on both sides, where the reference's own way to it may look at the row -/
theorem ag.fnd {w : fg_W} (h : rr w) {c : Nat} (hc : c < 7) {x : Option (Int32 × fg_W)} {m : fg_W → Option (Int32 × fg_W)} (hx : x = f_X3_finding (nI c) w) (hm : ∀ w1 : fg_W, w1.1 4 0 = w.1 4 0 → m w1 = f_X4_no (nI c) w1) : ag x m := by
  obtain ⟨r, w1, w2, e1, e2, e3⟩ := ag.findN h hc
  refine ⟨r, w1, w2, by rw [hx]; exact e1, ?_, e3⟩
  rw [hm w1 ?_]
  · exact e2
  · have e := (Prod.mk.inj (Option.some.inj ((p_find hc w).symm.trans e1))).2
    rw [← e]
    exact fg_sw_K _ _ _ _ _ _ (by decide)
theorem ag.fnd0 {w : fg_W} (h : rr w) {x : Option (Int32 × fg_W)} {m : fg_W → Option (Int32 × fg_W)} (hx : x = f_X3_finding 0 w) (hm : ∀ w1 : fg_W, w1.1 4 0 = w.1 4 0 → m w1 = f_X4_no 0 w1) : ag x m := ag.fnd h (c := 0) (by decide) hx hm
theorem ag_lotOf {w : fg_W} (h : rr w) (a b : Int32) : ag (f_X3_lotOf a b w) (f_X4_lotOf a b) := by
  have h' := h
  obtain ⟨n, h1, h2, h3, h4⟩ := h
  have hN := h2.1
  rcases q_lot a with ⟨p, hp, rfl, l1, l2⟩ | ⟨l1, l2⟩
  · rcases q_in b 4 4 rfl (by decide) with ⟨j, hj, rfl, hw⟩ | ⟨hb, hw⟩
    · have : j = 0 ∨ j = 1 ∨ j = 2 ∨ j = 3 ∨ j = 4 := by omega
      rcases this with rfl | rfl | rfl | rfl | rfl
      · refine ag.read (r := w.1 2 0 1 p) h' ?_ ?_
        · unfold f_X3_lotOf; rw [l1, fg_bi_some, if_neg (by decide), if_pos (by decide), fg_gd_nI hp (by decide), nI_clamp (by omega)]
        · unfold f_X4_lotOf; rw [l2, fg_bi_some, if_neg (by decide), in1_eq, hw, fg_bi_some, if_neg (by decide), if_neg (by decide), fg_bi_id, m_of1 h1 0 hp (by decide)]
      · refine ag.read (r := w.1 2 0 2 p) h' ?_ ?_
        · unfold f_X3_lotOf; rw [l1, fg_bi_some, if_neg (by decide), if_neg (by decide), if_pos (by decide), fg_gd_nI hp (by decide), nI_clamp (by omega)]
        · unfold f_X4_lotOf; rw [l2, fg_bi_some, if_neg (by decide), in1_eq, hw, fg_bi_some, if_neg (by decide), if_neg (by decide), fg_bi_id, m_of1 h1 1 hp (by decide)]
      · refine ag.read (r := w.1 2 0 3 p) h' ?_ ?_
        · unfold f_X3_lotOf; rw [l1, fg_bi_some, if_neg (by decide), if_neg (by decide), if_neg (by decide), if_pos (by decide), fg_gd_nI hp (by decide), nI_clamp (by omega)]
        · unfold f_X4_lotOf; rw [l2, fg_bi_some, if_neg (by decide), in1_eq, hw, fg_bi_some, if_neg (by decide), if_neg (by decide), fg_bi_id, m_of1 h1 2 hp (by decide)]
      · refine ag.read (r := bk_who (w.1 2 0) (nI p) n) h' ?_ ?_
        · unfold f_X3_lotOf; rw [l1, fg_bi_some, if_neg (by decide), if_neg (by decide), if_neg (by decide), if_neg (by decide), if_pos (by decide), fg_bi_id, p_who hN]
        · unfold f_X4_lotOf; rw [l2, fg_bi_some, if_neg (by decide), in1_eq, hw, fg_bi_some, if_neg (by decide), if_pos (by decide), if_pos (by decide), fg_bi_id, m_who h1 hN]
      · refine ag.read (r := bk_std (w.1 2 0) n p n) h' ?_ ?_
        · unfold f_X3_lotOf; rw [l1, fg_bi_some, if_neg (by decide), if_neg (by decide), if_neg (by decide), if_neg (by decide), if_neg (by decide), if_pos (by decide), fg_bi_id, p_std hN hp]
        · unfold f_X4_lotOf; rw [l2, fg_bi_some, if_neg (by decide), in1_eq, hw, fg_bi_some, if_neg (by decide), if_pos (by decide), if_neg (by decide), fg_bi_id, m_std h1 hN hp]
    · have nb : ∀ q : Nat, q ≤ 4 → ¬ b = nI q := fun q hq z => by
        rw [z] at hb
        rcases hb with hb | hb
        · exact nI_pos (by omega) hb
        · rw [show (4 : Int32) = nI 4 from rfl, bk_lt_iff (by omega) (by omega)] at hb; omega
      refine ag.fnd0 h' ?_ (fun w1 _ => ?_)
      · unfold f_X3_lotOf; rw [l1, fg_bi_some, if_neg (by decide), if_neg (show ¬ b = 0 from nb 0 (by omega)), if_neg (show ¬ b = 1 from nb 1 (by omega)), if_neg (show ¬ b = 2 from nb 2 (by omega)), if_neg (show ¬ b = 3 from nb 3 (by omega)), if_neg (show ¬ b = 4 from nb 4 (by omega)), fg_bi_id]
      · unfold f_X4_lotOf; rw [l2, fg_bi_some, if_neg (by decide), in1_eq, hw, fg_bi_some, if_pos rfl, fg_bi_id]
  · refine ag.fnd0 h' ?_ (fun w1 _ => ?_)
    · unfold f_X3_lotOf; rw [l1, fg_bi_some, if_pos rfl, fg_bi_id]
    · unfold f_X4_lotOf; rw [l2, fg_bi_some, if_pos rfl, fg_bi_id]
theorem ag_trust {w : fg_W} (h : rr w) (a b : Int32) : ag (f_X3_trust a b w) (f_X4_trust a b) := by
  have h' := h
  obtain ⟨n, h1, h2, h3, h4⟩ := h
  have hN := h2.1
  have e4 : ∀ w1 : fg_W, w1.1 4 0 = w.1 4 0 → w1.1 4 0 1 1 = nI n := fun w1 e => by rw [e]; exact h1.1.2.1.trans hN.1
  rcases q_per a n hN.2 with ⟨k, hk, rfl, c1, c2⟩ | ⟨_, c1, c2⟩
  · have h8 := hN.2
    rcases q_lot b with ⟨p, hp, rfl, l1, l2⟩ | ⟨l1, l2⟩
    · refine ag.read (r := bk_trust (w.1 2 0) n k p) h' ?_ ?_
      · unfold f_X3_trust; rw [c1 0 w hN, fg_bi_some, if_neg (by decide), l1, fg_bi_some, if_neg (by decide), fg_bi_id, p_trust hN (by omega) hp]
      · unfold f_X4_trust; rw [c2 w (e4 w rfl), fg_bi_some, if_neg (by decide), l2, fg_bi_some, if_neg (by decide), fg_bi_id, m_trust h1 hN (by omega) hp]
    · refine ag.fnd0 h' ?_ (fun w1 e => ?_)
      · unfold f_X3_trust; rw [c1 0 w hN, fg_bi_some, if_neg (by decide), l1, fg_bi_some, if_pos rfl, fg_bi_id]
      · unfold f_X4_trust; rw [c2 w1 (e4 w1 e), fg_bi_some, if_neg (by decide), l2, fg_bi_some, if_pos rfl, fg_bi_id]
  · refine ag.fnd0 h' ?_ (fun w1 e => ?_)
    · unfold f_X3_trust; rw [c1 0 w hN, fg_bi_some, if_pos rfl, fg_bi_id]
    · unfold f_X4_trust; rw [c2 w1 (e4 w1 e), fg_bi_some, if_pos rfl, fg_bi_id]
theorem ro.tl {w : fg_W} (h : ro w) : w.1 4 0 0 9 = w.1 1 0 0 1 := by
  obtain ⟨t, _, e1, e2, _⟩ := h.2.2.1
  rw [e1, e2]
theorem ag_now {w : fg_W} (h : rr w) (a : Int32) : ag (f_X3_now a w) (f_X4_now a) := by
  have h' := h
  obtain ⟨n, h1, h2, h3, h4⟩ := h
  have hN := h2.1
  have h8 := hN.2
  by_cases g0 : a = 0
  · refine ag.read (r := w.1 2 0 0 12) h' ?_ ?_
    · unfold f_X3_now; rw [if_pos g0]
    · unfold f_X4_now; rw [if_pos g0, h1.1.1]
  by_cases g1 : a = 1
  · refine ag.read (r := bk_sum (w.1 2 0 1) 10) h' ?_ ?_
    · unfold f_X3_now; rw [if_neg g0, if_pos g1, fg_bi_id, show (10 : Int32) = nI 10 from rfl, p_sum (by decide) (by decide)]
    · unfold f_X4_now; rw [if_neg g0, if_pos g1, fg_bi_id, m_fogs h1]
  by_cases g2 : a = 2
  · refine ag.read (r := bk_onl (w.1 2 0) n) h' ?_ ?_
    · unfold f_X3_now; rw [if_neg g0, if_neg g1, if_pos g2, fg_bi_id, p_onl hN]
    · unfold f_X4_now; rw [if_neg g0, if_neg g1, if_pos g2, fg_bi_id, m_onl h1 hN]
  by_cases g3 : a = 3
  · refine ag.read (r := bk_sum (w.1 2 0 8) n) h' ?_ ?_
    · unfold f_X3_now; rw [if_neg g0, if_neg g1, if_neg g2, if_pos g3, fg_bi_id, hN.1, p_sum hN.2 (by decide)]
    · unfold f_X4_now; rw [if_neg g0, if_neg g1, if_neg g2, if_pos g3, fg_bi_id, show (3 : Int32) = nI 3 from rfl, m_sum h1 hN (by decide)]
  by_cases g4 : a = 4
  · refine ag.read (r := bk_sum (w.1 2 0 9) n) h' ?_ ?_
    · unfold f_X3_now; rw [if_neg g0, if_neg g1, if_neg g2, if_neg g3, if_pos g4, fg_bi_id, hN.1, p_sum hN.2 (by decide)]
    · unfold f_X4_now; rw [if_neg g0, if_neg g1, if_neg g2, if_neg g3, if_pos g4, fg_bi_id, show (4 : Int32) = nI 4 from rfl, m_sum h1 hN (by decide)]
  by_cases g5 : a = 5
  · refine ag.read (r := bk_fg (w.1 2 0 1) 10) h' ?_ ?_
    · unfold f_X3_now; rw [if_neg g0, if_neg g1, if_neg g2, if_neg g3, if_neg g4, if_pos g5, fg_bi_id, show (10 : Int32) = nI 10 from rfl, p_fg (by decide) (by decide)]
    · unfold f_X4_now; rw [if_neg g0, if_neg g1, if_neg g2, if_neg g3, if_neg g4, if_pos g5, fg_bi_id, m_mostFog h1]
  by_cases g6 : a = 6
  · refine ag.read (r := bk_fg (w.1 2 0 8) n) h' ?_ ?_
    · unfold f_X3_now; rw [if_neg g0, if_neg g1, if_neg g2, if_neg g3, if_neg g4, if_neg g5, if_pos g6, fg_bi_id, hN.1, p_fg hN.2 (by decide)]
    · unfold f_X4_now; rw [if_neg g0, if_neg g1, if_neg g2, if_neg g3, if_neg g4, if_neg g5, if_pos g6, fg_bi_id, m_richest h1 hN]
  by_cases g7 : a = 7
  · refine ag.read (r := bk_own (w.1 2 0) (-1) 10) h' ?_ ?_
    · unfold f_X3_now; rw [if_neg g0, if_neg g1, if_neg g2, if_neg g3, if_neg g4, if_neg g5, if_neg g6, if_pos g7, fg_bi_id, p_own]
    · unfold f_X4_now; rw [if_neg g0, if_neg g1, if_neg g2, if_neg g3, if_neg g4, if_neg g5, if_neg g6, if_pos g7, fg_bi_id, m_own h1]
  refine ag.fnd0 h' ?_ (fun w1 _ => ?_)
  · unfold f_X3_now; rw [if_neg g0, if_neg g1, if_neg g2, if_neg g3, if_neg g4, if_neg g5, if_neg g6, if_neg g7, fg_bi_id]
  · unfold f_X4_now; rw [if_neg g0, if_neg g1, if_neg g2, if_neg g3, if_neg g4, if_neg g5, if_neg g6, if_neg g7, fg_bi_id]
theorem ag_count {w : fg_W} (h : rr w) (a : Int32) : ag (f_X3_count a w) (f_X4_count a) := by
  have h' := h
  obtain ⟨n, h1, h2, h3, h4⟩ := h
  have hN := h2.1
  have h8 := hN.2
  by_cases g0 : a = 0
  · refine ag.read (r := w.1 2 0 0 12) h' ?_ ?_
    · unfold f_X3_count; rw [if_pos g0]
    · unfold f_X4_count; rw [if_pos g0, h1.1.1]
  by_cases g1 : a = 1
  · refine ag.read (r := w.1 2 0 0 5) h' ?_ ?_
    · unfold f_X3_count; rw [if_neg g0, if_pos g1]
    · unfold f_X4_count; rw [if_neg g0, if_pos g1, h1.1.2.1]
  by_cases g2 : a = 2
  · refine ag.read (r := bk_bc (bk_onl (w.1 2 0) n)) h' ?_ ?_
    · unfold f_X3_count; rw [if_neg g0, if_neg g1, if_pos g2, p_onl hN, fg_bi_some, p_bc, fg_bi_some]
    · unfold f_X4_count; rw [if_neg g0, if_neg g1, if_pos g2, m_onl h1 hN, fg_bi_some, (bk_onl_lt (w.1 2 0) h8).choose_spec.2, m_bc (bk_onl_lt (w.1 2 0) h8).choose_spec.1, fg_bi_some]
  by_cases g3 : a = 3
  · refine ag.read (r := bk_sum (w.1 2 0 9) n) h' ?_ ?_
    · unfold f_X3_count; rw [if_neg g0, if_neg g1, if_neg g2, if_pos g3, fg_bi_id, hN.1, p_sum hN.2 (by decide)]
    · unfold f_X4_count; rw [if_neg g0, if_neg g1, if_neg g2, if_pos g3, fg_bi_id, show (4 : Int32) = nI 4 from rfl, m_sum h1 hN (by decide)]
  by_cases g4 : a = 4
  · refine ag.read (r := bk_sum (w.1 2 0 8) n) h' ?_ ?_
    · unfold f_X3_count; rw [if_neg g0, if_neg g1, if_neg g2, if_neg g3, if_pos g4, fg_bi_id, hN.1, p_sum hN.2 (by decide)]
    · unfold f_X4_count; rw [if_neg g0, if_neg g1, if_neg g2, if_neg g3, if_pos g4, fg_bi_id, show (3 : Int32) = nI 3 from rfl, m_sum h1 hN (by decide)]
  by_cases g5 : a = 5
  · refine ag.read (r := w.1 1 0 0 1) h' ?_ ?_
    · unfold f_X3_count; rw [if_neg g0, if_neg g1, if_neg g2, if_neg g3, if_neg g4, if_pos g5]
    · unfold f_X4_count; rw [if_neg g0, if_neg g1, if_neg g2, if_neg g3, if_neg g4, if_pos g5, h4.tl]
  by_cases g6 : a = 6
  · refine ag.read (r := w.1 2 0 0 13) h' ?_ ?_
    · unfold f_X3_count; rw [if_neg g0, if_neg g1, if_neg g2, if_neg g3, if_neg g4, if_neg g5, if_pos g6]
    · unfold f_X4_count; rw [if_neg g0, if_neg g1, if_neg g2, if_neg g3, if_neg g4, if_neg g5, if_pos g6, h1.1.2.2.1]
  by_cases g7 : a = 7
  · refine ag.read (r := bk_sp (w.1 2 0) 10) h' ?_ ?_
    · unfold f_X3_count; rw [if_neg g0, if_neg g1, if_neg g2, if_neg g3, if_neg g4, if_neg g5, if_neg g6, if_pos g7, fg_bi_id, p_sp]
    · unfold f_X4_count; rw [if_neg g0, if_neg g1, if_neg g2, if_neg g3, if_neg g4, if_neg g5, if_neg g6, if_pos g7, m_sp h1 h2]
  refine ag.fnd0 h' ?_ (fun w1 _ => ?_)
  · unfold f_X3_count; rw [if_neg g0, if_neg g1, if_neg g2, if_neg g3, if_neg g4, if_neg g5, if_neg g6, if_neg g7, fg_bi_id]
  · unfold f_X4_count; rw [if_neg g0, if_neg g1, if_neg g2, if_neg g3, if_neg g4, if_neg g5, if_neg g6, if_neg g7, fg_bi_id]
theorem p_add {i n : Nat} {w : fg_W} (hn : bk_N (w.1 2 i) n) (h7 : n < 8) (v : Int32) : f_X2_add i v w = some (nI n, fg_sw w 2 i (bk_set (bk_set (bk_set (bk_set (bk_set (bk_set (w.1 2 i) 5 n v) 6 n (-1)) 7 n 50) 8 n 50) 9 n 0) 0 5 (nI (n + 1)))) := by
  unfold f_X2_add
  simp only [fg_let_eq, hn.1, fg_gd_nI h7 (show 8 < 2 ^ 31 by decide), nI_clamp (show n < 2 ^ 31 by omega), fg_st_set, fg_sw_at, fg_sw_sw, bk_nc _ _ (show (0 : Nat) ≠ 5 by decide), bk_nc _ _ (show (0 : Nat) ≠ 6 by decide), bk_nc _ _ (show (0 : Nat) ≠ 7 by decide), bk_nc _ _ (show (0 : Nat) ≠ 8 by decide), bk_nc _ _ (show (0 : Nat) ≠ 9 by decide), nI_1]
def bk_addp (A : Nat → Nat → Int32) (n : Nat) (v : Int32) : Nat → Nat → Int32 := bk_set (bk_set (bk_set (bk_set (bk_set (bk_set A 5 n v) 6 n (-1)) 7 n 50) 8 n 50) 9 n 0) 0 5 (nI (n + 1))
theorem bk_I.addp {A : Nat → Nat → Int32} {n q : Nat} (h : bk_I A n) (h7 : n < 8) (hq : q ≤ 6) : bk_I (bk_addp A n (nI q)) (n + 1) := by
  have g1 := h.set (c := 5) (j := n) (v := nI q) (by decide) (by omega) (by omega) (fun _ => ⟨q, hq, rfl⟩) (by omega) (by omega) (by omega) (by omega) (by omega)
  have g2 := g1.set (c := 6) (j := n) (v := -1) (by decide) (by omega) (by omega) (by omega) (fun _ => Or.inl rfl) (by omega) (by omega) (by omega) (by omega)
  have g3 := g2.set (c := 7) (j := n) (v := 50) (by decide) (by omega) (by omega) (by omega) (by omega) (fun _ => ⟨50, by omega, rfl⟩) (by omega) (by omega) (by omega)
  have g4 := g3.set (c := 8) (j := n) (v := 50) (by decide) (by omega) (by omega) (by omega) (by omega) (by omega) (fun _ => ⟨50, by omega, rfl⟩) (by omega) (by omega)
  have g5 := g4.set (c := 9) (j := n) (v := 0) (by decide) (by omega) (by omega) (by omega) (by omega) (by omega) (by omega) (fun _ => ⟨0, by omega, rfl⟩) (by omega)
  unfold bk_addp
  generalize bk_set (bk_set (bk_set (bk_set (bk_set A 5 n (nI q)) 6 n (-1)) 7 n 50) 8 n 50) 9 n 0 = B at g5
  obtain ⟨⟨e1, e1'⟩, e2, e3, e4, e5, e6, e7, e8, e9, e10⟩ := g5
  refine ⟨⟨bk_same _ _ _ _, by omega⟩, fun k hk => ?_, fun k hk => ?_, ?_, fun k hk => ?_, fun k hk => ?_, fun k hk => ?_, fun k hk => ?_, fun k hk => ?_, fun k hk => ?_⟩
  · rw [bk_nc _ _ (by decide)]; exact e2 k hk
  · rw [bk_nc _ _ (by decide)]; exact (e3 k hk).imp id (fun ⟨z, a, b⟩ => ⟨z, by omega, b⟩)
  · rw [bk_ne _ _ (Or.inr (by decide))]; exact e4
  · rw [bk_nc _ _ (by decide)]; exact e5 k hk
  · rw [bk_nc _ _ (by decide)]; exact e6 k hk
  · rw [bk_nc _ _ (by decide)]; exact e7 k hk
  · rw [bk_nc _ _ (by decide)]; exact e8 k hk
  · rw [bk_nc _ _ (by decide)]; exact e9 k hk
  · rw [bk_nc _ _ (by decide)]; exact (e10 k hk).imp id (fun ⟨z, a, b⟩ => ⟨z, by omega, b⟩)
theorem m_adds {w : fg_W} {A : Nat → Nat → Int32} {n : Nat} (h : rm w A) (hn : bk_N A n) (h7 : n < 8) (v : Int32) : ∃ w', f_X4_adds v w = some w' ∧ rm w' (bk_addp A n v) ∧ (∃ e, w' = fg_sw w 4 0 e ∧ ∀ c, c ≠ 1 → e c = w.1 4 0 c) := by
  have k1 := h.per (f := 0) (k := n) v (by decide) h7
  have k2 := k1.per (f := 1) (k := n) (-1) (by decide) h7
  have k3 := k2.per (f := 2) (k := n) 50 (by decide) h7
  have k4 := k3.per (f := 3) (k := n) 50 (by decide) h7
  have k5 := k4.per (f := 4) (k := n) 0 (by decide) h7
  have k6 := k5.sc (ix := 1) (j := 5) (nI (n + 1)) (by omega)
  unfold f_X4_adds
  rw [fg_let_eq, h.1.2.1, hn.1, show ∀ v w, f_X4_puts (nI n) 0 v w = some _ from fun v w => m_puts 0 _ h7 (by decide), fg_bv_some, show ∀ v w, f_X4_puts (nI n) 1 v w = some _ from fun v w => m_puts 1 _ h7 (by decide), fg_bv_some, show ∀ v w, f_X4_puts (nI n) 2 v w = some _ from fun v w => m_puts 2 _ h7 (by decide), fg_bv_some, show ∀ v w, f_X4_puts (nI n) 3 v w = some _ from fun v w => m_puts 3 _ h7 (by decide), fg_bv_some, show ∀ v w, f_X4_puts (nI n) 4 v w = some _ from fun v w => m_puts 4 _ h7 (by decide), fg_bv_some, fg_let_eq, k5.1.2.1]
  have e0 : bk_set (bk_set (bk_set (bk_set (bk_set A (5 + 0) n v) (5 + 1) n (-1)) (5 + 2) n 50) (5 + 3) n 50) (5 + 4) n 0 0 5 = nI n := by
    rw [bk_nc _ _ (by decide), bk_nc _ _ (by decide), bk_nc _ _ (by decide), bk_nc _ _ (by decide), bk_nc _ _ (by decide)]; exact hn.1
  rw [e0, nI_1, fg_st_set]
  refine ⟨_, rfl, k6, ?_⟩
  simp only [fg_sw_at, fg_sw_sw]
  refine ⟨_, rfl, fun c hc => ?_⟩
  rw [bk_set_ne1 c hc, bk_set_ne1 c hc, bk_set_ne1 c hc, bk_set_ne1 c hc, bk_set_ne1 c hc, bk_set_ne1 c hc]
theorem q_kind (a : Int32) : (∃ q, q ≤ 6 ∧ a = nI q ∧ (∀ w, f_X3_isKind a w = some (1, w)) ∧ ∀ w, f_X3_within a 0 6 w = some (1, w)) ∨ ((a < 0 ∨ 6 < a) ∧ (∀ w, f_X3_isKind a w = some (0, w)) ∧ ∀ w, f_X3_within a 0 6 w = some (0, w)) := by
  rcases q_in a 6 6 rfl (by decide) with ⟨j, hj, e, hw⟩ | ⟨hb, hw⟩
  · refine Or.inl ⟨j, hj, e, fun w => ?_, hw⟩
    subst e
    unfold f_X3_isKind
    rw [if_neg (nI_pos (by omega)), if_neg (show ¬ (7 : Int32) ≤ nI j from nI_ge (a := j) (b := 7) (by omega) (by decide))]
  · refine Or.inr ⟨hb, fun w => ?_, hw⟩
    unfold f_X3_isKind
    by_cases h0 : a < 0
    · rw [if_pos h0]
    · rw [if_neg h0, if_pos]
      rcases hb with h | h
      · exact absurd h h0
      · obtain ⟨j, hj, rfl⟩ := nI_of h0
        rw [show (6 : Int32) = nI 6 from rfl, bk_lt_iff (by omega) hj] at h
        exact nI_le (a := 7) (by omega) hj
theorem ag_person {w : fg_W} (h : rr w) (a : Int32) : ag (f_X3_person a w) (f_X4_person a) := by
  have h' := h
  obtain ⟨n, h1, h2, h3, h4⟩ := h
  have hN := h2.1
  have h8 := hN.2
  rcases q_kind a with ⟨q, hq, rfl, c1, c2⟩ | ⟨_, c1, c2⟩
  · by_cases h7 : n < 8
    · have g := h1.own 2 0 (bk_addp (w.1 2 0) n (nI q)) (by decide)
      obtain ⟨w2, e1, e2, e, e3, e4⟩ := m_adds g hN h7 (nI q)
      refine ⟨nI n, fg_sw w 2 0 (bk_addp (w.1 2 0) n (nI q)), w2, ?_, ?_, ?_⟩
      · unfold f_X3_person
        rw [c1, fg_bi_some, if_neg (by decide), hN.1, if_pos (show nI n < 8 from nI_lt (b := 8) h7 (by decide)), fg_bi_id, p_add hN h7]; rfl
      · unfold f_X4_person
        rw [in1_eq, c2, fg_bi_some, if_neg (by decide), g.1.2.1, hN.1, if_neg (show ¬ nI n = 8 from fun z => by have := (nI_eq (a := n) (b := 8) (by omega) (by decide)).mp z; omega), e1, fg_bv_some, e2.1.2.1, show bk_addp (w.1 2 0) n (nI q) 0 5 = nI (n + 1) from bk_same _ _ _ _, nI_pred]
      · rw [e3]
        rw [e3] at e2
        refine rr.world h4 e2 (h2.addp h7 hq) ?_ (fun c hc => ?_)
        · unfold bk_addp
          rw [bk_ne _ _ (Or.inr (by decide)), bk_nc _ _ (by decide), bk_nc _ _ (by decide), bk_nc _ _ (by decide), bk_nc _ _ (by decide), bk_nc _ _ (by decide)]; exact h3
        · rw [e4 c hc, fg_sw_K _ _ _ _ _ _ (by decide)]
    · obtain rfl : n = 8 := by omega
      refine ag.fnd h' (c := 1) (by decide) ?_ (fun w1 e => ?_)
      · unfold f_X3_person
        rw [c1, fg_bi_some, if_neg (by decide), hN.1, if_neg (by decide), fg_bi_id]; rfl
      · unfold f_X4_person
        rw [in1_eq, c2, fg_bi_some, if_neg (by decide), e, h1.1.2.1, hN.1, if_pos (by decide), fg_bi_id]; rfl
  · refine ag.fnd0 h' ?_ (fun w1 e => ?_)
    · unfold f_X3_person; rw [c1, fg_bi_some, if_pos rfl, fg_bi_id]
    · unfold f_X4_person; rw [in1_eq, c2, fg_bi_some, if_pos rfl, fg_bi_id]
