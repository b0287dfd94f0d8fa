/-- days are alike in banks that are alike (by way of the reference's row) -/
theorem bk_days_eq {w : fg_W} {A B : Nat → Nat → Int32} {n t : Nat} (ht : t < 900) (h : rm w A) (hI : bk_I A n) (e : bk_eq A B) : bk_eq (bk_days n A t) (bk_days n B t) := by
  obtain ⟨w1, a1, a2, _⟩ := m_goes ht h hI
  obtain ⟨w2, b1, b2, _⟩ := m_goes ht (h.eq e) (hI.eq e)
  obtain rfl : w1 = w2 := Option.some.inj (a1.symm.trans b1)
  intro c j hc
  obtain ⟨⟨h1, h2, h3, h4, h5⟩, h6, h7, h8, h9⟩ := a2
  obtain ⟨⟨g1, g2, g3, g4, g5⟩, g6, g7, g8, g9⟩ := b2
  unfold bk_ok at hc
  by_cases c0 : c = 0
  · subst c0
    have : j = 4 ∨ j = 5 ∨ j = 11 ∨ j = 12 ∨ j = 13 := by omega
    rcases this with rfl | rfl | rfl | rfl | rfl
    · exact g4.symm.trans h4
    · exact g2.symm.trans h2
    · exact g5.symm.trans h5
    · exact g1.symm.trans h1
    · exact g3.symm.trans h3
  · by_cases c4 : c = 4
    · subst c4; exact (g6 j (by omega)).symm.trans (h6 j (by omega))
    · by_cases c10 : c = 10
      · subst c10; exact (g9 j (by omega)).symm.trans (h9 j (by omega))
      · by_cases cl : c ≤ 3
        · obtain ⟨f, rfl⟩ : ∃ f, c = 1 + f := ⟨c - 1, by omega⟩
          exact (g7 f j (by omega) (by omega)).symm.trans (h7 f j (by omega) (by omega))
        · obtain ⟨f, rfl⟩ : ∃ f, c = 5 + f := ⟨c - 5, by omega⟩
          exact (g8 f j (by omega) (by omega)).symm.trans (h8 f j (by omega) (by omega))
theorem m_then {w : fg_W} {A : Nat → Nat → Int32} {n k f g t : Nat} {v : Int32} (h : rm w A) (hk : k < 8) (hf : f < 5) (hg : g < 5) (ht : t < 900) (hI : bk_I (bk_set A (5 + f) k v) n) : ∃ w', f_X4_thenWith (nI k) (nI f) v (nI t) (nI g) w = some (bk_days n (bk_set A (5 + f) k v) t (5 + g) k, w') ∧ bs w w' := by
  obtain ⟨w1, a1, a2, a3⟩ := m_think h
  have h1 := a2.per (f := f) (k := k) v hf hk
  obtain ⟨w2, b1, b2, b3⟩ := m_goes ht h1 hI
  obtain ⟨w3, d1, d2⟩ := a3 w2 ((fm.set w1 _ v (Or.inl rfl)).tr b3)
  refine ⟨w3, ?_, d2⟩
  unfold f_X4_thenWith
  rw [a1, fg_bv_some, m_puts f v hk hf, fg_bv_some, b1, fg_bv_some, m_get b2 g hk hg, fg_bi_some, d1, fg_bv_some]
theorem q_soon (a : Int32) : (∃ t, t ≤ 40 ∧ a = nI t ∧ (∀ w, f_X3_within a 0 40 w = some (1, w)) ∧ ∀ w, f_X4_isSoon a w = some (1, w)) ∨ ((∀ w, f_X3_within a 0 40 w = some (0, w)) ∧ ∀ w, f_X4_isSoon a w = some (0, w)) := by
  rcases q_in a 40 40 rfl (by decide) with ⟨j, hj, e, hw⟩ | ⟨_, hw⟩
  · exact Or.inl ⟨j, hj, e, hw, fun w => by unfold f_X4_isSoon; rw [in1_eq, hw, fg_bi_some, fg_gp_in (by decide)]⟩
  · exact Or.inr ⟨hw, fun w => by unfold f_X4_isSoon; rw [in1_eq, hw, fg_bi_some, fg_gp_in (by decide)]⟩
/-- one thought of the class: the trial becomes the world, one number is another, days go by -/
def bk_th (n t : Nat) (A d : Nat → Nat → Int32) (c k : Nat) (v : Int32) : Nat → Nat → Int32 := bk_days n (bk_set (bk_bec d A) c k v) t
theorem bk_th_eq {w : fg_W} {A d : Nat → Nat → Int32} {n t c k : Nat} {v : Int32} (ht : t < 900) (h : rm w (bk_set A c k v)) (hI : bk_I (bk_set A c k v) n) : bk_eq (bk_days n (bk_set A c k v) t) (bk_th n t A d c k v) := bk_days_eq ht h hI ((bk_bec_eq d A).set c k v)
theorem bk_th_I {A d : Nat → Nat → Int32} {n c k : Nat} {v : Int32} (hI : bk_I (bk_set A c k v) n) : bk_I (bk_set (bk_bec d A) c k v) n := hI.eq ((bk_bec_eq d A).set c k v)
-- gathering the best
def bk_min (V : Nat → Int32) (b0 l0 : Int32) : Nat → Int32 × Int32
  | 0 => (b0, l0)
  | m + 1 => if (bk_min V b0 l0 m).2 ≤ V m then bk_min V b0 l0 m else (nI m, V m)
def bk_max (V : Nat → Int32) (b0 l0 : Int32) : Nat → Int32 × Int32
  | 0 => (b0, l0)
  | m + 1 => if V m ≤ (bk_max V b0 l0 m).2 then bk_max V b0 l0 m else (nI m, V m)
theorem p_settleL {n k t : Nat} {w : fg_W} (hk : k < 8) (ht : t ≤ 40) (h1 : rm w (w.1 2 0)) (hI : ∀ p, p < 10 → bk_I (bk_set (w.1 2 0) 6 k (nI p)) n) : ∀ (m j fu : Nat) (d : Nat → Nat → Int32), j + m = 10 → m < fu → ∃ d', f_X3_settle_L37 (nI k) (nI t) (fun v3_37 v4_37 v5_37 w_37 => some (v3_37, w_37)) fu (bk_min (fun p => bk_days n (bk_set (w.1 2 0) 6 k (nI p)) t 9 k) 0 10000 j).1 (bk_min (fun p => bk_days n (bk_set (w.1 2 0) 6 k (nI p)) t 9 k) 0 10000 j).2 (nI j) (fg_sw w 2 1 d) = some ((bk_min (fun p => bk_days n (bk_set (w.1 2 0) 6 k (nI p)) t 9 k) 0 10000 10).1, fg_sw w 2 1 d') := by
  intro m
  induction m with
  | zero =>
    intro j fu d hj hf
    obtain ⟨fu, rfl⟩ : ∃ z, fu = z + 1 := ⟨fu - 1, by omega⟩
    obtain rfl : j = 10 := by omega
    exact ⟨d, by rw [f_X3_settle_L37, if_pos (by decide)]⟩
  | succ m ih =>
    intro j fu d hj hf
    obtain ⟨fu, rfl⟩ : ∃ z, fu = z + 1 := ⟨fu - 1, by omega⟩
    have hIj := hI j (by omega)
    have hr := (h1.per (f := 1) (k := k) (nI j) (by decide) hk)
    have hv : bk_th n t (w.1 2 0) d 6 k (nI j) 9 k = bk_days n (bk_set (w.1 2 0) 6 k (nI j)) t 9 k := bk_th_eq (by omega) hr hIj 9 k (by unfold bk_ok; omega)
    obtain ⟨d', hd⟩ := ih (j + 1) fu (bk_th n t (w.1 2 0) d 6 k (nI j)) (by omega) (by omega)
    refine ⟨d', ?_⟩
    rw [f_X3_settle_L37, if_neg (show ¬ (10 : Int32) ≤ nI j from nI_ge (a := j) (b := 10) (by omega) (by decide)), p_become (by decide), fg_bv_some, fg_sw_at, fg_sw_sw, fg_sw_i _ _ _ _ _ (by decide), fg_gd_nI hk (by decide), fg_let_eq, nI_clamp (by omega), fg_st_set, fg_sw_at, fg_sw_sw, p_days (n := n) (by omega) (by rw [fg_sw_at]; exact bk_th_I hIj), fg_bv_some, fg_sw_at, fg_sw_sw, fg_gd_nI hk (by decide), fg_sw_at, show bk_days n (bk_set (bk_bec d (w.1 2 0)) 6 k (nI j)) t = bk_th n t (w.1 2 0) d 6 k (nI j) from rfl, hv, nI_1, ← hd]
    simp only [bk_min, fg_gd_nI hk (show 8 < 2 ^ 31 by decide), fg_let_eq]
    split
    · rfl
    · rfl
theorem m_settleL {n k t : Nat} {A : Nat → Nat → Int32} (hk : k < 8) (ht : t ≤ 40) (hI : ∀ p, p < 10 → bk_I (bk_set A 6 k (nI p)) n) : ∀ (m j fu : Nat) (w : fg_W), j + m = 10 → m < fu → rm w A → ∃ w', f_X4_settle_L37 (nI k) (nI t) (fun v3_37 v4_37 v5_37 w_37 => some (v3_37, w_37)) fu (bk_min (fun p => bk_days n (bk_set A 6 k (nI p)) t 9 k) 0 10000 j).1 (bk_min (fun p => bk_days n (bk_set A 6 k (nI p)) t 9 k) 0 10000 j).2 (nI j) w = some ((bk_min (fun p => bk_days n (bk_set A 6 k (nI p)) t 9 k) 0 10000 10).1, w') ∧ bs w w' := by
  intro m
  induction m with
  | zero =>
    intro j fu w hj hf h
    obtain ⟨fu, rfl⟩ : ∃ z, fu = z + 1 := ⟨fu - 1, by omega⟩
    obtain rfl : j = 10 := by omega
    exact ⟨w, by rw [f_X4_settle_L37, if_pos (by decide)], bs.rf w⟩
  | succ m ih =>
    intro j fu w hj hf h
    obtain ⟨fu, rfl⟩ : ∃ z, fu = z + 1 := ⟨fu - 1, by omega⟩
    obtain ⟨w1, a1, a2⟩ := m_then (f := 1) (g := 4) (t := t) h hk (by decide) (by decide) (by omega) (hI j (by omega))
    obtain ⟨w', b1, b2⟩ := ih (j + 1) fu w1 (by omega) (by omega) (h.bs a2)
    refine ⟨w', ?_, a2.tr b2⟩
    rw [f_X4_settle_L37, if_neg (show ¬ (10 : Int32) ≤ nI j from nI_ge (a := j) (b := 10) (by omega) (by decide)), show f_X4_thenWith (nI k) 1 (nI j) (nI t) 4 w = _ from a1, fg_bi_some, nI_1, ← b1]
    simp only [bk_min]
    by_cases hc : (bk_min (fun p => bk_days n (bk_set A 6 k (nI p)) t 9 k) 0 10000 j).2 ≤ bk_days n (bk_set A 6 k (nI j)) t 9 k
    · rw [if_pos hc, if_pos hc]
      unfold f_X4_less
      rw [if_pos hc, fg_bi_some]
    · rw [if_neg hc, if_neg hc]
      unfold f_X4_less
      rw [if_neg hc, fg_bi_some]
theorem ag_settle {w : fg_W} (h : rr w) (a b : Int32) : ag (f_X3_settle a b w) (f_X4_settle a b) := by
  have h' := h
  obtain ⟨n, h1, h2, h3, h4⟩ := h
  have hN := h2.1
  have h8 := hN.2
  have e4 : ∀ w1 : fg_W, w1.1 4 0 = w.1 4 0 → w1.1 4 0 1 1 = nI n := fun w1 e => by rw [e]; exact h1.1.2.1.trans hN.1
  rcases q_per a n h8 with ⟨k, hk, rfl, c1, c2⟩ | ⟨_, c1, c2⟩
  · have hk8 : k < 8 := by omega
    rcases q_soon b with ⟨t, ht, rfl, s1, s2⟩ | ⟨s1, s2⟩
    · have hI : ∀ p, p < 10 → bk_I (bk_set (w.1 2 0) 6 k (nI p)) n := fun p hp => h2.set (by decide) (by omega) (by omega) (by omega) (fun _ => Or.inr ⟨p, hp, rfl⟩) (by omega) (by omega) (by omega) (by omega)
      obtain ⟨d', hd⟩ := p_settleL (w := w) hk8 ht h1 hI 10 0 fg_fuel (w.1 2 1) (by omega) (by unfold fg_fuel; omega)
      rw [fg_sw_id, nI_0] at hd
      refine ag.ask h' (r := (bk_min (fun p => bk_days n (bk_set (w.1 2 0) 6 k (nI p)) t 9 k) 0 10000 10).1) (d := d') ?_ ?_
      · unfold f_X3_settle
        rw [c1 0 w hN, fg_bi_some, if_neg (by decide), s1, fg_bi_some, if_neg (by decide)]
        exact hd
      · have g := h1.own 2 1 d' (by decide)
        obtain ⟨w1, a1, a2⟩ := m_then (f := 1) (g := 4) (t := t) g hk8 (by decide) (by decide) (by omega) (hI 0 (by decide))
        obtain ⟨w2, b1, b2⟩ := m_settleL (A := w.1 2 0) hk8 ht hI 9 1 fg_fuel w1 (by omega) (by unfold fg_fuel; omega) (g.bs a2)
        refine ⟨w2, ?_, a2.tr b2⟩
        unfold f_X4_settle
        rw [c2 _ (e4 _ (fg_sw_K _ _ _ _ _ _ (by decide))), fg_bi_some, if_neg (by decide), s2, fg_bi_some, if_neg (by decide), show f_X4_thenWith (nI k) 1 0 (nI t) 4 (fg_sw w 2 1 d') = _ from a1, fg_bi_some]
        have e1 : bk_min (fun p => bk_days n (bk_set (w.1 2 0) 6 k (nI p)) t 9 k) 0 10000 1 = (0, bk_days n (bk_set (w.1 2 0) 6 k (nI 0)) t 9 k) := by
          obtain ⟨q, hq, eq⟩ := (bk_I_days t _ (hI 0 (by decide))).2.2.2.2.2.2.2.1 k hk8
          show (if (10000 : Int32) ≤ bk_days n (bk_set (w.1 2 0) 6 k (nI 0)) t 9 k then _ else _) = _
          rw [if_neg]
          · rfl
          · rw [eq]; exact nI_ge (b := 10000) (by omega) (by decide)
        rw [e1] at b1
        exact b1
    · refine ag.fnd0 h' ?_ (fun w1 e => ?_)
      · unfold f_X3_settle; rw [c1 0 w hN, fg_bi_some, if_neg (by decide), s1, fg_bi_some, if_pos rfl, fg_bi_id]
      · unfold f_X4_settle; rw [c2 w1 (e4 w1 e), fg_bi_some, if_neg (by decide), s2, fg_bi_some, if_pos rfl, fg_bi_id]
  · refine ag.fnd0 h' ?_ (fun w1 e => ?_)
    · unfold f_X3_settle; rw [c1 0 w hN, fg_bi_some, if_pos rfl, fg_bi_id]
    · unfold f_X4_settle; rw [c2 w1 (e4 w1 e), fg_bi_some, if_pos rfl, fg_bi_id]
theorem p_kindL {n k t : Nat} {w : fg_W} (hk : k < 8) (ht : t ≤ 40) (h1 : rm w (w.1 2 0)) (hI : ∀ p, p < 7 → bk_I (bk_set (w.1 2 0) 5 k (nI p)) n) : ∀ (m j fu : Nat) (d : Nat → Nat → Int32), j + m = 7 → m < fu → ∃ d', f_X3_kindFor_L35 (nI k) (nI t) (fun v3_37 v4_37 v5_37 w_37 => some (v3_37, w_37)) fu (bk_max (fun p => bk_days n (bk_set (w.1 2 0) 5 k (nI p)) t 8 k) 0 (-1) j).1 (bk_max (fun p => bk_days n (bk_set (w.1 2 0) 5 k (nI p)) t 8 k) 0 (-1) j).2 (nI j) (fg_sw w 2 1 d) = some ((bk_max (fun p => bk_days n (bk_set (w.1 2 0) 5 k (nI p)) t 8 k) 0 (-1) 7).1, fg_sw w 2 1 d') := by
  intro m
  induction m with
  | zero =>
    intro j fu d hj hf
    obtain ⟨fu, rfl⟩ : ∃ z, fu = z + 1 := ⟨fu - 1, by omega⟩
    obtain rfl : j = 7 := by omega
    exact ⟨d, by rw [f_X3_kindFor_L35, if_pos (by decide)]⟩
  | succ m ih =>
    intro j fu d hj hf
    obtain ⟨fu, rfl⟩ : ∃ z, fu = z + 1 := ⟨fu - 1, by omega⟩
    have hIj := hI j (by omega)
    have hr := (h1.per (f := 0) (k := k) (nI j) (by decide) hk)
    have hv : bk_th n t (w.1 2 0) d 5 k (nI j) 8 k = bk_days n (bk_set (w.1 2 0) 5 k (nI j)) t 8 k := bk_th_eq (by omega) hr hIj 8 k (by unfold bk_ok; omega)
    obtain ⟨d', hd⟩ := ih (j + 1) fu (bk_th n t (w.1 2 0) d 5 k (nI j)) (by omega) (by omega)
    refine ⟨d', ?_⟩
    rw [f_X3_kindFor_L35, if_neg (show ¬ (7 : Int32) ≤ nI j from nI_ge (a := j) (b := 7) (by omega) (by decide)), p_become (by decide), fg_bv_some, fg_sw_at, fg_sw_sw, fg_sw_i _ _ _ _ _ (by decide), fg_gd_nI hk (by decide), fg_let_eq, nI_clamp (by omega), fg_st_set, fg_sw_at, fg_sw_sw, p_days (n := n) (by omega) (by rw [fg_sw_at]; exact bk_th_I hIj), fg_bv_some, fg_sw_at, fg_sw_sw, fg_gd_nI hk (by decide), fg_sw_at, show bk_days n (bk_set (bk_bec d (w.1 2 0)) 5 k (nI j)) t = bk_th n t (w.1 2 0) d 5 k (nI j) from rfl, hv, nI_1, ← hd]
    simp only [bk_max, fg_gd_nI hk (show 8 < 2 ^ 31 by decide), fg_let_eq]
    split
    · rfl
    · rfl
theorem m_kindL {n k t : Nat} {A : Nat → Nat → Int32} (hk : k < 8) (ht : t ≤ 40) (hI : ∀ p, p < 7 → bk_I (bk_set A 5 k (nI p)) n) : ∀ (m j fu : Nat) (w : fg_W), j + m = 7 → m < fu → rm w A → ∃ w', f_X4_kindFor_L37 (nI k) (nI t) (fun v3_37 v4_37 v5_37 w_37 => some (v3_37, w_37)) fu (bk_max (fun p => bk_days n (bk_set A 5 k (nI p)) t 8 k) 0 (-1) j).1 (bk_max (fun p => bk_days n (bk_set A 5 k (nI p)) t 8 k) 0 (-1) j).2 (nI j) w = some ((bk_max (fun p => bk_days n (bk_set A 5 k (nI p)) t 8 k) 0 (-1) 7).1, w') ∧ bs w w' := by
  intro m
  induction m with
  | zero =>
    intro j fu w hj hf h
    obtain ⟨fu, rfl⟩ : ∃ z, fu = z + 1 := ⟨fu - 1, by omega⟩
    obtain rfl : j = 7 := by omega
    exact ⟨w, by rw [f_X4_kindFor_L37, if_pos (by decide)], bs.rf w⟩
  | succ m ih =>
    intro j fu w hj hf h
    obtain ⟨fu, rfl⟩ : ∃ z, fu = z + 1 := ⟨fu - 1, by omega⟩
    obtain ⟨w1, a1, a2⟩ := m_then (f := 0) (g := 3) (t := t) h hk (by decide) (by decide) (by omega) (hI j (by omega))
    obtain ⟨w', b1, b2⟩ := ih (j + 1) fu w1 (by omega) (by omega) (h.bs a2)
    refine ⟨w', ?_, a2.tr b2⟩
    rw [f_X4_kindFor_L37, if_neg (show ¬ (6 : Int32) < nI j from nI_nlt (a := 6) (b := j) (by omega) (by decide)), show f_X4_thenWith (nI k) 0 (nI j) (nI t) 3 w = _ from a1, fg_bi_some, nI_1, ← b1]
    simp only [bk_max]
    split
    · rfl
    · rfl
theorem ag_kindFor {w : fg_W} (h : rr w) (a b : Int32) : ag (f_X3_kindFor a b w) (f_X4_kindFor a b) := by
  have h' := h
  obtain ⟨n, h1, h2, h3, h4⟩ := h
  have hN := h2.1
  have h8 := hN.2
  have e4 : ∀ w1 : fg_W, w1.1 4 0 = w.1 4 0 → w1.1 4 0 1 1 = nI n := fun w1 e => by rw [e]; exact h1.1.2.1.trans hN.1
  rcases q_per a n h8 with ⟨k, hk, rfl, c1, c2⟩ | ⟨_, c1, c2⟩
  · have hk8 : k < 8 := by omega
    rcases q_soon b with ⟨t, ht, rfl, s1, s2⟩ | ⟨s1, s2⟩
    · have hI : ∀ p, p < 7 → bk_I (bk_set (w.1 2 0) 5 k (nI p)) n := fun p hp => h2.set (by decide) (by omega) (by omega) (fun _ => ⟨p, by omega, rfl⟩) (by omega) (by omega) (by omega) (by omega) (by omega)
      obtain ⟨d', hd⟩ := p_kindL (w := w) hk8 ht h1 hI 7 0 fg_fuel (w.1 2 1) (by omega) (by unfold fg_fuel; omega)
      rw [fg_sw_id, nI_0] at hd
      refine ag.ask h' (r := (bk_max (fun p => bk_days n (bk_set (w.1 2 0) 5 k (nI p)) t 8 k) 0 (-1) 7).1) (d := d') ?_ ?_
      · unfold f_X3_kindFor
        rw [c1 0 w hN, fg_bi_some, if_neg (by decide), s1, fg_bi_some, if_neg (by decide)]
        exact hd
      · have g := h1.own 2 1 d' (by decide)
        obtain ⟨w1, a1, a2⟩ := m_then (f := 0) (g := 3) (t := t) g hk8 (by decide) (by decide) (by omega) (hI 0 (by decide))
        obtain ⟨w2, b1, b2⟩ := m_kindL (A := w.1 2 0) hk8 ht hI 6 1 fg_fuel w1 (by omega) (by unfold fg_fuel; omega) (g.bs a2)
        refine ⟨w2, ?_, a2.tr b2⟩
        unfold f_X4_kindFor
        rw [c2 _ (e4 _ (fg_sw_K _ _ _ _ _ _ (by decide))), fg_bi_some, if_neg (by decide), s2, fg_bi_some, if_neg (by decide), show f_X4_thenWith (nI k) 0 0 (nI t) 3 (fg_sw w 2 1 d') = _ from a1, fg_bi_some]
        have e1 : bk_max (fun p => bk_days n (bk_set (w.1 2 0) 5 k (nI p)) t 8 k) 0 (-1) 1 = (0, bk_days n (bk_set (w.1 2 0) 5 k (nI 0)) t 8 k) := by
          obtain ⟨q, hq, eq⟩ := (bk_I_days t _ (hI 0 (by decide))).2.2.2.2.2.2.1 k hk8
          show (if bk_days n (bk_set (w.1 2 0) 5 k (nI 0)) t 8 k ≤ (-1 : Int32) then _ else _) = _
          rw [if_neg]
          · rfl
          · rw [eq]; intro z; exact absurd (Int32.le_trans (nI_pos' (n := q) (by omega)) z) (by decide)
        rw [e1] at b1
        exact b1
    · refine ag.fnd0 h' ?_ (fun w1 e => ?_)
      · unfold f_X3_kindFor; rw [c1 0 w hN, fg_bi_some, if_neg (by decide), s1, fg_bi_some, if_pos rfl, fg_bi_id]
      · unfold f_X4_kindFor; rw [c2 w1 (e4 w1 e), fg_bi_some, if_neg (by decide), s2, fg_bi_some, if_pos rfl, fg_bi_id]
  · refine ag.fnd0 h' ?_ (fun w1 e => ?_)
    · unfold f_X3_kindFor; rw [c1 0 w hN, fg_bi_some, if_pos rfl, fg_bi_id]
    · unfold f_X4_kindFor; rw [c2 w1 (e4 w1 e), fg_bi_some, if_pos rfl, fg_bi_id]
