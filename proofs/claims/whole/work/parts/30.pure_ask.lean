theorem q_in2 (a : Int32) (L N : Nat) (lo hi : Int32) (el : lo = nI L) (e : hi = nI N) (hN : N < 2 ^ 30) (hL : L < 2 ^ 30) : (∃ j, L ≤ j ∧ j ≤ N ∧ a = nI j ∧ ∀ w, f_X3_within a lo hi w = some (1, w)) ∨ (∀ w, f_X3_within a lo hi w = some (0, w)) := by
  subst e; subst el
  by_cases h1 : a < nI L
  · exact Or.inr (fun w => by unfold f_X3_within; rw [if_pos h1])
  · by_cases h2 : nI N < a
    · exact Or.inr (fun w => by unfold f_X3_within; rw [if_neg h1, if_pos h2])
    · have h0 : ¬ a < 0 := fun z => h1 (Int32.lt_of_lt_of_le z (nI_pos' (by omega)))
      obtain ⟨j, hj, rfl⟩ := nI_of h0
      refine Or.inl ⟨j, ?_, ?_, rfl, fun w => by unfold f_X3_within; rw [if_neg h1, if_neg h2]⟩
      · rw [bk_lt_iff hj (by omega)] at h1; omega
      · rw [bk_lt_iff (by omega) hj] at h2; omega
theorem bk_day_11 {n : Nat} (hn : n ≤ 8) (A : Nat → Nat → Int32) : bk_day n A 0 11 = A 0 11 := by
  unfold bk_day bk_tick
  rw [bk_ne _ _ (Or.inr (by decide)), bk_d5_at hn 0 11 (by decide), if_neg (by omega)]
  have k1 : ∀ B : Nat → Nat → Int32, bk_d4 n B 0 11 = B 0 11 := fun B => bk_it_keep (P := fun C => C 0 11 = B 0 11) n 0 B (fun C k _ _ hC => by rw [bk_pay_c _ _ _ _ (by decide)]; exact hC) rfl
  have k2 : ∀ B : Nat → Nat → Int32, bk_d3 n B 0 11 = B 0 11 := fun B => bk_it_keep (P := fun C => C 0 11 = B 0 11) n 0 B (fun C k _ _ hC => by rw [bk_move_c _ _ _ _ _ (by decide) (by decide) (by decide)]; exact hC) rfl
  have k3 : ∀ B : Nat → Nat → Int32, bk_d2 B 0 11 = B 0 11 := fun B => by
    unfold bk_d2
    refine (bk_it_keep (P := fun C => C 0 11 = bk_it bk_flow B 0 9 0 11) 9 0 _ (fun C k _ _ hC => ?_) rfl).trans (bk_it_keep (P := fun C => C 0 11 = B 0 11) 9 0 B (fun C k _ _ hC => ?_) rfl)
    · unfold bk_app; rw [bk_nc _ _ (by decide), bk_nc _ _ (by decide)]; exact hC
    · unfold bk_flow; rw [bk_nc _ _ (by decide)]; exact hC
  have k4 : bk_d1 A 0 11 = A 0 11 := bk_it_keep (P := fun C => C 0 11 = A 0 11) 10 0 A (fun C k _ _ hC => by unfold bk_thin; rw [bk_nc _ _ (by decide)]; exact hC) rfl
  rw [k1, k2, k3, k4]
theorem bk_days_11 {n : Nat} (hn : n ≤ 8) : ∀ (t : Nat) (A : Nat → Nat → Int32), bk_days n A t 0 11 = A 0 11 := by
  intro t
  induction t with
  | zero => intro A; rfl
  | succ t ih => intro A; rw [bk_days, ih, bk_day_11 hn]
theorem bk_days_add (n : Nat) : ∀ (s t : Nat) (A : Nat → Nat → Int32), bk_days n A (s + t) = bk_days n (bk_days n A s) t := by
  intro s
  induction s with
  | zero => intro t A; rw [Nat.zero_add]; rfl
  | succ s ih => intro t A; rw [show s + 1 + t = (s + t) + 1 by omega, bk_days, ih]; rfl
theorem rr.fm {w w2 : fg_W} {d : Nat → Nat → Int32} {n : Nat} (h4 : ro w) (hI : bk_I d n) (h3 : d 0 11 = 0) (hr : rm w2 d) (g : fm (fg_sw w 2 0 d) w2) : rr w2 := by
  have e2 : w2.1 2 0 = d := by rw [g.1 2 0 (by decide), fg_sw_at]
  refine ⟨n, by rw [e2]; exact hr, by rw [e2]; exact hI, by rw [e2]; exact h3, h4.cong ?_ ?_ ?_ ?_ ?_⟩
  · rw [g.1 2 2 (by decide), fg_sw_i _ _ _ _ _ (by decide)]
  · rw [g.1 3 0 (by decide), fg_sw_K _ _ _ _ _ _ (by decide)]
  · rw [g.1 1 0 (by decide), fg_sw_K _ _ _ _ _ _ (by decide)]
  · funext i; rw [g.1 0 i (by decide), fg_sw_K _ _ _ _ _ _ (by decide)]
  · intro c h1 _ h5 h6 _; rw [g.2.2.1 c h1 h5 h6, fg_sw_K _ _ _ _ _ _ (by decide)]
theorem bk_dayle {d t : Nat} (hd : d ≤ 99999) (ht : t ≤ 60) : (nI d + nI t ≤ 99999) = (d + t ≤ 99999) := by
  rw [nI_add, show (99999 : Int32) = nI 99999 from rfl, bk_le_iff (by omega) (by omega)]
theorem ag_go {w : fg_W} (h : rr w) (a : Int32) : ag (f_X3_go a w) (f_X4_go a) := by
  have h' := h
  obtain ⟨n, h1, h2, h3, h4⟩ := h
  have hN := h2.1
  have h8 := hN.2
  obtain ⟨d, hd, ed⟩ := h2.2.2.2.1
  rcases q_in2 a 1 60 1 60 rfl rfl (by decide) (by decide) with ⟨t, ht1, ht2, rfl, hw⟩ | hw
  · by_cases hs : d + t ≤ 99999
    · have hs' : nI d + nI t ≤ 99999 := by rw [bk_dayle hd ht2]; exact hs
      have hI2 := bk_I_days t _ h2
      have g := h1.own 2 0 (bk_days n (w.1 2 0) t) (by decide)
      obtain ⟨w2, e1, e2, e3⟩ := m_goes (n := n) (t := t) (by omega) g h2
      refine ⟨bk_onl (bk_days n (w.1 2 0) t) n, fg_sw w 2 0 (bk_days n (w.1 2 0) t), w2, ?_, ?_, ?_⟩
      · unfold f_X3_go
        rw [hw, fg_bi_some, if_neg (by decide), ed, if_pos hs', p_days (by omega) h2, fg_bv_some, fg_bi_id, p_onl (n := n) (by rw [fg_sw_at]; exact hI2.1), fg_sw_at]
      · unfold f_X4_go
        rw [in1_eq, hw, fg_bi_some, if_neg (by decide), g.1.1, ed, if_pos hs', e1, fg_bv_some, fg_bi_id, m_onl e2 hI2.1]
      · exact rr.fm h4 hI2 (by rw [bk_days_11 h8]; exact h3) e2 e3
    · have hs' : ¬ nI d + nI t ≤ 99999 := by rw [bk_dayle hd ht2]; exact hs
      refine ag.fnd h' (c := 4) (by decide) ?_ (fun w1 e => ?_)
      · unfold f_X3_go
        rw [hw, fg_bi_some, if_neg (by decide), ed, if_neg hs', fg_bi_id]; rfl
      · unfold f_X4_go
        rw [in1_eq, hw, fg_bi_some, if_neg (by decide), e, h1.1.1, ed, if_neg hs', fg_bi_id]; rfl
  · refine ag.fnd0 h' ?_ (fun w1 e => ?_)
    · unfold f_X3_go; rw [hw, fg_bi_some, if_pos rfl, fg_bi_id]
    · unfold f_X4_go; rw [in1_eq, hw, fg_bi_some, if_pos rfl, fg_bi_id]
/-- a question that the trial answers on one side, and the row set aside on the other -/
theorem ag.ask {α : Type} {w : fg_W} (h : rr w) {r : α} {d : Nat → Nat → Int32} {x : Option (α × fg_W)} {m : fg_W → Option (α × fg_W)} (hx : x = some (r, fg_sw w 2 1 d)) (hm : ∃ w2, m (fg_sw w 2 1 d) = some (r, w2) ∧ bs (fg_sw w 2 1 d) w2) : ag x m := by
  obtain ⟨w2, g1, g2⟩ := hm
  exact ⟨r, _, w2, hx, g1, (h.trial d).bs g2⟩
theorem ag_ahead {w : fg_W} (h : rr w) (a b c : Int32) : ag (f_X3_ahead a b c w) (f_X4_ahead a b c) := by
  have h' := h
  obtain ⟨n, h1, h2, h3, h4⟩ := h
  have hN := h2.1
  have h8 := hN.2
  have e4 : ∀ w1 : fg_W, w1.1 4 0 = w.1 4 0 → w1.1 4 0 1 1 = nI n := fun w1 e => by rw [e]; exact h1.1.2.1.trans hN.1
  rcases q_per a n h8 with ⟨k, hk, rfl, c1, c2⟩ | ⟨_, c1, c2⟩
  · have hk8 : k < 8 := by omega
    rcases q_in2 b 1 4 1 4 rfl rfl (by decide) (by decide) with ⟨f, hf1, hf2, rfl, hw⟩ | hw
    · rcases q_in c 100 100 rfl (by decide) with ⟨t, ht, rfl, hw2⟩ | ⟨_, hw2⟩
      · have hB := bk_bec_eq (w.1 2 1) (w.1 2 0)
        have hI := h2.eq hB
        have hI2 := bk_I_days t _ hI
        refine ag.ask (r := bk_days n (bk_bec (w.1 2 1) (w.1 2 0)) t (5 + f) k) (d := bk_days n (bk_bec (w.1 2 1) (w.1 2 0)) t) h' ?_ ?_
        · unfold f_X3_ahead
          rw [c1 0 w hN, fg_bi_some, if_neg (by decide), hw, fg_bi_some, if_neg (by decide), hw2, fg_bi_some, if_neg (by decide), p_become (by decide), fg_bv_some, p_days (n := n) (by omega) (by rw [fg_sw_at]; exact hI), fg_bv_some, fg_sw_at, fg_sw_sw, fg_bi_id, p_value hk8 hf1 hf2, fg_sw_at]
        · have g := (h1.eq hB).own 2 1 (bk_days n (bk_bec (w.1 2 1) (w.1 2 0)) t) (by decide)
          obtain ⟨w1, a1, a2, a3⟩ := m_think g
          obtain ⟨w2, b1, b2, b3⟩ := m_goes (n := n) (t := t) (by omega) a2 hI
          obtain ⟨w3, d1, d2⟩ := a3 w2 b3
          refine ⟨w3, ?_, d2⟩
          unfold f_X4_ahead
          rw [c2 _ (e4 _ (fg_sw_K _ _ _ _ _ _ (by decide))), fg_bi_some, if_neg (by decide), in1_eq, hw, fg_bi_some, if_neg (by decide), hw2, fg_bi_some, if_neg (by decide), a1, fg_bv_some, b1, fg_bv_some, m_get b2 f hk8 (by omega), fg_bi_some, d1, fg_bv_some]
      · refine ag.fnd0 h' ?_ (fun w1 e => ?_)
        · unfold f_X3_ahead; rw [c1 0 w hN, fg_bi_some, if_neg (by decide), hw, fg_bi_some, if_neg (by decide), hw2, fg_bi_some, if_pos rfl, fg_bi_id]
        · unfold f_X4_ahead; rw [c2 w1 (e4 w1 e), fg_bi_some, if_neg (by decide), in1_eq, hw, fg_bi_some, if_neg (by decide), hw2, fg_bi_some, if_pos rfl, fg_bi_id]
    · refine ag.fnd0 h' ?_ (fun w1 e => ?_)
      · unfold f_X3_ahead; rw [c1 0 w hN, fg_bi_some, if_neg (by decide), hw, fg_bi_some, if_pos rfl, fg_bi_id]
      · unfold f_X4_ahead; rw [c2 w1 (e4 w1 e), fg_bi_some, if_neg (by decide), in1_eq, hw, fg_bi_some, if_pos rfl, fg_bi_id]
  · refine ag.fnd0 h' ?_ (fun w1 e => ?_)
    · unfold f_X3_ahead; rw [c1 0 w hN, fg_bi_some, if_pos rfl, fg_bi_id]
    · unfold f_X4_ahead; rw [c2 w1 (e4 w1 e), fg_bi_some, if_pos rfl, fg_bi_id]
theorem ag_fog {w : fg_W} (h : rr w) (a c : Int32) : ag (f_X3_fog a c w) (f_X4_fog a c) := by
  have h' := h
  obtain ⟨n, h1, h2, h3, h4⟩ := h
  rcases q_lot a with ⟨p, hp, rfl, l1, l2⟩ | ⟨l1, l2⟩
  · rcases q_in c 100 100 rfl (by decide) with ⟨t, ht, rfl, hw2⟩ | ⟨_, hw2⟩
    · have hB := bk_bec_eq (w.1 2 1) (w.1 2 0)
      have hI := h2.eq hB
      refine ag.ask (r := bk_days n (bk_bec (w.1 2 1) (w.1 2 0)) t 1 p) (d := bk_days n (bk_bec (w.1 2 1) (w.1 2 0)) t) h' ?_ ?_
      · unfold f_X3_fog
        rw [l1, fg_bi_some, if_neg (by decide), hw2, fg_bi_some, if_neg (by decide), p_become (by decide), fg_bv_some, p_days (n := n) (by omega) (by rw [fg_sw_at]; exact hI), fg_bv_some, fg_sw_at, fg_sw_sw, fg_gd_nI hp (by decide), nI_clamp (by omega), fg_sw_at]
      · have g := (h1.eq hB).own 2 1 (bk_days n (bk_bec (w.1 2 1) (w.1 2 0)) t) (by decide)
        obtain ⟨w1, a1, a2, a3⟩ := m_think g
        obtain ⟨w2, b1, b2, b3⟩ := m_goes (n := n) (t := t) (by omega) a2 hI
        obtain ⟨w3, d1, d2⟩ := a3 w2 b3
        refine ⟨w3, ?_, d2⟩
        unfold f_X4_fog
        rw [l2, fg_bi_some, if_neg (by decide), in1_eq, hw2, fg_bi_some, if_neg (by decide), a1, fg_bv_some, b1, fg_bv_some, m_fog b2 hp, fg_bi_some, d1, fg_bv_some]
    · refine ag.fnd0 h' ?_ (fun w1 e => ?_)
      · unfold f_X3_fog; rw [l1, fg_bi_some, if_neg (by decide), hw2, fg_bi_some, if_pos rfl, fg_bi_id]
      · unfold f_X4_fog; rw [l2, fg_bi_some, if_neg (by decide), in1_eq, hw2, fg_bi_some, if_pos rfl, fg_bi_id]
  · refine ag.fnd0 h' ?_ (fun w1 e => ?_)
    · unfold f_X3_fog; rw [l1, fg_bi_some, if_pos rfl, fg_bi_id]
    · unfold f_X4_fog; rw [l2, fg_bi_some, if_pos rfl, fg_bi_id]
-- the first day on which something is so
def bk_fst (n : Nat) (P : (Nat → Nat → Int32) → Bool) : (Nat → Nat → Int32) → Nat → Nat → Nat
  | _, j, 0 => j
  | B, j, m + 1 => if P B then j else bk_fst n P (bk_day n B) (j + 1) m
theorem bk_fst_le (n : Nat) (P : (Nat → Nat → Int32) → Bool) : ∀ (m j : Nat) (B : Nat → Nat → Int32), bk_fst n P B j m ≤ j + m := by
  intro m
  induction m with
  | zero => intro j B; rw [bk_fst]; omega
  | succ m ih =>
    intro j B
    rw [bk_fst]
    split
    · omega
    · have := ih (j + 1) (bk_day n B); omega
theorem m_fstL {n : Nat} {x y z : Int32} {P : (Nat → Nat → Int32) → Bool} (hs : ∀ (w : fg_W) (B : Nat → Nat → Int32), rm w B → bk_I B n → f_X4_isSo x y z w = some (if P B then 1 else 0, w)) (K : Int32 → fg_W → Option (Int32 × fg_W)) : ∀ (m j fu : Nat) (w : fg_W) (B : Nat → Nat → Int32), j + m = 101 → m < fu → rm w B → bk_I B n → ∃ w', f_X4_firstBy_L7 x y z K fu (nI j) w = K (nI (bk_fst n P B j m)) w' ∧ fm w w' := by
  intro m
  induction m with
  | zero =>
    intro j fu w B hj hf h hI
    obtain ⟨fu, rfl⟩ : ∃ z, fu = z + 1 := ⟨fu - 1, by omega⟩
    obtain rfl : j = 101 := by omega
    exact ⟨w, by rw [f_X4_firstBy_L7, if_pos (by decide)]; rfl, fm.rf w⟩
  | succ m ih =>
    intro j fu w B hj hf h hI
    obtain ⟨fu, rfl⟩ : ∃ z, fu = z + 1 := ⟨fu - 1, by omega⟩
    rw [f_X4_firstBy_L7, if_neg (show ¬ (100 : Int32) < nI j from nI_nlt (a := 100) (b := j) (by omega) (by decide)), hs w B h hI, fg_bi_some, bk_fst]
    by_cases hP : P B = true
    · refine ⟨w, ?_, fm.rf w⟩
      simp only [hP, if_true]
      rw [if_neg (by decide)]
    · obtain ⟨w1, a1, a2, a3⟩ := m_day h hI
      obtain ⟨w', b1, b2⟩ := ih (j + 1) fu w1 (bk_day n B) (by omega) (by omega) a2 (bk_I_day hI)
      refine ⟨w', ?_, a3.tr b2⟩
      simp only [hP]
      rw [if_pos (by simp), a1, fg_bv_some, nI_1, b1]
      simp
theorem m_fst {n : Nat} {x y z : Int32} {P : (Nat → Nat → Int32) → Bool} (hs : ∀ (w : fg_W) (B : Nat → Nat → Int32), rm w B → bk_I B n → f_X4_isSo x y z w = some (if P B then 1 else 0, w)) {w : fg_W} {B : Nat → Nat → Int32} (h : rm w B) (hI : bk_I B n) : ∃ w', bs w w' ∧ f_X4_firstBy x y z w = if bk_fst n P B 0 101 ≤ 100 then some (nI (bk_fst n P B 0 101), w') else f_X4_no 3 w' := by
  obtain ⟨w1, a1, a2, a3⟩ := m_think h
  obtain ⟨w2, b1, b2⟩ := m_fstL hs (fun v4_7 w_7 => fg_bv (f_X4_laysBack w_7) (fun w3 => if v4_7 ≤ 100 then (some (v4_7, w3)) else (fg_bi (f_X4_no 3 w3) (fun r7 w5 => some (r7, w5))))) 101 0 fg_fuel w1 B (by omega) (by unfold fg_fuel; omega) a2 hI
  obtain ⟨w3, d1, d2⟩ := a3 w2 b2
  refine ⟨w3, d2, ?_⟩
  unfold f_X4_firstBy
  rw [nI_0] at b1
  rw [a1, fg_bv_some, b1, d1, fg_bv_some, fg_bi_id]
  have hle := bk_fst_le n P 101 0 B
  by_cases hc : bk_fst n P B 0 101 ≤ 100
  · rw [if_pos hc, if_pos (show nI (bk_fst n P B 0 101) ≤ 100 from nI_le (b := 100) hc (by decide))]
  · rw [if_neg hc, if_neg (show ¬ nI (bk_fst n P B 0 101) ≤ 100 from nI_ge (a := 100) (by omega) (by omega))]
/-- a finding told late on the other side, behind something thought -/
theorem rr_late {u w2 : fg_W} {c : Nat} (h : rr u) (hc : c < 7) (g : bs (fg_sw u 3 0 (bk_set (u.1 3 0) 1 c (u.1 3 0 1 c + 1))) w2) : rr (fg_sw w2 4 0 (bk_set (w2.1 4 0) 4 c (w2.1 4 0 4 c + 1))) := by
  have e3 : w2.1 3 0 = bk_set (u.1 3 0) 1 c (u.1 3 0 1 c + 1) := by rw [g.1 3 0 (by decide), fg_sw_at]
  have hv : bs u (fg_sw w2 3 0 (u.1 3 0)) := by
    refine ⟨fun K i hK => ?_, fun x h1 h3 h5 h6 => ?_, fun q hq => ?_⟩
    · by_cases e : K = 3
      · subst e
        by_cases ei : i = 0
        · subst ei; rw [fg_sw_at]
        · rw [fg_sw_i _ _ _ _ _ ei, g.1 3 i (by decide), fg_sw_i _ _ _ _ _ ei]
      · rw [fg_sw_K _ _ _ _ _ _ e, g.1 K i hK, fg_sw_K _ _ _ _ _ _ e]
    · rw [fg_sw_K _ _ _ _ _ _ (by decide), g.2.1 x h1 h3 h5 h6, fg_sw_K _ _ _ _ _ _ (by decide)]
    · rw [fg_sw_K _ _ _ _ _ _ (by decide), g.2.2 q hq, fg_sw_K _ _ _ _ _ _ (by decide)]
  obtain ⟨r, a1, a2, e1, e2, e5⟩ := ag.findN (h.bs hv) hc
  have k1 := (Prod.mk.inj (Option.some.inj ((p_find hc _).symm.trans e1))).2
  rw [fg_sw_at, fg_sw_sw, ← e3, fg_sw_id] at k1
  rw [← k1] at e2
  have k2 := (Prod.mk.inj (Option.some.inj ((m_find hc _).symm.trans e2))).2
  rw [k2]
  exact e5
/-- the answer of such a question, on both sides -/
theorem ag.first {w : fg_W} (h : rr w) {t : Nat} {x : Option (Int32 × fg_W)} {m : fg_W → Option (Int32 × fg_W)} (hx : ∃ d, x = if t ≤ 100 then some (nI t, fg_sw w 2 1 d) else f_X3_finding 3 (fg_sw w 2 1 d)) (hm : ∀ w1 : fg_W, w1.1 4 0 = w.1 4 0 → ∃ w2, bs w1 w2 ∧ m w1 = if t ≤ 100 then some (nI t, w2) else f_X4_no 3 w2) : ag x m := by
  obtain ⟨d, hx⟩ := hx
  have h1 := h.trial d
  have e : (fg_sw w 2 1 d).1 4 0 = w.1 4 0 := fg_sw_K _ _ _ _ _ _ (by decide)
  by_cases hc : t ≤ 100
  · rw [if_pos hc] at hx
    obtain ⟨w2, g1, g2⟩ := hm _ e
    rw [if_pos hc] at g2
    exact ⟨nI t, _, w2, hx, g2, h1.bs g1⟩
  · rw [if_neg hc] at hx
    have pf := p_find (c := 3) (by decide) (fg_sw w 2 1 d)
    obtain ⟨w2, g1, g2⟩ := hm (fg_sw (fg_sw w 2 1 d) 3 0 (bk_set ((fg_sw w 2 1 d).1 3 0) 1 3 ((fg_sw w 2 1 d).1 3 0 1 3 + 1))) (by rw [fg_sw_K _ _ _ _ _ _ (by decide), e])
    rw [if_neg hc] at g2
    refine ⟨_, _, _, hx.trans pf, g2.trans (m_find (c := 3) (by decide) w2), ?_⟩
    exact rr_late h1 (by decide) g1
theorem p_day1 {i n : Nat} {w : fg_W} (h : bk_I (w.1 2 i) n) : f_X2_passDays i 1 w = some (fg_sw w 2 i (bk_day n (w.1 2 i))) := p_days (t := 1) (by decide) h
theorem p_bareL {n : Nat} {w : fg_W} (K : Int32 → fg_W → Option (Int32 × fg_W)) : ∀ (m j fu : Nat) (B : Nat → Nat → Int32), j + m = 101 → m < fu → bk_I B n → ∃ d, f_X3_bare_L13 K fu (nI j) (fg_sw w 2 1 B) = if bk_fst n (fun B => decide (bk_onl B n = 0)) B j m ≤ 100 then some (nI (bk_fst n (fun B => decide (bk_onl B n = 0)) B j m), fg_sw w 2 1 d) else K (nI 101) (fg_sw w 2 1 d) := by
  intro m
  induction m with
  | zero =>
    intro j fu B hj hf hI
    obtain ⟨fu, rfl⟩ : ∃ z, fu = z + 1 := ⟨fu - 1, by omega⟩
    obtain rfl : j = 101 := by omega
    exact ⟨B, by rw [f_X3_bare_L13, if_pos (by decide), bk_fst, if_neg (by omega)]⟩
  | succ m ih =>
    intro j fu B hj hf hI
    obtain ⟨fu, rfl⟩ : ∃ z, fu = z + 1 := ⟨fu - 1, by omega⟩
    rw [f_X3_bare_L13, if_neg (show ¬ (100 : Int32) < nI j from nI_nlt (a := 100) (b := j) (by omega) (by decide)), p_onl (n := n) (by rw [fg_sw_at]; exact hI.1), fg_bi_some, fg_sw_at, bk_fst]
    by_cases hP : bk_onl B n = 0
    · refine ⟨B, ?_⟩
      rw [if_pos hP]
      simp only [hP, decide_true, if_true]
      rw [if_pos (by omega)]
    · obtain ⟨d, hd⟩ := ih (j + 1) fu (bk_day n B) (by omega) (by omega) (bk_I_day hI)
      refine ⟨d, ?_⟩
      rw [if_neg hP, p_day1 (n := n) (by rw [fg_sw_at]; exact hI), fg_bv_some, fg_sw_at, fg_sw_sw, nI_1, hd]
      simp [hP]
theorem ag_bare {w : fg_W} (h : rr w) : ag (f_X3_bare w) (fun w => f_X4_bare w) := by
  have h' := h
  obtain ⟨n, h1, h2, h3, h4⟩ := h
  have hB := bk_bec_eq (w.1 2 1) (w.1 2 0)
  have hI := h2.eq hB
  refine ag.first (t := bk_fst n (fun B => decide (bk_onl B n = 0)) (bk_bec (w.1 2 1) (w.1 2 0)) 0 101) h' ?_ (fun w1 e => ?_)
  · obtain ⟨d, hd⟩ := p_bareL (n := n) (w := w) (fun v1_13 w_13 => fg_bi (f_X3_finding 3 w_13) (fun r5 w3 => some (r5, w3))) 101 0 fg_fuel (bk_bec (w.1 2 1) (w.1 2 0)) (by omega) (by unfold fg_fuel; omega) hI
    refine ⟨d, ?_⟩
    unfold f_X3_bare
    rw [nI_0] at hd
    rw [p_become (by decide), fg_bv_some, hd, fg_bi_id]
  · obtain ⟨w2, g1, g2⟩ := m_fst (n := n) (x := 0) (y := 0) (z := 1) (P := fun B => decide (bk_onl B n = 0)) (fun w B hr hIB => by
      unfold f_X4_isSo
      rw [if_neg (by decide), if_pos rfl, m_onl hr hIB.1, fg_bi_some]
      by_cases hP : bk_onl B n = 0 <;> simp [hP]) ((h1.eq hB).of e) hI
    refine ⟨w2, g1, ?_⟩
    unfold f_X4_bare
    rw [fg_bi_id, g2]
theorem p_fallsL {n k : Nat} {w : fg_W} (hk : k < 8) (K : Int32 → fg_W → Option (Int32 × fg_W)) : ∀ (m j fu : Nat) (B : Nat → Nat → Int32), j + m = 101 → m < fu → bk_I B n → ∃ d, f_X3_falls_L30 (nI k) K fu (nI j) (fg_sw w 2 1 B) = if bk_fst n (fun B => decide (¬ B 9 k ≤ w.1 2 0 9 k)) (bk_day n B) j m ≤ 100 then some (nI (bk_fst n (fun B => decide (¬ B 9 k ≤ w.1 2 0 9 k)) (bk_day n B) j m), fg_sw w 2 1 d) else K (nI 101) (fg_sw w 2 1 d) := by
  intro m
  induction m with
  | zero =>
    intro j fu B hj hf hI
    obtain ⟨fu, rfl⟩ : ∃ z, fu = z + 1 := ⟨fu - 1, by omega⟩
    obtain rfl : j = 101 := by omega
    exact ⟨B, by rw [f_X3_falls_L30, if_pos (by decide), bk_fst, if_neg (by omega)]⟩
  | succ m ih =>
    intro j fu B hj hf hI
    obtain ⟨fu, rfl⟩ : ∃ z, fu = z + 1 := ⟨fu - 1, by omega⟩
    rw [f_X3_falls_L30, if_neg (show ¬ (100 : Int32) < nI j from nI_nlt (a := 100) (b := j) (by omega) (by decide)), p_day1 (n := n) (by rw [fg_sw_at]; exact hI), fg_bv_some, fg_sw_at, fg_sw_sw, fg_gd_nI hk (by decide), fg_gd_nI hk (by decide), nI_clamp (by omega), fg_sw_at, fg_sw_i _ _ _ _ _ (by decide), bk_fst]
    by_cases hP : bk_day n B 9 k ≤ w.1 2 0 9 k
    · obtain ⟨d, hd⟩ := ih (j + 1) fu (bk_day n B) (by omega) (by omega) (bk_I_day hI)
      refine ⟨d, ?_⟩
      rw [if_pos hP, nI_1, hd]
      simp [hP]
    · refine ⟨bk_day n B, ?_⟩
      rw [if_neg hP]
      simp only [hP, not_false_eq_true, decide_true, if_true]
      rw [if_pos (by omega)]
theorem ag_falls {w : fg_W} (h : rr w) (a : Int32) : ag (f_X3_falls a w) (f_X4_falls a) := by
  have h' := h
  obtain ⟨n, h1, h2, h3, h4⟩ := h
  have hN := h2.1
  have h8 := hN.2
  have e4 : ∀ w1 : fg_W, w1.1 4 0 = w.1 4 0 → w1.1 4 0 1 1 = nI n := fun w1 e => by rw [e]; exact h1.1.2.1.trans hN.1
  rcases q_per a n h8 with ⟨k, hk, rfl, c1, c2⟩ | ⟨_, c1, c2⟩
  · have hk8 : k < 8 := by omega
    have hB := bk_bec_eq (w.1 2 1) (w.1 2 0)
    have hI := h2.eq hB
    have hf0 : bk_fst n (fun B => decide (¬ B 9 k ≤ w.1 2 0 9 k)) (bk_bec (w.1 2 1) (w.1 2 0)) 0 101 = bk_fst n (fun B => decide (¬ B 9 k ≤ w.1 2 0 9 k)) (bk_day n (bk_bec (w.1 2 1) (w.1 2 0))) 1 100 := by
      rw [bk_fst, if_neg]
      rw [hB 9 k (by unfold bk_ok; omega)]
      simp [Int32.le_refl]
    refine ag.first (t := bk_fst n (fun B => decide (¬ B 9 k ≤ w.1 2 0 9 k)) (bk_bec (w.1 2 1) (w.1 2 0)) 0 101) h' ?_ (fun w1 e => ?_)
    · obtain ⟨d, hd⟩ := p_fallsL (n := n) (w := w) hk8 (fun v2_30 w_30 => fg_bi (f_X3_finding 3 w_30) (fun r8 w6 => some (r8, w6))) 100 1 fg_fuel (bk_bec (w.1 2 1) (w.1 2 0)) (by omega) (by unfold fg_fuel; omega) hI
      refine ⟨d, ?_⟩
      unfold f_X3_falls
      rw [c1 0 w hN, fg_bi_some, if_neg (by decide), p_become (by decide), fg_bv_some, hf0]
      rw [fg_bi_id] at hd
      simp only [fg_bi_id]
      exact hd
    · obtain ⟨w2, g1, g2⟩ := m_fst (n := n) (x := nI k) (y := w.1 2 0 9 k) (z := 0) (P := fun B => decide (¬ B 9 k ≤ w.1 2 0 9 k)) (fun w' B hr hIB => by
        unfold f_X4_isSo
        rw [if_pos rfl, m_get4 hr hk8, fg_bi_some]
        by_cases hP : B 9 k ≤ w.1 2 0 9 k <;> simp [hP]) ((h1.eq hB).of e) hI
      refine ⟨w2, g1, ?_⟩
      unfold f_X4_falls
      rw [c2 w1 (e4 w1 e), fg_bi_some, if_neg (by decide), m_get4 (h1.of e) hk8, fg_bi_some, fg_bi_id, g2]
  · refine ag.fnd0 h' ?_ (fun w1 e => ?_)
    · unfold f_X3_falls; rw [c1 0 w hN, fg_bi_some, if_pos rfl, fg_bi_id]
    · unfold f_X4_falls; rw [c2 w1 (e4 w1 e), fg_bi_some, if_pos rfl, fg_bi_id]
theorem p_meetL {n k q : Nat} {w : fg_W} (hk : k < 8) (hq : q < 8) (K : Int32 → fg_W → Option (Int32 × fg_W)) : ∀ (m j fu : Nat) (B : Nat → Nat → Int32), j + m = 101 → m < fu → bk_I B n → ∃ d, f_X3_meet_L46 (nI k) (nI q) K fu (nI j) (fg_sw w 2 1 B) = if bk_fst n (fun B => decide (¬ B 6 k = -1 ∧ B 6 k = B 6 q)) B j m ≤ 100 then some (nI (bk_fst n (fun B => decide (¬ B 6 k = -1 ∧ B 6 k = B 6 q)) B j m), fg_sw w 2 1 d) else K (nI 101) (fg_sw w 2 1 d) := by
  intro m
  induction m with
  | zero =>
    intro j fu B hj hf hI
    obtain ⟨fu, rfl⟩ : ∃ z, fu = z + 1 := ⟨fu - 1, by omega⟩
    obtain rfl : j = 101 := by omega
    exact ⟨B, by rw [f_X3_meet_L46, if_pos (by decide), bk_fst, if_neg (by omega)]⟩
  | succ m ih =>
    intro j fu B hj hf hI
    obtain ⟨fu, rfl⟩ : ∃ z, fu = z + 1 := ⟨fu - 1, by omega⟩
    rw [f_X3_meet_L46, if_neg (show ¬ (100 : Int32) < nI j from nI_nlt (a := 100) (b := j) (by omega) (by decide)), fg_gd_nI hk (by decide), fg_gd_nI hk (by decide), fg_gd_nI hq (by decide), nI_clamp (show k < 2 ^ 31 by omega), nI_clamp (show q < 2 ^ 31 by omega), fg_sw_at, bk_fst]
    have step : ∃ d, fg_bv (f_X2_passDays 1 1 (fg_sw w 2 1 B)) (fun w19 => f_X3_meet_L46 (nI k) (nI q) K fu (nI j + 1) w19) = if bk_fst n (fun B => decide (¬ B 6 k = -1 ∧ B 6 k = B 6 q)) (bk_day n B) (j + 1) m ≤ 100 then some (nI (bk_fst n (fun B => decide (¬ B 6 k = -1 ∧ B 6 k = B 6 q)) (bk_day n B) (j + 1) m), fg_sw w 2 1 d) else K (nI 101) (fg_sw w 2 1 d) := by
      obtain ⟨d, hd⟩ := ih (j + 1) fu (bk_day n B) (by omega) (by omega) (bk_I_day hI)
      exact ⟨d, by rw [p_day1 (n := n) (by rw [fg_sw_at]; exact hI), fg_bv_some, fg_sw_at, fg_sw_sw, nI_1, hd]⟩
    obtain ⟨d, hd⟩ := step
    by_cases h0 : B 6 k = -1
    · refine ⟨d, ?_⟩
      rw [if_pos h0, hd]
      simp [h0]
    · by_cases hP : B 6 k = B 6 q
      · refine ⟨B, ?_⟩
        rw [if_neg h0, if_pos hP]
        have hb : decide (¬ B 6 k = -1 ∧ B 6 k = B 6 q) = true := decide_eq_true ⟨h0, hP⟩
        rw [hb, if_pos rfl, if_pos (by omega)]
      · refine ⟨d, ?_⟩
        have hb : ¬ decide (¬ B 6 k = -1 ∧ B 6 k = B 6 q) = true := fun z => hP (of_decide_eq_true z).2
        rw [if_neg h0, if_neg hP, hd, if_neg hb]
theorem ag_meet {w : fg_W} (h : rr w) (a b : Int32) : ag (f_X3_meet a b w) (f_X4_meet a b) := by
  have h' := h
  obtain ⟨n, h1, h2, h3, h4⟩ := h
  have hN := h2.1
  have h8 := hN.2
  have e4 : ∀ w1 : fg_W, w1.1 4 0 = w.1 4 0 → w1.1 4 0 1 1 = nI n := fun w1 e => by rw [e]; exact h1.1.2.1.trans hN.1
  rcases q_per a n h8 with ⟨k, hk, rfl, c1, c2⟩ | ⟨_, c1, c2⟩
  · have hk8 : k < 8 := by omega
    rcases q_per b n h8 with ⟨q, hq, rfl, d1, d2⟩ | ⟨_, d1, d2⟩
    · have hq8 : q < 8 := by omega
      by_cases hkq : nI k = nI q
      · refine ag.fnd0 h' ?_ (fun w1 e => ?_)
        · unfold f_X3_meet; rw [c1 0 w hN, fg_bi_some, if_neg (by decide), d1 0 w hN, fg_bi_some, if_neg (by decide), if_pos hkq, fg_bi_id]
        · unfold f_X4_meet; rw [c2 w1 (e4 w1 e), fg_bi_some, if_neg (by decide), d2 w1 (e4 w1 e), fg_bi_some, if_neg (by decide), if_pos hkq, fg_bi_id]
      · have hB := bk_bec_eq (w.1 2 1) (w.1 2 0)
        have hI := h2.eq hB
        refine ag.first (t := bk_fst n (fun B => decide (¬ B 6 k = -1 ∧ B 6 k = B 6 q)) (bk_bec (w.1 2 1) (w.1 2 0)) 0 101) h' ?_ (fun w1 e => ?_)
        · obtain ⟨d, hd⟩ := p_meetL (n := n) (w := w) hk8 hq8 (fun v3_46 w_46 => fg_bi (f_X3_finding 3 w_46) (fun r17 w15 => some (r17, w15))) 101 0 fg_fuel (bk_bec (w.1 2 1) (w.1 2 0)) (by omega) (by unfold fg_fuel; omega) hI
          refine ⟨d, ?_⟩
          unfold f_X3_meet
          rw [nI_0, fg_bi_id] at hd
          rw [c1 0 w hN, fg_bi_some, if_neg (by decide), d1 0 w hN, fg_bi_some, if_neg (by decide), if_neg hkq, p_become (by decide), fg_bv_some]
          simp only [fg_bi_id] at hd ⊢
          exact hd
        · obtain ⟨w2, g1, g2⟩ := m_fst (n := n) (x := nI k) (y := nI q) (z := 2) (P := fun B => decide (¬ B 6 k = -1 ∧ B 6 k = B 6 q)) (fun w' B hr hIB => by
            unfold f_X4_isSo
            rw [if_neg (by decide), if_neg (by decide), m_get1 hr hk8, fg_bi_some, m_get1 hr hk8, fg_bi_some, m_get1 hr hq8, fg_bi_some]
            rcases hIB.2.1 k hk8 with e | ⟨p, hp, e⟩
            · rw [e, if_pos (by decide)]; simp
            · have hne := nI_ne_m1 (p := p) (by omega)
              rw [e, if_neg (nI_pos (by omega))]
              by_cases hP : nI p = B 6 q <;> simp [hP, hne]
              rw [← hP]; exact hne) ((h1.eq hB).of e) hI
          refine ⟨w2, g1, ?_⟩
          unfold f_X4_meet
          rw [c2 w1 (e4 w1 e), fg_bi_some, if_neg (by decide), d2 w1 (e4 w1 e), fg_bi_some, if_neg (by decide), if_neg hkq, fg_bi_id, g2]
    · refine ag.fnd0 h' ?_ (fun w1 e => ?_)
      · unfold f_X3_meet; rw [c1 0 w hN, fg_bi_some, if_neg (by decide), d1 0 w hN, fg_bi_some, if_pos rfl, fg_bi_id]
      · unfold f_X4_meet; rw [c2 w1 (e4 w1 e), fg_bi_some, if_neg (by decide), d2 w1 (e4 w1 e), fg_bi_some, if_pos rfl, fg_bi_id]
  · refine ag.fnd0 h' ?_ (fun w1 e => ?_)
    · unfold f_X3_meet; rw [c1 0 w hN, fg_bi_some, if_pos rfl, fg_bi_id]
    · unfold f_X4_meet; rw [c2 w1 (e4 w1 e), fg_bi_some, if_pos rfl, fg_bi_id]
