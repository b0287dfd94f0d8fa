theorem q_not {b : Int32} {N : Nat} {hi : Int32} (e : hi = nI N) (hN : N < 2 ^ 30) (hb : b < 0 ∨ hi < b) : ∀ q : Nat, q ≤ N → ¬ b = nI q := fun q hq z => by
  subst e
  rw [z] at hb
  rcases hb with hb | hb
  · exact nI_pos (by omega) hb
  · rw [bk_lt_iff (by omega) (by omega)] at hb; omega
theorem ag_lot {w : fg_W} (h : rr w) (a b v : Int32) : ag (f_X3_lot a b v w) (f_X4_lot a b v) := by
  have h' := h
  obtain ⟨n, h1, h2, h3, h4⟩ := h
  have hN := h2.1
  have h8 := hN.2
  have e4 : ∀ w1 : fg_W, w1.1 4 0 = w.1 4 0 → w1.1 4 0 1 1 = nI n := fun w1 e => by rw [e]; exact h1.1.2.1.trans hN.1
  have d1 : ¬ (1 : Int32) = 0 := by decide
  have d2 : ¬ (2 : Int32) = 0 := by decide
  have d3 : ¬ (2 : Int32) = 1 := by decide
  have d4 : ¬ (0 : Int32) = 1 := by decide
  have d5 : ¬ (0 : Int32) = 2 := by decide
  have d6 : ¬ (1 : Int32) = 2 := by decide
  rcases q_lot a with ⟨p, hp, rfl, l1, l2⟩ | ⟨l1, l2⟩
  · have fin : ∀ (f : Nat), f < 3 → b = nI f → (∀ z : Nat, f = 1 → bk_I (bk_set (w.1 2 0) (1 + f) p v) n ∨ z = z) → bk_I (bk_set (w.1 2 0) (1 + f) p v) n → f_X3_lot (nI p) b v w = some (w.1 2 0 (1 + f) p, fg_sw w 2 0 (bk_set (w.1 2 0) (1 + f) p v)) → (∀ w1 : fg_W, rm w1 (w.1 2 0) → f_X4_lot (nI p) b v w1 = fg_bi (f_X4_of1 (nI p) b w1) (fun r w2 => fg_bv (f_X4_lays1 (nI p) b v w2) (fun w3 => some (r, w3)))) → ag (f_X3_lot (nI p) b v w) (f_X4_lot (nI p) b v) := by
      intro f hf eb _ hI g1 g2
      refine ag.set1 (n := n) (c := 1 + f) (j := p) (ix := 10 + 3 * p + f) h4 (fun w1 g => g.lot v hf hp) h1 hI (by rw [bk_nc _ _ (by omega)]; exact h3) g1 (fun w1 g => ?_)
      rw [g2 w1 g, eb, m_of1 g f hp hf, fg_bi_some, m_lays1 f v hp hf, fg_bv_some]
    rcases q_in b 2 2 rfl (by decide) with ⟨j, hj, rfl, hw⟩ | ⟨hb, hw⟩
    · have : j = 0 ∨ j = 1 ∨ j = 2 := by omega
      rcases this with rfl | rfl | rfl
      · rcases q_in v 99 99 rfl (by decide) with ⟨q, hq, ev, hv⟩ | ⟨_, hv⟩
        · refine fin 0 (by decide) rfl (fun _ _ => Or.inr rfl) (h2.set (by decide) (by omega) (by omega) (by omega) (by omega) (by omega) (by omega) (by omega) (by omega)) ?_ (fun w1 g => ?_)
          · unfold f_X3_lot; rw [l1, fg_bi_some, if_neg d1, if_pos (show nI 0 = 0 from rfl), hv, fg_bi_some, if_neg d1, fg_bi_id, p_exch hp (by decide)]
          · unfold f_X4_lot; rw [l2, fg_bi_some, if_neg d1, in1_eq, hw, fg_bi_some, if_neg d1, if_neg (show ¬ nI 0 = 2 from d5), if_pos (show nI 0 = 0 from rfl), hv, fg_bi_some, if_neg d1]
        · refine ag.fnd0 h' ?_ (fun w1 _ => ?_)
          · unfold f_X3_lot; rw [l1, fg_bi_some, if_neg d1, if_pos (show nI 0 = 0 from rfl), hv, fg_bi_some, if_pos rfl, if_neg (show ¬ nI 0 = 1 from d4), if_neg (show ¬ nI 0 = 2 from d5), fg_bi_id]
          · unfold f_X4_lot; rw [l2, fg_bi_some, if_neg d1, in1_eq, hw, fg_bi_some, if_neg d1, if_neg (show ¬ nI 0 = 2 from d5), if_pos (show nI 0 = 0 from rfl), hv, fg_bi_some, if_pos rfl, fg_bi_id]
      · rcases q_in v 20 20 rfl (by decide) with ⟨q, hq, ev, hv⟩ | ⟨_, hv⟩
        · refine fin 1 (by decide) rfl (fun _ _ => Or.inr rfl) (h2.set (by decide) (fun _ => ⟨q, hq, ev⟩) (by omega) (by omega) (by omega) (by omega) (by omega) (by omega) (by omega)) ?_ (fun w1 g => ?_)
          · unfold f_X3_lot; rw [l1, fg_bi_some, if_neg d1, if_neg (show ¬ nI 1 = 0 from d1), if_pos (show nI 1 = 1 from rfl), hv, fg_bi_some, if_neg d1, fg_bi_id, p_exch hp (by decide)]
          · unfold f_X4_lot; rw [l2, fg_bi_some, if_neg d1, in1_eq, hw, fg_bi_some, if_neg d1, if_neg (show ¬ nI 1 = 2 from d6), if_neg (show ¬ nI 1 = 0 from d1), if_pos (show nI 1 = 1 from rfl), hv, fg_bi_some, if_neg d1]
        · refine ag.fnd0 h' ?_ (fun w1 _ => ?_)
          · unfold f_X3_lot; rw [l1, fg_bi_some, if_neg d1, if_neg (show ¬ nI 1 = 0 from d1), if_pos (show nI 1 = 1 from rfl), hv, fg_bi_some, if_pos rfl, if_neg (show ¬ nI 1 = 2 from d6), fg_bi_id]
          · unfold f_X4_lot; rw [l2, fg_bi_some, if_neg d1, in1_eq, hw, fg_bi_some, if_neg d1, if_neg (show ¬ nI 1 = 2 from d6), if_neg (show ¬ nI 1 = 0 from d1), if_pos (show nI 1 = 1 from rfl), hv, fg_bi_some, if_pos rfl, fg_bi_id]
      · have hx4 : ∀ (w1 : fg_W) (r : Int32), w1.1 4 0 1 1 = nI n → f_X3_within v (-1) (nI n - 1) w1 = some (r, w1) → f_X4_lot (nI p) (nI 2) v w1 = if r = 0 then f_X4_no 0 w1 else fg_bi (f_X4_of1 (nI p) (nI 2) w1) (fun r w2 => fg_bv (f_X4_lays1 (nI p) (nI 2) v w2) (fun w3 => some (r, w3))) := by
          intro w1 r e er
          unfold f_X4_lot
          rw [l2, fg_bi_some, if_neg d1, in1_eq, hw, fg_bi_some, if_neg d1, if_pos (show nI 2 = 2 from rfl), if_neg (show ¬ nI 2 = 0 from d2), if_neg (show ¬ nI 2 = 1 from d3), e, er, fg_bi_some, fg_bi_id]
        have hx3 : f_X3_lot (nI p) (nI 2) v w = if v = -1 then f_X3_exchange 2 0 3 10 (nI p) v w else fg_bi (f_X2_isPerson 0 v w) (fun r12 w10 => if r12 = 0 then f_X3_finding 0 w10 else f_X3_exchange 2 0 3 10 (nI p) v w10) := by
          unfold f_X3_lot
          rw [l1, fg_bi_some, if_neg d1, if_neg (show ¬ nI 2 = 0 from d2), if_neg (show ¬ nI 2 = 1 from d3), if_pos (show nI 2 = 2 from rfl)]
          simp only [fg_bi_id]
        rcases q_m1 v n (nI n - 1) rfl (by omega) with ⟨hv, hv'⟩ | ⟨⟨hv, hvb⟩, hv'⟩
        · refine fin 2 (by decide) rfl (fun _ _ => Or.inr rfl) (h2.set (by decide) (by omega) (fun _ => hv) (by omega) (by omega) (by omega) (by omega) (by omega) (by omega)) ?_ (fun w1 g => ?_)
          · rw [hx3]
            by_cases em : v = -1
            · rw [if_pos em, p_exch hp (by decide)]
            · rw [if_neg em, p_isP hN]
              rcases hv with hv | ⟨k, hk, rfl⟩
              · exact absurd hv em
              · rw [if_neg (nI_pos (by omega)), if_neg (nI_ge hk (by omega)), fg_bi_some, if_neg d1, p_exch hp (by decide)]
          · rw [hx4 w1 1 (g.1.2.1.trans hN.1) (hv' w1), if_neg d1]
        · refine ag.fnd0 h' ?_ (fun w1 e => ?_)
          · rw [hx3, if_neg hv, p_isP hN]
            by_cases h0 : v < 0
            · rw [if_pos h0, fg_bi_some, if_pos rfl]
            · rw [if_neg h0, if_pos (hvb.resolve_left h0), fg_bi_some, if_pos rfl]
          · rw [hx4 w1 0 (e4 w1 e) (hv' w1), if_pos rfl]
    · have nb := q_not (N := 2) rfl (by decide) hb
      refine ag.fnd0 h' ?_ (fun w1 _ => ?_)
      · unfold f_X3_lot; rw [l1, fg_bi_some, if_neg d1, if_neg (show ¬ b = 0 from nb 0 (by omega)), if_neg (show ¬ b = 1 from nb 1 (by omega)), if_neg (show ¬ b = 2 from nb 2 (by omega)), fg_bi_id]
      · unfold f_X4_lot; rw [l2, fg_bi_some, if_neg d1, in1_eq, hw, fg_bi_some, if_pos rfl, fg_bi_id]
  · refine ag.fnd0 h' ?_ (fun w1 _ => ?_)
    · unfold f_X3_lot; rw [l1, fg_bi_some, if_pos rfl, fg_bi_id]
    · unfold f_X4_lot; rw [l2, fg_bi_some, if_pos rfl, fg_bi_id]
theorem p_value {i k f : Nat} {w : fg_W} (hk : k < 8) (h1 : 1 ≤ f) (h4 : f ≤ 4) : f_X2_valueOf i (nI k) (nI f) w = some (w.1 2 i (5 + f) k, w) := by
  unfold f_X2_valueOf
  have : f = 1 ∨ f = 2 ∨ f = 3 ∨ f = 4 := by omega
  simp only [fg_gd_nI hk (show 8 < 2 ^ 31 by decide), nI_clamp (show k < 2 ^ 31 by omega)]
  rcases this with rfl | rfl | rfl | rfl <;> rfl
theorem ag_of {w : fg_W} (h : rr w) (a b : Int32) : ag (f_X3_of a b w) (f_X4_of a b) := by
  have h' := h
  obtain ⟨n, h1, h2, h3, h4⟩ := h
  have hN := h2.1
  have h8 := hN.2
  have e4 : ∀ w1 : fg_W, w1.1 4 0 = w.1 4 0 → w1.1 4 0 1 1 = nI n := fun w1 e => by rw [e]; exact h1.1.2.1.trans hN.1
  rcases q_per a n h8 with ⟨k, hk, rfl, c1, c2⟩ | ⟨_, c1, c2⟩
  · have hk8 : k < 8 := by omega
    have hx3 : f_X3_of (nI k) b w = if b = 0 then some (w.1 2 0 5 k, w) else if b = 5 then some (bk_loses (w.1 2 0 5 k), w) else if b = 6 then some (bk_made (w.1 2 0) n k 10, w) else if b = 7 then some (bk_own (w.1 2 0) (nI k) 10, w) else fg_bi (f_X3_within b 1 4 w) (fun r w => if r = 0 then f_X3_finding 0 w else f_X2_valueOf 0 (nI k) b w) := by
      unfold f_X3_of
      rw [c1 0 w hN, fg_bi_some, if_neg (by decide)]
      simp only [fg_bi_id, fg_gd_nI hk8 (show 8 < 2 ^ 31 by decide), nI_clamp (show k < 2 ^ 31 by omega), p_loses, p_made hN hk8, p_own]
      by_cases g0 : b = 0
      · rw [if_pos g0, if_pos g0]
      rw [if_neg g0, if_neg g0]
      by_cases g1 : b = 1
      · subst g1; rfl
      by_cases g2 : b = 2
      · subst g2; rfl
      by_cases g3 : b = 3
      · subst g3; rfl
      by_cases g4 : b = 4
      · subst g4; rfl
      rw [if_neg g1, if_neg g2, if_neg g3, if_neg g4]
    have hx4 : ∀ w1 : fg_W, w1.1 4 0 = w.1 4 0 → f_X4_of (nI k) b w1 = fg_bi (f_X3_within b 0 7 w1) (fun r9 w7 => if r9 = 0 then f_X4_no 0 w7 else (if 5 ≤ b then (if b = 5 then f_X4_losesOf (nI k) w7 else (if b = 6 then f_X4_makesFor (nI k) w7 else f_X4_ownedBy (nI k) w7)) else f_X4_get (nI k) b w7)) := by
      intro w1 e
      unfold f_X4_of
      rw [c2 w1 (e4 w1 e), fg_bi_some, if_neg (by decide), in1_eq]
      simp only [fg_bi_id]
    rcases q_in b 7 7 rfl (by decide) with ⟨j, hj, rfl, hw⟩ | ⟨hb, hw⟩
    · by_cases h5 : 5 ≤ j
      · have : j = 5 ∨ j = 6 ∨ j = 7 := by omega
        rcases this with rfl | rfl | rfl
        · refine ag.read (r := bk_loses (w.1 2 0 5 k)) h' ?_ ?_
          · rw [hx3]; rfl
          · rw [hx4 w rfl, hw, fg_bi_some, if_neg (by decide), if_pos (by decide), if_pos (by decide), m_loses h1 hk8]
        · refine ag.read (r := bk_made (w.1 2 0) n k 10) h' ?_ ?_
          · rw [hx3]; rfl
          · rw [hx4 w rfl, hw, fg_bi_some, if_neg (by decide), if_pos (by decide), if_neg (by decide), if_pos (by decide), m_made h1 hN hk8 (h2.2.2.2.2.1 k hk8)]
        · refine ag.read (r := bk_own (w.1 2 0) (nI k) 10) h' ?_ ?_
          · rw [hx3]; rfl
          · rw [hx4 w rfl, hw, fg_bi_some, if_neg (by decide), if_pos (by decide), if_neg (by decide), if_neg (by decide), m_own h1]
      · refine ag.read (r := w.1 2 0 (5 + j) k) h' ?_ ?_
        · rw [hx3]
          by_cases h0 : j = 0
          · subst h0; rfl
          · have hwi : f_X3_within (nI j) 1 4 w = some (1, w) := by
              unfold f_X3_within
              rw [if_neg (show ¬ nI j < 1 from nI_nlt (a := j) (b := 1) (by omega) (by omega)), if_neg (show ¬ (4 : Int32) < nI j from nI_nlt (a := 4) (b := j) (by omega) (by decide))]
            have nq : ∀ q : Nat, q < 2 ^ 31 → q ≠ j → ¬ nI j = nI q := fun q hq hne z => hne ((nI_eq (by omega) hq).mp z).symm
            rw [if_neg (show ¬ nI j = 0 from nq 0 (by decide) (by omega)), if_neg (show ¬ nI j = 5 from nq 5 (by decide) (by omega)), if_neg (show ¬ nI j = 6 from nq 6 (by decide) (by omega)), if_neg (show ¬ nI j = 7 from nq 7 (by decide) (by omega)), hwi, fg_bi_some, if_neg (by decide), p_value hk8 (by omega) (by omega)]
        · rw [hx4 w rfl, hw, fg_bi_some, if_neg (by decide), if_neg (show ¬ (5 : Int32) ≤ nI j from nI_ge (a := j) (b := 5) (by omega) (by decide)), m_get h1 j hk8 (by omega)]
    · have nb := q_not (N := 7) rfl (by decide) hb
      refine ag.fnd0 h' ?_ (fun w1 e => ?_)
      · rw [hx3, if_neg (show ¬ b = 0 from nb 0 (by omega)), if_neg (show ¬ b = 5 from nb 5 (by omega)), if_neg (show ¬ b = 6 from nb 6 (by omega)), if_neg (show ¬ b = 7 from nb 7 (by omega))]
        have hwi : f_X3_within b 1 4 w = some (0, w) := by
          unfold f_X3_within
          rcases hb with hb | hb
          · rw [if_pos (Int32.lt_trans hb (by decide))]
          · by_cases h0 : b < 1
            · rw [if_pos h0]
            · rw [if_neg h0, if_pos (Int32.lt_trans (show (4 : Int32) < 7 by decide) hb)]
        rw [hwi, fg_bi_some, if_pos rfl]
      · rw [hx4 w1 e, hw, fg_bi_some, if_pos rfl]
  · refine ag.fnd0 h' ?_ (fun w1 e => ?_)
    · unfold f_X3_of; rw [c1 0 w hN, fg_bi_some, if_pos rfl, fg_bi_id]
    · unfold f_X4_of; rw [c2 w1 (e4 w1 e), fg_bi_some, if_pos rfl, fg_bi_id]
