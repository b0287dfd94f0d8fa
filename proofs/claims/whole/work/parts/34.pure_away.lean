-- away
def bk_sd (B : Nat → Nat → Int32) (j : Nat) : Nat → Nat → Int32 := if ((B 0 11) >>> (nI j &&& 31)) &&& 1 = 0 then B else bk_set B 6 j (-1)
def bk_sent (n : Nat) (g : Int32) (A : Nat → Nat → Int32) : Nat → Nat → Int32 := bk_it bk_sd (bk_set A 0 11 g) 0 n
theorem bk_sd_c (B : Nat → Nat → Int32) (j c q : Nat) (h : c ≠ 6) : bk_sd B j c q = B c q := by
  unfold bk_sd
  split
  · rfl
  · rw [bk_nc _ _ h]
theorem bk_sd_I {B : Nat → Nat → Int32} {n j : Nat} (h : bk_I B n) : bk_I (bk_sd B j) n := by
  unfold bk_sd
  split
  · exact h
  · exact h.set (by decide) (by omega) (by omega) (by omega) (fun _ => Or.inl rfl) (by omega) (by omega) (by omega) (by omega)
theorem bk_I.sent {A : Nat → Nat → Int32} {n : Nat} (h : bk_I A n) (g : Int32) : bk_I (bk_sent n g A) n :=
  bk_it_keep (P := fun B => bk_I B n) n 0 _ (fun B k _ _ hB => bk_sd_I hB) (h.cong (fun c j _ _ _ h0 _ _ => bk_ne _ _ (by omega)))
theorem bk_eq.sd {A B : Nat → Nat → Int32} (h : bk_eq A B) (j : Nat) : bk_eq (bk_sd A j) (bk_sd B j) := by
  unfold bk_sd
  rw [h 0 11 (by unfold bk_ok; omega)]
  split
  · exact h
  · exact h.set 6 j (-1)
theorem bk_eq.sent {A B : Nat → Nat → Int32} (h : bk_eq A B) (n : Nat) (g : Int32) : bk_eq (bk_sent n g A) (bk_sent n g B) := bk_eq.it (fun A B j e => e.sd j) n 0 _ _ (h.set 0 11 g)
theorem p_sentL {i n : Nat} (K : Int32 → fg_W → Option fg_W) : ∀ (m j fu : Nat) (w : fg_W), j + m = n → m < fu → bk_N (w.1 2 i) n → f_X2_sendAway_L7 i K fu (nI j) w = K (nI n) (fg_sw w 2 i (bk_it bk_sd (w.1 2 i) j m)) := by
  intro m
  induction m with
  | zero =>
    intro j fu w hj hf hN
    obtain ⟨fu, rfl⟩ : ∃ z, fu = z + 1 := ⟨fu - 1, by omega⟩
    obtain rfl : j = n := by omega
    have h8 := hN.2
    rw [f_X2_sendAway_L7, hN.1, if_pos (nI_le (Nat.le_refl _) (by omega))]
    show _ = K (nI j) (fg_sw w 2 i (w.1 2 i))
    rw [fg_sw_id]
  | succ m ih =>
    intro j fu w hj hf hN
    obtain ⟨fu, rfl⟩ : ∃ z, fu = z + 1 := ⟨fu - 1, by omega⟩
    have h8 := hN.2
    rw [f_X2_sendAway_L7, hN.1, if_neg (nI_ge (by omega) (by omega)), p_gone, fg_bi_some, bk_it]
    by_cases hc : ((w.1 2 i 0 11) >>> (nI j &&& 31)) &&& 1 = 0
    · rw [if_pos hc, if_pos rfl, nI_1, ih (j + 1) fu w (by omega) (by omega) hN, show bk_sd (w.1 2 i) j = w.1 2 i from if_pos hc]
    · rw [if_neg hc, if_neg (by decide), fg_gd_nI (by omega) (by decide), fg_let_eq, nI_clamp (by omega), fg_st_set, nI_1, ih (j + 1) fu _ (by omega) (by omega) (by rw [fg_sw_at]; exact ⟨by rw [bk_nc _ _ (by decide)]; exact hN.1, h8⟩), fg_sw_at, fg_sw_sw, show bk_sd (w.1 2 i) j = bk_set (w.1 2 i) 6 j (-1) from if_neg hc]
theorem p_sent {i n : Nat} {w : fg_W} (hN : bk_N (w.1 2 i) n) (g : Int32) : f_X2_sendAway i g w = some (fg_sw w 2 i (bk_sent n g (w.1 2 i))) := by
  have h8 := hN.2
  have := p_sentL (i := i) (n := n) (fun v2_7 w_7 => some w_7) n 0 fg_fuel (fg_sw w 2 i (bk_set (w.1 2 i) 0 11 g)) (by omega) (by unfold fg_fuel; omega) (by rw [fg_sw_at]; exact ⟨by rw [bk_ne _ _ (Or.inr (by decide))]; exact hN.1, h8⟩)
  rw [fg_sw_at, fg_sw_sw, nI_0] at this
  unfold f_X2_sendAway
  rw [fg_let_eq, fg_st_set, this]
  rfl
theorem rm.gone {w : fg_W} {A : Nat → Nat → Int32} (h : rm w A) (v : Int32) : rm (fg_sw w 4 0 (bk_set (w.1 4 0) 0 5 v)) (bk_set A 0 11 v) := by
  obtain ⟨⟨h1, h2, h3, h4, h5⟩, h6, h7, h8, h9⟩ := h
  unfold rm
  rw [fg_sw_at]
  refine ⟨⟨?_, ?_, ?_, ?_, ?_⟩, fun j hj => ?_, fun f p hf hp => ?_, fun f k hf hk => ?_, fun j hj => ?_⟩
  · rw [bk_nc _ _ (by decide), bk_ne _ _ (Or.inr (by decide))]; exact h1
  · rw [bk_nc _ _ (by decide), bk_ne _ _ (Or.inr (by decide))]; exact h2
  · rw [bk_nc _ _ (by decide), bk_ne _ _ (Or.inr (by decide))]; exact h3
  · rw [bk_nc _ _ (by decide), bk_ne _ _ (Or.inr (by decide))]; exact h4
  · rw [bk_same, bk_same]
  · rw [bk_nc _ _ (by decide), bk_nc _ _ (by decide)]; exact h6 j hj
  · rw [bk_nc _ _ (by decide), bk_nc _ _ (by omega)]; exact h7 f p hf hp
  · rw [bk_nc _ _ (by decide), bk_nc _ _ (by omega)]; exact h8 f k hf hk
  · rw [bk_nc _ _ (by decide), bk_nc _ _ (by decide)]; exact h9 j hj
theorem bk_set_id (A : Nat → Nat → Int32) (c j : Nat) : bk_set A c j (A c j) = A := by
  funext c' j'
  unfold bk_set
  split
  · rename_i h; rw [h.1, h.2]
  · rfl
theorem m_sentL {n : Nat} (K : Int32 → fg_W → Option (Int32 × fg_W)) : ∀ (m j fu : Nat) (w : fg_W) (A : Nat → Nat → Int32), j + m = n → m < fu → rm w A → bk_N A n → ∃ w', f_X4_standsWithout_L12 K fu (nI j) w = K (nI n) w' ∧ rm w' (bk_it bk_sd A j m) ∧ fm w w' := by
  intro m
  induction m with
  | zero =>
    intro j fu w A hj hf h hN
    obtain ⟨fu, rfl⟩ : ∃ z, fu = z + 1 := ⟨fu - 1, by omega⟩
    obtain rfl : j = n := by omega
    have h8 := hN.2
    exact ⟨w, by rw [f_X4_standsWithout_L12, h.1.2.1, hN.1, if_pos (nI_le (Nat.le_refl _) (by omega))], h, fm.rf w⟩
  | succ m ih =>
    intro j fu w A hj hf h hN
    obtain ⟨fu, rfl⟩ : ∃ z, fu = z + 1 := ⟨fu - 1, by omega⟩
    have h8 := hN.2
    rw [f_X4_standsWithout_L12, h.1.2.1, hN.1, if_neg (nI_ge (by omega) (by omega)), m_away h, fg_bi_some, bk_it]
    by_cases hc : ((A 0 11) >>> (nI j &&& 31)) &&& 1 = 0
    · have g := h.per (f := 1) (k := j) (A 6 j) (by decide) (by omega)
      rw [bk_set_id] at g
      obtain ⟨w', a1, a2, a3⟩ := ih (j + 1) fu _ A (by omega) (by omega) g hN
      refine ⟨w', ?_, ?_, (fm.set w _ (A 6 j) (Or.inl rfl)).tr a3⟩
      · rw [if_pos hc, if_pos rfl, m_get1 h (by omega), fg_bi_some, show f_X4_puts (nI j) 1 (A 6 j) w = _ from m_puts 1 (A 6 j) (by omega) (by decide), fg_bv_some, nI_1, a1]
      · rw [show bk_sd A j = A from if_pos hc]; exact a2
    · have g := h.per (f := 1) (k := j) (-1) (by decide) (by omega)
      obtain ⟨w', a1, a2, a3⟩ := ih (j + 1) fu _ _ (by omega) (by omega) g ⟨by rw [bk_nc _ _ (by decide)]; exact hN.1, h8⟩
      refine ⟨w', ?_, ?_, (fm.set w _ (-1) (Or.inl rfl)).tr a3⟩
      · rw [if_neg hc, if_neg (by decide), show f_X4_puts (nI j) 1 (-1) w = _ from m_puts 1 (-1) (by omega) (by decide), fg_bv_some, nI_1, a1]
      · rw [show bk_sd A j = bk_set A 6 j (-1) from if_neg hc]; exact a2
/-- whether one stands on a lot at last if some are kept away -/
def bk_wo (n t k : Nat) (A : Nat → Nat → Int32) (g : Nat) : Bool := decide (¬ bk_days n (bk_sent n (nI g) A) t 6 k = -1)
theorem m_without {w : fg_W} {A : Nat → Nat → Int32} {n t k : Nat} (h : rm w A) (hI : bk_I A n) (h0 : A 0 11 = 0) (ht : t ≤ 12) (hk : k < 8) (g : Nat) : ∃ w', f_X4_standsWithout (nI k) (nI g) (nI t) w = some (if bk_wo n t k A g then 1 else 0, w') ∧ bs w w' := by
  obtain ⟨w1, a1, a2, a3⟩ := m_think h
  have z1 : w1.1 4 0 0 5 = 0 := by rw [a2.1.2.2.2.2]; exact h0
  have h8 := hI.1.2
  have r3 := a2.gone (nI g)
  obtain ⟨w4, b1, b2, b3⟩ := m_sentL (n := n) (fun v4_12 w_12 => fg_bv (f_X4_goes (nI t) w_12) (fun w4 => fg_let (fg_st w4 4 0 0 (upd (w4.1 4 0 0) 5 0)) (fun w6 => fg_bi (f_X4_get (nI k) 1 w6) (fun r9 w7 => if r9 < 0 then (fg_bv (f_X4_laysBack  w7) (fun w10 => some ((0 : Int32), w10))) else (fg_bv (f_X4_laysBack  w7) (fun w12 => some (1, w12))))))) n 0 fg_fuel _ _ (by omega) (by unfold fg_fuel; omega) r3 ⟨by rw [bk_ne _ _ (Or.inr (by decide))]; exact hI.1.1, h8⟩
  have b2' : rm w4 (bk_sent n (nI g) A) := b2
  obtain ⟨w5, c1, c2, c3⟩ := m_goes (t := t) (by omega) b2' (hI.sent (nI g))
  have r6 := c2.gone 0
  have f5 : fm (fg_sw w1 4 0 (bk_set (w1.1 4 0) 0 5 (nI g))) w5 := b3.tr c3
  have f6 : fm w1 (fg_sw w5 4 0 (bk_set (w5.1 4 0) 0 5 0)) := by
    refine ⟨fun K i hK => ?_, fun i hi => ?_, fun c q1 q5 q6 => ?_, ?_⟩
    · rw [fg_sw_K _ _ _ _ _ _ hK, f5.1 K i hK, fg_sw_K _ _ _ _ _ _ hK]
    · rw [fg_sw_i _ _ _ _ _ hi, f5.2.1 i hi, fg_sw_i _ _ _ _ _ hi]
    · have e := f5.2.2.1 c q1 q5 q6
      rw [fg_sw_at] at e
      rw [fg_sw_at]
      funext q
      by_cases hq : c = 0 ∧ q = 5
      · obtain ⟨rfl, rfl⟩ := hq
        rw [bk_same, z1]
      · rw [bk_ne _ _ (by omega), e, bk_ne _ _ (by omega)]
    · exact f5.2.2.2
  obtain ⟨w7, d1, d2⟩ := a3 _ f6
  refine ⟨w7, ?_, d2⟩
  rw [nI_0] at b1
  unfold f_X4_standsWithout
  rw [a1, fg_bv_some, fg_let_eq, fg_st_set, b1, c1, fg_bv_some, fg_let_eq, fg_st_set, m_get1 r6 hk, fg_bi_some, bk_nc _ _ (by decide), d1, fg_bv_some, fg_bv_some]
  have pl := (bk_I_days t _ (hI.sent (nI g))).2.1 k hk
  unfold bk_wo
  rcases pl with e | ⟨p, hp, e⟩
  · rw [e, if_pos (by decide)]; simp
  · rw [e, if_neg (nI_pos (by omega))]; simp [nI_ne_m1 (show p < 2 ^ 31 by omega)]
def awx (n k : Nat) : Nat := 2 ^ n - 1 - 2 ^ k
theorem aw_f1 : ∀ n, n < 9 → ∀ k, k < n → (((1 : Int32) <<< (nI n &&& 31)) - 1) &&& (((1 : Int32) <<< (nI k &&& 31)) ^^^ (-1)) = nI (awx n k) ∧ awx n k < 2 ^ n ∧ (1 : Int32) <<< (nI n &&& 31) = nI (2 ^ n) ∧ 2 ^ n ≤ 256 := by decide +kernel
theorem aw_f2b : ∀ n, n < 9 → ∀ k, k < n → ∀ g, g < 2 ^ n → (decide (g ≤ awx n k) && (decide ((nI g &&& (nI (awx n k) ^^^ (-1))) = 0) != decide ((nI g >>> (nI k &&& 31)) &&& 1 = 0))) = false ∧ (decide (awx n k < g) && decide ((nI g >>> (nI k &&& 31)) &&& 1 = 0)) = false := by decide +kernel
theorem aw_f2 : ∀ n, n < 9 → ∀ k, k < n → ∀ g, g < 2 ^ n → (g ≤ awx n k → ((nI g &&& (nI (awx n k) ^^^ (-1))) = 0 ↔ (nI g >>> (nI k &&& 31)) &&& 1 = 0)) ∧ (awx n k < g → ¬ (nI g >>> (nI k &&& 31)) &&& 1 = 0) := by
  intro n hn k hk g hg
  obtain ⟨b1, b2⟩ := aw_f2b n hn k hk g hg
  refine ⟨fun h => ?_, fun h z => ?_⟩
  · rw [decide_eq_true h, Bool.true_and] at b1
    have := (bne_eq_false_iff_eq ..).mp b1
    exact decide_eq_decide.mp this
  · rw [decide_eq_true h, decide_eq_true z] at b2
    cases b2
/-- the fewest that must not be there, of the first m sets -/
def aw_b (V : Nat → Bool) (k : Nat) : Nat → Int32
  | 0 => -1
  | m + 1 => if (nI m >>> (nI k &&& 31)) &&& 1 = 0 then (if aw_b V k m < 0 then (if V m then nI m else aw_b V k m) else (if bk_bc (aw_b V k m) ≤ bk_bc (nI m) then aw_b V k m else (if V m then nI m else aw_b V k m))) else aw_b V k m
theorem aw_in (V : Nat → Bool) (k : Nat) : ∀ m, m < 900 → aw_b V k m = -1 ∨ ∃ b, b < m ∧ aw_b V k m = nI b := by
  intro m
  induction m with
  | zero => intro _; exact Or.inl rfl
  | succ m ih =>
    intro hm
    have old : aw_b V k m = -1 ∨ ∃ b, b < m + 1 ∧ aw_b V k m = nI b := (ih (by omega)).imp id (fun ⟨b, h1, h2⟩ => ⟨b, by omega, h2⟩)
    have new : nI m = -1 ∨ ∃ b, b < m + 1 ∧ nI m = nI b := Or.inr ⟨m, by omega, rfl⟩
    rw [aw_b]
    split
    · split
      · split
        · exact new
        · exact old
      · split
        · exact old
        · split
          · exact new
          · exact old
    · exact old
theorem aw_top {V : Nat → Bool} {n k : Nat} (hn : n < 9) (hk : k < n) : ∀ d, awx n k + 1 + d ≤ 2 ^ n → aw_b V k (awx n k + 1 + d) = aw_b V k (awx n k + 1) := by
  intro d
  induction d with
  | zero => intro _; rfl
  | succ d ih =>
    intro h
    rw [show awx n k + 1 + (d + 1) = (awx n k + 1 + d) + 1 by omega, aw_b, if_neg ((aw_f2 n hn k hk _ (by omega)).2 (by omega)), ih (by omega)]
theorem p_awL {n k t : Nat} {w : fg_W} (hn : n < 9) (hk : k < n) (ht : t ≤ 12) (h1 : rm w (w.1 2 0)) (h0 : bk_I (w.1 2 0) n) (K : Int32 → Int32 → fg_W → Option (Int32 × fg_W)) : ∀ (m j fu : Nat) (d : Nat → Nat → Int32), j + m = awx n k + 1 → m < fu → ∃ d', f_X3_away_L51 (nI k) (nI t) (nI (awx n k)) K fu (aw_b (bk_wo n t k (w.1 2 0)) k j) (nI j) (fg_sw w 2 1 d) = K (aw_b (bk_wo n t k (w.1 2 0)) k (awx n k + 1)) (nI (awx n k + 1)) (fg_sw w 2 1 d') := by
  obtain ⟨_, f2, _, f4⟩ := aw_f1 n hn k hk
  intro m
  induction m with
  | zero =>
    intro j fu d hj hf
    obtain ⟨fu, rfl⟩ : ∃ z, fu = z + 1 := ⟨fu - 1, by omega⟩
    obtain rfl : j = awx n k + 1 := by omega
    exact ⟨d, by rw [f_X3_away_L51, if_pos (nI_lt (by omega) (by omega))]⟩
  | succ m ih =>
    intro j fu d hj hf
    obtain ⟨fu, rfl⟩ : ∃ z, fu = z + 1 := ⟨fu - 1, by omega⟩
    have k8 : k < 8 := by omega
    have hIb : bk_I (bk_bec d (w.1 2 0)) n := h0.eq (bk_bec_eq d (w.1 2 0))
    have hIs := hIb.sent (nI j)
    have hr : ∃ wr, rm wr (bk_sent n (nI j) (w.1 2 0)) := by
      obtain ⟨w', _, a2, _⟩ := m_sentL (n := n) (fun _ _ => none) n 0 fg_fuel _ _ (by omega) (by unfold fg_fuel; omega) (h1.gone (nI j)) ⟨by rw [bk_ne _ _ (Or.inr (by decide))]; exact h0.1.1, h0.1.2⟩
      exact ⟨w', a2⟩
    obtain ⟨wr, hr⟩ := hr
    have hv := bk_days_eq (t := t) (by omega) hr (h0.sent (nI j)) ((bk_bec_eq d (w.1 2 0)).sent n (nI j)) 6 k (by unfold bk_ok; omega)
    obtain ⟨d1, hd1⟩ := ih (j + 1) fu d (by omega) (by omega)
    obtain ⟨d2, hd2⟩ := ih (j + 1) fu (bk_days n (bk_sent n (nI j) (bk_bec d (w.1 2 0))) t) (by omega) (by omega)
    have tst : ∀ u : Int32, u = aw_b (bk_wo n t k (w.1 2 0)) k j → fg_bv (f_X2_become 1 0 (fg_sw w 2 1 d)) (fun w14 => fg_bv (f_X2_sendAway 1 (nI j) w14) (fun w16 => fg_bv (f_X2_passDays 1 (nI t) w16) (fun w18 => fg_gd (nI k) 8 (if (w18.1 2 1 6 (nI k).toNatClampNeg) = (-1) then ((f_X3_away_L51 (nI k) (nI t) (nI (awx n k)) K fu u (nI j + 1) w18)) else ((f_X3_away_L51 (nI k) (nI t) (nI (awx n k)) K fu (nI j) (nI j + 1) w18)))))) = f_X3_away_L51 (nI k) (nI t) (nI (awx n k)) K fu (if bk_wo n t k (w.1 2 0) j then nI j else aw_b (bk_wo n t k (w.1 2 0)) k j) (nI (j + 1)) (fg_sw w 2 1 (bk_days n (bk_sent n (nI j) (bk_bec d (w.1 2 0))) t)) := by
      intro u hu
      rw [p_become (by decide), fg_bv_some, fg_sw_at, fg_sw_sw, fg_sw_i _ _ _ _ _ (by decide), p_sent (n := n) (by rw [fg_sw_at]; exact hIb.1), fg_bv_some, fg_sw_at, fg_sw_sw, p_days (n := n) (by omega) (by rw [fg_sw_at]; exact hIs), fg_bv_some, fg_sw_at, fg_sw_sw, fg_gd_nI k8 (by decide), fg_sw_at, nI_clamp (by omega), hv, nI_1, hu]
      unfold bk_wo
      by_cases hc : bk_days n (bk_sent n (nI j) (w.1 2 0)) t 6 k = -1
      · rw [if_pos hc]; simp [hc]
      · rw [if_neg hc]; simp [hc]
    have f5 := (aw_f2 n hn k hk j (by omega)).1 (by omega)
    rw [f_X3_away_L51, if_neg (nI_nlt (by omega) (by omega)), tst _ rfl]
    have sk : aw_b (bk_wo n t k (w.1 2 0)) k (j + 1) = aw_b (bk_wo n t k (w.1 2 0)) k j → ∃ d', f_X3_away_L51 (nI k) (nI t) (nI (awx n k)) K fu (aw_b (bk_wo n t k (w.1 2 0)) k j) (nI j + 1) (fg_sw w 2 1 d) = K (aw_b (bk_wo n t k (w.1 2 0)) k (awx n k + 1)) (nI (awx n k + 1)) (fg_sw w 2 1 d') := fun e => ⟨d1, by rw [nI_1, ← hd1, e]⟩
    have ts : aw_b (bk_wo n t k (w.1 2 0)) k (j + 1) = (if bk_wo n t k (w.1 2 0) j then nI j else aw_b (bk_wo n t k (w.1 2 0)) k j) → ∃ d', f_X3_away_L51 (nI k) (nI t) (nI (awx n k)) K fu (if bk_wo n t k (w.1 2 0) j then nI j else aw_b (bk_wo n t k (w.1 2 0)) k j) (nI (j + 1)) (fg_sw w 2 1 (bk_days n (bk_sent n (nI j) (bk_bec d (w.1 2 0))) t)) = K (aw_b (bk_wo n t k (w.1 2 0)) k (awx n k + 1)) (nI (awx n k + 1)) (fg_sw w 2 1 d') := fun e => ⟨d2, by rw [← hd2, e]⟩
    by_cases hb : aw_b (bk_wo n t k (w.1 2 0)) k j < 0
    · rw [if_pos hb]
      by_cases hs : (nI j &&& (nI (awx n k) ^^^ (-1))) = 0
      · rw [if_pos hs]
        exact ts (by rw [aw_b, if_pos (f5.mp hs), if_pos hb])
      · rw [if_neg hs]
        exact sk (by rw [aw_b, if_neg (fun z => hs (f5.mpr z))])
    · rw [if_neg hb, p_bc, fg_bi_some, p_bc, fg_bi_some]
      by_cases hl : bk_bc (aw_b (bk_wo n t k (w.1 2 0)) k j) ≤ bk_bc (nI j)
      · rw [if_pos hl, ite_self]
        refine sk ?_
        rw [aw_b, if_neg hb, if_pos hl, ite_self]
      · rw [if_neg hl]
        by_cases hs : (nI j &&& (nI (awx n k) ^^^ (-1))) = 0
        · rw [if_pos hs, tst _ rfl]
          exact ts (by rw [aw_b, if_pos (f5.mp hs), if_neg hb, if_neg hl])
        · rw [if_neg hs]
          exact sk (by rw [aw_b, if_neg (fun z => hs (f5.mpr z))])
theorem m_awL {n k t : Nat} {A : Nat → Nat → Int32} (hn : n < 9) (hk : k < n) (ht : t ≤ 12) (hI : bk_I A n) (h0 : A 0 11 = 0) (K : Int32 → Int32 → fg_W → Option (Int32 × fg_W)) : ∀ (m j fu : Nat) (w : fg_W), j + m = 2 ^ n → m < fu → rm w A → ∃ w', f_X4_away_L29 (nI k) (nI t) K fu (aw_b (bk_wo n t k A) k j) (nI j) w = K (aw_b (bk_wo n t k A) k (2 ^ n)) (nI (2 ^ n)) w' ∧ bs w w' := by
  obtain ⟨_, f2, f3, f4⟩ := aw_f1 n hn k hk
  intro m
  induction m with
  | zero =>
    intro j fu w hj hf h
    obtain ⟨fu, rfl⟩ : ∃ z, fu = z + 1 := ⟨fu - 1, by omega⟩
    obtain rfl : j = 2 ^ n := by omega
    exact ⟨w, by rw [f_X4_away_L29, h.1.2.1, hI.1.1, f3, if_pos (nI_le (Nat.le_refl _) (by omega))], bs.rf w⟩
  | succ m ih =>
    intro j fu w hj hf h
    obtain ⟨fu, rfl⟩ : ∃ z, fu = z + 1 := ⟨fu - 1, by omega⟩
    obtain ⟨w1, a1, a2⟩ := m_without h hI h0 ht (show k < 8 by omega) j
    obtain ⟨w', b1, b2⟩ := ih (j + 1) fu w1 (by omega) (by omega) (h.bs a2)
    obtain ⟨w'', c1, c2⟩ := ih (j + 1) fu w (by omega) (by omega) h
    rw [f_X4_away_L29, h.1.2.1, hI.1.1, f3, if_neg (nI_ge (by omega) (by omega))]
    have tst : aw_b (bk_wo n t k A) k (j + 1) = (if bk_wo n t k A j then nI j else aw_b (bk_wo n t k A) k j) → ∃ w', fg_bi (f_X4_standsWithout (nI k) (nI j) (nI t) w) (fun r15 w13 => if r15 = 0 then ((f_X4_away_L29 (nI k) (nI t) K fu (aw_b (bk_wo n t k A) k j) (nI j + 1) w13)) else ((f_X4_away_L29 (nI k) (nI t) K fu (nI j) (nI j + 1) w13))) = K (aw_b (bk_wo n t k A) k (2 ^ n)) (nI (2 ^ n)) w' ∧ bs w w' := fun e => by
      refine ⟨w', ?_, a2.tr b2⟩
      rw [a1, fg_bi_some, nI_1, ← b1, e]
      by_cases hV : bk_wo n t k A j
      · rw [if_pos hV, if_neg (by decide), if_pos hV]
      · rw [if_neg hV, if_pos rfl, if_neg hV]
    by_cases hs : (nI j >>> (nI k &&& 31)) &&& 1 = 0
    · rw [if_pos hs]
      by_cases hb : aw_b (bk_wo n t k A) k j < 0
      · rw [if_pos hb]
        exact tst (by rw [aw_b, if_pos hs, if_pos hb])
      · rw [if_neg hb, m_bc (show j < 256 by omega), fg_bi_some]
        obtain ⟨b, hb1, hb2⟩ : ∃ b, b < 256 ∧ aw_b (bk_wo n t k A) k j = nI b := by
          rcases aw_in (bk_wo n t k A) k j (by omega) with e | ⟨b, e1, e2⟩
          · rw [e] at hb; exact absurd (by decide) hb
          · exact ⟨b, by omega, e2⟩
        have hm : f_X4_bits (aw_b (bk_wo n t k A) k j) w = some (bk_bc (aw_b (bk_wo n t k A) k j), w) := by rw [hb2]; exact m_bc hb1
        rw [hm, fg_bi_some]
        by_cases hl : bk_bc (aw_b (bk_wo n t k A) k j) ≤ bk_bc (nI j)
        · rw [if_pos hl, nI_1]
          refine ⟨w'', ?_, c2⟩
          rw [← c1, aw_b, if_pos hs, if_neg hb, if_pos hl]
        · rw [if_neg hl]
          exact tst (by rw [aw_b, if_pos hs, if_neg hb, if_neg hl])
    · rw [if_neg hs, nI_1]
      refine ⟨w'', ?_, c2⟩
      rw [← c1, aw_b, if_neg hs]
theorem ag_away {w : fg_W} (h : rr w) (a b : Int32) : ag (f_X3_away a b w) (f_X4_away a b) := by
  have h' := h
  obtain ⟨n, h1, h2, h3, h4⟩ := h
  have hN := h2.1
  have h8 := hN.2
  have e4 : ∀ w1 : fg_W, w1.1 4 0 = w.1 4 0 → w1.1 4 0 1 1 = nI n := fun w1 e => by rw [e]; exact h1.1.2.1.trans hN.1
  rcases q_per a n h8 with ⟨k, hk, rfl, c1, c2⟩ | ⟨_, c1, c2⟩
  · rcases q_in b 12 12 rfl (by decide) with ⟨t, ht, rfl, s1⟩ | ⟨_, s1⟩
    · obtain ⟨f1, f2, f3, f5⟩ := aw_f1 n (by omega) k hk
      have tp : aw_b (bk_wo n t k (w.1 2 0)) k (2 ^ n) = aw_b (bk_wo n t k (w.1 2 0)) k (awx n k + 1) := by
        have := aw_top (V := bk_wo n t k (w.1 2 0)) (n := n) (k := k) (by omega) hk (2 ^ n - (awx n k + 1)) (by omega)
        rwa [show awx n k + 1 + (2 ^ n - (awx n k + 1)) = 2 ^ n by omega] at this
      refine ag.srch (c := 0 ≤ aw_b (bk_wo n t k (w.1 2 0)) k (awx n k + 1)) (r := aw_b (bk_wo n t k (w.1 2 0)) k (awx n k + 1)) h' ?_ (fun w1 e => ?_)
      · obtain ⟨d', hd⟩ := p_awL (w := w) (by omega) hk ht h1 h2 (fun v4_51 v5_51 w_51 => if 0 ≤ v4_51 then (some (v4_51, w_51)) else (fg_bi (f_X3_finding 3 w_51) (fun r13 w11 => some (r13, w11)))) (awx n k + 1) 0 fg_fuel (w.1 2 1) (by omega) (by unfold fg_fuel; omega)
        rw [fg_sw_id, nI_0] at hd
        refine ⟨d', ?_⟩
        unfold f_X3_away
        rw [c1 0 w hN, fg_bi_some, if_neg (by decide), s1, fg_bi_some, if_neg (by decide), fg_let_eq, hN.1, f1]
        refine hd.trans ?_
        rw [fg_bi_id]
      · obtain ⟨w2, b1, b2⟩ := m_awL (A := w.1 2 0) (n := n) (by omega) hk ht h2 h3 (fun v3_29 v4_29 w_29 => if 0 ≤ v3_29 then (some (v3_29, w_29)) else (fg_bi (f_X4_no 3 w_29) (fun r12 w10 => some (r12, w10)))) (2 ^ n) 0 fg_fuel w1 (by omega) (by unfold fg_fuel; omega) (h1.of e)
        rw [nI_0] at b1
        refine ⟨w2, b2, ?_⟩
        unfold f_X4_away
        rw [c2 _ (e4 _ e), fg_bi_some, if_neg (by decide), in1_eq, s1, fg_bi_some, if_neg (by decide)]
        refine b1.trans ?_
        rw [fg_bi_id, tp]
    · refine ag.fnd0 h' ?_ (fun w1 e => ?_)
      · unfold f_X3_away; rw [c1 0 w hN, fg_bi_some, if_neg (by decide), s1, fg_bi_some, if_pos rfl, fg_bi_id]
      · unfold f_X4_away; rw [c2 w1 (e4 w1 e), fg_bi_some, if_neg (by decide), in1_eq, s1, fg_bi_some, if_pos rfl, fg_bi_id]
  · refine ag.fnd0 h' ?_ (fun w1 e => ?_)
    · unfold f_X3_away; rw [c1 0 w hN, fg_bi_some, if_pos rfl, fg_bi_id]
    · unfold f_X4_away; rw [c2 w1 (e4 w1 e), fg_bi_some, if_pos rfl, fg_bi_id]
