theorem bk_paid_nI {A : Nat → Nat → Int32} {k p a r : Nat} (h1 : A 8 k = nI a) (h2 : A 2 p = nI r) (ha : a ≤ 9999) (hr : r ≤ 20) : ∃ q, q ≤ a ∧ q ≤ 20 ∧ bk_paid A k p = nI q := by
  unfold bk_paid
  rw [h1, h2]
  by_cases h : r < a
  · rw [if_pos (nI_lt h (by omega))]; exact ⟨r, by omega, hr, rfl⟩
  · rw [if_neg (nI_nlt (by omega) (by omega))]; exact ⟨a, by omega, by omega, rfl⟩
theorem bk_I_pay {A : Nat → Nat → Int32} {n k : Nat} (h : bk_I A n) (hk : k < 8) : bk_I (bk_pay A k) n := by
  obtain ⟨⟨h1, h1'⟩, h2, h3, h4, h5, h6, h7, h8, h9, h10⟩ := h
  refine ⟨⟨?_, h1'⟩, fun j hj => ?_, fun j hj => ?_, ?_, fun j hj => ?_, fun j hj => ?_, fun j hj => ?_, fun j hj => ?_, fun j hj => ?_, fun j hj => ?_⟩
  · rw [bk_pay_c _ _ _ _ (by decide)]; exact h1
  · rw [bk_pay_c _ _ _ _ (by decide)]; exact h2 j hj
  · rw [bk_pay_c _ _ _ _ (by decide)]; exact h3 j hj
  · rw [bk_pay_c _ _ _ _ (by decide)]; exact h4
  · rw [bk_pay_c _ _ _ _ (by decide)]; exact h5 j hj
  · rw [bk_pay_c _ _ _ _ (by decide)]; exact h6 j hj
  · unfold bk_pay
    split
    · exact h7 j hj
    · split
      · exact h7 j hj
      · split
        · exact h7 j hj
        · rename_i g1 g2 g3
          rcases h2 k hk with e | ⟨p, hp, e⟩
          · exact absurd e g1
          · rw [e, nI_clamp (show p < 2 ^ 31 by omega)] at g2 g3 ⊢
            rcases h3 p hp with e2 | ⟨o, ho, e2⟩
            · exact absurd e2 g3
            · rw [e2, nI_clamp (show o < 2 ^ 31 by omega)]
              obtain ⟨a, ha, ea⟩ := h7 k hk
              obtain ⟨r, hr, er⟩ := h9 p hp
              obtain ⟨q, hq1, hq2, eq⟩ := bk_paid_nI ea er ha hr
              have hw : ∀ j, j < 8 → ∃ b, b ≤ 9999 ∧ bk_set A 8 k (A 8 k - bk_paid A k p) 8 j = nI b := by
                intro j hj
                by_cases ej : j = k
                · subst ej; rw [bk_same, ea, eq, pk_sub hq1]; exact ⟨a - q, by omega, rfl⟩
                · rw [bk_ne _ _ (Or.inr ej)]; exact h7 j hj
              unfold bk_pays
              by_cases ej : j = o
              · subst ej
                rw [bk_same]
                obtain ⟨b, hb, eb⟩ := hw j (by omega)
                rw [eb, eq, nI_add]
                split
                · rename_i hlt
                  rw [show (9999 : Int32) = nI 9999 from rfl, bk_lt_iff (by omega) (by omega)] at hlt
                  exact ⟨b + q, by omega, rfl⟩
                · exact ⟨9999, by omega, rfl⟩
              · rw [bk_ne _ _ (Or.inr ej)]; exact hw j hj
  · rw [bk_pay_c _ _ _ _ (by decide)]; exact h8 j hj
  · rw [bk_pay_c _ _ _ _ (by decide)]; exact h9 j hj
  · rw [bk_pay_c _ _ _ _ (by decide)]; exact h10 j hj
theorem bk_I_d3 {A : Nat → Nat → Int32} {n : Nat} (h : bk_I A n) : bk_I (bk_d3 n A) n := by
  have h8 := h.1.2
  exact bk_it_keep (P := fun B => bk_I B n) n 0 _ (fun B k _ hk hB => bk_I_move hB (by omega)) h
theorem bk_I_d4 {A : Nat → Nat → Int32} {n : Nat} (h : bk_I A n) : bk_I (bk_d4 n A) n := by
  have h8 := h.1.2
  exact bk_it_keep (P := fun B => bk_I B n) n 0 _ (fun B k _ hk hB => bk_I_pay hB (by omega)) h
theorem bk_gb_nI {A : Nat → Nat → Int32} {k : Nat} (h : ∀ k, k < 8 → ∃ b, b ≤ 99 ∧ A 7 k = nI b) : ∀ m, m ≤ 8 → ∃ b, b ≤ 99 ∧ bk_gb A k m = nI b := by
  intro m
  induction m with
  | zero => intro _; exact ⟨0, by omega, rfl⟩
  | succ m ih =>
    intro hm
    have e := ih (by omega)
    simp only [bk_gb]
    split
    · exact e
    · split
      · split
        · exact h m (by omega)
        · exact e
      · exact e
theorem bk_best_nI {A : Nat → Nat → Int32} {n k : Nat} (h : ∀ k, k < 8 → ∃ b, b ≤ 99 ∧ A 7 k = nI b) (hn : n ≤ 8) : ∃ b, b ≤ 99 ∧ bk_best A n k = nI b := by
  unfold bk_best
  split
  · exact ⟨0, by omega, rfl⟩
  · exact bk_gb_nI h n hn
/-- how much more one believes -/
def bk_inc (a b : Nat) : Nat := (a - b) / 4
theorem bk_inc_eq {a b : Nat} (ha : a ≤ 99) (hb : b ≤ 99) : (if nI a - nI b ≤ 0 then 0 else (nI a - nI b) / 4) = nI (bk_inc a b) := by
  unfold bk_inc
  by_cases h : b ≤ a
  · rw [pk_sub h]
    by_cases h2 : nI (a - b) ≤ 0
    · rw [if_pos h2]
      rw [show (0 : Int32) = nI 0 from rfl, bk_le_iff (by omega) (by omega)] at h2
      have : (a - b) / 4 = 0 := by omega
      rw [this]; rfl
    · rw [if_neg h2]
      exact pk_div (a := a - b) (d := 4) (by omega) (by omega) (by omega)
  · have h2 : nI a - nI b ≤ 0 := Int32.le_of_lt (pk_sneg (by omega) (by omega))
    rw [if_pos h2]
    have : (a - b) / 4 = 0 := by omega
    rw [this]; rfl
theorem bk_spr_it {n : Nat} (hn : n ≤ 8) (A : Nat → Nat → Int32) : ∀ (m j : Nat) (B : Nat → Nat → Int32), j + m = n → (∀ c q, c ≠ 11 → B c q = A c q) → ∀ c q, bk_it (bk_spr n) B j m c q = if c = 11 ∧ j ≤ q ∧ q < n then (if bk_best A n q - A 7 q ≤ 0 then 0 else (bk_best A n q - A 7 q) / 4) else B c q := by
  have hgb : ∀ (B : Nat → Nat → Int32) (k : Nat), (∀ c q, c ≠ 11 → B c q = A c q) → ∀ m, bk_gb B k m = bk_gb A k m := by
    intro B k hB m
    induction m with
    | zero => rfl
    | succ m ih => simp only [bk_gb, ih, hB 6 _ (by decide), hB 7 _ (by decide)]
  intro m
  induction m with
  | zero =>
    intro j B hj hB c q
    rw [if_neg (by omega)]; rfl
  | succ m ih =>
    intro j B hj hB c q
    have hbest : bk_best B n j = bk_best A n j := by unfold bk_best; rw [hB 6 _ (by decide), hgb B j hB]
    rw [bk_it, ih (j + 1) (bk_spr n B j) (by omega) (fun c q hc => by unfold bk_spr; rw [bk_nc _ _ hc]; exact hB c q hc) c q]
    by_cases h1 : c = 11
    · subst h1
      by_cases h2 : q = j
      · subst h2
        rw [if_neg (by omega), if_pos (by omega)]
        unfold bk_spr
        rw [bk_same, hbest, hB 7 _ (by decide)]
      · by_cases h3 : j + 1 ≤ q ∧ q < n
        · rw [if_pos (show 11 = 11 ∧ j + 1 ≤ q ∧ q < n from ⟨rfl, h3⟩), if_pos (show 11 = 11 ∧ j ≤ q ∧ q < n from ⟨rfl, by omega, h3.2⟩)]
        · rw [if_neg (by omega), if_neg (by omega)]
          unfold bk_spr
          exact bk_ne _ _ (Or.inr h2)
    · rw [if_neg (by omega), if_neg (by omega)]
      unfold bk_spr
      exact bk_nc _ _ h1 _
theorem bk_add_it : ∀ (m j : Nat) (B : Nat → Nat → Int32), ∀ c q, bk_it bk_add B j m c q = if c = 7 ∧ j ≤ q ∧ q < j + m then B 7 q + B 11 q else B c q := by
  intro m
  induction m with
  | zero => intro j B c q; rw [if_neg (by omega)]; rfl
  | succ m ih =>
    intro j B c q
    rw [bk_it, ih (j + 1) (bk_add B j) c q]
    by_cases h1 : c = 7
    · subst h1
      by_cases h2 : q = j
      · subst h2
        rw [if_neg (by omega), if_pos (by omega)]
        unfold bk_add
        exact bk_same _ _ _ _
      · have e1 : bk_add B j 7 q = B 7 q := bk_ne _ _ (Or.inr h2)
        have e2 : bk_add B j 11 q = B 11 q := bk_nc _ _ (by decide) _
        rw [e1, e2]
        by_cases h3 : j + 1 ≤ q ∧ q < j + 1 + m
        · rw [if_pos (by omega), if_pos (by omega)]
        · rw [if_neg (by omega), if_neg (by omega)]
    · rw [if_neg (by omega), if_neg (by omega)]
      exact bk_nc _ _ h1 _
/-- (5) as a whole -/
theorem bk_d5_at {A : Nat → Nat → Int32} {n : Nat} (hn : n ≤ 8) (c q : Nat) (hc : c ≠ 11) : bk_d5 n A c q = if c = 7 ∧ q < n then A 7 q + (if bk_best A n q - A 7 q ≤ 0 then 0 else (bk_best A n q - A 7 q) / 4) else A c q := by
  unfold bk_d5
  rw [bk_add_it n 0 _ c q, bk_spr_it hn A n 0 A (by omega) (fun _ _ _ => rfl), bk_spr_it hn A n 0 A (by omega) (fun _ _ _ => rfl), bk_spr_it hn A n 0 A (by omega) (fun _ _ _ => rfl)]
  by_cases h : c = 7 ∧ q < n
  · rw [if_pos (by omega), if_pos h, if_neg (by omega), if_pos (by omega)]
  · rw [if_neg (by omega), if_neg h, if_neg (by omega)]
theorem bk_I_d5 {A : Nat → Nat → Int32} {n : Nat} (h : bk_I A n) : bk_I (bk_d5 n A) n := by
  obtain ⟨⟨h1, h1'⟩, h2, h3, h4, h5, h6, h7, h8, h9, h10⟩ := h
  have e := fun c q (hc : c ≠ 11) => bk_d5_at (A := A) h1' c q hc
  refine ⟨⟨?_, h1'⟩, fun j hj => ?_, fun j hj => ?_, ?_, fun j hj => ?_, fun j hj => ?_, fun j hj => ?_, fun j hj => ?_, fun j hj => ?_, fun j hj => ?_⟩
  · rw [e _ _ (by decide), if_neg (by omega)]; exact h1
  · rw [e _ _ (by decide), if_neg (by omega)]; exact h2 j hj
  · rw [e _ _ (by decide), if_neg (by omega)]; exact h3 j hj
  · rw [e _ _ (by decide), if_neg (by omega)]; exact h4
  · rw [e _ _ (by decide), if_neg (by omega)]; exact h5 j hj
  · rw [e _ _ (by decide)]
    split
    · obtain ⟨b, hb, eb⟩ := h6 j hj
      obtain ⟨a, ha, ea⟩ := bk_best_nI (k := j) h6 h1'
      rw [ea, eb, bk_inc_eq ha hb, nI_add]
      exact ⟨b + bk_inc a b, by unfold bk_inc; omega, rfl⟩
    · exact h6 j hj
  · rw [e _ _ (by decide), if_neg (by omega)]; exact h7 j hj
  · rw [e _ _ (by decide), if_neg (by omega)]; exact h8 j hj
  · rw [e _ _ (by decide), if_neg (by omega)]; exact h9 j hj
  · rw [e _ _ (by decide), if_neg (by omega)]; exact h10 j hj
theorem bk_I_tick {A : Nat → Nat → Int32} {n : Nat} (h : bk_I A n) : bk_I (bk_tick A) n := by
  obtain ⟨⟨h1, h1'⟩, h2, h3, h4, h5, h6, h7, h8, h9, h10⟩ := h
  refine ⟨⟨?_, h1'⟩, fun j hj => ?_, fun j hj => ?_, ?_, fun j hj => ?_, fun j hj => ?_, fun j hj => ?_, fun j hj => ?_, fun j hj => ?_, fun j hj => ?_⟩
  · unfold bk_tick; rw [bk_ne _ _ (Or.inr (by decide))]; exact h1
  · unfold bk_tick; rw [bk_nc _ _ (by decide)]; exact h2 j hj
  · unfold bk_tick; rw [bk_nc _ _ (by decide)]; exact h3 j hj
  · unfold bk_tick
    rw [bk_same]
    obtain ⟨d, hd, e⟩ := h4
    rw [e]
    split
    · exact ⟨99999, by omega, rfl⟩
    · rename_i hlt
      rw [show (99999 : Int32) = nI 99999 from rfl, bk_le_iff (by omega) (by omega)] at hlt
      rw [nI_1]
      exact ⟨d + 1, by omega, rfl⟩
  · unfold bk_tick; rw [bk_nc _ _ (by decide)]; exact h5 j hj
  · unfold bk_tick; rw [bk_nc _ _ (by decide)]; exact h6 j hj
  · unfold bk_tick; rw [bk_nc _ _ (by decide)]; exact h7 j hj
  · unfold bk_tick; rw [bk_nc _ _ (by decide)]; exact h8 j hj
  · unfold bk_tick; rw [bk_nc _ _ (by decide)]; exact h9 j hj
  · unfold bk_tick; rw [bk_nc _ _ (by decide)]; exact h10 j hj
theorem bk_I_day {A : Nat → Nat → Int32} {n : Nat} (h : bk_I A n) : bk_I (bk_day n A) n := bk_I_tick (bk_I_d5 (bk_I_d4 (bk_I_d3 (bk_I_d2 (bk_I_d1 h)))))
theorem bk_I_days {n : Nat} : ∀ (m : Nat) (A : Nat → Nat → Int32), bk_I A n → bk_I (bk_days n A m) n := by
  intro m
  induction m with
  | zero => intro A h; exact h
  | succ m ih => intro A h; exact ih _ (bk_I_day h)
theorem p_daysL {i n t : Nat} (ht : t < 2 ^ 31) (K : Int32 → fg_W → Option fg_W) : ∀ (m j fu : Nat) (w : fg_W), j + m = t → m < fu → bk_I (w.1 2 i) n → f_X2_passDays_L2 i (nI t) K fu (nI j) w = K (nI t) (fg_sw w 2 i (bk_days n (w.1 2 i) m)) := by
  intro m
  induction m with
  | zero =>
    intro j fu w hj hf h
    obtain ⟨fu, rfl⟩ : ∃ z, fu = z + 1 := ⟨fu - 1, by omega⟩
    obtain rfl : j = t := by omega
    rw [f_X2_passDays_L2, if_pos (nI_le (Nat.le_refl _) (by omega)), bk_days, fg_sw_id]
  | succ m ih =>
    intro j fu w hj hf h
    obtain ⟨fu, rfl⟩ : ∃ z, fu = z + 1 := ⟨fu - 1, by omega⟩
    obtain ⟨d, hd, ed⟩ := h.2.2.2.1
    have i1 := bk_I_d1 h
    have i2 := bk_I_d2 i1
    have i3 := bk_I_d3 i2
    have i4 := bk_I_d4 i3
    have i5 := bk_I_d5 i4
    have e1 : bk_it (bk_thin (bk_more (w.1 2 i) d)) (w.1 2 i) 0 10 = bk_d1 (w.1 2 i) := by unfold bk_d1; rw [ed, nI_clamp (by omega)]
    rw [f_X2_passDays_L2, if_neg (nI_ge (by omega) ht), nI_1, p_thin (show d < 2 ^ 31 by omega) ed, fg_bv_some, e1, p_spread, fg_bv_some, fg_sw_at, fg_sw_sw,
      show bk_it bk_app (bk_it bk_flow (bk_d1 (w.1 2 i)) 0 9) 0 9 = bk_d2 (bk_d1 (w.1 2 i)) from rfl,
      p_move (n := n) (by rw [fg_sw_at]; exact i2.1) (by rw [fg_sw_at]; exact i2.2.1), fg_bv_some, fg_sw_at, fg_sw_sw,
      show bk_it (bk_move n) (bk_d2 (bk_d1 (w.1 2 i))) 0 n = bk_d3 n (bk_d2 (bk_d1 (w.1 2 i))) from rfl,
      p_pay (n := n) (by rw [fg_sw_at]; exact i3.1) (by rw [fg_sw_at]; exact i3.2.1) (by rw [fg_sw_at]; exact i3.2.2.1), fg_bv_some, fg_sw_at, fg_sw_sw,
      show bk_it bk_pay (bk_d3 n (bk_d2 (bk_d1 (w.1 2 i)))) 0 n = bk_d4 n (bk_d3 n (bk_d2 (bk_d1 (w.1 2 i)))) from rfl,
      p_sprd (n := n) (by rw [fg_sw_at]; exact i4.1), fg_bv_some]
    simp only [fg_sw_at, fg_sw_sw]
    rw [show bk_it bk_add (bk_it (bk_spr n) (bk_d4 n (bk_d3 n (bk_d2 (bk_d1 (w.1 2 i))))) 0 n) 0 n = bk_d5 n (bk_d4 n (bk_d3 n (bk_d2 (bk_d1 (w.1 2 i))))) from rfl]
    have key : ∀ w1 : fg_W, w1 = fg_sw w 2 i (bk_day n (w.1 2 i)) → f_X2_passDays_L2 i (nI t) K fu (nI (j + 1)) w1 = K (nI t) (fg_sw w 2 i (bk_days n (w.1 2 i) (m + 1))) := by
      intro w1 e1
      have e2 : w1.1 2 i = bk_day n (w.1 2 i) := by rw [e1, fg_sw_at]
      rw [ih (j + 1) fu w1 (by omega) (by omega) (by rw [e2]; exact bk_I_day h), e2, e1, fg_sw_sw]
      rfl
    simp only [fg_let_eq, fg_sw_at]
    split
    · rename_i hc
      refine key _ ?_
      have := fg_st_set (fg_sw w 2 i (bk_d5 n (bk_d4 n (bk_d3 n (bk_d2 (bk_d1 (w.1 2 i))))))) 2 i 0 12 99999
      rw [fg_sw_at, fg_sw_sw] at this
      rw [this]
      unfold bk_day bk_tick
      rw [if_pos hc]
    · rename_i hc
      refine key _ ?_
      have := fg_st_set (fg_sw w 2 i (bk_d5 n (bk_d4 n (bk_d3 n (bk_d2 (bk_d1 (w.1 2 i))))))) 2 i 0 12 (bk_d5 n (bk_d4 n (bk_d3 n (bk_d2 (bk_d1 (w.1 2 i))))) 0 12 + 1)
      rw [fg_sw_at, fg_sw_sw] at this
      rw [this]
      unfold bk_day bk_tick
      rw [if_neg hc]
/-- t days go by in a world -/
theorem p_days {i n t : Nat} {w : fg_W} (ht : t < 900) (h : bk_I (w.1 2 i) n) : f_X2_passDays i (nI t) w = some (fg_sw w 2 i (bk_days n (w.1 2 i) t)) := by
  unfold f_X2_passDays
  have h := p_daysL (i := i) (n := n) (t := t) (by omega) (fun v2_2 w_2 => some w_2) t 0 fg_fuel w (by omega) (by unfold fg_fuel; omega) h
  rw [nI_0] at h
  exact h
