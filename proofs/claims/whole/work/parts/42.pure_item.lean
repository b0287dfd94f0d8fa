-- texts: words, items
theorem tx_eq_iff (x : Nat → Int32) (s sx : Nat) : ∀ m j, tx_eq x s sx j m = true ↔ ∀ i, j ≤ i → i < j + m → x (s + i) = fg_ch sx i := by
  intro m
  induction m with
  | zero => intro j; exact ⟨fun _ i h1 h2 => absurd h2 (by omega), fun _ => rfl⟩
  | succ m ih =>
    intro j
    rw [tx_eq]
    by_cases h : x (s + j) = fg_ch sx j
    · rw [if_pos h, ih (j + 1)]
      refine ⟨fun g i h1 h2 => ?_, fun g i h1 h2 => g i (by omega) (by omega)⟩
      by_cases e : i = j
      · subst e; exact h
      · exact g i (by omega) (by omega)
    · rw [if_neg h]
      exact ⟨fun z => absurd z (by decide), fun g => absurd (g j (by omega) (by omega)) h⟩
theorem tx_w_iff (x : Nat → Int32) (τ : tx_T) (sx : Nat) : tx_w x τ sx = true ↔ τ.1 = 0 ∧ τ.2.2.1 - τ.2.1 = fg_sn.getD sx 0 ∧ ∀ i, i < fg_sn.getD sx 0 → x (τ.2.1 + i) = fg_ch sx i := by
  unfold tx_w
  rw [Bool.and_eq_true, Bool.and_eq_true, decide_eq_true_iff, decide_eq_true_iff, tx_eq_iff]
  constructor
  · rintro ⟨h1, h2, h3⟩; exact ⟨h1, h2, fun i hi => h3 i (by omega) (by omega)⟩
  · rintro ⟨h1, h2, h3⟩; exact ⟨h1, h2, fun i _ hi => h3 i (by omega)⟩
theorem tx_tbl : ∀ a, a < 16 → ∀ b, b < 16 → a = b ∨ ¬ fg_sn.getD a 0 = fg_sn.getD b 0 ∨ ¬ (∀ j, j < fg_sn.getD a 0 → fg_ch a j = fg_ch b j) := by decide +kernel
theorem tx_w_un {x : Nat → Int32} {τ : tx_T} {a b : Nat} (ha : a < 16) (hb : b < 16) (h1 : tx_w x τ a = true) (h2 : tx_w x τ b = true) : a = b := by
  obtain ⟨_, a2, a3⟩ := (tx_w_iff x τ a).mp h1
  obtain ⟨_, b2, b3⟩ := (tx_w_iff x τ b).mp h2
  rcases tx_tbl a ha b hb with e | e | e
  · exact e
  · exact absurd (a2.symm.trans b2) e
  · exact absurd (fun j hj => (a3 j hj).symm.trans (b3 j (by omega))) e
/-- the word of a row of words, counted from 1; 0 if there is none -/
def tx_i (x : Nat → Int32) (τ : tx_T) (b : Nat) : Nat → Nat
  | 0 => 0
  | m + 1 => if tx_w x τ (b + m) then m + 1 else tx_i x τ b m
theorem tx_i_no {x : Nat → Int32} {τ : tx_T} {b : Nat} : ∀ m, (∀ i, i < m → tx_w x τ (b + i) = false) → tx_i x τ b m = 0 := by
  intro m
  induction m with
  | zero => intro _; rfl
  | succ m ih => intro h; rw [tx_i, h m (by omega), if_neg (by decide)]; exact ih (fun i hi => h i (by omega))
theorem tx_i_of {x : Nat → Int32} {τ : tx_T} {b i : Nat} (h : tx_w x τ (b + i) = true) : ∀ m, i < m → b + m ≤ 16 → tx_i x τ b m = i + 1 := by
  intro m
  induction m with
  | zero => intro h1; omega
  | succ m ih =>
    intro h1 h2
    rw [tx_i]
    by_cases e : i = m
    · subst e; rw [if_pos h]
    · rw [if_neg (fun z => e (by have := tx_w_un (by omega) (by omega) h z; omega)), ih (by omega) (by omega)]
theorem tx_i_le (x : Nat → Int32) (τ : tx_T) (b : Nat) : ∀ m, tx_i x τ b m ≤ m ∧ (0 < tx_i x τ b m → tx_w x τ (b + (tx_i x τ b m - 1)) = true) := by
  intro m
  induction m with
  | zero => exact ⟨Nat.le_refl _, fun h => absurd h (by rw [tx_i]; omega)⟩
  | succ m ih =>
    rw [tx_i]
    by_cases h : tx_w x τ (b + m)
    · rw [if_pos h]; exact ⟨Nat.le_refl _, fun _ => h⟩
    · rw [if_neg h]; exact ⟨by omega, ih.2⟩
theorem p_kow {x : Nat → Int32} {t : Nat} {τ : tx_T} {w : fg_W} (hx : tx_by x t) (h : tc (w.1 1 0) x t τ) (hw : tx_wf x t τ) : f_X1_kindOfWord w = some (bk_sv (tx_i x τ 0 7), w) := by
  have W := fun sx hsx => p_isW (sx := sx) hx hsx h hw
  have N : ∀ i, i < 7 → tx_w x τ i = true → tx_i x τ 0 7 = i + 1 := fun i hi z => tx_i_of (b := 0) (i := i) (by rw [Nat.zero_add]; exact z) 7 hi (by omega)
  unfold f_X1_kindOfWord
  rw [W 0 (by decide), fg_bi_some]
  cases h0 : tx_w x τ 0 with
  | true => rw [if_pos rfl, if_neg (by decide), N 0 (by omega) h0]; rfl
  | false =>
    rw [if_pos (by decide), W 1 (by decide), fg_bi_some]
    cases h1 : tx_w x τ 1 with
    | true => rw [if_pos rfl, if_neg (by decide), N 1 (by omega) h1]; rfl
    | false =>
      rw [if_pos (by decide), W 2 (by decide), fg_bi_some]
      cases h2 : tx_w x τ 2 with
      | true => rw [if_pos rfl, if_neg (by decide), N 2 (by omega) h2]; rfl
      | false =>
        rw [if_pos (by decide), W 3 (by decide), fg_bi_some]
        cases h3 : tx_w x τ 3 with
        | true => rw [if_pos rfl, if_neg (by decide), N 3 (by omega) h3]; rfl
        | false =>
          rw [if_pos (by decide), W 4 (by decide), fg_bi_some]
          cases h4 : tx_w x τ 4 with
          | true => rw [if_pos rfl, if_neg (by decide), N 4 (by omega) h4]; rfl
          | false =>
            rw [if_pos (by decide), W 5 (by decide), fg_bi_some]
            cases h5 : tx_w x τ 5 with
            | true => rw [if_pos rfl, if_neg (by decide), N 5 (by omega) h5]; rfl
            | false =>
              rw [if_pos (by decide), W 6 (by decide), fg_bi_some]
              cases h6 : tx_w x τ 6 with
              | true => rw [if_pos rfl, if_neg (by decide), N 6 (by omega) h6]; rfl
              | false =>
                rw [if_pos (by decide), tx_i_no 7 (fun i hi => ?_)]
                · rfl
                · rw [Nat.zero_add]
                  have : i = 0 ∨ i = 1 ∨ i = 2 ∨ i = 3 ∨ i = 4 ∨ i = 5 ∨ i = 6 := by omega
                  rcases this with rfl | rfl | rfl | rfl | rfl | rfl | rfl <;> assumption
def tx_item (x : Nat → Int32) (t : Nat) (u : tx_U) : Nat ⊕ tx_U := if 0 < tx_i x u.2 0 7 then tx_per x t (tx_i x u.2 0 7 - 1) u else if tx_w x u.2 7 then tx_lot x t (u.1, tx_tok x t u.2.2.2.1) else if tx_w x u.2 8 then tx_sun x t (u.1, tx_tok x t u.2.2.2.1) else if tx_w x u.2 9 then tx_mis x t (u.1, tx_tok x t u.2.2.2.1) else .inl u.2.2.1
theorem p_item {w0 : fg_W} {x : Nat → Int32} {t : Nat} {u : tx_U} {w : fg_W} {n : Nat} (hx : tx_by x t) (hN : bk_N u.1 n) (h : cr w0 x t (.inr u) w) : ∃ w', f_X1_tellItem 1 w = some w' ∧ cr w0 x t (tx_item x t u) w' := by
  have h' := h
  have ht := hx.1
  obtain ⟨d, rfl, h1, h2, h3⟩ := h
  have g1 := h3.1
  have g2 := h3.2.1
  unfold f_X1_tellItem tx_item
  rw [p_kow hx (by rw [tx_W_d]; exact h1) h3, fg_bi_some]
  have hi := (tx_i_le x u.2 0 7).1
  by_cases hp : 0 < tx_i x u.2 0 7
  · obtain ⟨m, hm⟩ : ∃ m, tx_i x u.2 0 7 = m + 1 := ⟨_, (Nat.sub_add_cancel hp).symm⟩
    rw [if_pos hp, hm, bk_sv, if_neg (nI_pos (by omega)), Nat.add_sub_cancel]
    obtain ⟨w', a1, a2⟩ := p_per (q := m) hx hN h'
    exact ⟨w', by rw [a1, fg_bv_some], a2⟩
  · have h0 : tx_i x u.2 0 7 = 0 := by omega
    rw [if_neg hp, h0, bk_sv, if_pos (by decide)]
    rcases p_took (sx := 7) (w0 := w0) (A := u.1) hx (by decide) h1 h3 h2 with ⟨a0, d1, a1, a2, a3, a4⟩ | ⟨a0, a1⟩
    · rw [a1, fg_bi_some, if_neg (by decide), if_pos a0]
      obtain ⟨w', b1, b2⟩ := p_lot (w0 := w0) (u := (u.1, tx_tok x t u.2.2.2.1)) hx ⟨d1, rfl, a2, a3, a4⟩
      exact ⟨w', by rw [b1, fg_bv_some], b2⟩
    · rw [a1, fg_bi_some, if_pos rfl, a0, if_neg (by decide)]
      rcases p_took (sx := 8) (w0 := w0) (A := u.1) hx (by decide) h1 h3 h2 with ⟨a0, d1, a1, a2, a3, a4⟩ | ⟨a0, a1⟩
      · rw [a1, fg_bi_some, if_neg (by decide), if_pos a0]
        obtain ⟨w', b1, b2⟩ := p_sun (w0 := w0) (u := (u.1, tx_tok x t u.2.2.2.1)) hx ⟨d1, rfl, a2, a3, a4⟩
        exact ⟨w', by rw [b1, fg_bv_some], b2⟩
      · rw [a1, fg_bi_some, if_pos rfl, a0, if_neg (by decide)]
        rcases p_took (sx := 9) (w0 := w0) (A := u.1) hx (by decide) h1 h3 h2 with ⟨a0, d1, a1, a2, a3, a4⟩ | ⟨a0, a1⟩
        · rw [a1, fg_bi_some, if_neg (by decide), if_pos a0]
          exact p_mis (w0 := w0) (u := (u.1, tx_tok x t u.2.2.2.1)) hx ⟨d1, rfl, a2, a3, a4⟩
        · rw [a1, fg_bi_some, if_pos rfl, a0, if_neg (by decide), p_fh h2, fg_bv_some]
          exact ⟨_, rfl, _, _, rfl, by rw [bk_same]; exact h1.2.2.2.1, by omega⟩
-- what holds of a bank that is being told
def tx_P (x : Nat → Int32) (t lo n : Nat) (z : Int32) (u : tx_U) : Prop := tx_wf x t u.2 ∧ lo ≤ u.2.2.1 ∧ bk_I u.1 n ∧ u.1 0 11 = z
theorem tx_f_P {x : Nat → Int32} {t lo n sx c k : Nat} {z : Int32} {hp : (Nat → Nat → Int32) → Int32} (hI : ∀ A v, bk_I A n → nI v ≤ hp A → v ≤ 10000 → bk_I (bk_set A c k (nI v)) n) (hc : c ≠ 0) {u u' : tx_U} (h : tx_P x t lo n z u) (e : tx_f x t sx hp c k u = .inr u') : tx_P x t lo n z u' := by
  obtain ⟨h1, h2, h3, h4⟩ := h
  have g1 := h1.1
  obtain ⟨a1, a2⟩ := tx_tok_wf x h1.2.1
  obtain ⟨b1, b2⟩ := tx_tok_wf x a1.2.1
  have g2 := a1.1
  unfold tx_f at e
  by_cases q1 : tx_w x u.2 sx
  · rw [if_pos q1] at e
    by_cases q2 : tx_n (tx_tok x t u.2.2.2.1) (hp u.1)
    · rw [if_pos q2] at e
      cases e
      refine ⟨b1, ?_, hI _ _ h3 ?_ a1.2.2.2.2.2.1, ?_⟩
      · show lo ≤ (tx_tok x t (tx_tok x t u.2.2.2.1).2.2.1).2.1
        omega
      · unfold tx_n at q2
        rw [Bool.and_eq_true] at q2
        exact of_decide_eq_true q2.2
      · exact (bk_nc _ _ (fun w => hc w.symm) _).trans h4
    · rw [if_neg q2] at e; cases e
  · rw [if_neg q1] at e
    cases e
    exact ⟨h1, h2, h3, h4⟩
theorem tx_b_P {P : tx_U → Prop} {r : Nat ⊕ tx_U} {f : tx_U → Nat ⊕ tx_U} (h : ∀ u, r = .inr u → P u) (hf : ∀ u u', P u → f u = .inr u' → P u') : ∀ u', tx_b r f = .inr u' → P u' := by
  intro u' e
  cases r with
  | inl p => cases e
  | inr u => exact hf u u' (h u rfl) e
theorem tx_item_P {x : Nat → Int32} {t lo n : Nat} {z : Int32} {u u' : tx_U} (h : tx_P x t lo n z u) (e : tx_item x t u = .inr u') : ∃ n', tx_P x t (lo + 1) n' z u' := by
  obtain ⟨h1, h2, h3, h4⟩ := h
  have h8 := h3.1.2
  have hn : tx_pn u.1 = n := by unfold tx_pn; rw [h3.1.1, nI_clamp (by omega)]
  have g1 := h1.1
  obtain ⟨a1, a2⟩ := tx_tok_wf x h1.2.1
  have word : ∀ sx, tx_w x u.2 sx = true → lo + 1 ≤ (tx_tok x t u.2.2.2.1).2.1 := fun sx hs => by
    have := (tx_w_iff x u.2 sx).mp hs
    have := h1.2.2.2.1 (by rw [this.1]; decide)
    omega
  have iv : ∀ (N v : Nat), N < 2 ^ 31 → v ≤ 10000 → nI v ≤ nI N → v ≤ N := fun N v hN hv q => (nI_leI (by omega) hN).mp q
  unfold tx_item at e
  by_cases hp : 0 < tx_i x u.2 0 7
  · obtain ⟨q1, q2⟩ := tx_i_le x u.2 0 7
    have q2 := q2 hp
    rw [if_pos hp] at e
    unfold tx_per at e
    rw [hn] at e
    by_cases hc : n < 8
    · rw [if_pos hc] at e
      have P0 : tx_P x t (lo + 1) (n + 1) z (bk_addp u.1 n (nI (tx_i x u.2 0 7 - 1)), tx_tok x t u.2.2.2.1) := by
        refine ⟨a1, word _ q2, h3.addp hc (by omega), ?_⟩
        show bk_addp u.1 n (nI (tx_i x u.2 0 7 - 1)) 0 11 = z
        unfold bk_addp
        rw [bk_ne _ _ (Or.inr (by decide)), bk_nc _ _ (by decide), bk_nc _ _ (by decide), bk_nc _ _ (by decide), bk_nc _ _ (by decide), bk_nc _ _ (by decide)]
        exact h4
      refine ⟨n + 1, tx_b_P (P := tx_P x t (lo + 1) (n + 1) z) (tx_b_P (P := tx_P x t (lo + 1) (n + 1) z) ?_ ?_) ?_ u' e⟩
      · exact fun u1 e1 => tx_f_P (fun A v hA hv h0 => hA.set (by decide) (by omega) (by omega) (by omega) (fun _ => Or.inr ⟨v, by have := iv 9 v (by decide) h0 hv; omega, rfl⟩) (by omega) (by omega) (by omega) (by omega)) (by decide) P0 e1
      · exact fun u1 u2 P1 e1 => tx_f_P (fun A v hA hv h0 => hA.set (by decide) (by omega) (by omega) (by omega) (by omega) (fun _ => ⟨v, iv 99 v (by decide) h0 hv, rfl⟩) (by omega) (by omega) (by omega)) (by decide) P1 e1
      · exact fun u1 u2 P1 e1 => tx_f_P (fun A v hA hv h0 => hA.set (by decide) (by omega) (by omega) (by omega) (by omega) (by omega) (fun _ => ⟨v, iv 9999 v (by decide) h0 hv, rfl⟩) (by omega) (by omega)) (by decide) P1 e1
    · rw [if_neg hc] at e; cases e
  · rw [if_neg hp] at e
    have P0 : ∀ sx, tx_w x u.2 sx = true → tx_P x t (lo + 1) n z (u.1, tx_tok x t u.2.2.2.1) := fun sx hs => ⟨a1, word sx hs, h3, h4⟩
    by_cases c7 : tx_w x u.2 7
    · rw [if_pos c7] at e
      have P1 := P0 7 c7
      unfold tx_lot at e
      by_cases hv : tx_n (tx_tok x t u.2.2.2.1) 9
      · rw [if_pos hv] at e
        obtain ⟨b1, b2⟩ := tx_tok_wf x a1.2.1
        have g2 := a1.1
        have P2 : tx_P x t (lo + 1) n z (u.1, tx_tok x t (tx_tok x t u.2.2.2.1).2.2.1) := ⟨b1, by show lo + 1 ≤ (tx_tok x t (tx_tok x t u.2.2.2.1).2.2.1).2.1; have : lo + 1 ≤ (tx_tok x t u.2.2.2.1).2.1 := P1.2.1; omega, h3, h4⟩
        refine ⟨n, tx_b_P (P := tx_P x t (lo + 1) n z) (tx_b_P (P := tx_P x t (lo + 1) n z) ?_ ?_) ?_ u' e⟩
        · exact fun u1 e1 => tx_f_P (fun A v hA hv h0 => hA.set (by decide) (by omega) (by omega) (by omega) (by omega) (by omega) (by omega) (by omega) (by omega)) (by decide) P2 e1
        · exact fun u1 u2 P1 e1 => tx_f_P (fun A v hA hv h0 => hA.set (by decide) (fun _ => ⟨v, iv 20 v (by decide) h0 hv, rfl⟩) (by omega) (by omega) (by omega) (by omega) (by omega) (by omega) (by omega)) (by decide) P1 e1
        · refine fun u1 u2 P1 e1 => tx_f_P (fun A v hA hv h0 => hA.set (by decide) (by omega) (fun _ => Or.inr ⟨v, ?_, rfl⟩) (by omega) (by omega) (by omega) (by omega) (by omega) (by omega)) (by decide) P1 e1
          have hN := hA.1
          rw [hN.1] at hv
          cases n with
          | zero => exact absurd (Int32.le_trans (nI_pos' (n := v) (by omega)) hv) (by decide)
          | succ m =>
            rw [nI_pred] at hv
            have := iv m v (by omega) h0 hv
            omega
      · rw [if_neg hv] at e; cases e
    · rw [if_neg c7] at e
      by_cases c8 : tx_w x u.2 8
      · rw [if_pos c8] at e
        have P1 := P0 8 c8
        obtain ⟨b1, b2⟩ := tx_tok_wf x a1.2.1
        obtain ⟨d1, d2⟩ := tx_tok_wf x b1.2.1
        have g2 := a1.1
        have g3 := b1.1
        unfold tx_sun at e
        by_cases hv : tx_n (tx_tok x t u.2.2.2.1) 5
        · rw [if_pos hv] at e
          by_cases hv2 : tx_n (tx_tok x t (tx_tok x t u.2.2.2.1).2.2.1) 40
          · rw [if_pos hv2] at e
            cases e
            refine ⟨n, d1, ?_, h3.set (by decide) (by omega) (by omega) (by omega) (by omega) (by omega) (by omega) (by omega) (by omega), ?_⟩
            · have : lo + 1 ≤ (tx_tok x t u.2.2.2.1).2.1 := P1.2.1
              show lo + 1 ≤ (tx_tok x t (tx_tok x t (tx_tok x t u.2.2.2.1).2.2.1).2.2.1).2.1
              omega
            · show bk_set u.1 4 (tx_tok x t u.2.2.2.1).2.2.2 (nI (tx_tok x t (tx_tok x t u.2.2.2.1).2.2.1).2.2.2) 0 11 = z
              rw [bk_nc _ _ (by decide)]; exact h4
          · rw [if_neg hv2] at e; cases e
        · rw [if_neg hv] at e; cases e
      · rw [if_neg c8] at e
        by_cases c9 : tx_w x u.2 9
        · rw [if_pos c9] at e
          have P1 := P0 9 c9
          obtain ⟨b1, b2⟩ := tx_tok_wf x a1.2.1
          have g2 := a1.1
          unfold tx_mis at e
          by_cases hv : tx_n (tx_tok x t u.2.2.2.1) 40
          · rw [if_pos hv] at e
            cases e
            refine ⟨n, b1, ?_, h3.cong (fun c j _ _ _ h0 _ _ => bk_ne _ _ (by omega)), ?_⟩
            · have : lo + 1 ≤ (tx_tok x t u.2.2.2.1).2.1 := P1.2.1
              show lo + 1 ≤ (tx_tok x t (tx_tok x t u.2.2.2.1).2.2.1).2.1
              omega
            · show bk_set u.1 0 4 (nI (tx_tok x t u.2.2.2.1).2.2.2) 0 11 = z
              rw [bk_ne _ _ (Or.inr (by decide))]; exact h4
          · rw [if_neg hv] at e; cases e
        · rw [if_neg c9] at e; cases e
