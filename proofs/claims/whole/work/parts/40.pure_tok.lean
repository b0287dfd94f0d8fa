-- texts: tokens
def tx_L (v : Int32) : Bool := decide (¬ v < 97 ∧ ¬ 122 < v)
def tx_D (v : Int32) : Bool := decide (¬ v < 48 ∧ ¬ 57 < v)
def tx_sk (x : Nat → Int32) : Nat → Nat → Nat
  | p, 0 => p
  | p, m + 1 => if x p = 32 then tx_sk x (p + 1) m else p
def tx_le (P : Int32 → Bool) (x : Nat → Int32) : Nat → Nat → Nat
  | p, 0 => p
  | p, m + 1 => if P (x p) then tx_le P x (p + 1) m else p
def tx_nv (x : Nat → Int32) : Nat → Nat → Nat → Nat
  | _, 0, a => a
  | p, m + 1, a => if tx_D (x p) then tx_nv x (p + 1) m (min (a * 10 + ((x p).toNatClampNeg - 48)) 10000) else a
abbrev tx_T : Type := Nat × Nat × Nat × Nat
def tx_tk (x : Nat → Int32) (t s : Nat) : tx_T := if s = t then (3, s, s, 0) else if tx_L (x s) then (0, s, tx_le tx_L x s (t - s), 0) else if tx_D (x s) then (1, s, tx_le tx_D x s (t - s), tx_nv x s (t - s) 0) else if x s = 59 then (2, s, s + 1, 0) else (4, s, s + 1, 0)
def tx_tok (x : Nat → Int32) (t p : Nat) : tx_T := tx_tk x t (tx_sk x p (t - p))
theorem tx_sk_in (x : Nat → Int32) : ∀ m p, p ≤ tx_sk x p m ∧ tx_sk x p m ≤ p + m := by
  intro m
  induction m with
  | zero => intro p; exact ⟨Nat.le_refl _, Nat.le_refl _⟩
  | succ m ih =>
    intro p
    rw [tx_sk]
    split
    · have := ih (p + 1); omega
    · omega
theorem tx_le_in (P : Int32 → Bool) (x : Nat → Int32) : ∀ m p, p ≤ tx_le P x p m ∧ tx_le P x p m ≤ p + m ∧ (∀ j, p ≤ j → j < tx_le P x p m → P (x j) = true) ∧ (0 < m → P (x p) = true → p < tx_le P x p m) := by
  intro m
  induction m with
  | zero => intro p; exact ⟨Nat.le_refl _, Nat.le_refl _, fun j h1 h2 => absurd h2 (by rw [tx_le]; omega), fun h => absurd h (by omega)⟩
  | succ m ih =>
    intro p
    obtain ⟨i1, i2, i3, i4⟩ := ih (p + 1)
    rw [tx_le]
    by_cases h : P (x p)
    · rw [if_pos h]
      refine ⟨by omega, by omega, fun j h1 h2 => ?_, fun _ _ => by omega⟩
      by_cases e : j = p
      · subst e; exact h
      · exact i3 j (by omega) h2
    · rw [if_neg h]
      exact ⟨by omega, by omega, fun j h1 h2 => absurd h2 (by omega), fun _ z => absurd z h⟩
theorem tx_nv_le (x : Nat → Int32) : ∀ m p a, a ≤ 10000 → tx_nv x p m a ≤ 10000 := by
  intro m
  induction m with
  | zero => intro p a h; exact h
  | succ m ih =>
    intro p a h
    rw [tx_nv]
    split
    · exact ih _ _ (by omega)
    · exact h
def tx_wf (x : Nat → Int32) (t : Nat) (τ : tx_T) : Prop := τ.2.1 ≤ τ.2.2.1 ∧ τ.2.2.1 ≤ t ∧ (τ.1 = 3 → τ.2.1 = t) ∧ (τ.1 ≠ 3 → τ.2.1 < τ.2.2.1) ∧ (τ.1 = 0 → ∀ j, τ.2.1 ≤ j → j < τ.2.2.1 → tx_L (x j) = true) ∧ τ.2.2.2 ≤ 10000 ∧ τ.1 ≤ 4
theorem tx_tk_wf (x : Nat → Int32) {t s : Nat} (h : s ≤ t) : tx_wf x t (tx_tk x t s) ∧ (tx_tk x t s).2.1 = s := by
  unfold tx_tk
  by_cases h1 : s = t
  · rw [if_pos h1]
    exact ⟨⟨Nat.le_refl _, by omega, fun _ => h1, fun z => absurd rfl z, fun z => absurd z (show ¬ 3 = 0 by decide), show 0 ≤ 10000 by decide, show 3 ≤ 4 by decide⟩, rfl⟩
  · rw [if_neg h1]
    by_cases h2 : tx_L (x s)
    · rw [if_pos h2]
      obtain ⟨i1, i2, i3, i4⟩ := tx_le_in tx_L x (t - s) s
      exact ⟨⟨i1, show tx_le tx_L x s (t - s) ≤ t by omega, fun z => absurd z (show ¬ 0 = 3 by decide), fun _ => i4 (by omega) h2, fun _ => i3, show 0 ≤ 10000 by decide, show 0 ≤ 4 by decide⟩, rfl⟩
    · rw [if_neg h2]
      by_cases h3 : tx_D (x s)
      · rw [if_pos h3]
        obtain ⟨i1, i2, i3, i4⟩ := tx_le_in tx_D x (t - s) s
        exact ⟨⟨i1, show tx_le tx_D x s (t - s) ≤ t by omega, fun z => absurd z (show ¬ 1 = 3 by decide), fun _ => i4 (by omega) h3, fun z => absurd z (show ¬ 1 = 0 by decide), tx_nv_le x _ _ _ (by omega), show 1 ≤ 4 by decide⟩, rfl⟩
      · rw [if_neg h3]
        by_cases h4 : x s = 59
        · rw [if_pos h4]
          exact ⟨⟨show s ≤ s + 1 by omega, show s + 1 ≤ t by omega, fun z => absurd z (show ¬ 2 = 3 by decide), fun _ => show s < s + 1 by omega, fun z => absurd z (show ¬ 2 = 0 by decide), show 0 ≤ 10000 by decide, show 2 ≤ 4 by decide⟩, rfl⟩
        · rw [if_neg h4]
          exact ⟨⟨show s ≤ s + 1 by omega, show s + 1 ≤ t by omega, fun z => absurd z (show ¬ 4 = 3 by decide), fun _ => show s < s + 1 by omega, fun z => absurd z (show ¬ 4 = 0 by decide), show 0 ≤ 10000 by decide, show 4 ≤ 4 by decide⟩, rfl⟩
theorem tx_tok_wf (x : Nat → Int32) {t p : Nat} (h : p ≤ t) : tx_wf x t (tx_tok x t p) ∧ p ≤ (tx_tok x t p).2.1 := by
  have hs := tx_sk_in x (t - p) p
  obtain ⟨a, b⟩ := tx_tk_wf x (t := t) (s := tx_sk x p (t - p)) (by omega)
  exact ⟨a, by unfold tx_tok; rw [b]; exact hs.1⟩
def tx_by (x : Nat → Int32) (t : Nat) : Prop := t ≤ 120 ∧ ∀ j, j < t → ∃ b, b < 256 ∧ x j = nI b
-- the class's tape
theorem bk_set2 (A : Nat → Nat → Int32) (c j : Nat) (u v : Int32) : bk_set (bk_set A c j u) c j v = bk_set A c j v := by
  funext c' j'
  unfold bk_set
  split
  · rfl
  · rfl
theorem p_isL (v : Int32) (w : fg_W) : f_X1_isLetter v w = some (if tx_L v then 1 else 0, w) := by
  unfold f_X1_isLetter tx_L
  by_cases h1 : v < 97
  · rw [if_pos h1]; simp [h1]
  · rw [if_neg h1]
    by_cases h2 : 122 < v
    · rw [if_pos h2]; simp [h2]
    · rw [if_neg h2]; simp [h1, h2]
theorem p_isD (v : Int32) (w : fg_W) : f_X1_isDigit v w = some (if tx_D v then 1 else 0, w) := by
  unfold f_X1_isDigit tx_D
  by_cases h1 : v < 48
  · rw [if_pos h1]; simp [h1]
  · rw [if_neg h1]
    by_cases h2 : 57 < v
    · rw [if_pos h2]; simp [h2]
    · rw [if_neg h2]; simp [h1, h2]
theorem p_skL {x : Nat → Int32} {t : Nat} (ht : t ≤ 120) (K : fg_W → Option fg_W) : ∀ (m p fu : Nat) (w : fg_W), p + m = t → m < fu → w.1 1 0 1 = x → w.1 1 0 0 1 = nI t → w.1 1 0 0 4 = nI p → f_X1_nextToken_L8 K fu w = K (fg_sw w 1 0 (bk_set (w.1 1 0) 0 4 (nI (tx_sk x p m)))) := by
  intro m
  induction m with
  | zero =>
    intro p fu w hp hf h1 h2 h3
    obtain ⟨fu, rfl⟩ : ∃ z, fu = z + 1 := ⟨fu - 1, by omega⟩
    have e : fg_sw w 1 0 (bk_set (w.1 1 0) 0 4 (nI p)) = w := by rw [← h3, bk_set_id, fg_sw_id]
    rw [f_X1_nextToken_L8, h2, h3, if_pos (nI_le (by omega) (by omega)), tx_sk, e]
  | succ m ih =>
    intro p fu w hp hf h1 h2 h3
    obtain ⟨fu, rfl⟩ : ∃ z, fu = z + 1 := ⟨fu - 1, by omega⟩
    rw [f_X1_nextToken_L8, h2, h3, if_neg (nI_ge (by omega) (by omega)), fg_gd_nI (show p < 120 by omega) (by decide), nI_clamp (by omega), h1, tx_sk]
    by_cases hc : x p = 32
    · rw [if_pos hc, if_pos hc, fg_let_eq, fg_st_set, nI_1, ih (p + 1) fu _ (by omega) (by omega) (by rw [fg_sw_at, bk_setc _ (by decide)]; exact h1) (by rw [fg_sw_at, bk_ne _ _ (Or.inr (by decide))]; exact h2) (by rw [fg_sw_at, bk_same]), fg_sw_at, fg_sw_sw, bk_set2]
    · have e : fg_sw w 1 0 (bk_set (w.1 1 0) 0 4 (nI p)) = w := by rw [← h3, bk_set_id, fg_sw_id]
      rw [if_neg hc, if_neg hc, e]
theorem p_wdL {x : Nat → Int32} {t : Nat} (ht : t ≤ 120) (K : fg_W → Option fg_W) : ∀ (m p fu : Nat) (w : fg_W), p + m = t → m < fu → w.1 1 0 1 = x → w.1 1 0 0 1 = nI t → w.1 1 0 0 5 = nI p → f_X1_readWord_L5 K fu w = K (fg_sw w 1 0 (bk_set (w.1 1 0) 0 5 (nI (tx_le tx_L x p m)))) := by
  intro m
  induction m with
  | zero =>
    intro p fu w hp hf h1 h2 h3
    obtain ⟨fu, rfl⟩ : ∃ z, fu = z + 1 := ⟨fu - 1, by omega⟩
    have e : fg_sw w 1 0 (bk_set (w.1 1 0) 0 5 (nI p)) = w := by rw [← h3, bk_set_id, fg_sw_id]
    rw [f_X1_readWord_L5, h2, h3, if_pos (nI_le (by omega) (by omega)), tx_le, e]
  | succ m ih =>
    intro p fu w hp hf h1 h2 h3
    obtain ⟨fu, rfl⟩ : ∃ z, fu = z + 1 := ⟨fu - 1, by omega⟩
    rw [f_X1_readWord_L5, h2, h3, if_neg (nI_ge (by omega) (by omega)), fg_gd_nI (show p < 120 by omega) (by decide), nI_clamp (by omega), h1, p_isL, fg_bi_some, tx_le]
    by_cases hc : tx_L (x p)
    · rw [if_pos hc, if_neg (by decide), if_pos hc, fg_let_eq, fg_st_set, h3, nI_1, ih (p + 1) fu _ (by omega) (by omega) (by rw [fg_sw_at, bk_setc _ (by decide)]; exact h1) (by rw [fg_sw_at, bk_ne _ _ (Or.inr (by decide))]; exact h2) (by rw [fg_sw_at, bk_same]), fg_sw_at, fg_sw_sw, bk_set2]
    · have e : fg_sw w 1 0 (bk_set (w.1 1 0) 0 5 (nI p)) = w := by rw [← h3, bk_set_id, fg_sw_id]
      rw [if_neg hc, if_pos rfl, if_neg hc, e]
theorem tx_D_nI {b : Nat} (hb : b < 256) (h : tx_D (nI b) = true) : 48 ≤ b ∧ b ≤ 57 := by
  have h' := of_decide_eq_true h
  constructor
  · have := h'.1
    rw [show (48 : Int32) = nI 48 from rfl, bk_lt_iff (by omega) (by omega)] at this
    omega
  · have := h'.2
    rw [show (57 : Int32) = nI 57 from rfl, bk_lt_iff (by omega) (by omega)] at this
    omega
theorem tx_L_nI {b : Nat} (hb : b < 256) (h : tx_L (nI b) = true) : 97 ≤ b ∧ b ≤ 122 := by
  have h' := of_decide_eq_true h
  constructor
  · have := h'.1
    rw [show (97 : Int32) = nI 97 from rfl, bk_lt_iff (by omega) (by omega)] at this
    omega
  · have := h'.2
    rw [show (122 : Int32) = nI 122 from rfl, bk_lt_iff (by omega) (by omega)] at this
    omega
theorem bk_swp (A : Nat → Nat → Int32) (c j j' : Nat) (u v : Int32) (h : j ≠ j') : bk_set (bk_set A c j u) c j' v = bk_set (bk_set A c j' v) c j u := by
  funext c' q
  unfold bk_set
  by_cases h1 : c' = c ∧ q = j'
  · rw [if_pos h1, if_neg (by omega), if_pos h1]
  · rw [if_neg h1, if_neg h1]
theorem p_nuL {x : Nat → Int32} {t : Nat} (hx : tx_by x t) (K : fg_W → Option fg_W) : ∀ (m p a fu : Nat) (w : fg_W), p + m = t → m < fu → a ≤ 10000 → w.1 1 0 1 = x → w.1 1 0 0 1 = nI t → w.1 1 0 0 5 = nI p → w.1 1 0 0 6 = nI a → f_X1_readNumber_L10 K fu w = K (fg_sw w 1 0 (bk_set (bk_set (w.1 1 0) 0 6 (nI (tx_nv x p m a))) 0 5 (nI (tx_le tx_D x p m)))) := by
  have ht := hx.1
  intro m
  induction m with
  | zero =>
    intro p a fu w hp hf ha h1 h2 h3 h4
    obtain ⟨fu, rfl⟩ : ∃ z, fu = z + 1 := ⟨fu - 1, by omega⟩
    have e : fg_sw w 1 0 (bk_set (bk_set (w.1 1 0) 0 6 (nI a)) 0 5 (nI p)) = w := by rw [← h4, bk_set_id, ← h3, bk_set_id, fg_sw_id]
    rw [f_X1_readNumber_L10, h2, h3, if_pos (nI_le (by omega) (by omega)), tx_le, tx_nv, e]
  | succ m ih =>
    intro p a fu w hp hf ha h1 h2 h3 h4
    obtain ⟨fu, rfl⟩ : ∃ z, fu = z + 1 := ⟨fu - 1, by omega⟩
    obtain ⟨b, hb, eb⟩ := hx.2 p (by omega)
    rw [f_X1_readNumber_L10, h2, h3, if_neg (nI_ge (by omega) (by omega)), fg_gd_nI (show p < 120 by omega) (by decide), nI_clamp (by omega), h1, p_isD, fg_bi_some, tx_le, tx_nv]
    by_cases hc : tx_D (x p)
    · have hd : 48 ≤ b ∧ b ≤ 57 := tx_D_nI hb (by rw [← eb]; exact hc)
      have ev : (if ((nI a * 10) + x p) - 48 < 10000 then ((nI a * 10) + x p) - 48 else 10000) = nI (min (a * 10 + ((x p).toNatClampNeg - 48)) 10000) := by
        rw [eb, nI_clamp (by omega), show (10 : Int32) = nI 10 from rfl, pk_mul, nI_add, show (48 : Int32) = nI 48 from rfl, pk_sub (by omega), show (10000 : Int32) = nI 10000 from rfl, show a * 10 + b - 48 = a * 10 + (b - 48) by omega]
        by_cases hl : a * 10 + (b - 48) < 10000
        · rw [if_pos (nI_lt hl (by omega)), Nat.min_eq_left (by omega)]
        · rw [if_neg (nI_nlt (by omega) (by omega)), Nat.min_eq_right (by omega)]
      rw [if_pos hc, if_neg (by decide), if_pos hc, if_pos hc, h3, fg_gd_nI (show p < 120 by omega) (by decide), fg_let_eq, fg_let_eq, nI_clamp (by omega), h1, h4, ev, fg_st_set, fg_st_set, fg_sw_at, fg_sw_sw, bk_ne _ _ (Or.inr (by decide)), h3, nI_1, ih (p + 1) _ fu _ (by omega) (by omega) (Nat.min_le_right _ _) (by rw [fg_sw_at, bk_setc _ (by decide), bk_setc _ (by decide)]; exact h1) (by rw [fg_sw_at, bk_ne _ _ (Or.inr (by decide)), bk_ne _ _ (Or.inr (by decide))]; exact h2) (by rw [fg_sw_at, bk_same]) (by rw [fg_sw_at, bk_ne _ _ (Or.inr (by decide)), bk_same]), fg_sw_at, fg_sw_sw, bk_swp _ 0 5 6 _ _ (by decide), bk_set2, bk_set2]
    · have e : fg_sw w 1 0 (bk_set (bk_set (w.1 1 0) 0 6 (nI a)) 0 5 (nI p)) = w := by rw [← h4, bk_set_id, ← h3, bk_set_id, fg_sw_id]
      rw [if_neg hc, if_pos rfl, if_neg hc, if_neg hc, e]
theorem fg_st_sw (w : fg_W) (K i c j : Nat) (d : Nat → Nat → Int32) (v : Int32) : fg_st (fg_sw w K i d) K i c (upd (d c) j v) = fg_sw w K i (bk_set d c j v) := by
  have h := fg_st_set (fg_sw w K i d) K i c j v
  rw [fg_sw_at, fg_sw_sw] at h
  exact h
/-- the token under the class's hand -/
def tc (d : Nat → Nat → Int32) (x : Nat → Int32) (t : Nat) (τ : tx_T) : Prop := d 1 = x ∧ d 0 1 = nI t ∧ d 0 3 = nI τ.1 ∧ d 0 4 = nI τ.2.1 ∧ d 0 5 = nI τ.2.2.1 ∧ (τ.1 = 1 → d 0 6 = nI τ.2.2.2)
theorem p_next {x : Nat → Int32} {t p : Nat} {w : fg_W} (hx : tx_by x t) (hp : p ≤ t) (h1 : w.1 1 0 1 = x) (h2 : w.1 1 0 0 1 = nI t) (h3 : w.1 1 0 0 5 = nI p) : ∃ d, f_X1_nextToken w = some (fg_sw w 1 0 d) ∧ tc d x t (tx_tok x t p) ∧ d 0 2 = w.1 1 0 0 2 := by
  have ht := hx.1
  have hs := tx_sk_in x (t - p) p
  unfold f_X1_nextToken
  rw [fg_let_eq, fg_st_set, h3, p_skL (x := x) (t := t) ht _ (t - p) p fg_fuel _ (by omega) (by unfold fg_fuel; omega) (by rw [fg_sw_at, bk_setc _ (by decide)]; exact h1) (by rw [fg_sw_at, bk_ne _ _ (Or.inr (by decide))]; exact h2) (by rw [fg_sw_at, bk_same]), fg_sw_at, fg_sw_sw, bk_set2]
  unfold tx_tok
  generalize tx_sk x p (t - p) = s at *
  rw [fg_st_set, fg_sw_at, fg_sw_sw, bk_same, fg_let_eq]
  have key : ∀ D : Nat → Nat → Int32, D = bk_set (bk_set (w.1 1 0) 0 4 (nI s)) 0 5 (nI s) → D 1 = x ∧ D 0 1 = nI t ∧ D 0 4 = nI s ∧ D 0 5 = nI s ∧ D 0 2 = w.1 1 0 0 2 := by
    intro D hD
    subst hD
    refine ⟨?_, ?_, ?_, ?_, ?_⟩
    · rw [bk_setc _ (by decide), bk_setc _ (by decide)]; exact h1
    · rw [bk_ne _ _ (Or.inr (by decide)), bk_ne _ _ (Or.inr (by decide))]; exact h2
    · rw [bk_ne _ _ (Or.inr (by decide)), bk_same]
    · rw [bk_same]
    · rw [bk_ne _ _ (Or.inr (by decide)), bk_ne _ _ (Or.inr (by decide))]
  generalize hD : bk_set (bk_set (w.1 1 0) 0 4 (nI s)) 0 5 (nI s) = D
  obtain ⟨k1, k2, k4, k5, k6⟩ := key D hD.symm
  simp only [fg_sw_at, k2, k4, k1, nI_clamp (show s < 2 ^ 31 by omega)]
  unfold tx_tk
  by_cases e0 : s = t
  · rw [if_neg (show ¬ nI s < nI t from nI_nlt (by omega) (by omega)), fg_let_eq, fg_st_sw, if_pos e0]
    refine ⟨_, rfl, ⟨?_, ?_, ?_, ?_, ?_, fun z => absurd z (show ¬ 3 = 1 by decide)⟩, ?_⟩
    · rw [bk_setc _ (by decide)]; exact k1
    · rw [bk_ne _ _ (Or.inr (by decide))]; exact k2
    · rw [bk_same]; rfl
    · rw [bk_ne _ _ (Or.inr (by decide))]; exact k4
    · rw [bk_ne _ _ (Or.inr (by decide))]; exact k5
    · rw [bk_ne _ _ (Or.inr (by decide))]; exact k6
  · have lt : s < t := by omega
    rw [if_pos (nI_lt lt (by omega)), fg_gd_nI (show s < 120 by omega) (by decide), p_isL, fg_bi_some, if_neg e0]
    by_cases e1 : tx_L (x s)
    · rw [if_pos e1, if_neg (by decide), if_pos e1]
      unfold f_X1_readWord
      rw [fg_let_eq, fg_st_set, fg_sw_at, fg_sw_sw, p_wdL (x := x) (t := t) ht _ (t - s) s fg_fuel _ (by omega) (by unfold fg_fuel; omega) (by rw [fg_sw_at, bk_setc _ (by decide)]; exact k1) (by rw [fg_sw_at, bk_ne _ _ (Or.inr (by decide))]; exact k2) (by rw [fg_sw_at, bk_ne _ _ (Or.inr (by decide))]; exact k5), fg_sw_at, fg_sw_sw, fg_bv_some]
      refine ⟨_, rfl, ⟨?_, ?_, ?_, ?_, ?_, fun z => absurd z (show ¬ 0 = 1 by decide)⟩, ?_⟩
      · rw [bk_setc _ (by decide), bk_setc _ (by decide)]; exact k1
      · rw [bk_ne _ _ (Or.inr (by decide)), bk_ne _ _ (Or.inr (by decide))]; exact k2
      · rw [bk_ne _ _ (Or.inr (by decide)), bk_same]; rfl
      · rw [bk_ne _ _ (Or.inr (by decide)), bk_ne _ _ (Or.inr (by decide))]; exact k4
      · rw [bk_same]
      · rw [bk_ne _ _ (Or.inr (by decide)), bk_ne _ _ (Or.inr (by decide))]; exact k6
    · rw [if_neg e1, if_pos rfl, if_neg e1, fg_sw_at, k4, fg_gd_nI (show s < 120 by omega) (by decide), k1, nI_clamp (by omega), p_isD, fg_bi_some]
      by_cases e2 : tx_D (x s)
      · rw [if_pos e2, if_neg (by decide), if_pos e2]
        unfold f_X1_readNumber
        simp only [fg_let_eq, fg_st_set, fg_st_sw, fg_sw_at, fg_sw_sw]
        rw [p_nuL (x := x) (t := t) hx _ (t - s) s 0 fg_fuel _ (by omega) (by unfold fg_fuel; omega) (by omega) (by rw [fg_sw_at, bk_setc _ (by decide), bk_setc _ (by decide)]; exact k1) (by rw [fg_sw_at, bk_ne _ _ (Or.inr (by decide)), bk_ne _ _ (Or.inr (by decide))]; exact k2) (by rw [fg_sw_at, bk_ne _ _ (Or.inr (by decide)), bk_ne _ _ (Or.inr (by decide))]; exact k5) (by rw [fg_sw_at, bk_same]; rfl), fg_sw_at, fg_sw_sw, fg_bv_some, bk_set2]
        refine ⟨_, rfl, ⟨?_, ?_, ?_, ?_, ?_, fun _ => ?_⟩, ?_⟩
        · rw [bk_setc _ (by decide), bk_setc _ (by decide), bk_setc _ (by decide)]; exact k1
        · rw [bk_ne _ _ (Or.inr (by decide)), bk_ne _ _ (Or.inr (by decide)), bk_ne _ _ (Or.inr (by decide))]; exact k2
        · rw [bk_ne _ _ (Or.inr (by decide)), bk_ne _ _ (Or.inr (by decide)), bk_same]; rfl
        · rw [bk_ne _ _ (Or.inr (by decide)), bk_ne _ _ (Or.inr (by decide)), bk_ne _ _ (Or.inr (by decide))]; exact k4
        · rw [bk_same]
        · rw [bk_ne _ _ (Or.inr (by decide)), bk_same]
        · rw [bk_ne _ _ (Or.inr (by decide)), bk_ne _ _ (Or.inr (by decide)), bk_ne _ _ (Or.inr (by decide))]; exact k6
      · rw [if_neg e2, if_pos rfl, if_neg e2, fg_sw_at, k4, fg_gd_nI (show s < 120 by omega) (by decide), k1, nI_clamp (by omega)]
        have fin : ∀ q : Nat, (q = 2 ∨ q = 4) → ∃ d, fg_let (fg_st (fg_sw w 1 0 D) 1 0 0 (upd ((fg_sw w 1 0 D).1 1 0 0) 3 (nI q))) (fun w14 => fg_let (fg_st w14 1 0 0 (upd (w14.1 1 0 0) 5 ((w14.1 1 0 0 4) + 1))) (fun w15 => some w15)) = some (fg_sw w 1 0 d) ∧ tc d x t (q, s, s + 1, 0) ∧ d 0 2 = w.1 1 0 0 2 := by
          intro q hq
          simp only [fg_let_eq, fg_st_set, fg_st_sw, fg_sw_at, fg_sw_sw]
          rw [bk_ne _ _ (Or.inr (by decide)), k4, nI_1]
          refine ⟨_, rfl, ⟨?_, ?_, ?_, ?_, ?_, fun z => absurd z (show ¬ q = 1 by omega)⟩, ?_⟩
          · rw [bk_setc _ (by decide), bk_setc _ (by decide)]; exact k1
          · rw [bk_ne _ _ (Or.inr (by decide)), bk_ne _ _ (Or.inr (by decide))]; exact k2
          · rw [bk_ne _ _ (Or.inr (by decide)), bk_same]
          · rw [bk_ne _ _ (Or.inr (by decide)), bk_ne _ _ (Or.inr (by decide))]; exact k4
          · rw [bk_same]
          · rw [bk_ne _ _ (Or.inr (by decide)), bk_ne _ _ (Or.inr (by decide))]; exact k6
        by_cases e3 : x s = 59
        · rw [if_pos e3, if_pos e3]; exact fin 2 (by omega)
        · rw [if_neg e3, if_neg e3]; exact fin 4 (by omega)
