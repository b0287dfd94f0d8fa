-- texts: the reference's tokens
theorem m_isL (v : Int32) (w : fg_W) : f_X4_isLetter v w = some (if tx_L v then 1 else 0, w) := by
  unfold f_X4_isLetter tx_L
  rw [in1_eq]
  unfold f_X3_within
  by_cases h1 : v < 97
  · rw [if_pos h1]; simp [h1, fg_bi_some, fg_gp]
  · rw [if_neg h1]
    by_cases h2 : 122 < v
    · rw [if_pos h2]; simp [h2, fg_bi_some, fg_gp]
    · rw [if_neg h2]; simp [h1, h2, fg_bi_some, fg_gp]
theorem m_isD (v : Int32) (w : fg_W) : f_X4_isDigit v w = some (if tx_D v then 1 else 0, w) := by
  unfold f_X4_isDigit tx_D
  rw [in1_eq]
  unfold f_X3_within
  by_cases h1 : v < 48
  · rw [if_pos h1]; simp [h1, fg_bi_some, fg_gp]
  · rw [if_neg h1]
    by_cases h2 : 57 < v
    · rw [if_pos h2]; simp [h2, fg_bi_some, fg_gp]
    · rw [if_neg h2]; simp [h1, h2, fg_bi_some, fg_gp]
theorem lg_le {a b : Nat} (ha : a < 2 ^ 63) (hb : b < 2 ^ 63) : (lg_cmp (lN a) (lN b) ≤ 0) = (a ≤ b) := by
  unfold lg_cmp
  by_cases h1 : lN a > lN b
  · rw [if_pos h1]
    have := (pk_lLT hb ha).mp h1
    simp only [eq_iff_iff]
    exact ⟨fun z => absurd z (by decide), fun z => by omega⟩
  · rw [if_neg h1]
    have : ¬ b < a := fun z => h1 ((pk_lLT hb ha).mpr z)
    by_cases h2 : lN a = lN b
    · rw [if_pos h2]; simp only [eq_iff_iff]; exact ⟨fun _ => by omega, fun _ => by decide⟩
    · rw [if_neg h2]; simp only [eq_iff_iff]; exact ⟨fun _ => by omega, fun _ => by decide⟩
theorem lg_eq {a b : Nat} (ha : a < 2 ^ 63) (hb : b < 2 ^ 63) : (lg_cmp (lN a) (lN b) = 0) = (a = b) := by
  unfold lg_cmp
  by_cases h1 : lN a > lN b
  · rw [if_pos h1]
    have := (pk_lLT hb ha).mp h1
    simp only [eq_iff_iff]
    exact ⟨fun z => absurd z (by decide), fun z => by omega⟩
  · rw [if_neg h1]
    by_cases h2 : lN a = lN b
    · rw [if_pos h2]; simp only [eq_iff_iff]; exact ⟨fun _ => (pk_lEQ ha hb).mp h2, fun _ => trivial⟩
    · rw [if_neg h2]; simp only [eq_iff_iff]; exact ⟨fun z => absurd z (by decide), fun z => absurd ((pk_lEQ ha hb).mpr z) h2⟩
/-- the value of a word, as the reference counts it -/
def tx_rv (x : Nat → Int32) (s : Nat) : Nat → Nat
  | 0 => 0
  | n + 1 => if tx_rv x s n ≤ 9999999999999 then tx_rv x s n * 27 + ((x (s + n)).toNatClampNeg - 96) else tx_rv x s n
theorem tx_rv_lt {x : Nat → Int32} {t s : Nat} (hx : tx_by x t) : ∀ n, s + n ≤ t → tx_rv x s n < 2 ^ 60 := by
  intro n
  induction n with
  | zero => intro _; rw [tx_rv]; decide
  | succ n ih =>
    intro h
    obtain ⟨b, hb, eb⟩ := hx.2 (s + n) (by omega)
    have := ih (by omega)
    rw [tx_rv]
    split
    · rw [eb, nI_clamp (by omega)]; omega
    · exact this
def tx_ru (x : Nat → Int32) : Nat → Nat → Nat → Nat
  | _, 0, a => a
  | p, m + 1, a => if tx_D (x p) then tx_ru x (p + 1) m (if a ≤ 9999 then a * 10 + ((x p).toNatClampNeg - 48) else a) else a
theorem tx_ru_nv {x : Nat → Int32} {t : Nat} (hx : tx_by x t) : ∀ m p a, p + m ≤ t → a ≤ 99999 → tx_ru x p m a ≤ 99999 ∧ tx_nv x p m (min a 10000) = min (tx_ru x p m a) 10000 := by
  intro m
  induction m with
  | zero => intro p a _ h; exact ⟨h, rfl⟩
  | succ m ih =>
    intro p a hp h
    obtain ⟨b, hb, eb⟩ := hx.2 p (by omega)
    rw [tx_ru, tx_nv]
    by_cases hc : tx_D (x p)
    · have hd : 48 ≤ b ∧ b ≤ 57 := tx_D_nI hb (by rw [← eb]; exact hc)
      rw [if_pos hc, if_pos hc, eb, nI_clamp (by omega)]
      by_cases ha : a ≤ 9999
      · rw [if_pos ha]
        obtain ⟨i1, i2⟩ := ih (p + 1) (a * 10 + (b - 48)) (by omega) (by omega)
        refine ⟨i1, ?_⟩
        rw [Nat.min_eq_left (show a ≤ 10000 by omega)]
        exact i2
      · rw [if_neg ha]
        obtain ⟨i1, i2⟩ := ih (p + 1) a (by omega) h
        refine ⟨i1, ?_⟩
        rw [Nat.min_eq_right (show 10000 ≤ a by omega), Nat.min_eq_right (by omega), ← i2, Nat.min_eq_right (show 10000 ≤ a by omega)]
    · rw [if_neg hc, if_neg hc]; exact ⟨h, rfl⟩
theorem m_skL {x : Nat → Int32} {t : Nat} (ht : t ≤ 120) (K : fg_W → Option fg_W) : ∀ (m p fu : Nat) (w : fg_W), p + m = t → m < fu → (∀ j, j < t → w.1 4 0 7 j = x j) → w.1 4 0 0 9 = nI t → w.1 4 0 0 11 = nI p → f_X4_nextToken_L8 K fu w = K (fg_sw w 4 0 (bk_set (w.1 4 0) 0 11 (nI (tx_sk x p m)))) := by
  intro m
  induction m with
  | zero =>
    intro p fu w hp hf h1 h2 h3
    obtain ⟨fu, rfl⟩ : ∃ z, fu = z + 1 := ⟨fu - 1, by omega⟩
    have e : fg_sw w 4 0 (bk_set (w.1 4 0) 0 11 (nI p)) = w := by rw [← h3, bk_set_id, fg_sw_id]
    rw [f_X4_nextToken_L8, h2, h3, if_pos (nI_le (by omega) (by omega)), tx_sk, e]
  | succ m ih =>
    intro p fu w hp hf h1 h2 h3
    obtain ⟨fu, rfl⟩ : ∃ z, fu = z + 1 := ⟨fu - 1, by omega⟩
    rw [f_X4_nextToken_L8, h2, h3, if_neg (nI_ge (by omega) (by omega)), fg_gd_nI (show p < 120 by omega) (by decide), nI_clamp (by omega), h1 p (by omega), tx_sk]
    by_cases hc : x p = 32
    · rw [if_pos hc, if_pos hc, fg_let_eq, fg_st_set, nI_1, ih (p + 1) fu _ (by omega) (by omega) (by rw [fg_sw_at, bk_setc _ (by decide)]; exact h1) (by rw [fg_sw_at, bk_ne _ _ (Or.inr (by decide))]; exact h2) (by rw [fg_sw_at, bk_same]), fg_sw_at, fg_sw_sw, bk_set2]
    · have e : fg_sw w 4 0 (bk_set (w.1 4 0) 0 11 (nI p)) = w := by rw [← h3, bk_set_id, fg_sw_id]
      rw [if_neg hc, if_neg hc, e]
theorem m_wdL {x : Nat → Int32} {t s : Nat} (hx : tx_by x t) (K : fg_W → Option fg_W) : ∀ (m p fu : Nat) (w : fg_W), p + m = t → s ≤ p → m < fu → (∀ j, j < t → w.1 4 0 7 j = x j) → w.1 4 0 0 9 = nI t → w.1 4 0 0 12 = nI p → w.2 = lN (tx_rv x s (p - s)) → f_X4_nextToken_L98 K fu w = K (fg_sl (fg_sw w 4 0 (bk_set (w.1 4 0) 0 12 (nI (tx_le tx_L x p m)))) (lN (tx_rv x s (tx_le tx_L x p m - s)))) := by
  have ht := hx.1
  intro m
  induction m with
  | zero =>
    intro p fu w hp hsp hf h1 h2 h3 h4
    obtain ⟨fu, rfl⟩ : ∃ z, fu = z + 1 := ⟨fu - 1, by omega⟩
    have e : fg_sl (fg_sw w 4 0 (bk_set (w.1 4 0) 0 12 (nI p))) (lN (tx_rv x s (p - s))) = w := by rw [← h3, bk_set_id, fg_sw_id, ← h4]; rfl
    rw [f_X4_nextToken_L98, h2, h3, if_pos (nI_le (by omega) (by omega)), tx_le, e]
  | succ m ih =>
    intro p fu w hp hsp hf h1 h2 h3 h4
    obtain ⟨fu, rfl⟩ : ∃ z, fu = z + 1 := ⟨fu - 1, by omega⟩
    obtain ⟨b, hb, eb⟩ := hx.2 p (by omega)
    have hlt := tx_rv_lt hx (s := s) (p - s) (by omega)
    rw [f_X4_nextToken_L98, h2, h3, if_neg (nI_ge (by omega) (by omega)), fg_gd_nI (show p < 120 by omega) (by decide), nI_clamp (by omega), h1 p (by omega), m_isL, fg_bi_some, tx_le]
    by_cases hc : tx_L (x p)
    · have hd : 97 ≤ b ∧ b ≤ 122 := tx_L_nI hb (by rw [← eb]; exact hc)
      have er : tx_rv x s (p + 1 - s) = if tx_rv x s (p - s) ≤ 9999999999999 then tx_rv x s (p - s) * 27 + (b - 96) else tx_rv x s (p - s) := by
        rw [show p + 1 - s = (p - s) + 1 by omega, tx_rv, show s + (p - s) = p by omega, eb, nI_clamp (by omega)]
      rw [if_pos hc, if_neg (by decide), if_pos hc, h4, show (9999999999999 : Int64) = lN 9999999999999 from rfl, h3, fg_gd_nI (show p < 120 by omega) (by decide), nI_clamp (by omega), h1 p (by omega)]
      by_cases hle : tx_rv x s (p - s) ≤ 9999999999999
      · have ev : lN (tx_rv x s (p - s)) * 27 + (x p).toInt64 - 96 = lN (tx_rv x s (p + 1 - s)) := by
          rw [er, if_pos hle, eb, nI_l (by omega), show (27 : Int64) = lN 27 from rfl, lN_mul, lN_add, show (96 : Int64) = lN 96 from rfl, lN_sub (by omega), show tx_rv x s (p - s) * 27 + b - 96 = tx_rv x s (p - s) * 27 + (b - 96) by omega]
        rw [if_pos (by rw [lg_le (by omega) (by decide)]; exact hle), ev, fg_let_eq, fg_let_eq, fg_st_set]
        show f_X4_nextToken_L98 K fu (fg_sw (fg_sl w (lN (tx_rv x s (p + 1 - s)))) 4 0 (bk_set (w.1 4 0) 0 12 (w.1 4 0 0 12 + 1))) = _
        rw [h3, nI_1, ih (p + 1) fu _ (by omega) (by omega) (by omega) (by rw [fg_sw_at, bk_setc _ (by decide)]; exact h1) (by rw [fg_sw_at, bk_ne _ _ (Or.inr (by decide))]; exact h2) (by rw [fg_sw_at, bk_same]) rfl, fg_sw_at, fg_sw_sw, bk_set2]
        rfl
      · have ev : lN (tx_rv x s (p - s)) = lN (tx_rv x s (p + 1 - s)) := by rw [er, if_neg hle]
        rw [if_neg (by rw [lg_le (by omega) (by decide)]; exact hle), ev, fg_let_eq, fg_let_eq, fg_st_set]
        show f_X4_nextToken_L98 K fu (fg_sw (fg_sl w (lN (tx_rv x s (p + 1 - s)))) 4 0 (bk_set (w.1 4 0) 0 12 (w.1 4 0 0 12 + 1))) = _
        rw [h3, nI_1, ih (p + 1) fu _ (by omega) (by omega) (by omega) (by rw [fg_sw_at, bk_setc _ (by decide)]; exact h1) (by rw [fg_sw_at, bk_ne _ _ (Or.inr (by decide))]; exact h2) (by rw [fg_sw_at, bk_same]) rfl, fg_sw_at, fg_sw_sw, bk_set2]
        rfl
    · have e : fg_sl (fg_sw w 4 0 (bk_set (w.1 4 0) 0 12 (nI p))) (lN (tx_rv x s (p - s))) = w := by rw [← h3, bk_set_id, fg_sw_id, ← h4]; rfl
      rw [if_neg hc, if_pos rfl, if_neg hc, e]
theorem m_nuL {x : Nat → Int32} {t : Nat} (hx : tx_by x t) (K : fg_W → Option fg_W) : ∀ (m p a fu : Nat) (w : fg_W), p + m = t → m < fu → a ≤ 99999 → (∀ j, j < t → w.1 4 0 7 j = x j) → w.1 4 0 0 9 = nI t → w.1 4 0 0 12 = nI p → w.2 = lN a → f_X4_nextToken_L197 K fu w = K (fg_sl (fg_sw w 4 0 (bk_set (w.1 4 0) 0 12 (nI (tx_le tx_D x p m)))) (lN (tx_ru x p m a))) := by
  have ht := hx.1
  intro m
  induction m with
  | zero =>
    intro p a fu w hp hf ha h1 h2 h3 h4
    obtain ⟨fu, rfl⟩ : ∃ z, fu = z + 1 := ⟨fu - 1, by omega⟩
    have e : fg_sl (fg_sw w 4 0 (bk_set (w.1 4 0) 0 12 (nI p))) (lN a) = w := by rw [← h3, bk_set_id, fg_sw_id, ← h4]; rfl
    rw [f_X4_nextToken_L197, h2, h3, if_pos (nI_le (by omega) (by omega)), tx_le, tx_ru, e]
  | succ m ih =>
    intro p a fu w hp hf ha h1 h2 h3 h4
    obtain ⟨fu, rfl⟩ : ∃ z, fu = z + 1 := ⟨fu - 1, by omega⟩
    obtain ⟨b, hb, eb⟩ := hx.2 p (by omega)
    rw [f_X4_nextToken_L197, h2, h3, if_neg (nI_ge (by omega) (by omega)), fg_gd_nI (show p < 120 by omega) (by decide), nI_clamp (by omega), h1 p (by omega), m_isD, fg_bi_some, tx_le, tx_ru]
    by_cases hc : tx_D (x p)
    · have hd : 48 ≤ b ∧ b ≤ 57 := tx_D_nI hb (by rw [← eb]; exact hc)
      rw [if_pos hc, if_neg (by decide), if_pos hc, if_pos hc, h4, show (9999 : Int64) = lN 9999 from rfl, h3, fg_gd_nI (show p < 120 by omega) (by decide), nI_clamp (by omega), h1 p (by omega), eb, nI_clamp (show b < 2 ^ 31 by omega)]
      by_cases hle : a ≤ 9999
      · have ev : lN a * 10 + (nI b).toInt64 - 48 = lN (a * 10 + (b - 48)) := by
          rw [nI_l (by omega), show (10 : Int64) = lN 10 from rfl, lN_mul, lN_add, show (48 : Int64) = lN 48 from rfl, lN_sub (by omega), show a * 10 + b - 48 = a * 10 + (b - 48) by omega]
        rw [if_pos (by rw [lg_le (by omega) (by decide)]; exact hle), ev, if_pos hle, fg_let_eq, fg_let_eq, fg_st_set]
        show f_X4_nextToken_L197 K fu (fg_sw (fg_sl w (lN (a * 10 + (b - 48)))) 4 0 (bk_set (w.1 4 0) 0 12 (w.1 4 0 0 12 + 1))) = _
        rw [h3, nI_1, ih (p + 1) (a * 10 + (b - 48)) fu _ (by omega) (by omega) (by omega) (by rw [fg_sw_at, bk_setc _ (by decide)]; exact h1) (by rw [fg_sw_at, bk_ne _ _ (Or.inr (by decide))]; exact h2) (by rw [fg_sw_at, bk_same]) rfl, fg_sw_at, fg_sw_sw, bk_set2]
        rfl
      · rw [if_neg (by rw [lg_le (by omega) (by decide)]; exact hle), if_neg hle, fg_let_eq, fg_let_eq, fg_st_set]
        show f_X4_nextToken_L197 K fu (fg_sw (fg_sl w (lN a)) 4 0 (bk_set (w.1 4 0) 0 12 (w.1 4 0 0 12 + 1))) = _
        rw [h3, nI_1, ih (p + 1) a fu _ (by omega) (by omega) (by omega) (by rw [fg_sw_at, bk_setc _ (by decide)]; exact h1) (by rw [fg_sw_at, bk_ne _ _ (Or.inr (by decide))]; exact h2) (by rw [fg_sw_at, bk_same]) rfl, fg_sw_at, fg_sw_sw, bk_set2]
        rfl
    · have e : fg_sl (fg_sw w 4 0 (bk_set (w.1 4 0) 0 12 (nI p))) (lN a) = w := by rw [← h3, bk_set_id, fg_sw_id, ← h4]; rfl
      rw [if_neg hc, if_pos rfl, if_neg hc, if_neg hc, e]
def tx_k (τ : tx_T) : Nat := if τ.1 = 0 then 1 else if τ.1 = 1 then (if τ.2.2.2 ≤ 9999 then 2 else 4) else if τ.1 = 2 then 3 else if τ.1 = 3 then 0 else 4
/-- the token under the reference's hand -/
def tr (w : fg_W) (x : Nat → Int32) (τ : tx_T) : Prop := w.1 4 0 0 11 = nI τ.2.1 ∧ w.1 4 0 0 12 = nI τ.2.2.1 ∧ w.1 4 0 0 10 = nI (tx_k τ) ∧ (τ.1 = 0 → w.2 = lN (tx_rv x τ.2.1 (τ.2.2.1 - τ.2.1))) ∧ (τ.1 = 1 → τ.2.2.2 ≤ 9999 → w.2 = lN τ.2.2.2)
/-- what reading a token leaves alone -/
def fq (w w' : fg_W) : Prop := (∀ K i, K ≠ 4 → w'.1 K i = w.1 K i) ∧ (∀ c, c ≠ 0 → w'.1 4 0 c = w.1 4 0 c) ∧ ∀ j, j ≠ 10 → j ≠ 11 → j ≠ 12 → w'.1 4 0 0 j = w.1 4 0 0 j
theorem fq_of {w : fg_W} {d : Nat → Nat → Int32} {v : Int64} (h1 : ∀ c, c ≠ 0 → d c = w.1 4 0 c) (h2 : ∀ j, j ≠ 10 → j ≠ 11 → j ≠ 12 → d 0 j = w.1 4 0 0 j) : fq w (fg_sl (fg_sw w 4 0 d) v) := by
  refine ⟨fun K i hK => fg_sw_K _ _ _ _ _ _ hK, fun c hc => ?_, fun j a b c => ?_⟩
  · show (fg_sw w 4 0 d).1 4 0 c = _; rw [fg_sw_at]; exact h1 c hc
  · show (fg_sw w 4 0 d).1 4 0 0 j = _; rw [fg_sw_at]; exact h2 j a b c
