/-! pure rows: the functions of the class World as mathematical functions of its row of rows -/
theorem fg_let_eq {α β : Type} (x : α) (k : α → Option β) : fg_let x k = k x := rfl
theorem fg_bi_some {α β : Type} (r : α) (w : fg_W) (k : α → fg_W → Option β) : fg_bi (some (r, w)) k = k r w := rfl
theorem fg_bv_some {β : Type} (w : fg_W) (k : fg_W → Option β) : fg_bv (some w) k = k w := rfl
theorem fg_gd_in {β : Type} {i : Int32} {n : Nat} {k : Option β} (h : vp_in i n) : fg_gd i n k = k := if_pos h
theorem fg_gd_nI {β : Type} {j n : Nat} {k : Option β} (h : j < n) (hn : n < 2 ^ 31) : fg_gd (nI j) n k = k := fg_gd_in (vp_in_nI h hn)
theorem fg_gp_in {β : Type} {x : Prop} [Decidable x] {k : Option β} (h : x) : fg_gp x k = k := if_pos h
def bk_set (A : Nat → Nat → Int32) (c j : Nat) (v : Int32) : Nat → Nat → Int32 := fun c' j' => if c' = c ∧ j' = j then v else A c' j'
theorem fg_sw_at (w : fg_W) (K i : Nat) (d : Nat → Nat → Int32) : (fg_sw w K i d).1 K i = d := by simp [fg_sw, fg_put]
theorem fg_sw_i (w : fg_W) (K i i' : Nat) (d : Nat → Nat → Int32) (h : i' ≠ i) : (fg_sw w K i d).1 K i' = w.1 K i' := by simp [fg_sw, fg_put, h]
theorem fg_sw_K (w : fg_W) (K i K' i' : Nat) (d : Nat → Nat → Int32) (h : K' ≠ K) : (fg_sw w K i d).1 K' i' = w.1 K' i' := by simp [fg_sw, fg_put, h]
theorem fg_sw_2 (w : fg_W) (K i : Nat) (d : Nat → Nat → Int32) : (fg_sw w K i d).2 = w.2 := rfl
theorem fg_sw_sw (w : fg_W) (K i : Nat) (d d' : Nat → Nat → Int32) : fg_sw (fg_sw w K i d) K i d' = fg_sw w K i d' := by
  simp only [fg_sw, Prod.mk.injEq, and_true]
  funext K'
  simp only [fg_put]
  by_cases h : K' = K
  · simp only [h, if_true]
    funext i'
    by_cases h2 : i' = i <;> simp [h2, fg_put]
  · simp [h]
theorem fg_sw_id (w : fg_W) (K i : Nat) : fg_sw w K i (w.1 K i) = w := by
  simp only [fg_sw]
  refine Prod.ext ?_ rfl
  funext K'
  simp only [fg_put]
  by_cases h : K' = K
  · subst h
    simp only [if_true]
    funext i'
    by_cases h2 : i' = i <;> simp [h2, fg_put]
  · simp [h]
theorem fg_st_set (w : fg_W) (K i c j : Nat) (v : Int32) : fg_st w K i c (upd (w.1 K i c) j v) = fg_sw w K i (bk_set (w.1 K i) c j v) := by
  unfold fg_st
  congr 1
  funext c' j'
  simp only [fg_put, bk_set, upd]
  by_cases h : c' = c
  · subst h; by_cases h2 : j' = j <;> simp [h2, upd]
  · simp [h]
theorem bk_same (A : Nat → Nat → Int32) (c j : Nat) (v : Int32) : bk_set A c j v c j = v := by simp [bk_set]
theorem bk_ne (A : Nat → Nat → Int32) {c j c' j' : Nat} (v : Int32) (h : c' ≠ c ∨ j' ≠ j) : bk_set A c j v c' j' = A c' j' := by
  simp only [bk_set]
  rw [if_neg]
  intro ⟨h1, h2⟩
  rcases h with h | h
  · exact h h1
  · exact h h2
theorem bk_nc (A : Nat → Nat → Int32) {c j c' : Nat} (v : Int32) (h : c' ≠ c) (j' : Nat) : bk_set A c j v c' j' = A c' j' := bk_ne A v (Or.inl h)
-- the people
def bk_oth (A : Nat → Nat → Int32) (k lot : Nat) : Nat → Int32
  | 0 => 0
  | m + 1 => bk_oth A k lot m + (if m = k then 0 else if A 6 m = nI lot then 1 else 0)
def bk_trust (A : Nat → Nat → Int32) (n k lot : Nat) : Int32 :=
  if A 5 k = 1 then A 7 k / 2 + 20 else if A 5 k = 2 then (if A 7 k / 2 ≤ 10 then 0 else A 7 k / 2 - 10) else if A 5 k = 3 then (if A 3 lot = nI k then (if A 7 k / 2 ≤ 10 then 0 else A 7 k / 2 - 10) + 30 else (if A 7 k / 2 ≤ 10 then 0 else A 7 k / 2 - 10)) else if A 5 k = 4 then 60 else if A 5 k = 5 then 0 else if A 5 k = 6 then A 7 k / 2 + 20 + 2 * bk_oth A k lot n else A 7 k / 2
/-- the number of people, and its bound -/
def bk_N (A : Nat → Nat → Int32) (n : Nat) : Prop := A 0 5 = nI n ∧ n ≤ 8
theorem p_oth {i k lot n : Nat} {w : fg_W} (hn : bk_N (w.1 2 i) n) (hk : k < 8) (hl : lot < 10) (K : Int32 → Int32 → fg_W → Option (Int32 × fg_W)) : ∀ (m j fu : Nat), j + m = n → m < fu → f_X2_trustOf_L108 i (nI k) (nI lot) K fu (bk_oth (w.1 2 i) k lot j) (nI j) w = K (bk_oth (w.1 2 i) k lot n) (nI n) w := by
  obtain ⟨h5, h8⟩ := hn
  intro m
  induction m with
  | zero =>
    intro j fu hj hf
    obtain ⟨fu, rfl⟩ : ∃ z, fu = z + 1 := ⟨fu - 1, by omega⟩
    obtain rfl : j = n := by omega
    rw [f_X2_trustOf_L108, h5, if_pos (nI_le (Nat.le_refl _) (by omega))]
  | succ m ih =>
    intro j fu hj hf
    obtain ⟨fu, rfl⟩ : ∃ z, fu = z + 1 := ⟨fu - 1, by omega⟩
    rw [f_X2_trustOf_L108, h5, if_neg (nI_ge (by omega) (by omega))]
    have e := ih (j + 1) fu (by omega) (by omega)
    simp only [fg_let_eq, fg_gd_nI (show j < 8 by omega) (by decide), nI_clamp (show j < 2 ^ 31 by omega), nI_1, nI_eq (show j < 2 ^ 31 by omega) (show k < 2 ^ 31 by omega)]
    rw [← e]
    simp only [bk_oth]
    by_cases h1 : j = k
    · simp [h1]
    · by_cases h2 : w.1 2 i 6 j = nI lot <;> simp [h1, h2]
theorem p_trust {i k lot n : Nat} {w : fg_W} (hn : bk_N (w.1 2 i) n) (hk : k < 8) (hl : lot < 10) : f_X2_trustOf i (nI k) (nI lot) w = some (bk_trust (w.1 2 i) n k lot, w) := by
  have ho := fun K => p_oth hn hk hl K n 0 fg_fuel (by omega) (by have := hn.2; unfold fg_fuel; omega)
  simp only [bk_oth, nI_0] at ho
  unfold f_X2_trustOf bk_trust
  simp only [fg_let_eq, fg_gd_nI (show k < 8 from hk) (by decide), fg_gd_nI hl (by decide), nI_clamp (show k < 2 ^ 31 by omega), nI_clamp (show lot < 2 ^ 31 by omega), ho]
  by_cases h : w.1 2 i 7 k / 2 ≤ 10
  · simp only [h, if_true]
    repeat' split
    all_goals first | rfl | simp
  · simp only [h, if_false]
    repeat' split
    all_goals first | rfl | simp
def bk_stands (A : Nat → Nat → Int32) (n k lot : Nat) : Prop := ¬ A 1 lot + bk_trust A n k lot < 60
theorem p_stands {i k lot n : Nat} {w : fg_W} (hn : bk_N (w.1 2 i) n) (hk : k < 8) (hl : lot < 10) : f_X2_stands i (nI k) (nI lot) w = some (if w.1 2 i 1 lot + bk_trust (w.1 2 i) n k lot < 60 then 0 else 1, w) := by
  unfold f_X2_stands
  rw [p_trust hn hk hl, fg_bi_some, fg_gd_nI hl (by decide), nI_clamp (by omega)]
  split <;> rfl
/-- whether one of a kind makes rather for a lot than for an earlier one -/
def bk_pref (A : Nat → Nat → Int32) (kd : Int32) (lot b : Nat) : Int32 :=
  if kd = 2 ∨ kd = 3 ∨ kd = 4 then (if A 2 b ≤ A 2 lot then 0 else 1) else if kd = 6 then 0 else (if A 1 lot ≤ A 1 b then 0 else 1)
theorem p_prefers {i lot b : Nat} {kd : Int32} {w : fg_W} (hl : lot < 10) (hb : b < 10) : f_X2_prefers i kd (nI lot) (nI b) w = some (bk_pref (w.1 2 i) kd lot b, w) := by
  unfold f_X2_prefers bk_pref
  simp only [fg_gd_nI hl (by decide), fg_gd_nI hb (by decide), nI_clamp (show lot < 2 ^ 31 by omega), nI_clamp (show b < 2 ^ 31 by omega)]
  by_cases h2 : kd = 2
  · subst h2; simp only [if_true, true_or]; split <;> rfl
  by_cases h3 : kd = 3
  · subst h3; simp only [if_true, true_or, or_true, if_neg (show ¬ (3 : Int32) = 2 by decide)]; split <;> rfl
  by_cases h4 : kd = 4
  · subst h4; simp only [if_true, or_true, if_neg (show ¬ (4 : Int32) = 2 by decide), if_neg (show ¬ (4 : Int32) = 3 by decide)]; split <;> rfl
  simp only [h2, h3, h4, if_false, or_self]
  by_cases h5 : kd = 5
  · subst h5; simp only [if_true, if_neg (show ¬ (5 : Int32) = 6 by decide)]; split <;> rfl
  by_cases h6 : kd = 6
  · subst h6; simp
  simp only [h5, h6, if_false]
  split <;> rfl
/-- the lot made for, of the first m -/
def bk_made (A : Nat → Nat → Int32) (n k : Nat) : Nat → Int32
  | 0 => -1
  | m + 1 => if A 1 m + bk_trust A n k m < 60 then bk_made A n k m else if bk_made A n k m < 0 then nI m else if bk_pref A (A 5 k) m (bk_made A n k m).toNatClampNeg = 0 then bk_made A n k m else nI m
theorem bk_made_in (A : Nat → Nat → Int32) (n k : Nat) : ∀ m, m ≤ 10 → bk_made A n k m = -1 ∨ ∃ p, p < m ∧ bk_made A n k m = nI p := by
  intro m
  induction m with
  | zero => intro _; exact Or.inl rfl
  | succ m ih =>
    intro hm
    have h := ih (by omega)
    have h' : bk_made A n k m = -1 ∨ ∃ p, p < m + 1 ∧ bk_made A n k m = nI p := h.imp id (fun ⟨p, a, b⟩ => ⟨p, by omega, b⟩)
    simp only [bk_made]
    split
    · exact h'
    · split
      · exact Or.inr ⟨m, by omega, rfl⟩
      · split
        · exact h'
        · exact Or.inr ⟨m, by omega, rfl⟩
theorem p_madeL {i k n : Nat} {w : fg_W} (hn : bk_N (w.1 2 i) n) (hk : k < 8) (K : Int32 → Int32 → fg_W → Option (Int32 × fg_W)) : ∀ (m j fu : Nat), j + m = 10 → m < fu → f_X2_lotMadeFor_L4 i (nI k) K fu (bk_made (w.1 2 i) n k j) (nI j) w = K (bk_made (w.1 2 i) n k 10) (nI 10) w := by
  intro m
  induction m with
  | zero =>
    intro j fu hj hf
    obtain ⟨fu, rfl⟩ : ∃ z, fu = z + 1 := ⟨fu - 1, by omega⟩
    obtain rfl : j = 10 := by omega
    rw [f_X2_lotMadeFor_L4, if_pos (by decide)]
  | succ m ih =>
    intro j fu hj hf
    obtain ⟨fu, rfl⟩ : ∃ z, fu = z + 1 := ⟨fu - 1, by omega⟩
    rw [f_X2_lotMadeFor_L4, if_neg (show ¬ (10 : Int32) ≤ nI j from nI_ge (a := j) (b := 10) (by omega) (by decide)), p_stands hn hk (by omega), fg_bi_some, nI_1, fg_gd_nI hk (by decide), nI_clamp (show k < 2 ^ 31 by omega)]
    have e := ih (j + 1) fu (by omega) (by omega)
    rw [← e]
    simp only [bk_made]
    by_cases h1 : w.1 2 i 1 j + bk_trust (w.1 2 i) n k j < 60
    · simp [h1]
    · simp only [h1, if_false, if_neg (show ¬ (1 : Int32) = 0 by decide)]
      by_cases h2 : bk_made (w.1 2 i) n k j < 0
      · simp [h2]
      · simp only [h2, if_false]
        rcases bk_made_in (w.1 2 i) n k j (by omega) with h3 | ⟨b, hb, h3⟩
        · rw [h3] at h2; exact absurd (by decide) h2
        · rw [h3, p_prefers (by omega) (by omega), fg_bi_some, nI_clamp (by omega)]
          by_cases h4 : bk_pref (w.1 2 i) (w.1 2 i 5 k) j b = 0 <;> simp [h4]
theorem p_made {i k n : Nat} {w : fg_W} (hn : bk_N (w.1 2 i) n) (hk : k < 8) : f_X2_lotMadeFor i (nI k) w = some (bk_made (w.1 2 i) n k 10, w) := by
  unfold f_X2_lotMadeFor
  have h := p_madeL hn hk (fun v2_4 v3_4 w_4 => some (v2_4, w_4)) 10 0 fg_fuel (by omega) (by unfold fg_fuel; omega)
  simp only [bk_made, nI_0] at h
  exact h
/-- how much belief a kind loses -/
def bk_loses (kd : Int32) : Int32 := if kd = 1 then 2 else if kd = 2 then 10 else if kd = 3 then 5 else if kd = 4 then 0 else if kd = 5 then 20 else if kd = 6 then 2 else 10
theorem p_loses (kd : Int32) (w : fg_W) : f_X3_losesOf kd w = some (bk_loses kd, w) := by
  unfold f_X3_losesOf bk_loses
  repeat' split
  all_goals rfl
def bk_fall (A : Nat → Nat → Int32) (k : Nat) : Nat → Nat → Int32 :=
  bk_set (bk_set (bk_set A 9 k (if A 9 k + 1 < 9999 then A 9 k + 1 else 9999)) 7 k (if (0 : Int32) < A 7 k - bk_loses (A 5 k) then A 7 k - bk_loses (A 5 k) else 0)) 6 k (-1)
theorem p_fall {i k : Nat} {w : fg_W} (hk : k < 8) : f_X2_fall i (nI k) w = some (fg_sw w 2 i (bk_fall (w.1 2 i) k)) := by
  unfold f_X2_fall bk_fall
  simp only [fg_let_eq, fg_gd_nI hk (by decide), nI_clamp (show k < 2 ^ 31 by omega), fg_st_set, fg_sw_at, fg_sw_sw, p_loses, fg_bi_some, bk_nc _ _ (show (7 : Nat) ≠ 9 by decide), bk_nc _ _ (show (5 : Nat) ≠ 9 by decide)]
def bk_away (A : Nat → Nat → Int32) (k : Nat) : Prop := ¬ ((A 0 11) >>> (nI k &&& 31)) &&& 1 = 0
theorem p_gone {i k : Nat} {w : fg_W} : f_X2_isGone i (nI k) w = some (if ((w.1 2 i 0 11) >>> (nI k &&& 31)) &&& 1 = 0 then 0 else 1, w) := by
  unfold f_X2_isGone
  split <;> rfl
/-- one of the people in (3) of a day -/
def bk_move (n : Nat) (A : Nat → Nat → Int32) (k : Nat) : Nat → Nat → Int32 :=
  if ((A 0 11) >>> (nI k &&& 31)) &&& 1 = 0 then (if A 6 k = -1 then bk_set A 6 k (bk_made A n k 10) else if A 1 (A 6 k).toNatClampNeg + bk_trust A n k (A 6 k).toNatClampNeg < 60 then bk_fall A k else A) else A
def bk_it (f : (Nat → Nat → Int32) → Nat → Nat → Nat → Int32) (A : Nat → Nat → Int32) (j : Nat) : Nat → Nat → Nat → Int32
  | 0 => A
  | m + 1 => bk_it f (f A j) (j + 1) m
