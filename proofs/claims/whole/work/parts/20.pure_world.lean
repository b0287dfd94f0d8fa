/-! pure rows: the functions of the class World as mathematical functions of its row of rows -/
theorem fg_let_eq {α β : Type} (x : α) (k : α → Option β) : fg_let x k = k x := rfl
theorem fg_bi_some {α β : Type} (r : α) (w : fg_W) (k : α → fg_W → Option β) : fg_bi (some (r, w)) k = k r w := rfl
theorem fg_bv_some {β : Type} (w : fg_W) (k : fg_W → Option β) : fg_bv (some w) k = k w := rfl
theorem fg_gd_in {β : Type} {i : Int32} {n : Nat} {k : Option β} (h : vp_in i n) : fg_gd i n k = k := if_pos h
theorem fg_gd_nI {β : Type} {j n : Nat} {k : Option β} (h : j < n) (hn : n < 2 ^ 31) : fg_gd (nI j) n k = k := fg_gd_in (vp_in_nI h hn)
theorem fg_gp_in {β : Type} {x : Prop} [Decidable x] {k : Option β} (h : x) : fg_gp x k = k := if_pos h
def bk_set (A : Nat → Nat → Int32) (c j : Nat) (v : Int32) : Nat → Nat → Int32 := fun c' j' => if c' = c ∧ j' = j then v else A c' j'
theorem fg_sw_at (w : fg_W) (K i : Nat) (d : Nat → Nat → Int32) : (fg_sw w K i d).1 K i = d := by simp [fg_sw, fg_put]
theorem fg_sw_i (w : fg_W) (K i i' : Nat) (d : Nat → Nat → Int32) (h : i' ≠ i) : (fg_sw w K i d).1 K i' = w.1 K i' := by simp [fg_sw, fg_put, h]
theorem fg_sw_K (w : fg_W) (K i K' i' : Nat) (d : Nat → Nat → Int32) (h : K' ≠ K) : (fg_sw w K i d).1 K' i' = w.1 K' i' := by simp [fg_sw, fg_put, h]
theorem fg_sw_2 (w : fg_W) (K i : Nat) (d : Nat → Nat → Int32) : (fg_sw w K i d).2 = w.2 := rfl
theorem fg_sw_sw (w : fg_W) (K i : Nat) (d d' : Nat → Nat → Int32) : fg_sw (fg_sw w K i d) K i d' = fg_sw w K i d' := by
  simp only [fg_sw, Prod.mk.injEq, and_true]
  funext K'
  simp only [fg_put]
  by_cases h : K' = K
  · simp only [h, if_true]
    funext i'
    by_cases h2 : i' = i <;> simp [h2, fg_put]
  · simp [h]
theorem fg_sw_id (w : fg_W) (K i : Nat) : fg_sw w K i (w.1 K i) = w := by
  simp only [fg_sw]
  refine Prod.ext ?_ rfl
  funext K'
  simp only [fg_put]
  by_cases h : K' = K
  · subst h
    simp only [if_true]
    funext i'
    by_cases h2 : i' = i <;> simp [h2, fg_put]
  · simp [h]
theorem fg_st_set (w : fg_W) (K i c j : Nat) (v : Int32) : fg_st w K i c (upd (w.1 K i c) j v) = fg_sw w K i (bk_set (w.1 K i) c j v) := by
  unfold fg_st
  congr 1
  funext c' j'
  simp only [fg_put, bk_set, upd]
  by_cases h : c' = c
  · subst h; by_cases h2 : j' = j <;> simp [h2, upd]
  · simp [h]
theorem bk_same (A : Nat → Nat → Int32) (c j : Nat) (v : Int32) : bk_set A c j v c j = v := by simp [bk_set]
theorem bk_ne (A : Nat → Nat → Int32) {c j c' j' : Nat} (v : Int32) (h : c' ≠ c ∨ j' ≠ j) : bk_set A c j v c' j' = A c' j' := by
  simp only [bk_set]
  rw [if_neg]
  intro ⟨h1, h2⟩
  rcases h with h | h
  · exact h h1
  · exact h h2
theorem bk_nc (A : Nat → Nat → Int32) {c j c' : Nat} (v : Int32) (h : c' ≠ c) (j' : Nat) : bk_set A c j v c' j' = A c' j' := bk_ne A v (Or.inl h)
-- the people
def bk_oth (A : Nat → Nat → Int32) (k lot : Nat) : Nat → Int32
  | 0 => 0
  | m + 1 => bk_oth A k lot m + (if m = k then 0 else if A 6 m = nI lot then 1 else 0)
def bk_trust (A : Nat → Nat → Int32) (n k lot : Nat) : Int32 :=
  if A 5 k = 1 then A 7 k / 2 + 20 else if A 5 k = 2 then (if A 7 k / 2 ≤ 10 then 0 else A 7 k / 2 - 10) else if A 5 k = 3 then (if A 3 lot = nI k then (if A 7 k / 2 ≤ 10 then 0 else A 7 k / 2 - 10) + 30 else (if A 7 k / 2 ≤ 10 then 0 else A 7 k / 2 - 10)) else if A 5 k = 4 then 60 else if A 5 k = 5 then 0 else if A 5 k = 6 then A 7 k / 2 + 20 + 2 * bk_oth A k lot n else A 7 k / 2
/-- the number of people, and its bound -/
def bk_N (A : Nat → Nat → Int32) (n : Nat) : Prop := A 0 5 = nI n ∧ n ≤ 8
theorem p_oth {i k lot n : Nat} {w : fg_W} (hn : bk_N (w.1 2 i) n) (hk : k < 8) (hl : lot < 10) (K : Int32 → Int32 → fg_W → Option (Int32 × fg_W)) : ∀ (m j fu : Nat), j + m = n → m < fu → f_X2_trustOf_L108 i (nI k) (nI lot) K fu (bk_oth (w.1 2 i) k lot j) (nI j) w = K (bk_oth (w.1 2 i) k lot n) (nI n) w := by
  obtain ⟨h5, h8⟩ := hn
  intro m
  induction m with
  | zero =>
    intro j fu hj hf
    obtain ⟨fu, rfl⟩ : ∃ z, fu = z + 1 := ⟨fu - 1, by omega⟩
    obtain rfl : j = n := by omega
    rw [f_X2_trustOf_L108, h5, if_pos (nI_le (Nat.le_refl _) (by omega))]
  | succ m ih =>
    intro j fu hj hf
    obtain ⟨fu, rfl⟩ : ∃ z, fu = z + 1 := ⟨fu - 1, by omega⟩
    rw [f_X2_trustOf_L108, h5, if_neg (nI_ge (by omega) (by omega))]
    have e := ih (j + 1) fu (by omega) (by omega)
    simp only [fg_let_eq, fg_gd_nI (show j < 8 by omega) (by decide), nI_clamp (show j < 2 ^ 31 by omega), nI_1, nI_eq (show j < 2 ^ 31 by omega) (show k < 2 ^ 31 by omega)]
    rw [← e]
    simp only [bk_oth]
    by_cases h1 : j = k
    · simp [h1]
    · by_cases h2 : w.1 2 i 6 j = nI lot <;> simp [h1, h2]
theorem p_trust {i k lot n : Nat} {w : fg_W} (hn : bk_N (w.1 2 i) n) (hk : k < 8) (hl : lot < 10) : f_X2_trustOf i (nI k) (nI lot) w = some (bk_trust (w.1 2 i) n k lot, w) := by
  have ho := fun K => p_oth hn hk hl K n 0 fg_fuel (by omega) (by have := hn.2; unfold fg_fuel; omega)
  simp only [bk_oth, nI_0] at ho
  unfold f_X2_trustOf bk_trust
  simp only [fg_let_eq, fg_gd_nI (show k < 8 from hk) (by decide), fg_gd_nI hl (by decide), nI_clamp (show k < 2 ^ 31 by omega), nI_clamp (show lot < 2 ^ 31 by omega), ho]
  by_cases h : w.1 2 i 7 k / 2 ≤ 10
  · simp only [h, if_true]
    repeat' split
    all_goals first | rfl | simp
  · simp only [h, if_false]
    repeat' split
    all_goals first | rfl | simp
def bk_stands (A : Nat → Nat → Int32) (n k lot : Nat) : Prop := ¬ A 1 lot + bk_trust A n k lot < 60
theorem p_stands {i k lot n : Nat} {w : fg_W} (hn : bk_N (w.1 2 i) n) (hk : k < 8) (hl : lot < 10) : f_X2_stands i (nI k) (nI lot) w = some (if w.1 2 i 1 lot + bk_trust (w.1 2 i) n k lot < 60 then 0 else 1, w) := by
  unfold f_X2_stands
  rw [p_trust hn hk hl, fg_bi_some, fg_gd_nI hl (by decide), nI_clamp (by omega)]
  split <;> rfl
/-- whether one of a kind makes rather for a lot than for an earlier one -/
def bk_pref (A : Nat → Nat → Int32) (kd : Int32) (lot b : Nat) : Int32 :=
  if kd = 2 ∨ kd = 3 ∨ kd = 4 then (if A 2 b ≤ A 2 lot then 0 else 1) else if kd = 6 then 0 else (if A 1 lot ≤ A 1 b then 0 else 1)
theorem p_prefers {i lot b : Nat} {kd : Int32} {w : fg_W} (hl : lot < 10) (hb : b < 10) : f_X2_prefers i kd (nI lot) (nI b) w = some (bk_pref (w.1 2 i) kd lot b, w) := by
  unfold f_X2_prefers bk_pref
  simp only [fg_gd_nI hl (by decide), fg_gd_nI hb (by decide), nI_clamp (show lot < 2 ^ 31 by omega), nI_clamp (show b < 2 ^ 31 by omega)]
  by_cases h2 : kd = 2
  · subst h2; simp only [if_true, true_or]; split <;> rfl
  by_cases h3 : kd = 3
  · subst h3; simp only [if_true, true_or, or_true, if_neg (show ¬ (3 : Int32) = 2 by decide)]; split <;> rfl
  by_cases h4 : kd = 4
  · subst h4; simp only [if_true, or_true, if_neg (show ¬ (4 : Int32) = 2 by decide), if_neg (show ¬ (4 : Int32) = 3 by decide)]; split <;> rfl
  simp only [h2, h3, h4, if_false, or_self]
  by_cases h5 : kd = 5
  · subst h5; simp only [if_true, if_neg (show ¬ (5 : Int32) = 6 by decide)]; split <;> rfl
  by_cases h6 : kd = 6
  · subst h6; simp
  simp only [h5, h6, if_false]
  split <;> rfl
/-- the lot made for, of the first m -/
def bk_made (A : Nat → Nat → Int32) (n k : Nat) : Nat → Int32
  | 0 => -1
  | m + 1 => if A 1 m + bk_trust A n k m < 60 then bk_made A n k m else if bk_made A n k m < 0 then nI m else if bk_pref A (A 5 k) m (bk_made A n k m).toNatClampNeg = 0 then bk_made A n k m else nI m
theorem bk_made_in (A : Nat → Nat → Int32) (n k : Nat) : ∀ m, m ≤ 10 → bk_made A n k m = -1 ∨ ∃ p, p < m ∧ bk_made A n k m = nI p := by
  intro m
  induction m with
  | zero => intro _; exact Or.inl rfl
  | succ m ih =>
    intro hm
    have h := ih (by omega)
    have h' : bk_made A n k m = -1 ∨ ∃ p, p < m + 1 ∧ bk_made A n k m = nI p := h.imp id (fun ⟨p, a, b⟩ => ⟨p, by omega, b⟩)
    simp only [bk_made]
    split
    · exact h'
    · split
      · exact Or.inr ⟨m, by omega, rfl⟩
      · split
        · exact h'
        · exact Or.inr ⟨m, by omega, rfl⟩
theorem p_madeL {i k n : Nat} {w : fg_W} (hn : bk_N (w.1 2 i) n) (hk : k < 8) (K : Int32 → Int32 → fg_W → Option (Int32 × fg_W)) : ∀ (m j fu : Nat), j + m = 10 → m < fu → f_X2_lotMadeFor_L4 i (nI k) K fu (bk_made (w.1 2 i) n k j) (nI j) w = K (bk_made (w.1 2 i) n k 10) (nI 10) w := by
  intro m
  induction m with
  | zero =>
    intro j fu hj hf
    obtain ⟨fu, rfl⟩ : ∃ z, fu = z + 1 := ⟨fu - 1, by omega⟩
    obtain rfl : j = 10 := by omega
    rw [f_X2_lotMadeFor_L4, if_pos (by decide)]
  | succ m ih =>
    intro j fu hj hf
    obtain ⟨fu, rfl⟩ : ∃ z, fu = z + 1 := ⟨fu - 1, by omega⟩
    rw [f_X2_lotMadeFor_L4, if_neg (show ¬ (10 : Int32) ≤ nI j from nI_ge (a := j) (b := 10) (by omega) (by decide)), p_stands hn hk (by omega), fg_bi_some, nI_1, fg_gd_nI hk (by decide), nI_clamp (show k < 2 ^ 31 by omega)]
    have e := ih (j + 1) fu (by omega) (by omega)
    rw [← e]
    simp only [bk_made]
    by_cases h1 : w.1 2 i 1 j + bk_trust (w.1 2 i) n k j < 60
    · simp [h1]
    · simp only [h1, if_false, if_neg (show ¬ (1 : Int32) = 0 by decide)]
      by_cases h2 : bk_made (w.1 2 i) n k j < 0
      · simp [h2]
      · simp only [h2, if_false]
        rcases bk_made_in (w.1 2 i) n k j (by omega) with h3 | ⟨b, hb, h3⟩
        · rw [h3] at h2; exact absurd (by decide) h2
        · rw [h3, p_prefers (by omega) (by omega), fg_bi_some, nI_clamp (by omega)]
          by_cases h4 : bk_pref (w.1 2 i) (w.1 2 i 5 k) j b = 0 <;> simp [h4]
theorem p_made {i k n : Nat} {w : fg_W} (hn : bk_N (w.1 2 i) n) (hk : k < 8) : f_X2_lotMadeFor i (nI k) w = some (bk_made (w.1 2 i) n k 10, w) := by
  unfold f_X2_lotMadeFor
  have h := p_madeL hn hk (fun v2_4 v3_4 w_4 => some (v2_4, w_4)) 10 0 fg_fuel (by omega) (by unfold fg_fuel; omega)
  simp only [bk_made, nI_0] at h
  exact h
/-- how much belief a kind loses -/
def bk_loses (kd : Int32) : Int32 := if kd = 1 then 2 else if kd = 2 then 10 else if kd = 3 then 5 else if kd = 4 then 0 else if kd = 5 then 20 else if kd = 6 then 2 else 10
theorem p_loses (kd : Int32) (w : fg_W) : f_X3_losesOf kd w = some (bk_loses kd, w) := by
  unfold f_X3_losesOf bk_loses
  repeat' split
  all_goals rfl
def bk_fall (A : Nat → Nat → Int32) (k : Nat) : Nat → Nat → Int32 :=
  bk_set (bk_set (bk_set A 9 k (if A 9 k + 1 < 9999 then A 9 k + 1 else 9999)) 7 k (if (0 : Int32) < A 7 k - bk_loses (A 5 k) then A 7 k - bk_loses (A 5 k) else 0)) 6 k (-1)
theorem p_fall {i k : Nat} {w : fg_W} (hk : k < 8) : f_X2_fall i (nI k) w = some (fg_sw w 2 i (bk_fall (w.1 2 i) k)) := by
  unfold f_X2_fall bk_fall
  simp only [fg_let_eq, fg_gd_nI hk (by decide), nI_clamp (show k < 2 ^ 31 by omega), fg_st_set, fg_sw_at, fg_sw_sw, p_loses, fg_bi_some, bk_nc _ _ (show (7 : Nat) ≠ 9 by decide), bk_nc _ _ (show (5 : Nat) ≠ 9 by decide)]
def bk_away (A : Nat → Nat → Int32) (k : Nat) : Prop := ¬ ((A 0 11) >>> (nI k &&& 31)) &&& 1 = 0
theorem p_gone {i k : Nat} {w : fg_W} : f_X2_isGone i (nI k) w = some (if ((w.1 2 i 0 11) >>> (nI k &&& 31)) &&& 1 = 0 then 0 else 1, w) := by
  unfold f_X2_isGone
  split <;> rfl
/-- one of the people in (3) of a day -/
def bk_move (n : Nat) (A : Nat → Nat → Int32) (k : Nat) : Nat → Nat → Int32 :=
  if ((A 0 11) >>> (nI k &&& 31)) &&& 1 = 0 then (if A 6 k = -1 then bk_set A 6 k (bk_made A n k 10) else if A 1 (A 6 k).toNatClampNeg + bk_trust A n k (A 6 k).toNatClampNeg < 60 then bk_fall A k else A) else A
def bk_it (f : (Nat → Nat → Int32) → Nat → Nat → Nat → Int32) (A : Nat → Nat → Int32) (j : Nat) : Nat → Nat → Nat → Int32
  | 0 => A
  | m + 1 => bk_it f (f A j) (j + 1) m
def bk_pl (A : Nat → Nat → Int32) : Prop := ∀ k, k < 8 → A 6 k = -1 ∨ ∃ p, p < 10 ∧ A 6 k = nI p
theorem bk_fall_6 (A : Nat → Nat → Int32) (k j : Nat) : bk_fall A k 6 j = if j = k then -1 else A 6 j := by
  unfold bk_fall
  by_cases h : j = k
  · subst h; rw [bk_same]; simp
  · rw [bk_ne _ _ (Or.inr h), bk_nc _ _ (by decide), bk_nc _ _ (by decide)]; simp [h]
theorem bk_move_c (n : Nat) (A : Nat → Nat → Int32) (k c j : Nat) (h6 : c ≠ 6) (h7 : c ≠ 7) (h9 : c ≠ 9) : bk_move n A k c j = A c j := by
  unfold bk_move
  split
  · split
    · exact bk_nc _ _ h6 _
    · split
      · unfold bk_fall; rw [bk_nc _ _ h6, bk_nc _ _ h7, bk_nc _ _ h9]
      · rfl
  · rfl
theorem bk_move_pl {n : Nat} {A : Nat → Nat → Int32} {k : Nat} (h : bk_pl A) : bk_pl (bk_move n A k) := by
  intro j hj
  unfold bk_move
  split
  · split
    · by_cases e : j = k
      · subst e; rw [bk_same]
        rcases bk_made_in A n j 10 (by omega) with h1 | ⟨p, h1, h2⟩
        · exact Or.inl h1
        · exact Or.inr ⟨p, h1, h2⟩
      · rw [bk_ne _ _ (Or.inr e)]; exact h j hj
    · split
      · rw [bk_fall_6]
        split
        · exact Or.inl rfl
        · exact h j hj
      · exact h j hj
  · exact h j hj
theorem p_moveL {i n : Nat} (K : Int32 → fg_W → Option fg_W) : ∀ (m j fu : Nat) (w : fg_W), j + m = n → m < fu → bk_N (w.1 2 i) n → bk_pl (w.1 2 i) → f_X2_movePeople_L2 i K fu (nI j) w = K (nI n) (fg_sw w 2 i (bk_it (bk_move n) (w.1 2 i) j m)) := by
  intro m
  induction m with
  | zero =>
    intro j fu w hj hf hn hp
    obtain ⟨fu, rfl⟩ : ∃ z, fu = z + 1 := ⟨fu - 1, by omega⟩
    obtain rfl : j = n := by omega
    have h8 := hn.2
    rw [f_X2_movePeople_L2, hn.1, if_pos (nI_le (Nat.le_refl _) (by omega)), bk_it, fg_sw_id]
  | succ m ih =>
    intro j fu w hj hf hn hp
    obtain ⟨fu, rfl⟩ : ∃ z, fu = z + 1 := ⟨fu - 1, by omega⟩
    have h8 := hn.2
    have hj8 : j < 8 := by omega
    rw [f_X2_movePeople_L2, hn.1, if_neg (nI_ge (by omega) (by omega)), p_gone, fg_bi_some, nI_1]
    have key : ∀ w1 : fg_W, w1 = fg_sw w 2 i (bk_move n (w.1 2 i) j) → f_X2_movePeople_L2 i K fu (nI (j + 1)) w1 = K (nI n) (fg_sw w 2 i (bk_it (bk_move n) (w.1 2 i) j (m + 1))) := by
      intro w1 e1
      have e2 : w1.1 2 i = bk_move n (w.1 2 i) j := by rw [e1, fg_sw_at]
      rw [ih (j + 1) fu w1 (by omega) (by omega) (by rw [e2]; exact ⟨by rw [bk_move_c _ _ _ _ _ (by decide) (by decide) (by decide)]; exact hn.1, hn.2⟩) (by rw [e2]; exact bk_move_pl hp), e2, e1, fg_sw_sw]
      rfl
    by_cases h1 : ((w.1 2 i 0 11) >>> (nI j &&& 31)) &&& 1 = 0
    · simp only [h1, if_true]
      rw [fg_gd_nI hj8 (by decide), nI_clamp (show j < 2 ^ 31 by omega)]
      by_cases h2 : w.1 2 i 6 j = -1
      · rw [if_pos h2, p_made hn hj8, fg_bi_some, fg_gd_nI hj8 (by decide), fg_let_eq]
        exact key _ (by rw [fg_st_set]; unfold bk_move; rw [if_pos h1, if_pos h2])
      · rw [if_neg h2, fg_gd_nI hj8 (by decide)]
        rcases hp j hj8 with h3 | ⟨p, hp1, hp2⟩
        · exact absurd h3 h2
        · rw [hp2, p_stands hn hj8 hp1, fg_bi_some]
          have e3 : bk_move n (w.1 2 i) j = if w.1 2 i 1 p + bk_trust (w.1 2 i) n j p < 60 then bk_fall (w.1 2 i) j else w.1 2 i := by
            unfold bk_move; rw [if_pos h1, if_neg h2, hp2, nI_clamp (by omega)]
          by_cases h4 : w.1 2 i 1 p + bk_trust (w.1 2 i) n j p < 60
          · rw [if_pos h4] at e3 ⊢
            rw [if_pos rfl, p_fall hj8, fg_bv_some]
            exact key _ (by rw [e3])
          · rw [if_neg h4] at e3 ⊢
            rw [if_neg (by decide)]
            exact key _ (by rw [e3, fg_sw_id])
    · simp only [h1, if_false]
      rw [if_neg (by decide)]
      exact key _ (by unfold bk_move; rw [if_neg h1, fg_sw_id])
theorem p_move {i n : Nat} {w : fg_W} (hn : bk_N (w.1 2 i) n) (hp : bk_pl (w.1 2 i)) : f_X2_movePeople i w = some (fg_sw w 2 i (bk_it (bk_move n) (w.1 2 i) 0 n)) := by
  unfold f_X2_movePeople
  have h8 := hn.2
  have h := p_moveL (i := i) (n := n) (fun v1_2 w_2 => some w_2) n 0 fg_fuel w (by omega) (by unfold fg_fuel; omega) hn hp
  rw [nI_0] at h
  exact h
-- (1) of a day: sun and mist
def bk_cl (x : Int32) : Int32 := if (0 : Int32) < (if x < 99 then x else 99) then (if x < 99 then x else 99) else 0
def bk_thin (more : Int32) (A : Nat → Nat → Int32) (j : Nat) : Nat → Nat → Int32 := bk_set A 1 j (bk_cl (A 1 j + more))
theorem p_thinL {i : Nat} {more : Int32} (K : Int32 → fg_W → Option fg_W) : ∀ (m j fu : Nat) (w : fg_W), j + m = 10 → m < fu → f_X2_thinAndThicken_L20 i more K fu (nI j) w = K (nI 10) (fg_sw w 2 i (bk_it (bk_thin more) (w.1 2 i) j m)) := by
  intro m
  induction m with
  | zero =>
    intro j fu w hj hf
    obtain ⟨fu, rfl⟩ : ∃ z, fu = z + 1 := ⟨fu - 1, by omega⟩
    obtain rfl : j = 10 := by omega
    rw [f_X2_thinAndThicken_L20, if_pos (by decide), bk_it, fg_sw_id]
  | succ m ih =>
    intro j fu w hj hf
    obtain ⟨fu, rfl⟩ : ∃ z, fu = z + 1 := ⟨fu - 1, by omega⟩
    have hj10 : j < 10 := by omega
    rw [f_X2_thinAndThicken_L20, if_neg (show ¬ (10 : Int32) ≤ nI j from nI_ge (a := j) (b := 10) (by omega) (by decide)), fg_gd_nI hj10 (by decide), fg_gd_nI hj10 (by decide), fg_let_eq, nI_1, nI_clamp (show j < 2 ^ 31 by omega), fg_st_set, ih (j + 1) fu _ (by omega) (by omega), fg_sw_at, fg_sw_sw]
    rfl
theorem bk_rem6 {d : Nat} (h : d < 2 ^ 31) : nI d - nI d / 6 * 6 = nI (d % 6) := pk_rem (a := d) (d := 6) h (by decide) (by decide)
def bk_more (A : Nat → Nat → Int32) (d : Nat) : Int32 := A 0 4 - A 4 (d % 6)
theorem p_thin {i d : Nat} {w : fg_W} (hd : d < 2 ^ 31) (h : w.1 2 i 0 12 = nI d) : f_X2_thinAndThicken i w = some (fg_sw w 2 i (bk_it (bk_thin (bk_more (w.1 2 i) d)) (w.1 2 i) 0 10)) := by
  unfold f_X2_thinAndThicken
  have hm : d % 6 < 6 := Nat.mod_lt _ (by decide)
  rw [h, bk_rem6 hd, fg_gd_nI hm (by decide), fg_let_eq, nI_clamp (by omega)]
  have h := p_thinL (i := i) (more := bk_more (w.1 2 i) d) (fun v2_20 w_20 => some w_20) 10 0 fg_fuel w (by omega) (by unfold fg_fuel; omega)
  rw [nI_0] at h
  exact h
-- (2): from lot to lot
def bk_flow (A : Nat → Nat → Int32) (j : Nat) : Nat → Nat → Int32 := bk_set A 11 j ((A 1 j - A 1 (j + 1)) / 4)
def bk_app (A : Nat → Nat → Int32) (j : Nat) : Nat → Nat → Int32 := bk_set (bk_set A 1 j (A 1 j - A 11 j)) 1 (j + 1) (A 1 (j + 1) + A 11 j)
theorem p_flowL {i : Nat} (K : Int32 → fg_W → Option fg_W) : ∀ (m j fu : Nat) (w : fg_W), j + m = 9 → m < fu → f_X2_spreadFog_L2 i K fu (nI j) w = K (nI 9) (fg_sw w 2 i (bk_it bk_flow (w.1 2 i) j m)) := by
  intro m
  induction m with
  | zero =>
    intro j fu w hj hf
    obtain ⟨fu, rfl⟩ : ∃ z, fu = z + 1 := ⟨fu - 1, by omega⟩
    obtain rfl : j = 9 := by omega
    rw [f_X2_spreadFog_L2, if_pos (by decide), bk_it, fg_sw_id]
  | succ m ih =>
    intro j fu w hj hf
    obtain ⟨fu, rfl⟩ : ∃ z, fu = z + 1 := ⟨fu - 1, by omega⟩
    have hj10 : j < 10 := by omega
    rw [f_X2_spreadFog_L2, if_neg (show ¬ (9 : Int32) ≤ nI j from nI_ge (a := j) (b := 9) (by omega) (by decide)), nI_1, fg_gd_nI hj10 (by decide), fg_gd_nI (show j + 1 < 10 by omega) (by decide), fg_gd_nI hj10 (by decide), fg_let_eq, nI_clamp (show j < 2 ^ 31 by omega), nI_clamp (show j + 1 < 2 ^ 31 by omega), fg_st_set, ih (j + 1) fu _ (by omega) (by omega), fg_sw_at, fg_sw_sw]
    rfl
theorem p_appL {i : Nat} (K : Int32 → fg_W → Option fg_W) : ∀ (m j fu : Nat) (w : fg_W), j + m = 9 → m < fu → f_X2_spreadFog_L39 i K fu (nI j) w = K (nI 9) (fg_sw w 2 i (bk_it bk_app (w.1 2 i) j m)) := by
  intro m
  induction m with
  | zero =>
    intro j fu w hj hf
    obtain ⟨fu, rfl⟩ : ∃ z, fu = z + 1 := ⟨fu - 1, by omega⟩
    obtain rfl : j = 9 := by omega
    rw [f_X2_spreadFog_L39, if_pos (by decide), bk_it, fg_sw_id]
  | succ m ih =>
    intro j fu w hj hf
    obtain ⟨fu, rfl⟩ : ∃ z, fu = z + 1 := ⟨fu - 1, by omega⟩
    have hj10 : j < 10 := by omega
    rw [f_X2_spreadFog_L39, if_neg (show ¬ (9 : Int32) ≤ nI j from nI_ge (a := j) (b := 9) (by omega) (by decide)), nI_1]
    simp only [fg_gd_nI hj10 (show 10 < 2 ^ 31 by decide), fg_gd_nI (show j + 1 < 10 by omega) (show 10 < 2 ^ 31 by decide), fg_let_eq, nI_clamp (show j < 2 ^ 31 by omega), nI_clamp (show j + 1 < 2 ^ 31 by omega), fg_st_set, fg_sw_at, fg_sw_sw]
    rw [ih (j + 1) fu _ (by omega) (by omega), fg_sw_at, fg_sw_sw]
    have e : bk_set (bk_set (w.1 2 i) 1 j (w.1 2 i 1 j - w.1 2 i 11 j)) 1 (j + 1) (bk_set (w.1 2 i) 1 j (w.1 2 i 1 j - w.1 2 i 11 j) 1 (j + 1) + bk_set (w.1 2 i) 1 j (w.1 2 i 1 j - w.1 2 i 11 j) 11 j) = bk_app (w.1 2 i) j := by
      rw [bk_ne _ _ (Or.inr (by omega)), bk_nc _ _ (by decide)]; rfl
    rw [e]
    rfl
theorem p_spread {i : Nat} {w : fg_W} : f_X2_spreadFog i w = some (fg_sw w 2 i (bk_it bk_app (bk_it bk_flow (w.1 2 i) 0 9) 0 9)) := by
  unfold f_X2_spreadFog
  have h := p_flowL (i := i) (fun v1_2 w_2 => f_X2_spreadFog_L39 i (fun v1_39 w_39 => some w_39) fg_fuel 0 w_2) 9 0 fg_fuel w (by omega) (by unfold fg_fuel; omega)
  rw [nI_0] at h
  rw [h]
  have h := p_appL (i := i) (fun v1_39 w_39 => some w_39) 9 0 fg_fuel (fg_sw w 2 i (bk_it bk_flow (w.1 2 i) 0 9)) (by omega) (by unfold fg_fuel; omega)
  rw [nI_0, fg_sw_at, fg_sw_sw] at h
  exact h
-- (4): rents
def bk_ow (A : Nat → Nat → Int32) (n : Nat) : Prop := ∀ p, p < 10 → A 3 p = -1 ∨ ∃ k, k < n ∧ A 3 p = nI k
def bk_paid (A : Nat → Nat → Int32) (k p : Nat) : Int32 := if A 2 p < A 8 k then A 2 p else A 8 k
def bk_pays (A : Nat → Nat → Int32) (k p o : Nat) : Nat → Nat → Int32 :=
  bk_set (bk_set A 8 k (A 8 k - bk_paid A k p)) 8 o (if bk_set A 8 k (A 8 k - bk_paid A k p) 8 o + bk_paid A k p < 9999 then bk_set A 8 k (A 8 k - bk_paid A k p) 8 o + bk_paid A k p else 9999)
def bk_pay (A : Nat → Nat → Int32) (k : Nat) : Nat → Nat → Int32 :=
  if A 6 k = -1 then A else if A 3 (A 6 k).toNatClampNeg = nI k then A else if A 3 (A 6 k).toNatClampNeg = -1 then A else bk_pays A k (A 6 k).toNatClampNeg (A 3 (A 6 k).toNatClampNeg).toNatClampNeg
theorem bk_pays_c (A : Nat → Nat → Int32) (k p o c j : Nat) (h : c ≠ 8) : bk_pays A k p o c j = A c j := by
  unfold bk_pays; rw [bk_nc _ _ h, bk_nc _ _ h]
theorem bk_pay_c (A : Nat → Nat → Int32) (k c j : Nat) (h : c ≠ 8) : bk_pay A k c j = A c j := by
  unfold bk_pay
  repeat' split
  all_goals first | rfl | exact bk_pays_c _ _ _ _ _ _ h
theorem p_isP {i n : Nat} {w : fg_W} (hn : bk_N (w.1 2 i) n) (x : Int32) : f_X2_isPerson i x w = some (if x < 0 then 0 else if nI n ≤ x then 0 else 1, w) := by
  unfold f_X2_isPerson
  rw [hn.1]
  split
  · rfl
  · split <;> rfl
theorem p_payL {i n : Nat} (K : Int32 → fg_W → Option fg_W) : ∀ (m j fu : Nat) (w : fg_W), j + m = n → m < fu → bk_N (w.1 2 i) n → bk_pl (w.1 2 i) → bk_ow (w.1 2 i) n → f_X2_payRents_L2 i K fu (nI j) w = K (nI n) (fg_sw w 2 i (bk_it bk_pay (w.1 2 i) j m)) := by
  intro m
  induction m with
  | zero =>
    intro j fu w hj hf hn hp ho
    obtain ⟨fu, rfl⟩ : ∃ z, fu = z + 1 := ⟨fu - 1, by omega⟩
    obtain rfl : j = n := by omega
    have h8 := hn.2
    rw [f_X2_payRents_L2, hn.1, if_pos (nI_le (Nat.le_refl _) (by omega)), bk_it, fg_sw_id]
  | succ m ih =>
    intro j fu w hj hf hn hp ho
    obtain ⟨fu, rfl⟩ : ∃ z, fu = z + 1 := ⟨fu - 1, by omega⟩
    have h8 := hn.2
    have hj8 : j < 8 := by omega
    rw [f_X2_payRents_L2, hn.1, if_neg (nI_ge (by omega) (by omega)), nI_1, fg_gd_nI hj8 (by decide), nI_clamp (show j < 2 ^ 31 by omega)]
    have key : ∀ w1 : fg_W, w1 = fg_sw w 2 i (bk_pay (w.1 2 i) j) → f_X2_payRents_L2 i K fu (nI (j + 1)) w1 = K (nI n) (fg_sw w 2 i (bk_it bk_pay (w.1 2 i) j (m + 1))) := by
      intro w1 e1
      have e2 : w1.1 2 i = bk_pay (w.1 2 i) j := by rw [e1, fg_sw_at]
      rw [ih (j + 1) fu w1 (by omega) (by omega) (by rw [e2]; exact ⟨by rw [bk_pay_c _ _ _ _ (by decide)]; exact hn.1, hn.2⟩) (by rw [e2]; intro q hq; rw [bk_pay_c _ _ _ _ (by decide)]; exact hp q hq) (by rw [e2]; intro q hq; rw [bk_pay_c _ _ _ _ (by decide)]; exact ho q hq), e2, e1, fg_sw_sw]
      rfl
    by_cases h2 : w.1 2 i 6 j = -1
    · rw [if_pos h2]
      exact key _ (by unfold bk_pay; rw [if_pos h2, fg_sw_id])
    · rw [if_neg h2, fg_gd_nI hj8 (by decide)]
      rcases hp j hj8 with h3 | ⟨p, hp1, hp2⟩
      · exact absurd h3 h2
      · rw [hp2, fg_gd_nI hp1 (by decide), fg_let_eq, nI_clamp (show p < 2 ^ 31 by omega)]
        have e3 : bk_pay (w.1 2 i) j = if w.1 2 i 3 p = nI j then w.1 2 i else if w.1 2 i 3 p = -1 then w.1 2 i else bk_pays (w.1 2 i) j p (w.1 2 i 3 p).toNatClampNeg := by
          unfold bk_pay; rw [if_neg h2, hp2, nI_clamp (by omega)]
        by_cases h4 : w.1 2 i 3 p = nI j
        · rw [if_pos h4] at e3 ⊢
          exact key _ (by rw [e3, fg_sw_id])
        · rw [if_neg h4] at e3 ⊢
          rw [p_isP hn, fg_bi_some]
          rcases ho p hp1 with h5 | ⟨o, ho1, ho2⟩
          · rw [if_pos h5] at e3
            rw [h5, if_pos (show (-1 : Int32) < 0 by decide), if_pos rfl]
            exact key _ (by rw [e3, fg_sw_id])
          · have h6 : ¬ w.1 2 i 3 p = -1 := by
              rw [ho2]; intro z; have := nI_pos (n := o) (by omega); rw [z] at this; exact this (by decide)
            have ho8 : o < 8 := by omega
            rw [if_neg h6, ho2, nI_clamp (show o < 2 ^ 31 by omega)] at e3
            rw [ho2, if_neg (nI_pos (by omega)), if_neg (nI_ge ho1 (by omega)), if_neg (by decide)]
            simp only [fg_gd_nI hj8 (show 8 < 2 ^ 31 by decide), fg_gd_nI ho8 (show 8 < 2 ^ 31 by decide), hp2, fg_gd_nI hp1 (show 10 < 2 ^ 31 by decide), fg_let_eq, nI_clamp (show p < 2 ^ 31 by omega), nI_clamp (show o < 2 ^ 31 by omega), fg_st_set, fg_sw_at, fg_sw_sw]
            exact key _ (by rw [e3]; rfl)
theorem p_pay {i n : Nat} {w : fg_W} (hn : bk_N (w.1 2 i) n) (hp : bk_pl (w.1 2 i)) (ho : bk_ow (w.1 2 i) n) : f_X2_payRents i w = some (fg_sw w 2 i (bk_it bk_pay (w.1 2 i) 0 n)) := by
  unfold f_X2_payRents
  have h8 := hn.2
  have h := p_payL (i := i) (n := n) (fun v1_2 w_2 => some w_2) n 0 fg_fuel w (by omega) (by unfold fg_fuel; omega) hn hp ho
  rw [nI_0] at h
  exact h
-- (5): beliefs
def bk_gb (A : Nat → Nat → Int32) (k : Nat) : Nat → Int32
  | 0 => 0
  | m + 1 => if m = k then bk_gb A k m else if A 6 m = A 6 k then (if bk_gb A k m < A 7 m then A 7 m else bk_gb A k m) else bk_gb A k m
theorem p_gbL {i k n : Nat} {w : fg_W} (hn : bk_N (w.1 2 i) n) (hk : k < 8) (K : Int32 → Int32 → fg_W → Option (Int32 × fg_W)) : ∀ (m j fu : Nat), j + m = n → m < fu → f_X2_greatestBeliefBeside_L16 i (nI k) K fu (bk_gb (w.1 2 i) k j) (nI j) w = K (bk_gb (w.1 2 i) k n) (nI n) w := by
  obtain ⟨h5, h8⟩ := hn
  intro m
  induction m with
  | zero =>
    intro j fu hj hf
    obtain ⟨fu, rfl⟩ : ∃ z, fu = z + 1 := ⟨fu - 1, by omega⟩
    obtain rfl : j = n := by omega
    rw [f_X2_greatestBeliefBeside_L16, h5, if_pos (nI_le (Nat.le_refl _) (by omega))]
  | succ m ih =>
    intro j fu hj hf
    obtain ⟨fu, rfl⟩ : ∃ z, fu = z + 1 := ⟨fu - 1, by omega⟩
    rw [f_X2_greatestBeliefBeside_L16, h5, if_neg (nI_ge (by omega) (by omega))]
    have e := ih (j + 1) fu (by omega) (by omega)
    simp only [fg_let_eq, fg_gd_nI (show j < 8 by omega) (show 8 < 2 ^ 31 by decide), fg_gd_nI hk (show 8 < 2 ^ 31 by decide), nI_clamp (show j < 2 ^ 31 by omega), nI_clamp (show k < 2 ^ 31 by omega), nI_1, nI_eq (show j < 2 ^ 31 by omega) (show k < 2 ^ 31 by omega)]
    rw [← e]
    simp only [bk_gb]
    by_cases h1 : j = k
    · simp [h1]
    · by_cases h2 : w.1 2 i 6 j = w.1 2 i 6 k <;> simp [h1, h2]
def bk_best (A : Nat → Nat → Int32) (n k : Nat) : Int32 := if A 6 k = -1 then 0 else bk_gb A k n
theorem p_gb {i k n : Nat} {w : fg_W} (hn : bk_N (w.1 2 i) n) (hk : k < 8) : f_X2_greatestBeliefBeside i (nI k) w = some (bk_best (w.1 2 i) n k, w) := by
  have ho := p_gbL hn hk (fun v2_16 v3_16 w_16 => some (v2_16, w_16)) n 0 fg_fuel (by omega) (by have := hn.2; unfold fg_fuel; omega)
  simp only [bk_gb, nI_0] at ho
  unfold f_X2_greatestBeliefBeside bk_best
  rw [fg_gd_nI hk (by decide), nI_clamp (by omega), ho]
  split <;> rfl
def bk_spr (n : Nat) (A : Nat → Nat → Int32) (k : Nat) : Nat → Nat → Int32 := bk_set A 11 k (if bk_best A n k - A 7 k ≤ 0 then 0 else (bk_best A n k - A 7 k) / 4)
def bk_add (A : Nat → Nat → Int32) (k : Nat) : Nat → Nat → Int32 := bk_set A 7 k (A 7 k + A 11 k)
theorem p_sprL {i n : Nat} (K : Int32 → fg_W → Option fg_W) : ∀ (m j fu : Nat) (w : fg_W), j + m = n → m < fu → bk_N (w.1 2 i) n → f_X2_spreadBelief_L2 i K fu (nI j) w = K (nI n) (fg_sw w 2 i (bk_it (bk_spr n) (w.1 2 i) j m)) := by
  intro m
  induction m with
  | zero =>
    intro j fu w hj hf hn
    obtain ⟨fu, rfl⟩ : ∃ z, fu = z + 1 := ⟨fu - 1, by omega⟩
    obtain rfl : j = n := by omega
    have h8 := hn.2
    rw [f_X2_spreadBelief_L2, hn.1, if_pos (nI_le (Nat.le_refl _) (by omega)), bk_it, fg_sw_id]
  | succ m ih =>
    intro j fu w hj hf hn
    obtain ⟨fu, rfl⟩ : ∃ z, fu = z + 1 := ⟨fu - 1, by omega⟩
    have h8 := hn.2
    have hj8 : j < 8 := by omega
    rw [f_X2_spreadBelief_L2, hn.1, if_neg (nI_ge (by omega) (by omega)), nI_1, p_gb hn hj8, fg_bi_some]
    have key : ∀ w1 : fg_W, w1 = fg_sw w 2 i (bk_spr n (w.1 2 i) j) → f_X2_spreadBelief_L2 i K fu (nI (j + 1)) w1 = K (nI n) (fg_sw w 2 i (bk_it (bk_spr n) (w.1 2 i) j (m + 1))) := by
      intro w1 e1
      have e2 : w1.1 2 i = bk_spr n (w.1 2 i) j := by rw [e1, fg_sw_at]
      rw [ih (j + 1) fu w1 (by omega) (by omega) (by rw [e2]; exact ⟨by unfold bk_spr; rw [bk_nc _ _ (by decide)]; exact hn.1, hn.2⟩), e2, e1, fg_sw_sw]
      rfl
    simp only [fg_gd_nI hj8 (show 8 < 2 ^ 31 by decide), fg_gd_nI (show j < 10 by omega) (show 10 < 2 ^ 31 by decide), fg_let_eq, nI_clamp (show j < 2 ^ 31 by omega), fg_st_set]
    by_cases h : bk_best (w.1 2 i) n j - w.1 2 i 7 j ≤ 0
    · rw [if_pos h]; exact key _ (by unfold bk_spr; rw [if_pos h])
    · rw [if_neg h]; exact key _ (by unfold bk_spr; rw [if_neg h])
theorem p_addL {i n : Nat} (K : Int32 → fg_W → Option fg_W) : ∀ (m j fu : Nat) (w : fg_W), j + m = n → m < fu → bk_N (w.1 2 i) n → f_X2_spreadBelief_L48 i K fu (nI j) w = K (nI n) (fg_sw w 2 i (bk_it bk_add (w.1 2 i) j m)) := by
  intro m
  induction m with
  | zero =>
    intro j fu w hj hf hn
    obtain ⟨fu, rfl⟩ : ∃ z, fu = z + 1 := ⟨fu - 1, by omega⟩
    obtain rfl : j = n := by omega
    have h8 := hn.2
    rw [f_X2_spreadBelief_L48, hn.1, if_pos (nI_le (Nat.le_refl _) (by omega)), bk_it, fg_sw_id]
  | succ m ih =>
    intro j fu w hj hf hn
    obtain ⟨fu, rfl⟩ : ∃ z, fu = z + 1 := ⟨fu - 1, by omega⟩
    have h8 := hn.2
    have hj8 : j < 8 := by omega
    rw [f_X2_spreadBelief_L48, hn.1, if_neg (nI_ge (by omega) (by omega)), nI_1]
    simp only [fg_gd_nI hj8 (show 8 < 2 ^ 31 by decide), fg_gd_nI (show j < 10 by omega) (show 10 < 2 ^ 31 by decide), fg_let_eq, nI_clamp (show j < 2 ^ 31 by omega), fg_st_set]
    rw [ih (j + 1) fu _ (by omega) (by omega) (by rw [fg_sw_at]; exact ⟨by rw [bk_nc _ _ (by decide)]; exact hn.1, hn.2⟩), fg_sw_at, fg_sw_sw]
    rfl
theorem bk_it_keep {f : (Nat → Nat → Int32) → Nat → Nat → Nat → Int32} {P : (Nat → Nat → Int32) → Prop} : ∀ (m j : Nat) (A : Nat → Nat → Int32), (∀ B k, j ≤ k → k < j + m → P B → P (f B k)) → P A → P (bk_it f A j m) := by
  intro m
  induction m with
  | zero => intro j A _ h; exact h
  | succ m ih =>
    intro j A hs h
    exact ih (j + 1) (f A j) (fun B k h1 h2 hB => hs B k (by omega) (by omega) hB) (hs A j (by omega) (by omega) h)
theorem p_sprd {i n : Nat} {w : fg_W} (hn : bk_N (w.1 2 i) n) : f_X2_spreadBelief i w = some (fg_sw w 2 i (bk_it bk_add (bk_it (bk_spr n) (w.1 2 i) 0 n) 0 n)) := by
  unfold f_X2_spreadBelief
  have h8 := hn.2
  have h := p_sprL (i := i) (n := n) (fun v1_2 w_2 => f_X2_spreadBelief_L48 i (fun v1_48 w_48 => some w_48) fg_fuel 0 w_2) n 0 fg_fuel w (by omega) (by unfold fg_fuel; omega) hn
  rw [nI_0] at h
  rw [h]
  have hN : bk_N ((fg_sw w 2 i (bk_it (bk_spr n) (w.1 2 i) 0 n)).1 2 i) n := by
    rw [fg_sw_at]
    refine ⟨?_, hn.2⟩
    exact bk_it_keep (P := fun B => B 0 5 = nI n) n 0 _ (fun B k _ _ hB => by unfold bk_spr; rw [bk_nc _ _ (by decide)]; exact hB) hn.1
  have h := p_addL (i := i) (n := n) (fun v1_48 w_48 => some w_48) n 0 fg_fuel (fg_sw w 2 i (bk_it (bk_spr n) (w.1 2 i) 0 n)) (by omega) (by unfold fg_fuel; omega) hN
  rw [nI_0, fg_sw_at, fg_sw_sw] at h
  exact h
-- a day
def bk_d1 (A : Nat → Nat → Int32) : Nat → Nat → Int32 := bk_it (bk_thin (bk_more A (A 0 12).toNatClampNeg)) A 0 10
def bk_d2 (A : Nat → Nat → Int32) : Nat → Nat → Int32 := bk_it bk_app (bk_it bk_flow A 0 9) 0 9
def bk_d3 (n : Nat) (A : Nat → Nat → Int32) : Nat → Nat → Int32 := bk_it (bk_move n) A 0 n
def bk_d4 (n : Nat) (A : Nat → Nat → Int32) : Nat → Nat → Int32 := bk_it bk_pay A 0 n
def bk_d5 (n : Nat) (A : Nat → Nat → Int32) : Nat → Nat → Int32 := bk_it bk_add (bk_it (bk_spr n) A 0 n) 0 n
def bk_tick (A : Nat → Nat → Int32) : Nat → Nat → Int32 := bk_set A 0 12 (if 99999 ≤ A 0 12 then 99999 else A 0 12 + 1)
def bk_day (n : Nat) (A : Nat → Nat → Int32) : Nat → Nat → Int32 := bk_tick (bk_d5 n (bk_d4 n (bk_d3 n (bk_d2 (bk_d1 A)))))
def bk_days (n : Nat) (A : Nat → Nat → Int32) : Nat → Nat → Nat → Int32
  | 0 => A
  | m + 1 => bk_days n (bk_day n A) m
/-- all that holds of a bank -/
def bk_I (A : Nat → Nat → Int32) (n : Nat) : Prop := bk_N A n ∧ bk_pl A ∧ bk_ow A n ∧ (∃ d, d ≤ 99999 ∧ A 0 12 = nI d) ∧ (∀ k, k < 8 → ∃ q, q ≤ 6 ∧ A 5 k = nI q) ∧ (∀ k, k < 8 → ∃ b, b ≤ 99 ∧ A 7 k = nI b) ∧ (∀ k, k < 8 → ∃ b, b ≤ 9999 ∧ A 8 k = nI b) ∧ (∀ k, k < 8 → ∃ b, b ≤ 9999 ∧ A 9 k = nI b) ∧ (∀ p, p < 10 → ∃ r, r ≤ 20 ∧ A 2 p = nI r) ∧ (∀ p, p < 10 → A 10 p = -1 ∨ ∃ k, k < n ∧ A 10 p = nI k)
/-- a change that the invariant doesn't see -/
theorem bk_I.cong {A B : Nat → Nat → Int32} {n : Nat} (h : bk_I A n) (e : ∀ c j, c ≠ 1 → c ≠ 11 → c ≠ 4 → (c = 0 → j = 5 ∨ j = 12) → (5 ≤ c → c ≤ 9 → j < 8) → (c = 2 ∨ c = 3 ∨ c = 10 → j < 10) → B c j = A c j) : bk_I B n := by
  obtain ⟨⟨h1, h1'⟩, h2, h3, h4, h5, h6, h7, h8, h9, h10⟩ := h
  refine ⟨⟨?_, h1'⟩, fun k hk => ?_, fun k hk => ?_, ?_, fun k hk => ?_, fun k hk => ?_, fun k hk => ?_, fun k hk => ?_, fun k hk => ?_, fun k hk => ?_⟩
  · rw [e 0 5 (by decide) (by decide) (by decide) (by omega) (by omega) (by omega)]; exact h1
  · rw [e 6 k (by decide) (by decide) (by decide) (by omega) (by omega) (by omega)]; exact h2 k hk
  · rw [e 3 k (by decide) (by decide) (by decide) (by omega) (by omega) (by omega)]; exact h3 k hk
  · rw [e 0 12 (by decide) (by decide) (by decide) (by omega) (by omega) (by omega)]; exact h4
  · rw [e 5 k (by decide) (by decide) (by decide) (by omega) (by omega) (by omega)]; exact h5 k hk
  · rw [e 7 k (by decide) (by decide) (by decide) (by omega) (by omega) (by omega)]; exact h6 k hk
  · rw [e 8 k (by decide) (by decide) (by decide) (by omega) (by omega) (by omega)]; exact h7 k hk
  · rw [e 9 k (by decide) (by decide) (by decide) (by omega) (by omega) (by omega)]; exact h8 k hk
  · rw [e 2 k (by decide) (by decide) (by decide) (by omega) (by omega) (by omega)]; exact h9 k hk
  · rw [e 10 k (by decide) (by decide) (by decide) (by omega) (by omega) (by omega)]; exact h10 k hk
theorem bk_I_d1 {A : Nat → Nat → Int32} {n : Nat} (h : bk_I A n) : bk_I (bk_d1 A) n :=
  bk_it_keep (P := fun B => bk_I B n) 10 0 _ (fun B k _ _ hB => hB.cong (fun c j h1 _ _ _ _ _ => bk_nc _ _ h1 _)) h
theorem bk_I_d2 {A : Nat → Nat → Int32} {n : Nat} (h : bk_I A n) : bk_I (bk_d2 A) n :=
  bk_it_keep (P := fun B => bk_I B n) 9 0 _ (fun B k _ _ hB => hB.cong (fun c j h1 _ _ _ _ _ => by unfold bk_app; rw [bk_nc _ _ h1, bk_nc _ _ h1])) (bk_it_keep (P := fun B => bk_I B n) 9 0 _ (fun B k _ _ hB => hB.cong (fun c j _ h1 _ _ _ _ => bk_nc _ _ h1 _)) h)
theorem bk_lt_iff {a b : Nat} (ha : a < 2 ^ 31) (hb : b < 2 ^ 31) : (nI a < nI b) = (a < b) := propext (nI_ltI ha hb)
theorem bk_le_iff {a b : Nat} (ha : a < 2 ^ 31) (hb : b < 2 ^ 31) : (nI a ≤ nI b) = (a ≤ b) := propext (nI_leI ha hb)
theorem bk_loses_nI {q : Nat} (h : q ≤ 6) : ∃ l, l ≤ 20 ∧ bk_loses (nI q) = nI l := by
  have : ∀ q, q < 7 → ∃ l, l < 21 ∧ bk_loses (nI q) = nI l := by decide
  obtain ⟨l, h1, h2⟩ := this q (by omega)
  exact ⟨l, by omega, h2⟩
theorem bk_fall_b {b l : Nat} (hb : b ≤ 99) (hl : l ≤ 20) : ∃ c, c ≤ 99 ∧ (if (0 : Int32) < nI b - nI l then nI b - nI l else 0) = nI c := by
  by_cases h : l ≤ b
  · rw [pk_sub h]
    by_cases h2 : (0 : Int32) < nI (b - l)
    · rw [if_pos h2]; exact ⟨b - l, by omega, rfl⟩
    · rw [if_neg h2]; exact ⟨0, by omega, rfl⟩
  · have h2 : ¬ (0 : Int32) < nI b - nI l := by
      have := pk_sneg (a := b) (b := l) (by omega) (by omega)
      intro z
      exact absurd (Int32.lt_trans z this) (by decide)
    rw [if_neg h2]; exact ⟨0, by omega, rfl⟩
theorem bk_I_move {A : Nat → Nat → Int32} {n k : Nat} (h : bk_I A n) (hk : k < 8) : bk_I (bk_move n A k) n := by
  obtain ⟨⟨h1, h1'⟩, h2, h3, h4, h5, h6, h7, h8, h9, h10⟩ := h
  refine ⟨⟨?_, h1'⟩, bk_move_pl h2, fun j hj => ?_, ?_, fun j hj => ?_, fun j hj => ?_, fun j hj => ?_, fun j hj => ?_, fun j hj => ?_, fun j hj => ?_⟩
  · rw [bk_move_c _ _ _ _ _ (by decide) (by decide) (by decide)]; exact h1
  · rw [bk_move_c _ _ _ _ _ (by decide) (by decide) (by decide)]; exact h3 j hj
  · rw [bk_move_c _ _ _ _ _ (by decide) (by decide) (by decide)]; exact h4
  · rw [bk_move_c _ _ _ _ _ (by decide) (by decide) (by decide)]; exact h5 j hj
  · unfold bk_move
    split
    · split
      · rw [bk_nc _ _ (by decide)]; exact h6 j hj
      · split
        · unfold bk_fall
          rw [bk_nc _ _ (by decide)]
          by_cases e : j = k
          · subst e
            rw [bk_same]
            obtain ⟨b, hb1, hb2⟩ := h6 j hj
            obtain ⟨q, hq1, hq2⟩ := h5 j hj
            obtain ⟨l, hl1, hl2⟩ := bk_loses_nI hq1
            rw [hb2, hq2, hl2]
            exact bk_fall_b hb1 hl1
          · rw [bk_ne _ _ (Or.inr e), bk_nc _ _ (by decide)]; exact h6 j hj
        · exact h6 j hj
    · exact h6 j hj
  · rw [bk_move_c _ _ _ _ _ (by decide) (by decide) (by decide)]; exact h7 j hj
  · unfold bk_move
    split
    · split
      · rw [bk_nc _ _ (by decide)]; exact h8 j hj
      · split
        · unfold bk_fall
          rw [bk_nc _ _ (by decide), bk_nc _ _ (by decide)]
          by_cases e : j = k
          · subst e
            rw [bk_same]
            obtain ⟨b, hb1, hb2⟩ := h8 j hj
            rw [hb2, nI_1]
            split
            · rename_i hlt
              rw [show (9999 : Int32) = nI 9999 from rfl, bk_lt_iff (by omega) (by omega)] at hlt
              exact ⟨b + 1, by omega, rfl⟩
            · exact ⟨9999, by omega, rfl⟩
          · rw [bk_ne _ _ (Or.inr e)]; exact h8 j hj
        · exact h8 j hj
    · exact h8 j hj
  · rw [bk_move_c _ _ _ _ _ (by decide) (by decide) (by decide)]; exact h9 j hj
  · rw [bk_move_c _ _ _ _ _ (by decide) (by decide) (by decide)]; exact h10 j hj
