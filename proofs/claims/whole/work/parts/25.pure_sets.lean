/-- a loop that counts from 0 to n and gathers -/
theorem lp_acc {β : Type} {L : Nat → Int32 → Int32 → fg_W → Option β} {K : Int32 → Int32 → fg_W → Option β} {acc : Nat → Int32} {n : Nat} {w : fg_W} (hx : ∀ fu, L (fu + 1) (acc n) (nI n) w = K (acc n) (nI n) w) (hs : ∀ fu j, j < n → L (fu + 1) (acc j) (nI j) w = L fu (acc (j + 1)) (nI (j + 1)) w) : ∀ (m j fu : Nat), j + m = n → m < fu → L fu (acc j) (nI j) w = K (acc n) (nI n) w := by
  intro m
  induction m with
  | zero =>
    intro j fu hj hf
    obtain ⟨fu, rfl⟩ : ∃ z, fu = z + 1 := ⟨fu - 1, by omega⟩
    obtain rfl : j = n := by omega
    exact hx fu
  | succ m ih =>
    intro j fu hj hf
    obtain ⟨fu, rfl⟩ : ∃ z, fu = z + 1 := ⟨fu - 1, by omega⟩
    rw [hs fu j (by omega)]
    exact ih (j + 1) fu (by omega) (by omega)
theorem lp_go {β : Type} {L : Nat → Int32 → Int32 → fg_W → Option β} {K : Int32 → Int32 → fg_W → Option β} {acc : Nat → Int32} {n : Nat} {w : fg_W} (hn : n < 900) (hx : ∀ fu, L (fu + 1) (acc n) (nI n) w = K (acc n) (nI n) w) (hs : ∀ fu j, j < n → L (fu + 1) (acc j) (nI j) w = L fu (acc (j + 1)) (nI (j + 1)) w) : L fg_fuel (acc 0) 0 w = K (acc n) (nI n) w := by
  have := lp_acc hx hs n 0 fg_fuel (by omega) (by unfold fg_fuel; omega)
  rwa [nI_0] at this
theorem p_who {i n : Nat} {w : fg_W} (hn : bk_N (w.1 2 i) n) (v : Int32) : f_X2_thoseOn i v w = some (bk_who (w.1 2 i) v n, w) := by
  have h8 := hn.2
  refine lp_go (L := f_X2_thoseOn_L4 i v (fun v2_4 v3_4 w_4 => some (v2_4, w_4))) (K := fun v2_4 v3_4 w_4 => some (v2_4, w_4)) (acc := bk_who (w.1 2 i) v) (n := n) (by omega) (fun fu => ?_) (fun fu j hj => ?_)
  · rw [f_X2_thoseOn_L4, hn.1, if_pos (nI_le (Nat.le_refl _) (by omega))]
  · rw [f_X2_thoseOn_L4, hn.1, if_neg (nI_ge hj (by omega)), fg_gd_nI (show j < 8 by omega) (by decide), nI_clamp (by omega), nI_1, bk_who]
    by_cases h1 : w.1 2 i 6 j = v
    · rw [if_pos h1, if_pos h1]; rfl
    · rw [if_neg h1, if_neg h1]
def bk_onl (A : Nat → Nat → Int32) : Nat → Int32
  | 0 => 0
  | m + 1 => if A 6 m = -1 then bk_onl A m else bk_onl A m ||| ((1 : Int32) <<< (nI m &&& 31))
theorem p_onl {i n : Nat} {w : fg_W} (hn : bk_N (w.1 2 i) n) : f_X2_thoseOnLots i w = some (bk_onl (w.1 2 i) n, w) := by
  have h8 := hn.2
  refine lp_go (L := f_X2_thoseOnLots_L4 i (fun v1_4 v2_4 w_4 => some (v1_4, w_4))) (K := fun v1_4 v2_4 w_4 => some (v1_4, w_4)) (acc := bk_onl (w.1 2 i)) (n := n) (by omega) (fun fu => ?_) (fun fu j hj => ?_)
  · rw [f_X2_thoseOnLots_L4, hn.1, if_pos (nI_le (Nat.le_refl _) (by omega))]
  · rw [f_X2_thoseOnLots_L4, hn.1, if_neg (nI_ge hj (by omega)), fg_gd_nI (show j < 8 by omega) (by decide), nI_clamp (by omega), nI_1, bk_onl]
    by_cases h1 : w.1 2 i 6 j = -1
    · rw [if_pos h1, if_pos h1]
    · rw [if_neg h1, if_neg h1]; rfl
theorem bk_onl_who (A : Nat → Nat → Int32) : ∀ n, n ≤ 8 → ∃ x y, bk_who A (-1) n = nI x ∧ bk_onl A n = nI y ∧ x + y + 1 = 2 ^ n := by
  intro n
  induction n with
  | zero => intro _; exact ⟨0, 0, rfl, rfl, rfl⟩
  | succ n ih =>
    intro hn
    obtain ⟨x, y, ex, ey, hxy⟩ := ih (by omega)
    simp only [bk_who, bk_onl]
    have h2 : 2 ^ (n + 1) = 2 ^ n + 2 ^ n := by omega
    by_cases h1 : A 6 n = -1
    · rw [if_pos h1, if_pos h1, ex, ey, bk_orb n (by omega) x (by omega)]
      exact ⟨x + 2 ^ n, y, rfl, rfl, by omega⟩
    · rw [if_neg h1, if_neg h1, ex, ey, bk_orb n (by omega) y (by omega)]
      exact ⟨x, y + 2 ^ n, rfl, rfl, by omega⟩
theorem bk_compl : ∀ n, n < 9 → ∀ x, x < 2 ^ n → (((1 : Int32) <<< (nI n &&& 31)) - 1) &&& (nI x ^^^ (-1)) = nI (2 ^ n - 1 - x) := by decide +kernel
theorem m_onl {w : fg_W} {A : Nat → Nat → Int32} {n : Nat} (h : rm w A) (hn : bk_N A n) : f_X4_onLots w = some (bk_onl A n, w) := by
  unfold f_X4_onLots
  rw [m_who h hn, fg_bi_some, h.1.2.1, hn.1]
  obtain ⟨x, y, ex, ey, hxy⟩ := bk_onl_who A n hn.2
  have := hn.2
  rw [ex, ey, bk_compl n (by omega) x (by omega)]
  congr 3
  omega
theorem bk_onl_lt (A : Nat → Nat → Int32) {n : Nat} (hn : n ≤ 8) : ∃ y, y < 256 ∧ bk_onl A n = nI y := by
  obtain ⟨x, y, ex, ey, hxy⟩ := bk_onl_who A n hn
  have : 2 ^ n ≤ 2 ^ 8 := Nat.pow_le_pow_right (by decide) hn
  exact ⟨y, by omega, ey⟩
def bk_std (A : Nat → Nat → Int32) (n lot : Nat) : Nat → Int32
  | 0 => 0
  | m + 1 => if A 1 lot + bk_trust A n m lot < 60 then bk_std A n lot m else bk_std A n lot m ||| ((1 : Int32) <<< (nI m &&& 31))
theorem p_std {i n lot : Nat} {w : fg_W} (hn : bk_N (w.1 2 i) n) (hl : lot < 10) : f_X2_thoseStanding i (nI lot) w = some (bk_std (w.1 2 i) n lot n, w) := by
  have h8 := hn.2
  refine lp_go (L := f_X2_thoseStanding_L4 i (nI lot) (fun v2_4 v3_4 w_4 => some (v2_4, w_4))) (K := fun v2_4 v3_4 w_4 => some (v2_4, w_4)) (acc := bk_std (w.1 2 i) n lot) (n := n) (by omega) (fun fu => ?_) (fun fu j hj => ?_)
  · rw [f_X2_thoseStanding_L4, hn.1, if_pos (nI_le (Nat.le_refl _) (by omega))]
  · rw [f_X2_thoseStanding_L4, hn.1, if_neg (nI_ge hj (by omega)), p_stands hn (by omega) hl, fg_bi_some, nI_1, bk_std]
    by_cases h1 : w.1 2 i 1 lot + bk_trust (w.1 2 i) n j lot < 60
    · simp only [h1, if_true]
    · simp only [h1, if_false]; rw [if_neg (by decide)]; rfl
theorem m_std {w : fg_W} {A : Nat → Nat → Int32} {n lot : Nat} (h : rm w A) (hn : bk_N A n) (hl : lot < 10) : f_X4_standing (nI lot) w = some (bk_std A n lot n, w) := by
  have h8 := hn.2
  refine lp_go (L := f_X4_standing_L4 (nI lot) (fun v2_4 v3_4 w_4 => some (v2_4, w_4))) (K := fun v2_4 v3_4 w_4 => some (v2_4, w_4)) (acc := bk_std A n lot) (n := n) (by omega) (fun fu => ?_) (fun fu j hj => ?_)
  · rw [f_X4_standing_L4, h.1.2.1, hn.1, if_pos (nI_le (Nat.le_refl _) (by omega))]
  · rw [f_X4_standing_L4, h.1.2.1, hn.1, if_neg (nI_ge hj (by omega)), m_stands h hn (by omega) hl, fg_bi_some, nI_1, bk_std]
    by_cases h1 : A 1 lot + bk_trust A n j lot < 60
    · simp only [h1, if_true, fg_let_eq, bk_or0]
    · simp only [h1, if_false, fg_let_eq]; rw [if_neg (by decide)]
def bk_own (A : Nat → Nat → Int32) (v : Int32) : Nat → Int32
  | 0 => 0
  | m + 1 => if A 3 m = v then bk_own A v m ||| ((1 : Int32) <<< (nI m &&& 31)) else bk_own A v m
theorem p_own {i : Nat} {w : fg_W} (v : Int32) : f_X2_lotsOwnedBy i v w = some (bk_own (w.1 2 i) v 10, w) := by
  refine lp_go (L := f_X2_lotsOwnedBy_L4 i v (fun v2_4 v3_4 w_4 => some (v2_4, w_4))) (K := fun v2_4 v3_4 w_4 => some (v2_4, w_4)) (acc := bk_own (w.1 2 i) v) (n := 10) (by omega) (fun fu => ?_) (fun fu j hj => ?_)
  · rw [f_X2_lotsOwnedBy_L4, if_pos (by decide)]
  · rw [f_X2_lotsOwnedBy_L4, if_neg (show ¬ (10 : Int32) ≤ nI j from nI_ge (a := j) (b := 10) hj (by decide)), fg_gd_nI hj (by decide), nI_clamp (by omega), nI_1, bk_own]
    by_cases h1 : w.1 2 i 3 j = v
    · rw [if_pos h1, if_pos h1]; rfl
    · rw [if_neg h1, if_neg h1]
theorem m_own {w : fg_W} {A : Nat → Nat → Int32} (h : rm w A) (v : Int32) : f_X4_ownedBy v w = some (bk_own A v 10, w) := by
  refine lp_go (L := f_X4_ownedBy_L4 v (fun v2_4 v3_4 w_4 => some (v2_4, w_4))) (K := fun v2_4 v3_4 w_4 => some (v2_4, w_4)) (acc := bk_own A v) (n := 10) (by omega) (fun fu => ?_) (fun fu j hj => ?_)
  · rw [f_X4_ownedBy_L4, if_pos (by decide)]
  · rw [f_X4_ownedBy_L4, if_neg (show ¬ (10 : Int32) ≤ nI j from nI_ge (a := j) (b := 10) hj (by decide)), m_owner h hj, fg_bi_some, nI_1, bk_own]
    by_cases h1 : A 3 j = v
    · rw [if_pos h1, if_pos h1]; rfl
    · rw [if_neg h1, if_neg h1, fg_let_eq, bk_or0]
def bk_sum (f : Nat → Int32) : Nat → Int32
  | 0 => 0
  | m + 1 => bk_sum f m + f m
theorem p_sum {K i b n t : Nat} {w : fg_W} (ht : t ≤ n) (hn : n < 900) : f_X3_sumOf K i b n (nI t) w = some (bk_sum (w.1 K i b) t, w) := by
  refine lp_go (L := f_X3_sumOf_L4 K i b n (nI t) (fun v2_4 v3_4 w_4 => some (v2_4, w_4))) (K := fun v2_4 v3_4 w_4 => some (v2_4, w_4)) (acc := bk_sum (w.1 K i b)) (n := t) (by omega) (fun fu => ?_) (fun fu j hj => ?_)
  · rw [f_X3_sumOf_L4, if_pos (nI_le (Nat.le_refl _) (by omega))]
  · rw [f_X3_sumOf_L4, if_neg (nI_ge hj (by omega)), fg_gd_nI (by omega) (by omega), nI_clamp (by omega), nI_1]; rfl
theorem m_sum {w : fg_W} {A : Nat → Nat → Int32} {n : Nat} (h : rm w A) (hn : bk_N A n) {f : Nat} (hf : f < 5) : f_X4_sumOf (nI f) w = some (bk_sum (A (5 + f)) n, w) := by
  have h8 := hn.2
  refine lp_go (L := f_X4_sumOf_L4 (nI f) (fun v2_4 v3_4 w_4 => some (v2_4, w_4))) (K := fun v2_4 v3_4 w_4 => some (v2_4, w_4)) (acc := bk_sum (A (5 + f))) (n := n) (by omega) (fun fu => ?_) (fun fu j hj => ?_)
  · rw [f_X4_sumOf_L4, h.1.2.1, hn.1, if_pos (nI_le (Nat.le_refl _) (by omega))]
  · rw [f_X4_sumOf_L4, h.1.2.1, hn.1, if_neg (nI_ge hj (by omega)), m_get h f (by omega) hf, fg_bi_some, nI_1]; rfl
theorem m_fogs {w : fg_W} {A : Nat → Nat → Int32} (h : rm w A) : f_X4_fogs w = some (bk_sum (A 1) 10, w) := by
  refine lp_go (L := f_X4_fogs_L4 (fun v2_4 v3_4 w_4 => some (v2_4, w_4))) (K := fun v2_4 v3_4 w_4 => some (v2_4, w_4)) (acc := bk_sum (A 1)) (n := 10) (by omega) (fun fu => ?_) (fun fu j hj => ?_)
  · rw [f_X4_fogs_L4, if_pos (by decide)]
  · rw [f_X4_fogs_L4, if_neg (show ¬ (10 : Int32) ≤ nI j from nI_ge (a := j) (b := 10) hj (by decide)), m_fog h hj, fg_bi_some, nI_1]; rfl
/-- the first greatest -/
def bk_fg (f : Nat → Int32) : Nat → Int32
  | 0 => -1
  | m + 1 => if bk_fg f m < 0 then nI m else if f m ≤ f (bk_fg f m).toNatClampNeg then bk_fg f m else nI m
theorem bk_fg_in (f : Nat → Int32) : ∀ m, m < 900 → (m = 0 ∧ bk_fg f m = -1) ∨ ∃ p, p < m ∧ bk_fg f m = nI p := by
  intro m
  induction m with
  | zero => intro _; exact Or.inl ⟨rfl, rfl⟩
  | succ m ih =>
    intro hm
    refine Or.inr ?_
    simp only [bk_fg]
    rcases ih (by omega) with ⟨_, e⟩ | ⟨p, hp, e⟩
    · rw [e, if_pos (by decide)]; exact ⟨m, by omega, rfl⟩
    · rw [e, if_neg (nI_pos (by omega))]
      split
      · exact ⟨p, by omega, rfl⟩
      · exact ⟨m, by omega, rfl⟩
theorem p_fg {K i b n t : Nat} {w : fg_W} (ht : t ≤ n) (hn : n < 900) : f_X3_firstGreatest K i b n (nI t) w = some (bk_fg (w.1 K i b) t, w) := by
  refine lp_go (L := f_X3_firstGreatest_L4 K i b n (nI t) (fun v2_4 v3_4 w_4 => some (v2_4, w_4))) (K := fun v2_4 v3_4 w_4 => some (v2_4, w_4)) (acc := bk_fg (w.1 K i b)) (n := t) (by omega) (fun fu => ?_) (fun fu j hj => ?_)
  · rw [f_X3_firstGreatest_L4, if_pos (nI_le (Nat.le_refl _) (by omega))]
  · rw [f_X3_firstGreatest_L4, if_neg (nI_ge hj (by omega)), nI_1, bk_fg]
    by_cases h0 : bk_fg (w.1 K i b) j < 0
    · rw [if_pos h0, if_pos h0]
    · rw [if_neg h0, if_neg h0]
      rcases bk_fg_in (w.1 K i b) j (by omega) with ⟨_, e⟩ | ⟨p, hp, e⟩
      · rw [e] at h0; exact absurd (by decide) h0
      · rw [e, fg_gd_nI (by omega) (by omega), fg_gd_nI (by omega) (by omega), nI_clamp (by omega), nI_clamp (by omega)]
        by_cases h1 : w.1 K i b j ≤ w.1 K i b p
        · rw [if_pos h1, if_pos h1]
        · rw [if_neg h1, if_neg h1]
theorem m_richest {w : fg_W} {A : Nat → Nat → Int32} {n : Nat} (h : rm w A) (hn : bk_N A n) : f_X4_richest w = some (bk_fg (A 8) n, w) := by
  have h8 := hn.2
  refine lp_go (L := f_X4_richest_L4 (fun v2_4 v3_4 w_4 => some (v2_4, w_4))) (K := fun v2_4 v3_4 w_4 => some (v2_4, w_4)) (acc := bk_fg (A 8)) (n := n) (by omega) (fun fu => ?_) (fun fu j hj => ?_)
  · rw [f_X4_richest_L4, h.1.2.1, hn.1, if_pos (nI_le (Nat.le_refl _) (by omega))]
  · rw [f_X4_richest_L4, h.1.2.1, hn.1, if_neg (nI_ge hj (by omega)), nI_1, bk_fg]
    by_cases h0 : bk_fg (A 8) j < 0
    · rw [if_pos h0, if_pos h0]
    · rw [if_neg h0, if_neg h0]
      rcases bk_fg_in (A 8) j (by omega) with ⟨_, e⟩ | ⟨p, hp, e⟩
      · rw [e] at h0; exact absurd (by decide) h0
      · rw [e, m_get3 h (by omega), fg_bi_some, m_get3 h (by omega), fg_bi_some, nI_clamp (by omega)]
        by_cases h1 : A 8 j ≤ A 8 p
        · rw [if_pos h1, if_pos h1]
        · rw [if_neg h1, if_neg h1]
theorem bk_fg_1 (f : Nat → Int32) : bk_fg f 1 = nI 0 := if_pos (show bk_fg f 0 < 0 from (by decide : (-1 : Int32) < 0))
theorem m_mostFog {w : fg_W} {A : Nat → Nat → Int32} (h : rm w A) : f_X4_mostFog w = some (bk_fg (A 1) 10, w) := by
  have key := lp_acc (L := f_X4_mostFog_L4 (fun v2_4 v3_4 w_4 => some (v2_4, w_4))) (K := fun v2_4 v3_4 w_4 => some (v2_4, w_4)) (acc := fun j => if j = 0 then 0 else bk_fg (A 1) j) (n := 10) (w := w) (fun fu => by rw [f_X4_mostFog_L4, if_pos (by decide)]) (fun fu j hj => ?_) 9 1 fg_fuel (by omega) (by unfold fg_fuel; omega)
  · simp only [if_neg (show ¬ 1 = 0 by decide), if_neg (show ¬ 10 = 0 by decide), bk_fg_1] at key
    exact key
  · by_cases hj0 : j = 0
    · subst hj0
      rw [f_X4_mostFog_L4, if_neg (by decide), if_pos rfl, show (0 : Int32) = nI 0 from rfl, m_of1 h 0 (by decide) (by decide), fg_bi_some, m_of1 h 0 (by decide) (by decide), fg_bi_some, if_pos (Int32.le_refl _), nI_1, if_neg (by decide), bk_fg_1]
    · rw [if_neg hj0, if_neg (by omega), f_X4_mostFog_L4, if_neg (show ¬ (10 : Int32) ≤ nI j from nI_ge (a := j) (b := 10) hj (by decide)), nI_1]
      rcases bk_fg_in (A 1) j (by omega) with ⟨e1, e⟩ | ⟨p, hp, e⟩
      · exact absurd e1 hj0
      · rw [bk_fg, e, if_neg (nI_pos (by omega)), m_fog h hj, fg_bi_some, m_fog h (by omega), fg_bi_some, nI_clamp (by omega)]
        by_cases h1 : A 1 j ≤ A 1 p
        · rw [if_pos h1, if_pos h1]
        · rw [if_neg h1, if_neg h1]
def bk_sp (A : Nat → Nat → Int32) : Nat → Int32
  | 0 => 0
  | m + 1 => if A 10 m = -1 then bk_sp A m else bk_sp A m + 1
theorem p_sp {i : Nat} {w : fg_W} : f_X2_spotsHeld i w = some (bk_sp (w.1 2 i) 10, w) := by
  refine lp_go (L := f_X2_spotsHeld_L4 i (fun v2_4 v3_4 w_4 => some (v2_4, w_4))) (K := fun v2_4 v3_4 w_4 => some (v2_4, w_4)) (acc := bk_sp (w.1 2 i)) (n := 10) (by omega) (fun fu => ?_) (fun fu j hj => ?_)
  · rw [f_X2_spotsHeld_L4, if_pos (by decide)]
  · rw [f_X2_spotsHeld_L4, if_neg (show ¬ (10 : Int32) ≤ nI j from nI_ge (a := j) (b := 10) hj (by decide)), fg_gd_nI hj (by decide), nI_clamp (by omega), nI_1, bk_sp]
    by_cases h1 : w.1 2 i 10 j = -1
    · rw [if_pos h1, if_pos h1]
    · rw [if_neg h1, if_neg h1]
theorem m_sp {w : fg_W} {A : Nat → Nat → Int32} {n : Nat} (h : rm w A) (hI : bk_I A n) : f_X4_count_L96 (fun v2_96 v3_96 w_96 => some (v2_96, w_96)) fg_fuel 0 0 w = some (bk_sp A 10, w) := by
  refine lp_go (L := f_X4_count_L96 (fun v2_4 v3_4 w_4 => some (v2_4, w_4))) (K := fun v2_4 v3_4 w_4 => some (v2_4, w_4)) (acc := bk_sp A) (n := 10) (by omega) (fun fu => ?_) (fun fu j hj => ?_)
  · rw [f_X4_count_L96, if_pos (by decide)]
  · have h8 := hI.1.2
    rw [f_X4_count_L96, if_neg (show ¬ (10 : Int32) ≤ nI j from nI_ge (a := j) (b := 10) hj (by decide)), show (80 : Int32) + nI j = nI (80 + j) from nI_add 80 j, fg_gd_nI (by omega) (by decide), nI_clamp (by omega), h.2.2.2.2 j hj, nI_1, bk_sp]
    rcases hI.2.2.2.2.2.2.2.2.2 j hj with e | ⟨k, hk, e⟩
    · rw [e, if_pos (by decide), if_pos rfl, fg_let_eq]; simp
    · rw [e, if_neg (nI_pos (by omega)), if_neg (fun z => by have := nI_pos (n := k) (by omega); rw [z] at this; exact this (by decide)), fg_let_eq]
def bk_bc (x : Int32) : Int32 := ((fun x1 : Int32 => (fun x2 : Int32 => (fun x3 : Int32 => (fun x4 : Int32 => (fun x5 : Int32 => x5 &&& 63) (x4 + ((x4).toUInt32 >>> ((16 : Int32).toUInt32 &&& Int32.toUInt32 31)).toInt32)) (x3 + ((x3).toUInt32 >>> ((8 : Int32).toUInt32 &&& Int32.toUInt32 31)).toInt32)) ((x2 + ((x2).toUInt32 >>> ((4 : Int32).toUInt32 &&& Int32.toUInt32 31)).toInt32) &&& 252645135)) ((x1 &&& 858993459) + (((x1).toUInt32 >>> ((2 : Int32).toUInt32 &&& Int32.toUInt32 31)).toInt32 &&& 858993459))) (x - (((x).toUInt32 >>> ((1 : Int32).toUInt32 &&& Int32.toUInt32 31)).toInt32 &&& 1431655765)))
theorem p_bc (x : Int32) (w : fg_W) : f_J6_bitCount_0f7a4 x w = some (bk_bc x, w) := rfl
theorem bk_bc_bt : ∀ x, x < 256 → bt_c 10 0 (nI x) = some (bk_bc (nI x)) := by decide +kernel
theorem m_bc {w : fg_W} {x : Nat} (h : x < 256) : f_X4_bits (nI x) w = some (bk_bc (nI x), w) := m_bits (bk_bc_bt x h)
