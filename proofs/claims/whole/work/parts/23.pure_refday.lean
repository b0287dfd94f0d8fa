theorem bk_and1 (x : Int32) : x &&& 1 = 0 ∨ x &&& 1 = 1 := by
  obtain ⟨j, hj, e⟩ := pk_andE x (m := 1) 1 (by decide)
  rw [e]
  have : j = 0 ∨ j = 1 := by omega
  rcases this with rfl | rfl
  · exact Or.inl rfl
  · exact Or.inr rfl
theorem m_away {w : fg_W} {A : Nat → Nat → Int32} (h : rm w A) (k : Nat) : f_X4_isAway (nI k) w = some (if ((A 0 11) >>> (nI k &&& 31)) &&& 1 = 0 then 0 else 1, w) := by
  unfold f_X4_isAway
  rw [h.1.2.2.2.2]
  rcases bk_and1 ((A 0 11) >>> (nI k &&& 31)) with e | e
  · rw [e, if_neg (by decide), if_pos rfl]
  · rw [e, if_pos rfl, if_neg (by decide)]
theorem m_less99 {x : Int32} {w : fg_W} : f_X4_less 9999 x w = some (if x < 9999 then x else 9999, w) := by
  unfold f_X4_less
  by_cases h : x ≤ 9999
  · rw [if_pos h]
    by_cases h2 : x < 9999
    · rw [if_pos h2]
    · rw [if_neg h2, Int32.le_antisymm h (Int32.not_lt.mp h2)]
  · rw [if_neg h, if_neg (fun z => h (Int32.le_of_lt z))]
theorem bk_max0 (x : Int32) : (if (0 : Int32) < x then x else 0) = (if 0 ≤ x then x else 0) := by
  by_cases h : (0 : Int32) < x
  · rw [if_pos h, if_pos (Int32.le_of_lt h)]
  · rw [if_neg h]
    by_cases h2 : 0 ≤ x
    · rw [if_pos h2, Int32.le_antisymm (Int32.not_lt.mp h) h2]
    · rw [if_neg h2]
theorem m_moves {w : fg_W} {A : Nat → Nat → Int32} {n k : Nat} (h : rm w A) (hI : bk_I A n) (hk : k < 8) (hg : ((A 0 11) >>> (nI k &&& 31)) &&& 1 = 0) : ∃ w', f_X4_moves (nI k) w = some w' ∧ rm w' (bk_move n A k) ∧ fm w w' := by
  unfold f_X4_moves
  rw [m_get1 h hk, fg_bi_some]
  rcases hI.2.1 k hk with e | ⟨p, hp, e⟩
  · rw [e, if_neg (by decide), m_made h hI.1 hk (hI.2.2.2.2.1 k hk), fg_bi_some, show f_X4_puts (nI k) 1 (bk_made A n k 10) w = some _ from m_puts 1 _ hk (by decide), fg_bv_some]
    refine ⟨_, rfl, ?_, fm.set w _ _ (Or.inl rfl)⟩
    have := h.per (f := 1) (k := k) (bk_made A n k 10) (by decide) hk
    unfold bk_move
    rw [if_pos hg, if_pos e]
    exact this
  · have hne : ¬ nI p = -1 := fun z => by have := nI_pos (n := p) (by omega); rw [z] at this; exact this (by decide)
    rw [e, if_pos (nI_pos' (by omega)), m_stands h hI.1 hk hp, fg_bi_some]
    have em : bk_move n A k = if A 1 p + bk_trust A n k p < 60 then bk_fall A k else A := by
      unfold bk_move; rw [if_pos hg, e, if_neg hne, nI_clamp (by omega)]
    rw [em]
    by_cases h4 : A 1 p + bk_trust A n k p < 60
    · rw [if_pos h4, if_pos rfl, if_pos h4, m_get2 h hk, fg_bi_some, m_loses h hk, fg_bi_some, fg_let_eq, m_get4 h hk, fg_bi_some, m_less99, fg_bi_some, show f_X4_puts (nI k) 4 (if A 9 k + 1 < 9999 then A 9 k + 1 else 9999) w = some _ from m_puts 4 _ hk (by decide), fg_bv_some]
      have h1 := h.per (f := 4) (k := k) (if A 9 k + 1 < 9999 then A 9 k + 1 else 9999) (by decide) hk
      have key : ∀ v : Int32, v = (if (0 : Int32) < A 7 k - bk_loses (A 5 k) then A 7 k - bk_loses (A 5 k) else 0) → ∃ w', (fg_bv (f_X4_puts (nI k) 2 v (fg_sw w 4 0 (bk_set (w.1 4 0) 1 (40 + 5 * k + 4) (if A 9 k + 1 < 9999 then A 9 k + 1 else 9999)))) (fun w22 => fg_bv (f_X4_puts (nI k) 1 (-1) w22) (fun w24 => some w24))) = some w' ∧ rm w' (bk_fall A k) ∧ fm w w' := by
        intro v ev
        rw [show f_X4_puts (nI k) 2 v (fg_sw w 4 0 (bk_set (w.1 4 0) 1 (40 + 5 * k + 4) (if A 9 k + 1 < 9999 then A 9 k + 1 else 9999))) = some _ from m_puts 2 _ hk (by decide), fg_bv_some, show f_X4_puts (nI k) 1 (-1) _ = some _ from m_puts 1 _ hk (by decide), fg_bv_some]
        refine ⟨_, rfl, ?_, ((fm.set w _ _ (Or.inl rfl)).tr (fm.set _ _ _ (Or.inl rfl))).tr (fm.set _ _ _ (Or.inl rfl))⟩
        have h2 := h1.per (f := 2) (k := k) v (by decide) hk
        have h3 := h2.per (f := 1) (k := k) (-1) (by decide) hk
        rw [ev] at h3 ⊢
        exact h3
      by_cases h0 : 0 ≤ A 7 k - bk_loses (A 5 k)
      · rw [if_pos h0]; exact key _ (by rw [bk_max0, if_pos h0])
      · rw [if_neg h0]; exact key _ (by rw [bk_max0, if_neg h0])
    · rw [if_neg h4, if_neg (by decide), if_neg h4]
      exact ⟨w, rfl, h, fm.rf w⟩
theorem m_moveL {n : Nat} (K : Int32 → fg_W → Option fg_W) : ∀ (m j fu : Nat) (w : fg_W) (A : Nat → Nat → Int32), j + m = n → m < fu → rm w A → bk_I A n → ∃ w', f_X4_day_L6 K fu (nI j) w = K (nI n) w' ∧ rm w' (bk_it (bk_move n) A j m) ∧ fm w w' := by
  intro m
  induction m with
  | zero =>
    intro j fu w A hj hf h hI
    obtain ⟨fu, rfl⟩ : ∃ z, fu = z + 1 := ⟨fu - 1, by omega⟩
    obtain rfl : j = n := by omega
    have h8 := hI.1.2
    exact ⟨w, by rw [f_X4_day_L6, h.1.2.1, hI.1.1, if_pos (nI_le (Nat.le_refl _) (by omega))], h, fm.rf w⟩
  | succ m ih =>
    intro j fu w A hj hf h hI
    obtain ⟨fu, rfl⟩ : ∃ z, fu = z + 1 := ⟨fu - 1, by omega⟩
    have h8 := hI.1.2
    have hj8 : j < 8 := by omega
    rw [f_X4_day_L6, h.1.2.1, hI.1.1, if_neg (nI_ge (by omega) (by omega)), m_away h, fg_bi_some, nI_1]
    by_cases hg : ((A 0 11) >>> (nI j &&& 31)) &&& 1 = 0
    · simp only [hg, if_true]
      obtain ⟨w1, a1, a2, a3⟩ := m_moves h hI hj8 hg
      rw [a1, fg_bv_some]
      obtain ⟨w', g1, g2, g3⟩ := ih (j + 1) fu w1 (bk_move n A j) (by omega) (by omega) a2 (bk_I_move hI hj8)
      exact ⟨w', g1, g2, a3.tr g3⟩
    · simp only [hg, if_false]
      rw [if_neg (by decide)]
      have e : bk_move n A j = A := by unfold bk_move; rw [if_neg hg]
      obtain ⟨w', g1, g2, g3⟩ := ih (j + 1) fu w A (by omega) (by omega) h hI
      refine ⟨w', g1, ?_, g3⟩
      rw [bk_it, e]; exact g2
theorem m_pays {w : fg_W} {A : Nat → Nat → Int32} {n k : Nat} (h : rm w A) (hI : bk_I A n) (hk : k < 8) : ∃ w', f_X4_pays (nI k) w = some w' ∧ rm w' (bk_pay A k) ∧ fm w w' := by
  have h8 := hI.1.2
  unfold f_X4_pays
  rw [m_get1 h hk, fg_bi_some]
  rcases hI.2.1 k hk with e | ⟨p, hp, e⟩
  · rw [e, if_neg (by decide)]
    exact ⟨w, rfl, by unfold bk_pay; rw [if_pos e]; exact h, fm.rf w⟩
  · have hne : ¬ nI p = -1 := fun z => by have := nI_pos (n := p) (by omega); rw [z] at this; exact this (by decide)
    rw [e, if_pos (nI_pos' (by omega)), m_owner h hp, fg_bi_some]
    have em : bk_pay A k = if A 3 p = nI k then A else if A 3 p = -1 then A else bk_pays A k p (A 3 p).toNatClampNeg := by
      unfold bk_pay; rw [e, if_neg hne, nI_clamp (by omega)]
    rw [em]
    rcases hI.2.2.1 p hp with e2 | ⟨o, ho, e2⟩
    · rw [e2, if_pos (by decide), if_neg (fun z => by have := nI_pos (n := k) (by omega); rw [← z] at this; exact this (by decide)), if_pos rfl]
      exact ⟨w, rfl, h, fm.rf w⟩
    · have hne2 : ¬ nI o = -1 := fun z => by have := nI_pos (n := o) (by omega); rw [z] at this; exact this (by decide)
      have ho8 : o < 8 := by omega
      rw [e2, if_neg (nI_pos (by omega))]
      by_cases h5 : nI o = nI k
      · rw [if_pos h5, if_pos h5]
        exact ⟨w, rfl, h, fm.rf w⟩
      · rw [if_neg h5, if_neg h5, if_neg hne2, nI_clamp (show o < 2 ^ 31 by omega), m_rent h hp, fg_bi_some, m_get3 h hk, fg_bi_some]
        have hless : f_X4_less (A 2 p) (A 8 k) w = some (bk_paid A k p, w) := by
          unfold f_X4_less bk_paid
          by_cases h6 : A 8 k ≤ A 2 p
          · rw [if_pos h6, if_neg (Int32.not_lt.mpr h6)]
          · rw [if_neg h6, if_pos (Int32.not_le.mp h6)]
        have h1 := h.per (f := 3) (k := k) (A 8 k - bk_paid A k p) (by decide) hk
        rw [hless, fg_bi_some, m_get3 h hk, fg_bi_some, show f_X4_puts (nI k) 3 (A 8 k - bk_paid A k p) w = some _ from m_puts 3 _ hk (by decide), fg_bv_some, m_get3 h1 ho8, fg_bi_some, m_less99, fg_bi_some, show ∀ v w, f_X4_puts (nI o) 3 v w = some _ from fun v w => m_puts 3 _ ho8 (by decide), fg_bv_some]
        refine ⟨_, rfl, ?_, (fm.set w _ _ (Or.inl rfl)).tr (fm.set _ _ _ (Or.inl rfl))⟩
        exact h1.per (f := 3) (k := o) _ (by decide) ho8
theorem m_payL {n : Nat} (K : Int32 → fg_W → Option fg_W) : ∀ (m j fu : Nat) (w : fg_W) (A : Nat → Nat → Int32), j + m = n → m < fu → rm w A → bk_I A n → ∃ w', f_X4_day_L37 K fu (nI j) w = K (nI n) w' ∧ rm w' (bk_it bk_pay A j m) ∧ fm w w' := by
  intro m
  induction m with
  | zero =>
    intro j fu w A hj hf h hI
    obtain ⟨fu, rfl⟩ : ∃ z, fu = z + 1 := ⟨fu - 1, by omega⟩
    obtain rfl : j = n := by omega
    have h8 := hI.1.2
    exact ⟨w, by rw [f_X4_day_L37, h.1.2.1, hI.1.1, if_pos (nI_le (Nat.le_refl _) (by omega))], h, fm.rf w⟩
  | succ m ih =>
    intro j fu w A hj hf h hI
    obtain ⟨fu, rfl⟩ : ∃ z, fu = z + 1 := ⟨fu - 1, by omega⟩
    have h8 := hI.1.2
    have hj8 : j < 8 := by omega
    rw [f_X4_day_L37, h.1.2.1, hI.1.1, if_neg (nI_ge (by omega) (by omega)), nI_1]
    obtain ⟨w1, a1, a2, a3⟩ := m_pays h hI hj8
    rw [a1, fg_bv_some]
    obtain ⟨w', g1, g2, g3⟩ := ih (j + 1) fu w1 (bk_pay A j) (by omega) (by omega) a2 (bk_I_pay hI hj8)
    exact ⟨w', g1, g2, a3.tr g3⟩
-- (5)
def bk_mo (A : Nat → Nat → Int32) (k : Nat) : Nat → Int32
  | 0 => A 7 k
  | m + 1 => if A 6 m = A 6 k then (if A 7 m ≤ bk_mo A k m then bk_mo A k m else A 7 m) else bk_mo A k m
theorem bk_mo_gb {A : Nat → Nat → Int32} {k b : Nat} (h : ∀ k, k < 8 → ∃ b, b ≤ 99 ∧ A 7 k = nI b) (hk : A 7 k = nI b) (hb : b ≤ 99) : ∀ m, m ≤ 8 → ∃ g, g ≤ 99 ∧ bk_gb A k m = nI g ∧ bk_mo A k m = nI (max b g) := by
  intro m
  induction m with
  | zero => intro _; exact ⟨0, by omega, rfl, by rw [bk_mo, hk]; congr 1; omega⟩
  | succ m ih =>
    intro hm
    obtain ⟨g, hg, e1, e2⟩ := ih (by omega)
    obtain ⟨q, hq, eq⟩ := h m (by omega)
    simp only [bk_gb, bk_mo]
    rw [e1, e2, eq]
    by_cases h1 : m = k
    · subst h1
      rw [if_pos rfl, if_pos rfl]
      have : q = b := by
        have := eq.symm.trans hk
        exact (nI_eq (by omega) (by omega)).mp this
      subst this
      rw [if_pos (nI_le (by omega) (by omega))]
      exact ⟨g, hg, rfl, rfl⟩
    · rw [if_neg h1]
      by_cases h2 : A 6 m = A 6 k
      · rw [if_pos h2, if_pos h2]
        by_cases h3 : q ≤ g
        · rw [if_neg (nI_nlt (by omega) (by omega)), if_pos (nI_le (by omega) (by omega))]
          exact ⟨g, hg, rfl, rfl⟩
        · rw [if_pos (nI_lt (by omega) (by omega))]
          refine ⟨q, hq, rfl, ?_⟩
          by_cases h4 : q ≤ b
          · rw [if_pos (nI_le (by omega) (by omega))]; congr 1; omega
          · rw [if_neg (nI_ge (by omega) (by omega))]; congr 1; omega
      · rw [if_neg h2, if_neg h2]
        exact ⟨g, hg, rfl, rfl⟩
theorem m_findL {w : fg_W} {A : Nat → Nat → Int32} {n k p : Nat} (h : rm w A) (hn : bk_N A n) (hk : A 6 k = nI p) (hp : p < 10) (K : Int32 → Int32 → fg_W → Option fg_W) : ∀ (m j fu : Nat), j + m = n → m < fu → f_X4_finds_L17 (nI p) K fu (bk_mo A k j) (nI j) w = K (bk_mo A k n) (nI n) w := by
  obtain ⟨h5, h8⟩ := hn
  intro m
  induction m with
  | zero =>
    intro j fu hj hf
    obtain ⟨fu, rfl⟩ : ∃ z, fu = z + 1 := ⟨fu - 1, by omega⟩
    obtain rfl : j = n := by omega
    rw [f_X4_finds_L17, h.1.2.1, h5, if_pos (nI_le (Nat.le_refl _) (by omega))]
  | succ m ih =>
    intro j fu hj hf
    obtain ⟨fu, rfl⟩ : ∃ z, fu = z + 1 := ⟨fu - 1, by omega⟩
    rw [f_X4_finds_L17, h.1.2.1, h5, if_neg (nI_ge (by omega) (by omega)), if_neg (nI_pos (by omega)), m_get1 h (by omega), fg_bi_some, m_get2 h (by omega), fg_bi_some, m_get2 h (show j < 8 by omega), fg_bi_some, nI_1]
    have e := ih (j + 1) fu (by omega) (by omega)
    rw [← e]
    simp only [bk_mo, hk]
    by_cases h1 : A 6 j = nI p
    · rw [if_pos h1, if_pos h1]
      by_cases h2 : A 7 j ≤ bk_mo A k j
      · rw [if_pos h2, if_pos h2]
      · rw [if_neg h2, if_neg h2]
    · rw [if_neg h1, if_neg h1]
theorem m_finds {w : fg_W} {A : Nat → Nat → Int32} {n k : Nat} (h : rm w A) (hI : bk_I A n) (hk : k < 8) : f_X4_finds (nI k) w = some (fg_sw w 4 0 (bk_set (w.1 4 0) 6 k (A 7 k + (if bk_best A n k - A 7 k ≤ 0 then 0 else (bk_best A n k - A 7 k) / 4)))) := by
  have h8 := hI.1.2
  have h6 := hI.2.2.2.2.2.1
  obtain ⟨b, hb, eb⟩ := h6 k hk
  unfold f_X4_finds
  rw [m_get1 h hk, fg_bi_some, m_get2 h hk, fg_bi_some]
  have fin : ∀ x : Int32, (x - nI b) / 4 = (if bk_best A n k - A 7 k ≤ 0 then 0 else (bk_best A n k - A 7 k) / 4) → fg_bi (f_X4_get (nI k) 2 w) (fun r9 w7 => fg_bi (f_X4_get (nI k) 2 w7) (fun r12 w10 => fg_gd (nI k) 8 (fg_let (fg_st w10 4 0 6 (upd (w10.1 4 0 6) (nI k).toNatClampNeg (r9 + ((x - r12) / 4)))) (fun w13 => some w13)))) = some (fg_sw w 4 0 (bk_set (w.1 4 0) 6 k (A 7 k + (if bk_best A n k - A 7 k ≤ 0 then 0 else (bk_best A n k - A 7 k) / 4)))) := by
    intro x hx
    rw [m_get2 h hk, fg_bi_some, m_get2 h hk, fg_bi_some, fg_gd_nI hk (by decide), fg_let_eq, nI_clamp (by omega), fg_st_set, ← hx, ← eb]
  rcases hI.2.1 k hk with e | ⟨p, hp, e⟩
  · rw [e]
    have : f_X4_finds_L17 (-1) (fun v3_17 v4_17 w_17 => fg_bi (f_X4_get (nI k) 2 w_17) (fun r9 w7 => fg_bi (f_X4_get (nI k) 2 w7) (fun r12 w10 => fg_gd (nI k) 8 (fg_let (fg_st w10 4 0 6 (upd (w10.1 4 0 6) (nI k).toNatClampNeg (r9 + ((v3_17 - r12) / 4)))) (fun w13 => some w13))))) fg_fuel (A 7 k) 0 w = fg_bi (f_X4_get (nI k) 2 w) (fun r9 w7 => fg_bi (f_X4_get (nI k) 2 w7) (fun r12 w10 => fg_gd (nI k) 8 (fg_let (fg_st w10 4 0 6 (upd (w10.1 4 0 6) (nI k).toNatClampNeg (r9 + ((A 7 k - r12) / 4)))) (fun w13 => some w13)))) := by
      rw [show fg_fuel = 999 + 1 from rfl, f_X4_finds_L17]
      split
      · rfl
      · rw [if_pos (by decide)]
    rw [this]
    refine fin _ ?_
    have e0 : bk_best A n k = nI 0 := by unfold bk_best; rw [if_pos e]; rfl
    rw [e0, eb, bk_inc_eq (by omega) hb, pk_sub (Nat.le_refl b), show (4 : Int32) = nI 4 from rfl, pk_div (by omega) (by omega) (by omega)]
    unfold bk_inc
    congr 1
    omega
  · rw [e]
    have hne : ¬ nI p = -1 := fun z => by have := nI_pos (n := p) (by omega); rw [z] at this; exact this (by decide)
    have := m_findL h hI.1 e hp (fun v3_17 v4_17 w_17 => fg_bi (f_X4_get (nI k) 2 w_17) (fun r9 w7 => fg_bi (f_X4_get (nI k) 2 w7) (fun r12 w10 => fg_gd (nI k) 8 (fg_let (fg_st w10 4 0 6 (upd (w10.1 4 0 6) (nI k).toNatClampNeg (r9 + ((v3_17 - r12) / 4)))) (fun w13 => some w13))))) n 0 fg_fuel (by omega) (by unfold fg_fuel; omega)
    simp only [bk_mo, nI_0] at this
    rw [this]
    refine fin _ ?_
    obtain ⟨g, hg, e1, e2⟩ := bk_mo_gb h6 eb hb n h8
    have e0 : bk_best A n k = nI g := by unfold bk_best; rw [e, if_neg hne]; exact e1
    rw [e0, eb, e2, bk_inc_eq hg hb, pk_sub (by omega), show (4 : Int32) = nI 4 from rfl, pk_div (by omega) (by omega) (by omega)]
    unfold bk_inc
    congr 1
    omega
def bk_new (A : Nat → Nat → Int32) (n q : Nat) : Int32 := A 7 q + (if bk_best A n q - A 7 q ≤ 0 then 0 else (bk_best A n q - A 7 q) / 4)
theorem m_findsL {n : Nat} {A : Nat → Nat → Int32} (hI : bk_I A n) (K : Int32 → fg_W → Option fg_W) : ∀ (m j fu : Nat) (w : fg_W), j + m = n → m < fu → rm w A → (∀ q, q < j → w.1 4 0 6 q = bk_new A n q) → ∃ w', f_X4_day_L60 K fu (nI j) w = K (nI n) w' ∧ rm w' A ∧ (∀ q, q < n → w'.1 4 0 6 q = bk_new A n q) ∧ fm w w' := by
  have h8 := hI.1.2
  intro m
  induction m with
  | zero =>
    intro j fu w hj hf h hq
    obtain ⟨fu, rfl⟩ : ∃ z, fu = z + 1 := ⟨fu - 1, by omega⟩
    obtain rfl : j = n := by omega
    exact ⟨w, by rw [f_X4_day_L60, h.1.2.1, hI.1.1, if_pos (nI_le (Nat.le_refl _) (by omega))], h, hq, fm.rf w⟩
  | succ m ih =>
    intro j fu w hj hf h hq
    obtain ⟨fu, rfl⟩ : ∃ z, fu = z + 1 := ⟨fu - 1, by omega⟩
    have hj8 : j < 8 := by omega
    rw [f_X4_day_L60, h.1.2.1, hI.1.1, if_neg (nI_ge (by omega) (by omega)), nI_1, m_finds h hI hj8, fg_bv_some]
    obtain ⟨w', g1, g2, g3, g4⟩ := ih (j + 1) fu (fg_sw w 4 0 (bk_set (w.1 4 0) 6 j (A 7 j + (if bk_best A n j - A 7 j ≤ 0 then 0 else (bk_best A n j - A 7 j) / 4)))) (by omega) (by omega) (h.oth j _ (by decide) (by decide)) (fun q hq' => by
      rw [fg_sw_at]
      by_cases e : q = j
      · subst e; rw [bk_same]; rfl
      · rw [bk_ne _ _ (Or.inr e)]; exact hq q (by omega))
    exact ⟨w', g1, g2, g3, (fm.set w _ _ (Or.inr (Or.inr rfl))).tr g4⟩
theorem m_putL {n : Nat} {A : Nat → Nat → Int32} (hI : bk_I A n) (K : Int32 → fg_W → Option fg_W) : ∀ (m j fu : Nat) (w : fg_W) (B : Nat → Nat → Int32), j + m = n → m < fu → rm w B → B 0 5 = nI n → (∀ q, q < n → w.1 4 0 6 q = bk_new A n q) → (∀ c q, B c q = if c = 7 ∧ q < j then bk_new A n q else A c q) → ∃ w', f_X4_day_L83 K fu (nI j) w = K (nI n) w' ∧ rm w' (fun c q => if c = 7 ∧ q < n then bk_new A n q else A c q) ∧ fm w w' := by
  have h8 := hI.1.2
  intro m
  induction m with
  | zero =>
    intro j fu w B hj hf h hB hq hc
    obtain ⟨fu, rfl⟩ : ∃ z, fu = z + 1 := ⟨fu - 1, by omega⟩
    obtain rfl : j = n := by omega
    exact ⟨w, by rw [f_X4_day_L83, h.1.2.1, hB, if_pos (nI_le (Nat.le_refl _) (by omega))], h.cong (fun c q _ _ _ _ _ _ => (hc c q).symm), fm.rf w⟩
  | succ m ih =>
    intro j fu w B hj hf h hB hq hc
    obtain ⟨fu, rfl⟩ : ∃ z, fu = z + 1 := ⟨fu - 1, by omega⟩
    have hj8 : j < 8 := by omega
    rw [f_X4_day_L83, h.1.2.1, hB, if_neg (nI_ge (by omega) (by omega)), nI_1, fg_gd_nI hj8 (by decide), nI_clamp (by omega), hq j (by omega), show f_X4_puts (nI j) 2 (bk_new A n j) w = some _ from m_puts 2 _ hj8 (by decide), fg_bv_some]
    have h1 := h.per (f := 2) (k := j) (bk_new A n j) (by decide) hj8
    obtain ⟨w', g1, g2, g3⟩ := ih (j + 1) fu _ (bk_set B 7 j (bk_new A n j)) (by omega) (by omega) h1 (by rw [bk_nc _ _ (by decide)]; exact hB) (fun q hq' => by rw [fg_sw_at, bk_nc _ _ (by decide)]; exact hq q hq') (fun c q => by
      by_cases e : c = 7 ∧ q = j
      · obtain ⟨rfl, rfl⟩ := e; rw [bk_same, if_pos (by omega)]
      · rw [bk_ne _ _ (by omega), hc c q]
        by_cases e2 : c = 7 ∧ q < j
        · rw [if_pos e2, if_pos (by omega)]
        · rw [if_neg e2, if_neg (by omega)])
    exact ⟨w', g1, g2, (fm.set w _ _ (Or.inl rfl)).tr g3⟩
theorem m_day {w : fg_W} {A : Nat → Nat → Int32} {n : Nat} (h : rm w A) (hI : bk_I A n) : ∃ w', f_X4_day w = some w' ∧ rm w' (bk_day n A) ∧ fm w w' := by
  have h8 := hI.1.2
  have hfu : n < fg_fuel := by unfold fg_fuel; omega
  unfold f_X4_day
  obtain ⟨w1, a1, a2, a3⟩ := m_drifts h hI
  have i2 := bk_I_d2 (bk_I_d1 hI)
  rw [a1, fg_bv_some]
  obtain ⟨w2, b1, b2, b3⟩ := m_moveL (n := n) (fun v1_6 w_6 => f_X4_day_L37 (fun v1_37 w_37 => f_X4_day_L60 (fun v1_60 w_60 => f_X4_day_L83 (fun v1_83 w_83 => fg_bi (f_X4_less 99999 ((w_83.1 4 0 1 0) + 1) w_83) (fun r5 w3 => fg_let (fg_st w3 4 0 1 (upd (w3.1 4 0 1) 0 r5)) (fun w6 => some w6))) fg_fuel 0 w_60) fg_fuel 0 w_37) fg_fuel 0 w_6) n 0 fg_fuel w1 _ (by omega) hfu a2 i2
  rw [nI_0] at b1
  rw [b1]
  have i3 := bk_I_d3 i2
  obtain ⟨w3, c1, c2, c3⟩ := m_payL (n := n) (fun v1_37 w_37 => f_X4_day_L60 (fun v1_60 w_60 => f_X4_day_L83 (fun v1_83 w_83 => fg_bi (f_X4_less 99999 ((w_83.1 4 0 1 0) + 1) w_83) (fun r5 w3 => fg_let (fg_st w3 4 0 1 (upd (w3.1 4 0 1) 0 r5)) (fun w6 => some w6))) fg_fuel 0 w_60) fg_fuel 0 w_37) n 0 fg_fuel w2 _ (by omega) hfu b2 i3
  rw [nI_0] at c1
  rw [c1]
  have i4 := bk_I_d4 i3
  obtain ⟨w4, d1, d2, d3, d4⟩ := m_findsL i4 (fun v1_60 w_60 => f_X4_day_L83 (fun v1_83 w_83 => fg_bi (f_X4_less 99999 ((w_83.1 4 0 1 0) + 1) w_83) (fun r5 w3 => fg_let (fg_st w3 4 0 1 (upd (w3.1 4 0 1) 0 r5)) (fun w6 => some w6))) fg_fuel 0 w_60) n 0 fg_fuel w3 (by omega) hfu c2 (fun q hq => absurd hq (by omega))
  rw [nI_0] at d1
  rw [d1]
  obtain ⟨w5, e1, e2, e3⟩ := m_putL i4 (fun v1_83 w_83 => fg_bi (f_X4_less 99999 ((w_83.1 4 0 1 0) + 1) w_83) (fun r5 w3 => fg_let (fg_st w3 4 0 1 (upd (w3.1 4 0 1) 0 r5)) (fun w6 => some w6))) n 0 fg_fuel w4 (bk_d4 n (bk_d3 n (bk_d2 (bk_d1 A)))) (by omega) hfu d2 i4.1.1 d3 (fun c q => by rw [if_neg (by omega)])
  rw [nI_0] at e1
  rw [e1]
  have g5 : rm w5 (bk_d5 n (bk_d4 n (bk_d3 n (bk_d2 (bk_d1 A))))) := e2.cong (fun c q hc _ _ _ _ _ => by rw [bk_d5_at h8 c q hc]; rfl)
  obtain ⟨d, hd, ed⟩ := (bk_I_d5 i4).2.2.2.1
  have hl : f_X4_less 99999 (w5.1 4 0 1 0 + 1) w5 = some (if 99999 ≤ bk_d5 n (bk_d4 n (bk_d3 n (bk_d2 (bk_d1 A)))) 0 12 then 99999 else bk_d5 n (bk_d4 n (bk_d3 n (bk_d2 (bk_d1 A)))) 0 12 + 1, w5) := by
    unfold f_X4_less
    rw [g5.1.1, ed, nI_1, show (99999 : Int32) = nI 99999 from rfl]
    by_cases hh : 99999 ≤ d
    · have : d = 99999 := by omega
      subst this
      rw [if_neg (nI_ge (by omega) (by omega)), if_pos (nI_le (by omega) (by omega))]
    · rw [if_pos (nI_le (by omega) (by omega)), if_neg (nI_ge (by omega) (by omega))]
  rw [hl, fg_bi_some, fg_let_eq, fg_st_set]
  refine ⟨_, rfl, ?_, ((((a3.tr b3).tr c3).tr d4).tr e3).tr (fm.set w5 _ _ (Or.inl rfl))⟩
  unfold bk_day bk_tick
  obtain ⟨⟨q1, q2, q3, q4, q5⟩, q6, q7, q8, q9⟩ := g5
  unfold rm
  rw [fg_sw_at]
  refine ⟨⟨?_, ?_, ?_, ?_, ?_⟩, fun j hj => ?_, fun f' p' hf' hp' => ?_, fun f' k' hf' hk' => ?_, fun j hj => ?_⟩
  · rw [bk_same, bk_same]
  · rw [bk_ne _ _ (by omega), bk_ne _ _ (by omega)]; exact q2
  · rw [bk_ne _ _ (by omega), bk_ne _ _ (by omega)]; exact q3
  · rw [bk_ne _ _ (by omega), bk_ne _ _ (by omega)]; exact q4
  · rw [bk_nc _ _ (by omega), bk_ne _ _ (by omega)]; exact q5
  · rw [bk_ne _ _ (by omega), bk_nc _ _ (by omega)]; exact q6 j hj
  · rw [bk_ne _ _ (by omega), bk_nc _ _ (by omega)]; exact q7 f' p' hf' hp'
  · rw [bk_ne _ _ (by omega), bk_nc _ _ (by omega)]; exact q8 f' k' hf' hk'
  · rw [bk_ne _ _ (by omega), bk_nc _ _ (by omega)]; exact q9 j hj
theorem m_goesL {n t : Nat} (ht : t < 2 ^ 31) (K : Int32 → fg_W → Option fg_W) : ∀ (m j fu : Nat) (w : fg_W) (A : Nat → Nat → Int32), j + m = t → m < fu → rm w A → bk_I A n → ∃ w', f_X4_goes_L2 (nI t) K fu (nI j) w = K (nI t) w' ∧ rm w' (bk_days n A m) ∧ fm w w' := by
  intro m
  induction m with
  | zero =>
    intro j fu w A hj hf h hI
    obtain ⟨fu, rfl⟩ : ∃ z, fu = z + 1 := ⟨fu - 1, by omega⟩
    obtain rfl : j = t := by omega
    exact ⟨w, by rw [f_X4_goes_L2, if_pos (nI_le (Nat.le_refl _) (by omega))], h, fm.rf w⟩
  | succ m ih =>
    intro j fu w A hj hf h hI
    obtain ⟨fu, rfl⟩ : ∃ z, fu = z + 1 := ⟨fu - 1, by omega⟩
    obtain ⟨w1, a1, a2, a3⟩ := m_day h hI
    rw [f_X4_goes_L2, if_neg (nI_ge (by omega) ht), nI_1, a1, fg_bv_some]
    obtain ⟨w', g1, g2, g3⟩ := ih (j + 1) fu w1 (bk_day n A) (by omega) (by omega) a2 (bk_I_day hI)
    exact ⟨w', g1, g2, a3.tr g3⟩
theorem m_goes {n t : Nat} {w : fg_W} {A : Nat → Nat → Int32} (ht : t < 900) (h : rm w A) (hI : bk_I A n) : ∃ w', f_X4_goes (nI t) w = some w' ∧ rm w' (bk_days n A t) ∧ fm w w' := by
  unfold f_X4_goes
  obtain ⟨w', g1, g2, g3⟩ := m_goesL (n := n) (t := t) (by omega) (fun v2_2 w_2 => some w_2) t 0 fg_fuel w A (by omega) (by unfold fg_fuel; omega) h hI
  rw [nI_0] at g1
  exact ⟨w', g1, g2, g3⟩
