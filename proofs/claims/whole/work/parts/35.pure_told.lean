-- told lots
def bk_told (n k : Nat) (x : Nat → Int32) : (Nat → Nat → Int32) → Nat → Nat → Bool
  | _, _, 0 => true
  | B, j, m + 1 => if x j = -2 ∨ x j = B 6 k then bk_told n k x (bk_day n B) (j + 1) m else false
theorem bk_told_eq {n k : Nat} (hk : k < 8) (x : Nat → Int32) : ∀ (m j : Nat) (w : fg_W) (A B : Nat → Nat → Int32), rm w A → bk_I A n → bk_eq A B → bk_told n k x B j m = bk_told n k x A j m := by
  intro m
  induction m with
  | zero => intro j w A B _ _ _; rfl
  | succ m ih =>
    intro j w A B h hI e
    obtain ⟨w', _, a2, _⟩ := m_day h hI
    rw [bk_told, bk_told, e 6 k (by unfold bk_ok; omega), ih (j + 1) w' (bk_day n A) (bk_day n B) a2 (bk_I_day hI) (bk_days_eq (t := 1) (by decide) h hI e)]
theorem p_toldL {n k s len : Nat} {w : fg_W} (hk : k < 8) (hl : len ≤ 40) (hs : w.1 0 s 0 1 = nI len) : ∀ (m j fu : Nat) (B : Nat → Nat → Int32), j + 1 + m = len → m < fu → bk_I B n → ∃ d, f_X3_goesAsTold_L2 (nI k) s (fun v3_2 w_2 => some (1, w_2)) fu (nI (j + 1)) (fg_sw w 2 1 B) = some (if bk_told n k (w.1 0 s 1) (bk_day n B) (j + 1) m then 1 else 0, fg_sw w 2 1 d) := by
  intro m
  induction m with
  | zero =>
    intro j fu B hj hf hI
    obtain ⟨fu, rfl⟩ : ∃ z, fu = z + 1 := ⟨fu - 1, by omega⟩
    obtain rfl : j + 1 = len := by omega
    exact ⟨B, by rw [f_X3_goesAsTold_L2, fg_sw_K _ _ _ _ _ _ (by decide), hs, if_pos (nI_le (Nat.le_refl _) (by omega))]; rfl⟩
  | succ m ih =>
    intro j fu B hj hf hI
    obtain ⟨fu, rfl⟩ : ∃ z, fu = z + 1 := ⟨fu - 1, by omega⟩
    obtain ⟨d, hd⟩ := ih (j + 1) fu (bk_day n B) (by omega) (by omega) (bk_I_day hI)
    rw [f_X3_goesAsTold_L2, fg_sw_K _ _ _ _ _ _ (by decide), hs, if_neg (nI_ge (by omega) (by omega)), if_neg (show ¬ nI (j + 1) ≤ 0 from nI_nle (by omega) (by omega)), p_day1 (n := n) (by rw [fg_sw_at]; exact hI), fg_bv_some, fg_sw_at, fg_sw_sw, fg_gd_nI (show j + 1 < 40 by omega) (by decide), fg_let_eq, fg_sw_K _ _ _ _ _ _ (by decide), nI_clamp (show j + 1 < 2 ^ 31 by omega), fg_gd_nI hk (by decide), fg_sw_at, nI_clamp (show k < 2 ^ 31 by omega), bk_told, nI_1, hd]
    by_cases h1 : w.1 0 s 1 (j + 1) = -2
    · exact ⟨d, by rw [if_pos h1, if_pos (Or.inl h1)]⟩
    · by_cases h2 : w.1 0 s 1 (j + 1) = bk_day n B 6 k
      · exact ⟨d, by rw [if_neg h1, if_pos h2, if_pos (Or.inr h2)]⟩
      · have h3 : ¬ (w.1 0 s 1 (j + 1) = -2 ∨ w.1 0 s 1 (j + 1) = bk_day n B 6 k) := by rintro (z | z); exact h1 z; exact h2 z
        exact ⟨_, by rw [if_neg h1, if_neg h2, if_neg h3]; rfl⟩
theorem p_told {n k s len : Nat} {w : fg_W} (hk : k < 8) (hl : len ≤ 40) (hs : w.1 0 s 0 1 = nI len) {B : Nat → Nat → Int32} (hI : bk_I B n) : ∃ d, f_X3_goesAsTold (nI k) s (fg_sw w 2 1 B) = some (if bk_told n k (w.1 0 s 1) B 0 len then 1 else 0, fg_sw w 2 1 d) := by
  unfold f_X3_goesAsTold
  rw [show fg_fuel = 999 + 1 from rfl, f_X3_goesAsTold_L2, fg_sw_K _ _ _ _ _ _ (by decide), hs]
  cases len with
  | zero => exact ⟨B, by rw [if_pos (by decide)]; rfl⟩
  | succ m =>
    obtain ⟨d, hd⟩ := p_toldL (n := n) (k := k) hk hl hs m 0 999 B (by omega) (by omega) hI
    rw [if_neg (show ¬ nI (m + 1) ≤ 0 from nI_nle (by omega) (by omega)), if_pos (by decide), fg_gd_in (show vp_in 0 40 from vp_in_nI (n := 0) (N := 40) (by decide) (by decide)), fg_let_eq, show (0 : Int32).toNatClampNeg = 0 from rfl, fg_gd_nI hk (by decide), fg_sw_at, nI_clamp (show k < 2 ^ 31 by omega), bk_told, show (0 : Int32) + 1 = nI (0 + 1) from rfl, hd]
    by_cases h1 : w.1 0 s 1 0 = -2
    · exact ⟨d, by rw [if_pos h1, if_pos (Or.inl h1)]⟩
    · by_cases h2 : w.1 0 s 1 0 = B 6 k
      · exact ⟨d, by rw [if_neg h1, if_pos h2, if_pos (Or.inr h2)]⟩
      · have h3 : ¬ (w.1 0 s 1 0 = -2 ∨ w.1 0 s 1 0 = B 6 k) := by rintro (z | z); exact h1 z; exact h2 z
        exact ⟨B, by rw [if_neg h1, if_neg h2, if_neg h3]; rfl⟩
theorem m_think2 {w : fg_W} {A : Nat → Nat → Int32} (h : rm w A) : ∃ w1, f_X4_setsAside w = some w1 ∧ rm w1 A ∧ (∀ c, c ≠ 3 → w1.1 4 0 c = w.1 4 0 c) ∧ ∀ w2 : fg_W, fm w1 w2 → ∃ w3, f_X4_laysBack w2 = some w3 ∧ bs w w3 := by
  obtain ⟨w1, a1, a2, a3⟩ := m_think h
  refine ⟨w1, a1, a2, ?_, a3⟩
  unfold f_X4_setsAside at a1
  obtain ⟨e, h1, h2, h3⟩ := m_asideL (fun v1_2 w_2 => some w_2) 90 0 fg_fuel w (by omega) (by unfold fg_fuel; omega)
  rw [nI_0] at h1
  have : w1 = fg_sw w 4 0 e := Option.some.inj (a1.symm.trans h1)
  intro c hc
  rw [this, fg_sw_at]
  exact h2 c hc
theorem m_cell {w : fg_W} {s j : Nat} (hs : s < 4) (hj : j < 40) : f_X4_told (nI s) (nI j) w = some (w.1 4 0 14 (40 * s + j), w) := by
  unfold f_X4_told
  rw [show (40 : Int32) = nI 40 from rfl, pk_mul, nI_add, fg_gd_nI (show 40 * s + j < 160 by omega) (by decide), nI_clamp (by omega)]
theorem m_toldL {n k s len : Nat} {x : Nat → Int32} (hk : k < 8) (hs : s < 4) (hl : len ≤ 40) (K : Int32 → Int32 → fg_W → Option (Int32 × fg_W)) : ∀ (m j fu : Nat) (w : fg_W) (A : Nat → Nat → Int32), j + m = len → m < fu → rm w A → bk_I A n → w.1 4 0 13 s = nI len → (∀ i, i < 40 → w.1 4 0 14 (40 * s + i) = x i) → ∃ w' v, f_X4_fitsAs_L18 (nI s) (nI k) K fu 1 (nI j) w = K (if bk_told n k x A j m then 1 else 0) v w' ∧ fm w w' := by
  intro m
  induction m with
  | zero =>
    intro j fu w A hj hf h hI h13 h14
    obtain ⟨fu, rfl⟩ : ∃ z, fu = z + 1 := ⟨fu - 1, by omega⟩
    obtain rfl : j = len := by omega
    exact ⟨w, nI j, by rw [f_X4_fitsAs_L18, fg_gd_nI hs (by decide), nI_clamp (by omega), h13, if_pos (nI_le (Nat.le_refl _) (by omega))]; rfl, fm.rf w⟩
  | succ m ih =>
    intro j fu w A hj hf h hI h13 h14
    obtain ⟨fu, rfl⟩ : ∃ z, fu = z + 1 := ⟨fu - 1, by omega⟩
    obtain ⟨w1, a1, a2, a3⟩ := m_day h hI
    have e13 : w1.1 4 0 13 s = nI len := by rw [a3.2.2.1 13 (by decide) (by decide) (by decide)]; exact h13
    obtain ⟨w2, v, b1, b2⟩ := ih (j + 1) fu w1 (bk_day n A) (by omega) (by omega) a2 (bk_I_day hI) e13 (fun i hi => by rw [a3.2.2.1 14 (by decide) (by decide) (by decide)]; exact h14 i hi)
    rw [f_X4_fitsAs_L18, fg_gd_nI hs (by decide), nI_clamp (by omega), h13, if_neg (nI_ge (by omega) (by omega)), if_neg (by decide), m_cell hs (by omega), fg_bi_some, h14 j (by omega), a1, fg_bv_some, m_cell hs (by omega), fg_bi_some, h14 j (by omega), m_get1 h hk, fg_bi_some, a1, fg_bv_some, fg_bv_some, bk_told, nI_1]
    by_cases h1 : x j = -2
    · exact ⟨w2, v, by rw [if_pos h1, if_pos (Or.inl h1), b1], a3.tr b2⟩
    · by_cases h2 : x j = A 6 k
      · exact ⟨w2, v, by rw [if_neg h1, if_pos h2, if_pos (Or.inr h2), b1], a3.tr b2⟩
      · obtain ⟨fu, rfl⟩ : ∃ z, fu = z + 1 := ⟨fu - 1, by omega⟩
        have h3 : ¬ (x j = -2 ∨ x j = A 6 k) := by rintro (z | z); exact h1 z; exact h2 z
        refine ⟨w1, nI (j + 1), ?_, a3⟩
        rw [if_neg h1, if_neg h2, if_neg h3, f_X4_fitsAs_L18, fg_gd_nI hs (by decide), if_pos rfl, ite_self]
        rfl
theorem m_fitsAs {w : fg_W} {A : Nat → Nat → Int32} {n k s f len : Nat} {v : Int32} {x : Nat → Int32} (h : rm w A) (hk : k < 8) (hs : s < 4) (hf : f < 5) (hl : len ≤ 40) (hI : bk_I (bk_set A (5 + f) k v) n) (h13 : w.1 4 0 13 s = nI len) (h14 : ∀ i, i < 40 → w.1 4 0 14 (40 * s + i) = x i) : ∃ w', f_X4_fitsAs (nI s) (nI k) (nI f) v w = some (if bk_told n k x (bk_set A (5 + f) k v) 0 len then 1 else 0, w') ∧ bs w w' := by
  obtain ⟨w1, a1, a2, a4, a3⟩ := m_think2 h
  have h1 := a2.per (f := f) (k := k) v hf hk
  have ec : ∀ c, c ≠ 1 → c ≠ 3 → (fg_sw w1 4 0 (bk_set (w1.1 4 0) 1 (40 + 5 * k + f) v)).1 4 0 c = w.1 4 0 c := fun c c1 c3 => by
    rw [fg_sw_at, bk_set_ne1 c c1, a4 c c3]
  obtain ⟨w2, u, b1, b2⟩ := m_toldL (n := n) (k := k) (s := s) (len := len) (x := x) hk hs hl (fun v5_18 v6_18 w_18 => fg_bv (f_X4_laysBack  w_18) (fun w5 => fg_gp (v5_18 = 0 ∨ v5_18 = 1) (some (v5_18, w5)))) len 0 fg_fuel _ _ (by omega) (by unfold fg_fuel; omega) h1 hI (by rw [ec 13 (by decide) (by decide)]; exact h13) (fun i hi => by rw [ec 14 (by decide) (by decide)]; exact h14 i hi)
  obtain ⟨w3, d1, d2⟩ := a3 w2 ((fm.set w1 _ v (Or.inl rfl)).tr b2)
  refine ⟨w3, ?_, d2⟩
  rw [nI_0] at b1
  unfold f_X4_fitsAs
  rw [a1, fg_bv_some, m_puts f v hk hf, fg_bv_some, b1, d1, fg_bv_some, fg_gp_in (by split <;> decide)]
theorem q_sheet (a : Int32) : (∃ s, s < 4 ∧ a = nI s ∧ (∀ w, f_X3_isSheet a w = some (1, w)) ∧ ∀ w, f_X4_isSheet a w = some (1, w)) ∨ ((∀ w, f_X3_isSheet a w = some (0, w)) ∧ ∀ w, f_X4_isSheet a w = some (0, w)) := by
  rcases q_in a 3 3 rfl (by decide) with ⟨s, hs, rfl, hw⟩ | ⟨hc, hw⟩
  · refine Or.inl ⟨s, by omega, rfl, fun w => ?_, fun w => ?_⟩
    · unfold f_X3_isSheet; rw [if_neg (nI_pos (by omega)), if_neg (show ¬ (4 : Int32) ≤ nI s from nI_ge (a := s) (b := 4) (by omega) (by decide))]
    · unfold f_X4_isSheet; rw [in1_eq, hw, fg_bi_some, fg_gp_in (by decide)]
  · refine Or.inr ⟨fun w => ?_, fun w => ?_⟩
    · unfold f_X3_isSheet
      rcases hc with hc | hc
      · rw [if_pos hc]
      · by_cases h0 : a < 0
        · rw [if_pos h0]
        · rw [if_neg h0]
          obtain ⟨j, hj, rfl⟩ := nI_of h0
          have : 3 < j := (nI_ltI (a := 3) (b := j) (by decide) hj).mp hc
          rw [if_pos (show (4 : Int32) ≤ nI j from nI_le (a := 4) (b := j) (by omega) hj)]
    · unfold f_X4_isSheet; rw [in1_eq, hw, fg_bi_some, fg_gp_in (by decide)]
theorem q_told {w : fg_W} {n : Nat} (h1 : rm w (w.1 2 0)) (hN : bk_N (w.1 2 0) n) (hS : ro_S w) (a b : Int32) : (∃ s k, s < 4 ∧ k < n ∧ a = nI s ∧ b = nI k ∧ f_X3_faultOfTold a b w = some (-1, w) ∧ ∀ w1 : fg_W, w1.1 4 0 = w.1 4 0 → f_X4_wrongTold a b w1 = some (-1, w1)) ∨ (∃ c, c < 7 ∧ f_X3_faultOfTold a b w = some (nI c, w) ∧ ∀ w1 : fg_W, w1.1 4 0 = w.1 4 0 → f_X4_wrongTold a b w1 = some (nI c, w1)) := by
  have h8 := hN.2
  have e4 : ∀ w1 : fg_W, w1.1 4 0 = w.1 4 0 → w1.1 4 0 1 1 = nI n := fun w1 e => by rw [e]; exact h1.1.2.1.trans hN.1
  rcases q_sheet a with ⟨s, hs, rfl, s1, s2⟩ | ⟨s1, s2⟩
  · obtain ⟨g1, g2, _⟩ := hS s hs
    by_cases hm : w.1 4 0 12 s = 0
    · refine Or.inr ⟨5, by decide, ?_, fun w1 e => ?_⟩
      · unfold f_X3_faultOfTold f_X0_isMissing
        rw [s1, fg_bi_some, if_neg (by decide), fg_gd_nI hs (by decide), nI_clamp (by omega), g1, if_pos hm, fg_bi_some, if_neg (by decide)]
        rfl
      · unfold f_X4_wrongTold f_X4_wrongSheet
        rw [s2, fg_bi_some, if_neg (by decide), fg_gd_nI hs (by decide), nI_clamp (by omega), e, if_pos hm, fg_bi_some, if_neg (by decide)]
        rfl
    · have p1 : f_X3_faultOfTold (nI s) b w = fg_bi (f_X2_isPerson 0 b w) (fun r10 w8 => if r10 = 0 then (some (0, w8)) else (some ((-1), w8))) := by
        unfold f_X3_faultOfTold f_X0_isMissing
        rw [s1, fg_bi_some, if_neg (by decide), fg_gd_nI hs (by decide), nI_clamp (by omega), g1, if_neg hm, fg_bi_some, if_pos rfl]
      have p2 : ∀ w1 : fg_W, w1.1 4 0 = w.1 4 0 → f_X4_wrongTold (nI s) b w1 = fg_bi (f_X4_isPerson b w1) (fun r6 w4 => if r6 = 0 then (some (0, w4)) else (some ((-1), w4))) := fun w1 e => by
        unfold f_X4_wrongTold f_X4_wrongSheet
        rw [s2, fg_bi_some, if_neg (by decide), fg_gd_nI hs (by decide), nI_clamp (by omega), e, if_neg hm, fg_bi_some, if_pos (by decide)]
      rcases q_per b n h8 with ⟨k, hk, rfl, c1, c2⟩ | ⟨_, c1, c2⟩
      · refine Or.inl ⟨s, k, hs, hk, rfl, rfl, ?_, fun w1 e => ?_⟩
        · rw [p1, c1 0 w hN, fg_bi_some, if_neg (by decide)]
        · rw [p2 w1 e, c2 w1 (e4 w1 e), fg_bi_some, if_neg (by decide)]
      · refine Or.inr ⟨0, by decide, ?_, fun w1 e => ?_⟩
        · rw [p1, c1 0 w hN, fg_bi_some, if_pos rfl]; rfl
        · rw [p2 w1 e, c2 w1 (e4 w1 e), fg_bi_some, if_pos rfl]; rfl
  · refine Or.inr ⟨0, by decide, ?_, fun w1 e => ?_⟩
    · unfold f_X3_faultOfTold; rw [s1, fg_bi_some, if_pos rfl]; rfl
    · unfold f_X4_wrongTold f_X4_wrongSheet; rw [s2, fg_bi_some, if_pos rfl, fg_bi_some, if_neg (by decide)]; rfl
/-- one thought of the class, told lots -/
theorem p_tt {n k s len c : Nat} {w : fg_W} {v : Int32} (hk : k < 8) (hl : len ≤ 40) (hs : w.1 0 s 0 1 = nI len) {wr : fg_W} (hr : rm wr (bk_set (w.1 2 0) c k v)) (hI : bk_I (bk_set (w.1 2 0) c k v) n) (d : Nat → Nat → Int32) : ∃ d', f_X3_goesAsTold (nI k) s (fg_sw w 2 1 (bk_set (bk_bec d (w.1 2 0)) c k v)) = some (if bk_told n k (w.1 0 s 1) (bk_set (w.1 2 0) c k v) 0 len then 1 else 0, fg_sw w 2 1 d') := by
  obtain ⟨d', hd⟩ := p_told (n := n) hk hl hs (bk_th_I (d := d) hI)
  rw [bk_told_eq hk _ len 0 wr _ _ hr hI ((bk_bec_eq d (w.1 2 0)).set c k v)] at hd
  exact ⟨d', hd⟩
def bk_ct (P : Nat → Bool) : Nat → Int32
  | 0 => 0
  | m + 1 => if P m then bk_ct P m + 1 else bk_ct P m
def bk_km (P : Nat → Bool) : Nat → Int32
  | 0 => 0
  | m + 1 => if P m then bk_km P m ||| ((1 : Int32) <<< (nI m &&& 31)) else bk_km P m
theorem p_fitsL {n k s len : Nat} {w : fg_W} (hk : k < 8) (hs4 : s < 4) (hl : len ≤ 40) (hs : w.1 0 s 0 1 = nI len) (h1 : rm w (w.1 2 0)) (hI : ∀ p, p < 100 → bk_I (bk_set (w.1 2 0) 7 k (nI p)) n) (K : Int32 → Int32 → fg_W → Option (Int32 × fg_W)) : ∀ (m j fu : Nat) (d : Nat → Nat → Int32), j + m = 100 → m < fu → ∃ d', f_X3_fits_L23 (nI s) (nI k) K fu (bk_ct (fun v => bk_told n k (w.1 0 s 1) (bk_set (w.1 2 0) 7 k (nI v)) 0 len) j) (nI j) (fg_sw w 2 1 d) = K (bk_ct (fun v => bk_told n k (w.1 0 s 1) (bk_set (w.1 2 0) 7 k (nI v)) 0 len) 100) (nI 100) (fg_sw w 2 1 d') := by
  intro m
  induction m with
  | zero =>
    intro j fu d hj hf
    obtain ⟨fu, rfl⟩ : ∃ z, fu = z + 1 := ⟨fu - 1, by omega⟩
    obtain rfl : j = 100 := by omega
    exact ⟨d, by rw [f_X3_fits_L23, if_pos (by decide)]⟩
  | succ m ih =>
    intro j fu d hj hf
    obtain ⟨fu, rfl⟩ : ∃ z, fu = z + 1 := ⟨fu - 1, by omega⟩
    obtain ⟨d1, hd1⟩ := p_tt (c := 7) (v := nI j) hk hl hs (h1.per (f := 2) (k := k) (nI j) (by decide) hk) (hI j (by omega)) d
    obtain ⟨d', hd⟩ := ih (j + 1) fu d1 (by omega) (by omega)
    refine ⟨d', ?_⟩
    rw [f_X3_fits_L23, if_neg (show ¬ (99 : Int32) < nI j from nI_nlt (a := 99) (b := j) (by omega) (by decide)), p_become (by decide), fg_bv_some, fg_sw_at, fg_sw_sw, fg_sw_i _ _ _ _ _ (by decide), fg_gd_nI hk (by decide), fg_let_eq, nI_clamp (show k < 2 ^ 31 by omega), fg_st_set, fg_sw_at, fg_sw_sw, fg_gd_nI hs4 (by decide), nI_clamp (show s < 2 ^ 31 by omega), hd1, fg_bi_some, nI_1, ← hd, bk_ct]
    by_cases hP : bk_told n k (w.1 0 s 1) (bk_set (w.1 2 0) 7 k (nI j)) 0 len
    · rw [if_pos hP, if_neg (by decide), if_pos hP]
    · rw [if_neg hP, if_pos rfl, if_neg hP]
theorem m_fitsL {n k s len : Nat} {x : Nat → Int32} {A : Nat → Nat → Int32} (hk : k < 8) (hs4 : s < 4) (hl : len ≤ 40) (hI : ∀ p, p < 100 → bk_I (bk_set A 7 k (nI p)) n) (K : Int32 → Int32 → fg_W → Option (Int32 × fg_W)) : ∀ (m j fu : Nat) (w : fg_W), j + m = 100 → m < fu → rm w A → w.1 4 0 13 s = nI len → (∀ i, i < 40 → w.1 4 0 14 (40 * s + i) = x i) → ∃ w', f_X4_fits_L23 (nI s) (nI k) K fu (bk_ct (fun v => bk_told n k x (bk_set A 7 k (nI v)) 0 len) j) (nI j) w = K (bk_ct (fun v => bk_told n k x (bk_set A 7 k (nI v)) 0 len) 100) (nI 100) w' ∧ bs w w' := by
  intro m
  induction m with
  | zero =>
    intro j fu w hj hf h h13 h14
    obtain ⟨fu, rfl⟩ : ∃ z, fu = z + 1 := ⟨fu - 1, by omega⟩
    obtain rfl : j = 100 := by omega
    exact ⟨w, by rw [f_X4_fits_L23, if_pos (by decide)], bs.rf w⟩
  | succ m ih =>
    intro j fu w hj hf h h13 h14
    obtain ⟨fu, rfl⟩ : ∃ z, fu = z + 1 := ⟨fu - 1, by omega⟩
    obtain ⟨w1, a1, a2⟩ := m_fitsAs (f := 2) (s := s) (len := len) (x := x) (v := nI j) h hk hs4 (by decide) hl (hI j (by omega)) h13 h14
    obtain ⟨w', b1, b2⟩ := ih (j + 1) fu w1 (by omega) (by omega) (h.bs a2) (by rw [a2.2.1 13 (by decide) (by decide) (by decide) (by decide)]; exact h13) (fun i hi => by rw [a2.2.1 14 (by decide) (by decide) (by decide) (by decide)]; exact h14 i hi)
    refine ⟨w', ?_, a2.tr b2⟩
    rw [f_X4_fits_L23, if_neg (show ¬ (100 : Int32) ≤ nI j from nI_ge (a := j) (b := 100) (by omega) (by decide)), show f_X4_fitsAs (nI s) (nI k) 2 (nI j) w = _ from a1, fg_bi_some, nI_1, ← b1, bk_ct]
    by_cases hP : bk_told n k x (bk_set A (5 + 2) k (nI j)) 0 len
    · rw [if_pos hP, if_neg (by decide), if_pos (show bk_told n k x (bk_set A 7 k (nI j)) 0 len = true from hP), fg_let_eq]
    · rw [if_neg hP, if_pos rfl, if_neg (show ¬ bk_told n k x (bk_set A 7 k (nI j)) 0 len = true from hP), fg_let_eq, Int32.add_zero]
theorem ag_fits {w : fg_W} (h : rr w) (a b : Int32) : ag (f_X3_fits a b w) (f_X4_fits a b) := by
  have h' := h
  obtain ⟨n, h1, h2, h3, h4⟩ := h
  have hN := h2.1
  have h8 := hN.2
  have hS := h4.2.2.2.1
  rcases q_told h1 hN hS a b with ⟨s, k, hs, hk, rfl, rfl, t1, t2⟩ | ⟨c, hc, t1, t2⟩
  · have hk8 : k < 8 := by omega
    obtain ⟨g1, g2, g3, ⟨len, hl, g4⟩, g5⟩ := hS s hs
    have hI : ∀ p, p < 100 → bk_I (bk_set (w.1 2 0) 7 k (nI p)) n := fun p hp => h2.set (by decide) (by omega) (by omega) (by omega) (by omega) (fun _ => ⟨p, by omega, rfl⟩) (by omega) (by omega) (by omega)
    obtain ⟨d', hd⟩ := p_fitsL (w := w) hk8 hs hl (g2.trans g4) h1 hI (fun v4_23 v5_23 w_23 => some (v4_23, w_23)) 100 0 fg_fuel (w.1 2 1) (by omega) (by unfold fg_fuel; omega)
    rw [fg_sw_id, nI_0] at hd
    refine ag.ask h' (d := d') (r := bk_ct (fun v => bk_told n k (w.1 0 s 1) (bk_set (w.1 2 0) 7 k (nI v)) 0 len) 100) ?_ ?_
    · unfold f_X3_fits; rw [t1, fg_bi_some, if_pos (by decide)]; exact hd
    · have g := h1.own 2 1 d' (by decide)
      have e : (fg_sw w 2 1 d').1 4 0 = w.1 4 0 := fg_sw_K _ _ _ _ _ _ (by decide)
      obtain ⟨w2, b1, b2⟩ := m_fitsL (A := w.1 2 0) (x := w.1 0 s 1) hk8 hs hl hI (fun v4_23 v5_23 w_23 => some (v4_23, w_23)) 100 0 fg_fuel _ (by omega) (by unfold fg_fuel; omega) g (by rw [e]; exact g4) (fun i hi => by rw [e]; exact (g5 i hi).symm)
      rw [nI_0] at b1
      refine ⟨w2, ?_, b2⟩
      unfold f_X4_fits; rw [t2 _ e, fg_bi_some, if_pos (by decide)]; exact b1
  · refine ag.fnd h' hc ?_ (fun w1 e => ?_)
    · unfold f_X3_fits; rw [t1, fg_bi_some, if_neg (nI_pos (by omega)), fg_bi_id]
    · unfold f_X4_fits; rw [t2 w1 e, fg_bi_some, if_neg (nI_pos (by omega)), fg_bi_id]
theorem p_bvdL {n k s len : Nat} {w : fg_W} (hk : k < 8) (hs4 : s < 4) (hl : len ≤ 40) (hs : w.1 0 s 0 1 = nI len) (h1 : rm w (w.1 2 0)) (hI : ∀ p, p < 100 → bk_I (bk_set (w.1 2 0) 7 k (nI p)) n) (K : Int32 → fg_W → Option (Int32 × fg_W)) : ∀ (m j fu : Nat) (d : Nat → Nat → Int32), j + m = 100 → m < fu → ∃ d', f_X3_believed_L20 (nI s) (nI k) K fu (nI j) (fg_sw w 2 1 d) = if bk_up (fun v => bk_told n k (w.1 0 s 1) (bk_set (w.1 2 0) 7 k (nI v)) 0 len) j m ≤ 99 then some (nI (bk_up (fun v => bk_told n k (w.1 0 s 1) (bk_set (w.1 2 0) 7 k (nI v)) 0 len) j m), fg_sw w 2 1 d') else K (nI 100) (fg_sw w 2 1 d') := by
  intro m
  induction m with
  | zero =>
    intro j fu d hj hf
    obtain ⟨fu, rfl⟩ : ∃ z, fu = z + 1 := ⟨fu - 1, by omega⟩
    obtain rfl : j = 100 := by omega
    exact ⟨d, by rw [f_X3_believed_L20, if_pos (by decide), bk_up, if_neg (by omega)]⟩
  | succ m ih =>
    intro j fu d hj hf
    obtain ⟨fu, rfl⟩ : ∃ z, fu = z + 1 := ⟨fu - 1, by omega⟩
    obtain ⟨d1, hd1⟩ := p_tt (c := 7) (v := nI j) hk hl hs (h1.per (f := 2) (k := k) (nI j) (by decide) hk) (hI j (by omega)) d
    obtain ⟨d', hd⟩ := ih (j + 1) fu d1 (by omega) (by omega)
    rw [f_X3_believed_L20, if_neg (show ¬ (99 : Int32) < nI j from nI_nlt (a := 99) (b := j) (by omega) (by decide)), p_become (by decide), fg_bv_some, fg_sw_at, fg_sw_sw, fg_sw_i _ _ _ _ _ (by decide), fg_gd_nI hk (by decide), fg_let_eq, nI_clamp (show k < 2 ^ 31 by omega), fg_st_set, fg_sw_at, fg_sw_sw, fg_gd_nI hs4 (by decide), nI_clamp (show s < 2 ^ 31 by omega), hd1, fg_bi_some, nI_1, hd, bk_up]
    by_cases hP : bk_told n k (w.1 0 s 1) (bk_set (w.1 2 0) 7 k (nI j)) 0 len
    · exact ⟨d1, by rw [if_pos hP, if_neg (by decide), if_pos hP, if_pos (by omega)]⟩
    · exact ⟨d', by rw [if_neg hP, if_pos rfl, if_neg hP]⟩
theorem m_bvdL {n k s len : Nat} {x : Nat → Int32} {A : Nat → Nat → Int32} (hk : k < 8) (hs4 : s < 4) (hl : len ≤ 40) (hI : ∀ p, p < 100 → bk_I (bk_set A 7 k (nI p)) n) : ∀ (m j fu : Nat) (w : fg_W), j + m = 100 → m < fu → rm w A → w.1 4 0 13 s = nI len → (∀ i, i < 40 → w.1 4 0 14 (40 * s + i) = x i) → ∃ w', bs w w' ∧ f_X4_believed_L20 (nI s) (nI k) (fun v4_20 w_20 => if v4_20 = 100 then (fg_bi (f_X4_no 3 w_20) (fun r6 w4 => some (r6, w4))) else (some (v4_20, w_20))) fu (nI j) w = if bk_up (fun v => bk_told n k x (bk_set A 7 k (nI v)) 0 len) j m ≤ 99 then some (nI (bk_up (fun v => bk_told n k x (bk_set A 7 k (nI v)) 0 len) j m), w') else f_X4_no 3 w' := by
  intro m
  induction m with
  | zero =>
    intro j fu w hj hf h h13 h14
    obtain ⟨fu, rfl⟩ : ∃ z, fu = z + 1 := ⟨fu - 1, by omega⟩
    obtain rfl : j = 100 := by omega
    exact ⟨w, bs.rf w, by rw [f_X4_believed_L20, if_pos (by decide), if_pos (by decide), bk_up, if_neg (by omega), fg_bi_id]⟩
  | succ m ih =>
    intro j fu w hj hf h h13 h14
    obtain ⟨fu, rfl⟩ : ∃ z, fu = z + 1 := ⟨fu - 1, by omega⟩
    obtain ⟨w1, a1, a2⟩ := m_fitsAs (f := 2) (s := s) (len := len) (x := x) (v := nI j) h hk hs4 (by decide) hl (hI j (by omega)) h13 h14
    obtain ⟨w', b2, b1⟩ := ih (j + 1) fu w1 (by omega) (by omega) (h.bs a2) (by rw [a2.2.1 13 (by decide) (by decide) (by decide) (by decide)]; exact h13) (fun i hi => by rw [a2.2.1 14 (by decide) (by decide) (by decide) (by decide)]; exact h14 i hi)
    rw [f_X4_believed_L20, if_neg (show ¬ (100 : Int32) ≤ nI j from nI_ge (a := j) (b := 100) (by omega) (by decide)), show f_X4_fitsAs (nI s) (nI k) 2 (nI j) w = _ from a1, fg_bi_some, nI_1, b1, bk_up]
    by_cases hP : bk_told n k x (bk_set A (5 + 2) k (nI j)) 0 len
    · refine ⟨w1, a2, ?_⟩
      rw [if_pos hP, if_neg (by decide), if_neg (show ¬ nI j = 100 from fun z => by have := (nI_eq (a := j) (b := 100) (by omega) (by decide)).mp z; omega), if_pos (show bk_told n k x (bk_set A 7 k (nI j)) 0 len = true from hP), if_pos (by omega)]
    · exact ⟨w', a2.tr b2, by rw [if_neg hP, if_pos rfl, if_neg (show ¬ bk_told n k x (bk_set A 7 k (nI j)) 0 len = true from hP)]⟩
theorem ag_believed {w : fg_W} (h : rr w) (a b : Int32) : ag (f_X3_believed a b w) (f_X4_believed a b) := by
  have h' := h
  obtain ⟨n, h1, h2, h3, h4⟩ := h
  have hN := h2.1
  have h8 := hN.2
  have hS := h4.2.2.2.1
  rcases q_told h1 hN hS a b with ⟨s, k, hs, hk, rfl, rfl, t1, t2⟩ | ⟨c, hc, t1, t2⟩
  · have hk8 : k < 8 := by omega
    obtain ⟨g1, g2, g3, ⟨len, hl, g4⟩, g5⟩ := hS s hs
    have hI : ∀ p, p < 100 → bk_I (bk_set (w.1 2 0) 7 k (nI p)) n := fun p hp => h2.set (by decide) (by omega) (by omega) (by omega) (by omega) (fun _ => ⟨p, by omega, rfl⟩) (by omega) (by omega) (by omega)
    refine ag.srch (c := bk_up (fun v => bk_told n k (w.1 0 s 1) (bk_set (w.1 2 0) 7 k (nI v)) 0 len) 0 100 ≤ 99) (r := nI (bk_up (fun v => bk_told n k (w.1 0 s 1) (bk_set (w.1 2 0) 7 k (nI v)) 0 len) 0 100)) h' ?_ (fun w1 e => ?_)
    · obtain ⟨d', hd⟩ := p_bvdL (w := w) hk8 hs hl (g2.trans g4) h1 hI (fun v4_20 w_20 => fg_bi (f_X3_finding 3 w_20) (fun r6 w4 => some (r6, w4))) 100 0 fg_fuel (w.1 2 1) (by omega) (by unfold fg_fuel; omega)
      rw [fg_sw_id, nI_0] at hd
      refine ⟨d', ?_⟩
      unfold f_X3_believed; rw [t1, fg_bi_some, if_pos (by decide), hd, fg_bi_id]
    · obtain ⟨w2, b1, b2⟩ := m_bvdL (A := w.1 2 0) (x := w.1 0 s 1) hk8 hs hl hI 100 0 fg_fuel w1 (by omega) (by unfold fg_fuel; omega) (h1.of e) (by rw [e]; exact g4) (fun i hi => by rw [e]; exact (g5 i hi).symm)
      rw [nI_0] at b2
      refine ⟨w2, b1, ?_⟩
      unfold f_X4_believed; rw [t2 _ e, fg_bi_some, if_pos (by decide), b2]
  · refine ag.fnd h' hc ?_ (fun w1 e => ?_)
    · unfold f_X3_believed; rw [t1, fg_bi_some, if_neg (nI_pos (by omega)), fg_bi_id]
    · unfold f_X4_believed; rw [t2 w1 e, fg_bi_some, if_neg (nI_pos (by omega)), fg_bi_id]
theorem p_kdsL {n k s len : Nat} {w : fg_W} (hk : k < 8) (hs4 : s < 4) (hl : len ≤ 40) (hs : w.1 0 s 0 1 = nI len) (h1 : rm w (w.1 2 0)) (hI : ∀ p, p < 7 → bk_I (bk_set (w.1 2 0) 5 k (nI p)) n) (K : Int32 → Int32 → fg_W → Option (Int32 × fg_W)) : ∀ (m j fu : Nat) (d : Nat → Nat → Int32), j + m = 7 → m < fu → ∃ d', f_X3_kinds_L23 (nI s) (nI k) K fu (bk_km (fun v => bk_told n k (w.1 0 s 1) (bk_set (w.1 2 0) 5 k (nI v)) 0 len) j) (nI j) (fg_sw w 2 1 d) = K (bk_km (fun v => bk_told n k (w.1 0 s 1) (bk_set (w.1 2 0) 5 k (nI v)) 0 len) 7) (nI 7) (fg_sw w 2 1 d') := by
  intro m
  induction m with
  | zero =>
    intro j fu d hj hf
    obtain ⟨fu, rfl⟩ : ∃ z, fu = z + 1 := ⟨fu - 1, by omega⟩
    obtain rfl : j = 7 := by omega
    exact ⟨d, by rw [f_X3_kinds_L23, if_pos (by decide)]⟩
  | succ m ih =>
    intro j fu d hj hf
    obtain ⟨fu, rfl⟩ : ∃ z, fu = z + 1 := ⟨fu - 1, by omega⟩
    obtain ⟨d1, hd1⟩ := p_tt (c := 5) (v := nI j) hk hl hs (h1.per (f := 0) (k := k) (nI j) (by decide) hk) (hI j (by omega)) d
    obtain ⟨d', hd⟩ := ih (j + 1) fu d1 (by omega) (by omega)
    refine ⟨d', ?_⟩
    rw [f_X3_kinds_L23, if_neg (show ¬ (7 : Int32) ≤ nI j from nI_ge (a := j) (b := 7) (by omega) (by decide)), p_become (by decide), fg_bv_some, fg_sw_at, fg_sw_sw, fg_sw_i _ _ _ _ _ (by decide), fg_gd_nI hk (by decide), fg_let_eq, nI_clamp (show k < 2 ^ 31 by omega), fg_st_set, fg_sw_at, fg_sw_sw, fg_gd_nI hs4 (by decide), nI_clamp (show s < 2 ^ 31 by omega), hd1, fg_bi_some, nI_1, ← hd, bk_km]
    by_cases hP : bk_told n k (w.1 0 s 1) (bk_set (w.1 2 0) 5 k (nI j)) 0 len
    · rw [if_pos hP, if_neg (by decide), if_pos hP, fg_let_eq]
    · rw [if_neg hP, if_pos rfl, if_neg hP]
theorem m_kdsL {n k s len : Nat} {x : Nat → Int32} {A : Nat → Nat → Int32} (hk : k < 8) (hs4 : s < 4) (hl : len ≤ 40) (hI : ∀ p, p < 7 → bk_I (bk_set A 5 k (nI p)) n) (K : Int32 → Int32 → fg_W → Option (Int32 × fg_W)) : ∀ (m j fu : Nat) (w : fg_W), j + m = 7 → m < fu → rm w A → w.1 4 0 13 s = nI len → (∀ i, i < 40 → w.1 4 0 14 (40 * s + i) = x i) → ∃ w', f_X4_kinds_L23 (nI s) (nI k) K fu (bk_km (fun v => bk_told n k x (bk_set A 5 k (nI v)) 0 len) j) (nI j) w = K (bk_km (fun v => bk_told n k x (bk_set A 5 k (nI v)) 0 len) 7) (nI 7) w' ∧ bs w w' := by
  intro m
  induction m with
  | zero =>
    intro j fu w hj hf h h13 h14
    obtain ⟨fu, rfl⟩ : ∃ z, fu = z + 1 := ⟨fu - 1, by omega⟩
    obtain rfl : j = 7 := by omega
    exact ⟨w, by rw [f_X4_kinds_L23, if_pos (by decide)], bs.rf w⟩
  | succ m ih =>
    intro j fu w hj hf h h13 h14
    obtain ⟨fu, rfl⟩ : ∃ z, fu = z + 1 := ⟨fu - 1, by omega⟩
    obtain ⟨w1, a1, a2⟩ := m_fitsAs (f := 0) (s := s) (len := len) (x := x) (v := nI j) h hk hs4 (by decide) hl (hI j (by omega)) h13 h14
    obtain ⟨w', b1, b2⟩ := ih (j + 1) fu w1 (by omega) (by omega) (h.bs a2) (by rw [a2.2.1 13 (by decide) (by decide) (by decide) (by decide)]; exact h13) (fun i hi => by rw [a2.2.1 14 (by decide) (by decide) (by decide) (by decide)]; exact h14 i hi)
    refine ⟨w', ?_, a2.tr b2⟩
    rw [f_X4_kinds_L23, if_neg (show ¬ (6 : Int32) < nI j from nI_nlt (a := 6) (b := j) (by omega) (by decide)), show f_X4_fitsAs (nI s) (nI k) 0 (nI j) w = _ from a1, fg_bi_some, nI_1, ← b1, bk_km]
    by_cases hP : bk_told n k x (bk_set A (5 + 0) k (nI j)) 0 len
    · rw [if_pos hP, if_neg (by decide), if_pos (show bk_told n k x (bk_set A 5 k (nI j)) 0 len = true from hP), fg_let_eq]
    · rw [if_neg hP, if_pos rfl, if_neg (show ¬ bk_told n k x (bk_set A 5 k (nI j)) 0 len = true from hP), fg_let_eq, bk_or0]
theorem ag_kinds {w : fg_W} (h : rr w) (a b : Int32) : ag (f_X3_kinds a b w) (f_X4_kinds a b) := by
  have h' := h
  obtain ⟨n, h1, h2, h3, h4⟩ := h
  have hN := h2.1
  have h8 := hN.2
  have hS := h4.2.2.2.1
  rcases q_told h1 hN hS a b with ⟨s, k, hs, hk, rfl, rfl, t1, t2⟩ | ⟨c, hc, t1, t2⟩
  · have hk8 : k < 8 := by omega
    obtain ⟨g1, g2, g3, ⟨len, hl, g4⟩, g5⟩ := hS s hs
    have hI : ∀ p, p < 7 → bk_I (bk_set (w.1 2 0) 5 k (nI p)) n := fun p hp => h2.set (by decide) (by omega) (by omega) (fun _ => ⟨p, by omega, rfl⟩) (by omega) (by omega) (by omega) (by omega) (by omega)
    obtain ⟨d', hd⟩ := p_kdsL (w := w) hk8 hs hl (g2.trans g4) h1 hI (fun v4_23 v5_23 w_23 => some (v4_23, w_23)) 7 0 fg_fuel (w.1 2 1) (by omega) (by unfold fg_fuel; omega)
    rw [fg_sw_id, nI_0] at hd
    refine ag.ask h' (d := d') (r := bk_km (fun v => bk_told n k (w.1 0 s 1) (bk_set (w.1 2 0) 5 k (nI v)) 0 len) 7) ?_ ?_
    · unfold f_X3_kinds; rw [t1, fg_bi_some, if_pos (by decide)]; exact hd
    · have g := h1.own 2 1 d' (by decide)
      have e : (fg_sw w 2 1 d').1 4 0 = w.1 4 0 := fg_sw_K _ _ _ _ _ _ (by decide)
      obtain ⟨w2, b1, b2⟩ := m_kdsL (A := w.1 2 0) (x := w.1 0 s 1) hk8 hs hl hI (fun v4_23 v5_23 w_23 => some (v4_23, w_23)) 7 0 fg_fuel _ (by omega) (by unfold fg_fuel; omega) g (by rw [e]; exact g4) (fun i hi => by rw [e]; exact (g5 i hi).symm)
      rw [nI_0] at b1
      refine ⟨w2, ?_, b2⟩
      unfold f_X4_kinds; rw [t2 _ e, fg_bi_some, if_pos (by decide)]; exact b1
  · refine ag.fnd h' hc ?_ (fun w1 e => ?_)
    · unfold f_X3_kinds; rw [t1, fg_bi_some, if_neg (nI_pos (by omega)), fg_bi_id]
    · unfold f_X4_kinds; rw [t2 w1 e, fg_bi_some, if_neg (nI_pos (by omega)), fg_bi_id]
