-- fine days by draws
def bk_r8 (x : Int32) : Int32 := ((x).toUInt32 >>> ((8 : Int32).toUInt32 &&& Int32.toUInt32 31)).toInt32
theorem bk_r8_nI (x : Int32) : ∃ r, r < 2 ^ 24 ∧ bk_r8 x = nI r := by
  have h := x.toBitVec.isLt
  refine ⟨x.toBitVec.toNat / 2 ^ 8, by omega, ?_⟩
  apply Int32.toBitVec_inj.mp
  apply BitVec.eq_of_toNat_eq
  unfold bk_r8
  rw [pk_ushr x 8 8 (by decide), pk_tn (by omega)]
def bk_z (A : Nat → Nat → Int32) : Nat → Nat → Int32 := bk_set A 0 13 (A 0 13 * 1103515245 + 12345)
theorem bk_z_c (A : Nat → Nat → Int32) {c : Nat} (j : Nat) (h : c ≠ 0) : bk_z A c j = A c j := bk_nc _ _ h _
theorem bk_z_0 (A : Nat → Nat → Int32) {j : Nat} (h : j ≠ 13) : bk_z A 0 j = A 0 j := bk_ne _ _ (Or.inr h)
theorem bk_I.z {A : Nat → Nat → Int32} {n : Nat} (h : bk_I A n) : bk_I (bk_z A) n := h.cong (fun c j _ _ _ h0 _ _ => bk_ne _ _ (by omega))
theorem p_draw {i : Nat} {w : fg_W} : f_X2_draw i w = some (bk_r8 (bk_z (w.1 2 i) 0 13), fg_sw w 2 i (bk_z (w.1 2 i))) := by
  unfold f_X2_draw
  rw [fg_let_eq, fg_st_set, fg_sw_at]
  rfl
theorem m_draw {w : fg_W} {A : Nat → Nat → Int32} (h : rm w A) : ∃ w', f_X4_draw w = some (bk_r8 (bk_z A 0 13), w') ∧ rm w' (bk_z A) ∧ fm w w' := by
  refine ⟨fg_sw w 4 0 (bk_set (w.1 4 0) 1 2 (A 0 13 * 1103515245 + 12345)), ?_, h.sc _ (by omega), fm.set w _ _ (Or.inl rfl)⟩
  unfold f_X4_draw
  rw [fg_let_eq, fg_st_set, h.1.2.2.1, fg_sw_at, bk_same]
  unfold bk_z
  rw [bk_same]
  rfl
def bk_f1 (A : Nat → Nat → Int32) : Nat → Nat → Int32 := bk_set (bk_z A) 4 ((A 0 12).toNatClampNeg % 6) (bk_r8 (bk_z A 0 13) - bk_r8 (bk_z A 0 13) / 41 * 41)
def bk_f2 (A : Nat → Nat → Int32) : Nat → Nat → Int32 := bk_set (bk_z (bk_f1 A)) 3 ((bk_r8 (bk_z (bk_f1 A) 0 13)).toNatClampNeg % 10) (-1)
def bk_fns (n : Nat) (A : Nat → Nat → Int32) : Nat → Nat → Nat → Int32
  | 0 => A
  | m + 1 => bk_fns n (bk_day n (bk_f2 A)) m
theorem bk_f1_I {A : Nat → Nat → Int32} {n : Nat} (h : bk_I A n) : bk_I (bk_f1 A) n := h.z.set (by decide) (by omega) (by omega) (by omega) (by omega) (by omega) (by omega) (by omega) (by omega)
theorem bk_f2_I {A : Nat → Nat → Int32} {n : Nat} (h : bk_I A n) : bk_I (bk_f2 A) n := (bk_f1_I h).z.set (by decide) (by omega) (fun _ => Or.inl rfl) (by omega) (by omega) (by omega) (by omega) (by omega) (by omega)
theorem bk_f2_11 (A : Nat → Nat → Int32) : bk_f2 A 0 11 = A 0 11 := by
  unfold bk_f2
  rw [bk_nc _ _ (by decide), bk_z_0 _ (by decide)]
  unfold bk_f1
  rw [bk_nc _ _ (by decide), bk_z_0 _ (by decide)]
theorem bk_fns_I {n : Nat} : ∀ (m : Nat) (A : Nat → Nat → Int32), bk_I A n → bk_I (bk_fns n A m) n := by
  intro m
  induction m with
  | zero => intro A h; exact h
  | succ m ih => intro A h; exact ih _ (bk_I_day (bk_f2_I h))
theorem bk_fns_11 {n : Nat} (hn : n ≤ 8) : ∀ (m : Nat) (A : Nat → Nat → Int32), bk_fns n A m 0 11 = A 0 11 := by
  intro m
  induction m with
  | zero => intro A; rfl
  | succ m ih => intro A; rw [bk_fns, ih, bk_day_11 hn, bk_f2_11]
theorem bk_rem10 {d : Nat} (h : d < 2 ^ 31) : nI d - nI d / 10 * 10 = nI (d % 10) := pk_rem (a := d) (d := 10) h (by decide) (by decide)
theorem p_fineL {n t : Nat} (ht : t < 2 ^ 31) (K : Int32 → fg_W → Option (Int32 × fg_W)) : ∀ (m j fu : Nat) (w : fg_W), j + m = t → m < fu → bk_I (w.1 2 0) n → f_X3_fine_L38 (nI t) K fu (nI j) w = K (nI t) (fg_sw w 2 0 (bk_fns n (w.1 2 0) m)) := by
  intro m
  induction m with
  | zero =>
    intro j fu w hj hf hI
    obtain ⟨fu, rfl⟩ : ∃ z, fu = z + 1 := ⟨fu - 1, by omega⟩
    obtain rfl : j = t := by omega
    rw [f_X3_fine_L38, if_pos (nI_le (Nat.le_refl _) (by omega))]
    show _ = K (nI j) (fg_sw w 2 0 (w.1 2 0))
    rw [fg_sw_id]
  | succ m ih =>
    intro j fu w hj hf hI
    obtain ⟨fu, rfl⟩ : ∃ z, fu = z + 1 := ⟨fu - 1, by omega⟩
    obtain ⟨d, hd, ed⟩ := hI.2.2.2.1
    obtain ⟨r, hr, er⟩ := bk_r8_nI (bk_z (bk_f1 (w.1 2 0)) 0 13)
    have e1 : bk_set (bk_z (w.1 2 0)) 4 (d % 6) (bk_r8 (bk_z (w.1 2 0) 0 13) - bk_r8 (bk_z (w.1 2 0) 0 13) / 41 * 41) = bk_f1 (w.1 2 0) := by unfold bk_f1; rw [ed, nI_clamp (by omega)]
    have e2 : bk_set (bk_z (bk_f1 (w.1 2 0))) 3 (r % 10) (-1) = bk_f2 (w.1 2 0) := by unfold bk_f2; rw [er, nI_clamp (by omega)]
    rw [f_X3_fine_L38, if_neg (nI_ge (by omega) (by omega)), p_draw, fg_bi_some, ed, bk_rem6 (by omega), fg_gd_nI (show d % 6 < 6 by omega) (by decide), fg_let_eq, nI_clamp (by omega), fg_st_set, fg_sw_at, fg_sw_sw, e1, p_draw, fg_bi_some, fg_sw_at, fg_sw_sw, er, bk_rem10 (by omega), fg_gd_nI (show r % 10 < 10 by omega) (by decide), fg_let_eq, nI_clamp (by omega), fg_st_set, fg_sw_at, fg_sw_sw, e2, p_day1 (n := n) (by rw [fg_sw_at]; exact bk_f2_I hI), fg_bv_some, fg_sw_at, fg_sw_sw, nI_1, ih (j + 1) fu _ (by omega) (by omega) (by rw [fg_sw_at]; exact bk_I_day (bk_f2_I hI)), fg_sw_at, fg_sw_sw]
    rfl
theorem m_fineL {n t : Nat} (ht : t < 2 ^ 31) (K : Int32 → fg_W → Option (Int32 × fg_W)) : ∀ (m j fu : Nat) (w : fg_W) (A : Nat → Nat → Int32), j + m = t → m < fu → rm w A → bk_I A n → ∃ w', f_X4_fine_L37 (nI t) K fu (nI j) w = K (nI t) w' ∧ rm w' (bk_fns n A m) ∧ fm w w' := by
  intro m
  induction m with
  | zero =>
    intro j fu w A hj hf h hI
    obtain ⟨fu, rfl⟩ : ∃ z, fu = z + 1 := ⟨fu - 1, by omega⟩
    obtain rfl : j = t := by omega
    exact ⟨w, by rw [f_X4_fine_L37, if_pos (nI_le (Nat.le_refl _) (by omega))], h, fm.rf w⟩
  | succ m ih =>
    intro j fu w A hj hf h hI
    obtain ⟨fu, rfl⟩ : ∃ z, fu = z + 1 := ⟨fu - 1, by omega⟩
    obtain ⟨d, hd, ed⟩ := hI.2.2.2.1
    obtain ⟨r, hr, er⟩ := bk_r8_nI (bk_z (bk_f1 A) 0 13)
    have e1 : bk_set (bk_z A) 4 (d % 6) (bk_r8 (bk_z A 0 13) - bk_r8 (bk_z A 0 13) / 41 * 41) = bk_f1 A := by unfold bk_f1; rw [ed, nI_clamp (by omega)]
    have e2 : bk_set (bk_z (bk_f1 A)) 3 (r % 10) (-1) = bk_f2 A := by unfold bk_f2; rw [er, nI_clamp (by omega)]
    obtain ⟨w1, a1, a2, a3⟩ := m_draw h
    have b2 := a2.sun (q := d % 6) (bk_r8 (bk_z A 0 13) - bk_r8 (bk_z A 0 13) / 41 * 41) (by omega)
    have b3 := fm.set w1 (c := 1) (4 + d % 6) (bk_r8 (bk_z A 0 13) - bk_r8 (bk_z A 0 13) / 41 * 41) (Or.inl rfl)
    rw [e1] at b2
    obtain ⟨w3, c1, c2, c3⟩ := m_draw b2
    have d2 := c2.lot (f := 2) (p := r % 10) (-1) (by decide) (by omega)
    have d3 := fm.set w3 (c := 1) (10 + 3 * (r % 10) + 2) (-1) (Or.inl rfl)
    have d2' : rm (fg_sw w3 4 0 (bk_set (w3.1 4 0) 1 (10 + 3 * (r % 10) + 2) (-1))) (bk_f2 A) := by rw [← e2]; exact d2
    obtain ⟨w5, f1, f2, f3⟩ := m_day d2' (bk_f2_I hI)
    obtain ⟨w6, g1, g2, g3⟩ := ih (j + 1) fu w5 _ (by omega) (by omega) f2 (bk_I_day (bk_f2_I hI))
    refine ⟨w6, ?_, g2, a3.tr (b3.tr (c3.tr (d3.tr (f3.tr g3))))⟩
    rw [f_X4_fine_L37, if_neg (nI_ge (by omega) (by omega)), a1, fg_bi_some, h.1.1, ed, bk_rem6 (by omega), show (4 : Int32) + nI (d % 6) = nI (4 + d % 6) from nI_add 4 (d % 6), fg_gd_nI (show 4 + d % 6 < 90 by omega) (by decide), fg_let_eq, nI_clamp (by omega), fg_st_set, c1, fg_bi_some, er, bk_rem10 (by omega), show f_X4_lays1 (nI (r % 10)) 2 (-1) w3 = _ from m_lays1 2 (-1) (by omega) (by decide), fg_bv_some, f1, fg_bv_some, nI_1, g1]
theorem bk_dayle2 {d t : Nat} (hd : d ≤ 99999) (ht : t ≤ 20) : (nI d + nI t ≤ 99999) = (d + t ≤ 99999) := bk_dayle hd (by omega)
theorem ag_fine {w : fg_W} (h : rr w) (a : Int32) : ag (f_X3_fine a w) (f_X4_fine a) := by
  have h' := h
  obtain ⟨n, h1, h2, h3, h4⟩ := h
  have hN := h2.1
  have h8 := hN.2
  obtain ⟨d, hd, ed⟩ := h2.2.2.2.1
  rcases q_in2 a 1 20 1 20 rfl rfl (by decide) (by decide) with ⟨t, ht1, ht2, rfl, hw⟩ | hw
  · by_cases hs : d + t ≤ 99999
    · have hs' : nI d + nI t ≤ 99999 := by rw [bk_dayle2 hd ht2]; exact hs
      have hI2 := bk_fns_I t _ h2
      have g := h1.own 2 0 (bk_fns n (w.1 2 0) t) (by decide)
      have e0 := p_fineL (n := n) (t := t) (by omega) (fun v2_38 w_38 => fg_bi (f_X2_thoseOnLots 0 w_38) (fun r6 w4 => some (r6, w4))) t 0 fg_fuel w (by omega) (by unfold fg_fuel; omega) h2
      obtain ⟨w2, e1, e2, e3⟩ := m_fineL (n := n) (t := t) (by omega) (fun v2_37 w_37 => fg_bi (f_X4_onLots  w_37) (fun r6 w4 => some (r6, w4))) t 0 fg_fuel _ _ (by omega) (by unfold fg_fuel; omega) g h2
      rw [nI_0] at e0 e1
      refine ⟨bk_onl (bk_fns n (w.1 2 0) t) n, fg_sw w 2 0 (bk_fns n (w.1 2 0) t), w2, ?_, ?_, ?_⟩
      · unfold f_X3_fine
        rw [hw, fg_bi_some, if_neg (by decide), ed, if_pos hs', e0, fg_bi_id, p_onl (n := n) (by rw [fg_sw_at]; exact hI2.1), fg_sw_at]
      · unfold f_X4_fine
        rw [in1_eq, hw, fg_bi_some, if_neg (by decide), g.1.1, ed, if_pos hs', e1, fg_bi_id, m_onl e2 hI2.1]
      · exact rr.fm h4 hI2 (by rw [bk_fns_11 h8]; exact h3) e2 e3
    · have hs' : ¬ nI d + nI t ≤ 99999 := by rw [bk_dayle2 hd ht2]; exact hs
      refine ag.fnd h' (c := 4) (by decide) ?_ (fun w1 e => ?_)
      · unfold f_X3_fine
        rw [hw, fg_bi_some, if_neg (by decide), ed, if_neg hs', fg_bi_id]; rfl
      · unfold f_X4_fine
        rw [in1_eq, hw, fg_bi_some, if_neg (by decide), e, h1.1.1, ed, if_neg hs', fg_bi_id]; rfl
  · refine ag.fnd0 h' ?_ (fun w1 e => ?_)
    · unfold f_X3_fine; rw [hw, fg_bi_some, if_pos rfl, fg_bi_id]
    · unfold f_X4_fine; rw [in1_eq, hw, fg_bi_some, if_pos rfl, fg_bi_id]
-- odds
def od_n (A : Nat → Nat → Int32) (n k : Nat) : Nat → Nat
  | 0 => 0
  | m + 1 => if A 1 m + bk_trust A n k m < 60 then od_n A n k m else od_n A n k m + 1
theorem od_n_le (A : Nat → Nat → Int32) (n k : Nat) : ∀ m, od_n A n k m ≤ m := by
  intro m
  induction m with
  | zero => exact Nat.le_refl _
  | succ m ih => rw [od_n]; split <;> omega
theorem p_odL {n k : Nat} {w : fg_W} (hN : bk_N (w.1 2 0) n) (hk : k < 8) (K : Int32 → Int32 → fg_W → Option (Int64 × fg_W)) : f_X3_odds_L43 (nI k) K fg_fuel 0 0 w = K (nI (od_n (w.1 2 0) n k 10)) (nI 10) w := by
  refine lp_go (L := f_X3_odds_L43 (nI k) K) (K := K) (acc := fun m => nI (od_n (w.1 2 0) n k m)) (n := 10) (by omega) (fun fu => ?_) (fun fu j hj => ?_)
  · rw [f_X3_odds_L43, if_pos (by decide)]
  · rw [f_X3_odds_L43, if_neg (show ¬ (10 : Int32) ≤ nI j from nI_ge (a := j) (b := 10) (by omega) (by decide)), p_stands hN hk (by omega), fg_bi_some, od_n, nI_1, nI_1]
    by_cases hc : w.1 2 0 1 j + bk_trust (w.1 2 0) n k j < 60
    · rw [if_pos hc, if_pos rfl, if_pos hc]
    · rw [if_neg hc, if_neg (by decide), if_neg hc]
theorem m_odL {n k : Nat} {w : fg_W} {A : Nat → Nat → Int32} (h : rm w A) (hN : bk_N A n) (hk : k < 8) (K : Int32 → Int32 → fg_W → Option (Int64 × fg_W)) : f_X4_odds_L40 (nI k) K fg_fuel 0 0 w = K (nI (od_n A n k 10)) (nI 10) w := by
  refine lp_go (L := f_X4_odds_L40 (nI k) K) (K := K) (acc := fun m => nI (od_n A n k m)) (n := 10) (by omega) (fun fu => ?_) (fun fu j hj => ?_)
  · rw [f_X4_odds_L40, if_pos (by decide)]
  · rw [f_X4_odds_L40, if_neg (show ¬ (10 : Int32) ≤ nI j from nI_ge (a := j) (b := 10) (by omega) (by decide)), m_stands h hN hk (by omega), fg_bi_some, od_n, fg_let_eq, fg_let_eq, Int32.add_zero, nI_1, nI_1]
    by_cases hc : A 1 j + bk_trust A n k j < 60
    · rw [if_pos hc, if_pos rfl, if_pos hc]
    · rw [if_neg hc, if_neg (by decide), if_neg hc]
/-- the class's way: a common divisor, then a power -/
def od_g (u0 u1 : Int32) : Nat → Int32 → Int32 → Option Int32
  | 0, _, _ => none
  | n + 1, v, i => if u1 < i then some v else if i = 0 then none else if u0 - u0 / i * i = 0 then (if u1 - u1 / i * i = 0 then od_g u0 u1 n i (i + 1) else od_g u0 u1 n v (i + 1)) else od_g u0 u1 n v (i + 1)
theorem od_gL (u0 u1 : Int32) (w : fg_W) : ∀ (fu : Nat) (v i r : Int32), od_g u0 u1 fu v i = some r → f_X3_greatestCommon_L4 u0 u1 (fun v2_4 v3_4 w_4 => some (v2_4, w_4)) fu v i w = some (r, w) := by
  intro fu
  induction fu with
  | zero => intro v i r h; cases h
  | succ fu ih =>
    intro v i r h
    rw [od_g] at h
    rw [f_X3_greatestCommon_L4]
    by_cases h1 : u1 < i
    · rw [if_pos h1] at h ⊢; cases h; rfl
    · rw [if_neg h1] at h ⊢
      by_cases h2 : i = 0
      · rw [if_pos h2] at h; cases h
      · rw [if_neg h2] at h
        rw [fg_gp_in h2, fg_gp_in h2]
        by_cases h3 : u0 - u0 / i * i = 0
        · rw [if_pos h3] at h ⊢
          by_cases h4 : u1 - u1 / i * i = 0
          · rw [if_pos h4] at h ⊢; exact ih _ _ r h
          · rw [if_neg h4] at h ⊢; exact ih _ _ r h
        · rw [if_neg h3] at h ⊢; exact ih _ _ r h
theorem od_gmono : ∀ (fu k : Nat) (u0 u1 v i r : Int32), od_g u0 u1 fu v i = some r → od_g u0 u1 (fu + k) v i = some r := by
  intro fu
  induction fu with
  | zero => intro k u0 u1 v i r h; cases h
  | succ fu ih =>
    intro k u0 u1 v i r h
    rw [show fu + 1 + k = (fu + k) + 1 by omega, od_g]
    rw [od_g] at h
    by_cases h1 : u1 < i
    · rw [if_pos h1] at h ⊢; exact h
    · rw [if_neg h1] at h ⊢
      by_cases h2 : i = 0
      · rw [if_pos h2] at h; cases h
      · rw [if_neg h2] at h ⊢
        by_cases h3 : u0 - u0 / i * i = 0
        · rw [if_pos h3] at h ⊢
          by_cases h4 : u1 - u1 / i * i = 0
          · rw [if_pos h4] at h ⊢; exact ih k _ _ _ _ r h
          · rw [if_neg h4] at h ⊢; exact ih k _ _ _ _ r h
        · rw [if_neg h3] at h ⊢; exact ih k _ _ _ _ r h
/-- a power -/
def od_p (u : Int64) : Nat → Int64
  | 0 => 1
  | m + 1 => od_p u m * u
theorem od_pL {t : Nat} (ht : t ≤ 18) (u : Int32) (w : fg_W) (K : Int64 → Int32 → fg_W → Option (Int64 × fg_W)) : ∀ (m j fu : Nat), j + m = t → m < fu → f_X3_odds_L106 (nI t) u K fu (od_p u.toInt64 j) (nI j) w = K (od_p u.toInt64 t) (nI t) w := by
  intro m
  induction m with
  | zero =>
    intro j fu hj hf
    obtain ⟨fu, rfl⟩ : ∃ z, fu = z + 1 := ⟨fu - 1, by omega⟩
    obtain rfl : j = t := by omega
    rw [f_X3_odds_L106, if_pos (nI_le (Nat.le_refl _) (by omega))]
  | succ m ih =>
    intro j fu hj hf
    obtain ⟨fu, rfl⟩ : ∃ z, fu = z + 1 := ⟨fu - 1, by omega⟩
    rw [f_X3_odds_L106, if_neg (nI_ge (by omega) (by omega)), fg_let_eq, nI_1]
    exact ih (j + 1) fu (by omega) (by omega)
theorem od_qL {t : Nat} (ht : t ≤ 18) (u : Int32) (w : fg_W) (K : Int64 → Int64 → Int32 → fg_W → Option (Int64 × fg_W)) : ∀ (m j fu : Nat), j + m = t → m < fu → f_X4_odds_L82 (nI t) u K fu (od_p u.toInt64 j) (od_p 10 j) (nI j) w = K (od_p u.toInt64 t) (od_p 10 t) (nI t) w := by
  intro m
  induction m with
  | zero =>
    intro j fu hj hf
    obtain ⟨fu, rfl⟩ : ∃ z, fu = z + 1 := ⟨fu - 1, by omega⟩
    obtain rfl : j = t := by omega
    rw [f_X4_odds_L82, if_pos (nI_le (Nat.le_refl _) (by omega))]
  | succ m ih =>
    intro j fu hj hf
    obtain ⟨fu, rfl⟩ : ∃ z, fu = z + 1 := ⟨fu - 1, by omega⟩
    rw [f_X4_odds_L82, if_neg (nI_ge (by omega) (by omega)), fg_let_eq, fg_let_eq, nI_1]
    exact ih (j + 1) fu (by omega) (by omega)
/-- the reference's way: the common divisor of the powers -/
def od_e : Nat → Int64 → Int64 → Option Int64
  | 0, _, _ => none
  | n + 1, a, b => if (lg_cmp b 0) = 0 then some a else if b = 0 then none else od_e n b (a - a / b * b)
theorem od_eL (w : fg_W) (K : Int64 → Int64 → fg_W → Option (Int64 × fg_W)) : ∀ (fu : Nat) (a b r : Int64), od_e fu a b = some r → ∃ b', f_X4_odds_L118 K fu a b w = K r b' w := by
  intro fu
  induction fu with
  | zero => intro a b r h; cases h
  | succ fu ih =>
    intro a b r h
    rw [od_e] at h
    rw [f_X4_odds_L118]
    by_cases h1 : (lg_cmp b 0) = 0
    · rw [if_pos h1] at h ⊢; cases h; exact ⟨_, rfl⟩
    · rw [if_neg h1] at h ⊢
      by_cases h2 : b = 0
      · rw [if_pos h2] at h; cases h
      · rw [if_neg h2] at h
        rw [fg_gp_in h2, fg_let_eq]
        exact ih _ _ r h
theorem od_emono : ∀ (fu k : Nat) (a b r : Int64), od_e fu a b = some r → od_e (fu + k) a b = some r := by
  intro fu
  induction fu with
  | zero => intro k a b r h; cases h
  | succ fu ih =>
    intro k a b r h
    rw [show fu + 1 + k = (fu + k) + 1 by omega, od_e]
    rw [od_e] at h
    by_cases h1 : (lg_cmp b 0) = 0
    · rw [if_pos h1] at h ⊢; exact h
    · rw [if_neg h1] at h ⊢
      by_cases h2 : b = 0
      · rw [if_pos h2] at h; cases h
      · rw [if_neg h2] at h ⊢
        exact ih k _ _ r h
def od_G (g : Nat) : Int32 := (od_g (nI g) 10 20 1 2).getD 0
def od_E (g t : Nat) : Int64 := (od_e 90 (od_p (nI g).toInt64 t) (od_p 10 t)).getD 0
theorem od_t1 : ∀ g, g < 11 → od_g (nI g) 10 20 1 2 = some (od_G g) ∧ ¬ od_G g = 0 := by decide +kernel
theorem od_t2 : ∀ g, g < 11 → ∀ t, t < 19 → od_e 90 (od_p (nI g).toInt64 t) (od_p 10 t) = some (od_E g t) ∧ ¬ od_E g t = 0 ∧ od_p (nI g).toInt64 t / od_E g t = od_p (nI g / od_G g).toInt64 t ∧ od_p 10 t / od_E g t = od_p ((10 : Int32) / od_G g).toInt64 t := by decide +kernel
theorem ag.map {α β : Type} {x : Option (α × fg_W)} {m : fg_W → Option (α × fg_W)} (h : ag x m) (f : α → β) : ag (fg_bi x (fun r w => some (f r, w))) (fun w => fg_bi (m w) (fun r w => some (f r, w))) := by
  obtain ⟨r, w1, w2, h1, h2, h3⟩ := h
  exact ⟨f r, w1, w2, by rw [h1, fg_bi_some], by show fg_bi (m w1) _ = _; rw [h2, fg_bi_some], h3⟩
theorem ag_odds {w : fg_W} (h : rr w) (a b c : Int32) : ag (f_X3_odds a b c w) (f_X4_odds a b c) := by
  have h' := h
  obtain ⟨n, h1, h2, h3, h4⟩ := h
  have hN := h2.1
  have h8 := hN.2
  have e4 : ∀ w1 : fg_W, w1.1 4 0 = w.1 4 0 → w1.1 4 0 1 1 = nI n := fun w1 e => by rw [e]; exact h1.1.2.1.trans hN.1
  have fnd : ∀ {x : Option (Int64 × fg_W)} {m : fg_W → Option (Int64 × fg_W)}, x = fg_bi (f_X3_finding 0 w) (fun r w => some (r.toInt64, w)) → (∀ w1 : fg_W, w1.1 4 0 = w.1 4 0 → m w1 = fg_bi (f_X4_no 0 w1) (fun r w => some (r.toInt64, w))) → ag x m := by
    intro x m hx hm
    obtain ⟨r, w1, w2, q1, q2, q3⟩ := ag.find0 h'
    have ew : w1.1 4 0 = w.1 4 0 := by
      have e := (Prod.mk.inj (Option.some.inj ((p_find (c := 0) (by decide) w).symm.trans q1))).2
      rw [← e]
      exact fg_sw_K _ _ _ _ _ _ (by decide)
    exact ⟨r.toInt64, w1, w2, by rw [hx, q1, fg_bi_some], by rw [hm w1 ew, q2, fg_bi_some], q3⟩
  rcases q_per a n h8 with ⟨k, hk, rfl, c1, c2⟩ | ⟨_, c1, c2⟩
  · rcases q_in b 18 18 rfl (by decide) with ⟨t, ht, rfl, s1⟩ | ⟨_, s1⟩
    · rcases q_in c 1 1 rfl (by decide) with ⟨z, hz, rfl, s2⟩ | ⟨_, s2⟩
      · have hk8 : k < 8 := by omega
        have hg := od_n_le (w.1 2 0) n k 10
        obtain ⟨o1, o2⟩ := od_t1 (od_n (w.1 2 0) n k 10) (by omega)
        obtain ⟨o3, o4, o5, o6⟩ := od_t2 (od_n (w.1 2 0) n k 10) (by omega) t (by omega)
        have gc : f_X3_greatestCommon (nI (od_n (w.1 2 0) n k 10)) 10 w = some (od_G (od_n (w.1 2 0) n k 10), w) := od_gL _ _ w fg_fuel _ _ _ (od_gmono 20 980 _ _ _ _ _ o1)
        have P := fun u K => od_pL ht u w K t 0 fg_fuel (by omega) (by unfold fg_fuel; omega)
        have Q := fun K => od_qL ht (nI (od_n (w.1 2 0) n k 10)) w K t 0 fg_fuel (by omega) (by unfold fg_fuel; omega)
        have : z = 0 ∨ z = 1 := by omega
        rcases this with rfl | rfl
        · refine ag.read (r := od_p (nI (od_n (w.1 2 0) n k 10) / od_G (od_n (w.1 2 0) n k 10)).toInt64 t) h' ?_ ?_
          · unfold f_X3_odds
            rw [c1 0 w hN, fg_bi_some, if_neg (by decide), s1, fg_bi_some, if_neg (by decide), s2, fg_bi_some, if_neg (by decide), p_odL hN hk8, gc, fg_bi_some, if_pos (by decide), fg_gp_in o2, fg_let_eq]
            exact P _ _
          · unfold f_X4_odds
            rw [c2 w (e4 w rfl), fg_bi_some, if_neg (by decide), in1_eq, s1, fg_bi_some, if_neg (by decide), s2, fg_bi_some, if_neg (by decide), m_odL h1 hN hk8]
            refine (Q _).trans ?_
            obtain ⟨b', hb'⟩ := od_eL w (fun v9_118 v11_118 w_118 => if nI 0 = 0 then (fg_gp (¬ v9_118 = 0) (some ((od_p (nI (od_n (w.1 2 0) n k 10)).toInt64 t / v9_118), w_118))) else (fg_gp (¬ v9_118 = 0) (some ((od_p 10 t / v9_118), w_118)))) fg_fuel _ _ _ (od_emono 90 910 _ _ _ o3)
            refine hb'.trans ?_
            rw [if_pos (by decide), fg_gp_in o4, o5]
        · refine ag.read (r := od_p ((10 : Int32) / od_G (od_n (w.1 2 0) n k 10)).toInt64 t) h' ?_ ?_
          · unfold f_X3_odds
            rw [c1 0 w hN, fg_bi_some, if_neg (by decide), s1, fg_bi_some, if_neg (by decide), s2, fg_bi_some, if_neg (by decide), p_odL hN hk8, gc, fg_bi_some, if_neg (by decide), fg_gp_in o2, fg_let_eq]
            exact P _ _
          · unfold f_X4_odds
            rw [c2 w (e4 w rfl), fg_bi_some, if_neg (by decide), in1_eq, s1, fg_bi_some, if_neg (by decide), s2, fg_bi_some, if_neg (by decide), m_odL h1 hN hk8]
            refine (Q _).trans ?_
            obtain ⟨b', hb'⟩ := od_eL w (fun v9_118 v11_118 w_118 => if nI 1 = 0 then (fg_gp (¬ v9_118 = 0) (some ((od_p (nI (od_n (w.1 2 0) n k 10)).toInt64 t / v9_118), w_118))) else (fg_gp (¬ v9_118 = 0) (some ((od_p 10 t / v9_118), w_118)))) fg_fuel _ _ _ (od_emono 90 910 _ _ _ o3)
            refine hb'.trans ?_
            rw [if_neg (by decide), fg_gp_in o4, o6]
      · refine fnd ?_ (fun w1 e => ?_)
        · unfold f_X3_odds; rw [c1 0 w hN, fg_bi_some, if_neg (by decide), s1, fg_bi_some, if_neg (by decide), s2, fg_bi_some, if_pos rfl]
        · unfold f_X4_odds; rw [c2 w1 (e4 w1 e), fg_bi_some, if_neg (by decide), in1_eq, s1, fg_bi_some, if_neg (by decide), s2, fg_bi_some, if_pos rfl]
    · refine fnd ?_ (fun w1 e => ?_)
      · unfold f_X3_odds; rw [c1 0 w hN, fg_bi_some, if_neg (by decide), s1, fg_bi_some, if_pos rfl]
      · unfold f_X4_odds; rw [c2 w1 (e4 w1 e), fg_bi_some, if_neg (by decide), in1_eq, s1, fg_bi_some, if_pos rfl]
  · refine fnd ?_ (fun w1 e => ?_)
    · unfold f_X3_odds; rw [c1 0 w hN, fg_bi_some, if_pos rfl]
    · unfold f_X4_odds; rw [c2 w1 (e4 w1 e), fg_bi_some, if_pos rfl]
