-- rentFor
theorem bk_tl_eq {w : fg_W} {A d : Nat → Nat → Int32} {n t c k : Nat} {v : Int32} (ht : t < 900) (h : rm w (bk_set A c k v)) (hI : bk_I (bk_set A c k v) n) : bk_eq (bk_days n (bk_set A c k v) t) (bk_days n (bk_set (bk_bec d A) c k v) t) := bk_th_eq (d := d) ht h hI
theorem p_rentL {n k t o : Nat} {w : fg_W} (hk : k < 10) (ho : o < 8) (ht : t ≤ 40) (h1 : rm w (w.1 2 0)) (hI : ∀ p, p < 21 → bk_I (bk_set (w.1 2 0) 2 k (nI p)) n) : ∀ (m j fu : Nat) (d : Nat → Nat → Int32), j + m = 21 → m < fu → ∃ d', f_X3_rentFor_L59 (nI k) (nI t) (nI o) (fun v4_59 v5_59 v6_59 w_59 => some (v4_59, w_59)) fu (bk_max (fun p => bk_days n (bk_set (w.1 2 0) 2 k (nI p)) t 8 o) 0 (-1) j).1 (bk_max (fun p => bk_days n (bk_set (w.1 2 0) 2 k (nI p)) t 8 o) 0 (-1) j).2 (nI j) (fg_sw w 2 1 d) = some ((bk_max (fun p => bk_days n (bk_set (w.1 2 0) 2 k (nI p)) t 8 o) 0 (-1) 21).1, fg_sw w 2 1 d') := by
  intro m
  induction m with
  | zero =>
    intro j fu d hj hf
    obtain ⟨fu, rfl⟩ : ∃ z, fu = z + 1 := ⟨fu - 1, by omega⟩
    obtain rfl : j = 21 := by omega
    exact ⟨d, by rw [f_X3_rentFor_L59, if_pos (by decide)]⟩
  | succ m ih =>
    intro j fu d hj hf
    obtain ⟨fu, rfl⟩ : ∃ z, fu = z + 1 := ⟨fu - 1, by omega⟩
    have hIj := hI j (by omega)
    have hr := (h1.lot (f := 1) (p := k) (nI j) (by decide) hk)
    have hv : bk_th n t (w.1 2 0) d 2 k (nI j) 8 o = bk_days n (bk_set (w.1 2 0) 2 k (nI j)) t 8 o := bk_th_eq (by omega) hr hIj 8 o (by unfold bk_ok; omega)
    obtain ⟨d', hd⟩ := ih (j + 1) fu (bk_th n t (w.1 2 0) d 2 k (nI j)) (by omega) (by omega)
    refine ⟨d', ?_⟩
    rw [f_X3_rentFor_L59, if_neg (show ¬ (20 : Int32) < nI j from nI_nlt (a := 20) (b := j) (by omega) (by decide)), p_become (by decide), fg_bv_some, fg_sw_at, fg_sw_sw, fg_sw_i _ _ _ _ _ (by decide), fg_gd_nI hk (by decide), fg_let_eq, nI_clamp (show k < 2 ^ 31 by omega), fg_st_set, fg_sw_at, fg_sw_sw, p_days (n := n) (by omega) (by rw [fg_sw_at]; exact bk_th_I hIj), fg_bv_some, fg_sw_at, fg_sw_sw, fg_gd_nI ho (by decide), fg_sw_at, nI_clamp (show o < 2 ^ 31 by omega), show bk_days n (bk_set (bk_bec d (w.1 2 0)) 2 k (nI j)) t = bk_th n t (w.1 2 0) d 2 k (nI j) from rfl, hv, nI_1, ← hd]
    simp only [bk_max, fg_gd_nI ho (show 8 < 2 ^ 31 by decide), fg_let_eq]
    split
    · rfl
    · rfl
theorem m_rentL {n k t o : Nat} {A : Nat → Nat → Int32} (hk : k < 10) (ho : o < 8) (ht : t ≤ 40) (hI : ∀ p, p < 21 → bk_I (bk_set A 2 k (nI p)) n) : ∀ (m j fu : Nat) (w : fg_W), j + m = 21 → m < fu → rm w A → ∃ w', f_X4_rentFor_L46 (nI k) (nI t) (nI o) (fun v4_46 v5_46 v6_46 w_46 => some (v4_46, w_46)) fu (bk_max (fun p => bk_days n (bk_set A 2 k (nI p)) t 8 o) 0 (-1) j).1 (bk_max (fun p => bk_days n (bk_set A 2 k (nI p)) t 8 o) 0 (-1) j).2 (nI j) w = some ((bk_max (fun p => bk_days n (bk_set A 2 k (nI p)) t 8 o) 0 (-1) 21).1, w') ∧ bs w w' := by
  intro m
  induction m with
  | zero =>
    intro j fu w hj hf h
    obtain ⟨fu, rfl⟩ : ∃ z, fu = z + 1 := ⟨fu - 1, by omega⟩
    obtain rfl : j = 21 := by omega
    exact ⟨w, by rw [f_X4_rentFor_L46, if_pos (by decide)], bs.rf w⟩
  | succ m ih =>
    intro j fu w hj hf h
    obtain ⟨fu, rfl⟩ : ∃ z, fu = z + 1 := ⟨fu - 1, by omega⟩
    obtain ⟨w1, a1, a2, a3⟩ := m_think h
    have h1 := a2.lot (f := 1) (p := k) (nI j) (by decide) hk
    obtain ⟨w2, b1, b2, b3⟩ := m_goes (t := t) (by omega) h1 (hI j (by omega))
    obtain ⟨w3, d1, d2⟩ := a3 w2 ((fm.set w1 _ (nI j) (Or.inl rfl)).tr b3)
    obtain ⟨w', e1, e2⟩ := ih (j + 1) fu w3 (by omega) (by omega) (h.bs d2)
    refine ⟨w', ?_, d2.tr e2⟩
    rw [f_X4_rentFor_L46, if_neg (show ¬ (20 : Int32) < nI j from nI_nlt (a := 20) (b := j) (by omega) (by decide)), a1, fg_bv_some, show f_X4_lays1 (nI k) 1 (nI j) w1 = _ from m_lays1 1 (nI j) hk (by decide), fg_bv_some, b1, fg_bv_some, m_get3 b2 ho, fg_bi_some, d1, fg_bv_some, nI_1, ← e1]
    simp only [bk_max]
    by_cases hc : bk_days n (bk_set A 2 k (nI j)) t 8 o ≤ (bk_max (fun p => bk_days n (bk_set A 2 k (nI p)) t 8 o) 0 (-1) j).2
    · rw [if_pos hc, if_pos hc, if_pos hc]
    · rw [if_neg hc, if_neg hc, if_neg hc]
theorem ag_rentFor {w : fg_W} (h : rr w) (a b : Int32) : ag (f_X3_rentFor a b w) (f_X4_rentFor a b) := by
  have h' := h
  obtain ⟨n, h1, h2, h3, h4⟩ := h
  have hN := h2.1
  have h8 := hN.2
  rcases q_lot a with ⟨k, hk, rfl, c1, c2⟩ | ⟨c1, c2⟩
  · rcases q_soon b with ⟨t, ht, rfl, s1, s2⟩ | ⟨s1, s2⟩
    · rcases h2.2.2.1 k hk with ho | ⟨o, ho, eo⟩
      · have hp : f_X2_isPerson 0 (-1) w = some (0, w) := by rw [p_isP hN, if_pos (by decide)]
        refine ag.fnd h' (c := 3) (by decide) ?_ (fun w1 e => ?_)
        · unfold f_X3_rentFor
          rw [c1, fg_bi_some, if_neg (by decide), s1, fg_bi_some, if_neg (by decide), fg_gd_nI hk (by decide), fg_let_eq, nI_clamp (by omega), ho, hp, fg_bi_some, if_pos rfl, fg_bi_id]
          rfl
        · unfold f_X4_rentFor
          rw [c2, fg_bi_some, if_neg (by decide), s2, fg_bi_some, if_neg (by decide), m_owner (h1.of e) hk, fg_bi_some, ho, if_neg (by decide), fg_bi_id]
          rfl
      · have hp : f_X2_isPerson 0 (nI o) w = some (1, w) := by rw [p_isP hN, if_neg (nI_pos (by omega)), if_neg (nI_ge ho (by omega))]
        have hI : ∀ p, p < 21 → bk_I (bk_set (w.1 2 0) 2 k (nI p)) n := fun p hp => h2.set (by decide) (fun _ => ⟨p, by omega, rfl⟩) (by omega) (by omega) (by omega) (by omega) (by omega) (by omega) (by omega)
        obtain ⟨d', hd⟩ := p_rentL (w := w) hk (show o < 8 by omega) ht h1 hI 21 0 fg_fuel (w.1 2 1) (by omega) (by unfold fg_fuel; omega)
        rw [fg_sw_id, nI_0] at hd
        refine ag.ask h' (r := (bk_max (fun p => bk_days n (bk_set (w.1 2 0) 2 k (nI p)) t 8 o) 0 (-1) 21).1) (d := d') ?_ ?_
        · unfold f_X3_rentFor
          rw [c1, fg_bi_some, if_neg (by decide), s1, fg_bi_some, if_neg (by decide), fg_gd_nI hk (by decide), fg_let_eq, nI_clamp (by omega), eo, hp, fg_bi_some, if_neg (by decide)]
          exact hd
        · have g := h1.own 2 1 d' (by decide)
          obtain ⟨w2, b1, b2⟩ := m_rentL (A := w.1 2 0) hk (show o < 8 by omega) ht hI 21 0 fg_fuel _ (by omega) (by unfold fg_fuel; omega) g
          refine ⟨w2, ?_, b2⟩
          unfold f_X4_rentFor
          rw [c2, fg_bi_some, if_neg (by decide), s2, fg_bi_some, if_neg (by decide), m_owner g hk, fg_bi_some, eo, if_pos (nI_pos' (by omega))]
          exact b1
    · refine ag.fnd0 h' ?_ (fun w1 e => ?_)
      · unfold f_X3_rentFor; rw [c1, fg_bi_some, if_neg (by decide), s1, fg_bi_some, if_pos rfl, fg_bi_id]
      · unfold f_X4_rentFor; rw [c2, fg_bi_some, if_neg (by decide), s2, fg_bi_some, if_pos rfl, fg_bi_id]
  · refine ag.fnd0 h' ?_ (fun w1 e => ?_)
    · unfold f_X3_rentFor; rw [c1, fg_bi_some, if_pos rfl, fg_bi_id]
    · unfold f_X4_rentFor; rw [c2, fg_bi_some, if_pos rfl, fg_bi_id]
-- sunFor
def bk_suns (v : Int32) (A : Nat → Nat → Int32) : Nat → Nat → Int32 := bk_it (fun B j => bk_set B 4 j v) A 0 6
theorem bk_eq.it {f : (Nat → Nat → Int32) → Nat → Nat → Nat → Int32} (hf : ∀ A B j, bk_eq A B → bk_eq (f A j) (f B j)) : ∀ (m j : Nat) (A B : Nat → Nat → Int32), bk_eq A B → bk_eq (bk_it f A j m) (bk_it f B j m) := by
  intro m
  induction m with
  | zero => intro j A B h; exact h
  | succ m ih => intro j A B h; exact ih (j + 1) _ _ (hf A B j h)
theorem bk_I.suns {A : Nat → Nat → Int32} {n : Nat} (h : bk_I A n) (v : Int32) : bk_I (bk_suns v A) n :=
  bk_it_keep (P := fun B => bk_I B n) 6 0 _ (fun B k _ _ hB => hB.set (by decide) (by omega) (by omega) (by omega) (by omega) (by omega) (by omega) (by omega) (by omega)) h
theorem bk_suns_9 (v : Int32) (A : Nat → Nat → Int32) (q : Nat) : bk_suns v A 9 q = A 9 q :=
  bk_it_keep (P := fun B => B 9 q = A 9 q) 6 0 A (fun B k _ _ hB => by rw [bk_nc _ _ (by decide)]; exact hB) rfl
theorem p_sunsL {v : Int32} (K : Int32 → fg_W → Option (Int32 × fg_W)) : ∀ (m j fu : Nat) (w : fg_W), j + m = 6 → m < fu → f_X3_sunFor_L55 v K fu (nI j) w = K (nI 6) (fg_sw w 2 1 (bk_it (fun B j => bk_set B 4 j v) (w.1 2 1) j m)) := by
  intro m
  induction m with
  | zero =>
    intro j fu w hj hf
    obtain ⟨fu, rfl⟩ : ∃ z, fu = z + 1 := ⟨fu - 1, by omega⟩
    obtain rfl : j = 6 := by omega
    rw [f_X3_sunFor_L55, if_pos (by decide)]
    show _ = K (nI 6) (fg_sw w 2 1 (w.1 2 1))
    rw [fg_sw_id]
  | succ m ih =>
    intro j fu w hj hf
    obtain ⟨fu, rfl⟩ : ∃ z, fu = z + 1 := ⟨fu - 1, by omega⟩
    rw [f_X3_sunFor_L55, if_neg (show ¬ (6 : Int32) ≤ nI j from nI_ge (a := j) (b := 6) (by omega) (by decide)), fg_gd_nI (show j < 6 by omega) (by decide), fg_let_eq, nI_clamp (by omega), fg_st_set, nI_1, ih (j + 1) fu _ (by omega) (by omega), fg_sw_at, fg_sw_sw]
    rfl
theorem m_sunsL {v : Int32} (K : Int32 → fg_W → Option (Int32 × fg_W)) : ∀ (m j fu : Nat) (w : fg_W) (A : Nat → Nat → Int32), j + m = 6 → m < fu → rm w A → ∃ w', f_X4_fellBy_L6 v K fu (nI j) w = K (nI 6) w' ∧ rm w' (bk_it (fun B j => bk_set B 4 j v) A j m) ∧ fm w w' := by
  intro m
  induction m with
  | zero =>
    intro j fu w A hj hf h
    obtain ⟨fu, rfl⟩ : ∃ z, fu = z + 1 := ⟨fu - 1, by omega⟩
    obtain rfl : j = 6 := by omega
    exact ⟨w, by rw [f_X4_fellBy_L6, if_pos (by decide)], h, fm.rf w⟩
  | succ m ih =>
    intro j fu w A hj hf h
    obtain ⟨fu, rfl⟩ : ∃ z, fu = z + 1 := ⟨fu - 1, by omega⟩
    obtain ⟨w', a1, a2, a3⟩ := ih (j + 1) fu _ _ (by omega) (by omega) (h.sun (q := j) v (by omega))
    refine ⟨w', ?_, a2, (fm.set w _ v (Or.inl rfl)).tr a3⟩
    rw [f_X4_fellBy_L6, if_neg (show ¬ (6 : Int32) ≤ nI j from nI_ge (a := j) (b := 6) (by omega) (by decide)), show (4 : Int32) + nI j = nI (4 + j) from nI_add 4 j, fg_gd_nI (show 4 + j < 90 by omega) (by decide), fg_let_eq, nI_clamp (by omega), fg_st_set, nI_1, a1]
theorem rm.suns {w : fg_W} {A : Nat → Nat → Int32} (h : rm w A) (v : Int32) : ∃ w', rm w' (bk_suns v A) := by
  obtain ⟨w', _, a2, _⟩ := m_sunsL (v := v) (fun _ _ => none) 6 0 10 w A (by omega) (by omega) h
  exact ⟨w', a2⟩
theorem bk_sum_eq {f g : Nat → Int32} : ∀ n, (∀ j, j < n → f j = g j) → bk_sum f n = bk_sum g n := by
  intro n
  induction n with
  | zero => intro _; rfl
  | succ n ih => intro h; rw [bk_sum, bk_sum, ih (fun j hj => h j (by omega)), h n (by omega)]
theorem bk_sum_ge {A B : Nat → Nat → Int32} (h : bk_ge A B) : ∀ n, n ≤ 8 → ∃ a b, a ≤ b ∧ b ≤ 9999 * n ∧ bk_sum (A 9) n = nI a ∧ bk_sum (B 9) n = nI b := by
  intro n
  induction n with
  | zero => intro _; exact ⟨0, 0, Nat.le_refl _, by omega, rfl, rfl⟩
  | succ n ih =>
    intro hn
    obtain ⟨a, b, h1, h2, h3, h4⟩ := ih (by omega)
    obtain ⟨a', b', g1, g2, g3, g4⟩ := h n (by omega)
    refine ⟨a + a', b + b', by omega, by omega, ?_, ?_⟩
    · rw [bk_sum, h3, g3, nI_add]
    · rw [bk_sum, h4, g4, nI_add]
theorem p_sunI {n t : Nat} {w : fg_W} (hN : bk_N (w.1 2 0) n) (K : Int32 → fg_W → Option (Int32 × fg_W)) (ht : t ≤ 40) : ∀ (m j fu : Nat) (B : Nat → Nat → Int32), j + m = t → m < fu → bk_I B n → bk_ge (w.1 2 0) B → ∃ d v, f_X3_sunFor_L82 (nI t) (bk_sum (w.1 2 0 9) n) K fu (nI j) (fg_sw w 2 1 B) = K v (fg_sw w 2 1 d) ∧ bk_N d n ∧ (bk_sum (d 9) n = bk_sum (w.1 2 0 9) n ↔ bk_sum (bk_days n B m 9) n = bk_sum (w.1 2 0 9) n) := by
  intro m
  induction m with
  | zero =>
    intro j fu B hj hf hI hg
    obtain ⟨fu, rfl⟩ : ∃ z, fu = z + 1 := ⟨fu - 1, by omega⟩
    obtain rfl : j = t := by omega
    exact ⟨B, nI j, by rw [f_X3_sunFor_L82, if_pos (nI_le (Nat.le_refl _) (by omega))], hI.1, Iff.rfl⟩
  | succ m ih =>
    intro j fu B hj hf hI hg
    obtain ⟨fu, rfl⟩ : ∃ z, fu = z + 1 := ⟨fu - 1, by omega⟩
    have h8 := hN.2
    rw [f_X3_sunFor_L82, if_neg (nI_ge (by omega) (by omega)), fg_sw_at, hI.1.1, p_sum (K := 2) (i := 1) (b := 9) (n := 8) (t := n) h8 (by decide), fg_bi_some, fg_sw_at]
    by_cases hP : bk_sum (B 9) n = bk_sum (w.1 2 0 9) n
    · obtain ⟨d, v, h1, h2⟩ := ih (j + 1) fu (bk_day n B) (by omega) (by omega) (bk_I_day hI) (hg.tr (bk_ge_day hI))
      refine ⟨d, v, ?_, h2⟩
      rw [if_pos hP, p_day1 (n := n) (by rw [fg_sw_at]; exact hI), fg_bv_some, fg_sw_at, fg_sw_sw, nI_1, h1]
    · refine ⟨B, nI j, by rw [if_neg hP], hI.1, ?_⟩
      refine ⟨fun z => absurd z hP, fun z => ?_⟩
      obtain ⟨a, b, g1, g2, g3, g4⟩ := bk_sum_ge hg n h8
      obtain ⟨b', c, f1, f2, f3, f4⟩ := bk_sum_ge (bk_ge_days (m + 1) B hI) n h8
      have e1 : b = b' := (nI_eq (by omega) (by omega)).mp (g4.symm.trans f3)
      have e2 : c = a := (nI_eq (by omega) (by omega)).mp (f4.symm.trans (z.trans g3))
      exact absurd (by rw [g4, g3]; congr 1; omega) hP
def bk_sv : Nat → Int32
  | 0 => -1
  | m + 1 => nI m
theorem bk_sv_m1 (m : Nat) : nI m + (-1) = bk_sv m := by
  cases m with
  | zero => rfl
  | succ m => exact pk_m1 m
def bk_dn (P : Nat → Bool) : Nat → Nat
  | 0 => 0
  | m + 1 => if P m then m + 1 else bk_dn P m
theorem p_sunL {n t : Nat} {w : fg_W} (ht : t ≤ 40) (h1 : rm w (w.1 2 0)) (h0 : bk_I (w.1 2 0) n) (K : Int32 → fg_W → Option (Int32 × fg_W)) : ∀ (m fu : Nat) (d : Nat → Nat → Int32), m ≤ 41 → m < fu → ∃ d', f_X3_sunFor_L37 (nI t) (bk_sum (w.1 2 0 9) n) K fu (bk_sv m) (fg_sw w 2 1 d) = if 0 < bk_dn (fun p => decide (bk_sum (bk_days n (bk_suns (nI p) (w.1 2 0)) t 9) n = bk_sum (w.1 2 0 9) n)) m then some (bk_sv (bk_dn (fun p => decide (bk_sum (bk_days n (bk_suns (nI p) (w.1 2 0)) t 9) n = bk_sum (w.1 2 0 9) n)) m), fg_sw w 2 1 d') else K (-1) (fg_sw w 2 1 d') := by
  have h8 := h0.1.2
  intro m
  induction m with
  | zero =>
    intro fu d hm hf
    obtain ⟨fu, rfl⟩ : ∃ z, fu = z + 1 := ⟨fu - 1, by omega⟩
    exact ⟨d, by rw [f_X3_sunFor_L37, bk_sv, if_pos (by decide), bk_dn, if_neg (by omega)]⟩
  | succ m ih =>
    intro fu d hm hf
    obtain ⟨fu, rfl⟩ : ∃ z, fu = z + 1 := ⟨fu - 1, by omega⟩
    have hIb : bk_I (bk_bec d (w.1 2 0)) n := h0.eq (bk_bec_eq d (w.1 2 0))
    have hIs := hIb.suns (nI m)
    obtain ⟨wr, hr⟩ := h1.suns (nI m)
    have hv : bk_eq (bk_days n (bk_suns (nI m) (w.1 2 0)) t) (bk_days n (bk_suns (nI m) (bk_bec d (w.1 2 0))) t) := bk_days_eq (by omega) hr (h0.suns (nI m)) (bk_eq.it (fun A B j e => e.set 4 j (nI m)) 6 0 _ _ (bk_bec_eq d (w.1 2 0)))
    have hs : bk_sum (bk_days n (bk_suns (nI m) (bk_bec d (w.1 2 0))) t 9) n = bk_sum (bk_days n (bk_suns (nI m) (w.1 2 0)) t 9) n := bk_sum_eq n (fun j hj => hv 9 j (by unfold bk_ok; omega))
    have hg : bk_ge (w.1 2 0) (bk_suns (nI m) (bk_bec d (w.1 2 0))) := (bk_ge.rf h0).to (fun q hq => by rw [bk_suns_9]; exact bk_bec_eq d (w.1 2 0) 9 q (by unfold bk_ok; omega))
    obtain ⟨d2, v, a1, a3, a2⟩ := p_sunI (n := n) (t := t) (w := w) h0.1 (fun v4_82 w_82 => fg_bi (f_X3_sumOf 2 1 9 8 (w_82.1 2 1 0 5) w_82) (fun r14 w12 => if r14 = bk_sum (w.1 2 0 9) n then (some (nI m, w12)) else ((f_X3_sunFor_L37 (nI t) (bk_sum (w.1 2 0 9) n) K fu (nI m + (-1)) w12)))) ht t 0 fg_fuel (bk_suns (nI m) (bk_bec d (w.1 2 0))) (by omega) (by unfold fg_fuel; omega) hIs hg
    rw [hs] at a2
    obtain ⟨d', hd⟩ := ih fu d2 (by omega) (by omega)
    rw [f_X3_sunFor_L37, bk_sv, if_neg (nI_pos (by omega)), p_become (by decide), fg_bv_some, fg_sw_at, fg_sw_i _ _ _ _ _ (by decide)]
    have s1 := p_sunsL (v := nI m) (fun v4_55 w_55 => f_X3_sunFor_L82 (nI t) (bk_sum (w.1 2 0 9) n) (fun v4_82 w_82 => fg_bi (f_X3_sumOf 2 1 9 8 (w_82.1 2 1 0 5) w_82) (fun r14 w12 => if r14 = bk_sum (w.1 2 0 9) n then (some (nI m, w12)) else ((f_X3_sunFor_L37 (nI t) (bk_sum (w.1 2 0 9) n) K fu (nI m + (-1)) w12)))) fg_fuel 0 w_55) 6 0 fg_fuel (fg_sw w 2 1 (bk_bec d (w.1 2 0))) (by omega) (by unfold fg_fuel; omega)
    rw [fg_sw_at, fg_sw_sw, nI_0] at s1
    rw [nI_0] at a1
    rw [fg_sw_sw, s1]
    rw [show bk_it (fun B j => bk_set B 4 j (nI m)) (bk_bec d (w.1 2 0)) 0 6 = bk_suns (nI m) (bk_bec d (w.1 2 0)) from rfl, a1, fg_sw_at, a3.1, p_sum (K := 2) (i := 1) (b := 9) (n := 8) (t := n) h8 (by decide), fg_bi_some, fg_sw_at, bk_dn]
    by_cases hP : bk_sum (bk_days n (bk_suns (nI m) (w.1 2 0)) t 9) n = bk_sum (w.1 2 0 9) n
    · refine ⟨d2, ?_⟩
      rw [if_pos (a2.mpr hP)]
      simp only [hP, decide_true, if_true]
      rw [if_pos (by omega)]
      rfl
    · refine ⟨d', ?_⟩
      rw [if_neg (fun z => hP (a2.mp z)), bk_sv_m1, hd]
      simp [hP]
theorem m_fell {w : fg_W} {A : Nat → Nat → Int32} {n t : Nat} (h : rm w A) (hI : bk_I A n) (ht : t ≤ 40) (v : Int32) : ∃ w', f_X4_fellBy v (nI t) w = some (bk_sum (bk_days n (bk_suns v A) t 9) n, w') ∧ bs w w' := by
  obtain ⟨w1, a1, a2, a3⟩ := m_think h
  obtain ⟨w2, b1, b2, b3⟩ := m_sunsL (v := v) (fun v3_6 w_6 => fg_bv (f_X4_goes (nI t) w_6) (fun w3 => fg_bi (f_X4_sumOf 4 w3) (fun r7 w5 => fg_bv (f_X4_laysBack  w5) (fun w8 => some (r7, w8))))) 6 0 fg_fuel w1 A (by omega) (by unfold fg_fuel; omega) a2
  obtain ⟨w3, c1, c2, c3⟩ := m_goes (t := t) (by omega) b2 (hI.suns v)
  obtain ⟨w4, d1, d2⟩ := a3 w3 (b3.tr c3)
  refine ⟨w4, ?_, d2⟩
  unfold f_X4_fellBy
  rw [nI_0] at b1
  rw [a1, fg_bv_some, b1, c1, fg_bv_some, show f_X4_sumOf 4 w3 = _ from m_sum (f := 4) c2 (bk_I_days t _ (hI.suns v)).1 (by decide), fg_bi_some, d1, fg_bv_some]
  rfl
theorem m_sunL {n t : Nat} {A : Nat → Nat → Int32} (ht : t ≤ 40) (hI : bk_I A n) : ∀ (m fu : Nat) (w : fg_W), m ≤ 41 → m < fu → rm w A → ∃ w', bs w w' ∧ f_X4_sunFor_L16 (nI t) (fun v2_16 w_16 => if 0 ≤ v2_16 then (some (v2_16, w_16)) else (fg_bi (f_X4_no 3 w_16) (fun r6 w4 => some (r6, w4)))) fu (bk_sv m) w = if 0 < bk_dn (fun p => decide (bk_sum (bk_days n (bk_suns (nI p) A) t 9) n = bk_sum (A 9) n)) m then some (bk_sv (bk_dn (fun p => decide (bk_sum (bk_days n (bk_suns (nI p) A) t 9) n = bk_sum (A 9) n)) m), w') else f_X4_no 3 w' := by
  intro m
  induction m with
  | zero =>
    intro fu w hm hf h
    obtain ⟨fu, rfl⟩ : ∃ z, fu = z + 1 := ⟨fu - 1, by omega⟩
    exact ⟨w, bs.rf w, by rw [f_X4_sunFor_L16, bk_sv, if_pos (by decide), if_neg (by decide), bk_dn, if_neg (by omega), fg_bi_id]⟩
  | succ m ih =>
    intro fu w hm hf h
    obtain ⟨fu, rfl⟩ : ∃ z, fu = z + 1 := ⟨fu - 1, by omega⟩
    obtain ⟨w1, a1, a2⟩ := m_fell h hI ht (nI m)
    obtain ⟨w', b2, b1⟩ := ih fu w1 (by omega) (by omega) (h.bs a2)
    rw [f_X4_sunFor_L16, bk_sv, if_neg (nI_pos (by omega)), a1, fg_bi_some, show f_X4_sumOf 4 w1 = _ from m_sum (f := 4) (h.bs a2) hI.1 (by decide), fg_bi_some, bk_dn]
    by_cases hP : bk_sum (bk_days n (bk_suns (nI m) A) t 9) n = bk_sum (A 9) n
    · refine ⟨w1, a2, ?_⟩
      rw [if_pos hP, if_pos (nI_pos' (by omega))]
      simp only [hP, decide_true, if_true]
      rw [if_pos (by omega)]
      rfl
    · refine ⟨w', a2.tr b2, ?_⟩
      rw [if_neg hP, bk_sv_m1, b1]
      simp [hP]
theorem ag_sunFor {w : fg_W} (h : rr w) (b : Int32) : ag (f_X3_sunFor b w) (f_X4_sunFor b) := by
  have h' := h
  obtain ⟨n, h1, h2, h3, h4⟩ := h
  have hN := h2.1
  have h8 := hN.2
  rcases q_soon b with ⟨t, ht, rfl, s1, s2⟩ | ⟨s1, s2⟩
  · refine ag.srch (c := 0 < bk_dn (fun p => decide (bk_sum (bk_days n (bk_suns (nI p) (w.1 2 0)) t 9) n = bk_sum (w.1 2 0 9) n)) 41) (r := bk_sv (bk_dn (fun p => decide (bk_sum (bk_days n (bk_suns (nI p) (w.1 2 0)) t 9) n = bk_sum (w.1 2 0 9) n)) 41)) h' ?_ (fun w1 e => ?_)
    · obtain ⟨d', hd⟩ := p_sunL (w := w) ht h1 h2 (fun v3_37 w_37 => fg_bi (f_X3_finding 3 w_37) (fun r9 w7 => some (r9, w7))) 41 fg_fuel (w.1 2 1) (by omega) (by unfold fg_fuel; omega)
      rw [fg_sw_id] at hd
      refine ⟨d', ?_⟩
      unfold f_X3_sunFor
      rw [s1, fg_bi_some, if_neg (by decide), hN.1, p_sum (K := 2) (i := 0) (b := 9) (n := 8) (t := n) h8 (by decide), fg_bi_some, show (40 : Int32) = bk_sv 41 from rfl, hd, fg_bi_id]
    · obtain ⟨w2, b1, b2⟩ := m_sunL (A := w.1 2 0) ht h2 41 fg_fuel w1 (by omega) (by unfold fg_fuel; omega) (h1.of e)
      refine ⟨w2, b1, ?_⟩
      unfold f_X4_sunFor
      rw [s2, fg_bi_some, if_neg (by decide), show (40 : Int32) = bk_sv 41 from rfl, b2]
  · refine ag.fnd0 h' ?_ (fun w1 e => ?_)
    · unfold f_X3_sunFor; rw [s1, fg_bi_some, if_pos rfl, fg_bi_id]
    · unfold f_X4_sunFor; rw [s2, fg_bi_some, if_pos rfl, fg_bi_id]
-- as
def un_k (v : Int32) : Int32 := if v = 1 then 0 else if v = 2 then 0 else if v = 3 then 2 else if v = 4 then 3 else if v = 5 then 0 else if v = 6 then 1 else -1
def un_c : Nat → Int32 → Int32 → Int32 → Option Int32
  | 0, _, _, _ => none
  | n + 1, u, v, i => if 7 ≤ i then some v else if v = u then some v else if v < 0 then some v else un_c n u (un_k v) (i + 1)
def un_a (v : Int32) : Int32 := if v = 3 then 2 else if v = 4 then 3 else if v = 6 then 1 else 0
def un_b : Nat → Int32 → Int32 → Option Int32
  | 0, _, _ => none
  | n + 1, u, v => if v = u then some v else if v = 0 then some v else un_b n u (un_a v)
theorem p_above (v : Int32) (w : fg_W) : f_X3_kindAbove v w = some (un_k v, w) := by
  unfold f_X3_kindAbove un_k
  repeat' (first | split | rfl)
theorem m_above (v : Int32) (w : fg_W) : f_X4_above v w = some (un_a v, w) := by
  unfold f_X4_above un_a
  repeat' (first | split | rfl)
theorem un_mono : ∀ (fu k : Nat) (u v i r : Int32), un_c fu u v i = some r → un_c (fu + k) u v i = some r := by
  intro fu
  induction fu with
  | zero => intro k u v i r h; cases h
  | succ fu ih =>
    intro k u v i r h
    rw [show fu + 1 + k = (fu + k) + 1 by omega, un_c]
    rw [un_c] at h
    by_cases h1 : 7 ≤ i
    · rw [if_pos h1] at h ⊢; exact h
    · rw [if_neg h1] at h ⊢
      by_cases h2 : v = u
      · rw [if_pos h2] at h ⊢; exact h
      · rw [if_neg h2] at h ⊢
        by_cases h3 : v < 0
        · rw [if_pos h3] at h ⊢; exact h
        · rw [if_neg h3] at h ⊢; exact ih k _ _ _ r h
theorem un_bmono : ∀ (fu k : Nat) (u v r : Int32), un_b fu u v = some r → un_b (fu + k) u v = some r := by
  intro fu
  induction fu with
  | zero => intro k u v r h; cases h
  | succ fu ih =>
    intro k u v r h
    rw [show fu + 1 + k = (fu + k) + 1 by omega, un_b]
    rw [un_b] at h
    by_cases h2 : v = u
    · rw [if_pos h2] at h ⊢; exact h
    · rw [if_neg h2] at h ⊢
      by_cases h3 : v = 0
      · rw [if_pos h3] at h ⊢; exact h
      · rw [if_neg h3] at h ⊢; exact ih k _ _ r h
theorem un_L (u : Int32) (w : fg_W) : ∀ (fu : Nat) (v i r : Int32), un_c fu u v i = some r → f_X3_isUnder_L4 u (fun v2_4 v3_4 w_4 => if v2_4 = u then (some (1, w_4)) else (some (0, w_4))) fu v i w = some (if r = u then 1 else 0, w) := by
  intro fu
  induction fu with
  | zero => intro v i r h; cases h
  | succ fu ih =>
    intro v i r h
    rw [un_c] at h
    rw [f_X3_isUnder_L4]
    have fin : some v = some r → (if v = u then (some ((1 : Int32), w)) else (some (0, w))) = some (if r = u then 1 else 0, w) := fun e => by cases e; split <;> rfl
    by_cases h1 : 7 ≤ i
    · rw [if_pos h1] at h ⊢; exact fin h
    · rw [if_neg h1] at h ⊢
      by_cases h2 : v = u
      · rw [if_pos h2] at h; rw [if_pos h2]; exact fin h
      · rw [if_neg h2] at h; rw [if_neg h2]
        by_cases h3 : v < 0
        · rw [if_pos h3] at h; rw [if_pos h3]; exact fin h
        · rw [if_neg h3] at h; rw [if_neg h3, p_above, fg_bi_some]; exact ih _ _ r h
theorem un_M (u : Int32) (w : fg_W) (K : Int32 → fg_W → Option (Int32 × fg_W)) : ∀ (fu : Nat) (v r : Int32), un_b fu u v = some r → f_X4_as_L51 u K fu v w = K r w := by
  intro fu
  induction fu with
  | zero => intro v r h; cases h
  | succ fu ih =>
    intro v r h
    rw [un_b] at h
    rw [f_X4_as_L51]
    by_cases h2 : v = u
    · rw [if_pos h2] at h ⊢; cases h; rfl
    · rw [if_neg h2] at h ⊢
      by_cases h3 : v = 0
      · rw [if_pos h3] at h ⊢; cases h; rfl
      · rw [if_neg h3] at h ⊢; rw [m_above, fg_bi_some]; exact ih _ r h
theorem un_t : ∀ q, q < 7 → ∀ r, r < 7 → (un_c 9 (nI r) (nI q) 0).isSome = true ∧ (un_b 9 (nI r) (nI q)).isSome = true ∧ (un_c 9 (nI r) (nI q) 0).map (fun x => decide (x = nI r)) = (un_b 9 (nI r) (nI q)).map (fun x => decide (x = nI r)) := by decide +kernel
theorem un_q {q r : Nat} (hq : q ≤ 6) (hr : r ≤ 6) : ∃ (c : Prop) (_ : Decidable c), (∀ w, f_X3_isUnder (nI q) (nI r) w = some (if c then 1 else 0, w)) ∧ ∃ y, (y = nI r ↔ c) ∧ ∀ (w : fg_W) K, f_X4_as_L51 (nI r) K fg_fuel (nI q) w = K y w := by
  obtain ⟨t1, t2, t3⟩ := un_t q (by omega) r (by omega)
  obtain ⟨x, hx⟩ := Option.isSome_iff_exists.mp t1
  obtain ⟨y, hy⟩ := Option.isSome_iff_exists.mp t2
  rw [hx, hy] at t3
  have t4 : decide (x = nI r) = decide (y = nI r) := Option.some.inj t3
  refine ⟨x = nI r, inferInstance, fun w => ?_, y, ?_, fun w K => ?_⟩
  · exact un_L (nI r) w fg_fuel _ _ x (un_mono 9 991 _ _ _ _ hx)
  · exact ⟨fun e => of_decide_eq_true (t4.trans (decide_eq_true e)), fun e => of_decide_eq_true (t4.symm.trans (decide_eq_true e))⟩
  · exact un_M (nI r) w K fg_fuel _ y (un_bmono 9 991 _ _ _ hy)
theorem ag_as {w : fg_W} (h : rr w) (a b : Int32) : ag (f_X3_as a b w) (f_X4_as a b) := by
  have h' := h
  obtain ⟨n, h1, h2, h3, h4⟩ := h
  have hN := h2.1
  have h8 := hN.2
  rcases q_in a 9 9 rfl (by decide) with ⟨j, hj, rfl, hw⟩ | ⟨_, hw⟩
  · have hs : ∀ w, f_X4_isSpot (nI j) w = some (1, w) := fun w => by unfold f_X4_isSpot; rw [in1_eq, hw, fg_bi_some, fg_gp_in (by decide)]
    rcases q_kind b with ⟨r, hr, rfl, k1, k2⟩ | ⟨_, k1, k2⟩
    · have e8 : (80 : Int32) + nI j = nI (80 + j) := nI_add 80 j
      have sp : ∀ w1 : fg_W, w1.1 4 0 = w.1 4 0 → w1.1 4 0 1 (80 + j) = w.1 2 0 10 j := fun w1 e => by rw [e]; exact h1.2.2.2.2 j (by omega)
      rcases h2.2.2.2.2.2.2.2.2.2 j (by omega) with ho | ⟨o, ho, eo⟩
      · have hp : f_X2_isPerson 0 (-1) w = some (0, w) := by rw [p_isP hN, if_pos (by decide)]
        refine ag.fnd h' (c := 5) (by decide) ?_ (fun w1 e => ?_)
        · unfold f_X3_as
          rw [hw, fg_bi_some, if_neg (by decide), k1, fg_bi_some, if_neg (by decide), fg_gd_nI (show j < 10 by omega) (by decide), fg_let_eq, nI_clamp (by omega), ho, hp, fg_bi_some, if_pos rfl, fg_bi_id]
          rfl
        · unfold f_X4_as
          rw [hs, fg_bi_some, if_neg (by decide), in1_eq, k2, fg_bi_some, if_neg (by decide), e8, fg_gd_nI (show 80 + j < 90 by omega) (by decide), fg_let_eq, nI_clamp (by omega), sp w1 e, ho, if_neg (by decide), fg_bi_id]
          rfl
      · have ho8 : o < 8 := by omega
        have hp : f_X2_isPerson 0 (nI o) w = some (1, w) := by rw [p_isP hN, if_neg (nI_pos (by omega)), if_neg (nI_ge ho (by omega))]
        obtain ⟨q, hq, eq⟩ := h2.2.2.2.2.1 o ho8
        obtain ⟨c, hdc, u1, y, u2, u3⟩ := un_q hq hr
        by_cases hc : c
        · refine ag.read (r := nI o) h' ?_ ?_
          · unfold f_X3_as
            rw [hw, fg_bi_some, if_neg (by decide), k1, fg_bi_some, if_neg (by decide), fg_gd_nI (show j < 10 by omega) (by decide), fg_let_eq, nI_clamp (by omega), eo, hp, fg_bi_some, if_neg (by decide), fg_gd_nI ho8 (by decide), nI_clamp (by omega), eq, u1, fg_bi_some, if_pos hc, if_neg (by decide)]
          · unfold f_X4_as
            rw [hs, fg_bi_some, if_neg (by decide), in1_eq, k2, fg_bi_some, if_neg (by decide), e8, fg_gd_nI (show 80 + j < 90 by omega) (by decide), fg_let_eq, nI_clamp (by omega), sp w rfl, eo, if_pos (nI_pos' (by omega)), m_get0 h1 ho8, fg_bi_some, eq, u3, if_pos (u2.mpr hc)]
        · refine ag.fnd h' (c := 2) (by decide) ?_ (fun w1 e => ?_)
          · unfold f_X3_as
            rw [hw, fg_bi_some, if_neg (by decide), k1, fg_bi_some, if_neg (by decide), fg_gd_nI (show j < 10 by omega) (by decide), fg_let_eq, nI_clamp (by omega), eo, hp, fg_bi_some, if_neg (by decide), fg_gd_nI ho8 (by decide), nI_clamp (by omega), eq, u1, fg_bi_some, if_neg hc, if_pos rfl, fg_bi_id]
            rfl
          · unfold f_X4_as
            rw [hs, fg_bi_some, if_neg (by decide), in1_eq, k2, fg_bi_some, if_neg (by decide), e8, fg_gd_nI (show 80 + j < 90 by omega) (by decide), fg_let_eq, nI_clamp (by omega), sp w1 e, eo, if_pos (nI_pos' (by omega)), m_get0 (h1.of e) ho8, fg_bi_some, eq, u3, if_neg (fun z => hc (u2.mp z)), fg_bi_id]
            rfl
    · refine ag.fnd0 h' ?_ (fun w1 e => ?_)
      · unfold f_X3_as; rw [hw, fg_bi_some, if_neg (by decide), k1, fg_bi_some, if_pos rfl, fg_bi_id]
      · unfold f_X4_as; rw [hs, fg_bi_some, if_neg (by decide), in1_eq, k2, fg_bi_some, if_pos rfl, fg_bi_id]
  · have hs : ∀ w, f_X4_isSpot a w = some (0, w) := fun w => by unfold f_X4_isSpot; rw [in1_eq, hw, fg_bi_some, fg_gp_in (by decide)]
    refine ag.fnd0 h' ?_ (fun w1 e => ?_)
    · unfold f_X3_as; rw [hw, fg_bi_some, if_pos rfl, fg_bi_id]
    · unfold f_X4_as; rw [hs, fg_bi_some, if_pos rfl, fg_bi_id]
