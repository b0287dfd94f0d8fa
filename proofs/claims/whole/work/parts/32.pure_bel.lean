/-- falls only grow -/
def bk_ge (A B : Nat → Nat → Int32) : Prop := ∀ k, k < 8 → ∃ a b, a ≤ b ∧ b ≤ 9999 ∧ A 9 k = nI a ∧ B 9 k = nI b
theorem bk_ge.rf {A : Nat → Nat → Int32} {n : Nat} (h : bk_I A n) : bk_ge A A := fun k hk => by
  obtain ⟨b, hb, e⟩ := h.2.2.2.2.2.2.2.1 k hk
  exact ⟨b, b, Nat.le_refl _, hb, e, e⟩
theorem bk_ge.tr {A B C : Nat → Nat → Int32} (h : bk_ge A B) (g : bk_ge B C) : bk_ge A C := fun k hk => by
  obtain ⟨a, b, h1, h2, h3, h4⟩ := h k hk
  obtain ⟨b', c, g1, g2, g3, g4⟩ := g k hk
  have : b = b' := (nI_eq (by omega) (by omega)).mp (h4.symm.trans g3)
  exact ⟨a, c, by omega, g2, h3, g4⟩
theorem bk_ge.to {A B C : Nat → Nat → Int32} (h : bk_ge A B) (e : ∀ k, k < 8 → C 9 k = B 9 k) : bk_ge A C := fun k hk => by
  obtain ⟨a, b, h1, h2, h3, h4⟩ := h k hk
  exact ⟨a, b, h1, h2, h3, (e k hk).trans h4⟩
theorem bk_ge_move {A : Nat → Nat → Int32} {n k : Nat} (h : bk_I A n) : bk_ge A (bk_move n A k) := fun j hj => by
  obtain ⟨b, hb, e⟩ := h.2.2.2.2.2.2.2.1 j hj
  unfold bk_move
  split
  · split
    · exact ⟨b, b, Nat.le_refl _, hb, e, by rw [bk_nc _ _ (by decide)]; exact e⟩
    · split
      · unfold bk_fall
        rw [bk_nc _ _ (by decide), bk_nc _ _ (by decide)]
        by_cases ej : j = k
        · subst ej
          rw [bk_same, e, nI_1]
          split
          · rename_i hlt
            rw [show (9999 : Int32) = nI 9999 from rfl, bk_lt_iff (by omega) (by omega)] at hlt
            exact ⟨b, b + 1, by omega, by omega, rfl, rfl⟩
          · exact ⟨b, 9999, hb, by omega, rfl, rfl⟩
        · rw [bk_ne _ _ (Or.inr ej)]; exact ⟨b, b, Nat.le_refl _, hb, e, e⟩
      · exact ⟨b, b, Nat.le_refl _, hb, e, e⟩
  · exact ⟨b, b, Nat.le_refl _, hb, e, e⟩
theorem bk_ge_day {A : Nat → Nat → Int32} {n : Nat} (h : bk_I A n) : bk_ge A (bk_day n A) := by
  have hn := h.1.2
  have k0 : bk_I (bk_d2 (bk_d1 A)) n := bk_I_d2 (bk_I_d1 h)
  have k1 : ∀ (B : Nat → Nat → Int32) q, bk_d4 n B 9 q = B 9 q := fun B q => bk_it_keep (P := fun C => C 9 q = B 9 q) n 0 B (fun C k _ _ hC => by rw [bk_pay_c _ _ _ _ (by decide)]; exact hC) rfl
  have k3 : ∀ (B : Nat → Nat → Int32) q, bk_d2 B 9 q = B 9 q := fun B q => by
    unfold bk_d2
    refine (bk_it_keep (P := fun C => C 9 q = bk_it bk_flow B 0 9 9 q) 9 0 _ (fun C k _ _ hC => ?_) rfl).trans (bk_it_keep (P := fun C => C 9 q = B 9 q) 9 0 B (fun C k _ _ hC => ?_) rfl)
    · unfold bk_app; rw [bk_nc _ _ (by decide), bk_nc _ _ (by decide)]; exact hC
    · unfold bk_flow; rw [bk_nc _ _ (by decide)]; exact hC
  have k4 : ∀ q, bk_d1 A 9 q = A 9 q := fun q => bk_it_keep (P := fun C => C 9 q = A 9 q) 10 0 A (fun C k _ _ hC => by unfold bk_thin; rw [bk_nc _ _ (by decide)]; exact hC) rfl
  have key : bk_I (bk_d3 n (bk_d2 (bk_d1 A))) n ∧ bk_ge A (bk_d3 n (bk_d2 (bk_d1 A))) := bk_it_keep (P := fun B => bk_I B n ∧ bk_ge A B) n 0 _ (fun B k _ hk hB => ⟨bk_I_move hB.1 (by omega), hB.2.tr (bk_ge_move hB.1)⟩) ⟨k0, (bk_ge.rf h).to (fun q _ => by rw [k3, k4])⟩
  refine key.2.to (fun q hq => ?_)
  unfold bk_day bk_tick
  rw [bk_nc _ _ (by decide), bk_d5_at hn 9 q (by decide), if_neg (by omega), k1]
theorem bk_ge_days {n : Nat} : ∀ (t : Nat) (A : Nat → Nat → Int32), bk_I A n → bk_ge A (bk_days n A t) := by
  intro t
  induction t with
  | zero => intro A h; exact bk_ge.rf h
  | succ t ih => intro A h; exact (bk_ge_day h).tr (ih _ (bk_I_day h))
/-- the answer of a search, on both sides -/
theorem ag.srch {w : fg_W} (h : rr w) {c : Prop} [Decidable c] {r : Int32} {x : Option (Int32 × fg_W)} {m : fg_W → Option (Int32 × fg_W)} (hx : ∃ d, x = if c then some (r, fg_sw w 2 1 d) else f_X3_finding 3 (fg_sw w 2 1 d)) (hm : ∀ w1 : fg_W, w1.1 4 0 = w.1 4 0 → ∃ w2, bs w1 w2 ∧ m w1 = if c then some (r, w2) else f_X4_no 3 w2) : ag x m := by
  obtain ⟨d, hx⟩ := hx
  have h1 := h.trial d
  have e : (fg_sw w 2 1 d).1 4 0 = w.1 4 0 := fg_sw_K _ _ _ _ _ _ (by decide)
  by_cases hc : c
  · rw [if_pos hc] at hx
    obtain ⟨w2, g1, g2⟩ := hm _ e
    rw [if_pos hc] at g2
    exact ⟨r, _, w2, hx, g2, h1.bs g1⟩
  · rw [if_neg hc] at hx
    have pf := p_find (c := 3) (by decide) (fg_sw w 2 1 d)
    obtain ⟨w2, g1, g2⟩ := hm (fg_sw (fg_sw w 2 1 d) 3 0 (bk_set ((fg_sw w 2 1 d).1 3 0) 1 3 ((fg_sw w 2 1 d).1 3 0 1 3 + 1))) (by rw [fg_sw_K _ _ _ _ _ _ (by decide), e])
    rw [if_neg hc] at g2
    refine ⟨_, _, _, hx.trans pf, g2.trans (m_find (c := 3) (by decide) w2), ?_⟩
    exact rr_late h1 (by decide) g1
def bk_up (P : Nat → Bool) : Nat → Nat → Nat
  | j, 0 => j
  | j, m + 1 => if P j then j else bk_up P (j + 1) m
theorem p_belI {n k t : Nat} {w : fg_W} (hk : k < 8) (K : Int32 → fg_W → Option (Int32 × fg_W)) (ht : t ≤ 40) : ∀ (m j fu : Nat) (B : Nat → Nat → Int32), j + m = t → m < fu → bk_I B n → bk_ge (w.1 2 0) B → ∃ d v, f_X3_beliefFor_L59 (nI k) (nI t) K fu (nI j) (fg_sw w 2 1 B) = K v (fg_sw w 2 1 d) ∧ (d 9 k = w.1 2 0 9 k ↔ bk_days n B m 9 k = w.1 2 0 9 k) := by
  intro m
  induction m with
  | zero =>
    intro j fu B hj hf hI hg
    obtain ⟨fu, rfl⟩ : ∃ z, fu = z + 1 := ⟨fu - 1, by omega⟩
    obtain rfl : j = t := by omega
    exact ⟨B, nI j, by rw [f_X3_beliefFor_L59, if_pos (nI_le (Nat.le_refl _) (by omega))], Iff.rfl⟩
  | succ m ih =>
    intro j fu B hj hf hI hg
    obtain ⟨fu, rfl⟩ : ∃ z, fu = z + 1 := ⟨fu - 1, by omega⟩
    rw [f_X3_beliefFor_L59, if_neg (nI_ge (by omega) (by omega)), fg_gd_nI hk (by decide), fg_gd_nI hk (by decide), fg_sw_at, fg_sw_i _ _ _ _ _ (by decide), nI_clamp (by omega)]
    by_cases hP : B 9 k = w.1 2 0 9 k
    · obtain ⟨d, v, h1, h2⟩ := ih (j + 1) fu (bk_day n B) (by omega) (by omega) (bk_I_day hI) (hg.tr (bk_ge_day hI))
      refine ⟨d, v, ?_, h2⟩
      rw [if_pos hP, p_day1 (n := n) (by rw [fg_sw_at]; exact hI), fg_bv_some, fg_sw_at, fg_sw_sw, nI_1, h1]
    · refine ⟨B, nI j, by rw [if_neg hP], ?_⟩
      refine ⟨fun z => absurd z hP, fun z => ?_⟩
      obtain ⟨a, b, g1, g2, g3, g4⟩ := hg k hk
      obtain ⟨b', c, f1, f2, f3, f4⟩ := bk_ge_days (m + 1) B hI k hk
      have e1 : b = b' := (nI_eq (by omega) (by omega)).mp (g4.symm.trans f3)
      have e2 : c = a := (nI_eq (by omega) (by omega)).mp (f4.symm.trans (z.trans g3))
      exact absurd (by rw [g4, g3]; congr 1; omega) hP
theorem p_belL {n k t : Nat} {w : fg_W} (hk : k < 8) (ht : t ≤ 40) (h1 : rm w (w.1 2 0)) (h0 : bk_I (w.1 2 0) n) (hI : ∀ p, p < 100 → bk_I (bk_set (w.1 2 0) 7 k (nI p)) n) (K : Int32 → fg_W → Option (Int32 × fg_W)) : ∀ (m j fu : Nat) (d : Nat → Nat → Int32), j + m = 100 → m < fu → ∃ d', f_X3_beliefFor_L29 (nI k) (nI t) K fu (nI j) (fg_sw w 2 1 d) = if bk_up (fun p => decide (bk_days n (bk_set (w.1 2 0) 7 k (nI p)) t 9 k = w.1 2 0 9 k)) j m ≤ 99 then some (nI (bk_up (fun p => decide (bk_days n (bk_set (w.1 2 0) 7 k (nI p)) t 9 k = w.1 2 0 9 k)) j m), fg_sw w 2 1 d') else K (nI 100) (fg_sw w 2 1 d') := by
  intro m
  induction m with
  | zero =>
    intro j fu d hj hf
    obtain ⟨fu, rfl⟩ : ∃ z, fu = z + 1 := ⟨fu - 1, by omega⟩
    obtain rfl : j = 100 := by omega
    exact ⟨d, by rw [f_X3_beliefFor_L29, if_pos (by decide), bk_up, if_neg (by omega)]⟩
  | succ m ih =>
    intro j fu d hj hf
    obtain ⟨fu, rfl⟩ : ∃ z, fu = z + 1 := ⟨fu - 1, by omega⟩
    have hIj := hI j (by omega)
    have hr := (h1.per (f := 2) (k := k) (nI j) (by decide) hk)
    have hv : bk_th n t (w.1 2 0) d 7 k (nI j) 9 k = bk_days n (bk_set (w.1 2 0) 7 k (nI j)) t 9 k := bk_th_eq (by omega) hr hIj 9 k (by unfold bk_ok; omega)
    have hg : bk_ge (w.1 2 0) (bk_set (bk_bec d (w.1 2 0)) 7 k (nI j)) := (bk_ge.rf h0).to (fun q hq => by rw [bk_nc _ _ (by decide)]; exact bk_bec_eq d (w.1 2 0) 9 q (by unfold bk_ok; omega))
    obtain ⟨d2, v, a1, a2⟩ := p_belI (n := n) (k := k) (t := t) (w := w) hk (fun v4_59 w_59 => fg_gd (nI k) 8 (fg_gd (nI k) 8 (if (w_59.1 2 1 9 (nI k).toNatClampNeg) = (w_59.1 2 0 9 (nI k).toNatClampNeg) then (some (nI j, w_59)) else ((f_X3_beliefFor_L29 (nI k) (nI t) K fu (nI j + 1) w_59))))) ht t 0 fg_fuel (bk_set (bk_bec d (w.1 2 0)) 7 k (nI j)) (by omega) (by unfold fg_fuel; omega) (bk_th_I hIj) hg
    rw [show bk_days n (bk_set (bk_bec d (w.1 2 0)) 7 k (nI j)) t 9 k = bk_days n (bk_set (w.1 2 0) 7 k (nI j)) t 9 k from hv] at a2
    obtain ⟨d', hd⟩ := ih (j + 1) fu d2 (by omega) (by omega)
    rw [f_X3_beliefFor_L29, if_neg (show ¬ (99 : Int32) < nI j from nI_nlt (a := 99) (b := j) (by omega) (by decide)), p_become (by decide), fg_bv_some, fg_sw_at, fg_sw_sw, fg_sw_i _ _ _ _ _ (by decide), fg_gd_nI hk (by decide), fg_let_eq, nI_clamp (by omega), fg_st_set, fg_sw_at, fg_sw_sw, bk_up]
    rw [nI_clamp (by omega)] at a1
    rw [nI_0] at a1
    rw [a1, fg_gd_nI hk (by decide), fg_gd_nI hk (by decide), fg_sw_at, fg_sw_i _ _ _ _ _ (by decide)]
    by_cases hP : bk_days n (bk_set (w.1 2 0) 7 k (nI j)) t 9 k = w.1 2 0 9 k
    · refine ⟨d2, ?_⟩
      rw [if_pos (a2.mpr hP)]
      simp only [hP, decide_true, if_true]
      rw [if_pos (by omega)]
    · refine ⟨d', ?_⟩
      rw [if_neg (fun z => hP (a2.mp z)), nI_1, hd]
      simp [hP]
theorem m_belL {n k t : Nat} {A : Nat → Nat → Int32} (hk : k < 8) (ht : t ≤ 40) (hI : ∀ p, p < 100 → bk_I (bk_set A 7 k (nI p)) n) : ∀ (m j fu : Nat) (w : fg_W), j + m = 100 → m < fu → rm w A → ∃ w', bs w w' ∧ f_X4_beliefFor_L23 (nI k) (nI t) (fun v3_23 w_23 => if v3_23 = 100 then (fg_bi (f_X4_no 3 w_23) (fun r12 w10 => some (r12, w10))) else (some (v3_23, w_23))) fu (nI j) w = if bk_up (fun p => decide (bk_days n (bk_set A 7 k (nI p)) t 9 k = A 9 k)) j m ≤ 99 then some (nI (bk_up (fun p => decide (bk_days n (bk_set A 7 k (nI p)) t 9 k = A 9 k)) j m), w') else f_X4_no 3 w' := by
  intro m
  induction m with
  | zero =>
    intro j fu w hj hf h
    obtain ⟨fu, rfl⟩ : ∃ z, fu = z + 1 := ⟨fu - 1, by omega⟩
    obtain rfl : j = 100 := by omega
    exact ⟨w, bs.rf w, by rw [f_X4_beliefFor_L23, if_pos (by decide), if_pos (by decide), bk_up, if_neg (by omega), fg_bi_id]⟩
  | succ m ih =>
    intro j fu w hj hf h
    obtain ⟨fu, rfl⟩ : ∃ z, fu = z + 1 := ⟨fu - 1, by omega⟩
    obtain ⟨w1, a1, a2⟩ := m_then (f := 2) (g := 4) (t := t) h hk (by decide) (by decide) (by omega) (hI j (by omega))
    obtain ⟨w', b2, b1⟩ := ih (j + 1) fu w1 (by omega) (by omega) (h.bs a2)
    rw [f_X4_beliefFor_L23, if_neg (show ¬ (100 : Int32) ≤ nI j from nI_ge (a := j) (b := 100) (by omega) (by decide)), show f_X4_thenWith (nI k) 2 (nI j) (nI t) 4 w = _ from a1, fg_bi_some, m_get4 (h.bs a2) hk, fg_bi_some, bk_up]
    by_cases hP : bk_days n (bk_set A 7 k (nI j)) t 9 k = A 9 k
    · refine ⟨w1, a2, ?_⟩
      rw [if_pos hP, if_neg (show ¬ nI j = 100 from fun z => by have := (nI_eq (a := j) (b := 100) (by omega) (by decide)).mp z; omega)]
      simp only [hP, decide_true, if_true]
      rw [if_pos (by omega)]
    · refine ⟨w', a2.tr b2, ?_⟩
      rw [if_neg hP, nI_1, b1]
      simp [hP]
theorem ag_beliefFor {w : fg_W} (h : rr w) (a b : Int32) : ag (f_X3_beliefFor a b w) (f_X4_beliefFor a b) := by
  have h' := h
  obtain ⟨n, h1, h2, h3, h4⟩ := h
  have hN := h2.1
  have h8 := hN.2
  have e4 : ∀ w1 : fg_W, w1.1 4 0 = w.1 4 0 → w1.1 4 0 1 1 = nI n := fun w1 e => by rw [e]; exact h1.1.2.1.trans hN.1
  rcases q_per a n h8 with ⟨k, hk, rfl, c1, c2⟩ | ⟨_, c1, c2⟩
  · have hk8 : k < 8 := by omega
    rcases q_soon b with ⟨t, ht, rfl, s1, s2⟩ | ⟨s1, s2⟩
    · have hI : ∀ p, p < 100 → bk_I (bk_set (w.1 2 0) 7 k (nI p)) n := fun p hp => h2.set (by decide) (by omega) (by omega) (by omega) (by omega) (fun _ => ⟨p, by omega, rfl⟩) (by omega) (by omega) (by omega)
      refine ag.srch (c := bk_up (fun p => decide (bk_days n (bk_set (w.1 2 0) 7 k (nI p)) t 9 k = w.1 2 0 9 k)) 0 100 ≤ 99) (r := nI (bk_up (fun p => decide (bk_days n (bk_set (w.1 2 0) 7 k (nI p)) t 9 k = w.1 2 0 9 k)) 0 100)) h' ?_ (fun w1 e => ?_)
      · obtain ⟨d', hd⟩ := p_belL (w := w) hk8 ht h1 h2 hI (fun v3_29 w_29 => fg_bi (f_X3_finding 3 w_29) (fun r12 w10 => some (r12, w10))) 100 0 fg_fuel (w.1 2 1) (by omega) (by unfold fg_fuel; omega)
        rw [fg_sw_id, nI_0] at hd
        refine ⟨d', ?_⟩
        unfold f_X3_beliefFor
        rw [c1 0 w hN, fg_bi_some, if_neg (by decide), s1, fg_bi_some, if_neg (by decide), hd, fg_bi_id]
      · obtain ⟨w2, b1, b2⟩ := m_belL (A := w.1 2 0) hk8 ht hI 100 0 fg_fuel w1 (by omega) (by unfold fg_fuel; omega) (h1.of e)
        rw [nI_0] at b2
        refine ⟨w2, b1, ?_⟩
        unfold f_X4_beliefFor
        rw [c2 _ (e4 _ e), fg_bi_some, if_neg (by decide), s2, fg_bi_some, if_neg (by decide), b2]
    · refine ag.fnd0 h' ?_ (fun w1 e => ?_)
      · unfold f_X3_beliefFor; rw [c1 0 w hN, fg_bi_some, if_neg (by decide), s1, fg_bi_some, if_pos rfl, fg_bi_id]
      · unfold f_X4_beliefFor; rw [c2 w1 (e4 w1 e), fg_bi_some, if_neg (by decide), s2, fg_bi_some, if_pos rfl, fg_bi_id]
  · refine ag.fnd0 h' ?_ (fun w1 e => ?_)
    · unfold f_X3_beliefFor; rw [c1 0 w hN, fg_bi_some, if_pos rfl, fg_bi_id]
    · unfold f_X4_beliefFor; rw [c2 w1 (e4 w1 e), fg_bi_some, if_pos rfl, fg_bi_id]
