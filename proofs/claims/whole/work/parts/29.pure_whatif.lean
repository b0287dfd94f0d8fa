/-- what-ifs: the trial world becomes the world; the reference sets its row aside -/
def bk_bec (d e : Nat → Nat → Int32) : Nat → Nat → Int32 := fun c j =>
  if ((c = 1 ∨ c = 2 ∨ c = 3 ∨ c = 10) ∧ j < 10) ∨ (c = 4 ∧ j < 6) ∨ ((c = 5 ∨ c = 6 ∨ c = 7 ∨ c = 8 ∨ c = 9) ∧ j < 8) ∨ (c = 0 ∧ (j = 4 ∨ j = 5 ∨ j = 11 ∨ j = 12 ∨ j = 13)) then e c j else d c j
theorem fg_st_row (w : fg_W) (K i c : Nat) (f : Nat → Int32) : fg_st w K i c f = fg_sw w K i (fg_put (w.1 K i) c f) := rfl
theorem p_become {i j : Nat} {w : fg_W} (hij : j ≠ i) : f_X2_become i j w = some (fg_sw w 2 i (bk_bec (w.1 2 i) (w.1 2 j))) := by
  unfold f_X2_become
  simp only [fg_let_eq, fg_st_row, fg_sw_at, fg_sw_sw, fg_sw_i _ _ _ _ _ hij]
  congr 2
  funext c q
  unfold bk_bec
  have hc : c = 0 ∨ c = 1 ∨ c = 2 ∨ c = 3 ∨ c = 4 ∨ c = 5 ∨ c = 6 ∨ c = 7 ∨ c = 8 ∨ c = 9 ∨ c = 10 ∨ 11 ≤ c := by omega
  rcases hc with rfl | rfl | rfl | rfl | rfl | rfl | rfl | rfl | rfl | rfl | rfl | hc
  · by_cases h4 : q = 4
    · subst h4; simp [fg_put, upd]
    · by_cases h5 : q = 5
      · subst h5; simp [fg_put, upd]
      · by_cases h11 : q = 11
        · subst h11; simp [fg_put, upd]
        · by_cases h12 : q = 12
          · subst h12; simp [fg_put, upd]
          · by_cases h13 : q = 13
            · subst h13; simp [fg_put, upd]
            · simp [fg_put, upd, h4, h5, h11, h12, h13]
  all_goals first
    | (by_cases hq : q < 10 <;> simp [fg_put, va_cpy, hq]; done)
    | (by_cases hq : q < 8 <;> simp [fg_put, va_cpy, hq]; done)
    | (by_cases hq : q < 6 <;> simp [fg_put, va_cpy, hq]; done)
    | (rw [if_neg (by omega)]; simp [fg_put, show c ≠ 0 by omega, show c ≠ 1 by omega, show c ≠ 2 by omega, show c ≠ 3 by omega, show c ≠ 4 by omega, show c ≠ 5 by omega, show c ≠ 6 by omega, show c ≠ 7 by omega, show c ≠ 8 by omega, show c ≠ 9 by omega, show c ≠ 10 by omega])
/-- where two banks are one bank -/
def bk_ok (c j : Nat) : Prop := ((c = 1 ∨ c = 2 ∨ c = 3 ∨ c = 10) ∧ j < 10) ∨ (c = 4 ∧ j < 6) ∨ ((c = 5 ∨ c = 6 ∨ c = 7 ∨ c = 8 ∨ c = 9) ∧ j < 8) ∨ (c = 0 ∧ (j = 4 ∨ j = 5 ∨ j = 11 ∨ j = 12 ∨ j = 13))
def bk_eq (A B : Nat → Nat → Int32) : Prop := ∀ c j, bk_ok c j → B c j = A c j
theorem bk_eq.tr {A B C : Nat → Nat → Int32} (h : bk_eq A B) (g : bk_eq B C) : bk_eq A C := fun c j hc => (g c j hc).trans (h c j hc)
theorem bk_eq.sy {A B : Nat → Nat → Int32} (h : bk_eq A B) : bk_eq B A := fun c j hc => (h c j hc).symm
theorem bk_eq.set {A B : Nat → Nat → Int32} (h : bk_eq A B) (c j : Nat) (v : Int32) : bk_eq (bk_set A c j v) (bk_set B c j v) := fun c' j' hc => by
  by_cases e : c' = c ∧ j' = j
  · obtain ⟨rfl, rfl⟩ := e; rw [bk_same, bk_same]
  · rw [bk_ne _ _ (by omega), bk_ne _ _ (by omega)]; exact h c' j' hc
theorem bk_bec_eq (d e : Nat → Nat → Int32) : bk_eq e (bk_bec d e) := fun c j h => if_pos h
theorem bk_I.eq {A B : Nat → Nat → Int32} {n : Nat} (h : bk_I A n) (e : bk_eq A B) : bk_I B n := by
  obtain ⟨⟨h1, h1'⟩, h2, h3, h4, h5, h6, h7, h8, h9, h10⟩ := h
  refine ⟨⟨?_, h1'⟩, fun k hk => ?_, fun k hk => ?_, ?_, fun k hk => ?_, fun k hk => ?_, fun k hk => ?_, fun k hk => ?_, fun k hk => ?_, fun k hk => ?_⟩
  · rw [e 0 5 (by unfold bk_ok; omega)]; exact h1
  · rw [e 6 k (by unfold bk_ok; omega)]; exact h2 k hk
  · rw [e 3 k (by unfold bk_ok; omega)]; exact h3 k hk
  · rw [e 0 12 (by unfold bk_ok; omega)]; exact h4
  · rw [e 5 k (by unfold bk_ok; omega)]; exact h5 k hk
  · rw [e 7 k (by unfold bk_ok; omega)]; exact h6 k hk
  · rw [e 8 k (by unfold bk_ok; omega)]; exact h7 k hk
  · rw [e 9 k (by unfold bk_ok; omega)]; exact h8 k hk
  · rw [e 2 k (by unfold bk_ok; omega)]; exact h9 k hk
  · rw [e 10 k (by unfold bk_ok; omega)]; exact h10 k hk
theorem rm.eq {w : fg_W} {A B : Nat → Nat → Int32} (h : rm w A) (e : bk_eq A B) : rm w B := by
  obtain ⟨⟨h1, h2, h3, h4, h5⟩, h6, h7, h8, h9⟩ := h
  refine ⟨⟨?_, ?_, ?_, ?_, ?_⟩, fun j hj => ?_, fun f p hf hp => ?_, fun f k hf hk => ?_, fun j hj => ?_⟩
  · rw [e 0 12 (by unfold bk_ok; omega)]; exact h1
  · rw [e 0 5 (by unfold bk_ok; omega)]; exact h2
  · rw [e 0 13 (by unfold bk_ok; omega)]; exact h3
  · rw [e 0 4 (by unfold bk_ok; omega)]; exact h4
  · rw [e 0 11 (by unfold bk_ok; omega)]; exact h5
  · rw [e 4 j (by unfold bk_ok; omega)]; exact h6 j hj
  · rw [e (1 + f) p (by unfold bk_ok; omega)]; exact h7 f p hf hp
  · rw [e (5 + f) k (by unfold bk_ok; omega)]; exact h8 f k hf hk
  · rw [e 10 j (by unfold bk_ok; omega)]; exact h9 j hj
theorem m_asideL (K : Int32 → fg_W → Option fg_W) : ∀ (m j fu : Nat) (w : fg_W), j + m = 90 → m < fu → ∃ e, f_X4_setsAside_L2 K fu (nI j) w = K (nI 90) (fg_sw w 4 0 e) ∧ (∀ c, c ≠ 3 → e c = w.1 4 0 c) ∧ ∀ q, e 3 q = if j ≤ q ∧ q < 90 then w.1 4 0 1 q else w.1 4 0 3 q := by
  intro m
  induction m with
  | zero =>
    intro j fu w hj hf
    obtain ⟨fu, rfl⟩ : ∃ z, fu = z + 1 := ⟨fu - 1, by omega⟩
    obtain rfl : j = 90 := by omega
    exact ⟨w.1 4 0, by rw [f_X4_setsAside_L2, if_pos (by decide), fg_sw_id], fun _ _ => rfl, fun q => by rw [if_neg (by omega)]⟩
  | succ m ih =>
    intro j fu w hj hf
    obtain ⟨fu, rfl⟩ : ∃ z, fu = z + 1 := ⟨fu - 1, by omega⟩
    obtain ⟨e, h1, h2, h3⟩ := ih (j + 1) fu (fg_sw w 4 0 (bk_set (w.1 4 0) 3 j (w.1 4 0 1 j))) (by omega) (by omega)
    refine ⟨e, ?_, fun c hc => ?_, fun q => ?_⟩
    · rw [f_X4_setsAside_L2, if_neg (show ¬ (90 : Int32) ≤ nI j from nI_ge (a := j) (b := 90) (by omega) (by decide)), fg_gd_nI (by omega) (by decide), fg_gd_nI (by omega) (by decide), fg_let_eq, nI_clamp (by omega), fg_st_set, nI_1, h1, fg_sw_sw]
    · rw [h2 c hc, fg_sw_at]; funext q; exact bk_nc _ _ hc _
    · rw [h3 q, fg_sw_at, bk_nc _ _ (by decide)]
      by_cases e1 : q = j
      · subst e1; rw [if_neg (by omega), if_pos (by omega), bk_same]
      · rw [bk_ne _ _ (Or.inr e1)]
        by_cases e2 : j + 1 ≤ q ∧ q < 90
        · rw [if_pos e2, if_pos (by omega)]
        · rw [if_neg e2, if_neg (by omega)]
theorem m_backL (K : Int32 → fg_W → Option fg_W) : ∀ (m j fu : Nat) (w : fg_W), j + m = 90 → m < fu → ∃ e, f_X4_laysBack_L2 K fu (nI j) w = K (nI 90) (fg_sw w 4 0 e) ∧ (∀ c, c ≠ 1 → e c = w.1 4 0 c) ∧ ∀ q, e 1 q = if j ≤ q ∧ q < 90 then w.1 4 0 3 q else w.1 4 0 1 q := by
  intro m
  induction m with
  | zero =>
    intro j fu w hj hf
    obtain ⟨fu, rfl⟩ : ∃ z, fu = z + 1 := ⟨fu - 1, by omega⟩
    obtain rfl : j = 90 := by omega
    exact ⟨w.1 4 0, by rw [f_X4_laysBack_L2, if_pos (by decide), fg_sw_id], fun _ _ => rfl, fun q => by rw [if_neg (by omega)]⟩
  | succ m ih =>
    intro j fu w hj hf
    obtain ⟨fu, rfl⟩ : ∃ z, fu = z + 1 := ⟨fu - 1, by omega⟩
    obtain ⟨e, h1, h2, h3⟩ := ih (j + 1) fu (fg_sw w 4 0 (bk_set (w.1 4 0) 1 j (w.1 4 0 3 j))) (by omega) (by omega)
    refine ⟨e, ?_, fun c hc => ?_, fun q => ?_⟩
    · rw [f_X4_laysBack_L2, if_neg (show ¬ (90 : Int32) ≤ nI j from nI_ge (a := j) (b := 90) (by omega) (by decide)), fg_gd_nI (by omega) (by decide), fg_gd_nI (by omega) (by decide), fg_let_eq, nI_clamp (by omega), fg_st_set, nI_1, h1, fg_sw_sw]
    · rw [h2 c hc, fg_sw_at]; funext q; exact bk_nc _ _ hc _
    · rw [h3 q, fg_sw_at, bk_nc _ _ (by decide)]
      by_cases e1 : q = j
      · subst e1; rw [if_neg (by omega), if_pos (by omega), bk_same]
      · rw [bk_ne _ _ (Or.inr e1)]
        by_cases e2 : j + 1 ≤ q ∧ q < 90
        · rw [if_pos e2, if_pos (by omega)]
        · rw [if_neg e2, if_neg (by omega)]
/-- only what is thought has changed -/
def bs (w w' : fg_W) : Prop := (∀ K i, K ≠ 4 → w'.1 K i = w.1 K i) ∧ (∀ c, c ≠ 1 → c ≠ 3 → c ≠ 5 → c ≠ 6 → w'.1 4 0 c = w.1 4 0 c) ∧ ∀ q, q < 90 → w'.1 4 0 1 q = w.1 4 0 1 q
theorem bs.rf (w : fg_W) : bs w w := ⟨fun _ _ _ => rfl, fun _ _ _ _ _ => rfl, fun _ _ => rfl⟩
theorem bs.tr {a b c : fg_W} (h : bs a b) (g : bs b c) : bs a c := ⟨fun K i hK => (g.1 K i hK).trans (h.1 K i hK), fun x h1 h3 h5 h6 => (g.2.1 x h1 h3 h5 h6).trans (h.2.1 x h1 h3 h5 h6), fun q hq => (g.2.2 q hq).trans (h.2.2 q hq)⟩
theorem rm.bs {w w' : fg_W} {A : Nat → Nat → Int32} (h : rm w A) (g : bs w w') : rm w' A := by
  obtain ⟨⟨h1, h2, h3, h4, h5⟩, h6, h7, h8, h9⟩ := h
  refine ⟨⟨?_, ?_, ?_, ?_, ?_⟩, fun j hj => ?_, fun f p hf hp => ?_, fun f k hf hk => ?_, fun j hj => ?_⟩
  · rw [g.2.2 _ (by omega)]; exact h1
  · rw [g.2.2 _ (by omega)]; exact h2
  · rw [g.2.2 _ (by omega)]; exact h3
  · rw [g.2.2 _ (by omega)]; exact h4
  · rw [g.2.1 0 (by decide) (by decide) (by decide) (by decide)]; exact h5
  · rw [g.2.2 _ (by omega)]; exact h6 j hj
  · rw [g.2.2 _ (by omega)]; exact h7 f p hf hp
  · rw [g.2.2 _ (by omega)]; exact h8 f k hf hk
  · rw [g.2.2 _ (by omega)]; exact h9 j hj
theorem rr.bs {w w' : fg_W} (h : rr w) (g : bs w w') : rr w' := by
  obtain ⟨n, h1, h2, h3, h4⟩ := h
  have e2 : w'.1 2 0 = w.1 2 0 := g.1 2 0 (by decide)
  refine ⟨n, by rw [e2]; exact h1.bs g, by rw [e2]; exact h2, by rw [e2]; exact h3, h4.cong (g.1 2 2 (by decide)) (g.1 3 0 (by decide)) (g.1 1 0 (by decide)) (funext fun i => g.1 0 i (by decide)) (fun c h1 h3 h5 h6 _ => g.2.1 c h1 h3 h5 h6)⟩
/-- the row is set aside; something is done in it; it is laid back -/
theorem m_think {w : fg_W} {A : Nat → Nat → Int32} (h : rm w A) : ∃ w1, f_X4_setsAside w = some w1 ∧ rm w1 A ∧ ∀ w2 : fg_W, fm w1 w2 → ∃ w3, f_X4_laysBack w2 = some w3 ∧ bs w w3 := by
  unfold f_X4_setsAside
  obtain ⟨e, h1, h2, h3⟩ := m_asideL (fun v1_2 w_2 => some w_2) 90 0 fg_fuel w (by omega) (by unfold fg_fuel; omega)
  rw [nI_0] at h1
  refine ⟨_, h1, ?_, fun w2 g => ?_⟩
  · obtain ⟨⟨q1, q2, q3, q4, q5⟩, q6, q7, q8, q9⟩ := h
    unfold rm
    rw [fg_sw_at, h2 1 (by decide), h2 0 (by decide)]
    exact ⟨⟨q1, q2, q3, q4, q5⟩, q6, q7, q8, q9⟩
  · unfold f_X4_laysBack
    obtain ⟨e', g1, g2, g3⟩ := m_backL (fun v1_2 w_2 => some w_2) 90 0 fg_fuel w2 (by omega) (by unfold fg_fuel; omega)
    rw [nI_0] at g1
    refine ⟨_, g1, fun K i hK => ?_, fun c c1 c3 c5 c6 => ?_, fun q hq => ?_⟩
    · rw [fg_sw_K _ _ _ _ _ _ hK, g.1 K i hK, fg_sw_K _ _ _ _ _ _ hK]
    · rw [fg_sw_at, g2 c c1, g.2.2.1 c c1 c5 c6, fg_sw_at, h2 c c3]
    · rw [fg_sw_at, g3 q, if_pos ⟨by omega, hq⟩, g.2.2.1 3 (by decide) (by decide) (by decide), fg_sw_at, h3 q, if_pos ⟨by omega, hq⟩]
