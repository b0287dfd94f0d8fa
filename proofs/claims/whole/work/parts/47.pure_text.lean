-- texts: a whole text
def tx_go (x : Nat → Int32) (t : Nat) : Nat → Nat → (Nat ⊕ tx_U) → Nat × (Nat ⊕ tx_U)
  | 0, c, r => (c, r)
  | _ + 1, c, .inl p => (c, .inl p)
  | m + 1, c, .inr u => if u.2.1 = 2 then tx_go x t m (c + 1) (tx_item x t (u.1, tx_tok x t u.2.2.2.1)) else if u.2.1 = 3 then (c, .inr u) else (c, .inl u.2.2.1)
theorem tx_go_l (x : Nat → Int32) (t m c p : Nat) : tx_go x t m c (.inl p) = (c, .inl p) := by cases m <;> rfl
theorem tx_go_3 {x : Nat → Int32} {t m c : Nat} {u : tx_U} (h : u.2.1 = 3) : tx_go x t m c (.inr u) = (c, .inr u) := by
  cases m with
  | zero => rfl
  | succ m => rw [tx_go, if_neg (by omega), if_pos h]
theorem p_goL {w0 : fg_W} {x : Nat → Int32} {t : Nat} {z : Int32} (hx : tx_by x t) (K : Int32 → Int32 → fg_W → Option (Int32 × fg_W)) : ∀ (m c fu n : Nat) (u : tx_U) (w : fg_W), cr w0 x t (.inr u) w → tx_P x t (2 * c) n z u → t - u.2.2.1 ≤ m → m + 1 < fu → ∃ w', f_X1_tellTo_L18 1 K fu (nI c) 1 w = K (nI (tx_go x t m (c + 1) (tx_item x t u)).1) 0 w' ∧ cr w0 x t (tx_go x t m (c + 1) (tx_item x t u)).2 w' ∧ ∀ u', (tx_go x t m (c + 1) (tx_item x t u)).2 = .inr u' → u'.2.1 = 3 ∧ ∃ n' lo, tx_P x t lo n' z u' := by
  have ht := hx.1
  intro m
  induction m with
  | zero =>
    intro c fu n u w h hP hm hf
    obtain ⟨fu, rfl⟩ : ∃ q, fu = q + 1 + 1 := ⟨fu - 2, by omega⟩
    have g1 := hP.1.1
    have g2 := hP.1.2.1
    have g3 := hP.2.1
    obtain ⟨w1, a1, a2⟩ := p_item hx hP.2.2.1.1 h
    rw [f_X1_tellTo_L18, if_neg (by decide), if_neg (show ¬ (120 : Int32) ≤ nI c from nI_ge (a := c) (b := 120) (by omega) (by decide)), a1, fg_bv_some]
    cases hi : tx_item x t u with
    | inl p =>
      rw [hi] at a2
      obtain ⟨d, A, rfl, d2, hp⟩ := a2
      rw [tx_W_d, d2, if_pos (nI_pos' (by omega)), p_fh0 d2 hp, fg_bv_some, ite_self, f_X1_tellTo_L18, if_pos rfl, nI_1, tx_go_l]
      exact ⟨_, rfl, ⟨d, A, rfl, d2, hp⟩, fun u' e => by cases e⟩
    | inr u1 =>
      obtain ⟨n', q1, q2, q3⟩ := tx_item_P (lo := u.2.2.1) ⟨hP.1, Nat.le_refl _, hP.2.2⟩ hi
      have := q1.1
      have := q1.2.1
      omega
  | succ m ih =>
    intro c fu n u w h hP hm hf
    obtain ⟨fu, rfl⟩ : ∃ q, fu = q + 1 + 1 := ⟨fu - 2, by omega⟩
    have g1 := hP.1.1
    have g2 := hP.1.2.1
    have g3 := hP.2.1
    obtain ⟨w1, a1, a2⟩ := p_item hx hP.2.2.1.1 h
    rw [f_X1_tellTo_L18, if_neg (by decide), if_neg (show ¬ (120 : Int32) ≤ nI c from nI_ge (a := c) (b := 120) (by omega) (by decide)), a1, fg_bv_some]
    cases hi : tx_item x t u with
    | inl p =>
      rw [hi] at a2
      obtain ⟨d, A, rfl, d2, hp⟩ := a2
      rw [tx_W_d, d2, if_pos (nI_pos' (by omega)), p_fh0 d2 hp, fg_bv_some, ite_self, f_X1_tellTo_L18, if_pos rfl, nI_1, tx_go_l]
      exact ⟨_, rfl, ⟨d, A, rfl, d2, hp⟩, fun u' e => by cases e⟩
    | inr u1 =>
      rw [hi] at a2
      obtain ⟨n', q1, q2, q3⟩ := tx_item_P (lo := u.2.2.1) ⟨hP.1, Nat.le_refl _, hP.2.2⟩ hi
      have r1 := q1.1
      have r2 := q1.2.1
      have r7 := q1.2.2.2.2.2.2
      obtain ⟨d, rfl, d1, d2, d3⟩ := a2
      have dt := d1.2.2.1
      rw [tx_W_d, d2, if_neg (by decide), dt]
      by_cases k2 : u1.2.1 = 2
      · obtain ⟨d', b1, b2, b3, b4⟩ := p_next2 (w0 := w0) (A := u1.1) hx d1 d3
        have s1 := q1.2.2.2.1 (by omega)
        have s2 := (tx_tok_wf x (t := t) (p := u1.2.2.2.1) r2).2
        obtain ⟨w', c1, c2, c3⟩ := ih (c + 1) (fu + 1) n' (u1.1, tx_tok x t u1.2.2.2.1) (tx_W w0 d' u1.1) ⟨d', rfl, b2, b3.trans d2, b4⟩ ⟨b4, by show 2 * (c + 1) ≤ (tx_tok x t u1.2.2.2.1).2.1; omega, q3⟩ (by show t - (tx_tok x t u1.2.2.2.1).2.1 ≤ m; omega) (by omega)
        rw [if_pos (show nI u1.2.1 = 2 by rw [k2]; rfl), b1, fg_bv_some, nI_1, tx_go, if_pos k2]
        exact ⟨w', c1, c2, c3⟩
      · rw [if_neg (show ¬ nI u1.2.1 = 2 from fun e => k2 ((nI_eq (a := u1.2.1) (b := 2) (by omega) (by decide)).mp e)), nI_1]
        by_cases k3 : u1.2.1 = 3
        · rw [if_pos (show nI u1.2.1 = 3 by rw [k3]; rfl), f_X1_tellTo_L18, if_pos rfl, tx_go_3 k3]
          exact ⟨_, rfl, ⟨d, rfl, d1, d2, d3⟩, fun u' e => by cases e; exact ⟨k3, n', _, q1, q2, q3⟩⟩
        · rw [if_neg (show ¬ nI u1.2.1 = 3 from fun e => k3 ((nI_eq (a := u1.2.1) (b := 3) (by omega) (by decide)).mp e)), p_fh d2, fg_bv_some, f_X1_tellTo_L18, if_pos rfl, tx_go, if_neg k2, if_neg k3]
          exact ⟨_, rfl, ⟨_, _, rfl, by rw [bk_same]; exact d1.2.2.2.1, by omega⟩, fun u' e => by cases e⟩
theorem tx_k3 {τ : tx_T} : (nI (tx_k τ) = 3) = (τ.1 = 2) := by
  unfold tx_k
  simp only [eq_iff_iff]
  by_cases h0 : τ.1 = 0
  · rw [if_pos h0]; exact ⟨fun z => absurd z (by decide), fun z => by omega⟩
  · rw [if_neg h0]
    by_cases h1 : τ.1 = 1
    · rw [if_pos h1]
      refine ⟨fun z => ?_, fun z => by omega⟩
      exfalso
      split at z <;> exact absurd z (by decide)
    · rw [if_neg h1]
      by_cases h2 : τ.1 = 2
      · rw [if_pos h2]; exact ⟨fun _ => h2, fun _ => rfl⟩
      · rw [if_neg h2]
        refine ⟨fun z => ?_, fun z => absurd z h2⟩
        exfalso
        split at z <;> exact absurd z (by decide)
theorem tx_k0 {τ : tx_T} : (nI (tx_k τ) = 0) = (τ.1 = 3) := by
  unfold tx_k
  simp only [eq_iff_iff]
  by_cases h0 : τ.1 = 0
  · rw [if_pos h0]; exact ⟨fun z => absurd z (by decide), fun z => by omega⟩
  · rw [if_neg h0]
    by_cases h1 : τ.1 = 1
    · rw [if_pos h1]
      refine ⟨fun z => ?_, fun z => by omega⟩
      exfalso
      split at z <;> exact absurd z (by decide)
    · rw [if_neg h1]
      by_cases h2 : τ.1 = 2
      · rw [if_pos h2]; exact ⟨fun z => absurd z (by decide), fun z => by omega⟩
      · rw [if_neg h2]
        by_cases h3 : τ.1 = 3
        · rw [if_pos h3]; exact ⟨fun _ => h3, fun _ => rfl⟩
        · rw [if_neg h3]; exact ⟨fun z => absurd z (by decide), fun z => absurd z h3⟩
/-- how the reference's loop ends -/
def rE (w0 : fg_W) (x : Nat → Int32) (t : Nat) (K : Int32 → Int32 → fg_W → Option (Int32 × fg_W)) (o : Option (Int32 × fg_W)) (g : Nat × (Nat ⊕ tx_U)) : Prop := match g.2 with
  | .inr u => u.2.1 = 3 ∧ ∃ w', o = K (nI g.1) 1 w' ∧ rs w0 x t u w'
  | .inl p => ∃ (w' : fg_W) (f : Int32), o = K (nI g.1) f w' ∧ rf w0 p w' ∧ (f = 0 ∨ (f = 1 ∧ ¬ w'.1 4 0 0 10 = 0))
theorem m_goL {w0 : fg_W} {x : Nat → Int32} {t : Nat} {z : Int32} (hO : tx_O w0 x t) (K : Int32 → Int32 → fg_W → Option (Int32 × fg_W)) : ∀ (m c fu n lo : Nat) (u : tx_U) (w : fg_W), rs w0 x t u w → tx_P x t lo n z u → t - u.2.2.1 ≤ m → m + 1 < fu → rE w0 x t K (f_X4_text_L20 K fu (nI c) 1 w) (tx_go x t m c (.inr u)) := by
  have ht := hO.1.1
  intro m
  induction m with
  | zero =>
    intro c fu n lo u w h hP hm hf
    obtain ⟨fu, rfl⟩ : ∃ q, fu = q + 1 + 1 := ⟨fu - 2, by omega⟩
    have g1 := hP.1.1
    have g2 := hP.1.2.1
    have k3 : u.2.1 = 3 := by
      by_cases e : u.2.1 = 3
      · exact e
      · have := hP.1.2.2.2.1 e; omega
    rw [f_X4_text_L20, if_neg (by decide), h.2.1.2.2.1, if_neg (fun e => by have := tx_k3.mp e; omega), tx_go_3 k3]
    exact ⟨k3, w, rfl, h⟩
  | succ m ih =>
    intro c fu n lo u w h hP hm hf
    obtain ⟨fu, rfl⟩ : ∃ q, fu = q + 1 + 1 := ⟨fu - 2, by omega⟩
    have g1 := hP.1.1
    have g2 := hP.1.2.1
    rw [f_X4_text_L20, if_neg (by decide), h.2.1.2.2.1, tx_go]
    by_cases k2 : u.2.1 = 2
    · obtain ⟨w1, a1, a2⟩ := m_next2 hO h
      obtain ⟨s1, s2⟩ := tx_tok_wf x (t := t) (p := u.2.2.2.1) g2
      have s3 := hP.1.2.2.2.1 (by omega)
      have I := m_item (u := (u.1, tx_tok x t u.2.2.2.1)) hO hP.2.2.1.1 a2
      rw [if_pos (tx_k3.mpr k2), if_pos k2, a1, fg_bv_some]
      cases hi : tx_item x t (u.1, tx_tok x t u.2.2.2.1) with
      | inl p =>
        rw [hi] at I
        obtain ⟨w2, b1, b2⟩ := I
        rw [b1, fg_bi_some, f_X4_text_L20, if_pos rfl, nI_1, tx_go_l]
        exact ⟨w2, 0, rfl, b2, Or.inl rfl⟩
      | inr u1 =>
        rw [hi] at I
        obtain ⟨w2, b1, b2⟩ := I
        obtain ⟨n', q1, q2, q3⟩ := tx_item_P (lo := (tx_tok x t u.2.2.2.1).2.1) (u := (u.1, tx_tok x t u.2.2.2.1)) ⟨s1, Nat.le_refl _, hP.2.2⟩ hi
        rw [b1, fg_bi_some, nI_1]
        exact ih (c + 1) (fu + 1) n' _ u1 w2 b2 ⟨q1, q2, q3⟩ (by omega) (by omega)
    · rw [if_neg (fun e => k2 (tx_k3.mp e)), if_neg k2]
      by_cases k3 : u.2.1 = 3
      · rw [if_pos k3]; exact ⟨k3, w, rfl, h⟩
      · rw [if_neg k3]
        exact ⟨w, 1, rfl, h.rf, Or.inr ⟨rfl, by rw [h.2.1.2.2.1]; exact fun e => k3 (tx_k0.mp e)⟩⟩
theorem rm.row {w w' : fg_W} {A : Nat → Nat → Int32} (h : rm w A) (e1 : ∀ q, q < 90 → w'.1 4 0 1 q = w.1 4 0 1 q) (e5 : w'.1 4 0 0 5 = w.1 4 0 0 5) : rm w' A := by
  obtain ⟨⟨h1, h2, h3, h4, h5⟩, h6, h7, h8, h9⟩ := h
  refine ⟨⟨?_, ?_, ?_, ?_, ?_⟩, fun j hj => ?_, fun f p hf hp => ?_, fun f k hf hk => ?_, fun j hj => ?_⟩
  · rw [e1 _ (by omega)]; exact h1
  · rw [e1 _ (by omega)]; exact h2
  · rw [e1 _ (by omega)]; exact h3
  · rw [e1 _ (by omega)]; exact h4
  · rw [e5]; exact h5
  · rw [e1 _ (by omega)]; exact h6 j hj
  · rw [e1 _ (by omega)]; exact h7 f p hf hp
  · rw [e1 _ (by omega)]; exact h8 f k hf hk
  · rw [e1 _ (by omega)]; exact h9 j hj
/-- the class's side of a text -/
theorem p_text {w : fg_W} {n : Nat} {x : Nat → Int32} {t : Nat} (hx : tx_by x t) (h1 : w.1 1 0 1 = x) (h2 : w.1 1 0 0 1 = nI t) (hI : bk_I (w.1 2 0) n) (h0 : w.1 2 0 0 11 = 0) : (∃ c u d, tx_go x t t 1 (tx_item x t (bk_bec (w.1 2 1) (w.1 2 0), tx_tok x t 0)) = (c, .inr u) ∧ u.2.1 = 3 ∧ (∃ n', bk_I u.1 n') ∧ u.1 0 11 = 0 ∧ d 0 1 = 0 ∧ f_X3_text w = some (nI c, fg_sw (tx_W w d u.1) 2 0 (bk_bec (w.1 2 0) u.1))) ∨ (∃ c p d A, tx_go x t t 1 (tx_item x t (bk_bec (w.1 2 1) (w.1 2 0), tx_tok x t 0)) = (c, .inl p) ∧ p ≤ 120 ∧ d 0 1 = 0 ∧ f_X3_text w = some (-1 - nI p, tx_W w d A)) := by
  have ht := hx.1
  have hB := bk_bec_eq (w.1 2 1) (w.1 2 0)
  have hIB := hI.eq hB
  have e0 : fg_sw (fg_sw w 2 1 (bk_bec (w.1 2 1) (w.1 2 0))) 1 0 (bk_set (bk_set (w.1 1 0) 0 2 (-1)) 0 5 0) = tx_W w (bk_set (bk_set (w.1 1 0) 0 2 (-1)) 0 5 0) (bk_bec (w.1 2 1) (w.1 2 0)) := by
    unfold tx_W; rw [fg_sw_cm _ 2 1 1 0 _ _ (by decide)]
  obtain ⟨d1, a1, a2, a3⟩ := p_next (x := x) (t := t) (p := 0) (w := tx_W w (bk_set (bk_set (w.1 1 0) 0 2 (-1)) 0 5 0) (bk_bec (w.1 2 1) (w.1 2 0))) hx (by omega) (by rw [tx_W_d, bk_setc _ (by decide), bk_setc _ (by decide)]; exact h1) (by rw [tx_W_d, bk_ne _ _ (Or.inr (by decide)), bk_ne _ _ (Or.inr (by decide))]; exact h2) (by rw [tx_W_d, bk_same]; rfl)
  rw [tx_W_sd] at a1
  rw [tx_W_d, bk_ne _ _ (Or.inr (by decide)), bk_same] at a3
  obtain ⟨s1, s2⟩ := tx_tok_wf x (t := t) (p := 0) (by omega)
  obtain ⟨w', b1, b2, b3⟩ := p_goL (w0 := w) (x := x) (t := t) (z := 0) hx (fun v2_18 v3_18 w_18 => some (v2_18, w_18)) t 0 fg_fuel n (bk_bec (w.1 2 1) (w.1 2 0), tx_tok x t 0) (tx_W w d1 (bk_bec (w.1 2 1) (w.1 2 0))) ⟨d1, rfl, a2, a3, s1⟩ ⟨s1, by omega, hIB, by show bk_bec (w.1 2 1) (w.1 2 0) 0 11 = 0; rw [hB 0 11 (by unfold bk_ok; omega)]; exact h0⟩ (by omega) (by unfold fg_fuel; omega)
  have T : f_X3_text w = fg_let (fg_st w' 1 0 0 (upd (w'.1 1 0 0) 1 0)) (fun w6 => if (w6.1 1 0 0 2) < 0 then (fg_bv (f_X2_become 0 1 w6) (fun w7 => some (nI (tx_go x t t 1 (tx_item x t (bk_bec (w.1 2 1) (w.1 2 0), tx_tok x t 0))).1, w7))) else (some (((-1) - (w6.1 1 0 0 2)), w6))) := by
    unfold f_X3_text f_X1_tellTo
    rw [p_become (by decide), fg_bv_some, fg_let_eq, fg_st_set, fg_let_eq, fg_st_set, fg_sw_at, fg_sw_sw, fg_sw_K w 2 1 1 0 _ (by decide), e0, a1, fg_bv_some, show (0 : Int32) = nI 0 from rfl, b1, fg_bi_some]
  have St : ∀ d A, fg_st (tx_W w d A) 1 0 0 (upd ((tx_W w d A).1 1 0 0) 1 0) = tx_W w (bk_set d 0 1 0) A := fun d A => by rw [fg_st_set, tx_W_d, tx_W_sd]
  cases hg : (tx_go x t t 1 (tx_item x t (bk_bec (w.1 2 1) (w.1 2 0), tx_tok x t 0))).2 with
  | inl p =>
    have hg' : tx_go x t t 1 (tx_item x t (bk_bec (w.1 2 1) (w.1 2 0), tx_tok x t 0)) = ((tx_go x t t 1 (tx_item x t (bk_bec (w.1 2 1) (w.1 2 0), tx_tok x t 0))).1, .inl p) := by rw [← hg]
    have b2 : cr w x t (.inl p) w' := by rw [← hg]; exact b2
    obtain ⟨d, A, rfl, d2, hp⟩ := b2
    refine Or.inr ⟨_, p, bk_set d 0 1 0, A, hg', hp, bk_same _ _ _ _, ?_⟩
    rw [T, St, fg_let_eq, tx_W_d, bk_ne _ _ (Or.inr (by decide)), d2, if_neg (nI_pos (by omega))]
  | inr u =>
    have hg' : tx_go x t t 1 (tx_item x t (bk_bec (w.1 2 1) (w.1 2 0), tx_tok x t 0)) = ((tx_go x t t 1 (tx_item x t (bk_bec (w.1 2 1) (w.1 2 0), tx_tok x t 0))).1, .inr u) := by rw [← hg]
    have b2 : cr w x t (.inr u) w' := by rw [← hg]; exact b2
    obtain ⟨k3, n', lo, q1, q2, q3, q4⟩ := b3 u hg
    obtain ⟨d, rfl, d1, d2, d3⟩ := b2
    refine Or.inl ⟨_, u, bk_set d 0 1 0, hg', k3, ⟨n', q3⟩, q4, bk_same _ _ _ _, ?_⟩
    rw [T, St, fg_let_eq, tx_W_d, bk_ne _ _ (Or.inr (by decide)), d2, if_pos (by decide), p_become (by decide), fg_bv_some, tx_W_A]
    have : (tx_W w (bk_set d 0 1 0) u.1).1 2 0 = w.1 2 0 := by unfold tx_W; rw [fg_sw_i _ _ _ _ _ (by decide), fg_sw_K _ _ _ _ _ _ (by decide)]
    rw [this]
/-- the reference's side of a text -/
theorem m_text {v : fg_W} {A : Nat → Nat → Int32} {n : Nat} {x : Nat → Int32} {t : Nat} (hx : tx_by x t) (h1 : ∀ j, j < t → v.1 4 0 7 j = x j) (h2 : v.1 4 0 0 9 = nI t) (hL : ro_L v) (hr : rm v A) (hI : bk_I A n) (h0 : A 0 11 = 0) : ∃ w' : fg_W, (∀ K i, K ≠ 4 → w'.1 K i = v.1 K i) ∧ (∀ c, c ≠ 0 → c ≠ 1 → c ≠ 3 → w'.1 4 0 c = v.1 4 0 c) ∧ (∀ j, j ≠ 9 → j ≠ 10 → j ≠ 11 → j ≠ 12 → w'.1 4 0 0 j = v.1 4 0 0 j) ∧ w'.1 4 0 0 9 = 0 ∧ ((∃ c u, tx_go x t t 1 (tx_item x t (A, tx_tok x t 0)) = (c, .inr u) ∧ rm w' u.1 ∧ f_X4_text v = some (nI c, w')) ∨ (∃ c p, tx_go x t t 1 (tx_item x t (A, tx_tok x t 0)) = (c, .inl p) ∧ (∀ q, q < 90 → w'.1 4 0 1 q = v.1 4 0 1 q) ∧ f_X4_text v = some (-1 - nI p, w'))) := by
  have ht := hx.1
  obtain ⟨e, a1, a2, a3⟩ := m_asideL (fun v1_2 w_2 => some w_2) 90 0 fg_fuel v (by omega) (by unfold fg_fuel; omega)
  rw [nI_0] at a1
  have T0 : f_X4_setsAside v = some (fg_sw v 4 0 e) := a1
  have S4 : ∀ d, (fg_sw v 4 0 d).1 4 0 = d := fun d => fg_sw_at v 4 0 d
  have E : ∀ c, c ≠ 0 → c ≠ 3 → bk_set e 0 12 0 c = v.1 4 0 c := fun c c0 c3 => by rw [bk_setc _ c0, a2 c c3]
  have E0 : ∀ j, j ≠ 12 → bk_set e 0 12 0 0 j = v.1 4 0 0 j := fun j hj => by rw [bk_ne _ _ (Or.inr hj), a2 0 (by decide)]
  obtain ⟨w4, b1, b2, b3⟩ := m_next (x := x) (t := t) (p := 0) (w := fg_sw v 4 0 (bk_set e 0 12 0)) hx (by omega) (fun j hj => by rw [S4, E 7 (by decide) (by decide)]; exact h1 j hj) (by rw [S4, E0 9 (by decide)]; exact h2) (by rw [S4, bk_same]; rfl)
  have hO : tx_O (fg_sw v 4 0 (bk_set e 0 12 0)) x t := ⟨hx, fun j hj => by rw [S4, E 7 (by decide) (by decide)]; exact h1 j hj, by rw [S4, E0 9 (by decide)]; exact h2, hL.cg (by rw [S4, E 8 (by decide) (by decide)]) (by rw [S4, E 9 (by decide) (by decide)]) (by rw [S4, E 10 (by decide) (by decide)]) (by rw [S4, E 11 (by decide) (by decide)])⟩
  obtain ⟨s1, s2⟩ := tx_tok_wf x (t := t) (p := 0) (by omega)
  have r3 : rm (fg_sw v 4 0 (bk_set e 0 12 0)) A := hr.cg (by rw [S4, E 1 (by decide) (by decide)]) (by rw [S4, E0 5 (by decide)])
  have R0 : rs (fg_sw v 4 0 (bk_set e 0 12 0)) x t (A, tx_tok x t 0) w4 := ⟨r3.q b3, b2, s1, (fs.rf _).q b3⟩
  have I := m_item hO hI.1 R0
  have end0 : rE (fg_sw v 4 0 (bk_set e 0 12 0)) x t (fun v1_20 v2_20 w_20 => if v2_20 = 0 then (fg_let (fg_st w_20 4 0 0 (upd (w_20.1 4 0 0) 9 0)) (fun w9 => fg_bv (f_X4_laysBack  w9) (fun w10 => some (((-1) - (w10.1 4 0 0 11)), w10)))) else (if (w_20.1 4 0 0 10) = 0 then (fg_let (fg_st w_20 4 0 0 (upd (w_20.1 4 0 0) 9 0)) (fun w15 => some (v1_20, w15))) else (fg_let (fg_st w_20 4 0 0 (upd (w_20.1 4 0 0) 9 0)) (fun w12 => fg_bv (f_X4_laysBack  w12) (fun w13 => some (((-1) - (w13.1 4 0 0 11)), w13)))))) (f_X4_text v) (tx_go x t t 1 (tx_item x t (A, tx_tok x t 0))) := by
    unfold f_X4_text
    rw [T0, fg_bv_some, fg_let_eq, fg_st_set, S4, fg_sw_sw, b1, fg_bv_some]
    cases hi : tx_item x t (A, tx_tok x t 0) with
    | inl p =>
      rw [hi] at I
      obtain ⟨w2, c1, c2⟩ := I
      rw [c1, fg_bi_some, show fg_fuel = 999 + 1 from rfl, f_X4_text_L20, if_pos rfl, tx_go_l]
      exact ⟨w2, 0, rfl, c2, Or.inl rfl⟩
    | inr u1 =>
      rw [hi] at I
      obtain ⟨w2, c1, c2⟩ := I
      obtain ⟨n', q1, q2, q3⟩ := tx_item_P (lo := (tx_tok x t 0).2.1) (z := 0) (u := (A, tx_tok x t 0)) ⟨s1, Nat.le_refl _, hI, h0⟩ hi
      rw [c1, fg_bi_some]
      exact m_goL hO _ t 1 fg_fuel n' _ u1 w2 c2 ⟨q1, q2, q3⟩ (by omega) (by unfold fg_fuel; omega)
  have fr : ∀ w' : fg_W, fs (fg_sw v 4 0 (bk_set e 0 12 0)) w' → (∀ K i, K ≠ 4 → w'.1 K i = v.1 K i) ∧ (∀ c, c ≠ 0 → c ≠ 1 → c ≠ 3 → w'.1 4 0 c = v.1 4 0 c) ∧ (∀ j, j ≠ 10 → j ≠ 11 → j ≠ 12 → w'.1 4 0 0 j = v.1 4 0 0 j) ∧ (∀ q, q < 90 → w'.1 4 0 3 q = v.1 4 0 1 q) := fun w' f => by
    refine ⟨fun K i hK => ?_, fun c c0 c1 c3 => ?_, fun j j1 j2 j3 => ?_, fun q hq => ?_⟩
    · rw [f.1 K i hK, fg_sw_K _ _ _ _ _ _ hK]
    · rw [f.2.1 c c0 c1, S4, E c c0 c3]
    · rw [f.2.2 j j1 j2 j3, S4, E0 j j3]
    · rw [f.2.1 3 (by decide) (by decide), S4, bk_setc _ (by decide), a3 q, if_pos ⟨by omega, hq⟩]
  cases hg : tx_go x t t 1 (tx_item x t (A, tx_tok x t 0)) with
  | mk c r =>
    rw [hg] at end0
    cases r with
    | inr u =>
      obtain ⟨k3, w', d1, d2⟩ := end0
      obtain ⟨f1, f2, f3, f4⟩ := fr w' d2.2.2.2
      refine ⟨fg_sw w' 4 0 (bk_set (w'.1 4 0) 0 9 0), fun K i hK => ?_, fun q q0 q1 q3 => ?_, fun j j9 j1 j2 j3 => ?_, ?_, Or.inl ⟨c, u, rfl, ?_, ?_⟩⟩
      · rw [fg_sw_K _ _ _ _ _ _ hK]; exact f1 K i hK
      · rw [fg_sw_at, bk_setc _ q0]; exact f2 q q0 q1 q3
      · rw [fg_sw_at, bk_ne _ _ (Or.inr j9)]; exact f3 j j1 j2 j3
      · rw [fg_sw_at, bk_same]
      · exact d2.1.cg (by rw [fg_sw_at, bk_setc _ (by decide)]) (by rw [fg_sw_at, bk_ne _ _ (Or.inr (by decide))])
      · rw [d1]
        show (if (1 : Int32) = 0 then _ else _) = _
        rw [if_neg (by decide), d2.2.1.2.2.1, if_pos (tx_k0.mpr k3), fg_let_eq, fg_st_set]
    | inl p =>
      obtain ⟨w', f, d1, ⟨d2, d3⟩, d4⟩ := end0
      obtain ⟨f1, f2, f3, f4⟩ := fr w' d3
      obtain ⟨e', b1, b2, b3⟩ := m_backL (fun v1_2 w_2 => some w_2) 90 0 fg_fuel (fg_sw w' 4 0 (bk_set (w'.1 4 0) 0 9 0)) (by omega) (by unfold fg_fuel; omega)
      rw [nI_0, fg_sw_sw] at b1
      rw [fg_sw_at] at b2 b3
      have T1 : f_X4_laysBack (fg_sw w' 4 0 (bk_set (w'.1 4 0) 0 9 0)) = some (fg_sw w' 4 0 e') := b1
      have R : f_X4_text v = some (-1 - nI p, fg_sw w' 4 0 e') := by
        have fin : fg_let (fg_st w' 4 0 0 (upd (w'.1 4 0 0) 9 0)) (fun w9 => fg_bv (f_X4_laysBack  w9) (fun w10 => some (((-1) - (w10.1 4 0 0 11)), w10))) = some (-1 - nI p, fg_sw w' 4 0 e') := by
          rw [fg_let_eq, fg_st_set, T1, fg_bv_some, fg_sw_at, b2 0 (by decide), bk_ne _ _ (Or.inr (by decide)), d2]
        rw [d1]
        rcases d4 with rfl | ⟨rfl, d5⟩
        · show (if (0 : Int32) = 0 then _ else _) = _
          rw [if_pos rfl]; exact fin
        · show (if (1 : Int32) = 0 then _ else _) = _
          rw [if_neg (by decide), if_neg d5]; exact fin
      refine ⟨fg_sw w' 4 0 e', fun K i hK => ?_, fun q q0 q1 q3 => ?_, fun j j9 j1 j2 j3 => ?_, ?_, Or.inr ⟨c, p, rfl, fun q hq => ?_, R⟩⟩
      · rw [fg_sw_K _ _ _ _ _ _ hK]; exact f1 K i hK
      · rw [fg_sw_at, b2 q q1, bk_setc _ q0]; exact f2 q q0 q1 q3
      · rw [fg_sw_at, b2 0 (by decide), bk_ne _ _ (Or.inr j9)]; exact f3 j j1 j2 j3
      · rw [fg_sw_at, b2 0 (by decide), bk_same]
      · rw [fg_sw_at, b3 q, if_pos ⟨by omega, hq⟩, bk_nc _ _ (by decide)]; exact f4 q hq
theorem ag_text {w : fg_W} (h : rr w) : ag (f_X3_text w) (fun w => f_X4_text w) := by
  obtain ⟨n, h1, h2, h3, h4⟩ := h
  obtain ⟨hK, hF, ⟨t, ht, hT1, hT2, hT3⟩, hS, hL⟩ := h4
  have hx : tx_by (w.1 1 0 1) t := ⟨ht, fun j hj => by rw [(hT3 j hj).1]; exact (hT3 j hj).2⟩
  have hB := bk_bec_eq (w.1 2 1) (w.1 2 0)
  have R : ∀ v : fg_W, v.1 4 0 = w.1 4 0 → ∃ w' : fg_W, (∀ K i, K ≠ 4 → w'.1 K i = v.1 K i) ∧ (∀ c, c ≠ 0 → c ≠ 1 → c ≠ 3 → w'.1 4 0 c = w.1 4 0 c) ∧ (∀ j, j ≠ 9 → j ≠ 10 → j ≠ 11 → j ≠ 12 → w'.1 4 0 0 j = w.1 4 0 0 j) ∧ w'.1 4 0 0 9 = 0 ∧ ((∃ c u, tx_go (w.1 1 0 1) t t 1 (tx_item (w.1 1 0 1) t (bk_bec (w.1 2 1) (w.1 2 0), tx_tok (w.1 1 0 1) t 0)) = (c, .inr u) ∧ rm w' u.1 ∧ f_X4_text v = some (nI c, w')) ∨ (∃ c p, tx_go (w.1 1 0 1) t t 1 (tx_item (w.1 1 0 1) t (bk_bec (w.1 2 1) (w.1 2 0), tx_tok (w.1 1 0 1) t 0)) = (c, .inl p) ∧ (∀ q, q < 90 → w'.1 4 0 1 q = w.1 4 0 1 q) ∧ f_X4_text v = some (-1 - nI p, w'))) := fun v e => by
    have := m_text (v := v) (A := bk_bec (w.1 2 1) (w.1 2 0)) (n := n) (x := w.1 1 0 1) (t := t) hx (fun j hj => by rw [e]; exact (hT3 j hj).1.symm) (by rw [e]; exact hT2) (hL.cg (by rw [e]) (by rw [e]) (by rw [e]) (by rw [e])) ((h1.eq hB).of e) (h2.eq hB) (by rw [hB 0 11 (by unfold bk_ok; omega)]; exact h3)
    rw [e] at this
    exact this
  have fin : ∀ (v w' : fg_W) (d : Nat → Nat → Int32), v.1 1 0 = d → d 0 1 = 0 → v.1 3 0 = w.1 3 0 → v.1 2 2 = w.1 2 2 → (∀ s, v.1 0 s = w.1 0 s) → (∀ K i, K ≠ 4 → w'.1 K i = v.1 K i) → (∀ c, c ≠ 0 → c ≠ 1 → c ≠ 3 → w'.1 4 0 c = w.1 4 0 c) → (∀ j, j ≠ 9 → j ≠ 10 → j ≠ 11 → j ≠ 12 → w'.1 4 0 0 j = w.1 4 0 0 j) → w'.1 4 0 0 9 = 0 → ro w' := by
    intro v w' d v1 v2 v3 v4 v5 f1 f2 f3 f4
    refine ⟨?_, ?_, ?_, ?_, ?_⟩
    · exact hK.cg (by rw [f1 3 0 (by decide), v3]) (f3 3 (by decide) (by decide) (by decide) (by decide)) (by rw [f1 2 2 (by decide), v4]) (f2 2 (by decide) (by decide) (by decide))
    · exact hF.cg (by rw [f1 3 0 (by decide), v3]) (f2 4 (by decide) (by decide) (by decide))
    · exact ⟨0, by omega, by rw [f1 1 0 (by decide), v1]; exact v2, f4, fun j hj => absurd hj (by omega)⟩
    · exact hS.cg (fun s _ => by rw [f1 0 s (by decide), v5]) (f2 12 (by decide) (by decide) (by decide)) (f2 13 (by decide) (by decide) (by decide)) (f2 14 (by decide) (by decide) (by decide))
    · exact hL.cg (f2 8 (by decide) (by decide) (by decide)) (f2 9 (by decide) (by decide) (by decide)) (f2 10 (by decide) (by decide) (by decide)) (f2 11 (by decide) (by decide) (by decide))
  have W1 : ∀ d A (K i : Nat), ¬ (K = 1 ∧ i = 0) → ¬ (K = 2 ∧ i = 1) → (tx_W w d A).1 K i = w.1 K i := fun d A K i n1 n2 => by
    unfold tx_W
    by_cases e2 : K = 2
    · subst e2; rw [fg_sw_i _ _ _ _ _ (by omega), fg_sw_K _ _ _ _ _ _ (by decide)]
    · rw [fg_sw_K _ _ _ _ _ _ e2]
      by_cases e1 : K = 1
      · subst e1; rw [fg_sw_i _ _ _ _ _ (by omega)]
      · rw [fg_sw_K _ _ _ _ _ _ e1]
  rcases p_text (x := w.1 1 0 1) (t := t) hx rfl hT1 h2 h3 with ⟨c, u, d, g1, g2, ⟨n', g3⟩, g4, g5, g6⟩ | ⟨c, p, d, A, g1, g2, g5, g6⟩
  · obtain ⟨w', f1, f2, f3, f4, f5⟩ := R (fg_sw (tx_W w d u.1) 2 0 (bk_bec (w.1 2 0) u.1)) (by rw [fg_sw_K _ _ _ _ _ _ (by decide), W1 _ _ _ _ (by omega) (by omega)])
    have hC := bk_bec_eq (w.1 2 0) u.1
    have e20 : w'.1 2 0 = bk_bec (w.1 2 0) u.1 := by rw [f1 2 0 (by decide), fg_sw_at]
    have hro := fin _ w' d (by rw [fg_sw_K _ _ _ _ _ _ (by decide), tx_W_d]) g5 (by rw [fg_sw_K _ _ _ _ _ _ (by decide), W1 _ _ _ _ (by omega) (by omega)]) (by rw [fg_sw_i _ _ _ _ _ (by decide), W1 _ _ _ _ (by omega) (by omega)]) (fun s => by rw [fg_sw_K _ _ _ _ _ _ (by decide), W1 _ _ _ _ (by omega) (by omega)]) f1 f2 f3 f4
    rcases f5 with ⟨c', u', q1, q2, q3⟩ | ⟨c', p', q1, q2, q3⟩
    · rw [g1] at q1
      cases q1
      refine ⟨nI c, _, w', g6, q3, n', ?_, ?_, ?_, hro⟩
      · rw [e20]; exact q2.eq hC
      · rw [e20]; exact g3.eq hC
      · rw [e20, hC 0 11 (by unfold bk_ok; omega)]; exact g4
    · rw [g1] at q1
      cases q1
  · obtain ⟨w', f1, f2, f3, f4, f5⟩ := R (tx_W w d A) (W1 _ _ _ _ (by omega) (by omega))
    have e20 : w'.1 2 0 = w.1 2 0 := by rw [f1 2 0 (by decide), W1 _ _ _ _ (by omega) (by omega)]
    have hro := fin _ w' d (tx_W_d _ _ _) g5 (W1 _ _ _ _ (by omega) (by omega)) (W1 _ _ _ _ (by omega) (by omega)) (fun s => W1 _ _ _ _ (by omega) (by omega)) f1 f2 f3 f4
    rcases f5 with ⟨c', u', q1, q2, q3⟩ | ⟨c', p', q1, q2, q3⟩
    · rw [g1] at q1
      cases q1
    · rw [g1] at q1
      cases q1
      refine ⟨-1 - nI p, _, w', g6, q3, n, ?_, ?_, ?_, hro⟩
      · rw [e20]; exact h1.row q2 (f3 5 (by decide) (by decide) (by decide) (by decide))
      · rw [e20]; exact h2
      · rw [e20]; exact h3
