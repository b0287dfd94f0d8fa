-- texts: the reference's items
def rf (w0 : fg_W) (p : Nat) (w : fg_W) : Prop := w.1 4 0 0 11 = nI p ∧ fs w0 w
def rq (w0 : fg_W) (x : Nat → Int32) (t : Nat) (r : Nat ⊕ tx_U) (o : Option (Int32 × fg_W)) : Prop := match r with
  | .inr u => ∃ w', o = some (1, w') ∧ rs w0 x t u w'
  | .inl p => ∃ w', o = some (0, w') ∧ rf w0 p w'
theorem rs.rf {w0 : fg_W} {x : Nat → Int32} {t : Nat} {u : tx_U} {w : fg_W} (h : rs w0 x t u w) : rf w0 u.2.2.1 w := ⟨h.2.1.1, h.2.2.2⟩
theorem rs.set {w0 : fg_W} {x : Nat → Int32} {t : Nat} {A B : Nat → Nat → Int32} {τ : tx_T} {w : fg_W} (h : rs w0 x t (A, τ) w) (j : Nat) (v : Int32) (g : rm (fg_sw w 4 0 (bk_set (w.1 4 0) 1 j v)) B) : rs w0 x t (B, τ) (fg_sw w 4 0 (bk_set (w.1 4 0) 1 j v)) := by
  obtain ⟨h1, h2, h3, h4⟩ := h
  refine ⟨g, ?_, h3, h4.set j v⟩
  unfold tr at h2 ⊢
  rw [fg_sw_at, bk_setc _ (by decide)]
  exact h2
/-- a number is told, and laid down -/
theorem m_br {w0 : fg_W} {x : Nat → Int32} {t c k ix : Nat} {A : Nat → Nat → Int32} {τ : tx_T} {w : fg_W} {hi : Int32} {P : Int32 → fg_W → Option fg_W} (C : fg_W → Option (Int32 × fg_W)) (hh : hi ≤ 9999) (hO : tx_O w0 x t) (h : rs w0 x t (A, τ) w) (hP : ∀ (v : Int32) (w1 : fg_W), rm w1 A → P v w1 = some (fg_sw w1 4 0 (bk_set (w1.1 4 0) 1 ix v)) ∧ rm (fg_sw w1 4 0 (bk_set (w1.1 4 0) 1 ix v)) (bk_set A c k v)) : (tx_n τ hi = true ∧ ∃ w', fg_bi (f_X4_takesNumber 0 hi w) (fun r w21 => if 0 ≤ r then fg_bv (P r w21) C else some (0, w21)) = C w' ∧ rs w0 x t (bk_set A c k (nI τ.2.2.2), tx_tok x t τ.2.2.1) w') ∨ (tx_n τ hi = false ∧ fg_bi (f_X4_takesNumber 0 hi w) (fun r w21 => if 0 ≤ r then fg_bv (P r w21) C else some (0, w21)) = some (0, w)) := by
  have hv : τ.2.2.2 ≤ 10000 := h.2.2.1.2.2.2.2.2.1
  rcases m_numb hh hO h with ⟨a0, w', a1, a2⟩ | ⟨a0, a1⟩
  · obtain ⟨p1, p2⟩ := hP (nI τ.2.2.2) w' a2.1
    refine Or.inl ⟨a0, _, ?_, a2.set ix (nI τ.2.2.2) p2⟩
    rw [a1, fg_bi_some, if_pos (nI_pos' (show τ.2.2.2 < 2 ^ 31 by omega)), p1, fg_bv_some]
  · refine Or.inr ⟨a0, ?_⟩
    rw [a1, fg_bi_some, if_neg (by decide)]
theorem m_fP0 {w0 w : fg_W} {x : Nat → Int32} {t k fu : Nat} {u : tx_U} (K : Int32 → fg_W → Option (Int32 × fg_W)) (hk : k < 8) (hO : tx_O w0 x t) (h : rs w0 x t u w) : (∃ u' w', tx_f x t 10 (fun _ => 9) 6 k u = .inr u' ∧ rs w0 x t u' w' ∧ f_X4_readsPerson_L31 (nI k) K (fu + 1) (nI 0) w = f_X4_readsPerson_L31 (nI k) K fu (nI 1) w') ∨ (∃ p w', tx_f x t 10 (fun _ => 9) 6 k u = .inl p ∧ rf w0 p w' ∧ f_X4_readsPerson_L31 (nI k) K (fu + 1) (nI 0) w = some (0, w')) := by
  rw [f_X4_readsPerson_L31, if_neg (show ¬ (3 : Int32) ≤ nI 0 by decide), (m_row hO h).2.1, fg_bi_some]
  unfold tx_f
  by_cases hc : tx_w x u.2 10 = true
  · obtain ⟨w1, a1, a2⟩ := m_next2 hO h
    rw [if_pos ((tx_sv_i (b := 10) (cnt := 3) (j := 0) (by decide) (by decide)).mpr hc), a1, fg_bv_some, if_pos (show nI 0 = 0 from rfl), if_pos hc, nI_1]
    rcases m_br (c := 6) (k := k) (ix := 40 + 5 * k + 1) (P := fun r w21 => f_X4_puts (nI k) (1 + nI 0) r w21) (fun w24 => f_X4_readsPerson_L31 (nI k) K fu (nI (0 + 1)) w24) (hi := 9) (by decide) hO a2 (fun v w1 g => ⟨m_puts 1 v hk (by decide), g.per (f := 1) (k := k) v (by decide) hk⟩) with ⟨b0, w2, b1, b2⟩ | ⟨b0, b1⟩
    · exact Or.inl ⟨_, w2, by rw [if_pos b0], b2, b1⟩
    · exact Or.inr ⟨_, w1, by rw [b0, if_neg (by decide)], a2.rf, b1⟩
  · rw [if_neg (fun z => hc ((tx_sv_i (b := 10) (cnt := 3) (j := 0) (by decide) (by decide)).mp z)), if_neg hc, nI_1]
    exact Or.inl ⟨u, w, rfl, h, rfl⟩
theorem m_fP1 {w0 w : fg_W} {x : Nat → Int32} {t k fu : Nat} {u : tx_U} (K : Int32 → fg_W → Option (Int32 × fg_W)) (hk : k < 8) (hO : tx_O w0 x t) (h : rs w0 x t u w) : (∃ u' w', tx_f x t 11 (fun _ => 99) 7 k u = .inr u' ∧ rs w0 x t u' w' ∧ f_X4_readsPerson_L31 (nI k) K (fu + 1) (nI 1) w = f_X4_readsPerson_L31 (nI k) K fu (nI 2) w') ∨ (∃ p w', tx_f x t 11 (fun _ => 99) 7 k u = .inl p ∧ rf w0 p w' ∧ f_X4_readsPerson_L31 (nI k) K (fu + 1) (nI 1) w = some (0, w')) := by
  rw [f_X4_readsPerson_L31, if_neg (show ¬ (3 : Int32) ≤ nI 1 by decide), (m_row hO h).2.1, fg_bi_some]
  unfold tx_f
  by_cases hc : tx_w x u.2 11 = true
  · obtain ⟨w1, a1, a2⟩ := m_next2 hO h
    rw [if_pos ((tx_sv_i (b := 10) (cnt := 3) (j := 1) (by decide) (by decide)).mpr hc), a1, fg_bv_some, if_neg (show ¬ nI 1 = 0 by decide), if_pos (show nI 1 = 1 from rfl), if_pos hc, nI_1]
    rcases m_br (c := 7) (k := k) (ix := 40 + 5 * k + 2) (P := fun r w21 => f_X4_puts (nI k) (1 + nI 1) r w21) (fun w24 => f_X4_readsPerson_L31 (nI k) K fu (nI (1 + 1)) w24) (hi := 99) (by decide) hO a2 (fun v w1 g => ⟨m_puts 2 v hk (by decide), g.per (f := 2) (k := k) v (by decide) hk⟩) with ⟨b0, w2, b1, b2⟩ | ⟨b0, b1⟩
    · exact Or.inl ⟨_, w2, by rw [if_pos b0], b2, b1⟩
    · exact Or.inr ⟨_, w1, by rw [b0, if_neg (by decide)], a2.rf, b1⟩
  · rw [if_neg (fun z => hc ((tx_sv_i (b := 10) (cnt := 3) (j := 1) (by decide) (by decide)).mp z)), if_neg hc, nI_1]
    exact Or.inl ⟨u, w, rfl, h, rfl⟩
theorem m_fP2 {w0 w : fg_W} {x : Nat → Int32} {t k fu : Nat} {u : tx_U} (K : Int32 → fg_W → Option (Int32 × fg_W)) (hk : k < 8) (hO : tx_O w0 x t) (h : rs w0 x t u w) : (∃ u' w', tx_f x t 12 (fun _ => 9999) 8 k u = .inr u' ∧ rs w0 x t u' w' ∧ f_X4_readsPerson_L31 (nI k) K (fu + 1) (nI 2) w = f_X4_readsPerson_L31 (nI k) K fu (nI 3) w') ∨ (∃ p w', tx_f x t 12 (fun _ => 9999) 8 k u = .inl p ∧ rf w0 p w' ∧ f_X4_readsPerson_L31 (nI k) K (fu + 1) (nI 2) w = some (0, w')) := by
  rw [f_X4_readsPerson_L31, if_neg (show ¬ (3 : Int32) ≤ nI 2 by decide), (m_row hO h).2.1, fg_bi_some]
  unfold tx_f
  by_cases hc : tx_w x u.2 12 = true
  · obtain ⟨w1, a1, a2⟩ := m_next2 hO h
    rw [if_pos ((tx_sv_i (b := 10) (cnt := 3) (j := 2) (by decide) (by decide)).mpr hc), a1, fg_bv_some, if_neg (show ¬ nI 2 = 0 by decide), if_neg (show ¬ nI 2 = 1 by decide), if_pos hc, nI_1]
    rcases m_br (c := 8) (k := k) (ix := 40 + 5 * k + 3) (P := fun r w21 => f_X4_puts (nI k) (1 + nI 2) r w21) (fun w24 => f_X4_readsPerson_L31 (nI k) K fu (nI (2 + 1)) w24) (hi := 9999) (by decide) hO a2 (fun v w1 g => ⟨m_puts 3 v hk (by decide), g.per (f := 3) (k := k) v (by decide) hk⟩) with ⟨b0, w2, b1, b2⟩ | ⟨b0, b1⟩
    · exact Or.inl ⟨_, w2, by rw [if_pos b0], b2, b1⟩
    · exact Or.inr ⟨_, w1, by rw [b0, if_neg (by decide)], a2.rf, b1⟩
  · rw [if_neg (fun z => hc ((tx_sv_i (b := 10) (cnt := 3) (j := 2) (by decide) (by decide)).mp z)), if_neg hc, nI_1]
    exact Or.inl ⟨u, w, rfl, h, rfl⟩
theorem m_per {w0 w : fg_W} {x : Nat → Int32} {t q n : Nat} {u : tx_U} (hO : tx_O w0 x t) (hN : bk_N u.1 n) (h : rs w0 x t u w) : rq w0 x t (tx_per x t q u) (f_X4_readsPerson (nI q) w) := by
  have h8 := hN.2
  have hn : tx_pn u.1 = n := by unfold tx_pn; rw [hN.1, nI_clamp (by omega)]
  have hp : w.1 4 0 1 1 = nI n := h.1.1.2.1.trans hN.1
  unfold tx_per f_X4_readsPerson
  rw [hn, hp]
  by_cases hc : n < 8
  · rw [if_neg (show ¬ nI n = 8 from fun z => by have := (nI_eq (a := n) (b := 8) (by omega) (by decide)).mp z; omega), if_pos hc, fg_let_eq]
    obtain ⟨w1, a1, a2, e, a3, a4⟩ := m_adds h.1 hN hc (nI q)
    have h1 : rs w0 x t (bk_addp u.1 n (nI q), u.2) w1 := by
      refine ⟨a2, ?_, h.2.2.1, ?_⟩
      · have := h.2.1
        unfold tr at this ⊢
        rw [a3, fg_sw_at, a4 0 (by decide)]
        exact this
      · have f := h.2.2.2
        refine ⟨fun K i hK => ?_, fun c c0 c1 => ?_, fun j a b c => ?_⟩
        · rw [a3, fg_sw_K _ _ _ _ _ _ hK]; exact f.1 K i hK
        · rw [a3, fg_sw_at, a4 c c1]; exact f.2.1 c c0 c1
        · rw [a3, fg_sw_at, a4 0 (by decide)]; exact f.2.2 j a b c
    obtain ⟨w2, b1, b2⟩ := m_next2 hO h1
    rw [a1, fg_bv_some, b1, fg_bv_some, show fg_fuel = 996 + 1 + 1 + 1 + 1 from rfl, show (0 : Int32) = nI 0 from rfl]
    rcases m_fP0 (fu := 996 + 1 + 1 + 1) (fun v3_31 w_31 => some (1, w_31)) hc hO b2 with ⟨u1, w3, c1, c2, c3⟩ | ⟨p, w3, c1, c2, c3⟩
    · rw [c3, c1]
      show rq w0 x t (tx_b (tx_f x t 11 (fun _ => 99) 7 n u1) (tx_f x t 12 (fun _ => 9999) 8 n)) _
      rcases m_fP1 (fu := 996 + 1 + 1) (fun v3_31 w_31 => some (1, w_31)) hc hO c2 with ⟨u2, w4, d1, d2, d3⟩ | ⟨p, w4, d1, d2, d3⟩
      · rw [d3, d1]
        show rq w0 x t (tx_f x t 12 (fun _ => 9999) 8 n u2) _
        rcases m_fP2 (fu := 996 + 1) (fun v3_31 w_31 => some (1, w_31)) hc hO d2 with ⟨u3, w5, e1, e2, e3⟩ | ⟨p, w5, e1, e2, e3⟩
        · rw [e3, e1, f_X4_readsPerson_L31, if_pos (by decide)]
          exact ⟨w5, rfl, e2⟩
        · rw [e3, e1]; exact ⟨w5, rfl, e2⟩
      · rw [d3, d1]; exact ⟨w4, rfl, d2⟩
    · rw [c3, c1]; exact ⟨w3, rfl, c2⟩
  · rw [if_pos (show nI n = 8 by rw [show n = 8 by omega]; rfl), if_neg hc]
    exact ⟨w, rfl, h.rf⟩
theorem m_fL0 {w0 w : fg_W} {x : Nat → Int32} {t k fu : Nat} {u : tx_U} (K : Int32 → fg_W → Option (Int32 × fg_W)) (hk : k < 10) (hO : tx_O w0 x t) (h : rs w0 x t u w) : (∃ u' w', tx_f x t 13 (fun _ => 99) 1 k u = .inr u' ∧ rs w0 x t u' w' ∧ f_X4_readsLot_L16 (nI k) K (fu + 1) (nI 0) w = f_X4_readsLot_L16 (nI k) K fu (nI 1) w') ∨ (∃ p w', tx_f x t 13 (fun _ => 99) 1 k u = .inl p ∧ rf w0 p w' ∧ f_X4_readsLot_L16 (nI k) K (fu + 1) (nI 0) w = some (0, w')) := by
  rw [f_X4_readsLot_L16, if_neg (show ¬ (3 : Int32) ≤ nI 0 by decide), (m_row hO h).2.2.2, fg_bi_some]
  unfold tx_f
  by_cases hc : tx_w x u.2 13 = true
  · obtain ⟨w1, a1, a2⟩ := m_next2 hO h
    rw [if_pos ((tx_sv_i (b := 13) (cnt := 3) (j := 0) (by decide) (by decide)).mpr hc), a1, fg_bv_some, if_pos (show nI 0 = 0 from rfl), if_pos hc, nI_1]
    rcases m_br (c := 1) (k := k) (ix := 10 + 3 * k + 0) (P := fun r w21 => f_X4_lays1 (nI k) (nI 0) r w21) (fun w24 => f_X4_readsLot_L16 (nI k) K fu (nI (0 + 1)) w24) (hi := 99) (by decide) hO a2 (fun v w1 g => ⟨m_lays1 0 v hk (by decide), g.lot (f := 0) (p := k) v (by decide) hk⟩) with ⟨b0, w2, b1, b2⟩ | ⟨b0, b1⟩
    · exact Or.inl ⟨_, w2, by rw [if_pos b0], b2, b1⟩
    · exact Or.inr ⟨_, w1, by rw [b0, if_neg (by decide)], a2.rf, b1⟩
  · rw [if_neg (fun z => hc ((tx_sv_i (b := 13) (cnt := 3) (j := 0) (by decide) (by decide)).mp z)), if_neg hc, nI_1]
    exact Or.inl ⟨u, w, rfl, h, rfl⟩
theorem m_fL1 {w0 w : fg_W} {x : Nat → Int32} {t k fu : Nat} {u : tx_U} (K : Int32 → fg_W → Option (Int32 × fg_W)) (hk : k < 10) (hO : tx_O w0 x t) (h : rs w0 x t u w) : (∃ u' w', tx_f x t 14 (fun _ => 20) 2 k u = .inr u' ∧ rs w0 x t u' w' ∧ f_X4_readsLot_L16 (nI k) K (fu + 1) (nI 1) w = f_X4_readsLot_L16 (nI k) K fu (nI 2) w') ∨ (∃ p w', tx_f x t 14 (fun _ => 20) 2 k u = .inl p ∧ rf w0 p w' ∧ f_X4_readsLot_L16 (nI k) K (fu + 1) (nI 1) w = some (0, w')) := by
  rw [f_X4_readsLot_L16, if_neg (show ¬ (3 : Int32) ≤ nI 1 by decide), (m_row hO h).2.2.2, fg_bi_some]
  unfold tx_f
  by_cases hc : tx_w x u.2 14 = true
  · obtain ⟨w1, a1, a2⟩ := m_next2 hO h
    rw [if_pos ((tx_sv_i (b := 13) (cnt := 3) (j := 1) (by decide) (by decide)).mpr hc), a1, fg_bv_some, if_neg (show ¬ nI 1 = 0 by decide), if_pos (show nI 1 = 1 from rfl), if_pos hc, nI_1]
    rcases m_br (c := 2) (k := k) (ix := 10 + 3 * k + 1) (P := fun r w21 => f_X4_lays1 (nI k) (nI 1) r w21) (fun w24 => f_X4_readsLot_L16 (nI k) K fu (nI (1 + 1)) w24) (hi := 20) (by decide) hO a2 (fun v w1 g => ⟨m_lays1 1 v hk (by decide), g.lot (f := 1) (p := k) v (by decide) hk⟩) with ⟨b0, w2, b1, b2⟩ | ⟨b0, b1⟩
    · exact Or.inl ⟨_, w2, by rw [if_pos b0], b2, b1⟩
    · exact Or.inr ⟨_, w1, by rw [b0, if_neg (by decide)], a2.rf, b1⟩
  · rw [if_neg (fun z => hc ((tx_sv_i (b := 13) (cnt := 3) (j := 1) (by decide) (by decide)).mp z)), if_neg hc, nI_1]
    exact Or.inl ⟨u, w, rfl, h, rfl⟩
theorem m_fL2 {w0 w : fg_W} {x : Nat → Int32} {t k fu : Nat} {u : tx_U} (K : Int32 → fg_W → Option (Int32 × fg_W)) (hk : k < 10) (hh : u.1 0 5 - 1 ≤ 9999) (hO : tx_O w0 x t) (h : rs w0 x t u w) : (∃ u' w', tx_f x t 15 (fun A => A 0 5 - 1) 3 k u = .inr u' ∧ rs w0 x t u' w' ∧ f_X4_readsLot_L16 (nI k) K (fu + 1) (nI 2) w = f_X4_readsLot_L16 (nI k) K fu (nI 3) w') ∨ (∃ p w', tx_f x t 15 (fun A => A 0 5 - 1) 3 k u = .inl p ∧ rf w0 p w' ∧ f_X4_readsLot_L16 (nI k) K (fu + 1) (nI 2) w = some (0, w')) := by
  rw [f_X4_readsLot_L16, if_neg (show ¬ (3 : Int32) ≤ nI 2 by decide), (m_row hO h).2.2.2, fg_bi_some]
  unfold tx_f
  by_cases hc : tx_w x u.2 15 = true
  · obtain ⟨w1, a1, a2⟩ := m_next2 hO h
    rw [if_pos ((tx_sv_i (b := 13) (cnt := 3) (j := 2) (by decide) (by decide)).mpr hc), a1, fg_bv_some, if_neg (show ¬ nI 2 = 0 by decide), if_neg (show ¬ nI 2 = 1 by decide), if_pos hc, nI_1, a2.1.1.2.1]
    rcases m_br (c := 3) (k := k) (ix := 10 + 3 * k + 2) (P := fun r w21 => f_X4_lays1 (nI k) (nI 2) r w21) (fun w24 => f_X4_readsLot_L16 (nI k) K fu (nI (2 + 1)) w24) (hi := (u.1 0 5 - 1)) hh hO a2 (fun v w1 g => ⟨m_lays1 2 v hk (by decide), g.lot (f := 2) (p := k) v (by decide) hk⟩) with ⟨b0, w2, b1, b2⟩ | ⟨b0, b1⟩
    · exact Or.inl ⟨_, w2, by rw [if_pos b0], b2, b1⟩
    · exact Or.inr ⟨_, w1, by rw [b0, if_neg (by decide)], a2.rf, b1⟩
  · rw [if_neg (fun z => hc ((tx_sv_i (b := 13) (cnt := 3) (j := 2) (by decide) (by decide)).mp z)), if_neg hc, nI_1]
    exact Or.inl ⟨u, w, rfl, h, rfl⟩
theorem tx_f_05 {x : Nat → Int32} {t sx c k : Nat} {hp : (Nat → Nat → Int32) → Int32} {u u' : tx_U} (hc : c ≠ 0) (e : tx_f x t sx hp c k u = .inr u') : u'.1 0 5 = u.1 0 5 := by
  unfold tx_f at e
  by_cases q1 : tx_w x u.2 sx
  · rw [if_pos q1] at e
    by_cases q2 : tx_n (tx_tok x t u.2.2.2.1) (hp u.1)
    · rw [if_pos q2] at e
      cases e
      exact bk_nc _ _ (fun z => hc z.symm) _
    · rw [if_neg q2] at e; cases e
  · rw [if_neg q1] at e; cases e; rfl
theorem m_lotr {w0 w : fg_W} {x : Nat → Int32} {t n : Nat} {u : tx_U} (hO : tx_O w0 x t) (hN : bk_N u.1 n) (h : rs w0 x t u w) : rq w0 x t (tx_lot x t u) (f_X4_readsLot w) := by
  have h8 := hN.2
  have hh : u.1 0 5 - 1 ≤ 9999 := by
    rw [hN.1]
    cases n with
    | zero => decide
    | succ m => rw [nI_pred]; exact nI_le (a := m) (b := 9999) (by omega) (by decide)
  unfold tx_lot f_X4_readsLot
  rcases m_numb (hi := 9) (by decide) hO h with ⟨a0, w2, a1, b2⟩ | ⟨a0, a1⟩
  · have hk : u.2.2.2.2 < 10 := by have := (tx_n_le (N := 9) (by decide) h.2.2.1.2.2.2.2.2.1 a0).2; omega
    rw [a1, fg_bi_some, if_pos (nI_pos' (by omega)), if_pos a0, show fg_fuel = 996 + 1 + 1 + 1 + 1 from rfl, show (0 : Int32) = nI 0 from rfl]
    rcases m_fL0 (fu := 996 + 1 + 1 + 1) (fun v2_16 w_16 => some (1, w_16)) hk hO b2 with ⟨u1, w3, c1, c2, c3⟩ | ⟨p, w3, c1, c2, c3⟩
    · have g1 := tx_f_05 (by decide) c1
      rw [c3, c1]
      show rq w0 x t (tx_b (tx_f x t 14 (fun _ => 20) 2 u.2.2.2.2 u1) (tx_f x t 15 (fun A => A 0 5 - 1) 3 u.2.2.2.2)) _
      rcases m_fL1 (fu := 996 + 1 + 1) (fun v2_16 w_16 => some (1, w_16)) hk hO c2 with ⟨u2, w4, d1, d2, d3⟩ | ⟨p, w4, d1, d2, d3⟩
      · have g2 := tx_f_05 (by decide) d1
        rw [d3, d1]
        show rq w0 x t (tx_f x t 15 (fun A => A 0 5 - 1) 3 u.2.2.2.2 u2) _
        rcases m_fL2 (fu := 996 + 1) (fun v2_16 w_16 => some (1, w_16)) hk (by rw [g2, g1]; exact hh) hO d2 with ⟨u3, w5, e1, e2, e3⟩ | ⟨p, w5, e1, e2, e3⟩
        · rw [e3, e1, f_X4_readsLot_L16, if_pos (by decide)]
          exact ⟨w5, rfl, e2⟩
        · rw [e3, e1]; exact ⟨w5, rfl, e2⟩
      · rw [d3, d1]; exact ⟨w4, rfl, d2⟩
    · rw [c3, c1]; exact ⟨w3, rfl, c2⟩
  · rw [a1, fg_bi_some, if_neg (show ¬ (0 : Int32) ≤ -1 by decide), a0, if_neg (show ¬ false = true by decide)]
    exact ⟨w, rfl, h.rf⟩
theorem m_sunr {w0 w : fg_W} {x : Nat → Int32} {t : Nat} {u : tx_U} (hO : tx_O w0 x t) (h : rs w0 x t u w) : rq w0 x t (tx_sun x t u) (f_X4_readsSun 0 w) := by
  unfold tx_sun f_X4_readsSun
  rw [if_pos (show (0 : Int32) = 0 from rfl)]
  rcases m_numb (hi := 5) (by decide) hO h with ⟨a0, w1, a1, a2⟩ | ⟨a0, a1⟩
  · have hk : u.2.2.2.2 < 6 := by have := (tx_n_le (N := 5) (by decide) h.2.2.1.2.2.2.2.2.1 a0).2; omega
    rw [a1, fg_bi_some, if_pos (nI_pos' (by omega)), if_pos a0]
    rcases m_numb (hi := 40) (by decide) hO a2 with ⟨b0, w2, b1, b2⟩ | ⟨b0, b1⟩
    · have hv : ((u.1, tx_tok x t u.2.2.2.1) : tx_U).2.2.2.2 ≤ 10000 := a2.2.2.1.2.2.2.2.2.1
      rw [b1, fg_bi_some, if_neg (nI_pos (by omega)), if_pos (show (0 : Int32) = 0 from rfl), show (4 : Int32) + nI u.2.2.2.2 = nI (4 + u.2.2.2.2) from nI_add 4 _, fg_gd_nI (show 4 + u.2.2.2.2 < 90 by omega) (by decide), fg_let_eq, if_neg (nI_pos (by omega)), nI_clamp (by omega), fg_st_set, if_pos b0]
      exact ⟨_, rfl, b2.set _ _ (b2.1.sun (q := u.2.2.2.2) _ hk)⟩
    · rw [b1, fg_bi_some, if_pos (show (-1 : Int32) < 0 by decide), if_pos (show (-1 : Int32) < 0 by decide), b0, if_neg (show ¬ false = true by decide)]
      exact ⟨w1, rfl, a2.rf⟩
  · rw [a1, fg_bi_some, if_neg (show ¬ (0 : Int32) ≤ -1 by decide), a0, if_neg (show ¬ false = true by decide)]
    exact ⟨w, rfl, h.rf⟩
theorem m_misr {w0 w : fg_W} {x : Nat → Int32} {t : Nat} {u : tx_U} (hO : tx_O w0 x t) (h : rs w0 x t u w) : rq w0 x t (tx_mis x t u) (f_X4_readsSun 1 w) := by
  unfold tx_mis f_X4_readsSun
  rw [if_neg (show ¬ (1 : Int32) = 0 by decide)]
  rcases m_numb (hi := 40) (by decide) hO h with ⟨b0, w2, b1, b2⟩ | ⟨b0, b1⟩
  · have hv : u.2.2.2.2 ≤ 10000 := h.2.2.1.2.2.2.2.2.1
    rw [b1, fg_bi_some, if_neg (nI_pos (by omega)), if_neg (show ¬ (1 : Int32) = 0 by decide), fg_let_eq, if_neg (nI_pos (by omega)), fg_st_set, if_pos b0]
    exact ⟨_, rfl, b2.set _ _ (b2.1.sc (ix := 3) (j := 4) _ (by omega))⟩
  · rw [b1, fg_bi_some, if_pos (show (-1 : Int32) < 0 by decide), if_pos (show (-1 : Int32) < 0 by decide), b0, if_neg (show ¬ false = true by decide)]
    exact ⟨w, rfl, h.rf⟩
theorem rq.gp {w0 : fg_W} {x : Nat → Int32} {t : Nat} {r : Nat ⊕ tx_U} {o : Option (Int32 × fg_W)} (h : rq w0 x t r o) : rq w0 x t r (fg_bi o (fun r17 w15 => fg_gp (r17 = 0 ∨ r17 = 1) (some (r17, w15)))) := by
  cases r with
  | inl p => obtain ⟨w', rfl, h2⟩ := h; exact ⟨w', by rw [fg_bi_some, fg_gp_in (Or.inl rfl)], h2⟩
  | inr u => obtain ⟨w', rfl, h2⟩ := h; exact ⟨w', by rw [fg_bi_some, fg_gp_in (Or.inr rfl)], h2⟩
theorem m_item {w0 w : fg_W} {x : Nat → Int32} {t n : Nat} {u : tx_U} (hO : tx_O w0 x t) (hN : bk_N u.1 n) (h : rs w0 x t u w) : rq w0 x t (tx_item x t u) (f_X4_readsItem w) := by
  unfold tx_item f_X4_readsItem
  obtain ⟨r8, _, r10, _⟩ := m_row hO h
  rw [r8, fg_bi_some]
  have hi := (tx_i_le x u.2 0 7).1
  by_cases hp : 0 < tx_i x u.2 0 7
  · obtain ⟨m, hm⟩ : ∃ m, tx_i x u.2 0 7 = m + 1 := ⟨_, (Nat.sub_add_cancel hp).symm⟩
    rw [if_pos hp, hm, bk_sv, if_neg (nI_pos (by omega)), Nat.add_sub_cancel]
    exact (m_per hO hN h).gp
  · have h0 : tx_i x u.2 0 7 = 0 := by omega
    rw [if_neg hp, h0, bk_sv, if_pos (show (-1 : Int32) < 0 by decide), r10, fg_bi_some]
    obtain ⟨w1, a1, a2⟩ := m_next2 hO h
    by_cases c7 : tx_w x u.2 7 = true
    · rw [if_pos c7, tx_i_of (b := 7) (i := 0) c7 3 (by decide) (by decide), bk_sv, if_pos (show 0 ≤ nI 0 by decide), a1, fg_bv_some, if_pos (show nI 0 = 0 from rfl)]
      exact (m_lotr (u := (u.1, tx_tok x t u.2.2.2.1)) hO hN a2).gp
    · rw [if_neg c7]
      by_cases c8 : tx_w x u.2 8 = true
      · rw [if_pos c8, tx_i_of (b := 7) (i := 1) c8 3 (by decide) (by decide), bk_sv, if_pos (show 0 ≤ nI 1 by decide), a1, fg_bv_some, if_neg (show ¬ nI 1 = 0 by decide), if_neg (show ¬ nI 1 = 2 by decide)]
        exact (m_sunr hO a2).gp
      · rw [if_neg c8]
        by_cases c9 : tx_w x u.2 9 = true
        · rw [if_pos c9, tx_i_of (b := 7) (i := 2) c9 3 (by decide) (by decide), bk_sv, if_pos (show 0 ≤ nI 2 by decide), a1, fg_bv_some, if_neg (show ¬ nI 2 = 0 by decide), if_pos (show nI 2 = 2 from rfl)]
          exact (m_misr hO a2).gp
        · rw [if_neg c9, tx_i_no 3 (fun i hi => ?_), bk_sv, if_neg (show ¬ (0 : Int32) ≤ -1 by decide)]
          · exact ⟨w, rfl, h.rf⟩
          · have : i = 0 ∨ i = 1 ∨ i = 2 := by omega
            rcases this with rfl | rfl | rfl
            · exact Bool.eq_false_iff.mpr c7
            · exact Bool.eq_false_iff.mpr c8
            · exact Bool.eq_false_iff.mpr c9
