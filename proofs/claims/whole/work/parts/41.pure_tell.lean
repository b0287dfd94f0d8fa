-- texts: the class reads
theorem fg_sw_cm (w : fg_W) (K i K' i' : Nat) (d d' : Nat → Nat → Int32) (h : K ≠ K') : fg_sw (fg_sw w K i d) K' i' d' = fg_sw (fg_sw w K' i' d') K i d := by
  have h' : K' ≠ K := fun z => h z.symm
  unfold fg_sw
  refine Prod.ext ?_ rfl
  funext k
  by_cases h1 : k = K
  · subst h1; simp [fg_put, h]
  · by_cases h2 : k = K'
    · subst h2; simp [fg_put, h']
    · simp [fg_put, h1, h2]
def tx_W (w0 : fg_W) (d A : Nat → Nat → Int32) : fg_W := fg_sw (fg_sw w0 1 0 d) 2 1 A
theorem tx_W_d (w0 : fg_W) (d A : Nat → Nat → Int32) : (tx_W w0 d A).1 1 0 = d := by unfold tx_W; rw [fg_sw_K _ _ _ _ _ _ (by decide), fg_sw_at]
theorem tx_W_A (w0 : fg_W) (d A : Nat → Nat → Int32) : (tx_W w0 d A).1 2 1 = A := by unfold tx_W; rw [fg_sw_at]
theorem tx_W_sd (w0 : fg_W) (d A d' : Nat → Nat → Int32) : fg_sw (tx_W w0 d A) 1 0 d' = tx_W w0 d' A := by unfold tx_W; rw [fg_sw_cm _ 2 1 1 0 _ _ (by decide), fg_sw_sw]
theorem tx_W_sA (w0 : fg_W) (d A A' : Nat → Nat → Int32) : fg_sw (tx_W w0 d A) 2 1 A' = tx_W w0 d A' := by unfold tx_W; rw [fg_sw_sw]
def tx_eq (x : Nat → Int32) (s sx : Nat) : Nat → Nat → Bool
  | _, 0 => true
  | j, m + 1 => if x (s + j) = fg_ch sx j then tx_eq x s sx (j + 1) m else false
def tx_w (x : Nat → Int32) (τ : tx_T) (sx : Nat) : Bool := decide (τ.1 = 0) && (decide (τ.2.2.1 - τ.2.1 = fg_sn.getD sx 0) && tx_eq x τ.2.1 sx 0 (fg_sn.getD sx 0))
theorem p_eqL {x : Nat → Int32} {s sx : Nat} {w : fg_W} (hs : s + fg_sn.getD sx 0 ≤ 120) (h1 : w.1 1 0 1 = x) (h2 : w.1 1 0 0 4 = nI s) : ∀ (m j fu : Nat), j + m = fg_sn.getD sx 0 → m < fu → f_X1_isWord_L27 sx (fun v2_27 w_27 => some (1, w_27)) fu (nI j) w = some (if tx_eq x s sx j m then 1 else 0, w) := by
  intro m
  induction m with
  | zero =>
    intro j fu hj hf
    obtain ⟨fu, rfl⟩ : ∃ z, fu = z + 1 := ⟨fu - 1, by omega⟩
    rw [f_X1_isWord_L27, if_pos (nI_le (by omega) (by omega))]
    rfl
  | succ m ih =>
    intro j fu hj hf
    obtain ⟨fu, rfl⟩ : ∃ z, fu = z + 1 := ⟨fu - 1, by omega⟩
    rw [f_X1_isWord_L27, if_neg (nI_ge (by omega) (by omega)), h2, nI_add, fg_gd_nI (show s + j < 120 by omega) (by decide), fg_gd_nI (show j < fg_sn.getD sx 0 by omega) (by omega), h1, nI_clamp (by omega), nI_clamp (by omega), nI_1, ih (j + 1) fu (by omega) (by omega), tx_eq]
    by_cases hc : x (s + j) = fg_ch sx j
    · rw [if_pos hc, if_pos hc]
    · rw [if_neg hc, if_neg hc]; rfl
theorem p_isW {x : Nat → Int32} {t sx : Nat} {τ : tx_T} {w : fg_W} (hx : tx_by x t) (hsx : sx < 16) (h : tc (w.1 1 0) x t τ) (hw : tx_wf x t τ) : f_X1_isWord sx w = some (if tx_w x τ sx then 1 else 0, w) := by
  obtain ⟨h1, h2, h3, h4, h5, h6⟩ := h
  obtain ⟨g1, g2, g3, g4, g5, g6, g7⟩ := hw
  have h8 := fg_sn8 sx hsx
  have ht := hx.1
  unfold f_X1_isWord tx_w
  rw [h3]
  by_cases e0 : τ.1 = 0
  · rw [if_pos (by rw [e0]; rfl), h5, h4, pk_sub g1]
    by_cases e1 : τ.2.2.1 - τ.2.1 = fg_sn.getD sx 0
    · have L := p_eqL (x := x) (s := τ.2.1) (sx := sx) (w := w) (by omega) h1 h4 (fg_sn.getD sx 0) 0 fg_fuel (by omega) (by unfold fg_fuel; omega)
      rw [nI_0] at L
      rw [if_pos (by rw [e1]), L, decide_eq_true e0, decide_eq_true e1]
      rfl
    · rw [if_neg (fun z => e1 ((nI_eq (by omega) (by omega)).mp z)), decide_eq_false e1, Bool.false_and, Bool.and_false]
      rfl
  · rw [if_neg (show ¬ nI τ.1 = 0 from fun z => e0 ((nI_eq (a := τ.1) (b := 0) (by omega) (by decide)).mp z)), decide_eq_false e0, Bool.false_and]
    rfl
theorem p_next2 {x : Nat → Int32} {t : Nat} {τ : tx_T} {w0 : fg_W} {d A : Nat → Nat → Int32} (hx : tx_by x t) (h : tc d x t τ) (hw : tx_wf x t τ) : ∃ d', f_X1_nextToken (tx_W w0 d A) = some (tx_W w0 d' A) ∧ tc d' x t (tx_tok x t τ.2.2.1) ∧ d' 0 2 = d 0 2 ∧ tx_wf x t (tx_tok x t τ.2.2.1) := by
  obtain ⟨h1, h2, h3, h4, h5, h6⟩ := h
  have e := tx_W_d w0 d A
  obtain ⟨d', a1, a2, a3⟩ := p_next (w := tx_W w0 d A) hx hw.2.1 (by rw [e]; exact h1) (by rw [e]; exact h2) (by rw [e]; exact h5)
  rw [tx_W_sd] at a1
  rw [e] at a3
  exact ⟨d', a1, a2, a3, (tx_tok_wf x hw.2.1).1⟩
theorem p_took {x : Nat → Int32} {t sx : Nat} {τ : tx_T} {w0 : fg_W} {d A : Nat → Nat → Int32} (hx : tx_by x t) (hsx : sx < 16) (h : tc d x t τ) (hw : tx_wf x t τ) (h2 : d 0 2 = -1) : (tx_w x τ sx = true ∧ ∃ d', f_X1_took sx (tx_W w0 d A) = some (1, tx_W w0 d' A) ∧ tc d' x t (tx_tok x t τ.2.2.1) ∧ d' 0 2 = -1 ∧ tx_wf x t (tx_tok x t τ.2.2.1)) ∨ (tx_w x τ sx = false ∧ f_X1_took sx (tx_W w0 d A) = some (0, tx_W w0 d A)) := by
  unfold f_X1_took
  rw [tx_W_d, h2, if_neg (by decide), p_isW hx hsx (by rw [tx_W_d]; exact h) hw, fg_bi_some]
  cases hc : tx_w x τ sx with
  | true =>
    obtain ⟨d', a1, a2, a3, a4⟩ := p_next2 (w0 := w0) (A := A) hx h hw
    refine Or.inl ⟨rfl, d', ?_, a2, a3.trans h2, a4⟩
    rw [if_pos rfl, if_neg (by decide), a1, fg_bv_some]
  | false => exact Or.inr ⟨rfl, by rw [if_pos (by decide)]⟩
theorem p_took0 {sx p : Nat} {w0 : fg_W} {d A : Nat → Nat → Int32} (h2 : d 0 2 = nI p) (hp : p ≤ 120) : f_X1_took sx (tx_W w0 d A) = some (0, tx_W w0 d A) := by
  unfold f_X1_took
  rw [tx_W_d, h2, if_pos (nI_pos' (by omega))]
def tx_n (τ : tx_T) (hi : Int32) : Bool := decide (τ.1 = 1) && decide (nI τ.2.2.2 ≤ hi)
theorem p_fh {w0 : fg_W} {d A : Nat → Nat → Int32} (h2 : d 0 2 = -1) : f_X1_faultHere (tx_W w0 d A) = some (tx_W w0 (bk_set d 0 2 (d 0 4)) A) := by
  unfold f_X1_faultHere
  rw [tx_W_d, h2, if_neg (by decide), fg_let_eq]
  have := fg_st_set (tx_W w0 d A) 1 0 0 2 (d 0 4)
  rw [tx_W_d, tx_W_sd] at this
  rw [this]
theorem p_fh0 {w0 : fg_W} {d A : Nat → Nat → Int32} {p : Nat} (h2 : d 0 2 = nI p) (hp : p ≤ 120) : f_X1_faultHere (tx_W w0 d A) = some (tx_W w0 d A) := by
  unfold f_X1_faultHere
  rw [tx_W_d, h2, if_pos (nI_pos' (by omega))]
theorem p_num {x : Nat → Int32} {t : Nat} {τ : tx_T} {w0 : fg_W} {d A : Nat → Nat → Int32} {hi : Int32} (hx : tx_by x t) (h : tc d x t τ) (hw : tx_wf x t τ) (h2 : d 0 2 = -1) : (tx_n τ hi = true ∧ ∃ d', f_X1_takeNumber hi (tx_W w0 d A) = some (nI τ.2.2.2, tx_W w0 d' A) ∧ tc d' x t (tx_tok x t τ.2.2.1) ∧ d' 0 2 = -1 ∧ tx_wf x t (tx_tok x t τ.2.2.1)) ∨ (tx_n τ hi = false ∧ ∃ d', f_X1_takeNumber hi (tx_W w0 d A) = some (-1, tx_W w0 d' A) ∧ d' 0 2 = nI τ.2.1) := by
  have h' := h
  obtain ⟨k1, k2, k3, k4, k5, k6⟩ := h
  have g7 := hw.2.2.2.2.2.2
  unfold f_X1_takeNumber tx_n
  rw [tx_W_d, h2, if_neg (by decide), k3]
  have fl : ∃ d', fg_bv (f_X1_faultHere (tx_W w0 d A)) (fun w1 => some ((-1 : Int32), w1)) = some (-1, tx_W w0 d' A) ∧ d' 0 2 = nI τ.2.1 := ⟨_, by rw [p_fh h2, fg_bv_some], by rw [bk_same]; exact k4⟩
  by_cases e0 : τ.1 = 1
  · rw [if_pos (by rw [e0]; rfl), k6 e0, decide_eq_true e0, Bool.true_and]
    by_cases e1 : nI τ.2.2.2 ≤ hi
    · obtain ⟨d', a1, a2, a3, a4⟩ := p_next2 (w0 := w0) (A := A) hx h' hw
      refine Or.inl ⟨decide_eq_true e1, d', ?_, a2, a3.trans h2, a4⟩
      rw [if_pos e1, fg_let_eq, a1, fg_bv_some]
    · exact Or.inr ⟨decide_eq_false e1, by rw [if_neg e1]; exact fl⟩
  · rw [if_neg (show ¬ nI τ.1 = 1 from fun z => e0 ((nI_eq (a := τ.1) (b := 1) (by omega) (by decide)).mp z)), decide_eq_false e0, Bool.false_and]
    exact Or.inr ⟨rfl, fl⟩
theorem p_num0 {w0 : fg_W} {d A : Nat → Nat → Int32} {p : Nat} {hi : Int32} (h2 : d 0 2 = nI p) (hp : p ≤ 120) : f_X1_takeNumber hi (tx_W w0 d A) = some (-1, tx_W w0 d A) := by
  unfold f_X1_takeNumber
  rw [tx_W_d, h2, if_pos (nI_pos' (by omega)), p_fh0 h2 hp, fg_bv_some]
abbrev tx_U : Type := (Nat → Nat → Int32) × tx_T
/-- where the class stands: all is well so far, or the fault is told -/
def cr (w0 : fg_W) (x : Nat → Int32) (t : Nat) (r : Nat ⊕ tx_U) (w : fg_W) : Prop := match r with
  | .inr u => ∃ d, w = tx_W w0 d u.1 ∧ tc d x t u.2 ∧ d 0 2 = -1 ∧ tx_wf x t u.2
  | .inl p => ∃ d A, w = tx_W w0 d A ∧ d 0 2 = nI p ∧ p ≤ 120
def tx_b (r : Nat ⊕ tx_U) (f : tx_U → Nat ⊕ tx_U) : Nat ⊕ tx_U := match r with
  | .inr u => f u
  | .inl p => .inl p
def tx_f (x : Nat → Int32) (t sx : Nat) (hp : (Nat → Nat → Int32) → Int32) (c k : Nat) (u : tx_U) : Nat ⊕ tx_U := if tx_w x u.2 sx then (if tx_n (tx_tok x t u.2.2.2.1) (hp u.1) then .inr (bk_set u.1 c k (nI (tx_tok x t u.2.2.2.1).2.2.2), tx_tok x t (tx_tok x t u.2.2.2.1).2.2.1) else .inl (tx_tok x t u.2.2.2.1).2.1) else .inr u
def tx_F (sx : Nat) (hi : fg_W → Int32) (c N : Nat) (k : Int32) (R : fg_W → Option fg_W) (w : fg_W) : Option fg_W := fg_bi (f_X1_took sx w) (fun r8 w6 => if r8 = 0 then R w6 else fg_bi (f_X1_takeNumber (hi w6) w6) (fun r w15 => fg_gd k N (fg_let (fg_st w15 2 1 c (upd (w15.1 2 1 c) k.toNatClampNeg r)) R)))
theorem tx_st (w0 : fg_W) (d A : Nat → Nat → Int32) (c j : Nat) (v : Int32) : fg_st (tx_W w0 d A) 2 1 c (upd ((tx_W w0 d A).1 2 1 c) j v) = tx_W w0 d (bk_set A c j v) := by rw [fg_st_set, tx_W_A, tx_W_sA]
theorem p_F {w0 : fg_W} {x : Nat → Int32} {t sx c N k : Nat} {hi : fg_W → Int32} {hp : (Nat → Nat → Int32) → Int32} (hx : tx_by x t) (hsx : sx < 16) (hk : k < N) (hN : N < 2 ^ 31) (hh : ∀ d A, hi (tx_W w0 d A) = hp A) (R : fg_W → Option fg_W) {r : Nat ⊕ tx_U} {w : fg_W} (h : cr w0 x t r w) : ∃ w', tx_F sx hi c N (nI k) R w = R w' ∧ cr w0 x t (tx_b r (tx_f x t sx hp c k)) w' := by
  have ht := hx.1
  cases r with
  | inl p =>
    obtain ⟨d, A, rfl, h2, hp⟩ := h
    exact ⟨_, by unfold tx_F; rw [p_took0 h2 hp, fg_bi_some, if_pos rfl], d, A, rfl, h2, hp⟩
  | inr u =>
    obtain ⟨d, rfl, h1, h2, h3⟩ := h
    unfold tx_F
    show ∃ w', _ = R w' ∧ cr w0 x t (tx_f x t sx hp c k u) w'
    rcases p_took (w0 := w0) (A := u.1) hx hsx h1 h3 h2 with ⟨a0, d1, a1, a2, a3, a4⟩ | ⟨a0, a1⟩
    · rw [a1, fg_bi_some, if_neg (by decide), hh]
      rcases p_num (w0 := w0) (A := u.1) (hi := hp u.1) hx a2 a4 a3 with ⟨b0, d2, b1, b2, b3, b4⟩ | ⟨b0, d2, b1, b2⟩
      · refine ⟨tx_W w0 d2 (bk_set u.1 c k (nI (tx_tok x t u.2.2.2.1).2.2.2)), ?_, ?_⟩
        · rw [b1, fg_bi_some, fg_gd_nI hk hN, fg_let_eq, nI_clamp (by omega), tx_st]
        · unfold tx_f
          rw [if_pos a0, if_pos b0]
          exact ⟨d2, rfl, b2, b3, b4⟩
      · refine ⟨tx_W w0 d2 (bk_set u.1 c k (-1)), ?_, ?_⟩
        · rw [b1, fg_bi_some, fg_gd_nI hk hN, fg_let_eq, nI_clamp (by omega), tx_st]
        · unfold tx_f
          rw [if_pos a0, b0, if_neg (by decide)]
          have := a4.1
          have := a4.2.1
          exact ⟨d2, _, rfl, b2, by omega⟩
    · refine ⟨_, by rw [a1, fg_bi_some, if_pos rfl], ?_⟩
      unfold tx_f
      rw [a0, if_neg (by decide)]
      exact ⟨d, rfl, h1, h2, h3⟩
def tx_pn (A : Nat → Nat → Int32) : Nat := (A 0 5).toNatClampNeg
-- a person
def tx_per (x : Nat → Int32) (t q : Nat) (u : tx_U) : Nat ⊕ tx_U := if tx_pn u.1 < 8 then tx_b (tx_b (tx_f x t 10 (fun _ => 9) 6 (tx_pn u.1) (bk_addp u.1 (tx_pn u.1) (nI q), tx_tok x t u.2.2.2.1)) (tx_f x t 11 (fun _ => 99) 7 (tx_pn u.1))) (tx_f x t 12 (fun _ => 9999) 8 (tx_pn u.1)) else .inl u.2.2.1
theorem p_per0 (q : Int32) (w : fg_W) : f_X1_tellPerson 1 q w = if (w.1 2 1 0 5) < 8 then (fg_bv (f_X1_nextToken  w) (fun w1 => fg_bi (f_X2_add 1 q w1) (fun r5 w3 => tx_F 10 (fun _ => 9) 6 8 r5 (tx_F 11 (fun _ => 99) 7 8 r5 (tx_F 12 (fun _ => 9999) 8 8 r5 some)) w3))) else (fg_bv (f_X1_faultHere  w) (fun w62 => some w62)) := rfl
theorem p_per {w0 : fg_W} {x : Nat → Int32} {t q : Nat} {u : tx_U} {w : fg_W} {n : Nat} (hx : tx_by x t) (hN : bk_N u.1 n) (h : cr w0 x t (.inr u) w) : ∃ w', f_X1_tellPerson 1 (nI q) w = some w' ∧ cr w0 x t (tx_per x t q u) w' := by
  have ht := hx.1
  have h8 := hN.2
  obtain ⟨d, rfl, h1, h2, h3⟩ := h
  have hn : tx_pn u.1 = n := by unfold tx_pn; rw [hN.1, nI_clamp (by omega)]
  unfold tx_per
  rw [p_per0, tx_W_A, hN.1, hn]
  by_cases hc : n < 8
  · obtain ⟨d1, a1, a2, a3, a4⟩ := p_next2 (w0 := w0) (A := u.1) hx h1 h3
    rw [if_pos (show nI n < 8 from nI_lt (a := n) (b := 8) hc (by decide)), if_pos hc, a1, fg_bv_some, p_add (n := n) (by rw [tx_W_A]; exact hN) hc, fg_bi_some, tx_W_A, tx_W_sA]
    obtain ⟨w1, b1, b2⟩ := p_F (sx := 10) (c := 6) (N := 8) (k := n) (hi := fun _ => 9) (hp := fun _ => 9) hx (by decide) hc (by decide) (fun _ _ => rfl) (tx_F 11 (fun _ => 99) 7 8 (nI n) (tx_F 12 (fun _ => 9999) 8 8 (nI n) some)) (r := .inr (bk_addp u.1 n (nI q), tx_tok x t u.2.2.2.1)) (w := tx_W w0 d1 (bk_addp u.1 n (nI q))) ⟨d1, rfl, a2, a3.trans h2, a4⟩
    obtain ⟨w2, c1, c2⟩ := p_F (sx := 11) (c := 7) (N := 8) (k := n) (hi := fun _ => 99) (hp := fun _ => 99) hx (by decide) hc (by decide) (fun _ _ => rfl) (tx_F 12 (fun _ => 9999) 8 8 (nI n) some) b2
    obtain ⟨w3, e1, e2⟩ := p_F (sx := 12) (c := 8) (N := 8) (k := n) (hi := fun _ => 9999) (hp := fun _ => 9999) hx (by decide) hc (by decide) (fun _ _ => rfl) some c2
    refine ⟨w3, ?_, e2⟩
    rw [← e1, ← c1, ← b1]
    rfl
  · rw [if_neg (show ¬ nI n < 8 from nI_nlt (a := n) (b := 8) (by omega) (by omega)), if_neg hc, p_fh h2, fg_bv_some]
    have := h3.1
    have := h3.2.1
    exact ⟨_, rfl, _, _, rfl, by rw [bk_same]; exact h1.2.2.2.1, by omega⟩
-- a lot
def tx_lot (x : Nat → Int32) (t : Nat) (u : tx_U) : Nat ⊕ tx_U := if tx_n u.2 9 then tx_b (tx_b (tx_f x t 13 (fun _ => 99) 1 u.2.2.2.2 (u.1, tx_tok x t u.2.2.2.1)) (tx_f x t 14 (fun _ => 20) 2 u.2.2.2.2)) (tx_f x t 15 (fun A => A 0 5 - 1) 3 u.2.2.2.2) else .inl u.2.2.1
theorem p_lot0 (w : fg_W) : f_X1_tellLot 1 w = fg_bi (f_X1_takeNumber 9 w) (fun r3 w1 => fg_bi (f_X3_isLot r3 w1) (fun r6 w4 => if r6 = 0 then (some w4) else tx_F 13 (fun _ => 99) 1 10 r3 (tx_F 14 (fun _ => 20) 2 10 r3 (tx_F 15 (fun w => w.1 2 1 0 5 - 1) 3 10 r3 some)) w4)) := rfl
theorem p_isLn {j : Nat} (hj : j < 10) (w : fg_W) : f_X3_isLot (nI j) w = some (1, w) := by
  rcases q_lot (nI j) with ⟨p, hp, e, l1, l2⟩ | ⟨l1, l2⟩
  · exact l1 w
  · have := l1 w
    unfold f_X3_isLot at this
    rw [if_neg (nI_pos (by omega)), if_neg (show ¬ (10 : Int32) ≤ nI j from nI_ge (a := j) (b := 10) (by omega) (by decide))] at this
    cases this
theorem tx_n_le {τ : tx_T} {N : Nat} (hN : N < 2 ^ 31) (hw : τ.2.2.2 ≤ 10000) (h : tx_n τ (nI N) = true) : τ.1 = 1 ∧ τ.2.2.2 ≤ N := by
  unfold tx_n at h
  rw [Bool.and_eq_true] at h
  exact ⟨of_decide_eq_true h.1, (nI_leI (by omega) hN).mp (of_decide_eq_true h.2)⟩
theorem p_lot {w0 : fg_W} {x : Nat → Int32} {t : Nat} {u : tx_U} {w : fg_W} (hx : tx_by x t) (h : cr w0 x t (.inr u) w) : ∃ w', f_X1_tellLot 1 w = some w' ∧ cr w0 x t (tx_lot x t u) w' := by
  have ht := hx.1
  obtain ⟨d, rfl, h1, h2, h3⟩ := h
  unfold tx_lot
  rw [p_lot0]
  rcases p_num (w0 := w0) (A := u.1) (hi := 9) hx h1 h3 h2 with ⟨b0, d2, b1, b2, b3, b4⟩ | ⟨b0, d2, b1, b2⟩
  · have hv : u.2.2.2.2 < 10 := by have := (tx_n_le (N := 9) (by decide) h3.2.2.2.2.2.1 b0).2; omega
    rw [b1, fg_bi_some, p_isLn hv, fg_bi_some, if_neg (by decide), if_pos b0]
    obtain ⟨w1, c1, c2⟩ := p_F (sx := 13) (c := 1) (N := 10) (k := u.2.2.2.2) (hi := fun _ => 99) (hp := fun _ => 99) hx (by decide) hv (by decide) (fun _ _ => rfl) (tx_F 14 (fun _ => 20) 2 10 (nI u.2.2.2.2) (tx_F 15 (fun w => w.1 2 1 0 5 - 1) 3 10 (nI u.2.2.2.2) some)) (r := .inr (u.1, tx_tok x t u.2.2.2.1)) (w := tx_W w0 d2 u.1) ⟨d2, rfl, b2, b3, b4⟩
    obtain ⟨w2, e1, e2⟩ := p_F (sx := 14) (c := 2) (N := 10) (k := u.2.2.2.2) (hi := fun _ => 20) (hp := fun _ => 20) hx (by decide) hv (by decide) (fun _ _ => rfl) (tx_F 15 (fun w => w.1 2 1 0 5 - 1) 3 10 (nI u.2.2.2.2) some) c2
    obtain ⟨w3, f1, f2⟩ := p_F (sx := 15) (c := 3) (N := 10) (k := u.2.2.2.2) (hi := fun w => w.1 2 1 0 5 - 1) (hp := fun A => A 0 5 - 1) hx (by decide) hv (by decide) (fun d A => by show (tx_W w0 d A).1 2 1 0 5 - 1 = _; rw [tx_W_A]) some e2
    refine ⟨w3, ?_, f2⟩
    rw [← f1, ← e1, ← c1]
  · have := h3.1
    have := h3.2.1
    refine ⟨tx_W w0 d2 u.1, ?_, ?_⟩
    · rw [b1, fg_bi_some, show f_X3_isLot (-1) (tx_W w0 d2 u.1) = some (0, tx_W w0 d2 u.1) from rfl, fg_bi_some, if_pos rfl]
    · rw [b0, if_neg (by decide)]
      exact ⟨d2, _, rfl, b2, by omega⟩
-- a sun, the mist
def tx_sun (x : Nat → Int32) (t : Nat) (u : tx_U) : Nat ⊕ tx_U := if tx_n u.2 5 then (if tx_n (tx_tok x t u.2.2.2.1) 40 then .inr (bk_set u.1 4 u.2.2.2.2 (nI (tx_tok x t u.2.2.2.1).2.2.2), tx_tok x t (tx_tok x t u.2.2.2.1).2.2.1) else .inl (tx_tok x t u.2.2.2.1).2.1) else .inl u.2.2.1
theorem p_sun {w0 : fg_W} {x : Nat → Int32} {t : Nat} {u : tx_U} {w : fg_W} (hx : tx_by x t) (h : cr w0 x t (.inr u) w) : ∃ w', f_X1_tellSun 1 w = some w' ∧ cr w0 x t (tx_sun x t u) w' := by
  have ht := hx.1
  obtain ⟨d, rfl, h1, h2, h3⟩ := h
  have := h3.1
  have := h3.2.1
  unfold tx_sun f_X1_tellSun
  rcases p_num (w0 := w0) (A := u.1) (hi := 5) hx h1 h3 h2 with ⟨b0, d2, b1, b2, b3, b4⟩ | ⟨b0, d2, b1, b2⟩
  · have hv : u.2.2.2.2 < 6 := by have := (tx_n_le (N := 5) (by decide) h3.2.2.2.2.2.1 b0).2; omega
    have := b4.1
    have := b4.2.1
    rw [b1, fg_bi_some, if_pos b0]
    rcases p_num (w0 := w0) (A := u.1) (hi := 40) hx b2 b4 b3 with ⟨c0, d3, c1, c2, c3, c4⟩ | ⟨c0, d3, c1, c2⟩
    · rw [c1, fg_bi_some, tx_W_d, c3, if_neg (by decide), fg_gd_nI hv (by decide), fg_let_eq, nI_clamp (by omega), tx_st, if_pos c0]
      exact ⟨_, rfl, d3, rfl, c2, c3, c4⟩
    · rw [c1, fg_bi_some, tx_W_d, c2, if_pos (nI_pos' (by omega)), c0, if_neg (by decide)]
      exact ⟨_, rfl, d3, _, rfl, c2, by omega⟩
  · rw [b1, fg_bi_some, p_num0 b2 (by omega), fg_bi_some, tx_W_d, b2, if_pos (nI_pos' (by omega)), b0, if_neg (by decide)]
    exact ⟨_, rfl, d2, _, rfl, b2, by omega⟩
def tx_mis (x : Nat → Int32) (t : Nat) (u : tx_U) : Nat ⊕ tx_U := if tx_n u.2 40 then .inr (bk_set u.1 0 4 (nI u.2.2.2.2), tx_tok x t u.2.2.2.1) else .inl u.2.2.1
theorem p_mis {w0 : fg_W} {x : Nat → Int32} {t : Nat} {u : tx_U} {w : fg_W} (hx : tx_by x t) (h : cr w0 x t (.inr u) w) : ∃ w', fg_bi (f_X1_takeNumber 40 w) (fun r17 w15 => fg_let (fg_st w15 2 1 0 (upd (w15.1 2 1 0) 4 r17)) (fun w18 => some w18)) = some w' ∧ cr w0 x t (tx_mis x t u) w' := by
  have ht := hx.1
  obtain ⟨d, rfl, h1, h2, h3⟩ := h
  have := h3.1
  have := h3.2.1
  unfold tx_mis
  rcases p_num (w0 := w0) (A := u.1) (hi := 40) hx h1 h3 h2 with ⟨b0, d2, b1, b2, b3, b4⟩ | ⟨b0, d2, b1, b2⟩
  · rw [b1, fg_bi_some, fg_let_eq, tx_st, if_pos b0]
    exact ⟨_, rfl, d2, rfl, b2, b3, b4⟩
  · rw [b1, fg_bi_some, fg_let_eq, tx_st, b0, if_neg (by decide)]
    exact ⟨_, rfl, d2, _, rfl, b2, by omega⟩
