-- texts: the reference's next token, its words, its numbers
theorem m_next {x : Nat → Int32} {t p : Nat} {w : fg_W} (hx : tx_by x t) (hp : p ≤ t) (h1 : ∀ j, j < t → w.1 4 0 7 j = x j) (h2 : w.1 4 0 0 9 = nI t) (h3 : w.1 4 0 0 12 = nI p) : ∃ w', f_X4_nextToken w = some w' ∧ tr w' x (tx_tok x t p) ∧ fq w w' := by
  have ht := hx.1
  have hs := tx_sk_in x (t - p) p
  unfold f_X4_nextToken
  rw [fg_let_eq, fg_st_set, h3, m_skL (x := x) (t := t) ht _ (t - p) p fg_fuel _ (by omega) (by unfold fg_fuel; omega) (by rw [fg_sw_at, bk_setc _ (by decide)]; exact h1) (by rw [fg_sw_at, bk_ne _ _ (Or.inr (by decide))]; exact h2) (by rw [fg_sw_at, bk_same]), fg_sw_at, fg_sw_sw, bk_set2]
  unfold tx_tok
  generalize tx_sk x p (t - p) = s at *
  rw [fg_st_set, fg_sw_at, fg_sw_sw, bk_same, fg_let_eq, fg_let_eq]
  have key : ∀ D : Nat → Nat → Int32, D = bk_set (bk_set (w.1 4 0) 0 11 (nI s)) 0 12 (nI s) → (∀ j, j < t → D 7 j = x j) ∧ D 0 9 = nI t ∧ D 0 11 = nI s ∧ D 0 12 = nI s ∧ (∀ c, c ≠ 0 → D c = w.1 4 0 c) ∧ ∀ j, j ≠ 10 → j ≠ 11 → j ≠ 12 → D 0 j = w.1 4 0 0 j := by
    intro D hD
    subst hD
    refine ⟨?_, ?_, ?_, ?_, fun c hc => ?_, fun j a b c => ?_⟩
    · rw [bk_setc _ (by decide), bk_setc _ (by decide)]; exact h1
    · rw [bk_ne _ _ (Or.inr (by decide)), bk_ne _ _ (Or.inr (by decide))]; exact h2
    · rw [bk_ne _ _ (Or.inr (by decide)), bk_same]
    · rw [bk_same]
    · rw [bk_setc _ hc, bk_setc _ hc]
    · rw [bk_ne _ _ (Or.inr c), bk_ne _ _ (Or.inr b)]
  generalize hD : bk_set (bk_set (w.1 4 0) 0 11 (nI s)) 0 12 (nI s) = D
  obtain ⟨k1, k2, k3, k4, k5, k6⟩ := key D hD.symm
  have E : ∀ v : Int64, (fg_sl (fg_sw w 4 0 D) v).1 4 0 = D := fun v => fg_sw_at w 4 0 D
  have S : ∀ (d : Nat → Nat → Int32) (v : Int64), (fg_sl (fg_sw w 4 0 d) v).1 4 0 = d := fun d v => fg_sw_at w 4 0 d
  have T : ∀ (d : Nat → Nat → Int32) (v : Int64) (c j : Nat) (u : Int32), fg_st (fg_sl (fg_sw w 4 0 d) v) 4 0 c (upd ((fg_sl (fg_sw w 4 0 d) v).1 4 0 c) j u) = fg_sl (fg_sw w 4 0 (bk_set d c j u)) v := fun d v c j u => by
    rw [fg_st_set, S]
    show fg_sl (fg_sw (fg_sw w 4 0 d) 4 0 _) v = _
    rw [fg_sw_sw]
  have Q : ∀ (q : Nat) (v : Int64), fq w (fg_sl (fg_sw w 4 0 (bk_set D 0 10 (nI q))) v) := fun q v => fq_of (fun c hc => by rw [bk_setc _ hc]; exact k5 c hc) (fun j a b c => by rw [bk_ne _ _ (Or.inr a)]; exact k6 j a b c)
  have Q2 : ∀ (q e : Nat) (v : Int64), fq w (fg_sl (fg_sw w 4 0 (bk_set (bk_set D 0 10 (nI q)) 0 12 (nI e))) v) := fun q e v => fq_of (fun c hc => by rw [bk_setc _ hc, bk_setc _ hc]; exact k5 c hc) (fun j a b c => by rw [bk_ne _ _ (Or.inr c), bk_ne _ _ (Or.inr a)]; exact k6 j a b c)
  rw [E, k3, k2]
  unfold tx_tk
  by_cases e0 : s = t
  · rw [if_pos (by rw [e0]), fg_let_eq, if_pos e0]
    refine ⟨_, rfl, ?_, ?_⟩
    · rw [show D 0 = (fg_sl (fg_sw w 4 0 D) 0).1 4 0 0 by rw [S], T]
      unfold tr
      rw [S]
      exact ⟨by rw [bk_ne _ _ (Or.inr (by decide))]; exact k3, by rw [bk_ne _ _ (Or.inr (by decide))]; exact k4, by rw [bk_same]; rfl, fun z => absurd z (show ¬ 3 = 0 by decide), fun z => absurd z (show ¬ 3 = 1 by decide)⟩
    · rw [show D 0 = (fg_sl (fg_sw w 4 0 D) 0).1 4 0 0 by rw [S], T]
      exact Q 0 0
  · have lt : s < t := by omega
    rw [if_neg (fun z => e0 ((nI_eq (by omega) (by omega)).mp z)), fg_gd_nI (show s < 120 by omega) (by decide), nI_clamp (by omega), k1 s lt, m_isL, fg_bi_some, if_neg e0]
    by_cases e1 : tx_L (x s)
    · rw [if_pos e1, if_neg (by decide), if_pos e1, T, fg_let_eq, m_wdL (x := x) (t := t) (s := s) hx _ (t - s) s fg_fuel _ (by omega) (by omega) (by unfold fg_fuel; omega) (by rw [S, bk_setc _ (by decide)]; exact k1) (by rw [S, bk_ne _ _ (Or.inr (by decide))]; exact k2) (by rw [S, bk_ne _ _ (Or.inr (by decide))]; exact k4) (by rw [Nat.sub_self]; rfl), S]
      refine ⟨fg_sl (fg_sw w 4 0 (bk_set (bk_set D 0 10 (nI 1)) 0 12 (nI (tx_le tx_L x s (t - s))))) (lN (tx_rv x s (tx_le tx_L x s (t - s) - s))), ?_, ?_, Q2 _ _ _⟩
      · show some (fg_sl (fg_sw (fg_sw w 4 0 _) 4 0 _) _) = _
        rw [fg_sw_sw]
        rfl
      · unfold tr
        rw [S]
        exact ⟨by rw [bk_ne _ _ (Or.inr (by decide)), bk_ne _ _ (Or.inr (by decide))]; exact k3, by rw [bk_same], by rw [bk_ne _ _ (Or.inr (by decide)), bk_same]; rfl, fun _ => rfl, fun z => absurd z (show ¬ 0 = 1 by decide)⟩
    · rw [if_neg e1, if_pos rfl, if_neg e1, E, k3, fg_gd_nI (show s < 120 by omega) (by decide), nI_clamp (by omega), k1 s lt, m_isD, fg_bi_some]
      by_cases e2 : tx_D (x s)
      · obtain ⟨r1, r2⟩ := tx_ru_nv hx (t - s) s 0 (by omega) (by omega)
        rw [Nat.zero_min] at r2
        rw [if_pos e2, if_neg (by decide), if_pos e2, m_nuL (x := x) (t := t) hx _ (t - s) s 0 fg_fuel _ (by omega) (by unfold fg_fuel; omega) (by omega) (by rw [E]; exact k1) (by rw [E]; exact k2) (by rw [E]; exact k4) rfl, E]
        show ∃ w', (if lg_cmp (lN (tx_ru x s (t - s) 0)) 9999 ≤ 0 then _ else _) = some w' ∧ _
        have W : fg_sl (fg_sw (fg_sl (fg_sw w 4 0 D) 0) 4 0 (bk_set D 0 12 (nI (tx_le tx_D x s (t - s))))) (lN (tx_ru x s (t - s) 0)) = fg_sl (fg_sw w 4 0 (bk_set D 0 12 (nI (tx_le tx_D x s (t - s))))) (lN (tx_ru x s (t - s) 0)) := by
          show fg_sl (fg_sw (fg_sw w 4 0 D) 4 0 _) _ = _
          rw [fg_sw_sw]
        rw [show (9999 : Int64) = lN 9999 from rfl, W, T, T, fg_let_eq, fg_let_eq, bk_swp _ 0 12 10 _ _ (by decide), bk_swp _ 0 12 10 _ _ (by decide)]
        have fin : ∀ q : Nat, tx_k (1, s, tx_le tx_D x s (t - s), tx_nv x s (t - s) 0) = q → (tx_nv x s (t - s) 0 ≤ 9999 → tx_nv x s (t - s) 0 = tx_ru x s (t - s) 0) → tr (fg_sl (fg_sw w 4 0 (bk_set (bk_set D 0 10 (nI q)) 0 12 (nI (tx_le tx_D x s (t - s))))) (lN (tx_ru x s (t - s) 0))) x (1, s, tx_le tx_D x s (t - s), tx_nv x s (t - s) 0) := by
          intro q hq hv
          unfold tr
          rw [S, hq]
          exact ⟨by rw [bk_ne _ _ (Or.inr (by decide)), bk_ne _ _ (Or.inr (by decide))]; exact k3, by rw [bk_same], by rw [bk_ne _ _ (Or.inr (by decide)), bk_same], fun z => absurd z (show ¬ 1 = 0 by decide), fun _ g => by show lN (tx_ru x s (t - s) 0) = lN (tx_nv x s (t - s) 0); rw [hv g]⟩
        by_cases hle : tx_ru x s (t - s) 0 ≤ 9999
        · rw [if_pos (by rw [lg_le (by omega) (by decide)]; exact hle)]
          have hnv : tx_nv x s (t - s) 0 = tx_ru x s (t - s) 0 := by rw [r2, Nat.min_eq_left (by omega)]
          refine ⟨_, rfl, fin 2 ?_ (fun _ => hnv), Q2 _ _ _⟩
          show (if 1 = 0 then 1 else if 1 = 1 then (if tx_nv x s (t - s) 0 ≤ 9999 then 2 else 4) else _) = 2
          rw [if_neg (by decide), if_pos rfl, if_pos (by omega)]
        · rw [if_neg (by rw [lg_le (by omega) (by decide)]; exact hle)]
          have hnv : tx_nv x s (t - s) 0 = 10000 := by rw [r2, Nat.min_eq_right (by omega)]
          refine ⟨_, rfl, fin 4 ?_ (fun g => by omega), Q2 _ _ _⟩
          show (if 1 = 0 then 1 else if 1 = 1 then (if tx_nv x s (t - s) 0 ≤ 9999 then 2 else 4) else _) = 4
          rw [if_neg (by decide), if_pos rfl, if_neg (by omega)]
      · rw [if_neg e2, if_pos rfl, if_neg e2, E, k3, fg_gd_nI (show s < 120 by omega) (by decide), nI_clamp (by omega), k1 s lt]
        have fin : ∀ (kd q : Nat), tx_k (kd, s, s + 1, 0) = q → ¬ kd = 0 → ¬ kd = 1 → ∃ w', fg_let (fg_st (fg_sl (fg_sw w 4 0 D) 0) 4 0 0 (upd (D 0) 10 (nI q))) (fun w15 => fg_let (fg_st w15 4 0 0 (upd (w15.1 4 0 0) 12 ((w15.1 4 0 0 12) + 1))) (fun w16 => some w16)) = some w' ∧ tr w' x (kd, s, s + 1, 0) ∧ fq w w' := by
          intro kd q hq n0 n1
          rw [show D 0 = (fg_sl (fg_sw w 4 0 D) 0).1 4 0 0 by rw [S], T, fg_let_eq, T, fg_let_eq, S, bk_ne _ _ (Or.inr (by decide)), k4, nI_1]
          refine ⟨_, rfl, ?_, Q2 _ _ _⟩
          unfold tr
          rw [S, hq]
          exact ⟨by rw [bk_ne _ _ (Or.inr (by decide)), bk_ne _ _ (Or.inr (by decide))]; exact k3, by rw [bk_same], by rw [bk_ne _ _ (Or.inr (by decide)), bk_same], fun z => absurd z n0, fun z => absurd z n1⟩
        by_cases e3 : x s = 59
        · rw [if_pos e3, if_pos e3]; exact fin 2 3 rfl (by decide) (by decide)
        · rw [if_neg e3, if_neg e3]; exact fin 4 4 rfl (by decide) (by decide)
