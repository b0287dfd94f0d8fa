-- what else there is, apart
theorem ro_K.cg {w w' : fg_W} (h : ro_K w) (e3 : w'.1 3 0 0 3 = w.1 3 0 0 3) (e4 : w'.1 4 0 0 3 = w.1 4 0 0 3) (e2 : w'.1 2 2 = w.1 2 2) (e5 : w'.1 4 0 2 = w.1 4 0 2) : ro_K w' := by
  unfold ro_K at *
  rw [e3, e4, e2, e5]
  exact h
theorem ro_F.cg {w w' : fg_W} (h : ro_F w) (e3 : w'.1 3 0 1 = w.1 3 0 1) (e4 : w'.1 4 0 4 = w.1 4 0 4) : ro_F w' := by
  unfold ro_F at *
  rw [e3, e4]
  exact h
theorem ro_T.cg {w w' : fg_W} (h : ro_T w) (e1 : w'.1 1 0 0 1 = w.1 1 0 0 1) (e2 : w'.1 1 0 1 = w.1 1 0 1) (e3 : w'.1 4 0 0 9 = w.1 4 0 0 9) (e4 : w'.1 4 0 7 = w.1 4 0 7) : ro_T w' := by
  unfold ro_T at *
  rw [e1, e2, e3, e4]
  exact h
theorem ro_S.cg {w w' : fg_W} (h : ro_S w) (e0 : ∀ s, s < 4 → w'.1 0 s = w.1 0 s) (e12 : w'.1 4 0 12 = w.1 4 0 12) (e13 : w'.1 4 0 13 = w.1 4 0 13) (e14 : w'.1 4 0 14 = w.1 4 0 14) : ro_S w' := by
  intro s hs
  have := h s hs
  rw [e0 s hs, e12, e13, e14]
  exact this
theorem ro_L.cg {w w' : fg_W} (h : ro_L w) (e8 : w'.1 4 0 8 = w.1 4 0 8) (e9 : w'.1 4 0 9 = w.1 4 0 9) (e10 : w'.1 4 0 10 = w.1 4 0 10) (e11 : w'.1 4 0 11 = w.1 4 0 11) : ro_L w' := by
  unfold ro_L at *
  rw [e8, e9, e10, e11]
  exact h
theorem rm.cg {w w' : fg_W} {A : Nat → Nat → Int32} (h : rm w A) (e1 : w'.1 4 0 1 = w.1 4 0 1) (e5 : w'.1 4 0 0 5 = w.1 4 0 0 5) : rm w' A := by
  unfold rm at *
  rw [e1, e5]
  exact h
/-- a change on each side, outside of the banks -/
theorem rr_two {w : fg_W} {K i : Nat} {d e : Nat → Nat → Int32} (h : rr w) (hK : K ≠ 2 ∧ K ≠ 4) (e1 : e 1 = w.1 4 0 1) (e5 : e 0 5 = w.1 4 0 0 5) (hro : ro (fg_sw (fg_sw w K i d) 4 0 e)) : rr (fg_sw (fg_sw w K i d) 4 0 e) := by
  obtain ⟨n, h1, h2, h3, h4⟩ := h
  have e2 : (fg_sw (fg_sw w K i d) 4 0 e).1 2 0 = w.1 2 0 := by rw [fg_sw_K _ _ _ _ _ _ (by decide), fg_sw_K _ _ _ _ _ _ (by omega)]
  refine ⟨n, ?_, by rw [e2]; exact h2, by rw [e2]; exact h3, hro⟩
  rw [e2]
  exact h1.cg (by rw [fg_sw_at]; exact e1) (by rw [fg_sw_at]; exact e5)
theorem bk_setc {A : Nat → Nat → Int32} {c j c' : Nat} (v : Int32) (h : c' ≠ c) : bk_set A c j v c' = A c' := by funext q; exact bk_nc _ _ h _
-- wipe
theorem ag_wipe {w : fg_W} (h : rr w) : ag (f_X3_wipe w) (fun w => f_X4_wipe w) := by
  have h' := h
  obtain ⟨n, h1, h2, h3, h4⟩ := h
  obtain ⟨hK, hF, ⟨t, ht, hT1, hT2, hT3⟩, hS, hL⟩ := h4
  refine ⟨nI t, fg_sw w 1 0 (bk_set (w.1 1 0) 0 1 0), fg_sw (fg_sw w 1 0 (bk_set (w.1 1 0) 0 1 0)) 4 0 (bk_set (w.1 4 0) 0 9 0), ?_, ?_, ?_⟩
  · unfold f_X3_wipe; rw [fg_let_eq, fg_let_eq, fg_st_set, hT1]
  · show f_X4_wipe _ = _
    unfold f_X4_wipe; rw [fg_let_eq, fg_let_eq, fg_st_set, fg_sw_K _ 1 0 4 0 _ (by decide), hT2]
  · refine rr_two h' (by decide) (bk_setc _ (by decide)) (bk_ne _ _ (Or.inr (by decide))) ⟨?_, ?_, ?_, ?_, ?_⟩
    · exact hK.cg (by rw [fg_sw_K _ _ _ _ _ _ (by decide), fg_sw_K _ _ _ _ _ _ (by decide)]) (by rw [fg_sw_at, bk_ne _ _ (Or.inr (by decide))]) (by rw [fg_sw_K _ _ _ _ _ _ (by decide), fg_sw_K _ _ _ _ _ _ (by decide)]) (by rw [fg_sw_at, bk_setc _ (by decide)])
    · exact hF.cg (by rw [fg_sw_K _ _ _ _ _ _ (by decide), fg_sw_K _ _ _ _ _ _ (by decide)]) (by rw [fg_sw_at, bk_setc _ (by decide)])
    · exact ⟨0, by omega, by rw [fg_sw_K _ _ _ _ _ _ (by decide), fg_sw_at, bk_same]; rfl, by rw [fg_sw_at, bk_same]; rfl, fun j hj => absurd hj (by omega)⟩
    · exact hS.cg (fun s _ => by rw [fg_sw_K _ _ _ _ _ _ (by decide), fg_sw_K _ _ _ _ _ _ (by decide)]) (by rw [fg_sw_at, bk_setc _ (by decide)]) (by rw [fg_sw_at, bk_setc _ (by decide)]) (by rw [fg_sw_at, bk_setc _ (by decide)])
    · exact hL.cg (by rw [fg_sw_at, bk_setc _ (by decide)]) (by rw [fg_sw_at, bk_setc _ (by decide)]) (by rw [fg_sw_at, bk_setc _ (by decide)]) (by rw [fg_sw_at, bk_setc _ (by decide)])
-- tear
theorem ag_tear {w : fg_W} (h : rr w) : ag (f_X3_tear w) (fun w => f_X4_tear w) := by
  have h' := h
  obtain ⟨n, h1, h2, h3, h4⟩ := h
  obtain ⟨hK, hF, hT, hS, hL⟩ := h4
  refine ⟨if w.1 3 0 0 3 = 0 then 0 else 1, fg_sw w 3 0 (bk_set (w.1 3 0) 0 3 0), fg_sw (fg_sw w 3 0 (bk_set (w.1 3 0) 0 3 0)) 4 0 (bk_set (w.1 4 0) 0 3 0), ?_, ?_, ?_⟩
  · unfold f_X3_tear; rw [fg_let_eq, fg_let_eq, fg_st_set]; split <;> rfl
  · show f_X4_tear _ = _
    unfold f_X4_tear; rw [fg_let_eq, fg_let_eq, fg_st_set, fg_sw_K _ 3 0 4 0 _ (by decide), ← hK.1]; split <;> rfl
  · refine rr_two h' (by decide) (bk_setc _ (by decide)) (bk_ne _ _ (Or.inr (by decide))) ⟨?_, ?_, ?_, ?_, ?_⟩
    · refine ⟨?_, Or.inl ?_⟩
      · rw [fg_sw_K _ _ _ _ _ _ (by decide), fg_sw_at, fg_sw_at, bk_same, bk_same]
      · rw [fg_sw_K _ _ _ _ _ _ (by decide), fg_sw_at, bk_same]
    · exact hF.cg (by rw [fg_sw_K _ _ _ _ _ _ (by decide), fg_sw_at, bk_setc _ (by decide)]) (by rw [fg_sw_at, bk_setc _ (by decide)])
    · exact hT.cg (by rw [fg_sw_K _ _ _ _ _ _ (by decide), fg_sw_K _ _ _ _ _ _ (by decide)]) (by rw [fg_sw_K _ _ _ _ _ _ (by decide), fg_sw_K _ _ _ _ _ _ (by decide)]) (by rw [fg_sw_at, bk_ne _ _ (Or.inr (by decide))]) (by rw [fg_sw_at, bk_setc _ (by decide)])
    · exact hS.cg (fun s _ => by rw [fg_sw_K _ _ _ _ _ _ (by decide), fg_sw_K _ _ _ _ _ _ (by decide)]) (by rw [fg_sw_at, bk_setc _ (by decide)]) (by rw [fg_sw_at, bk_setc _ (by decide)]) (by rw [fg_sw_at, bk_setc _ (by decide)])
    · exact hL.cg (by rw [fg_sw_at, bk_setc _ (by decide)]) (by rw [fg_sw_at, bk_setc _ (by decide)]) (by rw [fg_sw_at, bk_setc _ (by decide)]) (by rw [fg_sw_at, bk_setc _ (by decide)])
-- image
theorem m_imgL (K : Int32 → fg_W → Option (Int32 × fg_W)) : ∀ (m j fu : Nat) (w : fg_W), j + m = 90 → m < fu → ∃ e, f_X4_image_L2 K fu (nI j) w = K (nI 90) (fg_sw w 4 0 e) ∧ (∀ c, c ≠ 2 → e c = w.1 4 0 c) ∧ ∀ q, e 2 q = if j ≤ q ∧ q < 90 then w.1 4 0 1 q else w.1 4 0 2 q := by
  intro m
  induction m with
  | zero =>
    intro j fu w hj hf
    obtain ⟨fu, rfl⟩ : ∃ z, fu = z + 1 := ⟨fu - 1, by omega⟩
    obtain rfl : j = 90 := by omega
    exact ⟨w.1 4 0, by rw [f_X4_image_L2, if_pos (by decide), fg_sw_id], fun _ _ => rfl, fun q => by rw [if_neg (by omega)]⟩
  | succ m ih =>
    intro j fu w hj hf
    obtain ⟨fu, rfl⟩ : ∃ z, fu = z + 1 := ⟨fu - 1, by omega⟩
    obtain ⟨e, a1, a2, a3⟩ := ih (j + 1) fu (fg_sw w 4 0 (bk_set (w.1 4 0) 2 j (w.1 4 0 1 j))) (by omega) (by omega)
    refine ⟨e, ?_, fun c hc => ?_, fun q => ?_⟩
    · rw [f_X4_image_L2, if_neg (show ¬ (90 : Int32) ≤ nI j from nI_ge (a := j) (b := 90) (by omega) (by decide)), fg_gd_nI (by omega) (by decide), fg_gd_nI (by omega) (by decide), fg_let_eq, nI_clamp (by omega), fg_st_set, nI_1, a1, fg_sw_sw]
    · rw [a2 c hc, fg_sw_at, bk_setc _ hc]
    · rw [a3 q, fg_sw_at, bk_nc _ _ (by decide)]
      by_cases hq : q = j
      · subst hq; rw [if_neg (by omega), bk_same, if_pos (by omega)]
      · rw [bk_ne _ _ (Or.inr hq)]
        by_cases h2 : j + 1 ≤ q ∧ q < 90
        · rw [if_pos h2, if_pos (by omega)]
        · rw [if_neg h2, if_neg (by omega)]
theorem ag_image {w : fg_W} (h : rr w) : ag (f_X3_image w) (fun w => f_X4_image w) := by
  have h' := h
  obtain ⟨n, h1, h2, h3, h4⟩ := h
  obtain ⟨hK, hF, hT, hS, hL⟩ := h4
  have hB := bk_bec_eq (w.1 2 2) (w.1 2 0)
  have hIB := h2.eq hB
  have key : ∀ w1 : fg_W, w1 = fg_sw (fg_sw w 2 2 (bk_bec (w.1 2 2) (w.1 2 0))) 3 0 (bk_set (w.1 3 0) 0 3 1) → ag (f_X3_image w) (fun w => f_X4_image w) := by
    intro w1 ew
    have e4 : w1.1 4 0 = w.1 4 0 := by rw [ew, fg_sw_K _ _ _ _ _ _ (by decide), fg_sw_K _ _ _ _ _ _ (by decide)]
    have e20 : w1.1 2 0 = w.1 2 0 := by rw [ew, fg_sw_K _ _ _ _ _ _ (by decide), fg_sw_i _ _ _ _ _ (by decide)]
    have e22 : w1.1 2 2 = bk_bec (w.1 2 2) (w.1 2 0) := by rw [ew, fg_sw_K _ _ _ _ _ _ (by decide), fg_sw_at]
    have e3 : w1.1 3 0 = bk_set (w.1 3 0) 0 3 1 := by rw [ew, fg_sw_at]
    have e1 : w1.1 1 0 = w.1 1 0 := by rw [ew, fg_sw_K _ _ _ _ _ _ (by decide), fg_sw_K _ _ _ _ _ _ (by decide)]
    have e0 : ∀ s, w1.1 0 s = w.1 0 s := fun s => by rw [ew, fg_sw_K _ _ _ _ _ _ (by decide), fg_sw_K _ _ _ _ _ _ (by decide)]
    obtain ⟨e, a1, a2, a3⟩ := m_imgL (fun v1_2 w_2 => fg_let (fg_st w_2 4 0 0 (upd (w_2.1 4 0 0) 3 1)) (fun w1 => some ((1 : Int32), w1))) 90 0 fg_fuel w1 (by omega) (by unfold fg_fuel; omega)
    rw [nI_0, fg_let_eq, fg_st_set, fg_sw_at, fg_sw_sw] at a1
    have E : ∀ c, c ≠ 2 → c ≠ 0 → bk_set e 0 3 1 c = w.1 4 0 c := fun c c2 c0 => by rw [bk_setc _ c0, a2 c c2, e4]
    have E0 : ∀ j, j ≠ 3 → bk_set e 0 3 1 0 j = w.1 4 0 0 j := fun j hj => by rw [bk_ne _ _ (Or.inr hj), a2 0 (by decide), e4]
    have E2 : ∀ q, q < 90 → bk_set e 0 3 1 2 q = w.1 4 0 1 q := fun q hq => by rw [bk_nc _ _ (by decide), a3 q, if_pos ⟨by omega, hq⟩, e4]
    refine ⟨1, w1, fg_sw w1 4 0 (bk_set e 0 3 1), ?_, a1, n, ?_, ?_, ?_, ?_, ?_, ?_, ?_, ?_⟩
    · unfold f_X3_image
      rw [p_become (by decide), fg_bv_some, fg_let_eq, fg_st_set, ew, fg_sw_K _ 2 2 3 0 _ (by decide)]
    · rw [fg_sw_K _ _ _ _ _ _ (by decide), e20]
      exact h1.cg (by rw [fg_sw_at, E 1 (by decide) (by decide)]) (by rw [fg_sw_at, E0 5 (by decide)])
    · rw [fg_sw_K _ _ _ _ _ _ (by decide), e20]; exact h2
    · rw [fg_sw_K _ _ _ _ _ _ (by decide), e20]; exact h3
    · obtain ⟨⟨g1, g2, g3, g4, g5⟩, g6, g7, g8, g9⟩ := h1.eq hB
      unfold ro_K
      rw [fg_sw_K _ 4 0 3 0 _ (by decide), fg_sw_K _ 4 0 2 2 _ (by decide), e22, e3, fg_sw_at, bk_same, bk_same]
      refine ⟨rfl, Or.inr ⟨rfl, n, hIB, by rw [hB 0 11 (by unfold bk_ok; omega)]; exact h3, ⟨?_, ?_, ?_, ?_⟩, fun j hj => ?_, fun f p hf hp => ?_, fun f k hf hk => ?_, fun j hj => ?_⟩⟩
      · rw [E2 _ (by omega)]; exact g1
      · rw [E2 _ (by omega)]; exact g2
      · rw [E2 _ (by omega)]; exact g3
      · rw [E2 _ (by omega)]; exact g4
      · rw [E2 _ (by omega)]; exact g6 j hj
      · rw [E2 _ (by omega)]; exact g7 f p hf hp
      · rw [E2 _ (by omega)]; exact g8 f k hf hk
      · rw [E2 _ (by omega)]; exact g9 j hj
    · exact hF.cg (by rw [fg_sw_K _ _ _ _ _ _ (by decide), e3, bk_setc _ (by decide)]) (by rw [fg_sw_at, E 4 (by decide) (by decide)])
    · exact hT.cg (by rw [fg_sw_K _ _ _ _ _ _ (by decide), e1]) (by rw [fg_sw_K _ _ _ _ _ _ (by decide), e1]) (by rw [fg_sw_at, E0 9 (by decide)]) (by rw [fg_sw_at, E 7 (by decide) (by decide)])
    · exact hS.cg (fun s _ => by rw [fg_sw_K _ _ _ _ _ _ (by decide), e0]) (by rw [fg_sw_at, E 12 (by decide) (by decide)]) (by rw [fg_sw_at, E 13 (by decide) (by decide)]) (by rw [fg_sw_at, E 14 (by decide) (by decide)])
    · exact hL.cg (by rw [fg_sw_at, E 8 (by decide) (by decide)]) (by rw [fg_sw_at, E 9 (by decide) (by decide)]) (by rw [fg_sw_at, E 10 (by decide) (by decide)]) (by rw [fg_sw_at, E 11 (by decide) (by decide)])
  exact key _ rfl
-- undo
theorem m_undL (K : Int32 → fg_W → Option (Int32 × fg_W)) : ∀ (m j fu : Nat) (w : fg_W), j + m = 90 → m < fu → ∃ e, f_X4_undo_L15 K fu (nI j) w = K (nI 90) (fg_sw w 4 0 e) ∧ (∀ c, c ≠ 1 → e c = w.1 4 0 c) ∧ ∀ q, e 1 q = if j ≤ q ∧ q < 90 then w.1 4 0 2 q else w.1 4 0 1 q := by
  intro m
  induction m with
  | zero =>
    intro j fu w hj hf
    obtain ⟨fu, rfl⟩ : ∃ z, fu = z + 1 := ⟨fu - 1, by omega⟩
    obtain rfl : j = 90 := by omega
    exact ⟨w.1 4 0, by rw [f_X4_undo_L15, if_pos (by decide), fg_sw_id], fun _ _ => rfl, fun q => by rw [if_neg (by omega)]⟩
  | succ m ih =>
    intro j fu w hj hf
    obtain ⟨fu, rfl⟩ : ∃ z, fu = z + 1 := ⟨fu - 1, by omega⟩
    obtain ⟨e, a1, a2, a3⟩ := ih (j + 1) fu (fg_sw w 4 0 (bk_set (w.1 4 0) 1 j (w.1 4 0 2 j))) (by omega) (by omega)
    refine ⟨e, ?_, fun c hc => ?_, fun q => ?_⟩
    · rw [f_X4_undo_L15, if_neg (show ¬ (90 : Int32) ≤ nI j from nI_ge (a := j) (b := 90) (by omega) (by decide)), fg_gd_nI (by omega) (by decide), fg_gd_nI (by omega) (by decide), fg_let_eq, nI_clamp (by omega), fg_st_set, nI_1, a1, fg_sw_sw]
    · rw [a2 c hc, fg_sw_at, bk_setc _ hc]
    · rw [a3 q, fg_sw_at, bk_nc _ _ (by decide)]
      by_cases hq : q = j
      · subst hq; rw [if_neg (by omega), bk_same, if_pos (by omega)]
      · rw [bk_ne _ _ (Or.inr hq)]
        by_cases h2 : j + 1 ≤ q ∧ q < 90
        · rw [if_pos h2, if_pos (by omega)]
        · rw [if_neg h2, if_neg (by omega)]
theorem ag_undo {w : fg_W} (h : rr w) : ag (f_X3_undo w) (fun w => f_X4_undo w) := by
  have h' := h
  obtain ⟨n, h1, h2, h3, h4⟩ := h
  have h4' := h4
  obtain ⟨hK, hF, hT, hS, hL⟩ := h4
  obtain ⟨k1, k2⟩ := hK
  rcases k2 with k2 | ⟨k2, n2, i2, z2, ⟨g1, g2, g3, g4⟩, g6, g7, g8, g9⟩
  · refine ag.fnd h' (c := 3) (by decide) ?_ (fun w1 e => ?_)
    · unfold f_X3_undo; rw [if_pos k2, fg_bi_id]; rfl
    · show f_X4_undo w1 = _
      unfold f_X4_undo; rw [e, if_pos (k1.symm.trans k2), fg_bi_id]; rfl
  · have hB := bk_bec_eq (w.1 2 0) (w.1 2 2)
    obtain ⟨e, a1, a2, a3⟩ := m_undL (fun v1_15 w_15 => some ((w_15.1 4 0 1 0), w_15)) 90 0 fg_fuel (fg_sw w 2 0 (bk_bec (w.1 2 0) (w.1 2 2))) (by omega) (by unfold fg_fuel; omega)
    rw [nI_0, fg_sw_at, a3 0, if_pos ⟨by omega, by omega⟩, fg_sw_K w 2 0 4 0 _ (by decide), g1] at a1
    rw [fg_sw_K w 2 0 4 0 _ (by decide)] at a2 a3
    have A3 : ∀ q, q < 90 → e 1 q = w.1 4 0 2 q := fun q hq => by rw [a3 q, if_pos ⟨by omega, hq⟩]
    refine ⟨w.1 2 2 0 12, fg_sw w 2 0 (bk_bec (w.1 2 0) (w.1 2 2)), _, ?_, ?_, rr.world (n := n2) h4' ?_ (i2.eq hB) ?_ a2⟩
    · unfold f_X3_undo
      rw [if_neg (by rw [k2]; decide), p_become (by decide), fg_bv_some, fg_sw_at, hB 0 12 (by unfold bk_ok; omega)]
    · show f_X4_undo _ = _
      unfold f_X4_undo
      rw [fg_sw_K w 2 0 4 0 _ (by decide), if_neg (by rw [← k1, k2]; decide)]
      exact a1
    · refine rm.eq ?_ hB
      unfold rm
      rw [fg_sw_at]
      refine ⟨⟨?_, ?_, ?_, ?_, ?_⟩, fun j hj => ?_, fun f p hf hp => ?_, fun f k hf hk => ?_, fun j hj => ?_⟩
      · rw [A3 _ (by omega)]; exact g1
      · rw [A3 _ (by omega)]; exact g2
      · rw [A3 _ (by omega)]; exact g3
      · rw [A3 _ (by omega)]; exact g4
      · rw [a2 0 (by decide), z2, h1.1.2.2.2.2, h3]
      · rw [A3 _ (by omega)]; exact g6 j hj
      · rw [A3 _ (by omega)]; exact g7 f p hf hp
      · rw [A3 _ (by omega)]; exact g8 f k hf hk
      · rw [A3 _ (by omega)]; exact g9 j hj
    · rw [hB 0 11 (by unfold bk_ok; omega)]; exact z2
-- feed
def fd_b (x : Int32) (m : Nat) : Int32 := nI (x.toBitVec.toNat / 2 ^ (8 * m) % 256)
theorem fd_u (x : Int32) : ∀ m, m < 4 → ((x).toUInt32 >>> (((8 * nI m) : Int32).toUInt32 &&& Int32.toUInt32 31)).toInt32 &&& 255 = fd_b x m := by
  intro m hm
  have : m = 0 ∨ m = 1 ∨ m = 2 ∨ m = 3 := by omega
  rcases this with rfl | rfl | rfl | rfl
  · rw [pk_and _ (m := 255) 8 (by decide), pk_ushr x _ 0 (by decide)]; rfl
  · rw [pk_and _ (m := 255) 8 (by decide), pk_ushr x _ 8 (by decide)]; rfl
  · rw [pk_and _ (m := 255) 8 (by decide), pk_ushr x _ 16 (by decide)]; rfl
  · rw [pk_and _ (m := 255) 8 (by decide), pk_ushr x _ 24 (by decide)]; rfl
theorem fd_ti (y : Int32) : y.toInt = if y.toBitVec.toNat < 2 ^ 31 then (y.toBitVec.toNat : Int) else (y.toBitVec.toNat : Int) - 2 ^ 32 := by
  have h := y.toBitVec.isLt
  rw [show y.toInt = y.toBitVec.toInt from rfl, BitVec.toInt_eq_toNat_cond]
  by_cases hc : y.toBitVec.toNat < 2 ^ 31
  · rw [if_pos (by omega), if_pos hc]
  · rw [if_neg (by omega), if_neg hc]; rfl
theorem fd_s (x s : Int32) (k : Nat) (hs : (s.toBitVec.smod 32).toNat = k) (hk : k = 0 ∨ k = 8 ∨ k = 16 ∨ k = 24) : (x >>> s) &&& 255 = nI (x.toBitVec.toNat / 2 ^ k % 256) := by
  rw [pk_and _ (m := 255) 8 (by decide)]
  congr 1
  have h1 := pk_shr x s k hs
  rw [fd_ti (x >>> s), fd_ti x, Int.shiftRight_eq_div_pow] at h1
  have hx := x.toBitVec.isLt
  have hy := (x >>> s).toBitVec.isLt
  generalize x.toBitVec.toNat = X at *
  generalize (x >>> s).toBitVec.toNat = Y at *
  rcases hk with rfl | rfl | rfl | rfl
  · split at h1 <;> split at h1 <;> omega
  · split at h1 <;> split at h1 <;> omega
  · split at h1 <;> split at h1 <;> omega
  · split at h1 <;> split at h1 <;> omega
theorem fd_v (x : Int32) : ∀ m, m < 4 → (x >>> ((8 * nI m) &&& 31)) &&& 255 = fd_b x m := by
  intro m hm
  have : m = 0 ∨ m = 1 ∨ m = 2 ∨ m = 3 := by omega
  rcases this with rfl | rfl | rfl | rfl
  · exact fd_s x _ 0 (by decide) (by omega)
  · exact fd_s x _ 8 (by decide) (by omega)
  · exact fd_s x _ 16 (by decide) (by omega)
  · exact fd_s x _ 24 (by decide) (by omega)
/-- the tape is alike in two rows of cells -/
def fd_R (B C : Nat → Nat → Int32) (t : Nat) : Prop := B 0 1 = nI t ∧ C 0 9 = nI t ∧ ∀ j, j < t → B 1 j = C 7 j ∧ ∃ b, b < 256 ∧ C 7 j = nI b
theorem fd_R.app {B C : Nat → Nat → Int32} {t : Nat} (h : fd_R B C t) (b : Nat) (hb : b < 256) : fd_R (bk_set (bk_set B 1 t (nI b)) 0 1 (nI (t + 1))) (bk_set (bk_set C 7 t (nI b)) 0 9 (nI (t + 1))) (t + 1) := by
  obtain ⟨h1, h2, h3⟩ := h
  refine ⟨bk_same _ _ _ _, bk_same _ _ _ _, fun j hj => ?_⟩
  rw [show bk_set (bk_set B 1 t (nI b)) 0 1 (nI (t + 1)) 1 j = bk_set B 1 t (nI b) 1 j from bk_nc _ _ (by decide) _, show bk_set (bk_set C 7 t (nI b)) 0 9 (nI (t + 1)) 7 j = bk_set C 7 t (nI b) 7 j from bk_nc _ _ (by decide) _]
  by_cases e : j = t
  · subst e; rw [bk_same, bk_same]; exact ⟨rfl, b, hb, rfl⟩
  · rw [bk_ne _ _ (Or.inr e), bk_ne _ _ (Or.inr e)]; exact h3 j (by omega)
def fd_c (x : Int32) : (Nat → Nat → Int32) → Nat → Nat → Nat → Nat → Int32
  | B, _, 0 => B
  | B, t, m + 1 => fd_c x (bk_set (bk_set B 1 t (fd_b x m)) 0 1 (nI (t + 1))) (t + 1) m
def fd_r (x : Int32) : (Nat → Nat → Int32) → Nat → Nat → Nat → Nat → Int32
  | C, _, 0 => C
  | C, t, m + 1 => fd_r x (bk_set (bk_set C 7 t (fd_b x m)) 0 9 (nI (t + 1))) (t + 1) m
theorem fd_all (x : Int32) : ∀ (m t : Nat) (B C : Nat → Nat → Int32), fd_R B C t → fd_R (fd_c x B t m) (fd_r x C t m) (t + m) := by
  intro m
  induction m with
  | zero => intro t B C h; exact h
  | succ m ih =>
    intro t B C h
    rw [show t + (m + 1) = (t + 1) + m by omega]
    exact ih (t + 1) _ _ (h.app _ (Nat.mod_lt _ (by decide)))
theorem fd_keep (x : Int32) : ∀ (m t : Nat) (C : Nat → Nat → Int32), (∀ c, c ≠ 7 → c ≠ 0 → fd_r x C t m c = C c) ∧ ∀ j, j ≠ 9 → fd_r x C t m 0 j = C 0 j := by
  intro m
  induction m with
  | zero => intro t C; exact ⟨fun _ _ _ => rfl, fun _ _ => rfl⟩
  | succ m ih =>
    intro t C
    obtain ⟨h1, h2⟩ := ih (t + 1) (bk_set (bk_set C 7 t (fd_b x m)) 0 9 (nI (t + 1)))
    refine ⟨fun c c7 c0 => ?_, fun j hj => ?_⟩
    · exact (h1 c c7 c0).trans (by rw [bk_setc _ c0, bk_setc _ c7])
    · exact (h2 j hj).trans (by rw [bk_ne _ _ (Or.inr hj), bk_nc _ _ (by decide)])
theorem p_fdL (x : Int32) (K : Int32 → fg_W → Option (Int32 × fg_W)) : ∀ (m t fu : Nat) (w : fg_W), m ≤ 4 → m < fu → t + m ≤ 120 → w.1 1 0 0 1 = nI t → f_X3_feed_L39 x K fu (bk_sv m) w = K (-1) (fg_sw w 1 0 (fd_c x (w.1 1 0) t m)) := by
  intro m
  induction m with
  | zero =>
    intro t fu w hm hf ht h
    obtain ⟨fu, rfl⟩ : ∃ z, fu = z + 1 := ⟨fu - 1, by omega⟩
    rw [f_X3_feed_L39, bk_sv, if_pos (by decide)]
    show _ = K (-1) (fg_sw w 1 0 (w.1 1 0))
    rw [fg_sw_id]
  | succ m ih =>
    intro t fu w hm hf ht h
    obtain ⟨fu, rfl⟩ : ∃ z, fu = z + 1 := ⟨fu - 1, by omega⟩
    rw [f_X3_feed_L39, bk_sv, if_neg (nI_pos (by omega))]
    unfold f_X1_append
    rw [h, fg_gd_nI (show t < 120 by omega) (by decide), fg_let_eq, fg_let_eq, fd_u x m (by omega), nI_clamp (by omega), fg_st_set, fg_st_set, fg_sw_at, fg_sw_sw, bk_nc _ _ (by decide), h, nI_1, fg_bv_some, bk_sv_m1, ih (t + 1) fu _ (by omega) (by omega) (by omega) (by rw [fg_sw_at, bk_same]), fg_sw_at, fg_sw_sw]
    rfl
theorem m_fdL (x : Int32) (K : Int32 → fg_W → Option (Int32 × fg_W)) : ∀ (m t fu : Nat) (w : fg_W), m ≤ 4 → m < fu → t + m ≤ 120 → w.1 4 0 0 9 = nI t → f_X4_feed_L36 x K fu (bk_sv m) w = K (-1) (fg_sw w 4 0 (fd_r x (w.1 4 0) t m)) := by
  intro m
  induction m with
  | zero =>
    intro t fu w hm hf ht h
    obtain ⟨fu, rfl⟩ : ∃ z, fu = z + 1 := ⟨fu - 1, by omega⟩
    rw [f_X4_feed_L36, bk_sv, if_pos (by decide)]
    show _ = K (-1) (fg_sw w 4 0 (w.1 4 0))
    rw [fg_sw_id]
  | succ m ih =>
    intro t fu w hm hf ht h
    obtain ⟨fu, rfl⟩ : ∃ z, fu = z + 1 := ⟨fu - 1, by omega⟩
    rw [f_X4_feed_L36, bk_sv, if_neg (nI_pos (by omega)), h, fg_gd_nI (show t < 120 by omega) (by decide), fg_let_eq, fg_let_eq, fd_v x m (by omega), nI_clamp (by omega), fg_st_set, fg_st_set, fg_sw_at, fg_sw_sw, bk_nc _ _ (by decide), h, nI_1, bk_sv_m1, ih (t + 1) fu _ (by omega) (by omega) (by omega) (by rw [fg_sw_at, bk_same]), fg_sw_at, fg_sw_sw]
    rfl
theorem ag_feed {w : fg_W} (h : rr w) (a b : Int32) : ag (f_X3_feed a b w) (f_X4_feed a b) := by
  have h' := h
  obtain ⟨n, h1, h2, h3, h4⟩ := h
  obtain ⟨hK, hF, ⟨t, ht, hT1, hT2, hT3⟩, hS, hL⟩ := h4
  rcases q_in2 b 1 4 1 4 rfl rfl (by decide) (by decide) with ⟨l, hl1, hl2, rfl, hw⟩ | hw
  · have sum : (nI t + nI l ≤ 120) = (t + l ≤ 120) := by rw [nI_add]; exact bk_le_iff (a := t + l) (b := 120) (by omega) (by decide)
    have sv : nI l - 1 = bk_sv l := by
      obtain ⟨l, rfl⟩ : ∃ z, l = z + 1 := ⟨l - 1, by omega⟩
      exact nI_pred l
    by_cases hs : t + l ≤ 120
    · have R := fd_all a l t (w.1 1 0) (w.1 4 0) ⟨hT1, hT2, hT3⟩
      obtain ⟨k1, k2⟩ := fd_keep a l t (w.1 4 0)
      refine ⟨nI (t + l), fg_sw w 1 0 (fd_c a (w.1 1 0) t l), fg_sw (fg_sw w 1 0 (fd_c a (w.1 1 0) t l)) 4 0 (fd_r a (w.1 4 0) t l), ?_, ?_, ?_⟩
      · unfold f_X3_feed
        rw [hw, fg_bi_some, if_neg (by decide), hT1, if_pos (by rw [sum]; exact hs), fg_let_eq, sv, p_fdL a _ l t fg_fuel w hl2 (by unfold fg_fuel; omega) hs hT1, fg_sw_at, R.1]
      · unfold f_X4_feed
        have e : (fg_sw w 1 0 (fd_c a (w.1 1 0) t l)).1 4 0 = w.1 4 0 := fg_sw_K _ _ _ _ _ _ (by decide)
        rw [in1_eq, hw, fg_bi_some, if_neg (by decide), e, hT2, if_pos (by rw [sum]; exact hs), fg_let_eq, sv, m_fdL a _ l t fg_fuel _ hl2 (by unfold fg_fuel; omega) hs (by rw [e]; exact hT2), fg_sw_at, e, R.2.1]
      · refine rr_two h' (by decide) (k1 1 (by decide) (by decide)) (k2 5 (by decide)) ⟨?_, ?_, ?_, ?_, ?_⟩
        · exact hK.cg (by rw [fg_sw_K _ _ _ _ _ _ (by decide), fg_sw_K _ _ _ _ _ _ (by decide)]) (by rw [fg_sw_at, k2 3 (by decide)]) (by rw [fg_sw_K _ _ _ _ _ _ (by decide), fg_sw_K _ _ _ _ _ _ (by decide)]) (by rw [fg_sw_at, k1 2 (by decide) (by decide)])
        · exact hF.cg (by rw [fg_sw_K _ _ _ _ _ _ (by decide), fg_sw_K _ _ _ _ _ _ (by decide)]) (by rw [fg_sw_at, k1 4 (by decide) (by decide)])
        · refine ⟨t + l, hs, ?_, ?_, ?_⟩
          · rw [fg_sw_K _ _ _ _ _ _ (by decide), fg_sw_at]; exact R.1
          · rw [fg_sw_at]; exact R.2.1
          · rw [fg_sw_K _ _ _ _ _ _ (by decide), fg_sw_at, fg_sw_at]; exact R.2.2
        · exact hS.cg (fun s _ => by rw [fg_sw_K _ _ _ _ _ _ (by decide), fg_sw_K _ _ _ _ _ _ (by decide)]) (by rw [fg_sw_at, k1 12 (by decide) (by decide)]) (by rw [fg_sw_at, k1 13 (by decide) (by decide)]) (by rw [fg_sw_at, k1 14 (by decide) (by decide)])
        · exact hL.cg (by rw [fg_sw_at, k1 8 (by decide) (by decide)]) (by rw [fg_sw_at, k1 9 (by decide) (by decide)]) (by rw [fg_sw_at, k1 10 (by decide) (by decide)]) (by rw [fg_sw_at, k1 11 (by decide) (by decide)])
    · refine ag.fnd h' (c := 1) (by decide) ?_ (fun w1 e => ?_)
      · unfold f_X3_feed; rw [hw, fg_bi_some, if_neg (by decide), hT1, if_neg (by rw [sum]; exact hs), fg_bi_id]; rfl
      · unfold f_X4_feed; rw [in1_eq, hw, fg_bi_some, if_neg (by decide), e, hT2, if_neg (by rw [sum]; exact hs), fg_bi_id]; rfl
  · refine ag.fnd0 h' ?_ (fun w1 e => ?_)
    · unfold f_X3_feed; rw [hw, fg_bi_some, if_pos rfl, fg_bi_id]
    · unfold f_X4_feed; rw [in1_eq, hw, fg_bi_some, if_pos rfl, fg_bi_id]
