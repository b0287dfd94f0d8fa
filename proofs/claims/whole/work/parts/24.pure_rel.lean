/-! the relation between the two -/
def ro_K (w : fg_W) : Prop := w.1 3 0 0 3 = w.1 4 0 0 3 ∧ (w.1 3 0 0 3 = 0 ∨ (w.1 3 0 0 3 = 1 ∧ ∃ n, bk_I (w.1 2 2) n ∧ w.1 2 2 0 11 = 0 ∧ (w.1 4 0 2 0 = w.1 2 2 0 12 ∧ w.1 4 0 2 1 = w.1 2 2 0 5 ∧ w.1 4 0 2 2 = w.1 2 2 0 13 ∧ w.1 4 0 2 3 = w.1 2 2 0 4) ∧ (∀ j, j < 6 → w.1 4 0 2 (4 + j) = w.1 2 2 4 j) ∧ (∀ f p, f < 3 → p < 10 → w.1 4 0 2 (10 + 3 * p + f) = w.1 2 2 (1 + f) p) ∧ (∀ f k, f < 5 → k < 8 → w.1 4 0 2 (40 + 5 * k + f) = w.1 2 2 (5 + f) k) ∧ (∀ j, j < 10 → w.1 4 0 2 (80 + j) = w.1 2 2 10 j)))
def ro_F (w : fg_W) : Prop := ∀ j, j < 7 → w.1 3 0 1 j = w.1 4 0 4 j
def ro_T (w : fg_W) : Prop := ∃ t, t ≤ 120 ∧ w.1 1 0 0 1 = nI t ∧ w.1 4 0 0 9 = nI t ∧ ∀ j, j < t → w.1 1 0 1 j = w.1 4 0 7 j ∧ ∃ b, b < 256 ∧ w.1 4 0 7 j = nI b
def ro_S (w : fg_W) : Prop := ∀ s, s < 4 → w.1 0 s 0 0 = w.1 4 0 12 s ∧ w.1 0 s 0 1 = w.1 4 0 13 s ∧ (w.1 4 0 12 s = 0 ∨ w.1 4 0 12 s = 8 ∨ w.1 4 0 12 s = 16 ∨ w.1 4 0 12 s = 32) ∧ (∃ m, m ≤ 40 ∧ w.1 4 0 13 s = nI m) ∧ ∀ j, j < 40 → w.1 0 s 1 j = w.1 4 0 14 (40 * s + j)
def r_let : List Int32 := [112, 101, 114, 115, 111, 110, 32, 32, 99, 111, 116, 116, 97, 103, 101, 114, 115, 117, 114, 118, 101, 121, 111, 114, 109, 97, 121, 111, 114, 32, 32, 32, 109, 101, 109, 98, 101, 114, 32, 32, 100, 111, 117, 98, 116, 101, 114, 32, 112, 117, 112, 105, 108, 32, 32, 32]
def r_mor : List Int32 := [111, 110, 32, 32, 32, 32, 32, 32, 98, 101, 108, 105, 101, 118, 101, 115, 112, 117, 114, 115, 101, 32, 32, 32]
def r_oth : List Int32 := [108, 111, 116, 32, 32, 32, 32, 32, 115, 117, 110, 32, 32, 32, 32, 32, 109, 105, 115, 116, 32, 32, 32, 32]
def r_abo : List Int32 := [102, 111, 103, 32, 32, 32, 32, 32, 114, 101, 110, 116, 32, 32, 32, 32, 111, 119, 110, 101, 114, 32, 32, 32]
def ro_L (w : fg_W) : Prop := (∀ j, j < 56 → w.1 4 0 8 j = r_let.getD j 0) ∧ (∀ j, j < 24 → w.1 4 0 9 j = r_mor.getD j 0) ∧ (∀ j, j < 24 → w.1 4 0 10 j = r_oth.getD j 0) ∧ (∀ j, j < 24 → w.1 4 0 11 j = r_abo.getD j 0)
def ro (w : fg_W) : Prop := ro_K w ∧ ro_F w ∧ ro_T w ∧ ro_S w ∧ ro_L w
def rr (w : fg_W) : Prop := ∃ n, rm w (w.1 2 0) ∧ bk_I (w.1 2 0) n ∧ w.1 2 0 0 11 = 0 ∧ ro w
theorem ro.cong {w w' : fg_W} (h : ro w) (e22 : w'.1 2 2 = w.1 2 2) (e3 : w'.1 3 0 = w.1 3 0) (e1 : w'.1 1 0 = w.1 1 0) (e0 : w'.1 0 = w.1 0) (e4 : ∀ c, c ≠ 1 → c ≠ 3 → c ≠ 5 → c ≠ 6 → c ≠ 15 → w'.1 4 0 c = w.1 4 0 c) : ro w' := by
  unfold ro ro_K ro_F ro_T ro_S ro_L at h ⊢
  rw [e22, e3, e1, e0, e4 0 (by decide) (by decide) (by decide) (by decide) (by decide), e4 2 (by decide) (by decide) (by decide) (by decide) (by decide), e4 4 (by decide) (by decide) (by decide) (by decide) (by decide), e4 7 (by decide) (by decide) (by decide) (by decide) (by decide), e4 8 (by decide) (by decide) (by decide) (by decide) (by decide), e4 9 (by decide) (by decide) (by decide) (by decide) (by decide), e4 10 (by decide) (by decide) (by decide) (by decide) (by decide), e4 11 (by decide) (by decide) (by decide) (by decide) (by decide), e4 12 (by decide) (by decide) (by decide) (by decide) (by decide), e4 13 (by decide) (by decide) (by decide) (by decide) (by decide), e4 14 (by decide) (by decide) (by decide) (by decide) (by decide)]
  exact h
theorem rm.of {w w' : fg_W} {A : Nat → Nat → Int32} (h : rm w A) (e : w'.1 4 0 = w.1 4 0) : rm w' A := by
  unfold rm at h ⊢
  rw [e]
  exact h
/-- only the trial world has changed -/
theorem rr.trial {w : fg_W} (h : rr w) (d : Nat → Nat → Int32) : rr (fg_sw w 2 1 d) := by
  obtain ⟨n, h1, h2, h3, h4⟩ := h
  have e0 : (fg_sw w 2 1 d).1 2 0 = w.1 2 0 := fg_sw_i _ _ _ _ _ (by decide)
  have e4 : (fg_sw w 2 1 d).1 4 0 = w.1 4 0 := fg_sw_K _ _ _ _ _ _ (by decide)
  refine ⟨n, by rw [e0]; exact h1.of e4, by rw [e0]; exact h2, by rw [e0]; exact h3, h4.cong (fg_sw_i _ _ _ _ _ (by decide)) (fg_sw_K _ _ _ _ _ _ (by decide)) (fg_sw_K _ _ _ _ _ _ (by decide)) ?_ (fun c _ _ _ _ _ => by rw [e4])⟩
  funext i
  exact fg_sw_K _ _ _ _ _ _ (by decide)
/-- an act, then the same of the reference: one answer, and the relation holds again -/
def ag {α : Type} (x : Option (α × fg_W)) (m : fg_W → Option (α × fg_W)) : Prop := ∃ r w1 w2, x = some (r, w1) ∧ m w1 = some (r, w2) ∧ rr w2
theorem fg_bi_id {α : Type} (x : Option (α × fg_W)) : fg_bi x (fun r w => some (r, w)) = x := by
  cases x with
  | none => rfl
  | some p => rfl
theorem ag.read {α : Type} {w : fg_W} (h : rr w) {r : α} {x : Option (α × fg_W)} {m : fg_W → Option (α × fg_W)} (h1 : x = some (r, w)) (h2 : m w = some (r, w)) : ag x m := ⟨r, w, w, h1, h2, h⟩
theorem p_find {c : Nat} (hc : c < 7) (w : fg_W) : f_X3_finding (nI c) w = some ((-1000001) - nI c, fg_sw w 3 0 (bk_set (w.1 3 0) 1 c (w.1 3 0 1 c + 1))) := by
  unfold f_X3_finding
  rw [fg_gd_nI hc (by decide), fg_gd_nI hc (by decide), fg_let_eq, nI_clamp (by omega), fg_st_set]
theorem m_find {c : Nat} (hc : c < 7) (w : fg_W) : f_X4_no (nI c) w = some ((-1000001) - nI c, fg_sw w 4 0 (bk_set (w.1 4 0) 4 c (w.1 4 0 4 c + 1))) := by
  unfold f_X4_no
  rw [fg_gd_nI hc (by decide), fg_gd_nI hc (by decide), fg_let_eq, nI_clamp (by omega), fg_st_set]
theorem ag.findN {w : fg_W} (h : rr w) {c : Nat} (hc : c < 7) : ag (f_X3_finding (nI c) w) (f_X4_no (nI c)) := by
  refine ⟨_, _, _, p_find hc w, m_find hc _, ?_⟩
  obtain ⟨n, h1, h2, h3, h4, h5, h6, h7, h8⟩ := h
  generalize hw1 : fg_sw w 3 0 (bk_set (w.1 3 0) 1 c (w.1 3 0 1 c + 1)) = w1
  have a2 : ∀ i, w1.1 2 i = w.1 2 i := fun i => by rw [← hw1]; exact fg_sw_K _ _ _ _ _ _ (by decide)
  have a4 : w1.1 4 0 = w.1 4 0 := by rw [← hw1]; exact fg_sw_K _ _ _ _ _ _ (by decide)
  have a1 : ∀ i, w1.1 1 i = w.1 1 i := fun i => by rw [← hw1]; exact fg_sw_K _ _ _ _ _ _ (by decide)
  have a0 : ∀ i, w1.1 0 i = w.1 0 i := fun i => by rw [← hw1]; exact fg_sw_K _ _ _ _ _ _ (by decide)
  have a3 : w1.1 3 0 = bk_set (w.1 3 0) 1 c (w.1 3 0 1 c + 1) := by rw [← hw1]; exact fg_sw_at _ _ _ _
  generalize hw2 : fg_sw w1 4 0 (bk_set (w1.1 4 0) 4 c (w1.1 4 0 4 c + 1)) = w2
  have b2 : ∀ i, w2.1 2 i = w.1 2 i := fun i => by rw [← hw2, fg_sw_K _ _ _ _ _ _ (by decide)]; exact a2 i
  have b1 : ∀ i, w2.1 1 i = w.1 1 i := fun i => by rw [← hw2, fg_sw_K _ _ _ _ _ _ (by decide)]; exact a1 i
  have b0 : ∀ i, w2.1 0 i = w.1 0 i := fun i => by rw [← hw2, fg_sw_K _ _ _ _ _ _ (by decide)]; exact a0 i
  have b3 : w2.1 3 0 = bk_set (w.1 3 0) 1 c (w.1 3 0 1 c + 1) := by rw [← hw2, fg_sw_K _ _ _ _ _ _ (by decide)]; exact a3
  have b4 : w2.1 4 0 = bk_set (w.1 4 0) 4 c (w.1 4 0 4 c + 1) := by rw [← hw2, fg_sw_at, a4]
  have c4 : ∀ c', c' ≠ 4 → w2.1 4 0 c' = w.1 4 0 c' := fun c' hc' => by rw [b4]; funext j; exact bk_nc _ _ hc' _
  refine ⟨n, ?_, by rw [b2]; exact h2, by rw [b2]; exact h3, ?_, ?_, ?_, ?_, ?_⟩
  · rw [b2]
    unfold rm at h1 ⊢
    rw [c4 1 (by decide), c4 0 (by decide)]
    exact h1
  · unfold ro_K at h4 ⊢
    rw [b2, c4 0 (by decide), c4 2 (by decide), b3, bk_nc _ _ (by decide)]
    exact h4
  · intro j hj
    rw [b3, b4]
    by_cases e : j = c
    · subst e; rw [bk_same, bk_same, h5 j hj]
    · rw [bk_ne _ _ (Or.inr e), bk_ne _ _ (Or.inr e)]; exact h5 j hj
  · unfold ro_T at h6 ⊢
    rw [b1, c4 0 (by decide), c4 7 (by decide)]; exact h6
  · unfold ro_S at h7 ⊢
    rw [c4 12 (by decide), c4 13 (by decide), c4 14 (by decide)]
    intro s hs
    rw [b0]; exact h7 s hs
  · unfold ro_L at h8 ⊢
    rw [c4 8 (by decide), c4 9 (by decide), c4 10 (by decide), c4 11 (by decide)]; exact h8
theorem ag.find0 {w : fg_W} (h : rr w) : ag (f_X3_finding 0 w) (f_X4_no 0) := ag.findN h (c := 0) (by decide)
theorem ag.find1 {w : fg_W} (h : rr w) : ag (f_X3_finding 1 w) (f_X4_no 1) := ag.findN h (c := 1) (by decide)
theorem ag.find2 {w : fg_W} (h : rr w) : ag (f_X3_finding 2 w) (f_X4_no 2) := ag.findN h (c := 2) (by decide)
theorem ag.find3 {w : fg_W} (h : rr w) : ag (f_X3_finding 3 w) (f_X4_no 3) := ag.findN h (c := 3) (by decide)
theorem ag.find4 {w : fg_W} (h : rr w) : ag (f_X3_finding 4 w) (f_X4_no 4) := ag.findN h (c := 4) (by decide)
theorem ag.find5 {w : fg_W} (h : rr w) : ag (f_X3_finding 5 w) (f_X4_no 5) := ag.findN h (c := 5) (by decide)
theorem ag.find6 {w : fg_W} (h : rr w) : ag (f_X3_finding 6 w) (f_X4_no 6) := ag.findN h (c := 6) (by decide)
-- arguments
theorem in1_eq : f_X4_in1 = f_X3_within := rfl
theorem q_in (a : Int32) (N : Nat) (hi : Int32) (e : hi = nI N) (hN : N < 2 ^ 30) : (∃ j, j ≤ N ∧ a = nI j ∧ ∀ w, f_X3_within a 0 hi w = some (1, w)) ∨ ((a < 0 ∨ hi < a) ∧ ∀ w, f_X3_within a 0 hi w = some (0, w)) := by
  subst e
  by_cases h1 : a < 0
  · exact Or.inr ⟨Or.inl h1, fun w => by unfold f_X3_within; rw [if_pos h1]⟩
  · by_cases h2 : nI N < a
    · exact Or.inr ⟨Or.inr h2, fun w => by unfold f_X3_within; rw [if_neg h1, if_pos h2]⟩
    · obtain ⟨j, hj, rfl⟩ := nI_of h1
      refine Or.inl ⟨j, ?_, rfl, fun w => by unfold f_X3_within; rw [if_neg h1, if_neg h2]⟩
      rw [bk_lt_iff (by omega) hj] at h2
      omega
theorem q_lot (a : Int32) : (∃ p, p < 10 ∧ a = nI p ∧ (∀ w, f_X3_isLot a w = some (1, w)) ∧ ∀ w, f_X4_isLot a w = some (1, w)) ∨ ((∀ w, f_X3_isLot a w = some (0, w)) ∧ ∀ w, f_X4_isLot a w = some (0, w)) := by
  rcases q_in a 9 9 rfl (by decide) with ⟨j, hj, e, hw⟩ | ⟨hb, hw⟩
  · refine Or.inl ⟨j, by omega, e, fun w => ?_, fun w => ?_⟩
    · subst e
      unfold f_X3_isLot
      rw [if_neg (nI_pos (by omega)), if_neg (show ¬ (10 : Int32) ≤ nI j from nI_ge (a := j) (b := 10) (by omega) (by decide))]
    · unfold f_X4_isLot; rw [in1_eq, hw, fg_bi_some, fg_gp_in (by decide)]
  · refine Or.inr ⟨fun w => ?_, fun w => ?_⟩
    · unfold f_X3_isLot
      rcases hb with h | h
      · rw [if_pos h]
      · by_cases h0 : a < 0
        · rw [if_pos h0]
        · rw [if_neg h0, if_pos]
          obtain ⟨j, hj, rfl⟩ := nI_of h0
          rw [show (9 : Int32) = nI 9 from rfl, bk_lt_iff (by omega) hj] at h
          exact nI_le (a := 10) (by omega) hj
    · unfold f_X4_isLot; rw [in1_eq, hw, fg_bi_some, fg_gp_in (by decide)]
theorem q_per (a : Int32) (n : Nat) (hn : n ≤ 8) : (∃ k, k < n ∧ a = nI k ∧ (∀ (i : Nat) (w : fg_W), bk_N (w.1 2 i) n → f_X2_isPerson i a w = some (1, w)) ∧ ∀ w : fg_W, w.1 4 0 1 1 = nI n → f_X4_isPerson a w = some (1, w)) ∨ ((a < 0 ∨ nI n ≤ a) ∧ (∀ (i : Nat) (w : fg_W), bk_N (w.1 2 i) n → f_X2_isPerson i a w = some (0, w)) ∧ ∀ w : fg_W, w.1 4 0 1 1 = nI n → f_X4_isPerson a w = some (0, w)) := by
  have hm : ∀ w : fg_W, w.1 4 0 1 1 = nI n → f_X4_isPerson a w = fg_bi (some ((if a < 0 then 0 else if nI n ≤ a then 0 else 1 : Int32), w)) (fun r3 w1 => fg_gp (r3 = 0 ∨ r3 = 1) (some (r3, w1))) := by
    intro w hw
    unfold f_X4_isPerson
    rw [in1_eq, hw]
    congr 1
    unfold f_X3_within
    by_cases h0 : a < 0
    · rw [if_pos h0, if_pos h0]
    · rw [if_neg h0, if_neg h0]
      obtain ⟨j, hj, rfl⟩ := nI_of h0
      by_cases hz : n = 0
      · subst hz
        rw [if_pos, if_pos (nI_le (by omega) hj)]
        show nI 0 - 1 < nI j
        rw [Int32.lt_iff_toInt_lt, nI_toInt hj, show (nI 0 - 1 : Int32).toInt = -1 from rfl]
        omega
      · obtain ⟨n', rfl⟩ : ∃ z, n = z + 1 := ⟨n - 1, by omega⟩
        rw [nI_pred]
        by_cases h2 : n' < j
        · rw [if_pos (nI_lt h2 hj), if_pos (nI_le (by omega) hj)]
        · rw [if_neg (nI_nlt (by omega) (by omega)), if_neg (nI_ge (by omega) (by omega))]
  rcases pk_ix a (n := n) (by omega) with h | h | ⟨k, hk, e⟩
  · refine Or.inr ⟨Or.inl h, fun i w hw => by rw [p_isP hw, if_pos h], fun w hw => ?_⟩
    rw [hm w hw, if_pos h, fg_bi_some, fg_gp_in (by decide)]
  · have h0 : ¬ a < 0 := fun z => absurd (Int32.lt_of_le_of_lt h z) (nI_pos (by omega))
    refine Or.inr ⟨Or.inr h, fun i w hw => by rw [p_isP hw, if_neg h0, if_pos h], fun w hw => ?_⟩
    rw [hm w hw, if_neg h0, if_pos h, fg_bi_some, fg_gp_in (by decide)]
  · subst e
    refine Or.inl ⟨k, hk, rfl, fun i w hw => by rw [p_isP hw, if_neg (nI_pos (by omega)), if_neg (nI_ge hk (by omega))], fun w hw => ?_⟩
    rw [hm w hw, if_neg (nI_pos (by omega)), if_neg (nI_ge hk (by omega)), fg_bi_some, fg_gp_in (by decide)]
/-- the world and the row of the reference have changed alike -/
theorem rr.world {w : fg_W} {n : Nat} {d e : Nat → Nat → Int32} (h4 : ro w) (h1 : rm (fg_sw (fg_sw w 2 0 d) 4 0 e) d) (h2 : bk_I d n) (h3 : d 0 11 = 0) (he : ∀ c, c ≠ 1 → e c = w.1 4 0 c) : rr (fg_sw (fg_sw w 2 0 d) 4 0 e) := by
  have a0 : (fg_sw (fg_sw w 2 0 d) 4 0 e).1 2 0 = d := by rw [fg_sw_K _ _ _ _ _ _ (by decide), fg_sw_at]
  refine ⟨n, by rw [a0]; exact h1, by rw [a0]; exact h2, by rw [a0]; exact h3, h4.cong ?_ ?_ ?_ ?_ ?_⟩
  · rw [fg_sw_K _ _ _ _ _ _ (by decide), fg_sw_i _ _ _ _ _ (by decide)]
  · rw [fg_sw_K _ _ _ _ _ _ (by decide), fg_sw_K _ _ _ _ _ _ (by decide)]
  · rw [fg_sw_K _ _ _ _ _ _ (by decide), fg_sw_K _ _ _ _ _ _ (by decide)]
  · funext i
    rw [fg_sw_K _ _ _ _ _ _ (by decide), fg_sw_K _ _ _ _ _ _ (by decide)]
  · intro c hc _ _ _ _
    rw [fg_sw_at]; exact he c hc
theorem rm.own {w : fg_W} {A : Nat → Nat → Int32} (h : rm w A) (K i : Nat) (d : Nat → Nat → Int32) (hK : K ≠ 4) : rm (fg_sw w K i d) A := h.of (fg_sw_K _ _ _ _ _ _ (by omega))
theorem bk_set_ne1 {e : Nat → Nat → Int32} {j : Nat} {v : Int32} : ∀ c, c ≠ 1 → bk_set e 1 j v c = e c := fun c hc => by funext q; exact bk_nc _ _ hc _
theorem p_exch {K i b n j : Nat} {v : Int32} {w : fg_W} (hj : j < n) (hn : n < 2 ^ 31) : f_X3_exchange K i b n (nI j) v w = some (w.1 K i b j, fg_sw w K i (bk_set (w.1 K i) b j v)) := by
  unfold f_X3_exchange
  rw [fg_gd_nI hj hn, fg_let_eq, fg_gd_nI hj hn, fg_let_eq, nI_clamp (by omega), fg_st_set]
theorem rm.sc {w : fg_W} {A : Nat → Nat → Int32} (h : rm w A) {ix j : Nat} (v : Int32) (hx : (ix = 0 ∧ j = 12) ∨ (ix = 1 ∧ j = 5) ∨ (ix = 2 ∧ j = 13) ∨ (ix = 3 ∧ j = 4)) : rm (fg_sw w 4 0 (bk_set (w.1 4 0) 1 ix v)) (bk_set A 0 j v) := by
  obtain ⟨⟨h1, h2, h3, h4, h5⟩, h6, h7, h8, h9⟩ := h
  unfold rm
  rw [fg_sw_at]
  refine ⟨⟨?_, ?_, ?_, ?_, ?_⟩, fun j hj => ?_, fun f' p' hf' hp' => ?_, fun f' k hf' hk => ?_, fun j hj => ?_⟩
  · by_cases e : ix = 0
    · obtain rfl : j = 12 := by omega
      subst e; rw [bk_same, bk_same]
    · rw [bk_ne _ _ (by omega), bk_ne _ _ (by omega)]; exact h1
  · by_cases e : ix = 1
    · obtain rfl : j = 5 := by omega
      subst e; rw [bk_same, bk_same]
    · rw [bk_ne _ _ (by omega), bk_ne _ _ (by omega)]; exact h2
  · by_cases e : ix = 2
    · obtain rfl : j = 13 := by omega
      subst e; rw [bk_same, bk_same]
    · rw [bk_ne _ _ (by omega), bk_ne _ _ (by omega)]; exact h3
  · by_cases e : ix = 3
    · obtain rfl : j = 4 := by omega
      subst e; rw [bk_same, bk_same]
    · rw [bk_ne _ _ (by omega), bk_ne _ _ (by omega)]; exact h4
  · rw [bk_nc _ _ (by omega), bk_ne _ _ (by omega)]; exact h5
  · rw [bk_ne _ _ (by omega), bk_nc _ _ (by omega)]; exact h6 j hj
  · rw [bk_ne _ _ (by omega), bk_nc _ _ (by omega)]; exact h7 f' p' hf' hp'
  · rw [bk_ne _ _ (by omega), bk_nc _ _ (by omega)]; exact h8 f' k hf' hk
  · rw [bk_ne _ _ (by omega), bk_nc _ _ (by omega)]; exact h9 j hj
theorem rm.sun {w : fg_W} {A : Nat → Nat → Int32} (h : rm w A) {q : Nat} (v : Int32) (hq : q < 6) : rm (fg_sw w 4 0 (bk_set (w.1 4 0) 1 (4 + q) v)) (bk_set A 4 q v) := by
  obtain ⟨⟨h1, h2, h3, h4, h5⟩, h6, h7, h8, h9⟩ := h
  unfold rm
  rw [fg_sw_at]
  refine ⟨⟨?_, ?_, ?_, ?_, ?_⟩, fun j hj => ?_, fun f' p' hf' hp' => ?_, fun f' k hf' hk => ?_, fun j hj => ?_⟩
  · rw [bk_ne _ _ (by omega), bk_nc _ _ (by omega)]; exact h1
  · rw [bk_ne _ _ (by omega), bk_nc _ _ (by omega)]; exact h2
  · rw [bk_ne _ _ (by omega), bk_nc _ _ (by omega)]; exact h3
  · rw [bk_ne _ _ (by omega), bk_nc _ _ (by omega)]; exact h4
  · rw [bk_nc _ _ (by omega), bk_nc _ _ (by omega)]; exact h5
  · by_cases e : j = q
    · subst e; rw [bk_same, bk_same]
    · rw [bk_ne _ _ (by omega), bk_ne _ _ (by omega)]; exact h6 j hj
  · rw [bk_ne _ _ (by omega), bk_nc _ _ (by omega)]; exact h7 f' p' hf' hp'
  · rw [bk_ne _ _ (by omega), bk_nc _ _ (by omega)]; exact h8 f' k hf' hk
  · rw [bk_ne _ _ (by omega), bk_nc _ _ (by omega)]; exact h9 j hj
theorem rm.spot {w : fg_W} {A : Nat → Nat → Int32} (h : rm w A) {q : Nat} (v : Int32) (hq : q < 10) : rm (fg_sw w 4 0 (bk_set (w.1 4 0) 1 (80 + q) v)) (bk_set A 10 q v) := by
  obtain ⟨⟨h1, h2, h3, h4, h5⟩, h6, h7, h8, h9⟩ := h
  unfold rm
  rw [fg_sw_at]
  refine ⟨⟨?_, ?_, ?_, ?_, ?_⟩, fun j hj => ?_, fun f' p' hf' hp' => ?_, fun f' k hf' hk => ?_, fun j hj => ?_⟩
  · rw [bk_ne _ _ (by omega), bk_nc _ _ (by omega)]; exact h1
  · rw [bk_ne _ _ (by omega), bk_nc _ _ (by omega)]; exact h2
  · rw [bk_ne _ _ (by omega), bk_nc _ _ (by omega)]; exact h3
  · rw [bk_ne _ _ (by omega), bk_nc _ _ (by omega)]; exact h4
  · rw [bk_nc _ _ (by omega), bk_nc _ _ (by omega)]; exact h5
  · rw [bk_ne _ _ (by omega), bk_nc _ _ (by omega)]; exact h6 j hj
  · rw [bk_ne _ _ (by omega), bk_nc _ _ (by omega)]; exact h7 f' p' hf' hp'
  · rw [bk_ne _ _ (by omega), bk_nc _ _ (by omega)]; exact h8 f' k hf' hk
  · by_cases e : j = q
    · subst e; rw [bk_same, bk_same]
    · rw [bk_ne _ _ (by omega), bk_ne _ _ (by omega)]; exact h9 j hj
/-- one number of the bank becomes v, on both sides; its old value is the answer -/
theorem ag.set1 {w : fg_W} {n : Nat} {c j ix : Nat} {v r : Int32} {x : Option (Int32 × fg_W)} {m : fg_W → Option (Int32 × fg_W)} (h4 : ro w) (h1 : ∀ w1 : fg_W, rm w1 (w.1 2 0) → rm (fg_sw w1 4 0 (bk_set (w1.1 4 0) 1 ix v)) (bk_set (w.1 2 0) c j v)) (h0 : rm w (w.1 2 0)) (h2 : bk_I (bk_set (w.1 2 0) c j v) n) (h3 : bk_set (w.1 2 0) c j v 0 11 = 0) (hx : x = some (r, fg_sw w 2 0 (bk_set (w.1 2 0) c j v))) (hm : ∀ w1 : fg_W, rm w1 (w.1 2 0) → m w1 = some (r, fg_sw w1 4 0 (bk_set (w1.1 4 0) 1 ix v))) : ag x m := by
  have g := h0.own 2 0 (bk_set (w.1 2 0) c j v) (by decide)
  refine ⟨r, _, _, hx, hm _ g, ?_⟩
  refine rr.world h4 (h1 _ g) h2 h3 (fun c' hc' => ?_)
  rw [fg_sw_K _ _ _ _ _ _ (by decide)]
  exact bk_set_ne1 c' hc'
theorem ag_mist {w : fg_W} (h : rr w) (a : Int32) : ag (f_X3_mist a w) (f_X4_mist a) := by
  rcases q_in a 40 40 rfl (by decide) with ⟨j, hj, e, hw⟩ | ⟨hb, hw⟩
  · obtain ⟨n, h1, h2, h3, h4⟩ := h
    refine ag.set1 (n := n) (c := 0) (j := 4) (ix := 3) (v := a) (r := w.1 2 0 0 4) h4 (fun w1 g => g.sc a (by omega)) h1 (h2.cong (fun c j _ _ _ h0 _ _ => bk_ne _ _ (by omega))) (by rw [bk_ne _ _ (Or.inr (by decide))]; exact h3) ?_ (fun w1 g => ?_)
    · unfold f_X3_mist; rw [hw, fg_bi_some, if_neg (by decide), fg_let_eq, fg_let_eq, fg_st_set]
    · unfold f_X4_mist; rw [in1_eq, hw, fg_bi_some, if_neg (by decide), fg_let_eq, fg_let_eq, fg_st_set, g.1.2.2.2.1]
  · have hl : f_X3_mist a w = f_X3_finding 0 w := by unfold f_X3_mist; rw [hw, fg_bi_some, if_pos rfl, fg_bi_id]
    have hr : f_X4_mist a = f_X4_no 0 := by
      funext w1; unfold f_X4_mist; rw [in1_eq, hw, fg_bi_some, if_pos rfl, fg_bi_id]
    rw [hl, hr]
    exact ag.find0 h
theorem ag_sun {w : fg_W} (h : rr w) (a b : Int32) : ag (f_X3_sun a b w) (f_X4_sun a b) := by
  rcases q_in a 5 5 rfl (by decide) with ⟨j, hj, e, hw⟩ | ⟨_, hw⟩
  · rcases q_in b 40 40 rfl (by decide) with ⟨j2, hj2, e2, hw2⟩ | ⟨_, hw2⟩
    · obtain ⟨n, h1, h2, h3, h4⟩ := h
      subst e
      refine ag.set1 (n := n) (c := 4) (j := j) (ix := 4 + j) (v := b) (r := w.1 2 0 4 j) h4 (fun w1 g => g.sun b (by omega)) h1 (h2.cong (fun c j _ _ h4 _ _ _ => bk_nc _ _ h4 _)) (by rw [bk_nc _ _ (by decide)]; exact h3) ?_ (fun w1 g => ?_)
      · unfold f_X3_sun; rw [hw, fg_bi_some, if_neg (by decide), hw2, fg_bi_some, if_neg (by decide), fg_bi_id, p_exch (by omega) (by decide)]
      · unfold f_X4_sun; rw [in1_eq, hw, fg_bi_some, if_neg (by decide), hw2, fg_bi_some, if_neg (by decide), show (4 : Int32) + nI j = nI (4 + j) from nI_add 4 j, fg_gd_nI (by omega) (by decide), fg_let_eq, fg_gd_nI (by omega) (by decide), fg_let_eq, nI_clamp (by omega), fg_st_set, g.2.1 j (by omega)]
    · have hl : f_X3_sun a b w = f_X3_finding 0 w := by unfold f_X3_sun; rw [hw, fg_bi_some, if_neg (by decide), hw2, fg_bi_some, if_pos rfl, fg_bi_id]
      have hr : f_X4_sun a b = f_X4_no 0 := by
        funext w1; unfold f_X4_sun; rw [in1_eq, hw, fg_bi_some, if_neg (by decide), hw2, fg_bi_some, if_pos rfl, fg_bi_id]
      rw [hl, hr]; exact ag.find0 h
  · have hl : f_X3_sun a b w = f_X3_finding 0 w := by unfold f_X3_sun; rw [hw, fg_bi_some, if_pos rfl, fg_bi_id]
    have hr : f_X4_sun a b = f_X4_no 0 := by
      funext w1; unfold f_X4_sun; rw [in1_eq, hw, fg_bi_some, if_pos rfl, fg_bi_id]
    rw [hl, hr]; exact ag.find0 h
theorem ag_seed {w : fg_W} (h : rr w) (a : Int32) : ag (f_X3_seed a w) (f_X4_seed a) := by
  obtain ⟨n, h1, h2, h3, h4⟩ := h
  refine ag.set1 (n := n) (c := 0) (j := 13) (ix := 2) (v := a) (r := w.1 2 0 0 13) h4 (fun w1 g => g.sc a (by omega)) h1 (h2.cong (fun c j _ _ _ h0 _ _ => bk_ne _ _ (by omega))) (by rw [bk_ne _ _ (Or.inr (by decide))]; exact h3) ?_ (fun w1 g => ?_)
  · unfold f_X3_seed; simp only [fg_let_eq, fg_st_set]
  · unfold f_X4_seed; simp only [fg_let_eq, fg_st_set]; rw [g.1.2.2.1]
