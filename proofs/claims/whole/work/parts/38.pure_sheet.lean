-- sheets
def sh_R (B C : Nat → Nat → Int32) (s : Nat) : Prop := B 0 0 = C 12 s ∧ B 0 1 = C 13 s ∧ (C 12 s = 0 ∨ C 12 s = 8 ∨ C 12 s = 16 ∨ C 12 s = 32) ∧ (∃ m, m ≤ 40 ∧ C 13 s = nI m) ∧ ∀ j, j < 40 → B 1 j = C 14 (40 * s + j)
theorem rr_sh {w : fg_W} {s : Nat} {B C : Nat → Nat → Int32} (h : rr w) (hs : s < 4) (hR : sh_R B C s) (ho : ∀ s', s' < 4 → s' ≠ s → C 12 s' = w.1 4 0 12 s' ∧ C 13 s' = w.1 4 0 13 s' ∧ ∀ j, j < 40 → C 14 (40 * s' + j) = w.1 4 0 14 (40 * s' + j)) (hc : ∀ c, c ≠ 12 → c ≠ 13 → c ≠ 14 → c ≠ 15 → C c = w.1 4 0 c) : rr (fg_sw (fg_sw w 0 s B) 4 0 C) := by
  have h' := h
  obtain ⟨n, h1, h2, h3, h4⟩ := h
  obtain ⟨hK, hF, hT, hS, hL⟩ := h4
  have H := fun c c12 c13 c14 c15 => hc c c12 c13 c14 c15
  refine rr_two h' (by decide) (hc 1 (by decide) (by decide) (by decide) (by decide)) (by rw [hc 0 (by decide) (by decide) (by decide) (by decide)]) ⟨?_, ?_, ?_, ?_, ?_⟩
  · exact hK.cg (by rw [fg_sw_K _ _ _ _ _ _ (by decide), fg_sw_K _ _ _ _ _ _ (by decide)]) (by rw [fg_sw_at, hc 0 (by decide) (by decide) (by decide) (by decide)]) (by rw [fg_sw_K _ _ _ _ _ _ (by decide), fg_sw_K _ _ _ _ _ _ (by decide)]) (by rw [fg_sw_at, hc 2 (by decide) (by decide) (by decide) (by decide)])
  · exact hF.cg (by rw [fg_sw_K _ _ _ _ _ _ (by decide), fg_sw_K _ _ _ _ _ _ (by decide)]) (by rw [fg_sw_at, hc 4 (by decide) (by decide) (by decide) (by decide)])
  · exact hT.cg (by rw [fg_sw_K _ _ _ _ _ _ (by decide), fg_sw_K _ _ _ _ _ _ (by decide)]) (by rw [fg_sw_K _ _ _ _ _ _ (by decide), fg_sw_K _ _ _ _ _ _ (by decide)]) (by rw [fg_sw_at, hc 0 (by decide) (by decide) (by decide) (by decide)]) (by rw [fg_sw_at, hc 7 (by decide) (by decide) (by decide) (by decide)])
  · intro s' hs'
    rw [fg_sw_K _ 4 0 0 s' _ (by decide), fg_sw_at]
    by_cases e : s' = s
    · subst e; rw [fg_sw_at]; exact hR
    · obtain ⟨o1, o2, o3⟩ := ho s' hs' e
      obtain ⟨g1, g2, g3, g4, g5⟩ := hS s' hs'
      rw [fg_sw_i _ _ _ _ _ e, o1, o2]
      exact ⟨g1, g2, g3, g4, fun j hj => (g5 j hj).trans (o3 j hj).symm⟩
  · exact hL.cg (by rw [fg_sw_at, hc 8 (by decide) (by decide) (by decide) (by decide)]) (by rw [fg_sw_at, hc 9 (by decide) (by decide) (by decide) (by decide)]) (by rw [fg_sw_at, hc 10 (by decide) (by decide) (by decide) (by decide)]) (by rw [fg_sw_at, hc 11 (by decide) (by decide) (by decide) (by decide)])
theorem ag.sh {w : fg_W} {s : Nat} {B C : Nat → Nat → Int32} {r : Int32} {x : Option (Int32 × fg_W)} {m : fg_W → Option (Int32 × fg_W)} (h : rr w) (hs : s < 4) (hx : x = some (r, fg_sw w 0 s B)) (hm : m (fg_sw w 0 s B) = some (r, fg_sw (fg_sw w 0 s B) 4 0 C)) (hR : sh_R B C s) (ho : ∀ s', s' < 4 → s' ≠ s → C 12 s' = w.1 4 0 12 s' ∧ C 13 s' = w.1 4 0 13 s' ∧ ∀ j, j < 40 → C 14 (40 * s' + j) = w.1 4 0 14 (40 * s' + j)) (hc : ∀ c, c ≠ 12 → c ≠ 13 → c ≠ 14 → c ≠ 15 → C c = w.1 4 0 c) : ag x m := ⟨r, _, _, hx, hm, rr_sh h hs hR ho hc⟩
/-- a row of cells is filled -/
def bk_fl (c o : Nat) (f : Nat → Int32) (B : Nat → Nat → Int32) (j : Nat) : Nat → Nat → Int32 := bk_set B c (o + j) (f j)
theorem bk_fl_at (c o : Nat) (f : Nat → Int32) : ∀ (m j : Nat) (B : Nat → Nat → Int32) (c' q : Nat), bk_it (bk_fl c o f) B j m c' q = if c' = c ∧ o + j ≤ q ∧ q < o + j + m then f (q - o) else B c' q := by
  intro m
  induction m with
  | zero => intro j B c' q; rw [if_neg (by omega)]; rfl
  | succ m ih =>
    intro j B c' q
    rw [bk_it, ih (j + 1) (bk_fl c o f B j) c' q]
    unfold bk_fl
    by_cases h1 : c' = c ∧ o + (j + 1) ≤ q ∧ q < o + (j + 1) + m
    · rw [if_pos h1, if_pos (by omega)]
    · rw [if_neg h1]
      by_cases h2 : c' = c ∧ q = o + j
      · obtain ⟨rfl, rfl⟩ := h2
        rw [bk_same, if_pos (by omega), show o + j - o = j by omega]
      · rw [bk_ne _ _ (by omega), if_neg (by omega)]
theorem bk_fl_c (c o : Nat) (f : Nat → Int32) (m j : Nat) (B : Nat → Nat → Int32) {c' : Nat} (h : c' ≠ c) : bk_it (bk_fl c o f) B j m c' = B c' := by
  funext q
  rw [bk_fl_at, if_neg (fun z => h z.1)]
theorem p_begL {s : Nat} (K : Int32 → fg_W → Option fg_W) : ∀ (m j fu : Nat) (w : fg_W), j + m = 40 → m < fu → f_X0_begin_L20 s K fu (nI j) w = K (nI 40) (fg_sw w 0 s (bk_it (bk_fl 1 0 (fun _ => 0)) (w.1 0 s) j m)) := by
  intro m
  induction m with
  | zero =>
    intro j fu w hj hf
    obtain ⟨fu, rfl⟩ : ∃ z, fu = z + 1 := ⟨fu - 1, by omega⟩
    obtain rfl : j = 40 := by omega
    rw [f_X0_begin_L20, if_pos (by decide)]
    show _ = K (nI 40) (fg_sw w 0 s (w.1 0 s))
    rw [fg_sw_id]
  | succ m ih =>
    intro j fu w hj hf
    obtain ⟨fu, rfl⟩ : ∃ z, fu = z + 1 := ⟨fu - 1, by omega⟩
    rw [f_X0_begin_L20, if_neg (show ¬ (40 : Int32) ≤ nI j from nI_ge (a := j) (b := 40) (by omega) (by decide)), fg_gd_nI (by omega) (by decide), fg_let_eq, nI_clamp (by omega), fg_st_set, nI_1, ih (j + 1) fu _ (by omega) (by omega), fg_sw_at, fg_sw_sw, bk_it]
    unfold bk_fl
    rw [Nat.zero_add]
theorem m_begL {s : Nat} (hs : s < 4) (K : Int32 → fg_W → Option (Int32 × fg_W)) : ∀ (m j fu : Nat) (w : fg_W), j + m = 40 → m < fu → f_X4_sheet_L83 (nI s) K fu (nI j) w = K (nI 40) (fg_sw w 4 0 (bk_it (bk_fl 14 (40 * s) (fun _ => 0)) (w.1 4 0) j m)) := by
  intro m
  induction m with
  | zero =>
    intro j fu w hj hf
    obtain ⟨fu, rfl⟩ : ∃ z, fu = z + 1 := ⟨fu - 1, by omega⟩
    obtain rfl : j = 40 := by omega
    rw [f_X4_sheet_L83, if_pos (by decide)]
    show _ = K (nI 40) (fg_sw w 4 0 (w.1 4 0))
    rw [fg_sw_id]
  | succ m ih =>
    intro j fu w hj hf
    obtain ⟨fu, rfl⟩ : ∃ z, fu = z + 1 := ⟨fu - 1, by omega⟩
    rw [f_X4_sheet_L83, if_neg (show ¬ (40 : Int32) ≤ nI j from nI_ge (a := j) (b := 40) (by omega) (by decide)), show (40 : Int32) * nI s + nI j = nI (40 * s + j) by rw [show (40 : Int32) = nI 40 from rfl, pk_mul, nI_add], fg_gd_nI (show 40 * s + j < 160 by omega) (by decide), fg_let_eq, nI_clamp (by omega), fg_st_set, nI_1, ih (j + 1) fu _ (by omega) (by omega), fg_sw_at, fg_sw_sw, bk_it]
    rfl
theorem p_begin {s : Nat} (a l : Int32) (w : fg_W) : f_X0_begin s a l w = some (fg_sw w 0 s (bk_it (bk_fl 1 0 (fun _ => 0)) (bk_set (bk_set (w.1 0 s) 0 0 a) 0 1 (if a = 0 then 0 else l)) 0 40)) := by
  have L := fun w => p_begL (s := s) (fun v3_20 w_20 => some w_20) 40 0 fg_fuel w (by omega) (by unfold fg_fuel; omega)
  unfold f_X0_begin
  rw [nI_0] at L
  simp only [fg_let_eq, fg_st_set, fg_sw_at, fg_sw_sw, L]
  by_cases h : a = 0
  · rw [if_pos h, if_pos h]
  · rw [if_neg h, if_neg h]
def sh_wd (a : Int32) : Prop := a = 0 ∨ a = 8 ∨ a = 16 ∨ a = 32
theorem sh_p {a1 a2 a3 : Int32} {w : fg_W} (h : sh_wd a2) : f_X3_sheet a1 a2 a3 w = fg_bi (f_X3_isSheet a1 w) (fun r3 w1 => if r3 = 0 then f_X3_finding 0 w1 else (if 0 ≤ a3 then (if a3 ≤ 40 then (fg_gd a1 4 (fg_bv (f_X0_begin a1.toNatClampNeg a2 a3 w1) (fun w8 => fg_gd a1 4 (some ((w8.1 0 a1.toNatClampNeg 0 1), w8))))) else f_X3_finding 0 w1) else f_X3_finding 6 w1)) := by
  unfold f_X3_sheet
  rcases h with rfl | rfl | rfl | rfl
  · rw [if_pos rfl]; simp only [fg_bi_id]
  · rw [if_neg (by decide), if_pos rfl]; simp only [fg_bi_id]
  · rw [if_neg (by decide), if_neg (by decide), if_pos rfl]; simp only [fg_bi_id]
  · rw [if_neg (by decide), if_neg (by decide), if_neg (by decide), if_pos rfl]; simp only [fg_bi_id]
theorem sh_p0 {a1 a2 a3 : Int32} {w : fg_W} (h : ¬ sh_wd a2) : f_X3_sheet a1 a2 a3 w = fg_bi (f_X3_isSheet a1 w) (fun r51 w49 => if r51 = 0 then f_X3_finding 0 w49 else f_X3_finding 0 w49) := by
  unfold f_X3_sheet
  rw [if_neg (fun z => h (Or.inl z)), if_neg (fun z => h (Or.inr (Or.inl z))), if_neg (fun z => h (Or.inr (Or.inr (Or.inl z)))), if_neg (fun z => h (Or.inr (Or.inr (Or.inr z))))]
  simp only [fg_bi_id]
def sh_mb (s : Nat) (a2 l : Int32) (w1 : fg_W) : Option (Int32 × fg_W) := some (l, fg_sw w1 4 0 (bk_it (bk_fl 14 (40 * s) (fun _ => 0)) (bk_set (bk_set (w1.1 4 0) 12 s a2) 13 s l) 0 40))
theorem sh_mk {s : Nat} (hs : s < 4) (a2 a3 : Int32) (w1 : fg_W) : fg_gd (nI s) 4 (fg_let (fg_st w1 4 0 12 (upd (w1.1 4 0 12) (nI s).toNatClampNeg a2)) (fun w7 => if a2 = 0 then (fg_gd (nI s) 4 (fg_let (fg_st w7 4 0 13 (upd (w7.1 4 0 13) (nI s).toNatClampNeg 0)) (fun w16 => f_X4_sheet_L83 (nI s) (fun v4_83 w_83 => fg_gd (nI s) 4 (some ((w_83.1 4 0 13 (nI s).toNatClampNeg), w_83))) fg_fuel 0 w16))) else (fg_gd (nI s) 4 (fg_let (fg_st w7 4 0 13 (upd (w7.1 4 0 13) (nI s).toNatClampNeg a3)) (fun w9 => f_X4_sheet_L83 (nI s) (fun v4_83 w_83 => fg_gd (nI s) 4 (some ((w_83.1 4 0 13 (nI s).toNatClampNeg), w_83))) fg_fuel 0 w9))))) = sh_mb s a2 (if a2 = 0 then 0 else a3) w1 := by
  have L := fun w => m_begL hs (fun v4_83 w_83 => fg_gd (nI s) 4 (some ((w_83.1 4 0 13 (nI s).toNatClampNeg), w_83))) 40 0 fg_fuel w (by omega) (by unfold fg_fuel; omega)
  simp only [nI_0, fg_gd_nI hs (show 4 < 2 ^ 31 by decide), nI_clamp (show s < 2 ^ 31 by omega)] at L
  simp only [fg_gd_nI hs (show 4 < 2 ^ 31 by decide), nI_clamp (show s < 2 ^ 31 by omega), fg_let_eq, fg_st_set, fg_sw_at, fg_sw_sw, L]
  unfold sh_mb
  by_cases h : a2 = 0
  · rw [if_pos h, if_pos h, bk_fl_c _ _ _ _ _ _ (by decide), bk_same]
  · rw [if_neg h, if_neg h, bk_fl_c _ _ _ _ _ _ (by decide), bk_same]
theorem sh_m {s : Nat} (hs : s < 4) {a2 a3 : Int32} {w : fg_W} (h : sh_wd a2) (s2 : ∀ w, f_X4_isSheet (nI s) w = some (1, w)) : f_X4_sheet (nI s) a2 a3 w = (if 0 ≤ a3 then (if a3 ≤ 40 then sh_mb s a2 (if a2 = 0 then 0 else a3) w else f_X4_no 0 w) else f_X4_no 6 w) := by
  unfold f_X4_sheet
  rw [s2, fg_bi_some, if_neg (by decide)]
  simp only [sh_mk hs, fg_bi_id]
  rcases h with rfl | rfl | rfl | rfl
  · rw [if_pos rfl]
  · rw [if_neg (by decide), if_pos rfl]
  · rw [if_neg (by decide), if_neg (by decide), if_pos rfl]
  · rw [if_neg (by decide), if_neg (by decide), if_neg (by decide), if_pos rfl]
theorem sh_m0 {s : Nat} {a2 a3 : Int32} {w : fg_W} (h : ¬ sh_wd a2) (s2 : ∀ w, f_X4_isSheet (nI s) w = some (1, w)) : f_X4_sheet (nI s) a2 a3 w = f_X4_no 0 w := by
  unfold f_X4_sheet
  rw [s2, fg_bi_some, if_neg (by decide), if_neg (fun z => h (Or.inl z)), if_neg (fun z => h (Or.inr (Or.inl z))), if_neg (fun z => h (Or.inr (Or.inr (Or.inl z)))), if_neg (fun z => h (Or.inr (Or.inr (Or.inr z)))), fg_bi_id]
theorem ag_sheet {w : fg_W} (h : rr w) (a b c : Int32) : ag (f_X3_sheet a b c w) (f_X4_sheet a b c) := by
  have h' := h
  rcases q_sheet a with ⟨s, hs, rfl, s1, s2⟩ | ⟨s1, s2⟩
  · by_cases hb : sh_wd b
    · by_cases h0 : 0 ≤ c
      · by_cases h4 : c ≤ 40
        · obtain ⟨l, hl, rfl⟩ : ∃ l : Nat, l ≤ 40 ∧ c = nI l := nI_of2 (M := 40) (n := 40) (by decide) (by intro z; exact absurd (Int32.lt_of_lt_of_le z h0) (Int32.lt_irrefl)) h4
          have hl' : ∃ m, m ≤ 40 ∧ (if b = 0 then (0 : Int32) else nI l) = nI m := by
            by_cases hb0 : b = 0
            · exact ⟨0, by omega, by rw [if_pos hb0]; rfl⟩
            · exact ⟨l, hl, by rw [if_neg hb0]⟩
          refine ag.sh (r := if b = 0 then 0 else nI l) (s := s) (B := bk_it (bk_fl 1 0 (fun _ => 0)) (bk_set (bk_set (w.1 0 s) 0 0 b) 0 1 (if b = 0 then 0 else nI l)) 0 40) (C := bk_it (bk_fl 14 (40 * s) (fun _ => 0)) (bk_set (bk_set (w.1 4 0) 12 s b) 13 s (if b = 0 then 0 else nI l)) 0 40) h' hs ?_ ?_ ⟨?_, ?_, ?_, ?_, ?_⟩ ?_ ?_
          · rw [sh_p hb, s1, fg_bi_some, if_neg (by decide), if_pos h0, if_pos h4, fg_gd_nI hs (by decide), nI_clamp (by omega), p_begin, fg_bv_some, fg_gd_nI hs (by decide), fg_sw_at, bk_fl_c _ _ _ _ _ _ (by decide), bk_same]
          · rw [sh_m hs hb s2, if_pos h0, if_pos h4]
            unfold sh_mb
            rw [fg_sw_K w 0 s 4 0 _ (by decide)]
          · rw [bk_fl_c _ _ _ _ _ _ (by decide), bk_fl_c _ _ _ _ _ _ (by decide), bk_ne _ _ (Or.inr (by decide)), bk_same, bk_nc _ _ (by decide), bk_same]
          · rw [bk_fl_c _ _ _ _ _ _ (by decide), bk_fl_c _ _ _ _ _ _ (by decide), bk_same, bk_same]
          · rw [bk_fl_c _ _ _ _ _ _ (by decide), bk_nc _ _ (by decide), bk_same]; exact hb
          · rw [bk_fl_c _ _ _ _ _ _ (by decide), bk_same]; exact hl'
          · intro j hj
            rw [bk_fl_at, if_pos (by omega), bk_fl_at, if_pos (by omega)]
          · intro s' hs' hne
            refine ⟨?_, ?_, fun j hj => ?_⟩
            · rw [bk_fl_c _ _ _ _ _ _ (by decide), bk_nc _ _ (by decide), bk_ne _ _ (Or.inr hne)]
            · rw [bk_fl_c _ _ _ _ _ _ (by decide), bk_ne _ _ (Or.inr hne), bk_nc _ _ (by decide)]
            · rw [bk_fl_at, if_neg (by omega), bk_nc _ _ (by decide), bk_nc _ _ (by decide)]
          · intro q q12 q13 q14 q15
            rw [bk_fl_c _ _ _ _ _ _ q14, bk_setc _ q13, bk_setc _ q12]
        · refine ag.fnd0 h' ?_ (fun w1 _ => ?_)
          · rw [sh_p hb, s1, fg_bi_some, if_neg (by decide), if_pos h0, if_neg h4]
          · rw [sh_m hs hb s2, if_pos h0, if_neg h4]
      · refine ag.fnd h' (c := 6) (by decide) ?_ (fun w1 _ => ?_)
        · rw [sh_p hb, s1, fg_bi_some, if_neg (by decide), if_neg h0]; rfl
        · rw [sh_m hs hb s2, if_neg h0]; rfl
    · refine ag.fnd0 h' ?_ (fun w1 _ => ?_)
      · rw [sh_p0 hb, s1, fg_bi_some, if_neg (by decide)]
      · rw [sh_m0 hb s2]
  · refine ag.fnd0 h' ?_ (fun w1 _ => ?_)
    · by_cases hb : sh_wd b
      · rw [sh_p hb, s1, fg_bi_some, if_pos rfl]
      · rw [sh_p0 hb, s1, fg_bi_some, if_pos rfl]
    · unfold f_X4_sheet; rw [s2, fg_bi_some, if_pos rfl, fg_bi_id]
/-- a sheet that is there, or is missing, or is none -/
theorem q_ws {w : fg_W} (hS : ro_S w) (a : Int32) : (∃ s, s < 4 ∧ a = nI s ∧ (∀ w, f_X3_isSheet a w = some (1, w)) ∧ (∀ w, f_X4_isSheet a w = some (1, w)) ∧ ¬ w.1 4 0 12 s = 0 ∧ f_X0_isMissing s w = some (0, w) ∧ ∀ w1 : fg_W, w1.1 4 0 = w.1 4 0 → f_X4_wrongSheet a w1 = some (-1, w1)) ∨ (∃ s, s < 4 ∧ a = nI s ∧ (∀ w, f_X3_isSheet a w = some (1, w)) ∧ (∀ w, f_X4_isSheet a w = some (1, w)) ∧ w.1 4 0 12 s = 0 ∧ f_X0_isMissing s w = some (1, w) ∧ ∀ w1 : fg_W, w1.1 4 0 = w.1 4 0 → f_X4_wrongSheet a w1 = some (nI 5, w1)) ∨ ((∀ w, f_X3_isSheet a w = some (0, w)) ∧ (∀ w, f_X4_isSheet a w = some (0, w)) ∧ ∀ w1 : fg_W, f_X4_wrongSheet a w1 = some (nI 0, w1)) := by
  rcases q_sheet a with ⟨s, hs, rfl, s1, s2⟩ | ⟨s1, s2⟩
  · obtain ⟨g1, _⟩ := hS s hs
    by_cases hm : w.1 4 0 12 s = 0
    · refine Or.inr (Or.inl ⟨s, hs, rfl, s1, s2, hm, ?_, fun w1 e => ?_⟩)
      · unfold f_X0_isMissing; rw [g1, if_pos hm]
      · unfold f_X4_wrongSheet
        rw [s2, fg_bi_some, if_neg (by decide), fg_gd_nI hs (by decide), nI_clamp (by omega), e, if_pos hm]; rfl
    · refine Or.inl ⟨s, hs, rfl, s1, s2, hm, ?_, fun w1 e => ?_⟩
      · unfold f_X0_isMissing; rw [g1, if_neg hm]
      · unfold f_X4_wrongSheet
        rw [s2, fg_bi_some, if_neg (by decide), fg_gd_nI hs (by decide), nI_clamp (by omega), e, if_neg hm]
  · exact Or.inr (Or.inr ⟨s1, s2, fun w1 => by unfold f_X4_wrongSheet; rw [s2, fg_bi_some, if_pos rfl]; rfl⟩)
theorem q_len {m : Nat} (hm : m ≤ 40) (a : Int32) : (∃ j, j < m ∧ a = nI j ∧ ∀ w, f_X3_within a 0 (nI m - 1) w = some (1, w)) ∨ (∀ w, f_X3_within a 0 (nI m - 1) w = some (0, w)) := by
  cases m with
  | zero =>
    refine Or.inr (fun w => ?_)
    unfold f_X3_within
    rw [show nI 0 - 1 = (-1 : Int32) from rfl]
    by_cases h : a < 0
    · rw [if_pos h]
    · rw [if_neg h]
      obtain ⟨j, hj, rfl⟩ := nI_of h
      rw [if_pos (Int32.lt_of_lt_of_le (by decide : (-1 : Int32) < 0) (nI_pos' hj))]
  | succ m =>
    rw [nI_pred]
    rcases q_in a m (nI m) rfl (by omega) with ⟨j, hj, e, hw⟩ | ⟨_, hw⟩
    · exact Or.inl ⟨j, by omega, e, hw⟩
    · exact Or.inr hw
def sh_cv (wd v : Int32) : Int32 := if wd = 8 then v.toInt8.toInt32 else if wd = 16 then v.toInt16.toInt32 else v
theorem p_put {s j : Nat} {v : Int32} {w : fg_W} (hj : j < 40) : f_X0_put s (nI j) v w = some (fg_sw w 0 s (bk_set (w.1 0 s) 1 j (sh_cv (w.1 0 s 0 0) v))) := by
  unfold f_X0_put sh_cv
  simp only [fg_gd_nI hj (show 40 < 2 ^ 31 by decide), fg_let_eq, nI_clamp (show j < 2 ^ 31 by omega), fg_st_set]
  split
  · rfl
  · split <;> rfl
theorem ag_write {w : fg_W} (h : rr w) (a b c : Int32) : ag (f_X3_write a b c w) (f_X4_write a b c) := by
  have h' := h
  obtain ⟨n, h1, h2, h3, h4⟩ := h
  have hS := h4.2.2.2.1
  rcases q_ws hS a with ⟨s, hs, rfl, s1, s2, hz, m1, m2⟩ | ⟨s, hs, rfl, s1, s2, hz, m1, m2⟩ | ⟨s1, s2, m2⟩
  · obtain ⟨g1, g2, g3, ⟨len, hl, g4⟩, g5⟩ := hS s hs
    have P : f_X3_write (nI s) b c w = fg_bi (f_X3_within b 0 (nI len - 1) w) (fun r11 w9 => if r11 = 0 then f_X3_finding 0 w9 else fg_bv (f_X0_put s b c w9) (fun w13 => some (1, w13))) := by
      unfold f_X3_write
      simp only [s1, fg_bi_some, fg_gd_nI hs (show 4 < 2 ^ 31 by decide), nI_clamp (show s < 2 ^ 31 by omega), m1, fg_bi_id, g2, g4]
      rw [if_neg (by decide), if_pos trivial]
    have Q : ∀ w1 : fg_W, w1.1 4 0 = w.1 4 0 → f_X4_write (nI s) b c w1 = fg_bi (f_X3_within b 0 (nI len - 1) w1) (fun r18 w16 => if r18 = 0 then f_X4_no 0 w16 else (if (w16.1 4 0 12 s) = 8 then (fg_gd ((40 * nI s) + b) 160 (fg_let (fg_st w16 4 0 14 (upd (w16.1 4 0 14) ((40 * nI s) + b).toNatClampNeg ((c).toInt8.toInt32))) (fun w25 => some (1, w25)))) else (if (w16.1 4 0 12 s) = 16 then (fg_gd ((40 * nI s) + b) 160 (fg_let (fg_st w16 4 0 14 (upd (w16.1 4 0 14) ((40 * nI s) + b).toNatClampNeg ((c).toInt16.toInt32))) (fun w23 => some (1, w23)))) else (fg_gd ((40 * nI s) + b) 160 (fg_let (fg_st w16 4 0 14 (upd (w16.1 4 0 14) ((40 * nI s) + b).toNatClampNeg c)) (fun w21 => some (1, w21))))))) := fun w1 e => by
      unfold f_X4_write
      rw [m2 w1 e, fg_bi_some, if_neg (show ¬ (0 : Int32) ≤ -1 by decide), fg_gd_nI hs (by decide), e, in1_eq, nI_clamp (by omega), g4]
      simp only [if_pos (show (-1 : Int32) < 0 by decide), fg_gd_nI hs (show 4 < 2 ^ 31 by decide), fg_bi_id]
    rcases q_len hl b with ⟨j, hj, rfl, hw⟩ | hw
    · have e4 : (fg_sw w 0 s (bk_set (w.1 0 s) 1 j (sh_cv (w.1 0 s 0 0) c))).1 4 0 = w.1 4 0 := fg_sw_K _ _ _ _ _ _ (by decide)
      refine ag.sh (r := 1) (s := s) (B := bk_set (w.1 0 s) 1 j (sh_cv (w.1 0 s 0 0) c)) (C := bk_set (w.1 4 0) 14 (40 * s + j) (sh_cv (w.1 0 s 0 0) c)) h' hs ?_ ?_ ⟨?_, ?_, ?_, ?_, ?_⟩ ?_ ?_
      · rw [P, hw, fg_bi_some, if_neg (by decide), p_put (by omega), fg_bv_some]
      · rw [Q _ e4, hw, fg_bi_some, if_neg (by decide), show (40 : Int32) * nI s + nI j = nI (40 * s + j) by rw [show (40 : Int32) = nI 40 from rfl, pk_mul, nI_add]]
        simp only [fg_gd_nI (show 40 * s + j < 160 by omega) (show 160 < 2 ^ 31 by decide), fg_let_eq, nI_clamp (show 40 * s + j < 2 ^ 31 by omega), fg_st_set]
        simp only [e4]
        unfold sh_cv
        rw [g1]
        split
        · rfl
        · split <;> rfl
      · rw [bk_nc _ _ (by decide), bk_nc _ _ (by decide)]; exact g1
      · rw [bk_nc _ _ (by decide), bk_nc _ _ (by decide)]; exact g2
      · rw [bk_nc _ _ (by decide)]; exact g3
      · rw [bk_nc _ _ (by decide)]; exact ⟨len, hl, g4⟩
      · intro q hq
        by_cases e : q = j
        · subst e; rw [bk_same, bk_same]
        · rw [bk_ne _ _ (Or.inr e), bk_ne _ _ (Or.inr (by omega))]; exact g5 q hq
      · intro s' hs' hne
        refine ⟨?_, ?_, fun q hq => ?_⟩
        · rw [bk_nc _ _ (by decide)]
        · rw [bk_nc _ _ (by decide)]
        · rw [bk_ne _ _ (Or.inr (by omega))]
      · intro q q12 q13 q14 q15
        rw [bk_setc _ q14]
    · refine ag.fnd0 h' ?_ (fun w1 e => ?_)
      · rw [P, hw, fg_bi_some, if_pos rfl]
      · rw [Q w1 e, hw, fg_bi_some, if_pos rfl]
  · refine ag.fnd h' (c := 5) (by decide) ?_ (fun w1 e => ?_)
    · unfold f_X3_write; rw [s1, fg_bi_some, if_neg (by decide), fg_gd_nI hs (by decide), nI_clamp (by omega), m1, fg_bi_some, if_neg (by decide), fg_bi_id]; rfl
    · unfold f_X4_write; rw [m2 w1 e, fg_bi_some, if_pos (by decide), if_neg (by decide), fg_bi_id]
  · refine ag.fnd h' (c := 0) (by decide) ?_ (fun w1 e => ?_)
    · unfold f_X3_write; rw [s1, fg_bi_some, if_pos rfl, fg_bi_id]; rfl
    · unfold f_X4_write; rw [m2 w1, fg_bi_some, if_pos (by decide), if_neg (by decide), fg_bi_id]
