-- copy
theorem cp_sub {m a : Nat} (hm : m ≤ 40) (ha : a < 2 ^ 31) : (nI m - nI a).toInt = (m : Int) - a := by
  rw [Int32.toInt_sub, nI_toInt (by omega), nI_toInt ha, Int.bmod_def]
  split <;> omega
theorem q_has {m : Nat} (hm : m ≤ 40) (x y : Int32) : (∃ i l, i + l ≤ m ∧ x = nI i ∧ y = nI l ∧ (∀ (s : Nat) (w : fg_W), w.1 0 s 0 1 = nI m → f_X0_has s x y w = some (1, w)) ∧ ¬ nI m - y < x ∧ x ≤ nI m - y) ∨ ((∀ (s : Nat) (w : fg_W), w.1 0 s 0 1 = nI m → f_X0_has s x y w = some (0, w)) ∧ (y < 0 ∨ x < 0 ∨ (nI m - y < x ∧ ¬ x ≤ nI m - y))) := by
  by_cases hx : x < 0
  · exact Or.inr ⟨fun s w _ => by unfold f_X0_has; rw [if_pos hx], Or.inr (Or.inl hx)⟩
  · by_cases hy : y < 0
    · exact Or.inr ⟨fun s w _ => by unfold f_X0_has; rw [if_neg hx, if_pos hy], Or.inl hy⟩
    · obtain ⟨i, hi, rfl⟩ := nI_of hx
      obtain ⟨l, hl, rfl⟩ := nI_of hy
      have e1 : (nI m - nI l < nI i) = ((m : Int) - l < i) := by rw [Int32.lt_iff_toInt_lt, cp_sub hm hl, nI_toInt hi]
      have e2 : (nI i ≤ nI m - nI l) = ((i : Int) ≤ (m : Int) - l) := by rw [Int32.le_iff_toInt_le, cp_sub hm hl, nI_toInt hi]
      by_cases h : i + l ≤ m
      · refine Or.inl ⟨i, l, h, rfl, rfl, fun s w e => ?_, by rw [e1]; omega, by rw [e2]; omega⟩
        unfold f_X0_has
        rw [if_neg hx, if_neg hy, e, if_neg (nI_nlt (by omega) (by omega)), pk_sub (by omega), if_neg (nI_nlt (by omega) (by omega))]
      · refine Or.inr ⟨fun s w e => ?_, Or.inr (Or.inr ⟨by rw [e1]; omega, by rw [e2]; omega⟩)⟩
        unfold f_X0_has
        rw [if_neg hx, if_neg hy, e]
        by_cases h2 : m < i
        · rw [if_pos (nI_lt h2 hi)]
        · rw [if_neg (nI_nlt (by omega) (by omega)), pk_sub (by omega), if_pos (nI_lt (by omega) hl)]
theorem m_cpL1 {s i l : Nat} (hs : s < 4) (hl : i + l ≤ 40) {f : Nat → Int32} (K : Int32 → fg_W → Option (Int32 × fg_W)) : ∀ (m j fu : Nat) (w : fg_W), j + m = l → m < fu → (∀ q, w.1 4 0 14 (40 * s + i + q) = f q) → f_X4_copy_L115 (nI s) (nI i) (nI l) K fu (nI j) w = K (nI l) (fg_sw w 4 0 (bk_it (bk_fl 15 0 f) (w.1 4 0) j m)) := by
  intro m
  induction m with
  | zero =>
    intro j fu w hj hf h
    obtain ⟨fu, rfl⟩ : ∃ z, fu = z + 1 := ⟨fu - 1, by omega⟩
    obtain rfl : j = l := by omega
    rw [f_X4_copy_L115, if_pos (nI_le (Nat.le_refl _) (by omega))]
    show _ = K (nI j) (fg_sw w 4 0 (w.1 4 0))
    rw [fg_sw_id]
  | succ m ih =>
    intro j fu w hj hf h
    obtain ⟨fu, rfl⟩ : ∃ z, fu = z + 1 := ⟨fu - 1, by omega⟩
    rw [f_X4_copy_L115, if_neg (nI_ge (by omega) (by omega)), show (40 : Int32) = nI 40 from rfl, pk_mul, nI_add, nI_add, fg_gd_nI (show 40 * s + i + j < 160 by omega) (by decide), fg_gd_nI (show j < 40 by omega) (by decide), fg_let_eq, nI_clamp (show j < 2 ^ 31 by omega), nI_clamp (show 40 * s + i + j < 2 ^ 31 by omega), h j, fg_st_set, nI_1, ih (j + 1) fu _ (by omega) (by omega) (fun q => by rw [fg_sw_at, bk_nc _ _ (by decide)]; exact h q), fg_sw_at, fg_sw_sw, bk_it]
    unfold bk_fl
    rw [Nat.zero_add]
theorem m_cpL2 {s k l : Nat} (hs : s < 4) (hl : k + l ≤ 40) {f : Nat → Int32} (K : Int32 → fg_W → Option (Int32 × fg_W)) : ∀ (m j fu : Nat) (w : fg_W), j + m = l → m < fu → (∀ q, q < l → w.1 4 0 15 q = f q) → f_X4_copy_L152 (nI s) (nI k) (nI l) K fu (nI j) w = K (nI l) (fg_sw w 4 0 (bk_it (bk_fl 14 (40 * s + k) f) (w.1 4 0) j m)) := by
  intro m
  induction m with
  | zero =>
    intro j fu w hj hf h
    obtain ⟨fu, rfl⟩ : ∃ z, fu = z + 1 := ⟨fu - 1, by omega⟩
    obtain rfl : j = l := by omega
    rw [f_X4_copy_L152, if_pos (nI_le (Nat.le_refl _) (by omega))]
    show _ = K (nI j) (fg_sw w 4 0 (w.1 4 0))
    rw [fg_sw_id]
  | succ m ih =>
    intro j fu w hj hf h
    obtain ⟨fu, rfl⟩ : ∃ z, fu = z + 1 := ⟨fu - 1, by omega⟩
    rw [f_X4_copy_L152, if_neg (nI_ge (by omega) (by omega)), show (40 : Int32) = nI 40 from rfl, pk_mul, nI_add, nI_add, fg_gd_nI (show j < 40 by omega) (by decide), fg_gd_nI (show 40 * s + k + j < 160 by omega) (by decide), fg_let_eq, nI_clamp (show j < 2 ^ 31 by omega), nI_clamp (show 40 * s + k + j < 2 ^ 31 by omega), h j (by omega), fg_st_set, nI_1, ih (j + 1) fu _ (by omega) (by omega) (fun q hq => by rw [fg_sw_at, bk_nc _ _ (by decide)]; exact h q hq), fg_sw_at, fg_sw_sw]
    rfl
theorem ag_copy {w : fg_W} (h : rr w) (a b c d e : Int32) : ag (f_X3_copy a b c d e w) (f_X4_copy a b c d e) := by
  have h' := h
  obtain ⟨n, h1, h2, h3, h4⟩ := h
  have hS := h4.2.2.2.1
  rcases q_ws hS a with ⟨s, hs, rfl, s1, s2, hz, m1, m2⟩ | ⟨s, hs, rfl, s1, s2, hz, m1, m2⟩ | ⟨s1, s2, m2⟩
  · rcases q_ws hS c with ⟨s', hs', rfl, t1, t2, tz, n1, n2⟩ | ⟨s', hs', rfl, t1, t2, tz, n1, n2⟩ | ⟨t1, t2, n2⟩
    · obtain ⟨g1, g2, g3, ⟨len, hl, g4⟩, g5⟩ := hS s hs
      obtain ⟨k1, k2, k3, ⟨len', hl', k4⟩, k5⟩ := hS s' hs'
      have G := g2.trans g4
      have G' := k2.trans k4
      by_cases hw : w.1 4 0 12 s = w.1 4 0 12 s'
      · have hw' : w.1 0 s 0 0 = w.1 0 s' 0 0 := g1.trans (hw.trans k1.symm)
        have P : f_X3_copy (nI s) b (nI s') d e w = fg_bi (f_X0_has s b e w) (fun r26 w24 => if r26 = 0 then f_X3_finding 0 w24 else (fg_bi (f_X0_has s' d e w24) (fun r33 w31 => if r33 = 0 then f_X3_finding 0 w31 else (fg_gp (¬ b < 0 ∧ ¬ d < 0 ∧ ¬ e < 0 ∧ b.toNatClampNeg + e.toNatClampNeg ≤ 40 ∧ d.toNatClampNeg + e.toNatClampNeg ≤ 40) (fg_let (fg_st w31 0 s' 1 (va_cpy (w31.1 0 s 1) (w31.1 0 s' 1) b.toNatClampNeg d.toNatClampNeg e.toNatClampNeg)) (fun w36 => some (e, w36))))))) := by
          unfold f_X3_copy
          simp only [fg_gd_nI hs (show 4 < 2 ^ 31 by decide), fg_gd_nI hs' (show 4 < 2 ^ 31 by decide), nI_clamp (show s < 2 ^ 31 by omega), nI_clamp (show s' < 2 ^ 31 by omega), fg_bi_id]
          rw [s1, fg_bi_some, if_neg (by decide), t1, fg_bi_some, if_neg (by decide), m1, fg_bi_some, if_pos rfl, n1, fg_bi_some, if_pos rfl, if_pos hw']
        have Q : ∀ w1 : fg_W, w1.1 4 0 = w.1 4 0 → f_X4_copy (nI s) b (nI s') d e w1 = (if e < 0 then f_X4_no 0 w1 else (if b < 0 then f_X4_no 0 w1 else (if d < 0 then f_X4_no 0 w1 else (if (nI len - e) < b then f_X4_no 0 w1 else (if d ≤ (nI len' - e) then (f_X4_copy_L115 (nI s) b e (fun v6_115 w_115 => f_X4_copy_L152 (nI s') d e (fun v6_152 w_152 => some (e, w_152)) fg_fuel 0 w_115) fg_fuel 0 w1) else f_X4_no 0 w1))))) := fun w1 ew => by
          unfold f_X4_copy
          simp only [fg_gd_nI hs (show 4 < 2 ^ 31 by decide), fg_gd_nI hs' (show 4 < 2 ^ 31 by decide), nI_clamp (show s < 2 ^ 31 by omega), nI_clamp (show s' < 2 ^ 31 by omega), fg_bi_id]
          rw [s2, fg_bi_some, if_neg (by decide), t2, fg_bi_some, if_neg (by decide), ew, if_neg hz, if_neg tz, if_pos hw, g4, k4]
        rcases q_has hl b e with ⟨i, l, hil, rfl, rfl, p1, p2, p3⟩ | ⟨p1, p2⟩
        · rcases q_has hl' d (nI l) with ⟨k, l', hkl, rfl, el, u1, u2, u3⟩ | ⟨u1, u2⟩
          · obtain rfl : l = l' := (nI_eq (by omega) (by omega)).mp el
            have e4 : (fg_sw w 0 s' (fg_put (w.1 0 s') 1 (va_cpy (w.1 0 s 1) (w.1 0 s' 1) i k l))).1 4 0 = w.1 4 0 := fg_sw_K _ _ _ _ _ _ (by decide)
            have B1 : fg_put (w.1 0 s') 1 (va_cpy (w.1 0 s 1) (w.1 0 s' 1) i k l) 1 = va_cpy (w.1 0 s 1) (w.1 0 s' 1) i k l := if_pos rfl
            have B0 : fg_put (w.1 0 s') 1 (va_cpy (w.1 0 s 1) (w.1 0 s' 1) i k l) 0 = w.1 0 s' 0 := if_neg (by decide)
            refine ag.sh (r := nI l) (s := s') (B := fg_put (w.1 0 s') 1 (va_cpy (w.1 0 s 1) (w.1 0 s' 1) i k l)) (C := bk_it (bk_fl 14 (40 * s' + k) (fun q => w.1 4 0 14 (40 * s + i + q))) (bk_it (bk_fl 15 0 (fun q => w.1 4 0 14 (40 * s + i + q))) (w.1 4 0) 0 l) 0 l) h' hs' ?_ ?_ ⟨?_, ?_, ?_, ?_, ?_⟩ ?_ ?_
            · rw [P, p1 s w G, fg_bi_some, if_neg (by decide), u1 s' w G', fg_bi_some, if_neg (by decide), nI_clamp (show i < 2 ^ 31 by omega), nI_clamp (show k < 2 ^ 31 by omega), nI_clamp (show l < 2 ^ 31 by omega), fg_gp_in ⟨nI_pos (by omega), nI_pos (by omega), nI_pos (by omega), by omega, by omega⟩, fg_let_eq]
              rfl
            · have c1 := m_cpL1 (s := s) (i := i) (l := l) hs (by omega) (f := fun q => w.1 4 0 14 (40 * s + i + q)) (fun v6_115 w_115 => f_X4_copy_L152 (nI s') (nI k) (nI l) (fun v6_152 w_152 => some (nI l, w_152)) fg_fuel 0 w_115) l 0 fg_fuel (fg_sw w 0 s' (fg_put (w.1 0 s') 1 (va_cpy (w.1 0 s 1) (w.1 0 s' 1) i k l))) (by omega) (by unfold fg_fuel; omega) (fun q => by rw [e4])
              have c2 := m_cpL2 (s := s') (k := k) (l := l) hs' (by omega) (f := fun q => w.1 4 0 14 (40 * s + i + q)) (fun v6_152 w_152 => some (nI l, w_152)) l 0 fg_fuel (fg_sw (fg_sw w 0 s' (fg_put (w.1 0 s') 1 (va_cpy (w.1 0 s 1) (w.1 0 s' 1) i k l))) 4 0 (bk_it (bk_fl 15 0 (fun q => w.1 4 0 14 (40 * s + i + q))) (w.1 4 0) 0 l)) (by omega) (by unfold fg_fuel; omega) (fun q hq => by rw [fg_sw_at, bk_fl_at, if_pos (by omega), Nat.sub_zero])
              rw [nI_0, e4] at c1
              rw [nI_0, fg_sw_at, fg_sw_sw] at c2
              rw [Q _ e4, if_neg (nI_pos (by omega)), if_neg (nI_pos (by omega)), if_neg (nI_pos (by omega)), if_neg p2, if_pos u3, c1, c2]
            · rw [B0, bk_fl_c _ _ _ _ _ _ (by decide), bk_fl_c _ _ _ _ _ _ (by decide)]; exact k1
            · rw [B0, bk_fl_c _ _ _ _ _ _ (by decide), bk_fl_c _ _ _ _ _ _ (by decide)]; exact k2
            · rw [bk_fl_c _ _ _ _ _ _ (by decide), bk_fl_c _ _ _ _ _ _ (by decide)]; exact k3
            · rw [bk_fl_c _ _ _ _ _ _ (by decide), bk_fl_c _ _ _ _ _ _ (by decide)]; exact ⟨len', hl', k4⟩
            · intro j hj
              rw [B1, bk_fl_at, bk_fl_c _ _ _ _ _ _ (by decide)]
              by_cases hjk : k ≤ j ∧ j < k + l
              · rw [pk_cpy_in hjk.1 hjk.2, if_pos (by omega), g5 (i + (j - k)) (by omega)]
                show w.1 4 0 14 (40 * s + (i + (j - k))) = w.1 4 0 14 (40 * s + i + (40 * s' + j - (40 * s' + k)))
                rw [show 40 * s + (i + (j - k)) = 40 * s + i + (40 * s' + j - (40 * s' + k)) by omega]
              · rw [pk_cpy_out (by omega), if_neg (by omega)]; exact k5 j hj
            · intro s'' hs'' hne
              refine ⟨?_, ?_, fun q hq => ?_⟩
              · rw [bk_fl_c _ _ _ _ _ _ (by decide), bk_fl_c _ _ _ _ _ _ (by decide)]
              · rw [bk_fl_c _ _ _ _ _ _ (by decide), bk_fl_c _ _ _ _ _ _ (by decide)]
              · rw [bk_fl_at, if_neg (by omega), bk_fl_c _ _ _ _ _ _ (by decide)]
            · intro q q12 q13 q14 q15
              rw [bk_fl_c _ _ _ _ _ _ q14, bk_fl_c _ _ _ _ _ _ q15]
          · refine ag.fnd0 h' ?_ (fun w1 ew => ?_)
            · rw [P, p1 s w G, fg_bi_some, if_neg (by decide), u1 s' w G', fg_bi_some, if_pos rfl]
            · rw [Q w1 ew]
              by_cases x1 : nI l < 0
              · rw [if_pos x1]
              · rw [if_neg x1, if_neg (nI_pos (by omega))]
                by_cases x2 : d < 0
                · rw [if_pos x2]
                · rw [if_neg x2, if_neg p2]
                  rcases u2 with u2 | u2 | u2
                  · exact absurd u2 x1
                  · exact absurd u2 x2
                  · rw [if_neg u2.2]
        · refine ag.fnd0 h' ?_ (fun w1 ew => ?_)
          · rw [P, p1 s w G, fg_bi_some, if_pos rfl]
          · rw [Q w1 ew]
            by_cases x1 : e < 0
            · rw [if_pos x1]
            · rw [if_neg x1]
              by_cases x2 : b < 0
              · rw [if_pos x2]
              · rw [if_neg x2]
                rcases p2 with p2 | p2 | p2
                · exact absurd p2 x1
                · exact absurd p2 x2
                · rw [if_pos p2.1, ite_self]
      · have hw' : ¬ w.1 0 s 0 0 = w.1 0 s' 0 0 := fun z => hw (g1.symm.trans (z.trans k1))
        refine ag.fnd h' (c := 2) (by decide) ?_ (fun w1 ew => ?_)
        · unfold f_X3_copy
          simp only [fg_gd_nI hs (show 4 < 2 ^ 31 by decide), fg_gd_nI hs' (show 4 < 2 ^ 31 by decide), nI_clamp (show s < 2 ^ 31 by omega), nI_clamp (show s' < 2 ^ 31 by omega), fg_bi_id]
          rw [s1, fg_bi_some, if_neg (by decide), t1, fg_bi_some, if_neg (by decide), m1, fg_bi_some, if_pos rfl, n1, fg_bi_some, if_pos rfl, if_neg hw']
          rfl
        · unfold f_X4_copy
          simp only [fg_gd_nI hs (show 4 < 2 ^ 31 by decide), fg_gd_nI hs' (show 4 < 2 ^ 31 by decide), nI_clamp (show s < 2 ^ 31 by omega), nI_clamp (show s' < 2 ^ 31 by omega), fg_bi_id]
          rw [s2, fg_bi_some, if_neg (by decide), t2, fg_bi_some, if_neg (by decide), ew, if_neg hz, if_neg tz, if_neg hw]
          rfl
    · refine ag.fnd h' (c := 5) (by decide) ?_ (fun w1 ew => ?_)
      · unfold f_X3_copy
        simp only [fg_gd_nI hs (show 4 < 2 ^ 31 by decide), fg_gd_nI hs' (show 4 < 2 ^ 31 by decide), nI_clamp (show s < 2 ^ 31 by omega), nI_clamp (show s' < 2 ^ 31 by omega), fg_bi_id]
        rw [s1, fg_bi_some, if_neg (by decide), t1, fg_bi_some, if_neg (by decide), m1, fg_bi_some, if_pos rfl, n1, fg_bi_some, if_neg (by decide)]
        rfl
      · unfold f_X4_copy
        simp only [fg_gd_nI hs (show 4 < 2 ^ 31 by decide), fg_gd_nI hs' (show 4 < 2 ^ 31 by decide), nI_clamp (show s < 2 ^ 31 by omega), nI_clamp (show s' < 2 ^ 31 by omega), fg_bi_id]
        rw [s2, fg_bi_some, if_neg (by decide), t2, fg_bi_some, if_neg (by decide), ew, if_neg hz, if_pos tz]
        rfl
    · refine ag.fnd0 h' ?_ (fun w1 ew => ?_)
      · unfold f_X3_copy; rw [s1, fg_bi_some, if_neg (by decide), t1, fg_bi_some, if_pos rfl, fg_bi_id]
      · unfold f_X4_copy; rw [s2, fg_bi_some, if_neg (by decide), t2, fg_bi_some, if_pos rfl, fg_bi_id]
  · rcases q_sheet c with ⟨s', hs', rfl, t1, t2⟩ | ⟨t1, t2⟩
    · refine ag.fnd h' (c := 5) (by decide) ?_ (fun w1 ew => ?_)
      · unfold f_X3_copy
        rw [s1, fg_bi_some, if_neg (by decide), t1, fg_bi_some, if_neg (by decide), fg_gd_nI hs (by decide), nI_clamp (show s < 2 ^ 31 by omega), m1, fg_bi_some, if_neg (by decide), fg_bi_id]
        rfl
      · unfold f_X4_copy
        rw [s2, fg_bi_some, if_neg (by decide), t2, fg_bi_some, if_neg (by decide), fg_gd_nI hs (by decide), nI_clamp (show s < 2 ^ 31 by omega), ew, if_pos hz, fg_bi_id]
        rfl
    · refine ag.fnd0 h' ?_ (fun w1 ew => ?_)
      · unfold f_X3_copy; rw [s1, fg_bi_some, if_neg (by decide), t1, fg_bi_some, if_pos rfl, fg_bi_id]
      · unfold f_X4_copy; rw [s2, fg_bi_some, if_neg (by decide), t2, fg_bi_some, if_pos rfl, fg_bi_id]
  · refine ag.fnd0 h' ?_ (fun w1 ew => ?_)
    · unfold f_X3_copy; rw [s1, fg_bi_some, if_pos rfl, fg_bi_id]
    · unfold f_X4_copy; rw [s2, fg_bi_some, if_pos rfl, fg_bi_id]
-- load
def ld_n (x : Nat → Int32) (len : Nat) : (Nat → Nat → Int32) → Nat → Nat → Nat × (Nat → Nat → Int32)
  | A, j, 0 => (j, A)
  | A, j, m + 1 => if len ≤ j then (j, A) else if x j < 0 ∨ 99 < x j then (j, A) else ld_n x len (bk_set A 1 j (x j)) (j + 1) m
theorem w_99 (v : Int32) (w : fg_W) : f_X3_within v 0 99 w = some (if v < 0 ∨ 99 < v then 0 else 1, w) := by
  unfold f_X3_within
  by_cases h1 : v < 0
  · rw [if_pos h1, if_pos (Or.inl h1)]
  · rw [if_neg h1]
    by_cases h2 : 99 < v
    · rw [if_pos h2, if_pos (Or.inr h2)]
    · rw [if_neg h2, if_neg (by rintro (z | z); exact h1 z; exact h2 z)]
theorem ld_I {n : Nat} (x : Nat → Int32) (len : Nat) : ∀ (m j : Nat) (A : Nat → Nat → Int32), bk_I A n → bk_I (ld_n x len A j m).2 n ∧ (ld_n x len A j m).2 0 11 = A 0 11 := by
  intro m
  induction m with
  | zero => intro j A h; exact ⟨h, rfl⟩
  | succ m ih =>
    intro j A h
    rw [ld_n]
    split
    · exact ⟨h, rfl⟩
    · split
      · exact ⟨h, rfl⟩
      · obtain ⟨a1, a2⟩ := ih (j + 1) (bk_set A 1 j (x j)) (h.set (by decide) (by omega) (by omega) (by omega) (by omega) (by omega) (by omega) (by omega) (by omega))
        exact ⟨a1, a2.trans (bk_nc _ _ (by decide) _)⟩
theorem p_ldL {s len : Nat} (hl : len ≤ 40) {x : Nat → Int32} : ∀ (m j fu : Nat) (w : fg_W), j + m = 10 → m < fu → w.1 0 s 0 1 = nI len → w.1 0 s 1 = x → f_X3_load_L35 s (fun v3_35 w_35 => some (v3_35, w_35)) fu (nI j) w = some (nI (ld_n x len (w.1 2 0) j m).1, fg_sw w 2 0 (ld_n x len (w.1 2 0) j m).2) := by
  intro m
  induction m with
  | zero =>
    intro j fu w hj hf h1 h2
    obtain ⟨fu, rfl⟩ : ∃ z, fu = z + 1 := ⟨fu - 1, by omega⟩
    obtain rfl : j = 10 := by omega
    rw [f_X3_load_L35, if_pos (by decide), ld_n, fg_sw_id]
  | succ m ih =>
    intro j fu w hj hf h1 h2
    obtain ⟨fu, rfl⟩ : ∃ z, fu = z + 1 := ⟨fu - 1, by omega⟩
    rw [f_X3_load_L35, if_neg (show ¬ (10 : Int32) ≤ nI j from nI_ge (a := j) (b := 10) (by omega) (by decide)), h1, ld_n]
    by_cases hc : len ≤ j
    · rw [if_pos (nI_le hc (by omega)), if_pos hc, fg_sw_id]
    · rw [if_neg (nI_ge (by omega) (by omega)), if_neg hc, fg_gd_nI (show j < 40 by omega) (by decide), nI_clamp (show j < 2 ^ 31 by omega), h2, w_99, fg_bi_some]
      by_cases hv : x j < 0 ∨ 99 < x j
      · rw [if_pos hv, if_pos rfl, if_pos hv, fg_sw_id]
      · rw [if_neg hv, if_neg (by decide), if_neg hv, fg_gd_nI (show j < 40 by omega) (by decide), fg_gd_nI (show j < 10 by omega) (by decide), fg_let_eq, h2, fg_st_set, nI_1, ih (j + 1) fu _ (by omega) (by omega) (by rw [fg_sw_K _ _ _ _ _ _ (by decide)]; exact h1) (by rw [fg_sw_K _ _ _ _ _ _ (by decide)]; exact h2), fg_sw_at, fg_sw_sw]
theorem m_ldL {s len : Nat} (hs : s < 4) (hl : len ≤ 40) {x : Nat → Int32} : ∀ (m j fu : Nat) (w : fg_W) (A : Nat → Nat → Int32), j + m = 10 → m < fu → w.1 4 0 13 s = nI len → (∀ q, q < 40 → w.1 4 0 14 (40 * s + q) = x q) → rm w A → ∃ w', f_X4_load_L18 (nI s) (fun v3_18 w_18 => some (v3_18, w_18)) fu (nI j) w = some (nI (ld_n x len A j m).1, w') ∧ rm w' (ld_n x len A j m).2 ∧ fm w w' := by
  intro m
  induction m with
  | zero =>
    intro j fu w A hj hf h1 h2 h
    obtain ⟨fu, rfl⟩ : ∃ z, fu = z + 1 := ⟨fu - 1, by omega⟩
    obtain rfl : j = 10 := by omega
    exact ⟨w, by rw [f_X4_load_L18, fg_gd_nI hs (by decide), if_pos (show (10 : Int32) ≤ nI 10 by decide), ite_self, ld_n], h, fm.rf w⟩
  | succ m ih =>
    intro j fu w A hj hf h1 h2 h
    obtain ⟨fu, rfl⟩ : ∃ z, fu = z + 1 := ⟨fu - 1, by omega⟩
    rw [f_X4_load_L18, fg_gd_nI hs (by decide), nI_clamp (by omega), h1, ld_n]
    by_cases hc : len ≤ j
    · rw [if_pos (nI_le hc (by omega)), if_pos hc]; exact ⟨w, rfl, h, fm.rf w⟩
    · rw [if_neg (nI_ge (by omega) (by omega)), if_neg hc, if_neg (show ¬ (10 : Int32) ≤ nI j from nI_ge (a := j) (b := 10) (by omega) (by decide)), m_cell hs (by omega), fg_bi_some, in1_eq, h2 j (by omega), w_99, fg_bi_some]
      by_cases hv : x j < 0 ∨ 99 < x j
      · rw [if_pos hv, if_pos rfl, if_pos hv]; exact ⟨w, rfl, h, fm.rf w⟩
      · rw [if_neg hv, if_neg (by decide), if_neg hv, m_cell hs (by omega), fg_bi_some, h2 j (by omega), show f_X4_lays1 (nI j) 0 (x j) w = _ from m_lays1 0 (x j) (by omega) (by decide), fg_bv_some, nI_1]
        have g := h.lot (f := 0) (p := j) (x j) (by decide) (by omega)
        obtain ⟨w', b1, b2, b3⟩ := ih (j + 1) fu (fg_sw w 4 0 (bk_set (w.1 4 0) 1 (10 + 3 * j + 0) (x j))) (bk_set A 1 j (x j)) (by omega) (by omega) (by rw [fg_sw_at, bk_nc _ _ (by decide)]; exact h1) (fun q hq => by rw [fg_sw_at, bk_nc _ _ (by decide)]; exact h2 q hq) g
        exact ⟨w', b1, b2, (fm.set w _ (x j) (Or.inl rfl)).tr b3⟩
theorem ag_load {w : fg_W} (h : rr w) (a : Int32) : ag (f_X3_load a w) (f_X4_load a) := by
  have h' := h
  obtain ⟨n, h1, h2, h3, h4⟩ := h
  have hS := h4.2.2.2.1
  rcases q_ws hS a with ⟨s, hs, rfl, s1, s2, hz, m1, m2⟩ | ⟨s, hs, rfl, s1, s2, hz, m1, m2⟩ | ⟨s1, s2, m2⟩
  · obtain ⟨g1, g2, g3, ⟨len, hl, g4⟩, g5⟩ := hS s hs
    have p := p_ldL (s := s) hl (x := w.1 0 s 1) 10 0 fg_fuel w (by omega) (by unfold fg_fuel; omega) (g2.trans g4) rfl
    obtain ⟨i1, i2⟩ := ld_I (w.1 0 s 1) len 10 0 (w.1 2 0) h2
    rw [nI_0] at p
    have g := h1.own 2 0 (ld_n (w.1 0 s 1) len (w.1 2 0) 0 10).2 (by decide)
    have e4 : (fg_sw w 2 0 (ld_n (w.1 0 s 1) len (w.1 2 0) 0 10).2).1 4 0 = w.1 4 0 := fg_sw_K _ _ _ _ _ _ (by decide)
    obtain ⟨w2, b1, b2, b3⟩ := m_ldL (s := s) hs hl (x := w.1 0 s 1) 10 0 fg_fuel _ _ (by omega) (by unfold fg_fuel; omega) (by rw [e4]; exact g4) (fun q hq => by rw [e4]; exact (g5 q hq).symm) g
    rw [nI_0] at b1
    refine ⟨nI (ld_n (w.1 0 s 1) len (w.1 2 0) 0 10).1, fg_sw w 2 0 (ld_n (w.1 0 s 1) len (w.1 2 0) 0 10).2, w2, ?_, ?_, rr.fm h4 i1 (by rw [i2]; exact h3) b2 b3⟩
    · unfold f_X3_load; rw [s1, fg_bi_some, if_neg (by decide), fg_gd_nI hs (by decide), nI_clamp (by omega), m1, fg_bi_some, if_pos rfl]; exact p
    · unfold f_X4_load; rw [m2 _ e4, fg_bi_some, if_pos (by decide)]; exact b1
  · refine ag.fnd h' (c := 5) (by decide) ?_ (fun w1 e => ?_)
    · unfold f_X3_load; rw [s1, fg_bi_some, if_neg (by decide), fg_gd_nI hs (by decide), nI_clamp (by omega), m1, fg_bi_some, if_neg (by decide), fg_bi_id]; rfl
    · unfold f_X4_load; rw [m2 w1 e, fg_bi_some, if_neg (by decide), fg_bi_id]
  · refine ag.fnd h' (c := 0) (by decide) ?_ (fun w1 e => ?_)
    · unfold f_X3_load; rw [s1, fg_bi_some, if_pos rfl, fg_bi_id]; rfl
    · unfold f_X4_load; rw [m2 w1, fg_bi_some, if_neg (by decide), fg_bi_id]
-- judge
theorem p_isPn {i n j : Nat} {w : fg_W} (hN : bk_N (w.1 2 i) n) (hj : j < 900) : f_X2_isPerson i (nI j) w = some (if j < n then 1 else 0, w) := by
  have h8 := hN.2
  rw [p_isP hN, if_neg (nI_pos (by omega))]
  by_cases h : j < n
  · rw [if_neg (nI_ge h (by omega)), if_pos h]
  · rw [if_pos (nI_le (by omega) (by omega)), if_neg h]
theorem m_isPn {n j : Nat} {w : fg_W} {A : Nat → Nat → Int32} (h : rm w A) (hN : bk_N A n) (hj : j < 900) : f_X4_isPerson (nI j) w = some (if j < n then 1 else 0, w) := by
  have h8 := hN.2
  have e := h.1.2.1.trans hN.1
  rcases q_per (nI j) n h8 with ⟨k, hk, e2, _, c2⟩ | ⟨hc, _, c2⟩
  · have : j = k := (nI_eq (by omega) (by omega)).mp e2
    rw [c2 w e, if_pos (by omega)]
  · rw [c2 w e, if_neg]
    rcases hc with hc | hc
    · exact absurd hc (nI_pos (by omega))
    · have := (nI_leI (by omega) (by omega)).mp hc; omega
def jd_n (n : Nat) (x y : Nat → Int32) : Nat → Nat → Int32
  | _, 0 => 0
  | j, m + 1 => if j < n then (if y j = x j then jd_n n x y (j + 1) m else 1 + nI j) else 1 + nI j
theorem p_jdL {s n len : Nat} (hl : len ≤ 40) {w : fg_W} (hN : bk_N (w.1 2 0) n) (h1 : w.1 0 s 0 1 = nI len) : ∀ (m j fu : Nat), j + m = len → m < fu → f_X3_judge_L35 s (fun v3_35 w_35 => some (0, w_35)) fu (nI j) w = some (jd_n n (w.1 0 s 1) (w.1 2 0 6) j m, w) := by
  have h8 := hN.2
  intro m
  induction m with
  | zero =>
    intro j fu hj hf
    obtain ⟨fu, rfl⟩ : ∃ z, fu = z + 1 := ⟨fu - 1, by omega⟩
    obtain rfl : j = len := by omega
    rw [f_X3_judge_L35, h1, if_pos (nI_le (Nat.le_refl _) (by omega)), jd_n]
  | succ m ih =>
    intro j fu hj hf
    obtain ⟨fu, rfl⟩ : ∃ z, fu = z + 1 := ⟨fu - 1, by omega⟩
    rw [f_X3_judge_L35, h1, if_neg (nI_ge (by omega) (by omega)), p_isPn hN (by omega), fg_bi_some, jd_n]
    by_cases hc : j < n
    · rw [if_pos hc, if_neg (by decide), if_pos hc, fg_gd_nI (show j < 8 by omega) (by decide), fg_gd_nI (show j < 40 by omega) (by decide), nI_clamp (by omega), nI_1]
      by_cases hv : w.1 2 0 6 j = w.1 0 s 1 j
      · rw [if_pos hv, if_pos hv, ih (j + 1) fu (by omega) (by omega)]
      · rw [if_neg hv, if_neg hv]
    · rw [if_neg hc, if_pos rfl, if_neg hc]
theorem m_jdL {s n len : Nat} (hs : s < 4) (hl : len ≤ 40) {w : fg_W} {A : Nat → Nat → Int32} {x : Nat → Int32} (h : rm w A) (hN : bk_N A n) (h1 : w.1 4 0 13 s = nI len) (h2 : ∀ q, q < 40 → w.1 4 0 14 (40 * s + q) = x q) : ∀ (m j fu : Nat), j + m = len → m < fu → f_X4_judge_L18 (nI s) (fun v3_18 w_18 => some (0, w_18)) fu (nI j) w = some (jd_n n x (A 6) j m, w) := by
  have h8 := hN.2
  intro m
  induction m with
  | zero =>
    intro j fu hj hf
    obtain ⟨fu, rfl⟩ : ∃ z, fu = z + 1 := ⟨fu - 1, by omega⟩
    obtain rfl : j = len := by omega
    rw [f_X4_judge_L18, fg_gd_nI hs (by decide), nI_clamp (by omega), h1, if_pos (nI_le (Nat.le_refl _) (by omega)), jd_n]
  | succ m ih =>
    intro j fu hj hf
    obtain ⟨fu, rfl⟩ : ∃ z, fu = z + 1 := ⟨fu - 1, by omega⟩
    rw [f_X4_judge_L18, fg_gd_nI hs (by decide), nI_clamp (by omega), h1, if_neg (nI_ge (by omega) (by omega)), m_isPn h hN (by omega), fg_bi_some, jd_n]
    by_cases hc : j < n
    · rw [if_pos hc, if_neg (by decide), if_pos hc, m_get1 h (by omega), fg_bi_some, m_cell hs (by omega), fg_bi_some, h2 j (by omega), nI_1]
      by_cases hv : A 6 j = x j
      · rw [if_pos hv, if_pos hv, ih (j + 1) fu (by omega) (by omega)]
      · rw [if_neg hv, if_neg hv]
    · rw [if_neg hc, if_pos rfl, if_neg hc]
theorem ag_judge {w : fg_W} (h : rr w) (a : Int32) : ag (f_X3_judge a w) (f_X4_judge a) := by
  have h' := h
  obtain ⟨n, h1, h2, h3, h4⟩ := h
  have hS := h4.2.2.2.1
  rcases q_ws hS a with ⟨s, hs, rfl, s1, s2, hz, m1, m2⟩ | ⟨s, hs, rfl, s1, s2, hz, m1, m2⟩ | ⟨s1, s2, m2⟩
  · obtain ⟨g1, g2, g3, ⟨len, hl, g4⟩, g5⟩ := hS s hs
    have p := p_jdL (s := s) hl h2.1 (g2.trans g4) len 0 fg_fuel (by omega) (by unfold fg_fuel; omega)
    have q := m_jdL (s := s) hs hl (x := w.1 0 s 1) h1 h2.1 g4 (fun q hq => (g5 q hq).symm) len 0 fg_fuel (by omega) (by unfold fg_fuel; omega)
    rw [nI_0] at p q
    refine ag.read (r := jd_n n (w.1 0 s 1) (w.1 2 0 6) 0 len) h' ?_ ?_
    · unfold f_X3_judge; rw [s1, fg_bi_some, if_neg (by decide), fg_gd_nI hs (by decide), nI_clamp (by omega), m1, fg_bi_some, if_pos rfl]; exact p
    · unfold f_X4_judge; rw [m2 _ rfl, fg_bi_some, if_pos (by decide)]; exact q
  · refine ag.fnd h' (c := 5) (by decide) ?_ (fun w1 e => ?_)
    · unfold f_X3_judge; rw [s1, fg_bi_some, if_neg (by decide), fg_gd_nI hs (by decide), nI_clamp (by omega), m1, fg_bi_some, if_neg (by decide), fg_bi_id]; rfl
    · unfold f_X4_judge; rw [m2 w1 e, fg_bi_some, if_neg (by decide), fg_bi_id]
  · refine ag.fnd h' (c := 0) (by decide) ?_ (fun w1 e => ?_)
    · unfold f_X3_judge; rw [s1, fg_bi_some, if_pos rfl, fg_bi_id]; rfl
    · unfold f_X4_judge; rw [m2 w1, fg_bi_some, if_neg (by decide), fg_bi_id]
