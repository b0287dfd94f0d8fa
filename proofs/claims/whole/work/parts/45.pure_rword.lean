-- texts: the reference's words
def tx_sv (sx : Nat) : Nat → Nat
  | 0 => 0
  | k + 1 => tx_sv sx k * 27 + ((fg_ch sx k).toNatClampNeg - 96)
theorem tx_ch_in : ∀ sx, sx < 16 → ∀ k, k < fg_sn.getD sx 0 → 97 ≤ (fg_ch sx k).toNatClampNeg ∧ (fg_ch sx k).toNatClampNeg ≤ 122 ∧ fg_ch sx k = nI (fg_ch sx k).toNatClampNeg := by decide +kernel
theorem tx_sv_lt : ∀ sx, sx < 16 → tx_sv sx (fg_sn.getD sx 0) ≤ 999999999999 := by decide +kernel
def tx_uv (x : Nat → Int32) (s : Nat) : Nat → Nat
  | 0 => 0
  | n + 1 => tx_uv x s n * 27 + ((x (s + n)).toNatClampNeg - 96)
theorem tx_rv_uv (x : Nat → Int32) (s : Nat) : ∀ n, tx_rv x s n = tx_uv x s n ∨ (9999999999999 < tx_rv x s n ∧ 9999999999999 < tx_uv x s n) := by
  intro n
  induction n with
  | zero => exact Or.inl rfl
  | succ n ih =>
    rw [tx_rv, tx_uv]
    rcases ih with e | ⟨h1, h2⟩
    · by_cases hc : tx_rv x s n ≤ 9999999999999
      · rw [if_pos hc, e]; exact Or.inl rfl
      · rw [if_neg hc]; exact Or.inr ⟨by omega, by omega⟩
    · rw [if_neg (by omega)]; exact Or.inr ⟨h1, by omega⟩
theorem tx_uv_sv {x : Nat → Int32} {s sx : Nat} (hsx : sx < 16) : ∀ (k n : Nat), k ≤ fg_sn.getD sx 0 → (∀ j, j < n → ∃ b, 97 ≤ b ∧ b ≤ 122 ∧ x (s + j) = nI b) → (tx_uv x s n = tx_sv sx k ↔ n = k ∧ ∀ j, j < k → x (s + j) = fg_ch sx j) := by
  intro k
  induction k with
  | zero =>
    intro n hk hx
    cases n with
    | zero => exact ⟨fun _ => ⟨rfl, fun j hj => absurd hj (by omega)⟩, fun _ => rfl⟩
    | succ n =>
      obtain ⟨b, h1, h2, e⟩ := hx n (by omega)
      rw [tx_uv, tx_sv, e, nI_clamp (by omega)]
      exact ⟨fun z => by omega, fun z => by omega⟩
  | succ k ih =>
    intro n hk hx
    obtain ⟨c1, c2, c3⟩ := tx_ch_in sx hsx k (by omega)
    cases n with
    | zero =>
      rw [tx_uv, tx_sv]
      exact ⟨fun z => by omega, fun z => by omega⟩
    | succ n =>
      obtain ⟨b, h1, h2, e⟩ := hx n (by omega)
      have IH := ih n (by omega) (fun j hj => hx j (by omega))
      rw [tx_uv, tx_sv, e, nI_clamp (by omega)]
      constructor
      · intro z
        have z1 : tx_uv x s n = tx_sv sx k := by omega
        obtain ⟨i1, i2⟩ := IH.mp z1
        subst i1
        refine ⟨rfl, fun j hj => ?_⟩
        by_cases ej : j = n
        · subst ej
          rw [e, c3]
          congr 1
          omega
        · exact i2 j (by omega)
      · rintro ⟨z1, z2⟩
        have z1 : n = k := by omega
        subst z1
        have z3 := z2 n (by omega)
        rw [e, c3] at z3
        have z4 := (nI_eq (by omega) (by omega)).mp z3
        rw [IH.mpr ⟨rfl, fun j hj => z2 j (by omega)⟩, z4]
theorem tx_rv_w {x : Nat → Int32} {t sx : Nat} {τ : tx_T} (hx : tx_by x t) (hsx : sx < 16) (hw : tx_wf x t τ) (h0 : τ.1 = 0) : tx_rv x τ.2.1 (τ.2.2.1 - τ.2.1) = tx_sv sx (fg_sn.getD sx 0) ↔ tx_w x τ sx = true := by
  have g1 := hw.1
  have g2 := hw.2.1
  have L : ∀ j, j < τ.2.2.1 - τ.2.1 → ∃ b, 97 ≤ b ∧ b ≤ 122 ∧ x (τ.2.1 + j) = nI b := fun j hj => by
    obtain ⟨b, hb, e⟩ := hx.2 (τ.2.1 + j) (by omega)
    have := hw.2.2.2.2.1 h0 (τ.2.1 + j) (by omega) (by omega)
    rw [e] at this
    obtain ⟨q1, q2⟩ := tx_L_nI hb this
    exact ⟨b, q1, q2, e⟩
  have U := tx_uv_sv (x := x) (s := τ.2.1) hsx (fg_sn.getD sx 0) (τ.2.2.1 - τ.2.1) (Nat.le_refl _) L
  have hlt := tx_sv_lt sx hsx
  rw [tx_w_iff]
  constructor
  · intro z
    rcases tx_rv_uv x τ.2.1 (τ.2.2.1 - τ.2.1) with e | ⟨e1, e2⟩
    · obtain ⟨u1, u2⟩ := U.mp (e.symm.trans z)
      exact ⟨h0, u1, u2⟩
    · omega
  · rintro ⟨_, z1, z2⟩
    have u := U.mpr ⟨z1, z2⟩
    rcases tx_rv_uv x τ.2.1 (τ.2.2.1 - τ.2.1) with e | ⟨e1, e2⟩
    · exact e.trans u
    · omega
def tx_wl (f : Nat → Int32) : Nat → Nat → Int64 → Int64
  | _, 0, a => a
  | j, m + 1, a => if f j = 32 then tx_wl f (j + 1) m a else tx_wl f (j + 1) m (a * 27 + (f j).toInt64 - 96)
theorem tx_wl_cg {f g : Nat → Int32} : ∀ (m j : Nat) (a : Int64), (∀ q, j ≤ q → q < j + m → f q = g q) → tx_wl f j m a = tx_wl g j m a := by
  intro m
  induction m with
  | zero => intro j a _; rfl
  | succ m ih =>
    intro j a h
    rw [tx_wl, tx_wl, h j (by omega) (by omega), ih (j + 1) a (fun q h1 h2 => h q (by omega) (by omega)), ih (j + 1) _ (fun q h1 h2 => h q (by omega) (by omega))]
theorem tx_t8 : ∀ i, i < 7 → tx_wl (fun j => r_let.getD (8 * i + j) 0) 0 8 0 = lN (tx_sv (0 + i) (fg_sn.getD (0 + i) 0)) := by decide +kernel
theorem tx_t9 : ∀ i, i < 3 → tx_wl (fun j => r_mor.getD (8 * i + j) 0) 0 8 0 = lN (tx_sv (10 + i) (fg_sn.getD (10 + i) 0)) := by decide +kernel
theorem tx_t10 : ∀ i, i < 3 → tx_wl (fun j => r_oth.getD (8 * i + j) 0) 0 8 0 = lN (tx_sv (7 + i) (fg_sn.getD (7 + i) 0)) := by decide +kernel
theorem tx_t11 : ∀ i, i < 3 → tx_wl (fun j => r_abo.getD (8 * i + j) 0) 0 8 0 = lN (tx_sv (13 + i) (fg_sn.getD (13 + i) 0)) := by decide +kernel
theorem m_wvL {pb pn i : Nat} (hi : 8 * i + 8 ≤ pn) (hpn : pn < 2 ^ 30) {w : fg_W} (K : Int64 → Int32 → fg_W → Option (Int32 × fg_W)) : ∀ (m j fu : Nat) (a : Int64), j + m = 8 → m < fu → f_X4_wordOf_L27 4 0 pb pn (nI i) K fu a (nI j) w = K (tx_wl (fun j => w.1 4 0 pb (8 * i + j)) j m a) (nI 8) w := by
  intro m
  induction m with
  | zero =>
    intro j fu a hj hf
    obtain ⟨fu, rfl⟩ : ∃ z, fu = z + 1 := ⟨fu - 1, by omega⟩
    obtain rfl : j = 8 := by omega
    rw [f_X4_wordOf_L27, if_pos (by decide), tx_wl]
  | succ m ih =>
    intro j fu a hj hf
    obtain ⟨fu, rfl⟩ : ∃ z, fu = z + 1 := ⟨fu - 1, by omega⟩
    rw [f_X4_wordOf_L27, if_neg (show ¬ (8 : Int32) ≤ nI j from nI_ge (a := j) (b := 8) (by omega) (by decide)), show (8 : Int32) * nI i + nI j = nI (8 * i + j) by rw [show (8 : Int32) = nI 8 from rfl, pk_mul, nI_add], fg_gd_nI (show 8 * i + j < pn by omega) (by omega), fg_gd_nI (show 8 * i + j < pn by omega) (by omega), nI_clamp (by omega), fg_let_eq, nI_1, ih (j + 1) fu a (by omega) (by omega), ih (j + 1) fu _ (by omega) (by omega), tx_wl]
    by_cases hc : w.1 4 0 pb (8 * i + j) = 32
    · rw [if_pos hc, if_pos hc]
    · rw [if_neg hc, if_neg hc]
theorem tx_k1 {τ : tx_T} (h : τ.1 ≤ 4) : (nI (tx_k τ) = 1) = (τ.1 = 0) := by
  unfold tx_k
  simp only [eq_iff_iff]
  by_cases h0 : τ.1 = 0
  · rw [if_pos h0]; exact ⟨fun _ => h0, fun _ => rfl⟩
  · rw [if_neg h0]
    refine ⟨fun z => ?_, fun z => absurd z h0⟩
    exfalso
    split at z
    · split at z <;> exact absurd z (by decide)
    · split at z
      · exact absurd z (by decide)
      · split at z <;> exact absurd z (by decide)
theorem m_word {x : Nat → Int32} {t pb b cnt : Nat} {τ : tx_T} {w : fg_W} (hx : tx_by x t) (hw : tx_wf x t τ) (h : tr w x τ) (hb : b + cnt ≤ 16) (ht : ∀ i, i < cnt → tx_wl (fun j => w.1 4 0 pb (8 * i + j)) 0 8 0 = lN (tx_sv (b + i) (fg_sn.getD (b + i) 0))) : f_X4_wordOf 4 0 pb (8 * cnt) w = some (bk_sv (tx_i x τ b cnt), w) := by
  have hd : nI (8 * cnt) / 8 = nI cnt := by
    have := pk_div (a := 8 * cnt) (d := 8) (by omega) (by decide) (by decide)
    rw [show 8 * cnt / 8 = cnt by omega] at this
    exact this
  have h10 := h.2.2.1
  have k1 := tx_k1 hw.2.2.2.2.2.2
  unfold f_X4_wordOf
  by_cases h0 : τ.1 = 0
  · have h10' : w.1 4 0 0 10 = 1 := by rw [h10]; exact k1.mpr h0
    have hv := h.2.2.2.1 h0
    have L : ∀ (m j fu : Nat), j + m = cnt → m < fu → f_X4_wordOf_L4 4 0 pb (8 * cnt) (fun v2_4 v3_4 w_4 => some (v2_4, w_4)) fu (bk_sv (tx_i x τ b j)) (nI j) w = some (bk_sv (tx_i x τ b cnt), w) := by
      intro m
      induction m with
      | zero =>
        intro j fu hj hf
        obtain ⟨fu, rfl⟩ : ∃ z, fu = z + 1 := ⟨fu - 1, by omega⟩
        obtain rfl : j = cnt := by omega
        rw [f_X4_wordOf_L4, hd, if_pos (nI_le (Nat.le_refl _) (by omega))]
      | succ m ih =>
        intro j fu hj hf
        obtain ⟨fu, rfl⟩ : ∃ z, fu = z + 1 := ⟨fu - 1, by omega⟩
        have V := m_wvL (pb := pb) (pn := 8 * cnt) (i := j) (by omega) (by omega) (w := w) (fun v4_27 v6_27 w_27 => if (lg_cmp v4_27 w_27.2) = 0 then ((f_X4_wordOf_L4 4 0 pb (8 * cnt) (fun v2_4 v3_4 w_4 => some (v2_4, w_4)) fu (nI j) (nI j + 1) w_27)) else ((f_X4_wordOf_L4 4 0 pb (8 * cnt) (fun v2_4 v3_4 w_4 => some (v2_4, w_4)) fu (bk_sv (tx_i x τ b j)) (nI j + 1) w_27))) 8 0 fg_fuel 0 (by omega) (by unfold fg_fuel; omega)
        rw [nI_0, ht j (by omega), hv] at V
        have hlt := tx_rv_lt hx (s := τ.2.1) (τ.2.2.1 - τ.2.1) (by have := hw.1; have := hw.2.1; omega)
        have hsv := tx_sv_lt (b + j) (by omega)
        have R := tx_rv_w hx (sx := b + j) (by omega) hw h0
        have Z := lg_eq (a := tx_sv (b + j) (fg_sn.getD (b + j) 0)) (b := tx_rv x τ.2.1 (τ.2.2.1 - τ.2.1)) (by omega) (by omega)
        rw [nI_1] at V
        rw [f_X4_wordOf_L4, hd, if_neg (nI_ge (by omega) (by omega)), if_pos h10', nI_1, V]
        rw [← ih (j + 1) fu (by omega) (by omega), tx_i]
        by_cases hc : tx_w x τ (b + j) = true
        · rw [if_pos (Z.mpr (R.mpr hc).symm), if_pos hc]; rfl
        · rw [if_neg (fun z => hc (R.mp (Z.mp z).symm)), if_neg hc]
    have := L cnt 0 fg_fuel (by omega) (by unfold fg_fuel; omega)
    rw [nI_0] at this
    exact this
  · have h10' : ¬ w.1 4 0 0 10 = 1 := by rw [h10]; exact fun z => h0 (k1.mp z)
    rw [tx_i_no cnt (fun i hi => by unfold tx_w; rw [decide_eq_false h0, Bool.false_and]), show fg_fuel = 999 + 1 from rfl, f_X4_wordOf_L4, if_neg h10', ite_self]
    rfl
theorem tx_sv_i {x : Nat → Int32} {τ : tx_T} {b cnt j : Nat} (hb : b + cnt ≤ 16) (hj : j < cnt) : (bk_sv (tx_i x τ b cnt) = nI j) = (tx_w x τ (b + j) = true) := by
  simp only [eq_iff_iff]
  constructor
  · intro z
    obtain ⟨l1, l2⟩ := tx_i_le x τ b cnt
    cases hi : tx_i x τ b cnt with
    | zero => rw [hi] at z; exact absurd z.symm (nI_ne_m1 (by omega))
    | succ m =>
      rw [hi] at z l2 l1
      have : m = j := (nI_eq (by omega) (by omega)).mp z
      subst this
      exact l2 (by omega)
  · intro z
    rw [tx_i_of z cnt hj hb]
    rfl
-- frames
def fs (w0 w : fg_W) : Prop := (∀ K i, K ≠ 4 → w.1 K i = w0.1 K i) ∧ (∀ c, c ≠ 0 → c ≠ 1 → w.1 4 0 c = w0.1 4 0 c) ∧ ∀ j, j ≠ 10 → j ≠ 11 → j ≠ 12 → w.1 4 0 0 j = w0.1 4 0 0 j
theorem fs.rf (w : fg_W) : fs w w := ⟨fun _ _ _ => rfl, fun _ _ _ => rfl, fun _ _ _ _ => rfl⟩
theorem fs.q {w0 w w' : fg_W} (h : fs w0 w) (g : fq w w') : fs w0 w' := ⟨fun K i hK => (g.1 K i hK).trans (h.1 K i hK), fun c c0 c1 => (g.2.1 c c0).trans (h.2.1 c c0 c1), fun j a b c => (g.2.2 j a b c).trans (h.2.2 j a b c)⟩
theorem fs.set {w0 w : fg_W} (h : fs w0 w) (j : Nat) (v : Int32) : fs w0 (fg_sw w 4 0 (bk_set (w.1 4 0) 1 j v)) := by
  refine ⟨fun K i hK => ?_, fun c c0 c1 => ?_, fun q a b c => ?_⟩
  · rw [fg_sw_K _ _ _ _ _ _ hK]; exact h.1 K i hK
  · rw [fg_sw_at, bk_setc _ c1]; exact h.2.1 c c0 c1
  · rw [fg_sw_at, bk_nc _ _ (by decide)]; exact h.2.2 q a b c
theorem rm.q {w w' : fg_W} {A : Nat → Nat → Int32} (h : rm w A) (g : fq w w') : rm w' A := h.cg (g.2.1 1 (by decide)) (g.2.2 5 (by decide) (by decide) (by decide))
/-- what is given of the reference's tape and words, where the reading began -/
def tx_O (w0 : fg_W) (x : Nat → Int32) (t : Nat) : Prop := tx_by x t ∧ (∀ j, j < t → w0.1 4 0 7 j = x j) ∧ w0.1 4 0 0 9 = nI t ∧ ro_L w0
def rs (w0 : fg_W) (x : Nat → Int32) (t : Nat) (u : tx_U) (w : fg_W) : Prop := rm w u.1 ∧ tr w x u.2 ∧ tx_wf x t u.2 ∧ fs w0 w
theorem m_next2 {w0 w : fg_W} {x : Nat → Int32} {t : Nat} {u : tx_U} (hO : tx_O w0 x t) (h : rs w0 x t u w) : ∃ w', f_X4_nextToken w = some w' ∧ rs w0 x t (u.1, tx_tok x t u.2.2.2.1) w' := by
  obtain ⟨o1, o2, o3, o4⟩ := hO
  obtain ⟨h1, h2, h3, h4⟩ := h
  obtain ⟨w', a1, a2, a3⟩ := m_next (p := u.2.2.2.1) o1 h3.2.1 (fun j hj => by rw [h4.2.1 7 (by decide) (by decide)]; exact o2 j hj) (by rw [h4.2.2 9 (by decide) (by decide) (by decide)]; exact o3) h2.2.1
  exact ⟨w', a1, h1.q a3, a2, (tx_tok_wf x h3.2.1).1, h4.q a3⟩
theorem tx_k2 {τ : tx_T} (h : τ.1 ≤ 4) : (nI (tx_k τ) = 2) = (τ.1 = 1 ∧ τ.2.2.2 ≤ 9999) := by
  unfold tx_k
  simp only [eq_iff_iff]
  by_cases h0 : τ.1 = 0
  · rw [if_pos h0]; exact ⟨fun z => absurd z (by decide), fun z => by omega⟩
  · rw [if_neg h0]
    by_cases h1 : τ.1 = 1
    · rw [if_pos h1]
      by_cases h2 : τ.2.2.2 ≤ 9999
      · rw [if_pos h2]; exact ⟨fun _ => ⟨h1, h2⟩, fun _ => rfl⟩
      · rw [if_neg h2]; exact ⟨fun z => absurd z (by decide), fun z => absurd z.2 h2⟩
    · rw [if_neg h1]
      refine ⟨fun z => ?_, fun z => absurd z.1 h1⟩
      exfalso
      split at z
      · exact absurd z (by decide)
      · split at z <;> exact absurd z (by decide)
theorem m_numb {w0 w : fg_W} {x : Nat → Int32} {t : Nat} {u : tx_U} {hi : Int32} (hh : hi ≤ 9999) (hO : tx_O w0 x t) (h : rs w0 x t u w) : (tx_n u.2 hi = true ∧ ∃ w', f_X4_takesNumber 0 hi w = some (nI u.2.2.2.2, w') ∧ rs w0 x t (u.1, tx_tok x t u.2.2.2.1) w') ∨ (tx_n u.2 hi = false ∧ f_X4_takesNumber 0 hi w = some (-1, w)) := by
  obtain ⟨w', a1, a2⟩ := m_next2 hO h
  obtain ⟨h1, h2, h3, h4⟩ := h
  have k2 := tx_k2 h3.2.2.2.2.2.2
  have hv := h3.2.2.2.2.2.1
  unfold f_X4_takesNumber tx_n
  rw [h2.2.2.1]
  by_cases c1 : u.2.1 = 1
  · rw [decide_eq_true c1, Bool.true_and]
    by_cases c2 : u.2.2.2.2 ≤ 9999
    · rw [if_pos (k2.mpr ⟨c1, c2⟩), h2.2.2.2.2 c1 c2, lN_i, in1_eq]
      unfold f_X3_within
      rw [if_neg (nI_pos (by omega))]
      by_cases c3 : nI u.2.2.2.2 ≤ hi
      · refine Or.inl ⟨decide_eq_true c3, w', ?_, a2⟩
        rw [if_neg (fun z => absurd (Int32.lt_of_lt_of_le z c3) Int32.lt_irrefl), fg_bi_some, if_neg (by decide), fg_let_eq, h2.2.2.2.2 c1 c2, lN_i, if_neg (nI_pos (by omega)), a1, fg_bv_some]
      · refine Or.inr ⟨decide_eq_false c3, ?_⟩
        rw [if_pos (Int32.not_le.mp c3), fg_bi_some, if_pos rfl]
    · refine Or.inr ⟨decide_eq_false (fun z => ?_), ?_⟩
      · have := (nI_leI (a := u.2.2.2.2) (b := 9999) (by omega) (by decide)).mp (Int32.le_trans z hh)
        omega
      · rw [if_neg (fun z => c2 (k2.mp z).2)]
  · rw [decide_eq_false c1, Bool.false_and]
    exact Or.inr ⟨rfl, by rw [if_neg (fun z => c1 (k2.mp z).1)]⟩
theorem m_row {w0 w : fg_W} {x : Nat → Int32} {t : Nat} {u : tx_U} (hO : tx_O w0 x t) (h : rs w0 x t u w) : f_X4_wordOf 4 0 8 56 w = some (bk_sv (tx_i x u.2 0 7), w) ∧ f_X4_wordOf 4 0 9 24 w = some (bk_sv (tx_i x u.2 10 3), w) ∧ f_X4_wordOf 4 0 10 24 w = some (bk_sv (tx_i x u.2 7 3), w) ∧ f_X4_wordOf 4 0 11 24 w = some (bk_sv (tx_i x u.2 13 3), w) := by
  obtain ⟨o1, o2, o3, l8, l9, l10, l11⟩ := hO
  obtain ⟨h1, h2, h3, h4⟩ := h
  refine ⟨?_, ?_, ?_, ?_⟩
  · refine m_word (cnt := 7) o1 h3 h2 (by omega) (fun i hi => ?_)
    rw [← tx_t8 i hi, h4.2.1 8 (by decide) (by decide)]
    exact tx_wl_cg 8 0 0 (fun q _ hq => l8 (8 * i + q) (by omega))
  · refine m_word (cnt := 3) o1 h3 h2 (by omega) (fun i hi => ?_)
    rw [← tx_t9 i hi, h4.2.1 9 (by decide) (by decide)]
    exact tx_wl_cg 8 0 0 (fun q _ hq => l9 (8 * i + q) (by omega))
  · refine m_word (cnt := 3) o1 h3 h2 (by omega) (fun i hi => ?_)
    rw [← tx_t10 i hi, h4.2.1 10 (by decide) (by decide)]
    exact tx_wl_cg 8 0 0 (fun q _ hq => l10 (8 * i + q) (by omega))
  · refine m_word (cnt := 3) o1 h3 h2 (by omega) (fun i hi => ?_)
    rw [← tx_t11 i hi, h4.2.1 11 (by decide) (by decide)]
    exact tx_wl_cg 8 0 0 (fun q _ hq => l11 (8 * i + q) (by omega))
