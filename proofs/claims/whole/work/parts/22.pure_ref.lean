/-! the reference's row of numbers, held against a bank -/
def rm (w : fg_W) (A : Nat → Nat → Int32) : Prop :=
  (w.1 4 0 1 0 = A 0 12 ∧ w.1 4 0 1 1 = A 0 5 ∧ w.1 4 0 1 2 = A 0 13 ∧ w.1 4 0 1 3 = A 0 4 ∧ w.1 4 0 0 5 = A 0 11) ∧ (∀ j, j < 6 → w.1 4 0 1 (4 + j) = A 4 j) ∧ (∀ f p, f < 3 → p < 10 → w.1 4 0 1 (10 + 3 * p + f) = A (1 + f) p) ∧ (∀ f k, f < 5 → k < 8 → w.1 4 0 1 (40 + 5 * k + f) = A (5 + f) k) ∧ (∀ j, j < 10 → w.1 4 0 1 (80 + j) = A 10 j)
theorem rm.cong {w : fg_W} {A B : Nat → Nat → Int32} (h : rm w A) (e : ∀ c j, c ≠ 11 → (c = 0 → j = 4 ∨ j = 5 ∨ j = 11 ∨ j = 12 ∨ j = 13) → (c = 4 → j < 6) → (5 ≤ c ∧ c ≤ 9 → j < 8) → (1 ≤ c ∧ c ≤ 3 → j < 10) → (c = 10 → j < 10) → B c j = A c j) : rm w B := by
  obtain ⟨⟨h1, h2, h3, h4, h5⟩, h6, h7, h8, h9⟩ := h
  refine ⟨⟨?_, ?_, ?_, ?_, ?_⟩, fun j hj => ?_, fun f p hf hp => ?_, fun f k hf hk => ?_, fun j hj => ?_⟩
  · rw [e 0 12 (by decide) (by omega) (by omega) (by omega) (by omega) (by omega)]; exact h1
  · rw [e 0 5 (by decide) (by omega) (by omega) (by omega) (by omega) (by omega)]; exact h2
  · rw [e 0 13 (by decide) (by omega) (by omega) (by omega) (by omega) (by omega)]; exact h3
  · rw [e 0 4 (by decide) (by omega) (by omega) (by omega) (by omega) (by omega)]; exact h4
  · rw [e 0 11 (by decide) (by omega) (by omega) (by omega) (by omega) (by omega)]; exact h5
  · rw [e 4 j (by decide) (by omega) (by omega) (by omega) (by omega) (by omega)]; exact h6 j hj
  · rw [e (1 + f) p (by omega) (by omega) (by omega) (by omega) (by omega) (by omega)]; exact h7 f p hf hp
  · rw [e (5 + f) k (by omega) (by omega) (by omega) (by omega) (by omega) (by omega)]; exact h8 f k hf hk
  · rw [e 10 j (by decide) (by omega) (by omega) (by omega) (by omega) (by omega)]; exact h9 j hj
/-- what a day of the reference leaves alone -/
def fm (w w' : fg_W) : Prop := (∀ K i, K ≠ 4 → w'.1 K i = w.1 K i) ∧ (∀ i, i ≠ 0 → w'.1 4 i = w.1 4 i) ∧ (∀ c, c ≠ 1 → c ≠ 5 → c ≠ 6 → w'.1 4 0 c = w.1 4 0 c) ∧ w'.2 = w.2
theorem fm.rf (w : fg_W) : fm w w := ⟨fun _ _ _ => rfl, fun _ _ => rfl, fun _ _ _ _ => rfl, rfl⟩
theorem fm.tr {a b c : fg_W} (h : fm a b) (g : fm b c) : fm a c := ⟨fun K i hK => (g.1 K i hK).trans (h.1 K i hK), fun i hi => (g.2.1 i hi).trans (h.2.1 i hi), fun x h1 h5 h6 => (g.2.2.1 x h1 h5 h6).trans (h.2.2.1 x h1 h5 h6), g.2.2.2.trans h.2.2.2⟩
theorem fm.set (w : fg_W) {c : Nat} (j : Nat) (v : Int32) (h : c = 1 ∨ c = 5 ∨ c = 6) : fm w (fg_sw w 4 0 (bk_set (w.1 4 0) c j v)) := by
  refine ⟨fun K i hK => fg_sw_K _ _ _ _ _ _ hK, fun i hi => fg_sw_i _ _ _ _ _ hi, fun x h1 h5 h6 => ?_, rfl⟩
  rw [fg_sw_at]
  funext q
  exact bk_nc _ _ (by omega) _
theorem rm.lot {w : fg_W} {A : Nat → Nat → Int32} (h : rm w A) {f p : Nat} (v : Int32) (hf : f < 3) (hp : p < 10) : rm (fg_sw w 4 0 (bk_set (w.1 4 0) 1 (10 + 3 * p + f) v)) (bk_set A (1 + f) p v) := by
  obtain ⟨⟨h1, h2, h3, h4, h5⟩, h6, h7, h8, h9⟩ := h
  unfold rm
  rw [fg_sw_at]
  refine ⟨⟨?_, ?_, ?_, ?_, ?_⟩, fun j hj => ?_, fun f' p' hf' hp' => ?_, fun f' k hf' hk => ?_, fun j hj => ?_⟩
  · rw [bk_ne _ _ (by omega), bk_nc _ _ (by omega)]; exact h1
  · rw [bk_ne _ _ (by omega), bk_nc _ _ (by omega)]; exact h2
  · rw [bk_ne _ _ (by omega), bk_nc _ _ (by omega)]; exact h3
  · rw [bk_ne _ _ (by omega), bk_nc _ _ (by omega)]; exact h4
  · rw [bk_nc _ _ (by omega), bk_nc _ _ (by omega)]; exact h5
  · rw [bk_ne _ _ (by omega), bk_nc _ _ (by omega)]; exact h6 j hj
  · by_cases e : f' = f ∧ p' = p
    · obtain ⟨rfl, rfl⟩ := e; rw [bk_same, bk_same]
    · rw [bk_ne _ _ (by omega), bk_ne _ _ (by omega)]; exact h7 f' p' hf' hp'
  · rw [bk_ne _ _ (by omega), bk_nc _ _ (by omega)]; exact h8 f' k hf' hk
  · rw [bk_ne _ _ (by omega), bk_nc _ _ (by omega)]; exact h9 j hj
theorem rm.per {w : fg_W} {A : Nat → Nat → Int32} (h : rm w A) {f k : Nat} (v : Int32) (hf : f < 5) (hk : k < 8) : rm (fg_sw w 4 0 (bk_set (w.1 4 0) 1 (40 + 5 * k + f) v)) (bk_set A (5 + f) k v) := by
  obtain ⟨⟨h1, h2, h3, h4, h5⟩, h6, h7, h8, h9⟩ := h
  unfold rm
  rw [fg_sw_at]
  refine ⟨⟨?_, ?_, ?_, ?_, ?_⟩, fun j hj => ?_, fun f' p' hf' hp' => ?_, fun f' k' hf' hk' => ?_, fun j hj => ?_⟩
  · rw [bk_ne _ _ (by omega), bk_nc _ _ (by omega)]; exact h1
  · rw [bk_ne _ _ (by omega), bk_nc _ _ (by omega)]; exact h2
  · rw [bk_ne _ _ (by omega), bk_nc _ _ (by omega)]; exact h3
  · rw [bk_ne _ _ (by omega), bk_nc _ _ (by omega)]; exact h4
  · rw [bk_nc _ _ (by omega), bk_nc _ _ (by omega)]; exact h5
  · rw [bk_ne _ _ (by omega), bk_nc _ _ (by omega)]; exact h6 j hj
  · rw [bk_ne _ _ (by omega), bk_nc _ _ (by omega)]; exact h7 f' p' hf' hp'
  · by_cases e : f' = f ∧ k' = k
    · obtain ⟨rfl, rfl⟩ := e; rw [bk_same, bk_same]
    · rw [bk_ne _ _ (by omega), bk_ne _ _ (by omega)]; exact h8 f' k' hf' hk'
  · rw [bk_ne _ _ (by omega), bk_nc _ _ (by omega)]; exact h9 j hj
theorem rm.oth {w : fg_W} {A : Nat → Nat → Int32} (h : rm w A) {c : Nat} (j : Nat) (v : Int32) (hc : c ≠ 1) (hc0 : c ≠ 0) : rm (fg_sw w 4 0 (bk_set (w.1 4 0) c j v)) A := by
  obtain ⟨⟨h1, h2, h3, h4, h5⟩, h6, h7, h8, h9⟩ := h
  unfold rm
  rw [fg_sw_at]
  refine ⟨⟨?_, ?_, ?_, ?_, ?_⟩, fun j hj => ?_, fun f' p' hf' hp' => ?_, fun f' k' hf' hk' => ?_, fun j hj => ?_⟩
  · rw [bk_nc _ _ (by omega)]; exact h1
  · rw [bk_nc _ _ (by omega)]; exact h2
  · rw [bk_nc _ _ (by omega)]; exact h3
  · rw [bk_nc _ _ (by omega)]; exact h4
  · rw [bk_nc _ _ (by omega)]; exact h5
  · rw [bk_nc _ _ (by omega)]; exact h6 j hj
  · rw [bk_nc _ _ (by omega)]; exact h7 f' p' hf' hp'
  · rw [bk_nc _ _ (by omega)]; exact h8 f' k' hf' hk'
  · rw [bk_nc _ _ (by omega)]; exact h9 j hj
theorem m_ixp (k f : Nat) : ((40 : Int32) + (5 * nI k)) + nI f = nI (40 + 5 * k + f) := by
  rw [show (5 : Int32) = nI 5 from rfl, show (40 : Int32) = nI 40 from rfl, pk_mul, nI_add, nI_add]
theorem m_ixl (p f : Nat) : ((10 : Int32) + (3 * nI p)) + nI f = nI (10 + 3 * p + f) := by
  rw [show (3 : Int32) = nI 3 from rfl, show (10 : Int32) = nI 10 from rfl, pk_mul, nI_add, nI_add]
theorem m_get {w : fg_W} {A : Nat → Nat → Int32} (h : rm w A) {k : Nat} (f : Nat) (hk : k < 8) (hf : f < 5) : f_X4_get (nI k) (nI f) w = some (A (5 + f) k, w) := by
  unfold f_X4_get
  rw [m_ixp, fg_gd_nI (by omega) (by decide), nI_clamp (by omega), h.2.2.2.1 f k hf hk]
theorem m_of1 {w : fg_W} {A : Nat → Nat → Int32} (h : rm w A) {p : Nat} (f : Nat) (hp : p < 10) (hf : f < 3) : f_X4_of1 (nI p) (nI f) w = some (A (1 + f) p, w) := by
  unfold f_X4_of1
  rw [m_ixl, fg_gd_nI (by omega) (by decide), nI_clamp (by omega), h.2.2.1 f p hf hp]
theorem m_puts {w : fg_W} {k : Nat} (f : Nat) (v : Int32) (hk : k < 8) (hf : f < 5) : f_X4_puts (nI k) (nI f) v w = some (fg_sw w 4 0 (bk_set (w.1 4 0) 1 (40 + 5 * k + f) v)) := by
  unfold f_X4_puts
  rw [m_ixp, fg_gd_nI (by omega) (by decide), fg_let_eq, nI_clamp (by omega), fg_st_set]
theorem m_lays1 {w : fg_W} {p : Nat} (f : Nat) (v : Int32) (hp : p < 10) (hf : f < 3) : f_X4_lays1 (nI p) (nI f) v w = some (fg_sw w 4 0 (bk_set (w.1 4 0) 1 (10 + 3 * p + f) v)) := by
  unfold f_X4_lays1
  rw [m_ixl, fg_gd_nI (by omega) (by decide), fg_let_eq, nI_clamp (by omega), fg_st_set]
theorem m_get0 {w : fg_W} {A : Nat → Nat → Int32} (h : rm w A) {k : Nat} (hk : k < 8) : f_X4_get (nI k) 0 w = some (A 5 k, w) := m_get h 0 hk (by decide)
theorem m_get1 {w : fg_W} {A : Nat → Nat → Int32} (h : rm w A) {k : Nat} (hk : k < 8) : f_X4_get (nI k) 1 w = some (A 6 k, w) := m_get h 1 hk (by decide)
theorem m_get2 {w : fg_W} {A : Nat → Nat → Int32} (h : rm w A) {k : Nat} (hk : k < 8) : f_X4_get (nI k) 2 w = some (A 7 k, w) := m_get h 2 hk (by decide)
theorem m_get3 {w : fg_W} {A : Nat → Nat → Int32} (h : rm w A) {k : Nat} (hk : k < 8) : f_X4_get (nI k) 3 w = some (A 8 k, w) := m_get h 3 hk (by decide)
theorem m_get4 {w : fg_W} {A : Nat → Nat → Int32} (h : rm w A) {k : Nat} (hk : k < 8) : f_X4_get (nI k) 4 w = some (A 9 k, w) := m_get h 4 hk (by decide)
theorem m_fog {w : fg_W} {A : Nat → Nat → Int32} (h : rm w A) {p : Nat} (hp : p < 10) : f_X4_of1 (nI p) 0 w = some (A 1 p, w) := m_of1 h 0 hp (by decide)
theorem m_rent {w : fg_W} {A : Nat → Nat → Int32} (h : rm w A) {p : Nat} (hp : p < 10) : f_X4_of1 (nI p) 1 w = some (A 2 p, w) := m_of1 h 1 hp (by decide)
theorem m_owner {w : fg_W} {A : Nat → Nat → Int32} (h : rm w A) {p : Nat} (hp : p < 10) : f_X4_of1 (nI p) 2 w = some (A 3 p, w) := m_of1 h 2 hp (by decide)
-- sets of people as bits
def bk_who (A : Nat → Nat → Int32) (v : Int32) : Nat → Int32
  | 0 => 0
  | m + 1 => if A 6 m = v then bk_who A v m ||| ((1 : Int32) <<< (nI m &&& 31)) else bk_who A v m
theorem bk_or0 (x : Int32) : x ||| 0 = x := by simp
theorem m_whoL {w : fg_W} {A : Nat → Nat → Int32} {n : Nat} (h : rm w A) (hn : bk_N A n) (v : Int32) (K : Int32 → Int32 → fg_W → Option (Int32 × fg_W)) : ∀ (m j fu : Nat), j + m = n → m < fu → f_X4_whoIsOn_L4 v K fu (bk_who A v j) (nI j) w = K (bk_who A v n) (nI n) w := by
  obtain ⟨h5, h8⟩ := hn
  intro m
  induction m with
  | zero =>
    intro j fu hj hf
    obtain ⟨fu, rfl⟩ : ∃ z, fu = z + 1 := ⟨fu - 1, by omega⟩
    obtain rfl : j = n := by omega
    rw [f_X4_whoIsOn_L4, h.1.2.1, h5, if_pos (nI_le (Nat.le_refl _) (by omega))]
  | succ m ih =>
    intro j fu hj hf
    obtain ⟨fu, rfl⟩ : ∃ z, fu = z + 1 := ⟨fu - 1, by omega⟩
    rw [f_X4_whoIsOn_L4, h.1.2.1, h5, if_neg (nI_ge (by omega) (by omega)), m_get1 h (by omega), fg_bi_some, nI_1]
    have e := ih (j + 1) fu (by omega) (by omega)
    rw [← e]
    simp only [bk_who, fg_let_eq, bk_or0]
    by_cases h1 : A 6 j = v
    · rw [if_pos h1, if_pos h1]
    · rw [if_neg h1, if_neg h1]
theorem m_who {w : fg_W} {A : Nat → Nat → Int32} {n : Nat} (h : rm w A) (hn : bk_N A n) (v : Int32) : f_X4_whoIsOn v w = some (bk_who A v n, w) := by
  unfold f_X4_whoIsOn
  have := m_whoL h hn v (fun v2_4 v3_4 w_4 => some (v2_4, w_4)) n 0 fg_fuel (by omega) (by have := hn.2; unfold fg_fuel; omega)
  simp only [bk_who, nI_0] at this
  exact this
theorem bk_orb : ∀ n, n < 8 → ∀ x, x < 2 ^ n → nI x ||| ((1 : Int32) <<< (nI n &&& 31)) = nI (x + 2 ^ n) := by decide +kernel
theorem bk_tb : ∀ n, n < 8 → ∀ x, x < 2 ^ n → ∀ m, m < 9 → (x + 2 ^ n).testBit m = (x.testBit m || decide (m = n)) := by decide +kernel
theorem bk_who_nI (A : Nat → Nat → Int32) (v : Int32) : ∀ n, n ≤ 8 → ∃ x, x < 2 ^ n ∧ bk_who A v n = nI x ∧ ∀ m, m < 9 → x.testBit m = (decide (m < n) && decide (A 6 m = v)) := by
  intro n
  induction n with
  | zero => intro _; exact ⟨0, by decide, rfl, fun m _ => by simp⟩
  | succ n ih =>
    intro hn
    obtain ⟨x, hx, ex, tx⟩ := ih (by omega)
    simp only [bk_who]
    have h2 : 2 ^ (n + 1) = 2 ^ n + 2 ^ n := by omega
    by_cases h1 : A 6 n = v
    · rw [if_pos h1, ex]
      refine ⟨x + 2 ^ n, by omega, bk_orb n (by omega) x hx, fun m hm => ?_⟩
      rw [bk_tb n (by omega) x hx m hm, tx m hm]
      by_cases e : m = n
      · subst e; simp [h1]
      · by_cases e2 : m < n
        · simp [e2, e, show m < n + 1 by omega]
        · simp [e2, e, show ¬ m < n + 1 by omega]
    · rw [if_neg h1]
      refine ⟨x, by omega, ex, fun m hm => ?_⟩
      rw [tx m hm]
      by_cases e : m = n
      · subst e; simp [h1]
      · by_cases e2 : m < n
        · simp [e2, show m < n + 1 by omega]
        · simp [e2, show ¬ m < n + 1 by omega]
def bt_c : Nat → Int32 → Int32 → Option Int32
  | 0, _, _ => none
  | n + 1, a, x => if x = 0 then some a else bt_c n (a + 1) (x &&& (x - 1))
theorem bt_L (w : fg_W) : ∀ (fu : Nat) (a x : Int32), f_X4_bits_L4 (fun v1_4 v2_4 w_4 => some (v1_4, w_4)) fu a x w = (bt_c fu a x).map (fun r => (r, w)) := by
  intro fu
  induction fu with
  | zero => intro a x; rfl
  | succ fu ih =>
    intro a x
    rw [f_X4_bits_L4, bt_c]
    by_cases h : x = 0
    · rw [if_pos h, if_pos h]; rfl
    · rw [if_neg h, if_neg h, fg_let_eq, ih]
theorem bt_mono : ∀ (fu k : Nat) (a x r : Int32), bt_c fu a x = some r → bt_c (fu + k) a x = some r := by
  intro fu
  induction fu with
  | zero => intro k a x r h; cases h
  | succ fu ih =>
    intro k a x r h
    rw [show fu + 1 + k = (fu + k) + 1 by omega, bt_c]
    rw [bt_c] at h
    by_cases h1 : x = 0
    · rw [if_pos h1] at h ⊢; exact h
    · rw [if_neg h1] at h ⊢; exact ih k _ _ r h
theorem m_bits {w : fg_W} {x r : Int32} (h : bt_c 10 0 x = some r) : f_X4_bits x w = some (r, w) := by
  unfold f_X4_bits
  rw [bt_L, show fg_fuel = 10 + 990 from rfl, bt_mono 10 990 _ _ _ h]
  rfl
def bk_cn (x k : Nat) : Nat → Nat
  | 0 => 0
  | m + 1 => bk_cn x k m + (if m = k then 0 else if x.testBit m then 1 else 0)
theorem bt_oth : ∀ x, x < 256 → ∀ k, k < 8 → bt_c 10 0 (nI x &&& (((1 : Int32) <<< (nI k &&& 31)) ^^^ (-1))) = some (nI (bk_cn x k 8)) := by decide +kernel
theorem bk_cn_ge {x k n : Nat} (h : ∀ m, n ≤ m → m < 8 → x.testBit m = false) : ∀ d, n + d ≤ 8 → bk_cn x k (n + d) = bk_cn x k n := by
  intro d
  induction d with
  | zero => intro _; rfl
  | succ d ih =>
    intro hd
    rw [← Nat.add_assoc, bk_cn, ih (by omega), h (n + d) (by omega) (by omega)]
    simp
theorem bk_oth_cn {A : Nat → Nat → Int32} {k lot x n : Nat} (hx : ∀ m, m < n → x.testBit m = decide (A 6 m = nI lot)) : bk_oth A k lot n = nI (bk_cn x k n) := by
  induction n with
  | zero => rfl
  | succ n ih =>
    simp only [bk_oth, bk_cn]
    rw [ih (fun m hm => hx m (by omega)), hx n (by omega), ← nI_add]
    congr 1
    by_cases h1 : n = k
    · simp [h1]; rfl
    · by_cases h2 : A 6 n = nI lot
      · simp [h1, h2]; rfl
      · simp [h1, h2]; rfl
theorem m_others {w : fg_W} {A : Nat → Nat → Int32} {n k lot : Nat} (hn : n ≤ 8) (hk : k < 8) : f_X4_bits (bk_who A (nI lot) n &&& (((1 : Int32) <<< (nI k &&& 31)) ^^^ (-1))) w = some (bk_oth A k lot n, w) := by
  obtain ⟨x, hx, ex, tx⟩ := bk_who_nI A (nI lot) n hn
  have hx8 : x < 256 := Nat.lt_of_lt_of_le hx (Nat.pow_le_pow_right (by decide) hn : 2 ^ n ≤ 2 ^ 8)
  rw [ex, m_bits (bt_oth x hx8 k hk)]
  have e1 : bk_cn x k 8 = bk_cn x k n := by
    have := bk_cn_ge (x := x) (k := k) (n := n) (fun m h1 h2 => by rw [tx m (by omega)]; simp [show ¬ m < n by omega]) (8 - n) (by omega)
    rwa [show n + (8 - n) = 8 by omega] at this
  rw [e1, bk_oth_cn (x := x) (fun m hm => by rw [tx m (by omega)]; simp [hm])]
theorem bk_low {x : Int32} : (if (10 : Int32) ≤ x then x - 10 else 0) = (if x ≤ 10 then 0 else x - 10) := by
  by_cases h : (10 : Int32) ≤ x
  · by_cases h2 : x ≤ 10
    · have e : x = 10 := Int32.le_antisymm h2 h
      subst e; decide
    · rw [if_pos h, if_neg h2]
  · rw [if_neg h, if_pos (Int32.le_of_lt (Int32.not_le.mp h))]
theorem m_trust {w : fg_W} {A : Nat → Nat → Int32} {n k lot : Nat} (h : rm w A) (hn : bk_N A n) (hk : k < 8) (hl : lot < 10) : f_X4_trustOf (nI k) (nI lot) w = some (bk_trust A n k lot, w) := by
  have e : ∀ x : Int32, x + 0 = x := fun x => by simp
  unfold f_X4_trustOf bk_trust
  simp only [m_get2 h hk, m_get0 h hk, m_owner h hl, m_who h hn, m_others hn.2 hk, fg_bi_some, fg_let_eq, e, ← bk_low]
  by_cases h1 : (10 : Int32) ≤ A 7 k / 2
  · simp only [h1, if_true]
    repeat' split
    all_goals rfl
  · simp only [h1, if_false]
    repeat' split
    all_goals rfl
theorem m_stands {w : fg_W} {A : Nat → Nat → Int32} {n k lot : Nat} (h : rm w A) (hn : bk_N A n) (hk : k < 8) (hl : lot < 10) : f_X4_stands (nI k) (nI lot) w = some (if A 1 lot + bk_trust A n k lot < 60 then 0 else 1, w) := by
  unfold f_X4_stands
  rw [m_fog h hl, fg_bi_some, m_trust h hn hk hl, fg_bi_some]
  split <;> rfl
theorem m_loses {w : fg_W} {A : Nat → Nat → Int32} {k : Nat} (h : rm w A) (hk : k < 8) : f_X4_losesOf (nI k) w = some (bk_loses (A 5 k), w) := by
  unfold f_X4_losesOf bk_loses
  rw [m_get0 h hk, fg_bi_some]
  repeat' split
  all_goals rfl
theorem m_better {w : fg_W} {A : Nat → Nat → Int32} {k lot b : Nat} (h : rm w A) (hk : k < 8) (hl : lot < 10) (hb : b < 10) (hq : ∃ q, q ≤ 6 ∧ A 5 k = nI q) : f_X4_isBetter (nI k) (nI lot) (nI b) w = some (bk_pref A (A 5 k) lot b, w) := by
  have hneg : ¬ nI b < 0 := nI_pos (by omega)
  have e1 : (if A 2 lot < A 2 b then (1 : Int32) else 0) = (if A 2 b ≤ A 2 lot then 0 else 1) := by
    by_cases h1 : A 2 lot < A 2 b
    · rw [if_pos h1, if_neg (Int32.not_le.mpr h1)]
    · rw [if_neg h1, if_pos (Int32.not_lt.mp h1)]
  unfold f_X4_isBetter bk_pref
  simp only [m_get0 h hk, m_fog h hl, m_fog h hb, m_rent h hl, m_rent h hb, fg_bi_some, hneg, if_false]
  obtain ⟨q, hq1, hq2⟩ := hq
  rw [hq2]
  have : q = 0 ∨ q = 1 ∨ q = 2 ∨ q = 3 ∨ q = 4 ∨ q = 5 ∨ q = 6 := by omega
  rcases this with rfl | rfl | rfl | rfl | rfl | rfl | rfl
  · simp only [if_pos (show nI 0 ≤ 1 by decide), if_neg (show ¬ nI 0 = 6 by decide), if_neg (show ¬ (nI 0 = 2 ∨ nI 0 = 3 ∨ nI 0 = 4) by decide)]; split <;> rfl
  · simp only [if_pos (show nI 1 ≤ 1 by decide), if_neg (show ¬ nI 1 = 6 by decide), if_neg (show ¬ (nI 1 = 2 ∨ nI 1 = 3 ∨ nI 1 = 4) by decide)]; split <;> rfl
  · simp only [if_neg (show ¬ nI 2 ≤ 1 by decide), if_neg (show ¬ (5 : Int32) ≤ nI 2 by decide), if_pos (show (nI 2 = 2 ∨ nI 2 = 3 ∨ nI 2 = 4) by decide), ← e1]; split <;> rfl
  · simp only [if_neg (show ¬ nI 3 ≤ 1 by decide), if_neg (show ¬ (5 : Int32) ≤ nI 3 by decide), if_pos (show (nI 3 = 2 ∨ nI 3 = 3 ∨ nI 3 = 4) by decide), ← e1]; split <;> rfl
  · simp only [if_neg (show ¬ nI 4 ≤ 1 by decide), if_neg (show ¬ (5 : Int32) ≤ nI 4 by decide), if_pos (show (nI 4 = 2 ∨ nI 4 = 3 ∨ nI 4 = 4) by decide), ← e1]; split <;> rfl
  · simp only [if_neg (show ¬ nI 5 ≤ 1 by decide), if_pos (show (5 : Int32) ≤ nI 5 by decide), if_neg (show ¬ nI 5 = 6 by decide), if_neg (show ¬ (nI 5 = 2 ∨ nI 5 = 3 ∨ nI 5 = 4) by decide)]; split <;> rfl
  · simp only [if_neg (show ¬ nI 6 ≤ 1 by decide), if_pos (show (5 : Int32) ≤ nI 6 by decide), if_pos (show nI 6 = 6 by decide), if_neg (show ¬ (nI 6 = 2 ∨ nI 6 = 3 ∨ nI 6 = 4) by decide)]
theorem m_better0 {w : fg_W} {A : Nat → Nat → Int32} {k lot : Nat} (h : rm w A) (hk : k < 8) : f_X4_isBetter (nI k) (nI lot) (-1) w = some (1, w) := by
  unfold f_X4_isBetter
  simp only [m_get0 h hk, fg_bi_some, if_pos (show (-1 : Int32) < 0 by decide)]
  repeat' split
  all_goals rfl
theorem m_madeL {w : fg_W} {A : Nat → Nat → Int32} {n k : Nat} (h : rm w A) (hn : bk_N A n) (hk : k < 8) (hq : ∃ q, q ≤ 6 ∧ A 5 k = nI q) (K : Int32 → Int32 → fg_W → Option (Int32 × fg_W)) : ∀ (m j fu : Nat), j + m = 10 → m < fu → f_X4_makesFor_L4 (nI k) K fu (bk_made A n k j) (nI j) w = K (bk_made A n k 10) (nI 10) w := by
  intro m
  induction m with
  | zero =>
    intro j fu hj hf
    obtain ⟨fu, rfl⟩ : ∃ z, fu = z + 1 := ⟨fu - 1, by omega⟩
    obtain rfl : j = 10 := by omega
    rw [f_X4_makesFor_L4, if_pos (by decide)]
  | succ m ih =>
    intro j fu hj hf
    obtain ⟨fu, rfl⟩ : ∃ z, fu = z + 1 := ⟨fu - 1, by omega⟩
    rw [f_X4_makesFor_L4, if_neg (show ¬ (10 : Int32) ≤ nI j from nI_ge (a := j) (b := 10) (by omega) (by decide)), m_stands h hn hk (by omega), fg_bi_some, nI_1]
    have e := ih (j + 1) fu (by omega) (by omega)
    rw [← e]
    simp only [bk_made]
    by_cases h1 : A 1 j + bk_trust A n k j < 60
    · simp [h1]
    · simp only [h1, if_false, if_neg (show ¬ (1 : Int32) = 0 by decide)]
      rcases bk_made_in A n k j (by omega) with h3 | ⟨b, hb, h3⟩
      · rw [h3, m_better0 h hk, fg_bi_some, if_neg (show ¬ (1 : Int32) = 0 by decide), if_pos (show (-1 : Int32) < 0 by decide)]
      · rw [h3, m_better h hk (by omega) (by omega) hq, fg_bi_some, if_neg (nI_pos (n := b) (by omega)), nI_clamp (by omega)]
        by_cases h4 : bk_pref A (A 5 k) j b = 0
        · rw [if_pos h4, if_pos h4]
        · rw [if_neg h4, if_neg h4]
theorem m_made {w : fg_W} {A : Nat → Nat → Int32} {n k : Nat} (h : rm w A) (hn : bk_N A n) (hk : k < 8) (hq : ∃ q, q ≤ 6 ∧ A 5 k = nI q) : f_X4_makesFor (nI k) w = some (bk_made A n k 10, w) := by
  unfold f_X4_makesFor
  have h := m_madeL h hn hk hq (fun v2_4 v3_4 w_4 => some (v2_4, w_4)) 10 0 fg_fuel (by omega) (by unfold fg_fuel; omega)
  simp only [bk_made, nI_0] at h
  exact h
theorem bk_cl_eq (f s m : Int32) : (if 0 ≤ f - s + m then (if f - s + m ≤ 99 then f - s + m else 99) else 0) = bk_cl (f + (m - s)) := by
  have e : f + (m - s) = f - s + m := by
    rw [Int32.sub_eq_add_neg, Int32.sub_eq_add_neg]
    ac_rfl
  rw [e]
  generalize f - s + m = x
  unfold bk_cl
  by_cases h1 : x < 99
  · have h1' : x ≤ 99 := Int32.le_of_lt h1
    simp only [h1, h1', if_true]
    by_cases h2 : 0 < x
    · rw [if_pos h2, if_pos (Int32.le_of_lt h2)]
    · by_cases h3 : 0 ≤ x
      · have e : x = 0 := Int32.le_antisymm (Int32.not_lt.mp h2) h3
        subst e; decide
      · rw [if_neg h2, if_neg h3]
  · have h1' := Int32.not_lt.mp h1
    have h3 : 0 ≤ x := Int32.le_trans (show (0 : Int32) ≤ 99 by decide) h1'
    simp only [h1, if_false, if_pos h3, if_pos (show (0 : Int32) < 99 by decide)]
    by_cases h4 : x ≤ 99
    · rw [if_pos h4]; exact Int32.le_antisymm h4 h1'
    · rw [if_neg h4]
-- (1) and (2) of a day in the reference
theorem m_thinL {d : Nat} (hd : d ≤ 99999) (more : Int32) (K : Int32 → fg_W → Option fg_W) : ∀ (m j fu : Nat) (w : fg_W) (A : Nat → Nat → Int32), j + m = 10 → m < fu → rm w A → A 0 12 = nI d → bk_more A d = more → ∃ w', f_X4_drifts_L2 K fu (nI j) w = K (nI 10) w' ∧ rm w' (bk_it (bk_thin more) A j m) ∧ fm w w' := by
  intro m
  induction m with
  | zero =>
    intro j fu w A hj hf h _ _
    obtain ⟨fu, rfl⟩ : ∃ z, fu = z + 1 := ⟨fu - 1, by omega⟩
    obtain rfl : j = 10 := by omega
    exact ⟨w, by rw [f_X4_drifts_L2, if_pos (by decide)], h, fm.rf w⟩
  | succ m ih =>
    intro j fu w A hj hf h hA hm
    obtain ⟨fu, rfl⟩ : ∃ z, fu = z + 1 := ⟨fu - 1, by omega⟩
    have hj10 : j < 10 := by omega
    have h6 : d % 6 < 6 := Nat.mod_lt _ (by decide)
    have hix : (4 : Int32) + (nI d - nI d / 6 * 6) = nI (4 + d % 6) := by rw [bk_rem6 (by omega), show (4 : Int32) = nI 4 from rfl, nI_add]
    rw [f_X4_drifts_L2, if_neg (show ¬ (10 : Int32) ≤ nI j from nI_ge (a := j) (b := 10) (by omega) (by decide)), m_fog h hj10, fg_bi_some, h.1.1, hA, hix, fg_gd_nI (by omega) (by decide), fg_let_eq, nI_clamp (by omega), h.2.1 _ h6, h.1.2.2.2.1, nI_1]
    have key : ∀ v : Int32, v = bk_cl (A 1 j + more) → ∃ w', f_X4_drifts_L2 K fu (nI (j + 1)) (fg_sw w 4 0 (bk_set (w.1 4 0) 1 (10 + 3 * j + 0) v)) = K (nI 10) w' ∧ rm w' (bk_it (bk_thin more) A j (m + 1)) ∧ fm w w' := by
      intro v ev
      have h1 := rm.lot h (f := 0) (p := j) v (by decide) hj10
      obtain ⟨w', g1, g2, g3⟩ := ih (j + 1) fu _ (bk_set A 1 j v) (by omega) (by omega) h1 (by rw [bk_nc _ _ (by decide)]; exact hA) (by unfold bk_more at hm ⊢; rw [bk_nc _ _ (by decide), bk_nc _ _ (by decide)]; exact hm)
      refine ⟨w', g1, ?_, (fm.set w _ v (Or.inl rfl)).tr g3⟩
      rw [ev] at g2
      exact g2
    have hv := bk_cl_eq (A 1 j) (A 4 (d % 6)) (A 0 4)
    rw [show A 0 4 - A 4 (d % 6) = more from hm] at hv
    by_cases h0 : 0 ≤ A 1 j - A 4 (d % 6) + A 0 4
    · rw [if_pos h0] at hv ⊢
      have hless : f_X4_less 99 (A 1 j - A 4 (d % 6) + A 0 4) w = some (bk_cl (A 1 j + more), w) := by
        unfold f_X4_less
        rw [← hv]
        split <;> rfl
      rw [hless, fg_bi_some, show f_X4_lays1 (nI j) 0 (bk_cl (A 1 j + more)) w = some (fg_sw w 4 0 (bk_set (w.1 4 0) 1 (10 + 3 * j + 0) (bk_cl (A 1 j + more)))) from m_lays1 0 _ hj10 (by decide), fg_bv_some]
      exact key _ rfl
    · rw [if_neg h0] at hv ⊢
      rw [show f_X4_lays1 (nI j) 0 0 w = some (fg_sw w 4 0 (bk_set (w.1 4 0) 1 (10 + 3 * j + 0) 0)) from m_lays1 0 _ hj10 (by decide), fg_bv_some]
      exact key _ hv
theorem m_flowL (K : Int32 → fg_W → Option fg_W) : ∀ (m j fu : Nat) (w : fg_W) (A : Nat → Nat → Int32), j + m = 9 → m < fu → rm w A → (∀ q, q < j → w.1 4 0 5 q = A 11 q) → ∃ w', f_X4_drifts_L67 K fu (nI j) w = K (nI 9) w' ∧ rm w' (bk_it bk_flow A j m) ∧ (∀ q, q < 9 → w'.1 4 0 5 q = bk_it bk_flow A j m 11 q) ∧ fm w w' := by
  intro m
  induction m with
  | zero =>
    intro j fu w A hj hf h h5
    obtain ⟨fu, rfl⟩ : ∃ z, fu = z + 1 := ⟨fu - 1, by omega⟩
    obtain rfl : j = 9 := by omega
    exact ⟨w, by rw [f_X4_drifts_L67, if_pos (by decide)], h, h5, fm.rf w⟩
  | succ m ih =>
    intro j fu w A hj hf h h5
    obtain ⟨fu, rfl⟩ : ∃ z, fu = z + 1 := ⟨fu - 1, by omega⟩
    have hj10 : j < 10 := by omega
    rw [f_X4_drifts_L67, if_neg (show ¬ (9 : Int32) ≤ nI j from nI_ge (a := j) (b := 9) (by omega) (by decide)), nI_1, m_fog h hj10, fg_bi_some, m_fog h (show j + 1 < 10 by omega), fg_bi_some, fg_gd_nI hj10 (by decide), fg_let_eq, nI_clamp (by omega), fg_st_set]
    obtain ⟨w', g1, g2, g3, g4⟩ := ih (j + 1) fu (fg_sw w 4 0 (bk_set (w.1 4 0) 5 j ((A 1 j - A 1 (j + 1)) / 4))) (bk_flow A j) (by omega) (by omega)
      ((h.oth j _ (by decide) (by decide)).cong (fun c q hc _ _ _ _ _ => bk_nc _ _ hc _))
      (fun q hq => by
        rw [fg_sw_at]
        by_cases e : q = j
        · subst e; unfold bk_flow; rw [bk_same, bk_same]
        · unfold bk_flow; rw [bk_ne _ _ (Or.inr e), bk_ne _ _ (Or.inr e)]; exact h5 q (by omega))
    exact ⟨w', g1, g2, g3, (fm.set w _ _ (Or.inr (Or.inl rfl))).tr g4⟩
theorem m_appL (K : Int32 → fg_W → Option fg_W) : ∀ (m j fu : Nat) (w : fg_W) (A : Nat → Nat → Int32), j + m = 9 → m < fu → rm w A → (∀ q, q < 9 → w.1 4 0 5 q = A 11 q) → ∃ w', f_X4_drifts_L104 K fu (nI j) w = K (nI 9) w' ∧ rm w' (bk_it bk_app A j m) ∧ fm w w' := by
  intro m
  induction m with
  | zero =>
    intro j fu w A hj hf h h5
    obtain ⟨fu, rfl⟩ : ∃ z, fu = z + 1 := ⟨fu - 1, by omega⟩
    obtain rfl : j = 9 := by omega
    exact ⟨w, by rw [f_X4_drifts_L104, if_pos (by decide)], h, fm.rf w⟩
  | succ m ih =>
    intro j fu w A hj hf h h5
    obtain ⟨fu, rfl⟩ : ∃ z, fu = z + 1 := ⟨fu - 1, by omega⟩
    have hj10 : j < 10 := by omega
    have h1 := rm.lot h (f := 0) (p := j) (A 1 j - A 11 j) (by decide) hj10
    have e5 : (fg_sw w 4 0 (bk_set (w.1 4 0) 1 (10 + 3 * j + 0) (A 1 j - A 11 j))).1 4 0 5 j = A 11 j := by rw [fg_sw_at, bk_nc _ _ (by decide)]; exact h5 j (by omega)
    have h2 := rm.lot h1 (f := 0) (p := j + 1) (A 1 (j + 1) + A 11 j) (by decide) (by omega)
    rw [f_X4_drifts_L104, if_neg (show ¬ (9 : Int32) ≤ nI j from nI_ge (a := j) (b := 9) (by omega) (by decide)), nI_1, m_fog h hj10, fg_bi_some, fg_gd_nI hj10 (by decide), nI_clamp (by omega), h5 j (by omega),
      show f_X4_lays1 (nI j) 0 (A 1 j - A 11 j) w = some (fg_sw w 4 0 (bk_set (w.1 4 0) 1 (10 + 3 * j + 0) (A 1 j - A 11 j))) from m_lays1 0 _ hj10 (by decide), fg_bv_some,
      show f_X4_of1 (nI (j + 1)) 0 (fg_sw w 4 0 (bk_set (w.1 4 0) 1 (10 + 3 * j + 0) (A 1 j - A 11 j))) = some (A 1 (j + 1), _) from by rw [m_fog h1 (by omega), bk_ne _ _ (Or.inr (by omega))], fg_bi_some, fg_gd_nI hj10 (by decide), e5,
      show f_X4_lays1 (nI (j + 1)) 0 (A 1 (j + 1) + A 11 j) (fg_sw w 4 0 (bk_set (w.1 4 0) 1 (10 + 3 * j + 0) (A 1 j - A 11 j))) = some _ from m_lays1 0 _ (by omega) (by decide), fg_bv_some]
    obtain ⟨w', g1, g2, g4⟩ := ih (j + 1) fu _ (bk_app A j) (by omega) (by omega) h2 (fun q hq => by
        rw [fg_sw_at, bk_nc _ _ (by decide), fg_sw_at, bk_nc _ _ (by decide)]
        unfold bk_app
        rw [bk_nc _ _ (by decide), bk_nc _ _ (by decide)]
        exact h5 q hq)
    exact ⟨w', g1, g2, ((fm.set w _ _ (Or.inl rfl)).tr (fm.set _ _ _ (Or.inl rfl))).tr g4⟩
theorem m_drifts {w : fg_W} {A : Nat → Nat → Int32} {n : Nat} (h : rm w A) (hI : bk_I A n) : ∃ w', f_X4_drifts w = some w' ∧ rm w' (bk_d2 (bk_d1 A)) ∧ fm w w' := by
  obtain ⟨d, hd, ed⟩ := hI.2.2.2.1
  unfold f_X4_drifts
  obtain ⟨w1, a1, a2, a3⟩ := m_thinL hd (bk_more A d) (fun v1_2 w_2 => f_X4_drifts_L67 (fun v1_67 w_67 => f_X4_drifts_L104 (fun v1_104 w_104 => some w_104) fg_fuel 0 w_67) fg_fuel 0 w_2) 10 0 fg_fuel w A (by omega) (by unfold fg_fuel; omega) h ed rfl
  rw [nI_0] at a1
  rw [a1]
  have e1 : bk_it (bk_thin (bk_more A d)) A 0 10 = bk_d1 A := by unfold bk_d1; rw [ed, nI_clamp (by omega)]
  rw [e1] at a2
  obtain ⟨w2, b1, b2, b3, b4⟩ := m_flowL (fun v1_67 w_67 => f_X4_drifts_L104 (fun v1_104 w_104 => some w_104) fg_fuel 0 w_67) 9 0 fg_fuel w1 (bk_d1 A) (by omega) (by unfold fg_fuel; omega) a2 (fun q hq => absurd hq (by omega))
  rw [nI_0] at b1
  rw [b1]
  obtain ⟨w3, c1, c2, c3⟩ := m_appL (fun v1_104 w_104 => some w_104) 9 0 fg_fuel w2 (bk_it bk_flow (bk_d1 A) 0 9) (by omega) (by unfold fg_fuel; omega) b2 b3
  rw [nI_0] at c1
  exact ⟨w3, c1, c2, (a3.tr b4).tr c3⟩
