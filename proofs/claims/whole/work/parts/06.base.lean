abbrev fg_W : Type := (Nat → Nat → Nat → Nat → Int32) × Int64
abbrev fg_G : Type := (Nat → Nat → Nat → Nat) × ClassId × ClassId × ClassId × (Nat → Nat) × (Nat → Nat)
def fg_put {α : Type} (f : Nat → α) (k : Nat) (v : α) : Nat → α := fun j => if j = k then v else f j
def fg_sw (w : fg_W) (K i : Nat) (d : Nat → Nat → Int32) : fg_W := (fg_put w.1 K (fg_put (w.1 K) i d), w.2)
def fg_st (w : fg_W) (K i b : Nat) (f : Nat → Int32) : fg_W := fg_sw w K i (fg_put (w.1 K i) b f)
def fg_sl (w : fg_W) (v : Int64) : fg_W := (w.1, v)
def fg_let {α β : Type} (x : α) (k : α → Option β) : Option β := k x
def fg_gd {β : Type} (i : Int32) (n : Nat) (k : Option β) : Option β := if ¬ (i < 0 ∨ n ≤ i.toNatClampNeg) then k else none
def fg_gp {β : Type} (x : Prop) [Decidable x] (k : Option β) : Option β := if x then k else none
def fg_bi {α β : Type} (x : Option (α × fg_W)) (k : α → fg_W → Option β) : Option β := match x with
  | some p => k p.1 p.2
  | none => none
def fg_bv {β : Type} (x : Option fg_W) (k : fg_W → Option β) : Option β := match x with
  | some w => k w
  | none => none
def fg_fuel : Nat := 1000
theorem fg_letE {α β : Type} {e x : α} {k : α → Option β} {o : Option β} (h : x = e) (hf : fg_let e k = o) : k x = o := by subst h; exact hf
theorem fg_gdE {β : Type} {i : Int32} {n : Nat} {k : Option β} {o : β} (hf : fg_gd i n k = some o) : vp_in i n ∧ k = some o := by
  unfold fg_gd at hf
  by_cases h : ¬ (i < 0 ∨ n ≤ i.toNatClampNeg)
  · rw [if_pos h] at hf; exact ⟨h, hf⟩
  · rw [if_neg h] at hf; cases hf
theorem fg_gpE {β : Type} {x : Prop} [Decidable x] {k : Option β} {o : β} (hf : fg_gp x k = some o) : x ∧ k = some o := by
  unfold fg_gp at hf
  by_cases h : x
  · rw [if_pos h] at hf; exact ⟨h, hf⟩
  · rw [if_neg h] at hf; cases hf
theorem fg_ifT {β : Type} {x : Prop} [Decidable x] {a b o : Option β} (hf : (if x then a else b) = o) (h : x) : a = o := by rwa [if_pos h] at hf
theorem fg_ifF {β : Type} {x : Prop} [Decidable x] {a b o : Option β} (hf : (if x then a else b) = o) (h : ¬ x) : b = o := by rwa [if_neg h] at hf
theorem fg_biE {α β : Type} {x : Option (α × fg_W)} {k : α → fg_W → Option β} {o : β} (hf : fg_bi x k = some o) : ∃ r w, x = some (r, w) ∧ k r w = some o := by
  cases x with
  | none => cases hf
  | some p => exact ⟨p.1, p.2, rfl, hf⟩
theorem fg_bvE {β : Type} {x : Option fg_W} {k : fg_W → Option β} {o : β} (hf : fg_bv x k = some o) : ∃ w, x = some w ∧ k w = some o := by
  cases x with
  | none => cases hf
  | some p => exact ⟨p, rfl, hf⟩
theorem fg_no {β : Type} {o : β} {A : Prop} (hf : (none : Option β) = some o) : A := by cases hf
def fg_f0 (g : fg_G) (i : Nat) (f : Nat → Int32) : List Value := [.int (f 0), .int (f 1), .ref (g.1 0 i 1)]
def fg_f1 (g : fg_G) (i : Nat) (f : Nat → Int32) : List Value := [.ref (g.1 1 i 1), .int (f 1), .int (f 2), .int (f 3), .int (f 4), .int (f 5), .int (f 6)]
def fg_f2 (g : fg_G) (i : Nat) (f : Nat → Int32) : List Value := [.ref (g.1 2 i 1), .ref (g.1 2 i 2), .ref (g.1 2 i 3), .ref (g.1 2 i 4), .int (f 4), .int (f 5), .ref (g.1 2 i 5), .ref (g.1 2 i 6), .ref (g.1 2 i 7), .ref (g.1 2 i 8), .ref (g.1 2 i 9), .int (f 11), .int (f 12), .int (f 13), .ref (g.1 2 i 10), .ref (g.1 2 i 11)]
def fg_f3 (g : fg_G) (i : Nat) (f : Nat → Int32) : List Value := [.ref (g.1 2 0 0), .ref (g.1 2 1 0), .ref (g.1 2 2 0), .int (f 3), .ref (g.1 1 0 0), .ref (g.1 3 i 2), .ref (g.1 3 i 1)]
def fg_f4 (g : fg_G) (i : Nat) (f : Nat → Int32) (v : Int64) : List Value := [.ref (g.1 4 i 1), .ref (g.1 4 i 2), .ref (g.1 4 i 3), .int (f 3), .ref (g.1 4 i 4), .int (f 5), .ref (g.1 4 i 5), .ref (g.1 4 i 6), .ref (g.1 4 i 7), .int (f 9), .int (f 10), .int (f 11), .int (f 12), .long v, .ref (g.1 4 i 8), .ref (g.1 4 i 9), .ref (g.1 4 i 10), .ref (g.1 4 i 11), .ref (g.1 4 i 12), .ref (g.1 4 i 13), .ref (g.1 4 i 14), .ref (g.1 4 i 15)]
/-- the cells by their places: kind, which one, part -/
def fg_E (g : fg_G) (w : fg_W) : Nat → Nat → Nat → va_E
  | 0, i, 0 => .inr (0, fg_f0 g i (w.1 0 i 0))
  | 0, i, b + 1 => .inl (g.2.1, 40, .inl (w.1 0 i (b + 1)))
  | 1, i, 0 => .inr (1, fg_f1 g i (w.1 1 i 0))
  | 1, i, b + 1 => .inl (g.2.1, 120, .inl (w.1 1 i (b + 1)))
  | 2, i, 0 => .inr (2, fg_f2 g i (w.1 2 i 0))
  | 2, i, 1 => .inl (g.2.1, 10, .inl (w.1 2 i 1))
  | 2, i, 2 => .inl (g.2.1, 10, .inl (w.1 2 i 2))
  | 2, i, 3 => .inl (g.2.1, 10, .inl (w.1 2 i 3))
  | 2, i, 4 => .inl (g.2.1, 6, .inl (w.1 2 i 4))
  | 2, i, 5 => .inl (g.2.1, 8, .inl (w.1 2 i 5))
  | 2, i, 6 => .inl (g.2.1, 8, .inl (w.1 2 i 6))
  | 2, i, 7 => .inl (g.2.1, 8, .inl (w.1 2 i 7))
  | 2, i, 8 => .inl (g.2.1, 8, .inl (w.1 2 i 8))
  | 2, i, 9 => .inl (g.2.1, 8, .inl (w.1 2 i 9))
  | 2, i, 10 => .inl (g.2.1, 10, .inl (w.1 2 i 10))
  | 2, i, b => .inl (g.2.1, 10, .inl (w.1 2 i b))
  | 3, i, 0 => .inr (3, fg_f3 g i (w.1 3 i 0))
  | 3, i, 1 => .inl (g.2.1, 7, .inl (w.1 3 i 1))
  | 3, _, _ => .inl (g.2.2.2.1, 4, .inr (.inr (.inr (.inr (fun j => some (g.1 0 j 0))))))
  | 4, i, 0 => .inr (4, fg_f4 g i (w.1 4 i 0) w.2)
  | 4, i, 1 => .inl (g.2.1, 90, .inl (w.1 4 i 1))
  | 4, i, 2 => .inl (g.2.1, 90, .inl (w.1 4 i 2))
  | 4, i, 3 => .inl (g.2.1, 90, .inl (w.1 4 i 3))
  | 4, i, 4 => .inl (g.2.1, 7, .inl (w.1 4 i 4))
  | 4, i, 5 => .inl (g.2.1, 10, .inl (w.1 4 i 5))
  | 4, i, 6 => .inl (g.2.1, 8, .inl (w.1 4 i 6))
  | 4, i, 7 => .inl (g.2.1, 120, .inl (w.1 4 i 7))
  | 4, i, 8 => .inl (g.2.2.1, 56, .inl (w.1 4 i 8))
  | 4, i, 9 => .inl (g.2.2.1, 24, .inl (w.1 4 i 9))
  | 4, i, 10 => .inl (g.2.2.1, 24, .inl (w.1 4 i 10))
  | 4, i, 11 => .inl (g.2.2.1, 24, .inl (w.1 4 i 11))
  | 4, i, 12 => .inl (g.2.1, 4, .inl (w.1 4 i 12))
  | 4, i, 13 => .inl (g.2.1, 4, .inl (w.1 4 i 13))
  | 4, i, 14 => .inl (g.2.1, 160, .inl (w.1 4 i 14))
  | 4, i, b => .inl (g.2.1, 40, .inl (w.1 4 i b))
  | K, i, b => .inl (g.2.1, 1, .inl (w.1 K i b))
def fg_shape : List (Nat × Nat × Nat) := [(0, 0, 0), (0, 0, 1), (0, 1, 0), (0, 1, 1), (0, 2, 0), (0, 2, 1), (0, 3, 0), (0, 3, 1), (1, 0, 0), (1, 0, 1), (2, 0, 0), (2, 0, 1), (2, 0, 2), (2, 0, 3), (2, 0, 4), (2, 0, 5), (2, 0, 6), (2, 0, 7), (2, 0, 8), (2, 0, 9), (2, 0, 10), (2, 0, 11), (2, 1, 0), (2, 1, 1), (2, 1, 2), (2, 1, 3), (2, 1, 4), (2, 1, 5), (2, 1, 6), (2, 1, 7), (2, 1, 8), (2, 1, 9), (2, 1, 10), (2, 1, 11), (2, 2, 0), (2, 2, 1), (2, 2, 2), (2, 2, 3), (2, 2, 4), (2, 2, 5), (2, 2, 6), (2, 2, 7), (2, 2, 8), (2, 2, 9), (2, 2, 10), (2, 2, 11), (3, 0, 0), (3, 0, 1), (3, 0, 2), (4, 0, 0), (4, 0, 1), (4, 0, 2), (4, 0, 3), (4, 0, 4), (4, 0, 5), (4, 0, 6), (4, 0, 7), (4, 0, 8), (4, 0, 9), (4, 0, 10), (4, 0, 11), (4, 0, 12), (4, 0, 13), (4, 0, 14), (4, 0, 15)]
theorem fg_inj : ∀ i, i < 65 → ∀ j, j < 65 → fg_shape[i]? = fg_shape[j]? → i = j := by decide +kernel
def fg_ok (K i b : Nat) : Prop := (K, i, b) ∈ fg_shape
theorem fg_in0 : ∀ i, i < 4 → ∀ b, b < 2 → fg_ok 0 i b := by unfold fg_ok; decide +kernel
theorem fg_in1 : ∀ b, b < 2 → fg_ok 1 0 b := by unfold fg_ok; decide +kernel
theorem fg_in2 : ∀ i, i < 3 → ∀ b, b < 12 → fg_ok 2 i b := by unfold fg_ok; decide +kernel
theorem fg_in3 : ∀ b, b < 3 → fg_ok 3 0 b := by unfold fg_ok; decide +kernel
theorem fg_in4 : ∀ b, b < 16 → fg_ok 4 0 b := by unfold fg_ok; decide +kernel
theorem fg_p0_0 {i : Nat} (h : i < 4) : fg_ok 0 i 0 := fg_in0 i h 0 (by decide)
theorem fg_p0_1 {i : Nat} (h : i < 4) : fg_ok 0 i 1 := fg_in0 i h 1 (by decide)
theorem fg_p1_0 : fg_ok 1 0 0 := fg_in1 0 (by decide)
theorem fg_p1_1 : fg_ok 1 0 1 := fg_in1 1 (by decide)
theorem fg_p2_0 {i : Nat} (h : i < 3) : fg_ok 2 i 0 := fg_in2 i h 0 (by decide)
theorem fg_p2_1 {i : Nat} (h : i < 3) : fg_ok 2 i 1 := fg_in2 i h 1 (by decide)
theorem fg_p2_2 {i : Nat} (h : i < 3) : fg_ok 2 i 2 := fg_in2 i h 2 (by decide)
theorem fg_p2_3 {i : Nat} (h : i < 3) : fg_ok 2 i 3 := fg_in2 i h 3 (by decide)
theorem fg_p2_4 {i : Nat} (h : i < 3) : fg_ok 2 i 4 := fg_in2 i h 4 (by decide)
theorem fg_p2_5 {i : Nat} (h : i < 3) : fg_ok 2 i 5 := fg_in2 i h 5 (by decide)
theorem fg_p2_6 {i : Nat} (h : i < 3) : fg_ok 2 i 6 := fg_in2 i h 6 (by decide)
theorem fg_p2_7 {i : Nat} (h : i < 3) : fg_ok 2 i 7 := fg_in2 i h 7 (by decide)
theorem fg_p2_8 {i : Nat} (h : i < 3) : fg_ok 2 i 8 := fg_in2 i h 8 (by decide)
theorem fg_p2_9 {i : Nat} (h : i < 3) : fg_ok 2 i 9 := fg_in2 i h 9 (by decide)
theorem fg_p2_10 {i : Nat} (h : i < 3) : fg_ok 2 i 10 := fg_in2 i h 10 (by decide)
theorem fg_p2_11 {i : Nat} (h : i < 3) : fg_ok 2 i 11 := fg_in2 i h 11 (by decide)
theorem fg_p3_0 : fg_ok 3 0 0 := fg_in3 0 (by decide)
theorem fg_p3_1 : fg_ok 3 0 1 := fg_in3 1 (by decide)
theorem fg_p3_2 : fg_ok 3 0 2 := fg_in3 2 (by decide)
theorem fg_p4_0 : fg_ok 4 0 0 := fg_in4 0 (by decide)
theorem fg_p4_1 : fg_ok 4 0 1 := fg_in4 1 (by decide)
theorem fg_p4_2 : fg_ok 4 0 2 := fg_in4 2 (by decide)
theorem fg_p4_3 : fg_ok 4 0 3 := fg_in4 3 (by decide)
theorem fg_p4_4 : fg_ok 4 0 4 := fg_in4 4 (by decide)
theorem fg_p4_5 : fg_ok 4 0 5 := fg_in4 5 (by decide)
theorem fg_p4_6 : fg_ok 4 0 6 := fg_in4 6 (by decide)
theorem fg_p4_7 : fg_ok 4 0 7 := fg_in4 7 (by decide)
theorem fg_p4_8 : fg_ok 4 0 8 := fg_in4 8 (by decide)
theorem fg_p4_9 : fg_ok 4 0 9 := fg_in4 9 (by decide)
theorem fg_p4_10 : fg_ok 4 0 10 := fg_in4 10 (by decide)
theorem fg_p4_11 : fg_ok 4 0 11 := fg_in4 11 (by decide)
theorem fg_p4_12 : fg_ok 4 0 12 := fg_in4 12 (by decide)
theorem fg_p4_13 : fg_ok 4 0 13 := fg_in4 13 (by decide)
theorem fg_p4_14 : fg_ok 4 0 14 := fg_in4 14 (by decide)
theorem fg_p4_15 : fg_ok 4 0 15 := fg_in4 15 (by decide)
def fg_cells (g : fg_G) (w : fg_W) : va_W := fg_shape.map (fun p => (g.1 p.1 p.2.1 p.2.2, fg_E g w p.1 p.2.1 p.2.2))
def fg_A (g : fg_G) (sz : Nat) : Nat → Prop := fun q => (∃ p ∈ fg_shape, g.1 p.1 p.2.1 p.2.2 = q) ∨ sz ≤ q
def fg_T (g : fg_G) : List (ClassId × FieldType) := [(g.2.1, .int), (g.2.2.1, .char), (g.2.2.2.1, .object "FogLots$Sheet")]
def fg_H (D : va_G) (g : fg_G) (H0 : Heap) (w : fg_W) (H : Heap) (locs : List Loc) : Prop := va_P D vwCl (fg_cells g w) H ∧ va_D (fg_A g H0.size) (fg_cells g w) ∧ va_S (fg_A g H0.size) H0 H locs
theorem fg_st_eq {w : fg_W} {K i b : Nat} {f : Nat → Int32} : (fg_st w K i b f).1 K i b = f := by simp [fg_st, fg_sw, fg_put]
theorem fg_st_ne {w : fg_W} {K i b K' i' b' : Nat} {f : Nat → Int32} (h : (K', i', b') ≠ (K, i, b)) : (fg_st w K i b f).1 K' i' b' = w.1 K' i' b' := by
  simp only [fg_st, fg_sw, fg_put]
  by_cases h1 : K' = K
  · subst h1
    by_cases h2 : i' = i
    · subst h2
      by_cases h3 : b' = b
      · subst h3; exact absurd rfl h
      · simp [fg_put, h3]
    · simp [fg_put, h2]
  · simp [fg_put, h1]
theorem fg_E_dep {g : fg_G} {w w' : fg_W} {K i b : Nat} (h1 : w'.1 K i b = w.1 K i b) (h2 : w'.2 = w.2) : fg_E g w' K i b = fg_E g w K i b := by
  unfold fg_E
  split <;> simp_all
theorem fg_idx {g : fg_G} {w : fg_W} {K i b : Nat} (h : fg_ok K i b) : ∃ q : Nat, (fg_cells g w)[q]? = some (g.1 K i b, fg_E g w K i b) ∧ ∀ w' : fg_W, (∀ K' i' b', (K', i', b') ≠ (K, i, b) → fg_ok K' i' b' → fg_E g w' K' i' b' = fg_E g w K' i' b') → (fg_cells g w).set q (g.1 K i b, fg_E g w' K i b) = fg_cells g w' := by
  obtain ⟨q, hq⟩ := List.mem_iff_getElem?.mp h
  have hlt : q < fg_shape.length := (List.getElem?_eq_some_iff.mp hq).1
  refine ⟨q, by simp [fg_cells, hq], fun w' hw => ?_⟩
  apply List.ext_getElem?
  intro j
  by_cases hj : q = j
  · subst hj
    rw [List.getElem?_set_self (by simpa [fg_cells] using hlt)]
    simp [fg_cells, hq]
  · rw [List.getElem?_set_ne hj]
    simp only [fg_cells, List.getElem?_map]
    cases hp : fg_shape[j]? with
    | none => rfl
    | some p =>
      obtain ⟨K', i', b'⟩ := p
      have hne : (K', i', b') ≠ (K, i, b) := by
        intro e
        rw [e] at hp
        have hjl : j < fg_shape.length := (List.getElem?_eq_some_iff.mp hp).1
        exact hj (fg_inj q hlt j hjl (hq.trans hp.symm))
      simp only [Option.map_some]
      rw [hw K' i' b' hne (List.mem_of_getElem? hp)]
theorem fg_D {A : Nat → Prop} {g : fg_G} {w w' : fg_W} (h : va_D A (fg_cells g w)) : va_D A (fg_cells g w') := by
  have key : ∀ (k : Nat) (q : Nat × va_E), (fg_cells g w')[k]? = some q → ∃ q0, (fg_cells g w)[k]? = some q0 ∧ q0.1 = q.1 := by
    intro k q hq
    simp only [fg_cells, List.getElem?_map] at hq ⊢
    cases hp : fg_shape[k]? with
    | none => rw [hp] at hq; cases hq
    | some p => rw [hp] at hq; simp only [Option.map_some, Option.some.injEq] at hq ⊢; subst hq; exact ⟨_, rfl, rfl⟩
  refine ⟨fun i j p q hp hq e => ?_, fun k q hq => ?_⟩
  · obtain ⟨p0, a1, a2⟩ := key i p hp
    obtain ⟨q0, b1, b2⟩ := key j q hq
    exact h.1 i j p0 q0 a1 b1 (by rw [a2, b2]; exact e)
  · obtain ⟨q0, b1, b2⟩ := key k q hq
    rw [← b2]; exact h.2 k q0 b1
theorem fg_dep {g : fg_G} {w : fg_W} {K i b : Nat} {f : Nat → Int32} : ∀ K' i' b', (K', i', b') ≠ (K, i, b) → fg_ok K' i' b' → fg_E g (fg_st w K i b f) K' i' b' = fg_E g w K' i' b' := fun _ _ _ h _ => fg_E_dep (fg_st_ne h) rfl
def fg_sk : List Nat := [118, 120, 122, 124, 126, 128, 130, 52, 61, 66, 82, 87, 92, 100, 104, 108]
def fg_sx : List String := ["person", "cottager", "surveyor", "mayor", "member", "doubter", "pupil", "lot", "sun", "mist", "on", "believes", "purse", "fog", "rent", "owner"]
def fg_sn : List Nat := [6, 8, 8, 5, 6, 7, 5, 3, 3, 4, 2, 8, 5, 3, 4, 5]
def fg_sb : List (List Int32) := [[112, 101, 114, 115, 111, 110], [99, 111, 116, 116, 97, 103, 101, 114], [115, 117, 114, 118, 101, 121, 111, 114], [109, 97, 121, 111, 114], [109, 101, 109, 98, 101, 114], [100, 111, 117, 98, 116, 101, 114], [112, 117, 112, 105, 108], [108, 111, 116], [115, 117, 110], [109, 105, 115, 116], [111, 110], [98, 101, 108, 105, 101, 118, 101, 115], [112, 117, 114, 115, 101], [102, 111, 103], [114, 101, 110, 116], [111, 119, 110, 101, 114]]
/-- what else is given of the start: nest links, the String constants, String's own static -/
def fg_N (g : fg_G) (sz : Nat) (U : State) : Prop := va_Nw (.methodLinkNest RX2 116 yX3_losesOf "FogLots") U ∧ va_Nw (.methodLinkNest RX1 96 yX3_isLot "FogLots") U ∧ (∀ i, i < 16 → vk_R RX1 (fg_sk.getD i 0) (fg_sx.getD i "") (g.2.2.2.2.1 i) U) ∧ vk_S 16 fg_sn fg_sb g.2.2.2.2.1 g.2.2.2.2.2 (fg_A g sz) U U.heap ∧ va_Z "java/lang/String" "COMPACT_STRINGS" "Z" (.int 1) (fg_A g sz) U U.heap ∧ va_Zq "jdk/internal/util/Preconditions" "SIOOBE_FORMATTER" "Ljava/util/function/BiFunction;" (fg_A g sz) U U.heap
def fg_KN (D : va_G) (g : fg_G) (U : State) : Prop := va_K D vwCl (fg_T g) U ∧ fg_N g U.heap.size U
theorem fg_Asub {g : fg_G} {H0 H : Heap} {locs : List Loc} (hS : va_S (fg_A g H0.size) H0 H locs) : ∀ q, fg_A g H.size q → fg_A g H0.size q := fun _ hq => hq.imp id (fun z => Nat.le_trans hS.1 z)
theorem fg_N.pre {g : fg_G} {s U : State} {H : Heap} {locs : List Loc} (h : fg_N g s.heap.size s) (hS : va_S (fg_A g s.heap.size) s.heap H locs) (hU : U.heap = H) (hW : s.WarmedH U.vm) : fg_N g H.size U := by
  obtain ⟨h1, h2, h3, h4, h5, h6⟩ := h
  refine ⟨va_Nw.warmM hW h1, va_Nw.warmM hW h2, fun i hi => vk_R.warm hW (h3 i hi), ?_, ?_, ?_⟩
  · rw [hU]; exact ((h4.kept hS.2.1).moved hW.alike).narrow (fg_Asub hS)
  · rw [hU]; exact ((h5.kept hS.2.1).moved hW.alike).narrow (fg_Asub hS)
  · rw [hU]; exact ((h6.kept hS.2.1).moved hW.alike).narrow (fg_Asub hS)
theorem fg_N.calling {g : fg_G} {U : State} {sz : Nat} {f : JFrame} {mk : MethodId} {a : Array Value} (h : fg_N g sz U) : fg_N g sz (U.calling f mk a) := by
  obtain ⟨h1, h2, h3, h4, h5, h6⟩ := h
  exact ⟨va_Nw.same rfl rfl h1, va_Nw.same rfl rfl h2, fun i hi => vk_R.same rfl (h3 i hi), vk_S.moved (u := U) (U := U.calling f mk a) (Vm.Alike.refl U.vm) h4, va_Z.moved (u := U) (U := U.calling f mk a) (Vm.Alike.refl U.vm) h5, va_Zq.moved (u := U) (U := U.calling f mk a) (Vm.Alike.refl U.vm) h6⟩
def fg_B (D : va_G) (g : fg_G) (sz : Nat) (w : fg_W) : State → Prop := fun U => U.heap.size = sz ∧ va_P D vwCl (fg_cells g w) U.heap ∧ va_K D vwCl (fg_T g) U ∧ va_D (fun _ => True) (fg_cells g w) ∧ fg_N g sz U
def fg_C (D : va_G) (g : fg_G) (u : fg_W) (t : State) : Prop := va_P D vwCl (fg_cells g u) t.heap ∧ va_K D vwCl (fg_T g) t
def fg_rm (f n : Nat) : Room := { frames := f, cells := 0, slots := 0, locals := n }
def fg_Qi (D : va_G) (g : fg_G) (r : Int32) (w : fg_W) (sz : Nat) : Array Value → State → Outcome → State → Prop := va_Qi (fun (r0 : Int32) (u : fg_W) => r0 = r ∧ u = w) (fg_C D g) (fg_A g sz)
def fg_Ql (D : va_G) (g : fg_G) (r : Int64) (w : fg_W) (sz : Nat) : Array Value → State → Outcome → State → Prop := va_Ql (fun (r0 : Int64) (u : fg_W) => r0 = r ∧ u = w) (fg_C D g) (fg_A g sz)
def fg_Qv (D : va_G) (g : fg_G) (w : fg_W) (sz : Nat) : Array Value → State → Outcome → State → Prop := va_Qv (fun (u : fg_W) => u = w) (fg_C D g) (fg_A g sz)
/-- a method's contract: at these arguments and this world it answers, and leaves the world so -/
def fg_M (l : Launch) (y : MethodName) (cc : ByteArray) (nL : Nat) (ret : Option FieldType) (fr lo : Nat) (D : va_G) (g : fg_G) (As : List Value) (w : fg_W) (Qc : Nat → Array Value → State → Outcome → State → Prop) : Prop :=
  ∀ sz, Met l y (.code y cc nL ret :: fg_TW) (fg_rm fr lo) (va_Pc As (fg_B D g sz w)) (Qc sz) 0 0 (fg_A g sz)
theorem fg_M.of {l : Launch} {y : MethodName} {cc : ByteArray} {nL : Nat} {ret : Option FieldType} {fr lo : Nat} {D : va_G} {g : fg_G} {As : List Value} {w : fg_W} {Qc : Nat → Array Value → State → Outcome → State → Prop} (hy : plainName y.cls = true) (hn : (lg_sl As).length ≤ nL)
    (body : ∀ (p : Program) (e : Env) (s : State) (m : MethodId) (below : List Frame) (meth : Method) (c : Code) (ls : Array Slot), CallFix p m c cc nL s As.toArray fg_TW y.cls → meth.sig.returnType = ret → meth.locks = false → fg_KN D g s → fg_H D g s.heap w s.heap [] → lv_has ls nL (lv_args 0 As) →
      W p l e (fg_rm fr lo) s m As.toArray below meth c s.heap [] 0 0 (MQ below (Qc s.heap.size) As.toArray s 0 0 (fg_A g s.heap.size)) (F0 m 0 ls [])) : fg_M l y cc nL ret fr lo D g As w Qc := by
  intro sz
  refine Met.ofW (cc := cc) (maxL := nL) (ret := ret) hy rfl ?_
  intro p e s m args below meth c s₁ B hml hv
  obtain ⟨rfl, hsz, hP, hK, hD0, hN⟩ := hv
  subst hsz
  have hts0 := atoms_spec (ws := .code y cc nL ret :: fg_TW) B.pre
  have hown : s.vm.findClass y.cls = some m.cls := findClass_of_methodNamed B.named
  have hl := lv_entry As (n := nL) hn
  rw [lg_entry_eq]
  refine body p e s m below meth c _ ⟨B.exec, B.bytes, hml, hown, fun w hw => hts0 w (List.mem_cons_of_mem _ hw)⟩ B.returns B.notSynchronized ⟨hK, hN⟩ ⟨hP, ?_, va_S.rf⟩ hl
  refine hD0.weaken (fun k q hk _ => ?_)
  simp only [fg_cells, List.getElem?_map] at hk
  cases hp : fg_shape[k]? with
  | none => rw [hp] at hk; cases hk
  | some p0 => rw [hp] at hk; simp only [Option.map_some, Option.some.injEq] at hk; subst hk; exact Or.inl ⟨p0, List.mem_of_getElem? hp, rfl⟩
abbrev fg_Gi (p : Program) (l : Launch) (e : Env) (fr lo : Nat) (s : State) (m : MethodId) (As : List Value) (below : List Frame) (meth : Method) (c : Code) (D : va_G) (g : fg_G) (r : Int32) (w' : fg_W) (H : Heap) (locs : List Loc) (pc : Nat) (ls : Array Slot) (st : List Value) : Prop := W p l e (fg_rm fr lo) s m As.toArray below meth c H locs 0 0 (MQ below (fg_Qi D g r w' s.heap.size) As.toArray s 0 0 (fg_A g s.heap.size)) (F0 m pc ls st)
abbrev fg_Gl (p : Program) (l : Launch) (e : Env) (fr lo : Nat) (s : State) (m : MethodId) (As : List Value) (below : List Frame) (meth : Method) (c : Code) (D : va_G) (g : fg_G) (r : Int64) (w' : fg_W) (H : Heap) (locs : List Loc) (pc : Nat) (ls : Array Slot) (st : List Value) : Prop := W p l e (fg_rm fr lo) s m As.toArray below meth c H locs 0 0 (MQ below (fg_Ql D g r w' s.heap.size) As.toArray s 0 0 (fg_A g s.heap.size)) (F0 m pc ls st)
abbrev fg_Gv (p : Program) (l : Launch) (e : Env) (fr lo : Nat) (s : State) (m : MethodId) (As : List Value) (below : List Frame) (meth : Method) (c : Code) (D : va_G) (g : fg_G) (w' : fg_W) (H : Heap) (locs : List Loc) (pc : Nat) (ls : Array Slot) (st : List Value) : Prop := W p l e (fg_rm fr lo) s m As.toArray below meth c H locs 0 0 (MQ below (fg_Qv D g w' s.heap.size) As.toArray s 0 0 (fg_A g s.heap.size)) (F0 m pc ls st)
theorem fg_E_sl2 {g : fg_G} {w : fg_W} {x : Int64} {K i b : Nat} (h : ¬ (K = 4 ∧ b = 0)) : fg_E g (fg_sl w x) K i b = fg_E g w K i b := by
  unfold fg_E
  split <;> first | rfl | (exact absurd ⟨rfl, rfl⟩ h) | simp_all [fg_sl]
/-- one model alone: of another number nothing is asked (its row isn't in the shape) -/
theorem fg_E_sl {g : fg_G} {w : fg_W} {x : Int64} {i : Nat} (h : (4, i, 0) ≠ (4, 0, 0)) (hs : fg_ok 4 i 0) : fg_E g (fg_sl w x) 4 i 0 = fg_E g w 4 i 0 := by
  have : i = 0 := by
    unfold fg_ok fg_shape at hs
    simpa using hs
  exact absurd (by rw [this]) h
section FGR
variable {p : Program} {l : Launch} {e : Env} {R : Room} {s : State} {m : MethodId} {args : Array Value} {below : List Frame} {meth : Method} {c : Code} {H : Heap} {locs : List Loc} {cells slots : Nat} {Q : State → Prop}
variable {cc : ByteArray} {pc : Nat} {ls : Array Slot} {rest : List Value} {D : va_G} {g : fg_G} {w : fg_W} {K i b : Nat}
theorem fg_iald (hx : p.tables.exec = Jvm.exec) (hb : c.code = cc) (hK : fg_KN D g s) (h : fg_H D g s.heap w H locs) {n : Nat} (hs : fg_ok K i b) (he : ∀ w : fg_W, fg_E g w K i b = .inl (g.2.1, n, .inl (w.1 K i b))) {ix : Int32} (hin : vp_in ix n) (hdg : decode cc pc = .ok (.iaload, 1))
    (kk : W p l e R s m args below meth c H locs cells slots Q (F0 m (pc + 1) ls (.int (w.1 K i b ix.toNatClampNeg) :: rest))) : W p l e R s m args below meth c H locs cells slots Q (F0 m pc ls (.int ix :: .ref (g.1 K i b) :: rest)) := by
  obtain ⟨q, hq, -⟩ := fg_idx (g := g) (w := w) hs
  rw [he] at hq
  exact va_iald hx hb hK.1 h.1 q 0 hq rfl hin hdg kk
theorem fg_cald (hx : p.tables.exec = Jvm.exec) (hb : c.code = cc) (hK : fg_KN D g s) (h : fg_H D g s.heap w H locs) {n : Nat} (hs : fg_ok K i b) (he : ∀ w : fg_W, fg_E g w K i b = .inl (g.2.2.1, n, .inl (w.1 K i b))) {ix : Int32} (hin : vp_in ix n) (hdg : decode cc pc = .ok (.caload, 1))
    (kk : W p l e R s m args below meth c H locs cells slots Q (F0 m (pc + 1) ls (.int (w.1 K i b ix.toNatClampNeg) :: rest))) : W p l e R s m args below meth c H locs cells slots Q (F0 m pc ls (.int ix :: .ref (g.1 K i b) :: rest)) := by
  obtain ⟨q, hq, -⟩ := fg_idx (g := g) (w := w) hs
  rw [he] at hq
  exact va_cald hx hb hK.1 h.1 q 1 hq rfl hin hdg kk
/-- sheets[ix] -/
theorem fg_aald (hx : p.tables.exec = Jvm.exec) (hb : c.code = cc) (hK : fg_KN D g s) (h : fg_H D g s.heap w H locs) {ix : Int32} (hin : vp_in ix 4) (hdg : decode cc pc = .ok (.aaload, 1))
    (kk : W p l e R s m args below meth c H locs cells slots Q (F0 m (pc + 1) ls (.ref (g.1 0 ix.toNatClampNeg 0) :: rest))) : W p l e R s m args below meth c H locs cells slots Q (F0 m pc ls (.int ix :: .ref (g.1 3 0 2) :: rest)) := by
  obtain ⟨q, hq, -⟩ := fg_idx (g := g) (w := w) (fg_in3 2 (by decide))
  exact va_aldq hx hb hK.1 h.1 q 2 hq rfl hin hdg kk
theorem fg_alen (hx : p.tables.exec = Jvm.exec) (hb : c.code = cc) (hK : fg_KN D g s) (h : fg_H D g s.heap w H locs) {n : Nat} (hs : fg_ok K i b) (he : ∀ w : fg_W, fg_E g w K i b = .inl (g.2.2.1, n, .inl (w.1 K i b))) (hdg : decode cc pc = .ok (.arraylength, 1))
    (kk : W p l e R s m args below meth c H locs cells slots Q (F0 m (pc + 1) ls (.int (nI n) :: rest))) : W p l e R s m args below meth c H locs cells slots Q (F0 m pc ls (.ref (g.1 K i b) :: rest)) := by
  obtain ⟨q, hq, -⟩ := fg_idx (g := g) (w := w) hs
  rw [he] at hq
  exact va_alen hx hb hK.1 h.1 q 1 hq rfl rfl hdg kk
theorem fg_iast (hx : p.tables.exec = Jvm.exec) (hb : c.code = cc) (hK : fg_KN D g s) (h : fg_H D g s.heap w H locs) {n : Nat} (hs : fg_ok K i b) (he : ∀ w : fg_W, fg_E g w K i b = .inl (g.2.1, n, .inl (w.1 K i b))) {ix x : Int32} (hin : vp_in ix n) (hdg : decode cc pc = .ok (.iastore, 1))
    (kk : ∀ (w1 : fg_W) (H1 : Heap) (locs1 : List Loc), w1 = fg_st w K i b (upd (w.1 K i b) ix.toNatClampNeg x) → fg_H D g s.heap w1 H1 locs1 → W p l e R s m args below meth c H1 locs1 cells slots Q (F0 m (pc + 1) ls rest)) : W p l e R s m args below meth c H locs cells slots Q (F0 m pc ls (.int x :: .int ix :: .ref (g.1 K i b) :: rest)) := by
  obtain ⟨q, hq, hset⟩ := fg_idx (g := g) (w := w) hs
  rw [he] at hq
  refine va_iast hx hb hK.1 h.1 h.2.1 h.2.2 q 0 hq rfl hin hdg (fun H1 locs1 hP hD hS => ?_)
  have e1 := hset (fg_st w K i b (upd (w.1 K i b) ix.toNatClampNeg x)) fg_dep
  rw [he, fg_st_eq] at e1
  rw [e1] at hP hD
  exact kk _ H1 locs1 rfl ⟨hP, hD, hS⟩
theorem fg_ialdL (hx : p.tables.exec = Jvm.exec) (hb : c.code = cc) (hK : fg_KN D g s) (h : fg_H D g s.heap w H locs) {n j : Nat} (hs : fg_ok K i b) (he : ∀ w : fg_W, fg_E g w K i b = .inl (g.2.1, n, .inl (w.1 K i b))) {ix : Int32} (hin : ¬ (ix < 0 ∨ n ≤ ix.toNatClampNeg)) (hj : ix.toNatClampNeg = j) (hdg : decode cc pc = .ok (.iaload, 1))
    (kk : W p l e R s m args below meth c H locs cells slots Q (F0 m (pc + 1) ls (.int (w.1 K i b j) :: rest))) : W p l e R s m args below meth c H locs cells slots Q (F0 m pc ls (.int ix :: .ref (g.1 K i b) :: rest)) := by
  subst hj
  exact fg_iald hx hb hK h hs he hin hdg kk
theorem fg_iastL (hx : p.tables.exec = Jvm.exec) (hb : c.code = cc) (hK : fg_KN D g s) (h : fg_H D g s.heap w H locs) {n j : Nat} (hs : fg_ok K i b) (he : ∀ w : fg_W, fg_E g w K i b = .inl (g.2.1, n, .inl (w.1 K i b))) {ix x : Int32} (hin : ¬ (ix < 0 ∨ n ≤ ix.toNatClampNeg)) (hj : ix.toNatClampNeg = j) (hdg : decode cc pc = .ok (.iastore, 1))
    (kk : ∀ (w1 : fg_W) (H1 : Heap) (locs1 : List Loc), w1 = fg_st w K i b (upd (w.1 K i b) j x) → fg_H D g s.heap w1 H1 locs1 → W p l e R s m args below meth c H1 locs1 cells slots Q (F0 m (pc + 1) ls rest)) : W p l e R s m args below meth c H locs cells slots Q (F0 m pc ls (.int x :: .int ix :: .ref (g.1 K i b) :: rest)) := by
  subst hj
  exact fg_iast hx hb hK h hs he hin hdg kk
theorem fg_copy {nL : Nat} {own : String} {index K' i' b' sj dj nj : Nat} (S : CallFix p m c cc nL s args fg_TW own) (hK : fg_KN D g s) (h : fg_H D g s.heap w H locs) {n n' : Nat} (hs : fg_ok K i b) (he : ∀ w : fg_W, fg_E g w K i b = .inl (g.2.1, n, .inl (w.1 K i b))) (hs' : fg_ok K' i' b') (he' : ∀ w : fg_W, fg_E g w K' i' b' = .inl (g.2.1, n', .inl (w.1 K' i' b'))) {sp dp nn : Int32} (e1 : sp.toNatClampNeg = sj) (e2 : dp.toNatClampNeg = dj) (e3 : nn.toNatClampNeg = nj) (h1 : ¬ sp < 0) (h2 : ¬ dp < 0) (h3 : ¬ nn < 0) (h4 : sp.toNatClampNeg + nn.toNatClampNeg ≤ n) (h5 : dp.toNatClampNeg + nn.toNatClampNeg ≤ n') (hlink : Cond.methodLink own index arraycopyName ∈ fg_TW) (hls : ls.size = nL) (hframes : 1 ≤ R.frames) (hlocals : (rest.map fun v => v.category).sum + (nativeFrameWords "java/lang/System" "arraycopy" 5 + 11) ≤ R.locals) (hdg : decode cc pc = .ok (.invokestatic index, 3))
    (kk : ∀ (w1 : fg_W) (H1 : Heap) (locs1 : List Loc), w1 = fg_st w K' i' b' (va_cpy (w.1 K i b) (w.1 K' i' b') sj dj nj) → fg_H D g s.heap w1 H1 locs1 → W p l e R s m args below meth c H1 locs1 cells slots Q (F0 m (pc + 3) ls rest)) : W p l e R s m args below meth c H locs cells slots Q (F0 m pc ls (.int nn :: .int dp :: .ref (g.1 K' i' b') :: .int sp :: .ref (g.1 K i b) :: rest)) := by
  subst e1; subst e2; subst e3
  obtain ⟨q, hq, -⟩ := fg_idx (g := g) (w := w) hs
  obtain ⟨q', hq', hset⟩ := fg_idx (g := g) (w := w) hs'
  rw [he] at hq
  rw [he'] at hq'
  refine va_copyi S.1 S.2.1 (S.2.2.1.trans hls.symm) S.2.2.2.1 (S.2.2.2.2 _ hlink) (S.2.2.2.2 _ vn_acopy) (S.2.2.2.2 _ vs_acopy) (S.2.2.2.2 _ vi_System) hK.1 h.1 h.2.1 h.2.2 q q' 0 0 hq hq' rfl rfl rfl h1 h2 h3 h4 h5 (fun _ _ => rfl) hframes hlocals hdg (fun H1 locs1 hP hD hS => ?_)
  have e1 := hset (fg_st w K' i' b' (va_cpy (w.1 K i b) (w.1 K' i' b') sp.toNatClampNeg dp.toNatClampNeg nn.toNatClampNeg)) fg_dep
  rw [he', fg_st_eq] at e1
  rw [e1] at hP hD
  exact kk _ H1 locs1 rfl ⟨hP, hD, hS⟩
theorem fg_vlt {ix : Int32} {n : Nat} (h : vp_in ix n) : ix.toNatClampNeg < n := Nat.not_le.mp fun q => h (Or.inr q)
theorem fg_get {nL : Nat} {own ref C : String} {T : u_T} {N ci index : Nat} (S : CallFix p m c cc nL s args fg_TW own) (hin : ∀ w ∈ u_ws C T N, w ∈ fg_TW) (hK : fg_KN D g s) (h : fg_H D g s.heap w H locs) {fs : List Value} (hs : fg_ok K i b) (he : fg_E g w K i b = .inr (ci, fs)) (hc : vwCl[ci]? = some (C, T, N)) (k : Nat) (hk : k < N) (hlink : Cond.fieldLink own index ref (T k).2.1 (T k).2.2.1 ∈ fg_TW) (hsame : (T k).1 = ref) {v : Value} (hv : fs[k]? = some v) (hdg : decode cc pc = .ok (.getfield index, 3))
    (kk : W p l e R s m args below meth c H locs cells slots Q (F0 m (pc + 3) ls (v :: rest))) : W p l e R s m args below meth c H locs cells slots Q (F0 m pc ls (.ref (g.1 K i b) :: rest)) := by
  obtain ⟨q, hq, -⟩ := fg_idx (g := g) (w := w) hs
  rw [he] at hq
  exact va_get S.1 S.2.1 S.2.2.2.2 hin S.2.2.2.1 hK.1 h.1 q hq hc k hk (S.2.2.2.2 _ hlink) (fun x hx => by rw [← hsame]; exact hx) hv hdg kk
theorem fg_putI {nL : Nat} {own ref C : String} {T : u_T} {N ci index : Nat} (S : CallFix p m c cc nL s args fg_TW own) (hin : ∀ w ∈ u_ws C T N, w ∈ fg_TW) (ty0 : Nat → FieldType) (hty : ∀ k, k < N → parseFieldDescriptor (T k).2.2.1 = some (ty0 k)) (hnm : ∀ a, a < N → ∀ b, b < N → a ≠ b → (T a).2.1 ≠ (T b).2.1) (hK : fg_KN D g s) (h : fg_H D g s.heap w H locs) {fs : (Nat → Int32) → List Value} (hs : fg_ok K i b) (he : ∀ w' : fg_W, w'.2 = w.2 → fg_E g w' K i b = .inr (ci, fs (w'.1 K i b))) (hc : vwCl[ci]? = some (C, T, N)) (k : Nat) (hk : k < N) (hlink : Cond.fieldLink own index ref (T k).2.1 (T k).2.2.1 ∈ fg_TW) (hsame : (T k).1 = ref) (hfin : (T k).2.2.2 = false) {ty : FieldType} {x : Int32} (hd : parseFieldDescriptor (T k).2.2.1 = some ty) (hn : narrow ty (.int x) = .int x) (hfit : fits ty (.int x) = true) (hl : ∀ f, k < (fs f).length) (hset : ∀ f, (fs f).set k (.int x) = fs (upd f k x)) (hdg : decode cc pc = .ok (.putfield index, 3))
    (kk : ∀ (w1 : fg_W) (H1 : Heap) (locs1 : List Loc), w1 = fg_st w K i b (upd (w.1 K i b) k x) → fg_H D g s.heap w1 H1 locs1 → W p l e R s m args below meth c H1 locs1 cells slots Q (F0 m (pc + 3) ls rest)) : W p l e R s m args below meth c H locs cells slots Q (F0 m pc ls (.int x :: .ref (g.1 K i b) :: rest)) := by
  obtain ⟨q, hq, hset2⟩ := fg_idx (g := g) (w := w) hs
  rw [he w rfl] at hq
  refine va_put S.1 S.2.1 S.2.2.2.2 hin ty0 hty hnm S.2.2.2.1 hK.1 h.1 h.2.1 h.2.2 q hq hc k hk (S.2.2.2.2 _ hlink) (fun x hx => by rw [← hsame]; exact hx) hfin hd hn hfit (hl _) hdg (fun H1 locs1 hP hD hS => ?_)
  have e1 := hset2 (fg_st w K i b (upd (w.1 K i b) k x)) fg_dep
  rw [he (fg_st w K i b (upd (w.1 K i b) k x)) rfl, fg_st_eq, ← hset] at e1
  rw [e1] at hP hD
  exact kk _ H1 locs1 rfl ⟨hP, hD, hS⟩
theorem fg_putL {nL : Nat} {index : Nat} (S : CallFix p m c cc nL s args fg_TW RX4) (hK : fg_KN D g s) (h : fg_H D g s.heap w H locs) (hlink : Cond.fieldLink RX4 index "FogLotsModel" "value" "J" ∈ fg_TW) {x : Int64} (hdg : decode cc pc = .ok (.putfield index, 3))
    (kk : ∀ (w1 : fg_W) (H1 : Heap) (locs1 : List Loc), w1 = fg_sl w x → fg_H D g s.heap w1 H1 locs1 → W p l e R s m args below meth c H1 locs1 cells slots Q (F0 m (pc + 3) ls rest)) : W p l e R s m args below meth c H locs cells slots Q (F0 m pc ls (.long x :: .ref (g.1 4 0 0) :: rest)) := by
  obtain ⟨q, hq, hset2⟩ := fg_idx (g := g) (w := w) fg_p4_0
  refine va_put (C := RX4) (T := TX4) (N := 22) (ty := .long) S.1 S.2.1 S.2.2.2.2 vu_X4 tyX4 tyX4_ok nmX4 S.2.2.2.1 hK.1 h.1 h.2.1 h.2.2 q hq rfl 13 (by decide) (S.2.2.2.2 _ hlink) (fun _ h9 => h9) rfl (tyX4_ok 13 (by decide)) rfl rfl (Nat.le_of_ble_eq_true rfl) hdg (fun H1 locs1 hP hD hS => ?_)
  have e1 := hset2 (fg_sl w x) (fun K' i' b' hne hok => by
    by_cases h4 : K' = 4 ∧ b' = 0
    · obtain ⟨rfl, rfl⟩ := h4
      exact fg_E_sl hne hok
    · exact fg_E_sl2 h4)
  have e2 : (fg_cells g w).set q (g.1 4 0 0, fg_E g (fg_sl w x) 4 0 0) = (fg_cells g w).set q (g.1 4 0 0, .inr (4, (fg_f4 g 0 (w.1 4 0 0) w.2).set 13 (.long x))) := rfl
  rw [e2] at e1
  exact kk _ H1 locs1 rfl ⟨by rw [← e1]; exact hP, by rw [← e1]; exact hD, hS⟩
theorem fg_blind {As : List Value} {sz : Nat} : FrameBlind (va_Pc As (fg_B D g sz w)) := fun a U f mk q => by
  obtain ⟨q0, q1, qP, qK, qD, qN⟩ := q
  exact ⟨q0, q1, qP, va_K.moved (u := U) (U := U.calling f mk a) (Vm.Alike.refl U.vm) qK, qD, qN.calling⟩
theorem fg_pre {As : List Value} (hK : fg_KN D g s) (h : fg_H D g s.heap w H locs) : ∀ U : State, U.heap = H → s.WarmedH U.vm → va_Pc As (fg_B D g H.size w) As.toArray U := fun U hU hW => ⟨rfl, by rw [hU], by rw [hU]; exact h.1, va_K.moved hW.alike hK.1, h.2.1.weaken (fun _ _ _ _ => trivial), hK.2.pre h.2.2 hU hW⟩
variable {own C : String} {T : u_T} {N ci index nL maxL n fr lo : Nat} {y : MethodName} {bytes : ByteArray} {ret : Option FieldType} {fs : List Value} {As st0 : List Value} {w' : fg_W}
/-- a virtual call -/
theorem fg_runV {Qc : Nat → Array Value → State → Outcome → State → Prop} (S : CallFix p m c cc nL s args fg_TW own) (hK : fg_KN D g s) (h : fg_H D g s.heap w H locs) (hM : fg_M l y bytes maxL ret fr lo D g (.ref (g.1 K i b) :: As) w Qc) (hG : GoodIn fg_TW (wsV own index C y (.code y bytes maxL ret :: fg_TW))) (hd : y.cls = C ∧ y.cls ≠ "java/lang/invoke/MethodHandle" ∧ y.cls ≠ "java/lang/invoke/VarHandle" ∧ (parseMethodDescriptor y.desc).map (fun d => d.parameters.length) = some n) (hR : fr + 1 ≤ R.frames ∧ 8 + (maxL + 11) + lo ≤ R.locals) (hs : fg_ok K i b) (he : fg_E g w K i b = .inr (ci, fs)) (hc : vwCl[ci]? = some (C, T, N)) (hn : As.length = n) (hl : ls.size = nL) (hst : st0 = As.reverse ++ .ref (g.1 K i b) :: rest) (hW : (rest.map fun v => v.category).sum ≤ 8) (hdg : decode cc pc = .ok (.invokevirtual index, 3)) (hz : cells ≤ R.cells ∧ slots ≤ R.slots) :
    va_Run p l e R s m args below meth c H locs cells slots 0 0 (F0 m pc ls st0) rest (Qc H.size (Value.ref (g.1 K i b) :: As).toArray) (fg_A g H.size) := by
  obtain ⟨q0, hq0, -⟩ := fg_idx (g := g) (w := w) hs
  rw [he] at hq0
  exact va_runV (As := As) (rest := rest) S (hM H.size) (cwV n S.2.2.2.2 hG rfl rfl rfl hd hR) ⟨fg_blind, va_recv hK.1 h.1 hc hq0, fg_pre hK h⟩ rfl hn hl hst (lv_room hW) hdg hz
theorem fg_runS {Qc : Nat → Array Value → State → Outcome → State → Prop} (S : CallFix p m c cc nL s args fg_TW own) (hK : fg_KN D g s) (h : fg_H D g s.heap w H locs) (hM : fg_M l y bytes maxL ret fr lo D g As w Qc) (hcode : Cond.code y bytes maxL ret ∈ fg_TW) (hlk : Cond.methodLink own index y ∈ fg_TW) (hstat : Cond.static y ∈ fg_TW) (hini : Cond.initialized y.cls ∈ fg_TW) (hd : y.cls ≠ "java/lang/invoke/MethodHandle" ∧ y.cls ≠ "java/lang/invoke/VarHandle" ∧ (parseMethodDescriptor y.desc).map (fun d => d.parameters.length) = some n) (hR : fr + 1 ≤ R.frames ∧ 8 + (maxL + 11) + lo ≤ R.locals) (hn : As.length = n) (hl : ls.size = nL) (hst : st0 = As.reverse ++ rest) (hW : (rest.map fun v => v.category).sum ≤ 8) (hdg : decode cc pc = .ok (.invokestatic index, 3)) (hz : cells ≤ R.cells ∧ slots ≤ R.slots) :
    va_Run p l e R s m args below meth c H locs cells slots 0 0 (F0 m pc ls st0) rest (Qc H.size As.toArray) (fg_A g H.size) :=
  va_runS (As := As) (rest := rest) S (hM H.size) ⟨callB_of n S.2.2.2.2 (fg_gC hcode) rfl rfl rfl (S.2.2.2.2 _ hini) (S.2.2.2.2 _ hlk) hd hR, S.2.2.2.2 _ hstat⟩ ⟨fg_blind, fg_pre hK h⟩ rfl hn hl hst (lv_room hW) hdg hz
/-- a static method of another class of the nest -/
theorem fg_runSN {host : String} {Qc : Nat → Array Value → State → Outcome → State → Prop} (S : CallFix p m c cc nL s args fg_TW own) (hK : fg_KN D g s) (h : fg_H D g s.heap w H locs) (hM : fg_M l y bytes maxL ret fr lo D g As w Qc) (hcode : Cond.code y bytes maxL ret ∈ fg_TW) (hlk : va_Nw (.methodLinkNest own index y host) s) (hstat : Cond.static y ∈ fg_TW) (hini : Cond.initialized y.cls ∈ fg_TW) (hd : y.cls ≠ "java/lang/invoke/MethodHandle" ∧ y.cls ≠ "java/lang/invoke/VarHandle" ∧ (parseMethodDescriptor y.desc).map (fun d => d.parameters.length) = some n) (hR : fr + 1 ≤ R.frames ∧ 8 + (maxL + 11) + lo ≤ R.locals) (hn : As.length = n) (hl : ls.size = nL) (hst : st0 = As.reverse ++ rest) (hW : (rest.map fun v => v.category).sum ≤ 8) (hdg : decode cc pc = .ok (.invokestatic index, 3)) (hz : cells ≤ R.cells ∧ slots ≤ R.slots) :
    va_Run p l e R s m args below meth c H locs cells slots 0 0 (F0 m pc ls st0) rest (Qc H.size As.toArray) (fg_A g H.size) :=
  va_runSN (As := As) (rest := rest) S (hM H.size) ⟨va_cnB n S.2.2.2.2 (fg_gC hcode) rfl rfl rfl hlk (S.2.2.2.2 _ hini) hd hR, S.2.2.2.2 _ hstat, trivial⟩ ⟨fg_blind, fg_pre hK h⟩ rfl hn hl hst (lv_room hW) hdg hz
theorem fg_ci {a : Array Value} {r : Int32} (h : fg_H D g s.heap w H locs) (hr : va_Run p l e R s m args below meth c H locs cells slots 0 0 (F0 m pc ls st0) rest (fg_Qi D g r w' H.size a) (fg_A g H.size)) (kk : ∀ (H1 : Heap) (locs1 : List Loc), fg_H D g s.heap w' H1 locs1 → W p l e R s m args below meth c H1 locs1 cells slots Q (F0 m (pc + 3) ls (.int r :: rest))) : W p l e R s m args below meth c H locs cells slots Q (F0 m pc ls st0) := by
  refine va_calli hr h.2.2 (fun q _ hq => fg_Asub h.2.2 q hq) (fg_Asub h.2.2) (fun r0 u t H1 locs1 ht hvm hw hB hz hk hS1 => ?_)
  obtain ⟨rfl, rfl⟩ := hw
  obtain ⟨hP1, hK1⟩ := hB
  rw [ht] at hP1
  exact kk H1 locs1 ⟨hP1, fg_D h.2.1, hS1⟩
theorem fg_cl {a : Array Value} {r : Int64} (h : fg_H D g s.heap w H locs) (hr : va_Run p l e R s m args below meth c H locs cells slots 0 0 (F0 m pc ls st0) rest (fg_Ql D g r w' H.size a) (fg_A g H.size)) (kk : ∀ (H1 : Heap) (locs1 : List Loc), fg_H D g s.heap w' H1 locs1 → W p l e R s m args below meth c H1 locs1 cells slots Q (F0 m (pc + 3) ls (.long r :: rest))) : W p l e R s m args below meth c H locs cells slots Q (F0 m pc ls st0) := by
  refine va_calll hr h.2.2 (fun q _ hq => fg_Asub h.2.2 q hq) (fg_Asub h.2.2) (fun r0 u t H1 locs1 ht hvm hw hB hz hk hS1 => ?_)
  obtain ⟨rfl, rfl⟩ := hw
  obtain ⟨hP1, hK1⟩ := hB
  rw [ht] at hP1
  exact kk H1 locs1 ⟨hP1, fg_D h.2.1, hS1⟩
theorem fg_cv {a : Array Value} (h : fg_H D g s.heap w H locs) (hr : va_Run p l e R s m args below meth c H locs cells slots 0 0 (F0 m pc ls st0) rest (fg_Qv D g w' H.size a) (fg_A g H.size)) (kk : ∀ (H1 : Heap) (locs1 : List Loc), fg_H D g s.heap w' H1 locs1 → W p l e R s m args below meth c H1 locs1 cells slots Q (F0 m (pc + 3) ls rest)) : W p l e R s m args below meth c H locs cells slots Q (F0 m pc ls st0) := by
  refine va_callv hr h.2.2 (fun q _ hq => fg_Asub h.2.2 q hq) (fg_Asub h.2.2) (fun u t H1 locs1 ht hvm hw hB hz hk hS1 => ?_)
  subst hw
  obtain ⟨hP1, hK1⟩ := hB
  rw [ht] at hP1
  exact kk H1 locs1 ⟨hP1, fg_D h.2.1, hS1⟩
theorem fg_reti {r v : Int32} (hx : p.tables.exec = Jvm.exec) (hb : c.code = cc) (hr : meth.sig.returnType = some .int) (hlk : meth.locks = false) (hK : fg_KN D g s) (h : fg_H D g s.heap w H locs) (hf : some (v, w) = some (r, w')) (hdg : decode cc pc = .ok (.ireturn, 1)) : W p l e R s m args below meth c H locs 0 0 (MQ below (fg_Qi D g r w' s.heap.size) args s 0 0 (fg_A g s.heap.size)) (F0 m pc ls [.int v]) := by
  cases hf
  exact W.iret hx hb hr (fun t ht hW => ⟨⟨_, _, rfl, ⟨rfl, rfl⟩, by rw [ht]; exact h.1, va_K.moved hW.alike hK.1⟩, h.2.2.F ht⟩) h.2.2.2.2 hdg hlk
theorem fg_retz {r v : Int32} (hx : p.tables.exec = Jvm.exec) (hb : c.code = cc) (hr : meth.sig.returnType = some .boolean) (hlk : meth.locks = false) (hK : fg_KN D g s) (h : fg_H D g s.heap w H locs) (hf : some (v, w) = some (r, w')) (hv : v = 0 ∨ v = 1) (hdg : decode cc pc = .ok (.ireturn, 1)) : W p l e R s m args below meth c H locs 0 0 (MQ below (fg_Qi D g r w' s.heap.size) args s 0 0 (fg_A g s.heap.size)) (F0 m pc ls [.int v]) := by
  cases hf
  exact W.zret hx hb hr (by rcases hv with rfl | rfl <;> rfl) (fun t ht hW => ⟨⟨_, _, rfl, ⟨rfl, rfl⟩, by rw [ht]; exact h.1, va_K.moved hW.alike hK.1⟩, h.2.2.F ht⟩) h.2.2.2.2 hdg hlk
theorem fg_retl {r v : Int64} (hx : p.tables.exec = Jvm.exec) (hb : c.code = cc) (hr : meth.sig.returnType = some .long) (hlk : meth.locks = false) (hK : fg_KN D g s) (h : fg_H D g s.heap w H locs) (hf : some (v, w) = some (r, w')) (hdg : decode cc pc = .ok (.lreturn, 1)) : W p l e R s m args below meth c H locs 0 0 (MQ below (fg_Ql D g r w' s.heap.size) args s 0 0 (fg_A g s.heap.size)) (F0 m pc ls [.long v]) := by
  cases hf
  exact W.lret hx hb hr (fun t ht hW => ⟨⟨_, _, rfl, ⟨rfl, rfl⟩, by rw [ht]; exact h.1, va_K.moved hW.alike hK.1⟩, h.2.2.F ht⟩) h.2.2.2.2 hdg hlk
theorem fg_retv (hx : p.tables.exec = Jvm.exec) (hb : c.code = cc) (hr : meth.sig.returnType = none) (hlk : meth.locks = false) (hK : fg_KN D g s) (h : fg_H D g s.heap w H locs) (hf : some w = some w') (hdg : decode cc pc = .ok (.return_, 1)) : W p l e R s m args below meth c H locs 0 0 (MQ below (fg_Qv D g w' s.heap.size) args s 0 0 (fg_A g s.heap.size)) (F0 m pc ls []) := by
  cases hf
  exact W.vret hx hb hr (fun t ht hW => ⟨⟨_, rfl, rfl, by rw [ht]; exact h.1, va_K.moved hW.alike hK.1⟩, h.2.2.F ht⟩) h.2.2.2.2 hdg hlk
end FGR
