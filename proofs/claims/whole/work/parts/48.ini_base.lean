/-! constructors: worlds as lists -/
theorem vx_int : (.arrayClass .int : Cond) ∈ fg_TW := fg_t1 99 rfl rfl
theorem vx_char : (.arrayClass .char : Cond) ∈ fg_TW := fg_t4 9 rfl rfl
theorem vx_oi : (.instanceMethod objectInit : Cond) ∈ fg_TW := fg_t1 19 rfl rfl
theorem vx_oc : (.code objectInit ⟨#[0xb1]⟩ 1 none : Cond) ∈ fg_TW := fg_t1 20 rfl rfl
theorem vx_c3_7 : (.classLink RX3 7 RX2 : Cond) ∈ fg_TW := fg_t1 21 rfl rfl
theorem vx_c3_26 : (.classLink RX3 26 RX1 : Cond) ∈ fg_TW := fg_t1 100 rfl rfl
theorem vx_c3_33 : (.classLink RX3 33 RX0 : Cond) ∈ fg_TW := fg_t1 130 rfl rfl
theorem vx_cL_7 : (.classLink RL 7 RX3 : Cond) ∈ fg_TW := fg_t1 13 rfl rfl
theorem vx_cL_10 : (.classLink RL 10 RX4 : Cond) ∈ fg_TW := fg_t3 172 rfl rfl
theorem vx_i0 : (.instantiable RX0 3 : Cond) ∈ fg_TW := fg_t1 132 rfl rfl
theorem vx_i1 : (.instantiable RX1 7 : Cond) ∈ fg_TW := fg_t1 101 rfl rfl
theorem vx_i2 : (.instantiable RX2 16 : Cond) ∈ fg_TW := fg_t1 22 rfl rfl
theorem vx_i3 : (.instantiable RX3 7 : Cond) ∈ fg_TW := fg_t1 14 rfl rfl
theorem vx_i4 : (.instantiable RX4 22 : Cond) ∈ fg_TW := fg_t3 173 rfl rfl
def in_T (cI cC cS : ClassId) : List (ClassId × FieldType) := [(cI, .int), (cC, .char), (cS, .object "FogLots$Sheet")]
def in_L (L : List Int32) : Nat → Int32 := fun j => L.getD j 0
def in_a (L : List Nat) : Nat → Nat := fun j => L.getD j 0
def in_H (D : va_G) (A : Nat → Prop) (H0 : Heap) (ws : va_W) (H : Heap) (locs : List Loc) : Prop := va_P D vwCl ws H ∧ va_D A ws ∧ va_S A H0 H locs ∧ ∀ q, H0.size ≤ q → A q
theorem in_L_set {L : List Int32} {k : Nat} {x : Int32} (h : k < L.length) : upd (in_L L) k x = in_L (L.set k x) := by
  funext j
  simp only [upd, in_L]
  by_cases e : j = k
  · subst e; simp [List.getD, h]
  · have e2 : ¬ k = j := fun q => e q.symm
    simp [List.getD, e, e2]
theorem in_L_rep (n : Nat) : in_L (List.replicate n 0) = fun _ => 0 := by
  funext j
  simp only [in_L, List.getD, List.getElem?_replicate]
  by_cases h : j < n <;> simp [h]
/-- nest links and the row of sheets -/
def in_N (U : State) : Prop := va_Nw (.methodLinkNest RX3 28 yX1_init "FogLots") U ∧ va_Nw (.methodLinkNest RX3 39 yX0_init "FogLots") U ∧ va_AO "FogLots$Sheet" U
theorem in_N.warm {s U : State} (h : in_N s) (hW : s.WarmedH U.vm) : in_N U := ⟨va_Nw.warmM hW h.1, va_Nw.warmM hW h.2.1, va_AO.moved hW.alike h.2.2⟩
theorem in_N.calling {U : State} {f : JFrame} {mk : MethodId} {a : Array Value} (h : in_N U) : in_N (U.calling f mk a) := ⟨va_Nw.same rfl rfl h.1, va_Nw.same rfl rfl h.2.1, va_AO.moved (u := U) (U := U.calling f mk a) (Vm.Alike.refl U.vm) h.2.2⟩
def in_Pre (D : va_G) (cI cC cS : ClassId) (ws : va_W) (sz : Nat) : State → Prop := fun U => U.heap.size = sz ∧ va_P D vwCl ws U.heap ∧ va_K D vwCl (in_T cI cC cS) U ∧ va_D (fun _ => True) ws ∧ in_N U
def in_Post (D : va_G) (cI cC cS : ClassId) (out : (Nat → Nat) → va_W) (A : Nat → Prop) : (Nat → Nat) → State → Prop := fun a t => va_P D vwCl (out a) t.heap ∧ va_K D vwCl (in_T cI cC cS) t ∧ va_D A (out a)
def in_Q (D : va_G) (cI cC cS : ClassId) (out : (Nat → Nat) → va_W) (A : Nat → Prop) : Array Value → State → Outcome → State → Prop := va_Qv (fun _ : Nat → Nat => True) (in_Post D cI cC cS out A) A
def in_rm (fr lo mc ms : Nat) : Room := { frames := fr, cells := mc, slots := ms, locals := lo }
def in_M (l : Launch) (y : MethodName) (cc : ByteArray) (nL fr lo mc ms : Nat) (D : va_G) (cI cC cS : ClassId) (As : List Value) (w0 : va_W) (out : (Nat → Nat) → va_W) : Prop :=
  ∀ sz, Met l y (.code y cc nL none :: fg_TW) (in_rm fr lo mc ms) (va_Pc As (in_Pre D cI cC cS w0 sz)) (in_Q D cI cC cS out (va_A w0 sz)) mc ms (va_A w0 sz)
theorem in_M.of {l : Launch} {y : MethodName} {cc : ByteArray} {nL fr lo mc ms : Nat} {D : va_G} {cI cC cS : ClassId} {As : List Value} {w0 : va_W} {out : (Nat → Nat) → va_W} (hy : plainName y.cls = true) (hn : (lg_sl As).length ≤ nL)
    (body : ∀ (p : Program) (e : Env) (s : State) (m : MethodId) (below : List Frame) (meth : Method) (c : Code) (ls : Array Slot) (A : Nat → Prop), CallFix p m c cc nL s As.toArray fg_TW y.cls → meth.sig.returnType = none → meth.locks = false → meth.name = y.name → va_K D vwCl (in_T cI cC cS) s → in_N s → in_H D A s.heap w0 s.heap [] → lv_has ls nL (lv_args 0 As) →
      W p l e (in_rm fr lo mc ms) s m As.toArray below meth c s.heap [] 0 0 (MQ below (in_Q D cI cC cS out A) As.toArray s mc ms A) (F0 m 0 ls [])) : in_M l y cc nL fr lo mc ms D cI cC cS As w0 out := by
  intro sz
  refine Met.ofW (cc := cc) (maxL := nL) (ret := none) hy rfl ?_
  intro p e s m args below meth c s₁ B hml hv
  obtain ⟨rfl, hsz, hP, hK, hD0, hN⟩ := hv
  subst hsz
  have hts0 := atoms_spec (ws := .code y cc nL none :: fg_TW) B.pre
  have hown : s.vm.findClass y.cls = some m.cls := findClass_of_methodNamed B.named
  have hl := lv_entry As (n := nL) hn
  rw [lg_entry_eq]
  exact body p e s m below meth c _ (va_A w0 s.heap.size) ⟨B.exec, B.bytes, hml, hown, fun w hw => hts0 w (List.mem_cons_of_mem _ hw)⟩ B.returns B.notSynchronized (name_of_methodNamed B.named B.method).1 hK hN ⟨hP, hD0.self, va_S.rf, fun q h => Or.inr h⟩ hl
theorem in_joinL {A : Nat → Prop} {D : va_G} {cl : List vw_C} {wr wc w1 : va_W} {H H1 : Heap} (hP : va_P D cl (wr ++ wc) H) (hD : va_D A (wr ++ wc)) (hk : ∀ x : Nat, x < H.size → ¬ va_A wc H.size x → H1[x]? = H[x]?) (hF : ∀ x, va_A wc H.size x → A x) (hP1 : va_P D cl w1 H1) (hD1 : va_D (va_A wc H.size) w1) : va_P D cl (wr ++ w1) H1 ∧ va_D A (wr ++ w1) := by
  have lk : ∀ (k : Nat) (x : Nat × va_E), wr[k]? = some x → (wr ++ wc)[k]? = some x := fun k x hx => by
    rw [List.getElem?_append_left (List.getElem?_eq_some_iff.mp hx).1]; exact hx
  have rk : ∀ (k : Nat) (x : Nat × va_E), wc[k]? = some x → (wr ++ wc)[wr.length + k]? = some x := fun k x hx => by
    rw [List.getElem?_append_right (Nat.le_add_right _ _), Nat.add_sub_cancel_left]; exact hx
  have apart : ∀ (k : Nat) (x : Nat × va_E), wr[k]? = some x → x.1 < H.size ∧ ¬ va_A wc H.size x.1 := by
    intro k x hx
    have hl := (hP k x (lk k x hx)).lt
    refine ⟨hl, fun h => ?_⟩
    rcases h with ⟨k2, e, h⟩ | h
    · have h1 := hD.1 k (wr.length + k2) x (x.1, e) (lk k x hx) (rk k2 _ h) rfl
      have h2 := (List.getElem?_eq_some_iff.mp hx).1
      omega
    · omega
  refine ⟨va_P.app (fun k x hx => (hP k x (lk k x hx)).kept (hk x.1 (apart k x hx).1 (apart k x hx).2)) hP1, va_D.app ⟨fun i j x y hx hy e => hD.1 i j x y (lk i x hx) (lk j y hy) e, fun k x hx => hD.2 k x (lk k x hx)⟩ (hD1.weaken (fun k x _ h => hF x.1 h)) (fun i j x y hx hy e => ?_)⟩
  exact (apart i x hx).2 (by rw [e]; exact hD1.2 j y hy)
theorem in_joinF {A : Nat → Prop} {D : va_G} {cl : List vw_C} {wr wc w1 : va_W} {H H1 : Heap} (hP : va_P D cl (wc ++ wr) H) (hD : va_D A (wc ++ wr)) (hk : ∀ x : Nat, x < H.size → ¬ va_A wc H.size x → H1[x]? = H[x]?) (hF : ∀ x, va_A wc H.size x → A x) (hP1 : va_P D cl w1 H1) (hD1 : va_D (va_A wc H.size) w1) : va_P D cl (w1 ++ wr) H1 ∧ va_D A (w1 ++ wr) := by
  have lk : ∀ (k : Nat) (x : Nat × va_E), wc[k]? = some x → (wc ++ wr)[k]? = some x := fun k x hx => by
    rw [List.getElem?_append_left (List.getElem?_eq_some_iff.mp hx).1]; exact hx
  have rk : ∀ (k : Nat) (x : Nat × va_E), wr[k]? = some x → (wc ++ wr)[wc.length + k]? = some x := fun k x hx => by
    rw [List.getElem?_append_right (Nat.le_add_right _ _), Nat.add_sub_cancel_left]; exact hx
  have apart : ∀ (k : Nat) (x : Nat × va_E), wr[k]? = some x → x.1 < H.size ∧ ¬ va_A wc H.size x.1 := by
    intro k x hx
    have hl := (hP _ x (rk k x hx)).lt
    refine ⟨hl, fun h => ?_⟩
    rcases h with ⟨k2, e, h⟩ | h
    · have h1 := hD.1 (wc.length + k) k2 x (x.1, e) (rk k x hx) (lk k2 _ h) rfl
      have h2 := (List.getElem?_eq_some_iff.mp h).1
      omega
    · omega
  refine ⟨va_P.app hP1 (fun k x hx => (hP _ x (rk k x hx)).kept (hk x.1 (apart k x hx).1 (apart k x hx).2)), va_D.app (hD1.weaken (fun k x _ h => hF x.1 h)) ⟨fun i j x y hx hy e => ?_, fun k x hx => hD.2 _ x (rk k x hx)⟩ (fun i j x y hx hy e => ?_)⟩
  · have h3 := hD.1 _ _ x y (rk i x hx) (rk j y hy) e
    omega
  · exact (apart j y hy).2 (by rw [← e]; exact hD1.2 i x hx)
section INI
variable {p : Program} {l : Launch} {e : Env} {R : Room} {s : State} {m : MethodId} {args : Array Value} {below : List Frame} {meth : Method} {c : Code} {H : Heap} {locs : List Loc} {cells slots : Nat} {Q : State → Prop}
variable {cc : ByteArray} {pc : Nat} {ls : Array Slot} {rest : List Value} {D : va_G} {A : Nat → Prop} {H0 : Heap} {ws : va_W} {own : String} {nL : Nat} {cI cC cS : ClassId}
theorem in_newI (S : CallFix p m c cc nL s args fg_TW own) (hK : va_K D vwCl (in_T cI cC cS) s) (h : in_H D A H0 ws H locs) {n : Int32} (N : Nat) (hn : ¬ n < 0) (hN : n.toNatClampNeg = N) (hbytes : N * 4 ≤ 536870912) (hcells : cells + 1 ≤ R.cells) (hslots : slots + N ≤ R.slots) (hdg : decode cc pc = .ok (.newarray .int, 2))
    (kk : ∀ (q : Nat) (H1 : Heap), in_H D A H0 (ws ++ [(q, .inl (cI, N, .inl (in_L (List.replicate N 0))))]) H1 locs → W p l e R s m args below meth c H1 locs (cells + 1) (slots + N) Q (F0 m (pc + 2) ls (.ref q :: rest))) : W p l e R s m args below meth c H locs cells slots Q (F0 m pc ls (.int n :: rest)) := by
  refine va_newa (atype := .int) (ty := .int) (a0 := (N, .inl (in_L (List.replicate N 0)))) S.1 S.2.1 (S.2.2.2.2 _ vx_int) rfl hK h.1 h.2.1 h.2.2.1 h.2.2.2 (fun cA => ?_) hn hN hbytes hcells hslots hdg (fun q cA H1 hK1 hP1 hD1 hS1 => ?_)
  · rw [in_L_rep]; rfl
  · have e1 := va_nm_int (hK1.2 3 (cA, .int) rfl).2
    have e2 := va_nm_int (hK.2 0 (cI, .int) rfl).2
    obtain rfl : cA = cI := Option.some.inj (e1.symm.trans e2)
    exact kk q H1 ⟨hP1, hD1, hS1, h.2.2.2⟩
theorem in_newC (S : CallFix p m c cc nL s args fg_TW own) (hK : va_K D vwCl (in_T cI cC cS) s) (h : in_H D A H0 ws H locs) {n : Int32} (N : Nat) (hn : ¬ n < 0) (hN : n.toNatClampNeg = N) (hbytes : N * 2 ≤ 536870912) (hcells : cells + 1 ≤ R.cells) (hslots : slots + N ≤ R.slots) (hdg : decode cc pc = .ok (.newarray .char, 2))
    (kk : ∀ (q : Nat) (H1 : Heap), in_H D A H0 (ws ++ [(q, .inl (cC, N, .inl (in_L (List.replicate N 0))))]) H1 locs → W p l e R s m args below meth c H1 locs (cells + 1) (slots + N) Q (F0 m (pc + 2) ls (.ref q :: rest))) : W p l e R s m args below meth c H locs cells slots Q (F0 m pc ls (.int n :: rest)) := by
  refine va_newa (atype := .char) (ty := .char) (a0 := (N, .inl (in_L (List.replicate N 0)))) S.1 S.2.1 (S.2.2.2.2 _ vx_char) rfl hK h.1 h.2.1 h.2.2.1 h.2.2.2 (fun cA => ?_) hn hN hbytes hcells hslots hdg (fun q cA H1 hK1 hP1 hD1 hS1 => ?_)
  · rw [in_L_rep]; rfl
  · have e1 := va_nm_char (hK1.2 3 (cA, .char) rfl).2
    have e2 := va_nm_char (hK.2 1 (cC, .char) rfl).2
    obtain rfl : cA = cC := Option.some.inj (e1.symm.trans e2)
    exact kk q H1 ⟨hP1, hD1, hS1, h.2.2.2⟩
theorem in_newS (S : CallFix p m c cc nL s args fg_TW own) (hK : va_K D vwCl (in_T cI cC cS) s) (hN0 : in_N s) (h : in_H D A H0 ws H locs) {index : Nat} (hcl : Cond.classLink own index "FogLots$Sheet" ∈ fg_TW) {n : Int32} (N : Nat) (hn : ¬ n < 0) (hN : n.toNatClampNeg = N) (hbytes : N * 4 ≤ 536870912) (hcells : cells + 1 ≤ R.cells) (hslots : slots + N ≤ R.slots) (hdg : decode cc pc = .ok (.anewarray index, 3))
    (kk : ∀ (q : Nat) (H1 : Heap), in_H D A H0 (ws ++ [(q, .inl (cS, N, .inr (.inr (.inr (.inr (fun _ => none))))))]) H1 locs → W p l e R s m args below meth c H1 locs (cells + 1) (slots + N) Q (F0 m (pc + 3) ls (.ref q :: rest))) : W p l e R s m args below meth c H locs cells slots Q (F0 m pc ls (.int n :: rest)) := by
  refine va_newq S.1 S.2.1 S.2.2.2.1 (S.2.2.2.2 _ hcl) hN0.2.2 hK h.1 h.2.1 h.2.2.1 h.2.2.2 hn hN hbytes hcells hslots hdg (fun q cA H1 hK1 hP1 hD1 hS1 => ?_)
  obtain ⟨-, -, -, -, -, e1⟩ := (hK1.2 3 (cA, .object "FogLots$Sheet") rfl).2
  obtain ⟨-, -, -, -, -, e2⟩ := (hK.2 2 (cS, .object "FogLots$Sheet") rfl).2
  obtain rfl : cA = cS := Option.some.inj (e1.symm.trans e2)
  exact kk q H1 ⟨hP1, hD1, hS1, h.2.2.2⟩
theorem in_new {C : String} {T : u_T} {N ci index : Nat} (S : CallFix p m c cc nL s args fg_TW own) (hin : ∀ w ∈ u_ws C T N, w ∈ fg_TW) (ty : Nat → FieldType) (hty : ∀ k, k < N → parseFieldDescriptor (T k).2.2.1 = some (ty k)) (hcl : Cond.classLink own index C ∈ fg_TW) (hinst : Cond.instantiable C N ∈ fg_TW) (hini : Cond.initialized C ∈ fg_TW) (hK : va_K D vwCl (in_T cI cC cS) s) (h : in_H D A H0 ws H locs) (hc : vwCl[ci]? = some (C, T, N)) {fs : List Value} (hfs : ∀ j, j < N → defaultValue (ty j) = vp_V fs j) (hcells : cells + 1 ≤ R.cells) (hslots : slots + N ≤ R.slots) (hdg : decode cc pc = .ok (.new index, 3))
    (kk : ∀ (q : Nat) (H1 : Heap), in_H D A H0 (ws ++ [(q, .inr (ci, fs))]) H1 locs → W p l e R s m args below meth c H1 locs (cells + 1) (slots + N) Q (F0 m (pc + 3) ls (.ref q :: rest))) : W p l e R s m args below meth c H locs cells slots Q (F0 m pc ls rest) :=
  va_new S.1 S.2.1 S.2.2.2.2 hin ty hty S.2.2.2.1 (S.2.2.2.2 _ hcl) (S.2.2.2.2 _ hinst) (S.2.2.2.2 _ hini) hK h.1 h.2.1 h.2.2.1 h.2.2.2 hc hfs hcells hslots hdg (fun q H1 hP1 hD1 hS1 => kk q H1 ⟨hP1, hD1, hS1, h.2.2.2⟩)
theorem in_put {C : String} {T : u_T} {N ci index a : Nat} {ref : String} (S : CallFix p m c cc nL s args fg_TW own) (hin : ∀ w ∈ u_ws C T N, w ∈ fg_TW) (ty0 : Nat → FieldType) (hty : ∀ k, k < N → parseFieldDescriptor (T k).2.2.1 = some (ty0 k)) (hnm : ∀ a, a < N → ∀ b, b < N → a ≠ b → (T a).2.1 ≠ (T b).2.1) (hK : va_K D vwCl (in_T cI cC cS) s) (h : in_H D A H0 ws H locs) (q0 : Nat) {fs : List Value} (he : ws[q0]? = some (a, .inr (ci, fs))) (hc : vwCl[ci]? = some (C, T, N)) (k : Nat) (hk : k < N) (hlink : Cond.fieldLink own index ref (T k).2.1 (T k).2.2.1 ∈ fg_TW) (hsame : (T k).1 = ref) (hfin : (T k).2.2.2 = false) {ty : FieldType} {v : Value} (hd : parseFieldDescriptor (T k).2.2.1 = some ty) (hn : narrow ty v = v) (hfit : fits ty v = true) (hl : k < fs.length) (hdg : decode cc pc = .ok (.putfield index, 3))
    (kk : ∀ (H1 : Heap) (locs1 : List Loc), in_H D A H0 (ws.set q0 (a, .inr (ci, fs.set k v))) H1 locs1 → W p l e R s m args below meth c H1 locs1 cells slots Q (F0 m (pc + 3) ls rest)) : W p l e R s m args below meth c H locs cells slots Q (F0 m pc ls (v :: .ref a :: rest)) :=
  va_put S.1 S.2.1 S.2.2.2.2 hin ty0 hty hnm S.2.2.2.1 hK h.1 h.2.1 h.2.2.1 q0 he hc k hk (S.2.2.2.2 _ hlink) (fun x hx => by rw [← hsame]; exact hx) hfin hd hn hfit hl hdg (fun H1 locs1 hP1 hD1 hS1 => kk H1 locs1 ⟨hP1, hD1, hS1, h.2.2.2⟩)
theorem in_putF {C : String} {T : u_T} {N ci index a : Nat} {ref : String} (S : CallFix p m c cc nL s args fg_TW own) (hin : ∀ w ∈ u_ws C T N, w ∈ fg_TW) (ty0 : Nat → FieldType) (hty : ∀ k, k < N → parseFieldDescriptor (T k).2.2.1 = some (ty0 k)) (hnm : ∀ a, a < N → ∀ b, b < N → a ≠ b → (T a).2.1 ≠ (T b).2.1) (hK : va_K D vwCl (in_T cI cC cS) s) (h : in_H D A H0 ws H locs) (q0 : Nat) {fs : List Value} (he : ws[q0]? = some (a, .inr (ci, fs))) (hc : vwCl[ci]? = some (C, T, N)) (k : Nat) (hk : k < N) (hlink : Cond.fieldLink own index ref (T k).2.1 (T k).2.2.1 ∈ fg_TW) (hsame : (T k).1 = ref) (hfin : (T k).2.2.2 = true) (hin2 : meth.name = "<init>") (hdecl : (T k).1 = own) {ty : FieldType} {v : Value} (hd : parseFieldDescriptor (T k).2.2.1 = some ty) (hn : narrow ty v = v) (hfit : fits ty v = true) (hl : k < fs.length) (hdg : decode cc pc = .ok (.putfield index, 3))
    (kk : ∀ (H1 : Heap) (locs1 : List Loc), in_H D A H0 (ws.set q0 (a, .inr (ci, fs.set k v))) H1 locs1 → W p l e R s m args below meth c H1 locs1 cells slots Q (F0 m (pc + 3) ls rest)) : W p l e R s m args below meth c H locs cells slots Q (F0 m pc ls (v :: .ref a :: rest)) :=
  va_putF S.1 S.2.1 S.2.2.2.2 hin ty0 hty hnm S.2.2.2.1 hK h.1 h.2.1 h.2.2.1 q0 he hc k hk (S.2.2.2.2 _ hlink) (fun x hx => by rw [← hsame]; exact hx) hfin hin2 hdecl hd hn hfit hl hdg (fun H1 locs1 hP1 hD1 hS1 => kk H1 locs1 ⟨hP1, hD1, hS1, h.2.2.2⟩)
theorem in_get {C : String} {T : u_T} {N ci index a : Nat} {ref : String} (S : CallFix p m c cc nL s args fg_TW own) (hin : ∀ w ∈ u_ws C T N, w ∈ fg_TW) (hK : va_K D vwCl (in_T cI cC cS) s) (h : in_H D A H0 ws H locs) (q0 : Nat) {fs : List Value} (he : ws[q0]? = some (a, .inr (ci, fs))) (hc : vwCl[ci]? = some (C, T, N)) (k : Nat) (hk : k < N) (hlink : Cond.fieldLink own index ref (T k).2.1 (T k).2.2.1 ∈ fg_TW) (hsame : (T k).1 = ref) {v : Value} (hv : fs[k]? = some v) (hdg : decode cc pc = .ok (.getfield index, 3))
    (kk : W p l e R s m args below meth c H locs cells slots Q (F0 m (pc + 3) ls (v :: rest))) : W p l e R s m args below meth c H locs cells slots Q (F0 m pc ls (.ref a :: rest)) :=
  va_get S.1 S.2.1 S.2.2.2.2 hin S.2.2.2.1 hK h.1 q0 he hc k hk (S.2.2.2.2 _ hlink) (fun x hx => by rw [← hsame]; exact hx) hv hdg kk
theorem in_iast (S : CallFix p m c cc nL s args fg_TW own) (hK : va_K D vwCl (in_T cI cC cS) s) (h : in_H D A H0 ws H locs) (q0 : Nat) {a n k : Nat} {L : List Int32} (ha : ws[q0]? = some (a, .inl (cI, n, .inl (in_L L)))) {i x : Int32} (hin : ¬ (i < 0 ∨ n ≤ i.toNatClampNeg)) (hk : i.toNatClampNeg = k) (hL : k < L.length) (hdg : decode cc pc = .ok (.iastore, 1))
    (kk : ∀ (H1 : Heap) (locs1 : List Loc), in_H D A H0 (ws.set q0 (a, .inl (cI, n, .inl (in_L (L.set k x))))) H1 locs1 → W p l e R s m args below meth c H1 locs1 cells slots Q (F0 m (pc + 1) ls rest)) : W p l e R s m args below meth c H locs cells slots Q (F0 m pc ls (.int x :: .int i :: .ref a :: rest)) := by
  subst hk
  refine va_iast S.1 S.2.1 hK h.1 h.2.1 h.2.2.1 q0 0 ha rfl hin hdg (fun H1 locs1 hP1 hD1 hS1 => ?_)
  rw [in_L_set hL] at hP1 hD1
  exact kk H1 locs1 ⟨hP1, hD1, hS1, h.2.2.2⟩
/-- a char into the row that was made last -/
theorem in_cast (S : CallFix p m c cc nL s args fg_TW own) (hK : va_K D vwCl (in_T cI cC cS) s) {a n k : Nat} {L : List Int32} (h : in_H D A H0 (ws ++ [(a, .inl (cC, n, .inl (in_L L)))]) H locs) {i x : Int32} (hin : ¬ (i < 0 ∨ n ≤ i.toNatClampNeg)) (hk : i.toNatClampNeg = k) (hL : k < L.length) (hx : vp_nar .char x = x) (hdg : decode cc pc = .ok (.castore, 1))
    (kk : ∀ (H1 : Heap) (locs1 : List Loc), in_H D A H0 (ws ++ [(a, .inl (cC, n, .inl (in_L (L.set k x))))]) H1 locs1 → W p l e R s m args below meth c H1 locs1 cells slots Q (F0 m (pc + 1) ls rest)) : W p l e R s m args below meth c H locs cells slots Q (F0 m pc ls (.int x :: .int i :: .ref a :: rest)) := by
  subst hk
  have ha : (ws ++ [(a, (.inl (cC, n, .inl (in_L L)) : va_E))])[ws.length]? = some (a, .inl (cC, n, .inl (in_L L))) := by simp
  refine va_cast S.1 S.2.1 hK h.1 h.2.1 h.2.2.1 ws.length 1 ha rfl hin hdg (fun H1 locs1 hP1 hD1 hS1 => ?_)
  rw [hx, in_L_set hL, List.set_append_right _ _ (Nat.le_refl _), Nat.sub_self] at hP1 hD1
  exact kk H1 locs1 ⟨hP1, hD1, hS1, h.2.2.2⟩
theorem in_objInit (S : CallFix p m c cc nL s args fg_TW own) {index a : Nat} (hlink : Cond.methodLink own index objectInit ∈ fg_TW) (hls : ls.size = nL) (hdg : decode cc pc = .ok (.invokespecial index, 3)) (hframes : 1 ≤ R.frames) (hW : (rest.map fun v => v.category).sum ≤ 8) (hlocals : 20 ≤ R.locals)
    (kk : W p l e R s m args below meth c H locs cells slots Q (F0 m (pc + 3) ls rest)) : W p l e R s m args below meth c H locs cells slots Q (F0 m pc ls (.ref a :: rest)) := by
  have h8 := lv_room (m := m) (pc := pc) (ls := ls) (rest := .ref a :: rest) hW
  exact W.objInit S.1 S.2.1 S.2.2.2.1 (S.2.2.2.2 _ hlink) (S.2.2.2.2 _ vx_oi) (S.2.2.2.2 _ vx_oc) rfl (by rw [S.2.2.1]; exact hls) rfl hdg hframes (by omega) kk
theorem in_retv {mc ms : Nat} {out : (Nat → Nat) → va_W} (S : CallFix p m c cc nL s args fg_TW own) (hr : meth.sig.returnType = none) (hlk : meth.locks = false) (hK : va_K D vwCl (in_T cI cC cS) s) (a : Nat → Nat) (h : in_H D A s.heap (out a) H locs) (hc : cells ≤ mc) (hs : slots ≤ ms) (hdg : decode cc pc = .ok (.return_, 1)) : W p l e R s m args below meth c H locs cells slots (MQ below (in_Q D cI cC cS out A) args s mc ms A) (F0 m pc ls []) := by
  refine W.widen (k := mc) (n := ms) hc hs ?_
  exact W.vret S.1 S.2.1 hr (fun t ht hW => ⟨⟨a, rfl, trivial, by rw [ht]; exact h.1, va_K.moved hW.alike hK, h.2.1⟩, h.2.2.1.F ht⟩) h.2.2.1.2.2 hdg hlk
theorem in_pre {As : List Value} (hK : va_K D vwCl (in_T cI cC cS) s) (hN : in_N s) (hP : va_P D vwCl ws H) (hD : va_D A ws) : PreS s H (va_Pc As (in_Pre D cI cC cS ws H.size)) As := by
  refine ⟨fun a U g mk q => ?_, fun U hU hW => ⟨rfl, by rw [hU], by rw [hU]; exact hP, va_K.moved hW.alike hK, hD.weaken (fun _ _ _ _ => trivial), hN.warm hW⟩⟩
  obtain ⟨q0, q1, qP, qK, qD, qN⟩ := q
  exact ⟨q0, q1, qP, va_K.moved (u := U) (U := U.calling g mk a) (Vm.Alike.refl U.vm) qK, qD, qN.calling⟩
theorem in_Dlast {x : Nat × va_E} (hD : va_D A (ws ++ [x])) : va_D A [x] := ⟨fun i j p q hp hq e => by
    have h1 := (List.getElem?_eq_some_iff.mp hp).1
    have h2 := (List.getElem?_eq_some_iff.mp hq).1
    simp at h1 h2
    omega, fun k q hk => by
    have h1 := (List.getElem?_eq_some_iff.mp hk).1
    simp at h1
    subst h1
    cases hk
    exact hD.2 ws.length x (by simp)⟩
theorem in_Plast {x : Nat × va_E} (hP : va_P D vwCl (ws ++ [x]) H) : va_P D vwCl [x] H := fun k q hk => by
    have h1 := (List.getElem?_eq_some_iff.mp hk).1
    simp at h1
    subst h1
    cases hk
    exact hP ws.length x (by simp)
variable {y : MethodName} {bytes : ByteArray} {maxL fr lo mc ms index q : Nat} {w0 : va_E} {out : (Nat → Nat) → va_W} {st0 : List Value}
/-- behind a constructor's call -/
theorem in_callv {a0 : Array Value} (h : in_H D A s.heap (ws ++ [(q, w0)]) H locs) (hr : va_Run p l e R s m args below meth c H locs cells slots mc ms (F0 m pc ls st0) rest (in_Q D cI cC cS out (va_A [(q, w0)] H.size) a0) (va_A [(q, w0)] H.size))
    (kk : ∀ (a : Nat → Nat) (H1 : Heap) (locs1 : List Loc), in_H D A s.heap (ws ++ out a) H1 locs1 → W p l e R s m args below meth c H1 locs1 (cells + mc) (slots + ms) Q (F0 m (pc + 3) ls rest)) : W p l e R s m args below meth c H locs cells slots Q (F0 m pc ls st0) := by
  have hF : ∀ x, va_A [(q, w0)] H.size x → A x := fun x hx => by
    rcases hx with ⟨k, e, hx⟩ | hx
    · exact (in_Dlast h.2.1).2 k (x, e) hx
    · exact h.2.2.2 x (Nat.le_trans h.2.2.1.1 hx)
  refine va_callv hr h.2.2.1 (fun x _ hx => hF x hx) hF (fun a t H1 locs1 ht hvm hw hB hz hk hS1 => ?_)
  obtain ⟨hP1, hK1, hD1⟩ := hB
  rw [ht] at hP1
  obtain ⟨g1, g2⟩ := in_joinL h.1 h.2.1 hk hF hP1 hD1
  exact kk a H1 locs1 ⟨g1, g2, hS1, h.2.2.2⟩
theorem in_callI (S : CallFix p m c cc nL s args fg_TW own) (hK : va_K D vwCl (in_T cI cC cS) s) (hN : in_N s) (h : in_H D A s.heap (ws ++ [(q, w0)]) H locs) (hM : in_M l y bytes maxL fr lo mc ms D cI cC cS [.ref q] [(q, w0)] out) (hcode : Cond.code y bytes maxL none ∈ fg_TW) (hlk : Cond.methodLink own index y ∈ fg_TW) (hinst : Cond.instanceMethod y ∈ fg_TW) (hini : Cond.initialized y.cls ∈ fg_TW) (hnm : y.name = "<init>") (hd : y.cls ≠ "java/lang/invoke/MethodHandle" ∧ y.cls ≠ "java/lang/invoke/VarHandle" ∧ (parseMethodDescriptor y.desc).map (fun d => d.parameters.length) = some 0) (hR : fr + 1 ≤ R.frames ∧ 8 + (maxL + 11) + lo ≤ R.locals) (hl : ls.size = nL) (hst : st0 = .ref q :: rest) (hW : (rest.map fun v => v.category).sum ≤ 8) (hz : cells + mc ≤ R.cells ∧ slots + ms ≤ R.slots) (hdg : decode cc pc = .ok (.invokespecial index, 3))
    (kk : ∀ (a : Nat → Nat) (H1 : Heap) (locs1 : List Loc), in_H D A s.heap (ws ++ out a) H1 locs1 → W p l e R s m args below meth c H1 locs1 (cells + mc) (slots + ms) Q (F0 m (pc + 3) ls rest)) : W p l e R s m args below meth c H locs cells slots Q (F0 m pc ls st0) :=
  in_callv (cI := cI) (cC := cC) (cS := cS) h (va_runI (As := []) (rest := rest) S (hM H.size) ⟨callB_of 0 S.2.2.2.2 (fg_gC hcode) rfl rfl rfl (S.2.2.2.2 _ hini) (S.2.2.2.2 _ hlk) hd hR, hnm, S.2.2.2.2 _ hinst⟩ (in_pre hK hN (in_Plast h.1) (in_Dlast h.2.1)) rfl rfl hl hst (lv_room hW) hdg hz) kk
theorem in_callIN {host : String} (S : CallFix p m c cc nL s args fg_TW own) (hK : va_K D vwCl (in_T cI cC cS) s) (hN : in_N s) (h : in_H D A s.heap (ws ++ [(q, w0)]) H locs) (hM : in_M l y bytes maxL fr lo mc ms D cI cC cS [.ref q] [(q, w0)] out) (hcode : Cond.code y bytes maxL none ∈ fg_TW) (hlk : va_Nw (.methodLinkNest own index y host) s) (hinst : Cond.instanceMethod y ∈ fg_TW) (hini : Cond.initialized y.cls ∈ fg_TW) (hnm : y.name = "<init>") (hd : y.cls ≠ "java/lang/invoke/MethodHandle" ∧ y.cls ≠ "java/lang/invoke/VarHandle" ∧ (parseMethodDescriptor y.desc).map (fun d => d.parameters.length) = some 0) (hR : fr + 1 ≤ R.frames ∧ 8 + (maxL + 11) + lo ≤ R.locals) (hl : ls.size = nL) (hst : st0 = .ref q :: rest) (hW : (rest.map fun v => v.category).sum ≤ 8) (hz : cells + mc ≤ R.cells ∧ slots + ms ≤ R.slots) (hdg : decode cc pc = .ok (.invokespecial index, 3))
    (kk : ∀ (a : Nat → Nat) (H1 : Heap) (locs1 : List Loc), in_H D A s.heap (ws ++ out a) H1 locs1 → W p l e R s m args below meth c H1 locs1 (cells + mc) (slots + ms) Q (F0 m (pc + 3) ls rest)) : W p l e R s m args below meth c H locs cells slots Q (F0 m pc ls st0) :=
  in_callv (cI := cI) (cC := cC) (cS := cS) h (va_runIN (As := []) (rest := rest) S (hM H.size) ⟨va_cnB 0 S.2.2.2.2 (fg_gC hcode) rfl rfl rfl hlk (S.2.2.2.2 _ hini) hd hR, hnm, S.2.2.2.2 _ hinst⟩ (in_pre hK hN (in_Plast h.1) (in_Dlast h.2.1)) rfl rfl hl hst (lv_room hW) hdg hz) kk
end INI
