/-! A WORLD: n cells at addresses ad 0 .. ad (n-1); what the k-th holds is a function of a row of numbers, M k. Memory M : cell, place -> number. -/
abbrev Mem : Type := Nat → Nat → Int32
/-- the memory with another number at (k, r) -/
def up (M : Mem) (k r : Nat) (v : Int32) : Mem := fun k' => if k' = k then upd (M k) r v else M k'
theorem up_k (M : Mem) (k r : Nat) (v : Int32) : up M k r v k = upd (M k) r v := by simp [up]
theorem up_n {M : Mem} {k r k' : Nat} {v : Int32} (h : k' ≠ k) : up M k r v k' = M k' := by simp [up, h]
theorem up_s (M : Mem) (k r : Nat) (v : Int32) : up M k r v k r = v := by simp [up, upd]
theorem up_e (M : Mem) (k r : Nat) (v : Int32) (k' r' : Nat) : up M k r v k' r' = if k' = k ∧ r' = r then v else M k' r' := by
  unfold up upd
  by_cases h : k' = k
  · subst h
    by_cases h2 : r' = r <;> simp [h2]
  · simp [h]
/-- how a world is made: the classes' numbers, how many cells, their addresses, what each is, the array classes -/
abbrev WS : Type := va_G × Nat × (Nat → Nat) × (Nat → (Nat → Int32) → va_E) × List (ClassId × FieldType)
abbrev wD (O : WS) : va_G := O.1
abbrev wn (O : WS) : Nat := O.2.1
abbrev wa (O : WS) : Nat → Nat := O.2.2.1
abbrev wE (O : WS) : Nat → (Nat → Int32) → va_E := O.2.2.2.1
abbrev wt (O : WS) : List (ClassId × FieldType) := O.2.2.2.2
def wd (O : WS) (M : Mem) : va_W := (List.range (wn O)).map (fun k => (wa O k, wE O k (M k)))
/-- the addresses are apart -/
def wj (O : WS) : Prop := ∀ i j, i < wn O → j < wn O → wa O i = wa O j → i = j
/-- the world's cells, and all from sz on -/
def wA (O : WS) (sz : Nat) : Nat → Prop := fun q => (∃ k, k < wn O ∧ q = wa O k) ∨ sz ≤ q
theorem wd_at {O : WS} {M : Mem} {k : Nat} (h : k < wn O) : (wd O M)[k]? = some (wa O k, wE O k (M k)) := by
  simp [wd, h]
theorem wd_at' {O : WS} {M : Mem} {k : Nat} {q : Nat × va_E} (h : (wd O M)[k]? = some q) : k < wn O ∧ q = (wa O k, wE O k (M k)) := by
  by_cases hk : k < wn O
  · rw [wd_at hk] at h
    exact ⟨hk, (Option.some.inj h).symm⟩
  · exfalso
    have : (wd O M)[k]? = none := by simp [wd]; omega
    rw [this] at h
    cases h
theorem wd_D {O : WS} (hj : wj O) (M : Mem) (sz : Nat) : va_D (wA O sz) (wd O M) := by
  refine ⟨fun i j x y hi hjj hxy => ?_, fun k q hk => ?_⟩
  · obtain ⟨h1, rfl⟩ := wd_at' hi
    obtain ⟨h2, rfl⟩ := wd_at' hjj
    exact hj i j h1 h2 hxy
  · obtain ⟨h1, rfl⟩ := wd_at' hk
    exact Or.inl ⟨k, h1, rfl⟩
theorem wd_set {O : WS} {M : Mem} {k r : Nat} {v : Int32} {e : va_E} (h : k < wn O) (he : e = wE O k (upd (M k) r v)) : (wd O M).set k (wa O k, e) = wd O (up M k r v) := by
  subst he
  apply List.ext_getElem?
  intro i
  by_cases hi : i = k
  · subst hi
    rw [List.getElem?_set_self (by simp [wd]; exact h), wd_at h, up_k]
  · rw [List.getElem?_set_ne (Ne.symm hi)]
    by_cases hn : i < wn O
    · rw [wd_at hn, wd_at hn, up_n hi]
    · have h1 : (wd O M)[i]? = none := by simp [wd]; omega
      have h2 : (wd O (up M k r v))[i]? = none := by simp [wd]; omega
      rw [h1, h2]
theorem wA_up {O : WS} {sz sz' : Nat} (h : sz ≤ sz') {q : Nat} (hq : wA O sz' q) : wA O sz q := by
  rcases hq with h1 | h1
  · exact Or.inl h1
  · exact Or.inr (Nat.le_trans h h1)
/-- what holds at a method's start, and at its end -/
def wp (O : WS) (sz : Nat) (M : Mem) (U : State) : Prop := U.heap.size = sz ∧ va_P (wD O) vwCl (wd O M) U.heap ∧ va_K (wD O) vwCl (wt O) U
def wq (O : WS) (M : Mem) (t : State) : Prop := va_P (wD O) vwCl (wd O M) t.heap ∧ va_K (wD O) vwCl (wt O) t
abbrev wQi (O : WS) (sz : Nat) (v : Int32) (M : Mem) : Array Value → State → Outcome → State → Prop := va_Qi (fun r (_ : Unit) => r = v) (fun _ t => wq O M t) (wA O sz)
abbrev wQv (O : WS) (sz : Nat) (M : Mem) : Array Value → State → Outcome → State → Prop := va_Qv (fun (_ : Unit) => True) (fun _ t => wq O M t) (wA O sz)
abbrev wQq (O : WS) (sz : Nat) (v : Option Nat) (M : Mem) : Array Value → State → Outcome → State → Prop := va_Qq (fun r (_ : Unit) => r = v) (fun _ t => wq O M t) (wA O sz)
theorem wp_blind {O : WS} {sz : Nat} {M : Mem} {av : List Value} : FrameBlind (va_Pc av (wp O sz M)) := by
  intro a U g mk q
  obtain ⟨q0, q1, qP, qK⟩ := q
  exact ⟨q0, q1, qP, va_K.moved (u := U) (U := U.calling g mk a) (Vm.Alike.refl U.vm) qK⟩
section WR
variable {p : Program} {l : Launch} {e : Env} {R : Room} {s : State} {m : MethodId} {args : Array Value} {below : List Frame} {meth : Method} {c : Code} {H : Heap} {locs : List Loc} {cells slots : Nat} {Q : State → Prop}
variable {cc : ByteArray} {pc : Nat} {ls : Array Slot} {rest : List Value} {O : WS} {M : Mem}
/-- a method's body, from its contract's start -/
theorem wd_ofW {y : MethodName} {ws ws' : List Cond} {rm : Room} {Qc : Nat → Array Value → State → Outcome → State → Prop} {mc ms sz maxL : Nat} {ret : Option FieldType} {av : List Value} {lv : List (Nat × Value)}
    (hy : plainName y.cls = true) (hw : ws = Cond.code y cc maxL ret :: ws') (hlen : (lg_sl av).length ≤ maxL) (hlv : lv_args 0 av = lv)
    (body : ∀ (p : Program) (e : Env) (s : State) (m : MethodId) (below : List Frame) (meth : Method) (c : Code) (ls : Array Slot), p.tables.exec = Jvm.exec → c.code = cc → meth.sig.returnType = ret → c.maxLocals = maxL → s.vm.findClass y.cls = some m.cls → (∀ w ∈ ws, w.before av.toArray s = true) → meth.locks = false →
      va_P (wD O) vwCl (wd O M) s.heap → va_K (wD O) vwCl (wt O) s → va_S (wA O s.heap.size) s.heap s.heap [] → lv_has ls maxL lv →
      W p l e rm s m av.toArray below meth c s.heap [] 0 0 (MQ below (Qc s.heap.size) av.toArray s mc ms (wA O s.heap.size)) (F0 m 0 ls [])) :
    Met l y ws rm (va_Pc av (wp O sz M)) (Qc sz) mc ms (wA O sz) := by
  refine Met.ofW (cc := cc) (maxL := maxL) (ret := ret) hy hw ?_
  intro p e s m args below meth c s₁ B hml hv
  obtain ⟨rfl, rfl, hP, hK⟩ := hv
  have hl := lv_entry av (n := maxL) hlen
  rw [lg_entry_eq]
  rw [hlv] at hl
  exact body p e s m below meth c _ B.exec B.bytes B.returns hml (findClass_of_methodNamed B.named) (atoms_spec (ws := ws) B.pre) B.notSynchronized hP hK va_S.rf hl
theorem wd_get (hx : p.tables.exec = Jvm.exec) (hb : c.code = cc) {own ref C : String} {T : u_T} {N ci index k : Nat} {Ts : List Cond} (hts : ∀ w ∈ Ts, w.before args s = true) (hin : ∀ w ∈ u_ws C T N, w ∈ Ts) (hown : s.vm.findClass own = some m.cls) (hK : va_K (wD O) vwCl (wt O) s) (hP : va_P (wD O) vwCl (wd O M) H) (hk : k < wn O) {fs : List Value} (he : wE O k (M k) = .inr (ci, fs)) (hc : vwCl[ci]? = some (C, T, N)) (r : Nat) (hr : r < N) (hlink : (Cond.fieldLink own index ref (T r).2.1 (T r).2.2.1).before args s = true) (hsame : ∀ x, s.fieldFound? (T r).1 (T r).2.1 (T r).2.2.1 = some x → s.fieldFound? ref (T r).2.1 (T r).2.2.1 = some x) {v : Value} (hv : fs[r]? = some v) (hdg : decode cc pc = .ok (.getfield index, 3))
    (kk : W p l e R s m args below meth c H locs cells slots Q (F0 m (pc + 3) ls (v :: rest))) : W p l e R s m args below meth c H locs cells slots Q (F0 m pc ls (.ref (wa O k) :: rest)) :=
  va_get (D := wD O) (ci := ci) (v := v) (C := C) (T := T) (N := N) hx hb hts hin hown hK hP k (by rw [wd_at hk, he]) hc r hr hlink hsame hv hdg kk
theorem wd_put (hj : wj O) (hx : p.tables.exec = Jvm.exec) (hb : c.code = cc) {own ref C : String} {T : u_T} {N ci index k : Nat} {Ts : List Cond} (hts : ∀ w ∈ Ts, w.before args s = true) (hin : ∀ w ∈ u_ws C T N, w ∈ Ts) (ty0 : Nat → FieldType) (hty : ∀ k, k < N → parseFieldDescriptor (T k).2.2.1 = some (ty0 k)) (hnm : ∀ a, a < N → ∀ b, b < N → a ≠ b → (T a).2.1 ≠ (T b).2.1) (hown : s.vm.findClass own = some m.cls) (hK : va_K (wD O) vwCl (wt O) s) (hP : va_P (wD O) vwCl (wd O M) H) (hS : va_S (wA O s.heap.size) s.heap H locs) (hk : k < wn O) {fs : List Value} (he : wE O k (M k) = .inr (ci, fs)) (hc : vwCl[ci]? = some (C, T, N)) (r : Nat) (hr : r < N) (hlink : (Cond.fieldLink own index ref (T r).2.1 (T r).2.2.1).before args s = true) (hsame : ∀ x, s.fieldFound? (T r).1 (T r).2.1 (T r).2.2.1 = some x → s.fieldFound? ref (T r).2.1 (T r).2.2.1 = some x) (hfin : (T r).2.2.2 = false) {ty : FieldType} {v : Int32} (hd : parseFieldDescriptor (T r).2.2.1 = some ty) (hn : narrow ty (.int v) = .int v) (hfit : fits ty (.int v) = true) (hl : r < fs.length)
    (hset : wE O k (upd (M k) r v) = .inr (ci, fs.set r (.int v))) (hdg : decode cc pc = .ok (.putfield index, 3))
    (kk : ∀ (H1 : Heap) (locs1 : List Loc), va_P (wD O) vwCl (wd O (up M k r v)) H1 → va_S (wA O s.heap.size) s.heap H1 locs1 → W p l e R s m args below meth c H1 locs1 cells slots Q (F0 m (pc + 3) ls rest)) : W p l e R s m args below meth c H locs cells slots Q (F0 m pc ls (.int v :: .ref (wa O k) :: rest)) := by
  refine va_put (D := wD O) (ci := ci) (v := .int v) (ty := ty) (C := C) (T := T) (N := N) hx hb hts hin ty0 hty hnm hown hK hP (wd_D hj M _) hS k (by rw [wd_at hk, he]) hc r hr hlink hsame hfin hd hn hfit hl hdg (fun H1 locs1 hP1 _ hS1 => kk H1 locs1 ?_ hS1)
  rw [wd_set hk hset.symm] at hP1
  exact hP1
theorem wd_iald (hx : p.tables.exec = Jvm.exec) (hb : c.code = cc) (hK : va_K (wD O) vwCl (wt O) s) (hP : va_P (wD O) vwCl (wd O M) H) {k i N : Nat} {x : Int32} (hk : k < wn O) (t0 : Nat) {cA : ClassId} (he : wE O k (M k) = .inl (cA, N, .inl (M k))) (ht : (wt O)[t0]? = some (cA, .int)) (hxi : x = nI i) (hi : i < N) (hN : N < 2 ^ 31) (hdg : decode cc pc = .ok (.iaload, 1))
    (kk : W p l e R s m args below meth c H locs cells slots Q (F0 m (pc + 1) ls (.int (M k i) :: rest))) : W p l e R s m args below meth c H locs cells slots Q (F0 m pc ls (.int x :: .ref (wa O k) :: rest)) := by
  subst hxi
  refine va_iald hx hb hK hP k t0 (by rw [wd_at hk, he]) ht (vp_in_nI hi hN) hdg ?_
  rw [nI_clamp (Nat.lt_trans hi hN)]
  exact kk
theorem wd_iast (hj : wj O) (hx : p.tables.exec = Jvm.exec) (hb : c.code = cc) (hK : va_K (wD O) vwCl (wt O) s) (hP : va_P (wD O) vwCl (wd O M) H) (hS : va_S (wA O s.heap.size) s.heap H locs) {k i N : Nat} {x v : Int32} (hk : k < wn O) (t0 : Nat) {cA : ClassId} (he : ∀ g, wE O k g = .inl (cA, N, .inl g)) (ht : (wt O)[t0]? = some (cA, .int)) (hxi : x = nI i) (hi : i < N) (hN : N < 2 ^ 31) (hdg : decode cc pc = .ok (.iastore, 1))
    (kk : ∀ (H1 : Heap) (locs1 : List Loc), va_P (wD O) vwCl (wd O (up M k i v)) H1 → va_S (wA O s.heap.size) s.heap H1 locs1 → W p l e R s m args below meth c H1 locs1 cells slots Q (F0 m (pc + 1) ls rest)) : W p l e R s m args below meth c H locs cells slots Q (F0 m pc ls (.int v :: .int x :: .ref (wa O k) :: rest)) := by
  subst hxi
  refine va_iast hx hb hK hP (wd_D hj M _) hS k t0 (by rw [wd_at hk, he]) ht (vp_in_nI hi hN) hdg (fun H1 locs1 hP1 _ hS1 => kk H1 locs1 ?_ hS1)
  rw [nI_clamp (Nat.lt_trans hi hN), wd_set hk (he _).symm] at hP1
  exact hP1
theorem wd_zald (hx : p.tables.exec = Jvm.exec) (hb : c.code = cc) (hK : va_K (wD O) vwCl (wt O) s) (hP : va_P (wD O) vwCl (wd O M) H) {k i N : Nat} {x : Int32} (hk : k < wn O) (t0 : Nat) {cA : ClassId} (he : wE O k (M k) = .inl (cA, N, .inl (M k))) (ht : (wt O)[t0]? = some (cA, .boolean)) (hxi : x = nI i) (hi : i < N) (hN : N < 2 ^ 31) (hdg : decode cc pc = .ok (.baload, 1))
    (kk : W p l e R s m args below meth c H locs cells slots Q (F0 m (pc + 1) ls (.int (M k i) :: rest))) : W p l e R s m args below meth c H locs cells slots Q (F0 m pc ls (.int x :: .ref (wa O k) :: rest)) := by
  subst hxi
  refine va_zald hx hb hK hP k t0 (by rw [wd_at hk, he]) ht (vp_in_nI hi hN) hdg ?_
  rw [nI_clamp (Nat.lt_trans hi hN)]
  exact kk
theorem wd_zast (hj : wj O) (hx : p.tables.exec = Jvm.exec) (hb : c.code = cc) (hK : va_K (wD O) vwCl (wt O) s) (hP : va_P (wD O) vwCl (wd O M) H) (hS : va_S (wA O s.heap.size) s.heap H locs) {k i N : Nat} {x v : Int32} (hk : k < wn O) (t0 : Nat) {cA : ClassId} (he : ∀ g, wE O k g = .inl (cA, N, .inl g)) (ht : (wt O)[t0]? = some (cA, .boolean)) (hxi : x = nI i) (hi : i < N) (hN : N < 2 ^ 31) (hv : vp_nar .boolean v = v) (hdg : decode cc pc = .ok (.bastore, 1))
    (kk : ∀ (H1 : Heap) (locs1 : List Loc), va_P (wD O) vwCl (wd O (up M k i v)) H1 → va_S (wA O s.heap.size) s.heap H1 locs1 → W p l e R s m args below meth c H1 locs1 cells slots Q (F0 m (pc + 1) ls rest)) : W p l e R s m args below meth c H locs cells slots Q (F0 m pc ls (.int v :: .int x :: .ref (wa O k) :: rest)) := by
  subst hxi
  refine va_zast hx hb hK hP (wd_D hj M _) hS k t0 (by rw [wd_at hk, he]) ht (vp_in_nI hi hN) hdg (fun H1 locs1 hP1 _ hS1 => kk H1 locs1 ?_ hS1)
  rw [nI_clamp (Nat.lt_trans hi hN), hv, wd_set hk (he _).symm] at hP1
  exact hP1
theorem wd_aald (hx : p.tables.exec = Jvm.exec) (hb : c.code = cc) (hK : va_K (wD O) vwCl (wt O) s) (hP : va_P (wD O) vwCl (wd O M) H) {k i N b : Nat} {x : Int32} (hk : k < wn O) (t0 : Nat) {cA : ClassId} {C : String} {F : Nat → Option Nat} (he : wE O k (M k) = .inl (cA, N, .inr (.inr (.inr (.inr F))))) (ht : (wt O)[t0]? = some (cA, .object C)) (hxi : x = nI i) (hi : i < N) (hN : N < 2 ^ 31) (hF : F i = some b) (hdg : decode cc pc = .ok (.aaload, 1))
    (kk : W p l e R s m args below meth c H locs cells slots Q (F0 m (pc + 1) ls (.ref b :: rest))) : W p l e R s m args below meth c H locs cells slots Q (F0 m pc ls (.int x :: .ref (wa O k) :: rest)) := by
  subst hxi
  refine va_aldq hx hb hK hP k t0 (by rw [wd_at hk, he]) ht (vp_in_nI hi hN) hdg ?_
  rw [nI_clamp (Nat.lt_trans hi hN), hF]
  exact kk
theorem wd_alen (hx : p.tables.exec = Jvm.exec) (hb : c.code = cc) (hK : va_K (wD O) vwCl (wt O) s) (hP : va_P (wD O) vwCl (wd O M) H) {k : Nat} (hk : k < wn O) (t0 : Nat) {cA : ClassId} {a : vp_A} {ty : FieldType} (he : wE O k (M k) = .inl (cA, a)) (ht : (wt O)[t0]? = some (cA, ty)) {v : Int32} (hv : Int32.ofNat a.1 = v) (hdg : decode cc pc = .ok (.arraylength, 1))
    (kk : W p l e R s m args below meth c H locs cells slots Q (F0 m (pc + 1) ls (.int v :: rest))) : W p l e R s m args below meth c H locs cells slots Q (F0 m pc ls (.ref (wa O k) :: rest)) :=
  va_alen hx hb hK hP k t0 (by rw [wd_at hk, he]) ht hv hdg kk
/-- another word for the number on top -/
theorem wd_re {x y : Int32} (h : x = y) (k : W p l e R s m args below meth c H locs cells slots Q (F0 m pc ls (.int y :: rest))) : W p l e R s m args below meth c H locs cells slots Q (F0 m pc ls (.int x :: rest)) := h ▸ k
/-- ends -/
theorem wd_iret (hx : p.tables.exec = Jvm.exec) (hb : c.code = cc) {ty : FieldType} (hr : meth.sig.returnType = some ty) (hlocks : meth.locks = false) (hK : va_K (wD O) vwCl (wt O) s) (hP : va_P (wD O) vwCl (wd O M) H) (hS : va_S (wA O s.heap.size) s.heap H locs) {v v' : Int32} {M' : Mem} (hn : narrow ty (.int v) = .int v) (hdg : decode cc pc = .ok (.ireturn, 1)) (hv : v = v') (hM : M = M') :
    W p l e R s m args below meth c H locs cells slots (MQ below (wQi O s.heap.size v' M') args s cells slots (wA O s.heap.size)) (F0 m pc ls [.int v]) := by
  subst hv; subst hM
  exact W.zret (ty := ty) hx hb hr hn (fun t ht hW => ⟨⟨v, (), rfl, rfl, by rw [ht]; exact hP, va_K.moved hW.alike hK⟩, hS.F ht⟩) hS.2.2 hdg hlocks
theorem wd_vret (hx : p.tables.exec = Jvm.exec) (hb : c.code = cc) (hr : meth.sig.returnType = none) (hlocks : meth.locks = false) (hK : va_K (wD O) vwCl (wt O) s) (hP : va_P (wD O) vwCl (wd O M) H) (hS : va_S (wA O s.heap.size) s.heap H locs) {M' : Mem} (hdg : decode cc pc = .ok (.return_, 1)) (hM : M = M') :
    W p l e R s m args below meth c H locs cells slots (MQ below (wQv O s.heap.size M') args s cells slots (wA O s.heap.size)) (F0 m pc ls []) := by
  subst hM
  exact W.vret hx hb hr (fun t ht hW => ⟨⟨(), rfl, trivial, by rw [ht]; exact hP, va_K.moved hW.alike hK⟩, hS.F ht⟩) hS.2.2 hdg hlocks
theorem wd_aret (hx : p.tables.exec = Jvm.exec) (hb : c.code = cc) {C : String} (hr : meth.sig.returnType = some (.object C)) (hlocks : meth.locks = false) (hK : va_K (wD O) vwCl (wt O) s) (hP : va_P (wD O) vwCl (wd O M) H) (hS : va_S (wA O s.heap.size) s.heap H locs) {v : Value} {v' : Option Nat} {M' : Mem} (hdg : decode cc pc = .ok (.areturn, 1)) (hv : v = va_rf v') (hM : M = M') :
    W p l e R s m args below meth c H locs cells slots (MQ below (wQq O s.heap.size v' M') args s cells slots (wA O s.heap.size)) (F0 m pc ls [v]) := by
  subst hM; subst hv
  refine W.aret hx hb hr (Or.inl ⟨C, rfl⟩) ?_ (fun t ht hW => ⟨⟨v', (), rfl, rfl, by rw [ht]; exact hP, va_K.moved hW.alike hK⟩, hS.F ht⟩) hS.2.2 hdg hlocks
  cases v' with
  | none => exact Or.inl rfl
  | some a => exact Or.inr ⟨a, rfl⟩
/-- calls of a method whose world is the caller's -/
theorem wd_pre {C : String} {T : u_T} {N ci k : Nat} {fs : List Value} {As : List Value} (hK : va_K (wD O) vwCl (wt O) s) (hP : va_P (wD O) vwCl (wd O M) H) (hk : k < wn O) (he : wE O k (M k) = .inr (ci, fs)) (hc : vwCl[ci]? = some (C, T, N)) : PreV s H C (wa O k) (va_Pc (.ref (wa O k) :: As) (wp O H.size M)) As :=
  ⟨wp_blind, va_recv hK hP hc (q0 := k) (by rw [wd_at hk, he]), fun U hU hW => ⟨rfl, by rw [hU], by rw [hU]; exact hP, va_K.moved hW.alike hK⟩⟩
theorem wd_preS {As : List Value} (hK : va_K (wD O) vwCl (wt O) s) (hP : va_P (wD O) vwCl (wd O M) H) : PreS s H (va_Pc As (wp O H.size M)) As :=
  ⟨wp_blind, fun U hU hW => ⟨rfl, by rw [hU], by rw [hU]; exact hP, va_K.moved hW.alike hK⟩⟩
theorem wd_sub {q : Nat} (hS : va_S (wA O s.heap.size) s.heap H locs) (h : wA O H.size q) : wA O s.heap.size q := wA_up hS.1 h
variable {st0 : List Value} {mc ms : Nat} {a : Array Value}
theorem wd_ci {v : Int32} {M' : Mem} (hS : va_S (wA O s.heap.size) s.heap H locs) (hr : va_Run p l e R s m args below meth c H locs cells slots mc ms (F0 m pc ls st0) rest (wQi O H.size v M' a) (wA O H.size))
    (kk : ∀ (H1 : Heap) (locs1 : List Loc), va_P (wD O) vwCl (wd O M') H1 → va_S (wA O s.heap.size) s.heap H1 locs1 → W p l e R s m args below meth c H1 locs1 (cells + mc) (slots + ms) Q (F0 m (pc + 3) ls (.int v :: rest))) : W p l e R s m args below meth c H locs cells slots Q (F0 m pc ls st0) := by
  refine va_calli hr hS (fun q _ h => wd_sub hS h) (fun q h => wd_sub hS h) (fun r u t H1 locs1 ht hvm hw hB hz1 hk1 hS1 => ?_)
  obtain ⟨hP1, -⟩ := hB
  rw [ht] at hP1
  subst hw
  exact kk H1 locs1 hP1 hS1
theorem wd_cv {M' : Mem} (hS : va_S (wA O s.heap.size) s.heap H locs) (hr : va_Run p l e R s m args below meth c H locs cells slots mc ms (F0 m pc ls st0) rest (wQv O H.size M' a) (wA O H.size))
    (kk : ∀ (H1 : Heap) (locs1 : List Loc), va_P (wD O) vwCl (wd O M') H1 → va_S (wA O s.heap.size) s.heap H1 locs1 → W p l e R s m args below meth c H1 locs1 (cells + mc) (slots + ms) Q (F0 m (pc + 3) ls rest)) : W p l e R s m args below meth c H locs cells slots Q (F0 m pc ls st0) := by
  refine va_callv hr hS (fun q _ h => wd_sub hS h) (fun q h => wd_sub hS h) (fun u t H1 locs1 ht hvm hw hB hz1 hk1 hS1 => ?_)
  obtain ⟨hP1, -⟩ := hB
  rw [ht] at hP1
  exact kk H1 locs1 hP1 hS1
theorem wd_cq {v : Option Nat} {M' : Mem} (hS : va_S (wA O s.heap.size) s.heap H locs) (hr : va_Run p l e R s m args below meth c H locs cells slots mc ms (F0 m pc ls st0) rest (wQq O H.size v M' a) (wA O H.size))
    (kk : ∀ (H1 : Heap) (locs1 : List Loc), va_P (wD O) vwCl (wd O M') H1 → va_S (wA O s.heap.size) s.heap H1 locs1 → W p l e R s m args below meth c H1 locs1 (cells + mc) (slots + ms) Q (F0 m (pc + 3) ls (va_rf v :: rest))) : W p l e R s m args below meth c H locs cells slots Q (F0 m pc ls st0) := by
  refine va_callq hr hS (fun q _ h => wd_sub hS h) (fun q h => wd_sub hS h) (fun r u t H1 locs1 ht hvm hw hB hz1 hk1 hS1 => ?_)
  obtain ⟨hP1, -⟩ := hB
  rw [ht] at hP1
  subst hw
  exact kk H1 locs1 hP1 hS1
theorem wd_cqs {b : Nat} {M' : Mem} (hS : va_S (wA O s.heap.size) s.heap H locs) (hr : va_Run p l e R s m args below meth c H locs cells slots mc ms (F0 m pc ls st0) rest (wQq O H.size (some b) M' a) (wA O H.size))
    (kk : ∀ (H1 : Heap) (locs1 : List Loc), va_P (wD O) vwCl (wd O M') H1 → va_S (wA O s.heap.size) s.heap H1 locs1 → W p l e R s m args below meth c H1 locs1 (cells + mc) (slots + ms) Q (F0 m (pc + 3) ls (.ref b :: rest))) : W p l e R s m args below meth c H locs cells slots Q (F0 m pc ls st0) := wd_cq hS hr kk
theorem wd_cqn {M' : Mem} (hS : va_S (wA O s.heap.size) s.heap H locs) (hr : va_Run p l e R s m args below meth c H locs cells slots mc ms (F0 m pc ls st0) rest (wQq O H.size none M' a) (wA O H.size))
    (kk : ∀ (H1 : Heap) (locs1 : List Loc), va_P (wD O) vwCl (wd O M') H1 → va_S (wA O s.heap.size) s.heap H1 locs1 → W p l e R s m args below meth c H1 locs1 (cells + mc) (slots + ms) Q (F0 m (pc + 3) ls (.null :: rest))) : W p l e R s m args below meth c H locs cells slots Q (F0 m pc ls st0) := wd_cq hS hr kk
/-- a loop: k turns are left; j, N, v are its state -/
theorem wl_loop (I : Nat → Nat → Mem → Int32 → Array Slot → Heap → List Loc → Prop)
    (h0 : ∀ (j : Nat) (N : Mem) (v : Int32) (ls : Array Slot) (H : Heap) (locs : List Loc), I 0 j N v ls H locs → W p l e R s m args below meth c H locs cells slots Q (F0 m pc ls rest))
    (hs : ∀ (k j : Nat) (N : Mem) (v : Int32) (ls : Array Slot) (H : Heap) (locs : List Loc), (∀ (j : Nat) (N : Mem) (v : Int32) (ls : Array Slot) (H : Heap) (locs : List Loc), I k j N v ls H locs → W p l e R s m args below meth c H locs cells slots Q (F0 m pc ls rest)) → I (k + 1) j N v ls H locs → W p l e R s m args below meth c H locs cells slots Q (F0 m pc ls rest))
    (k j : Nat) (N : Mem) (v : Int32) (hi : I k j N v ls H locs) : W p l e R s m args below meth c H locs cells slots Q (F0 m pc ls rest) := by
  have key : ∀ (k j : Nat) (N : Mem) (v : Int32) (ls : Array Slot) (H : Heap) (locs : List Loc), I k j N v ls H locs → W p l e R s m args below meth c H locs cells slots Q (F0 m pc ls rest) := by
    intro k
    induction k with
    | zero => exact h0
    | succ k ih => exact fun j N v ls H locs h => hs k j N v ls H locs ih h
  exact key k j N v ls H locs hi
end WR
