/-! THE LAW's HELPERS: a call of the desk, what it throws caught and counted; its answer goes into a cell of longs -/
theorem Met_ofWH {l : Launch} {y : MethodName} {ws ws' : List Cond} {rm : Room} {Pc : Array Value → State → Prop} {Qc : Array Value → State → Outcome → State → Prop} {mc ms : Nat} {free : Addr → Prop} {cc : ByteArray} {maxL : Nat} {ret : Option FieldType} {hh : List (Nat × Nat × Nat × Nat)}
    (hy : plainName y.cls = true) (hw : ws = Cond.codeWith y cc maxL ret hh :: ws')
    (body : ∀ p e s m args below meth c s₁, BodyLoose p l y (headSpec ws rm) cc maxL ret e s m args below meth c s₁ → c.maxLocals = maxL → c.exceptionTable.toList = tableOf hh → Pc args s →
      W p l e (headSpec ws rm).room s m args below meth c s.heap [] 0 0 (MQ below Qc args s mc ms free) (entryFrame m args maxL)) : Met l y ws rm Pc Qc mc ms free := by
  refine MetFree.of_bodyS (code := cc) (maxLocals := maxL) (ret := ret) hy ?_ ?_
  · intro args s m h hn
    obtain ⟨m9, meth, c, hn9, h1, h2, h3, h4, -, h5, h6, -⟩ := Cond.codeWith_spec (atoms_spec (ws := ws) h _ (by rw [hw]; exact List.mem_cons_self))
    cases hn.symm.trans hn9
    exact ⟨meth, c, h1, h2, h3, h4, h5, h6⟩
  · intro p e s m args below meth c s₁ B hml hP _
    have hh0 : s₁.heap = s.heap := by rw [B.state]; rfl
    have ht : c.exceptionTable.toList = tableOf hh := vx_table (x := y) B (atoms_spec (ws := ws) B.pre _ (by rw [hw]; exact List.mem_cons_self))
    obtain ⟨t, a1, o, b1, b2, b3⟩ := body p e s m args below meth c s₁ B hml ht hP s₁ hh0 (Stand.of_body B)
    exact ⟨t, o, a1, b1, b2, b3⟩
/-- the cell of longs -/
abbrev oW (o : Nat) (cJ : ClassId) (fo : Nat → Int64) : va_W := [(o, .inl (cJ, 1, .inr (.inl fo)))]
def hA (O : WS) (o sz : Nat) : Nat → Prop := fun q => wA O sz q ∨ q = o
/-- the helper's world: the desk's, and the cell -/
def hp (O : WS) (o : Nat) (cJ : ClassId) (sz : Nat) (M : Mem) (fo : Nat → Int64) (U : State) : Prop := U.heap.size = sz ∧ va_P (wD O) vwCl (wd O M) U.heap ∧ va_K (wD O) vwCl (wt O) U ∧ va_P (wD O) vwCl (oW o cJ fo) U.heap ∧ va_K (wD O) vwCl [(cJ, .long)] U ∧ xE (hA O o sz) U U.heap
def hq (O : WS) (o : Nat) (cJ : ClassId) (M : Mem) (fo : Nat → Int64) (t : State) : Prop := va_P (wD O) vwCl (wd O M) t.heap ∧ va_P (wD O) vwCl (oW o cJ fo) t.heap
/-- answer r, the desk's memory M, in the cell v if it is asked for -/
abbrev hQ (O : WS) (o : Nat) (cJ : ClassId) (sz : Nat) (r : Int32) (M : Mem) (pf : (Nat → Int64) → Prop) : Array Value → State → Outcome → State → Prop := va_Qi (fun r' (fo : Nat → Int64) => r' = r ∧ pf fo) (fun fo t => hq O o cJ M fo t) (hA O o sz)
theorem hp_blind {O : WS} {o : Nat} {cJ : ClassId} {sz : Nat} {M : Mem} {fo : Nat → Int64} {av : List Value} : FrameBlind (va_Pc av (hp O o cJ sz M fo)) := by
  intro a U g mk q
  obtain ⟨q0, q1, qP, qK, qo, qk, e1, e2, e3⟩ := q
  have hal : U.vm.Alike (U.calling g mk a).vm := Vm.Alike.refl U.vm
  exact ⟨q0, q1, qP, va_K.moved (u := U) (U := U.calling g mk a) hal qK, qo, va_K.moved (u := U) (U := U.calling g mk a) hal qk, vx_Zq.moved hal e1, vx_Zq.moved hal e2, xS_same (u := U) rfl e3⟩
/-- what isn't the world's own stays -/
theorem wk_out {O : WS} {D : va_G} {cl : List vw_C} {W2 : va_W} {H H1 : Heap} (h2 : va_P D cl W2 H) (hap : ∀ (k : Nat) (q : Nat × va_E), W2[k]? = some q → ∀ j, j < wn O → wa O j ≠ q.1) (hk : ∀ q : Nat, q < H.size → ¬ wA O H.size q → H1[q]? = H[q]?) : va_P D cl W2 H1 := by
  refine h2.kept (fun k q hq => hk q.1 ((h2 k q hq).lt) (fun h => ?_))
  rcases h with ⟨j, hj, e⟩ | h
  · exact hap k q hq j hj e.symm
  · have := (h2 k q hq).lt
    omega
theorem oW_ap {O : WS} {o : Nat} {cJ : ClassId} {fo : Nat → Int64} (ho : ∀ j, j < wn O → wa O j ≠ o) : ∀ (k : Nat) (q : Nat × va_E), (oW o cJ fo)[k]? = some q → ∀ j, j < wn O → wa O j ≠ q.1 := by
  intro k q hq j hj
  have := List.mem_of_getElem? hq
  simp only [oW, List.mem_singleton] at this
  rw [this]
  exact ho j hj
section HL
variable {p : Program} {l : Launch} {e : Env} {R : Room} {s : State} {m : MethodId} {args : Array Value} {below : List Frame} {meth : Method} {c : Code} {H : Heap} {locs : List Loc} {cells slots : Nat} {Q : State → Prop}
variable {cc : ByteArray} {pc : Nat} {ls : Array Slot} {rest st0 : List Value} {O : WS} {M : Mem} {mc ms : Nat} {a : Array Value} {A0 : Nat → Prop} {W2 : va_W}
/-- calls within a larger world: W2 is the rest of it -/
theorem xl_i {v : Int32} {M' : Mem} (hS : va_S A0 s.heap H locs) (hn : ∀ q, wA O H.size q → A0 q) (h2 : va_P (wD O) vwCl W2 H) (hap : ∀ (k : Nat) (q : Nat × va_E), W2[k]? = some q → ∀ j, j < wn O → wa O j ≠ q.1) (hr : va_Run p l e R s m args below meth c H locs cells slots mc ms (F0 m pc ls st0) rest (wQi O H.size v M' a) (wA O H.size))
    (kk : ∀ (H1 : Heap) (locs1 : List Loc), va_P (wD O) vwCl (wd O M') H1 → va_P (wD O) vwCl W2 H1 → va_S A0 s.heap H1 locs1 → W p l e R s m args below meth c H1 locs1 (cells + mc) (slots + ms) Q (F0 m (pc + 3) ls (.int v :: rest))) : W p l e R s m args below meth c H locs cells slots Q (F0 m pc ls st0) := by
  refine va_calli hr hS (fun q _ h => hn q h) hn (fun r u t H1 locs1 ht hvm hw hB hz1 hk1 hS1 => ?_)
  obtain ⟨hP1, -⟩ := hB
  rw [ht] at hP1
  subst hw
  exact kk H1 locs1 hP1 (wk_out h2 hap hk1) hS1
theorem xl_v {M' : Mem} (hS : va_S A0 s.heap H locs) (hn : ∀ q, wA O H.size q → A0 q) (h2 : va_P (wD O) vwCl W2 H) (hap : ∀ (k : Nat) (q : Nat × va_E), W2[k]? = some q → ∀ j, j < wn O → wa O j ≠ q.1) (hr : va_Run p l e R s m args below meth c H locs cells slots mc ms (F0 m pc ls st0) rest (wQv O H.size M' a) (wA O H.size))
    (kk : ∀ (H1 : Heap) (locs1 : List Loc), va_P (wD O) vwCl (wd O M') H1 → va_P (wD O) vwCl W2 H1 → va_S A0 s.heap H1 locs1 → W p l e R s m args below meth c H1 locs1 (cells + mc) (slots + ms) Q (F0 m (pc + 3) ls rest)) : W p l e R s m args below meth c H locs cells slots Q (F0 m pc ls st0) := by
  refine va_callv hr hS (fun q _ h => hn q h) hn (fun u t H1 locs1 ht hvm hw hB hz1 hk1 hS1 => ?_)
  obtain ⟨hP1, -⟩ := hB
  rw [ht] at hP1
  exact kk H1 locs1 hP1 (wk_out h2 hap hk1) hS1
theorem xl_x {E0 : String} {M' : Mem} (hS : va_S A0 s.heap H locs) (hn : ∀ q, wA O H.size q → A0 q) (h2 : va_P (wD O) vwCl W2 H) (hap : ∀ (k : Nat) (q : Nat × va_E), W2[k]? = some q → ∀ j, j < wn O → wa O j ≠ q.1) (hr : vx_Run p l e R s m args below meth c H locs cells slots mc ms (F0 m pc ls st0) rest (xQ a) (xX O H.size E0 M') (wA O H.size))
    (kx : ∀ (q : Addr) (ce : Cell) (H1 : Heap) (locs1 : List Loc), va_P (wD O) vwCl (wd O M') H1 → va_P (wD O) vwCl W2 H1 → va_S A0 s.heap H1 locs1 → H1[q]? = some ce → ce.vm = .none → s.vm.findClass E0 = some ce.cls → vx_W p l e R s m args below meth c H1 locs1 (cells + mc) (slots + ms) Q (F0 m pc ls rest) q) : W p l e R s m args below meth c H locs cells slots Q (F0 m pc ls st0) := by
  intro T hT X
  rcases hr T hT X with ⟨v, st₀, t, T', L, h0, X', hL, e1, e2, hF, st⟩ | ⟨q, st₀, t, T', L, E, ce, h0, X', hL, e1, e2, ⟨rfl, ⟨hP1, hK1⟩, hF⟩, hce, hcv, hcl, st⟩
  · exact hF.elim
  · obtain ⟨k1, k2, k3⟩ := vx_keep h0 e1 hS (fun q _ h => hn q h) hn hL hF
    obtain ⟨t2, a1, b1⟩ := kx q ce T'.heap (locs ++ L) (by rw [e1]; exact hP1) (wk_out h2 hap k2) k3 (by rw [e1]; exact hce) hcv hcl T' rfl X'
    exact ⟨t2, st.trans a1, b1⟩
/-- the desk's pre, where throws are possible -/
theorem xl_pre {C : String} {T : u_T} {N ci k : Nat} {fs : List Value} {As : List Value} (hK : va_K (wD O) vwCl (wt O) s) (hP : va_P (wD O) vwCl (wd O M) H) (hS : va_S A0 s.heap H locs) (hn : ∀ q, wA O H.size q → A0 q) (hE : xE A0 s s.heap) (hk : k < wn O) (he : wE O k (M k) = .inr (ci, fs)) (hc : vwCl[ci]? = some (C, T, N)) : PreV s H C (wa O k) (va_Pc (.ref (wa O k) :: As) (wpx O H.size M)) As :=
  ⟨wpx_blind, va_recv hK hP hc (q0 := k) (by rw [wd_at hk, he]), fun U hU hW => ⟨rfl, ⟨by rw [hU], by rw [hU]; exact hP, va_K.moved hW.alike hK⟩, xE_call hE hS hn hU hW⟩⟩
/-- the answer is stored -/
theorem xl_last {o : Nat} {cJ : ClassId} {fo : Nat → Int64} {x : Int64} (hj : wj O) (hx : p.tables.exec = Jvm.exec) (hb : c.code = cc) (hA0 : ∀ q, hA O o s.heap.size q → A0 q) (hA1 : A0 = hA O o s.heap.size) (ho : ∀ j, j < wn O → wa O j ≠ o) (hKo : va_K (wD O) vwCl [(cJ, .long)] s) (hP : va_P (wD O) vwCl (wd O M) H) (hPo : va_P (wD O) vwCl (oW o cJ fo) H) (hS : va_S A0 s.heap H locs) (hdg : decode cc pc = .ok (.lastore, 1))
    (kk : ∀ (H1 : Heap) (locs1 : List Loc), va_P (wD O) vwCl (wd O M) H1 → va_P (wD O) vwCl (oW o cJ (vp_updL fo 0 x)) H1 → va_S A0 s.heap H1 locs1 → W p l e R s m args below meth c H1 locs1 cells slots Q (F0 m (pc + 1) ls rest)) : W p l e R s m args below meth c H locs cells slots Q (F0 m pc ls (.long x :: .int 0 :: .ref o :: rest)) := by
  have hlen : (wd O M).length = wn O := by simp [wd]
  have hat : (wd O M ++ oW o cJ fo)[wn O]? = some (o, .inl (cJ, 1, .inr (.inl fo))) := by
    rw [List.getElem?_append_right (by omega), hlen, Nat.sub_self]
    rfl
  have hD : va_D A0 (wd O M ++ oW o cJ fo) := by
    refine va_D.app ((wd_D hj M s.heap.size).weaken (fun _ _ _ h => hA0 _ (Or.inl h))) ⟨fun i j p q h1 h2 _ => ?_, fun k q h => ?_⟩ (fun i j p q h1 h2 => ?_)
    · have e1 : i < 1 := (List.getElem?_eq_some_iff.mp h1).1
      have e2 : j < 1 := (List.getElem?_eq_some_iff.mp h2).1
      omega
    · have := List.mem_of_getElem? h
      simp only [oW, List.mem_singleton] at this
      rw [this]
      exact hA0 _ (Or.inr rfl)
    · obtain ⟨k1, rfl⟩ := wd_at' h1
      have := List.mem_of_getElem? h2
      simp only [oW, List.mem_singleton] at this
      rw [this]
      exact ho i k1
  refine va_last hx hb hKo (va_P.app hP hPo) hD hS (wn O) 0 hat rfl (show vp_in 0 1 from vp_in_nI (n := 0) (by decide) (by decide)) hdg (fun H1 locs1 hP1 _ hS1 => ?_)
  have hset : (wd O M ++ oW o cJ fo).set (wn O) (o, .inl (cJ, 1, .inr (.inl (vp_updL fo (0 : Int32).toNatClampNeg x)))) = wd O M ++ oW o cJ (vp_updL fo 0 x) := by
    rw [List.set_append_right _ _ (by omega), hlen, Nat.sub_self]
    rfl
  rw [hset] at hP1
  refine kk H1 locs1 (fun k q h => hP1 k q ?_) (fun k q h => hP1 (wn O + k) q ?_) hS1
  · have : k < (wd O M).length := (List.getElem?_eq_some_iff.mp h).1
    rw [List.getElem?_append_left this]
    exact h
  · rw [List.getElem?_append_right (by omega), hlen, show wn O + k - wn O = k by omega]
    exact h
theorem xl_iret {o : Nat} {cJ : ClassId} {fo : Nat → Int64} {v : Int32} {pf : (Nat → Int64) → Prop} (hx : p.tables.exec = Jvm.exec) (hb : c.code = cc) (hr : meth.sig.returnType = some .int) (hlocks : meth.locks = false) (hP : va_P (wD O) vwCl (wd O M) H) (hPo : va_P (wD O) vwCl (oW o cJ fo) H) (hS : va_S (hA O o s.heap.size) s.heap H locs) (hdg : decode cc pc = .ok (.ireturn, 1)) (hf : pf fo) :
    W p l e R s m args below meth c H locs cells slots (MQ below (hQ O o cJ s.heap.size v M pf) args s cells slots (hA O o s.heap.size)) (F0 m pc ls [.int v]) :=
  W.iret hx hb hr (fun t ht hW => ⟨⟨v, fo, rfl, ⟨rfl, hf⟩, by rw [ht]; exact hP, by rw [ht]; exact hPo⟩, hS.F ht⟩) hS.2.2 hdg hlocks
theorem hA_sub {o : Nat} (hS : va_S (hA O o s.heap.size) s.heap H locs) {q : Nat} (h : wA O H.size q) : hA O o s.heap.size q := Or.inl (wA_up hS.1 h)
end HL
