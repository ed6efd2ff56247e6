/-! WHAT A THROW NEEDS, and how throwing methods are walked -/
abbrev eISE : String := "java/lang/IllegalStateException"
abbrev eNSE : String := "java/util/NoSuchElementException"
abbrev eIAE : String := "java/lang/IllegalArgumentException"
abbrev eNm : List String := ["java/lang/RuntimeException", "java/lang/Exception"]
def xB : List Cond := [.declares (Bundle.initS "java/lang/RuntimeException"), .declares (Bundle.initS "java/lang/Exception"), .declares (Bundle.initS "java/lang/Throwable"), .castable eISE eISE, .castable eNSE eNSE, .castable eIAE eIAE]
theorem xB_face : ∀ w ∈ xB, w.faceAtom = true ∧ w.onTables = true := by decide +kernel
/-- the texts, the words that the tables decide, which classes don't fit which -/
def xS (U : State) : Prop := (∃ a, vk_R RX3 37 "no slot is free" a U) ∧ (∃ a, vk_R RX3 75 "the term is not 1 to 100" a U) ∧ (∃ a, vk_R RX3 109 "the session does not hold the lock" a U) ∧ (∃ a, vk_R RX3 143 "the session is not open" a U) ∧ (∃ a, vk_R RX3 146 "there is no such lock" a U) ∧ (∀ w ∈ xB, va_Nw w U) ∧ va_Nc eIAE eNSE U ∧ va_Nc eISE eNSE U ∧ va_Nc eISE eIAE U
theorem xS_warm {s U : State} (hW : s.WarmedH U.vm) (h : xS s) : xS U := by
  obtain ⟨⟨a1, h1⟩, ⟨a2, h2⟩, ⟨a3, h3⟩, ⟨a4, h4⟩, ⟨a5, h5⟩, h6, h7, h8, h9⟩ := h
  refine ⟨⟨a1, h1.warm hW⟩, ⟨a2, h2.warm hW⟩, ⟨a3, h3.warm hW⟩, ⟨a4, h4.warm hW⟩, ⟨a5, h5.warm hW⟩, fun w hw => ?_, h7.moved hW.alike, h8.moved hW.alike, h9.moved hW.alike⟩
  have hb := xB_face w hw
  exact va_tabs hb.2 (rfl : (s.setVm U.vm).vm = U.vm) (Cond.faceAtom_setVm hW.alike w hb.1 (h6 w hw))
theorem xS_same {u U : State} (hv : U.vm = u.vm) (h : xS u) : xS U := by
  obtain ⟨⟨a1, h1⟩, ⟨a2, h2⟩, ⟨a3, h3⟩, ⟨a4, h4⟩, ⟨a5, h5⟩, h6, h7, h8, h9⟩ := h
  have hal : u.vm.Alike U.vm := by rw [hv]; exact Vm.Alike.refl _
  exact ⟨⟨a1, h1.same hv⟩, ⟨a2, h2.same hv⟩, ⟨a3, h3.same hv⟩, ⟨a4, h4.same hv⟩, ⟨a5, h5.same hv⟩, fun w hw => va_tabs (xB_face w hw).2 hv.symm (h6 w hw), h7.moved hal, h8.moved hal, h9.moved hal⟩
def xE (A : Nat → Prop) (U : State) (H : Heap) : Prop := vx_Zq Bundle.tN "UNASSIGNED_STACK" Bundle.steD A U H ∧ vx_Zq Bundle.tN "SUPPRESSED_SENTINEL" Bundle.listD A U H ∧ xS U
theorem xE_call {A B : Nat → Prop} {s U : State} {H : Heap} {locs : List Loc} (h : xE A s s.heap) (hS : va_S A s.heap H locs) (hAB : ∀ q, B q → A q) (hU : U.heap = H) (hW : s.WarmedH U.vm) : xE B U U.heap := by
  obtain ⟨h1, h2, h3⟩ := h
  rw [hU]
  exact ⟨((h1.kept hS.2.1).moved hW.alike).narrow hAB, ((h2.kept hS.2.1).moved hW.alike).narrow hAB, xS_warm hW h3⟩
def wpx (O : WS) (sz : Nat) (M : Mem) (U : State) : Prop := wp O sz M U ∧ xE (wA O sz) U U.heap
theorem wpx_blind {O : WS} {sz : Nat} {M : Mem} {av : List Value} : FrameBlind (va_Pc av (wpx O sz M)) := by
  intro a U g mk q
  obtain ⟨q0, ⟨q1, qP, qK⟩, e1, e2, e3⟩ := q
  have hal : U.vm.Alike (U.calling g mk a).vm := Vm.Alike.refl U.vm
  exact ⟨q0, ⟨q1, qP, va_K.moved (u := U) (U := U.calling g mk a) (Vm.Alike.refl U.vm) qK⟩, vx_Zq.moved hal e1, vx_Zq.moved hal e2, xS_same (u := U) rfl e3⟩
/-- it throws an E, and nothing has changed but what is new -/
def xX (O : WS) (sz : Nat) (E0 : String) (M : Mem) : String → State → State → Prop := fun E st t => E = E0 ∧ wq O M t ∧ va_F (wA O sz) st t
abbrev xQ : Array Value → State → Outcome → State → Prop := fun _ _ _ _ => False
section WX
variable {p : Program} {l : Launch} {e : Env} {R : Room} {s : State} {m : MethodId} {args : Array Value} {below : List Frame} {meth : Method} {c : Code} {H : Heap} {locs : List Loc} {cells slots : Nat} {Q : State → Prop}
variable {cc : ByteArray} {pc : Nat} {ls : Array Slot} {rest : List Value} {O : WS} {M : Mem}
theorem wx_ofW {y : MethodName} {ws ws' : List Cond} {rm : Room} {E0 : String} {mc ms sz maxL : Nat} {ret : Option FieldType} {av : List Value} {lv : List (Nat × Value)} {M' : Mem}
    (hy : plainName y.cls = true) (hw : ws = Cond.code y cc maxL ret :: ws') (hlen : (lg_sl av).length ≤ maxL) (hlv : lv_args 0 av = lv)
    (body : ∀ (p : Program) (e : Env) (s : State) (m : MethodId) (below : List Frame) (meth : Method) (c : Code) (ls : Array Slot), p.tables.exec = Jvm.exec → c.code = cc → meth.sig.returnType = ret → c.maxLocals = maxL → s.vm.findClass y.cls = some m.cls → (∀ w ∈ ws, w.before av.toArray s = true) → meth.locks = false →
      va_P (wD O) vwCl (wd O M) s.heap → va_K (wD O) vwCl (wt O) s → va_S (wA O s.heap.size) s.heap s.heap [] → lv_has ls maxL lv → (∀ x ∈ c.exceptionTable.toList, False) → xE (wA O s.heap.size) s s.heap →
      W p l e rm s m av.toArray below meth c s.heap [] 0 0 (vx_MQ below xQ (xX O s.heap.size E0 M') av.toArray s mc ms (wA O s.heap.size)) (F0 m 0 ls [])) :
    vx_Met l y ws rm (va_Pc av (wpx O sz M)) xQ (xX O sz E0 M') mc ms (wA O sz) := by
  refine vx_ofW (cc := cc) (maxL := maxL) (ret := ret) hy hw ?_
  intro p e s m args below meth c s₁ B hml htab hv
  obtain ⟨rfl, ⟨rfl, hP, hK⟩, hE⟩ := hv
  have hl := lv_entry av (n := maxL) hlen
  rw [lg_entry_eq]
  rw [hlv] at hl
  exact body p e s m below meth c _ B.exec B.bytes B.returns hml (findClass_of_methodNamed B.named) (atoms_spec (ws := ws) B.pre) B.notSynchronized hP hK va_S.rf hl htab hE
/-- what a throw here owes -/
theorem xX_of {E0 : String} (hP : va_P (wD O) vwCl (wd O M) H) (hK : va_K (wD O) vwCl (wt O) s) (hS : va_S (wA O s.heap.size) s.heap H locs) : ∀ t : State, s.vm.Alike t.vm → H.size ≤ t.heap.size → (∀ q : Nat, q < H.size → t.heap[q]? = H[q]?) → xX O s.heap.size E0 M E0 s t := by
  intro t hvm hz hk
  refine ⟨rfl, ⟨hP.kept (fun k q hq => hk q.1 ((hP k q hq).lt)), va_K.moved hvm hK⟩, Nat.le_trans hS.1 hz, fun q h1 h2 => ?_⟩
  rw [hk q (Nat.lt_of_lt_of_le h1 hS.1)]
  exact hS.2.1 q h1 h2
theorem xX_out {E0 : String} {H1 : Heap} (hP : va_P (wD O) vwCl (wd O M) H1) (hK : va_K (wD O) vwCl (wt O) s) (hS : va_S (wA O s.heap.size) s.heap H1 locs) : ∀ t : State, t.heap = H1 → s.vm.Alike t.vm → xX O s.heap.size E0 M E0 s t := by
  intro t ht hvm
  exact ⟨rfl, ⟨by rw [ht]; exact hP, va_K.moved hvm hK⟩, hS.F ht⟩
theorem wx_pre {C : String} {T : u_T} {N ci k : Nat} {fs : List Value} {As : List Value} (hK : va_K (wD O) vwCl (wt O) s) (hP : va_P (wD O) vwCl (wd O M) H) (hS : va_S (wA O s.heap.size) s.heap H locs) (hE : xE (wA O s.heap.size) s s.heap) (hk : k < wn O) (he : wE O k (M k) = .inr (ci, fs)) (hc : vwCl[ci]? = some (C, T, N)) : PreV s H C (wa O k) (va_Pc (.ref (wa O k) :: As) (wpx O H.size M)) As :=
  ⟨wpx_blind, va_recv hK hP hc (q0 := k) (by rw [wd_at hk, he]), fun U hU hW => ⟨rfl, ⟨by rw [hU], by rw [hU]; exact hP, va_K.moved hW.alike hK⟩, xE_call hE hS (fun q h => wd_sub hS h) hU hW⟩⟩
variable {st0 : List Value} {mc ms : Nat} {a : Array Value}
/-- a call that throws -/
theorem wx_call {E0 : String} {M' : Mem} (hS : va_S (wA O s.heap.size) s.heap H locs) (hr : vx_Run p l e R s m args below meth c H locs cells slots mc ms (F0 m pc ls st0) rest (xQ a) (xX O H.size E0 M') (wA O H.size))
    (kx : ∀ (q : Addr) (ce : Cell) (H1 : Heap) (locs1 : List Loc), va_P (wD O) vwCl (wd O M') H1 → va_S (wA O s.heap.size) s.heap H1 locs1 → H1[q]? = some ce → ce.vm = .none → s.vm.findClass E0 = some ce.cls → vx_W p l e R s m args below meth c H1 locs1 (cells + mc) (slots + ms) Q (F0 m pc ls rest) q) : W p l e R s m args below meth c H locs cells slots Q (F0 m pc ls st0) := by
  intro T hT X
  rcases hr T hT X with ⟨v, st₀, t, T', L, h0, X', hL, e1, e2, hF, st⟩ | ⟨q, st₀, t, T', L, E, ce, h0, X', hL, e1, e2, ⟨rfl, ⟨hP1, hK1⟩, hF⟩, hce, hcv, hcl, st⟩
  · exact hF.elim
  · obtain ⟨k1, k2, k3⟩ := vx_keep h0 e1 hS (fun q _ h => wd_sub hS h) (fun q h => wd_sub hS h) hL hF
    obtain ⟨t2, a1, b1⟩ := kx q ce T'.heap (locs ++ L) (by rw [e1]; exact hP1) k3 (by rw [e1]; exact hce) hcv hcl T' rfl X'
    exact ⟨t2, st.trans a1, b1⟩
end WX
