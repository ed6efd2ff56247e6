section
-- ===== PART A: goes FIRST, ahead of the names: the tables' words, and 'selects' of the private methods out of them =====
/-- a private method of a class that the tables say can be made, by its rows of tables_1 -/
def lw_okq (q : MethodName × Nat) : Prop := (q.1.cls ≠ "java/lang/invoke/MethodHandle" ∧ q.1.cls ≠ "java/lang/invoke/VarHandle") ∧ Cond.instantiable q.1.cls q.2 ∈ tables_1 ∧ Cond.privateMethod q.1 ∈ tables_1 ∧ Cond.instanceMethod q.1 ∈ tables_1
theorem lw_p0 : lw_okq (⟨"LeaseDesk", "openSession", "(I)LLeaseDesk$Session;"⟩, 3) := ⟨⟨by decide +kernel, by decide +kernel⟩, List.mem_of_getElem? (i := 13) (by decide +kernel), List.mem_of_getElem? (i := 114) (by decide +kernel), List.mem_of_getElem? (i := 115) (by decide +kernel)⟩
theorem lw_p1 : lw_okq (⟨"LeaseDesk", "moveClocks", "(I)V"⟩, 3) := ⟨⟨by decide +kernel, by decide +kernel⟩, List.mem_of_getElem? (i := 13) (by decide +kernel), List.mem_of_getElem? (i := 122) (by decide +kernel), List.mem_of_getElem? (i := 123) (by decide +kernel)⟩
theorem lw_p2 : lw_okq (⟨"LeaseDesk", "endSilentSessions", "()I"⟩, 3) := ⟨⟨by decide +kernel, by decide +kernel⟩, List.mem_of_getElem? (i := 13) (by decide +kernel), List.mem_of_getElem? (i := 126) (by decide +kernel), List.mem_of_getElem? (i := 127) (by decide +kernel)⟩
theorem lw_p3 : lw_okq (⟨"LeaseDesk", "endSession", "(LLeaseDesk$Session;I)I"⟩, 3) := ⟨⟨by decide +kernel, by decide +kernel⟩, List.mem_of_getElem? (i := 13) (by decide +kernel), List.mem_of_getElem? (i := 130) (by decide +kernel), List.mem_of_getElem? (i := 131) (by decide +kernel)⟩
theorem lw_p4 : lw_okq (⟨"LeaseDesk$Row", "placeOf", "(I)I"⟩, 3) := ⟨⟨by decide +kernel, by decide +kernel⟩, List.mem_of_getElem? (i := 52) (by decide +kernel), List.mem_of_getElem? (i := 138) (by decide +kernel), List.mem_of_getElem? (i := 139) (by decide +kernel)⟩
theorem lw_p5 : lw_okq (⟨"LeaseDesk", "passOn", "(LLeaseDesk$Lock;)V"⟩, 3) := ⟨⟨by decide +kernel, by decide +kernel⟩, List.mem_of_getElem? (i := 13) (by decide +kernel), List.mem_of_getElem? (i := 142) (by decide +kernel), List.mem_of_getElem? (i := 143) (by decide +kernel)⟩
theorem lw_p6 : lw_okq (⟨"LeaseDesk$Row", "isTaken", "(I)Z"⟩, 3) := ⟨⟨by decide +kernel, by decide +kernel⟩, List.mem_of_getElem? (i := 52) (by decide +kernel), List.mem_of_getElem? (i := 150) (by decide +kernel), List.mem_of_getElem? (i := 151) (by decide +kernel)⟩
theorem lw_p7 : lw_okq (⟨"LeaseDesk$Lock", "runFrom", "(III)V"⟩, 8) := ⟨⟨by decide +kernel, by decide +kernel⟩, List.mem_of_getElem? (i := 46) (by decide +kernel), List.mem_of_getElem? (i := 166) (by decide +kernel), List.mem_of_getElem? (i := 167) (by decide +kernel)⟩
theorem lw_p8 : lw_okq (⟨"LeaseDesk", "passOnLeasesDue", "()I"⟩, 3) := ⟨⟨by decide +kernel, by decide +kernel⟩, List.mem_of_getElem? (i := 13) (by decide +kernel), List.mem_of_getElem? (i := 170) (by decide +kernel), List.mem_of_getElem? (i := 171) (by decide +kernel)⟩
theorem lw_p9 : lw_okq (⟨"LeaseDesk", "knownLock", "(I)LLeaseDesk$Lock;"⟩, 3) := ⟨⟨by decide +kernel, by decide +kernel⟩, List.mem_of_getElem? (i := 13) (by decide +kernel), List.mem_of_getElem? (i := 182) (by decide +kernel), List.mem_of_getElem? (i := 183) (by decide +kernel)⟩
theorem lw_p10 : lw_okq (⟨"java/lang/Throwable", "fillInStackTrace", "(I)Ljava/lang/Throwable;"⟩, 6) := ⟨⟨by decide +kernel, by decide +kernel⟩, List.mem_of_getElem? (i := 273) (by decide +kernel), List.mem_of_getElem? (i := 271) (by decide +kernel), List.mem_of_getElem? (i := 272) (by decide +kernel)⟩
theorem lw_p11 : lw_okq (⟨"LeaseDesk", "requireSession", "(I)LLeaseDesk$Session;"⟩, 3) := ⟨⟨by decide +kernel, by decide +kernel⟩, List.mem_of_getElem? (i := 13) (by decide +kernel), List.mem_of_getElem? (i := 311) (by decide +kernel), List.mem_of_getElem? (i := 312) (by decide +kernel)⟩
theorem lw_p12 : lw_okq (⟨"LeaseDesk", "requireLock", "(I)LLeaseDesk$Lock;"⟩, 3) := ⟨⟨by decide +kernel, by decide +kernel⟩, List.mem_of_getElem? (i := 13) (by decide +kernel), List.mem_of_getElem? (i := 346) (by decide +kernel), List.mem_of_getElem? (i := 347) (by decide +kernel)⟩
theorem lw_p13 : lw_okq (⟨"LeaseDeskModel", "isOpen", "(I)Z"⟩, 16) := ⟨⟨by decide +kernel, by decide +kernel⟩, List.mem_of_getElem? (i := 383) (by decide +kernel), List.mem_of_getElem? (i := 451) (by decide +kernel), List.mem_of_getElem? (i := 452) (by decide +kernel)⟩
theorem lw_p14 : lw_okq (⟨"LeaseDeskModel", "gone", "(I)I"⟩, 16) := ⟨⟨by decide +kernel, by decide +kernel⟩, List.mem_of_getElem? (i := 383) (by decide +kernel), List.mem_of_getElem? (i := 455) (by decide +kernel), List.mem_of_getElem? (i := 456) (by decide +kernel)⟩
theorem lw_p15 : lw_okq (⟨"LeaseDeskModel", "over", "(I)V"⟩, 16) := ⟨⟨by decide +kernel, by decide +kernel⟩, List.mem_of_getElem? (i := 383) (by decide +kernel), List.mem_of_getElem? (i := 459) (by decide +kernel), List.mem_of_getElem? (i := 460) (by decide +kernel)⟩
def lw_privs_1 : List (MethodName × Nat) := [(⟨"LeaseDesk", "openSession", "(I)LLeaseDesk$Session;"⟩, 3), (⟨"LeaseDesk", "moveClocks", "(I)V"⟩, 3), (⟨"LeaseDesk", "endSilentSessions", "()I"⟩, 3), (⟨"LeaseDesk", "endSession", "(LLeaseDesk$Session;I)I"⟩, 3), (⟨"LeaseDesk$Row", "placeOf", "(I)I"⟩, 3), (⟨"LeaseDesk", "passOn", "(LLeaseDesk$Lock;)V"⟩, 3), (⟨"LeaseDesk$Row", "isTaken", "(I)Z"⟩, 3), (⟨"LeaseDesk$Lock", "runFrom", "(III)V"⟩, 8), (⟨"LeaseDesk", "passOnLeasesDue", "()I"⟩, 3), (⟨"LeaseDesk", "knownLock", "(I)LLeaseDesk$Lock;"⟩, 3), (⟨"java/lang/Throwable", "fillInStackTrace", "(I)Ljava/lang/Throwable;"⟩, 6), (⟨"LeaseDesk", "requireSession", "(I)LLeaseDesk$Session;"⟩, 3), (⟨"LeaseDesk", "requireLock", "(I)LLeaseDesk$Lock;"⟩, 3), (⟨"LeaseDeskModel", "isOpen", "(I)Z"⟩, 16), (⟨"LeaseDeskModel", "gone", "(I)I"⟩, 16), (⟨"LeaseDeskModel", "over", "(I)V"⟩, 16)]
theorem lw_r1 : ∀ q ∈ lw_privs_1, lw_okq q := List.forall_mem_cons.mpr ⟨lw_p0, List.forall_mem_cons.mpr ⟨lw_p1, List.forall_mem_cons.mpr ⟨lw_p2, List.forall_mem_cons.mpr ⟨lw_p3, List.forall_mem_cons.mpr ⟨lw_p4, List.forall_mem_cons.mpr ⟨lw_p5, List.forall_mem_cons.mpr ⟨lw_p6, List.forall_mem_cons.mpr ⟨lw_p7, List.forall_mem_cons.mpr ⟨lw_p8, List.forall_mem_cons.mpr ⟨lw_p9, List.forall_mem_cons.mpr ⟨lw_p10, List.forall_mem_cons.mpr ⟨lw_p11, List.forall_mem_cons.mpr ⟨lw_p12, List.forall_mem_cons.mpr ⟨lw_p13, List.forall_mem_cons.mpr ⟨lw_p14, List.forall_mem_cons.mpr ⟨lw_p15, fun _ h => absurd h List.not_mem_nil⟩⟩⟩⟩⟩⟩⟩⟩⟩⟩⟩⟩⟩⟩⟩⟩
theorem lw_p16 : lw_okq (⟨"LeaseDeskModel", "inRow", "(II)I"⟩, 16) := ⟨⟨by decide +kernel, by decide +kernel⟩, List.mem_of_getElem? (i := 383) (by decide +kernel), List.mem_of_getElem? (i := 463) (by decide +kernel), List.mem_of_getElem? (i := 464) (by decide +kernel)⟩
theorem lw_p17 : lw_okq (⟨"LeaseDeskModel", "lend", "(III)V"⟩, 16) := ⟨⟨by decide +kernel, by decide +kernel⟩, List.mem_of_getElem? (i := 383) (by decide +kernel), List.mem_of_getElem? (i := 467) (by decide +kernel), List.mem_of_getElem? (i := 468) (by decide +kernel)⟩
def lw_privs_2 : List (MethodName × Nat) := [(⟨"LeaseDeskModel", "inRow", "(II)I"⟩, 16), (⟨"LeaseDeskModel", "lend", "(III)V"⟩, 16)]
theorem lw_r2 : ∀ q ∈ lw_privs_2, lw_okq q := List.forall_mem_cons.mpr ⟨lw_p16, List.forall_mem_cons.mpr ⟨lw_p17, fun _ h => absurd h List.not_mem_nil⟩⟩
def lw_privs : List (MethodName × Nat) := lw_privs_1 ++ (lw_privs_2)
def lw_tbl : List Cond := k2_sels lw_privs ++ tables_1
theorem lw_privs_ok : ∀ q ∈ lw_privs, lw_okq q := by
  show ∀ q ∈ lw_privs_1 ++ (lw_privs_2), lw_okq q
  exact List.forall_mem_append.mpr ⟨lw_r1, lw_r2⟩
end
section
/-! ===== BEGIN words of one list among another's, by their places ===== -/
theorem goodIn_r {big : List Cond} (ws : List Cond) (ps : List Nat) (hp : ws = ps.filterMap (fun i => big[i]?)) (h : ws.all goodWord = true) : GoodIn big ws := by
  intro w hw
  have h1 := List.all_eq_true.mp h w hw
  rw [hp] at hw
  obtain ⟨i, -, hi⟩ := List.mem_filterMap.mp hw
  have hm : w ∈ big := by first | exact List.mem_of_getElem? hi | exact List.getElem?_mem hi
  exact ⟨hm, good_of_word h1⟩
theorem goodIn_app {big a b : List Cond} (ha : GoodIn big a) (hb : GoodIn big b) : GoodIn big (a ++ b) := fun w h => (List.mem_append.mp h).elim (ha w) (hb w)
theorem goodIn_ca {big a b : List Cond} {c : Cond} (ha : GoodIn big (c :: a)) (hb : GoodIn big b) : GoodIn big (c :: (a ++ b)) := fun w h => (List.mem_cons.mp h).elim (fun e => ha w (List.mem_cons.mpr (Or.inl e))) (fun h => (List.mem_append.mp h).elim (fun h => ha w (List.mem_cons.mpr (Or.inr h))) (hb w))
theorem goodIn_sub {big ws : List Cond} (hm : ∀ w ∈ ws, w ∈ big) (h : ws.all goodWord = true) : GoodIn big ws := fun w hw => ⟨hm w hw, good_of_word (List.all_eq_true.mp h w hw)⟩
/-! ===== END ===== -/

/-! ===== BEGIN exceptions that leave a method, and their catching by the caller (launches without stack traces) ===== -/
section VXA
/-! The laws vx_back, vx_callV, vx_callS, vx_callSW, vx_throw0, vx_throwS follow proofs of the library, with one case more: JvmDerived/Free/Laws.lean (Back.of_free), Shelf42/LK1.lean (callV, callS), Shelf/KitTraced.lean (throwNew0V, throwNewS). -/
/-- where a method has thrown q: the class by its name, the cell, what was written, the world -/
def vx_T (XC : String → State → State → Prop) (st : State) (q : Addr) (t : State) (mc ms : Nat) (free : Addr → Prop) : Prop :=
  ∃ (E : String) (ce : Cell) (L : List Loc), XC E st t ∧ t.heap[q]? = some ce ∧ ce.vm = .none ∧ st.vm.findClass E = some ce.cls ∧ st.WarmedH t.vm ∧ st.sameButNew ({ t with vm := st.vm } : State) L mc ms ∧ ∀ z ∈ L, free z.base
def vx_Q (Qc : Array Value → State → Outcome → State → Prop) (XC : String → State → State → Prop) (mc ms : Nat) (free : Addr → Prop) : Array Value → State → Outcome → State → Prop := fun a st o t =>
  (Qc a st o t ∧ ∃ L, FrameEnd st o t L mc ms ∧ ∀ q ∈ L, free q.base) ∨ ∃ q, o = .threw q ∧ vx_T XC st q t mc ms free
/-- a callee that returns or throws -/
def vx_Met (l : Launch) (y : MethodName) (ws : List Cond) (rm : Room) (Pc : Array Value → State → Prop) (Qc : Array Value → State → Outcome → State → Prop) (XC : String → State → State → Prop) (mc ms : Nat) (free : Addr → Prop) : Prop :=
  MetFree l y (headSpec ws rm) Pc (fun _ _ _ _ _ => True) (vx_Q Qc XC mc ms free)
def vx_Post (XC : String → State → State → Prop) (mc ms : Nat) (free : Addr → Prop) : Pt → Array Value → Addr → Pt → Prop := fun A a q B =>
  ∃ (g : JFrame) (mk : MethodId) (t : State) (L : List Loc) (E : String) (ce : Cell), B.U.heap = t.heap ∧ B.U.vm = t.vm ∧ XC E (A.U.calling g mk a) t ∧ t.heap[q]? = some ce ∧ ce.vm = .none ∧ A.U.vm.findClass E = some ce.cls ∧ B.locs = A.locs ++ L ∧ (∀ z ∈ L, free z.base) ∧ B.cells = A.cells + mc ∧ B.slots = A.slots + ms
def vx_Back (l : Launch) (R : Room) (p : Program) (e : Env) (below : List Frame) (s : State) (sargs : Array Value) (y : MethodName) (len W9 : Nat)
    (Pre : Pt → Array Value → Prop) (Post : Pt → Array Value → Option Value → Pt → Prop) (PostX : Pt → Array Value → Addr → Pt → Prop) : Prop :=
  ∀ (m : MethodId) (meth : Method) (c : Code) (A : Pt) (g : JFrame) (ig : Instr) (mk : MethodId) (a : Array Value),
    Stand p l e R s m sargs below meth c A.U A.locs A.cells A.slots → g.method = m → g.locals.size = c.maxLocals → decode c.code g.pc = .ok (ig, len) →
    2 * g.monitorRoom + (g.stack.map fun v => v.category).sum ≤ W9 → A.U.methodNamed? y = some mk → Pre A a →
    (∃ (v : Option Value) (B : Pt), Stand p l e R s m sargs below meth c B.U B.locs B.cells B.slots ∧ Post A a v B ∧
      Steps p.tables e below (doInvoke e (A.U.setTop g) [] mk a).1 (B.U.setTop { g with pc := g.pc + len, stack := v.toList ++ g.stack })) ∨
    (∃ (q : Addr) (B : Pt), Stand p l e R s m sargs below meth c B.U B.locs B.cells B.slots ∧ PostX A a q B ∧
      Steps p.tables e below (doInvoke e (A.U.setTop g) [] mk a).1 ((B.U.setTop g).pushFrame (.throwing q)))
section Payer
variable {l : Launch} {R : Room} {p : Program} {e : Env} {below : List Frame} {s : State} {sargs : Array Value} {y : MethodName} {len W9 : Nat}
theorem vx_back {ws : List Cond} {rm : Room} {Pc : Array Value → State → Prop} {Qc : Array Value → State → Outcome → State → Prop} {XC : String → State → State → Prop} {mc ms : Nat} {free : Addr → Prop} {bytes : ByteArray} {maxL : Nat} {ret : Option FieldType}
    (hM : vx_Met l y ws rm Pc Qc XC mc ms free) (hblind : FrameBlind Pc) (hrc : rm.cells = mc) (hrs : rm.slots = ms)
    (hframes : rm.frames + 1 ≤ R.frames) (hlocals : W9 + (maxL + 11) + rm.locals ≤ R.locals)
    (hws : ∀ w ∈ ws, ∀ a' U, s.WarmedH U.vm → w.before a' U = true) (hcode : Cond.code y bytes maxL ret ∈ ws) (hinit : ∀ a' U, s.WarmedH U.vm → (Cond.initialized y.cls).before a' U = true) :
    vx_Back l R p e below s sargs y len W9 (PreOf R mc ms Pc) (PostOf Qc mc ms free) (vx_Post XC mc ms free) := by
  intro m meth c A g ig mk a X hg hsize hdg hW hn hp
  have h1 : (headSpec ws rm).pre.before a A.U = true := atoms_intro fun w hw => hws w hw _ _ X.warmed
  have h2 : (Cond.code y bytes maxL ret).before a A.U = true := hws _ hcode _ _ X.warmed
  have h3 : (Cond.initialized y.cls).before a A.U = true := hinit _ _ X.warmed
  have h4 : A.cells + (headSpec ws rm).room.cells ≤ R.cells := by rw [show (headSpec ws rm).room.cells = mc from hrc]; exact hp.1
  have h5 : A.slots + (headSpec ws rm).room.slots ≤ R.slots := by rw [show (headSpec ws rm).room.slots = ms from hrs]; exact hp.2.1
  have hPc : Pc a (A.U.calling g mk a) := hblind _ _ _ _ hp.2.2
  obtain ⟨U, Ls, c0, s0⟩ := A
  dsimp only [Pt.U, Pt.locs, Pt.cells, Pt.slots] at h1 h2 h3 h4 h5 X hn hPc ⊢
  obtain ⟨methY, cY, hmY, hcY, -, hlY, -, -, -, -⟩ := Cond.code_spec hn h2
  obtain ⟨kY, hkY, -⟩ := className_of_methodNamed hn
  have hinitY : kY.init = .initialized := Cond.initialized_spec (findClass_of_methodNamed hn) hkY h3
  have h : At U g.method c below := by rw [hg]; exact X.here
  have hlocals9 : W9 + (maxL + 11) + (headSpec ws rm).room.locals ≤ R.locals := hlocals
  have happ : (headSpec ws rm).appliesLoose y e.platform (U.calling g mk a) = true :=
    Spec.appliesLoose_calling (g := g) h hdg hn hkY hinitY
      (X.room_calling (g := g) (R' := (headSpec ws rm).room) hsize hmY hcY hframes (by rw [hlY]; omega) h4 h5) h1
  obtain ⟨mid, hmid⟩ := h.above
  have hfr : (U.setTop g).frames = (.java g :: mid) ++ below := by rw [State.frames_setTop' g h.top, hmid]; rfl
  obtain ⟨o, s₂, hsteps, -, hend, hq⟩ := Steps.callFree hM p X.admits X.cas X.clock (acts := []) hfr happ hPc trivial
  have hq' : vx_Q Qc XC mc ms free a (U.calling g mk a) o s₂ := hq
  rw [State.frames_setTop' g h.top] at hend
  obtain ⟨g₀, hg0⟩ := Option.isSome_iff_exists.mp h.top
  obtain ⟨r, hr⟩ := State.topJava?_eq_some.mp hg0
  have hr' : (({ U with heap := s₂.heap, slotsUsed := s₂.slotsUsed } : State).setVm s₂.vm).frames = .java g₀ :: r := hr
  rcases hq' with ⟨hqc, L, hfe, hL⟩ | ⟨q, rfl, E, ce, L, hx, hce, hcv, hcl, hW₂, hsm, hL⟩
  · obtain ⟨⟨v, rfl⟩, hW₂, e2, q2, q3, q4, q5, q6⟩ := id hfe
    have e3 : s₂ = ({ (U.calling g mk a).setFrames s₂.frames with heap := s₂.heap, slotsUsed := s₂.slotsUsed } : State).setVm s₂.vm := by
      have : s₂ = ({ s₂ with vm := (U.calling g mk a).vm } : State).setVm s₂.vm := rfl
      rw [e2] at this
      exact this
    obtain ⟨c₂, i₂, len₂, hc₂, hd₂, hf₂⟩ := hend
    have hW' : U.WarmedH s₂.vm := hW₂
    have hcc : c₂ = c := by
      have h1 : s₂.code? g.method = U.code? g.method := by
        rw [State.code?_eq, State.code?_eq, hW'.alike.method?]
      exact Option.some.inj (hc₂.symm.trans (h1.trans h.code))
    subst hcc
    have hlen : len₂ = len := by rw [hdg] at hd₂; cases hd₂; rfl
    subst hlen
    have hs₂ : s₂ = (({ U with heap := s₂.heap, slotsUsed := s₂.slotsUsed } : State).setVm s₂.vm).setTop { g with pc := g.pc + len₂, stack := v.toList ++ g.stack } := by
      refine e3.trans ?_
      rw [hf₂, State.calling_eq h.top, State.setFrames_setFrames, State.setTop_of_frames _ hr', hr]
      rfl
    have hsame : U.sameButNew ({ U with heap := s₂.heap, slotsUsed := s₂.slotsUsed } : State) L mc ms := by
      refine ⟨?_, q2, q3, q4, q5, q6⟩
      obtain ⟨t, ht, -⟩ := State.frames_cons hr
      show ({ U with heap := s₂.heap, slotsUsed := s₂.slotsUsed } : State) = { U.setFrames U.frames with heap := s₂.heap, slotsUsed := s₂.slotsUsed }
      rw [State.setFrames_self ht]
    subst hg
    refine Or.inl ⟨v, ⟨(({ U with heap := s₂.heap, slotsUsed := s₂.slotsUsed } : State).setVm s₂.vm), Ls ++ L, c0 + mc, s0 + ms⟩,
      ⟨X.admits, X.cas, X.clock, X.frames, X.room, X.hears, X.method, X.code, (X.here.setHeapUsed s₂.heap s₂.slotsUsed).setVm hW'.alike, X.tail, State.WarmedH.trans X.warmed hW', X.limits, X.bytes, X.same.trans (hsame.setVm s.vm)⟩,
      ⟨g, mk, s₂, L, rfl, rfl, hqc, rfl, hL, rfl, rfl⟩, ?_⟩
    show Steps p.tables e below _ ((({ U with heap := s₂.heap, slotsUsed := s₂.slotsUsed } : State).setVm s₂.vm).setTop { g with pc := g.pc + len₂, stack := v.toList ++ g.stack })
    rw [← hs₂]
    exact hsteps
  · obtain ⟨e2, q2, q3, q4, q5, q6⟩ := id hsm
    have e3 : s₂ = ({ (U.calling g mk a).setFrames s₂.frames with heap := s₂.heap, slotsUsed := s₂.slotsUsed } : State).setVm s₂.vm := by
      have : s₂ = ({ s₂ with vm := (U.calling g mk a).vm } : State).setVm s₂.vm := rfl
      rw [e2] at this
      exact this
    have hf₂ : s₂.frames = .throwing q :: .java g :: U.frames.tail := hend
    have hW' : U.WarmedH s₂.vm := hW₂
    have hs₂ : s₂ = ((({ U with heap := s₂.heap, slotsUsed := s₂.slotsUsed } : State).setVm s₂.vm).setTop g).pushFrame (.throwing q) := by
      refine e3.trans ?_
      rw [hf₂, State.calling_eq h.top, State.setFrames_setFrames, State.pushFrame, State.frames_setTop _ hr', State.setTop_of_frames _ hr', State.setFrames_setFrames, hr]
      rfl
    have hsame : U.sameButNew ({ U with heap := s₂.heap, slotsUsed := s₂.slotsUsed } : State) L mc ms := by
      refine ⟨?_, q2, q3, q4, q5, q6⟩
      obtain ⟨t, ht, -⟩ := State.frames_cons hr
      show ({ U with heap := s₂.heap, slotsUsed := s₂.slotsUsed } : State) = { U.setFrames U.frames with heap := s₂.heap, slotsUsed := s₂.slotsUsed }
      rw [State.setFrames_self ht]
    subst hg
    refine Or.inr ⟨q, ⟨(({ U with heap := s₂.heap, slotsUsed := s₂.slotsUsed } : State).setVm s₂.vm), Ls ++ L, c0 + mc, s0 + ms⟩,
      ⟨X.admits, X.cas, X.clock, X.frames, X.room, X.hears, X.method, X.code, (X.here.setHeapUsed s₂.heap s₂.slotsUsed).setVm hW'.alike, X.tail, State.WarmedH.trans X.warmed hW', X.limits, X.bytes, X.same.trans (hsame.setVm s.vm)⟩,
      ⟨g, mk, s₂, L, E, ce, rfl, rfl, hx, hce, hcv, hcl, rfl, hL, rfl, rfl⟩, ?_⟩
    show Steps p.tables e below _ (((({ U with heap := s₂.heap, slotsUsed := s₂.slotsUsed } : State).setVm s₂.vm).setTop g).pushFrame (.throwing q))
    rw [← hs₂]
    exact hsteps
end Payer
section Calls
variable {p : Program} {l : Launch} {e : Env} {R : Room} {s : State} {m : MethodId} {args : Array Value} {below : List Frame} {meth : Method} {c : Code} {T : State} {locs : List Loc} {cells slots : Nat}
theorem vx_callV (X : Stand p l e R s m args below meth c T locs cells slots) (hexec : p.tables.exec = Jvm.exec) {own C : String} {index : Nat} {y : MethodName} {bytes : ByteArray} {maxL : Nat} {ret : Option FieldType}
    (hown : s.vm.findClass own = some m.cls) (hlink : (Cond.methodLink own index y).before args s = true) (hinst : (Cond.instanceMethod y).before args s = true) (hsel : (Cond.selects C y y).before args s = true)
    (hcode : (Cond.code y bytes maxL ret).before args s = true) (hy : y.cls ≠ "java/lang/invoke/MethodHandle" ∧ y.cls ≠ "java/lang/invoke/VarHandle")
    {W9 : Nat} {Pre : Pt → Array Value → Prop} {Post : Pt → Array Value → Option Value → Pt → Prop} {PostX : Pt → Array Value → Addr → Pt → Prop} (hK : vx_Back l R p e below s args y 3 W9 Pre Post PostX)
    {b : Addr} {cellB : Cell} (hcell : T.heap[b]? = some cellB) (hobj : cellB.vm.isStatics = false) (hcls : s.vm.findClass C = some cellB.cls)
    {g : JFrame} (hg : g.method = m) (hsize : g.locals.size = c.maxLocals) {argsL rest : List Value} (hlen : ∀ sig, parseMethodDescriptor y.desc = some sig → argsL.length = sig.parameters.length)
    (hstack : g.stack = argsL.reverse ++ .ref b :: rest) (hW : 2 * g.monitorRoom + (rest.map fun v => v.category).sum ≤ W9) (hdg : decode c.code g.pc = .ok (.invokevirtual index, 3))
    (hpre : ∀ vm₁, s.WarmedH vm₁ → Pre ⟨T.setVm vm₁, locs, cells, slots⟩ (Value.ref b :: argsL).toArray) :
    (∃ (v : Option Value) (vm₁ : Vm) (B : Pt), s.WarmedH vm₁ ∧ Stand p l e R s m args below meth c B.U B.locs B.cells B.slots ∧ Post ⟨T.setVm vm₁, locs, cells, slots⟩ (Value.ref b :: argsL).toArray v B ∧
      ∀ target, Steps p.tables e below (B.U.setTop { g with pc := g.pc + 3, stack := v.toList ++ rest }) target → Steps p.tables e below (T.setTop g) target) ∨
    (∃ (q : Addr) (vm₁ : Vm) (B : Pt), s.WarmedH vm₁ ∧ Stand p l e R s m args below meth c B.U B.locs B.cells B.slots ∧ PostX ⟨T.setVm vm₁, locs, cells, slots⟩ (Value.ref b :: argsL).toArray q B ∧
      Steps p.tables e below (T.setTop g) ((B.U.setTop { g with stack := rest }).pushFrame (.throwing q))) := by
  obtain ⟨mk, methM, hnamed, hmethM, hstM, habM⟩ := Cond.instanceMethod_spec hinst
  obtain ⟨methM', cM, hmethM', -, -, -, -, -, -, hsigM⟩ := Cond.code_spec hnamed hcode
  cases hmethM.symm.trans hmethM'
  obtain ⟨c2, r2, m2, q1, q2, q3, q4, kP, hkP, hkPi⟩ := Cond.selects_spec hsel
  cases hcls.symm.trans q1
  cases (State.methodFound?_of_named hnamed hy).symm.trans q2
  cases hnamed.symm.trans q3
  have hselP : selectMethod e.platform s.vm cellB.cls mk = .method mk := by rw [Launch.admits_selectMethod X.admits]; exact q4
  obtain ⟨vm₁, X₁, hstep₁⟩ := X.invokevirtual hexec hown hlink hnamed hmethM hstM hkP hkPi hy (a := b) (cell := cellB) hcell
    (fun z h => by rw [h] at hobj; cases hobj) hselP hmethM habM hkP hkPi (g := g) hg (argsL := argsL) (rest := rest) (hlen _ hsigM) hstack hdg
  rcases hK m meth c ⟨T.setVm vm₁, locs, cells, slots⟩ { g with stack := rest } (.invokevirtual index) mk (Value.ref b :: argsL).toArray X₁ hg hsize hdg hW (X₁.named hnamed) (hpre vm₁ X₁.warmed) with ⟨v, B, X', hpost, hsteps⟩ | ⟨q, B, X', hpost, hsteps⟩
  · exact Or.inl ⟨v, vm₁, B, X₁.warmed, X', hpost, fun target h => hstep₁ _ fun acts => by rw [doInvoke_state]; exact hsteps.trans h⟩
  · exact Or.inr ⟨q, vm₁, B, X₁.warmed, X', hpost, hstep₁ _ fun acts => by rw [doInvoke_state]; exact hsteps⟩
theorem vx_callS (X : Stand p l e R s m args below meth c T locs cells slots) (hexec : p.tables.exec = Jvm.exec) {own : String} {index : Nat} {y : MethodName} {bytes : ByteArray} {maxL : Nat} {ret : Option FieldType}
    (hown : s.vm.findClass own = some m.cls) (hlink : (Cond.methodLink own index y).before args s = true) (hstat : (Cond.static y).before args s = true) (hinit : (Cond.initialized y.cls).before args s = true)
    (hcode : (Cond.code y bytes maxL ret).before args s = true) (hy : y.cls ≠ "java/lang/invoke/MethodHandle" ∧ y.cls ≠ "java/lang/invoke/VarHandle")
    {W9 : Nat} {Pre : Pt → Array Value → Prop} {Post : Pt → Array Value → Option Value → Pt → Prop} {PostX : Pt → Array Value → Addr → Pt → Prop} (hK : vx_Back l R p e below s args y 3 W9 Pre Post PostX)
    {g : JFrame} (hg : g.method = m) (hsize : g.locals.size = c.maxLocals) {argsL rest : List Value} (hlen : ∀ sig, parseMethodDescriptor y.desc = some sig → argsL.length = sig.parameters.length)
    (hstack : g.stack = argsL.reverse ++ rest) (hW : 2 * g.monitorRoom + (rest.map fun v => v.category).sum ≤ W9) (hdg : decode c.code g.pc = .ok (.invokestatic index, 3))
    (hpre : ∀ vm₁, s.WarmedH vm₁ → Pre ⟨T.setVm vm₁, locs, cells, slots⟩ argsL.toArray) :
    (∃ (v : Option Value) (vm₁ : Vm) (B : Pt), s.WarmedH vm₁ ∧ Stand p l e R s m args below meth c B.U B.locs B.cells B.slots ∧ Post ⟨T.setVm vm₁, locs, cells, slots⟩ argsL.toArray v B ∧
      ∀ target, Steps p.tables e below (B.U.setTop { g with pc := g.pc + 3, stack := v.toList ++ rest }) target → Steps p.tables e below (T.setTop g) target) ∨
    (∃ (q : Addr) (vm₁ : Vm) (B : Pt), s.WarmedH vm₁ ∧ Stand p l e R s m args below meth c B.U B.locs B.cells B.slots ∧ PostX ⟨T.setVm vm₁, locs, cells, slots⟩ argsL.toArray q B ∧
      Steps p.tables e below (T.setTop g) ((B.U.setTop { g with stack := rest }).pushFrame (.throwing q))) := by
  obtain ⟨mk, hnamed⟩ := Cond.code_named hcode
  obtain ⟨methM, cM, hmethM, -, -, -, -, -, -, hsigM⟩ := Cond.code_spec hnamed hcode
  have hstatic : methM.isStatic = true := Cond.static_spec hnamed hmethM hstat
  obtain ⟨kP, hkP, -⟩ := className_of_methodNamed hnamed
  have hinitP : kP.init = .initialized := Cond.initialized_spec (findClass_of_methodNamed hnamed) hkP hinit
  obtain ⟨vm₁, X₁, hstep₁⟩ := X.invokestatic hexec hown hlink hnamed hmethM hstatic hkP hinitP hy (g := g) hg (argsL := argsL) (rest := rest) (hlen _ hsigM) hstack hdg
  rcases hK m meth c ⟨T.setVm vm₁, locs, cells, slots⟩ { g with stack := rest } (.invokestatic index) mk argsL.toArray X₁ hg hsize hdg hW (X₁.named hnamed) (hpre vm₁ X₁.warmed) with ⟨v, B, X', hpost, hsteps⟩ | ⟨q, B, X', hpost, hsteps⟩
  · exact Or.inl ⟨v, vm₁, B, X₁.warmed, X', hpost, fun target h => hstep₁ _ fun acts => by rw [doInvoke_state]; exact hsteps.trans h⟩
  · exact Or.inr ⟨q, vm₁, B, X₁.warmed, X', hpost, hstep₁ _ fun acts => by rw [doInvoke_state]; exact hsteps⟩
end Calls
theorem vx_cls {s : State} {T : State} {vm₁ : Vm} {E : String} {k : ClassId} (hW : s.WarmedH vm₁) (h : (T.setVm vm₁).vm.findClass E = some k) : s.vm.findClass E = some k := by
  have h1 : vm₁.findClass E = some k := h
  rw [hW.alike.findClass] at h1
  exact h1
/-- the method's frame g, with q thrown over it -/
def vx_W (p : Program) (l : Launch) (e : Env) (R : Room) (s : State) (m : MethodId) (args : Array Value) (below : List Frame) (meth : Method) (c : Code) (H : Heap) (locs : List Loc) (cells slots : Nat) (Q : State → Prop) (g : JFrame) (q : Addr) : Prop :=
  ∀ T : State, T.heap = H → Stand p l e R s m args below meth c T locs cells slots → ∃ t, Steps p.tables e below ((T.setTop g).pushFrame (.throwing q)) t ∧ Q t
def vx_Run (p : Program) (l : Launch) (e : Env) (R : Room) (s : State) (m : MethodId) (args : Array Value) (below : List Frame) (meth : Method) (c : Code) (H : Heap) (locs : List Loc) (cells slots mc ms : Nat) (g : JFrame) (rest : List Value) (Qa : State → Outcome → State → Prop) (XC : String → State → State → Prop) (free : Addr → Prop) : Prop :=
  ∀ T : State, T.heap = H → Stand p l e R s m args below meth c T locs cells slots →
    (∃ (v : Option Value) (st₀ t T' : State) (L : List Loc), st₀.heap = H ∧ Stand p l e R s m args below meth c T' (locs ++ L) (cells + mc) (slots + ms) ∧ (∀ q ∈ L, free q.base) ∧ T'.heap = t.heap ∧ T'.vm = t.vm ∧ Qa st₀ (.returned v) t ∧
      Goes p e below T g T' { g with pc := g.pc + 3, stack := v.toList ++ rest }) ∨
    (∃ (q : Addr) (st₀ t T' : State) (L : List Loc) (E : String) (ce : Cell), st₀.heap = H ∧ Stand p l e R s m args below meth c T' (locs ++ L) (cells + mc) (slots + ms) ∧ (∀ z ∈ L, free z.base) ∧ T'.heap = t.heap ∧ T'.vm = t.vm ∧ XC E st₀ t ∧ t.heap[q]? = some ce ∧ ce.vm = .none ∧ s.vm.findClass E = some ce.cls ∧
      Steps p.tables e below (T.setTop g) ((T'.setTop { g with stack := rest }).pushFrame (.throwing q)))
def vx_X {S : Type} (px : S → Prop) (B : String → S → State → Prop) (A : Nat → Prop) : String → State → State → Prop := fun E st t => ∃ u : S, px u ∧ B E u t ∧ va_F A st t
section Runs
variable {p : Program} {l : Launch} {e : Env} {R : Room} {s : State} {m : MethodId} {args : Array Value} {below : List Frame} {meth : Method} {c : Code} {H : Heap} {locs : List Loc} {cells slots : Nat}
variable {y : MethodName} {bytes cc : ByteArray} {maxL nL mc ms n index : Nat} {ret : Option FieldType} {ws : List Cond} {rm : Room} {Pc : Array Value → State → Prop} {Qc : Array Value → State → Outcome → State → Prop} {XC : String → State → State → Prop} {free : Addr → Prop} {Ts : List Cond} {own C : String} {b : Addr} {As rest : List Value} {g : JFrame}
theorem vx_callBack (cb : CallB R s args own index y bytes maxL ret ws rm mc ms n) (hM : vx_Met l y ws rm Pc Qc XC mc ms free) (hbl : FrameBlind Pc) : vx_Back l R p e below s args y 3 8 (PreOf R mc ms Pc) (PostOf Qc mc ms free) (vx_Post XC mc ms free) := by
  obtain ⟨hrc, hrs, hfr, hlo, hws, hcw, -, hini, -⟩ := cb
  exact vx_back (bytes := bytes) (maxL := maxL) (ret := ret) hM hbl hrc hrs hfr hlo hws hcw (fun a' U hW => word_at hW (Or.inl (by first | rfl | simp [Cond.onTables, Cond.keeps, Cond.steady])) hini)
theorem vx_runV (S : CallFix p m c cc nL s args Ts own) (hM : vx_Met l y ws rm Pc Qc XC mc ms free) (cw : CallW R s args own C index y bytes maxL ret ws rm mc ms n) (hp : PreV s H C b Pc As)
    (hg : g.method = m) (hn : As.length = n) (hsize : g.locals.size = nL) (hstack : g.stack = As.reverse ++ .ref b :: rest) (hW : 2 * g.monitorRoom + (rest.map fun v => v.category).sum ≤ 8) (hdg : decode cc g.pc = .ok (.invokevirtual index, 3)) (hf : cells + mc ≤ R.cells ∧ slots + ms ≤ R.slots) :
    vx_Run p l e R s m args below meth c H locs cells slots mc ms g rest (Qc (Value.ref b :: As).toArray) XC free := by
  have hK : vx_Back l R p e below s args y 3 8 (PreOf R mc ms Pc) (PostOf Qc mc ms free) (vx_Post XC mc ms free) := vx_callBack cw.1 hM hp.1
  obtain ⟨⟨-, -, -, -, -, -, hcode, -, hy, hlen, hl⟩, hin, hse⟩ := cw
  obtain ⟨hx, hb, hml, ho, -⟩ := S
  obtain ⟨-, ⟨cellB, hcB, hoB, hclB⟩, hPc⟩ := hp
  intro T hT X
  rcases vx_callV X hx (C := C) (bytes := bytes) (maxL := maxL) (ret := ret) ho hl hin hse hcode hy hK (by rw [hT]; exact hcB) hoB hclB hg (hsize.trans hml.symm) (argsL := As) (rest := rest) (fun sig h => hn.trans (hlen sig h)) hstack hW (by rw [hb]; exact hdg)
    (fun vm₁ hW₁ => ⟨hf.1, hf.2, hPc (T.setVm vm₁) hT hW₁⟩) with ⟨v, vm₁, ⟨U', l2, c2, s2⟩, hW₁, X', ⟨g', mk, t, L, e1, e2, hq, h1, hL, h2, h3⟩, st⟩ | ⟨q, vm₁, ⟨U', l2, c2, s2⟩, hW₁, X', ⟨g', mk, t, L, E, ce, e1, e2, hq, hce, hcv, hcl, h1, hL, h2, h3⟩, st⟩
  · dsimp only [Pt.U, Pt.locs, Pt.cells, Pt.slots] at X' e1 e2 h1 h2 h3 st
    subst h1; subst h2; subst h3
    exact Or.inl ⟨v, (T.setVm vm₁).calling g' mk (Value.ref b :: As).toArray, t, U', L, hT, X', hL, e1, e2, hq, st⟩
  · dsimp only [Pt.U, Pt.locs, Pt.cells, Pt.slots] at X' e1 e2 h1 h2 h3 st hcl
    subst h1; subst h2; subst h3
    exact Or.inr ⟨q, (T.setVm vm₁).calling g' mk (Value.ref b :: As).toArray, t, U', L, E, ce, hT, X', hL, e1, e2, hq, hce, hcv, vx_cls hW₁ hcl, st⟩
theorem vx_runS (S : CallFix p m c cc nL s args Ts own) (hM : vx_Met l y ws rm Pc Qc XC mc ms free) (cw : CallB R s args own index y bytes maxL ret ws rm mc ms n ∧ (Cond.static y).before args s = true) (hp : PreS s H Pc As)
    (hg : g.method = m) (hn : As.length = n) (hsize : g.locals.size = nL) (hstack : g.stack = As.reverse ++ rest) (hW : 2 * g.monitorRoom + (rest.map fun v => v.category).sum ≤ 8) (hdg : decode cc g.pc = .ok (.invokestatic index, 3)) (hf : cells + mc ≤ R.cells ∧ slots + ms ≤ R.slots) :
    vx_Run p l e R s m args below meth c H locs cells slots mc ms g rest (Qc As.toArray) XC free := by
  have hK : vx_Back l R p e below s args y 3 8 (PreOf R mc ms Pc) (PostOf Qc mc ms free) (vx_Post XC mc ms free) := vx_callBack cw.1 hM hp.1
  obtain ⟨⟨-, -, -, -, -, -, hcode, hini, hy, hlen, hl⟩, hstt⟩ := cw
  obtain ⟨hx, hb, hml, ho, -⟩ := S
  intro T hT X
  rcases vx_callS X hx (bytes := bytes) (maxL := maxL) (ret := ret) ho hl hstt hini hcode hy hK hg (hsize.trans hml.symm) (argsL := As) (rest := rest) (fun sig h => hn.trans (hlen sig h)) hstack hW (by rw [hb]; exact hdg)
    (fun vm₁ hW₁ => ⟨hf.1, hf.2, hp.2 (T.setVm vm₁) hT hW₁⟩) with ⟨v, vm₁, ⟨U', l2, c2, s2⟩, hW₁, X', ⟨g', mk, t, L, e1, e2, hq, h1, hL, h2, h3⟩, st⟩ | ⟨q, vm₁, ⟨U', l2, c2, s2⟩, hW₁, X', ⟨g', mk, t, L, E, ce, e1, e2, hq, hce, hcv, hcl, h1, hL, h2, h3⟩, st⟩
  · dsimp only [Pt.U, Pt.locs, Pt.cells, Pt.slots] at X' e1 e2 h1 h2 h3 st
    subst h1; subst h2; subst h3
    exact Or.inl ⟨v, (T.setVm vm₁).calling g' mk As.toArray, t, U', L, hT, X', hL, e1, e2, hq, st⟩
  · dsimp only [Pt.U, Pt.locs, Pt.cells, Pt.slots] at X' e1 e2 h1 h2 h3 st hcl
    subst h1; subst h2; subst h3
    exact Or.inr ⟨q, (T.setVm vm₁).calling g' mk As.toArray, t, U', L, E, ce, hT, X', hL, e1, e2, hq, hce, hcv, vx_cls hW₁ hcl, st⟩
end Runs
section Rows
variable {p : Program} {l : Launch} {e : Env} {R : Room} {s : State} {m : MethodId} {args : Array Value} {below : List Frame} {meth : Method} {c : Code} {H : Heap} {locs : List Loc} {cells slots : Nat} {Q : State → Prop}
variable {mc ms : Nat} {free : Addr → Prop} {A0 A1 : Nat → Prop} {H0 : Heap} {a : Array Value} {pc : Nat} {ls : Array Slot} {st0 rest : List Value}
theorem vx_keep {st₀ t T' : State} {L : List Loc} (h0 : st₀.heap = H) (e1 : T'.heap = t.heap) (hS : va_S A0 H0 H locs) (hA : ∀ q, q < H.size → A1 q → A0 q) (hf : ∀ q, free q → A0 q) (hL : ∀ q ∈ L, free q.base) (hF : va_F A1 st₀ t) :
    H.size ≤ T'.heap.size ∧ (∀ q : Nat, q < H.size → ¬ A1 q → T'.heap[q]? = H[q]?) ∧ va_S A0 H0 T'.heap (locs ++ L) := by
  obtain ⟨hz, hk⟩ := hF
  rw [h0] at hz hk
  exact ⟨by rw [e1]; exact hz, fun q h1 h2 => by rw [e1]; exact hk q h1 h2,
    ⟨Nat.le_trans hS.1 (by rw [e1]; exact hz), fun q h1 h2 => by rw [e1, hk q (Nat.lt_of_lt_of_le h1 hS.1) (fun z => h2 (hA q (Nat.lt_of_lt_of_le h1 hS.1) z))]; exact hS.2.1 q h1 h2, fun q hq => by
      rcases List.mem_append.mp hq with h | h
      · exact hS.2.2 q h
      · exact hf _ (hL q h)⟩⟩
theorem vx_calli {S SX : Type} {post : Int32 → S → Prop} {px : SX → Prop} {B : S → State → Prop} {BX : String → SX → State → Prop} {AX : Nat → Prop} (hr : vx_Run p l e R s m args below meth c H locs cells slots mc ms (F0 m pc ls st0) rest (va_Qi post B A1 a) (vx_X px BX AX) free) (hS : va_S A0 H0 H locs) (hA : ∀ q, q < H.size → A1 q → A0 q) (hf : ∀ q, free q → A0 q) (hAX : ∀ q, q < H.size → AX q → A0 q)
    (kx : ∀ (E : String) (ce : Cell) (q9 : Addr) (u : SX) (t : State) (H1 : Heap) (locs1 : List Loc), t.heap = H1 → s.vm.Alike t.vm → px u → BX E u t → H.size ≤ H1.size → (∀ q : Nat, q < H.size → ¬ AX q → H1[q]? = H[q]?) → va_S A0 H0 H1 locs1 → H1[q9]? = some ce → ce.vm = .none → s.vm.findClass E = some ce.cls → vx_W p l e R s m args below meth c H1 locs1 (cells + mc) (slots + ms) Q (F0 m pc ls rest) q9)
    (kk : ∀ (r : Int32) (u : S) (t : State) (H1 : Heap) (locs1 : List Loc), t.heap = H1 → s.vm.Alike t.vm → post r u → B u t → H.size ≤ H1.size → (∀ q : Nat, q < H.size → ¬ A1 q → H1[q]? = H[q]?) → va_S A0 H0 H1 locs1 → W p l e R s m args below meth c H1 locs1 (cells + mc) (slots + ms) Q (F0 m (pc + 3) ls (.int r :: rest))) : W p l e R s m args below meth c H locs cells slots Q (F0 m pc ls st0) := by
  intro T hT X
  rcases hr T hT X with ⟨v, st₀, t, T', L, h0, X', hL, e1, e2, ⟨⟨r, u, hv, hp, hb⟩, hF⟩, st⟩ | ⟨q, st₀, t, T', L, E, ce, h0, X', hL, e1, e2, ⟨u, hp, hb, hF⟩, hce, hcv, hcl, st⟩
  · cases hv
    obtain ⟨k1, k2, k3⟩ := vx_keep h0 e1 hS hA hf hL hF
    obtain ⟨t2, a1, b1⟩ := kk r u t T'.heap (locs ++ L) e1.symm (by rw [← e2]; exact X'.warmed.alike) hp hb k1 k2 k3 T' rfl X'
    exact ⟨t2, st t2 a1, b1⟩
  · obtain ⟨k1, k2, k3⟩ := vx_keep h0 e1 hS hAX hf hL hF
    obtain ⟨t2, a1, b1⟩ := kx E ce q u t T'.heap (locs ++ L) e1.symm (by rw [← e2]; exact X'.warmed.alike) hp hb k1 k2 k3 (by rw [e1]; exact hce) hcv hcl T' rfl X'
    exact ⟨t2, st.trans a1, b1⟩
theorem vx_calll {S SX : Type} {post : Int64 → S → Prop} {px : SX → Prop} {B : S → State → Prop} {BX : String → SX → State → Prop} {AX : Nat → Prop} (hr : vx_Run p l e R s m args below meth c H locs cells slots mc ms (F0 m pc ls st0) rest (va_Ql post B A1 a) (vx_X px BX AX) free) (hS : va_S A0 H0 H locs) (hA : ∀ q, q < H.size → A1 q → A0 q) (hf : ∀ q, free q → A0 q) (hAX : ∀ q, q < H.size → AX q → A0 q)
    (kx : ∀ (E : String) (ce : Cell) (q9 : Addr) (u : SX) (t : State) (H1 : Heap) (locs1 : List Loc), t.heap = H1 → s.vm.Alike t.vm → px u → BX E u t → H.size ≤ H1.size → (∀ q : Nat, q < H.size → ¬ AX q → H1[q]? = H[q]?) → va_S A0 H0 H1 locs1 → H1[q9]? = some ce → ce.vm = .none → s.vm.findClass E = some ce.cls → vx_W p l e R s m args below meth c H1 locs1 (cells + mc) (slots + ms) Q (F0 m pc ls rest) q9)
    (kk : ∀ (r : Int64) (u : S) (t : State) (H1 : Heap) (locs1 : List Loc), t.heap = H1 → s.vm.Alike t.vm → post r u → B u t → H.size ≤ H1.size → (∀ q : Nat, q < H.size → ¬ A1 q → H1[q]? = H[q]?) → va_S A0 H0 H1 locs1 → W p l e R s m args below meth c H1 locs1 (cells + mc) (slots + ms) Q (F0 m (pc + 3) ls (.long r :: rest))) : W p l e R s m args below meth c H locs cells slots Q (F0 m pc ls st0) := by
  intro T hT X
  rcases hr T hT X with ⟨v, st₀, t, T', L, h0, X', hL, e1, e2, ⟨⟨r, u, hv, hp, hb⟩, hF⟩, st⟩ | ⟨q, st₀, t, T', L, E, ce, h0, X', hL, e1, e2, ⟨u, hp, hb, hF⟩, hce, hcv, hcl, st⟩
  · cases hv
    obtain ⟨k1, k2, k3⟩ := vx_keep h0 e1 hS hA hf hL hF
    obtain ⟨t2, a1, b1⟩ := kk r u t T'.heap (locs ++ L) e1.symm (by rw [← e2]; exact X'.warmed.alike) hp hb k1 k2 k3 T' rfl X'
    exact ⟨t2, st t2 a1, b1⟩
  · obtain ⟨k1, k2, k3⟩ := vx_keep h0 e1 hS hAX hf hL hF
    obtain ⟨t2, a1, b1⟩ := kx E ce q u t T'.heap (locs ++ L) e1.symm (by rw [← e2]; exact X'.warmed.alike) hp hb k1 k2 k3 (by rw [e1]; exact hce) hcv hcl T' rfl X'
    exact ⟨t2, st.trans a1, b1⟩
theorem vx_callf {S SX : Type} {post : UInt32 → S → Prop} {px : SX → Prop} {B : S → State → Prop} {BX : String → SX → State → Prop} {AX : Nat → Prop} (hr : vx_Run p l e R s m args below meth c H locs cells slots mc ms (F0 m pc ls st0) rest (va_Qf post B A1 a) (vx_X px BX AX) free) (hS : va_S A0 H0 H locs) (hA : ∀ q, q < H.size → A1 q → A0 q) (hf : ∀ q, free q → A0 q) (hAX : ∀ q, q < H.size → AX q → A0 q)
    (kx : ∀ (E : String) (ce : Cell) (q9 : Addr) (u : SX) (t : State) (H1 : Heap) (locs1 : List Loc), t.heap = H1 → s.vm.Alike t.vm → px u → BX E u t → H.size ≤ H1.size → (∀ q : Nat, q < H.size → ¬ AX q → H1[q]? = H[q]?) → va_S A0 H0 H1 locs1 → H1[q9]? = some ce → ce.vm = .none → s.vm.findClass E = some ce.cls → vx_W p l e R s m args below meth c H1 locs1 (cells + mc) (slots + ms) Q (F0 m pc ls rest) q9)
    (kk : ∀ (r : UInt32) (u : S) (t : State) (H1 : Heap) (locs1 : List Loc), t.heap = H1 → s.vm.Alike t.vm → post r u → B u t → H.size ≤ H1.size → (∀ q : Nat, q < H.size → ¬ A1 q → H1[q]? = H[q]?) → va_S A0 H0 H1 locs1 → W p l e R s m args below meth c H1 locs1 (cells + mc) (slots + ms) Q (F0 m (pc + 3) ls (.float r :: rest))) : W p l e R s m args below meth c H locs cells slots Q (F0 m pc ls st0) := by
  intro T hT X
  rcases hr T hT X with ⟨v, st₀, t, T', L, h0, X', hL, e1, e2, ⟨⟨r, u, hv, hp, hb⟩, hF⟩, st⟩ | ⟨q, st₀, t, T', L, E, ce, h0, X', hL, e1, e2, ⟨u, hp, hb, hF⟩, hce, hcv, hcl, st⟩
  · cases hv
    obtain ⟨k1, k2, k3⟩ := vx_keep h0 e1 hS hA hf hL hF
    obtain ⟨t2, a1, b1⟩ := kk r u t T'.heap (locs ++ L) e1.symm (by rw [← e2]; exact X'.warmed.alike) hp hb k1 k2 k3 T' rfl X'
    exact ⟨t2, st t2 a1, b1⟩
  · obtain ⟨k1, k2, k3⟩ := vx_keep h0 e1 hS hAX hf hL hF
    obtain ⟨t2, a1, b1⟩ := kx E ce q u t T'.heap (locs ++ L) e1.symm (by rw [← e2]; exact X'.warmed.alike) hp hb k1 k2 k3 (by rw [e1]; exact hce) hcv hcl T' rfl X'
    exact ⟨t2, st.trans a1, b1⟩
theorem vx_calld {S SX : Type} {post : UInt64 → S → Prop} {px : SX → Prop} {B : S → State → Prop} {BX : String → SX → State → Prop} {AX : Nat → Prop} (hr : vx_Run p l e R s m args below meth c H locs cells slots mc ms (F0 m pc ls st0) rest (va_Qd post B A1 a) (vx_X px BX AX) free) (hS : va_S A0 H0 H locs) (hA : ∀ q, q < H.size → A1 q → A0 q) (hf : ∀ q, free q → A0 q) (hAX : ∀ q, q < H.size → AX q → A0 q)
    (kx : ∀ (E : String) (ce : Cell) (q9 : Addr) (u : SX) (t : State) (H1 : Heap) (locs1 : List Loc), t.heap = H1 → s.vm.Alike t.vm → px u → BX E u t → H.size ≤ H1.size → (∀ q : Nat, q < H.size → ¬ AX q → H1[q]? = H[q]?) → va_S A0 H0 H1 locs1 → H1[q9]? = some ce → ce.vm = .none → s.vm.findClass E = some ce.cls → vx_W p l e R s m args below meth c H1 locs1 (cells + mc) (slots + ms) Q (F0 m pc ls rest) q9)
    (kk : ∀ (r : UInt64) (u : S) (t : State) (H1 : Heap) (locs1 : List Loc), t.heap = H1 → s.vm.Alike t.vm → post r u → B u t → H.size ≤ H1.size → (∀ q : Nat, q < H.size → ¬ A1 q → H1[q]? = H[q]?) → va_S A0 H0 H1 locs1 → W p l e R s m args below meth c H1 locs1 (cells + mc) (slots + ms) Q (F0 m (pc + 3) ls (.double r :: rest))) : W p l e R s m args below meth c H locs cells slots Q (F0 m pc ls st0) := by
  intro T hT X
  rcases hr T hT X with ⟨v, st₀, t, T', L, h0, X', hL, e1, e2, ⟨⟨r, u, hv, hp, hb⟩, hF⟩, st⟩ | ⟨q, st₀, t, T', L, E, ce, h0, X', hL, e1, e2, ⟨u, hp, hb, hF⟩, hce, hcv, hcl, st⟩
  · cases hv
    obtain ⟨k1, k2, k3⟩ := vx_keep h0 e1 hS hA hf hL hF
    obtain ⟨t2, a1, b1⟩ := kk r u t T'.heap (locs ++ L) e1.symm (by rw [← e2]; exact X'.warmed.alike) hp hb k1 k2 k3 T' rfl X'
    exact ⟨t2, st t2 a1, b1⟩
  · obtain ⟨k1, k2, k3⟩ := vx_keep h0 e1 hS hAX hf hL hF
    obtain ⟨t2, a1, b1⟩ := kx E ce q u t T'.heap (locs ++ L) e1.symm (by rw [← e2]; exact X'.warmed.alike) hp hb k1 k2 k3 (by rw [e1]; exact hce) hcv hcl T' rfl X'
    exact ⟨t2, st.trans a1, b1⟩
theorem vx_callv {S SX : Type} {post : S → Prop} {px : SX → Prop} {B : S → State → Prop} {BX : String → SX → State → Prop} {AX : Nat → Prop} (hr : vx_Run p l e R s m args below meth c H locs cells slots mc ms (F0 m pc ls st0) rest (va_Qv post B A1 a) (vx_X px BX AX) free) (hS : va_S A0 H0 H locs) (hA : ∀ q, q < H.size → A1 q → A0 q) (hf : ∀ q, free q → A0 q) (hAX : ∀ q, q < H.size → AX q → A0 q)
    (kx : ∀ (E : String) (ce : Cell) (q9 : Addr) (u : SX) (t : State) (H1 : Heap) (locs1 : List Loc), t.heap = H1 → s.vm.Alike t.vm → px u → BX E u t → H.size ≤ H1.size → (∀ q : Nat, q < H.size → ¬ AX q → H1[q]? = H[q]?) → va_S A0 H0 H1 locs1 → H1[q9]? = some ce → ce.vm = .none → s.vm.findClass E = some ce.cls → vx_W p l e R s m args below meth c H1 locs1 (cells + mc) (slots + ms) Q (F0 m pc ls rest) q9)
    (kk : ∀ (u : S) (t : State) (H1 : Heap) (locs1 : List Loc), t.heap = H1 → s.vm.Alike t.vm → post u → B u t → H.size ≤ H1.size → (∀ q : Nat, q < H.size → ¬ A1 q → H1[q]? = H[q]?) → va_S A0 H0 H1 locs1 → W p l e R s m args below meth c H1 locs1 (cells + mc) (slots + ms) Q (F0 m (pc + 3) ls (rest))) : W p l e R s m args below meth c H locs cells slots Q (F0 m pc ls st0) := by
  intro T hT X
  rcases hr T hT X with ⟨v, st₀, t, T', L, h0, X', hL, e1, e2, ⟨⟨u, hv, hp, hb⟩, hF⟩, st⟩ | ⟨q, st₀, t, T', L, E, ce, h0, X', hL, e1, e2, ⟨u, hp, hb, hF⟩, hce, hcv, hcl, st⟩
  · cases hv
    obtain ⟨k1, k2, k3⟩ := vx_keep h0 e1 hS hA hf hL hF
    obtain ⟨t2, a1, b1⟩ := kk u t T'.heap (locs ++ L) e1.symm (by rw [← e2]; exact X'.warmed.alike) hp hb k1 k2 k3 T' rfl X'
    exact ⟨t2, st t2 a1, b1⟩
  · obtain ⟨k1, k2, k3⟩ := vx_keep h0 e1 hS hAX hf hL hF
    obtain ⟨t2, a1, b1⟩ := kx E ce q u t T'.heap (locs ++ L) e1.symm (by rw [← e2]; exact X'.warmed.alike) hp hb k1 k2 k3 (by rw [e1]; exact hce) hcv hcl T' rfl X'
    exact ⟨t2, st.trans a1, b1⟩
/-- caught by the row x of this method's table; the rows ahead don't take it -/
theorem vx_catch {own name : String} {E : String} {ce : Cell} {q : Addr} (hown : s.vm.findClass own = some m.cls) (pre : List ExceptionTableEntry) (x : ExceptionTableEntry) (suf : List ExceptionTableEntry) (hsplit : c.exceptionTable.toList = pre ++ x :: suf)
    (hpass : ∀ z ∈ pre, covers z pc = false ∨ (z.catchType ≠ 0 ∧ ∃ nm : String, (Cond.classLink own z.catchType nm).before args s = true ∧ va_Nc E nm s)) (hx : covers x pc = true) (h0 : x.catchType ≠ 0)
    (hlink : (Cond.classLink own x.catchType name).before args s = true) (hcast : (Cond.castable E name).before args s = true) (hcell : H[q]? = some ce) (hv : ce.vm = .none) (hcl : s.vm.findClass E = some ce.cls)
    (kk : W p l e R s m args below meth c H locs cells slots Q (F0 m x.handlerPc ls [.ref q])) : vx_W p l e R s m args below meth c H locs cells slots Q (F0 m pc ls rest) q := by
  intro T hT X
  have hpl : e.platform.magicAccessors = ({} : Platform).magicAccessors := by rw [X.admits.platform]
  obtain ⟨c3, c4, hc3, hc4, hasg⟩ := Cond.castable_spec hcast
  cases Option.some.inj (hc3.symm.trans hcl)
  obtain ⟨c5, hc5, hcl5⟩ := Cond.classLink_spec hown hlink e.platform hpl
  cases Option.some.inj (hc4.symm.trans hc5)
  obtain ⟨vm', X', st⟩ := Stand.thenCaughtThrough X q (g := F0 m pc ls rest) rfl (Steps.refl _) (by rw [hT]; exact hcell) (by rw [hv]; rfl) (by obtain ⟨k9, h9, -⟩ := Vm.findClass_spec hcl; exact ⟨k9, h9⟩) pre x suf hsplit
    (fun z hz => by
      rcases hpass z hz with h | ⟨hz0, nm, hl1, hn1⟩
      · exact Or.inl h
      · obtain ⟨c6, hc6, hcl6⟩ := Cond.classLink_spec hown hl1 e.platform hpl
        obtain ⟨a8, b8, h1, h2, h3⟩ := hn1
        cases Option.some.inj (h1.symm.trans hcl)
        cases Option.some.inj (h2.symm.trans hc6)
        exact Or.inr ⟨hz0, _, hcl6, h3⟩) hx (Or.inr ⟨h0, c4, hcl5, hasg⟩)
  obtain ⟨t, a1, b1⟩ := kk (T.setVm vm') hT X'
  exact ⟨t, st.trans a1, b1⟩
end Rows
section Ends
variable {p : Program} {l : Launch} {e : Env} {R : Room} {s : State} {m : MethodId} {args : Array Value} {below : List Frame} {meth : Method} {c : Code} {H : Heap} {locs : List Loc} {cells slots : Nat} {Q : State → Prop}
variable {mc ms : Nat} {free : Addr → Prop} {A0 A1 : Nat → Prop} {H0 : Heap} {a : Array Value} {ls : Array Slot} {st0 rest : List Value}
variable {Qc : Array Value → State → Outcome → State → Prop} {XC : String → State → State → Prop}
/-- what a body that may throw owes at its end -/
def vx_MQ (below : List Frame) (Qc : Array Value → State → Outcome → State → Prop) (XC : String → State → State → Prop) (a : Array Value) (s : State) (mc ms : Nat) (free : Addr → Prop) : State → Prop := fun t =>
  ∃ o, t.status = .running ∧ Ended t below o ∧ vx_Q Qc XC mc ms free a s o t
theorem vx_ret {g : JFrame} {mc ms : Nat} (k : W p l e R s m args below meth c H locs cells slots (MQ below Qc args s mc ms free) g) : W p l e R s m args below meth c H locs cells slots (vx_MQ below Qc XC args s mc ms free) g := by
  intro T hT X
  obtain ⟨t, a1, o, b1, b2, b3, b4⟩ := k T hT X
  exact ⟨t, a1, o, b1, b2, Or.inl ⟨b3, b4⟩⟩
/-- not caught here: it goes on to the caller -/
theorem vx_widen {g : JFrame} {q : Addr} {k n : Nat} (h1 : cells ≤ k) (h2 : slots ≤ n) (kk : vx_W p l e R s m args below meth c H locs k n Q g q) : vx_W p l e R s m args below meth c H locs cells slots Q g q := fun T hT X => kk T hT (stand_widen X h1 h2)
theorem vx_out {pc : Nat} {E : String} {ce : Cell} {q : Addr} {mc ms : Nat} (hout : ∀ x ∈ c.exceptionTable.toList, covers x pc = false) (hlocks : meth.locks = false) (hcell : H[q]? = some ce) (hv : ce.vm = .none) (hcl : s.vm.findClass E = some ce.cls)
    (hx : ∀ t : State, t.heap = H → s.vm.Alike t.vm → XC E s t) (hf : ∀ z ∈ locs, free z.base) (hc : cells ≤ mc) (hs : slots ≤ ms) :
    vx_W p l e R s m args below meth c H locs cells slots (vx_MQ below Qc XC args s mc ms free) (F0 m pc ls rest) q := by
  intro T hT X
  obtain ⟨st1, hrun, hend, hW, hsm⟩ := X.leaveThrown q (g := F0 m pc ls rest) rfl rfl rfl hout hlocks
  have hcell9 : (T.setFrames (.throwing q :: below)).heap[q]? = some ce := by
    show T.heap[q]? = some ce
    rw [hT]; exact hcell
  exact ⟨_, st1, .threw q, hrun, hend, Or.inr ⟨q, rfl, E, ce, locs, hx _ hT hW.alike, hcell9, hv, hcl, hW, hsm.mono hc hs, hf⟩⟩
theorem vx_frame {U : State} {k n : Nat} (h : s.sameButNew ({ U with vm := s.vm } : State) locs k n) : s.heap.size ≤ U.heap.size ∧ ∀ q : Nat, q < s.heap.size → (∀ z ∈ locs, z.base ≠ q) → U.heap[q]? = s.heap[q]? := by
  obtain ⟨-, h2, -, -, -, h6⟩ := h
  refine ⟨h2, fun q hq hz => ?_⟩
  obtain ⟨c9, e1, e2, e3, e4⟩ := h6 q _ (Array.getElem?_eq_getElem hq)
  have hs : c9.slots = (s.heap[q]).slots := Array.ext_getElem? fun i => e4 i fun hm => hz _ hm rfl
  have h9 : c9 = s.heap[q] := by
    rw [hs] at e2
    exact e2
  have e5 : U.heap[q]? = some c9 := e1
  rw [e5, h9, Array.getElem?_eq_getElem hq]
/-- the words of a throw but the four that speak of the heap -/
def vx_no (w : Cond) : Bool := decide (w ≠ .isRef (.static Bundle.tN "UNASSIGNED_STACK" Bundle.steD)) && decide (w ≠ .isRef (.static Bundle.tN "SUPPRESSED_SENTINEL" Bundle.listD)) && decide (w ≠ .laysStatic Bundle.tN "UNASSIGNED_STACK" Bundle.steD) && decide (w ≠ .laysStatic Bundle.tN "SUPPRESSED_SENTINEL" Bundle.listD)
def vx_at0 (own : String) (ic : Nat) (X : String) (names : List String) : List Cond := (Bundle.ownAtoms0 own ic X names).filter vx_no
def vx_atS (own : String) (ic : Nat) (X : String) (names : List String) : List Cond := (Bundle.ownAtoms own ic X names).filter vx_no
/-- a word that the tables alone decide, or a good one -/
def vx_ot (w : Cond) : Bool := w.onTables || goodWord w
theorem vx_ot_at {args a' : Array Value} {s U : State} {w : Cond} (hW : s.WarmedH U.vm) (hvm : s.vm = U.vm) (hg : vx_ot w = true) (h : w.before args s = true) : w.before a' U = true := by
  simp only [vx_ot, Bool.or_eq_true] at hg
  rcases hg with hg | hg
  · exact va_tabs hg hvm h
  · exact word_at hW (good_of_word hg) h
/-- a list's words: the good ones out of the method's own list, the others by premises of their own -/
theorem vx_hat {args : Array Value} {s : State} {L B : List Cond} (h1 : ∀ w ∈ L.filter goodWord, w.before args s = true) (h2 : ∀ w ∈ L.filter (fun w => !goodWord w), w ∈ B) (h3 : ∀ w ∈ B, w.before args s = true) : ∀ w ∈ L, w.before args s = true := by
  intro w hw
  by_cases g : goodWord w = true
  · exact h1 w (List.mem_filter.mpr ⟨hw, g⟩)
  · refine h3 w (h2 w (List.mem_filter.mpr ⟨hw, ?_⟩))
    show (!goodWord w) = true
    cases hgw : goodWord w
    · rfl
    · exact absurd hgw g
theorem vx_c {args : Array Value} {s : State} {w : Cond} {B : List Cond} (h : w.before args s = true) (t : ∀ w ∈ B, w.before args s = true) : ∀ w' ∈ w :: B, w'.before args s = true := fun w' h' => (List.mem_cons.mp h').elim (fun e => by rw [e]; exact h) (t w')
theorem vx_n {args : Array Value} {s : State} : ∀ w ∈ ([] : List Cond), w.before args s = true := fun _ h => nomatch h
theorem vx_own {args : Array Value} {s : State} {L : List Cond} (h1 : ∀ w ∈ L.filter vx_no, w.before args s = true)
    (hU : (Cond.isRef (.static Bundle.tN "UNASSIGNED_STACK" Bundle.steD)).before args s = true) (hN : (Cond.isRef (.static Bundle.tN "SUPPRESSED_SENTINEL" Bundle.listD)).before args s = true)
    (lU : (Cond.laysStatic Bundle.tN "UNASSIGNED_STACK" Bundle.steD).before args s = true) (lN : (Cond.laysStatic Bundle.tN "SUPPRESSED_SENTINEL" Bundle.listD).before args s = true) : ∀ w ∈ L, w.before args s = true := by
  intro w hw
  by_cases e1 : w = .isRef (.static Bundle.tN "UNASSIGNED_STACK" Bundle.steD)
  · rw [e1]; exact hU
  · by_cases e2 : w = .isRef (.static Bundle.tN "SUPPRESSED_SENTINEL" Bundle.listD)
    · rw [e2]; exact hN
    · by_cases e3 : w = .laysStatic Bundle.tN "UNASSIGNED_STACK" Bundle.steD
      · rw [e3]; exact lU
      · by_cases e4 : w = .laysStatic Bundle.tN "SUPPRESSED_SENTINEL" Bundle.listD
        · rw [e4]; exact lN
        · exact h1 w (List.mem_filter.mpr ⟨hw, by unfold vx_no; rw [decide_eq_true e1, decide_eq_true e2, decide_eq_true e3, decide_eq_true e4]; rfl⟩)
/-- where a static field lies, its class's statics cell in H -/
def vx_L (C n d : String) (A : Nat → Prop) (U : State) (H : Heap) : Prop := ∃ (c : ClassId) (k : Class) (i : Nat) (f : Field) (a : Nat) (cell : Cell), U.vm.findClass C = some c ∧ U.fieldFound? C n d = some (c, k, i, f) ∧ f.isStatic = true ∧ k.statics = some a ∧ H[a]? = some cell ∧ cell.vm.isStatics = true ∧ cell.cls = c ∧ f.slot < cell.slots.size ∧ k.staticTypes[f.slot]? = some f.type ∧ ¬ A a
theorem vx_L.moved {C n d : String} {A : Nat → Prop} {u U : State} {H : Heap} (hvm : u.vm.Alike U.vm) (h : vx_L C n d A u H) : vx_L C n d A U H := by
  obtain ⟨c, k, i, f, a, cell, h1, h2, h3, h4, h5, h6, h7, h8, h9, h10⟩ := h
  obtain ⟨k', hi', he⟩ := State.fieldFound?_setVm hvm h2
  exact ⟨c, k', i, f, a, cell, by rw [hvm.findClass]; exact h1, hi', h3, by rw [he]; exact h4, h5, h6, h7, h8, by rw [he]; exact h9, h10⟩
theorem vx_L.kept {C n d : String} {A : Nat → Prop} {U : State} {H H1 : Heap} (h : vx_L C n d A U H) (hq : ∀ a : Nat, a < H.size → ¬ A a → H1[a]? = H[a]?) : vx_L C n d A U H1 := by
  obtain ⟨c, k, i, f, a, cell, h1, h2, h3, h4, h5, h6, h7, h8, h9, h10⟩ := h
  exact ⟨c, k, i, f, a, cell, h1, h2, h3, h4, by rw [hq a (Array.getElem?_eq_some_iff.mp h5).1 h10]; exact h5, h6, h7, h8, h9, h10⟩
theorem vx_L.narrow {C n d : String} {A B : Nat → Prop} {U : State} {H : Heap} (h : vx_L C n d A U H) (hAB : ∀ q, B q → A q) : vx_L C n d B U H := by
  obtain ⟨c, k, i, f, a, cell, h1, h2, h3, h4, h5, h6, h7, h8, h9, h10⟩ := h
  exact ⟨c, k, i, f, a, cell, h1, h2, h3, h4, h5, h6, h7, h8, h9, fun z => h10 (hAB _ z)⟩
theorem vx_L.word {C n d : String} {A : Nat → Prop} {s : State} {args : Array Value} (h : vx_L C n d A s s.heap) : (Cond.laysStatic C n d).before args s = true := by
  obtain ⟨c, k, i, f, a, cell, h1, h2, h3, h4, h5, h6, h7, h8, h9, -⟩ := h
  show (Cond.laysStatic C n d).holds args s none s [] = true
  exact Cond.laysStatic_of h1 h2 h3 h4 h5 h6 h7 h8 h9
/-- .. and what it holds: null or some reference -/
def vx_Zq (C n d : String) (A : Nat → Prop) (U : State) (H : Heap) : Prop := va_Zq C n d A U H ∧ vx_L C n d A U H
theorem vx_Zq.moved {C n d : String} {A : Nat → Prop} {u U : State} {H : Heap} (hvm : u.vm.Alike U.vm) (h : vx_Zq C n d A u H) : vx_Zq C n d A U H := ⟨va_Zq.moved hvm h.1, vx_L.moved hvm h.2⟩
theorem vx_Zq.kept {C n d : String} {A : Nat → Prop} {U : State} {H H1 : Heap} (h : vx_Zq C n d A U H) (hq : ∀ a : Nat, a < H.size → ¬ A a → H1[a]? = H[a]?) : vx_Zq C n d A U H1 := ⟨va_Zq.kept h.1 hq, vx_L.kept h.2 hq⟩
theorem vx_Zq.narrow {C n d : String} {A B : Nat → Prop} {U : State} {H : Heap} (h : vx_Zq C n d A U H) (hAB : ∀ q, B q → A q) : vx_Zq C n d B U H := ⟨va_Zq.narrow h.1 hAB, vx_L.narrow h.2 hAB⟩
theorem vx_Zqof {args : Array Value} {s : State} {C n d : String} {A : Nat → Prop} (hl : (Cond.laysStatic C n d).before args s = true) (hini : (Cond.initialized C).before args s = true) (h : (Cond.isRef (.static C n d)).before args s = true) (hA : ∀ a : Nat, a < s.heap.size → ¬ A a) : vx_Zq C n d A s s.heap := by
  refine ⟨va_Zqof hl hini h hA, ?_⟩
  obtain ⟨c, k, i, f, a, cell, h1, h2, h3, h4, h5, h6, h7, h8, h9⟩ := Cond.laysStatic_spec hl
  exact ⟨c, k, i, f, a, cell, h1, h2, h3, h4, h5, h6, h7, h8, h9, hA a (Array.getElem?_eq_some_iff.mp h5).1⟩
theorem vx_isRef {C n d : String} {v : Value} {A : Nat → Prop} {s : State} {args : Array Value} (h : va_Z C n d v A s s.heap) (hv : v.isRef = true) : (Cond.isRef (.static C n d)).before args s = true := by
  obtain ⟨cf, kf, fi, f, a, cell, h1, h2, h3, h4, h5, h6, h7, -⟩ := h
  have he : (Term.static C n d).eval args s none [] s = some v := by
    simp [Term.eval, State.fieldNamed?, h1, h2, h4, h5, h6, h7]
  simp only [Cond.before, Cond.holds, Cond.value, he]
  cases v <;> simp_all [Value.isRef]
theorem vx_isRefq {C n d : String} {A : Nat → Prop} {s : State} {args : Array Value} (h : va_Zq C n d A s s.heap) : (Cond.isRef (.static C n d)).before args s = true := by
  rcases h with h | ⟨t, h⟩
  · exact vx_isRef h rfl
  · exact vx_isRef h rfl
/-- the same frame, seen from here: as if the method were called anew in this heap -/
theorem vx_rebase {T : State} (X : Stand p l e R s m args below meth c T locs cells slots) {R' : Room} (hf : R'.frames ≤ R.frames) (hl : R'.locals ≤ R.locals) (hc : cells + R'.cells ≤ R.cells) (hs : slots + R'.slots ≤ R.slots) :
    Stand p l e R' ((T.setVm s.vm).setFrames (.invoking m args :: below)) m args below meth c T [] 0 0 := by
  have htop : (T.setVm s.vm).topJava?.isSome := X.here.top
  have hF : ((T.setVm s.vm).setFrames (.invoking m args :: below)).frames = .invoking m args :: below := State.frames_setFrames _ (State.cur_lt_of_top htop)
  obtain ⟨g₀, hg0⟩ := Option.isSome_iff_exists.mp htop
  obtain ⟨r, hr⟩ := State.topJava?_eq_some.mp hg0
  have hl9 : e.platform.stackLimits (T.setVm s.vm).me = e.platform.stackLimits s.me := X.limits
  have hb9 : (T.setVm s.vm).me.stackBytes = s.me.stackBytes := X.bytes
  refine ⟨X.admits, X.cas, X.clock, hF, ?_, X.hears, X.method, X.code, X.here, X.tail, X.warmed, ?_, ?_, ?_⟩
  · have h := X.room
    have hU : ((T.setVm s.vm).setFrames (.invoking m args :: below)).localsInUse = s.localsInUse := by
      rw [State.localsInUse_invoking hF (meth := meth) (c := c) X.method X.code, State.localsInUse_invoking X.frames X.method X.code]
    simp only [State.hasRoom, Bool.and_eq_true, decide_eq_true_eq] at h ⊢
    obtain ⟨⟨⟨⟨h1, h2, h3, h4, h5, h6⟩, h7⟩, h8⟩, h9⟩ := h
    rw [X.frames, List.length_cons] at h2 h3
    have q1 := X.heapSize
    have q2 := X.used
    simp only [hF, hU, List.length_cons, State.stackLimits_setFrames, State.stackBytes_setFrames, hl9, hb9]
    refine ⟨⟨⟨⟨by omega, by omega, by omega, by omega, by omega, h6⟩, ?_⟩, ?_⟩, X.book⟩
    · show T.heap.size + R'.cells ≤ e.platform.maxCells
      omega
    · show T.slotsUsed + R'.slots ≤ e.platform.maxSlots
      omega
  · rw [State.stackLimits_setFrames]; rfl
  · rw [State.stackBytes_setFrames]; rfl
  · refine ⟨?_, Nat.le_refl _, Nat.le_refl _, ?_, ?_, fun a c9 h9 => ⟨c9, h9, rfl, rfl, fun _ _ => rfl⟩⟩
    · obtain ⟨t, ht, -⟩ := State.frames_cons hr
      show T.setVm s.vm = { ((T.setVm s.vm).setFrames (.invoking m args :: below)).setFrames (T.setVm s.vm).frames with heap := T.heap, slotsUsed := T.slotsUsed }
      rw [State.setFrames_setFrames, State.setFrames_self ht]
      rfl
    · show T.slotsUsed = T.slotsUsed + ((T.heap.toList.drop T.heap.size).map (·.slots.size)).sum
      rw [List.drop_eq_nil_of_le (Nat.le_of_eq Array.length_toList)]
      rfl
    · show ((T.heap.toList.drop T.heap.size).map (·.slots.size)).sum ≤ 0
      rw [List.drop_eq_nil_of_le (Nat.le_of_eq Array.length_toList)]
      exact Nat.le_refl _
/-- 'throw new E()': new; dup; invokespecial; athrow -/
theorem vx_throw0 {cc : ByteArray} {pc : Nat} (hexec : p.tables.exec = Jvm.exec) (hb : c.code = cc) (hl : l.stackTraces = false) {own cls : String} {names : List String} {ik ic mc ms : Nat} {A : Nat → Prop}
    (hown : s.vm.findClass own = some m.cls) (hcls : Bundle.fit cls = true) (hnames : ∀ n ∈ names, Bundle.fit n = true)
    (hk : (Cond.classLink own ik cls).before args s = true) (hini : (Cond.initialized cls).before args s = true) (hat : ∀ w ∈ vx_at0 own ic cls names, w.before args s = true)
    (hgood : ∀ w ∈ Cond.classLink own ik cls :: Cond.initialized cls :: vx_at0 own ic cls names, vx_ot w = true)
    (hU : vx_Zq Bundle.tN "UNASSIGNED_STACK" Bundle.steD A s s.heap) (hN : vx_Zq Bundle.tN "SUPPRESSED_SENTINEL" Bundle.listD A s s.heap) (hS : va_S A s.heap H locs) (hsize : ls.size = c.maxLocals)
    (d0 : decode cc pc = .ok (.new ik, 3)) (d3 : decode cc (pc + 3) = .ok (.dup, 1)) (d4 : decode cc (pc + 4) = .ok (.invokespecial ic, 3)) (d7 : decode cc (pc + 7) = .ok (.athrow, 1))
    (hout : ∀ x ∈ c.exceptionTable.toList, covers x (pc + 7) = false)
    (hRframes : names.length + 3 < R.frames) (hRlocals : (rest.map fun v => v.category).sum + (13 * (names.length + 1) + 42) ≤ R.locals) (hRcells : cells + 1 ≤ R.cells) (hRslots : slots + 6 ≤ R.slots) (hlocks : meth.locks = false)
    (hx : ∀ t : State, s.vm.Alike t.vm → H.size ≤ t.heap.size → (∀ q : Nat, q < H.size → t.heap[q]? = H[q]?) → XC cls s t)
    (hf : ∀ z ∈ locs, free z.base) (hc : cells + 1 ≤ mc) (hs : slots + 6 ≤ ms) :
    W p l e R s m args below meth c H locs cells slots (vx_MQ below Qc XC args s mc ms free) (F0 m pc ls rest) := by
  intro T hT X
  have htr : e.platform.stackTraces = false := (show e.platform.stackTraces = l.stackTraces by rw [X.admits.platform]).trans hl
  have Y := vx_rebase X (R' := { frames := R.frames, locals := R.locals, cells := 1, slots := 6 }) (Nat.le_refl _) (Nat.le_refl _) hRcells hRslots
  obtain ⟨s', hA⟩ : ∃ z, z = (T.setVm s.vm).setFrames (.invoking m args :: below) := ⟨_, rfl⟩
  rw [← hA] at Y
  have hvm : s'.vm = s.vm := by rw [hA]; rfl
  have hhp : s'.heap = H := by rw [hA]; exact hT
  have hW0 : s.WarmedH s'.vm := by rw [hvm]; exact State.WarmedH.refl s
  have hat' : ∀ w ∈ vx_at0 own ic cls names, w.before args s' = true := fun w hw => vx_ot_at hW0 hvm.symm (hgood w (List.mem_cons_of_mem _ (List.mem_cons_of_mem _ hw))) (hat w hw)
  have hk' : (Cond.classLink own ik cls).before args s' = true := vx_ot_at hW0 hvm.symm (hgood _ List.mem_cons_self) hk
  have hini' : (Cond.initialized cls).before args s' = true := vx_ot_at hW0 hvm.symm (hgood _ (List.mem_cons_of_mem _ List.mem_cons_self)) hini
  have hU' : vx_Zq Bundle.tN "UNASSIGNED_STACK" Bundle.steD A s' s'.heap := by rw [hhp]; exact vx_Zq.moved hW0.alike (hU.kept hS.2.1)
  have hN' : vx_Zq Bundle.tN "SUPPRESSED_SENTINEL" Bundle.listD A s' s'.heap := by rw [hhp]; exact vx_Zq.moved hW0.alike (hN.kept hS.2.1)
  have h : ∀ w ∈ Bundle.ownAtoms0 own ic cls names, w.before args s' = true := vx_own hat' (vx_isRefq hU'.1) (vx_isRefq hN'.1) hU'.2.word hN'.2.word
  have hown' : s'.vm.findClass own = some m.cls := by rw [hvm]; exact hown
  have hins : (Cond.instantiable cls 6).before args s' = true := h _ (by simp [Bundle.ownAtoms0])
  obtain ⟨vm₁, cX, kX, hfX, hkX, -, -, X₁, st1⟩ := Y.newCold hexec (own := own) (C := cls) (index := ik) (n := 6) hown' hk' hins hini'
    (g := F0 m pc ls rest) rfl (by rw [hb]; exact d0) (Nat.le_refl _) (Nat.le_refl _)
  generalize hT1 : (T.setVm vm₁).pushCell { cls := cX, slots := kX.instanceTypes.map defaultValue, vm := .none } = T1 at X₁ st1
  have hcat : (Value.ref T.heap.size).category = 1 := rfl
  have hcellA : T1.heap[T.heap.size]? = some (freshCell cX kX) := by rw [← hT1]; exact State.heap_pushCell_size _ _
  have d3' : decode c.code (pc + 3) = .ok (.dup, 1) := by rw [hb]; exact d3
  obtain ⟨U, hsteps, hrun, hend, hW, hsame, ce, hce, hO⟩ := X₁.ctorThrow0 hexec htr (own := own) (cls := cls) (names := names) (ic := ic) hown' hcls hnames h (fun x hx => nomatch hx) hfX hkX hcellA (by rw [hhp, hT]; exact Nat.le_refl _)
    (g := { method := m, pc := pc + 4, locals := ls, stack := .ref T.heap.size :: .ref T.heap.size :: rest, locked := none }) rfl hsize rfl rfl (rest := rest) rfl
    (by rw [hb]; exact d4) (by rw [hb]; exact d7) hout hRframes (by simp only [List.map_cons, List.sum_cons, hcat]; omega) hlocks
  obtain ⟨f1, f2⟩ := vx_frame hsame
  rw [hhp] at f1 f2
  have hWs : s.WarmedH U.vm := State.WarmedH.trans hW0 hW
  have hcl : s.vm.findClass cls = some ce.cls := by
    have h9 := hO.cls
    rw [hvm] at h9
    exact h9
  have hall : s.sameButNew ({ U with vm := s.vm } : State) locs mc ms := by
    subst hA
    obtain ⟨e1, e2⟩ := hsame
    rw [State.setFrames_setFrames] at e1
    have h2 : (T.setVm s.vm).sameButNew ({ U with vm := s.vm } : State) [] (0 + 1) (0 + 6) := ⟨e1, e2⟩
    have h3 := X.same.trans h2
    rw [List.append_nil] at h3
    exact h3.mono hc hs
  refine ⟨U, ?_, .threw T.heap.size, hrun, hend, Or.inr ⟨T.heap.size, rfl, cls, ce, locs, hx U hWs.alike f1 (fun q hq => f2 q hq (fun z hz => nomatch hz)), hce, hO.vm, hcl, hWs, hall, hf⟩⟩
  refine st1 _ ?_
  show Steps p.tables e below (T1.setTop { method := m, pc := pc + 3, locals := ls, stack := .ref T.heap.size :: rest, locked := none }) _
  jvm_step X₁.here [X₁.here.top, hexec, d3', Value.category]
  exact hsteps
/-- 'throw new E("text")': new; dup; ldc; invokespecial; athrow -/
theorem vx_throwS {cc : ByteArray} {pc : Nat} (hexec : p.tables.exec = Jvm.exec) (hb : c.code = cc) (hl : l.stackTraces = false) {own cls text : String} {names : List String} {ik is ic mc ms sa : Nat} {A : Nat → Prop}
    (hown : s.vm.findClass own = some m.cls) (hcls : Bundle.fit cls = true) (hnames : ∀ n ∈ names, Bundle.fit n = true)
    (hk : (Cond.classLink own ik cls).before args s = true) (hini : (Cond.initialized cls).before args s = true) (hstr : vk_R own is text sa s) (hat : ∀ w ∈ vx_atS own ic cls names, w.before args s = true)
    (hgood : ∀ w ∈ Cond.classLink own ik cls :: Cond.initialized cls :: vx_atS own ic cls names, vx_ot w = true)
    (hU : vx_Zq Bundle.tN "UNASSIGNED_STACK" Bundle.steD A s s.heap) (hN : vx_Zq Bundle.tN "SUPPRESSED_SENTINEL" Bundle.listD A s s.heap) (hS : va_S A s.heap H locs) (hsize : ls.size = c.maxLocals)
    (d0 : decode cc pc = .ok (.new ik, 3)) (d3 : decode cc (pc + 3) = .ok (.dup, 1)) (d4 : decode cc (pc + 4) = .ok (.ldc is, 2)) (d6 : decode cc (pc + 6) = .ok (.invokespecial ic, 3)) (d9 : decode cc (pc + 9) = .ok (.athrow, 1))
    (hout : ∀ x ∈ c.exceptionTable.toList, covers x (pc + 9) = false)
    (hRframes : names.length + 3 < R.frames) (hRlocals : (rest.map fun v => v.category).sum + (13 * (names.length + 1) + 43) ≤ R.locals) (hRcells : cells + 1 ≤ R.cells) (hRslots : slots + 6 ≤ R.slots) (hlocks : meth.locks = false)
    (hx : ∀ t : State, s.vm.Alike t.vm → H.size ≤ t.heap.size → (∀ q : Nat, q < H.size → t.heap[q]? = H[q]?) → XC cls s t)
    (hf : ∀ z ∈ locs, free z.base) (hc : cells + 1 ≤ mc) (hs : slots + 6 ≤ ms) :
    W p l e R s m args below meth c H locs cells slots (vx_MQ below Qc XC args s mc ms free) (F0 m pc ls rest) := by
  intro T hT X
  have htr : e.platform.stackTraces = false := (show e.platform.stackTraces = l.stackTraces by rw [X.admits.platform]).trans hl
  have Y := vx_rebase X (R' := { frames := R.frames, locals := R.locals, cells := 1, slots := 6 }) (Nat.le_refl _) (Nat.le_refl _) hRcells hRslots
  obtain ⟨s', hA⟩ : ∃ z, z = (T.setVm s.vm).setFrames (.invoking m args :: below) := ⟨_, rfl⟩
  rw [← hA] at Y
  have hvm : s'.vm = s.vm := by rw [hA]; rfl
  have hhp : s'.heap = H := by rw [hA]; exact hT
  have hW0 : s.WarmedH s'.vm := by rw [hvm]; exact State.WarmedH.refl s
  have hat' : ∀ w ∈ vx_atS own ic cls names, w.before args s' = true := fun w hw => vx_ot_at hW0 hvm.symm (hgood w (List.mem_cons_of_mem _ (List.mem_cons_of_mem _ hw))) (hat w hw)
  have hk' : (Cond.classLink own ik cls).before args s' = true := vx_ot_at hW0 hvm.symm (hgood _ List.mem_cons_self) hk
  have hini' : (Cond.initialized cls).before args s' = true := vx_ot_at hW0 hvm.symm (hgood _ (List.mem_cons_of_mem _ List.mem_cons_self)) hini
  have hU' : vx_Zq Bundle.tN "UNASSIGNED_STACK" Bundle.steD A s' s'.heap := by rw [hhp]; exact vx_Zq.moved hW0.alike (hU.kept hS.2.1)
  have hN' : vx_Zq Bundle.tN "SUPPRESSED_SENTINEL" Bundle.listD A s' s'.heap := by rw [hhp]; exact vx_Zq.moved hW0.alike (hN.kept hS.2.1)
  have h : ∀ w ∈ Bundle.ownAtoms own ic cls names, w.before args s' = true := vx_own hat' (vx_isRefq hU'.1) (vx_isRefq hN'.1) hU'.2.word hN'.2.word
  have hown' : s'.vm.findClass own = some m.cls := by rw [hvm]; exact hown
  have hins : (Cond.instantiable cls 6).before args s' = true := h _ (by simp [Bundle.ownAtoms])
  obtain ⟨vm₁, cX, kX, hfX, hkX, -, -, X₁, st1⟩ := Y.newCold hexec (own := own) (C := cls) (index := ik) (n := 6) hown' hk' hins hini'
    (g := F0 m pc ls rest) rfl (by rw [hb]; exact d0) (Nat.le_refl _) (Nat.le_refl _)
  generalize hT1 : (T.setVm vm₁).pushCell { cls := cX, slots := kX.instanceTypes.map defaultValue, vm := .none } = T1 at X₁ st1
  have hcat : (Value.ref T.heap.size).category = 1 := rfl
  have hcellA : T1.heap[T.heap.size]? = some (freshCell cX kX) := by rw [← hT1]; exact State.heap_pushCell_size _ _
  have d3' : decode c.code (pc + 3) = .ok (.dup, 1) := by rw [hb]; exact d3
  have d4' : decode c.code (pc + 4) = .ok (.ldc is, 2) := by rw [hb]; exact d4
  have hstr' : vk_R own is text sa s' := vk_R.warm hW0 hstr
  obtain ⟨U, hsteps, hrun, hend, hW, hsame, ce, hce, hO⟩ := X₁.ctorThrowS hexec htr (own := own) (cls := cls) (names := names) (ic := ic) hown' hcls hnames h (fun x hx => nomatch hx) hfX hkX hcellA (by rw [hhp, hT]; exact Nat.le_refl _) (msg := .ref sa) rfl
    (g := { method := m, pc := pc + 6, locals := ls, stack := .ref sa :: .ref T.heap.size :: .ref T.heap.size :: rest, locked := none }) rfl hsize rfl rfl (rest := rest) rfl
    (by rw [hb]; exact d6) (by rw [hb]; exact d9) hout hRframes (by simp only [List.map_cons, List.sum_cons, hcat]; omega) hlocks
  obtain ⟨f1, f2⟩ := vx_frame hsame
  rw [hhp] at f1 f2
  have hWs : s.WarmedH U.vm := State.WarmedH.trans hW0 hW
  have hcl : s.vm.findClass cls = some ce.cls := by
    have h9 := hO.cls
    rw [hvm] at h9
    exact h9
  have hall : s.sameButNew ({ U with vm := s.vm } : State) locs mc ms := by
    subst hA
    obtain ⟨e1, e2⟩ := hsame
    rw [State.setFrames_setFrames] at e1
    have h2 : (T.setVm s.vm).sameButNew ({ U with vm := s.vm } : State) [] (0 + 1) (0 + 6) := ⟨e1, e2⟩
    have h3 := X.same.trans h2
    rw [List.append_nil] at h3
    exact h3.mono hc hs
  refine ⟨U, ?_, .threw T.heap.size, hrun, hend, Or.inr ⟨T.heap.size, rfl, cls, ce, locs, hx U hWs.alike f1 (fun q hq => f2 q hq (fun z hz => nomatch hz)), hce, hO.vm, hcl, hWs, hall, hf⟩⟩
  refine st1 _ ?_
  show Steps p.tables e below (T1.setTop { method := m, pc := pc + 3, locals := ls, stack := .ref T.heap.size :: rest, locked := none }) _
  jvm_step X₁.here [X₁.here.top, hexec, d3', Value.category]
  exact X₁.ldcString hexec (own := own) (text := text) (index := is) (a := sa) hown' hstr'.1 hstr'.2
    (g := { method := m, pc := pc + 4, locals := ls, stack := .ref T.heap.size :: .ref T.heap.size :: rest, locked := none }) rfl d4' _ hsteps
/-- 'throw new E("text")', the text by a wide index -/
theorem vx_throwSW {cc : ByteArray} {pc : Nat} (hexec : p.tables.exec = Jvm.exec) (hb : c.code = cc) (hl : l.stackTraces = false) {own cls text : String} {names : List String} {ik is ic mc ms sa : Nat} {A : Nat → Prop}
    (hown : s.vm.findClass own = some m.cls) (hcls : Bundle.fit cls = true) (hnames : ∀ n ∈ names, Bundle.fit n = true)
    (hk : (Cond.classLink own ik cls).before args s = true) (hini : (Cond.initialized cls).before args s = true) (hstr : vk_R own is text sa s) (hat : ∀ w ∈ vx_atS own ic cls names, w.before args s = true)
    (hgood : ∀ w ∈ Cond.classLink own ik cls :: Cond.initialized cls :: vx_atS own ic cls names, vx_ot w = true)
    (hU : vx_Zq Bundle.tN "UNASSIGNED_STACK" Bundle.steD A s s.heap) (hN : vx_Zq Bundle.tN "SUPPRESSED_SENTINEL" Bundle.listD A s s.heap) (hS : va_S A s.heap H locs) (hsize : ls.size = c.maxLocals)
    (d0 : decode cc pc = .ok (.new ik, 3)) (d3 : decode cc (pc + 3) = .ok (.dup, 1)) (d4 : decode cc (pc + 4) = .ok (.ldc_w is, 3)) (d7 : decode cc (pc + 7) = .ok (.invokespecial ic, 3)) (d10 : decode cc (pc + 10) = .ok (.athrow, 1))
    (hout : ∀ x ∈ c.exceptionTable.toList, covers x (pc + 10) = false)
    (hRframes : names.length + 3 < R.frames) (hRlocals : (rest.map fun v => v.category).sum + (13 * (names.length + 1) + 43) ≤ R.locals) (hRcells : cells + 1 ≤ R.cells) (hRslots : slots + 6 ≤ R.slots) (hlocks : meth.locks = false)
    (hx : ∀ t : State, s.vm.Alike t.vm → H.size ≤ t.heap.size → (∀ q : Nat, q < H.size → t.heap[q]? = H[q]?) → XC cls s t)
    (hf : ∀ z ∈ locs, free z.base) (hc : cells + 1 ≤ mc) (hs : slots + 6 ≤ ms) :
    W p l e R s m args below meth c H locs cells slots (vx_MQ below Qc XC args s mc ms free) (F0 m pc ls rest) := by
  intro T hT X
  have htr : e.platform.stackTraces = false := (show e.platform.stackTraces = l.stackTraces by rw [X.admits.platform]).trans hl
  have Y := vx_rebase X (R' := { frames := R.frames, locals := R.locals, cells := 1, slots := 6 }) (Nat.le_refl _) (Nat.le_refl _) hRcells hRslots
  obtain ⟨s', hA⟩ : ∃ z, z = (T.setVm s.vm).setFrames (.invoking m args :: below) := ⟨_, rfl⟩
  rw [← hA] at Y
  have hvm : s'.vm = s.vm := by rw [hA]; rfl
  have hhp : s'.heap = H := by rw [hA]; exact hT
  have hW0 : s.WarmedH s'.vm := by rw [hvm]; exact State.WarmedH.refl s
  have hat' : ∀ w ∈ vx_atS own ic cls names, w.before args s' = true := fun w hw => vx_ot_at hW0 hvm.symm (hgood w (List.mem_cons_of_mem _ (List.mem_cons_of_mem _ hw))) (hat w hw)
  have hk' : (Cond.classLink own ik cls).before args s' = true := vx_ot_at hW0 hvm.symm (hgood _ List.mem_cons_self) hk
  have hini' : (Cond.initialized cls).before args s' = true := vx_ot_at hW0 hvm.symm (hgood _ (List.mem_cons_of_mem _ List.mem_cons_self)) hini
  have hU' : vx_Zq Bundle.tN "UNASSIGNED_STACK" Bundle.steD A s' s'.heap := by rw [hhp]; exact vx_Zq.moved hW0.alike (hU.kept hS.2.1)
  have hN' : vx_Zq Bundle.tN "SUPPRESSED_SENTINEL" Bundle.listD A s' s'.heap := by rw [hhp]; exact vx_Zq.moved hW0.alike (hN.kept hS.2.1)
  have h : ∀ w ∈ Bundle.ownAtoms own ic cls names, w.before args s' = true := vx_own hat' (vx_isRefq hU'.1) (vx_isRefq hN'.1) hU'.2.word hN'.2.word
  have hown' : s'.vm.findClass own = some m.cls := by rw [hvm]; exact hown
  have hins : (Cond.instantiable cls 6).before args s' = true := h _ (by simp [Bundle.ownAtoms])
  obtain ⟨vm₁, cX, kX, hfX, hkX, -, -, X₁, st1⟩ := Y.newCold hexec (own := own) (C := cls) (index := ik) (n := 6) hown' hk' hins hini'
    (g := F0 m pc ls rest) rfl (by rw [hb]; exact d0) (Nat.le_refl _) (Nat.le_refl _)
  generalize hT1 : (T.setVm vm₁).pushCell { cls := cX, slots := kX.instanceTypes.map defaultValue, vm := .none } = T1 at X₁ st1
  have hcat : (Value.ref T.heap.size).category = 1 := rfl
  have hcellA : T1.heap[T.heap.size]? = some (freshCell cX kX) := by rw [← hT1]; exact State.heap_pushCell_size _ _
  have d3' : decode c.code (pc + 3) = .ok (.dup, 1) := by rw [hb]; exact d3
  have d4' : decode c.code (pc + 4) = .ok (.ldc_w is, 3) := by rw [hb]; exact d4
  have hstr' : vk_R own is text sa s' := vk_R.warm hW0 hstr
  obtain ⟨U, hsteps, hrun, hend, hW, hsame, ce, hce, hO⟩ := X₁.ctorThrowS hexec htr (own := own) (cls := cls) (names := names) (ic := ic) hown' hcls hnames h (fun x hx => nomatch hx) hfX hkX hcellA (by rw [hhp, hT]; exact Nat.le_refl _) (msg := .ref sa) rfl
    (g := { method := m, pc := pc + 7, locals := ls, stack := .ref sa :: .ref T.heap.size :: .ref T.heap.size :: rest, locked := none }) rfl hsize rfl rfl (rest := rest) rfl
    (by rw [hb]; exact d7) (by rw [hb]; exact d10) hout hRframes (by simp only [List.map_cons, List.sum_cons, hcat]; omega) hlocks
  obtain ⟨f1, f2⟩ := vx_frame hsame
  rw [hhp] at f1 f2
  have hWs : s.WarmedH U.vm := State.WarmedH.trans hW0 hW
  have hcl : s.vm.findClass cls = some ce.cls := by
    have h9 := hO.cls
    rw [hvm] at h9
    exact h9
  have hall : s.sameButNew ({ U with vm := s.vm } : State) locs mc ms := by
    subst hA
    obtain ⟨e1, e2⟩ := hsame
    rw [State.setFrames_setFrames] at e1
    have h2 : (T.setVm s.vm).sameButNew ({ U with vm := s.vm } : State) [] (0 + 1) (0 + 6) := ⟨e1, e2⟩
    have h3 := X.same.trans h2
    rw [List.append_nil] at h3
    exact h3.mono hc hs
  refine ⟨U, ?_, .threw T.heap.size, hrun, hend, Or.inr ⟨T.heap.size, rfl, cls, ce, locs, hx U hWs.alike f1 (fun q hq => f2 q hq (fun z hz => nomatch hz)), hce, hO.vm, hcl, hWs, hall, hf⟩⟩
  refine st1 _ ?_
  show Steps p.tables e below (T1.setTop { method := m, pc := pc + 3, locals := ls, stack := .ref T.heap.size :: rest, locked := none }) _
  jvm_step X₁.here [X₁.here.top, hexec, d3', Value.category]
  exact X₁.ldcStringW hexec (own := own) (text := text) (index := is) (a := sa) hown' hstr'.1 hstr'.2
    (g := { method := m, pc := pc + 4, locals := ls, stack := .ref T.heap.size :: .ref T.heap.size :: rest, locked := none }) rfl d4' _ hsteps
end Ends
section Bodies
variable {l : Launch}
theorem vx_ofW {y : MethodName} {ws ws' : List Cond} {rm : Room} {Pc : Array Value → State → Prop} {Qc : Array Value → State → Outcome → State → Prop} {XC : String → State → State → Prop} {mc ms : Nat} {free : Addr → Prop} {cc : ByteArray} {maxL : Nat} {ret : Option FieldType}
    (hy : plainName y.cls = true) (hw : ws = Cond.code y cc maxL ret :: ws')
    (body : ∀ p e s m args below meth c s₁, BodyLoose p l y (headSpec ws rm) cc maxL ret e s m args below meth c s₁ → c.maxLocals = maxL → (∀ x ∈ c.exceptionTable.toList, False) → Pc args s →
      W p l e (headSpec ws rm).room s m args below meth c s.heap [] 0 0 (vx_MQ below Qc XC args s mc ms free) (entryFrame m args maxL)) : vx_Met l y ws rm Pc Qc XC mc ms free := by
  refine MetFree.of_bodyS (code := cc) (maxLocals := maxL) (ret := ret) hy ?_ ?_
  · intro args s m h hn
    obtain ⟨meth, c, h1, h2, h3, h4, h5, h6, -, -⟩ := Cond.code_spec hn (atoms_spec (ws := ws) h _ (by rw [hw]; exact List.mem_cons_self))
    exact ⟨meth, c, h1, h2, h3, h4, h5, h6⟩
  · intro p e s m args below meth c s₁ B hml hP _
    have hh0 : s₁.heap = s.heap := by rw [B.state]; rfl
    have ht : ∀ x ∈ c.exceptionTable.toList, False := by
      obtain ⟨meth9, c9, h1, h2, -, -, -, -, h7, -⟩ := Cond.code_spec B.named (atoms_spec (ws := ws) B.pre _ (by rw [hw]; exact List.mem_cons_self))
      cases Option.some.inj (h1.symm.trans B.method)
      cases Option.some.inj (h2.symm.trans (Stand.of_body B).code)
      intro x hx
      rw [Array.isEmpty_iff.mp h7] at hx
      cases hx
    obtain ⟨t, a1, o, b1, b2, b3⟩ := body p e s m args below meth c s₁ B hml ht hP s₁ hh0 (Stand.of_body B)
    exact ⟨t, o, a1, b1, b2, b3⟩
/-- the table of a body with handlers -/
theorem vx_table {p : Program} {x y : MethodName} {S : Spec} {cc bytes : ByteArray} {maxL maxL' : Nat} {ret ret' : Option FieldType} {e : Env} {s s₁ : State} {m : MethodId} {args : Array Value} {below : List Frame} {meth : Method} {c : Code} {hh : List (Nat × Nat × Nat × Nat)}
    (B : BodyLoose p l y S cc maxL ret e s m args below meth c s₁) (h : (Cond.codeWith y bytes maxL' ret' hh).before args s = true) : c.exceptionTable.toList = tableOf hh := by
  obtain ⟨m9, meth9, c9, hn9, h1, h2, -, -, h6, -⟩ := Cond.codeWith_spec h
  cases Option.some.inj (hn9.symm.trans B.named)
  cases Option.some.inj (h1.symm.trans B.method)
  cases Option.some.inj (h2.symm.trans (Stand.of_body B).code)
  rw [← h6, table_eq]
end Bodies
end VXA
/-! ===== END ===== -/
/-! ===== BEGIN a static call of a method with an exception table ===== -/
section VXS
variable {p : Program} {l : Launch} {e : Env} {R : Room} {s : State} {m : MethodId} {args : Array Value} {below : List Frame} {meth : Method} {c : Code} {T : State} {H : Heap} {locs : List Loc} {cells slots : Nat}
abbrev vx_CSW (R : Room) (s : State) (args : Array Value) (own : String) (index : Nat) (y : MethodName) (bytes : ByteArray) (maxL : Nat) (ret : Option FieldType) (hh : List (Nat × Nat × Nat × Nat)) (ws : List Cond) (rm : Room) (mc ms n : Nat) : Prop :=
  (rm.cells = mc ∧ rm.slots = ms ∧ rm.frames + 1 ≤ R.frames ∧ 8 + (maxL + 11) + rm.locals ≤ R.locals ∧ (∀ w ∈ ws, ∀ (a' : Array Value) (U : State), s.WarmedH U.vm → w.before a' U = true) ∧ Cond.codeWith y bytes maxL ret hh ∈ ws) ∧
  (Cond.codeWith y bytes maxL ret hh).before args s = true ∧ (Cond.initialized y.cls).before args s = true ∧ (y.cls ≠ "java/lang/invoke/MethodHandle" ∧ y.cls ≠ "java/lang/invoke/VarHandle") ∧
  (∀ sig, parseMethodDescriptor y.desc = some sig → n = sig.parameters.length) ∧ (Cond.methodLink own index y).before args s = true ∧ (Cond.static y).before args s = true
theorem vx_cwSW {own : String} {index maxL mc ms : Nat} {y : MethodName} {bytes : ByteArray} {ret : Option FieldType} {hh : List (Nat × Nat × Nat × Nat)} {Ts ws ws' : List Cond} {rm : Room} (n : Nat) (ht : ∀ w ∈ Ts, w.before args s = true) (hT : GoodIn Ts (va_wsS own index y ws)) (hw : ws = Cond.codeWith y bytes maxL ret hh :: ws') (hrc : rm.cells = mc) (hrs : rm.slots = ms)
    (hd : y.cls ≠ "java/lang/invoke/MethodHandle" ∧ y.cls ≠ "java/lang/invoke/VarHandle" ∧ (parseMethodDescriptor y.desc).map (fun d => d.parameters.length) = some n) (hR : rm.frames + 1 ≤ R.frames ∧ 8 + (maxL + 11) + rm.locals ≤ R.locals) :
    vx_CSW R s args own index y bytes maxL ret hh ws rm mc ms n := by
  have ok : ∀ w ∈ va_wsS own index y ws, w.before args s = true := fun w h => ht w (hT w h).1
  have hG : GoodIn Ts ws := fun w h => hT w (by unfold va_wsS; exact List.mem_append_right _ h)
  have hc : Cond.codeWith y bytes maxL ret hh ∈ ws := by rw [hw]; exact List.mem_cons_self
  refine ⟨⟨hrc, hrs, hR.1, hR.2, pay_in ht hG, hc⟩, ht _ (hG _ hc).1, ok _ (by simp [va_wsS]), ⟨hd.1, hd.2.1⟩, fun sig h => ?_, ok _ (by simp [va_wsS]), ok _ (by simp [va_wsS])⟩
  have h2 := hd.2.2
  rw [h] at h2
  exact (Option.some.inj h2).symm
theorem vx_callSW (X : Stand p l e R s m args below meth c T locs cells slots) (hexec : p.tables.exec = Jvm.exec) {own : String} {index : Nat} {y : MethodName} {bytes : ByteArray} {maxL : Nat} {ret : Option FieldType} {hh : List (Nat × Nat × Nat × Nat)}
    (hown : s.vm.findClass own = some m.cls) (hlink : (Cond.methodLink own index y).before args s = true) (hstat : (Cond.static y).before args s = true) (hinit : (Cond.initialized y.cls).before args s = true)
    (hcode : (Cond.codeWith y bytes maxL ret hh).before args s = true) (hy : y.cls ≠ "java/lang/invoke/MethodHandle" ∧ y.cls ≠ "java/lang/invoke/VarHandle")
    {W9 : Nat} {Pre : Pt → Array Value → Prop} {Post : Pt → Array Value → Option Value → Pt → Prop} (hK : Back l R p e below s args y 3 W9 Pre Post)
    {g : JFrame} (hg : g.method = m) (hsize : g.locals.size = c.maxLocals) {argsL rest : List Value} (hlen : ∀ sig, parseMethodDescriptor y.desc = some sig → argsL.length = sig.parameters.length)
    (hstack : g.stack = argsL.reverse ++ rest) (hW : 2 * g.monitorRoom + (rest.map fun v => v.category).sum ≤ W9) (hdg : decode c.code g.pc = .ok (.invokestatic index, 3))
    (hpre : ∀ vm₁, s.WarmedH vm₁ → Pre ⟨T.setVm vm₁, locs, cells, slots⟩ argsL.toArray) :
    ∃ (v : Option Value) (vm₁ : Vm) (B : Pt), s.WarmedH vm₁ ∧ Stand p l e R s m args below meth c B.U B.locs B.cells B.slots ∧ Post ⟨T.setVm vm₁, locs, cells, slots⟩ argsL.toArray v B ∧
      ∀ target, Steps p.tables e below (B.U.setTop { g with pc := g.pc + 3, stack := v.toList ++ rest }) target → Steps p.tables e below (T.setTop g) target := by
  obtain ⟨mk, methM, cM, hnamed, hmethM, -, -, -, -, -, -, hsigM⟩ := Cond.codeWith_spec hcode
  have hstatic : methM.isStatic = true := Cond.static_spec hnamed hmethM hstat
  obtain ⟨kP, hkP, -⟩ := className_of_methodNamed hnamed
  have hinitP : kP.init = .initialized := Cond.initialized_spec (findClass_of_methodNamed hnamed) hkP hinit
  obtain ⟨vm₁, X₁, hstep₁⟩ := X.invokestatic hexec hown hlink hnamed hmethM hstatic hkP hinitP hy (g := g) hg (argsL := argsL) (rest := rest) (hlen _ hsigM) hstack hdg
  obtain ⟨v, B, X', hpost, hsteps⟩ := hK m meth c ⟨T.setVm vm₁, locs, cells, slots⟩ { g with stack := rest } (.invokestatic index) mk argsL.toArray X₁ hg hsize hdg hW (X₁.named hnamed) (hpre vm₁ X₁.warmed)
  exact ⟨v, vm₁, B, X₁.warmed, X', hpost, fun target h => hstep₁ _ fun acts => by rw [doInvoke_state]; exact hsteps.trans h⟩
theorem vx_runSW {y : MethodName} {bytes cc : ByteArray} {maxL nL mc ms n index : Nat} {ret : Option FieldType} {hh : List (Nat × Nat × Nat × Nat)} {ws : List Cond} {rm : Room} {Pc : Array Value → State → Prop} {Qc : Array Value → State → Outcome → State → Prop} {free : Addr → Prop} {Ts : List Cond} {own : String} {As rest : List Value} {g : JFrame}
    (S : CallFix p m c cc nL s args Ts own) (hM : Met l y ws rm Pc Qc mc ms free) (cw : vx_CSW R s args own index y bytes maxL ret hh ws rm mc ms n) (hp : PreS s H Pc As)
    (hg : g.method = m) (hn : As.length = n) (hsize : g.locals.size = nL) (hstack : g.stack = As.reverse ++ rest) (hW : 2 * g.monitorRoom + (rest.map fun v => v.category).sum ≤ 8) (hdg : decode cc g.pc = .ok (.invokestatic index, 3)) (hf : cells + mc ≤ R.cells ∧ slots + ms ≤ R.slots) :
    va_Run p l e R s m args below meth c H locs cells slots mc ms g rest (Qc As.toArray) (free) := by
  obtain ⟨⟨hrc, hrs, hfr, hlo, hws, hcw⟩, hcode, hini, hy, hlen, hl, hstt⟩ := cw
  have hK : Back l R p e below s args y 3 8 (PreOf R mc ms Pc) (PostOf Qc mc ms free) := va_backW (hh := hh) (bytes := bytes) (maxL := maxL) (ret := ret) hM hp.1 hrc hrs hfr hlo hws hcw (fun a' U hW => word_at hW (Or.inl (by first | rfl | simp [Cond.onTables, Cond.keeps, Cond.steady])) hini)
  obtain ⟨hx, hb, hml, ho, -⟩ := S
  intro T hT X
  obtain ⟨v, vm₁, ⟨U', l2, c2, s2⟩, hW₁, X', ⟨g', mk, t, L, e1, e2, hq, h1, hL, h2, h3⟩, st⟩ := vx_callSW X hx (hh := hh) (bytes := bytes) (maxL := maxL) (ret := ret) ho hl hstt hini hcode hy hK hg (hsize.trans hml.symm) (argsL := As) (rest := rest) (fun sig h => hn.trans (hlen sig h)) hstack hW (by rw [hb]; exact hdg)
    (fun vm₁ hW₁ => ⟨hf.1, hf.2, hp.2 (T.setVm vm₁) hT hW₁⟩)
  dsimp only [Pt.U, Pt.locs, Pt.cells, Pt.slots] at X' e1 e2 h1 h2 h3 st
  subst h1; subst h2; subst h3
  exact ⟨v, (T.setVm vm₁).calling g' mk As.toArray, t, U', L, hT, X', hL, e1, e2, hq, st⟩
/-- not caught here, past rows that name other classes: it goes on to the caller -/
theorem vx_outP {p : Program} {l : Launch} {e : Env} {R : Room} {s : State} {m : MethodId} {args : Array Value} {below : List Frame} {meth : Method} {c : Code} {H : Heap} {locs : List Loc} {cells slots : Nat} {free : Addr → Prop} {ls : Array Slot} {rest : List Value} {Qc : Array Value → State → Outcome → State → Prop} {XC : String → State → State → Prop}
    {pc : Nat} {own E : String} {ce : Cell} {q : Addr} {mc ms : Nat} (hown : s.vm.findClass own = some m.cls) (hlocks : meth.locks = false)
    (hpass : ∀ z ∈ c.exceptionTable.toList, covers z pc = false ∨ (z.catchType ≠ 0 ∧ ∃ nm : String, (Cond.classLink own z.catchType nm).before args s = true ∧ va_Nc E nm s)) (hcell : H[q]? = some ce) (hv : ce.vm = .none) (hcl : s.vm.findClass E = some ce.cls)
    (hx : ∀ t : State, t.heap = H → s.vm.Alike t.vm → XC E s t) (hf : ∀ z ∈ locs, free z.base) (hc : cells ≤ mc) (hs : slots ≤ ms) :
    vx_W p l e R s m args below meth c H locs cells slots (vx_MQ below Qc XC args s mc ms free) (F0 m pc ls rest) q := by
  intro T hT X
  have hpl : e.platform.magicAccessors = ({} : Platform).magicAccessors := by rw [X.admits.platform]
  obtain ⟨vm', hW', X', st⟩ := Stand.outThrough X hlocks q (g := F0 m pc ls rest) rfl rfl rfl (cell := ce) (by rw [hT]; exact hcell) (by rw [hv]; rfl)
    (by obtain ⟨k9, h9, -⟩ := Vm.findClass_spec hcl; exact ⟨k9, h9⟩) (fun z hz => by
      rcases hpass z hz with h | ⟨hz0, nm, hl1, hn1⟩
      · exact Or.inl h
      · obtain ⟨c6, hc6, hcl6⟩ := Cond.classLink_spec hown hl1 e.platform hpl
        obtain ⟨a8, b8, h1, h2, h3⟩ := hn1
        cases Option.some.inj (h1.symm.trans hcl)
        cases Option.some.inj (h2.symm.trans hc6)
        exact Or.inr ⟨hz0, _, hcl6, h3⟩)
  obtain ⟨g₀, hfr⟩ := X'.frames_eq
  have hcell9 : ((T.setVm vm').setFrames (.throwing q :: below)).heap[q]? = some ce := by
    show T.heap[q]? = some ce
    rw [hT]; exact hcell
  have hend : Ended ((T.setVm vm').setFrames (.throwing q :: below)) below (.threw q) := State.frames_setFrames _ (State.cur_lt_of_frames hfr)
  refine ⟨(T.setVm vm').setFrames (.throwing q :: below), ?_, .threw q, X'.here.running, hend, Or.inr ⟨q, rfl, E, ce, locs, hx _ hT (X'.ends _).1.alike, hcell9, hv, hcl, (X'.ends _).1, (X'.ends _).2.mono hc hs, hf⟩⟩
  rw [X.pushThrowing_eq]
  exact st
/-- a thing of a world lies in the heap -/
theorem vx_lt {D : va_G} {cl : List vw_C} {ws : va_W} {H1 : Heap} (h : va_P D cl ws H1) {k : Nat} {q : Nat × va_E} (hk : ws[k]? = some q) : q.1 < H1.size := (h k q hk).lt
end VXS
/-! ===== END ===== -/
/-! ===== BEGIN methods with a table of their own: called by a name, returning or throwing ===== -/
section VXH
/-! vx_backW, vx_callVX, vx_callSX, vx_callVW, vx_runVW, vx_runVX, vx_runSX, vx_ofWH follow the same proofs as their sisters above (Free/Laws.lean, Shelf42/LK1.lean); vx_outP calls Shelf42/NT130.lean (outThrough). -/
section
variable {l : Launch} {R : Room} {p : Program} {e : Env} {below : List Frame} {s : State} {sargs : Array Value} {y : MethodName} {len W9 : Nat}
theorem vx_backW {ws : List Cond} {rm : Room} {Pc : Array Value → State → Prop} {Qc : Array Value → State → Outcome → State → Prop} {XC : String → State → State → Prop} {mc ms : Nat} {free : Addr → Prop} {bytes : ByteArray} {maxL : Nat} {ret : Option FieldType} {hh : List (Nat × Nat × Nat × Nat)}
    (hM : vx_Met l y ws rm Pc Qc XC mc ms free) (hblind : FrameBlind Pc) (hrc : rm.cells = mc) (hrs : rm.slots = ms)
    (hframes : rm.frames + 1 ≤ R.frames) (hlocals : W9 + (maxL + 11) + rm.locals ≤ R.locals)
    (hws : ∀ w ∈ ws, ∀ a' U, s.WarmedH U.vm → w.before a' U = true) (hcode : Cond.codeWith y bytes maxL ret hh ∈ ws) (hinit : ∀ a' U, s.WarmedH U.vm → (Cond.initialized y.cls).before a' U = true) :
    vx_Back l R p e below s sargs y len W9 (PreOf R mc ms Pc) (PostOf Qc mc ms free) (vx_Post XC mc ms free) := by
  intro m meth c A g ig mk a X hg hsize hdg hW hn hp
  have h1 : (headSpec ws rm).pre.before a A.U = true := atoms_intro fun w hw => hws w hw _ _ X.warmed
  have h2 : (Cond.codeWith y bytes maxL ret hh).before a A.U = true := hws _ hcode _ _ X.warmed
  have h3 : (Cond.initialized y.cls).before a A.U = true := hinit _ _ X.warmed
  have h4 : A.cells + (headSpec ws rm).room.cells ≤ R.cells := by rw [show (headSpec ws rm).room.cells = mc from hrc]; exact hp.1
  have h5 : A.slots + (headSpec ws rm).room.slots ≤ R.slots := by rw [show (headSpec ws rm).room.slots = ms from hrs]; exact hp.2.1
  have hPc : Pc a (A.U.calling g mk a) := hblind _ _ _ _ hp.2.2
  obtain ⟨U, Ls, c0, s0⟩ := A
  dsimp only [Pt.U, Pt.locs, Pt.cells, Pt.slots] at h1 h2 h3 h4 h5 X hn hPc ⊢
  obtain ⟨m9, methY, cY, hn9, hmY, hcY, -, hlY, -⟩ := Cond.codeWith_spec h2
  cases Option.some.inj (hn9.symm.trans hn)
  obtain ⟨kY, hkY, -⟩ := className_of_methodNamed hn
  have hinitY : kY.init = .initialized := Cond.initialized_spec (findClass_of_methodNamed hn) hkY h3
  have h : At U g.method c below := by rw [hg]; exact X.here
  have hlocals9 : W9 + (maxL + 11) + (headSpec ws rm).room.locals ≤ R.locals := hlocals
  have happ : (headSpec ws rm).appliesLoose y e.platform (U.calling g mk a) = true :=
    Spec.appliesLoose_calling (g := g) h hdg hn hkY hinitY
      (X.room_calling (g := g) (R' := (headSpec ws rm).room) hsize hmY hcY hframes (by rw [hlY]; omega) h4 h5) h1
  obtain ⟨mid, hmid⟩ := h.above
  have hfr : (U.setTop g).frames = (.java g :: mid) ++ below := by rw [State.frames_setTop' g h.top, hmid]; rfl
  obtain ⟨o, s₂, hsteps, -, hend, hq⟩ := Steps.callFree hM p X.admits X.cas X.clock (acts := []) hfr happ hPc trivial
  have hq' : vx_Q Qc XC mc ms free a (U.calling g mk a) o s₂ := hq
  rw [State.frames_setTop' g h.top] at hend
  obtain ⟨g₀, hg0⟩ := Option.isSome_iff_exists.mp h.top
  obtain ⟨r, hr⟩ := State.topJava?_eq_some.mp hg0
  have hr' : (({ U with heap := s₂.heap, slotsUsed := s₂.slotsUsed } : State).setVm s₂.vm).frames = .java g₀ :: r := hr
  rcases hq' with ⟨hqc, L, hfe, hL⟩ | ⟨q, rfl, E, ce, L, hx, hce, hcv, hcl, hW₂, hsm, hL⟩
  · obtain ⟨⟨v, rfl⟩, hW₂, e2, q2, q3, q4, q5, q6⟩ := id hfe
    have e3 : s₂ = ({ (U.calling g mk a).setFrames s₂.frames with heap := s₂.heap, slotsUsed := s₂.slotsUsed } : State).setVm s₂.vm := by
      have : s₂ = ({ s₂ with vm := (U.calling g mk a).vm } : State).setVm s₂.vm := rfl
      rw [e2] at this
      exact this
    obtain ⟨c₂, i₂, len₂, hc₂, hd₂, hf₂⟩ := hend
    have hW' : U.WarmedH s₂.vm := hW₂
    have hcc : c₂ = c := by
      have h1 : s₂.code? g.method = U.code? g.method := by
        rw [State.code?_eq, State.code?_eq, hW'.alike.method?]
      exact Option.some.inj (hc₂.symm.trans (h1.trans h.code))
    subst hcc
    have hlen : len₂ = len := by rw [hdg] at hd₂; cases hd₂; rfl
    subst hlen
    have hs₂ : s₂ = (({ U with heap := s₂.heap, slotsUsed := s₂.slotsUsed } : State).setVm s₂.vm).setTop { g with pc := g.pc + len₂, stack := v.toList ++ g.stack } := by
      refine e3.trans ?_
      rw [hf₂, State.calling_eq h.top, State.setFrames_setFrames, State.setTop_of_frames _ hr', hr]
      rfl
    have hsame : U.sameButNew ({ U with heap := s₂.heap, slotsUsed := s₂.slotsUsed } : State) L mc ms := by
      refine ⟨?_, q2, q3, q4, q5, q6⟩
      obtain ⟨t, ht, -⟩ := State.frames_cons hr
      show ({ U with heap := s₂.heap, slotsUsed := s₂.slotsUsed } : State) = { U.setFrames U.frames with heap := s₂.heap, slotsUsed := s₂.slotsUsed }
      rw [State.setFrames_self ht]
    subst hg
    refine Or.inl ⟨v, ⟨(({ U with heap := s₂.heap, slotsUsed := s₂.slotsUsed } : State).setVm s₂.vm), Ls ++ L, c0 + mc, s0 + ms⟩,
      ⟨X.admits, X.cas, X.clock, X.frames, X.room, X.hears, X.method, X.code, (X.here.setHeapUsed s₂.heap s₂.slotsUsed).setVm hW'.alike, X.tail, State.WarmedH.trans X.warmed hW', X.limits, X.bytes, X.same.trans (hsame.setVm s.vm)⟩,
      ⟨g, mk, s₂, L, rfl, rfl, hqc, rfl, hL, rfl, rfl⟩, ?_⟩
    show Steps p.tables e below _ ((({ U with heap := s₂.heap, slotsUsed := s₂.slotsUsed } : State).setVm s₂.vm).setTop { g with pc := g.pc + len₂, stack := v.toList ++ g.stack })
    rw [← hs₂]
    exact hsteps
  · obtain ⟨e2, q2, q3, q4, q5, q6⟩ := id hsm
    have e3 : s₂ = ({ (U.calling g mk a).setFrames s₂.frames with heap := s₂.heap, slotsUsed := s₂.slotsUsed } : State).setVm s₂.vm := by
      have : s₂ = ({ s₂ with vm := (U.calling g mk a).vm } : State).setVm s₂.vm := rfl
      rw [e2] at this
      exact this
    have hf₂ : s₂.frames = .throwing q :: .java g :: U.frames.tail := hend
    have hW' : U.WarmedH s₂.vm := hW₂
    have hs₂ : s₂ = ((({ U with heap := s₂.heap, slotsUsed := s₂.slotsUsed } : State).setVm s₂.vm).setTop g).pushFrame (.throwing q) := by
      refine e3.trans ?_
      rw [hf₂, State.calling_eq h.top, State.setFrames_setFrames, State.pushFrame, State.frames_setTop _ hr', State.setTop_of_frames _ hr', State.setFrames_setFrames, hr]
      rfl
    have hsame : U.sameButNew ({ U with heap := s₂.heap, slotsUsed := s₂.slotsUsed } : State) L mc ms := by
      refine ⟨?_, q2, q3, q4, q5, q6⟩
      obtain ⟨t, ht, -⟩ := State.frames_cons hr
      show ({ U with heap := s₂.heap, slotsUsed := s₂.slotsUsed } : State) = { U.setFrames U.frames with heap := s₂.heap, slotsUsed := s₂.slotsUsed }
      rw [State.setFrames_self ht]
    subst hg
    refine Or.inr ⟨q, ⟨(({ U with heap := s₂.heap, slotsUsed := s₂.slotsUsed } : State).setVm s₂.vm), Ls ++ L, c0 + mc, s0 + ms⟩,
      ⟨X.admits, X.cas, X.clock, X.frames, X.room, X.hears, X.method, X.code, (X.here.setHeapUsed s₂.heap s₂.slotsUsed).setVm hW'.alike, X.tail, State.WarmedH.trans X.warmed hW', X.limits, X.bytes, X.same.trans (hsame.setVm s.vm)⟩,
      ⟨g, mk, s₂, L, E, ce, rfl, rfl, hx, hce, hcv, hcl, rfl, hL, rfl, rfl⟩, ?_⟩
    show Steps p.tables e below _ (((({ U with heap := s₂.heap, slotsUsed := s₂.slotsUsed } : State).setVm s₂.vm).setTop g).pushFrame (.throwing q))
    rw [← hs₂]
    exact hsteps
end
variable {p : Program} {l : Launch} {e : Env} {R : Room} {s : State} {m : MethodId} {args : Array Value} {below : List Frame} {meth : Method} {c : Code} {T : State} {H : Heap} {locs : List Loc} {cells slots : Nat}
theorem vx_callVX (X : Stand p l e R s m args below meth c T locs cells slots) (hexec : p.tables.exec = Jvm.exec) {own C : String} {index : Nat} {y : MethodName} {bytes : ByteArray} {maxL : Nat} {ret : Option FieldType} {hh : List (Nat × Nat × Nat × Nat)}
    (hown : s.vm.findClass own = some m.cls) (hlink : (Cond.methodLink own index y).before args s = true) (hinst : (Cond.instanceMethod y).before args s = true) (hsel : (Cond.selects C y y).before args s = true)
    (hcode : (Cond.codeWith y bytes maxL ret hh).before args s = true) (hy : y.cls ≠ "java/lang/invoke/MethodHandle" ∧ y.cls ≠ "java/lang/invoke/VarHandle")
    {W9 : Nat} {Pre : Pt → Array Value → Prop} {Post : Pt → Array Value → Option Value → Pt → Prop} {PostX : Pt → Array Value → Addr → Pt → Prop} (hK : vx_Back l R p e below s args y 3 W9 Pre Post PostX)
    {b : Addr} {cellB : Cell} (hcell : T.heap[b]? = some cellB) (hobj : cellB.vm.isStatics = false) (hcls : s.vm.findClass C = some cellB.cls)
    {g : JFrame} (hg : g.method = m) (hsize : g.locals.size = c.maxLocals) {argsL rest : List Value} (hlen : ∀ sig, parseMethodDescriptor y.desc = some sig → argsL.length = sig.parameters.length)
    (hstack : g.stack = argsL.reverse ++ .ref b :: rest) (hW : 2 * g.monitorRoom + (rest.map fun v => v.category).sum ≤ W9) (hdg : decode c.code g.pc = .ok (.invokevirtual index, 3))
    (hpre : ∀ vm₁, s.WarmedH vm₁ → Pre ⟨T.setVm vm₁, locs, cells, slots⟩ (Value.ref b :: argsL).toArray) :
    (∃ (v : Option Value) (vm₁ : Vm) (B : Pt), s.WarmedH vm₁ ∧ Stand p l e R s m args below meth c B.U B.locs B.cells B.slots ∧ Post ⟨T.setVm vm₁, locs, cells, slots⟩ (Value.ref b :: argsL).toArray v B ∧
      ∀ target, Steps p.tables e below (B.U.setTop { g with pc := g.pc + 3, stack := v.toList ++ rest }) target → Steps p.tables e below (T.setTop g) target) ∨
    (∃ (q : Addr) (vm₁ : Vm) (B : Pt), s.WarmedH vm₁ ∧ Stand p l e R s m args below meth c B.U B.locs B.cells B.slots ∧ PostX ⟨T.setVm vm₁, locs, cells, slots⟩ (Value.ref b :: argsL).toArray q B ∧
      Steps p.tables e below (T.setTop g) ((B.U.setTop { g with stack := rest }).pushFrame (.throwing q))) := by
  obtain ⟨mk, methM, hnamed, hmethM, hstM, habM⟩ := Cond.instanceMethod_spec hinst
  obtain ⟨m8, methM', cM, hn8, hmethM', -, -, -, -, -, -, hsigM⟩ := Cond.codeWith_spec hcode
  cases Option.some.inj (hn8.symm.trans hnamed)
  cases hmethM.symm.trans hmethM'
  obtain ⟨c2, r2, m2, q1, q2, q3, q4, kP, hkP, hkPi⟩ := Cond.selects_spec hsel
  cases hcls.symm.trans q1
  cases (State.methodFound?_of_named hnamed hy).symm.trans q2
  cases hnamed.symm.trans q3
  have hselP : selectMethod e.platform s.vm cellB.cls mk = .method mk := by rw [Launch.admits_selectMethod X.admits]; exact q4
  obtain ⟨vm₁, X₁, hstep₁⟩ := X.invokevirtual hexec hown hlink hnamed hmethM hstM hkP hkPi hy (a := b) (cell := cellB) hcell
    (fun z h => by rw [h] at hobj; cases hobj) hselP hmethM habM hkP hkPi (g := g) hg (argsL := argsL) (rest := rest) (hlen _ hsigM) hstack hdg
  rcases hK m meth c ⟨T.setVm vm₁, locs, cells, slots⟩ { g with stack := rest } (.invokevirtual index) mk (Value.ref b :: argsL).toArray X₁ hg hsize hdg hW (X₁.named hnamed) (hpre vm₁ X₁.warmed) with ⟨v, B, X', hpost, hsteps⟩ | ⟨q, B, X', hpost, hsteps⟩
  · exact Or.inl ⟨v, vm₁, B, X₁.warmed, X', hpost, fun target h => hstep₁ _ fun acts => by rw [doInvoke_state]; exact hsteps.trans h⟩
  · exact Or.inr ⟨q, vm₁, B, X₁.warmed, X', hpost, hstep₁ _ fun acts => by rw [doInvoke_state]; exact hsteps⟩
theorem vx_callSX (X : Stand p l e R s m args below meth c T locs cells slots) (hexec : p.tables.exec = Jvm.exec) {own : String} {index : Nat} {y : MethodName} {bytes : ByteArray} {maxL : Nat} {ret : Option FieldType} {hh : List (Nat × Nat × Nat × Nat)}
    (hown : s.vm.findClass own = some m.cls) (hlink : (Cond.methodLink own index y).before args s = true) (hstat : (Cond.static y).before args s = true) (hinit : (Cond.initialized y.cls).before args s = true)
    (hcode : (Cond.codeWith y bytes maxL ret hh).before args s = true) (hy : y.cls ≠ "java/lang/invoke/MethodHandle" ∧ y.cls ≠ "java/lang/invoke/VarHandle")
    {W9 : Nat} {Pre : Pt → Array Value → Prop} {Post : Pt → Array Value → Option Value → Pt → Prop} {PostX : Pt → Array Value → Addr → Pt → Prop} (hK : vx_Back l R p e below s args y 3 W9 Pre Post PostX)
    {g : JFrame} (hg : g.method = m) (hsize : g.locals.size = c.maxLocals) {argsL rest : List Value} (hlen : ∀ sig, parseMethodDescriptor y.desc = some sig → argsL.length = sig.parameters.length)
    (hstack : g.stack = argsL.reverse ++ rest) (hW : 2 * g.monitorRoom + (rest.map fun v => v.category).sum ≤ W9) (hdg : decode c.code g.pc = .ok (.invokestatic index, 3))
    (hpre : ∀ vm₁, s.WarmedH vm₁ → Pre ⟨T.setVm vm₁, locs, cells, slots⟩ argsL.toArray) :
    (∃ (v : Option Value) (vm₁ : Vm) (B : Pt), s.WarmedH vm₁ ∧ Stand p l e R s m args below meth c B.U B.locs B.cells B.slots ∧ Post ⟨T.setVm vm₁, locs, cells, slots⟩ argsL.toArray v B ∧
      ∀ target, Steps p.tables e below (B.U.setTop { g with pc := g.pc + 3, stack := v.toList ++ rest }) target → Steps p.tables e below (T.setTop g) target) ∨
    (∃ (q : Addr) (vm₁ : Vm) (B : Pt), s.WarmedH vm₁ ∧ Stand p l e R s m args below meth c B.U B.locs B.cells B.slots ∧ PostX ⟨T.setVm vm₁, locs, cells, slots⟩ argsL.toArray q B ∧
      Steps p.tables e below (T.setTop g) ((B.U.setTop { g with stack := rest }).pushFrame (.throwing q))) := by
  obtain ⟨mk, methM, cM, hnamed, hmethM, -, -, -, -, -, -, hsigM⟩ := Cond.codeWith_spec hcode
  have hstatic : methM.isStatic = true := Cond.static_spec hnamed hmethM hstat
  obtain ⟨kP, hkP, -⟩ := className_of_methodNamed hnamed
  have hinitP : kP.init = .initialized := Cond.initialized_spec (findClass_of_methodNamed hnamed) hkP hinit
  obtain ⟨vm₁, X₁, hstep₁⟩ := X.invokestatic hexec hown hlink hnamed hmethM hstatic hkP hinitP hy (g := g) hg (argsL := argsL) (rest := rest) (hlen _ hsigM) hstack hdg
  rcases hK m meth c ⟨T.setVm vm₁, locs, cells, slots⟩ { g with stack := rest } (.invokestatic index) mk argsL.toArray X₁ hg hsize hdg hW (X₁.named hnamed) (hpre vm₁ X₁.warmed) with ⟨v, B, X', hpost, hsteps⟩ | ⟨q, B, X', hpost, hsteps⟩
  · exact Or.inl ⟨v, vm₁, B, X₁.warmed, X', hpost, fun target h => hstep₁ _ fun acts => by rw [doInvoke_state]; exact hsteps.trans h⟩
  · exact Or.inr ⟨q, vm₁, B, X₁.warmed, X', hpost, hstep₁ _ fun acts => by rw [doInvoke_state]; exact hsteps⟩
theorem vx_callVW (X : Stand p l e R s m args below meth c T locs cells slots) (hexec : p.tables.exec = Jvm.exec) {own C : String} {index : Nat} {y : MethodName} {bytes : ByteArray} {maxL : Nat} {ret : Option FieldType} {hh : List (Nat × Nat × Nat × Nat)}
    (hown : s.vm.findClass own = some m.cls) (hlink : (Cond.methodLink own index y).before args s = true) (hinst : (Cond.instanceMethod y).before args s = true) (hsel : (Cond.selects C y y).before args s = true)
    (hcode : (Cond.codeWith y bytes maxL ret hh).before args s = true) (hy : y.cls ≠ "java/lang/invoke/MethodHandle" ∧ y.cls ≠ "java/lang/invoke/VarHandle")
    {W9 : Nat} {Pre : Pt → Array Value → Prop} {Post : Pt → Array Value → Option Value → Pt → Prop} (hK : Back l R p e below s args y 3 W9 Pre Post)
    {b : Addr} {cellB : Cell} (hcell : T.heap[b]? = some cellB) (hobj : cellB.vm.isStatics = false) (hcls : s.vm.findClass C = some cellB.cls)
    {g : JFrame} (hg : g.method = m) (hsize : g.locals.size = c.maxLocals) {argsL rest : List Value} (hlen : ∀ sig, parseMethodDescriptor y.desc = some sig → argsL.length = sig.parameters.length)
    (hstack : g.stack = argsL.reverse ++ .ref b :: rest) (hW : 2 * g.monitorRoom + (rest.map fun v => v.category).sum ≤ W9) (hdg : decode c.code g.pc = .ok (.invokevirtual index, 3))
    (hpre : ∀ vm₁, s.WarmedH vm₁ → Pre ⟨T.setVm vm₁, locs, cells, slots⟩ (Value.ref b :: argsL).toArray) :
    ∃ (v : Option Value) (vm₁ : Vm) (B : Pt), s.WarmedH vm₁ ∧ Stand p l e R s m args below meth c B.U B.locs B.cells B.slots ∧ Post ⟨T.setVm vm₁, locs, cells, slots⟩ (Value.ref b :: argsL).toArray v B ∧
      ∀ target, Steps p.tables e below (B.U.setTop { g with pc := g.pc + 3, stack := v.toList ++ rest }) target → Steps p.tables e below (T.setTop g) target := by
  obtain ⟨mk, methM, hnamed, hmethM, hstM, habM⟩ := Cond.instanceMethod_spec hinst
  obtain ⟨m8, methM', cM, hn8, hmethM', -, -, -, -, -, -, hsigM⟩ := Cond.codeWith_spec hcode
  cases Option.some.inj (hn8.symm.trans hnamed)
  cases hmethM.symm.trans hmethM'
  obtain ⟨c2, r2, m2, q1, q2, q3, q4, kP, hkP, hkPi⟩ := Cond.selects_spec hsel
  cases hcls.symm.trans q1
  cases (State.methodFound?_of_named hnamed hy).symm.trans q2
  cases hnamed.symm.trans q3
  have hselP : selectMethod e.platform s.vm cellB.cls mk = .method mk := by rw [Launch.admits_selectMethod X.admits]; exact q4
  obtain ⟨vm₁, X₁, hstep₁⟩ := X.invokevirtual hexec hown hlink hnamed hmethM hstM hkP hkPi hy (a := b) (cell := cellB) hcell
    (fun z h => by rw [h] at hobj; cases hobj) hselP hmethM habM hkP hkPi (g := g) hg (argsL := argsL) (rest := rest) (hlen _ hsigM) hstack hdg
  obtain ⟨v, B, X', hpost, hsteps⟩ := hK m meth c ⟨T.setVm vm₁, locs, cells, slots⟩ { g with stack := rest } (.invokevirtual index) mk (Value.ref b :: argsL).toArray X₁ hg hsize hdg hW (X₁.named hnamed) (hpre vm₁ X₁.warmed)
  exact ⟨v, vm₁, B, X₁.warmed, X', hpost, fun target h => hstep₁ _ fun acts => by rw [doInvoke_state]; exact hsteps.trans h⟩
abbrev vx_CVW (R : Room) (s : State) (args : Array Value) (own C : String) (index : Nat) (y : MethodName) (bytes : ByteArray) (maxL : Nat) (ret : Option FieldType) (hh : List (Nat × Nat × Nat × Nat)) (ws : List Cond) (rm : Room) (mc ms n : Nat) : Prop :=
  (rm.cells = mc ∧ rm.slots = ms ∧ rm.frames + 1 ≤ R.frames ∧ 8 + (maxL + 11) + rm.locals ≤ R.locals ∧ (∀ w ∈ ws, ∀ (a' : Array Value) (U : State), s.WarmedH U.vm → w.before a' U = true) ∧ Cond.codeWith y bytes maxL ret hh ∈ ws) ∧
  (Cond.codeWith y bytes maxL ret hh).before args s = true ∧ (Cond.initialized y.cls).before args s = true ∧ (y.cls ≠ "java/lang/invoke/MethodHandle" ∧ y.cls ≠ "java/lang/invoke/VarHandle") ∧
  (∀ sig, parseMethodDescriptor y.desc = some sig → n = sig.parameters.length) ∧ (Cond.methodLink own index y).before args s = true ∧ (Cond.instanceMethod y).before args s = true ∧ (Cond.selects C y y).before args s = true
theorem vx_cwVW {own C : String} {index maxL mc ms : Nat} {y : MethodName} {bytes : ByteArray} {ret : Option FieldType} {hh : List (Nat × Nat × Nat × Nat)} {Ts ws ws' : List Cond} {rm : Room} (n : Nat) (ht : ∀ w ∈ Ts, w.before args s = true) (hT : GoodIn Ts (wsV own index C y ws)) (hw : ws = Cond.codeWith y bytes maxL ret hh :: ws') (hrc : rm.cells = mc) (hrs : rm.slots = ms)
    (hd : y.cls = C ∧ y.cls ≠ "java/lang/invoke/MethodHandle" ∧ y.cls ≠ "java/lang/invoke/VarHandle" ∧ (parseMethodDescriptor y.desc).map (fun d => d.parameters.length) = some n) (hR : rm.frames + 1 ≤ R.frames ∧ 8 + (maxL + 11) + rm.locals ≤ R.locals) :
    vx_CVW R s args own C index y bytes maxL ret hh ws rm mc ms n := by
  obtain ⟨hC, hd⟩ := hd
  subst hC
  have ok : ∀ w ∈ wsV own index y.cls y ws, w.before args s = true := fun w h => ht w (hT w h).1
  have hG : GoodIn Ts ws := fun w h => hT w (by unfold wsV; exact List.mem_append_right _ h)
  have hc : Cond.codeWith y bytes maxL ret hh ∈ ws := by rw [hw]; exact List.mem_cons_self
  refine ⟨⟨hrc, hrs, hR.1, hR.2, pay_in ht hG, hc⟩, ht _ (hG _ hc).1, ok _ (by simp [wsV]), ⟨hd.1, hd.2.1⟩, fun sig h => ?_, ok _ (by simp [wsV]), ok _ (by simp [wsV]), ok _ (by simp [wsV])⟩
  have h2 := hd.2.2
  rw [h] at h2
  exact (Option.some.inj h2).symm
theorem vx_runVW {y : MethodName} {bytes cc : ByteArray} {maxL nL mc ms n index : Nat} {ret : Option FieldType} {hh : List (Nat × Nat × Nat × Nat)} {ws : List Cond} {rm : Room} {Pc : Array Value → State → Prop} {Qc : Array Value → State → Outcome → State → Prop} {free : Addr → Prop} {Ts : List Cond} {own C : String} {b : Addr} {As rest : List Value} {g : JFrame}
    (S : CallFix p m c cc nL s args Ts own) (hM : Met l y ws rm Pc Qc mc ms free) (cw : vx_CVW R s args own C index y bytes maxL ret hh ws rm mc ms n) (hp : PreV s H C b Pc As)
    (hg : g.method = m) (hn : As.length = n) (hsize : g.locals.size = nL) (hstack : g.stack = As.reverse ++ .ref b :: rest) (hW : 2 * g.monitorRoom + (rest.map fun v => v.category).sum ≤ 8) (hdg : decode cc g.pc = .ok (.invokevirtual index, 3)) (hf : cells + mc ≤ R.cells ∧ slots + ms ≤ R.slots) :
    va_Run p l e R s m args below meth c H locs cells slots mc ms g rest (Qc (Value.ref b :: As).toArray) free := by
  obtain ⟨⟨hrc, hrs, hfr, hlo, hws, hcw⟩, hcode, hini, hy, hlen, hl, hin, hse⟩ := cw
  have hK : Back l R p e below s args y 3 8 (PreOf R mc ms Pc) (PostOf Qc mc ms free) := va_backW (hh := hh) (bytes := bytes) (maxL := maxL) (ret := ret) hM hp.1 hrc hrs hfr hlo hws hcw (fun a' U hW => word_at hW (Or.inl (by first | rfl | simp [Cond.onTables, Cond.keeps, Cond.steady])) hini)
  obtain ⟨hx, hb, hml, ho, -⟩ := S
  obtain ⟨-, ⟨cellB, hcB, hoB, hclB⟩, hPc⟩ := hp
  intro T hT X
  obtain ⟨v, vm₁, ⟨U', l2, c2, s2⟩, hW₁, X', ⟨g', mk, t, L, e1, e2, hq, h1, hL, h2, h3⟩, st⟩ := vx_callVW X hx (C := C) (hh := hh) (bytes := bytes) (maxL := maxL) (ret := ret) ho hl hin hse hcode hy hK (by rw [hT]; exact hcB) hoB hclB hg (hsize.trans hml.symm) (argsL := As) (rest := rest) (fun sig h => hn.trans (hlen sig h)) hstack hW (by rw [hb]; exact hdg)
    (fun vm₁ hW₁ => ⟨hf.1, hf.2, hPc (T.setVm vm₁) hT hW₁⟩)
  dsimp only [Pt.U, Pt.locs, Pt.cells, Pt.slots] at X' e1 e2 h1 h2 h3 st
  subst h1; subst h2; subst h3
  exact ⟨v, (T.setVm vm₁).calling g' mk (Value.ref b :: As).toArray, t, U', L, hT, X', hL, e1, e2, hq, st⟩
section
variable {y : MethodName} {bytes cc : ByteArray} {maxL nL mc ms n index : Nat} {ret : Option FieldType} {ws : List Cond} {rm : Room} {Pc : Array Value → State → Prop} {Qc : Array Value → State → Outcome → State → Prop} {XC : String → State → State → Prop} {free : Addr → Prop} {Ts : List Cond} {own C : String} {b : Addr} {As rest : List Value} {g : JFrame}
theorem vx_runVX {hh : List (Nat × Nat × Nat × Nat)} (S : CallFix p m c cc nL s args Ts own) (hM : vx_Met l y ws rm Pc Qc XC mc ms free) (cw : vx_CVW R s args own C index y bytes maxL ret hh ws rm mc ms n) (hp : PreV s H C b Pc As)
    (hg : g.method = m) (hn : As.length = n) (hsize : g.locals.size = nL) (hstack : g.stack = As.reverse ++ .ref b :: rest) (hW : 2 * g.monitorRoom + (rest.map fun v => v.category).sum ≤ 8) (hdg : decode cc g.pc = .ok (.invokevirtual index, 3)) (hf : cells + mc ≤ R.cells ∧ slots + ms ≤ R.slots) :
    vx_Run p l e R s m args below meth c H locs cells slots mc ms g rest (Qc (Value.ref b :: As).toArray) XC free := by
  obtain ⟨⟨hrc, hrs, hfr, hlo, hws, hcw⟩, hcode, hini, hy, hlen, hl, hin, hse⟩ := cw
  have hK : vx_Back l R p e below s args y 3 8 (PreOf R mc ms Pc) (PostOf Qc mc ms free) (vx_Post XC mc ms free) := vx_backW (hh := hh) (bytes := bytes) (maxL := maxL) (ret := ret) hM hp.1 hrc hrs hfr hlo hws hcw (fun a' U hW => word_at hW (Or.inl (by first | rfl | simp [Cond.onTables, Cond.keeps, Cond.steady])) hini)
  obtain ⟨hx, hb, hml, ho, -⟩ := S
  obtain ⟨-, ⟨cellB, hcB, hoB, hclB⟩, hPc⟩ := hp
  intro T hT X
  rcases vx_callVX X hx (C := C) (hh := hh) (bytes := bytes) (maxL := maxL) (ret := ret) ho hl hin hse hcode hy hK (by rw [hT]; exact hcB) hoB hclB hg (hsize.trans hml.symm) (argsL := As) (rest := rest) (fun sig h => hn.trans (hlen sig h)) hstack hW (by rw [hb]; exact hdg)
    (fun vm₁ hW₁ => ⟨hf.1, hf.2, hPc (T.setVm vm₁) hT hW₁⟩) with ⟨v, vm₁, ⟨U', l2, c2, s2⟩, hW₁, X', ⟨g', mk, t, L, e1, e2, hq, h1, hL, h2, h3⟩, st⟩ | ⟨q, vm₁, ⟨U', l2, c2, s2⟩, hW₁, X', ⟨g', mk, t, L, E, ce, e1, e2, hq, hce, hcv, hcl, h1, hL, h2, h3⟩, st⟩
  · dsimp only [Pt.U, Pt.locs, Pt.cells, Pt.slots] at X' e1 e2 h1 h2 h3 st
    subst h1; subst h2; subst h3
    exact Or.inl ⟨v, (T.setVm vm₁).calling g' mk (Value.ref b :: As).toArray, t, U', L, hT, X', hL, e1, e2, hq, st⟩
  · dsimp only [Pt.U, Pt.locs, Pt.cells, Pt.slots] at X' e1 e2 h1 h2 h3 st hcl
    subst h1; subst h2; subst h3
    exact Or.inr ⟨q, (T.setVm vm₁).calling g' mk (Value.ref b :: As).toArray, t, U', L, E, ce, hT, X', hL, e1, e2, hq, hce, hcv, vx_cls hW₁ hcl, st⟩
theorem vx_runSX {hh : List (Nat × Nat × Nat × Nat)} (S : CallFix p m c cc nL s args Ts own) (hM : vx_Met l y ws rm Pc Qc XC mc ms free) (cw : vx_CSW R s args own index y bytes maxL ret hh ws rm mc ms n) (hp : PreS s H Pc As)
    (hg : g.method = m) (hn : As.length = n) (hsize : g.locals.size = nL) (hstack : g.stack = As.reverse ++ rest) (hW : 2 * g.monitorRoom + (rest.map fun v => v.category).sum ≤ 8) (hdg : decode cc g.pc = .ok (.invokestatic index, 3)) (hf : cells + mc ≤ R.cells ∧ slots + ms ≤ R.slots) :
    vx_Run p l e R s m args below meth c H locs cells slots mc ms g rest (Qc As.toArray) XC free := by
  obtain ⟨⟨hrc, hrs, hfr, hlo, hws, hcw⟩, hcode, hini, hy, hlen, hl, hstt⟩ := cw
  have hK : vx_Back l R p e below s args y 3 8 (PreOf R mc ms Pc) (PostOf Qc mc ms free) (vx_Post XC mc ms free) := vx_backW (hh := hh) (bytes := bytes) (maxL := maxL) (ret := ret) hM hp.1 hrc hrs hfr hlo hws hcw (fun a' U hW => word_at hW (Or.inl (by first | rfl | simp [Cond.onTables, Cond.keeps, Cond.steady])) hini)
  obtain ⟨hx, hb, hml, ho, -⟩ := S
  intro T hT X
  rcases vx_callSX X hx (hh := hh) (bytes := bytes) (maxL := maxL) (ret := ret) ho hl hstt hini hcode hy hK hg (hsize.trans hml.symm) (argsL := As) (rest := rest) (fun sig h => hn.trans (hlen sig h)) hstack hW (by rw [hb]; exact hdg)
    (fun vm₁ hW₁ => ⟨hf.1, hf.2, hp.2 (T.setVm vm₁) hT hW₁⟩) with ⟨v, vm₁, ⟨U', l2, c2, s2⟩, hW₁, X', ⟨g', mk, t, L, e1, e2, hq, h1, hL, h2, h3⟩, st⟩ | ⟨q, vm₁, ⟨U', l2, c2, s2⟩, hW₁, X', ⟨g', mk, t, L, E, ce, e1, e2, hq, hce, hcv, hcl, h1, hL, h2, h3⟩, st⟩
  · dsimp only [Pt.U, Pt.locs, Pt.cells, Pt.slots] at X' e1 e2 h1 h2 h3 st
    subst h1; subst h2; subst h3
    exact Or.inl ⟨v, (T.setVm vm₁).calling g' mk As.toArray, t, U', L, hT, X', hL, e1, e2, hq, st⟩
  · dsimp only [Pt.U, Pt.locs, Pt.cells, Pt.slots] at X' e1 e2 h1 h2 h3 st hcl
    subst h1; subst h2; subst h3
    exact Or.inr ⟨q, (T.setVm vm₁).calling g' mk As.toArray, t, U', L, E, ce, hT, X', hL, e1, e2, hq, hce, hcv, vx_cls hW₁ hcl, st⟩
end
end VXH
theorem vx_ofWH {l : Launch} {y : MethodName} {ws ws' : List Cond} {rm : Room} {Pc : Array Value → State → Prop} {Qc : Array Value → State → Outcome → State → Prop} {XC : String → State → State → Prop} {mc ms : Nat} {free : Addr → Prop} {cc : ByteArray} {maxL : Nat} {ret : Option FieldType} {hh : List (Nat × Nat × Nat × Nat)}
    (hy : plainName y.cls = true) (hw : ws = Cond.codeWith y cc maxL ret hh :: ws')
    (body : ∀ p e s m args below meth c s₁, BodyLoose p l y (headSpec ws rm) cc maxL ret e s m args below meth c s₁ → c.maxLocals = maxL → Pc args s →
      W p l e (headSpec ws rm).room s m args below meth c s.heap [] 0 0 (vx_MQ below Qc XC args s mc ms free) (entryFrame m args maxL)) : vx_Met l y ws rm Pc Qc XC mc ms free := by
  refine MetFree.of_bodyS (code := cc) (maxLocals := maxL) (ret := ret) hy ?_ ?_
  · intro args s m h hn
    obtain ⟨m9, meth, c, hn9, h1, h2, h3, h4, -, h5, h6, -⟩ := Cond.codeWith_spec (atoms_spec (ws := ws) h _ (by rw [hw]; exact List.mem_cons_self))
    cases hn.symm.trans hn9
    exact ⟨meth, c, h1, h2, h3, h4, h5, h6⟩
  · intro p e s m args below meth c s₁ B hml hP _
    have hh0 : s₁.heap = s.heap := by rw [B.state]; rfl
    obtain ⟨t, a1, o, b1, b2, b3⟩ := body p e s m args below meth c s₁ B hml hP s₁ hh0 (Stand.of_body B)
    exact ⟨t, o, a1, b1, b2, b3⟩
/-! ===== END ===== -/
end
section
/-! NoSuchElementException: its constructor names RuntimeException's by another entry than the other exceptions' do; so the words of 'throw new NoSuchElementException("text")' are others, and its law stands here -/
def vx_atX (own : String) (ic : Nat) (X : String) (ix : Nat) (rx : ByteArray) (names : List String) : List Cond := (Bundle.ownAtomsX own ic X ix rx names).filter vx_no
def nse_at : List Cond := vx_atX "LeaseDesk" 145 "java/util/NoSuchElementException" 13 prog_13_method_4_code ["java/lang/RuntimeException", "java/lang/Exception"]
section NSE
variable {p : Program} {l : Launch} {e : Env} {R : Room} {s : State} {m : MethodId} {args : Array Value} {below : List Frame} {meth : Method} {c : Code} {locs : List Loc} {cells slots : Nat}
set_option maxHeartbeats 2000000 in
theorem nse_ctor {T9 : State} (X : Stand p l e R s m args below meth c T9 locs cells slots) (hexec : p.tables.exec = Jvm.exec) (htr : e.platform.stackTraces = false) {own cls : String} {names : List String} {ic ix : Nat} {rx : ByteArray}
    (x0 : decode rx 0 = .ok (.aload_n 0, 1)) (x1 : decode rx 1 = .ok (.aload_n 1, 1)) (x2 : decode rx 2 = .ok (.invokespecial ix, 3)) (x5 : decode rx 5 = .ok (.return_, 1))
    (hown : s.vm.findClass own = some m.cls) (hcls : Bundle.fit cls = true) (hnames : ∀ n ∈ names, Bundle.fit n = true)
    (h : ∀ a ∈ Bundle.ownAtomsX own ic cls ix rx names, a.before args s = true)
    (hlocs : ∀ x ∈ locs, ∀ cell, s.heap[x.base]? = some cell → cell.vm.isStatics = false)
    {a : Addr} {cX : ClassId} {kX : Class} (hfoundX : s.vm.findClass cls = some cX) (hkX : s.vm.classes[cX]? = some kX) (hcell : T9.heap[a]? = some (freshCell cX kX)) (hnew : s.heap.size ≤ a)
    {msg : Value} (hmsg : msg.isRef = true)
    {g : JFrame} (hg : g.method = m) (hsize : g.locals.size = c.maxLocals) (hlocked : g.locked = none) (hentered : g.entered = []) {rest : List Value} (hstack : g.stack = msg :: .ref a :: .ref a :: rest)
    (hd6 : decode c.code g.pc = .ok (.invokespecial ic, 3)) (hd9 : decode c.code (g.pc + 3) = .ok (.athrow, 1)) (hout : ∀ x ∈ c.exceptionTable.toList, covers x (g.pc + 3) = false)
    (hRframes : names.length + 3 < R.frames) (hRlocals : 2 * g.monitorRoom + ((Value.ref a :: rest).map fun v => v.category).sum + (13 * (names.length + 1) + 42) ≤ R.locals) (hlocks : meth.locks = false) :
    ∃ U : State, Steps p.tables e below (T9.setTop g) U ∧ U.status = .running ∧ Ended U below (.threw a) ∧ s.WarmedH U.vm ∧ s.sameButNew ({ U with vm := s.vm } : State) locs cells slots ∧
      ∃ ce, U.heap[a]? = some ce ∧ s.vm.findClass cls = some ce.cls ∧ ce.vm = .none := by
  have howns : e.platform.frameOwnsMonitors = true := by rw [X.admits.platform]
  have hfin : e.platform.finalization = false := by rw [X.admits.platform]
  have hpl : e.platform.magicAccessors = ({} : Platform).magicAccessors := by rw [X.admits.platform]
  have w : ∀ x, x ∈ Bundle.ownAtomsX own ic cls ix rx names → x.holds args s none s [] = true := fun x hx => h x hx
  obtain ⟨T, Z0, L, -, Y⟩ := ThrowableC.of_atoms (args := args) howns hfin hpl (fun x hx => h x (by simp [Bundle.ownAtomsX, hx]))
  obtain ⟨Z, M, LZ, LM, hnZ⟩ := Init0T.ofS_atoms (args := args) hpl L Y (fun x hx => h x (by simp [Bundle.ownAtomsX, hx]))
  obtain ⟨P1, Ps, hlen, L1, hL, hP1m, hlink1, hlink⟩ := Bundle.chainSX (args := args) hpl hnZ x0 x1 x2 x5 names cls hcls hnames (fun x hx => h x (by simp [Bundle.ownAtomsX, hx]))
  have hfound : s.vm.findClass cls = some P1.m.cls := findClass_of_methodNamed hP1m
  cases Option.some.inj (hfoundX.symm.trans hfound)
  obtain ⟨c1, kX', hc1, hk, hord, -, -, hn6⟩ := Cond.instantiable_spec (w (.instantiable cls 6) (by simp [Bundle.ownAtomsX]))
  cases Option.some.inj (hc1.symm.trans hfound)
  cases Option.some.inj (hkX.symm.trans hk)
  have hsel0 : selectMethod e.platform s.vm P1.m.cls T.fill0 = .method T.fill0 := by
    obtain ⟨c2, r2, m2, q1, q2, q3, q4, -⟩ := Cond.selects_spec (w (.selects cls Bundle.tFill0 Bundle.tFill0) (by simp [Bundle.ownAtomsX]))
    cases Option.some.inj (q1.symm.trans hfound)
    cases Option.some.inj (q2.symm.trans (State.methodFound?_of_named Y.fill0 (by decide)))
    cases Option.some.inj (q3.symm.trans Y.fill0)
    rw [Launch.admits_selectMethod X.admits]; exact q4
  have hselF : selectMethod e.platform s.vm P1.m.cls T.fill = .method T.fill := by
    obtain ⟨c2, r2, m2, q1, q2, q3, q4, -⟩ := Cond.selects_spec (w (.selects cls Bundle.tFill Bundle.tFill) (by simp [Bundle.ownAtomsX]))
    cases Option.some.inj (q1.symm.trans hfound)
    cases Option.some.inj (q2.symm.trans (State.methodFound?_of_named Y.fill (by decide)))
    cases Option.some.inj (q3.symm.trans Y.fill)
    rw [Launch.admits_selectMethod X.admits]; exact q4
  obtain ⟨cellS0, hcS0, hiss⟩ := Y.statics
  obtain ⟨u0, hu0⟩ := Cond.staticRefV Y.unassigned L.unassignedStatic L.statics hcS0 hiss (w (.isRef (.static Bundle.tN "UNASSIGNED_STACK" Bundle.steD)) (by simp [Bundle.ownAtomsX]))
  obtain ⟨sen, hsen⟩ := Cond.staticRefV Y.sentinel L.sentinelStatic L.statics hcS0 hiss (w (.isRef (.static Bundle.tN "SUPPRESSED_SENTINEL" Bundle.listD)) (by simp [Bundle.ownAtomsX]))
  obtain ⟨ci198, i198, fB, hk198, hg198, ha198, hsB, -, hnB, htB, hffB⟩ := Cond.ownField (t := .object "java/lang/Object") Y.found L.cls (by decide +kernel) (w (.fieldLink Bundle.tN 198 Bundle.tN "backtrace" "Ljava/lang/Object;") (by simp [Bundle.ownAtomsX])) (w (.lays Bundle.tN Bundle.tN "backtrace" "Ljava/lang/Object;") (by simp [Bundle.ownAtomsX])) e.platform hpl
  obtain ⟨cellS, hcS', heS, -, hkeep⟩ := X.same.2.2.2.2.2 T.aS cellS0 hcS0
  have hcellS : T9.heap[T.aS]? = some cellS := hcS'
  have hout' : ∀ i, (⟨T.aS, i⟩ : Loc) ∉ locs := fun i hmem => by
    have := hlocs _ hmem cellS0 hcS0
    rw [hiss] at this; cases this
  have hknownS : cellS.vm ≠ .unknown := by
    rw [heS]; intro hu
    rw [show cellS0.vm = .unknown from hu] at hiss
    cases hiss
  have hneS : T.aS ≠ a := Nat.ne_of_lt (Nat.lt_of_lt_of_le (Array.getElem?_eq_some_iff.mp hcS0).1 hnew)
  obtain ⟨iM, hffM⟩ := Y.msg
  obtain ⟨tyC, dC, hdC, hdnC⟩ := Cond.laysAt hfound hk Y.cause (w (.lays cls Bundle.tN "cause" "Ljava/lang/Throwable;") (by simp [Bundle.ownAtomsX]))
  obtain ⟨tyS, dS, hdS, hdnS⟩ := Cond.laysAt hfound hk Y.stack (w (.lays cls Bundle.tN "stackTrace" Bundle.steD) (by simp [Bundle.ownAtomsX]))
  obtain ⟨tyP, dP, hdP, hdnP⟩ := Cond.laysAt hfound hk Y.supp (w (.lays cls Bundle.tN "suppressedExceptions" Bundle.listD) (by simp [Bundle.ownAtomsX]))
  obtain ⟨tyM, dM, hdM, hdnM⟩ := Cond.laysAt hfound hk hffM (w (.lays cls Bundle.tN "detailMessage" "Ljava/lang/String;") (by simp [Bundle.ownAtomsX]))
  obtain ⟨tyB, dB, hdB, hdnB⟩ := Cond.laysAt hfound hk hffB (w (.lays cls Bundle.tN "backtrace" "Ljava/lang/Object;") (by simp [Bundle.ownAtomsX]))
  have bC := Cond.laysApart hdB hdC hdnB hdnC (by rw [hnB, Y.causeName]; decide)
  have bS := Cond.laysApart hdB hdS hdnB hdnS (by rw [hnB, Y.stackName]; decide)
  have bP := Cond.laysApart hdB hdP hdnB hdnP (by rw [hnB, Y.suppName]; decide)
  have hskip : SkipFacts T e.platform s (fun u => u) u0 ((preparedCellV T.toThrowableT (freshCell P1.m.cls kX) a u0 sen).withEntry T9.cur) :=
    ⟨{ ci198 := ci198, i198 := i198, fBack := fB }, ⟨hk198, hg198, ha198, hsB⟩, by
      have := fresh_default (c := P1.m.cls) tyB
      rw [htB] at this
      simpa [preparedCellV, Cell.setSlot, Cell.withEntry, Array.getElem?_setIfInBounds, bC, bS, bP, bC.symm, bS.symm, bP.symm, defaultValue] using this, fun _ _ => rfl⟩
  obtain ⟨tm, methC, cdC, kC, vm₁, hnC, -, -, -, -, -, -, -, hW₁, st1⟩ := Steps.initColdS (tb := p.tables) (e := e) (below := below) (s := s) (U := T9) X.here hexec X.warmed hpl hown (t := Bundle.initS cls) rfl rfl (Bundle.fit_spec hcls).2
    (w (.methodLink own ic (Bundle.initS cls)) (by simp [Bundle.ownAtomsX])) (h (.instanceMethod (Bundle.initS cls)) (by cases names <;> simp [Bundle.ownAtomsX, Bundle.chainSAtomsX, Bundle.passSAtoms])) (bytes := rx) (maxL := 2) (h (.code (Bundle.initS cls) rx 2 none) (by cases names <;> simp [Bundle.ownAtomsX, Bundle.chainSAtomsX, Bundle.passSAtoms]))
    (f := g) hg (a := a) (msg := msg) (rest := .ref a :: rest) hstack hd6
  cases Option.some.inj (hnC.symm.trans hP1m)
  have X₁ := X.noted hW₁
  obtain ⟨vm₂, X₂, st2⟩ := X₁.ctorMessageOffV hexec (g := { g with stack := .ref a :: rest }) hg hsize T L Z LZ M LM (P1 :: Ps)
    (fun P hP => by rcases List.mem_cons.mp hP with rfl | hP; exact L1; exact hL P hP) ⟨hlink1, hlink⟩ (u0 := u0) (sen := sen) (self := a) hmsg (cell := freshCell P1.m.cls kX) (cellS := cellS)
    hcell (fun _ => by simp) (by simp) rfl rfl hsel0 hselF hcellS hneS hknownS (by rw [hkeep _ (hout' _)]; exact hu0) (by rw [hkeep _ (hout' _)]; exact hsen)
    (Takes.of_laid hk hord tyC (by rw [Y.causeType]; rfl)) (Takes.of_laid hk hord tyS (by rw [Y.stackType]; exact fits_refV_array _ u0)) (Takes.of_laid hk hord tyP (by rw [Y.suppType]; exact fits_refV_object _ sen))
    (Takes.of_laid hk hord tyM (by rw [Y.msgType]; exact fits_refV_object _ ⟨msg, hmsg⟩)) Y.objLocals hskip htr [] hd6
    (by simp only [List.length_cons, hlen]; omega) (by simp only [List.length_cons, hlen]; exact hRlocals)
  obtain ⟨hwalk, hrun, hended, hWU, hsame⟩ := X₂.athrowLeaves hexec (g := { g with stack := .ref a :: rest, pc := g.pc + 3 }) hg hlocked hentered hout (a := a) (rest := rest) rfl hd9
  have hlt : a < ((T9.setVm vm₁).setVm vm₂).heap.size := (Array.getElem?_eq_some_iff.mp hcell).1
  have hU := heapAt_setCell_self (s := (T9.setVm vm₁).setVm vm₂) (plainBareV T.toThrowableT (freshCell P1.m.cls kX) a u0 sen msg) hlt
  refine ⟨_, st1 _ (fun acts => ?_), hrun, hended, hWU, hsame.weaken (fun y hy hlt' => ?_) (Nat.le_refl _) (Nat.le_refl _), _, hU, hfound, rfl⟩
  · rw [doInvoke_state]
    exact st2 _ hwalk
  · rcases List.mem_append.mp hy with h1 | h1
    · exact h1
    · exfalso
      have hb : y.base = a := by
        simp only [List.mem_cons, List.not_mem_nil, or_false] at h1
        rcases h1 with rfl | rfl | rfl | rfl | rfl <;> rfl
      rw [hb] at hlt'
      exact Nat.not_lt.mpr hnew hlt'
variable {H : Heap} {mc ms : Nat} {free : Addr → Prop} {ls : Array Slot} {rest : List Value} {Qc : Array Value → State → Outcome → State → Prop} {XC : String → State → State → Prop}
/-- 'throw new E("text")' where E's constructor names the next one by the entry ix -/
theorem nse_throw {cc : ByteArray} {pc : Nat} (hexec : p.tables.exec = Jvm.exec) (hb : c.code = cc) (hl : l.stackTraces = false) {own cls text : String} {names : List String} {ik is ic ix mc ms sa : Nat} {rx : ByteArray} {A : Nat → Prop}
    (x0 : decode rx 0 = .ok (.aload_n 0, 1)) (x1 : decode rx 1 = .ok (.aload_n 1, 1)) (x2 : decode rx 2 = .ok (.invokespecial ix, 3)) (x5 : decode rx 5 = .ok (.return_, 1))
    (hown : s.vm.findClass own = some m.cls) (hcls : Bundle.fit cls = true) (hnames : ∀ n ∈ names, Bundle.fit n = true)
    (hk : (Cond.classLink own ik cls).before args s = true) (hini : (Cond.initialized cls).before args s = true) (hstr : vk_R own is text sa s) (hat : ∀ w ∈ vx_atX own ic cls ix rx names, w.before args s = true)
    (hgood : ∀ w ∈ Cond.classLink own ik cls :: Cond.initialized cls :: vx_atX own ic cls ix rx names, vx_ot w = true)
    (hU : vx_Zq Bundle.tN "UNASSIGNED_STACK" Bundle.steD A s s.heap) (hN : vx_Zq Bundle.tN "SUPPRESSED_SENTINEL" Bundle.listD A s s.heap) (hS : va_S A s.heap H locs) (hsize : ls.size = c.maxLocals)
    (d0 : decode cc pc = .ok (.new ik, 3)) (d3 : decode cc (pc + 3) = .ok (.dup, 1)) (d4 : decode cc (pc + 4) = .ok (.ldc is, 2)) (d6 : decode cc (pc + 6) = .ok (.invokespecial ic, 3)) (d9 : decode cc (pc + 9) = .ok (.athrow, 1))
    (hout : ∀ x ∈ c.exceptionTable.toList, covers x (pc + 9) = false)
    (hRframes : names.length + 3 < R.frames) (hRlocals : (rest.map fun v => v.category).sum + (13 * (names.length + 1) + 43) ≤ R.locals) (hRcells : cells + 1 ≤ R.cells) (hRslots : slots + 6 ≤ R.slots) (hlocks : meth.locks = false)
    (hx : ∀ t : State, s.vm.Alike t.vm → H.size ≤ t.heap.size → (∀ q : Nat, q < H.size → t.heap[q]? = H[q]?) → XC cls s t)
    (hf : ∀ z ∈ locs, free z.base) (hc : cells + 1 ≤ mc) (hs : slots + 6 ≤ ms) :
    W p l e R s m args below meth c H locs cells slots (vx_MQ below Qc XC args s mc ms free) (F0 m pc ls rest) := by
  intro T hT X
  have htr : e.platform.stackTraces = false := (show e.platform.stackTraces = l.stackTraces by rw [X.admits.platform]).trans hl
  have Y := vx_rebase X (R' := { frames := R.frames, locals := R.locals, cells := 1, slots := 6 }) (Nat.le_refl _) (Nat.le_refl _) hRcells hRslots
  obtain ⟨s', hA⟩ : ∃ z, z = (T.setVm s.vm).setFrames (.invoking m args :: below) := ⟨_, rfl⟩
  rw [← hA] at Y
  have hvm : s'.vm = s.vm := by rw [hA]; rfl
  have hhp : s'.heap = H := by rw [hA]; exact hT
  have hW0 : s.WarmedH s'.vm := by rw [hvm]; exact State.WarmedH.refl s
  have hat' : ∀ w ∈ vx_atX own ic cls ix rx names, w.before args s' = true := fun w hw => vx_ot_at hW0 hvm.symm (hgood w (List.mem_cons_of_mem _ (List.mem_cons_of_mem _ hw))) (hat w hw)
  have hk' : (Cond.classLink own ik cls).before args s' = true := vx_ot_at hW0 hvm.symm (hgood _ List.mem_cons_self) hk
  have hini' : (Cond.initialized cls).before args s' = true := vx_ot_at hW0 hvm.symm (hgood _ (List.mem_cons_of_mem _ List.mem_cons_self)) hini
  have hU' : vx_Zq Bundle.tN "UNASSIGNED_STACK" Bundle.steD A s' s'.heap := by rw [hhp]; exact vx_Zq.moved hW0.alike (hU.kept hS.2.1)
  have hN' : vx_Zq Bundle.tN "SUPPRESSED_SENTINEL" Bundle.listD A s' s'.heap := by rw [hhp]; exact vx_Zq.moved hW0.alike (hN.kept hS.2.1)
  have h : ∀ w ∈ Bundle.ownAtomsX own ic cls ix rx names, w.before args s' = true := vx_own hat' (vx_isRefq hU'.1) (vx_isRefq hN'.1) hU'.2.word hN'.2.word
  have hown' : s'.vm.findClass own = some m.cls := by rw [hvm]; exact hown
  have hins : (Cond.instantiable cls 6).before args s' = true := h _ (by simp [Bundle.ownAtomsX])
  obtain ⟨vm₁, cX, kX, hfX, hkX, -, -, X₁, st1⟩ := Y.newCold hexec (own := own) (C := cls) (index := ik) (n := 6) hown' hk' hins hini'
    (g := F0 m pc ls rest) rfl (by rw [hb]; exact d0) (Nat.le_refl _) (Nat.le_refl _)
  generalize hT1 : (T.setVm vm₁).pushCell { cls := cX, slots := kX.instanceTypes.map defaultValue, vm := .none } = T1 at X₁ st1
  have hcat : (Value.ref T.heap.size).category = 1 := rfl
  have hcellA : T1.heap[T.heap.size]? = some (freshCell cX kX) := by rw [← hT1]; exact State.heap_pushCell_size _ _
  have d3' : decode c.code (pc + 3) = .ok (.dup, 1) := by rw [hb]; exact d3
  have d4' : decode c.code (pc + 4) = .ok (.ldc is, 2) := by rw [hb]; exact d4
  have hstr' : vk_R own is text sa s' := vk_R.warm hW0 hstr
  obtain ⟨U, hsteps, hrun, hend, hW, hsame, ce, hce, hcl0, hcv⟩ := nse_ctor X₁ hexec htr (own := own) (cls := cls) (names := names) (ic := ic) x0 x1 x2 x5 hown' hcls hnames h (fun x hx => nomatch hx) hfX hkX hcellA (by rw [hhp, hT]; exact Nat.le_refl _) (msg := .ref sa) rfl
    (g := { method := m, pc := pc + 6, locals := ls, stack := .ref sa :: .ref T.heap.size :: .ref T.heap.size :: rest, locked := none }) rfl hsize rfl rfl (rest := rest) rfl
    (by rw [hb]; exact d6) (by rw [hb]; exact d9) hout hRframes (by simp only [List.map_cons, List.sum_cons, hcat]; omega) hlocks
  obtain ⟨f1, f2⟩ := vx_frame hsame
  rw [hhp] at f1 f2
  have hWs : s.WarmedH U.vm := State.WarmedH.trans hW0 hW
  have hcl : s.vm.findClass cls = some ce.cls := by
    rw [hvm] at hcl0
    exact hcl0
  have hall : s.sameButNew ({ U with vm := s.vm } : State) locs mc ms := by
    subst hA
    obtain ⟨e1, e2⟩ := hsame
    rw [State.setFrames_setFrames] at e1
    have h2 : (T.setVm s.vm).sameButNew ({ U with vm := s.vm } : State) [] (0 + 1) (0 + 6) := ⟨e1, e2⟩
    have h3 := X.same.trans h2
    rw [List.append_nil] at h3
    exact h3.mono hc hs
  refine ⟨U, ?_, .threw T.heap.size, hrun, hend, Or.inr ⟨T.heap.size, rfl, cls, ce, locs, hx U hWs.alike f1 (fun q hq => f2 q hq (fun z hz => nomatch hz)), hce, hcv, hcl, hWs, hall, hf⟩⟩
  refine st1 _ ?_
  show Steps p.tables e below (T1.setTop { method := m, pc := pc + 3, locals := ls, stack := .ref T.heap.size :: rest, locked := none }) _
  jvm_step X₁.here [X₁.here.top, hexec, d3', Value.category]
  exact X₁.ldcString hexec (own := own) (text := text) (index := is) (a := sa) hown' hstr'.1 hstr'.2
    (g := { method := m, pc := pc + 4, locals := ls, stack := .ref T.heap.size :: .ref T.heap.size :: rest, locked := none }) rfl d4' _ hsteps
end NSE
end
section
/-! ===== BEGIN printed: names, fields, word lists, decode rows ===== -/
def RX0 : String := "LeaseDesk$Lock"
def TX0 : u_T := fun k => match k with
  | 0 => ("LeaseDesk$Lock", "row", "LLeaseDesk$Row;", true)
  | 1 => ("LeaseDesk$Lock", "holder", "I", false)
  | 2 => ("LeaseDesk$Lock", "token", "I", false)
  | 3 => ("LeaseDesk$Lock", "ends", "I", false)
  | 4 => ("LeaseDesk$Lock", "term", "I", false)
  | 5 => ("LeaseDesk$Lock", "start", "I", false)
  | 6 => ("LeaseDesk$Lock", "seenToken", "I", false)
  | _ => ("LeaseDesk$Lock", "value", "I", false)
def tyX0 : Nat → FieldType := fun k => match k with
  | 0 => .object "LeaseDesk$Row"
  | 1 => .int
  | 2 => .int
  | 3 => .int
  | 4 => .int
  | 5 => .int
  | 6 => .int
  | _ => .int
abbrev wsX00 : List Cond := u_ws RX0 TX0 8
theorem nmX0 : ∀ a, a < 8 → ∀ b, b < 8 → a ≠ b → (TX0 a).2.1 ≠ (TX0 b).2.1 := by decide +kernel
theorem tyX0_ok : ∀ k, k < 8 → parseFieldDescriptor (TX0 k).2.2.1 = some (tyX0 k) := by decide +kernel
abbrev cX0_init : ByteArray := prog_2_method_1_code
def yX0_init : MethodName := ⟨RX0, "<init>", "()V"⟩
abbrev cX0_isFree : ByteArray := prog_2_method_2_code
def yX0_isFree : MethodName := ⟨RX0, "isFree", "()Z"⟩
abbrev cX0_lend : ByteArray := prog_2_method_3_code
def yX0_lend : MethodName := ⟨RX0, "lend", "(IIII)V"⟩
abbrev cX0_renew : ByteArray := prog_2_method_4_code
def yX0_renew : MethodName := ⟨RX0, "renew", "(III)V"⟩
abbrev cX0_runFrom : ByteArray := prog_2_method_5_code
def yX0_runFrom : MethodName := ⟨RX0, "runFrom", "(III)V"⟩
def RX1 : String := "LeaseDesk$Row"
def TX1 : u_T := fun k => match k with
  | 0 => ("LeaseDesk$Row", "slots", "[I", true)
  | 1 => ("LeaseDesk$Row", "terms", "[I", true)
  | _ => ("LeaseDesk$Row", "length", "I", false)
def tyX1 : Nat → FieldType := fun k => match k with
  | 0 => .array .int
  | 1 => .array .int
  | _ => .int
abbrev wsX10 : List Cond := u_ws RX1 TX1 3
theorem nmX1 : ∀ a, a < 3 → ∀ b, b < 3 → a ≠ b → (TX1 a).2.1 ≠ (TX1 b).2.1 := by decide +kernel
theorem tyX1_ok : ∀ k, k < 3 → parseFieldDescriptor (TX1 k).2.2.1 = some (tyX1 k) := by decide +kernel
abbrev cX1_init : ByteArray := prog_3_method_1_code
def yX1_init : MethodName := ⟨RX1, "<init>", "()V"⟩
abbrev cX1_slotAt : ByteArray := prog_3_method_2_code
def yX1_slotAt : MethodName := ⟨RX1, "slotAt", "(I)I"⟩
abbrev cX1_termAt : ByteArray := prog_3_method_3_code
def yX1_termAt : MethodName := ⟨RX1, "termAt", "(I)I"⟩
abbrev cX1_ask : ByteArray := prog_3_method_4_code
def yX1_ask : MethodName := ⟨RX1, "ask", "(II)V"⟩
abbrev cX1_drop : ByteArray := prog_3_method_5_code
def yX1_drop : MethodName := ⟨RX1, "drop", "(I)Z"⟩
abbrev cX1_isTaken : ByteArray := prog_3_method_6_code
def yX1_isTaken : MethodName := ⟨RX1, "isTaken", "(I)Z"⟩
abbrev cX1_placeOf : ByteArray := prog_3_method_7_code
def yX1_placeOf : MethodName := ⟨RX1, "placeOf", "(I)I"⟩
def RX2 : String := "LeaseDesk$Session"
def TX2 : u_T := fun k => match k with
  | 0 => ("LeaseDesk$Session", "isOpen", "Z", false)
  | 1 => ("LeaseDesk$Session", "sign", "I", false)
  | 2 => ("LeaseDesk$Session", "rate", "I", false)
  | _ => ("LeaseDesk$Session", "clock", "I", false)
def tyX2 : Nat → FieldType := fun k => match k with
  | 0 => .boolean
  | 1 => .int
  | 2 => .int
  | _ => .int
abbrev wsX20 : List Cond := u_ws RX2 TX2 4
theorem nmX2 : ∀ a, a < 4 → ∀ b, b < 4 → a ≠ b → (TX2 a).2.1 ≠ (TX2 b).2.1 := by decide +kernel
theorem tyX2_ok : ∀ k, k < 4 → parseFieldDescriptor (TX2 k).2.2.1 = some (tyX2 k) := by decide +kernel
abbrev cX2_init : ByteArray := prog_4_method_1_code
def yX2_init : MethodName := ⟨RX2, "<init>", "()V"⟩
abbrev cX2_begin : ByteArray := prog_4_method_2_code
def yX2_begin : MethodName := ⟨RX2, "begin", "(I)V"⟩
def RX3 : String := "LeaseDesk"
def TX3 : u_T := fun k => match k with
  | 0 => ("LeaseDesk", "sessions", "[LLeaseDesk$Session;", true)
  | 1 => ("LeaseDesk", "locks", "[LLeaseDesk$Lock;", true)
  | _ => ("LeaseDesk", "now", "I", false)
def tyX3 : Nat → FieldType := fun k => match k with
  | 0 => .array (.object "LeaseDesk$Session")
  | 1 => .array (.object "LeaseDesk$Lock")
  | _ => .int
abbrev wsX30 : List Cond := u_ws RX3 TX3 3
theorem nmX3 : ∀ a, a < 3 → ∀ b, b < 3 → a ≠ b → (TX3 a).2.1 ≠ (TX3 b).2.1 := by decide +kernel
theorem tyX3_ok : ∀ k, k < 3 → parseFieldDescriptor (TX3 k).2.2.1 = some (tyX3 k) := by decide +kernel
abbrev cX3_init : ByteArray := prog_1_method_1_code
def yX3_init : MethodName := ⟨RX3, "<init>", "()V"⟩
abbrev cX3_open : ByteArray := prog_1_method_2_code
def yX3_open : MethodName := ⟨RX3, "open", "()I"⟩
abbrev cX3_close : ByteArray := prog_1_method_3_code
def yX3_close : MethodName := ⟨RX3, "close", "(I)I"⟩
abbrev cX3_keep : ByteArray := prog_1_method_4_code
def yX3_keep : MethodName := ⟨RX3, "keep", "(I)V"⟩
abbrev cX3_rate : ByteArray := prog_1_method_5_code
def yX3_rate : MethodName := ⟨RX3, "rate", "(II)Z"⟩
abbrev cX3_tick : ByteArray := prog_1_method_6_code
def yX3_tick : MethodName := ⟨RX3, "tick", "(I)I"⟩
abbrev cX3_acquire : ByteArray := prog_1_method_7_code
def yX3_acquire : MethodName := ⟨RX3, "acquire", "(III)I"⟩
abbrev cX3_release : ByteArray := prog_1_method_8_code
def yX3_release : MethodName := ⟨RX3, "release", "(II)V"⟩
abbrev cX3_cancel : ByteArray := prog_1_method_9_code
def yX3_cancel : MethodName := ⟨RX3, "cancel", "(II)Z"⟩
abbrev cX3_holder : ByteArray := prog_1_method_10_code
def yX3_holder : MethodName := ⟨RX3, "holder", "(I)I"⟩
abbrev cX3_token : ByteArray := prog_1_method_11_code
def yX3_token : MethodName := ⟨RX3, "token", "(I)I"⟩
abbrev cX3_until : ByteArray := prog_1_method_12_code
def yX3_until : MethodName := ⟨RX3, "until", "(I)I"⟩
abbrev cX3_waiter : ByteArray := prog_1_method_13_code
def yX3_waiter : MethodName := ⟨RX3, "waiter", "(II)I"⟩
abbrev cX3_time : ByteArray := prog_1_method_14_code
def yX3_time : MethodName := ⟨RX3, "time", "()I"⟩
abbrev cX3_clock : ByteArray := prog_1_method_15_code
def yX3_clock : MethodName := ⟨RX3, "clock", "(I)I"⟩
abbrev cX3_believes : ByteArray := prog_1_method_16_code
def yX3_believes : MethodName := ⟨RX3, "believes", "(II)Z"⟩
abbrev cX3_write : ByteArray := prog_1_method_17_code
def yX3_write : MethodName := ⟨RX3, "write", "(III)Z"⟩
abbrev cX3_stored : ByteArray := prog_1_method_18_code
def yX3_stored : MethodName := ⟨RX3, "stored", "(I)I"⟩
abbrev cX3_seen : ByteArray := prog_1_method_19_code
def yX3_seen : MethodName := ⟨RX3, "seen", "(I)I"⟩
abbrev cX3_openSession : ByteArray := prog_1_method_20_code
def yX3_openSession : MethodName := ⟨RX3, "openSession", "(I)LLeaseDesk$Session;"⟩
abbrev cX3_knownLock : ByteArray := prog_1_method_21_code
def yX3_knownLock : MethodName := ⟨RX3, "knownLock", "(I)LLeaseDesk$Lock;"⟩
abbrev cX3_requireSession : ByteArray := prog_1_method_22_code
def yX3_requireSession : MethodName := ⟨RX3, "requireSession", "(I)LLeaseDesk$Session;"⟩
abbrev cX3_requireLock : ByteArray := prog_1_method_23_code
def yX3_requireLock : MethodName := ⟨RX3, "requireLock", "(I)LLeaseDesk$Lock;"⟩
abbrev cX3_moveClocks : ByteArray := prog_1_method_24_code
def yX3_moveClocks : MethodName := ⟨RX3, "moveClocks", "(I)V"⟩
abbrev cX3_endSilentSessions : ByteArray := prog_1_method_25_code
def yX3_endSilentSessions : MethodName := ⟨RX3, "endSilentSessions", "()I"⟩
abbrev cX3_passOnLeasesDue : ByteArray := prog_1_method_26_code
def yX3_passOnLeasesDue : MethodName := ⟨RX3, "passOnLeasesDue", "()I"⟩
abbrev cX3_endSession : ByteArray := prog_1_method_27_code
def yX3_endSession : MethodName := ⟨RX3, "endSession", "(LLeaseDesk$Session;I)I"⟩
abbrev cX3_passOn : ByteArray := prog_1_method_28_code
def yX3_passOn : MethodName := ⟨RX3, "passOn", "(LLeaseDesk$Lock;)V"⟩
def RX4 : String := "LeaseDeskModel"
def TX4 : u_T := fun k => match k with
  | 0 => ("LeaseDeskModel", "time", "I", false)
  | 1 => ("LeaseDeskModel", "thrown", "I", false)
  | 2 => ("LeaseDeskModel", "numbers", "I", false)
  | 3 => ("LeaseDeskModel", "there", "[Z", true)
  | 4 => ("LeaseDeskModel", "signed", "[I", true)
  | 5 => ("LeaseDeskModel", "rates", "[I", true)
  | 6 => ("LeaseDeskModel", "clocks", "[I", true)
  | 7 => ("LeaseDeskModel", "has", "[I", true)
  | 8 => ("LeaseDeskModel", "tokens", "[I", true)
  | 9 => ("LeaseDeskModel", "ends", "[I", true)
  | 10 => ("LeaseDeskModel", "terms", "[I", true)
  | 11 => ("LeaseDeskModel", "starts", "[I", true)
  | 12 => ("LeaseDeskModel", "wishes", "[I", true)
  | 13 => ("LeaseDeskModel", "wished", "[I", true)
  | 14 => ("LeaseDeskModel", "greatest", "[I", true)
  | _ => ("LeaseDeskModel", "values", "[I", true)
def tyX4 : Nat → FieldType := fun k => match k with
  | 0 => .int
  | 1 => .int
  | 2 => .int
  | 3 => .array .boolean
  | 4 => .array .int
  | 5 => .array .int
  | 6 => .array .int
  | 7 => .array .int
  | 8 => .array .int
  | 9 => .array .int
  | 10 => .array .int
  | 11 => .array .int
  | 12 => .array .int
  | 13 => .array .int
  | 14 => .array .int
  | _ => .array .int
abbrev wsX40 : List Cond := u_ws RX4 TX4 16
theorem nmX4 : ∀ a, a < 16 → ∀ b, b < 16 → a ≠ b → (TX4 a).2.1 ≠ (TX4 b).2.1 := by decide +kernel
theorem tyX4_ok : ∀ k, k < 16 → parseFieldDescriptor (TX4 k).2.2.1 = some (tyX4 k) := by decide +kernel
abbrev cX4_init : ByteArray := prog_6_method_1_code
def yX4_init : MethodName := ⟨RX4, "<init>", "()V"⟩
abbrev cX4_thrown : ByteArray := prog_6_method_2_code
def yX4_thrown : MethodName := ⟨RX4, "thrown", "()I"⟩
abbrev cX4_isOpen : ByteArray := prog_6_method_3_code
def yX4_isOpen : MethodName := ⟨RX4, "isOpen", "(I)Z"⟩
abbrev cX4_isLock : ByteArray := prog_6_method_4_code
def yX4_isLock : MethodName := ⟨RX4, "isLock", "(I)Z"⟩
abbrev cX4_lend : ByteArray := prog_6_method_5_code
def yX4_lend : MethodName := ⟨RX4, "lend", "(III)V"⟩
abbrev cX4_inRow : ByteArray := prog_6_method_6_code
def yX4_inRow : MethodName := ⟨RX4, "inRow", "(II)I"⟩
abbrev cX4_over : ByteArray := prog_6_method_7_code
def yX4_over : MethodName := ⟨RX4, "over", "(I)V"⟩
abbrev cX4_gone : ByteArray := prog_6_method_8_code
def yX4_gone : MethodName := ⟨RX4, "gone", "(I)I"⟩
abbrev cX4_open : ByteArray := prog_6_method_9_code
def yX4_open : MethodName := ⟨RX4, "open", "()I"⟩
abbrev cX4_close : ByteArray := prog_6_method_10_code
def yX4_close : MethodName := ⟨RX4, "close", "(I)I"⟩
abbrev cX4_keep : ByteArray := prog_6_method_11_code
def yX4_keep : MethodName := ⟨RX4, "keep", "(I)V"⟩
abbrev cX4_rate : ByteArray := prog_6_method_12_code
def yX4_rate : MethodName := ⟨RX4, "rate", "(II)Z"⟩
abbrev cX4_tick : ByteArray := prog_6_method_13_code
def yX4_tick : MethodName := ⟨RX4, "tick", "(I)I"⟩
abbrev cX4_acquire : ByteArray := prog_6_method_14_code
def yX4_acquire : MethodName := ⟨RX4, "acquire", "(III)I"⟩
abbrev cX4_release : ByteArray := prog_6_method_15_code
def yX4_release : MethodName := ⟨RX4, "release", "(II)V"⟩
abbrev cX4_cancel : ByteArray := prog_6_method_16_code
def yX4_cancel : MethodName := ⟨RX4, "cancel", "(II)Z"⟩
abbrev cX4_holder : ByteArray := prog_6_method_17_code
def yX4_holder : MethodName := ⟨RX4, "holder", "(I)I"⟩
abbrev cX4_token : ByteArray := prog_6_method_18_code
def yX4_token : MethodName := ⟨RX4, "token", "(I)I"⟩
abbrev cX4_until : ByteArray := prog_6_method_19_code
def yX4_until : MethodName := ⟨RX4, "until", "(I)I"⟩
abbrev cX4_waiter : ByteArray := prog_6_method_20_code
def yX4_waiter : MethodName := ⟨RX4, "waiter", "(II)I"⟩
abbrev cX4_time : ByteArray := prog_6_method_21_code
def yX4_time : MethodName := ⟨RX4, "time", "()I"⟩
abbrev cX4_clock : ByteArray := prog_6_method_22_code
def yX4_clock : MethodName := ⟨RX4, "clock", "(I)I"⟩
abbrev cX4_believes : ByteArray := prog_6_method_23_code
def yX4_believes : MethodName := ⟨RX4, "believes", "(II)Z"⟩
abbrev cX4_write : ByteArray := prog_6_method_24_code
def yX4_write : MethodName := ⟨RX4, "write", "(III)Z"⟩
abbrev cX4_stored : ByteArray := prog_6_method_25_code
def yX4_stored : MethodName := ⟨RX4, "stored", "(I)I"⟩
abbrev cX4_seen : ByteArray := prog_6_method_26_code
def yX4_seen : MethodName := ⟨RX4, "seen", "(I)I"⟩
def RJ0 : String := "java/lang/String"
def TJ0 : u_T := fun k => match k with
  | _ => ("", "", "", false)
def tyJ0 : Nat → FieldType := fun k => match k with
  | _ => .int
abbrev wsJ00 : List Cond := u_ws RJ0 TJ0 0
theorem nmJ0 : ∀ a, a < 0 → ∀ b, b < 0 → a ≠ b → (TJ0 a).2.1 ≠ (TJ0 b).2.1 := by decide +kernel
theorem tyJ0_ok : ∀ k, k < 0 → parseFieldDescriptor (TJ0 k).2.2.1 = some (tyJ0 k) := by decide +kernel
def RL : String := "LeaseDeskLaw"
abbrev cL_open : ByteArray := method_3_code
def yL_open : MethodName := ⟨RL, "open", "(LLeaseDesk;[J)I"⟩
abbrev cL_close : ByteArray := method_4_code
def yL_close : MethodName := ⟨RL, "close", "(LLeaseDesk;I[J)I"⟩
abbrev cL_keep : ByteArray := method_5_code
def yL_keep : MethodName := ⟨RL, "keep", "(LLeaseDesk;I)I"⟩
abbrev cL_acquire : ByteArray := method_6_code
def yL_acquire : MethodName := ⟨RL, "acquire", "(LLeaseDesk;III[J)I"⟩
abbrev cL_release : ByteArray := method_7_code
def yL_release : MethodName := ⟨RL, "release", "(LLeaseDesk;II)I"⟩
abbrev cL_law : ByteArray := code
def yL_law : MethodName := ⟨RL, "law", "([I)Z"⟩
def wsX1_init : List Cond := .code yX1_init cX1_init 1 none :: ([.methodLink RX1 3 objectInit, .instanceMethod objectInit, .code objectInit ⟨#[0xb1]⟩ 1 none, .arrayClass .int, .fieldLink RX1 9 "LeaseDesk$Row" "slots" "[I", .fieldLink RX1 15 "LeaseDesk$Row" "terms" "[I"] ++ wsX10)
def wsX0_init : List Cond := .code yX0_init cX0_init 1 none :: ([.methodLink RX0 3 objectInit, .instanceMethod objectInit, .code objectInit ⟨#[0xb1]⟩ 1 none, .classLink RX0 9 RX1, .instantiable RX1 3, .initialized RX1, .fieldLink RX0 12 "LeaseDesk$Lock" "row" "LLeaseDesk$Row;", .fieldLink RX0 18 "LeaseDesk$Lock" "holder" "I", .instanceMethod yX1_init, .code yX1_init cX1_init 1 none, .methodLink RX1 3 objectInit, .arrayClass .int, .fieldLink RX1 9 "LeaseDesk$Row" "slots" "[I", .fieldLink RX1 15 "LeaseDesk$Row" "terms" "[I"] ++ wsX10 ++ wsX00)
def wsX0_isFree : List Cond := .code yX0_isFree cX0_isFree 1 (some .boolean) :: ([.fieldLink RX0 18 "LeaseDesk$Lock" "holder" "I"] ++ wsX00)
def wsX0_runFrom : List Cond := .code yX0_runFrom cX0_runFrom 4 none :: ([.fieldLink RX0 29 "LeaseDesk$Lock" "ends" "I", .fieldLink RX0 32 "LeaseDesk$Lock" "term" "I", .fieldLink RX0 35 "LeaseDesk$Lock" "start" "I"] ++ wsX00)
def wsX0_lend : List Cond := .code yX0_lend cX0_lend 5 none :: ([.fieldLink RX0 18 "LeaseDesk$Lock" "holder" "I", .fieldLink RX0 22 "LeaseDesk$Lock" "token" "I", .methodLink RX0 25 yX0_runFrom, .instanceMethod yX0_runFrom, .selects RX0 yX0_runFrom yX0_runFrom, .initialized RX0, .code yX0_runFrom cX0_runFrom 4 none, .fieldLink RX0 29 "LeaseDesk$Lock" "ends" "I", .fieldLink RX0 32 "LeaseDesk$Lock" "term" "I", .fieldLink RX0 35 "LeaseDesk$Lock" "start" "I"] ++ wsX00)
def wsX0_renew : List Cond := .code yX0_renew cX0_renew 4 none :: ([.fieldLink RX0 29 "LeaseDesk$Lock" "ends" "I", .methodLink RX0 25 yX0_runFrom, .instanceMethod yX0_runFrom, .selects RX0 yX0_runFrom yX0_runFrom, .initialized RX0, .code yX0_runFrom cX0_runFrom 4 none, .fieldLink RX0 32 "LeaseDesk$Lock" "term" "I", .fieldLink RX0 35 "LeaseDesk$Lock" "start" "I"] ++ wsX00)
def wsX1_isTaken : List Cond := .code yX1_isTaken cX1_isTaken 2 (some .boolean) :: ([.fieldLink RX1 26 "LeaseDesk$Row" "length" "I"] ++ wsX10)
def wsX1_slotAt : List Cond := .code yX1_slotAt cX1_slotAt 2 (some .int) :: ([.fieldLink RX1 9 "LeaseDesk$Row" "slots" "[I", .methodLink RX1 18 yX1_isTaken, .instanceMethod yX1_isTaken, .selects RX1 yX1_isTaken yX1_isTaken, .initialized RX1, .code yX1_isTaken cX1_isTaken 2 (some .boolean), .fieldLink RX1 26 "LeaseDesk$Row" "length" "I"] ++ wsX10)
def wsX1_termAt : List Cond := .code yX1_termAt cX1_termAt 2 (some .int) :: ([.fieldLink RX1 15 "LeaseDesk$Row" "terms" "[I", .methodLink RX1 18 yX1_isTaken, .instanceMethod yX1_isTaken, .selects RX1 yX1_isTaken yX1_isTaken, .initialized RX1, .code yX1_isTaken cX1_isTaken 2 (some .boolean), .fieldLink RX1 26 "LeaseDesk$Row" "length" "I"] ++ wsX10)
def wsX1_placeOf : List Cond := .code yX1_placeOf cX1_placeOf 3 (some .int) :: ([.fieldLink RX1 26 "LeaseDesk$Row" "length" "I", .fieldLink RX1 9 "LeaseDesk$Row" "slots" "[I"] ++ wsX10)
def wsX1_ask : List Cond := .code yX1_ask cX1_ask 4 none :: ([.fieldLink RX1 15 "LeaseDesk$Row" "terms" "[I", .fieldLink RX1 26 "LeaseDesk$Row" "length" "I", .fieldLink RX1 9 "LeaseDesk$Row" "slots" "[I", .methodLink RX1 22 yX1_placeOf, .instanceMethod yX1_placeOf, .selects RX1 yX1_placeOf yX1_placeOf, .initialized RX1, .code yX1_placeOf cX1_placeOf 3 (some .int)] ++ wsX10)
def wsX1_drop : List Cond := .code yX1_drop cX1_drop 4 (some .boolean) :: ([.fieldLink RX1 26 "LeaseDesk$Row" "length" "I", .fieldLink RX1 9 "LeaseDesk$Row" "slots" "[I", .fieldLink RX1 15 "LeaseDesk$Row" "terms" "[I", .methodLink RX1 22 yX1_placeOf, .instanceMethod yX1_placeOf, .selects RX1 yX1_placeOf yX1_placeOf, .initialized RX1, .code yX1_placeOf cX1_placeOf 3 (some .int)] ++ wsX10)
def wsX2_init : List Cond := .code yX2_init cX2_init 1 none :: ([.methodLink RX2 3 objectInit, .instanceMethod objectInit, .code objectInit ⟨#[0xb1]⟩ 1 none])
def wsX2_begin : List Cond := .code yX2_begin cX2_begin 2 none :: ([.fieldLink RX2 9 "LeaseDesk$Session" "isOpen" "Z", .fieldLink RX2 15 "LeaseDesk$Session" "sign" "I", .fieldLink RX2 19 "LeaseDesk$Session" "rate" "I", .fieldLink RX2 22 "LeaseDesk$Session" "clock" "I"] ++ wsX20)
def wsX3_init_r1 : List Cond := [Cond.methodLink RX3 1 objectInit, Cond.instanceMethod objectInit, Cond.code objectInit ⟨#[0xb1]⟩ 1 none, Cond.classLink RX3 9 RX2, Cond.fieldLink RX3 11 "LeaseDesk" "sessions" "[LLeaseDesk$Session;", Cond.instantiable RX2 4, Cond.initialized RX2, Cond.classLink RX3 16 RX0, Cond.fieldLink RX3 18 "LeaseDesk" "locks" "[LLeaseDesk$Lock;", Cond.instantiable RX0 8, Cond.initialized RX0, Cond.fieldLink RX3 23 "LeaseDesk" "now" "I", Cond.instanceMethod yX2_init, Cond.code yX2_init cX2_init 1 none, Cond.methodLink RX2 3 objectInit, Cond.instanceMethod yX0_init, Cond.code yX0_init cX0_init 1 none, Cond.methodLink RX0 3 objectInit, Cond.classLink RX0 9 RX1, Cond.instantiable RX1 3, Cond.initialized RX1, Cond.fieldLink RX0 12 "LeaseDesk$Lock" "row" "LLeaseDesk$Row;", Cond.fieldLink RX0 18 "LeaseDesk$Lock" "holder" "I", Cond.instanceMethod yX1_init]
def wsX3_init_r2 : List Cond := [Cond.code yX1_init cX1_init 1 none, Cond.methodLink RX1 3 objectInit, Cond.arrayClass .int, Cond.fieldLink RX1 9 "LeaseDesk$Row" "slots" "[I", Cond.fieldLink RX1 15 "LeaseDesk$Row" "terms" "[I"]
def wsX3_init : List Cond := .code yX3_init cX3_init 2 none :: ((wsX3_init_r1 ++ wsX3_init_r2) ++ wsX30 ++ wsX20 ++ wsX00 ++ wsX10)
def wsX3_open : List Cond := .code yX3_open cX3_open 2 (some .int) :: ([.classLink RX3 35 "java/lang/IllegalStateException", .initialized "java/lang/IllegalStateException", .fieldLink RX3 11 "LeaseDesk" "sessions" "[LLeaseDesk$Session;", .fieldLink RX3 27 "LeaseDesk$Session" "isOpen" "Z", .fieldLink RX3 23 "LeaseDesk" "now" "I", .methodLink RX3 31 yX2_begin, .instanceMethod yX2_begin, .selects RX2 yX2_begin yX2_begin, .initialized RX2, .code yX2_begin cX2_begin 2 none, .fieldLink RX2 9 "LeaseDesk$Session" "isOpen" "Z", .fieldLink RX2 15 "LeaseDesk$Session" "sign" "I", .fieldLink RX2 19 "LeaseDesk$Session" "rate" "I", .fieldLink RX2 22 "LeaseDesk$Session" "clock" "I"] ++ wsX30 ++ wsX20 ++ (vx_atS RX3 39 "java/lang/IllegalStateException" ["java/lang/RuntimeException", "java/lang/Exception"]).filter goodWord)
def wsX3_openSession : List Cond := .code yX3_openSession cX3_openSession 2 (some (.object "LeaseDesk$Session")) :: ([.fieldLink RX3 11 "LeaseDesk" "sessions" "[LLeaseDesk$Session;", .fieldLink RX3 27 "LeaseDesk$Session" "isOpen" "Z"] ++ wsX30 ++ wsX20)
def wsX3_requireSession : List Cond := .code yX3_requireSession cX3_requireSession 3 (some (.object "LeaseDesk$Session")) :: ([.classLink RX3 141 "java/util/NoSuchElementException", .initialized "java/util/NoSuchElementException", .methodLink RX3 53 yX3_openSession, .instanceMethod yX3_openSession, .selects RX3 yX3_openSession yX3_openSession, .initialized RX3, .code yX3_openSession cX3_openSession 2 (some (.object "LeaseDesk$Session")), .fieldLink RX3 11 "LeaseDesk" "sessions" "[LLeaseDesk$Session;", .fieldLink RX3 27 "LeaseDesk$Session" "isOpen" "Z"] ++ wsX30 ++ wsX20 ++ (nse_at).filter goodWord)
def wsX3_clock : List Cond := .code yX3_clock cX3_clock 3 (some .int) :: ([.fieldLink RX3 81 "LeaseDesk$Session" "clock" "I", .methodLink RX3 53 yX3_openSession, .instanceMethod yX3_openSession, .selects RX3 yX3_openSession yX3_openSession, .initialized RX3, .code yX3_openSession cX3_openSession 2 (some (.object "LeaseDesk$Session")), .fieldLink RX3 11 "LeaseDesk" "sessions" "[LLeaseDesk$Session;", .fieldLink RX3 27 "LeaseDesk$Session" "isOpen" "Z"] ++ wsX20 ++ wsX30)
def wsX3_passOn_r1 : List Cond := [Cond.fieldLink RX3 78 "LeaseDesk$Lock" "holder" "I", Cond.fieldLink RX3 99 "LeaseDesk$Lock" "row" "LLeaseDesk$Row;", Cond.fieldLink RX3 23 "LeaseDesk" "now" "I", Cond.methodLink RX3 125 yX1_slotAt, Cond.instanceMethod yX1_slotAt, Cond.selects RX1 yX1_slotAt yX1_slotAt, Cond.initialized RX1, Cond.code yX1_slotAt cX1_slotAt 2 (some .int), Cond.fieldLink RX1 9 "LeaseDesk$Row" "slots" "[I", Cond.methodLink RX1 18 yX1_isTaken, Cond.instanceMethod yX1_isTaken, Cond.selects RX1 yX1_isTaken yX1_isTaken, Cond.code yX1_isTaken cX1_isTaken 2 (some .boolean), Cond.fieldLink RX1 26 "LeaseDesk$Row" "length" "I", Cond.methodLink RX3 148 yX1_termAt, Cond.instanceMethod yX1_termAt, Cond.selects RX1 yX1_termAt yX1_termAt, Cond.code yX1_termAt cX1_termAt 2 (some .int), Cond.fieldLink RX1 15 "LeaseDesk$Row" "terms" "[I", Cond.methodLink RX3 118 yX1_drop, Cond.instanceMethod yX1_drop, Cond.selects RX1 yX1_drop yX1_drop, Cond.code yX1_drop cX1_drop 4 (some .boolean), Cond.methodLink RX1 22 yX1_placeOf]
def wsX3_passOn_r2 : List Cond := [Cond.instanceMethod yX1_placeOf, Cond.selects RX1 yX1_placeOf yX1_placeOf, Cond.code yX1_placeOf cX1_placeOf 3 (some .int), Cond.methodLink RX3 151 yX3_clock, Cond.instanceMethod yX3_clock, Cond.selects RX3 yX3_clock yX3_clock, Cond.initialized RX3, Cond.code yX3_clock cX3_clock 3 (some .int), Cond.fieldLink RX3 81 "LeaseDesk$Session" "clock" "I", Cond.methodLink RX3 53 yX3_openSession, Cond.instanceMethod yX3_openSession, Cond.selects RX3 yX3_openSession yX3_openSession, Cond.code yX3_openSession cX3_openSession 2 (some (.object "LeaseDesk$Session")), Cond.fieldLink RX3 11 "LeaseDesk" "sessions" "[LLeaseDesk$Session;", Cond.fieldLink RX3 27 "LeaseDesk$Session" "isOpen" "Z", Cond.methodLink RX3 95 yX0_lend, Cond.instanceMethod yX0_lend, Cond.selects RX0 yX0_lend yX0_lend, Cond.initialized RX0, Cond.code yX0_lend cX0_lend 5 none, Cond.fieldLink RX0 18 "LeaseDesk$Lock" "holder" "I", Cond.fieldLink RX0 22 "LeaseDesk$Lock" "token" "I", Cond.methodLink RX0 25 yX0_runFrom, Cond.instanceMethod yX0_runFrom]
def wsX3_passOn_r3 : List Cond := [Cond.selects RX0 yX0_runFrom yX0_runFrom, Cond.code yX0_runFrom cX0_runFrom 4 none, Cond.fieldLink RX0 29 "LeaseDesk$Lock" "ends" "I", Cond.fieldLink RX0 32 "LeaseDesk$Lock" "term" "I", Cond.fieldLink RX0 35 "LeaseDesk$Lock" "start" "I"]
def wsX3_passOn : List Cond := .code yX3_passOn cX3_passOn 4 none :: ((wsX3_passOn_r1 ++ (wsX3_passOn_r2 ++ wsX3_passOn_r3)) ++ wsX00 ++ wsX30 ++ wsX10 ++ wsX20)
def wsX3_endSession_r1 : List Cond := [Cond.fieldLink RX3 18 "LeaseDesk" "locks" "[LLeaseDesk$Lock;", Cond.fieldLink RX3 99 "LeaseDesk$Lock" "row" "LLeaseDesk$Row;", Cond.fieldLink RX3 78 "LeaseDesk$Lock" "holder" "I", Cond.fieldLink RX3 27 "LeaseDesk$Session" "isOpen" "Z", Cond.methodLink RX3 118 yX1_drop, Cond.instanceMethod yX1_drop, Cond.selects RX1 yX1_drop yX1_drop, Cond.initialized RX1, Cond.code yX1_drop cX1_drop 4 (some .boolean), Cond.fieldLink RX1 26 "LeaseDesk$Row" "length" "I", Cond.fieldLink RX1 9 "LeaseDesk$Row" "slots" "[I", Cond.fieldLink RX1 15 "LeaseDesk$Row" "terms" "[I", Cond.methodLink RX1 22 yX1_placeOf, Cond.instanceMethod yX1_placeOf, Cond.selects RX1 yX1_placeOf yX1_placeOf, Cond.code yX1_placeOf cX1_placeOf 3 (some .int), Cond.methodLink RX3 111 yX3_passOn, Cond.instanceMethod yX3_passOn, Cond.selects RX3 yX3_passOn yX3_passOn, Cond.initialized RX3, Cond.code yX3_passOn cX3_passOn 4 none, Cond.fieldLink RX3 23 "LeaseDesk" "now" "I", Cond.methodLink RX3 125 yX1_slotAt, Cond.instanceMethod yX1_slotAt]
def wsX3_endSession_r2 : List Cond := [Cond.selects RX1 yX1_slotAt yX1_slotAt, Cond.code yX1_slotAt cX1_slotAt 2 (some .int), Cond.methodLink RX1 18 yX1_isTaken, Cond.instanceMethod yX1_isTaken, Cond.selects RX1 yX1_isTaken yX1_isTaken, Cond.code yX1_isTaken cX1_isTaken 2 (some .boolean), Cond.methodLink RX3 148 yX1_termAt, Cond.instanceMethod yX1_termAt, Cond.selects RX1 yX1_termAt yX1_termAt, Cond.code yX1_termAt cX1_termAt 2 (some .int), Cond.methodLink RX3 151 yX3_clock, Cond.instanceMethod yX3_clock, Cond.selects RX3 yX3_clock yX3_clock, Cond.code yX3_clock cX3_clock 3 (some .int), Cond.fieldLink RX3 81 "LeaseDesk$Session" "clock" "I", Cond.methodLink RX3 53 yX3_openSession, Cond.instanceMethod yX3_openSession, Cond.selects RX3 yX3_openSession yX3_openSession, Cond.code yX3_openSession cX3_openSession 2 (some (.object "LeaseDesk$Session")), Cond.fieldLink RX3 11 "LeaseDesk" "sessions" "[LLeaseDesk$Session;", Cond.methodLink RX3 95 yX0_lend, Cond.instanceMethod yX0_lend, Cond.selects RX0 yX0_lend yX0_lend, Cond.initialized RX0]
def wsX3_endSession_r3 : List Cond := [Cond.code yX0_lend cX0_lend 5 none, Cond.fieldLink RX0 18 "LeaseDesk$Lock" "holder" "I", Cond.fieldLink RX0 22 "LeaseDesk$Lock" "token" "I", Cond.methodLink RX0 25 yX0_runFrom, Cond.instanceMethod yX0_runFrom, Cond.selects RX0 yX0_runFrom yX0_runFrom, Cond.code yX0_runFrom cX0_runFrom 4 none, Cond.fieldLink RX0 29 "LeaseDesk$Lock" "ends" "I", Cond.fieldLink RX0 32 "LeaseDesk$Lock" "term" "I", Cond.fieldLink RX0 35 "LeaseDesk$Lock" "start" "I"]
def wsX3_endSession : List Cond := .code yX3_endSession cX3_endSession 8 (some .int) :: ((wsX3_endSession_r1 ++ (wsX3_endSession_r2 ++ wsX3_endSession_r3)) ++ wsX30 ++ wsX00 ++ wsX20 ++ wsX10)
def wsX3_close_r1 : List Cond := [Cond.methodLink RX3 42 yX3_requireSession, Cond.instanceMethod yX3_requireSession, Cond.selects RX3 yX3_requireSession yX3_requireSession, Cond.initialized RX3, Cond.code yX3_requireSession cX3_requireSession 3 (some (.object "LeaseDesk$Session")), Cond.classLink RX3 141 "java/util/NoSuchElementException", Cond.initialized "java/util/NoSuchElementException", Cond.methodLink RX3 53 yX3_openSession, Cond.instanceMethod yX3_openSession, Cond.selects RX3 yX3_openSession yX3_openSession, Cond.code yX3_openSession cX3_openSession 2 (some (.object "LeaseDesk$Session")), Cond.fieldLink RX3 11 "LeaseDesk" "sessions" "[LLeaseDesk$Session;", Cond.fieldLink RX3 27 "LeaseDesk$Session" "isOpen" "Z", Cond.methodLink RX3 46 yX3_endSession, Cond.instanceMethod yX3_endSession, Cond.selects RX3 yX3_endSession yX3_endSession, Cond.code yX3_endSession cX3_endSession 8 (some .int), Cond.fieldLink RX3 18 "LeaseDesk" "locks" "[LLeaseDesk$Lock;", Cond.fieldLink RX3 99 "LeaseDesk$Lock" "row" "LLeaseDesk$Row;", Cond.fieldLink RX3 78 "LeaseDesk$Lock" "holder" "I", Cond.methodLink RX3 118 yX1_drop, Cond.instanceMethod yX1_drop, Cond.selects RX1 yX1_drop yX1_drop, Cond.initialized RX1]
def wsX3_close_r2 : List Cond := [Cond.code yX1_drop cX1_drop 4 (some .boolean), Cond.fieldLink RX1 26 "LeaseDesk$Row" "length" "I", Cond.fieldLink RX1 9 "LeaseDesk$Row" "slots" "[I", Cond.fieldLink RX1 15 "LeaseDesk$Row" "terms" "[I", Cond.methodLink RX1 22 yX1_placeOf, Cond.instanceMethod yX1_placeOf, Cond.selects RX1 yX1_placeOf yX1_placeOf, Cond.code yX1_placeOf cX1_placeOf 3 (some .int), Cond.methodLink RX3 111 yX3_passOn, Cond.instanceMethod yX3_passOn, Cond.selects RX3 yX3_passOn yX3_passOn, Cond.code yX3_passOn cX3_passOn 4 none, Cond.fieldLink RX3 23 "LeaseDesk" "now" "I", Cond.methodLink RX3 125 yX1_slotAt, Cond.instanceMethod yX1_slotAt, Cond.selects RX1 yX1_slotAt yX1_slotAt, Cond.code yX1_slotAt cX1_slotAt 2 (some .int), Cond.methodLink RX1 18 yX1_isTaken, Cond.instanceMethod yX1_isTaken, Cond.selects RX1 yX1_isTaken yX1_isTaken, Cond.code yX1_isTaken cX1_isTaken 2 (some .boolean), Cond.methodLink RX3 148 yX1_termAt, Cond.instanceMethod yX1_termAt, Cond.selects RX1 yX1_termAt yX1_termAt]
def wsX3_close_r3 : List Cond := [Cond.code yX1_termAt cX1_termAt 2 (some .int), Cond.methodLink RX3 151 yX3_clock, Cond.instanceMethod yX3_clock, Cond.selects RX3 yX3_clock yX3_clock, Cond.code yX3_clock cX3_clock 3 (some .int), Cond.fieldLink RX3 81 "LeaseDesk$Session" "clock" "I", Cond.methodLink RX3 95 yX0_lend, Cond.instanceMethod yX0_lend, Cond.selects RX0 yX0_lend yX0_lend, Cond.initialized RX0, Cond.code yX0_lend cX0_lend 5 none, Cond.fieldLink RX0 18 "LeaseDesk$Lock" "holder" "I", Cond.fieldLink RX0 22 "LeaseDesk$Lock" "token" "I", Cond.methodLink RX0 25 yX0_runFrom, Cond.instanceMethod yX0_runFrom, Cond.selects RX0 yX0_runFrom yX0_runFrom, Cond.code yX0_runFrom cX0_runFrom 4 none, Cond.fieldLink RX0 29 "LeaseDesk$Lock" "ends" "I", Cond.fieldLink RX0 32 "LeaseDesk$Lock" "term" "I", Cond.fieldLink RX0 35 "LeaseDesk$Lock" "start" "I"]
def wsX3_close : List Cond := .code yX3_close cX3_close 2 (some .int) :: ((wsX3_close_r1 ++ (wsX3_close_r2 ++ wsX3_close_r3)) ++ wsX30 ++ wsX20 ++ wsX00 ++ wsX10 ++ (nse_at).filter goodWord)
def wsX3_keep : List Cond := .code yX3_keep cX3_keep 2 none :: ([.fieldLink RX3 23 "LeaseDesk" "now" "I", .fieldLink RX3 50 "LeaseDesk$Session" "sign" "I", .methodLink RX3 42 yX3_requireSession, .instanceMethod yX3_requireSession, .selects RX3 yX3_requireSession yX3_requireSession, .initialized RX3, .code yX3_requireSession cX3_requireSession 3 (some (.object "LeaseDesk$Session")), .classLink RX3 141 "java/util/NoSuchElementException", .initialized "java/util/NoSuchElementException", .methodLink RX3 53 yX3_openSession, .instanceMethod yX3_openSession, .selects RX3 yX3_openSession yX3_openSession, .code yX3_openSession cX3_openSession 2 (some (.object "LeaseDesk$Session")), .fieldLink RX3 11 "LeaseDesk" "sessions" "[LLeaseDesk$Session;", .fieldLink RX3 27 "LeaseDesk$Session" "isOpen" "Z"] ++ wsX30 ++ wsX20 ++ (nse_at).filter goodWord)
def wsX3_rate : List Cond := .code yX3_rate cX3_rate 4 (some .boolean) :: ([.fieldLink RX3 56 "LeaseDesk$Session" "rate" "I", .methodLink RX3 53 yX3_openSession, .instanceMethod yX3_openSession, .selects RX3 yX3_openSession yX3_openSession, .initialized RX3, .code yX3_openSession cX3_openSession 2 (some (.object "LeaseDesk$Session")), .fieldLink RX3 11 "LeaseDesk" "sessions" "[LLeaseDesk$Session;", .fieldLink RX3 27 "LeaseDesk$Session" "isOpen" "Z"] ++ wsX20 ++ wsX30)
def wsX3_moveClocks : List Cond := .code yX3_moveClocks cX3_moveClocks 6 none :: ([.fieldLink RX3 11 "LeaseDesk" "sessions" "[LLeaseDesk$Session;", .fieldLink RX3 27 "LeaseDesk$Session" "isOpen" "Z", .fieldLink RX3 81 "LeaseDesk$Session" "clock" "I", .fieldLink RX3 56 "LeaseDesk$Session" "rate" "I"] ++ wsX30 ++ wsX20)
def wsX3_endSilentSessions_r1 : List Cond := [Cond.fieldLink RX3 11 "LeaseDesk" "sessions" "[LLeaseDesk$Session;", Cond.fieldLink RX3 27 "LeaseDesk$Session" "isOpen" "Z", Cond.fieldLink RX3 23 "LeaseDesk" "now" "I", Cond.fieldLink RX3 50 "LeaseDesk$Session" "sign" "I", Cond.methodLink RX3 46 yX3_endSession, Cond.instanceMethod yX3_endSession, Cond.selects RX3 yX3_endSession yX3_endSession, Cond.initialized RX3, Cond.code yX3_endSession cX3_endSession 8 (some .int), Cond.fieldLink RX3 18 "LeaseDesk" "locks" "[LLeaseDesk$Lock;", Cond.fieldLink RX3 99 "LeaseDesk$Lock" "row" "LLeaseDesk$Row;", Cond.fieldLink RX3 78 "LeaseDesk$Lock" "holder" "I", Cond.methodLink RX3 118 yX1_drop, Cond.instanceMethod yX1_drop, Cond.selects RX1 yX1_drop yX1_drop, Cond.initialized RX1, Cond.code yX1_drop cX1_drop 4 (some .boolean), Cond.fieldLink RX1 26 "LeaseDesk$Row" "length" "I", Cond.fieldLink RX1 9 "LeaseDesk$Row" "slots" "[I", Cond.fieldLink RX1 15 "LeaseDesk$Row" "terms" "[I", Cond.methodLink RX1 22 yX1_placeOf, Cond.instanceMethod yX1_placeOf, Cond.selects RX1 yX1_placeOf yX1_placeOf, Cond.code yX1_placeOf cX1_placeOf 3 (some .int)]
def wsX3_endSilentSessions_r2 : List Cond := [Cond.methodLink RX3 111 yX3_passOn, Cond.instanceMethod yX3_passOn, Cond.selects RX3 yX3_passOn yX3_passOn, Cond.code yX3_passOn cX3_passOn 4 none, Cond.methodLink RX3 125 yX1_slotAt, Cond.instanceMethod yX1_slotAt, Cond.selects RX1 yX1_slotAt yX1_slotAt, Cond.code yX1_slotAt cX1_slotAt 2 (some .int), Cond.methodLink RX1 18 yX1_isTaken, Cond.instanceMethod yX1_isTaken, Cond.selects RX1 yX1_isTaken yX1_isTaken, Cond.code yX1_isTaken cX1_isTaken 2 (some .boolean), Cond.methodLink RX3 148 yX1_termAt, Cond.instanceMethod yX1_termAt, Cond.selects RX1 yX1_termAt yX1_termAt, Cond.code yX1_termAt cX1_termAt 2 (some .int), Cond.methodLink RX3 151 yX3_clock, Cond.instanceMethod yX3_clock, Cond.selects RX3 yX3_clock yX3_clock, Cond.code yX3_clock cX3_clock 3 (some .int), Cond.fieldLink RX3 81 "LeaseDesk$Session" "clock" "I", Cond.methodLink RX3 53 yX3_openSession, Cond.instanceMethod yX3_openSession, Cond.selects RX3 yX3_openSession yX3_openSession]
def wsX3_endSilentSessions_r3 : List Cond := [Cond.code yX3_openSession cX3_openSession 2 (some (.object "LeaseDesk$Session")), Cond.methodLink RX3 95 yX0_lend, Cond.instanceMethod yX0_lend, Cond.selects RX0 yX0_lend yX0_lend, Cond.initialized RX0, Cond.code yX0_lend cX0_lend 5 none, Cond.fieldLink RX0 18 "LeaseDesk$Lock" "holder" "I", Cond.fieldLink RX0 22 "LeaseDesk$Lock" "token" "I", Cond.methodLink RX0 25 yX0_runFrom, Cond.instanceMethod yX0_runFrom, Cond.selects RX0 yX0_runFrom yX0_runFrom, Cond.code yX0_runFrom cX0_runFrom 4 none, Cond.fieldLink RX0 29 "LeaseDesk$Lock" "ends" "I", Cond.fieldLink RX0 32 "LeaseDesk$Lock" "term" "I", Cond.fieldLink RX0 35 "LeaseDesk$Lock" "start" "I"]
def wsX3_endSilentSessions : List Cond := .code yX3_endSilentSessions cX3_endSilentSessions 4 (some .int) :: ((wsX3_endSilentSessions_r1 ++ (wsX3_endSilentSessions_r2 ++ wsX3_endSilentSessions_r3)) ++ wsX30 ++ wsX20 ++ wsX00 ++ wsX10)
def wsX3_passOnLeasesDue_r1 : List Cond := [Cond.fieldLink RX3 18 "LeaseDesk" "locks" "[LLeaseDesk$Lock;", Cond.fieldLink RX3 122 "LeaseDesk$Lock" "ends" "I", Cond.fieldLink RX3 23 "LeaseDesk" "now" "I", Cond.methodLink RX3 91 yX0_isFree, Cond.instanceMethod yX0_isFree, Cond.selects RX0 yX0_isFree yX0_isFree, Cond.initialized RX0, Cond.code yX0_isFree cX0_isFree 1 (some .boolean), Cond.fieldLink RX0 18 "LeaseDesk$Lock" "holder" "I", Cond.methodLink RX3 111 yX3_passOn, Cond.instanceMethod yX3_passOn, Cond.selects RX3 yX3_passOn yX3_passOn, Cond.initialized RX3, Cond.code yX3_passOn cX3_passOn 4 none, Cond.fieldLink RX3 78 "LeaseDesk$Lock" "holder" "I", Cond.fieldLink RX3 99 "LeaseDesk$Lock" "row" "LLeaseDesk$Row;", Cond.methodLink RX3 125 yX1_slotAt, Cond.instanceMethod yX1_slotAt, Cond.selects RX1 yX1_slotAt yX1_slotAt, Cond.initialized RX1, Cond.code yX1_slotAt cX1_slotAt 2 (some .int), Cond.fieldLink RX1 9 "LeaseDesk$Row" "slots" "[I", Cond.methodLink RX1 18 yX1_isTaken, Cond.instanceMethod yX1_isTaken]
def wsX3_passOnLeasesDue_r2 : List Cond := [Cond.selects RX1 yX1_isTaken yX1_isTaken, Cond.code yX1_isTaken cX1_isTaken 2 (some .boolean), Cond.fieldLink RX1 26 "LeaseDesk$Row" "length" "I", Cond.methodLink RX3 148 yX1_termAt, Cond.instanceMethod yX1_termAt, Cond.selects RX1 yX1_termAt yX1_termAt, Cond.code yX1_termAt cX1_termAt 2 (some .int), Cond.fieldLink RX1 15 "LeaseDesk$Row" "terms" "[I", Cond.methodLink RX3 118 yX1_drop, Cond.instanceMethod yX1_drop, Cond.selects RX1 yX1_drop yX1_drop, Cond.code yX1_drop cX1_drop 4 (some .boolean), Cond.methodLink RX1 22 yX1_placeOf, Cond.instanceMethod yX1_placeOf, Cond.selects RX1 yX1_placeOf yX1_placeOf, Cond.code yX1_placeOf cX1_placeOf 3 (some .int), Cond.methodLink RX3 151 yX3_clock, Cond.instanceMethod yX3_clock, Cond.selects RX3 yX3_clock yX3_clock, Cond.code yX3_clock cX3_clock 3 (some .int), Cond.fieldLink RX3 81 "LeaseDesk$Session" "clock" "I", Cond.methodLink RX3 53 yX3_openSession, Cond.instanceMethod yX3_openSession, Cond.selects RX3 yX3_openSession yX3_openSession]
def wsX3_passOnLeasesDue_r3 : List Cond := [Cond.code yX3_openSession cX3_openSession 2 (some (.object "LeaseDesk$Session")), Cond.fieldLink RX3 11 "LeaseDesk" "sessions" "[LLeaseDesk$Session;", Cond.fieldLink RX3 27 "LeaseDesk$Session" "isOpen" "Z", Cond.methodLink RX3 95 yX0_lend, Cond.instanceMethod yX0_lend, Cond.selects RX0 yX0_lend yX0_lend, Cond.code yX0_lend cX0_lend 5 none, Cond.fieldLink RX0 22 "LeaseDesk$Lock" "token" "I", Cond.methodLink RX0 25 yX0_runFrom, Cond.instanceMethod yX0_runFrom, Cond.selects RX0 yX0_runFrom yX0_runFrom, Cond.code yX0_runFrom cX0_runFrom 4 none, Cond.fieldLink RX0 29 "LeaseDesk$Lock" "ends" "I", Cond.fieldLink RX0 32 "LeaseDesk$Lock" "term" "I", Cond.fieldLink RX0 35 "LeaseDesk$Lock" "start" "I"]
def wsX3_passOnLeasesDue : List Cond := .code yX3_passOnLeasesDue cX3_passOnLeasesDue 6 (some .int) :: ((wsX3_passOnLeasesDue_r1 ++ (wsX3_passOnLeasesDue_r2 ++ wsX3_passOnLeasesDue_r3)) ++ wsX30 ++ wsX00 ++ wsX10 ++ wsX20)
def wsX3_tick_r1 : List Cond := [Cond.fieldLink RX3 23 "LeaseDesk" "now" "I", Cond.methodLink RX3 59 yX3_moveClocks, Cond.instanceMethod yX3_moveClocks, Cond.selects RX3 yX3_moveClocks yX3_moveClocks, Cond.initialized RX3, Cond.code yX3_moveClocks cX3_moveClocks 6 none, Cond.fieldLink RX3 11 "LeaseDesk" "sessions" "[LLeaseDesk$Session;", Cond.fieldLink RX3 27 "LeaseDesk$Session" "isOpen" "Z", Cond.fieldLink RX3 81 "LeaseDesk$Session" "clock" "I", Cond.fieldLink RX3 56 "LeaseDesk$Session" "rate" "I", Cond.methodLink RX3 62 yX3_endSilentSessions, Cond.instanceMethod yX3_endSilentSessions, Cond.selects RX3 yX3_endSilentSessions yX3_endSilentSessions, Cond.code yX3_endSilentSessions cX3_endSilentSessions 4 (some .int), Cond.fieldLink RX3 50 "LeaseDesk$Session" "sign" "I", Cond.methodLink RX3 46 yX3_endSession, Cond.instanceMethod yX3_endSession, Cond.selects RX3 yX3_endSession yX3_endSession, Cond.code yX3_endSession cX3_endSession 8 (some .int), Cond.fieldLink RX3 18 "LeaseDesk" "locks" "[LLeaseDesk$Lock;", Cond.fieldLink RX3 99 "LeaseDesk$Lock" "row" "LLeaseDesk$Row;", Cond.fieldLink RX3 78 "LeaseDesk$Lock" "holder" "I", Cond.methodLink RX3 118 yX1_drop, Cond.instanceMethod yX1_drop]
def wsX3_tick_r2 : List Cond := [Cond.selects RX1 yX1_drop yX1_drop, Cond.initialized RX1, Cond.code yX1_drop cX1_drop 4 (some .boolean), Cond.fieldLink RX1 26 "LeaseDesk$Row" "length" "I", Cond.fieldLink RX1 9 "LeaseDesk$Row" "slots" "[I", Cond.fieldLink RX1 15 "LeaseDesk$Row" "terms" "[I", Cond.methodLink RX1 22 yX1_placeOf, Cond.instanceMethod yX1_placeOf, Cond.selects RX1 yX1_placeOf yX1_placeOf, Cond.code yX1_placeOf cX1_placeOf 3 (some .int), Cond.methodLink RX3 111 yX3_passOn, Cond.instanceMethod yX3_passOn, Cond.selects RX3 yX3_passOn yX3_passOn, Cond.code yX3_passOn cX3_passOn 4 none, Cond.methodLink RX3 125 yX1_slotAt, Cond.instanceMethod yX1_slotAt, Cond.selects RX1 yX1_slotAt yX1_slotAt, Cond.code yX1_slotAt cX1_slotAt 2 (some .int), Cond.methodLink RX1 18 yX1_isTaken, Cond.instanceMethod yX1_isTaken, Cond.selects RX1 yX1_isTaken yX1_isTaken, Cond.code yX1_isTaken cX1_isTaken 2 (some .boolean), Cond.methodLink RX3 148 yX1_termAt, Cond.instanceMethod yX1_termAt]
def wsX3_tick_r3 : List Cond := [Cond.selects RX1 yX1_termAt yX1_termAt, Cond.code yX1_termAt cX1_termAt 2 (some .int), Cond.methodLink RX3 151 yX3_clock, Cond.instanceMethod yX3_clock, Cond.selects RX3 yX3_clock yX3_clock, Cond.code yX3_clock cX3_clock 3 (some .int), Cond.methodLink RX3 53 yX3_openSession, Cond.instanceMethod yX3_openSession, Cond.selects RX3 yX3_openSession yX3_openSession, Cond.code yX3_openSession cX3_openSession 2 (some (.object "LeaseDesk$Session")), Cond.methodLink RX3 95 yX0_lend, Cond.instanceMethod yX0_lend, Cond.selects RX0 yX0_lend yX0_lend, Cond.initialized RX0, Cond.code yX0_lend cX0_lend 5 none, Cond.fieldLink RX0 18 "LeaseDesk$Lock" "holder" "I", Cond.fieldLink RX0 22 "LeaseDesk$Lock" "token" "I", Cond.methodLink RX0 25 yX0_runFrom, Cond.instanceMethod yX0_runFrom, Cond.selects RX0 yX0_runFrom yX0_runFrom, Cond.code yX0_runFrom cX0_runFrom 4 none, Cond.fieldLink RX0 29 "LeaseDesk$Lock" "ends" "I", Cond.fieldLink RX0 32 "LeaseDesk$Lock" "term" "I", Cond.fieldLink RX0 35 "LeaseDesk$Lock" "start" "I"]
def wsX3_tick_r4 : List Cond := [Cond.methodLink RX3 66 yX3_passOnLeasesDue, Cond.instanceMethod yX3_passOnLeasesDue, Cond.selects RX3 yX3_passOnLeasesDue yX3_passOnLeasesDue, Cond.code yX3_passOnLeasesDue cX3_passOnLeasesDue 6 (some .int), Cond.fieldLink RX3 122 "LeaseDesk$Lock" "ends" "I", Cond.methodLink RX3 91 yX0_isFree, Cond.instanceMethod yX0_isFree, Cond.selects RX0 yX0_isFree yX0_isFree, Cond.code yX0_isFree cX0_isFree 1 (some .boolean)]
def wsX3_tick : List Cond := .code yX3_tick cX3_tick 3 (some .int) :: ((wsX3_tick_r1 ++ (wsX3_tick_r2 ++ (wsX3_tick_r3 ++ wsX3_tick_r4))) ++ wsX30 ++ wsX20 ++ wsX00 ++ wsX10)
def wsX3_knownLock : List Cond := .code yX3_knownLock cX3_knownLock 2 (some (.object "LeaseDesk$Lock")) :: ([.fieldLink RX3 18 "LeaseDesk" "locks" "[LLeaseDesk$Lock;"] ++ wsX30)
def wsX3_requireLock : List Cond := .code yX3_requireLock cX3_requireLock 3 (some (.object "LeaseDesk$Lock")) :: ([.classLink RX3 73 "java/lang/IllegalArgumentException", .initialized "java/lang/IllegalArgumentException", .methodLink RX3 115 yX3_knownLock, .instanceMethod yX3_knownLock, .selects RX3 yX3_knownLock yX3_knownLock, .initialized RX3, .code yX3_knownLock cX3_knownLock 2 (some (.object "LeaseDesk$Lock")), .fieldLink RX3 18 "LeaseDesk" "locks" "[LLeaseDesk$Lock;"] ++ wsX30 ++ (vx_atS RX3 77 "java/lang/IllegalArgumentException" ["java/lang/RuntimeException", "java/lang/Exception"]).filter goodWord)
def wsX3_acquire_r1 : List Cond := [Cond.classLink RX3 73 "java/lang/IllegalArgumentException", Cond.initialized "java/lang/IllegalArgumentException", Cond.fieldLink RX3 23 "LeaseDesk" "now" "I", Cond.fieldLink RX3 50 "LeaseDesk$Session" "sign" "I", Cond.fieldLink RX3 78 "LeaseDesk$Lock" "holder" "I", Cond.fieldLink RX3 81 "LeaseDesk$Session" "clock" "I", Cond.fieldLink RX3 88 "LeaseDesk$Lock" "token" "I", Cond.fieldLink RX3 99 "LeaseDesk$Lock" "row" "LLeaseDesk$Row;", Cond.methodLink RX3 42 yX3_requireSession, Cond.instanceMethod yX3_requireSession, Cond.selects RX3 yX3_requireSession yX3_requireSession, Cond.initialized RX3, Cond.code yX3_requireSession cX3_requireSession 3 (some (.object "LeaseDesk$Session")), Cond.classLink RX3 141 "java/util/NoSuchElementException", Cond.initialized "java/util/NoSuchElementException", Cond.methodLink RX3 53 yX3_openSession, Cond.instanceMethod yX3_openSession, Cond.selects RX3 yX3_openSession yX3_openSession, Cond.code yX3_openSession cX3_openSession 2 (some (.object "LeaseDesk$Session")), Cond.fieldLink RX3 11 "LeaseDesk" "sessions" "[LLeaseDesk$Session;", Cond.fieldLink RX3 27 "LeaseDesk$Session" "isOpen" "Z", Cond.methodLink RX3 69 yX3_requireLock, Cond.instanceMethod yX3_requireLock, Cond.selects RX3 yX3_requireLock yX3_requireLock]
def wsX3_acquire_r2 : List Cond := [Cond.code yX3_requireLock cX3_requireLock 3 (some (.object "LeaseDesk$Lock")), Cond.methodLink RX3 115 yX3_knownLock, Cond.instanceMethod yX3_knownLock, Cond.selects RX3 yX3_knownLock yX3_knownLock, Cond.code yX3_knownLock cX3_knownLock 2 (some (.object "LeaseDesk$Lock")), Cond.fieldLink RX3 18 "LeaseDesk" "locks" "[LLeaseDesk$Lock;", Cond.methodLink RX3 84 yX0_renew, Cond.instanceMethod yX0_renew, Cond.selects RX0 yX0_renew yX0_renew, Cond.initialized RX0, Cond.code yX0_renew cX0_renew 4 none, Cond.fieldLink RX0 29 "LeaseDesk$Lock" "ends" "I", Cond.methodLink RX0 25 yX0_runFrom, Cond.instanceMethod yX0_runFrom, Cond.selects RX0 yX0_runFrom yX0_runFrom, Cond.code yX0_runFrom cX0_runFrom 4 none, Cond.fieldLink RX0 32 "LeaseDesk$Lock" "term" "I", Cond.fieldLink RX0 35 "LeaseDesk$Lock" "start" "I", Cond.methodLink RX3 91 yX0_isFree, Cond.instanceMethod yX0_isFree, Cond.selects RX0 yX0_isFree yX0_isFree, Cond.code yX0_isFree cX0_isFree 1 (some .boolean), Cond.fieldLink RX0 18 "LeaseDesk$Lock" "holder" "I", Cond.methodLink RX3 95 yX0_lend]
def wsX3_acquire_r3 : List Cond := [Cond.instanceMethod yX0_lend, Cond.selects RX0 yX0_lend yX0_lend, Cond.code yX0_lend cX0_lend 5 none, Cond.fieldLink RX0 22 "LeaseDesk$Lock" "token" "I", Cond.methodLink RX3 103 yX1_ask, Cond.instanceMethod yX1_ask, Cond.selects RX1 yX1_ask yX1_ask, Cond.initialized RX1, Cond.code yX1_ask cX1_ask 4 none, Cond.fieldLink RX1 15 "LeaseDesk$Row" "terms" "[I", Cond.fieldLink RX1 26 "LeaseDesk$Row" "length" "I", Cond.fieldLink RX1 9 "LeaseDesk$Row" "slots" "[I", Cond.methodLink RX1 22 yX1_placeOf, Cond.instanceMethod yX1_placeOf, Cond.selects RX1 yX1_placeOf yX1_placeOf, Cond.code yX1_placeOf cX1_placeOf 3 (some .int)]
def wsX3_acquire : List Cond := .code yX3_acquire cX3_acquire 6 (some .int) :: ((wsX3_acquire_r1 ++ (wsX3_acquire_r2 ++ wsX3_acquire_r3)) ++ wsX30 ++ wsX20 ++ wsX00 ++ wsX10 ++ (vx_atS RX3 77 "java/lang/IllegalArgumentException" ["java/lang/RuntimeException", "java/lang/Exception"]).filter goodWord ++ (nse_at).filter goodWord)
def wsX3_release_r1 : List Cond := [Cond.classLink RX3 35 "java/lang/IllegalStateException", Cond.initialized "java/lang/IllegalStateException", Cond.fieldLink RX3 78 "LeaseDesk$Lock" "holder" "I", Cond.methodLink RX3 42 yX3_requireSession, Cond.instanceMethod yX3_requireSession, Cond.selects RX3 yX3_requireSession yX3_requireSession, Cond.initialized RX3, Cond.code yX3_requireSession cX3_requireSession 3 (some (.object "LeaseDesk$Session")), Cond.classLink RX3 141 "java/util/NoSuchElementException", Cond.initialized "java/util/NoSuchElementException", Cond.methodLink RX3 53 yX3_openSession, Cond.instanceMethod yX3_openSession, Cond.selects RX3 yX3_openSession yX3_openSession, Cond.code yX3_openSession cX3_openSession 2 (some (.object "LeaseDesk$Session")), Cond.fieldLink RX3 11 "LeaseDesk" "sessions" "[LLeaseDesk$Session;", Cond.fieldLink RX3 27 "LeaseDesk$Session" "isOpen" "Z", Cond.methodLink RX3 69 yX3_requireLock, Cond.instanceMethod yX3_requireLock, Cond.selects RX3 yX3_requireLock yX3_requireLock, Cond.code yX3_requireLock cX3_requireLock 3 (some (.object "LeaseDesk$Lock")), Cond.classLink RX3 73 "java/lang/IllegalArgumentException", Cond.initialized "java/lang/IllegalArgumentException", Cond.methodLink RX3 115 yX3_knownLock, Cond.instanceMethod yX3_knownLock]
def wsX3_release_r2 : List Cond := [Cond.selects RX3 yX3_knownLock yX3_knownLock, Cond.code yX3_knownLock cX3_knownLock 2 (some (.object "LeaseDesk$Lock")), Cond.fieldLink RX3 18 "LeaseDesk" "locks" "[LLeaseDesk$Lock;", Cond.methodLink RX3 111 yX3_passOn, Cond.instanceMethod yX3_passOn, Cond.selects RX3 yX3_passOn yX3_passOn, Cond.code yX3_passOn cX3_passOn 4 none, Cond.fieldLink RX3 99 "LeaseDesk$Lock" "row" "LLeaseDesk$Row;", Cond.fieldLink RX3 23 "LeaseDesk" "now" "I", Cond.methodLink RX3 125 yX1_slotAt, Cond.instanceMethod yX1_slotAt, Cond.selects RX1 yX1_slotAt yX1_slotAt, Cond.initialized RX1, Cond.code yX1_slotAt cX1_slotAt 2 (some .int), Cond.fieldLink RX1 9 "LeaseDesk$Row" "slots" "[I", Cond.methodLink RX1 18 yX1_isTaken, Cond.instanceMethod yX1_isTaken, Cond.selects RX1 yX1_isTaken yX1_isTaken, Cond.code yX1_isTaken cX1_isTaken 2 (some .boolean), Cond.fieldLink RX1 26 "LeaseDesk$Row" "length" "I", Cond.methodLink RX3 148 yX1_termAt, Cond.instanceMethod yX1_termAt, Cond.selects RX1 yX1_termAt yX1_termAt, Cond.code yX1_termAt cX1_termAt 2 (some .int)]
def wsX3_release_r3 : List Cond := [Cond.fieldLink RX1 15 "LeaseDesk$Row" "terms" "[I", Cond.methodLink RX3 118 yX1_drop, Cond.instanceMethod yX1_drop, Cond.selects RX1 yX1_drop yX1_drop, Cond.code yX1_drop cX1_drop 4 (some .boolean), Cond.methodLink RX1 22 yX1_placeOf, Cond.instanceMethod yX1_placeOf, Cond.selects RX1 yX1_placeOf yX1_placeOf, Cond.code yX1_placeOf cX1_placeOf 3 (some .int), Cond.methodLink RX3 151 yX3_clock, Cond.instanceMethod yX3_clock, Cond.selects RX3 yX3_clock yX3_clock, Cond.code yX3_clock cX3_clock 3 (some .int), Cond.fieldLink RX3 81 "LeaseDesk$Session" "clock" "I", Cond.methodLink RX3 95 yX0_lend, Cond.instanceMethod yX0_lend, Cond.selects RX0 yX0_lend yX0_lend, Cond.initialized RX0, Cond.code yX0_lend cX0_lend 5 none, Cond.fieldLink RX0 18 "LeaseDesk$Lock" "holder" "I", Cond.fieldLink RX0 22 "LeaseDesk$Lock" "token" "I", Cond.methodLink RX0 25 yX0_runFrom, Cond.instanceMethod yX0_runFrom, Cond.selects RX0 yX0_runFrom yX0_runFrom]
def wsX3_release_r4 : List Cond := [Cond.code yX0_runFrom cX0_runFrom 4 none, Cond.fieldLink RX0 29 "LeaseDesk$Lock" "ends" "I", Cond.fieldLink RX0 32 "LeaseDesk$Lock" "term" "I", Cond.fieldLink RX0 35 "LeaseDesk$Lock" "start" "I"]
def wsX3_release : List Cond := .code yX3_release cX3_release 4 none :: ((wsX3_release_r1 ++ (wsX3_release_r2 ++ (wsX3_release_r3 ++ wsX3_release_r4))) ++ wsX00 ++ wsX30 ++ wsX20 ++ wsX10 ++ (vx_atS RX3 39 "java/lang/IllegalStateException" ["java/lang/RuntimeException", "java/lang/Exception"]).filter goodWord ++ (nse_at).filter goodWord ++ (vx_atS RX3 77 "java/lang/IllegalArgumentException" ["java/lang/RuntimeException", "java/lang/Exception"]).filter goodWord)
def wsX3_cancel : List Cond := .code yX3_cancel cX3_cancel 4 (some .boolean) :: ([.fieldLink RX3 99 "LeaseDesk$Lock" "row" "LLeaseDesk$Row;", .methodLink RX3 115 yX3_knownLock, .instanceMethod yX3_knownLock, .selects RX3 yX3_knownLock yX3_knownLock, .initialized RX3, .code yX3_knownLock cX3_knownLock 2 (some (.object "LeaseDesk$Lock")), .fieldLink RX3 18 "LeaseDesk" "locks" "[LLeaseDesk$Lock;", .methodLink RX3 118 yX1_drop, .instanceMethod yX1_drop, .selects RX1 yX1_drop yX1_drop, .initialized RX1, .code yX1_drop cX1_drop 4 (some .boolean), .fieldLink RX1 26 "LeaseDesk$Row" "length" "I", .fieldLink RX1 9 "LeaseDesk$Row" "slots" "[I", .fieldLink RX1 15 "LeaseDesk$Row" "terms" "[I", .methodLink RX1 22 yX1_placeOf, .instanceMethod yX1_placeOf, .selects RX1 yX1_placeOf yX1_placeOf, .code yX1_placeOf cX1_placeOf 3 (some .int)] ++ wsX00 ++ wsX30 ++ wsX10)
def wsX3_holder : List Cond := .code yX3_holder cX3_holder 3 (some .int) :: ([.fieldLink RX3 78 "LeaseDesk$Lock" "holder" "I", .methodLink RX3 115 yX3_knownLock, .instanceMethod yX3_knownLock, .selects RX3 yX3_knownLock yX3_knownLock, .initialized RX3, .code yX3_knownLock cX3_knownLock 2 (some (.object "LeaseDesk$Lock")), .fieldLink RX3 18 "LeaseDesk" "locks" "[LLeaseDesk$Lock;"] ++ wsX00 ++ wsX30)
def wsX3_token : List Cond := .code yX3_token cX3_token 3 (some .int) :: ([.fieldLink RX3 88 "LeaseDesk$Lock" "token" "I", .methodLink RX3 115 yX3_knownLock, .instanceMethod yX3_knownLock, .selects RX3 yX3_knownLock yX3_knownLock, .initialized RX3, .code yX3_knownLock cX3_knownLock 2 (some (.object "LeaseDesk$Lock")), .fieldLink RX3 18 "LeaseDesk" "locks" "[LLeaseDesk$Lock;"] ++ wsX00 ++ wsX30)
def wsX3_until : List Cond := .code yX3_until cX3_until 3 (some .int) :: ([.fieldLink RX3 122 "LeaseDesk$Lock" "ends" "I", .methodLink RX3 115 yX3_knownLock, .instanceMethod yX3_knownLock, .selects RX3 yX3_knownLock yX3_knownLock, .initialized RX3, .code yX3_knownLock cX3_knownLock 2 (some (.object "LeaseDesk$Lock")), .fieldLink RX3 18 "LeaseDesk" "locks" "[LLeaseDesk$Lock;", .methodLink RX3 91 yX0_isFree, .instanceMethod yX0_isFree, .selects RX0 yX0_isFree yX0_isFree, .initialized RX0, .code yX0_isFree cX0_isFree 1 (some .boolean), .fieldLink RX0 18 "LeaseDesk$Lock" "holder" "I"] ++ wsX00 ++ wsX30)
def wsX3_waiter : List Cond := .code yX3_waiter cX3_waiter 4 (some .int) :: ([.fieldLink RX3 99 "LeaseDesk$Lock" "row" "LLeaseDesk$Row;", .methodLink RX3 115 yX3_knownLock, .instanceMethod yX3_knownLock, .selects RX3 yX3_knownLock yX3_knownLock, .initialized RX3, .code yX3_knownLock cX3_knownLock 2 (some (.object "LeaseDesk$Lock")), .fieldLink RX3 18 "LeaseDesk" "locks" "[LLeaseDesk$Lock;", .methodLink RX3 125 yX1_slotAt, .instanceMethod yX1_slotAt, .selects RX1 yX1_slotAt yX1_slotAt, .initialized RX1, .code yX1_slotAt cX1_slotAt 2 (some .int), .fieldLink RX1 9 "LeaseDesk$Row" "slots" "[I", .methodLink RX1 18 yX1_isTaken, .instanceMethod yX1_isTaken, .selects RX1 yX1_isTaken yX1_isTaken, .code yX1_isTaken cX1_isTaken 2 (some .boolean), .fieldLink RX1 26 "LeaseDesk$Row" "length" "I"] ++ wsX00 ++ wsX30 ++ wsX10)
def wsX3_time : List Cond := .code yX3_time cX3_time 1 (some .int) :: ([.fieldLink RX3 23 "LeaseDesk" "now" "I"] ++ wsX30)
def wsX3_believes : List Cond := .code yX3_believes cX3_believes 5 (some .boolean) :: ([.fieldLink RX3 78 "LeaseDesk$Lock" "holder" "I", .fieldLink RX3 81 "LeaseDesk$Session" "clock" "I", .fieldLink RX3 129 "LeaseDesk$Lock" "start" "I", .fieldLink RX3 132 "LeaseDesk$Lock" "term" "I", .methodLink RX3 53 yX3_openSession, .instanceMethod yX3_openSession, .selects RX3 yX3_openSession yX3_openSession, .initialized RX3, .code yX3_openSession cX3_openSession 2 (some (.object "LeaseDesk$Session")), .fieldLink RX3 11 "LeaseDesk" "sessions" "[LLeaseDesk$Session;", .fieldLink RX3 27 "LeaseDesk$Session" "isOpen" "Z", .methodLink RX3 115 yX3_knownLock, .instanceMethod yX3_knownLock, .selects RX3 yX3_knownLock yX3_knownLock, .code yX3_knownLock cX3_knownLock 2 (some (.object "LeaseDesk$Lock")), .fieldLink RX3 18 "LeaseDesk" "locks" "[LLeaseDesk$Lock;"] ++ wsX00 ++ wsX20 ++ wsX30)
def wsX3_write : List Cond := .code yX3_write cX3_write 5 (some .boolean) :: ([.fieldLink RX3 135 "LeaseDesk$Lock" "seenToken" "I", .fieldLink RX3 138 "LeaseDesk$Lock" "value" "I", .methodLink RX3 115 yX3_knownLock, .instanceMethod yX3_knownLock, .selects RX3 yX3_knownLock yX3_knownLock, .initialized RX3, .code yX3_knownLock cX3_knownLock 2 (some (.object "LeaseDesk$Lock")), .fieldLink RX3 18 "LeaseDesk" "locks" "[LLeaseDesk$Lock;"] ++ wsX00 ++ wsX30)
def wsX3_stored : List Cond := .code yX3_stored cX3_stored 3 (some .int) :: ([.fieldLink RX3 138 "LeaseDesk$Lock" "value" "I", .methodLink RX3 115 yX3_knownLock, .instanceMethod yX3_knownLock, .selects RX3 yX3_knownLock yX3_knownLock, .initialized RX3, .code yX3_knownLock cX3_knownLock 2 (some (.object "LeaseDesk$Lock")), .fieldLink RX3 18 "LeaseDesk" "locks" "[LLeaseDesk$Lock;"] ++ wsX00 ++ wsX30)
def wsX3_seen : List Cond := .code yX3_seen cX3_seen 3 (some .int) :: ([.fieldLink RX3 135 "LeaseDesk$Lock" "seenToken" "I", .methodLink RX3 115 yX3_knownLock, .instanceMethod yX3_knownLock, .selects RX3 yX3_knownLock yX3_knownLock, .initialized RX3, .code yX3_knownLock cX3_knownLock 2 (some (.object "LeaseDesk$Lock")), .fieldLink RX3 18 "LeaseDesk" "locks" "[LLeaseDesk$Lock;"] ++ wsX00 ++ wsX30)
def wsX4_init : List Cond := .code yX4_init cX4_init 1 none :: ([.methodLink RX4 1 objectInit, .instanceMethod objectInit, .code objectInit ⟨#[0xb1]⟩ 1 none, .arrayClass .boolean, .fieldLink RX4 9 "LeaseDeskModel" "there" "[Z", .arrayClass .int, .fieldLink RX4 13 "LeaseDeskModel" "signed" "[I", .fieldLink RX4 17 "LeaseDeskModel" "rates" "[I", .fieldLink RX4 20 "LeaseDeskModel" "clocks" "[I", .fieldLink RX4 23 "LeaseDeskModel" "has" "[I", .fieldLink RX4 26 "LeaseDeskModel" "tokens" "[I", .fieldLink RX4 29 "LeaseDeskModel" "ends" "[I", .fieldLink RX4 32 "LeaseDeskModel" "terms" "[I", .fieldLink RX4 35 "LeaseDeskModel" "starts" "[I", .fieldLink RX4 38 "LeaseDeskModel" "wishes" "[I", .fieldLink RX4 41 "LeaseDeskModel" "wished" "[I", .fieldLink RX4 44 "LeaseDeskModel" "greatest" "[I", .fieldLink RX4 47 "LeaseDeskModel" "values" "[I"] ++ wsX40)
def wsX4_thrown : List Cond := .code yX4_thrown cX4_thrown 1 (some .int) :: ([.fieldLink RX4 50 "LeaseDeskModel" "thrown" "I"] ++ wsX40)
def wsX4_isOpen : List Cond := .code yX4_isOpen cX4_isOpen 2 (some .boolean) :: ([.fieldLink RX4 9 "LeaseDeskModel" "there" "[Z"] ++ wsX40)
def wsX4_isLock : List Cond := .code yX4_isLock cX4_isLock 1 (some .boolean) :: ([])
def wsX4_lend : List Cond := .code yX4_lend cX4_lend 4 none :: ([.fieldLink RX4 23 "LeaseDeskModel" "has" "[I", .fieldLink RX4 26 "LeaseDeskModel" "tokens" "[I", .fieldLink RX4 29 "LeaseDeskModel" "ends" "[I", .fieldLink RX4 54 "LeaseDeskModel" "time" "I", .fieldLink RX4 32 "LeaseDeskModel" "terms" "[I", .fieldLink RX4 35 "LeaseDeskModel" "starts" "[I", .fieldLink RX4 20 "LeaseDeskModel" "clocks" "[I", .fieldLink RX4 38 "LeaseDeskModel" "wishes" "[I"] ++ wsX40)
def wsX4_inRow : List Cond := .code yX4_inRow cX4_inRow 7 (some .int) :: ([.fieldLink RX4 38 "LeaseDeskModel" "wishes" "[I"] ++ wsX40)
def wsX4_over : List Cond := .code yX4_over cX4_over 3 none :: ([.fieldLink RX4 23 "LeaseDeskModel" "has" "[I", .fieldLink RX4 41 "LeaseDeskModel" "wished" "[I", .methodLink RX4 57 yX4_inRow, .instanceMethod yX4_inRow, .selects RX4 yX4_inRow yX4_inRow, .initialized RX4, .code yX4_inRow cX4_inRow 7 (some .int), .fieldLink RX4 38 "LeaseDeskModel" "wishes" "[I", .methodLink RX4 61 yX4_lend, .instanceMethod yX4_lend, .selects RX4 yX4_lend yX4_lend, .code yX4_lend cX4_lend 4 none, .fieldLink RX4 26 "LeaseDeskModel" "tokens" "[I", .fieldLink RX4 29 "LeaseDeskModel" "ends" "[I", .fieldLink RX4 54 "LeaseDeskModel" "time" "I", .fieldLink RX4 32 "LeaseDeskModel" "terms" "[I", .fieldLink RX4 35 "LeaseDeskModel" "starts" "[I", .fieldLink RX4 20 "LeaseDeskModel" "clocks" "[I"] ++ wsX40)
def wsX4_gone : List Cond := .code yX4_gone cX4_gone 4 (some .int) :: ([.fieldLink RX4 38 "LeaseDeskModel" "wishes" "[I", .fieldLink RX4 23 "LeaseDeskModel" "has" "[I", .fieldLink RX4 9 "LeaseDeskModel" "there" "[Z", .methodLink RX4 65 yX4_over, .instanceMethod yX4_over, .selects RX4 yX4_over yX4_over, .initialized RX4, .code yX4_over cX4_over 3 none, .fieldLink RX4 41 "LeaseDeskModel" "wished" "[I", .methodLink RX4 57 yX4_inRow, .instanceMethod yX4_inRow, .selects RX4 yX4_inRow yX4_inRow, .code yX4_inRow cX4_inRow 7 (some .int), .methodLink RX4 61 yX4_lend, .instanceMethod yX4_lend, .selects RX4 yX4_lend yX4_lend, .code yX4_lend cX4_lend 4 none, .fieldLink RX4 26 "LeaseDeskModel" "tokens" "[I", .fieldLink RX4 29 "LeaseDeskModel" "ends" "[I", .fieldLink RX4 54 "LeaseDeskModel" "time" "I", .fieldLink RX4 32 "LeaseDeskModel" "terms" "[I", .fieldLink RX4 35 "LeaseDeskModel" "starts" "[I", .fieldLink RX4 20 "LeaseDeskModel" "clocks" "[I"] ++ wsX40)
def wsX4_open : List Cond := .code yX4_open cX4_open 2 (some .int) :: ([.fieldLink RX4 9 "LeaseDeskModel" "there" "[Z", .fieldLink RX4 13 "LeaseDeskModel" "signed" "[I", .fieldLink RX4 54 "LeaseDeskModel" "time" "I", .fieldLink RX4 17 "LeaseDeskModel" "rates" "[I", .fieldLink RX4 20 "LeaseDeskModel" "clocks" "[I", .fieldLink RX4 50 "LeaseDeskModel" "thrown" "I"] ++ wsX40)
def wsX4_close_r1 : List Cond := [Cond.fieldLink RX4 50 "LeaseDeskModel" "thrown" "I", Cond.methodLink RX4 69 yX4_isOpen, Cond.instanceMethod yX4_isOpen, Cond.selects RX4 yX4_isOpen yX4_isOpen, Cond.initialized RX4, Cond.code yX4_isOpen cX4_isOpen 2 (some .boolean), Cond.fieldLink RX4 9 "LeaseDeskModel" "there" "[Z", Cond.methodLink RX4 73 yX4_gone, Cond.instanceMethod yX4_gone, Cond.selects RX4 yX4_gone yX4_gone, Cond.code yX4_gone cX4_gone 4 (some .int), Cond.fieldLink RX4 38 "LeaseDeskModel" "wishes" "[I", Cond.fieldLink RX4 23 "LeaseDeskModel" "has" "[I", Cond.methodLink RX4 65 yX4_over, Cond.instanceMethod yX4_over, Cond.selects RX4 yX4_over yX4_over, Cond.code yX4_over cX4_over 3 none, Cond.fieldLink RX4 41 "LeaseDeskModel" "wished" "[I", Cond.methodLink RX4 57 yX4_inRow, Cond.instanceMethod yX4_inRow, Cond.selects RX4 yX4_inRow yX4_inRow, Cond.code yX4_inRow cX4_inRow 7 (some .int), Cond.methodLink RX4 61 yX4_lend, Cond.instanceMethod yX4_lend]
def wsX4_close_r2 : List Cond := [Cond.selects RX4 yX4_lend yX4_lend, Cond.code yX4_lend cX4_lend 4 none, Cond.fieldLink RX4 26 "LeaseDeskModel" "tokens" "[I", Cond.fieldLink RX4 29 "LeaseDeskModel" "ends" "[I", Cond.fieldLink RX4 54 "LeaseDeskModel" "time" "I", Cond.fieldLink RX4 32 "LeaseDeskModel" "terms" "[I", Cond.fieldLink RX4 35 "LeaseDeskModel" "starts" "[I", Cond.fieldLink RX4 20 "LeaseDeskModel" "clocks" "[I"]
def wsX4_close : List Cond := .code yX4_close cX4_close 2 (some .int) :: ((wsX4_close_r1 ++ wsX4_close_r2) ++ wsX40)
def wsX4_keep : List Cond := .code yX4_keep cX4_keep 2 none :: ([.fieldLink RX4 50 "LeaseDeskModel" "thrown" "I", .fieldLink RX4 13 "LeaseDeskModel" "signed" "[I", .fieldLink RX4 54 "LeaseDeskModel" "time" "I", .methodLink RX4 69 yX4_isOpen, .instanceMethod yX4_isOpen, .selects RX4 yX4_isOpen yX4_isOpen, .initialized RX4, .code yX4_isOpen cX4_isOpen 2 (some .boolean), .fieldLink RX4 9 "LeaseDeskModel" "there" "[Z"] ++ wsX40)
def wsX4_rate : List Cond := .code yX4_rate cX4_rate 3 (some .boolean) :: ([.fieldLink RX4 17 "LeaseDeskModel" "rates" "[I", .methodLink RX4 69 yX4_isOpen, .instanceMethod yX4_isOpen, .selects RX4 yX4_isOpen yX4_isOpen, .initialized RX4, .code yX4_isOpen cX4_isOpen 2 (some .boolean), .fieldLink RX4 9 "LeaseDeskModel" "there" "[Z"] ++ wsX40)
def wsX4_tick_r1 : List Cond := [Cond.fieldLink RX4 54 "LeaseDeskModel" "time" "I", Cond.fieldLink RX4 9 "LeaseDeskModel" "there" "[Z", Cond.fieldLink RX4 20 "LeaseDeskModel" "clocks" "[I", Cond.fieldLink RX4 17 "LeaseDeskModel" "rates" "[I", Cond.fieldLink RX4 13 "LeaseDeskModel" "signed" "[I", Cond.fieldLink RX4 23 "LeaseDeskModel" "has" "[I", Cond.fieldLink RX4 29 "LeaseDeskModel" "ends" "[I", Cond.methodLink RX4 73 yX4_gone, Cond.instanceMethod yX4_gone, Cond.selects RX4 yX4_gone yX4_gone, Cond.initialized RX4, Cond.code yX4_gone cX4_gone 4 (some .int), Cond.fieldLink RX4 38 "LeaseDeskModel" "wishes" "[I", Cond.methodLink RX4 65 yX4_over, Cond.instanceMethod yX4_over, Cond.selects RX4 yX4_over yX4_over, Cond.code yX4_over cX4_over 3 none, Cond.fieldLink RX4 41 "LeaseDeskModel" "wished" "[I", Cond.methodLink RX4 57 yX4_inRow, Cond.instanceMethod yX4_inRow, Cond.selects RX4 yX4_inRow yX4_inRow, Cond.code yX4_inRow cX4_inRow 7 (some .int), Cond.methodLink RX4 61 yX4_lend, Cond.instanceMethod yX4_lend]
def wsX4_tick_r2 : List Cond := [Cond.selects RX4 yX4_lend yX4_lend, Cond.code yX4_lend cX4_lend 4 none, Cond.fieldLink RX4 26 "LeaseDeskModel" "tokens" "[I", Cond.fieldLink RX4 32 "LeaseDeskModel" "terms" "[I", Cond.fieldLink RX4 35 "LeaseDeskModel" "starts" "[I"]
def wsX4_tick : List Cond := .code yX4_tick cX4_tick 4 (some .int) :: ((wsX4_tick_r1 ++ wsX4_tick_r2) ++ wsX40)
def wsX4_acquire_r1 : List Cond := [Cond.fieldLink RX4 50 "LeaseDeskModel" "thrown" "I", Cond.fieldLink RX4 13 "LeaseDeskModel" "signed" "[I", Cond.fieldLink RX4 54 "LeaseDeskModel" "time" "I", Cond.fieldLink RX4 23 "LeaseDeskModel" "has" "[I", Cond.fieldLink RX4 29 "LeaseDeskModel" "ends" "[I", Cond.fieldLink RX4 32 "LeaseDeskModel" "terms" "[I", Cond.fieldLink RX4 35 "LeaseDeskModel" "starts" "[I", Cond.fieldLink RX4 20 "LeaseDeskModel" "clocks" "[I", Cond.fieldLink RX4 26 "LeaseDeskModel" "tokens" "[I", Cond.fieldLink RX4 38 "LeaseDeskModel" "wishes" "[I", Cond.fieldLink RX4 80 "LeaseDeskModel" "numbers" "I", Cond.fieldLink RX4 41 "LeaseDeskModel" "wished" "[I", Cond.methodLink RX4 69 yX4_isOpen, Cond.instanceMethod yX4_isOpen, Cond.selects RX4 yX4_isOpen yX4_isOpen, Cond.initialized RX4, Cond.code yX4_isOpen cX4_isOpen 2 (some .boolean), Cond.fieldLink RX4 9 "LeaseDeskModel" "there" "[Z", Cond.methodLink RX4 77 yX4_isLock, Cond.static yX4_isLock, Cond.code yX4_isLock cX4_isLock 1 (some .boolean), Cond.methodLink RX4 61 yX4_lend, Cond.instanceMethod yX4_lend, Cond.selects RX4 yX4_lend yX4_lend]
def wsX4_acquire_r2 : List Cond := [Cond.code yX4_lend cX4_lend 4 none]
def wsX4_acquire : List Cond := .code yX4_acquire cX4_acquire 5 (some .int) :: ((wsX4_acquire_r1 ++ wsX4_acquire_r2) ++ wsX40)
def wsX4_release_r1 : List Cond := [Cond.fieldLink RX4 23 "LeaseDeskModel" "has" "[I", Cond.fieldLink RX4 50 "LeaseDeskModel" "thrown" "I", Cond.methodLink RX4 69 yX4_isOpen, Cond.instanceMethod yX4_isOpen, Cond.selects RX4 yX4_isOpen yX4_isOpen, Cond.initialized RX4, Cond.code yX4_isOpen cX4_isOpen 2 (some .boolean), Cond.fieldLink RX4 9 "LeaseDeskModel" "there" "[Z", Cond.methodLink RX4 77 yX4_isLock, Cond.static yX4_isLock, Cond.code yX4_isLock cX4_isLock 1 (some .boolean), Cond.methodLink RX4 65 yX4_over, Cond.instanceMethod yX4_over, Cond.selects RX4 yX4_over yX4_over, Cond.code yX4_over cX4_over 3 none, Cond.fieldLink RX4 41 "LeaseDeskModel" "wished" "[I", Cond.methodLink RX4 57 yX4_inRow, Cond.instanceMethod yX4_inRow, Cond.selects RX4 yX4_inRow yX4_inRow, Cond.code yX4_inRow cX4_inRow 7 (some .int), Cond.fieldLink RX4 38 "LeaseDeskModel" "wishes" "[I", Cond.methodLink RX4 61 yX4_lend, Cond.instanceMethod yX4_lend, Cond.selects RX4 yX4_lend yX4_lend]
def wsX4_release_r2 : List Cond := [Cond.code yX4_lend cX4_lend 4 none, Cond.fieldLink RX4 26 "LeaseDeskModel" "tokens" "[I", Cond.fieldLink RX4 29 "LeaseDeskModel" "ends" "[I", Cond.fieldLink RX4 54 "LeaseDeskModel" "time" "I", Cond.fieldLink RX4 32 "LeaseDeskModel" "terms" "[I", Cond.fieldLink RX4 35 "LeaseDeskModel" "starts" "[I", Cond.fieldLink RX4 20 "LeaseDeskModel" "clocks" "[I"]
def wsX4_release : List Cond := .code yX4_release cX4_release 3 none :: ((wsX4_release_r1 ++ wsX4_release_r2) ++ wsX40)
def wsX4_cancel : List Cond := .code yX4_cancel cX4_cancel 3 (some .boolean) :: ([.fieldLink RX4 38 "LeaseDeskModel" "wishes" "[I", .methodLink RX4 69 yX4_isOpen, .instanceMethod yX4_isOpen, .selects RX4 yX4_isOpen yX4_isOpen, .initialized RX4, .code yX4_isOpen cX4_isOpen 2 (some .boolean), .fieldLink RX4 9 "LeaseDeskModel" "there" "[Z", .methodLink RX4 77 yX4_isLock, .static yX4_isLock, .code yX4_isLock cX4_isLock 1 (some .boolean)] ++ wsX40)
def wsX4_holder : List Cond := .code yX4_holder cX4_holder 2 (some .int) :: ([.fieldLink RX4 23 "LeaseDeskModel" "has" "[I", .methodLink RX4 77 yX4_isLock, .static yX4_isLock, .initialized RX4, .code yX4_isLock cX4_isLock 1 (some .boolean)] ++ wsX40)
def wsX4_token : List Cond := .code yX4_token cX4_token 2 (some .int) :: ([.fieldLink RX4 26 "LeaseDeskModel" "tokens" "[I", .methodLink RX4 77 yX4_isLock, .static yX4_isLock, .initialized RX4, .code yX4_isLock cX4_isLock 1 (some .boolean)] ++ wsX40)
def wsX4_until : List Cond := .code yX4_until cX4_until 2 (some .int) :: ([.fieldLink RX4 23 "LeaseDeskModel" "has" "[I", .fieldLink RX4 29 "LeaseDeskModel" "ends" "[I", .methodLink RX4 77 yX4_isLock, .static yX4_isLock, .initialized RX4, .code yX4_isLock cX4_isLock 1 (some .boolean)] ++ wsX40)
def wsX4_waiter : List Cond := .code yX4_waiter cX4_waiter 3 (some .int) :: ([.methodLink RX4 77 yX4_isLock, .static yX4_isLock, .initialized RX4, .code yX4_isLock cX4_isLock 1 (some .boolean), .methodLink RX4 57 yX4_inRow, .instanceMethod yX4_inRow, .selects RX4 yX4_inRow yX4_inRow, .code yX4_inRow cX4_inRow 7 (some .int), .fieldLink RX4 38 "LeaseDeskModel" "wishes" "[I"] ++ wsX40)
def wsX4_time : List Cond := .code yX4_time cX4_time 1 (some .int) :: ([.fieldLink RX4 54 "LeaseDeskModel" "time" "I"] ++ wsX40)
def wsX4_clock : List Cond := .code yX4_clock cX4_clock 2 (some .int) :: ([.fieldLink RX4 20 "LeaseDeskModel" "clocks" "[I", .methodLink RX4 69 yX4_isOpen, .instanceMethod yX4_isOpen, .selects RX4 yX4_isOpen yX4_isOpen, .initialized RX4, .code yX4_isOpen cX4_isOpen 2 (some .boolean), .fieldLink RX4 9 "LeaseDeskModel" "there" "[Z"] ++ wsX40)
def wsX4_believes : List Cond := .code yX4_believes cX4_believes 3 (some .boolean) :: ([.fieldLink RX4 23 "LeaseDeskModel" "has" "[I", .fieldLink RX4 20 "LeaseDeskModel" "clocks" "[I", .fieldLink RX4 35 "LeaseDeskModel" "starts" "[I", .fieldLink RX4 32 "LeaseDeskModel" "terms" "[I", .methodLink RX4 69 yX4_isOpen, .instanceMethod yX4_isOpen, .selects RX4 yX4_isOpen yX4_isOpen, .initialized RX4, .code yX4_isOpen cX4_isOpen 2 (some .boolean), .fieldLink RX4 9 "LeaseDeskModel" "there" "[Z", .methodLink RX4 77 yX4_isLock, .static yX4_isLock, .code yX4_isLock cX4_isLock 1 (some .boolean)] ++ wsX40)
def wsX4_write : List Cond := .code yX4_write cX4_write 4 (some .boolean) :: ([.fieldLink RX4 44 "LeaseDeskModel" "greatest" "[I", .fieldLink RX4 47 "LeaseDeskModel" "values" "[I", .methodLink RX4 77 yX4_isLock, .static yX4_isLock, .initialized RX4, .code yX4_isLock cX4_isLock 1 (some .boolean)] ++ wsX40)
def wsX4_stored : List Cond := .code yX4_stored cX4_stored 2 (some .int) :: ([.fieldLink RX4 47 "LeaseDeskModel" "values" "[I", .methodLink RX4 77 yX4_isLock, .static yX4_isLock, .initialized RX4, .code yX4_isLock cX4_isLock 1 (some .boolean)] ++ wsX40)
def wsX4_seen : List Cond := .code yX4_seen cX4_seen 2 (some .int) :: ([.fieldLink RX4 44 "LeaseDeskModel" "greatest" "[I", .methodLink RX4 77 yX4_isLock, .static yX4_isLock, .initialized RX4, .code yX4_isLock cX4_isLock 1 (some .boolean)] ++ wsX40)
def wsL_open : List Cond := .codeWith yL_open cL_open 3 (some .int) [(0, 8, 11, 13)] :: ([.classLink RL 13 "java/lang/IllegalStateException", .methodLink RL 7 yX3_open, .instanceMethod yX3_open, .selects RX3 yX3_open yX3_open, .initialized RX3, .code yX3_open cX3_open 2 (some .int), .classLink RX3 35 "java/lang/IllegalStateException", .initialized "java/lang/IllegalStateException", .fieldLink RX3 11 "LeaseDesk" "sessions" "[LLeaseDesk$Session;", .fieldLink RX3 27 "LeaseDesk$Session" "isOpen" "Z", .fieldLink RX3 23 "LeaseDesk" "now" "I", .methodLink RX3 31 yX2_begin, .instanceMethod yX2_begin, .selects RX2 yX2_begin yX2_begin, .initialized RX2, .code yX2_begin cX2_begin 2 none, .fieldLink RX2 9 "LeaseDesk$Session" "isOpen" "Z", .fieldLink RX2 15 "LeaseDesk$Session" "sign" "I", .fieldLink RX2 19 "LeaseDesk$Session" "rate" "I", .fieldLink RX2 22 "LeaseDesk$Session" "clock" "I"] ++ wsX30 ++ wsX20 ++ (vx_atS RX3 39 "java/lang/IllegalStateException" ["java/lang/RuntimeException", "java/lang/Exception"]).filter goodWord)
def wsL_close_r1 : List Cond := [Cond.classLink RL 19 "java/util/NoSuchElementException", Cond.methodLink RL 15 yX3_close, Cond.instanceMethod yX3_close, Cond.selects RX3 yX3_close yX3_close, Cond.initialized RX3, Cond.code yX3_close cX3_close 2 (some .int), Cond.methodLink RX3 42 yX3_requireSession, Cond.instanceMethod yX3_requireSession, Cond.selects RX3 yX3_requireSession yX3_requireSession, Cond.code yX3_requireSession cX3_requireSession 3 (some (.object "LeaseDesk$Session")), Cond.classLink RX3 141 "java/util/NoSuchElementException", Cond.initialized "java/util/NoSuchElementException", Cond.methodLink RX3 53 yX3_openSession, Cond.instanceMethod yX3_openSession, Cond.selects RX3 yX3_openSession yX3_openSession, Cond.code yX3_openSession cX3_openSession 2 (some (.object "LeaseDesk$Session")), Cond.fieldLink RX3 11 "LeaseDesk" "sessions" "[LLeaseDesk$Session;", Cond.fieldLink RX3 27 "LeaseDesk$Session" "isOpen" "Z", Cond.methodLink RX3 46 yX3_endSession, Cond.instanceMethod yX3_endSession, Cond.selects RX3 yX3_endSession yX3_endSession, Cond.code yX3_endSession cX3_endSession 8 (some .int), Cond.fieldLink RX3 18 "LeaseDesk" "locks" "[LLeaseDesk$Lock;", Cond.fieldLink RX3 99 "LeaseDesk$Lock" "row" "LLeaseDesk$Row;"]
def wsL_close_r2 : List Cond := [Cond.fieldLink RX3 78 "LeaseDesk$Lock" "holder" "I", Cond.methodLink RX3 118 yX1_drop, Cond.instanceMethod yX1_drop, Cond.selects RX1 yX1_drop yX1_drop, Cond.initialized RX1, Cond.code yX1_drop cX1_drop 4 (some .boolean), Cond.fieldLink RX1 26 "LeaseDesk$Row" "length" "I", Cond.fieldLink RX1 9 "LeaseDesk$Row" "slots" "[I", Cond.fieldLink RX1 15 "LeaseDesk$Row" "terms" "[I", Cond.methodLink RX1 22 yX1_placeOf, Cond.instanceMethod yX1_placeOf, Cond.selects RX1 yX1_placeOf yX1_placeOf, Cond.code yX1_placeOf cX1_placeOf 3 (some .int), Cond.methodLink RX3 111 yX3_passOn, Cond.instanceMethod yX3_passOn, Cond.selects RX3 yX3_passOn yX3_passOn, Cond.code yX3_passOn cX3_passOn 4 none, Cond.fieldLink RX3 23 "LeaseDesk" "now" "I", Cond.methodLink RX3 125 yX1_slotAt, Cond.instanceMethod yX1_slotAt, Cond.selects RX1 yX1_slotAt yX1_slotAt, Cond.code yX1_slotAt cX1_slotAt 2 (some .int), Cond.methodLink RX1 18 yX1_isTaken, Cond.instanceMethod yX1_isTaken]
def wsL_close_r3 : List Cond := [Cond.selects RX1 yX1_isTaken yX1_isTaken, Cond.code yX1_isTaken cX1_isTaken 2 (some .boolean), Cond.methodLink RX3 148 yX1_termAt, Cond.instanceMethod yX1_termAt, Cond.selects RX1 yX1_termAt yX1_termAt, Cond.code yX1_termAt cX1_termAt 2 (some .int), Cond.methodLink RX3 151 yX3_clock, Cond.instanceMethod yX3_clock, Cond.selects RX3 yX3_clock yX3_clock, Cond.code yX3_clock cX3_clock 3 (some .int), Cond.fieldLink RX3 81 "LeaseDesk$Session" "clock" "I", Cond.methodLink RX3 95 yX0_lend, Cond.instanceMethod yX0_lend, Cond.selects RX0 yX0_lend yX0_lend, Cond.initialized RX0, Cond.code yX0_lend cX0_lend 5 none, Cond.fieldLink RX0 18 "LeaseDesk$Lock" "holder" "I", Cond.fieldLink RX0 22 "LeaseDesk$Lock" "token" "I", Cond.methodLink RX0 25 yX0_runFrom, Cond.instanceMethod yX0_runFrom, Cond.selects RX0 yX0_runFrom yX0_runFrom, Cond.code yX0_runFrom cX0_runFrom 4 none, Cond.fieldLink RX0 29 "LeaseDesk$Lock" "ends" "I", Cond.fieldLink RX0 32 "LeaseDesk$Lock" "term" "I"]
def wsL_close_r4 : List Cond := [Cond.fieldLink RX0 35 "LeaseDesk$Lock" "start" "I"]
def wsL_close : List Cond := .codeWith yL_close cL_close 4 (some .int) [(0, 9, 12, 19)] :: ((wsL_close_r1 ++ (wsL_close_r2 ++ (wsL_close_r3 ++ wsL_close_r4))) ++ wsX30 ++ wsX20 ++ wsX00 ++ wsX10 ++ (nse_at).filter goodWord)
def wsL_keep : List Cond := .codeWith yL_keep cL_keep 3 (some .int) [(0, 5, 8, 19)] :: ([.classLink RL 19 "java/util/NoSuchElementException", .methodLink RL 21 yX3_keep, .instanceMethod yX3_keep, .selects RX3 yX3_keep yX3_keep, .initialized RX3, .code yX3_keep cX3_keep 2 none, .fieldLink RX3 23 "LeaseDesk" "now" "I", .fieldLink RX3 50 "LeaseDesk$Session" "sign" "I", .methodLink RX3 42 yX3_requireSession, .instanceMethod yX3_requireSession, .selects RX3 yX3_requireSession yX3_requireSession, .code yX3_requireSession cX3_requireSession 3 (some (.object "LeaseDesk$Session")), .classLink RX3 141 "java/util/NoSuchElementException", .initialized "java/util/NoSuchElementException", .methodLink RX3 53 yX3_openSession, .instanceMethod yX3_openSession, .selects RX3 yX3_openSession yX3_openSession, .code yX3_openSession cX3_openSession 2 (some (.object "LeaseDesk$Session")), .fieldLink RX3 11 "LeaseDesk" "sessions" "[LLeaseDesk$Session;", .fieldLink RX3 27 "LeaseDesk$Session" "isOpen" "Z"] ++ wsX30 ++ wsX20 ++ (nse_at).filter goodWord)
def wsL_acquire_r1 : List Cond := [Cond.classLink RL 19 "java/util/NoSuchElementException", Cond.classLink RL 29 "java/lang/IllegalArgumentException", Cond.methodLink RL 25 yX3_acquire, Cond.instanceMethod yX3_acquire, Cond.selects RX3 yX3_acquire yX3_acquire, Cond.initialized RX3, Cond.code yX3_acquire cX3_acquire 6 (some .int), Cond.classLink RX3 73 "java/lang/IllegalArgumentException", Cond.initialized "java/lang/IllegalArgumentException", Cond.fieldLink RX3 23 "LeaseDesk" "now" "I", Cond.fieldLink RX3 50 "LeaseDesk$Session" "sign" "I", Cond.fieldLink RX3 78 "LeaseDesk$Lock" "holder" "I", Cond.fieldLink RX3 81 "LeaseDesk$Session" "clock" "I", Cond.fieldLink RX3 88 "LeaseDesk$Lock" "token" "I", Cond.fieldLink RX3 99 "LeaseDesk$Lock" "row" "LLeaseDesk$Row;", Cond.methodLink RX3 42 yX3_requireSession, Cond.instanceMethod yX3_requireSession, Cond.selects RX3 yX3_requireSession yX3_requireSession, Cond.code yX3_requireSession cX3_requireSession 3 (some (.object "LeaseDesk$Session")), Cond.classLink RX3 141 "java/util/NoSuchElementException", Cond.initialized "java/util/NoSuchElementException", Cond.methodLink RX3 53 yX3_openSession, Cond.instanceMethod yX3_openSession, Cond.selects RX3 yX3_openSession yX3_openSession]
def wsL_acquire_r2 : List Cond := [Cond.code yX3_openSession cX3_openSession 2 (some (.object "LeaseDesk$Session")), Cond.fieldLink RX3 11 "LeaseDesk" "sessions" "[LLeaseDesk$Session;", Cond.fieldLink RX3 27 "LeaseDesk$Session" "isOpen" "Z", Cond.methodLink RX3 69 yX3_requireLock, Cond.instanceMethod yX3_requireLock, Cond.selects RX3 yX3_requireLock yX3_requireLock, Cond.code yX3_requireLock cX3_requireLock 3 (some (.object "LeaseDesk$Lock")), Cond.methodLink RX3 115 yX3_knownLock, Cond.instanceMethod yX3_knownLock, Cond.selects RX3 yX3_knownLock yX3_knownLock, Cond.code yX3_knownLock cX3_knownLock 2 (some (.object "LeaseDesk$Lock")), Cond.fieldLink RX3 18 "LeaseDesk" "locks" "[LLeaseDesk$Lock;", Cond.methodLink RX3 84 yX0_renew, Cond.instanceMethod yX0_renew, Cond.selects RX0 yX0_renew yX0_renew, Cond.initialized RX0, Cond.code yX0_renew cX0_renew 4 none, Cond.fieldLink RX0 29 "LeaseDesk$Lock" "ends" "I", Cond.methodLink RX0 25 yX0_runFrom, Cond.instanceMethod yX0_runFrom, Cond.selects RX0 yX0_runFrom yX0_runFrom, Cond.code yX0_runFrom cX0_runFrom 4 none, Cond.fieldLink RX0 32 "LeaseDesk$Lock" "term" "I", Cond.fieldLink RX0 35 "LeaseDesk$Lock" "start" "I"]
def wsL_acquire_r3 : List Cond := [Cond.methodLink RX3 91 yX0_isFree, Cond.instanceMethod yX0_isFree, Cond.selects RX0 yX0_isFree yX0_isFree, Cond.code yX0_isFree cX0_isFree 1 (some .boolean), Cond.fieldLink RX0 18 "LeaseDesk$Lock" "holder" "I", Cond.methodLink RX3 95 yX0_lend, Cond.instanceMethod yX0_lend, Cond.selects RX0 yX0_lend yX0_lend, Cond.code yX0_lend cX0_lend 5 none, Cond.fieldLink RX0 22 "LeaseDesk$Lock" "token" "I", Cond.methodLink RX3 103 yX1_ask, Cond.instanceMethod yX1_ask, Cond.selects RX1 yX1_ask yX1_ask, Cond.initialized RX1, Cond.code yX1_ask cX1_ask 4 none, Cond.fieldLink RX1 15 "LeaseDesk$Row" "terms" "[I", Cond.fieldLink RX1 26 "LeaseDesk$Row" "length" "I", Cond.fieldLink RX1 9 "LeaseDesk$Row" "slots" "[I", Cond.methodLink RX1 22 yX1_placeOf, Cond.instanceMethod yX1_placeOf, Cond.selects RX1 yX1_placeOf yX1_placeOf, Cond.code yX1_placeOf cX1_placeOf 3 (some .int)]
def wsL_acquire : List Cond := .codeWith yL_acquire cL_acquire 6 (some .int) [(0, 12, 15, 19), (0, 12, 19, 29)] :: ((wsL_acquire_r1 ++ (wsL_acquire_r2 ++ wsL_acquire_r3)) ++ wsX30 ++ wsX20 ++ wsX00 ++ wsX10 ++ (vx_atS RX3 77 "java/lang/IllegalArgumentException" ["java/lang/RuntimeException", "java/lang/Exception"]).filter goodWord ++ (nse_at).filter goodWord)
def wsL_release_r1 : List Cond := [Cond.classLink RL 19 "java/util/NoSuchElementException", Cond.classLink RL 29 "java/lang/IllegalArgumentException", Cond.classLink RL 13 "java/lang/IllegalStateException", Cond.methodLink RL 31 yX3_release, Cond.instanceMethod yX3_release, Cond.selects RX3 yX3_release yX3_release, Cond.initialized RX3, Cond.code yX3_release cX3_release 4 none, Cond.classLink RX3 35 "java/lang/IllegalStateException", Cond.initialized "java/lang/IllegalStateException", Cond.fieldLink RX3 78 "LeaseDesk$Lock" "holder" "I", Cond.methodLink RX3 42 yX3_requireSession, Cond.instanceMethod yX3_requireSession, Cond.selects RX3 yX3_requireSession yX3_requireSession, Cond.code yX3_requireSession cX3_requireSession 3 (some (.object "LeaseDesk$Session")), Cond.classLink RX3 141 "java/util/NoSuchElementException", Cond.initialized "java/util/NoSuchElementException", Cond.methodLink RX3 53 yX3_openSession, Cond.instanceMethod yX3_openSession, Cond.selects RX3 yX3_openSession yX3_openSession, Cond.code yX3_openSession cX3_openSession 2 (some (.object "LeaseDesk$Session")), Cond.fieldLink RX3 11 "LeaseDesk" "sessions" "[LLeaseDesk$Session;", Cond.fieldLink RX3 27 "LeaseDesk$Session" "isOpen" "Z", Cond.methodLink RX3 69 yX3_requireLock]
def wsL_release_r2 : List Cond := [Cond.instanceMethod yX3_requireLock, Cond.selects RX3 yX3_requireLock yX3_requireLock, Cond.code yX3_requireLock cX3_requireLock 3 (some (.object "LeaseDesk$Lock")), Cond.classLink RX3 73 "java/lang/IllegalArgumentException", Cond.initialized "java/lang/IllegalArgumentException", Cond.methodLink RX3 115 yX3_knownLock, Cond.instanceMethod yX3_knownLock, Cond.selects RX3 yX3_knownLock yX3_knownLock, Cond.code yX3_knownLock cX3_knownLock 2 (some (.object "LeaseDesk$Lock")), Cond.fieldLink RX3 18 "LeaseDesk" "locks" "[LLeaseDesk$Lock;", Cond.methodLink RX3 111 yX3_passOn, Cond.instanceMethod yX3_passOn, Cond.selects RX3 yX3_passOn yX3_passOn, Cond.code yX3_passOn cX3_passOn 4 none, Cond.fieldLink RX3 99 "LeaseDesk$Lock" "row" "LLeaseDesk$Row;", Cond.fieldLink RX3 23 "LeaseDesk" "now" "I", Cond.methodLink RX3 125 yX1_slotAt, Cond.instanceMethod yX1_slotAt, Cond.selects RX1 yX1_slotAt yX1_slotAt, Cond.initialized RX1, Cond.code yX1_slotAt cX1_slotAt 2 (some .int), Cond.fieldLink RX1 9 "LeaseDesk$Row" "slots" "[I", Cond.methodLink RX1 18 yX1_isTaken, Cond.instanceMethod yX1_isTaken]
def wsL_release_r3 : List Cond := [Cond.selects RX1 yX1_isTaken yX1_isTaken, Cond.code yX1_isTaken cX1_isTaken 2 (some .boolean), Cond.fieldLink RX1 26 "LeaseDesk$Row" "length" "I", Cond.methodLink RX3 148 yX1_termAt, Cond.instanceMethod yX1_termAt, Cond.selects RX1 yX1_termAt yX1_termAt, Cond.code yX1_termAt cX1_termAt 2 (some .int), Cond.fieldLink RX1 15 "LeaseDesk$Row" "terms" "[I", Cond.methodLink RX3 118 yX1_drop, Cond.instanceMethod yX1_drop, Cond.selects RX1 yX1_drop yX1_drop, Cond.code yX1_drop cX1_drop 4 (some .boolean), Cond.methodLink RX1 22 yX1_placeOf, Cond.instanceMethod yX1_placeOf, Cond.selects RX1 yX1_placeOf yX1_placeOf, Cond.code yX1_placeOf cX1_placeOf 3 (some .int), Cond.methodLink RX3 151 yX3_clock, Cond.instanceMethod yX3_clock, Cond.selects RX3 yX3_clock yX3_clock, Cond.code yX3_clock cX3_clock 3 (some .int), Cond.fieldLink RX3 81 "LeaseDesk$Session" "clock" "I", Cond.methodLink RX3 95 yX0_lend, Cond.instanceMethod yX0_lend, Cond.selects RX0 yX0_lend yX0_lend]
def wsL_release_r4 : List Cond := [Cond.initialized RX0, Cond.code yX0_lend cX0_lend 5 none, Cond.fieldLink RX0 18 "LeaseDesk$Lock" "holder" "I", Cond.fieldLink RX0 22 "LeaseDesk$Lock" "token" "I", Cond.methodLink RX0 25 yX0_runFrom, Cond.instanceMethod yX0_runFrom, Cond.selects RX0 yX0_runFrom yX0_runFrom, Cond.code yX0_runFrom cX0_runFrom 4 none, Cond.fieldLink RX0 29 "LeaseDesk$Lock" "ends" "I", Cond.fieldLink RX0 32 "LeaseDesk$Lock" "term" "I", Cond.fieldLink RX0 35 "LeaseDesk$Lock" "start" "I"]
def wsL_release : List Cond := .codeWith yL_release cL_release 4 (some .int) [(0, 6, 9, 19), (0, 6, 12, 29), (0, 6, 15, 13)] :: ((wsL_release_r1 ++ (wsL_release_r2 ++ (wsL_release_r3 ++ wsL_release_r4))) ++ wsX00 ++ wsX30 ++ wsX20 ++ wsX10 ++ (vx_atS RX3 39 "java/lang/IllegalStateException" ["java/lang/RuntimeException", "java/lang/Exception"]).filter goodWord ++ (nse_at).filter goodWord ++ (vx_atS RX3 77 "java/lang/IllegalArgumentException" ["java/lang/RuntimeException", "java/lang/Exception"]).filter goodWord)
def wsL_law0_r1 : List Cond := [Cond.classLink RL 8 RX3, Cond.instantiable RX3 3, Cond.initialized RX3, Cond.classLink RL 36 RX4, Cond.instantiable RX4 16, Cond.initialized RX4, Cond.arrayClass .long, Cond.methodLink RL 35 yX3_init, Cond.instanceMethod yX3_init, Cond.code yX3_init cX3_init 2 none, Cond.methodLink RX3 1 objectInit, Cond.instanceMethod objectInit, Cond.code objectInit ⟨#[0xb1]⟩ 1 none, Cond.classLink RX3 9 RX2, Cond.fieldLink RX3 11 "LeaseDesk" "sessions" "[LLeaseDesk$Session;", Cond.instantiable RX2 4, Cond.initialized RX2, Cond.classLink RX3 16 RX0, Cond.fieldLink RX3 18 "LeaseDesk" "locks" "[LLeaseDesk$Lock;", Cond.instantiable RX0 8, Cond.initialized RX0, Cond.fieldLink RX3 23 "LeaseDesk" "now" "I", Cond.instanceMethod yX2_init, Cond.code yX2_init cX2_init 1 none]
def wsL_law0_r2 : List Cond := [Cond.methodLink RX2 3 objectInit, Cond.instanceMethod yX0_init, Cond.code yX0_init cX0_init 1 none, Cond.methodLink RX0 3 objectInit, Cond.classLink RX0 9 RX1, Cond.instantiable RX1 3, Cond.initialized RX1, Cond.fieldLink RX0 12 "LeaseDesk$Lock" "row" "LLeaseDesk$Row;", Cond.fieldLink RX0 18 "LeaseDesk$Lock" "holder" "I", Cond.instanceMethod yX1_init, Cond.code yX1_init cX1_init 1 none, Cond.methodLink RX1 3 objectInit, Cond.arrayClass .int, Cond.fieldLink RX1 9 "LeaseDesk$Row" "slots" "[I", Cond.fieldLink RX1 15 "LeaseDesk$Row" "terms" "[I", Cond.methodLink RL 38 yX4_init, Cond.instanceMethod yX4_init, Cond.code yX4_init cX4_init 1 none, Cond.methodLink RX4 1 objectInit, Cond.arrayClass .boolean, Cond.fieldLink RX4 9 "LeaseDeskModel" "there" "[Z", Cond.fieldLink RX4 13 "LeaseDeskModel" "signed" "[I", Cond.fieldLink RX4 17 "LeaseDeskModel" "rates" "[I", Cond.fieldLink RX4 20 "LeaseDeskModel" "clocks" "[I"]
def wsL_law0_r3 : List Cond := [Cond.fieldLink RX4 23 "LeaseDeskModel" "has" "[I", Cond.fieldLink RX4 26 "LeaseDeskModel" "tokens" "[I", Cond.fieldLink RX4 29 "LeaseDeskModel" "ends" "[I", Cond.fieldLink RX4 32 "LeaseDeskModel" "terms" "[I", Cond.fieldLink RX4 35 "LeaseDeskModel" "starts" "[I", Cond.fieldLink RX4 38 "LeaseDeskModel" "wishes" "[I", Cond.fieldLink RX4 41 "LeaseDeskModel" "wished" "[I", Cond.fieldLink RX4 44 "LeaseDeskModel" "greatest" "[I", Cond.fieldLink RX4 47 "LeaseDeskModel" "values" "[I", Cond.methodLink RL 39 yL_open, Cond.static yL_open, Cond.initialized RL, Cond.codeWith yL_open cL_open 3 (some .int) [(0, 8, 11, 13)], Cond.classLink RL 13 "java/lang/IllegalStateException", Cond.methodLink RL 7 yX3_open, Cond.instanceMethod yX3_open, Cond.selects RX3 yX3_open yX3_open, Cond.code yX3_open cX3_open 2 (some .int), Cond.classLink RX3 35 "java/lang/IllegalStateException", Cond.initialized "java/lang/IllegalStateException", Cond.fieldLink RX3 27 "LeaseDesk$Session" "isOpen" "Z", Cond.methodLink RX3 31 yX2_begin, Cond.instanceMethod yX2_begin, Cond.selects RX2 yX2_begin yX2_begin]
def wsL_law0_r4 : List Cond := [Cond.code yX2_begin cX2_begin 2 none, Cond.fieldLink RX2 9 "LeaseDesk$Session" "isOpen" "Z", Cond.fieldLink RX2 15 "LeaseDesk$Session" "sign" "I", Cond.fieldLink RX2 19 "LeaseDesk$Session" "rate" "I", Cond.fieldLink RX2 22 "LeaseDesk$Session" "clock" "I", Cond.methodLink RL 44 yX4_open, Cond.instanceMethod yX4_open, Cond.selects RX4 yX4_open yX4_open, Cond.code yX4_open cX4_open 2 (some .int), Cond.fieldLink RX4 54 "LeaseDeskModel" "time" "I", Cond.fieldLink RX4 50 "LeaseDeskModel" "thrown" "I", Cond.methodLink RL 45 yX4_thrown, Cond.instanceMethod yX4_thrown, Cond.selects RX4 yX4_thrown yX4_thrown, Cond.code yX4_thrown cX4_thrown 1 (some .int), Cond.methodLink RL 48 yL_close, Cond.static yL_close, Cond.codeWith yL_close cL_close 4 (some .int) [(0, 9, 12, 19)], Cond.classLink RL 19 "java/util/NoSuchElementException", Cond.methodLink RL 15 yX3_close, Cond.instanceMethod yX3_close, Cond.selects RX3 yX3_close yX3_close, Cond.code yX3_close cX3_close 2 (some .int), Cond.methodLink RX3 42 yX3_requireSession]
def wsL_law0_r5 : List Cond := [Cond.instanceMethod yX3_requireSession, Cond.selects RX3 yX3_requireSession yX3_requireSession, Cond.code yX3_requireSession cX3_requireSession 3 (some (.object "LeaseDesk$Session")), Cond.classLink RX3 141 "java/util/NoSuchElementException", Cond.initialized "java/util/NoSuchElementException", Cond.methodLink RX3 53 yX3_openSession, Cond.instanceMethod yX3_openSession, Cond.selects RX3 yX3_openSession yX3_openSession, Cond.code yX3_openSession cX3_openSession 2 (some (.object "LeaseDesk$Session")), Cond.methodLink RX3 46 yX3_endSession, Cond.instanceMethod yX3_endSession, Cond.selects RX3 yX3_endSession yX3_endSession, Cond.code yX3_endSession cX3_endSession 8 (some .int), Cond.fieldLink RX3 99 "LeaseDesk$Lock" "row" "LLeaseDesk$Row;", Cond.fieldLink RX3 78 "LeaseDesk$Lock" "holder" "I", Cond.methodLink RX3 118 yX1_drop, Cond.instanceMethod yX1_drop, Cond.selects RX1 yX1_drop yX1_drop, Cond.code yX1_drop cX1_drop 4 (some .boolean), Cond.fieldLink RX1 26 "LeaseDesk$Row" "length" "I", Cond.methodLink RX1 22 yX1_placeOf, Cond.instanceMethod yX1_placeOf, Cond.selects RX1 yX1_placeOf yX1_placeOf, Cond.code yX1_placeOf cX1_placeOf 3 (some .int)]
def wsL_law0_r6 : List Cond := [Cond.methodLink RX3 111 yX3_passOn, Cond.instanceMethod yX3_passOn, Cond.selects RX3 yX3_passOn yX3_passOn, Cond.code yX3_passOn cX3_passOn 4 none, Cond.methodLink RX3 125 yX1_slotAt, Cond.instanceMethod yX1_slotAt, Cond.selects RX1 yX1_slotAt yX1_slotAt, Cond.code yX1_slotAt cX1_slotAt 2 (some .int), Cond.methodLink RX1 18 yX1_isTaken, Cond.instanceMethod yX1_isTaken, Cond.selects RX1 yX1_isTaken yX1_isTaken, Cond.code yX1_isTaken cX1_isTaken 2 (some .boolean), Cond.methodLink RX3 148 yX1_termAt, Cond.instanceMethod yX1_termAt, Cond.selects RX1 yX1_termAt yX1_termAt, Cond.code yX1_termAt cX1_termAt 2 (some .int), Cond.methodLink RX3 151 yX3_clock, Cond.instanceMethod yX3_clock, Cond.selects RX3 yX3_clock yX3_clock, Cond.code yX3_clock cX3_clock 3 (some .int), Cond.fieldLink RX3 81 "LeaseDesk$Session" "clock" "I", Cond.methodLink RX3 95 yX0_lend, Cond.instanceMethod yX0_lend, Cond.selects RX0 yX0_lend yX0_lend]
def wsL_law0_r7 : List Cond := [Cond.code yX0_lend cX0_lend 5 none, Cond.fieldLink RX0 22 "LeaseDesk$Lock" "token" "I", Cond.methodLink RX0 25 yX0_runFrom, Cond.instanceMethod yX0_runFrom, Cond.selects RX0 yX0_runFrom yX0_runFrom, Cond.code yX0_runFrom cX0_runFrom 4 none, Cond.fieldLink RX0 29 "LeaseDesk$Lock" "ends" "I", Cond.fieldLink RX0 32 "LeaseDesk$Lock" "term" "I", Cond.fieldLink RX0 35 "LeaseDesk$Lock" "start" "I", Cond.methodLink RL 51 yX4_close, Cond.instanceMethod yX4_close, Cond.selects RX4 yX4_close yX4_close, Cond.code yX4_close cX4_close 2 (some .int), Cond.methodLink RX4 69 yX4_isOpen, Cond.instanceMethod yX4_isOpen, Cond.selects RX4 yX4_isOpen yX4_isOpen, Cond.code yX4_isOpen cX4_isOpen 2 (some .boolean), Cond.methodLink RX4 73 yX4_gone, Cond.instanceMethod yX4_gone, Cond.selects RX4 yX4_gone yX4_gone, Cond.code yX4_gone cX4_gone 4 (some .int), Cond.methodLink RX4 65 yX4_over, Cond.instanceMethod yX4_over, Cond.selects RX4 yX4_over yX4_over]
def wsL_law0_r8 : List Cond := [Cond.code yX4_over cX4_over 3 none, Cond.methodLink RX4 57 yX4_inRow, Cond.instanceMethod yX4_inRow, Cond.selects RX4 yX4_inRow yX4_inRow, Cond.code yX4_inRow cX4_inRow 7 (some .int), Cond.methodLink RX4 61 yX4_lend, Cond.instanceMethod yX4_lend, Cond.selects RX4 yX4_lend yX4_lend, Cond.code yX4_lend cX4_lend 4 none, Cond.methodLink RL 52 yL_keep, Cond.static yL_keep, Cond.codeWith yL_keep cL_keep 3 (some .int) [(0, 5, 8, 19)], Cond.methodLink RL 21 yX3_keep, Cond.instanceMethod yX3_keep, Cond.selects RX3 yX3_keep yX3_keep, Cond.code yX3_keep cX3_keep 2 none, Cond.fieldLink RX3 50 "LeaseDesk$Session" "sign" "I", Cond.methodLink RL 55 yX4_keep, Cond.instanceMethod yX4_keep, Cond.selects RX4 yX4_keep yX4_keep, Cond.code yX4_keep cX4_keep 2 none, Cond.methodLink RL 56 yX3_rate, Cond.instanceMethod yX3_rate, Cond.selects RX3 yX3_rate yX3_rate]
def wsL_law0_r9 : List Cond := [Cond.code yX3_rate cX3_rate 4 (some .boolean), Cond.fieldLink RX3 56 "LeaseDesk$Session" "rate" "I", Cond.methodLink RL 60 yX4_rate, Cond.instanceMethod yX4_rate, Cond.selects RX4 yX4_rate yX4_rate, Cond.code yX4_rate cX4_rate 3 (some .boolean), Cond.methodLink RL 61 yX3_tick, Cond.instanceMethod yX3_tick, Cond.selects RX3 yX3_tick yX3_tick, Cond.code yX3_tick cX3_tick 3 (some .int), Cond.methodLink RX3 59 yX3_moveClocks, Cond.instanceMethod yX3_moveClocks, Cond.selects RX3 yX3_moveClocks yX3_moveClocks, Cond.code yX3_moveClocks cX3_moveClocks 6 none, Cond.methodLink RX3 62 yX3_endSilentSessions, Cond.instanceMethod yX3_endSilentSessions, Cond.selects RX3 yX3_endSilentSessions yX3_endSilentSessions, Cond.code yX3_endSilentSessions cX3_endSilentSessions 4 (some .int), Cond.methodLink RX3 66 yX3_passOnLeasesDue, Cond.instanceMethod yX3_passOnLeasesDue, Cond.selects RX3 yX3_passOnLeasesDue yX3_passOnLeasesDue, Cond.code yX3_passOnLeasesDue cX3_passOnLeasesDue 6 (some .int), Cond.fieldLink RX3 122 "LeaseDesk$Lock" "ends" "I", Cond.methodLink RX3 91 yX0_isFree]
def wsL_law0_r10 : List Cond := [Cond.instanceMethod yX0_isFree, Cond.selects RX0 yX0_isFree yX0_isFree, Cond.code yX0_isFree cX0_isFree 1 (some .boolean), Cond.methodLink RL 64 yX4_tick, Cond.instanceMethod yX4_tick, Cond.selects RX4 yX4_tick yX4_tick, Cond.code yX4_tick cX4_tick 4 (some .int), Cond.methodLink RL 65 yL_acquire, Cond.static yL_acquire, Cond.codeWith yL_acquire cL_acquire 6 (some .int) [(0, 12, 15, 19), (0, 12, 19, 29)], Cond.classLink RL 29 "java/lang/IllegalArgumentException", Cond.methodLink RL 25 yX3_acquire, Cond.instanceMethod yX3_acquire, Cond.selects RX3 yX3_acquire yX3_acquire, Cond.code yX3_acquire cX3_acquire 6 (some .int), Cond.classLink RX3 73 "java/lang/IllegalArgumentException", Cond.initialized "java/lang/IllegalArgumentException", Cond.fieldLink RX3 88 "LeaseDesk$Lock" "token" "I", Cond.methodLink RX3 69 yX3_requireLock, Cond.instanceMethod yX3_requireLock, Cond.selects RX3 yX3_requireLock yX3_requireLock, Cond.code yX3_requireLock cX3_requireLock 3 (some (.object "LeaseDesk$Lock")), Cond.methodLink RX3 115 yX3_knownLock, Cond.instanceMethod yX3_knownLock]
def wsL_law0_r11 : List Cond := [Cond.selects RX3 yX3_knownLock yX3_knownLock, Cond.code yX3_knownLock cX3_knownLock 2 (some (.object "LeaseDesk$Lock")), Cond.methodLink RX3 84 yX0_renew, Cond.instanceMethod yX0_renew, Cond.selects RX0 yX0_renew yX0_renew, Cond.code yX0_renew cX0_renew 4 none, Cond.methodLink RX3 103 yX1_ask, Cond.instanceMethod yX1_ask, Cond.selects RX1 yX1_ask yX1_ask, Cond.code yX1_ask cX1_ask 4 none, Cond.methodLink RL 68 yX4_acquire, Cond.instanceMethod yX4_acquire, Cond.selects RX4 yX4_acquire yX4_acquire, Cond.code yX4_acquire cX4_acquire 5 (some .int), Cond.fieldLink RX4 80 "LeaseDeskModel" "numbers" "I", Cond.methodLink RX4 77 yX4_isLock, Cond.static yX4_isLock, Cond.code yX4_isLock cX4_isLock 1 (some .boolean), Cond.methodLink RL 69 yL_release, Cond.static yL_release, Cond.codeWith yL_release cL_release 4 (some .int) [(0, 6, 9, 19), (0, 6, 12, 29), (0, 6, 15, 13)], Cond.methodLink RL 31 yX3_release, Cond.instanceMethod yX3_release, Cond.selects RX3 yX3_release yX3_release]
def wsL_law0_r12 : List Cond := [Cond.code yX3_release cX3_release 4 none, Cond.methodLink RL 72 yX4_release, Cond.instanceMethod yX4_release, Cond.selects RX4 yX4_release yX4_release, Cond.code yX4_release cX4_release 3 none, Cond.methodLink RL 73 yX3_cancel, Cond.instanceMethod yX3_cancel, Cond.selects RX3 yX3_cancel yX3_cancel, Cond.code yX3_cancel cX3_cancel 4 (some .boolean), Cond.methodLink RL 76 yX4_cancel, Cond.instanceMethod yX4_cancel, Cond.selects RX4 yX4_cancel yX4_cancel, Cond.code yX4_cancel cX4_cancel 3 (some .boolean), Cond.methodLink RL 77 yX3_holder, Cond.instanceMethod yX3_holder, Cond.selects RX3 yX3_holder yX3_holder, Cond.code yX3_holder cX3_holder 3 (some .int), Cond.methodLink RL 80 yX4_holder, Cond.instanceMethod yX4_holder, Cond.selects RX4 yX4_holder yX4_holder, Cond.code yX4_holder cX4_holder 2 (some .int), Cond.methodLink RL 81 yX3_token, Cond.instanceMethod yX3_token, Cond.selects RX3 yX3_token yX3_token]
def wsL_law0_r13 : List Cond := [Cond.code yX3_token cX3_token 3 (some .int), Cond.methodLink RL 84 yX4_token, Cond.instanceMethod yX4_token, Cond.selects RX4 yX4_token yX4_token, Cond.code yX4_token cX4_token 2 (some .int), Cond.methodLink RL 85 yX3_until, Cond.instanceMethod yX3_until, Cond.selects RX3 yX3_until yX3_until, Cond.code yX3_until cX3_until 3 (some .int), Cond.methodLink RL 88 yX4_until, Cond.instanceMethod yX4_until, Cond.selects RX4 yX4_until yX4_until, Cond.code yX4_until cX4_until 2 (some .int), Cond.methodLink RL 89 yX3_waiter, Cond.instanceMethod yX3_waiter, Cond.selects RX3 yX3_waiter yX3_waiter, Cond.code yX3_waiter cX3_waiter 4 (some .int), Cond.methodLink RL 93 yX4_waiter, Cond.instanceMethod yX4_waiter, Cond.selects RX4 yX4_waiter yX4_waiter, Cond.code yX4_waiter cX4_waiter 3 (some .int), Cond.methodLink RL 94 yX3_time, Cond.instanceMethod yX3_time, Cond.selects RX3 yX3_time yX3_time]
def wsL_law0_r14 : List Cond := [Cond.code yX3_time cX3_time 1 (some .int), Cond.methodLink RL 97 yX4_time, Cond.instanceMethod yX4_time, Cond.selects RX4 yX4_time yX4_time, Cond.code yX4_time cX4_time 1 (some .int), Cond.methodLink RL 98 yX3_clock, Cond.methodLink RL 101 yX4_clock, Cond.instanceMethod yX4_clock, Cond.selects RX4 yX4_clock yX4_clock, Cond.code yX4_clock cX4_clock 2 (some .int), Cond.methodLink RL 102 yX3_believes, Cond.instanceMethod yX3_believes, Cond.selects RX3 yX3_believes yX3_believes, Cond.code yX3_believes cX3_believes 5 (some .boolean), Cond.fieldLink RX3 129 "LeaseDesk$Lock" "start" "I", Cond.fieldLink RX3 132 "LeaseDesk$Lock" "term" "I", Cond.methodLink RL 105 yX4_believes, Cond.instanceMethod yX4_believes, Cond.selects RX4 yX4_believes yX4_believes, Cond.code yX4_believes cX4_believes 3 (some .boolean), Cond.methodLink RL 106 yX3_write, Cond.instanceMethod yX3_write, Cond.selects RX3 yX3_write yX3_write, Cond.code yX3_write cX3_write 5 (some .boolean)]
def wsL_law0_r15 : List Cond := [Cond.fieldLink RX3 135 "LeaseDesk$Lock" "seenToken" "I", Cond.fieldLink RX3 138 "LeaseDesk$Lock" "value" "I", Cond.methodLink RL 110 yX4_write, Cond.instanceMethod yX4_write, Cond.selects RX4 yX4_write yX4_write, Cond.code yX4_write cX4_write 4 (some .boolean), Cond.methodLink RL 111 yX3_stored, Cond.instanceMethod yX3_stored, Cond.selects RX3 yX3_stored yX3_stored, Cond.code yX3_stored cX3_stored 3 (some .int), Cond.methodLink RL 114 yX4_stored, Cond.instanceMethod yX4_stored, Cond.selects RX4 yX4_stored yX4_stored, Cond.code yX4_stored cX4_stored 2 (some .int), Cond.methodLink RL 115 yX3_seen, Cond.instanceMethod yX3_seen, Cond.selects RX3 yX3_seen yX3_seen, Cond.code yX3_seen cX3_seen 3 (some .int), Cond.methodLink RL 118 yX4_seen, Cond.instanceMethod yX4_seen, Cond.selects RX4 yX4_seen yX4_seen, Cond.code yX4_seen cX4_seen 2 (some .int)]
def wsL_law0 : List Cond := (wsL_law0_r1 ++ (wsL_law0_r2 ++ (wsL_law0_r3 ++ (wsL_law0_r4 ++ (wsL_law0_r5 ++ (wsL_law0_r6 ++ (wsL_law0_r7 ++ (wsL_law0_r8 ++ (wsL_law0_r9 ++ (wsL_law0_r10 ++ (wsL_law0_r11 ++ (wsL_law0_r12 ++ (wsL_law0_r13 ++ (wsL_law0_r14 ++ wsL_law0_r15)))))))))))))) ++ wsX30 ++ wsX40 ++ wsX20 ++ wsX00 ++ wsX10 ++ ([] : List Cond)
def wsL_law : List Cond := wsL_law0 ++ (vx_atS RX3 39 "java/lang/IllegalStateException" ["java/lang/RuntimeException", "java/lang/Exception"]).filter goodWord ++ (nse_at).filter goodWord ++ (vx_atS RX3 77 "java/lang/IllegalArgumentException" ["java/lang/RuntimeException", "java/lang/Exception"]).filter goodWord
set_option maxRecDepth 20000 in
theorem wsL_law_in0 : ∀ w ∈ wsL_law0, w ∈ lw_tbl := fun w h => (goodIn_p wsL_law0 [34, 37, 43, 67, 73, 404, 247, 251, 463, 459, 327, 331, 134, 150, 154, 158, 162, 166, 170, 174, 178, 182, 186, 467, 471, 475, 479, 483, 487, 354, 491, 130, 495, 138, 142, 146, 190, 194, 499, 362, 366, 202, 387, 391, 503, 506, 398, 510, 198, 514, 206, 518, 210, 522, 214, 526, 218, 530, 222, 534, 538, 227, 542, 231, 546, 235, 550, 239, 554] (by decide +kernel) (by decide +kernel) w h).1
theorem wsL_law_x0 : ∀ w ∈ (vx_atS RX3 39 "java/lang/IllegalStateException" ["java/lang/RuntimeException", "java/lang/Exception"]).filter goodWord, w ∈ lw_tbl := by decide +kernel
theorem wsL_law_x1 : ∀ w ∈ (nse_at).filter goodWord, w ∈ lw_tbl := by decide +kernel
theorem wsL_law_x2 : ∀ w ∈ (vx_atS RX3 77 "java/lang/IllegalArgumentException" ["java/lang/RuntimeException", "java/lang/Exception"]).filter goodWord, w ∈ lw_tbl := by decide +kernel
theorem wsL_law_in : ∀ w ∈ wsL_law, w ∈ lw_tbl := fun w h => (List.mem_append.mp h).elim (fun h => (List.mem_append.mp h).elim (fun h => (List.mem_append.mp h).elim (fun h => wsL_law_in0 w h) (fun h => wsL_law_x0 w h)) (fun h => wsL_law_x1 w h)) (fun h => wsL_law_x2 w h)
theorem inlX0 : ∀ w ∈ wsX00, w ∈ wsL_law := fun _ h => List.mem_append_left _ (List.mem_append_left _ (List.mem_append_left _ (List.mem_append_left _ (List.mem_append_left _ (List.mem_append_right _ h)))))
theorem inX0 : ∀ w ∈ wsX00, w ∈ lw_tbl := fun w h => wsL_law_in w (inlX0 w h)
theorem inlX1 : ∀ w ∈ wsX10, w ∈ wsL_law := fun _ h => List.mem_append_left _ (List.mem_append_left _ (List.mem_append_left _ (List.mem_append_left _ (List.mem_append_right _ h))))
theorem inX1 : ∀ w ∈ wsX10, w ∈ lw_tbl := fun w h => wsL_law_in w (inlX1 w h)
theorem inlX2 : ∀ w ∈ wsX20, w ∈ wsL_law := fun _ h => List.mem_append_left _ (List.mem_append_left _ (List.mem_append_left _ (List.mem_append_left _ (List.mem_append_left _ (List.mem_append_left _ (List.mem_append_right _ h))))))
theorem inX2 : ∀ w ∈ wsX20, w ∈ lw_tbl := fun w h => wsL_law_in w (inlX2 w h)
theorem inlX3 : ∀ w ∈ wsX30, w ∈ wsL_law := fun _ h => List.mem_append_left _ (List.mem_append_left _ (List.mem_append_left _ (List.mem_append_left _ (List.mem_append_left _ (List.mem_append_left _ (List.mem_append_left _ (List.mem_append_left _ (List.mem_append_right _ h))))))))
theorem inX3 : ∀ w ∈ wsX30, w ∈ lw_tbl := fun w h => wsL_law_in w (inlX3 w h)
theorem inlX4 : ∀ w ∈ wsX40, w ∈ wsL_law := fun _ h => List.mem_append_left _ (List.mem_append_left _ (List.mem_append_left _ (List.mem_append_left _ (List.mem_append_left _ (List.mem_append_left _ (List.mem_append_left _ (List.mem_append_right _ h)))))))
theorem inX4 : ∀ w ∈ wsX40, w ∈ lw_tbl := fun w h => wsL_law_in w (inlX4 w h)
theorem inJ0 : ∀ w ∈ wsJ00, w ∈ lw_tbl := by decide +kernel
abbrev vwCl : List vw_C := [(RX0, TX0, 8), (RX1, TX1, 3), (RX2, TX2, 4), (RX3, TX3, 3), (RX4, TX4, 16)]
end
section
set_option maxRecDepth 20000 in
theorem ggX0_init_X1_init : GoodIn wsX0_init wsX1_init := goodIn_r _ [10, 11, 2, 3, 12, 13, 14, 15, 16, 17] (by decide +kernel) (by decide +kernel)
set_option maxRecDepth 20000 in
theorem gX0_init_X1_init_n11 : GoodIn wsX0_init (wsX1_init) := ggX0_init_X1_init
theorem dX0_init_0 : decode cX0_init 0 = .ok (.aload_n 0, 1) := by decide +kernel
theorem dX0_init_1 : decode cX0_init 1 = .ok (.invokespecial 3, 3) := by decide +kernel
theorem dX0_init_4 : decode cX0_init 4 = .ok (.aload_n 0, 1) := by decide +kernel
theorem dX0_init_5 : decode cX0_init 5 = .ok (.new 9, 3) := by decide +kernel
theorem dX0_init_8 : decode cX0_init 8 = .ok (.dup, 1) := by decide +kernel
theorem dX0_init_9 : decode cX0_init 9 = .ok (.invokespecial 11, 3) := by decide +kernel
theorem dX0_init_12 : decode cX0_init 12 = .ok (.putfield 12, 3) := by decide +kernel
theorem dX0_init_15 : decode cX0_init 15 = .ok (.aload_n 0, 1) := by decide +kernel
theorem dX0_init_16 : decode cX0_init 16 = .ok (.iconst (-1), 1) := by decide +kernel
theorem dX0_init_17 : decode cX0_init 17 = .ok (.putfield 18, 3) := by decide +kernel
theorem dX0_init_20 : decode cX0_init 20 = .ok (.return_, 1) := by decide +kernel
theorem dX0_isFree_0 : decode cX0_isFree 0 = .ok (.aload_n 0, 1) := by decide +kernel
theorem dX0_isFree_1 : decode cX0_isFree 1 = .ok (.getfield 18, 3) := by decide +kernel
theorem dX0_isFree_4 : decode cX0_isFree 4 = .ok (.iconst (-1), 1) := by decide +kernel
theorem dX0_isFree_5 : decode cX0_isFree 5 = .ok (.if_icmp .ne 7, 3) := by decide +kernel
theorem dX0_isFree_8 : decode cX0_isFree 8 = .ok (.iconst 1, 1) := by decide +kernel
theorem dX0_isFree_9 : decode cX0_isFree 9 = .ok (.goto 4, 3) := by decide +kernel
theorem dX0_isFree_12 : decode cX0_isFree 12 = .ok (.iconst 0, 1) := by decide +kernel
theorem dX0_isFree_13 : decode cX0_isFree 13 = .ok (.ireturn, 1) := by decide +kernel
set_option maxRecDepth 20000 in
theorem ggX0_lend_X0_runFrom : GoodIn wsX0_lend wsX0_runFrom := goodIn_r _ [7, 8, 9, 10, 11, 12, 13, 14, 15, 16, 17, 18] (by decide +kernel) (by decide +kernel)
set_option maxRecDepth 20000 in
theorem gX0_lend_X0_runFrom : GoodIn wsX0_lend (wsV RX0 25 RX0 yX0_runFrom wsX0_runFrom) := goodIn_app (goodIn_of _ (by decide +kernel)) ggX0_lend_X0_runFrom
theorem dX0_lend_0 : decode cX0_lend 0 = .ok (.aload_n 0, 1) := by decide +kernel
theorem dX0_lend_1 : decode cX0_lend 1 = .ok (.iload_n 1, 1) := by decide +kernel
theorem dX0_lend_2 : decode cX0_lend 2 = .ok (.putfield 18, 3) := by decide +kernel
theorem dX0_lend_5 : decode cX0_lend 5 = .ok (.aload_n 0, 1) := by decide +kernel
theorem dX0_lend_6 : decode cX0_lend 6 = .ok (.dup, 1) := by decide +kernel
theorem dX0_lend_7 : decode cX0_lend 7 = .ok (.getfield 22, 3) := by decide +kernel
theorem dX0_lend_10 : decode cX0_lend 10 = .ok (.iconst 1, 1) := by decide +kernel
theorem dX0_lend_11 : decode cX0_lend 11 = .ok (.iadd, 1) := by decide +kernel
theorem dX0_lend_12 : decode cX0_lend 12 = .ok (.putfield 22, 3) := by decide +kernel
theorem dX0_lend_15 : decode cX0_lend 15 = .ok (.aload_n 0, 1) := by decide +kernel
theorem dX0_lend_16 : decode cX0_lend 16 = .ok (.iload_n 3, 1) := by decide +kernel
theorem dX0_lend_17 : decode cX0_lend 17 = .ok (.iload_n 2, 1) := by decide +kernel
theorem dX0_lend_18 : decode cX0_lend 18 = .ok (.iload 4, 2) := by decide +kernel
theorem dX0_lend_20 : decode cX0_lend 20 = .ok (.invokevirtual 25, 3) := by decide +kernel
theorem dX0_lend_23 : decode cX0_lend 23 = .ok (.return_, 1) := by decide +kernel
set_option maxRecDepth 20000 in
theorem ggX0_renew_X0_runFrom : GoodIn wsX0_renew wsX0_runFrom := goodIn_r _ [6, 1, 7, 8, 9, 10, 11, 12, 13, 14, 15, 16] (by decide +kernel) (by decide +kernel)
set_option maxRecDepth 20000 in
theorem gX0_renew_X0_runFrom : GoodIn wsX0_renew (wsV RX0 25 RX0 yX0_runFrom wsX0_runFrom) := goodIn_app (goodIn_of _ (by decide +kernel)) ggX0_renew_X0_runFrom
theorem dX0_renew_0 : decode cX0_renew 0 = .ok (.iload_n 2, 1) := by decide +kernel
theorem dX0_renew_1 : decode cX0_renew 1 = .ok (.iload_n 1, 1) := by decide +kernel
theorem dX0_renew_2 : decode cX0_renew 2 = .ok (.iadd, 1) := by decide +kernel
theorem dX0_renew_3 : decode cX0_renew 3 = .ok (.aload_n 0, 1) := by decide +kernel
theorem dX0_renew_4 : decode cX0_renew 4 = .ok (.getfield 29, 3) := by decide +kernel
theorem dX0_renew_7 : decode cX0_renew 7 = .ok (.if_icmp .le 10, 3) := by decide +kernel
theorem dX0_renew_10 : decode cX0_renew 10 = .ok (.aload_n 0, 1) := by decide +kernel
theorem dX0_renew_11 : decode cX0_renew 11 = .ok (.iload_n 2, 1) := by decide +kernel
theorem dX0_renew_12 : decode cX0_renew 12 = .ok (.iload_n 1, 1) := by decide +kernel
theorem dX0_renew_13 : decode cX0_renew 13 = .ok (.iload_n 3, 1) := by decide +kernel
theorem dX0_renew_14 : decode cX0_renew 14 = .ok (.invokevirtual 25, 3) := by decide +kernel
theorem dX0_renew_17 : decode cX0_renew 17 = .ok (.return_, 1) := by decide +kernel
theorem dX0_runFrom_0 : decode cX0_runFrom 0 = .ok (.aload_n 0, 1) := by decide +kernel
theorem dX0_runFrom_1 : decode cX0_runFrom 1 = .ok (.iload_n 1, 1) := by decide +kernel
theorem dX0_runFrom_2 : decode cX0_runFrom 2 = .ok (.iload_n 2, 1) := by decide +kernel
theorem dX0_runFrom_3 : decode cX0_runFrom 3 = .ok (.iadd, 1) := by decide +kernel
theorem dX0_runFrom_4 : decode cX0_runFrom 4 = .ok (.putfield 29, 3) := by decide +kernel
theorem dX0_runFrom_7 : decode cX0_runFrom 7 = .ok (.aload_n 0, 1) := by decide +kernel
theorem dX0_runFrom_8 : decode cX0_runFrom 8 = .ok (.iload_n 2, 1) := by decide +kernel
theorem dX0_runFrom_9 : decode cX0_runFrom 9 = .ok (.putfield 32, 3) := by decide +kernel
theorem dX0_runFrom_12 : decode cX0_runFrom 12 = .ok (.aload_n 0, 1) := by decide +kernel
theorem dX0_runFrom_13 : decode cX0_runFrom 13 = .ok (.iload_n 3, 1) := by decide +kernel
theorem dX0_runFrom_14 : decode cX0_runFrom 14 = .ok (.putfield 35, 3) := by decide +kernel
theorem dX0_runFrom_17 : decode cX0_runFrom 17 = .ok (.return_, 1) := by decide +kernel
theorem dX1_init_0 : decode cX1_init 0 = .ok (.aload_n 0, 1) := by decide +kernel
theorem dX1_init_1 : decode cX1_init 1 = .ok (.invokespecial 3, 3) := by decide +kernel
theorem dX1_init_4 : decode cX1_init 4 = .ok (.aload_n 0, 1) := by decide +kernel
theorem dX1_init_5 : decode cX1_init 5 = .ok (.bipush 6, 2) := by decide +kernel
theorem dX1_init_7 : decode cX1_init 7 = .ok (.newarray .int, 2) := by decide +kernel
theorem dX1_init_9 : decode cX1_init 9 = .ok (.putfield 9, 3) := by decide +kernel
theorem dX1_init_12 : decode cX1_init 12 = .ok (.aload_n 0, 1) := by decide +kernel
theorem dX1_init_13 : decode cX1_init 13 = .ok (.bipush 6, 2) := by decide +kernel
theorem dX1_init_15 : decode cX1_init 15 = .ok (.newarray .int, 2) := by decide +kernel
theorem dX1_init_17 : decode cX1_init 17 = .ok (.putfield 15, 3) := by decide +kernel
theorem dX1_init_20 : decode cX1_init 20 = .ok (.return_, 1) := by decide +kernel
set_option maxRecDepth 20000 in
theorem ggX1_slotAt_X1_isTaken : GoodIn wsX1_slotAt wsX1_isTaken := goodIn_r _ [6, 7, 8, 9, 10] (by decide +kernel) (by decide +kernel)
set_option maxRecDepth 20000 in
theorem gX1_slotAt_X1_isTaken : GoodIn wsX1_slotAt (wsV RX1 18 RX1 yX1_isTaken wsX1_isTaken) := goodIn_app (goodIn_of _ (by decide +kernel)) ggX1_slotAt_X1_isTaken
theorem dX1_slotAt_0 : decode cX1_slotAt 0 = .ok (.aload_n 0, 1) := by decide +kernel
theorem dX1_slotAt_1 : decode cX1_slotAt 1 = .ok (.iload_n 1, 1) := by decide +kernel
theorem dX1_slotAt_2 : decode cX1_slotAt 2 = .ok (.invokevirtual 18, 3) := by decide +kernel
theorem dX1_slotAt_5 : decode cX1_slotAt 5 = .ok (.ifCond .eq 12, 3) := by decide +kernel
theorem dX1_slotAt_8 : decode cX1_slotAt 8 = .ok (.aload_n 0, 1) := by decide +kernel
theorem dX1_slotAt_9 : decode cX1_slotAt 9 = .ok (.getfield 9, 3) := by decide +kernel
theorem dX1_slotAt_12 : decode cX1_slotAt 12 = .ok (.iload_n 1, 1) := by decide +kernel
theorem dX1_slotAt_13 : decode cX1_slotAt 13 = .ok (.iaload, 1) := by decide +kernel
theorem dX1_slotAt_14 : decode cX1_slotAt 14 = .ok (.goto 4, 3) := by decide +kernel
theorem dX1_slotAt_17 : decode cX1_slotAt 17 = .ok (.iconst (-1), 1) := by decide +kernel
theorem dX1_slotAt_18 : decode cX1_slotAt 18 = .ok (.ireturn, 1) := by decide +kernel
set_option maxRecDepth 20000 in
theorem ggX1_termAt_X1_isTaken : GoodIn wsX1_termAt wsX1_isTaken := goodIn_r _ [6, 7, 8, 9, 10] (by decide +kernel) (by decide +kernel)
set_option maxRecDepth 20000 in
theorem gX1_termAt_X1_isTaken : GoodIn wsX1_termAt (wsV RX1 18 RX1 yX1_isTaken wsX1_isTaken) := goodIn_app (goodIn_of _ (by decide +kernel)) ggX1_termAt_X1_isTaken
theorem dX1_termAt_0 : decode cX1_termAt 0 = .ok (.aload_n 0, 1) := by decide +kernel
theorem dX1_termAt_1 : decode cX1_termAt 1 = .ok (.iload_n 1, 1) := by decide +kernel
theorem dX1_termAt_2 : decode cX1_termAt 2 = .ok (.invokevirtual 18, 3) := by decide +kernel
theorem dX1_termAt_5 : decode cX1_termAt 5 = .ok (.ifCond .eq 12, 3) := by decide +kernel
theorem dX1_termAt_8 : decode cX1_termAt 8 = .ok (.aload_n 0, 1) := by decide +kernel
theorem dX1_termAt_9 : decode cX1_termAt 9 = .ok (.getfield 15, 3) := by decide +kernel
theorem dX1_termAt_12 : decode cX1_termAt 12 = .ok (.iload_n 1, 1) := by decide +kernel
theorem dX1_termAt_13 : decode cX1_termAt 13 = .ok (.iaload, 1) := by decide +kernel
theorem dX1_termAt_14 : decode cX1_termAt 14 = .ok (.goto 4, 3) := by decide +kernel
theorem dX1_termAt_17 : decode cX1_termAt 17 = .ok (.iconst 0, 1) := by decide +kernel
theorem dX1_termAt_18 : decode cX1_termAt 18 = .ok (.ireturn, 1) := by decide +kernel
set_option maxRecDepth 20000 in
theorem ggX1_ask_X1_placeOf : GoodIn wsX1_ask wsX1_placeOf := goodIn_r _ [8, 2, 3, 9, 10, 11] (by decide +kernel) (by decide +kernel)
set_option maxRecDepth 20000 in
theorem gX1_ask_X1_placeOf : GoodIn wsX1_ask (wsV RX1 22 RX1 yX1_placeOf wsX1_placeOf) := goodIn_app (goodIn_of _ (by decide +kernel)) ggX1_ask_X1_placeOf
theorem dX1_ask_0 : decode cX1_ask 0 = .ok (.aload_n 0, 1) := by decide +kernel
theorem dX1_ask_1 : decode cX1_ask 1 = .ok (.iload_n 1, 1) := by decide +kernel
theorem dX1_ask_2 : decode cX1_ask 2 = .ok (.invokevirtual 22, 3) := by decide +kernel
theorem dX1_ask_5 : decode cX1_ask 5 = .ok (.istore_n 3, 1) := by decide +kernel
theorem dX1_ask_6 : decode cX1_ask 6 = .ok (.iload_n 3, 1) := by decide +kernel
theorem dX1_ask_7 : decode cX1_ask 7 = .ok (.iconst (-1), 1) := by decide +kernel
theorem dX1_ask_8 : decode cX1_ask 8 = .ok (.if_icmp .eq 13, 3) := by decide +kernel
theorem dX1_ask_11 : decode cX1_ask 11 = .ok (.aload_n 0, 1) := by decide +kernel
theorem dX1_ask_12 : decode cX1_ask 12 = .ok (.getfield 15, 3) := by decide +kernel
theorem dX1_ask_15 : decode cX1_ask 15 = .ok (.iload_n 3, 1) := by decide +kernel
theorem dX1_ask_16 : decode cX1_ask 16 = .ok (.iload_n 2, 1) := by decide +kernel
theorem dX1_ask_17 : decode cX1_ask 17 = .ok (.iastore, 1) := by decide +kernel
theorem dX1_ask_18 : decode cX1_ask 18 = .ok (.goto 42, 3) := by decide +kernel
theorem dX1_ask_21 : decode cX1_ask 21 = .ok (.aload_n 0, 1) := by decide +kernel
theorem dX1_ask_22 : decode cX1_ask 22 = .ok (.getfield 26, 3) := by decide +kernel
theorem dX1_ask_25 : decode cX1_ask 25 = .ok (.bipush 6, 2) := by decide +kernel
theorem dX1_ask_27 : decode cX1_ask 27 = .ok (.if_icmp .ge 33, 3) := by decide +kernel
theorem dX1_ask_30 : decode cX1_ask 30 = .ok (.aload_n 0, 1) := by decide +kernel
theorem dX1_ask_31 : decode cX1_ask 31 = .ok (.getfield 9, 3) := by decide +kernel
theorem dX1_ask_34 : decode cX1_ask 34 = .ok (.aload_n 0, 1) := by decide +kernel
theorem dX1_ask_35 : decode cX1_ask 35 = .ok (.getfield 26, 3) := by decide +kernel
theorem dX1_ask_38 : decode cX1_ask 38 = .ok (.iload_n 1, 1) := by decide +kernel
theorem dX1_ask_39 : decode cX1_ask 39 = .ok (.iastore, 1) := by decide +kernel
theorem dX1_ask_40 : decode cX1_ask 40 = .ok (.aload_n 0, 1) := by decide +kernel
theorem dX1_ask_41 : decode cX1_ask 41 = .ok (.getfield 15, 3) := by decide +kernel
theorem dX1_ask_44 : decode cX1_ask 44 = .ok (.aload_n 0, 1) := by decide +kernel
theorem dX1_ask_45 : decode cX1_ask 45 = .ok (.getfield 26, 3) := by decide +kernel
theorem dX1_ask_48 : decode cX1_ask 48 = .ok (.iload_n 2, 1) := by decide +kernel
theorem dX1_ask_49 : decode cX1_ask 49 = .ok (.iastore, 1) := by decide +kernel
theorem dX1_ask_50 : decode cX1_ask 50 = .ok (.aload_n 0, 1) := by decide +kernel
theorem dX1_ask_51 : decode cX1_ask 51 = .ok (.dup, 1) := by decide +kernel
theorem dX1_ask_52 : decode cX1_ask 52 = .ok (.getfield 26, 3) := by decide +kernel
theorem dX1_ask_55 : decode cX1_ask 55 = .ok (.iconst 1, 1) := by decide +kernel
theorem dX1_ask_56 : decode cX1_ask 56 = .ok (.iadd, 1) := by decide +kernel
theorem dX1_ask_57 : decode cX1_ask 57 = .ok (.putfield 26, 3) := by decide +kernel
theorem dX1_ask_60 : decode cX1_ask 60 = .ok (.return_, 1) := by decide +kernel
set_option maxRecDepth 20000 in
theorem ggX1_drop_X1_placeOf : GoodIn wsX1_drop wsX1_placeOf := goodIn_r _ [8, 1, 2, 9, 10, 11] (by decide +kernel) (by decide +kernel)
set_option maxRecDepth 20000 in
theorem gX1_drop_X1_placeOf : GoodIn wsX1_drop (wsV RX1 22 RX1 yX1_placeOf wsX1_placeOf) := goodIn_app (goodIn_of _ (by decide +kernel)) ggX1_drop_X1_placeOf
theorem dX1_drop_0 : decode cX1_drop 0 = .ok (.aload_n 0, 1) := by decide +kernel
theorem dX1_drop_1 : decode cX1_drop 1 = .ok (.iload_n 1, 1) := by decide +kernel
theorem dX1_drop_2 : decode cX1_drop 2 = .ok (.invokevirtual 22, 3) := by decide +kernel
theorem dX1_drop_5 : decode cX1_drop 5 = .ok (.istore_n 2, 1) := by decide +kernel
theorem dX1_drop_6 : decode cX1_drop 6 = .ok (.iload_n 2, 1) := by decide +kernel
theorem dX1_drop_7 : decode cX1_drop 7 = .ok (.iconst (-1), 1) := by decide +kernel
theorem dX1_drop_8 : decode cX1_drop 8 = .ok (.if_icmp .ne 5, 3) := by decide +kernel
theorem dX1_drop_11 : decode cX1_drop 11 = .ok (.iconst 0, 1) := by decide +kernel
theorem dX1_drop_12 : decode cX1_drop 12 = .ok (.ireturn, 1) := by decide +kernel
theorem dX1_drop_13 : decode cX1_drop 13 = .ok (.aload_n 0, 1) := by decide +kernel
theorem dX1_drop_14 : decode cX1_drop 14 = .ok (.dup, 1) := by decide +kernel
theorem dX1_drop_15 : decode cX1_drop 15 = .ok (.getfield 26, 3) := by decide +kernel
theorem dX1_drop_18 : decode cX1_drop 18 = .ok (.iconst 1, 1) := by decide +kernel
theorem dX1_drop_19 : decode cX1_drop 19 = .ok (.isub, 1) := by decide +kernel
theorem dX1_drop_20 : decode cX1_drop 20 = .ok (.putfield 26, 3) := by decide +kernel
theorem dX1_drop_23 : decode cX1_drop 23 = .ok (.iload_n 2, 1) := by decide +kernel
theorem dX1_drop_24 : decode cX1_drop 24 = .ok (.istore_n 3, 1) := by decide +kernel
theorem dX1_drop_25 : decode cX1_drop 25 = .ok (.iload_n 3, 1) := by decide +kernel
theorem dX1_drop_26 : decode cX1_drop 26 = .ok (.aload_n 0, 1) := by decide +kernel
theorem dX1_drop_27 : decode cX1_drop 27 = .ok (.getfield 26, 3) := by decide +kernel
theorem dX1_drop_30 : decode cX1_drop 30 = .ok (.if_icmp .ge 37, 3) := by decide +kernel
theorem dX1_drop_33 : decode cX1_drop 33 = .ok (.aload_n 0, 1) := by decide +kernel
theorem dX1_drop_34 : decode cX1_drop 34 = .ok (.getfield 9, 3) := by decide +kernel
theorem dX1_drop_37 : decode cX1_drop 37 = .ok (.iload_n 3, 1) := by decide +kernel
theorem dX1_drop_38 : decode cX1_drop 38 = .ok (.aload_n 0, 1) := by decide +kernel
theorem dX1_drop_39 : decode cX1_drop 39 = .ok (.getfield 9, 3) := by decide +kernel
theorem dX1_drop_42 : decode cX1_drop 42 = .ok (.iload_n 3, 1) := by decide +kernel
theorem dX1_drop_43 : decode cX1_drop 43 = .ok (.iconst 1, 1) := by decide +kernel
theorem dX1_drop_44 : decode cX1_drop 44 = .ok (.iadd, 1) := by decide +kernel
theorem dX1_drop_45 : decode cX1_drop 45 = .ok (.iaload, 1) := by decide +kernel
theorem dX1_drop_46 : decode cX1_drop 46 = .ok (.iastore, 1) := by decide +kernel
theorem dX1_drop_47 : decode cX1_drop 47 = .ok (.aload_n 0, 1) := by decide +kernel
theorem dX1_drop_48 : decode cX1_drop 48 = .ok (.getfield 15, 3) := by decide +kernel
theorem dX1_drop_51 : decode cX1_drop 51 = .ok (.iload_n 3, 1) := by decide +kernel
theorem dX1_drop_52 : decode cX1_drop 52 = .ok (.aload_n 0, 1) := by decide +kernel
theorem dX1_drop_53 : decode cX1_drop 53 = .ok (.getfield 15, 3) := by decide +kernel
theorem dX1_drop_56 : decode cX1_drop 56 = .ok (.iload_n 3, 1) := by decide +kernel
theorem dX1_drop_57 : decode cX1_drop 57 = .ok (.iconst 1, 1) := by decide +kernel
theorem dX1_drop_58 : decode cX1_drop 58 = .ok (.iadd, 1) := by decide +kernel
theorem dX1_drop_59 : decode cX1_drop 59 = .ok (.iaload, 1) := by decide +kernel
theorem dX1_drop_60 : decode cX1_drop 60 = .ok (.iastore, 1) := by decide +kernel
theorem dX1_drop_61 : decode cX1_drop 61 = .ok (.iinc 3 1, 3) := by decide +kernel
theorem dX1_drop_64 : decode cX1_drop 64 = .ok (.goto (-39), 3) := by decide +kernel
theorem dX1_drop_67 : decode cX1_drop 67 = .ok (.iconst 1, 1) := by decide +kernel
theorem dX1_drop_68 : decode cX1_drop 68 = .ok (.ireturn, 1) := by decide +kernel
theorem dX1_isTaken_0 : decode cX1_isTaken 0 = .ok (.iload_n 1, 1) := by decide +kernel
theorem dX1_isTaken_1 : decode cX1_isTaken 1 = .ok (.ifCond .lt 15, 3) := by decide +kernel
theorem dX1_isTaken_4 : decode cX1_isTaken 4 = .ok (.iload_n 1, 1) := by decide +kernel
theorem dX1_isTaken_5 : decode cX1_isTaken 5 = .ok (.aload_n 0, 1) := by decide +kernel
theorem dX1_isTaken_6 : decode cX1_isTaken 6 = .ok (.getfield 26, 3) := by decide +kernel
theorem dX1_isTaken_9 : decode cX1_isTaken 9 = .ok (.if_icmp .ge 7, 3) := by decide +kernel
theorem dX1_isTaken_12 : decode cX1_isTaken 12 = .ok (.iconst 1, 1) := by decide +kernel
theorem dX1_isTaken_13 : decode cX1_isTaken 13 = .ok (.goto 4, 3) := by decide +kernel
theorem dX1_isTaken_16 : decode cX1_isTaken 16 = .ok (.iconst 0, 1) := by decide +kernel
theorem dX1_isTaken_17 : decode cX1_isTaken 17 = .ok (.ireturn, 1) := by decide +kernel
theorem dX1_placeOf_0 : decode cX1_placeOf 0 = .ok (.iconst 0, 1) := by decide +kernel
theorem dX1_placeOf_1 : decode cX1_placeOf 1 = .ok (.istore_n 2, 1) := by decide +kernel
theorem dX1_placeOf_2 : decode cX1_placeOf 2 = .ok (.iload_n 2, 1) := by decide +kernel
theorem dX1_placeOf_3 : decode cX1_placeOf 3 = .ok (.aload_n 0, 1) := by decide +kernel
theorem dX1_placeOf_4 : decode cX1_placeOf 4 = .ok (.getfield 26, 3) := by decide +kernel
theorem dX1_placeOf_7 : decode cX1_placeOf 7 = .ok (.if_icmp .ge 21, 3) := by decide +kernel
theorem dX1_placeOf_10 : decode cX1_placeOf 10 = .ok (.aload_n 0, 1) := by decide +kernel
theorem dX1_placeOf_11 : decode cX1_placeOf 11 = .ok (.getfield 9, 3) := by decide +kernel
theorem dX1_placeOf_14 : decode cX1_placeOf 14 = .ok (.iload_n 2, 1) := by decide +kernel
theorem dX1_placeOf_15 : decode cX1_placeOf 15 = .ok (.iaload, 1) := by decide +kernel
theorem dX1_placeOf_16 : decode cX1_placeOf 16 = .ok (.iload_n 1, 1) := by decide +kernel
theorem dX1_placeOf_17 : decode cX1_placeOf 17 = .ok (.if_icmp .ne 5, 3) := by decide +kernel
theorem dX1_placeOf_20 : decode cX1_placeOf 20 = .ok (.iload_n 2, 1) := by decide +kernel
theorem dX1_placeOf_21 : decode cX1_placeOf 21 = .ok (.ireturn, 1) := by decide +kernel
theorem dX1_placeOf_22 : decode cX1_placeOf 22 = .ok (.iinc 2 1, 3) := by decide +kernel
theorem dX1_placeOf_25 : decode cX1_placeOf 25 = .ok (.goto (-23), 3) := by decide +kernel
theorem dX1_placeOf_28 : decode cX1_placeOf 28 = .ok (.iconst (-1), 1) := by decide +kernel
theorem dX1_placeOf_29 : decode cX1_placeOf 29 = .ok (.ireturn, 1) := by decide +kernel
theorem dX2_init_0 : decode cX2_init 0 = .ok (.aload_n 0, 1) := by decide +kernel
theorem dX2_init_1 : decode cX2_init 1 = .ok (.invokespecial 3, 3) := by decide +kernel
theorem dX2_init_4 : decode cX2_init 4 = .ok (.return_, 1) := by decide +kernel
theorem dX2_begin_0 : decode cX2_begin 0 = .ok (.aload_n 0, 1) := by decide +kernel
theorem dX2_begin_1 : decode cX2_begin 1 = .ok (.iconst 1, 1) := by decide +kernel
theorem dX2_begin_2 : decode cX2_begin 2 = .ok (.putfield 9, 3) := by decide +kernel
theorem dX2_begin_5 : decode cX2_begin 5 = .ok (.aload_n 0, 1) := by decide +kernel
theorem dX2_begin_6 : decode cX2_begin 6 = .ok (.iload_n 1, 1) := by decide +kernel
theorem dX2_begin_7 : decode cX2_begin 7 = .ok (.putfield 15, 3) := by decide +kernel
theorem dX2_begin_10 : decode cX2_begin 10 = .ok (.aload_n 0, 1) := by decide +kernel
theorem dX2_begin_11 : decode cX2_begin 11 = .ok (.bipush 10, 2) := by decide +kernel
theorem dX2_begin_13 : decode cX2_begin 13 = .ok (.putfield 19, 3) := by decide +kernel
theorem dX2_begin_16 : decode cX2_begin 16 = .ok (.aload_n 0, 1) := by decide +kernel
theorem dX2_begin_17 : decode cX2_begin 17 = .ok (.iconst 0, 1) := by decide +kernel
theorem dX2_begin_18 : decode cX2_begin 18 = .ok (.putfield 22, 3) := by decide +kernel
theorem dX2_begin_21 : decode cX2_begin 21 = .ok (.return_, 1) := by decide +kernel
set_option maxRecDepth 20000 in
theorem ggX3_init_X2_init : GoodIn wsX3_init wsX2_init := goodIn_r _ [14, 15, 2, 3] (by decide +kernel) (by decide +kernel)
set_option maxRecDepth 20000 in
theorem gX3_init_X2_init_n15 : GoodIn wsX3_init (wsX2_init) := ggX3_init_X2_init
set_option maxRecDepth 20000 in
theorem ggX3_init_X0_init : GoodIn wsX3_init wsX0_init := goodIn_r _ [17, 18, 2, 3, 19, 20, 21, 22, 23, 24, 25, 26, 27, 28, 29, 45, 46, 47, 37, 38, 39, 40, 41, 42, 43, 44] (by decide +kernel) (by decide +kernel)
set_option maxRecDepth 20000 in
theorem gX3_init_X0_init_n22 : GoodIn wsX3_init (wsX0_init) := ggX3_init_X0_init
theorem dX3_init_0 : decode cX3_init 0 = .ok (.aload_n 0, 1) := by decide +kernel
theorem dX3_init_1 : decode cX3_init 1 = .ok (.invokespecial 1, 3) := by decide +kernel
theorem dX3_init_4 : decode cX3_init 4 = .ok (.aload_n 0, 1) := by decide +kernel
theorem dX3_init_5 : decode cX3_init 5 = .ok (.bipush 6, 2) := by decide +kernel
theorem dX3_init_7 : decode cX3_init 7 = .ok (.anewarray 9, 3) := by decide +kernel
theorem dX3_init_10 : decode cX3_init 10 = .ok (.putfield 11, 3) := by decide +kernel
theorem dX3_init_13 : decode cX3_init 13 = .ok (.iconst 0, 1) := by decide +kernel
theorem dX3_init_14 : decode cX3_init 14 = .ok (.istore_n 1, 1) := by decide +kernel
theorem dX3_init_15 : decode cX3_init 15 = .ok (.iload_n 1, 1) := by decide +kernel
theorem dX3_init_16 : decode cX3_init 16 = .ok (.bipush 6, 2) := by decide +kernel
theorem dX3_init_18 : decode cX3_init 18 = .ok (.if_icmp .ge 22, 3) := by decide +kernel
theorem dX3_init_21 : decode cX3_init 21 = .ok (.aload_n 0, 1) := by decide +kernel
theorem dX3_init_22 : decode cX3_init 22 = .ok (.getfield 11, 3) := by decide +kernel
theorem dX3_init_25 : decode cX3_init 25 = .ok (.iload_n 1, 1) := by decide +kernel
theorem dX3_init_26 : decode cX3_init 26 = .ok (.new 9, 3) := by decide +kernel
theorem dX3_init_29 : decode cX3_init 29 = .ok (.dup, 1) := by decide +kernel
theorem dX3_init_30 : decode cX3_init 30 = .ok (.invokespecial 15, 3) := by decide +kernel
theorem dX3_init_33 : decode cX3_init 33 = .ok (.aastore, 1) := by decide +kernel
theorem dX3_init_34 : decode cX3_init 34 = .ok (.iinc 1 1, 3) := by decide +kernel
theorem dX3_init_37 : decode cX3_init 37 = .ok (.goto (-22), 3) := by decide +kernel
theorem dX3_init_40 : decode cX3_init 40 = .ok (.aload_n 0, 1) := by decide +kernel
theorem dX3_init_41 : decode cX3_init 41 = .ok (.iconst 4, 1) := by decide +kernel
theorem dX3_init_42 : decode cX3_init 42 = .ok (.anewarray 16, 3) := by decide +kernel
theorem dX3_init_45 : decode cX3_init 45 = .ok (.putfield 18, 3) := by decide +kernel
theorem dX3_init_48 : decode cX3_init 48 = .ok (.iconst 0, 1) := by decide +kernel
theorem dX3_init_49 : decode cX3_init 49 = .ok (.istore_n 1, 1) := by decide +kernel
theorem dX3_init_50 : decode cX3_init 50 = .ok (.iload_n 1, 1) := by decide +kernel
theorem dX3_init_51 : decode cX3_init 51 = .ok (.iconst 4, 1) := by decide +kernel
theorem dX3_init_52 : decode cX3_init 52 = .ok (.if_icmp .ge 22, 3) := by decide +kernel
theorem dX3_init_55 : decode cX3_init 55 = .ok (.aload_n 0, 1) := by decide +kernel
theorem dX3_init_56 : decode cX3_init 56 = .ok (.getfield 18, 3) := by decide +kernel
theorem dX3_init_59 : decode cX3_init 59 = .ok (.iload_n 1, 1) := by decide +kernel
theorem dX3_init_60 : decode cX3_init 60 = .ok (.new 16, 3) := by decide +kernel
theorem dX3_init_63 : decode cX3_init 63 = .ok (.dup, 1) := by decide +kernel
theorem dX3_init_64 : decode cX3_init 64 = .ok (.invokespecial 22, 3) := by decide +kernel
theorem dX3_init_67 : decode cX3_init 67 = .ok (.aastore, 1) := by decide +kernel
theorem dX3_init_68 : decode cX3_init 68 = .ok (.iinc 1 1, 3) := by decide +kernel
theorem dX3_init_71 : decode cX3_init 71 = .ok (.goto (-21), 3) := by decide +kernel
theorem dX3_init_74 : decode cX3_init 74 = .ok (.aload_n 0, 1) := by decide +kernel
theorem dX3_init_75 : decode cX3_init 75 = .ok (.iconst 0, 1) := by decide +kernel
theorem dX3_init_76 : decode cX3_init 76 = .ok (.putfield 23, 3) := by decide +kernel
theorem dX3_init_79 : decode cX3_init 79 = .ok (.return_, 1) := by decide +kernel
set_option maxRecDepth 20000 in
theorem ggX3_open_X2_begin : GoodIn wsX3_open wsX2_begin := goodIn_r _ [10, 11, 12, 13, 14, 18, 19, 20, 21] (by decide +kernel) (by decide +kernel)
set_option maxRecDepth 20000 in
theorem gX3_open_X2_begin : GoodIn wsX3_open (wsV RX3 31 RX2 yX2_begin wsX2_begin) := goodIn_app (goodIn_of _ (by decide +kernel)) ggX3_open_X2_begin
theorem dX3_open_0 : decode cX3_open 0 = .ok (.iconst 0, 1) := by decide +kernel
theorem dX3_open_1 : decode cX3_open 1 = .ok (.istore_n 1, 1) := by decide +kernel
theorem dX3_open_2 : decode cX3_open 2 = .ok (.iload_n 1, 1) := by decide +kernel
theorem dX3_open_3 : decode cX3_open 3 = .ok (.bipush 6, 2) := by decide +kernel
theorem dX3_open_5 : decode cX3_open 5 = .ok (.if_icmp .ge 36, 3) := by decide +kernel
theorem dX3_open_8 : decode cX3_open 8 = .ok (.aload_n 0, 1) := by decide +kernel
theorem dX3_open_9 : decode cX3_open 9 = .ok (.getfield 11, 3) := by decide +kernel
theorem dX3_open_12 : decode cX3_open 12 = .ok (.iload_n 1, 1) := by decide +kernel
theorem dX3_open_13 : decode cX3_open 13 = .ok (.aaload, 1) := by decide +kernel
theorem dX3_open_14 : decode cX3_open 14 = .ok (.getfield 27, 3) := by decide +kernel
theorem dX3_open_17 : decode cX3_open 17 = .ok (.ifCond .ne 18, 3) := by decide +kernel
theorem dX3_open_20 : decode cX3_open 20 = .ok (.aload_n 0, 1) := by decide +kernel
theorem dX3_open_21 : decode cX3_open 21 = .ok (.getfield 11, 3) := by decide +kernel
theorem dX3_open_24 : decode cX3_open 24 = .ok (.iload_n 1, 1) := by decide +kernel
theorem dX3_open_25 : decode cX3_open 25 = .ok (.aaload, 1) := by decide +kernel
theorem dX3_open_26 : decode cX3_open 26 = .ok (.aload_n 0, 1) := by decide +kernel
theorem dX3_open_27 : decode cX3_open 27 = .ok (.getfield 23, 3) := by decide +kernel
theorem dX3_open_30 : decode cX3_open 30 = .ok (.invokevirtual 31, 3) := by decide +kernel
theorem dX3_open_33 : decode cX3_open 33 = .ok (.iload_n 1, 1) := by decide +kernel
theorem dX3_open_34 : decode cX3_open 34 = .ok (.ireturn, 1) := by decide +kernel
theorem dX3_open_35 : decode cX3_open 35 = .ok (.iinc 1 1, 3) := by decide +kernel
theorem dX3_open_38 : decode cX3_open 38 = .ok (.goto (-36), 3) := by decide +kernel
theorem dX3_open_41 : decode cX3_open 41 = .ok (.new 35, 3) := by decide +kernel
theorem dX3_open_44 : decode cX3_open 44 = .ok (.dup, 1) := by decide +kernel
theorem dX3_open_45 : decode cX3_open 45 = .ok (.ldc 37, 2) := by decide +kernel
theorem dX3_open_47 : decode cX3_open 47 = .ok (.invokespecial 39, 3) := by decide +kernel
theorem dX3_open_50 : decode cX3_open 50 = .ok (.athrow, 1) := by decide +kernel
set_option maxRecDepth 20000 in
theorem ggX3_close_X3_requireSession : GoodIn wsX3_close wsX3_requireSession := goodIn_ca (goodIn_r _ [5, 6, 7, 8, 9, 10, 4, 11, 12, 13, 69, 70, 71, 72, 73, 74, 75] (by decide +kernel) (by decide +kernel)) (goodIn_sub (fun _ h => List.mem_cons_of_mem _ (List.mem_append_right _ h)) (by decide +kernel))
set_option maxRecDepth 20000 in
theorem gX3_close_X3_requireSession : GoodIn wsX3_close (wsV RX3 42 RX3 yX3_requireSession wsX3_requireSession) := goodIn_app (goodIn_of _ (by decide +kernel)) ggX3_close_X3_requireSession
set_option maxRecDepth 20000 in
theorem ggX3_close_X3_endSession : GoodIn wsX3_close wsX3_endSession := goodIn_r _ [17, 18, 19, 20, 13, 21, 22, 23, 24, 25, 26, 27, 28, 29, 30, 31, 32, 33, 34, 35, 4, 36, 37, 38, 39, 40, 41, 42, 43, 44, 45, 46, 47, 48, 49, 50, 51, 52, 53, 54, 8, 9, 10, 11, 12, 55, 56, 57, 58, 59, 60, 61, 62, 63, 64, 65, 66, 67, 68, 69, 70, 71, 76, 77, 78, 79, 80, 81, 82, 83, 72, 73, 74, 75, 84, 85, 86] (by decide +kernel) (by decide +kernel)
set_option maxRecDepth 20000 in
theorem gX3_close_X3_endSession : GoodIn wsX3_close (wsV RX3 46 RX3 yX3_endSession wsX3_endSession) := goodIn_app (goodIn_of _ (by decide +kernel)) ggX3_close_X3_endSession
theorem dX3_close_0 : decode cX3_close 0 = .ok (.aload_n 0, 1) := by decide +kernel
theorem dX3_close_1 : decode cX3_close 1 = .ok (.aload_n 0, 1) := by decide +kernel
theorem dX3_close_2 : decode cX3_close 2 = .ok (.iload_n 1, 1) := by decide +kernel
theorem dX3_close_3 : decode cX3_close 3 = .ok (.invokevirtual 42, 3) := by decide +kernel
theorem dX3_close_6 : decode cX3_close 6 = .ok (.iload_n 1, 1) := by decide +kernel
theorem dX3_close_7 : decode cX3_close 7 = .ok (.invokevirtual 46, 3) := by decide +kernel
theorem dX3_close_10 : decode cX3_close 10 = .ok (.ireturn, 1) := by decide +kernel
set_option maxRecDepth 20000 in
theorem ggX3_keep_X3_requireSession : GoodIn wsX3_keep wsX3_requireSession := goodIn_ca (goodIn_r _ [7, 8, 9, 10, 11, 12, 6, 13, 14, 15, 16, 17, 18, 19, 20, 21, 22] (by decide +kernel) (by decide +kernel)) (goodIn_sub (fun _ h => List.mem_cons_of_mem _ (List.mem_append_right _ h)) (by decide +kernel))
set_option maxRecDepth 20000 in
theorem gX3_keep_X3_requireSession : GoodIn wsX3_keep (wsV RX3 42 RX3 yX3_requireSession wsX3_requireSession) := goodIn_app (goodIn_of _ (by decide +kernel)) ggX3_keep_X3_requireSession
theorem dX3_keep_0 : decode cX3_keep 0 = .ok (.aload_n 0, 1) := by decide +kernel
theorem dX3_keep_1 : decode cX3_keep 1 = .ok (.iload_n 1, 1) := by decide +kernel
theorem dX3_keep_2 : decode cX3_keep 2 = .ok (.invokevirtual 42, 3) := by decide +kernel
theorem dX3_keep_5 : decode cX3_keep 5 = .ok (.aload_n 0, 1) := by decide +kernel
theorem dX3_keep_6 : decode cX3_keep 6 = .ok (.getfield 23, 3) := by decide +kernel
theorem dX3_keep_9 : decode cX3_keep 9 = .ok (.putfield 50, 3) := by decide +kernel
theorem dX3_keep_12 : decode cX3_keep 12 = .ok (.return_, 1) := by decide +kernel
set_option maxRecDepth 20000 in
theorem ggX3_rate_X3_openSession : GoodIn wsX3_rate wsX3_openSession := goodIn_r _ [6, 7, 8, 13, 14, 15, 9, 10, 11, 12] (by decide +kernel) (by decide +kernel)
set_option maxRecDepth 20000 in
theorem gX3_rate_X3_openSession : GoodIn wsX3_rate (wsV RX3 53 RX3 yX3_openSession wsX3_openSession) := goodIn_app (goodIn_of _ (by decide +kernel)) ggX3_rate_X3_openSession
theorem dX3_rate_0 : decode cX3_rate 0 = .ok (.aload_n 0, 1) := by decide +kernel
theorem dX3_rate_1 : decode cX3_rate 1 = .ok (.iload_n 1, 1) := by decide +kernel
theorem dX3_rate_2 : decode cX3_rate 2 = .ok (.invokevirtual 53, 3) := by decide +kernel
theorem dX3_rate_5 : decode cX3_rate 5 = .ok (.astore_n 3, 1) := by decide +kernel
theorem dX3_rate_6 : decode cX3_rate 6 = .ok (.aload_n 3, 1) := by decide +kernel
theorem dX3_rate_7 : decode cX3_rate 7 = .ok (.ifnull 15, 3) := by decide +kernel
theorem dX3_rate_10 : decode cX3_rate 10 = .ok (.iload_n 2, 1) := by decide +kernel
theorem dX3_rate_11 : decode cX3_rate 11 = .ok (.bipush 9, 2) := by decide +kernel
theorem dX3_rate_13 : decode cX3_rate 13 = .ok (.if_icmp .lt 9, 3) := by decide +kernel
theorem dX3_rate_16 : decode cX3_rate 16 = .ok (.iload_n 2, 1) := by decide +kernel
theorem dX3_rate_17 : decode cX3_rate 17 = .ok (.bipush 11, 2) := by decide +kernel
theorem dX3_rate_19 : decode cX3_rate 19 = .ok (.if_icmp .le 5, 3) := by decide +kernel
theorem dX3_rate_22 : decode cX3_rate 22 = .ok (.iconst 0, 1) := by decide +kernel
theorem dX3_rate_23 : decode cX3_rate 23 = .ok (.ireturn, 1) := by decide +kernel
theorem dX3_rate_24 : decode cX3_rate 24 = .ok (.aload_n 3, 1) := by decide +kernel
theorem dX3_rate_25 : decode cX3_rate 25 = .ok (.iload_n 2, 1) := by decide +kernel
theorem dX3_rate_26 : decode cX3_rate 26 = .ok (.putfield 56, 3) := by decide +kernel
theorem dX3_rate_29 : decode cX3_rate 29 = .ok (.iconst 1, 1) := by decide +kernel
theorem dX3_rate_30 : decode cX3_rate 30 = .ok (.ireturn, 1) := by decide +kernel
set_option maxRecDepth 20000 in
theorem ggX3_tick_X3_moveClocks : GoodIn wsX3_tick wsX3_moveClocks := goodIn_r _ [6, 7, 8, 9, 10, 82, 83, 84, 85, 86, 87, 88] (by decide +kernel) (by decide +kernel)
set_option maxRecDepth 20000 in
theorem gX3_tick_X3_moveClocks : GoodIn wsX3_tick (wsV RX3 59 RX3 yX3_moveClocks wsX3_moveClocks) := goodIn_app (goodIn_of _ (by decide +kernel)) ggX3_tick_X3_moveClocks
set_option maxRecDepth 20000 in
theorem ggX3_tick_X3_endSilentSessions : GoodIn wsX3_tick wsX3_endSilentSessions := goodIn_r _ [14, 7, 8, 1, 15, 16, 17, 18, 5, 19, 20, 21, 22, 23, 24, 25, 26, 27, 28, 29, 30, 31, 32, 33, 34, 35, 36, 37, 38, 39, 40, 41, 42, 43, 44, 45, 46, 47, 48, 49, 50, 51, 52, 53, 54, 9, 55, 56, 57, 58, 59, 60, 61, 62, 63, 64, 65, 66, 67, 68, 69, 70, 71, 72, 82, 83, 84, 85, 86, 87, 88, 89, 90, 91, 92, 93, 94, 95, 96, 97, 98, 99] (by decide +kernel) (by decide +kernel)
set_option maxRecDepth 20000 in
theorem gX3_tick_X3_endSilentSessions : GoodIn wsX3_tick (wsV RX3 62 RX3 yX3_endSilentSessions wsX3_endSilentSessions) := goodIn_app (goodIn_of _ (by decide +kernel)) ggX3_tick_X3_endSilentSessions
set_option maxRecDepth 20000 in
theorem ggX3_tick_X3_passOnLeasesDue : GoodIn wsX3_tick wsX3_passOnLeasesDue := goodIn_r _ [76, 20, 77, 1, 78, 79, 80, 62, 81, 64, 35, 36, 37, 5, 38, 22, 21, 39, 40, 41, 26, 42, 29, 43, 44, 45, 46, 28, 47, 48, 49, 50, 30, 23, 24, 25, 27, 31, 32, 33, 34, 51, 52, 53, 54, 9, 55, 56, 57, 58, 7, 8, 59, 60, 61, 63, 65, 66, 67, 68, 69, 70, 71, 72, 82, 83, 84, 89, 90, 91, 92, 93, 94, 95, 96, 97, 98, 99, 85, 86, 87, 88] (by decide +kernel) (by decide +kernel)
set_option maxRecDepth 20000 in
theorem gX3_tick_X3_passOnLeasesDue : GoodIn wsX3_tick (wsV RX3 66 RX3 yX3_passOnLeasesDue wsX3_passOnLeasesDue) := goodIn_app (goodIn_of _ (by decide +kernel)) ggX3_tick_X3_passOnLeasesDue
theorem dX3_tick_0 : decode cX3_tick 0 = .ok (.iload_n 1, 1) := by decide +kernel
theorem dX3_tick_1 : decode cX3_tick 1 = .ok (.ifCond .lt 9, 3) := by decide +kernel
theorem dX3_tick_4 : decode cX3_tick 4 = .ok (.iload_n 1, 1) := by decide +kernel
theorem dX3_tick_5 : decode cX3_tick 5 = .ok (.bipush 100, 2) := by decide +kernel
theorem dX3_tick_7 : decode cX3_tick 7 = .ok (.if_icmp .le 5, 3) := by decide +kernel
theorem dX3_tick_10 : decode cX3_tick 10 = .ok (.iconst (-1), 1) := by decide +kernel
theorem dX3_tick_11 : decode cX3_tick 11 = .ok (.ireturn, 1) := by decide +kernel
theorem dX3_tick_12 : decode cX3_tick 12 = .ok (.aload_n 0, 1) := by decide +kernel
theorem dX3_tick_13 : decode cX3_tick 13 = .ok (.dup, 1) := by decide +kernel
theorem dX3_tick_14 : decode cX3_tick 14 = .ok (.getfield 23, 3) := by decide +kernel
theorem dX3_tick_17 : decode cX3_tick 17 = .ok (.iload_n 1, 1) := by decide +kernel
theorem dX3_tick_18 : decode cX3_tick 18 = .ok (.iadd, 1) := by decide +kernel
theorem dX3_tick_19 : decode cX3_tick 19 = .ok (.putfield 23, 3) := by decide +kernel
theorem dX3_tick_22 : decode cX3_tick 22 = .ok (.aload_n 0, 1) := by decide +kernel
theorem dX3_tick_23 : decode cX3_tick 23 = .ok (.iload_n 1, 1) := by decide +kernel
theorem dX3_tick_24 : decode cX3_tick 24 = .ok (.invokevirtual 59, 3) := by decide +kernel
theorem dX3_tick_27 : decode cX3_tick 27 = .ok (.aload_n 0, 1) := by decide +kernel
theorem dX3_tick_28 : decode cX3_tick 28 = .ok (.invokevirtual 62, 3) := by decide +kernel
theorem dX3_tick_31 : decode cX3_tick 31 = .ok (.istore_n 2, 1) := by decide +kernel
theorem dX3_tick_32 : decode cX3_tick 32 = .ok (.iload_n 2, 1) := by decide +kernel
theorem dX3_tick_33 : decode cX3_tick 33 = .ok (.aload_n 0, 1) := by decide +kernel
theorem dX3_tick_34 : decode cX3_tick 34 = .ok (.invokevirtual 66, 3) := by decide +kernel
theorem dX3_tick_37 : decode cX3_tick 37 = .ok (.iadd, 1) := by decide +kernel
theorem dX3_tick_38 : decode cX3_tick 38 = .ok (.istore_n 2, 1) := by decide +kernel
theorem dX3_tick_39 : decode cX3_tick 39 = .ok (.iload_n 2, 1) := by decide +kernel
theorem dX3_tick_40 : decode cX3_tick 40 = .ok (.ireturn, 1) := by decide +kernel
set_option maxRecDepth 20000 in
theorem ggX3_acquire_X3_requireSession : GoodIn wsX3_acquire wsX3_requireSession := goodIn_ca (goodIn_r _ [13, 14, 15, 16, 17, 18, 12, 19, 20, 21, 65, 66, 67, 68, 69, 70, 71] (by decide +kernel) (by decide +kernel)) (goodIn_sub (fun _ h => List.mem_cons_of_mem _ (List.mem_append_right _ h)) (by decide +kernel))
set_option maxRecDepth 20000 in
theorem gX3_acquire_X3_requireSession : GoodIn wsX3_acquire (wsV RX3 42 RX3 yX3_requireSession wsX3_requireSession) := goodIn_app (goodIn_of _ (by decide +kernel)) ggX3_acquire_X3_requireSession
set_option maxRecDepth 20000 in
theorem ggX3_acquire_X3_requireLock : GoodIn wsX3_acquire wsX3_requireLock := goodIn_ca (goodIn_r _ [25, 1, 2, 26, 27, 28, 12, 29, 30, 65, 66, 67] (by decide +kernel) (by decide +kernel)) (goodIn_sub (fun _ h => List.mem_cons_of_mem _ (List.mem_append_left _ (List.mem_append_right _ h))) (by decide +kernel))
set_option maxRecDepth 20000 in
theorem gX3_acquire_X3_requireLock : GoodIn wsX3_acquire (wsV RX3 69 RX3 yX3_requireLock wsX3_requireLock) := goodIn_app (goodIn_of _ (by decide +kernel)) ggX3_acquire_X3_requireLock
set_option maxRecDepth 20000 in
theorem ggX3_acquire_X0_renew : GoodIn wsX3_acquire wsX0_renew := goodIn_r _ [35, 36, 37, 38, 39, 34, 40, 41, 42, 72, 73, 74, 75, 76, 77, 78, 79] (by decide +kernel) (by decide +kernel)
set_option maxRecDepth 20000 in
theorem gX3_acquire_X0_renew : GoodIn wsX3_acquire (wsV RX3 84 RX0 yX0_renew wsX0_renew) := goodIn_app (goodIn_of _ (by decide +kernel)) ggX3_acquire_X0_renew
set_option maxRecDepth 20000 in
theorem ggX3_acquire_X0_isFree : GoodIn wsX3_acquire wsX0_isFree := goodIn_r _ [46, 47, 72, 73, 74, 75, 76, 77, 78, 79] (by decide +kernel) (by decide +kernel)
set_option maxRecDepth 20000 in
theorem gX3_acquire_X0_isFree : GoodIn wsX3_acquire (wsV RX3 91 RX0 yX0_isFree wsX0_isFree) := goodIn_app (goodIn_of _ (by decide +kernel)) ggX3_acquire_X0_isFree
set_option maxRecDepth 20000 in
theorem ggX3_acquire_X0_lend : GoodIn wsX3_acquire wsX0_lend := goodIn_r _ [51, 47, 52, 37, 38, 39, 34, 40, 36, 41, 42, 72, 73, 74, 75, 76, 77, 78, 79] (by decide +kernel) (by decide +kernel)
set_option maxRecDepth 20000 in
theorem gX3_acquire_X0_lend : GoodIn wsX3_acquire (wsV RX3 95 RX0 yX0_lend wsX0_lend) := goodIn_app (goodIn_of _ (by decide +kernel)) ggX3_acquire_X0_lend
set_option maxRecDepth 20000 in
theorem ggX3_acquire_X1_ask : GoodIn wsX3_acquire wsX1_ask := goodIn_r _ [57, 58, 59, 60, 61, 62, 63, 56, 64, 80, 81, 82] (by decide +kernel) (by decide +kernel)
set_option maxRecDepth 20000 in
theorem gX3_acquire_X1_ask : GoodIn wsX3_acquire (wsV RX3 103 RX1 yX1_ask wsX1_ask) := goodIn_app (goodIn_of _ (by decide +kernel)) ggX3_acquire_X1_ask
theorem dX3_acquire_0 : decode cX3_acquire 0 = .ok (.aload_n 0, 1) := by decide +kernel
theorem dX3_acquire_1 : decode cX3_acquire 1 = .ok (.iload_n 1, 1) := by decide +kernel
theorem dX3_acquire_2 : decode cX3_acquire 2 = .ok (.invokevirtual 42, 3) := by decide +kernel
theorem dX3_acquire_5 : decode cX3_acquire 5 = .ok (.astore 4, 2) := by decide +kernel
theorem dX3_acquire_7 : decode cX3_acquire 7 = .ok (.aload_n 0, 1) := by decide +kernel
theorem dX3_acquire_8 : decode cX3_acquire 8 = .ok (.iload_n 2, 1) := by decide +kernel
theorem dX3_acquire_9 : decode cX3_acquire 9 = .ok (.invokevirtual 69, 3) := by decide +kernel
theorem dX3_acquire_12 : decode cX3_acquire 12 = .ok (.astore 5, 2) := by decide +kernel
theorem dX3_acquire_14 : decode cX3_acquire 14 = .ok (.iload_n 3, 1) := by decide +kernel
theorem dX3_acquire_15 : decode cX3_acquire 15 = .ok (.iconst 1, 1) := by decide +kernel
theorem dX3_acquire_16 : decode cX3_acquire 16 = .ok (.if_icmp .lt 9, 3) := by decide +kernel
theorem dX3_acquire_19 : decode cX3_acquire 19 = .ok (.iload_n 3, 1) := by decide +kernel
theorem dX3_acquire_20 : decode cX3_acquire 20 = .ok (.bipush 100, 2) := by decide +kernel
theorem dX3_acquire_22 : decode cX3_acquire 22 = .ok (.if_icmp .le 13, 3) := by decide +kernel
theorem dX3_acquire_25 : decode cX3_acquire 25 = .ok (.new 73, 3) := by decide +kernel
theorem dX3_acquire_28 : decode cX3_acquire 28 = .ok (.dup, 1) := by decide +kernel
theorem dX3_acquire_29 : decode cX3_acquire 29 = .ok (.ldc 75, 2) := by decide +kernel
theorem dX3_acquire_31 : decode cX3_acquire 31 = .ok (.invokespecial 77, 3) := by decide +kernel
theorem dX3_acquire_34 : decode cX3_acquire 34 = .ok (.athrow, 1) := by decide +kernel
theorem dX3_acquire_35 : decode cX3_acquire 35 = .ok (.aload 4, 2) := by decide +kernel
theorem dX3_acquire_37 : decode cX3_acquire 37 = .ok (.aload_n 0, 1) := by decide +kernel
theorem dX3_acquire_38 : decode cX3_acquire 38 = .ok (.getfield 23, 3) := by decide +kernel
theorem dX3_acquire_41 : decode cX3_acquire 41 = .ok (.putfield 50, 3) := by decide +kernel
theorem dX3_acquire_44 : decode cX3_acquire 44 = .ok (.aload 5, 2) := by decide +kernel
theorem dX3_acquire_46 : decode cX3_acquire 46 = .ok (.getfield 78, 3) := by decide +kernel
theorem dX3_acquire_49 : decode cX3_acquire 49 = .ok (.iload_n 1, 1) := by decide +kernel
theorem dX3_acquire_50 : decode cX3_acquire 50 = .ok (.if_icmp .ne 24, 3) := by decide +kernel
theorem dX3_acquire_53 : decode cX3_acquire 53 = .ok (.aload 5, 2) := by decide +kernel
theorem dX3_acquire_55 : decode cX3_acquire 55 = .ok (.iload_n 3, 1) := by decide +kernel
theorem dX3_acquire_56 : decode cX3_acquire 56 = .ok (.aload_n 0, 1) := by decide +kernel
theorem dX3_acquire_57 : decode cX3_acquire 57 = .ok (.getfield 23, 3) := by decide +kernel
theorem dX3_acquire_60 : decode cX3_acquire 60 = .ok (.aload 4, 2) := by decide +kernel
theorem dX3_acquire_62 : decode cX3_acquire 62 = .ok (.getfield 81, 3) := by decide +kernel
theorem dX3_acquire_65 : decode cX3_acquire 65 = .ok (.invokevirtual 84, 3) := by decide +kernel
theorem dX3_acquire_68 : decode cX3_acquire 68 = .ok (.aload 5, 2) := by decide +kernel
theorem dX3_acquire_70 : decode cX3_acquire 70 = .ok (.getfield 88, 3) := by decide +kernel
theorem dX3_acquire_73 : decode cX3_acquire 73 = .ok (.ireturn, 1) := by decide +kernel
theorem dX3_acquire_74 : decode cX3_acquire 74 = .ok (.aload 5, 2) := by decide +kernel
theorem dX3_acquire_76 : decode cX3_acquire 76 = .ok (.invokevirtual 91, 3) := by decide +kernel
theorem dX3_acquire_79 : decode cX3_acquire 79 = .ok (.ifCond .eq 25, 3) := by decide +kernel
theorem dX3_acquire_82 : decode cX3_acquire 82 = .ok (.aload 5, 2) := by decide +kernel
theorem dX3_acquire_84 : decode cX3_acquire 84 = .ok (.iload_n 1, 1) := by decide +kernel
theorem dX3_acquire_85 : decode cX3_acquire 85 = .ok (.iload_n 3, 1) := by decide +kernel
theorem dX3_acquire_86 : decode cX3_acquire 86 = .ok (.aload_n 0, 1) := by decide +kernel
theorem dX3_acquire_87 : decode cX3_acquire 87 = .ok (.getfield 23, 3) := by decide +kernel
theorem dX3_acquire_90 : decode cX3_acquire 90 = .ok (.aload 4, 2) := by decide +kernel
theorem dX3_acquire_92 : decode cX3_acquire 92 = .ok (.getfield 81, 3) := by decide +kernel
theorem dX3_acquire_95 : decode cX3_acquire 95 = .ok (.invokevirtual 95, 3) := by decide +kernel
theorem dX3_acquire_98 : decode cX3_acquire 98 = .ok (.aload 5, 2) := by decide +kernel
theorem dX3_acquire_100 : decode cX3_acquire 100 = .ok (.getfield 88, 3) := by decide +kernel
theorem dX3_acquire_103 : decode cX3_acquire 103 = .ok (.ireturn, 1) := by decide +kernel
theorem dX3_acquire_104 : decode cX3_acquire 104 = .ok (.aload 5, 2) := by decide +kernel
theorem dX3_acquire_106 : decode cX3_acquire 106 = .ok (.getfield 99, 3) := by decide +kernel
theorem dX3_acquire_109 : decode cX3_acquire 109 = .ok (.iload_n 1, 1) := by decide +kernel
theorem dX3_acquire_110 : decode cX3_acquire 110 = .ok (.iload_n 3, 1) := by decide +kernel
theorem dX3_acquire_111 : decode cX3_acquire 111 = .ok (.invokevirtual 103, 3) := by decide +kernel
theorem dX3_acquire_114 : decode cX3_acquire 114 = .ok (.iconst 0, 1) := by decide +kernel
theorem dX3_acquire_115 : decode cX3_acquire 115 = .ok (.ireturn, 1) := by decide +kernel
set_option maxRecDepth 20000 in
theorem ggX3_release_X3_requireSession : GoodIn wsX3_release wsX3_requireSession := goodIn_ca (goodIn_r _ [8, 9, 10, 11, 12, 13, 7, 14, 15, 16, 85, 86, 87, 88, 89, 90, 91] (by decide +kernel) (by decide +kernel)) (goodIn_sub (fun _ h => List.mem_cons_of_mem _ (List.mem_append_left _ (List.mem_append_right _ h))) (by decide +kernel))
set_option maxRecDepth 20000 in
theorem gX3_release_X3_requireSession : GoodIn wsX3_release (wsV RX3 42 RX3 yX3_requireSession wsX3_requireSession) := goodIn_app (goodIn_of _ (by decide +kernel)) ggX3_release_X3_requireSession
set_option maxRecDepth 20000 in
theorem ggX3_release_X3_requireLock : GoodIn wsX3_release wsX3_requireLock := goodIn_ca (goodIn_r _ [20, 21, 22, 23, 24, 25, 7, 26, 27, 85, 86, 87] (by decide +kernel) (by decide +kernel)) (goodIn_sub (fun _ h => List.mem_cons_of_mem _ (List.mem_append_right _ h)) (by decide +kernel))
set_option maxRecDepth 20000 in
theorem gX3_release_X3_requireLock : GoodIn wsX3_release (wsV RX3 69 RX3 yX3_requireLock wsX3_requireLock) := goodIn_app (goodIn_of _ (by decide +kernel)) ggX3_release_X3_requireLock
set_option maxRecDepth 20000 in
theorem ggX3_release_X3_passOn : GoodIn wsX3_release wsX3_passOn := goodIn_r _ [31, 3, 32, 33, 34, 35, 36, 37, 38, 39, 40, 41, 42, 43, 44, 45, 46, 47, 48, 49, 50, 51, 52, 53, 54, 55, 56, 57, 58, 59, 60, 7, 61, 62, 11, 12, 13, 14, 15, 16, 63, 64, 65, 66, 67, 68, 69, 70, 71, 72, 73, 74, 75, 76, 77, 78, 79, 80, 81, 82, 83, 84, 85, 86, 87, 92, 93, 94, 88, 89, 90, 91] (by decide +kernel) (by decide +kernel)
set_option maxRecDepth 20000 in
theorem gX3_release_X3_passOn : GoodIn wsX3_release (wsV RX3 111 RX3 yX3_passOn wsX3_passOn) := goodIn_app (goodIn_of _ (by decide +kernel)) ggX3_release_X3_passOn
theorem dX3_release_0 : decode cX3_release 0 = .ok (.aload_n 0, 1) := by decide +kernel
theorem dX3_release_1 : decode cX3_release 1 = .ok (.iload_n 1, 1) := by decide +kernel
theorem dX3_release_2 : decode cX3_release 2 = .ok (.invokevirtual 42, 3) := by decide +kernel
theorem dX3_release_5 : decode cX3_release 5 = .ok (.pop, 1) := by decide +kernel
theorem dX3_release_6 : decode cX3_release 6 = .ok (.aload_n 0, 1) := by decide +kernel
theorem dX3_release_7 : decode cX3_release 7 = .ok (.iload_n 2, 1) := by decide +kernel
theorem dX3_release_8 : decode cX3_release 8 = .ok (.invokevirtual 69, 3) := by decide +kernel
theorem dX3_release_11 : decode cX3_release 11 = .ok (.astore_n 3, 1) := by decide +kernel
theorem dX3_release_12 : decode cX3_release 12 = .ok (.aload_n 3, 1) := by decide +kernel
theorem dX3_release_13 : decode cX3_release 13 = .ok (.getfield 78, 3) := by decide +kernel
theorem dX3_release_16 : decode cX3_release 16 = .ok (.iload_n 1, 1) := by decide +kernel
theorem dX3_release_17 : decode cX3_release 17 = .ok (.if_icmp .eq 13, 3) := by decide +kernel
theorem dX3_release_20 : decode cX3_release 20 = .ok (.new 35, 3) := by decide +kernel
theorem dX3_release_23 : decode cX3_release 23 = .ok (.dup, 1) := by decide +kernel
theorem dX3_release_24 : decode cX3_release 24 = .ok (.ldc 109, 2) := by decide +kernel
theorem dX3_release_26 : decode cX3_release 26 = .ok (.invokespecial 39, 3) := by decide +kernel
theorem dX3_release_29 : decode cX3_release 29 = .ok (.athrow, 1) := by decide +kernel
theorem dX3_release_30 : decode cX3_release 30 = .ok (.aload_n 0, 1) := by decide +kernel
theorem dX3_release_31 : decode cX3_release 31 = .ok (.aload_n 3, 1) := by decide +kernel
theorem dX3_release_32 : decode cX3_release 32 = .ok (.invokevirtual 111, 3) := by decide +kernel
theorem dX3_release_35 : decode cX3_release 35 = .ok (.return_, 1) := by decide +kernel
set_option maxRecDepth 20000 in
theorem ggX3_cancel_X3_knownLock : GoodIn wsX3_cancel wsX3_knownLock := goodIn_r _ [6, 7, 28, 29, 30] (by decide +kernel) (by decide +kernel)
set_option maxRecDepth 20000 in
theorem gX3_cancel_X3_knownLock : GoodIn wsX3_cancel (wsV RX3 115 RX3 yX3_knownLock wsX3_knownLock) := goodIn_app (goodIn_of _ (by decide +kernel)) ggX3_cancel_X3_knownLock
set_option maxRecDepth 20000 in
theorem ggX3_cancel_X1_drop : GoodIn wsX3_cancel wsX1_drop := goodIn_r _ [12, 13, 14, 15, 16, 17, 18, 11, 19, 31, 32, 33] (by decide +kernel) (by decide +kernel)
set_option maxRecDepth 20000 in
theorem gX3_cancel_X1_drop : GoodIn wsX3_cancel (wsV RX3 118 RX1 yX1_drop wsX1_drop) := goodIn_app (goodIn_of _ (by decide +kernel)) ggX3_cancel_X1_drop
theorem dX3_cancel_0 : decode cX3_cancel 0 = .ok (.aload_n 0, 1) := by decide +kernel
theorem dX3_cancel_1 : decode cX3_cancel 1 = .ok (.iload_n 2, 1) := by decide +kernel
theorem dX3_cancel_2 : decode cX3_cancel 2 = .ok (.invokevirtual 115, 3) := by decide +kernel
theorem dX3_cancel_5 : decode cX3_cancel 5 = .ok (.astore_n 3, 1) := by decide +kernel
theorem dX3_cancel_6 : decode cX3_cancel 6 = .ok (.aload_n 3, 1) := by decide +kernel
theorem dX3_cancel_7 : decode cX3_cancel 7 = .ok (.ifnull 18, 3) := by decide +kernel
theorem dX3_cancel_10 : decode cX3_cancel 10 = .ok (.aload_n 3, 1) := by decide +kernel
theorem dX3_cancel_11 : decode cX3_cancel 11 = .ok (.getfield 99, 3) := by decide +kernel
theorem dX3_cancel_14 : decode cX3_cancel 14 = .ok (.iload_n 1, 1) := by decide +kernel
theorem dX3_cancel_15 : decode cX3_cancel 15 = .ok (.invokevirtual 118, 3) := by decide +kernel
theorem dX3_cancel_18 : decode cX3_cancel 18 = .ok (.ifCond .eq 7, 3) := by decide +kernel
theorem dX3_cancel_21 : decode cX3_cancel 21 = .ok (.iconst 1, 1) := by decide +kernel
theorem dX3_cancel_22 : decode cX3_cancel 22 = .ok (.goto 4, 3) := by decide +kernel
theorem dX3_cancel_25 : decode cX3_cancel 25 = .ok (.iconst 0, 1) := by decide +kernel
theorem dX3_cancel_26 : decode cX3_cancel 26 = .ok (.ireturn, 1) := by decide +kernel
set_option maxRecDepth 20000 in
theorem ggX3_holder_X3_knownLock : GoodIn wsX3_holder wsX3_knownLock := goodIn_r _ [6, 7, 16, 17, 18] (by decide +kernel) (by decide +kernel)
set_option maxRecDepth 20000 in
theorem gX3_holder_X3_knownLock : GoodIn wsX3_holder (wsV RX3 115 RX3 yX3_knownLock wsX3_knownLock) := goodIn_app (goodIn_of _ (by decide +kernel)) ggX3_holder_X3_knownLock
theorem dX3_holder_0 : decode cX3_holder 0 = .ok (.aload_n 0, 1) := by decide +kernel
theorem dX3_holder_1 : decode cX3_holder 1 = .ok (.iload_n 1, 1) := by decide +kernel
theorem dX3_holder_2 : decode cX3_holder 2 = .ok (.invokevirtual 115, 3) := by decide +kernel
theorem dX3_holder_5 : decode cX3_holder 5 = .ok (.astore_n 2, 1) := by decide +kernel
theorem dX3_holder_6 : decode cX3_holder 6 = .ok (.aload_n 2, 1) := by decide +kernel
theorem dX3_holder_7 : decode cX3_holder 7 = .ok (.ifnonnull 7, 3) := by decide +kernel
theorem dX3_holder_10 : decode cX3_holder 10 = .ok (.iconst (-1), 1) := by decide +kernel
theorem dX3_holder_11 : decode cX3_holder 11 = .ok (.goto 7, 3) := by decide +kernel
theorem dX3_holder_14 : decode cX3_holder 14 = .ok (.aload_n 2, 1) := by decide +kernel
theorem dX3_holder_15 : decode cX3_holder 15 = .ok (.getfield 78, 3) := by decide +kernel
theorem dX3_holder_18 : decode cX3_holder 18 = .ok (.ireturn, 1) := by decide +kernel
set_option maxRecDepth 20000 in
theorem ggX3_token_X3_knownLock : GoodIn wsX3_token wsX3_knownLock := goodIn_r _ [6, 7, 16, 17, 18] (by decide +kernel) (by decide +kernel)
set_option maxRecDepth 20000 in
theorem gX3_token_X3_knownLock : GoodIn wsX3_token (wsV RX3 115 RX3 yX3_knownLock wsX3_knownLock) := goodIn_app (goodIn_of _ (by decide +kernel)) ggX3_token_X3_knownLock
theorem dX3_token_0 : decode cX3_token 0 = .ok (.aload_n 0, 1) := by decide +kernel
theorem dX3_token_1 : decode cX3_token 1 = .ok (.iload_n 1, 1) := by decide +kernel
theorem dX3_token_2 : decode cX3_token 2 = .ok (.invokevirtual 115, 3) := by decide +kernel
theorem dX3_token_5 : decode cX3_token 5 = .ok (.astore_n 2, 1) := by decide +kernel
theorem dX3_token_6 : decode cX3_token 6 = .ok (.aload_n 2, 1) := by decide +kernel
theorem dX3_token_7 : decode cX3_token 7 = .ok (.ifnonnull 7, 3) := by decide +kernel
theorem dX3_token_10 : decode cX3_token 10 = .ok (.iconst (-1), 1) := by decide +kernel
theorem dX3_token_11 : decode cX3_token 11 = .ok (.goto 7, 3) := by decide +kernel
theorem dX3_token_14 : decode cX3_token 14 = .ok (.aload_n 2, 1) := by decide +kernel
theorem dX3_token_15 : decode cX3_token 15 = .ok (.getfield 88, 3) := by decide +kernel
theorem dX3_token_18 : decode cX3_token 18 = .ok (.ireturn, 1) := by decide +kernel
set_option maxRecDepth 20000 in
theorem ggX3_until_X3_knownLock : GoodIn wsX3_until wsX3_knownLock := goodIn_r _ [6, 7, 22, 23, 24] (by decide +kernel) (by decide +kernel)
set_option maxRecDepth 20000 in
theorem gX3_until_X3_knownLock : GoodIn wsX3_until (wsV RX3 115 RX3 yX3_knownLock wsX3_knownLock) := goodIn_app (goodIn_of _ (by decide +kernel)) ggX3_until_X3_knownLock
set_option maxRecDepth 20000 in
theorem ggX3_until_X0_isFree : GoodIn wsX3_until wsX0_isFree := goodIn_r _ [12, 13, 14, 15, 16, 17, 18, 19, 20, 21] (by decide +kernel) (by decide +kernel)
set_option maxRecDepth 20000 in
theorem gX3_until_X0_isFree : GoodIn wsX3_until (wsV RX3 91 RX0 yX0_isFree wsX0_isFree) := goodIn_app (goodIn_of _ (by decide +kernel)) ggX3_until_X0_isFree
theorem dX3_until_0 : decode cX3_until 0 = .ok (.aload_n 0, 1) := by decide +kernel
theorem dX3_until_1 : decode cX3_until 1 = .ok (.iload_n 1, 1) := by decide +kernel
theorem dX3_until_2 : decode cX3_until 2 = .ok (.invokevirtual 115, 3) := by decide +kernel
theorem dX3_until_5 : decode cX3_until 5 = .ok (.astore_n 2, 1) := by decide +kernel
theorem dX3_until_6 : decode cX3_until 6 = .ok (.aload_n 2, 1) := by decide +kernel
theorem dX3_until_7 : decode cX3_until 7 = .ok (.ifnull 10, 3) := by decide +kernel
theorem dX3_until_10 : decode cX3_until 10 = .ok (.aload_n 2, 1) := by decide +kernel
theorem dX3_until_11 : decode cX3_until 11 = .ok (.invokevirtual 91, 3) := by decide +kernel
theorem dX3_until_14 : decode cX3_until 14 = .ok (.ifCond .eq 7, 3) := by decide +kernel
theorem dX3_until_17 : decode cX3_until 17 = .ok (.iconst (-1), 1) := by decide +kernel
theorem dX3_until_18 : decode cX3_until 18 = .ok (.goto 7, 3) := by decide +kernel
theorem dX3_until_21 : decode cX3_until 21 = .ok (.aload_n 2, 1) := by decide +kernel
theorem dX3_until_22 : decode cX3_until 22 = .ok (.getfield 122, 3) := by decide +kernel
theorem dX3_until_25 : decode cX3_until 25 = .ok (.ireturn, 1) := by decide +kernel
set_option maxRecDepth 20000 in
theorem ggX3_waiter_X3_knownLock : GoodIn wsX3_waiter wsX3_knownLock := goodIn_r _ [6, 7, 27, 28, 29] (by decide +kernel) (by decide +kernel)
set_option maxRecDepth 20000 in
theorem gX3_waiter_X3_knownLock : GoodIn wsX3_waiter (wsV RX3 115 RX3 yX3_knownLock wsX3_knownLock) := goodIn_app (goodIn_of _ (by decide +kernel)) ggX3_waiter_X3_knownLock
set_option maxRecDepth 20000 in
theorem ggX3_waiter_X1_slotAt : GoodIn wsX3_waiter wsX1_slotAt := goodIn_r _ [12, 13, 14, 15, 16, 11, 17, 18, 30, 31, 32] (by decide +kernel) (by decide +kernel)
set_option maxRecDepth 20000 in
theorem gX3_waiter_X1_slotAt : GoodIn wsX3_waiter (wsV RX3 125 RX1 yX1_slotAt wsX1_slotAt) := goodIn_app (goodIn_of _ (by decide +kernel)) ggX3_waiter_X1_slotAt
theorem dX3_waiter_0 : decode cX3_waiter 0 = .ok (.aload_n 0, 1) := by decide +kernel
theorem dX3_waiter_1 : decode cX3_waiter 1 = .ok (.iload_n 1, 1) := by decide +kernel
theorem dX3_waiter_2 : decode cX3_waiter 2 = .ok (.invokevirtual 115, 3) := by decide +kernel
theorem dX3_waiter_5 : decode cX3_waiter 5 = .ok (.astore_n 3, 1) := by decide +kernel
theorem dX3_waiter_6 : decode cX3_waiter 6 = .ok (.aload_n 3, 1) := by decide +kernel
theorem dX3_waiter_7 : decode cX3_waiter 7 = .ok (.ifnonnull 7, 3) := by decide +kernel
theorem dX3_waiter_10 : decode cX3_waiter 10 = .ok (.iconst (-1), 1) := by decide +kernel
theorem dX3_waiter_11 : decode cX3_waiter 11 = .ok (.goto 11, 3) := by decide +kernel
theorem dX3_waiter_14 : decode cX3_waiter 14 = .ok (.aload_n 3, 1) := by decide +kernel
theorem dX3_waiter_15 : decode cX3_waiter 15 = .ok (.getfield 99, 3) := by decide +kernel
theorem dX3_waiter_18 : decode cX3_waiter 18 = .ok (.iload_n 2, 1) := by decide +kernel
theorem dX3_waiter_19 : decode cX3_waiter 19 = .ok (.invokevirtual 125, 3) := by decide +kernel
theorem dX3_waiter_22 : decode cX3_waiter 22 = .ok (.ireturn, 1) := by decide +kernel
theorem dX3_time_0 : decode cX3_time 0 = .ok (.aload_n 0, 1) := by decide +kernel
theorem dX3_time_1 : decode cX3_time 1 = .ok (.getfield 23, 3) := by decide +kernel
theorem dX3_time_4 : decode cX3_time 4 = .ok (.ireturn, 1) := by decide +kernel
set_option maxRecDepth 20000 in
theorem ggX3_clock_X3_openSession : GoodIn wsX3_clock wsX3_openSession := goodIn_r _ [6, 7, 8, 13, 14, 15, 9, 10, 11, 12] (by decide +kernel) (by decide +kernel)
set_option maxRecDepth 20000 in
theorem gX3_clock_X3_openSession : GoodIn wsX3_clock (wsV RX3 53 RX3 yX3_openSession wsX3_openSession) := goodIn_app (goodIn_of _ (by decide +kernel)) ggX3_clock_X3_openSession
theorem dX3_clock_0 : decode cX3_clock 0 = .ok (.aload_n 0, 1) := by decide +kernel
theorem dX3_clock_1 : decode cX3_clock 1 = .ok (.iload_n 1, 1) := by decide +kernel
theorem dX3_clock_2 : decode cX3_clock 2 = .ok (.invokevirtual 53, 3) := by decide +kernel
theorem dX3_clock_5 : decode cX3_clock 5 = .ok (.astore_n 2, 1) := by decide +kernel
theorem dX3_clock_6 : decode cX3_clock 6 = .ok (.aload_n 2, 1) := by decide +kernel
theorem dX3_clock_7 : decode cX3_clock 7 = .ok (.ifnonnull 7, 3) := by decide +kernel
theorem dX3_clock_10 : decode cX3_clock 10 = .ok (.iconst (-1), 1) := by decide +kernel
theorem dX3_clock_11 : decode cX3_clock 11 = .ok (.goto 7, 3) := by decide +kernel
theorem dX3_clock_14 : decode cX3_clock 14 = .ok (.aload_n 2, 1) := by decide +kernel
theorem dX3_clock_15 : decode cX3_clock 15 = .ok (.getfield 81, 3) := by decide +kernel
theorem dX3_clock_18 : decode cX3_clock 18 = .ok (.ireturn, 1) := by decide +kernel
set_option maxRecDepth 20000 in
theorem ggX3_believes_X3_openSession : GoodIn wsX3_believes wsX3_openSession := goodIn_r _ [9, 10, 11, 29, 30, 31, 25, 26, 27, 28] (by decide +kernel) (by decide +kernel)
set_option maxRecDepth 20000 in
theorem gX3_believes_X3_openSession : GoodIn wsX3_believes (wsV RX3 53 RX3 yX3_openSession wsX3_openSession) := goodIn_app (goodIn_of _ (by decide +kernel)) ggX3_believes_X3_openSession
set_option maxRecDepth 20000 in
theorem ggX3_believes_X3_knownLock : GoodIn wsX3_believes wsX3_knownLock := goodIn_r _ [15, 16, 29, 30, 31] (by decide +kernel) (by decide +kernel)
set_option maxRecDepth 20000 in
theorem gX3_believes_X3_knownLock : GoodIn wsX3_believes (wsV RX3 115 RX3 yX3_knownLock wsX3_knownLock) := goodIn_app (goodIn_of _ (by decide +kernel)) ggX3_believes_X3_knownLock
theorem dX3_believes_0 : decode cX3_believes 0 = .ok (.aload_n 0, 1) := by decide +kernel
theorem dX3_believes_1 : decode cX3_believes 1 = .ok (.iload_n 1, 1) := by decide +kernel
theorem dX3_believes_2 : decode cX3_believes 2 = .ok (.invokevirtual 53, 3) := by decide +kernel
theorem dX3_believes_5 : decode cX3_believes 5 = .ok (.astore_n 3, 1) := by decide +kernel
theorem dX3_believes_6 : decode cX3_believes 6 = .ok (.aload_n 0, 1) := by decide +kernel
theorem dX3_believes_7 : decode cX3_believes 7 = .ok (.iload_n 2, 1) := by decide +kernel
theorem dX3_believes_8 : decode cX3_believes 8 = .ok (.invokevirtual 115, 3) := by decide +kernel
theorem dX3_believes_11 : decode cX3_believes 11 = .ok (.astore 4, 2) := by decide +kernel
theorem dX3_believes_13 : decode cX3_believes 13 = .ok (.aload_n 3, 1) := by decide +kernel
theorem dX3_believes_14 : decode cX3_believes 14 = .ok (.ifnull 17, 3) := by decide +kernel
theorem dX3_believes_17 : decode cX3_believes 17 = .ok (.aload 4, 2) := by decide +kernel
theorem dX3_believes_19 : decode cX3_believes 19 = .ok (.ifnull 12, 3) := by decide +kernel
theorem dX3_believes_22 : decode cX3_believes 22 = .ok (.aload 4, 2) := by decide +kernel
theorem dX3_believes_24 : decode cX3_believes 24 = .ok (.getfield 78, 3) := by decide +kernel
theorem dX3_believes_27 : decode cX3_believes 27 = .ok (.iload_n 1, 1) := by decide +kernel
theorem dX3_believes_28 : decode cX3_believes 28 = .ok (.if_icmp .eq 5, 3) := by decide +kernel
theorem dX3_believes_31 : decode cX3_believes 31 = .ok (.iconst 0, 1) := by decide +kernel
theorem dX3_believes_32 : decode cX3_believes 32 = .ok (.ireturn, 1) := by decide +kernel
theorem dX3_believes_33 : decode cX3_believes 33 = .ok (.aload_n 3, 1) := by decide +kernel
theorem dX3_believes_34 : decode cX3_believes 34 = .ok (.getfield 81, 3) := by decide +kernel
theorem dX3_believes_37 : decode cX3_believes 37 = .ok (.aload 4, 2) := by decide +kernel
theorem dX3_believes_39 : decode cX3_believes 39 = .ok (.getfield 129, 3) := by decide +kernel
theorem dX3_believes_42 : decode cX3_believes 42 = .ok (.isub, 1) := by decide +kernel
theorem dX3_believes_43 : decode cX3_believes 43 = .ok (.bipush 9, 2) := by decide +kernel
theorem dX3_believes_45 : decode cX3_believes 45 = .ok (.aload 4, 2) := by decide +kernel
theorem dX3_believes_47 : decode cX3_believes 47 = .ok (.getfield 132, 3) := by decide +kernel
theorem dX3_believes_50 : decode cX3_believes 50 = .ok (.imul, 1) := by decide +kernel
theorem dX3_believes_51 : decode cX3_believes 51 = .ok (.if_icmp .ge 7, 3) := by decide +kernel
theorem dX3_believes_54 : decode cX3_believes 54 = .ok (.iconst 1, 1) := by decide +kernel
theorem dX3_believes_55 : decode cX3_believes 55 = .ok (.goto 4, 3) := by decide +kernel
theorem dX3_believes_58 : decode cX3_believes 58 = .ok (.iconst 0, 1) := by decide +kernel
theorem dX3_believes_59 : decode cX3_believes 59 = .ok (.ireturn, 1) := by decide +kernel
set_option maxRecDepth 20000 in
theorem ggX3_write_X3_knownLock : GoodIn wsX3_write wsX3_knownLock := goodIn_r _ [7, 8, 17, 18, 19] (by decide +kernel) (by decide +kernel)
set_option maxRecDepth 20000 in
theorem gX3_write_X3_knownLock : GoodIn wsX3_write (wsV RX3 115 RX3 yX3_knownLock wsX3_knownLock) := goodIn_app (goodIn_of _ (by decide +kernel)) ggX3_write_X3_knownLock
theorem dX3_write_0 : decode cX3_write 0 = .ok (.aload_n 0, 1) := by decide +kernel
theorem dX3_write_1 : decode cX3_write 1 = .ok (.iload_n 1, 1) := by decide +kernel
theorem dX3_write_2 : decode cX3_write 2 = .ok (.invokevirtual 115, 3) := by decide +kernel
theorem dX3_write_5 : decode cX3_write 5 = .ok (.astore 4, 2) := by decide +kernel
theorem dX3_write_7 : decode cX3_write 7 = .ok (.aload 4, 2) := by decide +kernel
theorem dX3_write_9 : decode cX3_write 9 = .ok (.ifnull 17, 3) := by decide +kernel
theorem dX3_write_12 : decode cX3_write 12 = .ok (.iload_n 2, 1) := by decide +kernel
theorem dX3_write_13 : decode cX3_write 13 = .ok (.iconst 1, 1) := by decide +kernel
theorem dX3_write_14 : decode cX3_write 14 = .ok (.if_icmp .lt 12, 3) := by decide +kernel
theorem dX3_write_17 : decode cX3_write 17 = .ok (.iload_n 2, 1) := by decide +kernel
theorem dX3_write_18 : decode cX3_write 18 = .ok (.aload 4, 2) := by decide +kernel
theorem dX3_write_20 : decode cX3_write 20 = .ok (.getfield 135, 3) := by decide +kernel
theorem dX3_write_23 : decode cX3_write 23 = .ok (.if_icmp .ge 5, 3) := by decide +kernel
theorem dX3_write_26 : decode cX3_write 26 = .ok (.iconst 0, 1) := by decide +kernel
theorem dX3_write_27 : decode cX3_write 27 = .ok (.ireturn, 1) := by decide +kernel
end
section
theorem dX3_write_28 : decode cX3_write 28 = .ok (.aload 4, 2) := by decide +kernel
theorem dX3_write_30 : decode cX3_write 30 = .ok (.iload_n 2, 1) := by decide +kernel
theorem dX3_write_31 : decode cX3_write 31 = .ok (.putfield 135, 3) := by decide +kernel
theorem dX3_write_34 : decode cX3_write 34 = .ok (.aload 4, 2) := by decide +kernel
theorem dX3_write_36 : decode cX3_write 36 = .ok (.iload_n 3, 1) := by decide +kernel
theorem dX3_write_37 : decode cX3_write 37 = .ok (.putfield 138, 3) := by decide +kernel
theorem dX3_write_40 : decode cX3_write 40 = .ok (.iconst 1, 1) := by decide +kernel
theorem dX3_write_41 : decode cX3_write 41 = .ok (.ireturn, 1) := by decide +kernel
set_option maxRecDepth 20000 in
theorem ggX3_stored_X3_knownLock : GoodIn wsX3_stored wsX3_knownLock := goodIn_r _ [6, 7, 16, 17, 18] (by decide +kernel) (by decide +kernel)
set_option maxRecDepth 20000 in
theorem gX3_stored_X3_knownLock : GoodIn wsX3_stored (wsV RX3 115 RX3 yX3_knownLock wsX3_knownLock) := goodIn_app (goodIn_of _ (by decide +kernel)) ggX3_stored_X3_knownLock
theorem dX3_stored_0 : decode cX3_stored 0 = .ok (.aload_n 0, 1) := by decide +kernel
theorem dX3_stored_1 : decode cX3_stored 1 = .ok (.iload_n 1, 1) := by decide +kernel
theorem dX3_stored_2 : decode cX3_stored 2 = .ok (.invokevirtual 115, 3) := by decide +kernel
theorem dX3_stored_5 : decode cX3_stored 5 = .ok (.astore_n 2, 1) := by decide +kernel
theorem dX3_stored_6 : decode cX3_stored 6 = .ok (.aload_n 2, 1) := by decide +kernel
theorem dX3_stored_7 : decode cX3_stored 7 = .ok (.ifnonnull 7, 3) := by decide +kernel
theorem dX3_stored_10 : decode cX3_stored 10 = .ok (.iconst 0, 1) := by decide +kernel
theorem dX3_stored_11 : decode cX3_stored 11 = .ok (.goto 7, 3) := by decide +kernel
theorem dX3_stored_14 : decode cX3_stored 14 = .ok (.aload_n 2, 1) := by decide +kernel
theorem dX3_stored_15 : decode cX3_stored 15 = .ok (.getfield 138, 3) := by decide +kernel
theorem dX3_stored_18 : decode cX3_stored 18 = .ok (.ireturn, 1) := by decide +kernel
set_option maxRecDepth 20000 in
theorem ggX3_seen_X3_knownLock : GoodIn wsX3_seen wsX3_knownLock := goodIn_r _ [6, 7, 16, 17, 18] (by decide +kernel) (by decide +kernel)
set_option maxRecDepth 20000 in
theorem gX3_seen_X3_knownLock : GoodIn wsX3_seen (wsV RX3 115 RX3 yX3_knownLock wsX3_knownLock) := goodIn_app (goodIn_of _ (by decide +kernel)) ggX3_seen_X3_knownLock
theorem dX3_seen_0 : decode cX3_seen 0 = .ok (.aload_n 0, 1) := by decide +kernel
theorem dX3_seen_1 : decode cX3_seen 1 = .ok (.iload_n 1, 1) := by decide +kernel
theorem dX3_seen_2 : decode cX3_seen 2 = .ok (.invokevirtual 115, 3) := by decide +kernel
theorem dX3_seen_5 : decode cX3_seen 5 = .ok (.astore_n 2, 1) := by decide +kernel
theorem dX3_seen_6 : decode cX3_seen 6 = .ok (.aload_n 2, 1) := by decide +kernel
theorem dX3_seen_7 : decode cX3_seen 7 = .ok (.ifnonnull 7, 3) := by decide +kernel
theorem dX3_seen_10 : decode cX3_seen 10 = .ok (.iconst (-1), 1) := by decide +kernel
theorem dX3_seen_11 : decode cX3_seen 11 = .ok (.goto 7, 3) := by decide +kernel
theorem dX3_seen_14 : decode cX3_seen 14 = .ok (.aload_n 2, 1) := by decide +kernel
theorem dX3_seen_15 : decode cX3_seen 15 = .ok (.getfield 135, 3) := by decide +kernel
theorem dX3_seen_18 : decode cX3_seen 18 = .ok (.ireturn, 1) := by decide +kernel
theorem dX3_openSession_0 : decode cX3_openSession 0 = .ok (.iload_n 1, 1) := by decide +kernel
theorem dX3_openSession_1 : decode cX3_openSession 1 = .ok (.ifCond .lt 21, 3) := by decide +kernel
theorem dX3_openSession_4 : decode cX3_openSession 4 = .ok (.iload_n 1, 1) := by decide +kernel
theorem dX3_openSession_5 : decode cX3_openSession 5 = .ok (.bipush 6, 2) := by decide +kernel
theorem dX3_openSession_7 : decode cX3_openSession 7 = .ok (.if_icmp .ge 15, 3) := by decide +kernel
theorem dX3_openSession_10 : decode cX3_openSession 10 = .ok (.aload_n 0, 1) := by decide +kernel
theorem dX3_openSession_11 : decode cX3_openSession 11 = .ok (.getfield 11, 3) := by decide +kernel
theorem dX3_openSession_14 : decode cX3_openSession 14 = .ok (.iload_n 1, 1) := by decide +kernel
theorem dX3_openSession_15 : decode cX3_openSession 15 = .ok (.aaload, 1) := by decide +kernel
theorem dX3_openSession_16 : decode cX3_openSession 16 = .ok (.getfield 27, 3) := by decide +kernel
theorem dX3_openSession_19 : decode cX3_openSession 19 = .ok (.ifCond .ne 5, 3) := by decide +kernel
theorem dX3_openSession_22 : decode cX3_openSession 22 = .ok (.aconst_null, 1) := by decide +kernel
theorem dX3_openSession_23 : decode cX3_openSession 23 = .ok (.areturn, 1) := by decide +kernel
theorem dX3_openSession_24 : decode cX3_openSession 24 = .ok (.aload_n 0, 1) := by decide +kernel
theorem dX3_openSession_25 : decode cX3_openSession 25 = .ok (.getfield 11, 3) := by decide +kernel
theorem dX3_openSession_28 : decode cX3_openSession 28 = .ok (.iload_n 1, 1) := by decide +kernel
theorem dX3_openSession_29 : decode cX3_openSession 29 = .ok (.aaload, 1) := by decide +kernel
theorem dX3_openSession_30 : decode cX3_openSession 30 = .ok (.areturn, 1) := by decide +kernel
theorem dX3_knownLock_0 : decode cX3_knownLock 0 = .ok (.iload_n 1, 1) := by decide +kernel
theorem dX3_knownLock_1 : decode cX3_knownLock 1 = .ok (.ifCond .lt 8, 3) := by decide +kernel
theorem dX3_knownLock_4 : decode cX3_knownLock 4 = .ok (.iload_n 1, 1) := by decide +kernel
theorem dX3_knownLock_5 : decode cX3_knownLock 5 = .ok (.iconst 4, 1) := by decide +kernel
theorem dX3_knownLock_6 : decode cX3_knownLock 6 = .ok (.if_icmp .lt 7, 3) := by decide +kernel
theorem dX3_knownLock_9 : decode cX3_knownLock 9 = .ok (.aconst_null, 1) := by decide +kernel
theorem dX3_knownLock_10 : decode cX3_knownLock 10 = .ok (.goto 9, 3) := by decide +kernel
theorem dX3_knownLock_13 : decode cX3_knownLock 13 = .ok (.aload_n 0, 1) := by decide +kernel
theorem dX3_knownLock_14 : decode cX3_knownLock 14 = .ok (.getfield 18, 3) := by decide +kernel
theorem dX3_knownLock_17 : decode cX3_knownLock 17 = .ok (.iload_n 1, 1) := by decide +kernel
theorem dX3_knownLock_18 : decode cX3_knownLock 18 = .ok (.aaload, 1) := by decide +kernel
theorem dX3_knownLock_19 : decode cX3_knownLock 19 = .ok (.areturn, 1) := by decide +kernel
set_option maxRecDepth 20000 in
theorem ggX3_requireSession_X3_openSession : GoodIn wsX3_requireSession wsX3_openSession := goodIn_r _ [7, 8, 9, 10, 11, 12, 13, 14, 15, 16] (by decide +kernel) (by decide +kernel)
set_option maxRecDepth 20000 in
theorem gX3_requireSession_X3_openSession : GoodIn wsX3_requireSession (wsV RX3 53 RX3 yX3_openSession wsX3_openSession) := goodIn_app (goodIn_of _ (by decide +kernel)) ggX3_requireSession_X3_openSession
theorem dX3_requireSession_0 : decode cX3_requireSession 0 = .ok (.aload_n 0, 1) := by decide +kernel
theorem dX3_requireSession_1 : decode cX3_requireSession 1 = .ok (.iload_n 1, 1) := by decide +kernel
theorem dX3_requireSession_2 : decode cX3_requireSession 2 = .ok (.invokevirtual 53, 3) := by decide +kernel
theorem dX3_requireSession_5 : decode cX3_requireSession 5 = .ok (.astore_n 2, 1) := by decide +kernel
theorem dX3_requireSession_6 : decode cX3_requireSession 6 = .ok (.aload_n 2, 1) := by decide +kernel
theorem dX3_requireSession_7 : decode cX3_requireSession 7 = .ok (.ifnonnull 13, 3) := by decide +kernel
theorem dX3_requireSession_10 : decode cX3_requireSession 10 = .ok (.new 141, 3) := by decide +kernel
theorem dX3_requireSession_13 : decode cX3_requireSession 13 = .ok (.dup, 1) := by decide +kernel
theorem dX3_requireSession_14 : decode cX3_requireSession 14 = .ok (.ldc 143, 2) := by decide +kernel
theorem dX3_requireSession_16 : decode cX3_requireSession 16 = .ok (.invokespecial 145, 3) := by decide +kernel
theorem dX3_requireSession_19 : decode cX3_requireSession 19 = .ok (.athrow, 1) := by decide +kernel
theorem dX3_requireSession_20 : decode cX3_requireSession 20 = .ok (.aload_n 2, 1) := by decide +kernel
theorem dX3_requireSession_21 : decode cX3_requireSession 21 = .ok (.areturn, 1) := by decide +kernel
set_option maxRecDepth 20000 in
theorem ggX3_requireLock_X3_knownLock : GoodIn wsX3_requireLock wsX3_knownLock := goodIn_r _ [7, 8, 9, 10, 11] (by decide +kernel) (by decide +kernel)
set_option maxRecDepth 20000 in
theorem gX3_requireLock_X3_knownLock : GoodIn wsX3_requireLock (wsV RX3 115 RX3 yX3_knownLock wsX3_knownLock) := goodIn_app (goodIn_of _ (by decide +kernel)) ggX3_requireLock_X3_knownLock
theorem dX3_requireLock_0 : decode cX3_requireLock 0 = .ok (.aload_n 0, 1) := by decide +kernel
theorem dX3_requireLock_1 : decode cX3_requireLock 1 = .ok (.iload_n 1, 1) := by decide +kernel
theorem dX3_requireLock_2 : decode cX3_requireLock 2 = .ok (.invokevirtual 115, 3) := by decide +kernel
theorem dX3_requireLock_5 : decode cX3_requireLock 5 = .ok (.astore_n 2, 1) := by decide +kernel
theorem dX3_requireLock_6 : decode cX3_requireLock 6 = .ok (.aload_n 2, 1) := by decide +kernel
theorem dX3_requireLock_7 : decode cX3_requireLock 7 = .ok (.ifnonnull 13, 3) := by decide +kernel
theorem dX3_requireLock_10 : decode cX3_requireLock 10 = .ok (.new 73, 3) := by decide +kernel
theorem dX3_requireLock_13 : decode cX3_requireLock 13 = .ok (.dup, 1) := by decide +kernel
theorem dX3_requireLock_14 : decode cX3_requireLock 14 = .ok (.ldc 146, 2) := by decide +kernel
theorem dX3_requireLock_16 : decode cX3_requireLock 16 = .ok (.invokespecial 77, 3) := by decide +kernel
theorem dX3_requireLock_19 : decode cX3_requireLock 19 = .ok (.athrow, 1) := by decide +kernel
theorem dX3_requireLock_20 : decode cX3_requireLock 20 = .ok (.aload_n 2, 1) := by decide +kernel
theorem dX3_requireLock_21 : decode cX3_requireLock 21 = .ok (.areturn, 1) := by decide +kernel
theorem dX3_moveClocks_0 : decode cX3_moveClocks 0 = .ok (.aload_n 0, 1) := by decide +kernel
theorem dX3_moveClocks_1 : decode cX3_moveClocks 1 = .ok (.getfield 11, 3) := by decide +kernel
theorem dX3_moveClocks_4 : decode cX3_moveClocks 4 = .ok (.astore_n 2, 1) := by decide +kernel
theorem dX3_moveClocks_5 : decode cX3_moveClocks 5 = .ok (.aload_n 2, 1) := by decide +kernel
theorem dX3_moveClocks_6 : decode cX3_moveClocks 6 = .ok (.arraylength, 1) := by decide +kernel
theorem dX3_moveClocks_7 : decode cX3_moveClocks 7 = .ok (.istore_n 3, 1) := by decide +kernel
theorem dX3_moveClocks_8 : decode cX3_moveClocks 8 = .ok (.iconst 0, 1) := by decide +kernel
theorem dX3_moveClocks_9 : decode cX3_moveClocks 9 = .ok (.istore 4, 2) := by decide +kernel
theorem dX3_moveClocks_11 : decode cX3_moveClocks 11 = .ok (.iload 4, 2) := by decide +kernel
theorem dX3_moveClocks_13 : decode cX3_moveClocks 13 = .ok (.iload_n 3, 1) := by decide +kernel
theorem dX3_moveClocks_14 : decode cX3_moveClocks 14 = .ok (.if_icmp .ge 40, 3) := by decide +kernel
theorem dX3_moveClocks_17 : decode cX3_moveClocks 17 = .ok (.aload_n 2, 1) := by decide +kernel
theorem dX3_moveClocks_18 : decode cX3_moveClocks 18 = .ok (.iload 4, 2) := by decide +kernel
theorem dX3_moveClocks_20 : decode cX3_moveClocks 20 = .ok (.aaload, 1) := by decide +kernel
theorem dX3_moveClocks_21 : decode cX3_moveClocks 21 = .ok (.astore 5, 2) := by decide +kernel
theorem dX3_moveClocks_23 : decode cX3_moveClocks 23 = .ok (.aload 5, 2) := by decide +kernel
theorem dX3_moveClocks_25 : decode cX3_moveClocks 25 = .ok (.getfield 27, 3) := by decide +kernel
theorem dX3_moveClocks_28 : decode cX3_moveClocks 28 = .ok (.ifCond .eq 20, 3) := by decide +kernel
theorem dX3_moveClocks_31 : decode cX3_moveClocks 31 = .ok (.aload 5, 2) := by decide +kernel
theorem dX3_moveClocks_33 : decode cX3_moveClocks 33 = .ok (.dup, 1) := by decide +kernel
theorem dX3_moveClocks_34 : decode cX3_moveClocks 34 = .ok (.getfield 81, 3) := by decide +kernel
theorem dX3_moveClocks_37 : decode cX3_moveClocks 37 = .ok (.aload 5, 2) := by decide +kernel
theorem dX3_moveClocks_39 : decode cX3_moveClocks 39 = .ok (.getfield 56, 3) := by decide +kernel
theorem dX3_moveClocks_42 : decode cX3_moveClocks 42 = .ok (.iload_n 1, 1) := by decide +kernel
theorem dX3_moveClocks_43 : decode cX3_moveClocks 43 = .ok (.imul, 1) := by decide +kernel
theorem dX3_moveClocks_44 : decode cX3_moveClocks 44 = .ok (.iadd, 1) := by decide +kernel
theorem dX3_moveClocks_45 : decode cX3_moveClocks 45 = .ok (.putfield 81, 3) := by decide +kernel
theorem dX3_moveClocks_48 : decode cX3_moveClocks 48 = .ok (.iinc 4 1, 3) := by decide +kernel
theorem dX3_moveClocks_51 : decode cX3_moveClocks 51 = .ok (.goto (-40), 3) := by decide +kernel
theorem dX3_moveClocks_54 : decode cX3_moveClocks 54 = .ok (.return_, 1) := by decide +kernel
set_option maxRecDepth 20000 in
theorem ggX3_endSilentSessions_X3_endSession : GoodIn wsX3_endSilentSessions wsX3_endSession := goodIn_r _ [9, 10, 11, 12, 2, 13, 14, 15, 16, 17, 18, 19, 20, 21, 22, 23, 24, 25, 26, 27, 8, 28, 3, 29, 30, 31, 32, 33, 34, 35, 36, 37, 38, 39, 40, 41, 42, 43, 44, 45, 46, 47, 48, 49, 1, 50, 51, 52, 53, 54, 55, 56, 57, 58, 59, 60, 61, 62, 63, 64, 65, 66, 71, 72, 73, 74, 75, 76, 77, 78, 67, 68, 69, 70, 79, 80, 81] (by decide +kernel) (by decide +kernel)
set_option maxRecDepth 20000 in
theorem gX3_endSilentSessions_X3_endSession : GoodIn wsX3_endSilentSessions (wsV RX3 46 RX3 yX3_endSession wsX3_endSession) := goodIn_app (goodIn_of _ (by decide +kernel)) ggX3_endSilentSessions_X3_endSession
theorem dX3_endSilentSessions_0 : decode cX3_endSilentSessions 0 = .ok (.iconst 0, 1) := by decide +kernel
theorem dX3_endSilentSessions_1 : decode cX3_endSilentSessions 1 = .ok (.istore_n 1, 1) := by decide +kernel
theorem dX3_endSilentSessions_2 : decode cX3_endSilentSessions 2 = .ok (.iconst 0, 1) := by decide +kernel
theorem dX3_endSilentSessions_3 : decode cX3_endSilentSessions 3 = .ok (.istore_n 2, 1) := by decide +kernel
theorem dX3_endSilentSessions_4 : decode cX3_endSilentSessions 4 = .ok (.iload_n 2, 1) := by decide +kernel
theorem dX3_endSilentSessions_5 : decode cX3_endSilentSessions 5 = .ok (.bipush 6, 2) := by decide +kernel
theorem dX3_endSilentSessions_7 : decode cX3_endSilentSessions 7 = .ok (.if_icmp .ge 46, 3) := by decide +kernel
theorem dX3_endSilentSessions_10 : decode cX3_endSilentSessions 10 = .ok (.aload_n 0, 1) := by decide +kernel
theorem dX3_endSilentSessions_11 : decode cX3_endSilentSessions 11 = .ok (.getfield 11, 3) := by decide +kernel
theorem dX3_endSilentSessions_14 : decode cX3_endSilentSessions 14 = .ok (.iload_n 2, 1) := by decide +kernel
theorem dX3_endSilentSessions_15 : decode cX3_endSilentSessions 15 = .ok (.aaload, 1) := by decide +kernel
theorem dX3_endSilentSessions_16 : decode cX3_endSilentSessions 16 = .ok (.astore_n 3, 1) := by decide +kernel
theorem dX3_endSilentSessions_17 : decode cX3_endSilentSessions 17 = .ok (.aload_n 3, 1) := by decide +kernel
theorem dX3_endSilentSessions_18 : decode cX3_endSilentSessions 18 = .ok (.getfield 27, 3) := by decide +kernel
theorem dX3_endSilentSessions_21 : decode cX3_endSilentSessions 21 = .ok (.ifCond .eq 26, 3) := by decide +kernel
theorem dX3_endSilentSessions_24 : decode cX3_endSilentSessions 24 = .ok (.aload_n 0, 1) := by decide +kernel
theorem dX3_endSilentSessions_25 : decode cX3_endSilentSessions 25 = .ok (.getfield 23, 3) := by decide +kernel
theorem dX3_endSilentSessions_28 : decode cX3_endSilentSessions 28 = .ok (.aload_n 3, 1) := by decide +kernel
theorem dX3_endSilentSessions_29 : decode cX3_endSilentSessions 29 = .ok (.getfield 50, 3) := by decide +kernel
theorem dX3_endSilentSessions_32 : decode cX3_endSilentSessions 32 = .ok (.isub, 1) := by decide +kernel
theorem dX3_endSilentSessions_33 : decode cX3_endSilentSessions 33 = .ok (.bipush 50, 2) := by decide +kernel
theorem dX3_endSilentSessions_35 : decode cX3_endSilentSessions 35 = .ok (.if_icmp .le 12, 3) := by decide +kernel
theorem dX3_endSilentSessions_38 : decode cX3_endSilentSessions 38 = .ok (.iload_n 1, 1) := by decide +kernel
theorem dX3_endSilentSessions_39 : decode cX3_endSilentSessions 39 = .ok (.aload_n 0, 1) := by decide +kernel
theorem dX3_endSilentSessions_40 : decode cX3_endSilentSessions 40 = .ok (.aload_n 3, 1) := by decide +kernel
theorem dX3_endSilentSessions_41 : decode cX3_endSilentSessions 41 = .ok (.iload_n 2, 1) := by decide +kernel
theorem dX3_endSilentSessions_42 : decode cX3_endSilentSessions 42 = .ok (.invokevirtual 46, 3) := by decide +kernel
theorem dX3_endSilentSessions_45 : decode cX3_endSilentSessions 45 = .ok (.iadd, 1) := by decide +kernel
theorem dX3_endSilentSessions_46 : decode cX3_endSilentSessions 46 = .ok (.istore_n 1, 1) := by decide +kernel
theorem dX3_endSilentSessions_47 : decode cX3_endSilentSessions 47 = .ok (.iinc 2 1, 3) := by decide +kernel
theorem dX3_endSilentSessions_50 : decode cX3_endSilentSessions 50 = .ok (.goto (-46), 3) := by decide +kernel
theorem dX3_endSilentSessions_53 : decode cX3_endSilentSessions 53 = .ok (.iload_n 1, 1) := by decide +kernel
theorem dX3_endSilentSessions_54 : decode cX3_endSilentSessions 54 = .ok (.ireturn, 1) := by decide +kernel
set_option maxRecDepth 20000 in
theorem ggX3_passOnLeasesDue_X0_isFree : GoodIn wsX3_passOnLeasesDue wsX0_isFree := goodIn_r _ [8, 9, 67, 68, 69, 70, 71, 72, 73, 74] (by decide +kernel) (by decide +kernel)
set_option maxRecDepth 20000 in
theorem gX3_passOnLeasesDue_X0_isFree : GoodIn wsX3_passOnLeasesDue (wsV RX3 91 RX0 yX0_isFree wsX0_isFree) := goodIn_app (goodIn_of _ (by decide +kernel)) ggX3_passOnLeasesDue_X0_isFree
set_option maxRecDepth 20000 in
theorem ggX3_passOnLeasesDue_X3_passOn : GoodIn wsX3_passOnLeasesDue wsX3_passOn := goodIn_r _ [14, 15, 16, 3, 17, 18, 19, 20, 21, 22, 23, 24, 25, 26, 27, 28, 29, 30, 31, 32, 33, 34, 35, 36, 37, 38, 39, 40, 41, 42, 43, 13, 44, 45, 46, 47, 48, 49, 50, 51, 52, 53, 54, 7, 55, 9, 56, 57, 58, 59, 60, 61, 62, 63, 67, 68, 69, 70, 71, 72, 73, 74, 64, 65, 66, 75, 76, 77, 78, 79, 80, 81] (by decide +kernel) (by decide +kernel)
set_option maxRecDepth 20000 in
theorem gX3_passOnLeasesDue_X3_passOn : GoodIn wsX3_passOnLeasesDue (wsV RX3 111 RX3 yX3_passOn wsX3_passOn) := goodIn_app (goodIn_of _ (by decide +kernel)) ggX3_passOnLeasesDue_X3_passOn
theorem dX3_passOnLeasesDue_0 : decode cX3_passOnLeasesDue 0 = .ok (.iconst 0, 1) := by decide +kernel
theorem dX3_passOnLeasesDue_1 : decode cX3_passOnLeasesDue 1 = .ok (.istore_n 1, 1) := by decide +kernel
theorem dX3_passOnLeasesDue_2 : decode cX3_passOnLeasesDue 2 = .ok (.aload_n 0, 1) := by decide +kernel
theorem dX3_passOnLeasesDue_3 : decode cX3_passOnLeasesDue 3 = .ok (.getfield 18, 3) := by decide +kernel
theorem dX3_passOnLeasesDue_6 : decode cX3_passOnLeasesDue 6 = .ok (.astore_n 2, 1) := by decide +kernel
theorem dX3_passOnLeasesDue_7 : decode cX3_passOnLeasesDue 7 = .ok (.aload_n 2, 1) := by decide +kernel
theorem dX3_passOnLeasesDue_8 : decode cX3_passOnLeasesDue 8 = .ok (.arraylength, 1) := by decide +kernel
theorem dX3_passOnLeasesDue_9 : decode cX3_passOnLeasesDue 9 = .ok (.istore_n 3, 1) := by decide +kernel
theorem dX3_passOnLeasesDue_10 : decode cX3_passOnLeasesDue 10 = .ok (.iconst 0, 1) := by decide +kernel
theorem dX3_passOnLeasesDue_11 : decode cX3_passOnLeasesDue 11 = .ok (.istore 4, 2) := by decide +kernel
theorem dX3_passOnLeasesDue_13 : decode cX3_passOnLeasesDue 13 = .ok (.iload 4, 2) := by decide +kernel
theorem dX3_passOnLeasesDue_15 : decode cX3_passOnLeasesDue 15 = .ok (.iload_n 3, 1) := by decide +kernel
theorem dX3_passOnLeasesDue_16 : decode cX3_passOnLeasesDue 16 = .ok (.if_icmp .ge 44, 3) := by decide +kernel
theorem dX3_passOnLeasesDue_19 : decode cX3_passOnLeasesDue 19 = .ok (.aload_n 2, 1) := by decide +kernel
theorem dX3_passOnLeasesDue_20 : decode cX3_passOnLeasesDue 20 = .ok (.iload 4, 2) := by decide +kernel
theorem dX3_passOnLeasesDue_22 : decode cX3_passOnLeasesDue 22 = .ok (.aaload, 1) := by decide +kernel
theorem dX3_passOnLeasesDue_23 : decode cX3_passOnLeasesDue 23 = .ok (.astore 5, 2) := by decide +kernel
theorem dX3_passOnLeasesDue_25 : decode cX3_passOnLeasesDue 25 = .ok (.aload 5, 2) := by decide +kernel
theorem dX3_passOnLeasesDue_27 : decode cX3_passOnLeasesDue 27 = .ok (.invokevirtual 91, 3) := by decide +kernel
theorem dX3_passOnLeasesDue_30 : decode cX3_passOnLeasesDue 30 = .ok (.ifCond .ne 24, 3) := by decide +kernel
theorem dX3_passOnLeasesDue_33 : decode cX3_passOnLeasesDue 33 = .ok (.aload 5, 2) := by decide +kernel
theorem dX3_passOnLeasesDue_35 : decode cX3_passOnLeasesDue 35 = .ok (.getfield 122, 3) := by decide +kernel
theorem dX3_passOnLeasesDue_38 : decode cX3_passOnLeasesDue 38 = .ok (.aload_n 0, 1) := by decide +kernel
theorem dX3_passOnLeasesDue_39 : decode cX3_passOnLeasesDue 39 = .ok (.getfield 23, 3) := by decide +kernel
theorem dX3_passOnLeasesDue_42 : decode cX3_passOnLeasesDue 42 = .ok (.if_icmp .gt 12, 3) := by decide +kernel
theorem dX3_passOnLeasesDue_45 : decode cX3_passOnLeasesDue 45 = .ok (.aload_n 0, 1) := by decide +kernel
theorem dX3_passOnLeasesDue_46 : decode cX3_passOnLeasesDue 46 = .ok (.aload 5, 2) := by decide +kernel
theorem dX3_passOnLeasesDue_48 : decode cX3_passOnLeasesDue 48 = .ok (.invokevirtual 111, 3) := by decide +kernel
theorem dX3_passOnLeasesDue_51 : decode cX3_passOnLeasesDue 51 = .ok (.iinc 1 1, 3) := by decide +kernel
theorem dX3_passOnLeasesDue_54 : decode cX3_passOnLeasesDue 54 = .ok (.iinc 4 1, 3) := by decide +kernel
theorem dX3_passOnLeasesDue_57 : decode cX3_passOnLeasesDue 57 = .ok (.goto (-44), 3) := by decide +kernel
theorem dX3_passOnLeasesDue_60 : decode cX3_passOnLeasesDue 60 = .ok (.iload_n 1, 1) := by decide +kernel
theorem dX3_passOnLeasesDue_61 : decode cX3_passOnLeasesDue 61 = .ok (.ireturn, 1) := by decide +kernel
set_option maxRecDepth 20000 in
theorem ggX3_endSession_X1_drop : GoodIn wsX3_endSession wsX1_drop := goodIn_r _ [9, 10, 11, 12, 13, 14, 15, 8, 16, 74, 75, 76] (by decide +kernel) (by decide +kernel)
set_option maxRecDepth 20000 in
theorem gX3_endSession_X1_drop : GoodIn wsX3_endSession (wsV RX3 118 RX1 yX1_drop wsX1_drop) := goodIn_app (goodIn_of _ (by decide +kernel)) ggX3_endSession_X1_drop
set_option maxRecDepth 20000 in
theorem ggX3_endSession_X3_passOn : GoodIn wsX3_endSession wsX3_passOn := goodIn_r _ [21, 3, 2, 22, 23, 24, 25, 8, 26, 11, 27, 28, 29, 30, 10, 31, 32, 33, 34, 12, 5, 6, 7, 9, 13, 14, 15, 16, 35, 36, 37, 20, 38, 39, 40, 41, 42, 43, 44, 4, 45, 46, 47, 48, 49, 50, 51, 52, 53, 54, 55, 56, 57, 58, 62, 63, 64, 65, 66, 67, 68, 69, 59, 60, 61, 74, 75, 76, 70, 71, 72, 73] (by decide +kernel) (by decide +kernel)
set_option maxRecDepth 20000 in
theorem gX3_endSession_X3_passOn : GoodIn wsX3_endSession (wsV RX3 111 RX3 yX3_passOn wsX3_passOn) := goodIn_app (goodIn_of _ (by decide +kernel)) ggX3_endSession_X3_passOn
theorem dX3_endSession_0 : decode cX3_endSession 0 = .ok (.aload_n 0, 1) := by decide +kernel
theorem dX3_endSession_1 : decode cX3_endSession 1 = .ok (.getfield 18, 3) := by decide +kernel
theorem dX3_endSession_4 : decode cX3_endSession 4 = .ok (.astore_n 3, 1) := by decide +kernel
theorem dX3_endSession_5 : decode cX3_endSession 5 = .ok (.aload_n 3, 1) := by decide +kernel
theorem dX3_endSession_6 : decode cX3_endSession 6 = .ok (.arraylength, 1) := by decide +kernel
theorem dX3_endSession_7 : decode cX3_endSession 7 = .ok (.istore 4, 2) := by decide +kernel
theorem dX3_endSession_9 : decode cX3_endSession 9 = .ok (.iconst 0, 1) := by decide +kernel
theorem dX3_endSession_10 : decode cX3_endSession 10 = .ok (.istore 5, 2) := by decide +kernel
theorem dX3_endSession_12 : decode cX3_endSession 12 = .ok (.iload 5, 2) := by decide +kernel
theorem dX3_endSession_14 : decode cX3_endSession 14 = .ok (.iload 4, 2) := by decide +kernel
theorem dX3_endSession_16 : decode cX3_endSession 16 = .ok (.if_icmp .ge 25, 3) := by decide +kernel
theorem dX3_endSession_19 : decode cX3_endSession 19 = .ok (.aload_n 3, 1) := by decide +kernel
theorem dX3_endSession_20 : decode cX3_endSession 20 = .ok (.iload 5, 2) := by decide +kernel
theorem dX3_endSession_22 : decode cX3_endSession 22 = .ok (.aaload, 1) := by decide +kernel
theorem dX3_endSession_23 : decode cX3_endSession 23 = .ok (.astore 6, 2) := by decide +kernel
theorem dX3_endSession_25 : decode cX3_endSession 25 = .ok (.aload 6, 2) := by decide +kernel
theorem dX3_endSession_27 : decode cX3_endSession 27 = .ok (.getfield 99, 3) := by decide +kernel
theorem dX3_endSession_30 : decode cX3_endSession 30 = .ok (.iload_n 2, 1) := by decide +kernel
theorem dX3_endSession_31 : decode cX3_endSession 31 = .ok (.invokevirtual 118, 3) := by decide +kernel
theorem dX3_endSession_34 : decode cX3_endSession 34 = .ok (.pop, 1) := by decide +kernel
theorem dX3_endSession_35 : decode cX3_endSession 35 = .ok (.iinc 5 1, 3) := by decide +kernel
theorem dX3_endSession_38 : decode cX3_endSession 38 = .ok (.goto (-26), 3) := by decide +kernel
theorem dX3_endSession_41 : decode cX3_endSession 41 = .ok (.iconst 0, 1) := by decide +kernel
theorem dX3_endSession_42 : decode cX3_endSession 42 = .ok (.istore_n 3, 1) := by decide +kernel
theorem dX3_endSession_43 : decode cX3_endSession 43 = .ok (.aload_n 0, 1) := by decide +kernel
theorem dX3_endSession_44 : decode cX3_endSession 44 = .ok (.getfield 18, 3) := by decide +kernel
theorem dX3_endSession_47 : decode cX3_endSession 47 = .ok (.astore 4, 2) := by decide +kernel
theorem dX3_endSession_49 : decode cX3_endSession 49 = .ok (.aload 4, 2) := by decide +kernel
theorem dX3_endSession_51 : decode cX3_endSession 51 = .ok (.arraylength, 1) := by decide +kernel
theorem dX3_endSession_52 : decode cX3_endSession 52 = .ok (.istore 5, 2) := by decide +kernel
theorem dX3_endSession_54 : decode cX3_endSession 54 = .ok (.iconst 0, 1) := by decide +kernel
theorem dX3_endSession_55 : decode cX3_endSession 55 = .ok (.istore 6, 2) := by decide +kernel
theorem dX3_endSession_57 : decode cX3_endSession 57 = .ok (.iload 6, 2) := by decide +kernel
theorem dX3_endSession_59 : decode cX3_endSession 59 = .ok (.iload 5, 2) := by decide +kernel
theorem dX3_endSession_61 : decode cX3_endSession 61 = .ok (.if_icmp .ge 34, 3) := by decide +kernel
theorem dX3_endSession_64 : decode cX3_endSession 64 = .ok (.aload 4, 2) := by decide +kernel
theorem dX3_endSession_66 : decode cX3_endSession 66 = .ok (.iload 6, 2) := by decide +kernel
theorem dX3_endSession_68 : decode cX3_endSession 68 = .ok (.aaload, 1) := by decide +kernel
theorem dX3_endSession_69 : decode cX3_endSession 69 = .ok (.astore 7, 2) := by decide +kernel
theorem dX3_endSession_71 : decode cX3_endSession 71 = .ok (.aload 7, 2) := by decide +kernel
theorem dX3_endSession_73 : decode cX3_endSession 73 = .ok (.getfield 78, 3) := by decide +kernel
theorem dX3_endSession_76 : decode cX3_endSession 76 = .ok (.iload_n 2, 1) := by decide +kernel
theorem dX3_endSession_77 : decode cX3_endSession 77 = .ok (.if_icmp .ne 12, 3) := by decide +kernel
theorem dX3_endSession_80 : decode cX3_endSession 80 = .ok (.aload_n 0, 1) := by decide +kernel
theorem dX3_endSession_81 : decode cX3_endSession 81 = .ok (.aload 7, 2) := by decide +kernel
theorem dX3_endSession_83 : decode cX3_endSession 83 = .ok (.invokevirtual 111, 3) := by decide +kernel
theorem dX3_endSession_86 : decode cX3_endSession 86 = .ok (.iinc 3 1, 3) := by decide +kernel
theorem dX3_endSession_89 : decode cX3_endSession 89 = .ok (.iinc 6 1, 3) := by decide +kernel
theorem dX3_endSession_92 : decode cX3_endSession 92 = .ok (.goto (-35), 3) := by decide +kernel
theorem dX3_endSession_95 : decode cX3_endSession 95 = .ok (.aload_n 1, 1) := by decide +kernel
theorem dX3_endSession_96 : decode cX3_endSession 96 = .ok (.iconst 0, 1) := by decide +kernel
theorem dX3_endSession_97 : decode cX3_endSession 97 = .ok (.putfield 27, 3) := by decide +kernel
theorem dX3_endSession_100 : decode cX3_endSession 100 = .ok (.iload_n 3, 1) := by decide +kernel
theorem dX3_endSession_101 : decode cX3_endSession 101 = .ok (.ireturn, 1) := by decide +kernel
set_option maxRecDepth 20000 in
theorem ggX3_passOn_X1_slotAt : GoodIn wsX3_passOn wsX1_slotAt := goodIn_r _ [8, 9, 10, 11, 12, 7, 13, 14, 65, 66, 67] (by decide +kernel) (by decide +kernel)
set_option maxRecDepth 20000 in
theorem gX3_passOn_X1_slotAt : GoodIn wsX3_passOn (wsV RX3 125 RX1 yX1_slotAt wsX1_slotAt) := goodIn_app (goodIn_of _ (by decide +kernel)) ggX3_passOn_X1_slotAt
set_option maxRecDepth 20000 in
theorem ggX3_passOn_X1_termAt : GoodIn wsX3_passOn wsX1_termAt := goodIn_r _ [18, 19, 10, 11, 12, 7, 13, 14, 65, 66, 67] (by decide +kernel) (by decide +kernel)
set_option maxRecDepth 20000 in
theorem gX3_passOn_X1_termAt : GoodIn wsX3_passOn (wsV RX3 148 RX1 yX1_termAt wsX1_termAt) := goodIn_app (goodIn_of _ (by decide +kernel)) ggX3_passOn_X1_termAt
set_option maxRecDepth 20000 in
theorem ggX3_passOn_X1_drop : GoodIn wsX3_passOn wsX1_drop := goodIn_r _ [23, 14, 9, 19, 24, 25, 26, 7, 27, 65, 66, 67] (by decide +kernel) (by decide +kernel)
set_option maxRecDepth 20000 in
theorem gX3_passOn_X1_drop : GoodIn wsX3_passOn (wsV RX3 118 RX1 yX1_drop wsX1_drop) := goodIn_app (goodIn_of _ (by decide +kernel)) ggX3_passOn_X1_drop
set_option maxRecDepth 20000 in
theorem ggX3_passOn_X3_clock : GoodIn wsX3_passOn wsX3_clock := goodIn_r _ [32, 33, 34, 35, 36, 31, 37, 38, 39, 68, 69, 70, 71, 62, 63, 64] (by decide +kernel) (by decide +kernel)
set_option maxRecDepth 20000 in
theorem gX3_passOn_X3_clock : GoodIn wsX3_passOn (wsV RX3 151 RX3 yX3_clock wsX3_clock) := goodIn_app (goodIn_of _ (by decide +kernel)) ggX3_passOn_X3_clock
set_option maxRecDepth 20000 in
theorem ggX3_passOn_X0_lend : GoodIn wsX3_passOn wsX0_lend := goodIn_r _ [44, 45, 46, 47, 48, 49, 43, 50, 51, 52, 53, 54, 55, 56, 57, 58, 59, 60, 61] (by decide +kernel) (by decide +kernel)
set_option maxRecDepth 20000 in
theorem gX3_passOn_X0_lend : GoodIn wsX3_passOn (wsV RX3 95 RX0 yX0_lend wsX0_lend) := goodIn_app (goodIn_of _ (by decide +kernel)) ggX3_passOn_X0_lend
theorem dX3_passOn_0 : decode cX3_passOn 0 = .ok (.aload_n 1, 1) := by decide +kernel
theorem dX3_passOn_1 : decode cX3_passOn 1 = .ok (.iconst (-1), 1) := by decide +kernel
theorem dX3_passOn_2 : decode cX3_passOn 2 = .ok (.putfield 78, 3) := by decide +kernel
theorem dX3_passOn_5 : decode cX3_passOn 5 = .ok (.aload_n 1, 1) := by decide +kernel
theorem dX3_passOn_6 : decode cX3_passOn 6 = .ok (.getfield 99, 3) := by decide +kernel
theorem dX3_passOn_9 : decode cX3_passOn 9 = .ok (.iconst 0, 1) := by decide +kernel
theorem dX3_passOn_10 : decode cX3_passOn 10 = .ok (.invokevirtual 125, 3) := by decide +kernel
theorem dX3_passOn_13 : decode cX3_passOn 13 = .ok (.istore_n 2, 1) := by decide +kernel
theorem dX3_passOn_14 : decode cX3_passOn 14 = .ok (.iload_n 2, 1) := by decide +kernel
theorem dX3_passOn_15 : decode cX3_passOn 15 = .ok (.iconst (-1), 1) := by decide +kernel
theorem dX3_passOn_16 : decode cX3_passOn 16 = .ok (.if_icmp .eq 36, 3) := by decide +kernel
theorem dX3_passOn_19 : decode cX3_passOn 19 = .ok (.aload_n 1, 1) := by decide +kernel
theorem dX3_passOn_20 : decode cX3_passOn 20 = .ok (.getfield 99, 3) := by decide +kernel
theorem dX3_passOn_23 : decode cX3_passOn 23 = .ok (.iconst 0, 1) := by decide +kernel
theorem dX3_passOn_24 : decode cX3_passOn 24 = .ok (.invokevirtual 148, 3) := by decide +kernel
theorem dX3_passOn_27 : decode cX3_passOn 27 = .ok (.istore_n 3, 1) := by decide +kernel
theorem dX3_passOn_28 : decode cX3_passOn 28 = .ok (.aload_n 1, 1) := by decide +kernel
theorem dX3_passOn_29 : decode cX3_passOn 29 = .ok (.getfield 99, 3) := by decide +kernel
theorem dX3_passOn_32 : decode cX3_passOn 32 = .ok (.iload_n 2, 1) := by decide +kernel
theorem dX3_passOn_33 : decode cX3_passOn 33 = .ok (.invokevirtual 118, 3) := by decide +kernel
theorem dX3_passOn_36 : decode cX3_passOn 36 = .ok (.pop, 1) := by decide +kernel
theorem dX3_passOn_37 : decode cX3_passOn 37 = .ok (.aload_n 1, 1) := by decide +kernel
theorem dX3_passOn_38 : decode cX3_passOn 38 = .ok (.iload_n 2, 1) := by decide +kernel
theorem dX3_passOn_39 : decode cX3_passOn 39 = .ok (.iload_n 3, 1) := by decide +kernel
theorem dX3_passOn_40 : decode cX3_passOn 40 = .ok (.aload_n 0, 1) := by decide +kernel
theorem dX3_passOn_41 : decode cX3_passOn 41 = .ok (.getfield 23, 3) := by decide +kernel
theorem dX3_passOn_44 : decode cX3_passOn 44 = .ok (.aload_n 0, 1) := by decide +kernel
theorem dX3_passOn_45 : decode cX3_passOn 45 = .ok (.iload_n 2, 1) := by decide +kernel
theorem dX3_passOn_46 : decode cX3_passOn 46 = .ok (.invokevirtual 151, 3) := by decide +kernel
theorem dX3_passOn_49 : decode cX3_passOn 49 = .ok (.invokevirtual 95, 3) := by decide +kernel
theorem dX3_passOn_52 : decode cX3_passOn 52 = .ok (.return_, 1) := by decide +kernel
theorem dX4_init_0 : decode cX4_init 0 = .ok (.aload_n 0, 1) := by decide +kernel
theorem dX4_init_1 : decode cX4_init 1 = .ok (.invokespecial 1, 3) := by decide +kernel
theorem dX4_init_4 : decode cX4_init 4 = .ok (.aload_n 0, 1) := by decide +kernel
theorem dX4_init_5 : decode cX4_init 5 = .ok (.bipush 6, 2) := by decide +kernel
theorem dX4_init_7 : decode cX4_init 7 = .ok (.newarray .boolean, 2) := by decide +kernel
theorem dX4_init_9 : decode cX4_init 9 = .ok (.putfield 9, 3) := by decide +kernel
theorem dX4_init_12 : decode cX4_init 12 = .ok (.aload_n 0, 1) := by decide +kernel
theorem dX4_init_13 : decode cX4_init 13 = .ok (.bipush 6, 2) := by decide +kernel
theorem dX4_init_15 : decode cX4_init 15 = .ok (.newarray .int, 2) := by decide +kernel
theorem dX4_init_17 : decode cX4_init 17 = .ok (.putfield 13, 3) := by decide +kernel
theorem dX4_init_20 : decode cX4_init 20 = .ok (.aload_n 0, 1) := by decide +kernel
theorem dX4_init_21 : decode cX4_init 21 = .ok (.bipush 6, 2) := by decide +kernel
theorem dX4_init_23 : decode cX4_init 23 = .ok (.newarray .int, 2) := by decide +kernel
theorem dX4_init_25 : decode cX4_init 25 = .ok (.putfield 17, 3) := by decide +kernel
theorem dX4_init_28 : decode cX4_init 28 = .ok (.aload_n 0, 1) := by decide +kernel
theorem dX4_init_29 : decode cX4_init 29 = .ok (.bipush 6, 2) := by decide +kernel
theorem dX4_init_31 : decode cX4_init 31 = .ok (.newarray .int, 2) := by decide +kernel
theorem dX4_init_33 : decode cX4_init 33 = .ok (.putfield 20, 3) := by decide +kernel
theorem dX4_init_36 : decode cX4_init 36 = .ok (.aload_n 0, 1) := by decide +kernel
theorem dX4_init_37 : decode cX4_init 37 = .ok (.iconst 4, 1) := by decide +kernel
theorem dX4_init_38 : decode cX4_init 38 = .ok (.newarray .int, 2) := by decide +kernel
theorem dX4_init_40 : decode cX4_init 40 = .ok (.putfield 23, 3) := by decide +kernel
theorem dX4_init_43 : decode cX4_init 43 = .ok (.aload_n 0, 1) := by decide +kernel
theorem dX4_init_44 : decode cX4_init 44 = .ok (.iconst 4, 1) := by decide +kernel
theorem dX4_init_45 : decode cX4_init 45 = .ok (.newarray .int, 2) := by decide +kernel
theorem dX4_init_47 : decode cX4_init 47 = .ok (.putfield 26, 3) := by decide +kernel
theorem dX4_init_50 : decode cX4_init 50 = .ok (.aload_n 0, 1) := by decide +kernel
theorem dX4_init_51 : decode cX4_init 51 = .ok (.iconst 4, 1) := by decide +kernel
theorem dX4_init_52 : decode cX4_init 52 = .ok (.newarray .int, 2) := by decide +kernel
theorem dX4_init_54 : decode cX4_init 54 = .ok (.putfield 29, 3) := by decide +kernel
theorem dX4_init_57 : decode cX4_init 57 = .ok (.aload_n 0, 1) := by decide +kernel
theorem dX4_init_58 : decode cX4_init 58 = .ok (.iconst 4, 1) := by decide +kernel
theorem dX4_init_59 : decode cX4_init 59 = .ok (.newarray .int, 2) := by decide +kernel
theorem dX4_init_61 : decode cX4_init 61 = .ok (.putfield 32, 3) := by decide +kernel
theorem dX4_init_64 : decode cX4_init 64 = .ok (.aload_n 0, 1) := by decide +kernel
theorem dX4_init_65 : decode cX4_init 65 = .ok (.iconst 4, 1) := by decide +kernel
theorem dX4_init_66 : decode cX4_init 66 = .ok (.newarray .int, 2) := by decide +kernel
theorem dX4_init_68 : decode cX4_init 68 = .ok (.putfield 35, 3) := by decide +kernel
theorem dX4_init_71 : decode cX4_init 71 = .ok (.aload_n 0, 1) := by decide +kernel
theorem dX4_init_72 : decode cX4_init 72 = .ok (.bipush 24, 2) := by decide +kernel
theorem dX4_init_74 : decode cX4_init 74 = .ok (.newarray .int, 2) := by decide +kernel
theorem dX4_init_76 : decode cX4_init 76 = .ok (.putfield 38, 3) := by decide +kernel
theorem dX4_init_79 : decode cX4_init 79 = .ok (.aload_n 0, 1) := by decide +kernel
theorem dX4_init_80 : decode cX4_init 80 = .ok (.bipush 24, 2) := by decide +kernel
theorem dX4_init_82 : decode cX4_init 82 = .ok (.newarray .int, 2) := by decide +kernel
theorem dX4_init_84 : decode cX4_init 84 = .ok (.putfield 41, 3) := by decide +kernel
theorem dX4_init_87 : decode cX4_init 87 = .ok (.aload_n 0, 1) := by decide +kernel
theorem dX4_init_88 : decode cX4_init 88 = .ok (.iconst 4, 1) := by decide +kernel
theorem dX4_init_89 : decode cX4_init 89 = .ok (.newarray .int, 2) := by decide +kernel
theorem dX4_init_91 : decode cX4_init 91 = .ok (.putfield 44, 3) := by decide +kernel
theorem dX4_init_94 : decode cX4_init 94 = .ok (.aload_n 0, 1) := by decide +kernel
theorem dX4_init_95 : decode cX4_init 95 = .ok (.iconst 4, 1) := by decide +kernel
theorem dX4_init_96 : decode cX4_init 96 = .ok (.newarray .int, 2) := by decide +kernel
theorem dX4_init_98 : decode cX4_init 98 = .ok (.putfield 47, 3) := by decide +kernel
theorem dX4_init_101 : decode cX4_init 101 = .ok (.return_, 1) := by decide +kernel
theorem dX4_thrown_0 : decode cX4_thrown 0 = .ok (.aload_n 0, 1) := by decide +kernel
theorem dX4_thrown_1 : decode cX4_thrown 1 = .ok (.getfield 50, 3) := by decide +kernel
theorem dX4_thrown_4 : decode cX4_thrown 4 = .ok (.ireturn, 1) := by decide +kernel
theorem dX4_isOpen_0 : decode cX4_isOpen 0 = .ok (.iload_n 1, 1) := by decide +kernel
theorem dX4_isOpen_1 : decode cX4_isOpen 1 = .ok (.ifCond .lt 22, 3) := by decide +kernel
theorem dX4_isOpen_4 : decode cX4_isOpen 4 = .ok (.iload_n 1, 1) := by decide +kernel
theorem dX4_isOpen_5 : decode cX4_isOpen 5 = .ok (.bipush 6, 2) := by decide +kernel
theorem dX4_isOpen_7 : decode cX4_isOpen 7 = .ok (.if_icmp .ge 16, 3) := by decide +kernel
theorem dX4_isOpen_10 : decode cX4_isOpen 10 = .ok (.aload_n 0, 1) := by decide +kernel
theorem dX4_isOpen_11 : decode cX4_isOpen 11 = .ok (.getfield 9, 3) := by decide +kernel
theorem dX4_isOpen_14 : decode cX4_isOpen 14 = .ok (.iload_n 1, 1) := by decide +kernel
theorem dX4_isOpen_15 : decode cX4_isOpen 15 = .ok (.baload, 1) := by decide +kernel
theorem dX4_isOpen_16 : decode cX4_isOpen 16 = .ok (.ifCond .eq 7, 3) := by decide +kernel
theorem dX4_isOpen_19 : decode cX4_isOpen 19 = .ok (.iconst 1, 1) := by decide +kernel
theorem dX4_isOpen_20 : decode cX4_isOpen 20 = .ok (.goto 4, 3) := by decide +kernel
theorem dX4_isOpen_23 : decode cX4_isOpen 23 = .ok (.iconst 0, 1) := by decide +kernel
theorem dX4_isOpen_24 : decode cX4_isOpen 24 = .ok (.ireturn, 1) := by decide +kernel
theorem dX4_isLock_0 : decode cX4_isLock 0 = .ok (.iload_n 0, 1) := by decide +kernel
theorem dX4_isLock_1 : decode cX4_isLock 1 = .ok (.ifCond .lt 12, 3) := by decide +kernel
theorem dX4_isLock_4 : decode cX4_isLock 4 = .ok (.iload_n 0, 1) := by decide +kernel
theorem dX4_isLock_5 : decode cX4_isLock 5 = .ok (.iconst 4, 1) := by decide +kernel
theorem dX4_isLock_6 : decode cX4_isLock 6 = .ok (.if_icmp .ge 7, 3) := by decide +kernel
theorem dX4_isLock_9 : decode cX4_isLock 9 = .ok (.iconst 1, 1) := by decide +kernel
theorem dX4_isLock_10 : decode cX4_isLock 10 = .ok (.goto 4, 3) := by decide +kernel
theorem dX4_isLock_13 : decode cX4_isLock 13 = .ok (.iconst 0, 1) := by decide +kernel
theorem dX4_isLock_14 : decode cX4_isLock 14 = .ok (.ireturn, 1) := by decide +kernel
theorem dX4_lend_0 : decode cX4_lend 0 = .ok (.aload_n 0, 1) := by decide +kernel
theorem dX4_lend_1 : decode cX4_lend 1 = .ok (.getfield 23, 3) := by decide +kernel
theorem dX4_lend_4 : decode cX4_lend 4 = .ok (.iload_n 1, 1) := by decide +kernel
theorem dX4_lend_5 : decode cX4_lend 5 = .ok (.iload_n 2, 1) := by decide +kernel
theorem dX4_lend_6 : decode cX4_lend 6 = .ok (.iconst 1, 1) := by decide +kernel
theorem dX4_lend_7 : decode cX4_lend 7 = .ok (.iadd, 1) := by decide +kernel
theorem dX4_lend_8 : decode cX4_lend 8 = .ok (.iastore, 1) := by decide +kernel
theorem dX4_lend_9 : decode cX4_lend 9 = .ok (.aload_n 0, 1) := by decide +kernel
theorem dX4_lend_10 : decode cX4_lend 10 = .ok (.getfield 26, 3) := by decide +kernel
theorem dX4_lend_13 : decode cX4_lend 13 = .ok (.iload_n 1, 1) := by decide +kernel
theorem dX4_lend_14 : decode cX4_lend 14 = .ok (.aload_n 0, 1) := by decide +kernel
theorem dX4_lend_15 : decode cX4_lend 15 = .ok (.getfield 26, 3) := by decide +kernel
theorem dX4_lend_18 : decode cX4_lend 18 = .ok (.iload_n 1, 1) := by decide +kernel
theorem dX4_lend_19 : decode cX4_lend 19 = .ok (.iaload, 1) := by decide +kernel
theorem dX4_lend_20 : decode cX4_lend 20 = .ok (.iconst 1, 1) := by decide +kernel
theorem dX4_lend_21 : decode cX4_lend 21 = .ok (.iadd, 1) := by decide +kernel
theorem dX4_lend_22 : decode cX4_lend 22 = .ok (.iastore, 1) := by decide +kernel
theorem dX4_lend_23 : decode cX4_lend 23 = .ok (.aload_n 0, 1) := by decide +kernel
theorem dX4_lend_24 : decode cX4_lend 24 = .ok (.getfield 29, 3) := by decide +kernel
theorem dX4_lend_27 : decode cX4_lend 27 = .ok (.iload_n 1, 1) := by decide +kernel
theorem dX4_lend_28 : decode cX4_lend 28 = .ok (.aload_n 0, 1) := by decide +kernel
theorem dX4_lend_29 : decode cX4_lend 29 = .ok (.getfield 54, 3) := by decide +kernel
theorem dX4_lend_32 : decode cX4_lend 32 = .ok (.iload_n 3, 1) := by decide +kernel
theorem dX4_lend_33 : decode cX4_lend 33 = .ok (.iadd, 1) := by decide +kernel
theorem dX4_lend_34 : decode cX4_lend 34 = .ok (.iastore, 1) := by decide +kernel
theorem dX4_lend_35 : decode cX4_lend 35 = .ok (.aload_n 0, 1) := by decide +kernel
theorem dX4_lend_36 : decode cX4_lend 36 = .ok (.getfield 32, 3) := by decide +kernel
theorem dX4_lend_39 : decode cX4_lend 39 = .ok (.iload_n 1, 1) := by decide +kernel
theorem dX4_lend_40 : decode cX4_lend 40 = .ok (.iload_n 3, 1) := by decide +kernel
theorem dX4_lend_41 : decode cX4_lend 41 = .ok (.iastore, 1) := by decide +kernel
theorem dX4_lend_42 : decode cX4_lend 42 = .ok (.aload_n 0, 1) := by decide +kernel
theorem dX4_lend_43 : decode cX4_lend 43 = .ok (.getfield 35, 3) := by decide +kernel
theorem dX4_lend_46 : decode cX4_lend 46 = .ok (.iload_n 1, 1) := by decide +kernel
theorem dX4_lend_47 : decode cX4_lend 47 = .ok (.aload_n 0, 1) := by decide +kernel
theorem dX4_lend_48 : decode cX4_lend 48 = .ok (.getfield 20, 3) := by decide +kernel
theorem dX4_lend_51 : decode cX4_lend 51 = .ok (.iload_n 2, 1) := by decide +kernel
theorem dX4_lend_52 : decode cX4_lend 52 = .ok (.iaload, 1) := by decide +kernel
theorem dX4_lend_53 : decode cX4_lend 53 = .ok (.iastore, 1) := by decide +kernel
theorem dX4_lend_54 : decode cX4_lend 54 = .ok (.aload_n 0, 1) := by decide +kernel
theorem dX4_lend_55 : decode cX4_lend 55 = .ok (.getfield 38, 3) := by decide +kernel
theorem dX4_lend_58 : decode cX4_lend 58 = .ok (.iload_n 1, 1) := by decide +kernel
theorem dX4_lend_59 : decode cX4_lend 59 = .ok (.bipush 6, 2) := by decide +kernel
theorem dX4_lend_61 : decode cX4_lend 61 = .ok (.imul, 1) := by decide +kernel
theorem dX4_lend_62 : decode cX4_lend 62 = .ok (.iload_n 2, 1) := by decide +kernel
theorem dX4_lend_63 : decode cX4_lend 63 = .ok (.iadd, 1) := by decide +kernel
theorem dX4_lend_64 : decode cX4_lend 64 = .ok (.iconst 0, 1) := by decide +kernel
theorem dX4_lend_65 : decode cX4_lend 65 = .ok (.iastore, 1) := by decide +kernel
theorem dX4_lend_66 : decode cX4_lend 66 = .ok (.return_, 1) := by decide +kernel
theorem dX4_inRow_0 : decode cX4_inRow 0 = .ok (.iconst 0, 1) := by decide +kernel
theorem dX4_inRow_1 : decode cX4_inRow 1 = .ok (.istore_n 3, 1) := by decide +kernel
theorem dX4_inRow_2 : decode cX4_inRow 2 = .ok (.iload_n 3, 1) := by decide +kernel
theorem dX4_inRow_3 : decode cX4_inRow 3 = .ok (.bipush 6, 2) := by decide +kernel
theorem dX4_inRow_5 : decode cX4_inRow 5 = .ok (.if_icmp .ge 92, 3) := by decide +kernel
theorem dX4_inRow_8 : decode cX4_inRow 8 = .ok (.aload_n 0, 1) := by decide +kernel
theorem dX4_inRow_9 : decode cX4_inRow 9 = .ok (.getfield 38, 3) := by decide +kernel
theorem dX4_inRow_12 : decode cX4_inRow 12 = .ok (.iload_n 1, 1) := by decide +kernel
theorem dX4_inRow_13 : decode cX4_inRow 13 = .ok (.bipush 6, 2) := by decide +kernel
theorem dX4_inRow_15 : decode cX4_inRow 15 = .ok (.imul, 1) := by decide +kernel
theorem dX4_inRow_16 : decode cX4_inRow 16 = .ok (.iload_n 3, 1) := by decide +kernel
theorem dX4_inRow_17 : decode cX4_inRow 17 = .ok (.iadd, 1) := by decide +kernel
theorem dX4_inRow_18 : decode cX4_inRow 18 = .ok (.iaload, 1) := by decide +kernel
theorem dX4_inRow_19 : decode cX4_inRow 19 = .ok (.istore 4, 2) := by decide +kernel
theorem dX4_inRow_21 : decode cX4_inRow 21 = .ok (.iconst 0, 1) := by decide +kernel
theorem dX4_inRow_22 : decode cX4_inRow 22 = .ok (.istore 5, 2) := by decide +kernel
theorem dX4_inRow_24 : decode cX4_inRow 24 = .ok (.iconst 0, 1) := by decide +kernel
theorem dX4_inRow_25 : decode cX4_inRow 25 = .ok (.istore 6, 2) := by decide +kernel
theorem dX4_inRow_27 : decode cX4_inRow 27 = .ok (.iload 6, 2) := by decide +kernel
theorem dX4_inRow_29 : decode cX4_inRow 29 = .ok (.bipush 6, 2) := by decide +kernel
theorem dX4_inRow_31 : decode cX4_inRow 31 = .ok (.if_icmp .ge 47, 3) := by decide +kernel
theorem dX4_inRow_34 : decode cX4_inRow 34 = .ok (.aload_n 0, 1) := by decide +kernel
theorem dX4_inRow_35 : decode cX4_inRow 35 = .ok (.getfield 38, 3) := by decide +kernel
theorem dX4_inRow_38 : decode cX4_inRow 38 = .ok (.iload_n 1, 1) := by decide +kernel
theorem dX4_inRow_39 : decode cX4_inRow 39 = .ok (.bipush 6, 2) := by decide +kernel
theorem dX4_inRow_41 : decode cX4_inRow 41 = .ok (.imul, 1) := by decide +kernel
theorem dX4_inRow_42 : decode cX4_inRow 42 = .ok (.iload 6, 2) := by decide +kernel
theorem dX4_inRow_44 : decode cX4_inRow 44 = .ok (.iadd, 1) := by decide +kernel
theorem dX4_inRow_45 : decode cX4_inRow 45 = .ok (.iaload, 1) := by decide +kernel
theorem dX4_inRow_46 : decode cX4_inRow 46 = .ok (.ifCond .le 26, 3) := by decide +kernel
theorem dX4_inRow_49 : decode cX4_inRow 49 = .ok (.aload_n 0, 1) := by decide +kernel
theorem dX4_inRow_50 : decode cX4_inRow 50 = .ok (.getfield 38, 3) := by decide +kernel
theorem dX4_inRow_53 : decode cX4_inRow 53 = .ok (.iload_n 1, 1) := by decide +kernel
theorem dX4_inRow_54 : decode cX4_inRow 54 = .ok (.bipush 6, 2) := by decide +kernel
theorem dX4_inRow_56 : decode cX4_inRow 56 = .ok (.imul, 1) := by decide +kernel
theorem dX4_inRow_57 : decode cX4_inRow 57 = .ok (.iload 6, 2) := by decide +kernel
theorem dX4_inRow_59 : decode cX4_inRow 59 = .ok (.iadd, 1) := by decide +kernel
theorem dX4_inRow_60 : decode cX4_inRow 60 = .ok (.iaload, 1) := by decide +kernel
theorem dX4_inRow_61 : decode cX4_inRow 61 = .ok (.iload 4, 2) := by decide +kernel
theorem dX4_inRow_63 : decode cX4_inRow 63 = .ok (.if_icmp .ge 9, 3) := by decide +kernel
theorem dX4_inRow_66 : decode cX4_inRow 66 = .ok (.iload 5, 2) := by decide +kernel
theorem dX4_inRow_68 : decode cX4_inRow 68 = .ok (.iconst 1, 1) := by decide +kernel
theorem dX4_inRow_69 : decode cX4_inRow 69 = .ok (.iadd, 1) := by decide +kernel
theorem dX4_inRow_70 : decode cX4_inRow 70 = .ok (.istore 5, 2) := by decide +kernel
theorem dX4_inRow_72 : decode cX4_inRow 72 = .ok (.iinc 6 1, 3) := by decide +kernel
theorem dX4_inRow_75 : decode cX4_inRow 75 = .ok (.goto (-48), 3) := by decide +kernel
theorem dX4_inRow_78 : decode cX4_inRow 78 = .ok (.iload 4, 2) := by decide +kernel
theorem dX4_inRow_80 : decode cX4_inRow 80 = .ok (.ifCond .le 11, 3) := by decide +kernel
theorem dX4_inRow_83 : decode cX4_inRow 83 = .ok (.iload 5, 2) := by decide +kernel
theorem dX4_inRow_85 : decode cX4_inRow 85 = .ok (.iload_n 2, 1) := by decide +kernel
theorem dX4_inRow_86 : decode cX4_inRow 86 = .ok (.if_icmp .ne 5, 3) := by decide +kernel
theorem dX4_inRow_89 : decode cX4_inRow 89 = .ok (.iload_n 3, 1) := by decide +kernel
theorem dX4_inRow_90 : decode cX4_inRow 90 = .ok (.ireturn, 1) := by decide +kernel
theorem dX4_inRow_91 : decode cX4_inRow 91 = .ok (.iinc 3 1, 3) := by decide +kernel
theorem dX4_inRow_94 : decode cX4_inRow 94 = .ok (.goto (-92), 3) := by decide +kernel
theorem dX4_inRow_97 : decode cX4_inRow 97 = .ok (.iconst (-1), 1) := by decide +kernel
theorem dX4_inRow_98 : decode cX4_inRow 98 = .ok (.ireturn, 1) := by decide +kernel
set_option maxRecDepth 20000 in
theorem ggX4_over_X4_inRow : GoodIn wsX4_over wsX4_inRow := goodIn_r _ [7, 8, 19, 20, 21, 22, 23, 24, 25, 26, 27, 28, 29, 30, 31, 32, 33, 34] (by decide +kernel) (by decide +kernel)
set_option maxRecDepth 20000 in
theorem gX4_over_X4_inRow : GoodIn wsX4_over (wsV RX4 57 RX4 yX4_inRow wsX4_inRow) := goodIn_app (goodIn_of _ (by decide +kernel)) ggX4_over_X4_inRow
set_option maxRecDepth 20000 in
theorem ggX4_over_X4_lend : GoodIn wsX4_over wsX4_lend := goodIn_r _ [12, 1, 13, 14, 15, 16, 17, 18, 8, 19, 20, 21, 22, 23, 24, 25, 26, 27, 28, 29, 30, 31, 32, 33, 34] (by decide +kernel) (by decide +kernel)
set_option maxRecDepth 20000 in
theorem gX4_over_X4_lend : GoodIn wsX4_over (wsV RX4 61 RX4 yX4_lend wsX4_lend) := goodIn_app (goodIn_of _ (by decide +kernel)) ggX4_over_X4_lend
theorem dX4_over_0 : decode cX4_over 0 = .ok (.aload_n 0, 1) := by decide +kernel
theorem dX4_over_1 : decode cX4_over 1 = .ok (.getfield 23, 3) := by decide +kernel
theorem dX4_over_4 : decode cX4_over 4 = .ok (.iload_n 1, 1) := by decide +kernel
theorem dX4_over_5 : decode cX4_over 5 = .ok (.iconst 0, 1) := by decide +kernel
theorem dX4_over_6 : decode cX4_over 6 = .ok (.iastore, 1) := by decide +kernel
theorem dX4_over_7 : decode cX4_over 7 = .ok (.aload_n 0, 1) := by decide +kernel
theorem dX4_over_8 : decode cX4_over 8 = .ok (.iload_n 1, 1) := by decide +kernel
theorem dX4_over_9 : decode cX4_over 9 = .ok (.iconst 0, 1) := by decide +kernel
theorem dX4_over_10 : decode cX4_over 10 = .ok (.invokevirtual 57, 3) := by decide +kernel
theorem dX4_over_13 : decode cX4_over 13 = .ok (.istore_n 2, 1) := by decide +kernel
theorem dX4_over_14 : decode cX4_over 14 = .ok (.iload_n 2, 1) := by decide +kernel
theorem dX4_over_15 : decode cX4_over 15 = .ok (.ifCond .lt 20, 3) := by decide +kernel
theorem dX4_over_18 : decode cX4_over 18 = .ok (.aload_n 0, 1) := by decide +kernel
theorem dX4_over_19 : decode cX4_over 19 = .ok (.iload_n 1, 1) := by decide +kernel
theorem dX4_over_20 : decode cX4_over 20 = .ok (.iload_n 2, 1) := by decide +kernel
theorem dX4_over_21 : decode cX4_over 21 = .ok (.aload_n 0, 1) := by decide +kernel
theorem dX4_over_22 : decode cX4_over 22 = .ok (.getfield 41, 3) := by decide +kernel
theorem dX4_over_25 : decode cX4_over 25 = .ok (.iload_n 1, 1) := by decide +kernel
theorem dX4_over_26 : decode cX4_over 26 = .ok (.bipush 6, 2) := by decide +kernel
theorem dX4_over_28 : decode cX4_over 28 = .ok (.imul, 1) := by decide +kernel
theorem dX4_over_29 : decode cX4_over 29 = .ok (.iload_n 2, 1) := by decide +kernel
theorem dX4_over_30 : decode cX4_over 30 = .ok (.iadd, 1) := by decide +kernel
theorem dX4_over_31 : decode cX4_over 31 = .ok (.iaload, 1) := by decide +kernel
theorem dX4_over_32 : decode cX4_over 32 = .ok (.invokevirtual 61, 3) := by decide +kernel
theorem dX4_over_35 : decode cX4_over 35 = .ok (.return_, 1) := by decide +kernel
set_option maxRecDepth 20000 in
theorem ggX4_gone_X4_over : GoodIn wsX4_gone wsX4_over := goodIn_r _ [8, 2, 9, 10, 11, 12, 7, 13, 1, 14, 15, 16, 17, 18, 19, 20, 21, 22, 23, 24, 25, 26, 27, 28, 29, 30, 31, 32, 33, 34, 35, 36, 37, 38, 39] (by decide +kernel) (by decide +kernel)
set_option maxRecDepth 20000 in
theorem gX4_gone_X4_over : GoodIn wsX4_gone (wsV RX4 65 RX4 yX4_over wsX4_over) := goodIn_app (goodIn_of _ (by decide +kernel)) ggX4_gone_X4_over
theorem dX4_gone_0 : decode cX4_gone 0 = .ok (.iconst 0, 1) := by decide +kernel
theorem dX4_gone_1 : decode cX4_gone 1 = .ok (.istore_n 2, 1) := by decide +kernel
theorem dX4_gone_2 : decode cX4_gone 2 = .ok (.iload_n 2, 1) := by decide +kernel
theorem dX4_gone_3 : decode cX4_gone 3 = .ok (.iconst 4, 1) := by decide +kernel
theorem dX4_gone_4 : decode cX4_gone 4 = .ok (.if_icmp .ge 21, 3) := by decide +kernel
theorem dX4_gone_7 : decode cX4_gone 7 = .ok (.aload_n 0, 1) := by decide +kernel
theorem dX4_gone_8 : decode cX4_gone 8 = .ok (.getfield 38, 3) := by decide +kernel
theorem dX4_gone_11 : decode cX4_gone 11 = .ok (.iload_n 2, 1) := by decide +kernel
theorem dX4_gone_12 : decode cX4_gone 12 = .ok (.bipush 6, 2) := by decide +kernel
theorem dX4_gone_14 : decode cX4_gone 14 = .ok (.imul, 1) := by decide +kernel
theorem dX4_gone_15 : decode cX4_gone 15 = .ok (.iload_n 1, 1) := by decide +kernel
theorem dX4_gone_16 : decode cX4_gone 16 = .ok (.iadd, 1) := by decide +kernel
theorem dX4_gone_17 : decode cX4_gone 17 = .ok (.iconst 0, 1) := by decide +kernel
theorem dX4_gone_18 : decode cX4_gone 18 = .ok (.iastore, 1) := by decide +kernel
theorem dX4_gone_19 : decode cX4_gone 19 = .ok (.iinc 2 1, 3) := by decide +kernel
theorem dX4_gone_22 : decode cX4_gone 22 = .ok (.goto (-20), 3) := by decide +kernel
theorem dX4_gone_25 : decode cX4_gone 25 = .ok (.iconst 0, 1) := by decide +kernel
theorem dX4_gone_26 : decode cX4_gone 26 = .ok (.istore_n 2, 1) := by decide +kernel
theorem dX4_gone_27 : decode cX4_gone 27 = .ok (.iconst 0, 1) := by decide +kernel
theorem dX4_gone_28 : decode cX4_gone 28 = .ok (.istore_n 3, 1) := by decide +kernel
theorem dX4_gone_29 : decode cX4_gone 29 = .ok (.iload_n 3, 1) := by decide +kernel
theorem dX4_gone_30 : decode cX4_gone 30 = .ok (.iconst 4, 1) := by decide +kernel
theorem dX4_gone_31 : decode cX4_gone 31 = .ok (.if_icmp .ge 33, 3) := by decide +kernel
theorem dX4_gone_34 : decode cX4_gone 34 = .ok (.aload_n 0, 1) := by decide +kernel
theorem dX4_gone_35 : decode cX4_gone 35 = .ok (.getfield 23, 3) := by decide +kernel
theorem dX4_gone_38 : decode cX4_gone 38 = .ok (.iload_n 3, 1) := by decide +kernel
theorem dX4_gone_39 : decode cX4_gone 39 = .ok (.iaload, 1) := by decide +kernel
theorem dX4_gone_40 : decode cX4_gone 40 = .ok (.iload_n 1, 1) := by decide +kernel
theorem dX4_gone_41 : decode cX4_gone 41 = .ok (.iconst 1, 1) := by decide +kernel
theorem dX4_gone_42 : decode cX4_gone 42 = .ok (.iadd, 1) := by decide +kernel
theorem dX4_gone_43 : decode cX4_gone 43 = .ok (.if_icmp .eq 6, 3) := by decide +kernel
theorem dX4_gone_46 : decode cX4_gone 46 = .ok (.goto 12, 3) := by decide +kernel
theorem dX4_gone_49 : decode cX4_gone 49 = .ok (.iload_n 2, 1) := by decide +kernel
theorem dX4_gone_50 : decode cX4_gone 50 = .ok (.iconst 1, 1) := by decide +kernel
theorem dX4_gone_51 : decode cX4_gone 51 = .ok (.iadd, 1) := by decide +kernel
theorem dX4_gone_52 : decode cX4_gone 52 = .ok (.istore_n 2, 1) := by decide +kernel
theorem dX4_gone_53 : decode cX4_gone 53 = .ok (.aload_n 0, 1) := by decide +kernel
theorem dX4_gone_54 : decode cX4_gone 54 = .ok (.iload_n 3, 1) := by decide +kernel
theorem dX4_gone_55 : decode cX4_gone 55 = .ok (.invokevirtual 65, 3) := by decide +kernel
theorem dX4_gone_58 : decode cX4_gone 58 = .ok (.iinc 3 1, 3) := by decide +kernel
theorem dX4_gone_61 : decode cX4_gone 61 = .ok (.goto (-32), 3) := by decide +kernel
theorem dX4_gone_64 : decode cX4_gone 64 = .ok (.aload_n 0, 1) := by decide +kernel
theorem dX4_gone_65 : decode cX4_gone 65 = .ok (.getfield 9, 3) := by decide +kernel
theorem dX4_gone_68 : decode cX4_gone 68 = .ok (.iload_n 1, 1) := by decide +kernel
theorem dX4_gone_69 : decode cX4_gone 69 = .ok (.iconst 0, 1) := by decide +kernel
theorem dX4_gone_70 : decode cX4_gone 70 = .ok (.bastore, 1) := by decide +kernel
theorem dX4_gone_71 : decode cX4_gone 71 = .ok (.iload_n 2, 1) := by decide +kernel
theorem dX4_gone_72 : decode cX4_gone 72 = .ok (.ireturn, 1) := by decide +kernel
theorem dX4_open_0 : decode cX4_open 0 = .ok (.iconst 0, 1) := by decide +kernel
theorem dX4_open_1 : decode cX4_open 1 = .ok (.istore_n 1, 1) := by decide +kernel
theorem dX4_open_2 : decode cX4_open 2 = .ok (.iload_n 1, 1) := by decide +kernel
theorem dX4_open_3 : decode cX4_open 3 = .ok (.bipush 6, 2) := by decide +kernel
theorem dX4_open_5 : decode cX4_open 5 = .ok (.if_icmp .ge 60, 3) := by decide +kernel
theorem dX4_open_8 : decode cX4_open 8 = .ok (.aload_n 0, 1) := by decide +kernel
theorem dX4_open_9 : decode cX4_open 9 = .ok (.getfield 9, 3) := by decide +kernel
theorem dX4_open_12 : decode cX4_open 12 = .ok (.iload_n 1, 1) := by decide +kernel
theorem dX4_open_13 : decode cX4_open 13 = .ok (.baload, 1) := by decide +kernel
theorem dX4_open_14 : decode cX4_open 14 = .ok (.ifCond .eq 6, 3) := by decide +kernel
theorem dX4_open_17 : decode cX4_open 17 = .ok (.goto 42, 3) := by decide +kernel
theorem dX4_open_20 : decode cX4_open 20 = .ok (.aload_n 0, 1) := by decide +kernel
theorem dX4_open_21 : decode cX4_open 21 = .ok (.getfield 9, 3) := by decide +kernel
theorem dX4_open_24 : decode cX4_open 24 = .ok (.iload_n 1, 1) := by decide +kernel
theorem dX4_open_25 : decode cX4_open 25 = .ok (.iconst 1, 1) := by decide +kernel
theorem dX4_open_26 : decode cX4_open 26 = .ok (.bastore, 1) := by decide +kernel
theorem dX4_open_27 : decode cX4_open 27 = .ok (.aload_n 0, 1) := by decide +kernel
theorem dX4_open_28 : decode cX4_open 28 = .ok (.getfield 13, 3) := by decide +kernel
theorem dX4_open_31 : decode cX4_open 31 = .ok (.iload_n 1, 1) := by decide +kernel
theorem dX4_open_32 : decode cX4_open 32 = .ok (.aload_n 0, 1) := by decide +kernel
theorem dX4_open_33 : decode cX4_open 33 = .ok (.getfield 54, 3) := by decide +kernel
theorem dX4_open_36 : decode cX4_open 36 = .ok (.iastore, 1) := by decide +kernel
theorem dX4_open_37 : decode cX4_open 37 = .ok (.aload_n 0, 1) := by decide +kernel
theorem dX4_open_38 : decode cX4_open 38 = .ok (.getfield 17, 3) := by decide +kernel
theorem dX4_open_41 : decode cX4_open 41 = .ok (.iload_n 1, 1) := by decide +kernel
theorem dX4_open_42 : decode cX4_open 42 = .ok (.bipush 10, 2) := by decide +kernel
theorem dX4_open_44 : decode cX4_open 44 = .ok (.iastore, 1) := by decide +kernel
theorem dX4_open_45 : decode cX4_open 45 = .ok (.aload_n 0, 1) := by decide +kernel
theorem dX4_open_46 : decode cX4_open 46 = .ok (.getfield 20, 3) := by decide +kernel
theorem dX4_open_49 : decode cX4_open 49 = .ok (.iload_n 1, 1) := by decide +kernel
theorem dX4_open_50 : decode cX4_open 50 = .ok (.iconst 0, 1) := by decide +kernel
theorem dX4_open_51 : decode cX4_open 51 = .ok (.iastore, 1) := by decide +kernel
theorem dX4_open_52 : decode cX4_open 52 = .ok (.aload_n 0, 1) := by decide +kernel
theorem dX4_open_53 : decode cX4_open 53 = .ok (.iconst 0, 1) := by decide +kernel
theorem dX4_open_54 : decode cX4_open 54 = .ok (.putfield 50, 3) := by decide +kernel
theorem dX4_open_57 : decode cX4_open 57 = .ok (.iload_n 1, 1) := by decide +kernel
theorem dX4_open_58 : decode cX4_open 58 = .ok (.ireturn, 1) := by decide +kernel
theorem dX4_open_59 : decode cX4_open 59 = .ok (.iinc 1 1, 3) := by decide +kernel
theorem dX4_open_62 : decode cX4_open 62 = .ok (.goto (-60), 3) := by decide +kernel
theorem dX4_open_65 : decode cX4_open 65 = .ok (.aload_n 0, 1) := by decide +kernel
theorem dX4_open_66 : decode cX4_open 66 = .ok (.iconst 1, 1) := by decide +kernel
theorem dX4_open_67 : decode cX4_open 67 = .ok (.putfield 50, 3) := by decide +kernel
theorem dX4_open_70 : decode cX4_open 70 = .ok (.iconst 0, 1) := by decide +kernel
theorem dX4_open_71 : decode cX4_open 71 = .ok (.ireturn, 1) := by decide +kernel
set_option maxRecDepth 20000 in
theorem ggX4_close_X4_isOpen : GoodIn wsX4_close wsX4_isOpen := goodIn_r _ [6, 7, 33, 34, 35, 36, 37, 38, 39, 40, 41, 42, 43, 44, 45, 46, 47, 48] (by decide +kernel) (by decide +kernel)
set_option maxRecDepth 20000 in
theorem gX4_close_X4_isOpen : GoodIn wsX4_close (wsV RX4 69 RX4 yX4_isOpen wsX4_isOpen) := goodIn_app (goodIn_of _ (by decide +kernel)) ggX4_close_X4_isOpen
set_option maxRecDepth 20000 in
theorem ggX4_close_X4_gone : GoodIn wsX4_close wsX4_gone := goodIn_r _ [11, 12, 13, 7, 14, 15, 16, 5, 17, 18, 19, 20, 21, 22, 23, 24, 25, 26, 27, 28, 29, 30, 31, 32, 33, 34, 35, 36, 37, 38, 39, 40, 41, 42, 43, 44, 45, 46, 47, 48] (by decide +kernel) (by decide +kernel)
set_option maxRecDepth 20000 in
theorem gX4_close_X4_gone : GoodIn wsX4_close (wsV RX4 73 RX4 yX4_gone wsX4_gone) := goodIn_app (goodIn_of _ (by decide +kernel)) ggX4_close_X4_gone
theorem dX4_close_0 : decode cX4_close 0 = .ok (.aload_n 0, 1) := by decide +kernel
theorem dX4_close_1 : decode cX4_close 1 = .ok (.aload_n 0, 1) := by decide +kernel
theorem dX4_close_2 : decode cX4_close 2 = .ok (.iload_n 1, 1) := by decide +kernel
theorem dX4_close_3 : decode cX4_close 3 = .ok (.invokevirtual 69, 3) := by decide +kernel
theorem dX4_close_6 : decode cX4_close 6 = .ok (.ifCond .eq 7, 3) := by decide +kernel
theorem dX4_close_9 : decode cX4_close 9 = .ok (.iconst 0, 1) := by decide +kernel
theorem dX4_close_10 : decode cX4_close 10 = .ok (.goto 4, 3) := by decide +kernel
theorem dX4_close_13 : decode cX4_close 13 = .ok (.iconst 1, 1) := by decide +kernel
theorem dX4_close_14 : decode cX4_close 14 = .ok (.putfield 50, 3) := by decide +kernel
theorem dX4_close_17 : decode cX4_close 17 = .ok (.aload_n 0, 1) := by decide +kernel
theorem dX4_close_18 : decode cX4_close 18 = .ok (.getfield 50, 3) := by decide +kernel
theorem dX4_close_21 : decode cX4_close 21 = .ok (.ifCond .le 7, 3) := by decide +kernel
theorem dX4_close_24 : decode cX4_close 24 = .ok (.iconst 0, 1) := by decide +kernel
theorem dX4_close_25 : decode cX4_close 25 = .ok (.goto 8, 3) := by decide +kernel
theorem dX4_close_28 : decode cX4_close 28 = .ok (.aload_n 0, 1) := by decide +kernel
theorem dX4_close_29 : decode cX4_close 29 = .ok (.iload_n 1, 1) := by decide +kernel
theorem dX4_close_30 : decode cX4_close 30 = .ok (.invokevirtual 73, 3) := by decide +kernel
theorem dX4_close_33 : decode cX4_close 33 = .ok (.ireturn, 1) := by decide +kernel
set_option maxRecDepth 20000 in
theorem ggX4_keep_X4_isOpen : GoodIn wsX4_keep wsX4_isOpen := goodIn_r _ [8, 9, 10, 11, 12, 13, 14, 15, 16, 17, 18, 19, 20, 21, 22, 23, 24, 25] (by decide +kernel) (by decide +kernel)
set_option maxRecDepth 20000 in
theorem gX4_keep_X4_isOpen : GoodIn wsX4_keep (wsV RX4 69 RX4 yX4_isOpen wsX4_isOpen) := goodIn_app (goodIn_of _ (by decide +kernel)) ggX4_keep_X4_isOpen
theorem dX4_keep_0 : decode cX4_keep 0 = .ok (.aload_n 0, 1) := by decide +kernel
theorem dX4_keep_1 : decode cX4_keep 1 = .ok (.aload_n 0, 1) := by decide +kernel
theorem dX4_keep_2 : decode cX4_keep 2 = .ok (.iload_n 1, 1) := by decide +kernel
theorem dX4_keep_3 : decode cX4_keep 3 = .ok (.invokevirtual 69, 3) := by decide +kernel
theorem dX4_keep_6 : decode cX4_keep 6 = .ok (.ifCond .eq 7, 3) := by decide +kernel
theorem dX4_keep_9 : decode cX4_keep 9 = .ok (.iconst 0, 1) := by decide +kernel
theorem dX4_keep_10 : decode cX4_keep 10 = .ok (.goto 4, 3) := by decide +kernel
theorem dX4_keep_13 : decode cX4_keep 13 = .ok (.iconst 1, 1) := by decide +kernel
theorem dX4_keep_14 : decode cX4_keep 14 = .ok (.putfield 50, 3) := by decide +kernel
theorem dX4_keep_17 : decode cX4_keep 17 = .ok (.aload_n 0, 1) := by decide +kernel
theorem dX4_keep_18 : decode cX4_keep 18 = .ok (.getfield 50, 3) := by decide +kernel
theorem dX4_keep_21 : decode cX4_keep 21 = .ok (.ifCond .ne 13, 3) := by decide +kernel
theorem dX4_keep_24 : decode cX4_keep 24 = .ok (.aload_n 0, 1) := by decide +kernel
theorem dX4_keep_25 : decode cX4_keep 25 = .ok (.getfield 13, 3) := by decide +kernel
theorem dX4_keep_28 : decode cX4_keep 28 = .ok (.iload_n 1, 1) := by decide +kernel
theorem dX4_keep_29 : decode cX4_keep 29 = .ok (.aload_n 0, 1) := by decide +kernel
theorem dX4_keep_30 : decode cX4_keep 30 = .ok (.getfield 54, 3) := by decide +kernel
theorem dX4_keep_33 : decode cX4_keep 33 = .ok (.iastore, 1) := by decide +kernel
theorem dX4_keep_34 : decode cX4_keep 34 = .ok (.return_, 1) := by decide +kernel
set_option maxRecDepth 20000 in
theorem ggX4_rate_X4_isOpen : GoodIn wsX4_rate wsX4_isOpen := goodIn_r _ [6, 7, 8, 9, 10, 11, 12, 13, 14, 15, 16, 17, 18, 19, 20, 21, 22, 23] (by decide +kernel) (by decide +kernel)
set_option maxRecDepth 20000 in
theorem gX4_rate_X4_isOpen : GoodIn wsX4_rate (wsV RX4 69 RX4 yX4_isOpen wsX4_isOpen) := goodIn_app (goodIn_of _ (by decide +kernel)) ggX4_rate_X4_isOpen
theorem dX4_rate_0 : decode cX4_rate 0 = .ok (.aload_n 0, 1) := by decide +kernel
theorem dX4_rate_1 : decode cX4_rate 1 = .ok (.iload_n 1, 1) := by decide +kernel
theorem dX4_rate_2 : decode cX4_rate 2 = .ok (.invokevirtual 69, 3) := by decide +kernel
theorem dX4_rate_5 : decode cX4_rate 5 = .ok (.ifCond .eq 15, 3) := by decide +kernel
theorem dX4_rate_8 : decode cX4_rate 8 = .ok (.iload_n 2, 1) := by decide +kernel
theorem dX4_rate_9 : decode cX4_rate 9 = .ok (.bipush 9, 2) := by decide +kernel
theorem dX4_rate_11 : decode cX4_rate 11 = .ok (.if_icmp .lt 9, 3) := by decide +kernel
theorem dX4_rate_14 : decode cX4_rate 14 = .ok (.iload_n 2, 1) := by decide +kernel
theorem dX4_rate_15 : decode cX4_rate 15 = .ok (.bipush 11, 2) := by decide +kernel
end
section
theorem dX4_rate_17 : decode cX4_rate 17 = .ok (.if_icmp .le 5, 3) := by decide +kernel
theorem dX4_rate_20 : decode cX4_rate 20 = .ok (.iconst 0, 1) := by decide +kernel
theorem dX4_rate_21 : decode cX4_rate 21 = .ok (.ireturn, 1) := by decide +kernel
theorem dX4_rate_22 : decode cX4_rate 22 = .ok (.aload_n 0, 1) := by decide +kernel
theorem dX4_rate_23 : decode cX4_rate 23 = .ok (.getfield 17, 3) := by decide +kernel
theorem dX4_rate_26 : decode cX4_rate 26 = .ok (.iload_n 1, 1) := by decide +kernel
theorem dX4_rate_27 : decode cX4_rate 27 = .ok (.iload_n 2, 1) := by decide +kernel
theorem dX4_rate_28 : decode cX4_rate 28 = .ok (.iastore, 1) := by decide +kernel
theorem dX4_rate_29 : decode cX4_rate 29 = .ok (.iconst 1, 1) := by decide +kernel
theorem dX4_rate_30 : decode cX4_rate 30 = .ok (.ireturn, 1) := by decide +kernel
set_option maxRecDepth 20000 in
theorem ggX4_tick_X4_gone : GoodIn wsX4_tick wsX4_gone := goodIn_r _ [12, 13, 6, 2, 14, 15, 16, 11, 17, 18, 19, 20, 21, 22, 23, 24, 25, 26, 27, 7, 1, 28, 29, 3, 30, 31, 32, 33, 34, 35, 36, 37, 38, 39, 40, 41, 42, 43, 44, 45] (by decide +kernel) (by decide +kernel)
set_option maxRecDepth 20000 in
theorem gX4_tick_X4_gone : GoodIn wsX4_tick (wsV RX4 73 RX4 yX4_gone wsX4_gone) := goodIn_app (goodIn_of _ (by decide +kernel)) ggX4_tick_X4_gone
set_option maxRecDepth 20000 in
theorem ggX4_tick_X4_over : GoodIn wsX4_tick wsX4_over := goodIn_r _ [17, 6, 18, 19, 20, 21, 11, 22, 13, 23, 24, 25, 26, 27, 7, 1, 28, 29, 3, 30, 31, 32, 33, 34, 35, 36, 37, 38, 39, 40, 41, 42, 43, 44, 45] (by decide +kernel) (by decide +kernel)
set_option maxRecDepth 20000 in
theorem gX4_tick_X4_over : GoodIn wsX4_tick (wsV RX4 65 RX4 yX4_over wsX4_over) := goodIn_app (goodIn_of _ (by decide +kernel)) ggX4_tick_X4_over
theorem dX4_tick_0 : decode cX4_tick 0 = .ok (.iload_n 1, 1) := by decide +kernel
theorem dX4_tick_1 : decode cX4_tick 1 = .ok (.ifCond .lt 9, 3) := by decide +kernel
theorem dX4_tick_4 : decode cX4_tick 4 = .ok (.iload_n 1, 1) := by decide +kernel
theorem dX4_tick_5 : decode cX4_tick 5 = .ok (.bipush 100, 2) := by decide +kernel
theorem dX4_tick_7 : decode cX4_tick 7 = .ok (.if_icmp .le 5, 3) := by decide +kernel
theorem dX4_tick_10 : decode cX4_tick 10 = .ok (.iconst (-1), 1) := by decide +kernel
theorem dX4_tick_11 : decode cX4_tick 11 = .ok (.ireturn, 1) := by decide +kernel
theorem dX4_tick_12 : decode cX4_tick 12 = .ok (.aload_n 0, 1) := by decide +kernel
theorem dX4_tick_13 : decode cX4_tick 13 = .ok (.aload_n 0, 1) := by decide +kernel
theorem dX4_tick_14 : decode cX4_tick 14 = .ok (.getfield 54, 3) := by decide +kernel
theorem dX4_tick_17 : decode cX4_tick 17 = .ok (.iload_n 1, 1) := by decide +kernel
theorem dX4_tick_18 : decode cX4_tick 18 = .ok (.iadd, 1) := by decide +kernel
theorem dX4_tick_19 : decode cX4_tick 19 = .ok (.putfield 54, 3) := by decide +kernel
theorem dX4_tick_22 : decode cX4_tick 22 = .ok (.iconst 0, 1) := by decide +kernel
theorem dX4_tick_23 : decode cX4_tick 23 = .ok (.istore_n 2, 1) := by decide +kernel
theorem dX4_tick_24 : decode cX4_tick 24 = .ok (.iconst 0, 1) := by decide +kernel
theorem dX4_tick_25 : decode cX4_tick 25 = .ok (.istore_n 3, 1) := by decide +kernel
theorem dX4_tick_26 : decode cX4_tick 26 = .ok (.iload_n 3, 1) := by decide +kernel
theorem dX4_tick_27 : decode cX4_tick 27 = .ok (.bipush 6, 2) := by decide +kernel
theorem dX4_tick_29 : decode cX4_tick 29 = .ok (.if_icmp .ge 39, 3) := by decide +kernel
theorem dX4_tick_32 : decode cX4_tick 32 = .ok (.aload_n 0, 1) := by decide +kernel
theorem dX4_tick_33 : decode cX4_tick 33 = .ok (.getfield 9, 3) := by decide +kernel
theorem dX4_tick_36 : decode cX4_tick 36 = .ok (.iload_n 3, 1) := by decide +kernel
theorem dX4_tick_37 : decode cX4_tick 37 = .ok (.baload, 1) := by decide +kernel
theorem dX4_tick_38 : decode cX4_tick 38 = .ok (.ifCond .eq 24, 3) := by decide +kernel
theorem dX4_tick_41 : decode cX4_tick 41 = .ok (.aload_n 0, 1) := by decide +kernel
theorem dX4_tick_42 : decode cX4_tick 42 = .ok (.getfield 20, 3) := by decide +kernel
theorem dX4_tick_45 : decode cX4_tick 45 = .ok (.iload_n 3, 1) := by decide +kernel
theorem dX4_tick_46 : decode cX4_tick 46 = .ok (.aload_n 0, 1) := by decide +kernel
theorem dX4_tick_47 : decode cX4_tick 47 = .ok (.getfield 20, 3) := by decide +kernel
theorem dX4_tick_50 : decode cX4_tick 50 = .ok (.iload_n 3, 1) := by decide +kernel
theorem dX4_tick_51 : decode cX4_tick 51 = .ok (.iaload, 1) := by decide +kernel
theorem dX4_tick_52 : decode cX4_tick 52 = .ok (.aload_n 0, 1) := by decide +kernel
theorem dX4_tick_53 : decode cX4_tick 53 = .ok (.getfield 17, 3) := by decide +kernel
theorem dX4_tick_56 : decode cX4_tick 56 = .ok (.iload_n 3, 1) := by decide +kernel
theorem dX4_tick_57 : decode cX4_tick 57 = .ok (.iaload, 1) := by decide +kernel
theorem dX4_tick_58 : decode cX4_tick 58 = .ok (.iload_n 1, 1) := by decide +kernel
theorem dX4_tick_59 : decode cX4_tick 59 = .ok (.imul, 1) := by decide +kernel
theorem dX4_tick_60 : decode cX4_tick 60 = .ok (.iadd, 1) := by decide +kernel
theorem dX4_tick_61 : decode cX4_tick 61 = .ok (.iastore, 1) := by decide +kernel
theorem dX4_tick_62 : decode cX4_tick 62 = .ok (.iinc 3 1, 3) := by decide +kernel
theorem dX4_tick_65 : decode cX4_tick 65 = .ok (.goto (-39), 3) := by decide +kernel
theorem dX4_tick_68 : decode cX4_tick 68 = .ok (.iconst 0, 1) := by decide +kernel
theorem dX4_tick_69 : decode cX4_tick 69 = .ok (.istore_n 3, 1) := by decide +kernel
theorem dX4_tick_70 : decode cX4_tick 70 = .ok (.iload_n 3, 1) := by decide +kernel
theorem dX4_tick_71 : decode cX4_tick 71 = .ok (.bipush 6, 2) := by decide +kernel
theorem dX4_tick_73 : decode cX4_tick 73 = .ok (.if_icmp .ge 42, 3) := by decide +kernel
theorem dX4_tick_76 : decode cX4_tick 76 = .ok (.aload_n 0, 1) := by decide +kernel
theorem dX4_tick_77 : decode cX4_tick 77 = .ok (.getfield 9, 3) := by decide +kernel
theorem dX4_tick_80 : decode cX4_tick 80 = .ok (.iload_n 3, 1) := by decide +kernel
theorem dX4_tick_81 : decode cX4_tick 81 = .ok (.baload, 1) := by decide +kernel
theorem dX4_tick_82 : decode cX4_tick 82 = .ok (.ifCond .eq 27, 3) := by decide +kernel
theorem dX4_tick_85 : decode cX4_tick 85 = .ok (.aload_n 0, 1) := by decide +kernel
theorem dX4_tick_86 : decode cX4_tick 86 = .ok (.getfield 54, 3) := by decide +kernel
theorem dX4_tick_89 : decode cX4_tick 89 = .ok (.aload_n 0, 1) := by decide +kernel
theorem dX4_tick_90 : decode cX4_tick 90 = .ok (.getfield 13, 3) := by decide +kernel
theorem dX4_tick_93 : decode cX4_tick 93 = .ok (.iload_n 3, 1) := by decide +kernel
theorem dX4_tick_94 : decode cX4_tick 94 = .ok (.iaload, 1) := by decide +kernel
theorem dX4_tick_95 : decode cX4_tick 95 = .ok (.isub, 1) := by decide +kernel
theorem dX4_tick_96 : decode cX4_tick 96 = .ok (.bipush 50, 2) := by decide +kernel
theorem dX4_tick_98 : decode cX4_tick 98 = .ok (.if_icmp .le 11, 3) := by decide +kernel
theorem dX4_tick_101 : decode cX4_tick 101 = .ok (.iload_n 2, 1) := by decide +kernel
theorem dX4_tick_102 : decode cX4_tick 102 = .ok (.aload_n 0, 1) := by decide +kernel
theorem dX4_tick_103 : decode cX4_tick 103 = .ok (.iload_n 3, 1) := by decide +kernel
theorem dX4_tick_104 : decode cX4_tick 104 = .ok (.invokevirtual 73, 3) := by decide +kernel
theorem dX4_tick_107 : decode cX4_tick 107 = .ok (.iadd, 1) := by decide +kernel
theorem dX4_tick_108 : decode cX4_tick 108 = .ok (.istore_n 2, 1) := by decide +kernel
theorem dX4_tick_109 : decode cX4_tick 109 = .ok (.iinc 3 1, 3) := by decide +kernel
theorem dX4_tick_112 : decode cX4_tick 112 = .ok (.goto (-42), 3) := by decide +kernel
theorem dX4_tick_115 : decode cX4_tick 115 = .ok (.iconst 0, 1) := by decide +kernel
theorem dX4_tick_116 : decode cX4_tick 116 = .ok (.istore_n 3, 1) := by decide +kernel
theorem dX4_tick_117 : decode cX4_tick 117 = .ok (.iload_n 3, 1) := by decide +kernel
theorem dX4_tick_118 : decode cX4_tick 118 = .ok (.iconst 4, 1) := by decide +kernel
theorem dX4_tick_119 : decode cX4_tick 119 = .ok (.if_icmp .ge 43, 3) := by decide +kernel
theorem dX4_tick_122 : decode cX4_tick 122 = .ok (.aload_n 0, 1) := by decide +kernel
theorem dX4_tick_123 : decode cX4_tick 123 = .ok (.getfield 23, 3) := by decide +kernel
theorem dX4_tick_126 : decode cX4_tick 126 = .ok (.iload_n 3, 1) := by decide +kernel
theorem dX4_tick_127 : decode cX4_tick 127 = .ok (.iaload, 1) := by decide +kernel
theorem dX4_tick_128 : decode cX4_tick 128 = .ok (.ifCond .eq 28, 3) := by decide +kernel
theorem dX4_tick_131 : decode cX4_tick 131 = .ok (.aload_n 0, 1) := by decide +kernel
theorem dX4_tick_132 : decode cX4_tick 132 = .ok (.getfield 29, 3) := by decide +kernel
theorem dX4_tick_135 : decode cX4_tick 135 = .ok (.iload_n 3, 1) := by decide +kernel
theorem dX4_tick_136 : decode cX4_tick 136 = .ok (.iaload, 1) := by decide +kernel
theorem dX4_tick_137 : decode cX4_tick 137 = .ok (.aload_n 0, 1) := by decide +kernel
theorem dX4_tick_138 : decode cX4_tick 138 = .ok (.getfield 54, 3) := by decide +kernel
theorem dX4_tick_141 : decode cX4_tick 141 = .ok (.if_icmp .le 6, 3) := by decide +kernel
theorem dX4_tick_144 : decode cX4_tick 144 = .ok (.goto 12, 3) := by decide +kernel
theorem dX4_tick_147 : decode cX4_tick 147 = .ok (.iload_n 2, 1) := by decide +kernel
theorem dX4_tick_148 : decode cX4_tick 148 = .ok (.iconst 1, 1) := by decide +kernel
theorem dX4_tick_149 : decode cX4_tick 149 = .ok (.iadd, 1) := by decide +kernel
theorem dX4_tick_150 : decode cX4_tick 150 = .ok (.istore_n 2, 1) := by decide +kernel
theorem dX4_tick_151 : decode cX4_tick 151 = .ok (.aload_n 0, 1) := by decide +kernel
theorem dX4_tick_152 : decode cX4_tick 152 = .ok (.iload_n 3, 1) := by decide +kernel
theorem dX4_tick_153 : decode cX4_tick 153 = .ok (.invokevirtual 65, 3) := by decide +kernel
theorem dX4_tick_156 : decode cX4_tick 156 = .ok (.iinc 3 1, 3) := by decide +kernel
theorem dX4_tick_159 : decode cX4_tick 159 = .ok (.goto (-42), 3) := by decide +kernel
theorem dX4_tick_162 : decode cX4_tick 162 = .ok (.iload_n 2, 1) := by decide +kernel
theorem dX4_tick_163 : decode cX4_tick 163 = .ok (.ireturn, 1) := by decide +kernel
set_option maxRecDepth 20000 in
theorem ggX4_acquire_X4_isOpen : GoodIn wsX4_acquire wsX4_isOpen := goodIn_r _ [17, 18, 26, 27, 28, 29, 30, 31, 32, 33, 34, 35, 36, 37, 38, 39, 40, 41] (by decide +kernel) (by decide +kernel)
set_option maxRecDepth 20000 in
theorem gX4_acquire_X4_isOpen : GoodIn wsX4_acquire (wsV RX4 69 RX4 yX4_isOpen wsX4_isOpen) := goodIn_app (goodIn_of _ (by decide +kernel)) ggX4_acquire_X4_isOpen
set_option maxRecDepth 20000 in
theorem ggX4_acquire_X4_isLock : GoodIn wsX4_acquire wsX4_isLock := goodIn_r _ [21] (by decide +kernel) (by decide +kernel)
set_option maxRecDepth 20000 in
theorem gX4_acquire_X4_isLock : GoodIn wsX4_acquire (va_wsS RX4 77 yX4_isLock wsX4_isLock) := goodIn_app (goodIn_of _ (by decide +kernel)) ggX4_acquire_X4_isLock
set_option maxRecDepth 20000 in
theorem ggX4_acquire_X4_lend : GoodIn wsX4_acquire wsX4_lend := goodIn_r _ [25, 4, 9, 5, 3, 6, 7, 8, 10, 26, 27, 28, 29, 30, 31, 32, 33, 34, 35, 36, 37, 38, 39, 40, 41] (by decide +kernel) (by decide +kernel)
set_option maxRecDepth 20000 in
theorem gX4_acquire_X4_lend : GoodIn wsX4_acquire (wsV RX4 61 RX4 yX4_lend wsX4_lend) := goodIn_app (goodIn_of _ (by decide +kernel)) ggX4_acquire_X4_lend
theorem dX4_acquire_0 : decode cX4_acquire 0 = .ok (.aload_n 0, 1) := by decide +kernel
theorem dX4_acquire_1 : decode cX4_acquire 1 = .ok (.aload_n 0, 1) := by decide +kernel
theorem dX4_acquire_2 : decode cX4_acquire 2 = .ok (.iload_n 1, 1) := by decide +kernel
theorem dX4_acquire_3 : decode cX4_acquire 3 = .ok (.invokevirtual 69, 3) := by decide +kernel
theorem dX4_acquire_6 : decode cX4_acquire 6 = .ok (.ifCond .ne 7, 3) := by decide +kernel
theorem dX4_acquire_9 : decode cX4_acquire 9 = .ok (.iconst 1, 1) := by decide +kernel
theorem dX4_acquire_10 : decode cX4_acquire 10 = .ok (.goto 26, 3) := by decide +kernel
theorem dX4_acquire_13 : decode cX4_acquire 13 = .ok (.iload_n 2, 1) := by decide +kernel
theorem dX4_acquire_14 : decode cX4_acquire 14 = .ok (.invokestatic 77, 3) := by decide +kernel
theorem dX4_acquire_17 : decode cX4_acquire 17 = .ok (.ifCond .eq 14, 3) := by decide +kernel
theorem dX4_acquire_20 : decode cX4_acquire 20 = .ok (.iload_n 3, 1) := by decide +kernel
theorem dX4_acquire_21 : decode cX4_acquire 21 = .ok (.iconst 1, 1) := by decide +kernel
theorem dX4_acquire_22 : decode cX4_acquire 22 = .ok (.if_icmp .lt 9, 3) := by decide +kernel
theorem dX4_acquire_25 : decode cX4_acquire 25 = .ok (.iload_n 3, 1) := by decide +kernel
theorem dX4_acquire_26 : decode cX4_acquire 26 = .ok (.bipush 100, 2) := by decide +kernel
theorem dX4_acquire_28 : decode cX4_acquire 28 = .ok (.if_icmp .le 7, 3) := by decide +kernel
theorem dX4_acquire_31 : decode cX4_acquire 31 = .ok (.iconst 2, 1) := by decide +kernel
theorem dX4_acquire_32 : decode cX4_acquire 32 = .ok (.goto 4, 3) := by decide +kernel
theorem dX4_acquire_35 : decode cX4_acquire 35 = .ok (.iconst 0, 1) := by decide +kernel
theorem dX4_acquire_36 : decode cX4_acquire 36 = .ok (.putfield 50, 3) := by decide +kernel
theorem dX4_acquire_39 : decode cX4_acquire 39 = .ok (.aload_n 0, 1) := by decide +kernel
theorem dX4_acquire_40 : decode cX4_acquire 40 = .ok (.getfield 50, 3) := by decide +kernel
theorem dX4_acquire_43 : decode cX4_acquire 43 = .ok (.ifCond .le 5, 3) := by decide +kernel
theorem dX4_acquire_46 : decode cX4_acquire 46 = .ok (.iconst 0, 1) := by decide +kernel
theorem dX4_acquire_47 : decode cX4_acquire 47 = .ok (.ireturn, 1) := by decide +kernel
theorem dX4_acquire_48 : decode cX4_acquire 48 = .ok (.aload_n 0, 1) := by decide +kernel
theorem dX4_acquire_49 : decode cX4_acquire 49 = .ok (.getfield 13, 3) := by decide +kernel
theorem dX4_acquire_52 : decode cX4_acquire 52 = .ok (.iload_n 1, 1) := by decide +kernel
theorem dX4_acquire_53 : decode cX4_acquire 53 = .ok (.aload_n 0, 1) := by decide +kernel
theorem dX4_acquire_54 : decode cX4_acquire 54 = .ok (.getfield 54, 3) := by decide +kernel
theorem dX4_acquire_57 : decode cX4_acquire 57 = .ok (.iastore, 1) := by decide +kernel
theorem dX4_acquire_58 : decode cX4_acquire 58 = .ok (.aload_n 0, 1) := by decide +kernel
theorem dX4_acquire_59 : decode cX4_acquire 59 = .ok (.getfield 23, 3) := by decide +kernel
theorem dX4_acquire_62 : decode cX4_acquire 62 = .ok (.iload_n 2, 1) := by decide +kernel
theorem dX4_acquire_63 : decode cX4_acquire 63 = .ok (.iaload, 1) := by decide +kernel
theorem dX4_acquire_64 : decode cX4_acquire 64 = .ok (.iload_n 1, 1) := by decide +kernel
theorem dX4_acquire_65 : decode cX4_acquire 65 = .ok (.iconst 1, 1) := by decide +kernel
theorem dX4_acquire_66 : decode cX4_acquire 66 = .ok (.iadd, 1) := by decide +kernel
theorem dX4_acquire_67 : decode cX4_acquire 67 = .ok (.if_icmp .ne 56, 3) := by decide +kernel
theorem dX4_acquire_70 : decode cX4_acquire 70 = .ok (.aload_n 0, 1) := by decide +kernel
theorem dX4_acquire_71 : decode cX4_acquire 71 = .ok (.getfield 54, 3) := by decide +kernel
theorem dX4_acquire_74 : decode cX4_acquire 74 = .ok (.iload_n 3, 1) := by decide +kernel
theorem dX4_acquire_75 : decode cX4_acquire 75 = .ok (.iadd, 1) := by decide +kernel
theorem dX4_acquire_76 : decode cX4_acquire 76 = .ok (.aload_n 0, 1) := by decide +kernel
theorem dX4_acquire_77 : decode cX4_acquire 77 = .ok (.getfield 29, 3) := by decide +kernel
theorem dX4_acquire_80 : decode cX4_acquire 80 = .ok (.iload_n 2, 1) := by decide +kernel
theorem dX4_acquire_81 : decode cX4_acquire 81 = .ok (.iaload, 1) := by decide +kernel
theorem dX4_acquire_82 : decode cX4_acquire 82 = .ok (.if_icmp .le 34, 3) := by decide +kernel
theorem dX4_acquire_85 : decode cX4_acquire 85 = .ok (.aload_n 0, 1) := by decide +kernel
theorem dX4_acquire_86 : decode cX4_acquire 86 = .ok (.getfield 29, 3) := by decide +kernel
theorem dX4_acquire_89 : decode cX4_acquire 89 = .ok (.iload_n 2, 1) := by decide +kernel
theorem dX4_acquire_90 : decode cX4_acquire 90 = .ok (.aload_n 0, 1) := by decide +kernel
theorem dX4_acquire_91 : decode cX4_acquire 91 = .ok (.getfield 54, 3) := by decide +kernel
theorem dX4_acquire_94 : decode cX4_acquire 94 = .ok (.iload_n 3, 1) := by decide +kernel
theorem dX4_acquire_95 : decode cX4_acquire 95 = .ok (.iadd, 1) := by decide +kernel
theorem dX4_acquire_96 : decode cX4_acquire 96 = .ok (.iastore, 1) := by decide +kernel
theorem dX4_acquire_97 : decode cX4_acquire 97 = .ok (.aload_n 0, 1) := by decide +kernel
theorem dX4_acquire_98 : decode cX4_acquire 98 = .ok (.getfield 32, 3) := by decide +kernel
theorem dX4_acquire_101 : decode cX4_acquire 101 = .ok (.iload_n 2, 1) := by decide +kernel
theorem dX4_acquire_102 : decode cX4_acquire 102 = .ok (.iload_n 3, 1) := by decide +kernel
theorem dX4_acquire_103 : decode cX4_acquire 103 = .ok (.iastore, 1) := by decide +kernel
theorem dX4_acquire_104 : decode cX4_acquire 104 = .ok (.aload_n 0, 1) := by decide +kernel
theorem dX4_acquire_105 : decode cX4_acquire 105 = .ok (.getfield 35, 3) := by decide +kernel
theorem dX4_acquire_108 : decode cX4_acquire 108 = .ok (.iload_n 2, 1) := by decide +kernel
theorem dX4_acquire_109 : decode cX4_acquire 109 = .ok (.aload_n 0, 1) := by decide +kernel
theorem dX4_acquire_110 : decode cX4_acquire 110 = .ok (.getfield 20, 3) := by decide +kernel
theorem dX4_acquire_113 : decode cX4_acquire 113 = .ok (.iload_n 1, 1) := by decide +kernel
theorem dX4_acquire_114 : decode cX4_acquire 114 = .ok (.iaload, 1) := by decide +kernel
theorem dX4_acquire_115 : decode cX4_acquire 115 = .ok (.iastore, 1) := by decide +kernel
theorem dX4_acquire_116 : decode cX4_acquire 116 = .ok (.aload_n 0, 1) := by decide +kernel
theorem dX4_acquire_117 : decode cX4_acquire 117 = .ok (.getfield 26, 3) := by decide +kernel
theorem dX4_acquire_120 : decode cX4_acquire 120 = .ok (.iload_n 2, 1) := by decide +kernel
theorem dX4_acquire_121 : decode cX4_acquire 121 = .ok (.iaload, 1) := by decide +kernel
theorem dX4_acquire_122 : decode cX4_acquire 122 = .ok (.ireturn, 1) := by decide +kernel
theorem dX4_acquire_123 : decode cX4_acquire 123 = .ok (.aload_n 0, 1) := by decide +kernel
theorem dX4_acquire_124 : decode cX4_acquire 124 = .ok (.getfield 23, 3) := by decide +kernel
theorem dX4_acquire_127 : decode cX4_acquire 127 = .ok (.iload_n 2, 1) := by decide +kernel
theorem dX4_acquire_128 : decode cX4_acquire 128 = .ok (.iaload, 1) := by decide +kernel
theorem dX4_acquire_129 : decode cX4_acquire 129 = .ok (.ifCond .ne 17, 3) := by decide +kernel
theorem dX4_acquire_132 : decode cX4_acquire 132 = .ok (.aload_n 0, 1) := by decide +kernel
theorem dX4_acquire_133 : decode cX4_acquire 133 = .ok (.iload_n 2, 1) := by decide +kernel
theorem dX4_acquire_134 : decode cX4_acquire 134 = .ok (.iload_n 1, 1) := by decide +kernel
theorem dX4_acquire_135 : decode cX4_acquire 135 = .ok (.iload_n 3, 1) := by decide +kernel
theorem dX4_acquire_136 : decode cX4_acquire 136 = .ok (.invokevirtual 61, 3) := by decide +kernel
theorem dX4_acquire_139 : decode cX4_acquire 139 = .ok (.aload_n 0, 1) := by decide +kernel
theorem dX4_acquire_140 : decode cX4_acquire 140 = .ok (.getfield 26, 3) := by decide +kernel
theorem dX4_acquire_143 : decode cX4_acquire 143 = .ok (.iload_n 2, 1) := by decide +kernel
theorem dX4_acquire_144 : decode cX4_acquire 144 = .ok (.iaload, 1) := by decide +kernel
theorem dX4_acquire_145 : decode cX4_acquire 145 = .ok (.ireturn, 1) := by decide +kernel
theorem dX4_acquire_146 : decode cX4_acquire 146 = .ok (.iload_n 2, 1) := by decide +kernel
theorem dX4_acquire_147 : decode cX4_acquire 147 = .ok (.bipush 6, 2) := by decide +kernel
theorem dX4_acquire_149 : decode cX4_acquire 149 = .ok (.imul, 1) := by decide +kernel
theorem dX4_acquire_150 : decode cX4_acquire 150 = .ok (.iload_n 1, 1) := by decide +kernel
theorem dX4_acquire_151 : decode cX4_acquire 151 = .ok (.iadd, 1) := by decide +kernel
theorem dX4_acquire_152 : decode cX4_acquire 152 = .ok (.istore 4, 2) := by decide +kernel
theorem dX4_acquire_154 : decode cX4_acquire 154 = .ok (.aload_n 0, 1) := by decide +kernel
theorem dX4_acquire_155 : decode cX4_acquire 155 = .ok (.getfield 38, 3) := by decide +kernel
theorem dX4_acquire_158 : decode cX4_acquire 158 = .ok (.iload 4, 2) := by decide +kernel
theorem dX4_acquire_160 : decode cX4_acquire 160 = .ok (.iaload, 1) := by decide +kernel
theorem dX4_acquire_161 : decode cX4_acquire 161 = .ok (.ifCond .ne 24, 3) := by decide +kernel
theorem dX4_acquire_164 : decode cX4_acquire 164 = .ok (.aload_n 0, 1) := by decide +kernel
theorem dX4_acquire_165 : decode cX4_acquire 165 = .ok (.aload_n 0, 1) := by decide +kernel
theorem dX4_acquire_166 : decode cX4_acquire 166 = .ok (.getfield 80, 3) := by decide +kernel
theorem dX4_acquire_169 : decode cX4_acquire 169 = .ok (.iconst 1, 1) := by decide +kernel
theorem dX4_acquire_170 : decode cX4_acquire 170 = .ok (.iadd, 1) := by decide +kernel
theorem dX4_acquire_171 : decode cX4_acquire 171 = .ok (.putfield 80, 3) := by decide +kernel
theorem dX4_acquire_174 : decode cX4_acquire 174 = .ok (.aload_n 0, 1) := by decide +kernel
theorem dX4_acquire_175 : decode cX4_acquire 175 = .ok (.getfield 38, 3) := by decide +kernel
theorem dX4_acquire_178 : decode cX4_acquire 178 = .ok (.iload 4, 2) := by decide +kernel
theorem dX4_acquire_180 : decode cX4_acquire 180 = .ok (.aload_n 0, 1) := by decide +kernel
theorem dX4_acquire_181 : decode cX4_acquire 181 = .ok (.getfield 80, 3) := by decide +kernel
theorem dX4_acquire_184 : decode cX4_acquire 184 = .ok (.iastore, 1) := by decide +kernel
theorem dX4_acquire_185 : decode cX4_acquire 185 = .ok (.aload_n 0, 1) := by decide +kernel
theorem dX4_acquire_186 : decode cX4_acquire 186 = .ok (.getfield 41, 3) := by decide +kernel
theorem dX4_acquire_189 : decode cX4_acquire 189 = .ok (.iload 4, 2) := by decide +kernel
theorem dX4_acquire_191 : decode cX4_acquire 191 = .ok (.iload_n 3, 1) := by decide +kernel
theorem dX4_acquire_192 : decode cX4_acquire 192 = .ok (.iastore, 1) := by decide +kernel
theorem dX4_acquire_193 : decode cX4_acquire 193 = .ok (.iconst 0, 1) := by decide +kernel
theorem dX4_acquire_194 : decode cX4_acquire 194 = .ok (.ireturn, 1) := by decide +kernel
set_option maxRecDepth 20000 in
theorem ggX4_release_X4_isOpen : GoodIn wsX4_release wsX4_isOpen := goodIn_r _ [7, 8, 32, 33, 34, 35, 36, 37, 38, 39, 40, 41, 42, 43, 44, 45, 46, 47] (by decide +kernel) (by decide +kernel)
set_option maxRecDepth 20000 in
theorem gX4_release_X4_isOpen : GoodIn wsX4_release (wsV RX4 69 RX4 yX4_isOpen wsX4_isOpen) := goodIn_app (goodIn_of _ (by decide +kernel)) ggX4_release_X4_isOpen
set_option maxRecDepth 20000 in
theorem ggX4_release_X4_isLock : GoodIn wsX4_release wsX4_isLock := goodIn_r _ [11] (by decide +kernel) (by decide +kernel)
set_option maxRecDepth 20000 in
theorem gX4_release_X4_isLock : GoodIn wsX4_release (va_wsS RX4 77 yX4_isLock wsX4_isLock) := goodIn_app (goodIn_of _ (by decide +kernel)) ggX4_release_X4_isLock
set_option maxRecDepth 20000 in
theorem ggX4_release_X4_over : GoodIn wsX4_release wsX4_over := goodIn_r _ [15, 1, 16, 17, 18, 19, 6, 20, 21, 22, 23, 24, 25, 26, 27, 28, 29, 30, 31, 32, 33, 34, 35, 36, 37, 38, 39, 40, 41, 42, 43, 44, 45, 46, 47] (by decide +kernel) (by decide +kernel)
set_option maxRecDepth 20000 in
theorem gX4_release_X4_over : GoodIn wsX4_release (wsV RX4 65 RX4 yX4_over wsX4_over) := goodIn_app (goodIn_of _ (by decide +kernel)) ggX4_release_X4_over
theorem dX4_release_0 : decode cX4_release 0 = .ok (.aload_n 0, 1) := by decide +kernel
theorem dX4_release_1 : decode cX4_release 1 = .ok (.aload_n 0, 1) := by decide +kernel
theorem dX4_release_2 : decode cX4_release 2 = .ok (.iload_n 1, 1) := by decide +kernel
theorem dX4_release_3 : decode cX4_release 3 = .ok (.invokevirtual 69, 3) := by decide +kernel
theorem dX4_release_6 : decode cX4_release 6 = .ok (.ifCond .ne 7, 3) := by decide +kernel
theorem dX4_release_9 : decode cX4_release 9 = .ok (.iconst 1, 1) := by decide +kernel
theorem dX4_release_10 : decode cX4_release 10 = .ok (.goto 31, 3) := by decide +kernel
theorem dX4_release_13 : decode cX4_release 13 = .ok (.iload_n 2, 1) := by decide +kernel
theorem dX4_release_14 : decode cX4_release 14 = .ok (.invokestatic 77, 3) := by decide +kernel
theorem dX4_release_17 : decode cX4_release 17 = .ok (.ifCond .ne 7, 3) := by decide +kernel
theorem dX4_release_20 : decode cX4_release 20 = .ok (.iconst 2, 1) := by decide +kernel
theorem dX4_release_21 : decode cX4_release 21 = .ok (.goto 20, 3) := by decide +kernel
theorem dX4_release_24 : decode cX4_release 24 = .ok (.aload_n 0, 1) := by decide +kernel
theorem dX4_release_25 : decode cX4_release 25 = .ok (.getfield 23, 3) := by decide +kernel
theorem dX4_release_28 : decode cX4_release 28 = .ok (.iload_n 2, 1) := by decide +kernel
theorem dX4_release_29 : decode cX4_release 29 = .ok (.iaload, 1) := by decide +kernel
theorem dX4_release_30 : decode cX4_release 30 = .ok (.iload_n 1, 1) := by decide +kernel
theorem dX4_release_31 : decode cX4_release 31 = .ok (.iconst 1, 1) := by decide +kernel
theorem dX4_release_32 : decode cX4_release 32 = .ok (.iadd, 1) := by decide +kernel
theorem dX4_release_33 : decode cX4_release 33 = .ok (.if_icmp .eq 7, 3) := by decide +kernel
theorem dX4_release_36 : decode cX4_release 36 = .ok (.iconst 3, 1) := by decide +kernel
theorem dX4_release_37 : decode cX4_release 37 = .ok (.goto 4, 3) := by decide +kernel
theorem dX4_release_40 : decode cX4_release 40 = .ok (.iconst 0, 1) := by decide +kernel
theorem dX4_release_41 : decode cX4_release 41 = .ok (.putfield 50, 3) := by decide +kernel
theorem dX4_release_44 : decode cX4_release 44 = .ok (.aload_n 0, 1) := by decide +kernel
theorem dX4_release_45 : decode cX4_release 45 = .ok (.getfield 50, 3) := by decide +kernel
theorem dX4_release_48 : decode cX4_release 48 = .ok (.ifCond .ne 8, 3) := by decide +kernel
theorem dX4_release_51 : decode cX4_release 51 = .ok (.aload_n 0, 1) := by decide +kernel
theorem dX4_release_52 : decode cX4_release 52 = .ok (.iload_n 2, 1) := by decide +kernel
theorem dX4_release_53 : decode cX4_release 53 = .ok (.invokevirtual 65, 3) := by decide +kernel
theorem dX4_release_56 : decode cX4_release 56 = .ok (.return_, 1) := by decide +kernel
set_option maxRecDepth 20000 in
theorem ggX4_cancel_X4_isOpen : GoodIn wsX4_cancel wsX4_isOpen := goodIn_r _ [6, 7, 11, 12, 13, 14, 15, 16, 17, 18, 19, 20, 21, 22, 23, 24, 25, 26] (by decide +kernel) (by decide +kernel)
set_option maxRecDepth 20000 in
theorem gX4_cancel_X4_isOpen : GoodIn wsX4_cancel (wsV RX4 69 RX4 yX4_isOpen wsX4_isOpen) := goodIn_app (goodIn_of _ (by decide +kernel)) ggX4_cancel_X4_isOpen
set_option maxRecDepth 20000 in
theorem ggX4_cancel_X4_isLock : GoodIn wsX4_cancel wsX4_isLock := goodIn_r _ [10] (by decide +kernel) (by decide +kernel)
set_option maxRecDepth 20000 in
theorem gX4_cancel_X4_isLock : GoodIn wsX4_cancel (va_wsS RX4 77 yX4_isLock wsX4_isLock) := goodIn_app (goodIn_of _ (by decide +kernel)) ggX4_cancel_X4_isLock
theorem dX4_cancel_0 : decode cX4_cancel 0 = .ok (.aload_n 0, 1) := by decide +kernel
theorem dX4_cancel_1 : decode cX4_cancel 1 = .ok (.iload_n 1, 1) := by decide +kernel
theorem dX4_cancel_2 : decode cX4_cancel 2 = .ok (.invokevirtual 69, 3) := by decide +kernel
theorem dX4_cancel_5 : decode cX4_cancel 5 = .ok (.ifCond .eq 24, 3) := by decide +kernel
theorem dX4_cancel_8 : decode cX4_cancel 8 = .ok (.iload_n 2, 1) := by decide +kernel
theorem dX4_cancel_9 : decode cX4_cancel 9 = .ok (.invokestatic 77, 3) := by decide +kernel
theorem dX4_cancel_12 : decode cX4_cancel 12 = .ok (.ifCond .eq 17, 3) := by decide +kernel
theorem dX4_cancel_15 : decode cX4_cancel 15 = .ok (.aload_n 0, 1) := by decide +kernel
theorem dX4_cancel_16 : decode cX4_cancel 16 = .ok (.getfield 38, 3) := by decide +kernel
theorem dX4_cancel_19 : decode cX4_cancel 19 = .ok (.iload_n 2, 1) := by decide +kernel
theorem dX4_cancel_20 : decode cX4_cancel 20 = .ok (.bipush 6, 2) := by decide +kernel
theorem dX4_cancel_22 : decode cX4_cancel 22 = .ok (.imul, 1) := by decide +kernel
theorem dX4_cancel_23 : decode cX4_cancel 23 = .ok (.iload_n 1, 1) := by decide +kernel
theorem dX4_cancel_24 : decode cX4_cancel 24 = .ok (.iadd, 1) := by decide +kernel
theorem dX4_cancel_25 : decode cX4_cancel 25 = .ok (.iaload, 1) := by decide +kernel
theorem dX4_cancel_26 : decode cX4_cancel 26 = .ok (.ifCond .ne 5, 3) := by decide +kernel
theorem dX4_cancel_29 : decode cX4_cancel 29 = .ok (.iconst 0, 1) := by decide +kernel
theorem dX4_cancel_30 : decode cX4_cancel 30 = .ok (.ireturn, 1) := by decide +kernel
theorem dX4_cancel_31 : decode cX4_cancel 31 = .ok (.aload_n 0, 1) := by decide +kernel
theorem dX4_cancel_32 : decode cX4_cancel 32 = .ok (.getfield 38, 3) := by decide +kernel
theorem dX4_cancel_35 : decode cX4_cancel 35 = .ok (.iload_n 2, 1) := by decide +kernel
theorem dX4_cancel_36 : decode cX4_cancel 36 = .ok (.bipush 6, 2) := by decide +kernel
theorem dX4_cancel_38 : decode cX4_cancel 38 = .ok (.imul, 1) := by decide +kernel
theorem dX4_cancel_39 : decode cX4_cancel 39 = .ok (.iload_n 1, 1) := by decide +kernel
theorem dX4_cancel_40 : decode cX4_cancel 40 = .ok (.iadd, 1) := by decide +kernel
theorem dX4_cancel_41 : decode cX4_cancel 41 = .ok (.iconst 0, 1) := by decide +kernel
theorem dX4_cancel_42 : decode cX4_cancel 42 = .ok (.iastore, 1) := by decide +kernel
theorem dX4_cancel_43 : decode cX4_cancel 43 = .ok (.iconst 1, 1) := by decide +kernel
theorem dX4_cancel_44 : decode cX4_cancel 44 = .ok (.ireturn, 1) := by decide +kernel
set_option maxRecDepth 20000 in
theorem ggX4_holder_X4_isLock : GoodIn wsX4_holder wsX4_isLock := goodIn_r _ [5] (by decide +kernel) (by decide +kernel)
set_option maxRecDepth 20000 in
theorem gX4_holder_X4_isLock : GoodIn wsX4_holder (va_wsS RX4 77 yX4_isLock wsX4_isLock) := goodIn_app (goodIn_of _ (by decide +kernel)) ggX4_holder_X4_isLock
theorem dX4_holder_0 : decode cX4_holder 0 = .ok (.iload_n 1, 1) := by decide +kernel
theorem dX4_holder_1 : decode cX4_holder 1 = .ok (.invokestatic 77, 3) := by decide +kernel
theorem dX4_holder_4 : decode cX4_holder 4 = .ok (.ifCond .eq 14, 3) := by decide +kernel
theorem dX4_holder_7 : decode cX4_holder 7 = .ok (.aload_n 0, 1) := by decide +kernel
theorem dX4_holder_8 : decode cX4_holder 8 = .ok (.getfield 23, 3) := by decide +kernel
theorem dX4_holder_11 : decode cX4_holder 11 = .ok (.iload_n 1, 1) := by decide +kernel
theorem dX4_holder_12 : decode cX4_holder 12 = .ok (.iaload, 1) := by decide +kernel
theorem dX4_holder_13 : decode cX4_holder 13 = .ok (.iconst 1, 1) := by decide +kernel
theorem dX4_holder_14 : decode cX4_holder 14 = .ok (.isub, 1) := by decide +kernel
theorem dX4_holder_15 : decode cX4_holder 15 = .ok (.goto 4, 3) := by decide +kernel
theorem dX4_holder_18 : decode cX4_holder 18 = .ok (.iconst (-1), 1) := by decide +kernel
theorem dX4_holder_19 : decode cX4_holder 19 = .ok (.ireturn, 1) := by decide +kernel
set_option maxRecDepth 20000 in
theorem ggX4_token_X4_isLock : GoodIn wsX4_token wsX4_isLock := goodIn_r _ [5] (by decide +kernel) (by decide +kernel)
set_option maxRecDepth 20000 in
theorem gX4_token_X4_isLock : GoodIn wsX4_token (va_wsS RX4 77 yX4_isLock wsX4_isLock) := goodIn_app (goodIn_of _ (by decide +kernel)) ggX4_token_X4_isLock
theorem dX4_token_0 : decode cX4_token 0 = .ok (.iload_n 1, 1) := by decide +kernel
theorem dX4_token_1 : decode cX4_token 1 = .ok (.invokestatic 77, 3) := by decide +kernel
theorem dX4_token_4 : decode cX4_token 4 = .ok (.ifCond .eq 12, 3) := by decide +kernel
theorem dX4_token_7 : decode cX4_token 7 = .ok (.aload_n 0, 1) := by decide +kernel
theorem dX4_token_8 : decode cX4_token 8 = .ok (.getfield 26, 3) := by decide +kernel
theorem dX4_token_11 : decode cX4_token 11 = .ok (.iload_n 1, 1) := by decide +kernel
theorem dX4_token_12 : decode cX4_token 12 = .ok (.iaload, 1) := by decide +kernel
theorem dX4_token_13 : decode cX4_token 13 = .ok (.goto 4, 3) := by decide +kernel
theorem dX4_token_16 : decode cX4_token 16 = .ok (.iconst (-1), 1) := by decide +kernel
theorem dX4_token_17 : decode cX4_token 17 = .ok (.ireturn, 1) := by decide +kernel
set_option maxRecDepth 20000 in
theorem ggX4_until_X4_isLock : GoodIn wsX4_until wsX4_isLock := goodIn_r _ [6] (by decide +kernel) (by decide +kernel)
set_option maxRecDepth 20000 in
theorem gX4_until_X4_isLock : GoodIn wsX4_until (va_wsS RX4 77 yX4_isLock wsX4_isLock) := goodIn_app (goodIn_of _ (by decide +kernel)) ggX4_until_X4_isLock
theorem dX4_until_0 : decode cX4_until 0 = .ok (.iload_n 1, 1) := by decide +kernel
theorem dX4_until_1 : decode cX4_until 1 = .ok (.invokestatic 77, 3) := by decide +kernel
theorem dX4_until_4 : decode cX4_until 4 = .ok (.ifCond .eq 21, 3) := by decide +kernel
theorem dX4_until_7 : decode cX4_until 7 = .ok (.aload_n 0, 1) := by decide +kernel
theorem dX4_until_8 : decode cX4_until 8 = .ok (.getfield 23, 3) := by decide +kernel
theorem dX4_until_11 : decode cX4_until 11 = .ok (.iload_n 1, 1) := by decide +kernel
theorem dX4_until_12 : decode cX4_until 12 = .ok (.iaload, 1) := by decide +kernel
theorem dX4_until_13 : decode cX4_until 13 = .ok (.ifCond .le 12, 3) := by decide +kernel
theorem dX4_until_16 : decode cX4_until 16 = .ok (.aload_n 0, 1) := by decide +kernel
theorem dX4_until_17 : decode cX4_until 17 = .ok (.getfield 29, 3) := by decide +kernel
theorem dX4_until_20 : decode cX4_until 20 = .ok (.iload_n 1, 1) := by decide +kernel
theorem dX4_until_21 : decode cX4_until 21 = .ok (.iaload, 1) := by decide +kernel
theorem dX4_until_22 : decode cX4_until 22 = .ok (.goto 4, 3) := by decide +kernel
theorem dX4_until_25 : decode cX4_until 25 = .ok (.iconst (-1), 1) := by decide +kernel
theorem dX4_until_26 : decode cX4_until 26 = .ok (.ireturn, 1) := by decide +kernel
set_option maxRecDepth 20000 in
theorem ggX4_waiter_X4_isLock : GoodIn wsX4_waiter wsX4_isLock := goodIn_r _ [4] (by decide +kernel) (by decide +kernel)
set_option maxRecDepth 20000 in
theorem gX4_waiter_X4_isLock : GoodIn wsX4_waiter (va_wsS RX4 77 yX4_isLock wsX4_isLock) := goodIn_app (goodIn_of _ (by decide +kernel)) ggX4_waiter_X4_isLock
set_option maxRecDepth 20000 in
theorem ggX4_waiter_X4_inRow : GoodIn wsX4_waiter wsX4_inRow := goodIn_r _ [8, 9, 10, 11, 12, 13, 14, 15, 16, 17, 18, 19, 20, 21, 22, 23, 24, 25] (by decide +kernel) (by decide +kernel)
set_option maxRecDepth 20000 in
theorem gX4_waiter_X4_inRow : GoodIn wsX4_waiter (wsV RX4 57 RX4 yX4_inRow wsX4_inRow) := goodIn_app (goodIn_of _ (by decide +kernel)) ggX4_waiter_X4_inRow
theorem dX4_waiter_0 : decode cX4_waiter 0 = .ok (.iload_n 1, 1) := by decide +kernel
theorem dX4_waiter_1 : decode cX4_waiter 1 = .ok (.invokestatic 77, 3) := by decide +kernel
theorem dX4_waiter_4 : decode cX4_waiter 4 = .ok (.ifCond .eq 12, 3) := by decide +kernel
theorem dX4_waiter_7 : decode cX4_waiter 7 = .ok (.aload_n 0, 1) := by decide +kernel
theorem dX4_waiter_8 : decode cX4_waiter 8 = .ok (.iload_n 1, 1) := by decide +kernel
theorem dX4_waiter_9 : decode cX4_waiter 9 = .ok (.iload_n 2, 1) := by decide +kernel
theorem dX4_waiter_10 : decode cX4_waiter 10 = .ok (.invokevirtual 57, 3) := by decide +kernel
theorem dX4_waiter_13 : decode cX4_waiter 13 = .ok (.goto 4, 3) := by decide +kernel
theorem dX4_waiter_16 : decode cX4_waiter 16 = .ok (.iconst (-1), 1) := by decide +kernel
theorem dX4_waiter_17 : decode cX4_waiter 17 = .ok (.ireturn, 1) := by decide +kernel
theorem dX4_time_0 : decode cX4_time 0 = .ok (.aload_n 0, 1) := by decide +kernel
theorem dX4_time_1 : decode cX4_time 1 = .ok (.getfield 54, 3) := by decide +kernel
theorem dX4_time_4 : decode cX4_time 4 = .ok (.ireturn, 1) := by decide +kernel
set_option maxRecDepth 20000 in
theorem ggX4_clock_X4_isOpen : GoodIn wsX4_clock wsX4_isOpen := goodIn_r _ [6, 7, 8, 9, 10, 11, 12, 13, 14, 15, 16, 17, 18, 19, 20, 21, 22, 23] (by decide +kernel) (by decide +kernel)
set_option maxRecDepth 20000 in
theorem gX4_clock_X4_isOpen : GoodIn wsX4_clock (wsV RX4 69 RX4 yX4_isOpen wsX4_isOpen) := goodIn_app (goodIn_of _ (by decide +kernel)) ggX4_clock_X4_isOpen
theorem dX4_clock_0 : decode cX4_clock 0 = .ok (.aload_n 0, 1) := by decide +kernel
theorem dX4_clock_1 : decode cX4_clock 1 = .ok (.iload_n 1, 1) := by decide +kernel
theorem dX4_clock_2 : decode cX4_clock 2 = .ok (.invokevirtual 69, 3) := by decide +kernel
theorem dX4_clock_5 : decode cX4_clock 5 = .ok (.ifCond .eq 12, 3) := by decide +kernel
theorem dX4_clock_8 : decode cX4_clock 8 = .ok (.aload_n 0, 1) := by decide +kernel
theorem dX4_clock_9 : decode cX4_clock 9 = .ok (.getfield 20, 3) := by decide +kernel
theorem dX4_clock_12 : decode cX4_clock 12 = .ok (.iload_n 1, 1) := by decide +kernel
theorem dX4_clock_13 : decode cX4_clock 13 = .ok (.iaload, 1) := by decide +kernel
theorem dX4_clock_14 : decode cX4_clock 14 = .ok (.goto 4, 3) := by decide +kernel
theorem dX4_clock_17 : decode cX4_clock 17 = .ok (.iconst (-1), 1) := by decide +kernel
theorem dX4_clock_18 : decode cX4_clock 18 = .ok (.ireturn, 1) := by decide +kernel
set_option maxRecDepth 20000 in
theorem ggX4_believes_X4_isOpen : GoodIn wsX4_believes wsX4_isOpen := goodIn_r _ [9, 10, 14, 15, 16, 17, 18, 19, 20, 21, 22, 23, 24, 25, 26, 27, 28, 29] (by decide +kernel) (by decide +kernel)
set_option maxRecDepth 20000 in
theorem gX4_believes_X4_isOpen : GoodIn wsX4_believes (wsV RX4 69 RX4 yX4_isOpen wsX4_isOpen) := goodIn_app (goodIn_of _ (by decide +kernel)) ggX4_believes_X4_isOpen
set_option maxRecDepth 20000 in
theorem ggX4_believes_X4_isLock : GoodIn wsX4_believes wsX4_isLock := goodIn_r _ [13] (by decide +kernel) (by decide +kernel)
set_option maxRecDepth 20000 in
theorem gX4_believes_X4_isLock : GoodIn wsX4_believes (va_wsS RX4 77 yX4_isLock wsX4_isLock) := goodIn_app (goodIn_of _ (by decide +kernel)) ggX4_believes_X4_isLock
theorem dX4_believes_0 : decode cX4_believes 0 = .ok (.aload_n 0, 1) := by decide +kernel
theorem dX4_believes_1 : decode cX4_believes 1 = .ok (.iload_n 1, 1) := by decide +kernel
theorem dX4_believes_2 : decode cX4_believes 2 = .ok (.invokevirtual 69, 3) := by decide +kernel
theorem dX4_believes_5 : decode cX4_believes 5 = .ok (.ifCond .eq 51, 3) := by decide +kernel
theorem dX4_believes_8 : decode cX4_believes 8 = .ok (.iload_n 2, 1) := by decide +kernel
theorem dX4_believes_9 : decode cX4_believes 9 = .ok (.invokestatic 77, 3) := by decide +kernel
theorem dX4_believes_12 : decode cX4_believes 12 = .ok (.ifCond .eq 44, 3) := by decide +kernel
theorem dX4_believes_15 : decode cX4_believes 15 = .ok (.aload_n 0, 1) := by decide +kernel
theorem dX4_believes_16 : decode cX4_believes 16 = .ok (.getfield 23, 3) := by decide +kernel
theorem dX4_believes_19 : decode cX4_believes 19 = .ok (.iload_n 2, 1) := by decide +kernel
theorem dX4_believes_20 : decode cX4_believes 20 = .ok (.iaload, 1) := by decide +kernel
theorem dX4_believes_21 : decode cX4_believes 21 = .ok (.iload_n 1, 1) := by decide +kernel
theorem dX4_believes_22 : decode cX4_believes 22 = .ok (.iconst 1, 1) := by decide +kernel
theorem dX4_believes_23 : decode cX4_believes 23 = .ok (.iadd, 1) := by decide +kernel
theorem dX4_believes_24 : decode cX4_believes 24 = .ok (.if_icmp .ne 32, 3) := by decide +kernel
theorem dX4_believes_27 : decode cX4_believes 27 = .ok (.aload_n 0, 1) := by decide +kernel
theorem dX4_believes_28 : decode cX4_believes 28 = .ok (.getfield 20, 3) := by decide +kernel
theorem dX4_believes_31 : decode cX4_believes 31 = .ok (.iload_n 1, 1) := by decide +kernel
theorem dX4_believes_32 : decode cX4_believes 32 = .ok (.iaload, 1) := by decide +kernel
theorem dX4_believes_33 : decode cX4_believes 33 = .ok (.aload_n 0, 1) := by decide +kernel
theorem dX4_believes_34 : decode cX4_believes 34 = .ok (.getfield 35, 3) := by decide +kernel
theorem dX4_believes_37 : decode cX4_believes 37 = .ok (.iload_n 2, 1) := by decide +kernel
theorem dX4_believes_38 : decode cX4_believes 38 = .ok (.iaload, 1) := by decide +kernel
theorem dX4_believes_39 : decode cX4_believes 39 = .ok (.isub, 1) := by decide +kernel
theorem dX4_believes_40 : decode cX4_believes 40 = .ok (.bipush 9, 2) := by decide +kernel
theorem dX4_believes_42 : decode cX4_believes 42 = .ok (.aload_n 0, 1) := by decide +kernel
theorem dX4_believes_43 : decode cX4_believes 43 = .ok (.getfield 32, 3) := by decide +kernel
theorem dX4_believes_46 : decode cX4_believes 46 = .ok (.iload_n 2, 1) := by decide +kernel
theorem dX4_believes_47 : decode cX4_believes 47 = .ok (.iaload, 1) := by decide +kernel
theorem dX4_believes_48 : decode cX4_believes 48 = .ok (.imul, 1) := by decide +kernel
theorem dX4_believes_49 : decode cX4_believes 49 = .ok (.if_icmp .ge 7, 3) := by decide +kernel
theorem dX4_believes_52 : decode cX4_believes 52 = .ok (.iconst 1, 1) := by decide +kernel
theorem dX4_believes_53 : decode cX4_believes 53 = .ok (.goto 4, 3) := by decide +kernel
theorem dX4_believes_56 : decode cX4_believes 56 = .ok (.iconst 0, 1) := by decide +kernel
theorem dX4_believes_57 : decode cX4_believes 57 = .ok (.ireturn, 1) := by decide +kernel
set_option maxRecDepth 20000 in
theorem ggX4_write_X4_isLock : GoodIn wsX4_write wsX4_isLock := goodIn_r _ [6] (by decide +kernel) (by decide +kernel)
set_option maxRecDepth 20000 in
theorem gX4_write_X4_isLock : GoodIn wsX4_write (va_wsS RX4 77 yX4_isLock wsX4_isLock) := goodIn_app (goodIn_of _ (by decide +kernel)) ggX4_write_X4_isLock
theorem dX4_write_0 : decode cX4_write 0 = .ok (.iload_n 1, 1) := by decide +kernel
theorem dX4_write_1 : decode cX4_write 1 = .ok (.invokestatic 77, 3) := by decide +kernel
theorem dX4_write_4 : decode cX4_write 4 = .ok (.ifCond .eq 18, 3) := by decide +kernel
theorem dX4_write_7 : decode cX4_write 7 = .ok (.iload_n 2, 1) := by decide +kernel
theorem dX4_write_8 : decode cX4_write 8 = .ok (.iconst 1, 1) := by decide +kernel
theorem dX4_write_9 : decode cX4_write 9 = .ok (.if_icmp .lt 13, 3) := by decide +kernel
theorem dX4_write_12 : decode cX4_write 12 = .ok (.iload_n 2, 1) := by decide +kernel
theorem dX4_write_13 : decode cX4_write 13 = .ok (.aload_n 0, 1) := by decide +kernel
theorem dX4_write_14 : decode cX4_write 14 = .ok (.getfield 44, 3) := by decide +kernel
theorem dX4_write_17 : decode cX4_write 17 = .ok (.iload_n 1, 1) := by decide +kernel
theorem dX4_write_18 : decode cX4_write 18 = .ok (.iaload, 1) := by decide +kernel
theorem dX4_write_19 : decode cX4_write 19 = .ok (.if_icmp .ge 5, 3) := by decide +kernel
theorem dX4_write_22 : decode cX4_write 22 = .ok (.iconst 0, 1) := by decide +kernel
theorem dX4_write_23 : decode cX4_write 23 = .ok (.ireturn, 1) := by decide +kernel
theorem dX4_write_24 : decode cX4_write 24 = .ok (.aload_n 0, 1) := by decide +kernel
theorem dX4_write_25 : decode cX4_write 25 = .ok (.getfield 44, 3) := by decide +kernel
theorem dX4_write_28 : decode cX4_write 28 = .ok (.iload_n 1, 1) := by decide +kernel
theorem dX4_write_29 : decode cX4_write 29 = .ok (.iload_n 2, 1) := by decide +kernel
theorem dX4_write_30 : decode cX4_write 30 = .ok (.iastore, 1) := by decide +kernel
theorem dX4_write_31 : decode cX4_write 31 = .ok (.aload_n 0, 1) := by decide +kernel
theorem dX4_write_32 : decode cX4_write 32 = .ok (.getfield 47, 3) := by decide +kernel
theorem dX4_write_35 : decode cX4_write 35 = .ok (.iload_n 1, 1) := by decide +kernel
theorem dX4_write_36 : decode cX4_write 36 = .ok (.iload_n 3, 1) := by decide +kernel
theorem dX4_write_37 : decode cX4_write 37 = .ok (.iastore, 1) := by decide +kernel
theorem dX4_write_38 : decode cX4_write 38 = .ok (.iconst 1, 1) := by decide +kernel
theorem dX4_write_39 : decode cX4_write 39 = .ok (.ireturn, 1) := by decide +kernel
set_option maxRecDepth 20000 in
theorem ggX4_stored_X4_isLock : GoodIn wsX4_stored wsX4_isLock := goodIn_r _ [5] (by decide +kernel) (by decide +kernel)
set_option maxRecDepth 20000 in
theorem gX4_stored_X4_isLock : GoodIn wsX4_stored (va_wsS RX4 77 yX4_isLock wsX4_isLock) := goodIn_app (goodIn_of _ (by decide +kernel)) ggX4_stored_X4_isLock
theorem dX4_stored_0 : decode cX4_stored 0 = .ok (.iload_n 1, 1) := by decide +kernel
theorem dX4_stored_1 : decode cX4_stored 1 = .ok (.invokestatic 77, 3) := by decide +kernel
theorem dX4_stored_4 : decode cX4_stored 4 = .ok (.ifCond .eq 12, 3) := by decide +kernel
theorem dX4_stored_7 : decode cX4_stored 7 = .ok (.aload_n 0, 1) := by decide +kernel
theorem dX4_stored_8 : decode cX4_stored 8 = .ok (.getfield 47, 3) := by decide +kernel
theorem dX4_stored_11 : decode cX4_stored 11 = .ok (.iload_n 1, 1) := by decide +kernel
theorem dX4_stored_12 : decode cX4_stored 12 = .ok (.iaload, 1) := by decide +kernel
theorem dX4_stored_13 : decode cX4_stored 13 = .ok (.goto 4, 3) := by decide +kernel
theorem dX4_stored_16 : decode cX4_stored 16 = .ok (.iconst 0, 1) := by decide +kernel
theorem dX4_stored_17 : decode cX4_stored 17 = .ok (.ireturn, 1) := by decide +kernel
set_option maxRecDepth 20000 in
theorem ggX4_seen_X4_isLock : GoodIn wsX4_seen wsX4_isLock := goodIn_r _ [5] (by decide +kernel) (by decide +kernel)
set_option maxRecDepth 20000 in
theorem gX4_seen_X4_isLock : GoodIn wsX4_seen (va_wsS RX4 77 yX4_isLock wsX4_isLock) := goodIn_app (goodIn_of _ (by decide +kernel)) ggX4_seen_X4_isLock
theorem dX4_seen_0 : decode cX4_seen 0 = .ok (.iload_n 1, 1) := by decide +kernel
theorem dX4_seen_1 : decode cX4_seen 1 = .ok (.invokestatic 77, 3) := by decide +kernel
theorem dX4_seen_4 : decode cX4_seen 4 = .ok (.ifCond .eq 12, 3) := by decide +kernel
theorem dX4_seen_7 : decode cX4_seen 7 = .ok (.aload_n 0, 1) := by decide +kernel
theorem dX4_seen_8 : decode cX4_seen 8 = .ok (.getfield 44, 3) := by decide +kernel
theorem dX4_seen_11 : decode cX4_seen 11 = .ok (.iload_n 1, 1) := by decide +kernel
theorem dX4_seen_12 : decode cX4_seen 12 = .ok (.iaload, 1) := by decide +kernel
theorem dX4_seen_13 : decode cX4_seen 13 = .ok (.goto 4, 3) := by decide +kernel
theorem dX4_seen_16 : decode cX4_seen 16 = .ok (.iconst (-1), 1) := by decide +kernel
theorem dX4_seen_17 : decode cX4_seen 17 = .ok (.ireturn, 1) := by decide +kernel
set_option maxRecDepth 20000 in
theorem ggL_open_X3_open : GoodIn wsL_open wsX3_open := goodIn_ca (goodIn_r _ [6, 7, 8, 9, 10, 11, 12, 13, 14, 15, 16, 17, 18, 19, 20, 21, 22, 23, 24, 25, 26, 27] (by decide +kernel) (by decide +kernel)) (goodIn_sub (fun _ h => List.mem_cons_of_mem _ (List.mem_append_right _ h)) (by decide +kernel))
set_option maxRecDepth 20000 in
theorem gL_open_X3_open : GoodIn wsL_open (wsV RL 7 RX3 yX3_open wsX3_open) := goodIn_app (goodIn_of _ (by decide +kernel)) ggL_open_X3_open
theorem dL_open_0 : decode cL_open 0 = .ok (.aload_n 1, 1) := by decide +kernel
theorem dL_open_1 : decode cL_open 1 = .ok (.iconst 0, 1) := by decide +kernel
theorem dL_open_2 : decode cL_open 2 = .ok (.aload_n 0, 1) := by decide +kernel
theorem dL_open_3 : decode cL_open 3 = .ok (.invokevirtual 7, 3) := by decide +kernel
theorem dL_open_6 : decode cL_open 6 = .ok (.i2l, 1) := by decide +kernel
theorem dL_open_7 : decode cL_open 7 = .ok (.lastore, 1) := by decide +kernel
theorem dL_open_8 : decode cL_open 8 = .ok (.goto 6, 3) := by decide +kernel
theorem dL_open_11 : decode cL_open 11 = .ok (.astore_n 2, 1) := by decide +kernel
theorem dL_open_12 : decode cL_open 12 = .ok (.iconst 1, 1) := by decide +kernel
theorem dL_open_13 : decode cL_open 13 = .ok (.ireturn, 1) := by decide +kernel
theorem dL_open_14 : decode cL_open 14 = .ok (.iconst 0, 1) := by decide +kernel
theorem dL_open_15 : decode cL_open 15 = .ok (.ireturn, 1) := by decide +kernel
set_option maxRecDepth 20000 in
theorem ggL_close_X3_close : GoodIn wsL_close wsX3_close := goodIn_ca (goodIn_r _ [6, 7, 8, 9, 5, 10, 11, 12, 13, 14, 15, 16, 17, 18, 19, 20, 21, 22, 23, 24, 25, 26, 27, 28, 29, 30, 31, 32, 33, 34, 35, 36, 37, 38, 39, 40, 41, 42, 43, 44, 45, 46, 47, 48, 49, 50, 51, 52, 53, 54, 55, 56, 57, 58, 59, 60, 61, 62, 63, 64, 65, 66, 67, 68, 69, 70, 71, 72, 73, 74, 75, 76, 77, 78, 79, 80, 81, 82, 83, 84, 85, 86, 87, 88, 89, 90, 91] (by decide +kernel) (by decide +kernel)) (goodIn_sub (fun _ h => List.mem_cons_of_mem _ (List.mem_append_right _ h)) (by decide +kernel))
set_option maxRecDepth 20000 in
theorem gL_close_X3_close : GoodIn wsL_close (wsV RL 15 RX3 yX3_close wsX3_close) := goodIn_app (goodIn_of _ (by decide +kernel)) ggL_close_X3_close
theorem dL_close_0 : decode cL_close 0 = .ok (.aload_n 2, 1) := by decide +kernel
theorem dL_close_1 : decode cL_close 1 = .ok (.iconst 0, 1) := by decide +kernel
theorem dL_close_2 : decode cL_close 2 = .ok (.aload_n 0, 1) := by decide +kernel
theorem dL_close_3 : decode cL_close 3 = .ok (.iload_n 1, 1) := by decide +kernel
theorem dL_close_4 : decode cL_close 4 = .ok (.invokevirtual 15, 3) := by decide +kernel
theorem dL_close_7 : decode cL_close 7 = .ok (.i2l, 1) := by decide +kernel
theorem dL_close_8 : decode cL_close 8 = .ok (.lastore, 1) := by decide +kernel
theorem dL_close_9 : decode cL_close 9 = .ok (.goto 6, 3) := by decide +kernel
theorem dL_close_12 : decode cL_close 12 = .ok (.astore_n 3, 1) := by decide +kernel
theorem dL_close_13 : decode cL_close 13 = .ok (.iconst 1, 1) := by decide +kernel
theorem dL_close_14 : decode cL_close 14 = .ok (.ireturn, 1) := by decide +kernel
theorem dL_close_15 : decode cL_close 15 = .ok (.iconst 0, 1) := by decide +kernel
theorem dL_close_16 : decode cL_close 16 = .ok (.ireturn, 1) := by decide +kernel
set_option maxRecDepth 20000 in
theorem ggL_keep_X3_keep : GoodIn wsL_keep wsX3_keep := goodIn_ca (goodIn_r _ [6, 7, 8, 9, 10, 11, 5, 12, 13, 14, 15, 16, 17, 18, 19, 20, 21, 22, 23, 24, 25, 26, 27] (by decide +kernel) (by decide +kernel)) (goodIn_sub (fun _ h => List.mem_cons_of_mem _ (List.mem_append_right _ h)) (by decide +kernel))
set_option maxRecDepth 20000 in
theorem gL_keep_X3_keep : GoodIn wsL_keep (wsV RL 21 RX3 yX3_keep wsX3_keep) := goodIn_app (goodIn_of _ (by decide +kernel)) ggL_keep_X3_keep
theorem dL_keep_0 : decode cL_keep 0 = .ok (.aload_n 0, 1) := by decide +kernel
theorem dL_keep_1 : decode cL_keep 1 = .ok (.iload_n 1, 1) := by decide +kernel
theorem dL_keep_2 : decode cL_keep 2 = .ok (.invokevirtual 21, 3) := by decide +kernel
theorem dL_keep_5 : decode cL_keep 5 = .ok (.goto 6, 3) := by decide +kernel
theorem dL_keep_8 : decode cL_keep 8 = .ok (.astore_n 2, 1) := by decide +kernel
theorem dL_keep_9 : decode cL_keep 9 = .ok (.iconst 1, 1) := by decide +kernel
theorem dL_keep_10 : decode cL_keep 10 = .ok (.ireturn, 1) := by decide +kernel
theorem dL_keep_11 : decode cL_keep 11 = .ok (.iconst 0, 1) := by decide +kernel
theorem dL_keep_12 : decode cL_keep 12 = .ok (.ireturn, 1) := by decide +kernel
set_option maxRecDepth 20000 in
theorem ggL_acquire_X3_acquire : GoodIn wsL_acquire wsX3_acquire := goodIn_ca (goodIn_ca (goodIn_r _ [7, 8, 9, 10, 11, 12, 13, 14, 15, 16, 17, 18, 6, 19, 20, 21, 22, 23, 24, 25, 26, 27, 28, 29, 30, 31, 32, 33, 34, 35, 36, 37, 38, 39, 40, 41, 42, 43, 44, 45, 46, 47, 48, 49, 50, 51, 52, 53, 54, 55, 56, 57, 58, 59, 60, 61, 62, 63, 64, 65, 66, 67, 68, 69, 70, 71, 72, 73, 74, 75, 76, 77, 78, 79, 80, 81, 82, 83, 84, 85, 86, 87, 88] (by decide +kernel) (by decide +kernel)) (goodIn_sub (fun _ h => List.mem_cons_of_mem _ (List.mem_append_left _ (List.mem_append_right _ h))) (by decide +kernel))) (goodIn_sub (fun _ h => List.mem_cons_of_mem _ (List.mem_append_right _ h)) (by decide +kernel))
set_option maxRecDepth 20000 in
theorem gL_acquire_X3_acquire : GoodIn wsL_acquire (wsV RL 25 RX3 yX3_acquire wsX3_acquire) := goodIn_app (goodIn_of _ (by decide +kernel)) ggL_acquire_X3_acquire
theorem dL_acquire_0 : decode cL_acquire 0 = .ok (.aload 4, 2) := by decide +kernel
theorem dL_acquire_2 : decode cL_acquire 2 = .ok (.iconst 0, 1) := by decide +kernel
theorem dL_acquire_3 : decode cL_acquire 3 = .ok (.aload_n 0, 1) := by decide +kernel
theorem dL_acquire_4 : decode cL_acquire 4 = .ok (.iload_n 1, 1) := by decide +kernel
theorem dL_acquire_5 : decode cL_acquire 5 = .ok (.iload_n 2, 1) := by decide +kernel
theorem dL_acquire_6 : decode cL_acquire 6 = .ok (.iload_n 3, 1) := by decide +kernel
theorem dL_acquire_7 : decode cL_acquire 7 = .ok (.invokevirtual 25, 3) := by decide +kernel
theorem dL_acquire_10 : decode cL_acquire 10 = .ok (.i2l, 1) := by decide +kernel
theorem dL_acquire_11 : decode cL_acquire 11 = .ok (.lastore, 1) := by decide +kernel
theorem dL_acquire_12 : decode cL_acquire 12 = .ok (.goto 11, 3) := by decide +kernel
theorem dL_acquire_15 : decode cL_acquire 15 = .ok (.astore 5, 2) := by decide +kernel
theorem dL_acquire_17 : decode cL_acquire 17 = .ok (.iconst 1, 1) := by decide +kernel
theorem dL_acquire_18 : decode cL_acquire 18 = .ok (.ireturn, 1) := by decide +kernel
theorem dL_acquire_19 : decode cL_acquire 19 = .ok (.astore 5, 2) := by decide +kernel
theorem dL_acquire_21 : decode cL_acquire 21 = .ok (.iconst 2, 1) := by decide +kernel
theorem dL_acquire_22 : decode cL_acquire 22 = .ok (.ireturn, 1) := by decide +kernel
theorem dL_acquire_23 : decode cL_acquire 23 = .ok (.iconst 0, 1) := by decide +kernel
theorem dL_acquire_24 : decode cL_acquire 24 = .ok (.ireturn, 1) := by decide +kernel
set_option maxRecDepth 20000 in
theorem ggL_release_X3_release : GoodIn wsL_release wsX3_release := goodIn_ca (goodIn_ca (goodIn_ca (goodIn_r _ [8, 9, 10, 11, 12, 13, 14, 7, 15, 16, 17, 18, 19, 20, 21, 22, 23, 24, 25, 26, 27, 28, 29, 30, 31, 32, 33, 34, 35, 36, 37, 38, 39, 40, 41, 42, 43, 44, 45, 46, 47, 48, 49, 50, 51, 52, 53, 54, 55, 56, 57, 58, 59, 60, 61, 62, 63, 64, 65, 66, 67, 68, 69, 70, 71, 72, 73, 74, 75, 76, 77, 78, 79, 80, 81, 82, 83, 84, 85, 86, 87, 88, 89, 90, 91, 92, 93, 94, 95, 96, 97, 98, 99, 100, 101] (by decide +kernel) (by decide +kernel)) (goodIn_sub (fun _ h => List.mem_cons_of_mem _ (List.mem_append_left _ (List.mem_append_left _ (List.mem_append_right _ h)))) (by decide +kernel))) (goodIn_sub (fun _ h => List.mem_cons_of_mem _ (List.mem_append_left _ (List.mem_append_right _ h))) (by decide +kernel))) (goodIn_sub (fun _ h => List.mem_cons_of_mem _ (List.mem_append_right _ h)) (by decide +kernel))
set_option maxRecDepth 20000 in
theorem gL_release_X3_release : GoodIn wsL_release (wsV RL 31 RX3 yX3_release wsX3_release) := goodIn_app (goodIn_of _ (by decide +kernel)) ggL_release_X3_release
theorem dL_release_0 : decode cL_release 0 = .ok (.aload_n 0, 1) := by decide +kernel
theorem dL_release_1 : decode cL_release 1 = .ok (.iload_n 1, 1) := by decide +kernel
theorem dL_release_2 : decode cL_release 2 = .ok (.iload_n 2, 1) := by decide +kernel
theorem dL_release_3 : decode cL_release 3 = .ok (.invokevirtual 31, 3) := by decide +kernel
theorem dL_release_6 : decode cL_release 6 = .ok (.goto 12, 3) := by decide +kernel
theorem dL_release_9 : decode cL_release 9 = .ok (.astore_n 3, 1) := by decide +kernel
theorem dL_release_10 : decode cL_release 10 = .ok (.iconst 1, 1) := by decide +kernel
theorem dL_release_11 : decode cL_release 11 = .ok (.ireturn, 1) := by decide +kernel
theorem dL_release_12 : decode cL_release 12 = .ok (.astore_n 3, 1) := by decide +kernel
theorem dL_release_13 : decode cL_release 13 = .ok (.iconst 2, 1) := by decide +kernel
theorem dL_release_14 : decode cL_release 14 = .ok (.ireturn, 1) := by decide +kernel
theorem dL_release_15 : decode cL_release 15 = .ok (.astore_n 3, 1) := by decide +kernel
theorem dL_release_16 : decode cL_release 16 = .ok (.iconst 3, 1) := by decide +kernel
theorem dL_release_17 : decode cL_release 17 = .ok (.ireturn, 1) := by decide +kernel
theorem dL_release_18 : decode cL_release 18 = .ok (.iconst 0, 1) := by decide +kernel
theorem dL_release_19 : decode cL_release 19 = .ok (.ireturn, 1) := by decide +kernel
set_option maxRecDepth 20000 in
theorem ggL_law_X3_init : GoodIn wsL_law wsX3_init := goodIn_r _ [9, 10, 11, 12, 13, 14, 15, 16, 17, 18, 19, 20, 21, 22, 23, 24, 25, 26, 27, 28, 29, 30, 31, 32, 33, 34, 35, 36, 37, 38, 358, 359, 360, 377, 378, 379, 380, 381, 382, 383, 384, 385, 386, 387, 388, 389, 390, 391] (by decide +kernel) (by decide +kernel)
set_option maxRecDepth 20000 in
theorem gL_law_X3_init : GoodIn wsL_law (wsX3_init) := ggL_law_X3_init
set_option maxRecDepth 20000 in
theorem ggL_law_X4_init : GoodIn wsL_law wsX4_init := goodIn_r _ [41, 42, 11, 12, 43, 44, 36, 45, 46, 47, 48, 49, 50, 51, 52, 53, 54, 55, 56, 361, 362, 363, 364, 365, 366, 367, 368, 369, 370, 371, 372, 373, 374, 375, 376] (by decide +kernel) (by decide +kernel)
set_option maxRecDepth 20000 in
theorem gL_law_X4_init : GoodIn wsL_law (wsX4_init) := ggL_law_X4_init
set_option maxRecDepth 20000 in
theorem ggL_law_L_open : GoodIn wsL_law wsL_open := goodIn_ca (goodIn_r _ [60, 61, 62, 63, 64, 2, 65, 66, 67, 14, 68, 21, 69, 70, 71, 16, 72, 73, 74, 75, 76, 358, 359, 360, 377, 378, 379, 380] (by decide +kernel) (by decide +kernel)) (goodIn_sub (fun _ h => List.mem_append_left _ (List.mem_append_left _ (List.mem_append_right _ h))) (by decide +kernel))
set_option maxRecDepth 20000 in
theorem gL_law_L_open : GoodIn wsL_law (va_wsS RL 39 yL_open wsL_open) := goodIn_app (goodIn_of _ (by decide +kernel)) ggL_law_L_open
set_option maxRecDepth 20000 in
theorem ggL_law_X4_open : GoodIn wsL_law wsX4_open := goodIn_r _ [80, 44, 45, 81, 46, 47, 82, 361, 362, 363, 364, 365, 366, 367, 368, 369, 370, 371, 372, 373, 374, 375, 376] (by decide +kernel) (by decide +kernel)
set_option maxRecDepth 20000 in
theorem gL_law_X4_open : GoodIn wsL_law (wsV RL 44 RX4 yX4_open wsX4_open) := goodIn_app (goodIn_of _ (by decide +kernel)) ggL_law_X4_open
set_option maxRecDepth 20000 in
theorem ggL_law_X4_thrown : GoodIn wsL_law wsX4_thrown := goodIn_r _ [86, 82, 361, 362, 363, 364, 365, 366, 367, 368, 369, 370, 371, 372, 373, 374, 375, 376] (by decide +kernel) (by decide +kernel)
set_option maxRecDepth 20000 in
theorem gL_law_X4_thrown : GoodIn wsL_law (wsV RL 45 RX4 yX4_thrown wsX4_thrown) := goodIn_app (goodIn_of _ (by decide +kernel)) ggL_law_X4_thrown
set_option maxRecDepth 20000 in
theorem ggL_law_L_close : GoodIn wsL_law wsL_close := goodIn_ca (goodIn_r _ [89, 90, 91, 92, 93, 2, 94, 95, 96, 97, 98, 99, 100, 101, 102, 103, 104, 14, 68, 105, 106, 107, 108, 18, 109, 110, 111, 112, 113, 30, 114, 115, 37, 38, 116, 117, 118, 119, 120, 121, 122, 123, 21, 124, 125, 126, 127, 128, 129, 130, 131, 132, 133, 134, 135, 136, 137, 138, 139, 140, 141, 142, 143, 20, 144, 32, 145, 146, 147, 148, 149, 150, 151, 152, 358, 359, 360, 377, 378, 379, 380, 381, 382, 383, 384, 385, 386, 387, 388, 389, 390, 391] (by decide +kernel) (by decide +kernel)) (goodIn_sub (fun _ h => List.mem_append_left _ (List.mem_append_right _ h)) (by decide +kernel))
set_option maxRecDepth 20000 in
theorem gL_law_L_close : GoodIn wsL_law (va_wsS RL 48 yL_close wsL_close) := goodIn_app (goodIn_of _ (by decide +kernel)) ggL_law_L_close
set_option maxRecDepth 20000 in
theorem ggL_law_X4_close : GoodIn wsL_law wsX4_close := goodIn_r _ [156, 82, 157, 158, 159, 5, 160, 44, 161, 162, 163, 164, 53, 48, 165, 166, 167, 168, 54, 169, 170, 171, 172, 173, 174, 175, 176, 49, 50, 81, 51, 52, 47, 361, 362, 363, 364, 365, 366, 367, 368, 369, 370, 371, 372, 373, 374, 375, 376] (by decide +kernel) (by decide +kernel)
set_option maxRecDepth 20000 in
theorem gL_law_X4_close : GoodIn wsL_law (wsV RL 51 RX4 yX4_close wsX4_close) := goodIn_app (goodIn_of _ (by decide +kernel)) ggL_law_X4_close
set_option maxRecDepth 20000 in
theorem ggL_law_L_keep : GoodIn wsL_law wsL_keep := goodIn_ca (goodIn_r _ [179, 90, 180, 181, 182, 2, 183, 21, 184, 95, 96, 97, 98, 99, 100, 101, 102, 103, 104, 14, 68, 358, 359, 360, 377, 378, 379, 380] (by decide +kernel) (by decide +kernel)) (goodIn_sub (fun _ h => List.mem_append_left _ (List.mem_append_right _ h)) (by decide +kernel))
set_option maxRecDepth 20000 in
theorem gL_law_L_keep : GoodIn wsL_law (va_wsS RL 52 yL_keep wsL_keep) := goodIn_app (goodIn_of _ (by decide +kernel)) ggL_law_L_keep
set_option maxRecDepth 20000 in
theorem ggL_law_X4_keep : GoodIn wsL_law wsX4_keep := goodIn_r _ [188, 82, 45, 81, 157, 158, 159, 5, 160, 44, 361, 362, 363, 364, 365, 366, 367, 368, 369, 370, 371, 372, 373, 374, 375, 376] (by decide +kernel) (by decide +kernel)
set_option maxRecDepth 20000 in
theorem gL_law_X4_keep : GoodIn wsL_law (wsV RL 55 RX4 yX4_keep wsX4_keep) := goodIn_app (goodIn_of _ (by decide +kernel)) ggL_law_X4_keep
set_option maxRecDepth 20000 in
theorem ggL_law_X3_rate : GoodIn wsL_law wsX3_rate := goodIn_r _ [192, 193, 101, 102, 103, 2, 104, 14, 68, 377, 378, 379, 380, 358, 359, 360] (by decide +kernel) (by decide +kernel)
set_option maxRecDepth 20000 in
theorem gL_law_X3_rate : GoodIn wsL_law (wsV RL 56 RX3 yX3_rate wsX3_rate) := goodIn_app (goodIn_of _ (by decide +kernel)) ggL_law_X3_rate
set_option maxRecDepth 20000 in
theorem ggL_law_X4_rate : GoodIn wsL_law wsX4_rate := goodIn_r _ [197, 46, 157, 158, 159, 5, 160, 44, 361, 362, 363, 364, 365, 366, 367, 368, 369, 370, 371, 372, 373, 374, 375, 376] (by decide +kernel) (by decide +kernel)
set_option maxRecDepth 20000 in
theorem gL_law_X4_rate : GoodIn wsL_law (wsV RL 60 RX4 yX4_rate wsX4_rate) := goodIn_app (goodIn_of _ (by decide +kernel)) ggL_law_X4_rate
set_option maxRecDepth 20000 in
theorem ggL_law_X3_tick : GoodIn wsL_law wsX3_tick := goodIn_r _ [201, 21, 202, 203, 204, 2, 205, 14, 68, 140, 193, 206, 207, 208, 209, 184, 105, 106, 107, 108, 18, 109, 110, 111, 112, 113, 30, 114, 115, 37, 38, 116, 117, 118, 119, 120, 121, 122, 123, 124, 125, 126, 127, 128, 129, 130, 131, 132, 133, 134, 135, 136, 137, 138, 139, 101, 102, 103, 104, 141, 142, 143, 20, 144, 32, 145, 146, 147, 148, 149, 150, 151, 152, 210, 211, 212, 213, 214, 215, 216, 217, 218, 358, 359, 360, 377, 378, 379, 380, 381, 382, 383, 384, 385, 386, 387, 388, 389, 390, 391] (by decide +kernel) (by decide +kernel)
set_option maxRecDepth 20000 in
theorem gL_law_X3_tick : GoodIn wsL_law (wsV RL 61 RX3 yX3_tick wsX3_tick) := goodIn_app (goodIn_of _ (by decide +kernel)) ggL_law_X3_tick
set_option maxRecDepth 20000 in
theorem ggL_law_X4_tick : GoodIn wsL_law wsX4_tick := goodIn_r _ [222, 81, 44, 47, 46, 45, 48, 50, 161, 162, 163, 5, 164, 53, 165, 166, 167, 168, 54, 169, 170, 171, 172, 173, 174, 175, 176, 49, 51, 52, 361, 362, 363, 364, 365, 366, 367, 368, 369, 370, 371, 372, 373, 374, 375, 376] (by decide +kernel) (by decide +kernel)
set_option maxRecDepth 20000 in
theorem gL_law_X4_tick : GoodIn wsL_law (wsV RL 64 RX4 yX4_tick wsX4_tick) := goodIn_app (goodIn_of _ (by decide +kernel)) ggL_law_X4_tick
set_option maxRecDepth 20000 in
theorem ggL_law_L_acquire : GoodIn wsL_law wsL_acquire := goodIn_ca (goodIn_ca (goodIn_r _ [225, 90, 226, 227, 228, 229, 2, 230, 231, 232, 21, 184, 110, 140, 233, 109, 95, 96, 97, 98, 99, 100, 101, 102, 103, 104, 14, 68, 234, 235, 236, 237, 238, 239, 240, 241, 18, 242, 243, 244, 20, 245, 150, 146, 147, 148, 149, 151, 152, 215, 216, 217, 218, 32, 141, 142, 143, 144, 145, 246, 247, 248, 30, 249, 38, 115, 37, 116, 117, 118, 119, 358, 359, 360, 377, 378, 379, 380, 381, 382, 383, 384, 385, 386, 387, 388, 389, 390, 391] (by decide +kernel) (by decide +kernel)) (goodIn_sub (fun _ h => List.mem_append_right _ h) (by decide +kernel))) (goodIn_sub (fun _ h => List.mem_append_left _ (List.mem_append_right _ h)) (by decide +kernel))
set_option maxRecDepth 20000 in
theorem gL_law_L_acquire : GoodIn wsL_law (va_wsS RL 65 yL_acquire wsL_acquire) := goodIn_app (goodIn_of _ (by decide +kernel)) ggL_law_L_acquire
set_option maxRecDepth 20000 in
theorem ggL_law_X4_acquire : GoodIn wsL_law wsX4_acquire := goodIn_r _ [253, 82, 45, 81, 48, 50, 51, 52, 47, 49, 53, 254, 54, 157, 158, 159, 5, 160, 44, 255, 256, 257, 173, 174, 175, 176, 361, 362, 363, 364, 365, 366, 367, 368, 369, 370, 371, 372, 373, 374, 375, 376] (by decide +kernel) (by decide +kernel)
set_option maxRecDepth 20000 in
theorem gL_law_X4_acquire : GoodIn wsL_law (wsV RL 68 RX4 yX4_acquire wsX4_acquire) := goodIn_app (goodIn_of _ (by decide +kernel)) ggL_law_X4_acquire
set_option maxRecDepth 20000 in
theorem ggL_law_L_release : GoodIn wsL_law wsL_release := goodIn_ca (goodIn_ca (goodIn_ca (goodIn_r _ [260, 90, 226, 61, 261, 262, 263, 2, 264, 66, 67, 110, 95, 96, 97, 98, 99, 100, 101, 102, 103, 104, 14, 68, 234, 235, 236, 237, 231, 232, 238, 239, 240, 241, 18, 120, 121, 122, 123, 109, 21, 124, 125, 126, 30, 127, 37, 128, 129, 130, 131, 115, 132, 133, 134, 135, 38, 111, 112, 113, 114, 116, 117, 118, 119, 136, 137, 138, 139, 140, 141, 142, 143, 20, 144, 32, 145, 146, 147, 148, 149, 150, 151, 152, 381, 382, 383, 384, 385, 386, 387, 388, 358, 359, 360, 377, 378, 379, 380, 389, 390, 391] (by decide +kernel) (by decide +kernel)) (goodIn_sub (fun _ h => List.mem_append_left _ (List.mem_append_left _ (List.mem_append_right _ h))) (by decide +kernel))) (goodIn_sub (fun _ h => List.mem_append_left _ (List.mem_append_right _ h)) (by decide +kernel))) (goodIn_sub (fun _ h => List.mem_append_right _ h) (by decide +kernel))
set_option maxRecDepth 20000 in
theorem gL_law_L_release : GoodIn wsL_law (va_wsS RL 69 yL_release wsL_release) := goodIn_app (goodIn_of _ (by decide +kernel)) ggL_law_L_release
set_option maxRecDepth 20000 in
theorem ggL_law_X4_release : GoodIn wsL_law wsX4_release := goodIn_r _ [268, 48, 82, 157, 158, 159, 5, 160, 44, 255, 256, 257, 165, 166, 167, 168, 54, 169, 170, 171, 172, 53, 173, 174, 175, 176, 49, 50, 81, 51, 52, 47, 361, 362, 363, 364, 365, 366, 367, 368, 369, 370, 371, 372, 373, 374, 375, 376] (by decide +kernel) (by decide +kernel)
set_option maxRecDepth 20000 in
theorem gL_law_X4_release : GoodIn wsL_law (wsV RL 72 RX4 yX4_release wsX4_release) := goodIn_app (goodIn_of _ (by decide +kernel)) ggL_law_X4_release
set_option maxRecDepth 20000 in
theorem ggL_law_X3_cancel : GoodIn wsL_law wsX3_cancel := goodIn_r _ [272, 109, 238, 239, 240, 2, 241, 18, 111, 112, 113, 30, 114, 115, 37, 38, 116, 117, 118, 119, 381, 382, 383, 384, 385, 386, 387, 388, 358, 359, 360, 389, 390, 391] (by decide +kernel) (by decide +kernel)
set_option maxRecDepth 20000 in
theorem gL_law_X3_cancel : GoodIn wsL_law (wsV RL 73 RX3 yX3_cancel wsX3_cancel) := goodIn_app (goodIn_of _ (by decide +kernel)) ggL_law_X3_cancel
set_option maxRecDepth 20000 in
theorem ggL_law_X4_cancel : GoodIn wsL_law wsX4_cancel := goodIn_r _ [276, 53, 157, 158, 159, 5, 160, 44, 255, 256, 257, 361, 362, 363, 364, 365, 366, 367, 368, 369, 370, 371, 372, 373, 374, 375, 376] (by decide +kernel) (by decide +kernel)
set_option maxRecDepth 20000 in
theorem gL_law_X4_cancel : GoodIn wsL_law (wsV RL 76 RX4 yX4_cancel wsX4_cancel) := goodIn_app (goodIn_of _ (by decide +kernel)) ggL_law_X4_cancel
set_option maxRecDepth 20000 in
theorem ggL_law_X3_holder : GoodIn wsL_law wsX3_holder := goodIn_r _ [280, 110, 238, 239, 240, 2, 241, 18, 381, 382, 383, 384, 385, 386, 387, 388, 358, 359, 360] (by decide +kernel) (by decide +kernel)
set_option maxRecDepth 20000 in
theorem gL_law_X3_holder : GoodIn wsL_law (wsV RL 77 RX3 yX3_holder wsX3_holder) := goodIn_app (goodIn_of _ (by decide +kernel)) ggL_law_X3_holder
set_option maxRecDepth 20000 in
theorem ggL_law_X4_holder : GoodIn wsL_law wsX4_holder := goodIn_r _ [284, 48, 255, 256, 5, 257, 361, 362, 363, 364, 365, 366, 367, 368, 369, 370, 371, 372, 373, 374, 375, 376] (by decide +kernel) (by decide +kernel)
set_option maxRecDepth 20000 in
theorem gL_law_X4_holder : GoodIn wsL_law (wsV RL 80 RX4 yX4_holder wsX4_holder) := goodIn_app (goodIn_of _ (by decide +kernel)) ggL_law_X4_holder
set_option maxRecDepth 20000 in
theorem ggL_law_X3_token : GoodIn wsL_law wsX3_token := goodIn_r _ [288, 233, 238, 239, 240, 2, 241, 18, 381, 382, 383, 384, 385, 386, 387, 388, 358, 359, 360] (by decide +kernel) (by decide +kernel)
set_option maxRecDepth 20000 in
theorem gL_law_X3_token : GoodIn wsL_law (wsV RL 81 RX3 yX3_token wsX3_token) := goodIn_app (goodIn_of _ (by decide +kernel)) ggL_law_X3_token
set_option maxRecDepth 20000 in
theorem ggL_law_X4_token : GoodIn wsL_law wsX4_token := goodIn_r _ [292, 49, 255, 256, 5, 257, 361, 362, 363, 364, 365, 366, 367, 368, 369, 370, 371, 372, 373, 374, 375, 376] (by decide +kernel) (by decide +kernel)
set_option maxRecDepth 20000 in
theorem gL_law_X4_token : GoodIn wsL_law (wsV RL 84 RX4 yX4_token wsX4_token) := goodIn_app (goodIn_of _ (by decide +kernel)) ggL_law_X4_token
set_option maxRecDepth 20000 in
theorem ggL_law_X3_until : GoodIn wsL_law wsX3_until := goodIn_r _ [296, 214, 238, 239, 240, 2, 241, 18, 215, 216, 217, 20, 218, 32, 381, 382, 383, 384, 385, 386, 387, 388, 358, 359, 360] (by decide +kernel) (by decide +kernel)
set_option maxRecDepth 20000 in
theorem gL_law_X3_until : GoodIn wsL_law (wsV RL 85 RX3 yX3_until wsX3_until) := goodIn_app (goodIn_of _ (by decide +kernel)) ggL_law_X3_until
set_option maxRecDepth 20000 in
theorem ggL_law_X4_until : GoodIn wsL_law wsX4_until := goodIn_r _ [300, 48, 50, 255, 256, 5, 257, 361, 362, 363, 364, 365, 366, 367, 368, 369, 370, 371, 372, 373, 374, 375, 376] (by decide +kernel) (by decide +kernel)
set_option maxRecDepth 20000 in
theorem gL_law_X4_until : GoodIn wsL_law (wsV RL 88 RX4 yX4_until wsX4_until) := goodIn_app (goodIn_of _ (by decide +kernel)) ggL_law_X4_until
end
section
set_option maxRecDepth 20000 in
theorem ggL_law_X3_waiter : GoodIn wsL_law wsX3_waiter := goodIn_r _ [304, 109, 238, 239, 240, 2, 241, 18, 124, 125, 126, 30, 127, 37, 128, 129, 130, 131, 115, 381, 382, 383, 384, 385, 386, 387, 388, 358, 359, 360, 389, 390, 391] (by decide +kernel) (by decide +kernel)
set_option maxRecDepth 20000 in
theorem gL_law_X3_waiter : GoodIn wsL_law (wsV RL 89 RX3 yX3_waiter wsX3_waiter) := goodIn_app (goodIn_of _ (by decide +kernel)) ggL_law_X3_waiter
set_option maxRecDepth 20000 in
theorem ggL_law_X4_waiter : GoodIn wsL_law wsX4_waiter := goodIn_r _ [308, 255, 256, 5, 257, 169, 170, 171, 172, 53, 361, 362, 363, 364, 365, 366, 367, 368, 369, 370, 371, 372, 373, 374, 375, 376] (by decide +kernel) (by decide +kernel)
set_option maxRecDepth 20000 in
theorem gL_law_X4_waiter : GoodIn wsL_law (wsV RL 93 RX4 yX4_waiter wsX4_waiter) := goodIn_app (goodIn_of _ (by decide +kernel)) ggL_law_X4_waiter
set_option maxRecDepth 20000 in
theorem ggL_law_X3_time : GoodIn wsL_law wsX3_time := goodIn_r _ [312, 21, 358, 359, 360] (by decide +kernel) (by decide +kernel)
set_option maxRecDepth 20000 in
theorem gL_law_X3_time : GoodIn wsL_law (wsV RL 94 RX3 yX3_time wsX3_time) := goodIn_app (goodIn_of _ (by decide +kernel)) ggL_law_X3_time
set_option maxRecDepth 20000 in
theorem ggL_law_X4_time : GoodIn wsL_law wsX4_time := goodIn_r _ [316, 81, 361, 362, 363, 364, 365, 366, 367, 368, 369, 370, 371, 372, 373, 374, 375, 376] (by decide +kernel) (by decide +kernel)
set_option maxRecDepth 20000 in
theorem gL_law_X4_time : GoodIn wsL_law (wsV RL 97 RX4 yX4_time wsX4_time) := goodIn_app (goodIn_of _ (by decide +kernel)) ggL_law_X4_time
set_option maxRecDepth 20000 in
theorem ggL_law_X3_clock : GoodIn wsL_law wsX3_clock := goodIn_r _ [139, 140, 101, 102, 103, 2, 104, 14, 68, 377, 378, 379, 380, 358, 359, 360] (by decide +kernel) (by decide +kernel)
set_option maxRecDepth 20000 in
theorem gL_law_X3_clock : GoodIn wsL_law (wsV RL 98 RX3 yX3_clock wsX3_clock) := goodIn_app (goodIn_of _ (by decide +kernel)) ggL_law_X3_clock
set_option maxRecDepth 20000 in
theorem ggL_law_X4_clock : GoodIn wsL_law wsX4_clock := goodIn_r _ [321, 47, 157, 158, 159, 5, 160, 44, 361, 362, 363, 364, 365, 366, 367, 368, 369, 370, 371, 372, 373, 374, 375, 376] (by decide +kernel) (by decide +kernel)
set_option maxRecDepth 20000 in
theorem gL_law_X4_clock : GoodIn wsL_law (wsV RL 101 RX4 yX4_clock wsX4_clock) := goodIn_app (goodIn_of _ (by decide +kernel)) ggL_law_X4_clock
set_option maxRecDepth 20000 in
theorem ggL_law_X3_believes : GoodIn wsL_law wsX3_believes := goodIn_r _ [325, 110, 140, 326, 327, 101, 102, 103, 2, 104, 14, 68, 238, 239, 240, 241, 18, 381, 382, 383, 384, 385, 386, 387, 388, 377, 378, 379, 380, 358, 359, 360] (by decide +kernel) (by decide +kernel)
set_option maxRecDepth 20000 in
theorem gL_law_X3_believes : GoodIn wsL_law (wsV RL 102 RX3 yX3_believes wsX3_believes) := goodIn_app (goodIn_of _ (by decide +kernel)) ggL_law_X3_believes
set_option maxRecDepth 20000 in
theorem ggL_law_X4_believes : GoodIn wsL_law wsX4_believes := goodIn_r _ [331, 48, 47, 52, 51, 157, 158, 159, 5, 160, 44, 255, 256, 257, 361, 362, 363, 364, 365, 366, 367, 368, 369, 370, 371, 372, 373, 374, 375, 376] (by decide +kernel) (by decide +kernel)
set_option maxRecDepth 20000 in
theorem gL_law_X4_believes : GoodIn wsL_law (wsV RL 105 RX4 yX4_believes wsX4_believes) := goodIn_app (goodIn_of _ (by decide +kernel)) ggL_law_X4_believes
set_option maxRecDepth 20000 in
theorem ggL_law_X3_write : GoodIn wsL_law wsX3_write := goodIn_r _ [335, 336, 337, 238, 239, 240, 2, 241, 18, 381, 382, 383, 384, 385, 386, 387, 388, 358, 359, 360] (by decide +kernel) (by decide +kernel)
set_option maxRecDepth 20000 in
theorem gL_law_X3_write : GoodIn wsL_law (wsV RL 106 RX3 yX3_write wsX3_write) := goodIn_app (goodIn_of _ (by decide +kernel)) ggL_law_X3_write
set_option maxRecDepth 20000 in
theorem ggL_law_X4_write : GoodIn wsL_law wsX4_write := goodIn_r _ [341, 55, 56, 255, 256, 5, 257, 361, 362, 363, 364, 365, 366, 367, 368, 369, 370, 371, 372, 373, 374, 375, 376] (by decide +kernel) (by decide +kernel)
set_option maxRecDepth 20000 in
theorem gL_law_X4_write : GoodIn wsL_law (wsV RL 110 RX4 yX4_write wsX4_write) := goodIn_app (goodIn_of _ (by decide +kernel)) ggL_law_X4_write
set_option maxRecDepth 20000 in
theorem ggL_law_X3_stored : GoodIn wsL_law wsX3_stored := goodIn_r _ [345, 337, 238, 239, 240, 2, 241, 18, 381, 382, 383, 384, 385, 386, 387, 388, 358, 359, 360] (by decide +kernel) (by decide +kernel)
set_option maxRecDepth 20000 in
theorem gL_law_X3_stored : GoodIn wsL_law (wsV RL 111 RX3 yX3_stored wsX3_stored) := goodIn_app (goodIn_of _ (by decide +kernel)) ggL_law_X3_stored
set_option maxRecDepth 20000 in
theorem ggL_law_X4_stored : GoodIn wsL_law wsX4_stored := goodIn_r _ [349, 56, 255, 256, 5, 257, 361, 362, 363, 364, 365, 366, 367, 368, 369, 370, 371, 372, 373, 374, 375, 376] (by decide +kernel) (by decide +kernel)
set_option maxRecDepth 20000 in
theorem gL_law_X4_stored : GoodIn wsL_law (wsV RL 114 RX4 yX4_stored wsX4_stored) := goodIn_app (goodIn_of _ (by decide +kernel)) ggL_law_X4_stored
set_option maxRecDepth 20000 in
theorem ggL_law_X3_seen : GoodIn wsL_law wsX3_seen := goodIn_r _ [353, 336, 238, 239, 240, 2, 241, 18, 381, 382, 383, 384, 385, 386, 387, 388, 358, 359, 360] (by decide +kernel) (by decide +kernel)
set_option maxRecDepth 20000 in
theorem gL_law_X3_seen : GoodIn wsL_law (wsV RL 115 RX3 yX3_seen wsX3_seen) := goodIn_app (goodIn_of _ (by decide +kernel)) ggL_law_X3_seen
set_option maxRecDepth 20000 in
theorem ggL_law_X4_seen : GoodIn wsL_law wsX4_seen := goodIn_r _ [357, 55, 255, 256, 5, 257, 361, 362, 363, 364, 365, 366, 367, 368, 369, 370, 371, 372, 373, 374, 375, 376] (by decide +kernel) (by decide +kernel)
set_option maxRecDepth 20000 in
theorem gL_law_X4_seen : GoodIn wsL_law (wsV RL 118 RX4 yX4_seen wsX4_seen) := goodIn_app (goodIn_of _ (by decide +kernel)) ggL_law_X4_seen
theorem dL_law_0 : decode cL_law 0 = .ok (.new 8, 3) := by decide +kernel
theorem dL_law_3 : decode cL_law 3 = .ok (.dup, 1) := by decide +kernel
theorem dL_law_4 : decode cL_law 4 = .ok (.invokespecial 35, 3) := by decide +kernel
theorem dL_law_7 : decode cL_law 7 = .ok (.astore_n 1, 1) := by decide +kernel
theorem dL_law_8 : decode cL_law 8 = .ok (.new 36, 3) := by decide +kernel
theorem dL_law_11 : decode cL_law 11 = .ok (.dup, 1) := by decide +kernel
theorem dL_law_12 : decode cL_law 12 = .ok (.invokespecial 38, 3) := by decide +kernel
theorem dL_law_15 : decode cL_law 15 = .ok (.astore_n 2, 1) := by decide +kernel
theorem dL_law_16 : decode cL_law 16 = .ok (.iconst 1, 1) := by decide +kernel
theorem dL_law_17 : decode cL_law 17 = .ok (.newarray .long, 2) := by decide +kernel
theorem dL_law_19 : decode cL_law 19 = .ok (.astore_n 3, 1) := by decide +kernel
theorem dL_law_20 : decode cL_law 20 = .ok (.iconst 0, 1) := by decide +kernel
theorem dL_law_21 : decode cL_law 21 = .ok (.istore 4, 2) := by decide +kernel
theorem dL_law_23 : decode cL_law 23 = .ok (.iload 4, 2) := by decide +kernel
theorem dL_law_25 : decode cL_law 25 = .ok (.aload_n 0, 1) := by decide +kernel
theorem dL_law_26 : decode cL_law 26 = .ok (.arraylength, 1) := by decide +kernel
theorem dL_law_27 : decode cL_law 27 = .ok (.iconst 4, 1) := by decide +kernel
theorem dL_law_28 : decode cL_law 28 = .ok (.isub, 1) := by decide +kernel
theorem dL_law_29 : decode cL_law 29 = .ok (.if_icmp .gt 750, 3) := by decide +kernel
theorem dL_law_32 : decode cL_law 32 = .ok (.aload_n 0, 1) := by decide +kernel
theorem dL_law_33 : decode cL_law 33 = .ok (.iload 4, 2) := by decide +kernel
theorem dL_law_35 : decode cL_law 35 = .ok (.iaload, 1) := by decide +kernel
theorem dL_law_36 : decode cL_law 36 = .ok (.bipush 31, 2) := by decide +kernel
theorem dL_law_38 : decode cL_law 38 = .ok (.iand, 1) := by decide +kernel
theorem dL_law_39 : decode cL_law 39 = .ok (.tableswitch 734 0 17 #[85, 129, 185, 221, 258, 283, 363, 411, 448, 473, 498, 523, 560, 573, 598, 635, 684, 709], 85) := by decide +kernel
theorem dL_law_124 : decode cL_law 124 = .ok (.aload_n 1, 1) := by decide +kernel
theorem dL_law_125 : decode cL_law 125 = .ok (.aload_n 3, 1) := by decide +kernel
theorem dL_law_126 : decode cL_law 126 = .ok (.invokestatic 39, 3) := by decide +kernel
theorem dL_law_129 : decode cL_law 129 = .ok (.istore 5, 2) := by decide +kernel
theorem dL_law_131 : decode cL_law 131 = .ok (.aload_n 2, 1) := by decide +kernel
theorem dL_law_132 : decode cL_law 132 = .ok (.invokevirtual 44, 3) := by decide +kernel
theorem dL_law_135 : decode cL_law 135 = .ok (.istore 6, 2) := by decide +kernel
theorem dL_law_137 : decode cL_law 137 = .ok (.aload_n 2, 1) := by decide +kernel
theorem dL_law_138 : decode cL_law 138 = .ok (.invokevirtual 45, 3) := by decide +kernel
theorem dL_law_141 : decode cL_law 141 = .ok (.iload 5, 2) := by decide +kernel
theorem dL_law_143 : decode cL_law 143 = .ok (.if_icmp .eq 5, 3) := by decide +kernel
theorem dL_law_146 : decode cL_law 146 = .ok (.iconst 0, 1) := by decide +kernel
theorem dL_law_147 : decode cL_law 147 = .ok (.ireturn, 1) := by decide +kernel
theorem dL_law_148 : decode cL_law 148 = .ok (.iload 5, 2) := by decide +kernel
theorem dL_law_150 : decode cL_law 150 = .ok (.ifCond .ne 15, 3) := by decide +kernel
theorem dL_law_153 : decode cL_law 153 = .ok (.aload_n 3, 1) := by decide +kernel
theorem dL_law_154 : decode cL_law 154 = .ok (.iconst 0, 1) := by decide +kernel
theorem dL_law_155 : decode cL_law 155 = .ok (.laload, 1) := by decide +kernel
theorem dL_law_156 : decode cL_law 156 = .ok (.iload 6, 2) := by decide +kernel
theorem dL_law_158 : decode cL_law 158 = .ok (.i2l, 1) := by decide +kernel
theorem dL_law_159 : decode cL_law 159 = .ok (.lcmp, 1) := by decide +kernel
theorem dL_law_160 : decode cL_law 160 = .ok (.ifCond .eq 5, 3) := by decide +kernel
theorem dL_law_163 : decode cL_law 163 = .ok (.iconst 0, 1) := by decide +kernel
theorem dL_law_164 : decode cL_law 164 = .ok (.ireturn, 1) := by decide +kernel
theorem dL_law_165 : decode cL_law 165 = .ok (.goto 608, 3) := by decide +kernel
theorem dL_law_168 : decode cL_law 168 = .ok (.aload_n 1, 1) := by decide +kernel
theorem dL_law_169 : decode cL_law 169 = .ok (.aload_n 0, 1) := by decide +kernel
theorem dL_law_170 : decode cL_law 170 = .ok (.iload 4, 2) := by decide +kernel
theorem dL_law_172 : decode cL_law 172 = .ok (.iconst 1, 1) := by decide +kernel
theorem dL_law_173 : decode cL_law 173 = .ok (.iadd, 1) := by decide +kernel
theorem dL_law_174 : decode cL_law 174 = .ok (.iaload, 1) := by decide +kernel
theorem dL_law_175 : decode cL_law 175 = .ok (.aload_n 3, 1) := by decide +kernel
theorem dL_law_176 : decode cL_law 176 = .ok (.invokestatic 48, 3) := by decide +kernel
theorem dL_law_179 : decode cL_law 179 = .ok (.istore 5, 2) := by decide +kernel
theorem dL_law_181 : decode cL_law 181 = .ok (.aload_n 2, 1) := by decide +kernel
theorem dL_law_182 : decode cL_law 182 = .ok (.aload_n 0, 1) := by decide +kernel
theorem dL_law_183 : decode cL_law 183 = .ok (.iload 4, 2) := by decide +kernel
theorem dL_law_185 : decode cL_law 185 = .ok (.iconst 1, 1) := by decide +kernel
theorem dL_law_186 : decode cL_law 186 = .ok (.iadd, 1) := by decide +kernel
theorem dL_law_187 : decode cL_law 187 = .ok (.iaload, 1) := by decide +kernel
theorem dL_law_188 : decode cL_law 188 = .ok (.invokevirtual 51, 3) := by decide +kernel
theorem dL_law_191 : decode cL_law 191 = .ok (.istore 6, 2) := by decide +kernel
theorem dL_law_193 : decode cL_law 193 = .ok (.aload_n 2, 1) := by decide +kernel
theorem dL_law_194 : decode cL_law 194 = .ok (.invokevirtual 45, 3) := by decide +kernel
theorem dL_law_197 : decode cL_law 197 = .ok (.iload 5, 2) := by decide +kernel
theorem dL_law_199 : decode cL_law 199 = .ok (.if_icmp .eq 5, 3) := by decide +kernel
theorem dL_law_202 : decode cL_law 202 = .ok (.iconst 0, 1) := by decide +kernel
theorem dL_law_203 : decode cL_law 203 = .ok (.ireturn, 1) := by decide +kernel
theorem dL_law_204 : decode cL_law 204 = .ok (.iload 5, 2) := by decide +kernel
theorem dL_law_206 : decode cL_law 206 = .ok (.ifCond .ne 15, 3) := by decide +kernel
theorem dL_law_209 : decode cL_law 209 = .ok (.aload_n 3, 1) := by decide +kernel
theorem dL_law_210 : decode cL_law 210 = .ok (.iconst 0, 1) := by decide +kernel
theorem dL_law_211 : decode cL_law 211 = .ok (.laload, 1) := by decide +kernel
theorem dL_law_212 : decode cL_law 212 = .ok (.iload 6, 2) := by decide +kernel
theorem dL_law_214 : decode cL_law 214 = .ok (.i2l, 1) := by decide +kernel
theorem dL_law_215 : decode cL_law 215 = .ok (.lcmp, 1) := by decide +kernel
theorem dL_law_216 : decode cL_law 216 = .ok (.ifCond .eq 5, 3) := by decide +kernel
theorem dL_law_219 : decode cL_law 219 = .ok (.iconst 0, 1) := by decide +kernel
theorem dL_law_220 : decode cL_law 220 = .ok (.ireturn, 1) := by decide +kernel
theorem dL_law_221 : decode cL_law 221 = .ok (.goto 552, 3) := by decide +kernel
theorem dL_law_224 : decode cL_law 224 = .ok (.aload_n 1, 1) := by decide +kernel
theorem dL_law_225 : decode cL_law 225 = .ok (.aload_n 0, 1) := by decide +kernel
theorem dL_law_226 : decode cL_law 226 = .ok (.iload 4, 2) := by decide +kernel
theorem dL_law_228 : decode cL_law 228 = .ok (.iconst 1, 1) := by decide +kernel
theorem dL_law_229 : decode cL_law 229 = .ok (.iadd, 1) := by decide +kernel
theorem dL_law_230 : decode cL_law 230 = .ok (.iaload, 1) := by decide +kernel
theorem dL_law_231 : decode cL_law 231 = .ok (.invokestatic 52, 3) := by decide +kernel
theorem dL_law_234 : decode cL_law 234 = .ok (.istore 5, 2) := by decide +kernel
theorem dL_law_236 : decode cL_law 236 = .ok (.aload_n 2, 1) := by decide +kernel
theorem dL_law_237 : decode cL_law 237 = .ok (.aload_n 0, 1) := by decide +kernel
theorem dL_law_238 : decode cL_law 238 = .ok (.iload 4, 2) := by decide +kernel
theorem dL_law_240 : decode cL_law 240 = .ok (.iconst 1, 1) := by decide +kernel
theorem dL_law_241 : decode cL_law 241 = .ok (.iadd, 1) := by decide +kernel
theorem dL_law_242 : decode cL_law 242 = .ok (.iaload, 1) := by decide +kernel
theorem dL_law_243 : decode cL_law 243 = .ok (.invokevirtual 55, 3) := by decide +kernel
theorem dL_law_246 : decode cL_law 246 = .ok (.aload_n 2, 1) := by decide +kernel
theorem dL_law_247 : decode cL_law 247 = .ok (.invokevirtual 45, 3) := by decide +kernel
theorem dL_law_250 : decode cL_law 250 = .ok (.iload 5, 2) := by decide +kernel
theorem dL_law_252 : decode cL_law 252 = .ok (.if_icmp .eq 5, 3) := by decide +kernel
theorem dL_law_255 : decode cL_law 255 = .ok (.iconst 0, 1) := by decide +kernel
theorem dL_law_256 : decode cL_law 256 = .ok (.ireturn, 1) := by decide +kernel
theorem dL_law_257 : decode cL_law 257 = .ok (.goto 516, 3) := by decide +kernel
theorem dL_law_260 : decode cL_law 260 = .ok (.aload_n 1, 1) := by decide +kernel
theorem dL_law_261 : decode cL_law 261 = .ok (.aload_n 0, 1) := by decide +kernel
theorem dL_law_262 : decode cL_law 262 = .ok (.iload 4, 2) := by decide +kernel
theorem dL_law_264 : decode cL_law 264 = .ok (.iconst 1, 1) := by decide +kernel
theorem dL_law_265 : decode cL_law 265 = .ok (.iadd, 1) := by decide +kernel
theorem dL_law_266 : decode cL_law 266 = .ok (.iaload, 1) := by decide +kernel
theorem dL_law_267 : decode cL_law 267 = .ok (.aload_n 0, 1) := by decide +kernel
theorem dL_law_268 : decode cL_law 268 = .ok (.iload 4, 2) := by decide +kernel
theorem dL_law_270 : decode cL_law 270 = .ok (.iconst 2, 1) := by decide +kernel
theorem dL_law_271 : decode cL_law 271 = .ok (.iadd, 1) := by decide +kernel
theorem dL_law_272 : decode cL_law 272 = .ok (.iaload, 1) := by decide +kernel
theorem dL_law_273 : decode cL_law 273 = .ok (.invokevirtual 56, 3) := by decide +kernel
theorem dL_law_276 : decode cL_law 276 = .ok (.aload_n 2, 1) := by decide +kernel
theorem dL_law_277 : decode cL_law 277 = .ok (.aload_n 0, 1) := by decide +kernel
theorem dL_law_278 : decode cL_law 278 = .ok (.iload 4, 2) := by decide +kernel
theorem dL_law_280 : decode cL_law 280 = .ok (.iconst 1, 1) := by decide +kernel
theorem dL_law_281 : decode cL_law 281 = .ok (.iadd, 1) := by decide +kernel
theorem dL_law_282 : decode cL_law 282 = .ok (.iaload, 1) := by decide +kernel
theorem dL_law_283 : decode cL_law 283 = .ok (.aload_n 0, 1) := by decide +kernel
theorem dL_law_284 : decode cL_law 284 = .ok (.iload 4, 2) := by decide +kernel
theorem dL_law_286 : decode cL_law 286 = .ok (.iconst 2, 1) := by decide +kernel
theorem dL_law_287 : decode cL_law 287 = .ok (.iadd, 1) := by decide +kernel
theorem dL_law_288 : decode cL_law 288 = .ok (.iaload, 1) := by decide +kernel
theorem dL_law_289 : decode cL_law 289 = .ok (.invokevirtual 60, 3) := by decide +kernel
theorem dL_law_292 : decode cL_law 292 = .ok (.if_icmp .eq 481, 3) := by decide +kernel
theorem dL_law_295 : decode cL_law 295 = .ok (.iconst 0, 1) := by decide +kernel
theorem dL_law_296 : decode cL_law 296 = .ok (.ireturn, 1) := by decide +kernel
theorem dL_law_297 : decode cL_law 297 = .ok (.aload_n 1, 1) := by decide +kernel
theorem dL_law_298 : decode cL_law 298 = .ok (.aload_n 0, 1) := by decide +kernel
theorem dL_law_299 : decode cL_law 299 = .ok (.iload 4, 2) := by decide +kernel
theorem dL_law_301 : decode cL_law 301 = .ok (.iconst 1, 1) := by decide +kernel
theorem dL_law_302 : decode cL_law 302 = .ok (.iadd, 1) := by decide +kernel
theorem dL_law_303 : decode cL_law 303 = .ok (.iaload, 1) := by decide +kernel
theorem dL_law_304 : decode cL_law 304 = .ok (.invokevirtual 61, 3) := by decide +kernel
theorem dL_law_307 : decode cL_law 307 = .ok (.aload_n 2, 1) := by decide +kernel
theorem dL_law_308 : decode cL_law 308 = .ok (.aload_n 0, 1) := by decide +kernel
theorem dL_law_309 : decode cL_law 309 = .ok (.iload 4, 2) := by decide +kernel
theorem dL_law_311 : decode cL_law 311 = .ok (.iconst 1, 1) := by decide +kernel
theorem dL_law_312 : decode cL_law 312 = .ok (.iadd, 1) := by decide +kernel
theorem dL_law_313 : decode cL_law 313 = .ok (.iaload, 1) := by decide +kernel
theorem dL_law_314 : decode cL_law 314 = .ok (.invokevirtual 64, 3) := by decide +kernel
theorem dL_law_317 : decode cL_law 317 = .ok (.if_icmp .eq 456, 3) := by decide +kernel
theorem dL_law_320 : decode cL_law 320 = .ok (.iconst 0, 1) := by decide +kernel
theorem dL_law_321 : decode cL_law 321 = .ok (.ireturn, 1) := by decide +kernel
theorem dL_law_322 : decode cL_law 322 = .ok (.aload_n 1, 1) := by decide +kernel
theorem dL_law_323 : decode cL_law 323 = .ok (.aload_n 0, 1) := by decide +kernel
theorem dL_law_324 : decode cL_law 324 = .ok (.iload 4, 2) := by decide +kernel
theorem dL_law_326 : decode cL_law 326 = .ok (.iconst 1, 1) := by decide +kernel
theorem dL_law_327 : decode cL_law 327 = .ok (.iadd, 1) := by decide +kernel
theorem dL_law_328 : decode cL_law 328 = .ok (.iaload, 1) := by decide +kernel
theorem dL_law_329 : decode cL_law 329 = .ok (.aload_n 0, 1) := by decide +kernel
theorem dL_law_330 : decode cL_law 330 = .ok (.iload 4, 2) := by decide +kernel
theorem dL_law_332 : decode cL_law 332 = .ok (.iconst 2, 1) := by decide +kernel
theorem dL_law_333 : decode cL_law 333 = .ok (.iadd, 1) := by decide +kernel
theorem dL_law_334 : decode cL_law 334 = .ok (.iaload, 1) := by decide +kernel
theorem dL_law_335 : decode cL_law 335 = .ok (.aload_n 0, 1) := by decide +kernel
theorem dL_law_336 : decode cL_law 336 = .ok (.iload 4, 2) := by decide +kernel
theorem dL_law_338 : decode cL_law 338 = .ok (.iconst 3, 1) := by decide +kernel
theorem dL_law_339 : decode cL_law 339 = .ok (.iadd, 1) := by decide +kernel
theorem dL_law_340 : decode cL_law 340 = .ok (.iaload, 1) := by decide +kernel
theorem dL_law_341 : decode cL_law 341 = .ok (.aload_n 3, 1) := by decide +kernel
theorem dL_law_342 : decode cL_law 342 = .ok (.invokestatic 65, 3) := by decide +kernel
theorem dL_law_345 : decode cL_law 345 = .ok (.istore 5, 2) := by decide +kernel
theorem dL_law_347 : decode cL_law 347 = .ok (.aload_n 2, 1) := by decide +kernel
theorem dL_law_348 : decode cL_law 348 = .ok (.aload_n 0, 1) := by decide +kernel
theorem dL_law_349 : decode cL_law 349 = .ok (.iload 4, 2) := by decide +kernel
theorem dL_law_351 : decode cL_law 351 = .ok (.iconst 1, 1) := by decide +kernel
theorem dL_law_352 : decode cL_law 352 = .ok (.iadd, 1) := by decide +kernel
theorem dL_law_353 : decode cL_law 353 = .ok (.iaload, 1) := by decide +kernel
theorem dL_law_354 : decode cL_law 354 = .ok (.aload_n 0, 1) := by decide +kernel
theorem dL_law_355 : decode cL_law 355 = .ok (.iload 4, 2) := by decide +kernel
theorem dL_law_357 : decode cL_law 357 = .ok (.iconst 2, 1) := by decide +kernel
theorem dL_law_358 : decode cL_law 358 = .ok (.iadd, 1) := by decide +kernel
theorem dL_law_359 : decode cL_law 359 = .ok (.iaload, 1) := by decide +kernel
theorem dL_law_360 : decode cL_law 360 = .ok (.aload_n 0, 1) := by decide +kernel
theorem dL_law_361 : decode cL_law 361 = .ok (.iload 4, 2) := by decide +kernel
theorem dL_law_363 : decode cL_law 363 = .ok (.iconst 3, 1) := by decide +kernel
theorem dL_law_364 : decode cL_law 364 = .ok (.iadd, 1) := by decide +kernel
theorem dL_law_365 : decode cL_law 365 = .ok (.iaload, 1) := by decide +kernel
theorem dL_law_366 : decode cL_law 366 = .ok (.invokevirtual 68, 3) := by decide +kernel
theorem dL_law_369 : decode cL_law 369 = .ok (.istore 6, 2) := by decide +kernel
theorem dL_law_371 : decode cL_law 371 = .ok (.aload_n 2, 1) := by decide +kernel
theorem dL_law_372 : decode cL_law 372 = .ok (.invokevirtual 45, 3) := by decide +kernel
theorem dL_law_375 : decode cL_law 375 = .ok (.iload 5, 2) := by decide +kernel
theorem dL_law_377 : decode cL_law 377 = .ok (.if_icmp .eq 5, 3) := by decide +kernel
theorem dL_law_380 : decode cL_law 380 = .ok (.iconst 0, 1) := by decide +kernel
theorem dL_law_381 : decode cL_law 381 = .ok (.ireturn, 1) := by decide +kernel
theorem dL_law_382 : decode cL_law 382 = .ok (.iload 5, 2) := by decide +kernel
theorem dL_law_384 : decode cL_law 384 = .ok (.ifCond .ne 15, 3) := by decide +kernel
theorem dL_law_387 : decode cL_law 387 = .ok (.aload_n 3, 1) := by decide +kernel
theorem dL_law_388 : decode cL_law 388 = .ok (.iconst 0, 1) := by decide +kernel
theorem dL_law_389 : decode cL_law 389 = .ok (.laload, 1) := by decide +kernel
theorem dL_law_390 : decode cL_law 390 = .ok (.iload 6, 2) := by decide +kernel
theorem dL_law_392 : decode cL_law 392 = .ok (.i2l, 1) := by decide +kernel
theorem dL_law_393 : decode cL_law 393 = .ok (.lcmp, 1) := by decide +kernel
theorem dL_law_394 : decode cL_law 394 = .ok (.ifCond .eq 5, 3) := by decide +kernel
theorem dL_law_397 : decode cL_law 397 = .ok (.iconst 0, 1) := by decide +kernel
theorem dL_law_398 : decode cL_law 398 = .ok (.ireturn, 1) := by decide +kernel
theorem dL_law_399 : decode cL_law 399 = .ok (.goto 374, 3) := by decide +kernel
theorem dL_law_402 : decode cL_law 402 = .ok (.aload_n 1, 1) := by decide +kernel
theorem dL_law_403 : decode cL_law 403 = .ok (.aload_n 0, 1) := by decide +kernel
theorem dL_law_404 : decode cL_law 404 = .ok (.iload 4, 2) := by decide +kernel
theorem dL_law_406 : decode cL_law 406 = .ok (.iconst 1, 1) := by decide +kernel
theorem dL_law_407 : decode cL_law 407 = .ok (.iadd, 1) := by decide +kernel
theorem dL_law_408 : decode cL_law 408 = .ok (.iaload, 1) := by decide +kernel
theorem dL_law_409 : decode cL_law 409 = .ok (.aload_n 0, 1) := by decide +kernel
theorem dL_law_410 : decode cL_law 410 = .ok (.iload 4, 2) := by decide +kernel
theorem dL_law_412 : decode cL_law 412 = .ok (.iconst 2, 1) := by decide +kernel
theorem dL_law_413 : decode cL_law 413 = .ok (.iadd, 1) := by decide +kernel
theorem dL_law_414 : decode cL_law 414 = .ok (.iaload, 1) := by decide +kernel
theorem dL_law_415 : decode cL_law 415 = .ok (.invokestatic 69, 3) := by decide +kernel
theorem dL_law_418 : decode cL_law 418 = .ok (.istore 5, 2) := by decide +kernel
theorem dL_law_420 : decode cL_law 420 = .ok (.aload_n 2, 1) := by decide +kernel
theorem dL_law_421 : decode cL_law 421 = .ok (.aload_n 0, 1) := by decide +kernel
theorem dL_law_422 : decode cL_law 422 = .ok (.iload 4, 2) := by decide +kernel
theorem dL_law_424 : decode cL_law 424 = .ok (.iconst 1, 1) := by decide +kernel
theorem dL_law_425 : decode cL_law 425 = .ok (.iadd, 1) := by decide +kernel
theorem dL_law_426 : decode cL_law 426 = .ok (.iaload, 1) := by decide +kernel
theorem dL_law_427 : decode cL_law 427 = .ok (.aload_n 0, 1) := by decide +kernel
theorem dL_law_428 : decode cL_law 428 = .ok (.iload 4, 2) := by decide +kernel
theorem dL_law_430 : decode cL_law 430 = .ok (.iconst 2, 1) := by decide +kernel
theorem dL_law_431 : decode cL_law 431 = .ok (.iadd, 1) := by decide +kernel
theorem dL_law_432 : decode cL_law 432 = .ok (.iaload, 1) := by decide +kernel
theorem dL_law_433 : decode cL_law 433 = .ok (.invokevirtual 72, 3) := by decide +kernel
theorem dL_law_436 : decode cL_law 436 = .ok (.aload_n 2, 1) := by decide +kernel
theorem dL_law_437 : decode cL_law 437 = .ok (.invokevirtual 45, 3) := by decide +kernel
theorem dL_law_440 : decode cL_law 440 = .ok (.iload 5, 2) := by decide +kernel
theorem dL_law_442 : decode cL_law 442 = .ok (.if_icmp .eq 5, 3) := by decide +kernel
theorem dL_law_445 : decode cL_law 445 = .ok (.iconst 0, 1) := by decide +kernel
theorem dL_law_446 : decode cL_law 446 = .ok (.ireturn, 1) := by decide +kernel
theorem dL_law_447 : decode cL_law 447 = .ok (.goto 326, 3) := by decide +kernel
theorem dL_law_450 : decode cL_law 450 = .ok (.aload_n 1, 1) := by decide +kernel
theorem dL_law_451 : decode cL_law 451 = .ok (.aload_n 0, 1) := by decide +kernel
theorem dL_law_452 : decode cL_law 452 = .ok (.iload 4, 2) := by decide +kernel
theorem dL_law_454 : decode cL_law 454 = .ok (.iconst 1, 1) := by decide +kernel
theorem dL_law_455 : decode cL_law 455 = .ok (.iadd, 1) := by decide +kernel
theorem dL_law_456 : decode cL_law 456 = .ok (.iaload, 1) := by decide +kernel
theorem dL_law_457 : decode cL_law 457 = .ok (.aload_n 0, 1) := by decide +kernel
theorem dL_law_458 : decode cL_law 458 = .ok (.iload 4, 2) := by decide +kernel
theorem dL_law_460 : decode cL_law 460 = .ok (.iconst 2, 1) := by decide +kernel
theorem dL_law_461 : decode cL_law 461 = .ok (.iadd, 1) := by decide +kernel
theorem dL_law_462 : decode cL_law 462 = .ok (.iaload, 1) := by decide +kernel
theorem dL_law_463 : decode cL_law 463 = .ok (.invokevirtual 73, 3) := by decide +kernel
theorem dL_law_466 : decode cL_law 466 = .ok (.aload_n 2, 1) := by decide +kernel
theorem dL_law_467 : decode cL_law 467 = .ok (.aload_n 0, 1) := by decide +kernel
theorem dL_law_468 : decode cL_law 468 = .ok (.iload 4, 2) := by decide +kernel
theorem dL_law_470 : decode cL_law 470 = .ok (.iconst 1, 1) := by decide +kernel
theorem dL_law_471 : decode cL_law 471 = .ok (.iadd, 1) := by decide +kernel
theorem dL_law_472 : decode cL_law 472 = .ok (.iaload, 1) := by decide +kernel
theorem dL_law_473 : decode cL_law 473 = .ok (.aload_n 0, 1) := by decide +kernel
theorem dL_law_474 : decode cL_law 474 = .ok (.iload 4, 2) := by decide +kernel
theorem dL_law_476 : decode cL_law 476 = .ok (.iconst 2, 1) := by decide +kernel
theorem dL_law_477 : decode cL_law 477 = .ok (.iadd, 1) := by decide +kernel
theorem dL_law_478 : decode cL_law 478 = .ok (.iaload, 1) := by decide +kernel
theorem dL_law_479 : decode cL_law 479 = .ok (.invokevirtual 76, 3) := by decide +kernel
theorem dL_law_482 : decode cL_law 482 = .ok (.if_icmp .eq 291, 3) := by decide +kernel
theorem dL_law_485 : decode cL_law 485 = .ok (.iconst 0, 1) := by decide +kernel
theorem dL_law_486 : decode cL_law 486 = .ok (.ireturn, 1) := by decide +kernel
theorem dL_law_487 : decode cL_law 487 = .ok (.aload_n 1, 1) := by decide +kernel
theorem dL_law_488 : decode cL_law 488 = .ok (.aload_n 0, 1) := by decide +kernel
theorem dL_law_489 : decode cL_law 489 = .ok (.iload 4, 2) := by decide +kernel
theorem dL_law_491 : decode cL_law 491 = .ok (.iconst 1, 1) := by decide +kernel
theorem dL_law_492 : decode cL_law 492 = .ok (.iadd, 1) := by decide +kernel
theorem dL_law_493 : decode cL_law 493 = .ok (.iaload, 1) := by decide +kernel
theorem dL_law_494 : decode cL_law 494 = .ok (.invokevirtual 77, 3) := by decide +kernel
theorem dL_law_497 : decode cL_law 497 = .ok (.aload_n 2, 1) := by decide +kernel
theorem dL_law_498 : decode cL_law 498 = .ok (.aload_n 0, 1) := by decide +kernel
theorem dL_law_499 : decode cL_law 499 = .ok (.iload 4, 2) := by decide +kernel
theorem dL_law_501 : decode cL_law 501 = .ok (.iconst 1, 1) := by decide +kernel
theorem dL_law_502 : decode cL_law 502 = .ok (.iadd, 1) := by decide +kernel
theorem dL_law_503 : decode cL_law 503 = .ok (.iaload, 1) := by decide +kernel
theorem dL_law_504 : decode cL_law 504 = .ok (.invokevirtual 80, 3) := by decide +kernel
theorem dL_law_507 : decode cL_law 507 = .ok (.if_icmp .eq 266, 3) := by decide +kernel
theorem dL_law_510 : decode cL_law 510 = .ok (.iconst 0, 1) := by decide +kernel
theorem dL_law_511 : decode cL_law 511 = .ok (.ireturn, 1) := by decide +kernel
theorem dL_law_512 : decode cL_law 512 = .ok (.aload_n 1, 1) := by decide +kernel
theorem dL_law_513 : decode cL_law 513 = .ok (.aload_n 0, 1) := by decide +kernel
theorem dL_law_514 : decode cL_law 514 = .ok (.iload 4, 2) := by decide +kernel
theorem dL_law_516 : decode cL_law 516 = .ok (.iconst 1, 1) := by decide +kernel
theorem dL_law_517 : decode cL_law 517 = .ok (.iadd, 1) := by decide +kernel
theorem dL_law_518 : decode cL_law 518 = .ok (.iaload, 1) := by decide +kernel
theorem dL_law_519 : decode cL_law 519 = .ok (.invokevirtual 81, 3) := by decide +kernel
theorem dL_law_522 : decode cL_law 522 = .ok (.aload_n 2, 1) := by decide +kernel
theorem dL_law_523 : decode cL_law 523 = .ok (.aload_n 0, 1) := by decide +kernel
theorem dL_law_524 : decode cL_law 524 = .ok (.iload 4, 2) := by decide +kernel
theorem dL_law_526 : decode cL_law 526 = .ok (.iconst 1, 1) := by decide +kernel
theorem dL_law_527 : decode cL_law 527 = .ok (.iadd, 1) := by decide +kernel
theorem dL_law_528 : decode cL_law 528 = .ok (.iaload, 1) := by decide +kernel
theorem dL_law_529 : decode cL_law 529 = .ok (.invokevirtual 84, 3) := by decide +kernel
theorem dL_law_532 : decode cL_law 532 = .ok (.if_icmp .eq 241, 3) := by decide +kernel
theorem dL_law_535 : decode cL_law 535 = .ok (.iconst 0, 1) := by decide +kernel
theorem dL_law_536 : decode cL_law 536 = .ok (.ireturn, 1) := by decide +kernel
theorem dL_law_537 : decode cL_law 537 = .ok (.aload_n 1, 1) := by decide +kernel
theorem dL_law_538 : decode cL_law 538 = .ok (.aload_n 0, 1) := by decide +kernel
theorem dL_law_539 : decode cL_law 539 = .ok (.iload 4, 2) := by decide +kernel
theorem dL_law_541 : decode cL_law 541 = .ok (.iconst 1, 1) := by decide +kernel
theorem dL_law_542 : decode cL_law 542 = .ok (.iadd, 1) := by decide +kernel
theorem dL_law_543 : decode cL_law 543 = .ok (.iaload, 1) := by decide +kernel
theorem dL_law_544 : decode cL_law 544 = .ok (.invokevirtual 85, 3) := by decide +kernel
theorem dL_law_547 : decode cL_law 547 = .ok (.aload_n 2, 1) := by decide +kernel
theorem dL_law_548 : decode cL_law 548 = .ok (.aload_n 0, 1) := by decide +kernel
theorem dL_law_549 : decode cL_law 549 = .ok (.iload 4, 2) := by decide +kernel
theorem dL_law_551 : decode cL_law 551 = .ok (.iconst 1, 1) := by decide +kernel
theorem dL_law_552 : decode cL_law 552 = .ok (.iadd, 1) := by decide +kernel
theorem dL_law_553 : decode cL_law 553 = .ok (.iaload, 1) := by decide +kernel
theorem dL_law_554 : decode cL_law 554 = .ok (.invokevirtual 88, 3) := by decide +kernel
theorem dL_law_557 : decode cL_law 557 = .ok (.if_icmp .eq 216, 3) := by decide +kernel
theorem dL_law_560 : decode cL_law 560 = .ok (.iconst 0, 1) := by decide +kernel
theorem dL_law_561 : decode cL_law 561 = .ok (.ireturn, 1) := by decide +kernel
theorem dL_law_562 : decode cL_law 562 = .ok (.aload_n 1, 1) := by decide +kernel
theorem dL_law_563 : decode cL_law 563 = .ok (.aload_n 0, 1) := by decide +kernel
theorem dL_law_564 : decode cL_law 564 = .ok (.iload 4, 2) := by decide +kernel
theorem dL_law_566 : decode cL_law 566 = .ok (.iconst 1, 1) := by decide +kernel
theorem dL_law_567 : decode cL_law 567 = .ok (.iadd, 1) := by decide +kernel
theorem dL_law_568 : decode cL_law 568 = .ok (.iaload, 1) := by decide +kernel
theorem dL_law_569 : decode cL_law 569 = .ok (.aload_n 0, 1) := by decide +kernel
theorem dL_law_570 : decode cL_law 570 = .ok (.iload 4, 2) := by decide +kernel
theorem dL_law_572 : decode cL_law 572 = .ok (.iconst 2, 1) := by decide +kernel
theorem dL_law_573 : decode cL_law 573 = .ok (.iadd, 1) := by decide +kernel
theorem dL_law_574 : decode cL_law 574 = .ok (.iaload, 1) := by decide +kernel
theorem dL_law_575 : decode cL_law 575 = .ok (.invokevirtual 89, 3) := by decide +kernel
theorem dL_law_578 : decode cL_law 578 = .ok (.aload_n 2, 1) := by decide +kernel
theorem dL_law_579 : decode cL_law 579 = .ok (.aload_n 0, 1) := by decide +kernel
theorem dL_law_580 : decode cL_law 580 = .ok (.iload 4, 2) := by decide +kernel
theorem dL_law_582 : decode cL_law 582 = .ok (.iconst 1, 1) := by decide +kernel
theorem dL_law_583 : decode cL_law 583 = .ok (.iadd, 1) := by decide +kernel
theorem dL_law_584 : decode cL_law 584 = .ok (.iaload, 1) := by decide +kernel
theorem dL_law_585 : decode cL_law 585 = .ok (.aload_n 0, 1) := by decide +kernel
theorem dL_law_586 : decode cL_law 586 = .ok (.iload 4, 2) := by decide +kernel
theorem dL_law_588 : decode cL_law 588 = .ok (.iconst 2, 1) := by decide +kernel
theorem dL_law_589 : decode cL_law 589 = .ok (.iadd, 1) := by decide +kernel
theorem dL_law_590 : decode cL_law 590 = .ok (.iaload, 1) := by decide +kernel
theorem dL_law_591 : decode cL_law 591 = .ok (.invokevirtual 93, 3) := by decide +kernel
theorem dL_law_594 : decode cL_law 594 = .ok (.if_icmp .eq 179, 3) := by decide +kernel
theorem dL_law_597 : decode cL_law 597 = .ok (.iconst 0, 1) := by decide +kernel
theorem dL_law_598 : decode cL_law 598 = .ok (.ireturn, 1) := by decide +kernel
theorem dL_law_599 : decode cL_law 599 = .ok (.aload_n 1, 1) := by decide +kernel
theorem dL_law_600 : decode cL_law 600 = .ok (.invokevirtual 94, 3) := by decide +kernel
theorem dL_law_603 : decode cL_law 603 = .ok (.aload_n 2, 1) := by decide +kernel
theorem dL_law_604 : decode cL_law 604 = .ok (.invokevirtual 97, 3) := by decide +kernel
theorem dL_law_607 : decode cL_law 607 = .ok (.if_icmp .eq 166, 3) := by decide +kernel
theorem dL_law_610 : decode cL_law 610 = .ok (.iconst 0, 1) := by decide +kernel
theorem dL_law_611 : decode cL_law 611 = .ok (.ireturn, 1) := by decide +kernel
theorem dL_law_612 : decode cL_law 612 = .ok (.aload_n 1, 1) := by decide +kernel
theorem dL_law_613 : decode cL_law 613 = .ok (.aload_n 0, 1) := by decide +kernel
theorem dL_law_614 : decode cL_law 614 = .ok (.iload 4, 2) := by decide +kernel
theorem dL_law_616 : decode cL_law 616 = .ok (.iconst 1, 1) := by decide +kernel
theorem dL_law_617 : decode cL_law 617 = .ok (.iadd, 1) := by decide +kernel
theorem dL_law_618 : decode cL_law 618 = .ok (.iaload, 1) := by decide +kernel
theorem dL_law_619 : decode cL_law 619 = .ok (.invokevirtual 98, 3) := by decide +kernel
theorem dL_law_622 : decode cL_law 622 = .ok (.aload_n 2, 1) := by decide +kernel
theorem dL_law_623 : decode cL_law 623 = .ok (.aload_n 0, 1) := by decide +kernel
theorem dL_law_624 : decode cL_law 624 = .ok (.iload 4, 2) := by decide +kernel
theorem dL_law_626 : decode cL_law 626 = .ok (.iconst 1, 1) := by decide +kernel
theorem dL_law_627 : decode cL_law 627 = .ok (.iadd, 1) := by decide +kernel
theorem dL_law_628 : decode cL_law 628 = .ok (.iaload, 1) := by decide +kernel
theorem dL_law_629 : decode cL_law 629 = .ok (.invokevirtual 101, 3) := by decide +kernel
theorem dL_law_632 : decode cL_law 632 = .ok (.if_icmp .eq 141, 3) := by decide +kernel
theorem dL_law_635 : decode cL_law 635 = .ok (.iconst 0, 1) := by decide +kernel
theorem dL_law_636 : decode cL_law 636 = .ok (.ireturn, 1) := by decide +kernel
theorem dL_law_637 : decode cL_law 637 = .ok (.aload_n 1, 1) := by decide +kernel
theorem dL_law_638 : decode cL_law 638 = .ok (.aload_n 0, 1) := by decide +kernel
theorem dL_law_639 : decode cL_law 639 = .ok (.iload 4, 2) := by decide +kernel
theorem dL_law_641 : decode cL_law 641 = .ok (.iconst 1, 1) := by decide +kernel
theorem dL_law_642 : decode cL_law 642 = .ok (.iadd, 1) := by decide +kernel
theorem dL_law_643 : decode cL_law 643 = .ok (.iaload, 1) := by decide +kernel
theorem dL_law_644 : decode cL_law 644 = .ok (.aload_n 0, 1) := by decide +kernel
theorem dL_law_645 : decode cL_law 645 = .ok (.iload 4, 2) := by decide +kernel
theorem dL_law_647 : decode cL_law 647 = .ok (.iconst 2, 1) := by decide +kernel
theorem dL_law_648 : decode cL_law 648 = .ok (.iadd, 1) := by decide +kernel
theorem dL_law_649 : decode cL_law 649 = .ok (.iaload, 1) := by decide +kernel
theorem dL_law_650 : decode cL_law 650 = .ok (.invokevirtual 102, 3) := by decide +kernel
theorem dL_law_653 : decode cL_law 653 = .ok (.aload_n 2, 1) := by decide +kernel
theorem dL_law_654 : decode cL_law 654 = .ok (.aload_n 0, 1) := by decide +kernel
theorem dL_law_655 : decode cL_law 655 = .ok (.iload 4, 2) := by decide +kernel
theorem dL_law_657 : decode cL_law 657 = .ok (.iconst 1, 1) := by decide +kernel
theorem dL_law_658 : decode cL_law 658 = .ok (.iadd, 1) := by decide +kernel
theorem dL_law_659 : decode cL_law 659 = .ok (.iaload, 1) := by decide +kernel
theorem dL_law_660 : decode cL_law 660 = .ok (.aload_n 0, 1) := by decide +kernel
theorem dL_law_661 : decode cL_law 661 = .ok (.iload 4, 2) := by decide +kernel
theorem dL_law_663 : decode cL_law 663 = .ok (.iconst 2, 1) := by decide +kernel
theorem dL_law_664 : decode cL_law 664 = .ok (.iadd, 1) := by decide +kernel
theorem dL_law_665 : decode cL_law 665 = .ok (.iaload, 1) := by decide +kernel
theorem dL_law_666 : decode cL_law 666 = .ok (.invokevirtual 105, 3) := by decide +kernel
theorem dL_law_669 : decode cL_law 669 = .ok (.if_icmp .eq 104, 3) := by decide +kernel
theorem dL_law_672 : decode cL_law 672 = .ok (.iconst 0, 1) := by decide +kernel
theorem dL_law_673 : decode cL_law 673 = .ok (.ireturn, 1) := by decide +kernel
theorem dL_law_674 : decode cL_law 674 = .ok (.aload_n 1, 1) := by decide +kernel
theorem dL_law_675 : decode cL_law 675 = .ok (.aload_n 0, 1) := by decide +kernel
theorem dL_law_676 : decode cL_law 676 = .ok (.iload 4, 2) := by decide +kernel
theorem dL_law_678 : decode cL_law 678 = .ok (.iconst 1, 1) := by decide +kernel
theorem dL_law_679 : decode cL_law 679 = .ok (.iadd, 1) := by decide +kernel
theorem dL_law_680 : decode cL_law 680 = .ok (.iaload, 1) := by decide +kernel
theorem dL_law_681 : decode cL_law 681 = .ok (.aload_n 0, 1) := by decide +kernel
theorem dL_law_682 : decode cL_law 682 = .ok (.iload 4, 2) := by decide +kernel
theorem dL_law_684 : decode cL_law 684 = .ok (.iconst 2, 1) := by decide +kernel
theorem dL_law_685 : decode cL_law 685 = .ok (.iadd, 1) := by decide +kernel
theorem dL_law_686 : decode cL_law 686 = .ok (.iaload, 1) := by decide +kernel
theorem dL_law_687 : decode cL_law 687 = .ok (.aload_n 0, 1) := by decide +kernel
theorem dL_law_688 : decode cL_law 688 = .ok (.iload 4, 2) := by decide +kernel
theorem dL_law_690 : decode cL_law 690 = .ok (.iconst 3, 1) := by decide +kernel
theorem dL_law_691 : decode cL_law 691 = .ok (.iadd, 1) := by decide +kernel
theorem dL_law_692 : decode cL_law 692 = .ok (.iaload, 1) := by decide +kernel
theorem dL_law_693 : decode cL_law 693 = .ok (.invokevirtual 106, 3) := by decide +kernel
theorem dL_law_696 : decode cL_law 696 = .ok (.aload_n 2, 1) := by decide +kernel
theorem dL_law_697 : decode cL_law 697 = .ok (.aload_n 0, 1) := by decide +kernel
theorem dL_law_698 : decode cL_law 698 = .ok (.iload 4, 2) := by decide +kernel
theorem dL_law_700 : decode cL_law 700 = .ok (.iconst 1, 1) := by decide +kernel
theorem dL_law_701 : decode cL_law 701 = .ok (.iadd, 1) := by decide +kernel
theorem dL_law_702 : decode cL_law 702 = .ok (.iaload, 1) := by decide +kernel
theorem dL_law_703 : decode cL_law 703 = .ok (.aload_n 0, 1) := by decide +kernel
theorem dL_law_704 : decode cL_law 704 = .ok (.iload 4, 2) := by decide +kernel
theorem dL_law_706 : decode cL_law 706 = .ok (.iconst 2, 1) := by decide +kernel
theorem dL_law_707 : decode cL_law 707 = .ok (.iadd, 1) := by decide +kernel
theorem dL_law_708 : decode cL_law 708 = .ok (.iaload, 1) := by decide +kernel
theorem dL_law_709 : decode cL_law 709 = .ok (.aload_n 0, 1) := by decide +kernel
theorem dL_law_710 : decode cL_law 710 = .ok (.iload 4, 2) := by decide +kernel
theorem dL_law_712 : decode cL_law 712 = .ok (.iconst 3, 1) := by decide +kernel
theorem dL_law_713 : decode cL_law 713 = .ok (.iadd, 1) := by decide +kernel
theorem dL_law_714 : decode cL_law 714 = .ok (.iaload, 1) := by decide +kernel
theorem dL_law_715 : decode cL_law 715 = .ok (.invokevirtual 110, 3) := by decide +kernel
theorem dL_law_718 : decode cL_law 718 = .ok (.if_icmp .eq 55, 3) := by decide +kernel
theorem dL_law_721 : decode cL_law 721 = .ok (.iconst 0, 1) := by decide +kernel
theorem dL_law_722 : decode cL_law 722 = .ok (.ireturn, 1) := by decide +kernel
theorem dL_law_723 : decode cL_law 723 = .ok (.aload_n 1, 1) := by decide +kernel
theorem dL_law_724 : decode cL_law 724 = .ok (.aload_n 0, 1) := by decide +kernel
theorem dL_law_725 : decode cL_law 725 = .ok (.iload 4, 2) := by decide +kernel
theorem dL_law_727 : decode cL_law 727 = .ok (.iconst 1, 1) := by decide +kernel
theorem dL_law_728 : decode cL_law 728 = .ok (.iadd, 1) := by decide +kernel
theorem dL_law_729 : decode cL_law 729 = .ok (.iaload, 1) := by decide +kernel
theorem dL_law_730 : decode cL_law 730 = .ok (.invokevirtual 111, 3) := by decide +kernel
theorem dL_law_733 : decode cL_law 733 = .ok (.aload_n 2, 1) := by decide +kernel
theorem dL_law_734 : decode cL_law 734 = .ok (.aload_n 0, 1) := by decide +kernel
theorem dL_law_735 : decode cL_law 735 = .ok (.iload 4, 2) := by decide +kernel
theorem dL_law_737 : decode cL_law 737 = .ok (.iconst 1, 1) := by decide +kernel
theorem dL_law_738 : decode cL_law 738 = .ok (.iadd, 1) := by decide +kernel
theorem dL_law_739 : decode cL_law 739 = .ok (.iaload, 1) := by decide +kernel
theorem dL_law_740 : decode cL_law 740 = .ok (.invokevirtual 114, 3) := by decide +kernel
theorem dL_law_743 : decode cL_law 743 = .ok (.if_icmp .eq 30, 3) := by decide +kernel
theorem dL_law_746 : decode cL_law 746 = .ok (.iconst 0, 1) := by decide +kernel
theorem dL_law_747 : decode cL_law 747 = .ok (.ireturn, 1) := by decide +kernel
theorem dL_law_748 : decode cL_law 748 = .ok (.aload_n 1, 1) := by decide +kernel
theorem dL_law_749 : decode cL_law 749 = .ok (.aload_n 0, 1) := by decide +kernel
theorem dL_law_750 : decode cL_law 750 = .ok (.iload 4, 2) := by decide +kernel
theorem dL_law_752 : decode cL_law 752 = .ok (.iconst 1, 1) := by decide +kernel
theorem dL_law_753 : decode cL_law 753 = .ok (.iadd, 1) := by decide +kernel
theorem dL_law_754 : decode cL_law 754 = .ok (.iaload, 1) := by decide +kernel
theorem dL_law_755 : decode cL_law 755 = .ok (.invokevirtual 115, 3) := by decide +kernel
theorem dL_law_758 : decode cL_law 758 = .ok (.aload_n 2, 1) := by decide +kernel
theorem dL_law_759 : decode cL_law 759 = .ok (.aload_n 0, 1) := by decide +kernel
theorem dL_law_760 : decode cL_law 760 = .ok (.iload 4, 2) := by decide +kernel
theorem dL_law_762 : decode cL_law 762 = .ok (.iconst 1, 1) := by decide +kernel
theorem dL_law_763 : decode cL_law 763 = .ok (.iadd, 1) := by decide +kernel
theorem dL_law_764 : decode cL_law 764 = .ok (.iaload, 1) := by decide +kernel
theorem dL_law_765 : decode cL_law 765 = .ok (.invokevirtual 118, 3) := by decide +kernel
theorem dL_law_768 : decode cL_law 768 = .ok (.if_icmp .eq 5, 3) := by decide +kernel
theorem dL_law_771 : decode cL_law 771 = .ok (.iconst 0, 1) := by decide +kernel
theorem dL_law_772 : decode cL_law 772 = .ok (.ireturn, 1) := by decide +kernel
theorem dL_law_773 : decode cL_law 773 = .ok (.iinc 4 4, 3) := by decide +kernel
theorem dL_law_776 : decode cL_law 776 = .ok (.goto (-753), 3) := by decide +kernel
theorem dL_law_779 : decode cL_law 779 = .ok (.iconst 1, 1) := by decide +kernel
theorem dL_law_780 : decode cL_law 780 = .ok (.ireturn, 1) := by decide +kernel
end
section
/-! A WORLD: n cells at addresses ad 0 .. ad (n-1); what the k-th holds is a function of a row of numbers, M k. Memory M : cell, place -> number. -/
abbrev Mem : Type := Nat → Nat → Int32
/-- the memory with another number at (k, r) -/
def up (M : Mem) (k r : Nat) (v : Int32) : Mem := fun k' => if k' = k then upd (M k) r v else M k'
theorem up_k (M : Mem) (k r : Nat) (v : Int32) : up M k r v k = upd (M k) r v := by simp [up]
theorem up_n {M : Mem} {k r k' : Nat} {v : Int32} (h : k' ≠ k) : up M k r v k' = M k' := by simp [up, h]
theorem up_s (M : Mem) (k r : Nat) (v : Int32) : up M k r v k r = v := by simp [up, upd]
theorem up_e (M : Mem) (k r : Nat) (v : Int32) (k' r' : Nat) : up M k r v k' r' = if k' = k ∧ r' = r then v else M k' r' := by
  unfold up upd
  by_cases h : k' = k
  · subst h
    by_cases h2 : r' = r <;> simp [h2]
  · simp [h]
/-- how a world is made: the classes' numbers, how many cells, their addresses, what each is, the array classes -/
abbrev WS : Type := va_G × Nat × (Nat → Nat) × (Nat → (Nat → Int32) → va_E) × List (ClassId × FieldType)
abbrev wD (O : WS) : va_G := O.1
abbrev wn (O : WS) : Nat := O.2.1
abbrev wa (O : WS) : Nat → Nat := O.2.2.1
abbrev wE (O : WS) : Nat → (Nat → Int32) → va_E := O.2.2.2.1
abbrev wt (O : WS) : List (ClassId × FieldType) := O.2.2.2.2
def wd (O : WS) (M : Mem) : va_W := (List.range (wn O)).map (fun k => (wa O k, wE O k (M k)))
/-- the addresses are apart -/
def wj (O : WS) : Prop := ∀ i j, i < wn O → j < wn O → wa O i = wa O j → i = j
/-- the world's cells, and all from sz on -/
def wA (O : WS) (sz : Nat) : Nat → Prop := fun q => (∃ k, k < wn O ∧ q = wa O k) ∨ sz ≤ q
theorem wd_at {O : WS} {M : Mem} {k : Nat} (h : k < wn O) : (wd O M)[k]? = some (wa O k, wE O k (M k)) := by
  simp [wd, h]
theorem wd_at' {O : WS} {M : Mem} {k : Nat} {q : Nat × va_E} (h : (wd O M)[k]? = some q) : k < wn O ∧ q = (wa O k, wE O k (M k)) := by
  by_cases hk : k < wn O
  · rw [wd_at hk] at h
    exact ⟨hk, (Option.some.inj h).symm⟩
  · exfalso
    have : (wd O M)[k]? = none := by simp [wd]; omega
    rw [this] at h
    cases h
theorem wd_D {O : WS} (hj : wj O) (M : Mem) (sz : Nat) : va_D (wA O sz) (wd O M) := by
  refine ⟨fun i j x y hi hjj hxy => ?_, fun k q hk => ?_⟩
  · obtain ⟨h1, rfl⟩ := wd_at' hi
    obtain ⟨h2, rfl⟩ := wd_at' hjj
    exact hj i j h1 h2 hxy
  · obtain ⟨h1, rfl⟩ := wd_at' hk
    exact Or.inl ⟨k, h1, rfl⟩
theorem wd_set {O : WS} {M : Mem} {k r : Nat} {v : Int32} {e : va_E} (h : k < wn O) (he : e = wE O k (upd (M k) r v)) : (wd O M).set k (wa O k, e) = wd O (up M k r v) := by
  subst he
  apply List.ext_getElem?
  intro i
  by_cases hi : i = k
  · subst hi
    rw [List.getElem?_set_self (by simp [wd]; exact h), wd_at h, up_k]
  · rw [List.getElem?_set_ne (Ne.symm hi)]
    by_cases hn : i < wn O
    · rw [wd_at hn, wd_at hn, up_n hi]
    · have h1 : (wd O M)[i]? = none := by simp [wd]; omega
      have h2 : (wd O (up M k r v))[i]? = none := by simp [wd]; omega
      rw [h1, h2]
theorem wA_up {O : WS} {sz sz' : Nat} (h : sz ≤ sz') {q : Nat} (hq : wA O sz' q) : wA O sz q := by
  rcases hq with h1 | h1
  · exact Or.inl h1
  · exact Or.inr (Nat.le_trans h h1)
/-- what holds at a method's start, and at its end -/
def wp (O : WS) (sz : Nat) (M : Mem) (U : State) : Prop := U.heap.size = sz ∧ va_P (wD O) vwCl (wd O M) U.heap ∧ va_K (wD O) vwCl (wt O) U
def wq (O : WS) (M : Mem) (t : State) : Prop := va_P (wD O) vwCl (wd O M) t.heap ∧ va_K (wD O) vwCl (wt O) t
abbrev wQi (O : WS) (sz : Nat) (v : Int32) (M : Mem) : Array Value → State → Outcome → State → Prop := va_Qi (fun r (_ : Unit) => r = v) (fun _ t => wq O M t) (wA O sz)
abbrev wQv (O : WS) (sz : Nat) (M : Mem) : Array Value → State → Outcome → State → Prop := va_Qv (fun (_ : Unit) => True) (fun _ t => wq O M t) (wA O sz)
abbrev wQq (O : WS) (sz : Nat) (v : Option Nat) (M : Mem) : Array Value → State → Outcome → State → Prop := va_Qq (fun r (_ : Unit) => r = v) (fun _ t => wq O M t) (wA O sz)
theorem wp_blind {O : WS} {sz : Nat} {M : Mem} {av : List Value} : FrameBlind (va_Pc av (wp O sz M)) := by
  intro a U g mk q
  obtain ⟨q0, q1, qP, qK⟩ := q
  exact ⟨q0, q1, qP, va_K.moved (u := U) (U := U.calling g mk a) (Vm.Alike.refl U.vm) qK⟩
section WR
variable {p : Program} {l : Launch} {e : Env} {R : Room} {s : State} {m : MethodId} {args : Array Value} {below : List Frame} {meth : Method} {c : Code} {H : Heap} {locs : List Loc} {cells slots : Nat} {Q : State → Prop}
variable {cc : ByteArray} {pc : Nat} {ls : Array Slot} {rest : List Value} {O : WS} {M : Mem}
/-- a method's body, from its contract's start -/
theorem wd_ofW {y : MethodName} {ws ws' : List Cond} {rm : Room} {Qc : Nat → Array Value → State → Outcome → State → Prop} {mc ms sz maxL : Nat} {ret : Option FieldType} {av : List Value} {lv : List (Nat × Value)}
    (hy : plainName y.cls = true) (hw : ws = Cond.code y cc maxL ret :: ws') (hlen : (lg_sl av).length ≤ maxL) (hlv : lv_args 0 av = lv)
    (body : ∀ (p : Program) (e : Env) (s : State) (m : MethodId) (below : List Frame) (meth : Method) (c : Code) (ls : Array Slot), p.tables.exec = Jvm.exec → c.code = cc → meth.sig.returnType = ret → c.maxLocals = maxL → s.vm.findClass y.cls = some m.cls → (∀ w ∈ ws, w.before av.toArray s = true) → meth.locks = false →
      va_P (wD O) vwCl (wd O M) s.heap → va_K (wD O) vwCl (wt O) s → va_S (wA O s.heap.size) s.heap s.heap [] → lv_has ls maxL lv →
      W p l e rm s m av.toArray below meth c s.heap [] 0 0 (MQ below (Qc s.heap.size) av.toArray s mc ms (wA O s.heap.size)) (F0 m 0 ls [])) :
    Met l y ws rm (va_Pc av (wp O sz M)) (Qc sz) mc ms (wA O sz) := by
  refine Met.ofW (cc := cc) (maxL := maxL) (ret := ret) hy hw ?_
  intro p e s m args below meth c s₁ B hml hv
  obtain ⟨rfl, rfl, hP, hK⟩ := hv
  have hl := lv_entry av (n := maxL) hlen
  rw [lg_entry_eq]
  rw [hlv] at hl
  exact body p e s m below meth c _ B.exec B.bytes B.returns hml (findClass_of_methodNamed B.named) (atoms_spec (ws := ws) B.pre) B.notSynchronized hP hK va_S.rf hl
theorem wd_get (hx : p.tables.exec = Jvm.exec) (hb : c.code = cc) {own ref C : String} {T : u_T} {N ci index k : Nat} {Ts : List Cond} (hts : ∀ w ∈ Ts, w.before args s = true) (hin : ∀ w ∈ u_ws C T N, w ∈ Ts) (hown : s.vm.findClass own = some m.cls) (hK : va_K (wD O) vwCl (wt O) s) (hP : va_P (wD O) vwCl (wd O M) H) (hk : k < wn O) {fs : List Value} (he : wE O k (M k) = .inr (ci, fs)) (hc : vwCl[ci]? = some (C, T, N)) (r : Nat) (hr : r < N) (hlink : (Cond.fieldLink own index ref (T r).2.1 (T r).2.2.1).before args s = true) (hsame : ∀ x, s.fieldFound? (T r).1 (T r).2.1 (T r).2.2.1 = some x → s.fieldFound? ref (T r).2.1 (T r).2.2.1 = some x) {v : Value} (hv : fs[r]? = some v) (hdg : decode cc pc = .ok (.getfield index, 3))
    (kk : W p l e R s m args below meth c H locs cells slots Q (F0 m (pc + 3) ls (v :: rest))) : W p l e R s m args below meth c H locs cells slots Q (F0 m pc ls (.ref (wa O k) :: rest)) :=
  va_get (D := wD O) (ci := ci) (v := v) (C := C) (T := T) (N := N) hx hb hts hin hown hK hP k (by rw [wd_at hk, he]) hc r hr hlink hsame hv hdg kk
theorem wd_put (hj : wj O) (hx : p.tables.exec = Jvm.exec) (hb : c.code = cc) {own ref C : String} {T : u_T} {N ci index k : Nat} {Ts : List Cond} (hts : ∀ w ∈ Ts, w.before args s = true) (hin : ∀ w ∈ u_ws C T N, w ∈ Ts) (ty0 : Nat → FieldType) (hty : ∀ k, k < N → parseFieldDescriptor (T k).2.2.1 = some (ty0 k)) (hnm : ∀ a, a < N → ∀ b, b < N → a ≠ b → (T a).2.1 ≠ (T b).2.1) (hown : s.vm.findClass own = some m.cls) (hK : va_K (wD O) vwCl (wt O) s) (hP : va_P (wD O) vwCl (wd O M) H) (hS : va_S (wA O s.heap.size) s.heap H locs) (hk : k < wn O) {fs : List Value} (he : wE O k (M k) = .inr (ci, fs)) (hc : vwCl[ci]? = some (C, T, N)) (r : Nat) (hr : r < N) (hlink : (Cond.fieldLink own index ref (T r).2.1 (T r).2.2.1).before args s = true) (hsame : ∀ x, s.fieldFound? (T r).1 (T r).2.1 (T r).2.2.1 = some x → s.fieldFound? ref (T r).2.1 (T r).2.2.1 = some x) (hfin : (T r).2.2.2 = false) {ty : FieldType} {v : Int32} (hd : parseFieldDescriptor (T r).2.2.1 = some ty) (hn : narrow ty (.int v) = .int v) (hfit : fits ty (.int v) = true) (hl : r < fs.length)
    (hset : wE O k (upd (M k) r v) = .inr (ci, fs.set r (.int v))) (hdg : decode cc pc = .ok (.putfield index, 3))
    (kk : ∀ (H1 : Heap) (locs1 : List Loc), va_P (wD O) vwCl (wd O (up M k r v)) H1 → va_S (wA O s.heap.size) s.heap H1 locs1 → W p l e R s m args below meth c H1 locs1 cells slots Q (F0 m (pc + 3) ls rest)) : W p l e R s m args below meth c H locs cells slots Q (F0 m pc ls (.int v :: .ref (wa O k) :: rest)) := by
  refine va_put (D := wD O) (ci := ci) (v := .int v) (ty := ty) (C := C) (T := T) (N := N) hx hb hts hin ty0 hty hnm hown hK hP (wd_D hj M _) hS k (by rw [wd_at hk, he]) hc r hr hlink hsame hfin hd hn hfit hl hdg (fun H1 locs1 hP1 _ hS1 => kk H1 locs1 ?_ hS1)
  rw [wd_set hk hset.symm] at hP1
  exact hP1
theorem wd_iald (hx : p.tables.exec = Jvm.exec) (hb : c.code = cc) (hK : va_K (wD O) vwCl (wt O) s) (hP : va_P (wD O) vwCl (wd O M) H) {k i N : Nat} {x : Int32} (hk : k < wn O) (t0 : Nat) {cA : ClassId} (he : wE O k (M k) = .inl (cA, N, .inl (M k))) (ht : (wt O)[t0]? = some (cA, .int)) (hxi : x = nI i) (hi : i < N) (hN : N < 2 ^ 31) (hdg : decode cc pc = .ok (.iaload, 1))
    (kk : W p l e R s m args below meth c H locs cells slots Q (F0 m (pc + 1) ls (.int (M k i) :: rest))) : W p l e R s m args below meth c H locs cells slots Q (F0 m pc ls (.int x :: .ref (wa O k) :: rest)) := by
  subst hxi
  refine va_iald hx hb hK hP k t0 (by rw [wd_at hk, he]) ht (vp_in_nI hi hN) hdg ?_
  rw [nI_clamp (Nat.lt_trans hi hN)]
  exact kk
theorem wd_iast (hj : wj O) (hx : p.tables.exec = Jvm.exec) (hb : c.code = cc) (hK : va_K (wD O) vwCl (wt O) s) (hP : va_P (wD O) vwCl (wd O M) H) (hS : va_S (wA O s.heap.size) s.heap H locs) {k i N : Nat} {x v : Int32} (hk : k < wn O) (t0 : Nat) {cA : ClassId} (he : ∀ g, wE O k g = .inl (cA, N, .inl g)) (ht : (wt O)[t0]? = some (cA, .int)) (hxi : x = nI i) (hi : i < N) (hN : N < 2 ^ 31) (hdg : decode cc pc = .ok (.iastore, 1))
    (kk : ∀ (H1 : Heap) (locs1 : List Loc), va_P (wD O) vwCl (wd O (up M k i v)) H1 → va_S (wA O s.heap.size) s.heap H1 locs1 → W p l e R s m args below meth c H1 locs1 cells slots Q (F0 m (pc + 1) ls rest)) : W p l e R s m args below meth c H locs cells slots Q (F0 m pc ls (.int v :: .int x :: .ref (wa O k) :: rest)) := by
  subst hxi
  refine va_iast hx hb hK hP (wd_D hj M _) hS k t0 (by rw [wd_at hk, he]) ht (vp_in_nI hi hN) hdg (fun H1 locs1 hP1 _ hS1 => kk H1 locs1 ?_ hS1)
  rw [nI_clamp (Nat.lt_trans hi hN), wd_set hk (he _).symm] at hP1
  exact hP1
theorem wd_zald (hx : p.tables.exec = Jvm.exec) (hb : c.code = cc) (hK : va_K (wD O) vwCl (wt O) s) (hP : va_P (wD O) vwCl (wd O M) H) {k i N : Nat} {x : Int32} (hk : k < wn O) (t0 : Nat) {cA : ClassId} (he : wE O k (M k) = .inl (cA, N, .inl (M k))) (ht : (wt O)[t0]? = some (cA, .boolean)) (hxi : x = nI i) (hi : i < N) (hN : N < 2 ^ 31) (hdg : decode cc pc = .ok (.baload, 1))
    (kk : W p l e R s m args below meth c H locs cells slots Q (F0 m (pc + 1) ls (.int (M k i) :: rest))) : W p l e R s m args below meth c H locs cells slots Q (F0 m pc ls (.int x :: .ref (wa O k) :: rest)) := by
  subst hxi
  refine va_zald hx hb hK hP k t0 (by rw [wd_at hk, he]) ht (vp_in_nI hi hN) hdg ?_
  rw [nI_clamp (Nat.lt_trans hi hN)]
  exact kk
theorem wd_zast (hj : wj O) (hx : p.tables.exec = Jvm.exec) (hb : c.code = cc) (hK : va_K (wD O) vwCl (wt O) s) (hP : va_P (wD O) vwCl (wd O M) H) (hS : va_S (wA O s.heap.size) s.heap H locs) {k i N : Nat} {x v : Int32} (hk : k < wn O) (t0 : Nat) {cA : ClassId} (he : ∀ g, wE O k g = .inl (cA, N, .inl g)) (ht : (wt O)[t0]? = some (cA, .boolean)) (hxi : x = nI i) (hi : i < N) (hN : N < 2 ^ 31) (hv : vp_nar .boolean v = v) (hdg : decode cc pc = .ok (.bastore, 1))
    (kk : ∀ (H1 : Heap) (locs1 : List Loc), va_P (wD O) vwCl (wd O (up M k i v)) H1 → va_S (wA O s.heap.size) s.heap H1 locs1 → W p l e R s m args below meth c H1 locs1 cells slots Q (F0 m (pc + 1) ls rest)) : W p l e R s m args below meth c H locs cells slots Q (F0 m pc ls (.int v :: .int x :: .ref (wa O k) :: rest)) := by
  subst hxi
  refine va_zast hx hb hK hP (wd_D hj M _) hS k t0 (by rw [wd_at hk, he]) ht (vp_in_nI hi hN) hdg (fun H1 locs1 hP1 _ hS1 => kk H1 locs1 ?_ hS1)
  rw [nI_clamp (Nat.lt_trans hi hN), hv, wd_set hk (he _).symm] at hP1
  exact hP1
theorem wd_aald (hx : p.tables.exec = Jvm.exec) (hb : c.code = cc) (hK : va_K (wD O) vwCl (wt O) s) (hP : va_P (wD O) vwCl (wd O M) H) {k i N b : Nat} {x : Int32} (hk : k < wn O) (t0 : Nat) {cA : ClassId} {C : String} {F : Nat → Option Nat} (he : wE O k (M k) = .inl (cA, N, .inr (.inr (.inr (.inr F))))) (ht : (wt O)[t0]? = some (cA, .object C)) (hxi : x = nI i) (hi : i < N) (hN : N < 2 ^ 31) (hF : F i = some b) (hdg : decode cc pc = .ok (.aaload, 1))
    (kk : W p l e R s m args below meth c H locs cells slots Q (F0 m (pc + 1) ls (.ref b :: rest))) : W p l e R s m args below meth c H locs cells slots Q (F0 m pc ls (.int x :: .ref (wa O k) :: rest)) := by
  subst hxi
  refine va_aldq hx hb hK hP k t0 (by rw [wd_at hk, he]) ht (vp_in_nI hi hN) hdg ?_
  rw [nI_clamp (Nat.lt_trans hi hN), hF]
  exact kk
theorem wd_alen (hx : p.tables.exec = Jvm.exec) (hb : c.code = cc) (hK : va_K (wD O) vwCl (wt O) s) (hP : va_P (wD O) vwCl (wd O M) H) {k : Nat} (hk : k < wn O) (t0 : Nat) {cA : ClassId} {a : vp_A} {ty : FieldType} (he : wE O k (M k) = .inl (cA, a)) (ht : (wt O)[t0]? = some (cA, ty)) {v : Int32} (hv : Int32.ofNat a.1 = v) (hdg : decode cc pc = .ok (.arraylength, 1))
    (kk : W p l e R s m args below meth c H locs cells slots Q (F0 m (pc + 1) ls (.int v :: rest))) : W p l e R s m args below meth c H locs cells slots Q (F0 m pc ls (.ref (wa O k) :: rest)) :=
  va_alen hx hb hK hP k t0 (by rw [wd_at hk, he]) ht hv hdg kk
/-- another word for the number on top -/
theorem wd_re {x y : Int32} (h : x = y) (k : W p l e R s m args below meth c H locs cells slots Q (F0 m pc ls (.int y :: rest))) : W p l e R s m args below meth c H locs cells slots Q (F0 m pc ls (.int x :: rest)) := h ▸ k
/-- ends -/
theorem wd_iret (hx : p.tables.exec = Jvm.exec) (hb : c.code = cc) {ty : FieldType} (hr : meth.sig.returnType = some ty) (hlocks : meth.locks = false) (hK : va_K (wD O) vwCl (wt O) s) (hP : va_P (wD O) vwCl (wd O M) H) (hS : va_S (wA O s.heap.size) s.heap H locs) {v v' : Int32} {M' : Mem} (hn : narrow ty (.int v) = .int v) (hdg : decode cc pc = .ok (.ireturn, 1)) (hv : v = v') (hM : M = M') :
    W p l e R s m args below meth c H locs cells slots (MQ below (wQi O s.heap.size v' M') args s cells slots (wA O s.heap.size)) (F0 m pc ls [.int v]) := by
  subst hv; subst hM
  exact W.zret (ty := ty) hx hb hr hn (fun t ht hW => ⟨⟨v, (), rfl, rfl, by rw [ht]; exact hP, va_K.moved hW.alike hK⟩, hS.F ht⟩) hS.2.2 hdg hlocks
theorem wd_vret (hx : p.tables.exec = Jvm.exec) (hb : c.code = cc) (hr : meth.sig.returnType = none) (hlocks : meth.locks = false) (hK : va_K (wD O) vwCl (wt O) s) (hP : va_P (wD O) vwCl (wd O M) H) (hS : va_S (wA O s.heap.size) s.heap H locs) {M' : Mem} (hdg : decode cc pc = .ok (.return_, 1)) (hM : M = M') :
    W p l e R s m args below meth c H locs cells slots (MQ below (wQv O s.heap.size M') args s cells slots (wA O s.heap.size)) (F0 m pc ls []) := by
  subst hM
  exact W.vret hx hb hr (fun t ht hW => ⟨⟨(), rfl, trivial, by rw [ht]; exact hP, va_K.moved hW.alike hK⟩, hS.F ht⟩) hS.2.2 hdg hlocks
theorem wd_aret (hx : p.tables.exec = Jvm.exec) (hb : c.code = cc) {C : String} (hr : meth.sig.returnType = some (.object C)) (hlocks : meth.locks = false) (hK : va_K (wD O) vwCl (wt O) s) (hP : va_P (wD O) vwCl (wd O M) H) (hS : va_S (wA O s.heap.size) s.heap H locs) {v : Value} {v' : Option Nat} {M' : Mem} (hdg : decode cc pc = .ok (.areturn, 1)) (hv : v = va_rf v') (hM : M = M') :
    W p l e R s m args below meth c H locs cells slots (MQ below (wQq O s.heap.size v' M') args s cells slots (wA O s.heap.size)) (F0 m pc ls [v]) := by
  subst hM; subst hv
  refine W.aret hx hb hr (Or.inl ⟨C, rfl⟩) ?_ (fun t ht hW => ⟨⟨v', (), rfl, rfl, by rw [ht]; exact hP, va_K.moved hW.alike hK⟩, hS.F ht⟩) hS.2.2 hdg hlocks
  cases v' with
  | none => exact Or.inl rfl
  | some a => exact Or.inr ⟨a, rfl⟩
/-- calls of a method whose world is the caller's -/
theorem wd_pre {C : String} {T : u_T} {N ci k : Nat} {fs : List Value} {As : List Value} (hK : va_K (wD O) vwCl (wt O) s) (hP : va_P (wD O) vwCl (wd O M) H) (hk : k < wn O) (he : wE O k (M k) = .inr (ci, fs)) (hc : vwCl[ci]? = some (C, T, N)) : PreV s H C (wa O k) (va_Pc (.ref (wa O k) :: As) (wp O H.size M)) As :=
  ⟨wp_blind, va_recv hK hP hc (q0 := k) (by rw [wd_at hk, he]), fun U hU hW => ⟨rfl, by rw [hU], by rw [hU]; exact hP, va_K.moved hW.alike hK⟩⟩
theorem wd_preS {As : List Value} (hK : va_K (wD O) vwCl (wt O) s) (hP : va_P (wD O) vwCl (wd O M) H) : PreS s H (va_Pc As (wp O H.size M)) As :=
  ⟨wp_blind, fun U hU hW => ⟨rfl, by rw [hU], by rw [hU]; exact hP, va_K.moved hW.alike hK⟩⟩
theorem wd_sub {q : Nat} (hS : va_S (wA O s.heap.size) s.heap H locs) (h : wA O H.size q) : wA O s.heap.size q := wA_up hS.1 h
variable {st0 : List Value} {mc ms : Nat} {a : Array Value}
theorem wd_ci {v : Int32} {M' : Mem} (hS : va_S (wA O s.heap.size) s.heap H locs) (hr : va_Run p l e R s m args below meth c H locs cells slots mc ms (F0 m pc ls st0) rest (wQi O H.size v M' a) (wA O H.size))
    (kk : ∀ (H1 : Heap) (locs1 : List Loc), va_P (wD O) vwCl (wd O M') H1 → va_S (wA O s.heap.size) s.heap H1 locs1 → W p l e R s m args below meth c H1 locs1 (cells + mc) (slots + ms) Q (F0 m (pc + 3) ls (.int v :: rest))) : W p l e R s m args below meth c H locs cells slots Q (F0 m pc ls st0) := by
  refine va_calli hr hS (fun q _ h => wd_sub hS h) (fun q h => wd_sub hS h) (fun r u t H1 locs1 ht hvm hw hB hz1 hk1 hS1 => ?_)
  obtain ⟨hP1, -⟩ := hB
  rw [ht] at hP1
  subst hw
  exact kk H1 locs1 hP1 hS1
theorem wd_cv {M' : Mem} (hS : va_S (wA O s.heap.size) s.heap H locs) (hr : va_Run p l e R s m args below meth c H locs cells slots mc ms (F0 m pc ls st0) rest (wQv O H.size M' a) (wA O H.size))
    (kk : ∀ (H1 : Heap) (locs1 : List Loc), va_P (wD O) vwCl (wd O M') H1 → va_S (wA O s.heap.size) s.heap H1 locs1 → W p l e R s m args below meth c H1 locs1 (cells + mc) (slots + ms) Q (F0 m (pc + 3) ls rest)) : W p l e R s m args below meth c H locs cells slots Q (F0 m pc ls st0) := by
  refine va_callv hr hS (fun q _ h => wd_sub hS h) (fun q h => wd_sub hS h) (fun u t H1 locs1 ht hvm hw hB hz1 hk1 hS1 => ?_)
  obtain ⟨hP1, -⟩ := hB
  rw [ht] at hP1
  exact kk H1 locs1 hP1 hS1
theorem wd_cq {v : Option Nat} {M' : Mem} (hS : va_S (wA O s.heap.size) s.heap H locs) (hr : va_Run p l e R s m args below meth c H locs cells slots mc ms (F0 m pc ls st0) rest (wQq O H.size v M' a) (wA O H.size))
    (kk : ∀ (H1 : Heap) (locs1 : List Loc), va_P (wD O) vwCl (wd O M') H1 → va_S (wA O s.heap.size) s.heap H1 locs1 → W p l e R s m args below meth c H1 locs1 (cells + mc) (slots + ms) Q (F0 m (pc + 3) ls (va_rf v :: rest))) : W p l e R s m args below meth c H locs cells slots Q (F0 m pc ls st0) := by
  refine va_callq hr hS (fun q _ h => wd_sub hS h) (fun q h => wd_sub hS h) (fun r u t H1 locs1 ht hvm hw hB hz1 hk1 hS1 => ?_)
  obtain ⟨hP1, -⟩ := hB
  rw [ht] at hP1
  subst hw
  exact kk H1 locs1 hP1 hS1
theorem wd_cqs {b : Nat} {M' : Mem} (hS : va_S (wA O s.heap.size) s.heap H locs) (hr : va_Run p l e R s m args below meth c H locs cells slots mc ms (F0 m pc ls st0) rest (wQq O H.size (some b) M' a) (wA O H.size))
    (kk : ∀ (H1 : Heap) (locs1 : List Loc), va_P (wD O) vwCl (wd O M') H1 → va_S (wA O s.heap.size) s.heap H1 locs1 → W p l e R s m args below meth c H1 locs1 (cells + mc) (slots + ms) Q (F0 m (pc + 3) ls (.ref b :: rest))) : W p l e R s m args below meth c H locs cells slots Q (F0 m pc ls st0) := wd_cq hS hr kk
theorem wd_cqn {M' : Mem} (hS : va_S (wA O s.heap.size) s.heap H locs) (hr : va_Run p l e R s m args below meth c H locs cells slots mc ms (F0 m pc ls st0) rest (wQq O H.size none M' a) (wA O H.size))
    (kk : ∀ (H1 : Heap) (locs1 : List Loc), va_P (wD O) vwCl (wd O M') H1 → va_S (wA O s.heap.size) s.heap H1 locs1 → W p l e R s m args below meth c H1 locs1 (cells + mc) (slots + ms) Q (F0 m (pc + 3) ls (.null :: rest))) : W p l e R s m args below meth c H locs cells slots Q (F0 m pc ls st0) := wd_cq hS hr kk
/-- a loop: k turns are left; j, N, v are its state -/
theorem wl_loop (I : Nat → Nat → Mem → Int32 → Array Slot → Heap → List Loc → Prop)
    (h0 : ∀ (j : Nat) (N : Mem) (v : Int32) (ls : Array Slot) (H : Heap) (locs : List Loc), I 0 j N v ls H locs → W p l e R s m args below meth c H locs cells slots Q (F0 m pc ls rest))
    (hs : ∀ (k j : Nat) (N : Mem) (v : Int32) (ls : Array Slot) (H : Heap) (locs : List Loc), (∀ (j : Nat) (N : Mem) (v : Int32) (ls : Array Slot) (H : Heap) (locs : List Loc), I k j N v ls H locs → W p l e R s m args below meth c H locs cells slots Q (F0 m pc ls rest)) → I (k + 1) j N v ls H locs → W p l e R s m args below meth c H locs cells slots Q (F0 m pc ls rest))
    (k j : Nat) (N : Mem) (v : Int32) (hi : I k j N v ls H locs) : W p l e R s m args below meth c H locs cells slots Q (F0 m pc ls rest) := by
  have key : ∀ (k j : Nat) (N : Mem) (v : Int32) (ls : Array Slot) (H : Heap) (locs : List Loc), I k j N v ls H locs → W p l e R s m args below meth c H locs cells slots Q (F0 m pc ls rest) := by
    intro k
    induction k with
    | zero => exact h0
    | succ k ih => exact fun j N v ls H locs h => hs k j N v ls H locs ih h
  exact key k j N v ls H locs hi
end WR
end
section
/-! THE DESK's world: 0 the desk, 1 its sessions, 2 its locks, 3 .. 8 the sessions, 9 .. 12 the locks, 13 .. 16 their rows, 17 .. 20 the rows' slots, 21 .. 24 the rows' terms -/
abbrev DG : Type := va_G × (ClassId × ClassId × ClassId) × (Nat → Nat)
def dkE (cI cS cL : ClassId) (ad : Nat → Nat) (k : Nat) (g : Nat → Int32) : va_E :=
  if k = 0 then .inr (3, [.ref (ad 1), .ref (ad 2), .int (g 2)])
  else if k = 1 then .inl (cS, 6, .inr (.inr (.inr (.inr (fun i => if i < 6 then some (ad (3 + i)) else none)))))
  else if k = 2 then .inl (cL, 4, .inr (.inr (.inr (.inr (fun i => if i < 4 then some (ad (9 + i)) else none)))))
  else if k < 9 then .inr (2, [.int (g 0), .int (g 1), .int (g 2), .int (g 3)])
  else if k < 13 then .inr (0, [.ref (ad (k + 4)), .int (g 1), .int (g 2), .int (g 3), .int (g 4), .int (g 5), .int (g 6), .int (g 7)])
  else if k < 17 then .inr (1, [.ref (ad (k + 4)), .ref (ad (k + 8)), .int (g 2)])
  else .inl (cI, 6, .inl g)
def dkO (G : DG) : WS := (G.1, 25, G.2.2, dkE G.2.1.1 G.2.1.2.1 G.2.1.2.2 G.2.2, [(G.2.1.1, .int), (G.2.1.2.1, .object RX2), (G.2.1.2.2, .object RX0)])
theorem dk_lt {G : DG} {k : Nat} (h : k < 25) : k < wn (dkO G) := h
theorem dE_0 {G : DG} {g : Nat → Int32} : wE (dkO G) 0 g = .inr (3, [.ref (wa (dkO G) 1), .ref (wa (dkO G) 2), .int (g 2)]) := rfl
theorem dE_1 {G : DG} {g : Nat → Int32} : wE (dkO G) 1 g = .inl (G.2.1.2.1, 6, .inr (.inr (.inr (.inr (fun i => if i < 6 then some (wa (dkO G) (3 + i)) else none))))) := rfl
theorem dE_2 {G : DG} {g : Nat → Int32} : wE (dkO G) 2 g = .inl (G.2.1.2.2, 4, .inr (.inr (.inr (.inr (fun i => if i < 4 then some (wa (dkO G) (9 + i)) else none))))) := rfl
theorem dE_ses {G : DG} {g : Nat → Int32} {i : Nat} (h : i < 6) : wE (dkO G) (3 + i) g = .inr (2, [.int (g 0), .int (g 1), .int (g 2), .int (g 3)]) := by
  show dkE _ _ _ _ _ _ = _
  unfold dkE
  rw [if_neg (by omega), if_neg (by omega), if_neg (by omega), if_pos (by omega)]
theorem dE_lock {G : DG} {g : Nat → Int32} {i : Nat} (h : i < 4) : wE (dkO G) (9 + i) g = .inr (0, [.ref (wa (dkO G) (13 + i)), .int (g 1), .int (g 2), .int (g 3), .int (g 4), .int (g 5), .int (g 6), .int (g 7)]) := by
  show dkE _ _ _ _ _ _ = _
  unfold dkE
  rw [if_neg (by omega), if_neg (by omega), if_neg (by omega), if_neg (by omega), if_pos (by omega), show 9 + i + 4 = 13 + i by omega]
  rfl
theorem dE_row {G : DG} {g : Nat → Int32} {i : Nat} (h : i < 4) : wE (dkO G) (13 + i) g = .inr (1, [.ref (wa (dkO G) (17 + i)), .ref (wa (dkO G) (21 + i)), .int (g 2)]) := by
  show dkE _ _ _ _ _ _ = _
  unfold dkE
  rw [if_neg (by omega), if_neg (by omega), if_neg (by omega), if_neg (by omega), if_neg (by omega), if_pos (by omega), show 13 + i + 4 = 17 + i by omega, show 13 + i + 8 = 21 + i by omega]
  rfl
theorem dE_sl {G : DG} {i : Nat} (h : i < 4) (g : Nat → Int32) : wE (dkO G) (17 + i) g = .inl (G.2.1.1, 6, .inl g) := by
  show dkE _ _ _ _ _ _ = _
  unfold dkE
  rw [if_neg (by omega), if_neg (by omega), if_neg (by omega), if_neg (by omega), if_neg (by omega), if_neg (by omega)]
theorem dE_tm {G : DG} {i : Nat} (h : i < 4) (g : Nat → Int32) : wE (dkO G) (21 + i) g = .inl (G.2.1.1, 6, .inl g) := by
  show dkE _ _ _ _ _ _ = _
  unfold dkE
  rw [if_neg (by omega), if_neg (by omega), if_neg (by omega), if_neg (by omega), if_neg (by omega), if_neg (by omega)]
/-! THE REFERENCE's world: 0 the object, 1 .. 13 its arrays: there, signed, rates, clocks, has, tokens, ends, terms, starts, wishes, wished, greatest, values -/
abbrev MG : Type := va_G × (ClassId × ClassId) × (Nat → Nat)
def mdL (k : Nat) : Nat := if k < 5 then 6 else if k = 10 then 24 else if k = 11 then 24 else 4
def mdE (cI cZ : ClassId) (ad : Nat → Nat) (k : Nat) (g : Nat → Int32) : va_E :=
  if k = 0 then .inr (4, [.int (g 0), .int (g 1), .int (g 2), .ref (ad 1), .ref (ad 2), .ref (ad 3), .ref (ad 4), .ref (ad 5), .ref (ad 6), .ref (ad 7), .ref (ad 8), .ref (ad 9), .ref (ad 10), .ref (ad 11), .ref (ad 12), .ref (ad 13)])
  else if k = 1 then .inl (cZ, 6, .inl g)
  else .inl (cI, mdL k, .inl g)
def mdO (G : MG) : WS := (G.1, 14, G.2.2, mdE G.2.1.1 G.2.1.2 G.2.2, [(G.2.1.1, .int), (G.2.1.2, .boolean)])
theorem md_lt {G : MG} {k : Nat} (h : k < 14) : k < wn (mdO G) := h
theorem mE_0 {G : MG} {g : Nat → Int32} : wE (mdO G) 0 g = .inr (4, [.int (g 0), .int (g 1), .int (g 2), .ref (wa (mdO G) 1), .ref (wa (mdO G) 2), .ref (wa (mdO G) 3), .ref (wa (mdO G) 4), .ref (wa (mdO G) 5), .ref (wa (mdO G) 6), .ref (wa (mdO G) 7), .ref (wa (mdO G) 8), .ref (wa (mdO G) 9), .ref (wa (mdO G) 10), .ref (wa (mdO G) 11), .ref (wa (mdO G) 12), .ref (wa (mdO G) 13)]) := rfl
theorem mE_z {G : MG} (g : Nat → Int32) : wE (mdO G) 1 g = .inl (G.2.1.2, 6, .inl g) := rfl
theorem mE_2 {G : MG} (g : Nat → Int32) : wE (mdO G) 2 g = .inl (G.2.1.1, 6, .inl g) := rfl
theorem mE_3 {G : MG} (g : Nat → Int32) : wE (mdO G) 3 g = .inl (G.2.1.1, 6, .inl g) := rfl
theorem mE_4 {G : MG} (g : Nat → Int32) : wE (mdO G) 4 g = .inl (G.2.1.1, 6, .inl g) := rfl
theorem mE_5 {G : MG} (g : Nat → Int32) : wE (mdO G) 5 g = .inl (G.2.1.1, 4, .inl g) := rfl
theorem mE_6 {G : MG} (g : Nat → Int32) : wE (mdO G) 6 g = .inl (G.2.1.1, 4, .inl g) := rfl
theorem mE_7 {G : MG} (g : Nat → Int32) : wE (mdO G) 7 g = .inl (G.2.1.1, 4, .inl g) := rfl
theorem mE_8 {G : MG} (g : Nat → Int32) : wE (mdO G) 8 g = .inl (G.2.1.1, 4, .inl g) := rfl
theorem mE_9 {G : MG} (g : Nat → Int32) : wE (mdO G) 9 g = .inl (G.2.1.1, 4, .inl g) := rfl
theorem mE_10 {G : MG} (g : Nat → Int32) : wE (mdO G) 10 g = .inl (G.2.1.1, 24, .inl g) := rfl
theorem mE_11 {G : MG} (g : Nat → Int32) : wE (mdO G) 11 g = .inl (G.2.1.1, 24, .inl g) := rfl
theorem mE_12 {G : MG} (g : Nat → Int32) : wE (mdO G) 12 g = .inl (G.2.1.1, 4, .inl g) := rfl
theorem mE_13 {G : MG} (g : Nat → Int32) : wE (mdO G) 13 g = .inl (G.2.1.1, 4, .inl g) := rfl
/-! a number as an index below n -/
def dN (x : Int32) (n : Nat) : Option Nat := if x < 0 then none else if nI n ≤ x then none else some x.toNatClampNeg
theorem dN_some {x : Int32} {n j : Nat} (hn : n < 2 ^ 31) (h : dN x n = some j) : j < n ∧ x = nI j := by
  unfold dN at h
  by_cases h0 : x < 0
  · rw [if_pos h0] at h; cases h
  · rw [if_neg h0] at h
    by_cases h1 : nI n ≤ x
    · rw [if_pos h1] at h; cases h
    · rw [if_neg h1] at h
      cases h
      rcases pk_ix x hn with h2 | h2 | ⟨j, hj, rfl⟩
      · exact absurd h2 h0
      · exact absurd h2 h1
      · rw [nI_clamp (by omega)]; exact ⟨hj, rfl⟩
theorem dN_none {x : Int32} {n : Nat} (h : dN x n = none) (h0 : ¬ x < 0) : nI n ≤ x := by
  unfold dN at h
  rw [if_neg h0] at h
  by_cases h1 : nI n ≤ x
  · exact h1
  · rw [if_neg h1] at h; cases h
theorem dN_nI {n j : Nat} (hn : n < 2 ^ 31) (h : j < n) : dN (nI j) n = some j := by
  unfold dN
  rw [if_neg (nI_pos (by omega)), if_neg (nI_ge h hn), nI_clamp (by omega)]
end
section
/-! WHAT THE DESK's METHODS DO, over the memory -/
/-- the length of lock i's row -/
def rn (M : Mem) (i : Nat) : Nat := (M (13 + i) 2).toNatClampNeg
/-- the rows' lengths are 0 .. 6 -/
def dk_ok (M : Mem) : Prop := ∀ i, i < 4 → rn M i ≤ 6 ∧ M (13 + i) 2 = nI (rn M i)
theorem ok_up {M : Mem} {k r : Nat} {v : Int32} (h : dk_ok M) (hk : k < 13 ∨ 17 ≤ k) : dk_ok (up M k r v) := by
  intro i hi
  have e : up M k r v (13 + i) = M (13 + i) := up_n (by omega)
  unfold rn
  rw [e]
  exact h i hi
theorem rn_up {M : Mem} {k r i : Nat} {v : Int32} (hk : 13 + i ≠ k) : rn (up M k r v) i = rn M i := by
  unfold rn
  rw [up_n hk]
theorem ok_len {M : Mem} {i n : Nat} (h : dk_ok M) (hn : n ≤ 6) : dk_ok (up M (13 + i) 2 (nI n)) := by
  intro j hj
  by_cases e : 13 + j = 13 + i
  · have e2 : j = i := by omega
    subst e2
    unfold rn
    rw [up_s, nI_clamp (by omega)]
    exact ⟨hn, rfl⟩
  · have e1 : up M (13 + i) 2 (nI n) (13 + j) = M (13 + j) := up_n e
    unfold rn
    rw [e1]
    exact h j hj
/-- the first place from j on, of k, that holds x -/
def pl (g : Nat → Int32) (x : Int32) : Nat → Nat → Option Nat
  | 0, _ => none
  | k + 1, j => if g j = x then some j else pl g x k (j + 1)
theorem pl_some {g : Nat → Int32} {x : Int32} : ∀ {k j a : Nat}, pl g x k j = some a → j ≤ a ∧ a < j + k ∧ g a = x ∧ ∀ b, j ≤ b → b < a → g b ≠ x
  | 0, j, a, h => by cases h
  | k + 1, j, a, h => by
    unfold pl at h
    by_cases e : g j = x
    · rw [if_pos e] at h
      cases h
      exact ⟨Nat.le_refl _, by omega, e, fun b h1 h2 => by omega⟩
    · rw [if_neg e] at h
      obtain ⟨h1, h2, h3, h4⟩ := pl_some h
      refine ⟨by omega, by omega, h3, fun b h5 h6 => ?_⟩
      by_cases e2 : b = j
      · rw [e2]; exact e
      · exact h4 b (by omega) h6
theorem pl_none {g : Nat → Int32} {x : Int32} : ∀ {k j : Nat}, pl g x k j = none → ∀ b, j ≤ b → b < j + k → g b ≠ x
  | 0, j, h => fun b h1 h2 => by omega
  | k + 1, j, h => by
    unfold pl at h
    by_cases e : g j = x
    · rw [if_pos e] at h
      cases h
    · rw [if_neg e] at h
      intro b h1 h2
      by_cases e2 : b = j
      · rw [e2]; exact e
      · exact pl_none h b (by omega) (by omega)
theorem op_cases (o : Option Nat) : o = none ∨ ∃ j, o = some j := by
  cases o with
  | none => exact Or.inl rfl
  | some j => exact Or.inr ⟨j, rfl⟩
def oI : Option Nat → Int32
  | none => -1
  | some j => nI j
theorem nI_ne {j : Nat} (h : j < 2 ^ 31) : nI j ≠ -1 := by
  intro e
  have := nI_pos' h
  rw [e] at this
  exact absurd this (by decide)
def tkv : Option Nat → Int32
  | none => 0
  | some _ => 1
def slA (M : Mem) (i : Nat) (x : Int32) : Int32 := match dN x (rn M i) with
  | none => -1
  | some j => M (17 + i) j
def tmA (M : Mem) (i : Nat) (x : Int32) : Int32 := match dN x (rn M i) with
  | none => 0
  | some j => M (21 + i) j
/-- k places from j on move up by one -/
def shf (i : Nat) : Nat → Nat → Mem → Mem
  | 0, _, M => M
  | k + 1, j, M => shf i k (j + 1) (up (up M (17 + i) j (M (17 + i) (j + 1))) (21 + i) j ((up M (17 + i) j (M (17 + i) (j + 1))) (21 + i) (j + 1)))
theorem shf_len (i : Nat) : ∀ (k j : Nat) (M : Mem) (a : Nat), a < 17 → shf i k j M a = M a
  | 0, j, M, a, h => rfl
  | k + 1, j, M, a, h => by
    unfold shf
    rw [shf_len i k (j + 1) _ a h, up_n (by omega), up_n (by omega)]
theorem ok_shf {M : Mem} {i k j : Nat} (h : dk_ok M) : dk_ok (shf i k j M) := by
  intro a ha
  unfold rn
  rw [shf_len i k j M (13 + a) (by omega)]
  exact h a ha
def drp (M : Mem) (i : Nat) (x : Int32) : Mem := match pl (M (17 + i)) x (rn M i) 0 with
  | none => M
  | some j => shf i (rn M i - 1 - j) j (up M (13 + i) 2 (nI (rn M i - 1)))
def drv (M : Mem) (i : Nat) (x : Int32) : Int32 := match pl (M (17 + i)) x (rn M i) 0 with
  | none => 0
  | some _ => 1
theorem ok_drp {M : Mem} {i : Nat} {x : Int32} (h : dk_ok M) (hi : i < 4) : dk_ok (drp M i x) := by
  unfold drp
  cases pl (M (17 + i)) x (rn M i) 0 with
  | none => exact h
  | some j => exact ok_shf (ok_len h (by have := (h i hi).1; omega))
def askM (M : Mem) (i : Nat) (x t : Int32) : Mem := match pl (M (17 + i)) x (rn M i) 0 with
  | some j => up M (21 + i) j t
  | none => if 6 ≤ nI (rn M i) then M else up (up (up M (17 + i) (rn M i) x) (21 + i) (rn M i) t) (13 + i) 2 (nI (rn M i + 1))
theorem ok_ask {M : Mem} {i : Nat} {x t : Int32} (h : dk_ok M) (hi : i < 4) : dk_ok (askM M i x t) := by
  unfold askM
  cases pl (M (17 + i)) x (rn M i) 0 with
  | some j => exact ok_up h (by omega)
  | none =>
    dsimp only
    by_cases e : 6 ≤ nI (rn M i)
    · rw [if_pos e]; exact h
    · rw [if_neg e]
      have h6 := (h i hi).1
      have : rn M i ≠ 6 := fun e2 => e (by rw [e2]; decide)
      exact ok_len (ok_up (ok_up h (by omega)) (by omega)) (by omega)
def freV (M : Mem) (i : Nat) : Int32 := if M (9 + i) 1 = -1 then 1 else 0
def rfM (M : Mem) (i : Nat) (now term clk : Int32) : Mem := up (up (up M (9 + i) 3 (now + term)) (9 + i) 4 term) (9 + i) 5 clk
def lnM (M : Mem) (i : Nat) (x term now clk : Int32) : Mem := rfM (up (up M (9 + i) 1 x) (9 + i) 2 ((up M (9 + i) 1 x) (9 + i) 2 + 1)) i now term clk
def rwM (M : Mem) (i : Nat) (term now clk : Int32) : Mem := if now + term ≤ M (9 + i) 3 then M else rfM M i now term clk
theorem ok_rf {M : Mem} {i : Nat} {a b c : Int32} (h : dk_ok M) (hi : i < 4) : dk_ok (rfM M i a b c) := ok_up (ok_up (ok_up h (by omega)) (by omega)) (by omega)
theorem ok_ln {M : Mem} {i : Nat} {x a b c : Int32} (h : dk_ok M) (hi : i < 4) : dk_ok (lnM M i x a b c) := ok_rf (ok_up (ok_up h (by omega)) (by omega)) hi
theorem ok_rw {M : Mem} {i : Nat} {a b c : Int32} (h : dk_ok M) (hi : i < 4) : dk_ok (rwM M i a b c) := by
  unfold rwM
  by_cases e : b + a ≤ M (9 + i) 3
  · rw [if_pos e]; exact h
  · rw [if_neg e]; exact ok_rf h hi
def bgM (M : Mem) (i : Nat) (now : Int32) : Mem := up (up (up (up M (3 + i) 0 1) (3 + i) 1 now) (3 + i) 2 10) (3 + i) 3 0
theorem ok_bg {M : Mem} {i : Nat} {a : Int32} (h : dk_ok M) (hi : i < 6) : dk_ok (bgM M i a) := ok_up (ok_up (ok_up (ok_up h (by omega)) (by omega)) (by omega)) (by omega)
/-- the open session at slot x -/
def osV (M : Mem) (x : Int32) : Option Nat := match dN x 6 with
  | none => none
  | some j => if M (3 + j) 0 = 0 then none else some j
theorem osV_some {M : Mem} {x : Int32} {j : Nat} (h : osV M x = some j) : j < 6 ∧ x = nI j ∧ M (3 + j) 0 ≠ 0 := by
  unfold osV at h
  cases hd : dN x 6 with
  | none => rw [hd] at h; cases h
  | some a =>
    rw [hd] at h
    dsimp only at h
    obtain ⟨h1, h2⟩ := dN_some (by decide) hd
    by_cases e : M (3 + a) 0 = 0
    · rw [if_pos e] at h; cases h
    · rw [if_neg e] at h
      cases h
      exact ⟨h1, h2, e⟩
def clkV (M : Mem) (x : Int32) : Int32 := match osV M x with
  | none => -1
  | some j => M (3 + j) 3
def psM (M : Mem) (i : Nat) : Mem :=
  let M1 := up M (9 + i) 1 (-1)
  let x := slA M1 i 0
  if x = -1 then M1 else lnM (drp M1 i x) i x (tmA M1 i 0) (drp M1 i x 0 2) (clkV (drp M1 i x) x)
theorem ok_ps {M : Mem} {i : Nat} (h : dk_ok M) (hi : i < 4) : dk_ok (psM M i) := by
  unfold psM
  have h1 : dk_ok (up M (9 + i) 1 (-1)) := ok_up h (by omega)
  by_cases e : slA (up M (9 + i) 1 (-1)) i 0 = -1
  · simp only [if_pos e]; exact h1
  · simp only [if_neg e]; exact ok_ln (ok_drp h1 hi) hi
end
section
set_option maxRecDepth 100000 in
set_option maxHeartbeats 4000000 in
theorem c_X0_isFree {l : Launch} {G : DG} (hj : wj (dkO G)) {M : Mem} (hok : dk_ok M) {i : Nat} (hi : i < 4) (sz : Nat) : Met l yX0_isFree wsX0_isFree ({ frames := 0, cells := 0, slots := 0, locals := 0 }) (va_Pc [.ref (wa (dkO G) (9 + i))] (wp (dkO G) sz M)) (wQi (dkO G) sz (freV M i) (M)) 0 0 (wA (dkO G) sz) := by
  refine wd_ofW (O := (dkO G)) (M := M) (Qc := fun z => wQi (dkO G) z (freV M i) (M)) (cc := cX0_isFree) (maxL := 1) (ret := (some .boolean)) (lv := [(0, .ref (wa (dkO G) (9 + i)))]) (by decide) rfl (Nat.le_of_ble_eq_true rfl) rfl ?_
  intro p e s m below meth c ls hx hb hr hml hown hts hlocks hP hK hS hl
  have hi0 : ∀ w ∈ wsX00, w ∈ wsX0_isFree := by decide +kernel
  refine lv_aload_n hx hb dX0_isFree_0 rfl (lv_at hl 0 rfl) ?_
  refine wd_get (O := (dkO G)) (v := .int (M (9 + i) 1)) hx hb hts hi0 hown hK hP (dk_lt (by omega)) (dE_lock (by omega)) rfl 1 (by decide) (hts (.fieldLink RX0 18 "LeaseDesk$Lock" "holder" "I") (by decide +kernel)) (fun _ h9 => h9) rfl dX0_isFree_1 ?_
  refine lv_iconst (v := (-1)) hx hb dX0_isFree_4 (by decide) ?_
  refine lv_icmp_ne (tgt := 12) hx hb dX0_isFree_5 (by decide) (fun c1 => ?_) (fun c1 => ?_)
  · refine lv_iconst (v := 0) hx hb dX0_isFree_12 (by decide) ?_
    exact wd_iret (O := (dkO G)) hx hb hr hlocks hK hP hS (by decide) dX0_isFree_13 (by simp only [freV, if_neg c1]) (rfl)
  · refine lv_iconst (v := 1) hx hb dX0_isFree_8 (by decide) ?_
    refine lv_goto (tgt := 13) hx hb dX0_isFree_9 (by decide) ?_
    exact wd_iret (O := (dkO G)) hx hb hr hlocks hK hP hS (by decide) dX0_isFree_13 (by simp only [freV, if_pos c1]) (rfl)
set_option maxRecDepth 100000 in
set_option maxHeartbeats 4000000 in
theorem c_X0_runFrom {l : Launch} {G : DG} (hj : wj (dkO G)) {M : Mem} (hok : dk_ok M) {i : Nat} (hi : i < 4) (sz : Nat) (now term clk : Int32) : Met l yX0_runFrom wsX0_runFrom ({ frames := 0, cells := 0, slots := 0, locals := 0 }) (va_Pc [.ref (wa (dkO G) (9 + i)), .int now, .int term, .int clk] (wp (dkO G) sz M)) (wQv (dkO G) sz (rfM M i now term clk)) 0 0 (wA (dkO G) sz) := by
  refine wd_ofW (O := (dkO G)) (M := M) (Qc := fun z => wQv (dkO G) z (rfM M i now term clk)) (cc := cX0_runFrom) (maxL := 4) (ret := none) (lv := [(0, .ref (wa (dkO G) (9 + i))), (1, .int now), (2, .int term), (3, .int clk)]) (by decide) rfl (Nat.le_of_ble_eq_true rfl) rfl ?_
  intro p e s m below meth c ls hx hb hr hml hown hts hlocks hP hK hS hl
  have hi0 : ∀ w ∈ wsX00, w ∈ wsX0_runFrom := by decide +kernel
  refine lv_aload_n hx hb dX0_runFrom_0 rfl (lv_at hl 0 rfl) ?_
  refine lv_iload_n hx hb dX0_runFrom_1 rfl (lv_at hl 1 rfl) ?_
  refine lv_iload_n hx hb dX0_runFrom_2 rfl (lv_at hl 2 rfl) ?_
  refine lv_iadd hx hb dX0_runFrom_3 ?_
  refine wd_put (O := (dkO G)) (ty := .int) hj hx hb hts hi0 tyX0 tyX0_ok nmX0 hown hK hP hS (dk_lt (by omega)) (dE_lock (by omega)) rfl 3 (by decide) (hts (.fieldLink RX0 29 "LeaseDesk$Lock" "ends" "I") (by decide +kernel)) (fun _ h9 => h9) rfl (by decide +kernel) rfl rfl (Nat.le_of_ble_eq_true rfl) ((dE_lock (by omega)).trans rfl) dX0_runFrom_4 (fun H locs hP hS => ?_)
  refine lv_aload_n hx hb dX0_runFrom_7 rfl (lv_at hl 0 rfl) ?_
  refine lv_iload_n hx hb dX0_runFrom_8 rfl (lv_at hl 2 rfl) ?_
  refine wd_put (O := (dkO G)) (ty := .int) hj hx hb hts hi0 tyX0 tyX0_ok nmX0 hown hK hP hS (dk_lt (by omega)) (dE_lock (by omega)) rfl 4 (by decide) (hts (.fieldLink RX0 32 "LeaseDesk$Lock" "term" "I") (by decide +kernel)) (fun _ h9 => h9) rfl (by decide +kernel) rfl rfl (Nat.le_of_ble_eq_true rfl) ((dE_lock (by omega)).trans rfl) dX0_runFrom_9 (fun H locs hP hS => ?_)
  refine lv_aload_n hx hb dX0_runFrom_12 rfl (lv_at hl 0 rfl) ?_
  refine lv_iload_n hx hb dX0_runFrom_13 rfl (lv_at hl 3 rfl) ?_
  refine wd_put (O := (dkO G)) (ty := .int) hj hx hb hts hi0 tyX0 tyX0_ok nmX0 hown hK hP hS (dk_lt (by omega)) (dE_lock (by omega)) rfl 5 (by decide) (hts (.fieldLink RX0 35 "LeaseDesk$Lock" "start" "I") (by decide +kernel)) (fun _ h9 => h9) rfl (by decide +kernel) rfl rfl (Nat.le_of_ble_eq_true rfl) ((dE_lock (by omega)).trans rfl) dX0_runFrom_14 (fun H locs hP hS => ?_)
  exact wd_vret (O := (dkO G)) hx hb hr hlocks hK hP hS dX0_runFrom_17 (rfl)
set_option maxRecDepth 100000 in
set_option maxHeartbeats 4000000 in
theorem c_X0_lend {l : Launch} {G : DG} (hj : wj (dkO G)) {M : Mem} (hok : dk_ok M) {i : Nat} (hi : i < 4) (sz : Nat) (x term now clk : Int32) : Met l yX0_lend wsX0_lend ({ frames := 1, cells := 0, slots := 0, locals := 23 }) (va_Pc [.ref (wa (dkO G) (9 + i)), .int x, .int term, .int now, .int clk] (wp (dkO G) sz M)) (wQv (dkO G) sz (lnM M i x term now clk)) 0 0 (wA (dkO G) sz) := by
  refine wd_ofW (O := (dkO G)) (M := M) (Qc := fun z => wQv (dkO G) z (lnM M i x term now clk)) (cc := cX0_lend) (maxL := 5) (ret := none) (lv := [(0, .ref (wa (dkO G) (9 + i))), (1, .int x), (2, .int term), (3, .int now), (4, .int clk)]) (by decide) rfl (Nat.le_of_ble_eq_true rfl) rfl ?_
  intro p e s m below meth c ls hx hb hr hml hown hts hlocks hP hK hS hl
  have hi0 : ∀ w ∈ wsX00, w ∈ wsX0_lend := by decide +kernel
  refine lv_aload_n hx hb dX0_lend_0 rfl (lv_at hl 0 rfl) ?_
  refine lv_iload_n hx hb dX0_lend_1 rfl (lv_at hl 1 rfl) ?_
  refine wd_put (O := (dkO G)) (ty := .int) hj hx hb hts hi0 tyX0 tyX0_ok nmX0 hown hK hP hS (dk_lt (by omega)) (dE_lock (by omega)) rfl 1 (by decide) (hts (.fieldLink RX0 18 "LeaseDesk$Lock" "holder" "I") (by decide +kernel)) (fun _ h9 => h9) rfl (by decide +kernel) rfl rfl (Nat.le_of_ble_eq_true rfl) ((dE_lock (by omega)).trans rfl) dX0_lend_2 (fun H locs hP hS => ?_)
  have hok : dk_ok (up M (9 + i) 1 x) := ok_up hok (by omega)
  refine lv_aload_n hx hb dX0_lend_5 rfl (lv_at hl 0 rfl) ?_
  refine lv_dup hx hb dX0_lend_6 rfl ?_
  refine wd_get (O := (dkO G)) (v := .int ((up M (9 + i) 1 x) (9 + i) 2)) hx hb hts hi0 hown hK hP (dk_lt (by omega)) (dE_lock (by omega)) rfl 2 (by decide) (hts (.fieldLink RX0 22 "LeaseDesk$Lock" "token" "I") (by decide +kernel)) (fun _ h9 => h9) rfl dX0_lend_7 ?_
  refine lv_iconst (v := 1) hx hb dX0_lend_10 (by decide) ?_
  refine lv_iadd hx hb dX0_lend_11 ?_
  refine wd_put (O := (dkO G)) (ty := .int) hj hx hb hts hi0 tyX0 tyX0_ok nmX0 hown hK hP hS (dk_lt (by omega)) (dE_lock (by omega)) rfl 2 (by decide) (hts (.fieldLink RX0 22 "LeaseDesk$Lock" "token" "I") (by decide +kernel)) (fun _ h9 => h9) rfl (by decide +kernel) rfl rfl (Nat.le_of_ble_eq_true rfl) ((dE_lock (by omega)).trans rfl) dX0_lend_12 (fun H locs hP hS => ?_)
  have hok : dk_ok (up (up M (9 + i) 1 x) (9 + i) 2 (((up M (9 + i) 1 x) (9 + i) 2) + 1)) := ok_up hok (by omega)
  refine lv_aload_n hx hb dX0_lend_15 rfl (lv_at hl 0 rfl) ?_
  refine lv_iload_n hx hb dX0_lend_16 rfl (lv_at hl 3 rfl) ?_
  refine lv_iload_n hx hb dX0_lend_17 rfl (lv_at hl 2 rfl) ?_
  refine lv_iload hx hb dX0_lend_18 (lv_at hl 4 rfl) ?_
  refine wd_cv (O := (dkO G)) hS (va_runV (As := [.int now, .int term, .int clk]) (rest := []) ⟨hx, hb, hml, hown, hts⟩ (c_X0_runFrom (G := G) hj hok (by omega) H.size now term clk) (cwV 3 hts gX0_lend_X0_runFrom rfl rfl rfl (by decide +kernel) ⟨Nat.le_of_ble_eq_true rfl, Nat.le_of_ble_eq_true rfl⟩) (wd_pre hK hP (dk_lt (by omega)) (dE_lock (by omega)) rfl) rfl rfl hl.1 rfl (lv_room (Nat.le_of_ble_eq_true rfl)) dX0_lend_20 ⟨Nat.le_of_ble_eq_true rfl, Nat.le_of_ble_eq_true rfl⟩) (fun H locs hP hS => ?_)
  have hok : dk_ok (rfM (up (up M (9 + i) 1 x) (9 + i) 2 (((up M (9 + i) 1 x) (9 + i) 2) + 1)) i now term clk) := ok_rf hok (by omega)
  exact wd_vret (O := (dkO G)) hx hb hr hlocks hK hP hS dX0_lend_23 (rfl)
set_option maxRecDepth 100000 in
set_option maxHeartbeats 4000000 in
theorem c_X0_renew {l : Launch} {G : DG} (hj : wj (dkO G)) {M : Mem} (hok : dk_ok M) {i : Nat} (hi : i < 4) (sz : Nat) (term now clk : Int32) : Met l yX0_renew wsX0_renew ({ frames := 1, cells := 0, slots := 0, locals := 23 }) (va_Pc [.ref (wa (dkO G) (9 + i)), .int term, .int now, .int clk] (wp (dkO G) sz M)) (wQv (dkO G) sz (rwM M i term now clk)) 0 0 (wA (dkO G) sz) := by
  refine wd_ofW (O := (dkO G)) (M := M) (Qc := fun z => wQv (dkO G) z (rwM M i term now clk)) (cc := cX0_renew) (maxL := 4) (ret := none) (lv := [(0, .ref (wa (dkO G) (9 + i))), (1, .int term), (2, .int now), (3, .int clk)]) (by decide) rfl (Nat.le_of_ble_eq_true rfl) rfl ?_
  intro p e s m below meth c ls hx hb hr hml hown hts hlocks hP hK hS hl
  have hi0 : ∀ w ∈ wsX00, w ∈ wsX0_renew := by decide +kernel
  refine lv_iload_n hx hb dX0_renew_0 rfl (lv_at hl 2 rfl) ?_
  refine lv_iload_n hx hb dX0_renew_1 rfl (lv_at hl 1 rfl) ?_
  refine lv_iadd hx hb dX0_renew_2 ?_
  refine lv_aload_n hx hb dX0_renew_3 rfl (lv_at hl 0 rfl) ?_
  refine wd_get (O := (dkO G)) (v := .int (M (9 + i) 3)) hx hb hts hi0 hown hK hP (dk_lt (by omega)) (dE_lock (by omega)) rfl 3 (by decide) (hts (.fieldLink RX0 29 "LeaseDesk$Lock" "ends" "I") (by decide +kernel)) (fun _ h9 => h9) rfl dX0_renew_4 ?_
  refine lv_icmp_le (tgt := 17) hx hb dX0_renew_7 (by decide) (fun c1 => ?_) (fun c1 => ?_)
  · exact wd_vret (O := (dkO G)) hx hb hr hlocks hK hP hS dX0_renew_17 (by simp only [rwM, if_pos c1])
  · refine lv_aload_n hx hb dX0_renew_10 rfl (lv_at hl 0 rfl) ?_
    refine lv_iload_n hx hb dX0_renew_11 rfl (lv_at hl 2 rfl) ?_
    refine lv_iload_n hx hb dX0_renew_12 rfl (lv_at hl 1 rfl) ?_
    refine lv_iload_n hx hb dX0_renew_13 rfl (lv_at hl 3 rfl) ?_
    refine wd_cv (O := (dkO G)) hS (va_runV (As := [.int now, .int term, .int clk]) (rest := []) ⟨hx, hb, hml, hown, hts⟩ (c_X0_runFrom (G := G) hj hok (by omega) s.heap.size now term clk) (cwV 3 hts gX0_renew_X0_runFrom rfl rfl rfl (by decide +kernel) ⟨Nat.le_of_ble_eq_true rfl, Nat.le_of_ble_eq_true rfl⟩) (wd_pre hK hP (dk_lt (by omega)) (dE_lock (by omega)) rfl) rfl rfl hl.1 rfl (lv_room (Nat.le_of_ble_eq_true rfl)) dX0_renew_14 ⟨Nat.le_of_ble_eq_true rfl, Nat.le_of_ble_eq_true rfl⟩) (fun H locs hP hS => ?_)
    have hok : dk_ok (rfM M i now term clk) := ok_rf hok (by omega)
    exact wd_vret (O := (dkO G)) hx hb hr hlocks hK hP hS dX0_renew_17 (by simp only [rwM, if_neg c1])
set_option maxRecDepth 100000 in
set_option maxHeartbeats 4000000 in
theorem c_X2_begin {l : Launch} {G : DG} (hj : wj (dkO G)) {M : Mem} (hok : dk_ok M) {i : Nat} (hi : i < 6) (sz : Nat) (now : Int32) : Met l yX2_begin wsX2_begin ({ frames := 0, cells := 0, slots := 0, locals := 0 }) (va_Pc [.ref (wa (dkO G) (3 + i)), .int now] (wp (dkO G) sz M)) (wQv (dkO G) sz (bgM M i now)) 0 0 (wA (dkO G) sz) := by
  refine wd_ofW (O := (dkO G)) (M := M) (Qc := fun z => wQv (dkO G) z (bgM M i now)) (cc := cX2_begin) (maxL := 2) (ret := none) (lv := [(0, .ref (wa (dkO G) (3 + i))), (1, .int now)]) (by decide) rfl (Nat.le_of_ble_eq_true rfl) rfl ?_
  intro p e s m below meth c ls hx hb hr hml hown hts hlocks hP hK hS hl
  have hi2 : ∀ w ∈ wsX20, w ∈ wsX2_begin := by decide +kernel
  refine lv_aload_n hx hb dX2_begin_0 rfl (lv_at hl 0 rfl) ?_
  refine lv_iconst (v := 1) hx hb dX2_begin_1 (by decide) ?_
  refine wd_put (O := (dkO G)) (ty := .boolean) hj hx hb hts hi2 tyX2 tyX2_ok nmX2 hown hK hP hS (dk_lt (by omega)) (dE_ses (by omega)) rfl 0 (by decide) (hts (.fieldLink RX2 9 "LeaseDesk$Session" "isOpen" "Z") (by decide +kernel)) (fun _ h9 => h9) rfl (by decide +kernel) (by decide) (by decide) (Nat.le_of_ble_eq_true rfl) ((dE_ses (by omega)).trans rfl) dX2_begin_2 (fun H locs hP hS => ?_)
  refine lv_aload_n hx hb dX2_begin_5 rfl (lv_at hl 0 rfl) ?_
  refine lv_iload_n hx hb dX2_begin_6 rfl (lv_at hl 1 rfl) ?_
  refine wd_put (O := (dkO G)) (ty := .int) hj hx hb hts hi2 tyX2 tyX2_ok nmX2 hown hK hP hS (dk_lt (by omega)) (dE_ses (by omega)) rfl 1 (by decide) (hts (.fieldLink RX2 15 "LeaseDesk$Session" "sign" "I") (by decide +kernel)) (fun _ h9 => h9) rfl (by decide +kernel) rfl rfl (Nat.le_of_ble_eq_true rfl) ((dE_ses (by omega)).trans rfl) dX2_begin_7 (fun H locs hP hS => ?_)
  refine lv_aload_n hx hb dX2_begin_10 rfl (lv_at hl 0 rfl) ?_
  refine lv_bipush (v := 10) hx hb dX2_begin_11 (by decide) ?_
  refine wd_put (O := (dkO G)) (ty := .int) hj hx hb hts hi2 tyX2 tyX2_ok nmX2 hown hK hP hS (dk_lt (by omega)) (dE_ses (by omega)) rfl 2 (by decide) (hts (.fieldLink RX2 19 "LeaseDesk$Session" "rate" "I") (by decide +kernel)) (fun _ h9 => h9) rfl (by decide +kernel) rfl rfl (Nat.le_of_ble_eq_true rfl) ((dE_ses (by omega)).trans rfl) dX2_begin_13 (fun H locs hP hS => ?_)
  refine lv_aload_n hx hb dX2_begin_16 rfl (lv_at hl 0 rfl) ?_
  refine lv_iconst (v := 0) hx hb dX2_begin_17 (by decide) ?_
  refine wd_put (O := (dkO G)) (ty := .int) hj hx hb hts hi2 tyX2 tyX2_ok nmX2 hown hK hP hS (dk_lt (by omega)) (dE_ses (by omega)) rfl 3 (by decide) (hts (.fieldLink RX2 22 "LeaseDesk$Session" "clock" "I") (by decide +kernel)) (fun _ h9 => h9) rfl (by decide +kernel) rfl rfl (Nat.le_of_ble_eq_true rfl) ((dE_ses (by omega)).trans rfl) dX2_begin_18 (fun H locs hP hS => ?_)
  exact wd_vret (O := (dkO G)) hx hb hr hlocks hK hP hS dX2_begin_21 (rfl)
set_option maxRecDepth 100000 in
set_option maxHeartbeats 4000000 in
theorem c_X1_isTaken {l : Launch} {G : DG} (hj : wj (dkO G)) {M : Mem} (hok : dk_ok M) {i : Nat} (hi : i < 4) (sz : Nat) (x : Int32) : Met l yX1_isTaken wsX1_isTaken ({ frames := 0, cells := 0, slots := 0, locals := 0 }) (va_Pc [.ref (wa (dkO G) (13 + i)), .int x] (wp (dkO G) sz M)) (wQi (dkO G) sz (tkv (dN x (rn M i))) (M)) 0 0 (wA (dkO G) sz) := by
  obtain ⟨hn6, hlen⟩ := hok i hi
  rcases op_cases (dN x (rn M i)) with hd | ⟨j2, hd⟩
  · refine wd_ofW (O := (dkO G)) (M := M) (Qc := fun z => wQi (dkO G) z (tkv (dN x (rn M i))) (M)) (cc := cX1_isTaken) (maxL := 2) (ret := (some .boolean)) (lv := [(0, .ref (wa (dkO G) (13 + i))), (1, .int x)]) (by decide) rfl (Nat.le_of_ble_eq_true rfl) rfl ?_
    intro p e s m below meth c ls hx hb hr hml hown hts hlocks hP hK hS hl
    have hi1 : ∀ w ∈ wsX10, w ∈ wsX1_isTaken := by decide +kernel
    refine lv_iload_n hx hb dX1_isTaken_0 rfl (lv_at hl 1 rfl) ?_
    refine lv_if_lt (tgt := 16) hx hb dX1_isTaken_1 (by decide) (fun c1 => ?_) (fun c1 => ?_)
    · refine lv_iconst (v := 0) hx hb dX1_isTaken_16 (by decide) ?_
      exact wd_iret (O := (dkO G)) hx hb hr hlocks hK hP hS (by decide) dX1_isTaken_17 (by simp only [hd, tkv]) (rfl)
    · refine lv_iload_n hx hb dX1_isTaken_4 rfl (lv_at hl 1 rfl) ?_
      refine lv_aload_n hx hb dX1_isTaken_5 rfl (lv_at hl 0 rfl) ?_
      refine wd_get (O := (dkO G)) (v := .int (M (13 + i) 2)) hx hb hts hi1 hown hK hP (dk_lt (by omega)) (dE_row (by omega)) rfl 2 (by decide) (hts (.fieldLink RX1 26 "LeaseDesk$Row" "length" "I") (by decide +kernel)) (fun _ h9 => h9) rfl dX1_isTaken_6 ?_
      refine wd_re (y := nI (rn M i)) (hlen) ?_
      refine lv_icmp_ge (tgt := 16) hx hb dX1_isTaken_9 (by decide) (fun c2 => ?_) (fun c2 => absurd (dN_none hd c1) c2)
      refine lv_iconst (v := 0) hx hb dX1_isTaken_16 (by decide) ?_
      exact wd_iret (O := (dkO G)) hx hb hr hlocks hK hP hS (by decide) dX1_isTaken_17 (by simp only [hd, tkv]) (rfl)
  · obtain ⟨hj2, rfl⟩ := dN_some (by omega) hd
    refine wd_ofW (O := (dkO G)) (M := M) (Qc := fun z => wQi (dkO G) z (tkv (dN (nI j2) (rn M i))) (M)) (cc := cX1_isTaken) (maxL := 2) (ret := (some .boolean)) (lv := [(0, .ref (wa (dkO G) (13 + i))), (1, .int (nI j2))]) (by decide) rfl (Nat.le_of_ble_eq_true rfl) rfl ?_
    intro p e s m below meth c ls hx hb hr hml hown hts hlocks hP hK hS hl
    have hi1 : ∀ w ∈ wsX10, w ∈ wsX1_isTaken := by decide +kernel
    refine lv_iload_n hx hb dX1_isTaken_0 rfl (lv_at hl 1 rfl) ?_
    refine lv_if_lt (tgt := 16) hx hb dX1_isTaken_1 (by decide) (fun c3 => absurd c3 (nI_pos (by omega))) (fun c3 => ?_)
    refine lv_iload_n hx hb dX1_isTaken_4 rfl (lv_at hl 1 rfl) ?_
    refine lv_aload_n hx hb dX1_isTaken_5 rfl (lv_at hl 0 rfl) ?_
    refine wd_get (O := (dkO G)) (v := .int (M (13 + i) 2)) hx hb hts hi1 hown hK hP (dk_lt (by omega)) (dE_row (by omega)) rfl 2 (by decide) (hts (.fieldLink RX1 26 "LeaseDesk$Row" "length" "I") (by decide +kernel)) (fun _ h9 => h9) rfl dX1_isTaken_6 ?_
    refine wd_re (y := nI (rn M i)) (hlen) ?_
    refine lv_icmp_ge (tgt := 16) hx hb dX1_isTaken_9 (by decide) (fun c4 => absurd c4 (nI_ge hj2 (by omega))) (fun c4 => ?_)
    refine lv_iconst (v := 1) hx hb dX1_isTaken_12 (by decide) ?_
    refine lv_goto (tgt := 17) hx hb dX1_isTaken_13 (by decide) ?_
    exact wd_iret (O := (dkO G)) hx hb hr hlocks hK hP hS (by decide) dX1_isTaken_17 (by simp only [hd, tkv]) (rfl)
set_option maxRecDepth 100000 in
set_option maxHeartbeats 4000000 in
theorem c_X1_slotAt {l : Launch} {G : DG} (hj : wj (dkO G)) {M : Mem} (hok : dk_ok M) {i : Nat} (hi : i < 4) (sz : Nat) (x : Int32) : Met l yX1_slotAt wsX1_slotAt ({ frames := 1, cells := 0, slots := 0, locals := 21 }) (va_Pc [.ref (wa (dkO G) (13 + i)), .int x] (wp (dkO G) sz M)) (wQi (dkO G) sz (slA M i x) (M)) 0 0 (wA (dkO G) sz) := by
  obtain ⟨hn6, hlen⟩ := hok i hi
  rcases op_cases (dN x (rn M i)) with hd | ⟨j2, hd⟩
  · refine wd_ofW (O := (dkO G)) (M := M) (Qc := fun z => wQi (dkO G) z (slA M i x) (M)) (cc := cX1_slotAt) (maxL := 2) (ret := (some .int)) (lv := [(0, .ref (wa (dkO G) (13 + i))), (1, .int x)]) (by decide) rfl (Nat.le_of_ble_eq_true rfl) rfl ?_
    intro p e s m below meth c ls hx hb hr hml hown hts hlocks hP hK hS hl
    have hi1 : ∀ w ∈ wsX10, w ∈ wsX1_slotAt := by decide +kernel
    refine lv_aload_n hx hb dX1_slotAt_0 rfl (lv_at hl 0 rfl) ?_
    refine lv_iload_n hx hb dX1_slotAt_1 rfl (lv_at hl 1 rfl) ?_
    refine wd_ci (O := (dkO G)) hS (va_runV (As := [.int x]) (rest := []) ⟨hx, hb, hml, hown, hts⟩ (c_X1_isTaken (G := G) hj hok (by omega) s.heap.size x) (cwV 1 hts gX1_slotAt_X1_isTaken rfl rfl rfl (by decide +kernel) ⟨Nat.le_of_ble_eq_true rfl, Nat.le_of_ble_eq_true rfl⟩) (wd_pre hK hP (dk_lt (by omega)) (dE_row (by omega)) rfl) rfl rfl hl.1 rfl (lv_room (Nat.le_of_ble_eq_true rfl)) dX1_slotAt_2 ⟨Nat.le_of_ble_eq_true rfl, Nat.le_of_ble_eq_true rfl⟩) (fun H locs hP hS => ?_)
    refine wd_re (y := 0) (by rw [hd]; rfl) ?_
    refine lv_if_eq (tgt := 17) hx hb dX1_slotAt_5 (by decide) (fun c1 => ?_) (fun c1 => absurd rfl c1)
    refine lv_iconst (v := (-1)) hx hb dX1_slotAt_17 (by decide) ?_
    exact wd_iret (O := (dkO G)) hx hb hr hlocks hK hP hS rfl dX1_slotAt_18 (by simp only [slA, hd]) (rfl)
  · obtain ⟨hj2, rfl⟩ := dN_some (by omega) hd
    refine wd_ofW (O := (dkO G)) (M := M) (Qc := fun z => wQi (dkO G) z (slA M i (nI j2)) (M)) (cc := cX1_slotAt) (maxL := 2) (ret := (some .int)) (lv := [(0, .ref (wa (dkO G) (13 + i))), (1, .int (nI j2))]) (by decide) rfl (Nat.le_of_ble_eq_true rfl) rfl ?_
    intro p e s m below meth c ls hx hb hr hml hown hts hlocks hP hK hS hl
    have hi1 : ∀ w ∈ wsX10, w ∈ wsX1_slotAt := by decide +kernel
    refine lv_aload_n hx hb dX1_slotAt_0 rfl (lv_at hl 0 rfl) ?_
    refine lv_iload_n hx hb dX1_slotAt_1 rfl (lv_at hl 1 rfl) ?_
    refine wd_ci (O := (dkO G)) hS (va_runV (As := [.int (nI j2)]) (rest := []) ⟨hx, hb, hml, hown, hts⟩ (c_X1_isTaken (G := G) hj hok (by omega) s.heap.size (nI j2)) (cwV 1 hts gX1_slotAt_X1_isTaken rfl rfl rfl (by decide +kernel) ⟨Nat.le_of_ble_eq_true rfl, Nat.le_of_ble_eq_true rfl⟩) (wd_pre hK hP (dk_lt (by omega)) (dE_row (by omega)) rfl) rfl rfl hl.1 rfl (lv_room (Nat.le_of_ble_eq_true rfl)) dX1_slotAt_2 ⟨Nat.le_of_ble_eq_true rfl, Nat.le_of_ble_eq_true rfl⟩) (fun H locs hP hS => ?_)
    refine wd_re (y := 1) (by rw [hd]; rfl) ?_
    refine lv_if_eq (tgt := 17) hx hb dX1_slotAt_5 (by decide) (fun c2 => absurd c2 (by decide)) (fun c2 => ?_)
    refine lv_aload_n hx hb dX1_slotAt_8 rfl (lv_at hl 0 rfl) ?_
    refine wd_get (O := (dkO G)) (v := .ref (wa (dkO G) (17 + i))) hx hb hts hi1 hown hK hP (dk_lt (by omega)) (dE_row (by omega)) rfl 0 (by decide) (hts (.fieldLink RX1 9 "LeaseDesk$Row" "slots" "[I") (by decide +kernel)) (fun _ h9 => h9) rfl dX1_slotAt_9 ?_
    refine lv_iload_n hx hb dX1_slotAt_12 rfl (lv_at hl 1 rfl) ?_
    refine wd_iald (O := (dkO G)) hx hb hK hP (dk_lt (by omega)) 0 (dE_sl (by omega) _) rfl (i := j2) rfl (by omega) (by decide) dX1_slotAt_13 ?_
    refine lv_goto (tgt := 18) hx hb dX1_slotAt_14 (by decide) ?_
    exact wd_iret (O := (dkO G)) hx hb hr hlocks hK hP hS rfl dX1_slotAt_18 (by simp only [slA, hd]) (rfl)
set_option maxRecDepth 100000 in
set_option maxHeartbeats 4000000 in
theorem c_X1_termAt {l : Launch} {G : DG} (hj : wj (dkO G)) {M : Mem} (hok : dk_ok M) {i : Nat} (hi : i < 4) (sz : Nat) (x : Int32) : Met l yX1_termAt wsX1_termAt ({ frames := 1, cells := 0, slots := 0, locals := 21 }) (va_Pc [.ref (wa (dkO G) (13 + i)), .int x] (wp (dkO G) sz M)) (wQi (dkO G) sz (tmA M i x) (M)) 0 0 (wA (dkO G) sz) := by
  obtain ⟨hn6, hlen⟩ := hok i hi
  rcases op_cases (dN x (rn M i)) with hd | ⟨j2, hd⟩
  · refine wd_ofW (O := (dkO G)) (M := M) (Qc := fun z => wQi (dkO G) z (tmA M i x) (M)) (cc := cX1_termAt) (maxL := 2) (ret := (some .int)) (lv := [(0, .ref (wa (dkO G) (13 + i))), (1, .int x)]) (by decide) rfl (Nat.le_of_ble_eq_true rfl) rfl ?_
    intro p e s m below meth c ls hx hb hr hml hown hts hlocks hP hK hS hl
    have hi1 : ∀ w ∈ wsX10, w ∈ wsX1_termAt := by decide +kernel
    refine lv_aload_n hx hb dX1_termAt_0 rfl (lv_at hl 0 rfl) ?_
    refine lv_iload_n hx hb dX1_termAt_1 rfl (lv_at hl 1 rfl) ?_
    refine wd_ci (O := (dkO G)) hS (va_runV (As := [.int x]) (rest := []) ⟨hx, hb, hml, hown, hts⟩ (c_X1_isTaken (G := G) hj hok (by omega) s.heap.size x) (cwV 1 hts gX1_termAt_X1_isTaken rfl rfl rfl (by decide +kernel) ⟨Nat.le_of_ble_eq_true rfl, Nat.le_of_ble_eq_true rfl⟩) (wd_pre hK hP (dk_lt (by omega)) (dE_row (by omega)) rfl) rfl rfl hl.1 rfl (lv_room (Nat.le_of_ble_eq_true rfl)) dX1_termAt_2 ⟨Nat.le_of_ble_eq_true rfl, Nat.le_of_ble_eq_true rfl⟩) (fun H locs hP hS => ?_)
    refine wd_re (y := 0) (by rw [hd]; rfl) ?_
    refine lv_if_eq (tgt := 17) hx hb dX1_termAt_5 (by decide) (fun c1 => ?_) (fun c1 => absurd rfl c1)
    refine lv_iconst (v := 0) hx hb dX1_termAt_17 (by decide) ?_
    exact wd_iret (O := (dkO G)) hx hb hr hlocks hK hP hS rfl dX1_termAt_18 (by simp only [tmA, hd]) (rfl)
  · obtain ⟨hj2, rfl⟩ := dN_some (by omega) hd
    refine wd_ofW (O := (dkO G)) (M := M) (Qc := fun z => wQi (dkO G) z (tmA M i (nI j2)) (M)) (cc := cX1_termAt) (maxL := 2) (ret := (some .int)) (lv := [(0, .ref (wa (dkO G) (13 + i))), (1, .int (nI j2))]) (by decide) rfl (Nat.le_of_ble_eq_true rfl) rfl ?_
    intro p e s m below meth c ls hx hb hr hml hown hts hlocks hP hK hS hl
    have hi1 : ∀ w ∈ wsX10, w ∈ wsX1_termAt := by decide +kernel
    refine lv_aload_n hx hb dX1_termAt_0 rfl (lv_at hl 0 rfl) ?_
    refine lv_iload_n hx hb dX1_termAt_1 rfl (lv_at hl 1 rfl) ?_
    refine wd_ci (O := (dkO G)) hS (va_runV (As := [.int (nI j2)]) (rest := []) ⟨hx, hb, hml, hown, hts⟩ (c_X1_isTaken (G := G) hj hok (by omega) s.heap.size (nI j2)) (cwV 1 hts gX1_termAt_X1_isTaken rfl rfl rfl (by decide +kernel) ⟨Nat.le_of_ble_eq_true rfl, Nat.le_of_ble_eq_true rfl⟩) (wd_pre hK hP (dk_lt (by omega)) (dE_row (by omega)) rfl) rfl rfl hl.1 rfl (lv_room (Nat.le_of_ble_eq_true rfl)) dX1_termAt_2 ⟨Nat.le_of_ble_eq_true rfl, Nat.le_of_ble_eq_true rfl⟩) (fun H locs hP hS => ?_)
    refine wd_re (y := 1) (by rw [hd]; rfl) ?_
    refine lv_if_eq (tgt := 17) hx hb dX1_termAt_5 (by decide) (fun c2 => absurd c2 (by decide)) (fun c2 => ?_)
    refine lv_aload_n hx hb dX1_termAt_8 rfl (lv_at hl 0 rfl) ?_
    refine wd_get (O := (dkO G)) (v := .ref (wa (dkO G) (21 + i))) hx hb hts hi1 hown hK hP (dk_lt (by omega)) (dE_row (by omega)) rfl 1 (by decide) (hts (.fieldLink RX1 15 "LeaseDesk$Row" "terms" "[I") (by decide +kernel)) (fun _ h9 => h9) rfl dX1_termAt_9 ?_
    refine lv_iload_n hx hb dX1_termAt_12 rfl (lv_at hl 1 rfl) ?_
    refine wd_iald (O := (dkO G)) hx hb hK hP (dk_lt (by omega)) 0 (dE_tm (by omega) _) rfl (i := j2) rfl (by omega) (by decide) dX1_termAt_13 ?_
    refine lv_goto (tgt := 18) hx hb dX1_termAt_14 (by decide) ?_
    exact wd_iret (O := (dkO G)) hx hb hr hlocks hK hP hS rfl dX1_termAt_18 (by simp only [tmA, hd]) (rfl)
set_option maxRecDepth 100000 in
set_option maxHeartbeats 4000000 in
theorem c_X1_placeOf {l : Launch} {G : DG} (hj : wj (dkO G)) {M : Mem} (hok : dk_ok M) {i : Nat} (hi : i < 4) (sz : Nat) (x : Int32) : Met l yX1_placeOf wsX1_placeOf ({ frames := 0, cells := 0, slots := 0, locals := 0 }) (va_Pc [.ref (wa (dkO G) (13 + i)), .int x] (wp (dkO G) sz M)) (wQi (dkO G) sz (oI (pl (M (17 + i)) x (rn M i) 0)) (M)) 0 0 (wA (dkO G) sz) := by
  obtain ⟨hn6, hlen⟩ := hok i hi
  refine wd_ofW (O := (dkO G)) (M := M) (Qc := fun z => wQi (dkO G) z (oI (pl (M (17 + i)) x (rn M i) 0)) (M)) (cc := cX1_placeOf) (maxL := 3) (ret := (some .int)) (lv := [(0, .ref (wa (dkO G) (13 + i))), (1, .int x)]) (by decide) rfl (Nat.le_of_ble_eq_true rfl) rfl ?_
  intro p e s m below meth c ls hx hb hr hml hown hts hlocks hP hK hS hl
  have hi1 : ∀ w ∈ wsX10, w ∈ wsX1_placeOf := by decide +kernel
  refine lv_iconst (v := 0) hx hb dX1_placeOf_0 (by decide) ?_
  refine lv_istore_n (lv' := [(2, .int 0), (0, .ref (wa (dkO G) (13 + i))), (1, .int x)]) hx hb dX1_placeOf_1 rfl hl (by decide) rfl (fun ls hl => ?_)
  refine wl_loop (pc := 2) (fun k j N v ls H locs => (j + k = rn M i) ∧ (oI (pl (M (17 + i)) x (rn M i) 0) = oI (pl (M (17 + i)) x k j)) ∧ va_P (wD (dkO G)) vwCl (wd (dkO G) M) H ∧ va_S (wA (dkO G) s.heap.size) s.heap H locs ∧ lv_has ls 3 [(2, .int (nI j)), (0, .ref (wa (dkO G) (13 + i))), (1, .int x)]) ?_ ?_ (rn M i) 0 M 0 ⟨by omega, rfl, hP, hS, lv_sub hl [0, 1, 2] rfl⟩
  · rintro j N v ls H locs ⟨h1, h2, hP, hS, hl⟩
    refine lv_iload_n hx hb dX1_placeOf_2 rfl (lv_at hl 0 rfl) ?_
    refine lv_aload_n hx hb dX1_placeOf_3 rfl (lv_at hl 1 rfl) ?_
    refine wd_get (O := (dkO G)) (v := .int (M (13 + i) 2)) hx hb hts hi1 hown hK hP (dk_lt (by omega)) (dE_row (by omega)) rfl 2 (by decide) (hts (.fieldLink RX1 26 "LeaseDesk$Row" "length" "I") (by decide +kernel)) (fun _ h9 => h9) rfl dX1_placeOf_4 ?_
    refine wd_re (y := nI (rn M i)) (hlen) ?_
    refine lv_icmp_ge (tgt := 28) hx hb dX1_placeOf_7 (by decide) (fun c1 => ?_) (fun c1 => absurd (nI_le (by omega) (by omega)) c1)
    refine lv_iconst (v := (-1)) hx hb dX1_placeOf_28 (by decide) ?_
    exact wd_iret (O := (dkO G)) hx hb hr hlocks hK hP hS rfl dX1_placeOf_29 (by rw [h2]; rfl) (rfl)
  · rintro k j N v ls H locs ih ⟨h1, h2, hP, hS, hl⟩
    refine lv_iload_n hx hb dX1_placeOf_2 rfl (lv_at hl 0 rfl) ?_
    refine lv_aload_n hx hb dX1_placeOf_3 rfl (lv_at hl 1 rfl) ?_
    refine wd_get (O := (dkO G)) (v := .int (M (13 + i) 2)) hx hb hts hi1 hown hK hP (dk_lt (by omega)) (dE_row (by omega)) rfl 2 (by decide) (hts (.fieldLink RX1 26 "LeaseDesk$Row" "length" "I") (by decide +kernel)) (fun _ h9 => h9) rfl dX1_placeOf_4 ?_
    refine wd_re (y := nI (rn M i)) (hlen) ?_
    refine lv_icmp_ge (tgt := 28) hx hb dX1_placeOf_7 (by decide) (fun c2 => absurd c2 (nI_ge (by omega) (by omega))) (fun c2 => ?_)
    refine lv_aload_n hx hb dX1_placeOf_10 rfl (lv_at hl 1 rfl) ?_
    refine wd_get (O := (dkO G)) (v := .ref (wa (dkO G) (17 + i))) hx hb hts hi1 hown hK hP (dk_lt (by omega)) (dE_row (by omega)) rfl 0 (by decide) (hts (.fieldLink RX1 9 "LeaseDesk$Row" "slots" "[I") (by decide +kernel)) (fun _ h9 => h9) rfl dX1_placeOf_11 ?_
    refine lv_iload_n hx hb dX1_placeOf_14 rfl (lv_at hl 0 rfl) ?_
    refine wd_iald (O := (dkO G)) hx hb hK hP (dk_lt (by omega)) 0 (dE_sl (by omega) _) rfl (i := j) rfl (by omega) (by decide) dX1_placeOf_15 ?_
    refine lv_iload_n hx hb dX1_placeOf_16 rfl (lv_at hl 2 rfl) ?_
    refine lv_icmp_ne (tgt := 22) hx hb dX1_placeOf_17 (by decide) (fun c3 => ?_) (fun c3 => ?_)
    · refine lv_iinc (v := nI (j + 1)) (lv' := [(2, .int (nI (j + 1))), (0, .ref (wa (dkO G) (13 + i))), (1, .int x)]) hx hb dX1_placeOf_22 hl (k := 0) rfl (nI_1 j) (by decide) rfl (fun ls hl => ?_)
      refine lv_goto (tgt := 2) hx hb dX1_placeOf_25 (by decide) ?_
      exact ih (j + 1) N v ls H locs ⟨by omega, by rw [h2]; simp only [pl, if_neg c3], hP, hS, lv_sub hl [0, 1, 2] rfl⟩
    · refine lv_iload_n hx hb dX1_placeOf_20 rfl (lv_at hl 0 rfl) ?_
      exact wd_iret (O := (dkO G)) hx hb hr hlocks hK hP hS rfl dX1_placeOf_21 (by rw [h2]; simp only [pl, if_pos c3, oI]) (rfl)
set_option maxRecDepth 100000 in
set_option maxHeartbeats 4000000 in
theorem c_X1_ask {l : Launch} {G : DG} (hj : wj (dkO G)) {M : Mem} (hok : dk_ok M) {i : Nat} (hi : i < 4) (sz : Nat) (x t : Int32) : Met l yX1_ask wsX1_ask ({ frames := 1, cells := 0, slots := 0, locals := 22 }) (va_Pc [.ref (wa (dkO G) (13 + i)), .int x, .int t] (wp (dkO G) sz M)) (wQv (dkO G) sz (askM M i x t)) 0 0 (wA (dkO G) sz) := by
  obtain ⟨hn6, hlen⟩ := hok i hi
  rcases op_cases (pl (M (17 + i)) x (rn M i) 0) with hd | ⟨j2, hd⟩
  · refine wd_ofW (O := (dkO G)) (M := M) (Qc := fun z => wQv (dkO G) z (askM M i x t)) (cc := cX1_ask) (maxL := 4) (ret := none) (lv := [(0, .ref (wa (dkO G) (13 + i))), (1, .int x), (2, .int t)]) (by decide) rfl (Nat.le_of_ble_eq_true rfl) rfl ?_
    intro p e s m below meth c ls hx hb hr hml hown hts hlocks hP hK hS hl
    have hi1 : ∀ w ∈ wsX10, w ∈ wsX1_ask := by decide +kernel
    refine lv_aload_n hx hb dX1_ask_0 rfl (lv_at hl 0 rfl) ?_
    refine lv_iload_n hx hb dX1_ask_1 rfl (lv_at hl 1 rfl) ?_
    refine wd_ci (O := (dkO G)) hS (va_runV (As := [.int x]) (rest := []) ⟨hx, hb, hml, hown, hts⟩ (c_X1_placeOf (G := G) hj hok (by omega) s.heap.size x) (cwV 1 hts gX1_ask_X1_placeOf rfl rfl rfl (by decide +kernel) ⟨Nat.le_of_ble_eq_true rfl, Nat.le_of_ble_eq_true rfl⟩) (wd_pre hK hP (dk_lt (by omega)) (dE_row (by omega)) rfl) rfl rfl hl.1 rfl (lv_room (Nat.le_of_ble_eq_true rfl)) dX1_ask_2 ⟨Nat.le_of_ble_eq_true rfl, Nat.le_of_ble_eq_true rfl⟩) (fun H locs hP hS => ?_)
    refine wd_re (y := (-1)) (by rw [hd]; rfl) ?_
    refine lv_istore_n (lv' := [(3, .int ((-1))), (0, .ref (wa (dkO G) (13 + i))), (1, .int x), (2, .int t)]) hx hb dX1_ask_5 rfl hl (by decide) rfl (fun ls hl => ?_)
    refine lv_iload_n hx hb dX1_ask_6 rfl (lv_at hl 0 rfl) ?_
    refine lv_iconst (v := (-1)) hx hb dX1_ask_7 (by decide) ?_
    refine lv_icmp_eq (tgt := 21) hx hb dX1_ask_8 (by decide) (fun c1 => ?_) (fun c1 => absurd rfl c1)
    refine lv_aload_n hx hb dX1_ask_21 rfl (lv_at hl 1 rfl) ?_
    refine wd_get (O := (dkO G)) (v := .int (M (13 + i) 2)) hx hb hts hi1 hown hK hP (dk_lt (by omega)) (dE_row (by omega)) rfl 2 (by decide) (hts (.fieldLink RX1 26 "LeaseDesk$Row" "length" "I") (by decide +kernel)) (fun _ h9 => h9) rfl dX1_ask_22 ?_
    refine wd_re (y := nI (rn M i)) (hlen) ?_
    refine lv_bipush (v := 6) hx hb dX1_ask_25 (by decide) ?_
    refine lv_icmp_ge (tgt := 60) hx hb dX1_ask_27 (by decide) (fun c2 => ?_) (fun c2 => ?_)
    · exact wd_vret (O := (dkO G)) hx hb hr hlocks hK hP hS dX1_ask_60 (by simp only [askM, hd, if_pos c2])
    · have hlt : rn M i < 6 := by have : rn M i ≠ 6 := fun e2 => c2 (by rw [e2]; decide); omega
      refine lv_aload_n hx hb dX1_ask_30 rfl (lv_at hl 1 rfl) ?_
      refine wd_get (O := (dkO G)) (v := .ref (wa (dkO G) (17 + i))) hx hb hts hi1 hown hK hP (dk_lt (by omega)) (dE_row (by omega)) rfl 0 (by decide) (hts (.fieldLink RX1 9 "LeaseDesk$Row" "slots" "[I") (by decide +kernel)) (fun _ h9 => h9) rfl dX1_ask_31 ?_
      refine lv_aload_n hx hb dX1_ask_34 rfl (lv_at hl 1 rfl) ?_
      refine wd_get (O := (dkO G)) (v := .int (M (13 + i) 2)) hx hb hts hi1 hown hK hP (dk_lt (by omega)) (dE_row (by omega)) rfl 2 (by decide) (hts (.fieldLink RX1 26 "LeaseDesk$Row" "length" "I") (by decide +kernel)) (fun _ h9 => h9) rfl dX1_ask_35 ?_
      refine wd_re (y := nI (rn M i)) (hlen) ?_
      refine lv_iload_n hx hb dX1_ask_38 rfl (lv_at hl 2 rfl) ?_
      refine wd_iast (O := (dkO G)) hj hx hb hK hP hS (dk_lt (by omega)) 0 (dE_sl (by omega)) rfl (i := (rn M i)) rfl hlt (by decide) dX1_ask_39 (fun H locs hP hS => ?_)
      refine lv_aload_n hx hb dX1_ask_40 rfl (lv_at hl 1 rfl) ?_
      refine wd_get (O := (dkO G)) (v := .ref (wa (dkO G) (21 + i))) hx hb hts hi1 hown hK hP (dk_lt (by omega)) (dE_row (by omega)) rfl 1 (by decide) (hts (.fieldLink RX1 15 "LeaseDesk$Row" "terms" "[I") (by decide +kernel)) (fun _ h9 => h9) rfl dX1_ask_41 ?_
      refine lv_aload_n hx hb dX1_ask_44 rfl (lv_at hl 1 rfl) ?_
      refine wd_get (O := (dkO G)) (v := .int ((up M (17 + i) ((rn M i)) x) (13 + i) 2)) hx hb hts hi1 hown hK hP (dk_lt (by omega)) (dE_row (by omega)) rfl 2 (by decide) (hts (.fieldLink RX1 26 "LeaseDesk$Row" "length" "I") (by decide +kernel)) (fun _ h9 => h9) rfl dX1_ask_45 ?_
      refine wd_re (y := nI (rn M i)) (by rw [up_n (by omega)]; exact hlen) ?_
      refine lv_iload_n hx hb dX1_ask_48 rfl (lv_at hl 3 rfl) ?_
      refine wd_iast (O := (dkO G)) hj hx hb hK hP hS (dk_lt (by omega)) 0 (dE_tm (by omega)) rfl (i := (rn M i)) rfl hlt (by decide) dX1_ask_49 (fun H locs hP hS => ?_)
      refine lv_aload_n hx hb dX1_ask_50 rfl (lv_at hl 1 rfl) ?_
      refine lv_dup hx hb dX1_ask_51 rfl ?_
      refine wd_get (O := (dkO G)) (v := .int ((up (up M (17 + i) ((rn M i)) x) (21 + i) ((rn M i)) t) (13 + i) 2)) hx hb hts hi1 hown hK hP (dk_lt (by omega)) (dE_row (by omega)) rfl 2 (by decide) (hts (.fieldLink RX1 26 "LeaseDesk$Row" "length" "I") (by decide +kernel)) (fun _ h9 => h9) rfl dX1_ask_52 ?_
      refine wd_re (y := nI (rn M i)) (by rw [up_n (by omega), up_n (by omega)]; exact hlen) ?_
      refine lv_iconst (v := 1) hx hb dX1_ask_55 (by decide) ?_
      refine lv_iadd hx hb dX1_ask_56 ?_
      refine wd_re (y := nI (rn M i + 1)) (nI_1 _) ?_
      refine wd_put (O := (dkO G)) (ty := .int) hj hx hb hts hi1 tyX1 tyX1_ok nmX1 hown hK hP hS (dk_lt (by omega)) (dE_row (by omega)) rfl 2 (by decide) (hts (.fieldLink RX1 26 "LeaseDesk$Row" "length" "I") (by decide +kernel)) (fun _ h9 => h9) rfl (by decide +kernel) rfl rfl (Nat.le_of_ble_eq_true rfl) ((dE_row (by omega)).trans rfl) dX1_ask_57 (fun H locs hP hS => ?_)
      exact wd_vret (O := (dkO G)) hx hb hr hlocks hK hP hS dX1_ask_60 (by simp only [askM, hd, if_neg c2])
  · obtain ⟨-, hj2, hg2, -⟩ := pl_some hd
    refine wd_ofW (O := (dkO G)) (M := M) (Qc := fun z => wQv (dkO G) z (askM M i x t)) (cc := cX1_ask) (maxL := 4) (ret := none) (lv := [(0, .ref (wa (dkO G) (13 + i))), (1, .int x), (2, .int t)]) (by decide) rfl (Nat.le_of_ble_eq_true rfl) rfl ?_
    intro p e s m below meth c ls hx hb hr hml hown hts hlocks hP hK hS hl
    have hi1 : ∀ w ∈ wsX10, w ∈ wsX1_ask := by decide +kernel
    refine lv_aload_n hx hb dX1_ask_0 rfl (lv_at hl 0 rfl) ?_
    refine lv_iload_n hx hb dX1_ask_1 rfl (lv_at hl 1 rfl) ?_
    refine wd_ci (O := (dkO G)) hS (va_runV (As := [.int x]) (rest := []) ⟨hx, hb, hml, hown, hts⟩ (c_X1_placeOf (G := G) hj hok (by omega) s.heap.size x) (cwV 1 hts gX1_ask_X1_placeOf rfl rfl rfl (by decide +kernel) ⟨Nat.le_of_ble_eq_true rfl, Nat.le_of_ble_eq_true rfl⟩) (wd_pre hK hP (dk_lt (by omega)) (dE_row (by omega)) rfl) rfl rfl hl.1 rfl (lv_room (Nat.le_of_ble_eq_true rfl)) dX1_ask_2 ⟨Nat.le_of_ble_eq_true rfl, Nat.le_of_ble_eq_true rfl⟩) (fun H locs hP hS => ?_)
    refine wd_re (y := nI j2) (by rw [hd]; rfl) ?_
    refine lv_istore_n (lv' := [(3, .int (nI j2)), (0, .ref (wa (dkO G) (13 + i))), (1, .int x), (2, .int t)]) hx hb dX1_ask_5 rfl hl (by decide) rfl (fun ls hl => ?_)
    refine lv_iload_n hx hb dX1_ask_6 rfl (lv_at hl 0 rfl) ?_
    refine lv_iconst (v := (-1)) hx hb dX1_ask_7 (by decide) ?_
    refine lv_icmp_eq (tgt := 21) hx hb dX1_ask_8 (by decide) (fun c3 => absurd c3 (nI_ne (by omega))) (fun c3 => ?_)
    refine lv_aload_n hx hb dX1_ask_11 rfl (lv_at hl 1 rfl) ?_
    refine wd_get (O := (dkO G)) (v := .ref (wa (dkO G) (21 + i))) hx hb hts hi1 hown hK hP (dk_lt (by omega)) (dE_row (by omega)) rfl 1 (by decide) (hts (.fieldLink RX1 15 "LeaseDesk$Row" "terms" "[I") (by decide +kernel)) (fun _ h9 => h9) rfl dX1_ask_12 ?_
    refine lv_iload_n hx hb dX1_ask_15 rfl (lv_at hl 0 rfl) ?_
    refine lv_iload_n hx hb dX1_ask_16 rfl (lv_at hl 3 rfl) ?_
    refine wd_iast (O := (dkO G)) hj hx hb hK hP hS (dk_lt (by omega)) 0 (dE_tm (by omega)) rfl (i := j2) rfl (by omega) (by decide) dX1_ask_17 (fun H locs hP hS => ?_)
    refine lv_goto (tgt := 60) hx hb dX1_ask_18 (by decide) ?_
    exact wd_vret (O := (dkO G)) hx hb hr hlocks hK hP hS dX1_ask_60 (by simp only [askM, hd])
set_option maxRecDepth 100000 in
set_option maxHeartbeats 4000000 in
theorem c_X1_drop {l : Launch} {G : DG} (hj : wj (dkO G)) {M : Mem} (hok : dk_ok M) {i : Nat} (hi : i < 4) (sz : Nat) (x : Int32) : Met l yX1_drop wsX1_drop ({ frames := 1, cells := 0, slots := 0, locals := 22 }) (va_Pc [.ref (wa (dkO G) (13 + i)), .int x] (wp (dkO G) sz M)) (wQi (dkO G) sz (drv M i x) (drp M i x)) 0 0 (wA (dkO G) sz) := by
  obtain ⟨hn6, hlen⟩ := hok i hi
  rcases op_cases (pl (M (17 + i)) x (rn M i) 0) with hd | ⟨j2, hd⟩
  · refine wd_ofW (O := (dkO G)) (M := M) (Qc := fun z => wQi (dkO G) z (drv M i x) (drp M i x)) (cc := cX1_drop) (maxL := 4) (ret := (some .boolean)) (lv := [(0, .ref (wa (dkO G) (13 + i))), (1, .int x)]) (by decide) rfl (Nat.le_of_ble_eq_true rfl) rfl ?_
    intro p e s m below meth c ls hx hb hr hml hown hts hlocks hP hK hS hl
    have hi1 : ∀ w ∈ wsX10, w ∈ wsX1_drop := by decide +kernel
    refine lv_aload_n hx hb dX1_drop_0 rfl (lv_at hl 0 rfl) ?_
    refine lv_iload_n hx hb dX1_drop_1 rfl (lv_at hl 1 rfl) ?_
    refine wd_ci (O := (dkO G)) hS (va_runV (As := [.int x]) (rest := []) ⟨hx, hb, hml, hown, hts⟩ (c_X1_placeOf (G := G) hj hok (by omega) s.heap.size x) (cwV 1 hts gX1_drop_X1_placeOf rfl rfl rfl (by decide +kernel) ⟨Nat.le_of_ble_eq_true rfl, Nat.le_of_ble_eq_true rfl⟩) (wd_pre hK hP (dk_lt (by omega)) (dE_row (by omega)) rfl) rfl rfl hl.1 rfl (lv_room (Nat.le_of_ble_eq_true rfl)) dX1_drop_2 ⟨Nat.le_of_ble_eq_true rfl, Nat.le_of_ble_eq_true rfl⟩) (fun H locs hP hS => ?_)
    refine wd_re (y := (-1)) (by rw [hd]; rfl) ?_
    refine lv_istore_n (lv' := [(2, .int ((-1))), (0, .ref (wa (dkO G) (13 + i))), (1, .int x)]) hx hb dX1_drop_5 rfl hl (by decide) rfl (fun ls hl => ?_)
    refine lv_iload_n hx hb dX1_drop_6 rfl (lv_at hl 0 rfl) ?_
    refine lv_iconst (v := (-1)) hx hb dX1_drop_7 (by decide) ?_
    refine lv_icmp_ne (tgt := 13) hx hb dX1_drop_8 (by decide) (fun c1 => absurd rfl c1) (fun c1 => ?_)
    refine lv_iconst (v := 0) hx hb dX1_drop_11 (by decide) ?_
    exact wd_iret (O := (dkO G)) hx hb hr hlocks hK hP hS (by decide) dX1_drop_12 (by simp only [drv, hd]) (by simp only [drp, hd])
  · obtain ⟨-, hj2, hg2, -⟩ := pl_some hd
    refine wd_ofW (O := (dkO G)) (M := M) (Qc := fun z => wQi (dkO G) z (drv M i x) (drp M i x)) (cc := cX1_drop) (maxL := 4) (ret := (some .boolean)) (lv := [(0, .ref (wa (dkO G) (13 + i))), (1, .int x)]) (by decide) rfl (Nat.le_of_ble_eq_true rfl) rfl ?_
    intro p e s m below meth c ls hx hb hr hml hown hts hlocks hP hK hS hl
    have hi1 : ∀ w ∈ wsX10, w ∈ wsX1_drop := by decide +kernel
    refine lv_aload_n hx hb dX1_drop_0 rfl (lv_at hl 0 rfl) ?_
    refine lv_iload_n hx hb dX1_drop_1 rfl (lv_at hl 1 rfl) ?_
    refine wd_ci (O := (dkO G)) hS (va_runV (As := [.int x]) (rest := []) ⟨hx, hb, hml, hown, hts⟩ (c_X1_placeOf (G := G) hj hok (by omega) s.heap.size x) (cwV 1 hts gX1_drop_X1_placeOf rfl rfl rfl (by decide +kernel) ⟨Nat.le_of_ble_eq_true rfl, Nat.le_of_ble_eq_true rfl⟩) (wd_pre hK hP (dk_lt (by omega)) (dE_row (by omega)) rfl) rfl rfl hl.1 rfl (lv_room (Nat.le_of_ble_eq_true rfl)) dX1_drop_2 ⟨Nat.le_of_ble_eq_true rfl, Nat.le_of_ble_eq_true rfl⟩) (fun H locs hP hS => ?_)
    refine wd_re (y := nI j2) (by rw [hd]; rfl) ?_
    refine lv_istore_n (lv' := [(2, .int (nI j2)), (0, .ref (wa (dkO G) (13 + i))), (1, .int x)]) hx hb dX1_drop_5 rfl hl (by decide) rfl (fun ls hl => ?_)
    refine lv_iload_n hx hb dX1_drop_6 rfl (lv_at hl 0 rfl) ?_
    refine lv_iconst (v := (-1)) hx hb dX1_drop_7 (by decide) ?_
    refine lv_icmp_ne (tgt := 13) hx hb dX1_drop_8 (by decide) (fun c2 => ?_) (fun c2 => absurd c2 (nI_ne (by omega)))
    refine lv_aload_n hx hb dX1_drop_13 rfl (lv_at hl 1 rfl) ?_
    refine lv_dup hx hb dX1_drop_14 rfl ?_
    refine wd_get (O := (dkO G)) (v := .int (M (13 + i) 2)) hx hb hts hi1 hown hK hP (dk_lt (by omega)) (dE_row (by omega)) rfl 2 (by decide) (hts (.fieldLink RX1 26 "LeaseDesk$Row" "length" "I") (by decide +kernel)) (fun _ h9 => h9) rfl dX1_drop_15 ?_
    refine wd_re (y := nI (rn M i)) (hlen) ?_
    refine lv_iconst (v := 1) hx hb dX1_drop_18 (by decide) ?_
    refine lv_isub hx hb dX1_drop_19 ?_
    refine wd_re (y := nI (rn M i - 1)) (by have := nI_pred (rn M i - 1); rw [show rn M i - 1 + 1 = rn M i by omega] at this; exact this) ?_
    refine wd_put (O := (dkO G)) (ty := .int) hj hx hb hts hi1 tyX1 tyX1_ok nmX1 hown hK hP hS (dk_lt (by omega)) (dE_row (by omega)) rfl 2 (by decide) (hts (.fieldLink RX1 26 "LeaseDesk$Row" "length" "I") (by decide +kernel)) (fun _ h9 => h9) rfl (by decide +kernel) rfl rfl (Nat.le_of_ble_eq_true rfl) ((dE_row (by omega)).trans rfl) dX1_drop_20 (fun H locs hP hS => ?_)
    refine lv_iload_n hx hb dX1_drop_23 rfl (lv_at hl 0 rfl) ?_
    refine lv_istore_n (lv' := [(3, .int (nI j2)), (2, .int (nI j2)), (0, .ref (wa (dkO G) (13 + i))), (1, .int x)]) hx hb dX1_drop_24 rfl hl (by decide) rfl (fun ls hl => ?_)
    refine wl_loop (pc := 25) (fun k j N v ls H locs => (j + k = rn M i - 1) ∧ (shf i k j N = drp M i x) ∧ (N (13 + i) 2 = nI (rn M i - 1)) ∧ va_P (wD (dkO G)) vwCl (wd (dkO G) N) H ∧ va_S (wA (dkO G) s.heap.size) s.heap H locs ∧ lv_has ls 4 [(3, .int (nI j)), (0, .ref (wa (dkO G) (13 + i)))]) ?_ ?_ (rn M i - 1 - j2) j2 (up M (13 + i) 2 (nI (rn M i - 1))) 0 ⟨by omega, by simp only [drp, hd], up_s _ _ _ _, hP, hS, lv_sub hl [0, 2] rfl⟩
    · rintro j N v ls H locs ⟨h1, h2, h3, hP, hS, hl⟩
      refine lv_iload_n hx hb dX1_drop_25 rfl (lv_at hl 0 rfl) ?_
      refine lv_aload_n hx hb dX1_drop_26 rfl (lv_at hl 1 rfl) ?_
      refine wd_get (O := (dkO G)) (v := .int (N (13 + i) 2)) hx hb hts hi1 hown hK hP (dk_lt (by omega)) (dE_row (by omega)) rfl 2 (by decide) (hts (.fieldLink RX1 26 "LeaseDesk$Row" "length" "I") (by decide +kernel)) (fun _ h9 => h9) rfl dX1_drop_27 ?_
      refine wd_re (y := nI (rn M i - 1)) (h3) ?_
      refine lv_icmp_ge (tgt := 67) hx hb dX1_drop_30 (by decide) (fun c3 => ?_) (fun c3 => absurd (nI_le (by omega) (by omega)) c3)
      refine lv_iconst (v := 1) hx hb dX1_drop_67 (by decide) ?_
      exact wd_iret (O := (dkO G)) hx hb hr hlocks hK hP hS (by decide) dX1_drop_68 (by simp only [drv, hd]) (h2)
    · rintro k j N v ls H locs ih ⟨h1, h2, h3, hP, hS, hl⟩
      refine lv_iload_n hx hb dX1_drop_25 rfl (lv_at hl 0 rfl) ?_
      refine lv_aload_n hx hb dX1_drop_26 rfl (lv_at hl 1 rfl) ?_
      refine wd_get (O := (dkO G)) (v := .int (N (13 + i) 2)) hx hb hts hi1 hown hK hP (dk_lt (by omega)) (dE_row (by omega)) rfl 2 (by decide) (hts (.fieldLink RX1 26 "LeaseDesk$Row" "length" "I") (by decide +kernel)) (fun _ h9 => h9) rfl dX1_drop_27 ?_
      refine wd_re (y := nI (rn M i - 1)) (h3) ?_
      refine lv_icmp_ge (tgt := 67) hx hb dX1_drop_30 (by decide) (fun c4 => absurd c4 (nI_ge (by omega) (by omega))) (fun c4 => ?_)
      refine lv_aload_n hx hb dX1_drop_33 rfl (lv_at hl 1 rfl) ?_
      refine wd_get (O := (dkO G)) (v := .ref (wa (dkO G) (17 + i))) hx hb hts hi1 hown hK hP (dk_lt (by omega)) (dE_row (by omega)) rfl 0 (by decide) (hts (.fieldLink RX1 9 "LeaseDesk$Row" "slots" "[I") (by decide +kernel)) (fun _ h9 => h9) rfl dX1_drop_34 ?_
      refine lv_iload_n hx hb dX1_drop_37 rfl (lv_at hl 0 rfl) ?_
      refine lv_aload_n hx hb dX1_drop_38 rfl (lv_at hl 1 rfl) ?_
      refine wd_get (O := (dkO G)) (v := .ref (wa (dkO G) (17 + i))) hx hb hts hi1 hown hK hP (dk_lt (by omega)) (dE_row (by omega)) rfl 0 (by decide) (hts (.fieldLink RX1 9 "LeaseDesk$Row" "slots" "[I") (by decide +kernel)) (fun _ h9 => h9) rfl dX1_drop_39 ?_
      refine lv_iload_n hx hb dX1_drop_42 rfl (lv_at hl 0 rfl) ?_
      refine lv_iconst (v := 1) hx hb dX1_drop_43 (by decide) ?_
      refine lv_iadd hx hb dX1_drop_44 ?_
      refine wd_re (y := nI (j + 1)) (nI_1 _) ?_
      refine wd_iald (O := (dkO G)) hx hb hK hP (dk_lt (by omega)) 0 (dE_sl (by omega) _) rfl (i := (j + 1)) rfl (by omega) (by decide) dX1_drop_45 ?_
      refine wd_iast (O := (dkO G)) hj hx hb hK hP hS (dk_lt (by omega)) 0 (dE_sl (by omega)) rfl (i := j) rfl (by omega) (by decide) dX1_drop_46 (fun H locs hP hS => ?_)
      refine lv_aload_n hx hb dX1_drop_47 rfl (lv_at hl 1 rfl) ?_
      refine wd_get (O := (dkO G)) (v := .ref (wa (dkO G) (21 + i))) hx hb hts hi1 hown hK hP (dk_lt (by omega)) (dE_row (by omega)) rfl 1 (by decide) (hts (.fieldLink RX1 15 "LeaseDesk$Row" "terms" "[I") (by decide +kernel)) (fun _ h9 => h9) rfl dX1_drop_48 ?_
      refine lv_iload_n hx hb dX1_drop_51 rfl (lv_at hl 0 rfl) ?_
      refine lv_aload_n hx hb dX1_drop_52 rfl (lv_at hl 1 rfl) ?_
      refine wd_get (O := (dkO G)) (v := .ref (wa (dkO G) (21 + i))) hx hb hts hi1 hown hK hP (dk_lt (by omega)) (dE_row (by omega)) rfl 1 (by decide) (hts (.fieldLink RX1 15 "LeaseDesk$Row" "terms" "[I") (by decide +kernel)) (fun _ h9 => h9) rfl dX1_drop_53 ?_
      refine lv_iload_n hx hb dX1_drop_56 rfl (lv_at hl 0 rfl) ?_
      refine lv_iconst (v := 1) hx hb dX1_drop_57 (by decide) ?_
      refine lv_iadd hx hb dX1_drop_58 ?_
      refine wd_re (y := nI (j + 1)) (nI_1 _) ?_
      refine wd_iald (O := (dkO G)) hx hb hK hP (dk_lt (by omega)) 0 (dE_tm (by omega) _) rfl (i := (j + 1)) rfl (by omega) (by decide) dX1_drop_59 ?_
      refine wd_iast (O := (dkO G)) hj hx hb hK hP hS (dk_lt (by omega)) 0 (dE_tm (by omega)) rfl (i := j) rfl (by omega) (by decide) dX1_drop_60 (fun H locs hP hS => ?_)
      refine lv_iinc (v := nI (j + 1)) (lv' := [(3, .int (nI (j + 1))), (0, .ref (wa (dkO G) (13 + i)))]) hx hb dX1_drop_61 hl (k := 0) rfl (nI_1 j) (by decide) rfl (fun ls hl => ?_)
      refine lv_goto (tgt := 25) hx hb dX1_drop_64 (by decide) ?_
      exact ih (j + 1) (up (up N (17 + i) j (N (17 + i) ((j + 1)))) (21 + i) j ((up N (17 + i) j (N (17 + i) ((j + 1)))) (21 + i) ((j + 1)))) v ls H locs ⟨by omega, by rw [← h2]; rfl, by rw [up_n (by omega), up_n (by omega)]; exact h3, hP, hS, lv_sub hl [0, 1] rfl⟩
end
section
/-! what the desk's larger methods do -/
def kcV (M : Mem) (x : Int32) (none' : Int32) (r : Nat) : Int32 := match dN x 4 with
  | none => none'
  | some j => M (9 + j) r
def untV (M : Mem) (x : Int32) : Int32 := match dN x 4 with
  | none => -1
  | some j => if M (9 + j) 1 = -1 then -1 else M (9 + j) 3
def wtV (M : Mem) (x k : Int32) : Int32 := match dN x 4 with
  | none => -1
  | some j => slA M j k
def blV (M : Mem) (x y : Int32) : Int32 := match osV M x with
  | none => 0
  | some i => match dN y 4 with
    | none => 0
    | some j => if M (9 + j) 1 = x then (if 9 * M (9 + j) 4 ≤ M (3 + i) 3 - M (9 + j) 5 then 0 else 1) else 0
def wrV (M : Mem) (x t : Int32) : Int32 := match dN x 4 with
  | none => 0
  | some j => if t < 1 then 0 else if M (9 + j) 6 ≤ t then 1 else 0
def wrM (M : Mem) (x t v : Int32) : Mem := match dN x 4 with
  | none => M
  | some j => if t < 1 then M else if M (9 + j) 6 ≤ t then up (up M (9 + j) 6 t) (9 + j) 7 v else M
def rtV (M : Mem) (x r : Int32) : Int32 := match osV M x with
  | none => 0
  | some _ => if r < 9 then 0 else if r ≤ 11 then 1 else 0
def rtM (M : Mem) (x r : Int32) : Mem := match osV M x with
  | none => M
  | some j => if r < 9 then M else if r ≤ 11 then up M (3 + j) 2 r else M
def cnV (M : Mem) (x y : Int32) : Int32 := match dN y 4 with
  | none => 0
  | some j => if drv M j x = 0 then 0 else 1
def cnM (M : Mem) (x y : Int32) : Mem := match dN y 4 with
  | none => M
  | some j => drp M j x
theorem ok_wr {M : Mem} {x t v : Int32} (h : dk_ok M) : dk_ok (wrM M x t v) := by
  unfold wrM
  cases hd : dN x 4 with
  | none => exact h
  | some j =>
    have hj := (dN_some (by decide) hd).1
    dsimp only
    by_cases e : t < 1
    · rw [if_pos e]; exact h
    · rw [if_neg e]
      by_cases e2 : M (9 + j) 6 ≤ t
      · rw [if_pos e2]; exact ok_up (ok_up h (by omega)) (by omega)
      · rw [if_neg e2]; exact h
theorem ok_rt {M : Mem} {x r : Int32} (h : dk_ok M) : dk_ok (rtM M x r) := by
  unfold rtM
  cases hd : osV M x with
  | none => exact h
  | some j =>
    have hj := (osV_some hd).1
    dsimp only
    by_cases e : r < 9
    · rw [if_pos e]; exact h
    · rw [if_neg e]
      by_cases e2 : r ≤ 11
      · rw [if_pos e2]; exact ok_up h (by omega)
      · rw [if_neg e2]; exact h
theorem ok_cn {M : Mem} {x y : Int32} (h : dk_ok M) : dk_ok (cnM M x y) := by
  unfold cnM
  cases hd : dN y 4 with
  | none => exact h
  | some j => exact ok_drp h (dN_some (by decide) hd).1
def mvM (d : Int32) : Nat → Nat → Mem → Mem
  | 0, _, N => N
  | k + 1, j, N => mvM d k (j + 1) (if N (3 + j) 0 = 0 then N else up N (3 + j) 3 (N (3 + j) 3 + N (3 + j) 2 * d))
theorem ok_mv {d : Int32} : ∀ (k j : Nat) {N : Mem}, j + k ≤ 6 → dk_ok N → dk_ok (mvM d k j N)
  | 0, _, N, _, h => h
  | k + 1, j, N, hk, h => by
    unfold mvM
    apply ok_mv k (j + 1) (by omega)
    by_cases e : N (3 + j) 0 = 0
    · rw [if_pos e]; exact h
    · rw [if_neg e]; exact ok_up h (by omega)
def dpA (x : Int32) : Nat → Nat → Mem → Mem
  | 0, _, N => N
  | k + 1, i, N => dpA x k (i + 1) (drp N i x)
theorem ok_dpA {x : Int32} : ∀ (k i : Nat) {N : Mem}, i + k ≤ 4 → dk_ok N → dk_ok (dpA x k i N)
  | 0, _, N, _, h => h
  | k + 1, i, N, hk, h => ok_dpA k (i + 1) (by omega) (ok_drp h (by omega))
def esM (x : Int32) : Nat → Nat → Mem → Mem
  | 0, _, N => N
  | k + 1, i, N => esM x k (i + 1) (if N (9 + i) 1 = x then psM N i else N)
def esV (x : Int32) : Nat → Nat → Mem → Int32 → Int32
  | 0, _, _, v => v
  | k + 1, i, N, v => esV x k (i + 1) (if N (9 + i) 1 = x then psM N i else N) (if N (9 + i) 1 = x then v + 1 else v)
theorem ok_esM {x : Int32} : ∀ (k i : Nat) {N : Mem}, i + k ≤ 4 → dk_ok N → dk_ok (esM x k i N)
  | 0, _, N, _, h => h
  | k + 1, i, N, hk, h => by
    unfold esM
    apply ok_esM k (i + 1) (by omega)
    by_cases e : N (9 + i) 1 = x
    · rw [if_pos e]; exact ok_ps h (by omega)
    · rw [if_neg e]; exact h
def endM (M : Mem) (j : Nat) (x : Int32) : Mem := up (esM x 4 0 (dpA x 4 0 M)) (3 + j) 0 0
def endV (M : Mem) (x : Int32) : Int32 := esV x 4 0 (dpA x 4 0 M) 0
theorem ok_end {M : Mem} {j : Nat} {x : Int32} (h : dk_ok M) (hj : j < 6) : dk_ok (endM M j x) := ok_up (ok_esM 4 0 (by omega) (ok_dpA 4 0 (by omega) h)) (by omega)
def slM : Nat → Nat → Mem → Mem
  | 0, _, N => N
  | k + 1, j, N => slM k (j + 1) (if N (3 + j) 0 = 0 then N else if N 0 2 - N (3 + j) 1 ≤ 50 then N else endM N j (nI j))
def slV : Nat → Nat → Mem → Int32 → Int32
  | 0, _, _, v => v
  | k + 1, j, N, v => slV k (j + 1) (if N (3 + j) 0 = 0 then N else if N 0 2 - N (3 + j) 1 ≤ 50 then N else endM N j (nI j)) (if N (3 + j) 0 = 0 then v else if N 0 2 - N (3 + j) 1 ≤ 50 then v else v + endV N (nI j))
theorem ok_sl : ∀ (k j : Nat) {N : Mem}, j + k ≤ 6 → dk_ok N → dk_ok (slM k j N)
  | 0, _, N, _, h => h
  | k + 1, j, N, hk, h => by
    unfold slM
    apply ok_sl k (j + 1) (by omega)
    by_cases e : N (3 + j) 0 = 0
    · rw [if_pos e]; exact h
    · rw [if_neg e]
      by_cases e2 : N 0 2 - N (3 + j) 1 ≤ 50
      · rw [if_pos e2]; exact h
      · rw [if_neg e2]; exact ok_end h (by omega)
def duM : Nat → Nat → Mem → Mem
  | 0, _, N => N
  | k + 1, i, N => duM k (i + 1) (if freV N i = 0 then (if N 0 2 < N (9 + i) 3 then N else psM N i) else N)
def duV : Nat → Nat → Mem → Int32 → Int32
  | 0, _, _, v => v
  | k + 1, i, N, v => duV k (i + 1) (if freV N i = 0 then (if N 0 2 < N (9 + i) 3 then N else psM N i) else N) (if freV N i = 0 then (if N 0 2 < N (9 + i) 3 then v else v + 1) else v)
theorem ok_du : ∀ (k i : Nat) {N : Mem}, i + k ≤ 4 → dk_ok N → dk_ok (duM k i N)
  | 0, _, N, _, h => h
  | k + 1, i, N, hk, h => by
    unfold duM
    apply ok_du k (i + 1) (by omega)
    by_cases e : freV N i = 0
    · rw [if_pos e]
      by_cases e2 : N 0 2 < N (9 + i) 3
      · rw [if_pos e2]; exact h
      · rw [if_neg e2]; exact ok_ps h (by omega)
    · rw [if_neg e]; exact h
/-- tick, past its test -/
def tiA (M : Mem) (d : Int32) : Mem := mvM d 6 0 (up M 0 2 (M 0 2 + d))
def tiM (M : Mem) (d : Int32) : Mem := duM 4 0 (slM 6 0 (tiA M d))
def tiV (M : Mem) (d : Int32) : Int32 := slV 6 0 (tiA M d) 0 + duV 4 0 (slM 6 0 (tiA M d)) 0
theorem ok_ti {M : Mem} {d : Int32} (h : dk_ok M) : dk_ok (tiM M d) := ok_du 4 0 (by omega) (ok_sl 6 0 (by omega) (ok_mv 6 0 (by omega) (ok_up h (by omega))))
def tcV (M : Mem) (d : Int32) : Int32 := if d < 0 then -1 else if d ≤ 100 then tiV M d else -1
def tcM (M : Mem) (d : Int32) : Mem := if d < 0 then M else if d ≤ 100 then tiM M d else M
theorem ok_tc {M : Mem} {d : Int32} (h : dk_ok M) : dk_ok (tcM M d) := by
  unfold tcM
  by_cases e : d < 0
  · rw [if_pos e]; exact h
  · rw [if_neg e]
    by_cases e2 : d ≤ 100
    · rw [if_pos e2]; exact ok_ti h
    · rw [if_neg e2]; exact h
end
section
set_option maxRecDepth 100000 in
set_option maxHeartbeats 4000000 in
theorem c_X3_knownLock_n {l : Launch} {G : DG} (hj : wj (dkO G)) {M : Mem} (hok : dk_ok M) (sz : Nat) (x : Int32) (hd : dN x 4 = none) : Met l yX3_knownLock wsX3_knownLock ({ frames := 0, cells := 0, slots := 0, locals := 0 }) (va_Pc [.ref (wa (dkO G) 0), .int x] (wp (dkO G) sz M)) (wQq (dkO G) sz (none) (M)) 0 0 (wA (dkO G) sz) := by
  refine wd_ofW (O := (dkO G)) (M := M) (Qc := fun z => wQq (dkO G) z (none) (M)) (cc := cX3_knownLock) (maxL := 2) (ret := (some (.object "LeaseDesk$Lock"))) (lv := [(0, .ref (wa (dkO G) 0)), (1, .int x)]) (by decide) rfl (Nat.le_of_ble_eq_true rfl) rfl ?_
  intro p e s m below meth c ls hx hb hr hml hown hts hlocks hP hK hS hl
  refine lv_iload_n hx hb dX3_knownLock_0 rfl (lv_at hl 1 rfl) ?_
  refine lv_if_lt (tgt := 9) hx hb dX3_knownLock_1 (by decide) (fun c1 => ?_) (fun c1 => ?_)
  · refine lv_null hx hb dX3_knownLock_9 ?_
    refine lv_goto (tgt := 19) hx hb dX3_knownLock_10 (by decide) ?_
    exact wd_aret (O := (dkO G)) hx hb hr hlocks hK hP hS dX3_knownLock_19 (rfl) (rfl)
  · refine lv_iload_n hx hb dX3_knownLock_4 rfl (lv_at hl 1 rfl) ?_
    refine lv_iconst (v := 4) hx hb dX3_knownLock_5 (by decide) ?_
    refine lv_icmp_lt (tgt := 13) hx hb dX3_knownLock_6 (by decide) (fun c2 => absurd c2 (Int32.not_lt.mpr (dN_none hd c1))) (fun c2 => ?_)
    refine lv_null hx hb dX3_knownLock_9 ?_
    refine lv_goto (tgt := 19) hx hb dX3_knownLock_10 (by decide) ?_
    exact wd_aret (O := (dkO G)) hx hb hr hlocks hK hP hS dX3_knownLock_19 (rfl) (rfl)
set_option maxRecDepth 100000 in
set_option maxHeartbeats 4000000 in
theorem c_X3_knownLock_s {l : Launch} {G : DG} (hj : wj (dkO G)) {M : Mem} (hok : dk_ok M) {j : Nat} (hj4 : j < 4) (sz : Nat) : Met l yX3_knownLock wsX3_knownLock ({ frames := 0, cells := 0, slots := 0, locals := 0 }) (va_Pc [.ref (wa (dkO G) 0), .int (nI j)] (wp (dkO G) sz M)) (wQq (dkO G) sz (some (wa (dkO G) (9 + j))) (M)) 0 0 (wA (dkO G) sz) := by
  refine wd_ofW (O := (dkO G)) (M := M) (Qc := fun z => wQq (dkO G) z (some (wa (dkO G) (9 + j))) (M)) (cc := cX3_knownLock) (maxL := 2) (ret := (some (.object "LeaseDesk$Lock"))) (lv := [(0, .ref (wa (dkO G) 0)), (1, .int (nI j))]) (by decide) rfl (Nat.le_of_ble_eq_true rfl) rfl ?_
  intro p e s m below meth c ls hx hb hr hml hown hts hlocks hP hK hS hl
  have hi3 : ∀ w ∈ wsX30, w ∈ wsX3_knownLock := by decide +kernel
  refine lv_iload_n hx hb dX3_knownLock_0 rfl (lv_at hl 1 rfl) ?_
  refine lv_if_lt (tgt := 9) hx hb dX3_knownLock_1 (by decide) (fun c1 => absurd c1 (nI_pos (by omega))) (fun c1 => ?_)
  refine lv_iload_n hx hb dX3_knownLock_4 rfl (lv_at hl 1 rfl) ?_
  refine lv_iconst (v := 4) hx hb dX3_knownLock_5 (by decide) ?_
  refine lv_icmp_lt (tgt := 13) hx hb dX3_knownLock_6 (by decide) (fun c2 => ?_) (fun c2 => absurd (show nI j < nI 4 from nI_lt hj4 (by decide)) c2)
  refine lv_aload_n hx hb dX3_knownLock_13 rfl (lv_at hl 0 rfl) ?_
  refine wd_get (O := (dkO G)) (v := .ref (wa (dkO G) 2)) hx hb hts hi3 hown hK hP (dk_lt (by omega)) dE_0 rfl 1 (by decide) (hts (.fieldLink RX3 18 "LeaseDesk" "locks" "[LLeaseDesk$Lock;") (by decide +kernel)) (fun _ h9 => h9) rfl dX3_knownLock_14 ?_
  refine lv_iload_n hx hb dX3_knownLock_17 rfl (lv_at hl 1 rfl) ?_
  refine wd_aald (O := (dkO G)) (b := wa (dkO G) (9 + j)) hx hb hK hP (dk_lt (by omega)) 2 dE_2 rfl (i := j) rfl (by omega) (by decide) (if_pos (by omega)) dX3_knownLock_18 ?_
  exact wd_aret (O := (dkO G)) hx hb hr hlocks hK hP hS dX3_knownLock_19 (rfl) (rfl)
set_option maxRecDepth 100000 in
set_option maxHeartbeats 4000000 in
theorem c_X3_openSession_n {l : Launch} {G : DG} (hj : wj (dkO G)) {M : Mem} (hok : dk_ok M) (sz : Nat) (x : Int32) (ho : osV M x = none) : Met l yX3_openSession wsX3_openSession ({ frames := 0, cells := 0, slots := 0, locals := 0 }) (va_Pc [.ref (wa (dkO G) 0), .int x] (wp (dkO G) sz M)) (wQq (dkO G) sz (none) (M)) 0 0 (wA (dkO G) sz) := by
  rcases op_cases (dN x 6) with hd | ⟨j2, hd⟩
  · refine wd_ofW (O := (dkO G)) (M := M) (Qc := fun z => wQq (dkO G) z (none) (M)) (cc := cX3_openSession) (maxL := 2) (ret := (some (.object "LeaseDesk$Session"))) (lv := [(0, .ref (wa (dkO G) 0)), (1, .int x)]) (by decide) rfl (Nat.le_of_ble_eq_true rfl) rfl ?_
    intro p e s m below meth c ls hx hb hr hml hown hts hlocks hP hK hS hl
    have hi2 : ∀ w ∈ wsX20, w ∈ wsX3_openSession := by decide +kernel
    have hi3 : ∀ w ∈ wsX30, w ∈ wsX3_openSession := by decide +kernel
    refine lv_iload_n hx hb dX3_openSession_0 rfl (lv_at hl 1 rfl) ?_
    refine lv_if_lt (tgt := 22) hx hb dX3_openSession_1 (by decide) (fun c1 => ?_) (fun c1 => ?_)
    · refine lv_null hx hb dX3_openSession_22 ?_
      exact wd_aret (O := (dkO G)) hx hb hr hlocks hK hP hS dX3_openSession_23 (rfl) (rfl)
    · refine lv_iload_n hx hb dX3_openSession_4 rfl (lv_at hl 1 rfl) ?_
      refine lv_bipush (v := 6) hx hb dX3_openSession_5 (by decide) ?_
      refine lv_icmp_ge (tgt := 22) hx hb dX3_openSession_7 (by decide) (fun c2 => ?_) (fun c2 => absurd (dN_none hd c1) c2)
      refine lv_null hx hb dX3_openSession_22 ?_
      exact wd_aret (O := (dkO G)) hx hb hr hlocks hK hP hS dX3_openSession_23 (rfl) (rfl)
  · obtain ⟨hj2, rfl⟩ := dN_some (by decide) hd
    have hcl : M (3 + j2) 0 = 0 := by
      by_cases e : M (3 + j2) 0 = 0
      · exact e
      · simp [osV, hd, e] at ho
    refine wd_ofW (O := (dkO G)) (M := M) (Qc := fun z => wQq (dkO G) z (none) (M)) (cc := cX3_openSession) (maxL := 2) (ret := (some (.object "LeaseDesk$Session"))) (lv := [(0, .ref (wa (dkO G) 0)), (1, .int (nI j2))]) (by decide) rfl (Nat.le_of_ble_eq_true rfl) rfl ?_
    intro p e s m below meth c ls hx hb hr hml hown hts hlocks hP hK hS hl
    have hi2 : ∀ w ∈ wsX20, w ∈ wsX3_openSession := by decide +kernel
    have hi3 : ∀ w ∈ wsX30, w ∈ wsX3_openSession := by decide +kernel
    refine lv_iload_n hx hb dX3_openSession_0 rfl (lv_at hl 1 rfl) ?_
    refine lv_if_lt (tgt := 22) hx hb dX3_openSession_1 (by decide) (fun c3 => absurd c3 (nI_pos (by omega))) (fun c3 => ?_)
    refine lv_iload_n hx hb dX3_openSession_4 rfl (lv_at hl 1 rfl) ?_
    refine lv_bipush (v := 6) hx hb dX3_openSession_5 (by decide) ?_
    refine lv_icmp_ge (tgt := 22) hx hb dX3_openSession_7 (by decide) (fun c4 => absurd c4 (nI_ge hj2 (by decide))) (fun c4 => ?_)
    refine lv_aload_n hx hb dX3_openSession_10 rfl (lv_at hl 0 rfl) ?_
    refine wd_get (O := (dkO G)) (v := .ref (wa (dkO G) 1)) hx hb hts hi3 hown hK hP (dk_lt (by omega)) dE_0 rfl 0 (by decide) (hts (.fieldLink RX3 11 "LeaseDesk" "sessions" "[LLeaseDesk$Session;") (by decide +kernel)) (fun _ h9 => h9) rfl dX3_openSession_11 ?_
    refine lv_iload_n hx hb dX3_openSession_14 rfl (lv_at hl 1 rfl) ?_
    refine wd_aald (O := (dkO G)) (b := wa (dkO G) (3 + j2)) hx hb hK hP (dk_lt (by omega)) 1 dE_1 rfl (i := j2) rfl (by omega) (by decide) (if_pos (by omega)) dX3_openSession_15 ?_
    refine wd_get (O := (dkO G)) (v := .int (M (3 + j2) 0)) hx hb hts hi2 hown hK hP (dk_lt (by omega)) (dE_ses (by omega)) rfl 0 (by decide) (hts (.fieldLink RX3 27 "LeaseDesk$Session" "isOpen" "Z") (by decide +kernel)) (fun _ h9 => h9) rfl dX3_openSession_16 ?_
    refine lv_if_ne (tgt := 24) hx hb dX3_openSession_19 (by decide) (fun c5 => absurd hcl c5) (fun c5 => ?_)
    refine lv_null hx hb dX3_openSession_22 ?_
    exact wd_aret (O := (dkO G)) hx hb hr hlocks hK hP hS dX3_openSession_23 (rfl) (rfl)
set_option maxRecDepth 100000 in
set_option maxHeartbeats 4000000 in
theorem c_X3_openSession_s {l : Launch} {G : DG} (hj : wj (dkO G)) {M : Mem} (hok : dk_ok M) {j : Nat} (hj6 : j < 6) (hon : M (3 + j) 0 ≠ 0) (sz : Nat) : Met l yX3_openSession wsX3_openSession ({ frames := 0, cells := 0, slots := 0, locals := 0 }) (va_Pc [.ref (wa (dkO G) 0), .int (nI j)] (wp (dkO G) sz M)) (wQq (dkO G) sz (some (wa (dkO G) (3 + j))) (M)) 0 0 (wA (dkO G) sz) := by
  refine wd_ofW (O := (dkO G)) (M := M) (Qc := fun z => wQq (dkO G) z (some (wa (dkO G) (3 + j))) (M)) (cc := cX3_openSession) (maxL := 2) (ret := (some (.object "LeaseDesk$Session"))) (lv := [(0, .ref (wa (dkO G) 0)), (1, .int (nI j))]) (by decide) rfl (Nat.le_of_ble_eq_true rfl) rfl ?_
  intro p e s m below meth c ls hx hb hr hml hown hts hlocks hP hK hS hl
  have hi2 : ∀ w ∈ wsX20, w ∈ wsX3_openSession := by decide +kernel
  have hi3 : ∀ w ∈ wsX30, w ∈ wsX3_openSession := by decide +kernel
  refine lv_iload_n hx hb dX3_openSession_0 rfl (lv_at hl 1 rfl) ?_
  refine lv_if_lt (tgt := 22) hx hb dX3_openSession_1 (by decide) (fun c1 => absurd c1 (nI_pos (by omega))) (fun c1 => ?_)
  refine lv_iload_n hx hb dX3_openSession_4 rfl (lv_at hl 1 rfl) ?_
  refine lv_bipush (v := 6) hx hb dX3_openSession_5 (by decide) ?_
  refine lv_icmp_ge (tgt := 22) hx hb dX3_openSession_7 (by decide) (fun c2 => absurd c2 (nI_ge hj6 (by decide))) (fun c2 => ?_)
  refine lv_aload_n hx hb dX3_openSession_10 rfl (lv_at hl 0 rfl) ?_
  refine wd_get (O := (dkO G)) (v := .ref (wa (dkO G) 1)) hx hb hts hi3 hown hK hP (dk_lt (by omega)) dE_0 rfl 0 (by decide) (hts (.fieldLink RX3 11 "LeaseDesk" "sessions" "[LLeaseDesk$Session;") (by decide +kernel)) (fun _ h9 => h9) rfl dX3_openSession_11 ?_
  refine lv_iload_n hx hb dX3_openSession_14 rfl (lv_at hl 1 rfl) ?_
  refine wd_aald (O := (dkO G)) (b := wa (dkO G) (3 + j)) hx hb hK hP (dk_lt (by omega)) 1 dE_1 rfl (i := j) rfl (by omega) (by decide) (if_pos (by omega)) dX3_openSession_15 ?_
  refine wd_get (O := (dkO G)) (v := .int (M (3 + j) 0)) hx hb hts hi2 hown hK hP (dk_lt (by omega)) (dE_ses (by omega)) rfl 0 (by decide) (hts (.fieldLink RX3 27 "LeaseDesk$Session" "isOpen" "Z") (by decide +kernel)) (fun _ h9 => h9) rfl dX3_openSession_16 ?_
  refine lv_if_ne (tgt := 24) hx hb dX3_openSession_19 (by decide) (fun c3 => ?_) (fun c3 => absurd c3 hon)
  refine lv_aload_n hx hb dX3_openSession_24 rfl (lv_at hl 0 rfl) ?_
  refine wd_get (O := (dkO G)) (v := .ref (wa (dkO G) 1)) hx hb hts hi3 hown hK hP (dk_lt (by omega)) dE_0 rfl 0 (by decide) (hts (.fieldLink RX3 11 "LeaseDesk" "sessions" "[LLeaseDesk$Session;") (by decide +kernel)) (fun _ h9 => h9) rfl dX3_openSession_25 ?_
  refine lv_iload_n hx hb dX3_openSession_28 rfl (lv_at hl 1 rfl) ?_
  refine wd_aald (O := (dkO G)) (b := wa (dkO G) (3 + j)) hx hb hK hP (dk_lt (by omega)) 1 dE_1 rfl (i := j) rfl (by omega) (by decide) (if_pos (by omega)) dX3_openSession_29 ?_
  exact wd_aret (O := (dkO G)) hx hb hr hlocks hK hP hS dX3_openSession_30 (rfl) (rfl)
set_option maxRecDepth 100000 in
set_option maxHeartbeats 4000000 in
theorem c_X3_holder {l : Launch} {G : DG} (hj : wj (dkO G)) {M : Mem} (hok : dk_ok M) (sz : Nat) (x : Int32) : Met l yX3_holder wsX3_holder ({ frames := 1, cells := 0, slots := 0, locals := 21 }) (va_Pc [.ref (wa (dkO G) 0), .int x] (wp (dkO G) sz M)) (wQi (dkO G) sz (kcV M x (-1) 1) (M)) 0 0 (wA (dkO G) sz) := by
  rcases op_cases (dN x 4) with hd | ⟨j2, hd⟩
  · refine wd_ofW (O := (dkO G)) (M := M) (Qc := fun z => wQi (dkO G) z (kcV M x (-1) 1) (M)) (cc := cX3_holder) (maxL := 3) (ret := (some .int)) (lv := [(0, .ref (wa (dkO G) 0)), (1, .int x)]) (by decide) rfl (Nat.le_of_ble_eq_true rfl) rfl ?_
    intro p e s m below meth c ls hx hb hr hml hown hts hlocks hP hK hS hl
    have hi0 : ∀ w ∈ wsX00, w ∈ wsX3_holder := by decide +kernel
    refine lv_aload_n hx hb dX3_holder_0 rfl (lv_at hl 0 rfl) ?_
    refine lv_iload_n hx hb dX3_holder_1 rfl (lv_at hl 1 rfl) ?_
    refine wd_cqn (O := (dkO G)) hS (va_runV (As := [.int x]) (rest := []) ⟨hx, hb, hml, hown, hts⟩ (c_X3_knownLock_n (G := G) hj hok s.heap.size x hd) (cwV 1 hts gX3_holder_X3_knownLock rfl rfl rfl (by decide +kernel) ⟨Nat.le_of_ble_eq_true rfl, Nat.le_of_ble_eq_true rfl⟩) (wd_pre hK hP (dk_lt (by omega)) dE_0 rfl) rfl rfl hl.1 rfl (lv_room (Nat.le_of_ble_eq_true rfl)) dX3_holder_2 ⟨Nat.le_of_ble_eq_true rfl, Nat.le_of_ble_eq_true rfl⟩) (fun H locs hP hS => ?_)
    refine lv_astore_nN (lv' := [(2, .null), (0, .ref (wa (dkO G) 0)), (1, .int x)]) hx hb dX3_holder_5 rfl hl (by decide) rfl (fun ls hl => ?_)
    refine lv_aload_nN hx hb dX3_holder_6 rfl (lv_at hl 0 rfl) ?_
    refine lv_ifnonnullN hx hb dX3_holder_7 ?_
    refine lv_iconst (v := (-1)) hx hb dX3_holder_10 (by decide) ?_
    refine lv_goto (tgt := 18) hx hb dX3_holder_11 (by decide) ?_
    exact wd_iret (O := (dkO G)) hx hb hr hlocks hK hP hS rfl dX3_holder_18 (by simp only [kcV, hd]) (rfl)
  · obtain ⟨hj2, rfl⟩ := dN_some (by decide) hd
    refine wd_ofW (O := (dkO G)) (M := M) (Qc := fun z => wQi (dkO G) z (kcV M (nI j2) (-1) 1) (M)) (cc := cX3_holder) (maxL := 3) (ret := (some .int)) (lv := [(0, .ref (wa (dkO G) 0)), (1, .int (nI j2))]) (by decide) rfl (Nat.le_of_ble_eq_true rfl) rfl ?_
    intro p e s m below meth c ls hx hb hr hml hown hts hlocks hP hK hS hl
    have hi0 : ∀ w ∈ wsX00, w ∈ wsX3_holder := by decide +kernel
    refine lv_aload_n hx hb dX3_holder_0 rfl (lv_at hl 0 rfl) ?_
    refine lv_iload_n hx hb dX3_holder_1 rfl (lv_at hl 1 rfl) ?_
    refine wd_cqs (O := (dkO G)) hS (va_runV (As := [.int (nI j2)]) (rest := []) ⟨hx, hb, hml, hown, hts⟩ (c_X3_knownLock_s (G := G) hj hok (by omega) s.heap.size) (cwV 1 hts gX3_holder_X3_knownLock rfl rfl rfl (by decide +kernel) ⟨Nat.le_of_ble_eq_true rfl, Nat.le_of_ble_eq_true rfl⟩) (wd_pre hK hP (dk_lt (by omega)) dE_0 rfl) rfl rfl hl.1 rfl (lv_room (Nat.le_of_ble_eq_true rfl)) dX3_holder_2 ⟨Nat.le_of_ble_eq_true rfl, Nat.le_of_ble_eq_true rfl⟩) (fun H locs hP hS => ?_)
    refine lv_astore_n (lv' := [(2, .ref (wa (dkO G) (9 + j2))), (0, .ref (wa (dkO G) 0)), (1, .int (nI j2))]) hx hb dX3_holder_5 rfl hl (by decide) rfl (fun ls hl => ?_)
    refine lv_aload_n hx hb dX3_holder_6 rfl (lv_at hl 0 rfl) ?_
    refine lv_ifnonnull (tgt := 14) hx hb dX3_holder_7 (by decide) ?_
    refine lv_aload_n hx hb dX3_holder_14 rfl (lv_at hl 0 rfl) ?_
    refine wd_get (O := (dkO G)) (v := .int (M (9 + j2) 1)) hx hb hts hi0 hown hK hP (dk_lt (by omega)) (dE_lock (by omega)) rfl 1 (by decide) (hts (.fieldLink RX3 78 "LeaseDesk$Lock" "holder" "I") (by decide +kernel)) (fun _ h9 => h9) rfl dX3_holder_15 ?_
    exact wd_iret (O := (dkO G)) hx hb hr hlocks hK hP hS rfl dX3_holder_18 (by simp only [kcV, hd]) (rfl)
set_option maxRecDepth 100000 in
set_option maxHeartbeats 4000000 in
theorem c_X3_token {l : Launch} {G : DG} (hj : wj (dkO G)) {M : Mem} (hok : dk_ok M) (sz : Nat) (x : Int32) : Met l yX3_token wsX3_token ({ frames := 1, cells := 0, slots := 0, locals := 21 }) (va_Pc [.ref (wa (dkO G) 0), .int x] (wp (dkO G) sz M)) (wQi (dkO G) sz (kcV M x (-1) 2) (M)) 0 0 (wA (dkO G) sz) := by
  rcases op_cases (dN x 4) with hd | ⟨j2, hd⟩
  · refine wd_ofW (O := (dkO G)) (M := M) (Qc := fun z => wQi (dkO G) z (kcV M x (-1) 2) (M)) (cc := cX3_token) (maxL := 3) (ret := (some .int)) (lv := [(0, .ref (wa (dkO G) 0)), (1, .int x)]) (by decide) rfl (Nat.le_of_ble_eq_true rfl) rfl ?_
    intro p e s m below meth c ls hx hb hr hml hown hts hlocks hP hK hS hl
    have hi0 : ∀ w ∈ wsX00, w ∈ wsX3_token := by decide +kernel
    refine lv_aload_n hx hb dX3_token_0 rfl (lv_at hl 0 rfl) ?_
    refine lv_iload_n hx hb dX3_token_1 rfl (lv_at hl 1 rfl) ?_
    refine wd_cqn (O := (dkO G)) hS (va_runV (As := [.int x]) (rest := []) ⟨hx, hb, hml, hown, hts⟩ (c_X3_knownLock_n (G := G) hj hok s.heap.size x hd) (cwV 1 hts gX3_token_X3_knownLock rfl rfl rfl (by decide +kernel) ⟨Nat.le_of_ble_eq_true rfl, Nat.le_of_ble_eq_true rfl⟩) (wd_pre hK hP (dk_lt (by omega)) dE_0 rfl) rfl rfl hl.1 rfl (lv_room (Nat.le_of_ble_eq_true rfl)) dX3_token_2 ⟨Nat.le_of_ble_eq_true rfl, Nat.le_of_ble_eq_true rfl⟩) (fun H locs hP hS => ?_)
    refine lv_astore_nN (lv' := [(2, .null), (0, .ref (wa (dkO G) 0)), (1, .int x)]) hx hb dX3_token_5 rfl hl (by decide) rfl (fun ls hl => ?_)
    refine lv_aload_nN hx hb dX3_token_6 rfl (lv_at hl 0 rfl) ?_
    refine lv_ifnonnullN hx hb dX3_token_7 ?_
    refine lv_iconst (v := (-1)) hx hb dX3_token_10 (by decide) ?_
    refine lv_goto (tgt := 18) hx hb dX3_token_11 (by decide) ?_
    exact wd_iret (O := (dkO G)) hx hb hr hlocks hK hP hS rfl dX3_token_18 (by simp only [kcV, hd]) (rfl)
  · obtain ⟨hj2, rfl⟩ := dN_some (by decide) hd
    refine wd_ofW (O := (dkO G)) (M := M) (Qc := fun z => wQi (dkO G) z (kcV M (nI j2) (-1) 2) (M)) (cc := cX3_token) (maxL := 3) (ret := (some .int)) (lv := [(0, .ref (wa (dkO G) 0)), (1, .int (nI j2))]) (by decide) rfl (Nat.le_of_ble_eq_true rfl) rfl ?_
    intro p e s m below meth c ls hx hb hr hml hown hts hlocks hP hK hS hl
    have hi0 : ∀ w ∈ wsX00, w ∈ wsX3_token := by decide +kernel
    refine lv_aload_n hx hb dX3_token_0 rfl (lv_at hl 0 rfl) ?_
    refine lv_iload_n hx hb dX3_token_1 rfl (lv_at hl 1 rfl) ?_
    refine wd_cqs (O := (dkO G)) hS (va_runV (As := [.int (nI j2)]) (rest := []) ⟨hx, hb, hml, hown, hts⟩ (c_X3_knownLock_s (G := G) hj hok (by omega) s.heap.size) (cwV 1 hts gX3_token_X3_knownLock rfl rfl rfl (by decide +kernel) ⟨Nat.le_of_ble_eq_true rfl, Nat.le_of_ble_eq_true rfl⟩) (wd_pre hK hP (dk_lt (by omega)) dE_0 rfl) rfl rfl hl.1 rfl (lv_room (Nat.le_of_ble_eq_true rfl)) dX3_token_2 ⟨Nat.le_of_ble_eq_true rfl, Nat.le_of_ble_eq_true rfl⟩) (fun H locs hP hS => ?_)
    refine lv_astore_n (lv' := [(2, .ref (wa (dkO G) (9 + j2))), (0, .ref (wa (dkO G) 0)), (1, .int (nI j2))]) hx hb dX3_token_5 rfl hl (by decide) rfl (fun ls hl => ?_)
    refine lv_aload_n hx hb dX3_token_6 rfl (lv_at hl 0 rfl) ?_
    refine lv_ifnonnull (tgt := 14) hx hb dX3_token_7 (by decide) ?_
    refine lv_aload_n hx hb dX3_token_14 rfl (lv_at hl 0 rfl) ?_
    refine wd_get (O := (dkO G)) (v := .int (M (9 + j2) 2)) hx hb hts hi0 hown hK hP (dk_lt (by omega)) (dE_lock (by omega)) rfl 2 (by decide) (hts (.fieldLink RX3 88 "LeaseDesk$Lock" "token" "I") (by decide +kernel)) (fun _ h9 => h9) rfl dX3_token_15 ?_
    exact wd_iret (O := (dkO G)) hx hb hr hlocks hK hP hS rfl dX3_token_18 (by simp only [kcV, hd]) (rfl)
set_option maxRecDepth 100000 in
set_option maxHeartbeats 4000000 in
theorem c_X3_stored {l : Launch} {G : DG} (hj : wj (dkO G)) {M : Mem} (hok : dk_ok M) (sz : Nat) (x : Int32) : Met l yX3_stored wsX3_stored ({ frames := 1, cells := 0, slots := 0, locals := 21 }) (va_Pc [.ref (wa (dkO G) 0), .int x] (wp (dkO G) sz M)) (wQi (dkO G) sz (kcV M x 0 7) (M)) 0 0 (wA (dkO G) sz) := by
  rcases op_cases (dN x 4) with hd | ⟨j2, hd⟩
  · refine wd_ofW (O := (dkO G)) (M := M) (Qc := fun z => wQi (dkO G) z (kcV M x 0 7) (M)) (cc := cX3_stored) (maxL := 3) (ret := (some .int)) (lv := [(0, .ref (wa (dkO G) 0)), (1, .int x)]) (by decide) rfl (Nat.le_of_ble_eq_true rfl) rfl ?_
    intro p e s m below meth c ls hx hb hr hml hown hts hlocks hP hK hS hl
    have hi0 : ∀ w ∈ wsX00, w ∈ wsX3_stored := by decide +kernel
    refine lv_aload_n hx hb dX3_stored_0 rfl (lv_at hl 0 rfl) ?_
    refine lv_iload_n hx hb dX3_stored_1 rfl (lv_at hl 1 rfl) ?_
    refine wd_cqn (O := (dkO G)) hS (va_runV (As := [.int x]) (rest := []) ⟨hx, hb, hml, hown, hts⟩ (c_X3_knownLock_n (G := G) hj hok s.heap.size x hd) (cwV 1 hts gX3_stored_X3_knownLock rfl rfl rfl (by decide +kernel) ⟨Nat.le_of_ble_eq_true rfl, Nat.le_of_ble_eq_true rfl⟩) (wd_pre hK hP (dk_lt (by omega)) dE_0 rfl) rfl rfl hl.1 rfl (lv_room (Nat.le_of_ble_eq_true rfl)) dX3_stored_2 ⟨Nat.le_of_ble_eq_true rfl, Nat.le_of_ble_eq_true rfl⟩) (fun H locs hP hS => ?_)
    refine lv_astore_nN (lv' := [(2, .null), (0, .ref (wa (dkO G) 0)), (1, .int x)]) hx hb dX3_stored_5 rfl hl (by decide) rfl (fun ls hl => ?_)
    refine lv_aload_nN hx hb dX3_stored_6 rfl (lv_at hl 0 rfl) ?_
    refine lv_ifnonnullN hx hb dX3_stored_7 ?_
    refine lv_iconst (v := 0) hx hb dX3_stored_10 (by decide) ?_
    refine lv_goto (tgt := 18) hx hb dX3_stored_11 (by decide) ?_
    exact wd_iret (O := (dkO G)) hx hb hr hlocks hK hP hS rfl dX3_stored_18 (by simp only [kcV, hd]) (rfl)
  · obtain ⟨hj2, rfl⟩ := dN_some (by decide) hd
    refine wd_ofW (O := (dkO G)) (M := M) (Qc := fun z => wQi (dkO G) z (kcV M (nI j2) 0 7) (M)) (cc := cX3_stored) (maxL := 3) (ret := (some .int)) (lv := [(0, .ref (wa (dkO G) 0)), (1, .int (nI j2))]) (by decide) rfl (Nat.le_of_ble_eq_true rfl) rfl ?_
    intro p e s m below meth c ls hx hb hr hml hown hts hlocks hP hK hS hl
    have hi0 : ∀ w ∈ wsX00, w ∈ wsX3_stored := by decide +kernel
    refine lv_aload_n hx hb dX3_stored_0 rfl (lv_at hl 0 rfl) ?_
    refine lv_iload_n hx hb dX3_stored_1 rfl (lv_at hl 1 rfl) ?_
    refine wd_cqs (O := (dkO G)) hS (va_runV (As := [.int (nI j2)]) (rest := []) ⟨hx, hb, hml, hown, hts⟩ (c_X3_knownLock_s (G := G) hj hok (by omega) s.heap.size) (cwV 1 hts gX3_stored_X3_knownLock rfl rfl rfl (by decide +kernel) ⟨Nat.le_of_ble_eq_true rfl, Nat.le_of_ble_eq_true rfl⟩) (wd_pre hK hP (dk_lt (by omega)) dE_0 rfl) rfl rfl hl.1 rfl (lv_room (Nat.le_of_ble_eq_true rfl)) dX3_stored_2 ⟨Nat.le_of_ble_eq_true rfl, Nat.le_of_ble_eq_true rfl⟩) (fun H locs hP hS => ?_)
    refine lv_astore_n (lv' := [(2, .ref (wa (dkO G) (9 + j2))), (0, .ref (wa (dkO G) 0)), (1, .int (nI j2))]) hx hb dX3_stored_5 rfl hl (by decide) rfl (fun ls hl => ?_)
    refine lv_aload_n hx hb dX3_stored_6 rfl (lv_at hl 0 rfl) ?_
    refine lv_ifnonnull (tgt := 14) hx hb dX3_stored_7 (by decide) ?_
    refine lv_aload_n hx hb dX3_stored_14 rfl (lv_at hl 0 rfl) ?_
    refine wd_get (O := (dkO G)) (v := .int (M (9 + j2) 7)) hx hb hts hi0 hown hK hP (dk_lt (by omega)) (dE_lock (by omega)) rfl 7 (by decide) (hts (.fieldLink RX3 138 "LeaseDesk$Lock" "value" "I") (by decide +kernel)) (fun _ h9 => h9) rfl dX3_stored_15 ?_
    exact wd_iret (O := (dkO G)) hx hb hr hlocks hK hP hS rfl dX3_stored_18 (by simp only [kcV, hd]) (rfl)
set_option maxRecDepth 100000 in
set_option maxHeartbeats 4000000 in
theorem c_X3_seen {l : Launch} {G : DG} (hj : wj (dkO G)) {M : Mem} (hok : dk_ok M) (sz : Nat) (x : Int32) : Met l yX3_seen wsX3_seen ({ frames := 1, cells := 0, slots := 0, locals := 21 }) (va_Pc [.ref (wa (dkO G) 0), .int x] (wp (dkO G) sz M)) (wQi (dkO G) sz (kcV M x (-1) 6) (M)) 0 0 (wA (dkO G) sz) := by
  rcases op_cases (dN x 4) with hd | ⟨j2, hd⟩
  · refine wd_ofW (O := (dkO G)) (M := M) (Qc := fun z => wQi (dkO G) z (kcV M x (-1) 6) (M)) (cc := cX3_seen) (maxL := 3) (ret := (some .int)) (lv := [(0, .ref (wa (dkO G) 0)), (1, .int x)]) (by decide) rfl (Nat.le_of_ble_eq_true rfl) rfl ?_
    intro p e s m below meth c ls hx hb hr hml hown hts hlocks hP hK hS hl
    have hi0 : ∀ w ∈ wsX00, w ∈ wsX3_seen := by decide +kernel
    refine lv_aload_n hx hb dX3_seen_0 rfl (lv_at hl 0 rfl) ?_
    refine lv_iload_n hx hb dX3_seen_1 rfl (lv_at hl 1 rfl) ?_
    refine wd_cqn (O := (dkO G)) hS (va_runV (As := [.int x]) (rest := []) ⟨hx, hb, hml, hown, hts⟩ (c_X3_knownLock_n (G := G) hj hok s.heap.size x hd) (cwV 1 hts gX3_seen_X3_knownLock rfl rfl rfl (by decide +kernel) ⟨Nat.le_of_ble_eq_true rfl, Nat.le_of_ble_eq_true rfl⟩) (wd_pre hK hP (dk_lt (by omega)) dE_0 rfl) rfl rfl hl.1 rfl (lv_room (Nat.le_of_ble_eq_true rfl)) dX3_seen_2 ⟨Nat.le_of_ble_eq_true rfl, Nat.le_of_ble_eq_true rfl⟩) (fun H locs hP hS => ?_)
    refine lv_astore_nN (lv' := [(2, .null), (0, .ref (wa (dkO G) 0)), (1, .int x)]) hx hb dX3_seen_5 rfl hl (by decide) rfl (fun ls hl => ?_)
    refine lv_aload_nN hx hb dX3_seen_6 rfl (lv_at hl 0 rfl) ?_
    refine lv_ifnonnullN hx hb dX3_seen_7 ?_
    refine lv_iconst (v := (-1)) hx hb dX3_seen_10 (by decide) ?_
    refine lv_goto (tgt := 18) hx hb dX3_seen_11 (by decide) ?_
    exact wd_iret (O := (dkO G)) hx hb hr hlocks hK hP hS rfl dX3_seen_18 (by simp only [kcV, hd]) (rfl)
  · obtain ⟨hj2, rfl⟩ := dN_some (by decide) hd
    refine wd_ofW (O := (dkO G)) (M := M) (Qc := fun z => wQi (dkO G) z (kcV M (nI j2) (-1) 6) (M)) (cc := cX3_seen) (maxL := 3) (ret := (some .int)) (lv := [(0, .ref (wa (dkO G) 0)), (1, .int (nI j2))]) (by decide) rfl (Nat.le_of_ble_eq_true rfl) rfl ?_
    intro p e s m below meth c ls hx hb hr hml hown hts hlocks hP hK hS hl
    have hi0 : ∀ w ∈ wsX00, w ∈ wsX3_seen := by decide +kernel
    refine lv_aload_n hx hb dX3_seen_0 rfl (lv_at hl 0 rfl) ?_
    refine lv_iload_n hx hb dX3_seen_1 rfl (lv_at hl 1 rfl) ?_
    refine wd_cqs (O := (dkO G)) hS (va_runV (As := [.int (nI j2)]) (rest := []) ⟨hx, hb, hml, hown, hts⟩ (c_X3_knownLock_s (G := G) hj hok (by omega) s.heap.size) (cwV 1 hts gX3_seen_X3_knownLock rfl rfl rfl (by decide +kernel) ⟨Nat.le_of_ble_eq_true rfl, Nat.le_of_ble_eq_true rfl⟩) (wd_pre hK hP (dk_lt (by omega)) dE_0 rfl) rfl rfl hl.1 rfl (lv_room (Nat.le_of_ble_eq_true rfl)) dX3_seen_2 ⟨Nat.le_of_ble_eq_true rfl, Nat.le_of_ble_eq_true rfl⟩) (fun H locs hP hS => ?_)
    refine lv_astore_n (lv' := [(2, .ref (wa (dkO G) (9 + j2))), (0, .ref (wa (dkO G) 0)), (1, .int (nI j2))]) hx hb dX3_seen_5 rfl hl (by decide) rfl (fun ls hl => ?_)
    refine lv_aload_n hx hb dX3_seen_6 rfl (lv_at hl 0 rfl) ?_
    refine lv_ifnonnull (tgt := 14) hx hb dX3_seen_7 (by decide) ?_
    refine lv_aload_n hx hb dX3_seen_14 rfl (lv_at hl 0 rfl) ?_
    refine wd_get (O := (dkO G)) (v := .int (M (9 + j2) 6)) hx hb hts hi0 hown hK hP (dk_lt (by omega)) (dE_lock (by omega)) rfl 6 (by decide) (hts (.fieldLink RX3 135 "LeaseDesk$Lock" "seenToken" "I") (by decide +kernel)) (fun _ h9 => h9) rfl dX3_seen_15 ?_
    exact wd_iret (O := (dkO G)) hx hb hr hlocks hK hP hS rfl dX3_seen_18 (by simp only [kcV, hd]) (rfl)
set_option maxRecDepth 100000 in
set_option maxHeartbeats 4000000 in
theorem c_X3_until {l : Launch} {G : DG} (hj : wj (dkO G)) {M : Mem} (hok : dk_ok M) (sz : Nat) (x : Int32) : Met l yX3_until wsX3_until ({ frames := 1, cells := 0, slots := 0, locals := 21 }) (va_Pc [.ref (wa (dkO G) 0), .int x] (wp (dkO G) sz M)) (wQi (dkO G) sz (untV M x) (M)) 0 0 (wA (dkO G) sz) := by
  rcases op_cases (dN x 4) with hd | ⟨j2, hd⟩
  · refine wd_ofW (O := (dkO G)) (M := M) (Qc := fun z => wQi (dkO G) z (untV M x) (M)) (cc := cX3_until) (maxL := 3) (ret := (some .int)) (lv := [(0, .ref (wa (dkO G) 0)), (1, .int x)]) (by decide) rfl (Nat.le_of_ble_eq_true rfl) rfl ?_
    intro p e s m below meth c ls hx hb hr hml hown hts hlocks hP hK hS hl
    have hi0 : ∀ w ∈ wsX00, w ∈ wsX3_until := by decide +kernel
    refine lv_aload_n hx hb dX3_until_0 rfl (lv_at hl 0 rfl) ?_
    refine lv_iload_n hx hb dX3_until_1 rfl (lv_at hl 1 rfl) ?_
    refine wd_cqn (O := (dkO G)) hS (va_runV (As := [.int x]) (rest := []) ⟨hx, hb, hml, hown, hts⟩ (c_X3_knownLock_n (G := G) hj hok s.heap.size x hd) (cwV 1 hts gX3_until_X3_knownLock rfl rfl rfl (by decide +kernel) ⟨Nat.le_of_ble_eq_true rfl, Nat.le_of_ble_eq_true rfl⟩) (wd_pre hK hP (dk_lt (by omega)) dE_0 rfl) rfl rfl hl.1 rfl (lv_room (Nat.le_of_ble_eq_true rfl)) dX3_until_2 ⟨Nat.le_of_ble_eq_true rfl, Nat.le_of_ble_eq_true rfl⟩) (fun H locs hP hS => ?_)
    refine lv_astore_nN (lv' := [(2, .null), (0, .ref (wa (dkO G) 0)), (1, .int x)]) hx hb dX3_until_5 rfl hl (by decide) rfl (fun ls hl => ?_)
    refine lv_aload_nN hx hb dX3_until_6 rfl (lv_at hl 0 rfl) ?_
    refine lv_ifnullN (tgt := 17) hx hb dX3_until_7 (by decide) ?_
    refine lv_iconst (v := (-1)) hx hb dX3_until_17 (by decide) ?_
    refine lv_goto (tgt := 25) hx hb dX3_until_18 (by decide) ?_
    exact wd_iret (O := (dkO G)) hx hb hr hlocks hK hP hS rfl dX3_until_25 (by simp only [untV, hd]) (rfl)
  · obtain ⟨hj2, rfl⟩ := dN_some (by decide) hd
    by_cases hf : M (9 + j2) 1 = -1
    · refine wd_ofW (O := (dkO G)) (M := M) (Qc := fun z => wQi (dkO G) z (untV M (nI j2)) (M)) (cc := cX3_until) (maxL := 3) (ret := (some .int)) (lv := [(0, .ref (wa (dkO G) 0)), (1, .int (nI j2))]) (by decide) rfl (Nat.le_of_ble_eq_true rfl) rfl ?_
      intro p e s m below meth c ls hx hb hr hml hown hts hlocks hP hK hS hl
      have hi0 : ∀ w ∈ wsX00, w ∈ wsX3_until := by decide +kernel
      refine lv_aload_n hx hb dX3_until_0 rfl (lv_at hl 0 rfl) ?_
      refine lv_iload_n hx hb dX3_until_1 rfl (lv_at hl 1 rfl) ?_
      refine wd_cqs (O := (dkO G)) hS (va_runV (As := [.int (nI j2)]) (rest := []) ⟨hx, hb, hml, hown, hts⟩ (c_X3_knownLock_s (G := G) hj hok (by omega) s.heap.size) (cwV 1 hts gX3_until_X3_knownLock rfl rfl rfl (by decide +kernel) ⟨Nat.le_of_ble_eq_true rfl, Nat.le_of_ble_eq_true rfl⟩) (wd_pre hK hP (dk_lt (by omega)) dE_0 rfl) rfl rfl hl.1 rfl (lv_room (Nat.le_of_ble_eq_true rfl)) dX3_until_2 ⟨Nat.le_of_ble_eq_true rfl, Nat.le_of_ble_eq_true rfl⟩) (fun H locs hP hS => ?_)
      refine lv_astore_n (lv' := [(2, .ref (wa (dkO G) (9 + j2))), (0, .ref (wa (dkO G) 0)), (1, .int (nI j2))]) hx hb dX3_until_5 rfl hl (by decide) rfl (fun ls hl => ?_)
      refine lv_aload_n hx hb dX3_until_6 rfl (lv_at hl 0 rfl) ?_
      refine lv_ifnull hx hb dX3_until_7 ?_
      refine lv_aload_n hx hb dX3_until_10 rfl (lv_at hl 0 rfl) ?_
      refine wd_ci (O := (dkO G)) hS (va_runV (As := []) (rest := []) ⟨hx, hb, hml, hown, hts⟩ (c_X0_isFree (G := G) hj hok (by omega) H.size) (cwV 0 hts gX3_until_X0_isFree rfl rfl rfl (by decide +kernel) ⟨Nat.le_of_ble_eq_true rfl, Nat.le_of_ble_eq_true rfl⟩) (wd_pre hK hP (dk_lt (by omega)) (dE_lock (by omega)) rfl) rfl rfl hl.1 rfl (lv_room (Nat.le_of_ble_eq_true rfl)) dX3_until_11 ⟨Nat.le_of_ble_eq_true rfl, Nat.le_of_ble_eq_true rfl⟩) (fun H locs hP hS => ?_)
      refine wd_re (y := 1) (by simp only [freV, if_pos hf]) ?_
      refine lv_if_eq (tgt := 21) hx hb dX3_until_14 (by decide) (fun c1 => absurd c1 (by decide)) (fun c1 => ?_)
      refine lv_iconst (v := (-1)) hx hb dX3_until_17 (by decide) ?_
      refine lv_goto (tgt := 25) hx hb dX3_until_18 (by decide) ?_
      exact wd_iret (O := (dkO G)) hx hb hr hlocks hK hP hS rfl dX3_until_25 (by simp only [untV, hd, if_pos hf]) (rfl)
    · refine wd_ofW (O := (dkO G)) (M := M) (Qc := fun z => wQi (dkO G) z (untV M (nI j2)) (M)) (cc := cX3_until) (maxL := 3) (ret := (some .int)) (lv := [(0, .ref (wa (dkO G) 0)), (1, .int (nI j2))]) (by decide) rfl (Nat.le_of_ble_eq_true rfl) rfl ?_
      intro p e s m below meth c ls hx hb hr hml hown hts hlocks hP hK hS hl
      have hi0 : ∀ w ∈ wsX00, w ∈ wsX3_until := by decide +kernel
      refine lv_aload_n hx hb dX3_until_0 rfl (lv_at hl 0 rfl) ?_
      refine lv_iload_n hx hb dX3_until_1 rfl (lv_at hl 1 rfl) ?_
      refine wd_cqs (O := (dkO G)) hS (va_runV (As := [.int (nI j2)]) (rest := []) ⟨hx, hb, hml, hown, hts⟩ (c_X3_knownLock_s (G := G) hj hok (by omega) s.heap.size) (cwV 1 hts gX3_until_X3_knownLock rfl rfl rfl (by decide +kernel) ⟨Nat.le_of_ble_eq_true rfl, Nat.le_of_ble_eq_true rfl⟩) (wd_pre hK hP (dk_lt (by omega)) dE_0 rfl) rfl rfl hl.1 rfl (lv_room (Nat.le_of_ble_eq_true rfl)) dX3_until_2 ⟨Nat.le_of_ble_eq_true rfl, Nat.le_of_ble_eq_true rfl⟩) (fun H locs hP hS => ?_)
      refine lv_astore_n (lv' := [(2, .ref (wa (dkO G) (9 + j2))), (0, .ref (wa (dkO G) 0)), (1, .int (nI j2))]) hx hb dX3_until_5 rfl hl (by decide) rfl (fun ls hl => ?_)
      refine lv_aload_n hx hb dX3_until_6 rfl (lv_at hl 0 rfl) ?_
      refine lv_ifnull hx hb dX3_until_7 ?_
      refine lv_aload_n hx hb dX3_until_10 rfl (lv_at hl 0 rfl) ?_
      refine wd_ci (O := (dkO G)) hS (va_runV (As := []) (rest := []) ⟨hx, hb, hml, hown, hts⟩ (c_X0_isFree (G := G) hj hok (by omega) H.size) (cwV 0 hts gX3_until_X0_isFree rfl rfl rfl (by decide +kernel) ⟨Nat.le_of_ble_eq_true rfl, Nat.le_of_ble_eq_true rfl⟩) (wd_pre hK hP (dk_lt (by omega)) (dE_lock (by omega)) rfl) rfl rfl hl.1 rfl (lv_room (Nat.le_of_ble_eq_true rfl)) dX3_until_11 ⟨Nat.le_of_ble_eq_true rfl, Nat.le_of_ble_eq_true rfl⟩) (fun H locs hP hS => ?_)
      refine wd_re (y := 0) (by simp only [freV, if_neg hf]) ?_
      refine lv_if_eq (tgt := 21) hx hb dX3_until_14 (by decide) (fun c2 => ?_) (fun c2 => absurd rfl c2)
      refine lv_aload_n hx hb dX3_until_21 rfl (lv_at hl 0 rfl) ?_
      refine wd_get (O := (dkO G)) (v := .int (M (9 + j2) 3)) hx hb hts hi0 hown hK hP (dk_lt (by omega)) (dE_lock (by omega)) rfl 3 (by decide) (hts (.fieldLink RX3 122 "LeaseDesk$Lock" "ends" "I") (by decide +kernel)) (fun _ h9 => h9) rfl dX3_until_22 ?_
      exact wd_iret (O := (dkO G)) hx hb hr hlocks hK hP hS rfl dX3_until_25 (by simp only [untV, hd, if_neg hf]) (rfl)
set_option maxRecDepth 100000 in
set_option maxHeartbeats 4000000 in
theorem c_X3_waiter {l : Launch} {G : DG} (hj : wj (dkO G)) {M : Mem} (hok : dk_ok M) (sz : Nat) (x k : Int32) : Met l yX3_waiter wsX3_waiter ({ frames := 2, cells := 0, slots := 0, locals := 42 }) (va_Pc [.ref (wa (dkO G) 0), .int x, .int k] (wp (dkO G) sz M)) (wQi (dkO G) sz (wtV M x k) (M)) 0 0 (wA (dkO G) sz) := by
  rcases op_cases (dN x 4) with hd | ⟨j2, hd⟩
  · refine wd_ofW (O := (dkO G)) (M := M) (Qc := fun z => wQi (dkO G) z (wtV M x k) (M)) (cc := cX3_waiter) (maxL := 4) (ret := (some .int)) (lv := [(0, .ref (wa (dkO G) 0)), (1, .int x), (2, .int k)]) (by decide) rfl (Nat.le_of_ble_eq_true rfl) rfl ?_
    intro p e s m below meth c ls hx hb hr hml hown hts hlocks hP hK hS hl
    have hi0 : ∀ w ∈ wsX00, w ∈ wsX3_waiter := by decide +kernel
    refine lv_aload_n hx hb dX3_waiter_0 rfl (lv_at hl 0 rfl) ?_
    refine lv_iload_n hx hb dX3_waiter_1 rfl (lv_at hl 1 rfl) ?_
    refine wd_cqn (O := (dkO G)) hS (va_runV (As := [.int x]) (rest := []) ⟨hx, hb, hml, hown, hts⟩ (c_X3_knownLock_n (G := G) hj hok s.heap.size x hd) (cwV 1 hts gX3_waiter_X3_knownLock rfl rfl rfl (by decide +kernel) ⟨Nat.le_of_ble_eq_true rfl, Nat.le_of_ble_eq_true rfl⟩) (wd_pre hK hP (dk_lt (by omega)) dE_0 rfl) rfl rfl hl.1 rfl (lv_room (Nat.le_of_ble_eq_true rfl)) dX3_waiter_2 ⟨Nat.le_of_ble_eq_true rfl, Nat.le_of_ble_eq_true rfl⟩) (fun H locs hP hS => ?_)
    refine lv_astore_nN (lv' := [(3, .null), (0, .ref (wa (dkO G) 0)), (1, .int x), (2, .int k)]) hx hb dX3_waiter_5 rfl hl (by decide) rfl (fun ls hl => ?_)
    refine lv_aload_nN hx hb dX3_waiter_6 rfl (lv_at hl 0 rfl) ?_
    refine lv_ifnonnullN hx hb dX3_waiter_7 ?_
    refine lv_iconst (v := (-1)) hx hb dX3_waiter_10 (by decide) ?_
    refine lv_goto (tgt := 22) hx hb dX3_waiter_11 (by decide) ?_
    exact wd_iret (O := (dkO G)) hx hb hr hlocks hK hP hS rfl dX3_waiter_22 (by simp only [wtV, hd]) (rfl)
  · obtain ⟨hj2, rfl⟩ := dN_some (by decide) hd
    refine wd_ofW (O := (dkO G)) (M := M) (Qc := fun z => wQi (dkO G) z (wtV M (nI j2) k) (M)) (cc := cX3_waiter) (maxL := 4) (ret := (some .int)) (lv := [(0, .ref (wa (dkO G) 0)), (1, .int (nI j2)), (2, .int k)]) (by decide) rfl (Nat.le_of_ble_eq_true rfl) rfl ?_
    intro p e s m below meth c ls hx hb hr hml hown hts hlocks hP hK hS hl
    have hi0 : ∀ w ∈ wsX00, w ∈ wsX3_waiter := by decide +kernel
    refine lv_aload_n hx hb dX3_waiter_0 rfl (lv_at hl 0 rfl) ?_
    refine lv_iload_n hx hb dX3_waiter_1 rfl (lv_at hl 1 rfl) ?_
    refine wd_cqs (O := (dkO G)) hS (va_runV (As := [.int (nI j2)]) (rest := []) ⟨hx, hb, hml, hown, hts⟩ (c_X3_knownLock_s (G := G) hj hok (by omega) s.heap.size) (cwV 1 hts gX3_waiter_X3_knownLock rfl rfl rfl (by decide +kernel) ⟨Nat.le_of_ble_eq_true rfl, Nat.le_of_ble_eq_true rfl⟩) (wd_pre hK hP (dk_lt (by omega)) dE_0 rfl) rfl rfl hl.1 rfl (lv_room (Nat.le_of_ble_eq_true rfl)) dX3_waiter_2 ⟨Nat.le_of_ble_eq_true rfl, Nat.le_of_ble_eq_true rfl⟩) (fun H locs hP hS => ?_)
    refine lv_astore_n (lv' := [(3, .ref (wa (dkO G) (9 + j2))), (0, .ref (wa (dkO G) 0)), (1, .int (nI j2)), (2, .int k)]) hx hb dX3_waiter_5 rfl hl (by decide) rfl (fun ls hl => ?_)
    refine lv_aload_n hx hb dX3_waiter_6 rfl (lv_at hl 0 rfl) ?_
    refine lv_ifnonnull (tgt := 14) hx hb dX3_waiter_7 (by decide) ?_
    refine lv_aload_n hx hb dX3_waiter_14 rfl (lv_at hl 0 rfl) ?_
    refine wd_get (O := (dkO G)) (v := .ref (wa (dkO G) (13 + j2))) hx hb hts hi0 hown hK hP (dk_lt (by omega)) (dE_lock (by omega)) rfl 0 (by decide) (hts (.fieldLink RX3 99 "LeaseDesk$Lock" "row" "LLeaseDesk$Row;") (by decide +kernel)) (fun _ h9 => h9) rfl dX3_waiter_15 ?_
    refine lv_iload_n hx hb dX3_waiter_18 rfl (lv_at hl 3 rfl) ?_
    refine wd_ci (O := (dkO G)) hS (va_runV (As := [.int k]) (rest := []) ⟨hx, hb, hml, hown, hts⟩ (c_X1_slotAt (G := G) hj hok (by omega) H.size k) (cwV 1 hts gX3_waiter_X1_slotAt rfl rfl rfl (by decide +kernel) ⟨Nat.le_of_ble_eq_true rfl, Nat.le_of_ble_eq_true rfl⟩) (wd_pre hK hP (dk_lt (by omega)) (dE_row (by omega)) rfl) rfl rfl hl.1 rfl (lv_room (Nat.le_of_ble_eq_true rfl)) dX3_waiter_19 ⟨Nat.le_of_ble_eq_true rfl, Nat.le_of_ble_eq_true rfl⟩) (fun H locs hP hS => ?_)
    exact wd_iret (O := (dkO G)) hx hb hr hlocks hK hP hS rfl dX3_waiter_22 (by simp only [wtV, hd]) (rfl)
set_option maxRecDepth 100000 in
set_option maxHeartbeats 4000000 in
theorem c_X3_time {l : Launch} {G : DG} (hj : wj (dkO G)) {M : Mem} (hok : dk_ok M) (sz : Nat) : Met l yX3_time wsX3_time ({ frames := 0, cells := 0, slots := 0, locals := 0 }) (va_Pc [.ref (wa (dkO G) 0)] (wp (dkO G) sz M)) (wQi (dkO G) sz (M 0 2) (M)) 0 0 (wA (dkO G) sz) := by
  refine wd_ofW (O := (dkO G)) (M := M) (Qc := fun z => wQi (dkO G) z (M 0 2) (M)) (cc := cX3_time) (maxL := 1) (ret := (some .int)) (lv := [(0, .ref (wa (dkO G) 0))]) (by decide) rfl (Nat.le_of_ble_eq_true rfl) rfl ?_
  intro p e s m below meth c ls hx hb hr hml hown hts hlocks hP hK hS hl
  have hi3 : ∀ w ∈ wsX30, w ∈ wsX3_time := by decide +kernel
  refine lv_aload_n hx hb dX3_time_0 rfl (lv_at hl 0 rfl) ?_
  refine wd_get (O := (dkO G)) (v := .int (M 0 2)) hx hb hts hi3 hown hK hP (dk_lt (by omega)) dE_0 rfl 2 (by decide) (hts (.fieldLink RX3 23 "LeaseDesk" "now" "I") (by decide +kernel)) (fun _ h9 => h9) rfl dX3_time_1 ?_
  exact wd_iret (O := (dkO G)) hx hb hr hlocks hK hP hS rfl dX3_time_4 (rfl) (rfl)
set_option maxRecDepth 100000 in
set_option maxHeartbeats 4000000 in
theorem c_X3_clock {l : Launch} {G : DG} (hj : wj (dkO G)) {M : Mem} (hok : dk_ok M) (sz : Nat) (x : Int32) : Met l yX3_clock wsX3_clock ({ frames := 1, cells := 0, slots := 0, locals := 21 }) (va_Pc [.ref (wa (dkO G) 0), .int x] (wp (dkO G) sz M)) (wQi (dkO G) sz (clkV M x) (M)) 0 0 (wA (dkO G) sz) := by
  rcases op_cases (osV M x) with ho | ⟨j1, ho⟩
  · refine wd_ofW (O := (dkO G)) (M := M) (Qc := fun z => wQi (dkO G) z (clkV M x) (M)) (cc := cX3_clock) (maxL := 3) (ret := (some .int)) (lv := [(0, .ref (wa (dkO G) 0)), (1, .int x)]) (by decide) rfl (Nat.le_of_ble_eq_true rfl) rfl ?_
    intro p e s m below meth c ls hx hb hr hml hown hts hlocks hP hK hS hl
    have hi2 : ∀ w ∈ wsX20, w ∈ wsX3_clock := by decide +kernel
    refine lv_aload_n hx hb dX3_clock_0 rfl (lv_at hl 0 rfl) ?_
    refine lv_iload_n hx hb dX3_clock_1 rfl (lv_at hl 1 rfl) ?_
    refine wd_cqn (O := (dkO G)) hS (va_runV (As := [.int x]) (rest := []) ⟨hx, hb, hml, hown, hts⟩ (c_X3_openSession_n (G := G) hj hok s.heap.size x ho) (cwV 1 hts gX3_clock_X3_openSession rfl rfl rfl (by decide +kernel) ⟨Nat.le_of_ble_eq_true rfl, Nat.le_of_ble_eq_true rfl⟩) (wd_pre hK hP (dk_lt (by omega)) dE_0 rfl) rfl rfl hl.1 rfl (lv_room (Nat.le_of_ble_eq_true rfl)) dX3_clock_2 ⟨Nat.le_of_ble_eq_true rfl, Nat.le_of_ble_eq_true rfl⟩) (fun H locs hP hS => ?_)
    refine lv_astore_nN (lv' := [(2, .null), (0, .ref (wa (dkO G) 0)), (1, .int x)]) hx hb dX3_clock_5 rfl hl (by decide) rfl (fun ls hl => ?_)
    refine lv_aload_nN hx hb dX3_clock_6 rfl (lv_at hl 0 rfl) ?_
    refine lv_ifnonnullN hx hb dX3_clock_7 ?_
    refine lv_iconst (v := (-1)) hx hb dX3_clock_10 (by decide) ?_
    refine lv_goto (tgt := 18) hx hb dX3_clock_11 (by decide) ?_
    exact wd_iret (O := (dkO G)) hx hb hr hlocks hK hP hS rfl dX3_clock_18 (by simp only [clkV, ho]) (rfl)
  · obtain ⟨hj1, rfl, hon⟩ := osV_some ho
    refine wd_ofW (O := (dkO G)) (M := M) (Qc := fun z => wQi (dkO G) z (clkV M (nI j1)) (M)) (cc := cX3_clock) (maxL := 3) (ret := (some .int)) (lv := [(0, .ref (wa (dkO G) 0)), (1, .int (nI j1))]) (by decide) rfl (Nat.le_of_ble_eq_true rfl) rfl ?_
    intro p e s m below meth c ls hx hb hr hml hown hts hlocks hP hK hS hl
    have hi2 : ∀ w ∈ wsX20, w ∈ wsX3_clock := by decide +kernel
    refine lv_aload_n hx hb dX3_clock_0 rfl (lv_at hl 0 rfl) ?_
    refine lv_iload_n hx hb dX3_clock_1 rfl (lv_at hl 1 rfl) ?_
    refine wd_cqs (O := (dkO G)) hS (va_runV (As := [.int (nI j1)]) (rest := []) ⟨hx, hb, hml, hown, hts⟩ (c_X3_openSession_s (G := G) hj hok (by omega) hon s.heap.size) (cwV 1 hts gX3_clock_X3_openSession rfl rfl rfl (by decide +kernel) ⟨Nat.le_of_ble_eq_true rfl, Nat.le_of_ble_eq_true rfl⟩) (wd_pre hK hP (dk_lt (by omega)) dE_0 rfl) rfl rfl hl.1 rfl (lv_room (Nat.le_of_ble_eq_true rfl)) dX3_clock_2 ⟨Nat.le_of_ble_eq_true rfl, Nat.le_of_ble_eq_true rfl⟩) (fun H locs hP hS => ?_)
    refine lv_astore_n (lv' := [(2, .ref (wa (dkO G) (3 + j1))), (0, .ref (wa (dkO G) 0)), (1, .int (nI j1))]) hx hb dX3_clock_5 rfl hl (by decide) rfl (fun ls hl => ?_)
    refine lv_aload_n hx hb dX3_clock_6 rfl (lv_at hl 0 rfl) ?_
    refine lv_ifnonnull (tgt := 14) hx hb dX3_clock_7 (by decide) ?_
    refine lv_aload_n hx hb dX3_clock_14 rfl (lv_at hl 0 rfl) ?_
    refine wd_get (O := (dkO G)) (v := .int (M (3 + j1) 3)) hx hb hts hi2 hown hK hP (dk_lt (by omega)) (dE_ses (by omega)) rfl 3 (by decide) (hts (.fieldLink RX3 81 "LeaseDesk$Session" "clock" "I") (by decide +kernel)) (fun _ h9 => h9) rfl dX3_clock_15 ?_
    exact wd_iret (O := (dkO G)) hx hb hr hlocks hK hP hS rfl dX3_clock_18 (by simp only [clkV, ho]) (rfl)
set_option maxRecDepth 100000 in
set_option maxHeartbeats 4000000 in
theorem c_X3_believes {l : Launch} {G : DG} (hj : wj (dkO G)) {M : Mem} (hok : dk_ok M) (sz : Nat) (x y : Int32) : Met l yX3_believes wsX3_believes ({ frames := 1, cells := 0, slots := 0, locals := 21 }) (va_Pc [.ref (wa (dkO G) 0), .int x, .int y] (wp (dkO G) sz M)) (wQi (dkO G) sz (blV M x y) (M)) 0 0 (wA (dkO G) sz) := by
  rcases op_cases (osV M x) with ho | ⟨j1, ho⟩
  · rcases op_cases (dN y 4) with hd | ⟨j2, hd⟩
    · refine wd_ofW (O := (dkO G)) (M := M) (Qc := fun z => wQi (dkO G) z (blV M x y) (M)) (cc := cX3_believes) (maxL := 5) (ret := (some .boolean)) (lv := [(0, .ref (wa (dkO G) 0)), (1, .int x), (2, .int y)]) (by decide) rfl (Nat.le_of_ble_eq_true rfl) rfl ?_
      intro p e s m below meth c ls hx hb hr hml hown hts hlocks hP hK hS hl
      have hi0 : ∀ w ∈ wsX00, w ∈ wsX3_believes := by decide +kernel
      have hi2 : ∀ w ∈ wsX20, w ∈ wsX3_believes := by decide +kernel
      refine lv_aload_n hx hb dX3_believes_0 rfl (lv_at hl 0 rfl) ?_
      refine lv_iload_n hx hb dX3_believes_1 rfl (lv_at hl 1 rfl) ?_
      refine wd_cqn (O := (dkO G)) hS (va_runV (As := [.int x]) (rest := []) ⟨hx, hb, hml, hown, hts⟩ (c_X3_openSession_n (G := G) hj hok s.heap.size x ho) (cwV 1 hts gX3_believes_X3_openSession rfl rfl rfl (by decide +kernel) ⟨Nat.le_of_ble_eq_true rfl, Nat.le_of_ble_eq_true rfl⟩) (wd_pre hK hP (dk_lt (by omega)) dE_0 rfl) rfl rfl hl.1 rfl (lv_room (Nat.le_of_ble_eq_true rfl)) dX3_believes_2 ⟨Nat.le_of_ble_eq_true rfl, Nat.le_of_ble_eq_true rfl⟩) (fun H locs hP hS => ?_)
      refine lv_astore_nN (lv' := [(3, .null), (0, .ref (wa (dkO G) 0)), (1, .int x), (2, .int y)]) hx hb dX3_believes_5 rfl hl (by decide) rfl (fun ls hl => ?_)
      refine lv_aload_n hx hb dX3_believes_6 rfl (lv_at hl 1 rfl) ?_
      refine lv_iload_n hx hb dX3_believes_7 rfl (lv_at hl 3 rfl) ?_
      refine wd_cqn (O := (dkO G)) hS (va_runV (As := [.int y]) (rest := []) ⟨hx, hb, hml, hown, hts⟩ (c_X3_knownLock_n (G := G) hj hok H.size y hd) (cwV 1 hts gX3_believes_X3_knownLock rfl rfl rfl (by decide +kernel) ⟨Nat.le_of_ble_eq_true rfl, Nat.le_of_ble_eq_true rfl⟩) (wd_pre hK hP (dk_lt (by omega)) dE_0 rfl) rfl rfl hl.1 rfl (lv_room (Nat.le_of_ble_eq_true rfl)) dX3_believes_8 ⟨Nat.le_of_ble_eq_true rfl, Nat.le_of_ble_eq_true rfl⟩) (fun H locs hP hS => ?_)
      refine lv_astoreN (lv' := [(4, .null), (3, .null), (0, .ref (wa (dkO G) 0)), (1, .int x), (2, .int y)]) hx hb dX3_believes_11 hl (by decide) rfl (fun ls hl => ?_)
      refine lv_aload_nN hx hb dX3_believes_13 rfl (lv_at hl 1 rfl) ?_
      refine lv_ifnullN (tgt := 31) hx hb dX3_believes_14 (by decide) ?_
      refine lv_iconst (v := 0) hx hb dX3_believes_31 (by decide) ?_
      exact wd_iret (O := (dkO G)) hx hb hr hlocks hK hP hS (by decide) dX3_believes_32 (by simp only [blV, ho, hd]) (rfl)
    · obtain ⟨hj2, rfl⟩ := dN_some (by decide) hd
      refine wd_ofW (O := (dkO G)) (M := M) (Qc := fun z => wQi (dkO G) z (blV M x (nI j2)) (M)) (cc := cX3_believes) (maxL := 5) (ret := (some .boolean)) (lv := [(0, .ref (wa (dkO G) 0)), (1, .int x), (2, .int (nI j2))]) (by decide) rfl (Nat.le_of_ble_eq_true rfl) rfl ?_
      intro p e s m below meth c ls hx hb hr hml hown hts hlocks hP hK hS hl
      have hi0 : ∀ w ∈ wsX00, w ∈ wsX3_believes := by decide +kernel
      have hi2 : ∀ w ∈ wsX20, w ∈ wsX3_believes := by decide +kernel
      refine lv_aload_n hx hb dX3_believes_0 rfl (lv_at hl 0 rfl) ?_
      refine lv_iload_n hx hb dX3_believes_1 rfl (lv_at hl 1 rfl) ?_
      refine wd_cqn (O := (dkO G)) hS (va_runV (As := [.int x]) (rest := []) ⟨hx, hb, hml, hown, hts⟩ (c_X3_openSession_n (G := G) hj hok s.heap.size x ho) (cwV 1 hts gX3_believes_X3_openSession rfl rfl rfl (by decide +kernel) ⟨Nat.le_of_ble_eq_true rfl, Nat.le_of_ble_eq_true rfl⟩) (wd_pre hK hP (dk_lt (by omega)) dE_0 rfl) rfl rfl hl.1 rfl (lv_room (Nat.le_of_ble_eq_true rfl)) dX3_believes_2 ⟨Nat.le_of_ble_eq_true rfl, Nat.le_of_ble_eq_true rfl⟩) (fun H locs hP hS => ?_)
      refine lv_astore_nN (lv' := [(3, .null), (0, .ref (wa (dkO G) 0)), (1, .int x), (2, .int (nI j2))]) hx hb dX3_believes_5 rfl hl (by decide) rfl (fun ls hl => ?_)
      refine lv_aload_n hx hb dX3_believes_6 rfl (lv_at hl 1 rfl) ?_
      refine lv_iload_n hx hb dX3_believes_7 rfl (lv_at hl 3 rfl) ?_
      refine wd_cqs (O := (dkO G)) hS (va_runV (As := [.int (nI j2)]) (rest := []) ⟨hx, hb, hml, hown, hts⟩ (c_X3_knownLock_s (G := G) hj hok (by omega) H.size) (cwV 1 hts gX3_believes_X3_knownLock rfl rfl rfl (by decide +kernel) ⟨Nat.le_of_ble_eq_true rfl, Nat.le_of_ble_eq_true rfl⟩) (wd_pre hK hP (dk_lt (by omega)) dE_0 rfl) rfl rfl hl.1 rfl (lv_room (Nat.le_of_ble_eq_true rfl)) dX3_believes_8 ⟨Nat.le_of_ble_eq_true rfl, Nat.le_of_ble_eq_true rfl⟩) (fun H locs hP hS => ?_)
      refine lv_astore (lv' := [(4, .ref (wa (dkO G) (9 + j2))), (3, .null), (0, .ref (wa (dkO G) 0)), (1, .int x), (2, .int (nI j2))]) hx hb dX3_believes_11 hl (by decide) rfl (fun ls hl => ?_)
      refine lv_aload_nN hx hb dX3_believes_13 rfl (lv_at hl 1 rfl) ?_
      refine lv_ifnullN (tgt := 31) hx hb dX3_believes_14 (by decide) ?_
      refine lv_iconst (v := 0) hx hb dX3_believes_31 (by decide) ?_
      exact wd_iret (O := (dkO G)) hx hb hr hlocks hK hP hS (by decide) dX3_believes_32 (by simp only [blV, ho, hd]) (rfl)
  · obtain ⟨hj1, rfl, hon⟩ := osV_some ho
    rcases op_cases (dN y 4) with hd | ⟨j2, hd⟩
    · refine wd_ofW (O := (dkO G)) (M := M) (Qc := fun z => wQi (dkO G) z (blV M (nI j1) y) (M)) (cc := cX3_believes) (maxL := 5) (ret := (some .boolean)) (lv := [(0, .ref (wa (dkO G) 0)), (1, .int (nI j1)), (2, .int y)]) (by decide) rfl (Nat.le_of_ble_eq_true rfl) rfl ?_
      intro p e s m below meth c ls hx hb hr hml hown hts hlocks hP hK hS hl
      have hi0 : ∀ w ∈ wsX00, w ∈ wsX3_believes := by decide +kernel
      have hi2 : ∀ w ∈ wsX20, w ∈ wsX3_believes := by decide +kernel
      refine lv_aload_n hx hb dX3_believes_0 rfl (lv_at hl 0 rfl) ?_
      refine lv_iload_n hx hb dX3_believes_1 rfl (lv_at hl 1 rfl) ?_
      refine wd_cqs (O := (dkO G)) hS (va_runV (As := [.int (nI j1)]) (rest := []) ⟨hx, hb, hml, hown, hts⟩ (c_X3_openSession_s (G := G) hj hok (by omega) hon s.heap.size) (cwV 1 hts gX3_believes_X3_openSession rfl rfl rfl (by decide +kernel) ⟨Nat.le_of_ble_eq_true rfl, Nat.le_of_ble_eq_true rfl⟩) (wd_pre hK hP (dk_lt (by omega)) dE_0 rfl) rfl rfl hl.1 rfl (lv_room (Nat.le_of_ble_eq_true rfl)) dX3_believes_2 ⟨Nat.le_of_ble_eq_true rfl, Nat.le_of_ble_eq_true rfl⟩) (fun H locs hP hS => ?_)
      refine lv_astore_n (lv' := [(3, .ref (wa (dkO G) (3 + j1))), (0, .ref (wa (dkO G) 0)), (1, .int (nI j1)), (2, .int y)]) hx hb dX3_believes_5 rfl hl (by decide) rfl (fun ls hl => ?_)
      refine lv_aload_n hx hb dX3_believes_6 rfl (lv_at hl 1 rfl) ?_
      refine lv_iload_n hx hb dX3_believes_7 rfl (lv_at hl 3 rfl) ?_
      refine wd_cqn (O := (dkO G)) hS (va_runV (As := [.int y]) (rest := []) ⟨hx, hb, hml, hown, hts⟩ (c_X3_knownLock_n (G := G) hj hok H.size y hd) (cwV 1 hts gX3_believes_X3_knownLock rfl rfl rfl (by decide +kernel) ⟨Nat.le_of_ble_eq_true rfl, Nat.le_of_ble_eq_true rfl⟩) (wd_pre hK hP (dk_lt (by omega)) dE_0 rfl) rfl rfl hl.1 rfl (lv_room (Nat.le_of_ble_eq_true rfl)) dX3_believes_8 ⟨Nat.le_of_ble_eq_true rfl, Nat.le_of_ble_eq_true rfl⟩) (fun H locs hP hS => ?_)
      refine lv_astoreN (lv' := [(4, .null), (3, .ref (wa (dkO G) (3 + j1))), (0, .ref (wa (dkO G) 0)), (1, .int (nI j1)), (2, .int y)]) hx hb dX3_believes_11 hl (by decide) rfl (fun ls hl => ?_)
      refine lv_aload_n hx hb dX3_believes_13 rfl (lv_at hl 1 rfl) ?_
      refine lv_ifnull hx hb dX3_believes_14 ?_
      refine lv_aloadN hx hb dX3_believes_17 (lv_at hl 0 rfl) ?_
      refine lv_ifnullN (tgt := 31) hx hb dX3_believes_19 (by decide) ?_
      refine lv_iconst (v := 0) hx hb dX3_believes_31 (by decide) ?_
      exact wd_iret (O := (dkO G)) hx hb hr hlocks hK hP hS (by decide) dX3_believes_32 (by simp only [blV, ho, hd]) (rfl)
    · obtain ⟨hj2, rfl⟩ := dN_some (by decide) hd
      refine wd_ofW (O := (dkO G)) (M := M) (Qc := fun z => wQi (dkO G) z (blV M (nI j1) (nI j2)) (M)) (cc := cX3_believes) (maxL := 5) (ret := (some .boolean)) (lv := [(0, .ref (wa (dkO G) 0)), (1, .int (nI j1)), (2, .int (nI j2))]) (by decide) rfl (Nat.le_of_ble_eq_true rfl) rfl ?_
      intro p e s m below meth c ls hx hb hr hml hown hts hlocks hP hK hS hl
      have hi0 : ∀ w ∈ wsX00, w ∈ wsX3_believes := by decide +kernel
      have hi2 : ∀ w ∈ wsX20, w ∈ wsX3_believes := by decide +kernel
      refine lv_aload_n hx hb dX3_believes_0 rfl (lv_at hl 0 rfl) ?_
      refine lv_iload_n hx hb dX3_believes_1 rfl (lv_at hl 1 rfl) ?_
      refine wd_cqs (O := (dkO G)) hS (va_runV (As := [.int (nI j1)]) (rest := []) ⟨hx, hb, hml, hown, hts⟩ (c_X3_openSession_s (G := G) hj hok (by omega) hon s.heap.size) (cwV 1 hts gX3_believes_X3_openSession rfl rfl rfl (by decide +kernel) ⟨Nat.le_of_ble_eq_true rfl, Nat.le_of_ble_eq_true rfl⟩) (wd_pre hK hP (dk_lt (by omega)) dE_0 rfl) rfl rfl hl.1 rfl (lv_room (Nat.le_of_ble_eq_true rfl)) dX3_believes_2 ⟨Nat.le_of_ble_eq_true rfl, Nat.le_of_ble_eq_true rfl⟩) (fun H locs hP hS => ?_)
      refine lv_astore_n (lv' := [(3, .ref (wa (dkO G) (3 + j1))), (0, .ref (wa (dkO G) 0)), (1, .int (nI j1)), (2, .int (nI j2))]) hx hb dX3_believes_5 rfl hl (by decide) rfl (fun ls hl => ?_)
      refine lv_aload_n hx hb dX3_believes_6 rfl (lv_at hl 1 rfl) ?_
      refine lv_iload_n hx hb dX3_believes_7 rfl (lv_at hl 3 rfl) ?_
      refine wd_cqs (O := (dkO G)) hS (va_runV (As := [.int (nI j2)]) (rest := []) ⟨hx, hb, hml, hown, hts⟩ (c_X3_knownLock_s (G := G) hj hok (by omega) H.size) (cwV 1 hts gX3_believes_X3_knownLock rfl rfl rfl (by decide +kernel) ⟨Nat.le_of_ble_eq_true rfl, Nat.le_of_ble_eq_true rfl⟩) (wd_pre hK hP (dk_lt (by omega)) dE_0 rfl) rfl rfl hl.1 rfl (lv_room (Nat.le_of_ble_eq_true rfl)) dX3_believes_8 ⟨Nat.le_of_ble_eq_true rfl, Nat.le_of_ble_eq_true rfl⟩) (fun H locs hP hS => ?_)
      refine lv_astore (lv' := [(4, .ref (wa (dkO G) (9 + j2))), (3, .ref (wa (dkO G) (3 + j1))), (0, .ref (wa (dkO G) 0)), (1, .int (nI j1)), (2, .int (nI j2))]) hx hb dX3_believes_11 hl (by decide) rfl (fun ls hl => ?_)
      refine lv_aload_n hx hb dX3_believes_13 rfl (lv_at hl 1 rfl) ?_
      refine lv_ifnull hx hb dX3_believes_14 ?_
      refine lv_aload hx hb dX3_believes_17 (lv_at hl 0 rfl) ?_
      refine lv_ifnull hx hb dX3_believes_19 ?_
      refine lv_aload hx hb dX3_believes_22 (lv_at hl 0 rfl) ?_
      refine wd_get (O := (dkO G)) (v := .int (M (9 + j2) 1)) hx hb hts hi0 hown hK hP (dk_lt (by omega)) (dE_lock (by omega)) rfl 1 (by decide) (hts (.fieldLink RX3 78 "LeaseDesk$Lock" "holder" "I") (by decide +kernel)) (fun _ h9 => h9) rfl dX3_believes_24 ?_
      refine lv_iload_n hx hb dX3_believes_27 rfl (lv_at hl 3 rfl) ?_
      refine lv_icmp_eq (tgt := 33) hx hb dX3_believes_28 (by decide) (fun c1 => ?_) (fun c1 => ?_)
      · refine lv_aload_n hx hb dX3_believes_33 rfl (lv_at hl 1 rfl) ?_
        refine wd_get (O := (dkO G)) (v := .int (M (3 + j1) 3)) hx hb hts hi2 hown hK hP (dk_lt (by omega)) (dE_ses (by omega)) rfl 3 (by decide) (hts (.fieldLink RX3 81 "LeaseDesk$Session" "clock" "I") (by decide +kernel)) (fun _ h9 => h9) rfl dX3_believes_34 ?_
        refine lv_aload hx hb dX3_believes_37 (lv_at hl 0 rfl) ?_
        refine wd_get (O := (dkO G)) (v := .int (M (9 + j2) 5)) hx hb hts hi0 hown hK hP (dk_lt (by omega)) (dE_lock (by omega)) rfl 5 (by decide) (hts (.fieldLink RX3 129 "LeaseDesk$Lock" "start" "I") (by decide +kernel)) (fun _ h9 => h9) rfl dX3_believes_39 ?_
        refine lv_isub hx hb dX3_believes_42 ?_
        refine lv_bipush (v := 9) hx hb dX3_believes_43 (by decide) ?_
        refine lv_aload hx hb dX3_believes_45 (lv_at hl 0 rfl) ?_
        refine wd_get (O := (dkO G)) (v := .int (M (9 + j2) 4)) hx hb hts hi0 hown hK hP (dk_lt (by omega)) (dE_lock (by omega)) rfl 4 (by decide) (hts (.fieldLink RX3 132 "LeaseDesk$Lock" "term" "I") (by decide +kernel)) (fun _ h9 => h9) rfl dX3_believes_47 ?_
        refine lv_imul hx hb dX3_believes_50 ?_
        refine lv_icmp_ge (tgt := 58) hx hb dX3_believes_51 (by decide) (fun c2 => ?_) (fun c2 => ?_)
        · refine lv_iconst (v := 0) hx hb dX3_believes_58 (by decide) ?_
          exact wd_iret (O := (dkO G)) hx hb hr hlocks hK hP hS (by decide) dX3_believes_59 (by simp only [blV, ho, hd, if_pos c1, if_pos c2]) (rfl)
        · refine lv_iconst (v := 1) hx hb dX3_believes_54 (by decide) ?_
          refine lv_goto (tgt := 59) hx hb dX3_believes_55 (by decide) ?_
          exact wd_iret (O := (dkO G)) hx hb hr hlocks hK hP hS (by decide) dX3_believes_59 (by simp only [blV, ho, hd, if_pos c1, if_neg c2]) (rfl)
      · refine lv_iconst (v := 0) hx hb dX3_believes_31 (by decide) ?_
        exact wd_iret (O := (dkO G)) hx hb hr hlocks hK hP hS (by decide) dX3_believes_32 (by simp only [blV, ho, hd, if_neg c1]) (rfl)
set_option maxRecDepth 100000 in
set_option maxHeartbeats 4000000 in
theorem c_X3_write {l : Launch} {G : DG} (hj : wj (dkO G)) {M : Mem} (hok : dk_ok M) (sz : Nat) (x t v : Int32) : Met l yX3_write wsX3_write ({ frames := 1, cells := 0, slots := 0, locals := 21 }) (va_Pc [.ref (wa (dkO G) 0), .int x, .int t, .int v] (wp (dkO G) sz M)) (wQi (dkO G) sz (wrV M x t) (wrM M x t v)) 0 0 (wA (dkO G) sz) := by
  rcases op_cases (dN x 4) with hd | ⟨j2, hd⟩
  · refine wd_ofW (O := (dkO G)) (M := M) (Qc := fun z => wQi (dkO G) z (wrV M x t) (wrM M x t v)) (cc := cX3_write) (maxL := 5) (ret := (some .boolean)) (lv := [(0, .ref (wa (dkO G) 0)), (1, .int x), (2, .int t), (3, .int v)]) (by decide) rfl (Nat.le_of_ble_eq_true rfl) rfl ?_
    intro p e s m below meth c ls hx hb hr hml hown hts hlocks hP hK hS hl
    have hi0 : ∀ w ∈ wsX00, w ∈ wsX3_write := by decide +kernel
    refine lv_aload_n hx hb dX3_write_0 rfl (lv_at hl 0 rfl) ?_
    refine lv_iload_n hx hb dX3_write_1 rfl (lv_at hl 1 rfl) ?_
    refine wd_cqn (O := (dkO G)) hS (va_runV (As := [.int x]) (rest := []) ⟨hx, hb, hml, hown, hts⟩ (c_X3_knownLock_n (G := G) hj hok s.heap.size x hd) (cwV 1 hts gX3_write_X3_knownLock rfl rfl rfl (by decide +kernel) ⟨Nat.le_of_ble_eq_true rfl, Nat.le_of_ble_eq_true rfl⟩) (wd_pre hK hP (dk_lt (by omega)) dE_0 rfl) rfl rfl hl.1 rfl (lv_room (Nat.le_of_ble_eq_true rfl)) dX3_write_2 ⟨Nat.le_of_ble_eq_true rfl, Nat.le_of_ble_eq_true rfl⟩) (fun H locs hP hS => ?_)
    refine lv_astoreN (lv' := [(4, .null), (0, .ref (wa (dkO G) 0)), (1, .int x), (2, .int t), (3, .int v)]) hx hb dX3_write_5 hl (by decide) rfl (fun ls hl => ?_)
    refine lv_aloadN hx hb dX3_write_7 (lv_at hl 0 rfl) ?_
    refine lv_ifnullN (tgt := 26) hx hb dX3_write_9 (by decide) ?_
    refine lv_iconst (v := 0) hx hb dX3_write_26 (by decide) ?_
    exact wd_iret (O := (dkO G)) hx hb hr hlocks hK hP hS (by decide) dX3_write_27 (by simp only [wrV, hd]) (by simp only [wrM, hd])
  · obtain ⟨hj2, rfl⟩ := dN_some (by decide) hd
    refine wd_ofW (O := (dkO G)) (M := M) (Qc := fun z => wQi (dkO G) z (wrV M (nI j2) t) (wrM M (nI j2) t v)) (cc := cX3_write) (maxL := 5) (ret := (some .boolean)) (lv := [(0, .ref (wa (dkO G) 0)), (1, .int (nI j2)), (2, .int t), (3, .int v)]) (by decide) rfl (Nat.le_of_ble_eq_true rfl) rfl ?_
    intro p e s m below meth c ls hx hb hr hml hown hts hlocks hP hK hS hl
    have hi0 : ∀ w ∈ wsX00, w ∈ wsX3_write := by decide +kernel
    refine lv_aload_n hx hb dX3_write_0 rfl (lv_at hl 0 rfl) ?_
    refine lv_iload_n hx hb dX3_write_1 rfl (lv_at hl 1 rfl) ?_
    refine wd_cqs (O := (dkO G)) hS (va_runV (As := [.int (nI j2)]) (rest := []) ⟨hx, hb, hml, hown, hts⟩ (c_X3_knownLock_s (G := G) hj hok (by omega) s.heap.size) (cwV 1 hts gX3_write_X3_knownLock rfl rfl rfl (by decide +kernel) ⟨Nat.le_of_ble_eq_true rfl, Nat.le_of_ble_eq_true rfl⟩) (wd_pre hK hP (dk_lt (by omega)) dE_0 rfl) rfl rfl hl.1 rfl (lv_room (Nat.le_of_ble_eq_true rfl)) dX3_write_2 ⟨Nat.le_of_ble_eq_true rfl, Nat.le_of_ble_eq_true rfl⟩) (fun H locs hP hS => ?_)
    refine lv_astore (lv' := [(4, .ref (wa (dkO G) (9 + j2))), (0, .ref (wa (dkO G) 0)), (1, .int (nI j2)), (2, .int t), (3, .int v)]) hx hb dX3_write_5 hl (by decide) rfl (fun ls hl => ?_)
    refine lv_aload hx hb dX3_write_7 (lv_at hl 0 rfl) ?_
    refine lv_ifnull hx hb dX3_write_9 ?_
    refine lv_iload_n hx hb dX3_write_12 rfl (lv_at hl 3 rfl) ?_
    refine lv_iconst (v := 1) hx hb dX3_write_13 (by decide) ?_
    refine lv_icmp_lt (tgt := 26) hx hb dX3_write_14 (by decide) (fun c1 => ?_) (fun c1 => ?_)
    · refine lv_iconst (v := 0) hx hb dX3_write_26 (by decide) ?_
      exact wd_iret (O := (dkO G)) hx hb hr hlocks hK hP hS (by decide) dX3_write_27 (by simp only [wrV, hd, if_pos c1]) (by simp only [wrM, hd, if_pos c1])
    · refine lv_iload_n hx hb dX3_write_17 rfl (lv_at hl 3 rfl) ?_
      refine lv_aload hx hb dX3_write_18 (lv_at hl 0 rfl) ?_
      refine wd_get (O := (dkO G)) (v := .int (M (9 + j2) 6)) hx hb hts hi0 hown hK hP (dk_lt (by omega)) (dE_lock (by omega)) rfl 6 (by decide) (hts (.fieldLink RX3 135 "LeaseDesk$Lock" "seenToken" "I") (by decide +kernel)) (fun _ h9 => h9) rfl dX3_write_20 ?_
      refine lv_icmp_ge (tgt := 28) hx hb dX3_write_23 (by decide) (fun c2 => ?_) (fun c2 => ?_)
      · refine lv_aload hx hb dX3_write_28 (lv_at hl 0 rfl) ?_
        refine lv_iload_n hx hb dX3_write_30 rfl (lv_at hl 3 rfl) ?_
        refine wd_put (O := (dkO G)) (ty := .int) hj hx hb hts hi0 tyX0 tyX0_ok nmX0 hown hK hP hS (dk_lt (by omega)) (dE_lock (by omega)) rfl 6 (by decide) (hts (.fieldLink RX3 135 "LeaseDesk$Lock" "seenToken" "I") (by decide +kernel)) (fun _ h9 => h9) rfl (by decide +kernel) rfl rfl (Nat.le_of_ble_eq_true rfl) ((dE_lock (by omega)).trans rfl) dX3_write_31 (fun H locs hP hS => ?_)
        have hok : dk_ok (up M (9 + j2) 6 t) := ok_up hok (by omega)
        refine lv_aload hx hb dX3_write_34 (lv_at hl 0 rfl) ?_
        refine lv_iload_n hx hb dX3_write_36 rfl (lv_at hl 4 rfl) ?_
        refine wd_put (O := (dkO G)) (ty := .int) hj hx hb hts hi0 tyX0 tyX0_ok nmX0 hown hK hP hS (dk_lt (by omega)) (dE_lock (by omega)) rfl 7 (by decide) (hts (.fieldLink RX3 138 "LeaseDesk$Lock" "value" "I") (by decide +kernel)) (fun _ h9 => h9) rfl (by decide +kernel) rfl rfl (Nat.le_of_ble_eq_true rfl) ((dE_lock (by omega)).trans rfl) dX3_write_37 (fun H locs hP hS => ?_)
        have hok : dk_ok (up (up M (9 + j2) 6 t) (9 + j2) 7 v) := ok_up hok (by omega)
        refine lv_iconst (v := 1) hx hb dX3_write_40 (by decide) ?_
        exact wd_iret (O := (dkO G)) hx hb hr hlocks hK hP hS (by decide) dX3_write_41 (by simp only [wrV, hd, if_neg c1, if_pos c2]) (by simp only [wrM, hd, if_neg c1, if_pos c2])
      · refine lv_iconst (v := 0) hx hb dX3_write_26 (by decide) ?_
        exact wd_iret (O := (dkO G)) hx hb hr hlocks hK hP hS (by decide) dX3_write_27 (by simp only [wrV, hd, if_neg c1, if_neg c2]) (by simp only [wrM, hd, if_neg c1, if_neg c2])
set_option maxRecDepth 100000 in
set_option maxHeartbeats 4000000 in
theorem c_X3_rate {l : Launch} {G : DG} (hj : wj (dkO G)) {M : Mem} (hok : dk_ok M) (sz : Nat) (x r : Int32) : Met l yX3_rate wsX3_rate ({ frames := 1, cells := 0, slots := 0, locals := 21 }) (va_Pc [.ref (wa (dkO G) 0), .int x, .int r] (wp (dkO G) sz M)) (wQi (dkO G) sz (rtV M x r) (rtM M x r)) 0 0 (wA (dkO G) sz) := by
  rcases op_cases (osV M x) with ho | ⟨j1, ho⟩
  · refine wd_ofW (O := (dkO G)) (M := M) (Qc := fun z => wQi (dkO G) z (rtV M x r) (rtM M x r)) (cc := cX3_rate) (maxL := 4) (ret := (some .boolean)) (lv := [(0, .ref (wa (dkO G) 0)), (1, .int x), (2, .int r)]) (by decide) rfl (Nat.le_of_ble_eq_true rfl) rfl ?_
    intro p e s m below meth c ls hx hb hr hml hown hts hlocks hP hK hS hl
    have hi2 : ∀ w ∈ wsX20, w ∈ wsX3_rate := by decide +kernel
    refine lv_aload_n hx hb dX3_rate_0 rfl (lv_at hl 0 rfl) ?_
    refine lv_iload_n hx hb dX3_rate_1 rfl (lv_at hl 1 rfl) ?_
    refine wd_cqn (O := (dkO G)) hS (va_runV (As := [.int x]) (rest := []) ⟨hx, hb, hml, hown, hts⟩ (c_X3_openSession_n (G := G) hj hok s.heap.size x ho) (cwV 1 hts gX3_rate_X3_openSession rfl rfl rfl (by decide +kernel) ⟨Nat.le_of_ble_eq_true rfl, Nat.le_of_ble_eq_true rfl⟩) (wd_pre hK hP (dk_lt (by omega)) dE_0 rfl) rfl rfl hl.1 rfl (lv_room (Nat.le_of_ble_eq_true rfl)) dX3_rate_2 ⟨Nat.le_of_ble_eq_true rfl, Nat.le_of_ble_eq_true rfl⟩) (fun H locs hP hS => ?_)
    refine lv_astore_nN (lv' := [(3, .null), (0, .ref (wa (dkO G) 0)), (1, .int x), (2, .int r)]) hx hb dX3_rate_5 rfl hl (by decide) rfl (fun ls hl => ?_)
    refine lv_aload_nN hx hb dX3_rate_6 rfl (lv_at hl 0 rfl) ?_
    refine lv_ifnullN (tgt := 22) hx hb dX3_rate_7 (by decide) ?_
    refine lv_iconst (v := 0) hx hb dX3_rate_22 (by decide) ?_
    exact wd_iret (O := (dkO G)) hx hb hr hlocks hK hP hS (by decide) dX3_rate_23 (by simp only [rtV, ho]) (by simp only [rtM, ho])
  · obtain ⟨hj1, rfl, hon⟩ := osV_some ho
    refine wd_ofW (O := (dkO G)) (M := M) (Qc := fun z => wQi (dkO G) z (rtV M (nI j1) r) (rtM M (nI j1) r)) (cc := cX3_rate) (maxL := 4) (ret := (some .boolean)) (lv := [(0, .ref (wa (dkO G) 0)), (1, .int (nI j1)), (2, .int r)]) (by decide) rfl (Nat.le_of_ble_eq_true rfl) rfl ?_
    intro p e s m below meth c ls hx hb hr hml hown hts hlocks hP hK hS hl
    have hi2 : ∀ w ∈ wsX20, w ∈ wsX3_rate := by decide +kernel
    refine lv_aload_n hx hb dX3_rate_0 rfl (lv_at hl 0 rfl) ?_
    refine lv_iload_n hx hb dX3_rate_1 rfl (lv_at hl 1 rfl) ?_
    refine wd_cqs (O := (dkO G)) hS (va_runV (As := [.int (nI j1)]) (rest := []) ⟨hx, hb, hml, hown, hts⟩ (c_X3_openSession_s (G := G) hj hok (by omega) hon s.heap.size) (cwV 1 hts gX3_rate_X3_openSession rfl rfl rfl (by decide +kernel) ⟨Nat.le_of_ble_eq_true rfl, Nat.le_of_ble_eq_true rfl⟩) (wd_pre hK hP (dk_lt (by omega)) dE_0 rfl) rfl rfl hl.1 rfl (lv_room (Nat.le_of_ble_eq_true rfl)) dX3_rate_2 ⟨Nat.le_of_ble_eq_true rfl, Nat.le_of_ble_eq_true rfl⟩) (fun H locs hP hS => ?_)
    refine lv_astore_n (lv' := [(3, .ref (wa (dkO G) (3 + j1))), (0, .ref (wa (dkO G) 0)), (1, .int (nI j1)), (2, .int r)]) hx hb dX3_rate_5 rfl hl (by decide) rfl (fun ls hl => ?_)
    refine lv_aload_n hx hb dX3_rate_6 rfl (lv_at hl 0 rfl) ?_
    refine lv_ifnull hx hb dX3_rate_7 ?_
    refine lv_iload_n hx hb dX3_rate_10 rfl (lv_at hl 3 rfl) ?_
    refine lv_bipush (v := 9) hx hb dX3_rate_11 (by decide) ?_
    refine lv_icmp_lt (tgt := 22) hx hb dX3_rate_13 (by decide) (fun c1 => ?_) (fun c1 => ?_)
    · refine lv_iconst (v := 0) hx hb dX3_rate_22 (by decide) ?_
      exact wd_iret (O := (dkO G)) hx hb hr hlocks hK hP hS (by decide) dX3_rate_23 (by simp only [rtV, ho, if_pos c1]) (by simp only [rtM, ho, if_pos c1])
    · refine lv_iload_n hx hb dX3_rate_16 rfl (lv_at hl 3 rfl) ?_
      refine lv_bipush (v := 11) hx hb dX3_rate_17 (by decide) ?_
      refine lv_icmp_le (tgt := 24) hx hb dX3_rate_19 (by decide) (fun c2 => ?_) (fun c2 => ?_)
      · refine lv_aload_n hx hb dX3_rate_24 rfl (lv_at hl 0 rfl) ?_
        refine lv_iload_n hx hb dX3_rate_25 rfl (lv_at hl 3 rfl) ?_
        refine wd_put (O := (dkO G)) (ty := .int) hj hx hb hts hi2 tyX2 tyX2_ok nmX2 hown hK hP hS (dk_lt (by omega)) (dE_ses (by omega)) rfl 2 (by decide) (hts (.fieldLink RX3 56 "LeaseDesk$Session" "rate" "I") (by decide +kernel)) (fun _ h9 => h9) rfl (by decide +kernel) rfl rfl (Nat.le_of_ble_eq_true rfl) ((dE_ses (by omega)).trans rfl) dX3_rate_26 (fun H locs hP hS => ?_)
        have hok : dk_ok (up M (3 + j1) 2 r) := ok_up hok (by omega)
        refine lv_iconst (v := 1) hx hb dX3_rate_29 (by decide) ?_
        exact wd_iret (O := (dkO G)) hx hb hr hlocks hK hP hS (by decide) dX3_rate_30 (by simp only [rtV, ho, if_neg c1, if_pos c2]) (by simp only [rtM, ho, if_neg c1, if_pos c2])
      · refine lv_iconst (v := 0) hx hb dX3_rate_22 (by decide) ?_
        exact wd_iret (O := (dkO G)) hx hb hr hlocks hK hP hS (by decide) dX3_rate_23 (by simp only [rtV, ho, if_neg c1, if_neg c2]) (by simp only [rtM, ho, if_neg c1, if_neg c2])
set_option maxRecDepth 100000 in
set_option maxHeartbeats 4000000 in
theorem c_X3_cancel {l : Launch} {G : DG} (hj : wj (dkO G)) {M : Mem} (hok : dk_ok M) (sz : Nat) (x y : Int32) : Met l yX3_cancel wsX3_cancel ({ frames := 2, cells := 0, slots := 0, locals := 45 }) (va_Pc [.ref (wa (dkO G) 0), .int x, .int y] (wp (dkO G) sz M)) (wQi (dkO G) sz (cnV M x y) (cnM M x y)) 0 0 (wA (dkO G) sz) := by
  rcases op_cases (dN y 4) with hd | ⟨j2, hd⟩
  · refine wd_ofW (O := (dkO G)) (M := M) (Qc := fun z => wQi (dkO G) z (cnV M x y) (cnM M x y)) (cc := cX3_cancel) (maxL := 4) (ret := (some .boolean)) (lv := [(0, .ref (wa (dkO G) 0)), (1, .int x), (2, .int y)]) (by decide) rfl (Nat.le_of_ble_eq_true rfl) rfl ?_
    intro p e s m below meth c ls hx hb hr hml hown hts hlocks hP hK hS hl
    have hi0 : ∀ w ∈ wsX00, w ∈ wsX3_cancel := by decide +kernel
    refine lv_aload_n hx hb dX3_cancel_0 rfl (lv_at hl 0 rfl) ?_
    refine lv_iload_n hx hb dX3_cancel_1 rfl (lv_at hl 2 rfl) ?_
    refine wd_cqn (O := (dkO G)) hS (va_runV (As := [.int y]) (rest := []) ⟨hx, hb, hml, hown, hts⟩ (c_X3_knownLock_n (G := G) hj hok s.heap.size y hd) (cwV 1 hts gX3_cancel_X3_knownLock rfl rfl rfl (by decide +kernel) ⟨Nat.le_of_ble_eq_true rfl, Nat.le_of_ble_eq_true rfl⟩) (wd_pre hK hP (dk_lt (by omega)) dE_0 rfl) rfl rfl hl.1 rfl (lv_room (Nat.le_of_ble_eq_true rfl)) dX3_cancel_2 ⟨Nat.le_of_ble_eq_true rfl, Nat.le_of_ble_eq_true rfl⟩) (fun H locs hP hS => ?_)
    refine lv_astore_nN (lv' := [(3, .null), (0, .ref (wa (dkO G) 0)), (1, .int x), (2, .int y)]) hx hb dX3_cancel_5 rfl hl (by decide) rfl (fun ls hl => ?_)
    refine lv_aload_nN hx hb dX3_cancel_6 rfl (lv_at hl 0 rfl) ?_
    refine lv_ifnullN (tgt := 25) hx hb dX3_cancel_7 (by decide) ?_
    refine lv_iconst (v := 0) hx hb dX3_cancel_25 (by decide) ?_
    exact wd_iret (O := (dkO G)) hx hb hr hlocks hK hP hS (by decide) dX3_cancel_26 (by simp only [cnV, hd]) (by simp only [cnM, hd])
  · obtain ⟨hj2, rfl⟩ := dN_some (by decide) hd
    refine wd_ofW (O := (dkO G)) (M := M) (Qc := fun z => wQi (dkO G) z (cnV M x (nI j2)) (cnM M x (nI j2))) (cc := cX3_cancel) (maxL := 4) (ret := (some .boolean)) (lv := [(0, .ref (wa (dkO G) 0)), (1, .int x), (2, .int (nI j2))]) (by decide) rfl (Nat.le_of_ble_eq_true rfl) rfl ?_
    intro p e s m below meth c ls hx hb hr hml hown hts hlocks hP hK hS hl
    have hi0 : ∀ w ∈ wsX00, w ∈ wsX3_cancel := by decide +kernel
    refine lv_aload_n hx hb dX3_cancel_0 rfl (lv_at hl 0 rfl) ?_
    refine lv_iload_n hx hb dX3_cancel_1 rfl (lv_at hl 2 rfl) ?_
    refine wd_cqs (O := (dkO G)) hS (va_runV (As := [.int (nI j2)]) (rest := []) ⟨hx, hb, hml, hown, hts⟩ (c_X3_knownLock_s (G := G) hj hok (by omega) s.heap.size) (cwV 1 hts gX3_cancel_X3_knownLock rfl rfl rfl (by decide +kernel) ⟨Nat.le_of_ble_eq_true rfl, Nat.le_of_ble_eq_true rfl⟩) (wd_pre hK hP (dk_lt (by omega)) dE_0 rfl) rfl rfl hl.1 rfl (lv_room (Nat.le_of_ble_eq_true rfl)) dX3_cancel_2 ⟨Nat.le_of_ble_eq_true rfl, Nat.le_of_ble_eq_true rfl⟩) (fun H locs hP hS => ?_)
    refine lv_astore_n (lv' := [(3, .ref (wa (dkO G) (9 + j2))), (0, .ref (wa (dkO G) 0)), (1, .int x), (2, .int (nI j2))]) hx hb dX3_cancel_5 rfl hl (by decide) rfl (fun ls hl => ?_)
    refine lv_aload_n hx hb dX3_cancel_6 rfl (lv_at hl 0 rfl) ?_
    refine lv_ifnull hx hb dX3_cancel_7 ?_
    refine lv_aload_n hx hb dX3_cancel_10 rfl (lv_at hl 0 rfl) ?_
    refine wd_get (O := (dkO G)) (v := .ref (wa (dkO G) (13 + j2))) hx hb hts hi0 hown hK hP (dk_lt (by omega)) (dE_lock (by omega)) rfl 0 (by decide) (hts (.fieldLink RX3 99 "LeaseDesk$Lock" "row" "LLeaseDesk$Row;") (by decide +kernel)) (fun _ h9 => h9) rfl dX3_cancel_11 ?_
    refine lv_iload_n hx hb dX3_cancel_14 rfl (lv_at hl 2 rfl) ?_
    refine wd_ci (O := (dkO G)) hS (va_runV (As := [.int x]) (rest := []) ⟨hx, hb, hml, hown, hts⟩ (c_X1_drop (G := G) hj hok (by omega) H.size x) (cwV 1 hts gX3_cancel_X1_drop rfl rfl rfl (by decide +kernel) ⟨Nat.le_of_ble_eq_true rfl, Nat.le_of_ble_eq_true rfl⟩) (wd_pre hK hP (dk_lt (by omega)) (dE_row (by omega)) rfl) rfl rfl hl.1 rfl (lv_room (Nat.le_of_ble_eq_true rfl)) dX3_cancel_15 ⟨Nat.le_of_ble_eq_true rfl, Nat.le_of_ble_eq_true rfl⟩) (fun H locs hP hS => ?_)
    have hok : dk_ok (drp M j2 x) := ok_drp hok (by omega)
    refine lv_if_eq (tgt := 25) hx hb dX3_cancel_18 (by decide) (fun c1 => ?_) (fun c1 => ?_)
    · refine lv_iconst (v := 0) hx hb dX3_cancel_25 (by decide) ?_
      exact wd_iret (O := (dkO G)) hx hb hr hlocks hK hP hS (by decide) dX3_cancel_26 (by simp only [cnV, hd, if_pos c1]) (by simp only [cnM, hd])
    · refine lv_iconst (v := 1) hx hb dX3_cancel_21 (by decide) ?_
      refine lv_goto (tgt := 26) hx hb dX3_cancel_22 (by decide) ?_
      exact wd_iret (O := (dkO G)) hx hb hr hlocks hK hP hS (by decide) dX3_cancel_26 (by simp only [cnV, hd, if_neg c1]) (by simp only [cnM, hd])
set_option maxRecDepth 100000 in
set_option maxHeartbeats 4000000 in
theorem c_X3_moveClocks {l : Launch} {G : DG} (hj : wj (dkO G)) {M : Mem} (hok : dk_ok M) (sz : Nat) (d : Int32) : Met l yX3_moveClocks wsX3_moveClocks ({ frames := 0, cells := 0, slots := 0, locals := 0 }) (va_Pc [.ref (wa (dkO G) 0), .int d] (wp (dkO G) sz M)) (wQv (dkO G) sz (mvM d 6 0 M)) 0 0 (wA (dkO G) sz) := by
  refine wd_ofW (O := (dkO G)) (M := M) (Qc := fun z => wQv (dkO G) z (mvM d 6 0 M)) (cc := cX3_moveClocks) (maxL := 6) (ret := none) (lv := [(0, .ref (wa (dkO G) 0)), (1, .int d)]) (by decide) rfl (Nat.le_of_ble_eq_true rfl) rfl ?_
  intro p e s m below meth c ls hx hb hr hml hown hts hlocks hP hK hS hl
  have hi2 : ∀ w ∈ wsX20, w ∈ wsX3_moveClocks := by decide +kernel
  have hi3 : ∀ w ∈ wsX30, w ∈ wsX3_moveClocks := by decide +kernel
  refine lv_aload_n hx hb dX3_moveClocks_0 rfl (lv_at hl 0 rfl) ?_
  refine wd_get (O := (dkO G)) (v := .ref (wa (dkO G) 1)) hx hb hts hi3 hown hK hP (dk_lt (by omega)) dE_0 rfl 0 (by decide) (hts (.fieldLink RX3 11 "LeaseDesk" "sessions" "[LLeaseDesk$Session;") (by decide +kernel)) (fun _ h9 => h9) rfl dX3_moveClocks_1 ?_
  refine lv_astore_n (lv' := [(2, .ref (wa (dkO G) 1)), (0, .ref (wa (dkO G) 0)), (1, .int d)]) hx hb dX3_moveClocks_4 rfl hl (by decide) rfl (fun ls hl => ?_)
  refine lv_aload_n hx hb dX3_moveClocks_5 rfl (lv_at hl 0 rfl) ?_
  refine wd_alen (O := (dkO G)) (v := 6) hx hb hK hP (dk_lt (by omega)) 1 dE_1 rfl rfl dX3_moveClocks_6 ?_
  refine lv_istore_n (lv' := [(3, .int 6), (2, .ref (wa (dkO G) 1)), (0, .ref (wa (dkO G) 0)), (1, .int d)]) hx hb dX3_moveClocks_7 rfl hl (by decide) rfl (fun ls hl => ?_)
  refine lv_iconst (v := 0) hx hb dX3_moveClocks_8 (by decide) ?_
  refine lv_istore (lv' := [(4, .int 0), (3, .int 6), (2, .ref (wa (dkO G) 1)), (0, .ref (wa (dkO G) 0)), (1, .int d)]) hx hb dX3_moveClocks_9 hl (by decide) rfl (fun ls hl => ?_)
  refine wl_loop (pc := 11) (fun k j N v ls H locs => (j + k = 6) ∧ (dk_ok N) ∧ (mvM d k j N = mvM d 6 0 M) ∧ va_P (wD (dkO G)) vwCl (wd (dkO G) N) H ∧ va_S (wA (dkO G) s.heap.size) s.heap H locs ∧ lv_has ls 6 [(4, .int (nI j)), (0, .ref (wa (dkO G) 0)), (1, .int d), (2, .ref (wa (dkO G) 1)), (3, .int 6)]) ?_ ?_ 6 0 M 0 ⟨by omega, hok, rfl, hP, hS, lv_sub hl [0, 3, 4, 2, 1] rfl⟩
  · rintro j N v ls H locs ⟨h1, h2, h3, hP, hS, hl⟩
    refine lv_iload hx hb dX3_moveClocks_11 (lv_at hl 0 rfl) ?_
    refine lv_iload_n hx hb dX3_moveClocks_13 rfl (lv_at hl 4 rfl) ?_
    refine lv_icmp_ge (tgt := 54) hx hb dX3_moveClocks_14 (by decide) (fun c1 => ?_) (fun c1 => absurd (show nI 6 ≤ nI j from nI_le (by omega) (by omega)) c1)
    exact wd_vret (O := (dkO G)) hx hb hr hlocks hK hP hS dX3_moveClocks_54 (h3)
  · rintro k j N v ls H locs ih ⟨h1, h2, h3, hP, hS, hl⟩
    have hok := h2
    refine lv_iload hx hb dX3_moveClocks_11 (lv_at hl 0 rfl) ?_
    refine lv_iload_n hx hb dX3_moveClocks_13 rfl (lv_at hl 4 rfl) ?_
    refine lv_icmp_ge (tgt := 54) hx hb dX3_moveClocks_14 (by decide) (fun c2 => absurd c2 (show ¬ nI 6 ≤ nI j from nI_ge (by omega) (by omega))) (fun c2 => ?_)
    refine lv_aload_n hx hb dX3_moveClocks_17 rfl (lv_at hl 3 rfl) ?_
    refine lv_iload hx hb dX3_moveClocks_18 (lv_at hl 0 rfl) ?_
    refine wd_aald (O := (dkO G)) (b := wa (dkO G) (3 + j)) hx hb hK hP (dk_lt (by omega)) 1 dE_1 rfl (i := j) rfl (by omega) (by decide) (if_pos (by omega)) dX3_moveClocks_20 ?_
    refine lv_astore (lv' := [(5, .ref (wa (dkO G) (3 + j))), (4, .int (nI j)), (0, .ref (wa (dkO G) 0)), (1, .int d), (2, .ref (wa (dkO G) 1)), (3, .int 6)]) hx hb dX3_moveClocks_21 hl (by decide) rfl (fun ls hl => ?_)
    refine lv_aload hx hb dX3_moveClocks_23 (lv_at hl 0 rfl) ?_
    refine wd_get (O := (dkO G)) (v := .int (N (3 + j) 0)) hx hb hts hi2 hown hK hP (dk_lt (by omega)) (dE_ses (by omega)) rfl 0 (by decide) (hts (.fieldLink RX3 27 "LeaseDesk$Session" "isOpen" "Z") (by decide +kernel)) (fun _ h9 => h9) rfl dX3_moveClocks_25 ?_
    refine lv_if_eq (tgt := 48) hx hb dX3_moveClocks_28 (by decide) (fun c3 => ?_) (fun c3 => ?_)
    · refine lv_iinc (v := nI (j + 1)) (lv' := [(4, .int (nI (j + 1))), (5, .ref (wa (dkO G) (3 + j))), (0, .ref (wa (dkO G) 0)), (1, .int d), (2, .ref (wa (dkO G) 1)), (3, .int 6)]) hx hb dX3_moveClocks_48 hl (k := 1) rfl (nI_1 j) (by decide) rfl (fun ls hl => ?_)
      refine lv_goto (tgt := 11) hx hb dX3_moveClocks_51 (by decide) ?_
      exact ih (j + 1) N v ls H locs ⟨by omega, hok, by rw [← h3]; simp only [mvM, if_pos c3], hP, hS, lv_sub hl [0, 2, 3, 4, 5] rfl⟩
    · refine lv_aload hx hb dX3_moveClocks_31 (lv_at hl 0 rfl) ?_
      refine lv_dup hx hb dX3_moveClocks_33 rfl ?_
      refine wd_get (O := (dkO G)) (v := .int (N (3 + j) 3)) hx hb hts hi2 hown hK hP (dk_lt (by omega)) (dE_ses (by omega)) rfl 3 (by decide) (hts (.fieldLink RX3 81 "LeaseDesk$Session" "clock" "I") (by decide +kernel)) (fun _ h9 => h9) rfl dX3_moveClocks_34 ?_
      refine lv_aload hx hb dX3_moveClocks_37 (lv_at hl 0 rfl) ?_
      refine wd_get (O := (dkO G)) (v := .int (N (3 + j) 2)) hx hb hts hi2 hown hK hP (dk_lt (by omega)) (dE_ses (by omega)) rfl 2 (by decide) (hts (.fieldLink RX3 56 "LeaseDesk$Session" "rate" "I") (by decide +kernel)) (fun _ h9 => h9) rfl dX3_moveClocks_39 ?_
      refine lv_iload_n hx hb dX3_moveClocks_42 rfl (lv_at hl 3 rfl) ?_
      refine lv_imul hx hb dX3_moveClocks_43 ?_
      refine lv_iadd hx hb dX3_moveClocks_44 ?_
      refine wd_put (O := (dkO G)) (ty := .int) hj hx hb hts hi2 tyX2 tyX2_ok nmX2 hown hK hP hS (dk_lt (by omega)) (dE_ses (by omega)) rfl 3 (by decide) (hts (.fieldLink RX3 81 "LeaseDesk$Session" "clock" "I") (by decide +kernel)) (fun _ h9 => h9) rfl (by decide +kernel) rfl rfl (Nat.le_of_ble_eq_true rfl) ((dE_ses (by omega)).trans rfl) dX3_moveClocks_45 (fun H locs hP hS => ?_)
      have hok : dk_ok (up N (3 + j) 3 ((N (3 + j) 3) + ((N (3 + j) 2) * d))) := ok_up hok (by omega)
      refine lv_iinc (v := nI (j + 1)) (lv' := [(4, .int (nI (j + 1))), (5, .ref (wa (dkO G) (3 + j))), (0, .ref (wa (dkO G) 0)), (1, .int d), (2, .ref (wa (dkO G) 1)), (3, .int 6)]) hx hb dX3_moveClocks_48 hl (k := 1) rfl (nI_1 j) (by decide) rfl (fun ls hl => ?_)
      refine lv_goto (tgt := 11) hx hb dX3_moveClocks_51 (by decide) ?_
      exact ih (j + 1) (up N (3 + j) 3 ((N (3 + j) 3) + ((N (3 + j) 2) * d))) v ls H locs ⟨by omega, hok, by rw [← h3]; simp only [mvM, if_neg c3], hP, hS, lv_sub hl [0, 2, 3, 4, 5] rfl⟩
set_option maxRecDepth 100000 in
set_option maxHeartbeats 4000000 in
theorem c_X3_passOn {l : Launch} {G : DG} (hj : wj (dkO G)) {M : Mem} (hok : dk_ok M) {i : Nat} (hi : i < 4) (sz : Nat) : Met l yX3_passOn wsX3_passOn ({ frames := 2, cells := 0, slots := 0, locals := 47 }) (va_Pc [.ref (wa (dkO G) 0), .ref (wa (dkO G) (9 + i))] (wp (dkO G) sz M)) (wQv (dkO G) sz (psM M i)) 0 0 (wA (dkO G) sz) := by
  refine wd_ofW (O := (dkO G)) (M := M) (Qc := fun z => wQv (dkO G) z (psM M i)) (cc := cX3_passOn) (maxL := 4) (ret := none) (lv := [(0, .ref (wa (dkO G) 0)), (1, .ref (wa (dkO G) (9 + i)))]) (by decide) rfl (Nat.le_of_ble_eq_true rfl) rfl ?_
  intro p e s m below meth c ls hx hb hr hml hown hts hlocks hP hK hS hl
  have hi0 : ∀ w ∈ wsX00, w ∈ wsX3_passOn := by decide +kernel
  have hi3 : ∀ w ∈ wsX30, w ∈ wsX3_passOn := by decide +kernel
  refine lv_aload_n hx hb dX3_passOn_0 rfl (lv_at hl 1 rfl) ?_
  refine lv_iconst (v := (-1)) hx hb dX3_passOn_1 (by decide) ?_
  refine wd_put (O := (dkO G)) (ty := .int) hj hx hb hts hi0 tyX0 tyX0_ok nmX0 hown hK hP hS (dk_lt (by omega)) (dE_lock (by omega)) rfl 1 (by decide) (hts (.fieldLink RX3 78 "LeaseDesk$Lock" "holder" "I") (by decide +kernel)) (fun _ h9 => h9) rfl (by decide +kernel) rfl rfl (Nat.le_of_ble_eq_true rfl) ((dE_lock (by omega)).trans rfl) dX3_passOn_2 (fun H locs hP hS => ?_)
  have hok : dk_ok (up M (9 + i) 1 ((-1))) := ok_up hok (by omega)
  refine lv_aload_n hx hb dX3_passOn_5 rfl (lv_at hl 1 rfl) ?_
  refine wd_get (O := (dkO G)) (v := .ref (wa (dkO G) (13 + i))) hx hb hts hi0 hown hK hP (dk_lt (by omega)) (dE_lock (by omega)) rfl 0 (by decide) (hts (.fieldLink RX3 99 "LeaseDesk$Lock" "row" "LLeaseDesk$Row;") (by decide +kernel)) (fun _ h9 => h9) rfl dX3_passOn_6 ?_
  refine lv_iconst (v := 0) hx hb dX3_passOn_9 (by decide) ?_
  refine wd_ci (O := (dkO G)) hS (va_runV (As := [.int 0]) (rest := []) ⟨hx, hb, hml, hown, hts⟩ (c_X1_slotAt (G := G) hj hok (by omega) H.size 0) (cwV 1 hts gX3_passOn_X1_slotAt rfl rfl rfl (by decide +kernel) ⟨Nat.le_of_ble_eq_true rfl, Nat.le_of_ble_eq_true rfl⟩) (wd_pre hK hP (dk_lt (by omega)) (dE_row (by omega)) rfl) rfl rfl hl.1 rfl (lv_room (Nat.le_of_ble_eq_true rfl)) dX3_passOn_10 ⟨Nat.le_of_ble_eq_true rfl, Nat.le_of_ble_eq_true rfl⟩) (fun H locs hP hS => ?_)
  refine lv_istore_n (lv' := [(2, .int (slA (up M (9 + i) 1 ((-1))) i 0)), (0, .ref (wa (dkO G) 0)), (1, .ref (wa (dkO G) (9 + i)))]) hx hb dX3_passOn_13 rfl hl (by decide) rfl (fun ls hl => ?_)
  refine lv_iload_n hx hb dX3_passOn_14 rfl (lv_at hl 0 rfl) ?_
  refine lv_iconst (v := (-1)) hx hb dX3_passOn_15 (by decide) ?_
  refine lv_icmp_eq (tgt := 52) hx hb dX3_passOn_16 (by decide) (fun c1 => ?_) (fun c1 => ?_)
  · exact wd_vret (O := (dkO G)) hx hb hr hlocks hK hP hS dX3_passOn_52 (by simp only [psM, if_pos c1])
  · refine lv_aload_n hx hb dX3_passOn_19 rfl (lv_at hl 2 rfl) ?_
    refine wd_get (O := (dkO G)) (v := .ref (wa (dkO G) (13 + i))) hx hb hts hi0 hown hK hP (dk_lt (by omega)) (dE_lock (by omega)) rfl 0 (by decide) (hts (.fieldLink RX3 99 "LeaseDesk$Lock" "row" "LLeaseDesk$Row;") (by decide +kernel)) (fun _ h9 => h9) rfl dX3_passOn_20 ?_
    refine lv_iconst (v := 0) hx hb dX3_passOn_23 (by decide) ?_
    refine wd_ci (O := (dkO G)) hS (va_runV (As := [.int 0]) (rest := []) ⟨hx, hb, hml, hown, hts⟩ (c_X1_termAt (G := G) hj hok (by omega) H.size 0) (cwV 1 hts gX3_passOn_X1_termAt rfl rfl rfl (by decide +kernel) ⟨Nat.le_of_ble_eq_true rfl, Nat.le_of_ble_eq_true rfl⟩) (wd_pre hK hP (dk_lt (by omega)) (dE_row (by omega)) rfl) rfl rfl hl.1 rfl (lv_room (Nat.le_of_ble_eq_true rfl)) dX3_passOn_24 ⟨Nat.le_of_ble_eq_true rfl, Nat.le_of_ble_eq_true rfl⟩) (fun H locs hP hS => ?_)
    refine lv_istore_n (lv' := [(3, .int (tmA (up M (9 + i) 1 ((-1))) i 0)), (2, .int (slA (up M (9 + i) 1 ((-1))) i 0)), (0, .ref (wa (dkO G) 0)), (1, .ref (wa (dkO G) (9 + i)))]) hx hb dX3_passOn_27 rfl hl (by decide) rfl (fun ls hl => ?_)
    refine lv_aload_n hx hb dX3_passOn_28 rfl (lv_at hl 3 rfl) ?_
    refine wd_get (O := (dkO G)) (v := .ref (wa (dkO G) (13 + i))) hx hb hts hi0 hown hK hP (dk_lt (by omega)) (dE_lock (by omega)) rfl 0 (by decide) (hts (.fieldLink RX3 99 "LeaseDesk$Lock" "row" "LLeaseDesk$Row;") (by decide +kernel)) (fun _ h9 => h9) rfl dX3_passOn_29 ?_
    refine lv_iload_n hx hb dX3_passOn_32 rfl (lv_at hl 1 rfl) ?_
    refine wd_ci (O := (dkO G)) hS (va_runV (As := [.int (slA (up M (9 + i) 1 ((-1))) i 0)]) (rest := []) ⟨hx, hb, hml, hown, hts⟩ (c_X1_drop (G := G) hj hok (by omega) H.size (slA (up M (9 + i) 1 ((-1))) i 0)) (cwV 1 hts gX3_passOn_X1_drop rfl rfl rfl (by decide +kernel) ⟨Nat.le_of_ble_eq_true rfl, Nat.le_of_ble_eq_true rfl⟩) (wd_pre hK hP (dk_lt (by omega)) (dE_row (by omega)) rfl) rfl rfl hl.1 rfl (lv_room (Nat.le_of_ble_eq_true rfl)) dX3_passOn_33 ⟨Nat.le_of_ble_eq_true rfl, Nat.le_of_ble_eq_true rfl⟩) (fun H locs hP hS => ?_)
    have hok : dk_ok (drp (up M (9 + i) 1 ((-1))) i (slA (up M (9 + i) 1 ((-1))) i 0)) := ok_drp hok (by omega)
    refine lv_pop hx hb dX3_passOn_36 rfl ?_
    refine lv_aload_n hx hb dX3_passOn_37 rfl (lv_at hl 3 rfl) ?_
    refine lv_iload_n hx hb dX3_passOn_38 rfl (lv_at hl 1 rfl) ?_
    refine lv_iload_n hx hb dX3_passOn_39 rfl (lv_at hl 0 rfl) ?_
    refine lv_aload_n hx hb dX3_passOn_40 rfl (lv_at hl 2 rfl) ?_
    refine wd_get (O := (dkO G)) (v := .int ((drp (up M (9 + i) 1 ((-1))) i (slA (up M (9 + i) 1 ((-1))) i 0)) 0 2)) hx hb hts hi3 hown hK hP (dk_lt (by omega)) dE_0 rfl 2 (by decide) (hts (.fieldLink RX3 23 "LeaseDesk" "now" "I") (by decide +kernel)) (fun _ h9 => h9) rfl dX3_passOn_41 ?_
    refine lv_aload_n hx hb dX3_passOn_44 rfl (lv_at hl 2 rfl) ?_
    refine lv_iload_n hx hb dX3_passOn_45 rfl (lv_at hl 1 rfl) ?_
    refine wd_ci (O := (dkO G)) hS (va_runV (As := [.int (slA (up M (9 + i) 1 ((-1))) i 0)]) (rest := [.int ((drp (up M (9 + i) 1 ((-1))) i (slA (up M (9 + i) 1 ((-1))) i 0)) 0 2), .int (tmA (up M (9 + i) 1 ((-1))) i 0), .int (slA (up M (9 + i) 1 ((-1))) i 0), .ref (wa (dkO G) (9 + i))]) ⟨hx, hb, hml, hown, hts⟩ (c_X3_clock (G := G) hj hok H.size (slA (up M (9 + i) 1 ((-1))) i 0)) (cwV 1 hts gX3_passOn_X3_clock rfl rfl rfl (by decide +kernel) ⟨Nat.le_of_ble_eq_true rfl, Nat.le_of_ble_eq_true rfl⟩) (wd_pre hK hP (dk_lt (by omega)) dE_0 rfl) rfl rfl hl.1 rfl (lv_room (Nat.le_of_ble_eq_true rfl)) dX3_passOn_46 ⟨Nat.le_of_ble_eq_true rfl, Nat.le_of_ble_eq_true rfl⟩) (fun H locs hP hS => ?_)
    refine wd_cv (O := (dkO G)) hS (va_runV (As := [.int (slA (up M (9 + i) 1 ((-1))) i 0), .int (tmA (up M (9 + i) 1 ((-1))) i 0), .int ((drp (up M (9 + i) 1 ((-1))) i (slA (up M (9 + i) 1 ((-1))) i 0)) 0 2), .int (clkV (drp (up M (9 + i) 1 ((-1))) i (slA (up M (9 + i) 1 ((-1))) i 0)) (slA (up M (9 + i) 1 ((-1))) i 0))]) (rest := []) ⟨hx, hb, hml, hown, hts⟩ (c_X0_lend (G := G) hj hok (by omega) H.size (slA (up M (9 + i) 1 ((-1))) i 0) (tmA (up M (9 + i) 1 ((-1))) i 0) ((drp (up M (9 + i) 1 ((-1))) i (slA (up M (9 + i) 1 ((-1))) i 0)) 0 2) (clkV (drp (up M (9 + i) 1 ((-1))) i (slA (up M (9 + i) 1 ((-1))) i 0)) (slA (up M (9 + i) 1 ((-1))) i 0))) (cwV 4 hts gX3_passOn_X0_lend rfl rfl rfl (by decide +kernel) ⟨Nat.le_of_ble_eq_true rfl, Nat.le_of_ble_eq_true rfl⟩) (wd_pre hK hP (dk_lt (by omega)) (dE_lock (by omega)) rfl) rfl rfl hl.1 rfl (lv_room (Nat.le_of_ble_eq_true rfl)) dX3_passOn_49 ⟨Nat.le_of_ble_eq_true rfl, Nat.le_of_ble_eq_true rfl⟩) (fun H locs hP hS => ?_)
    have hok : dk_ok (lnM (drp (up M (9 + i) 1 ((-1))) i (slA (up M (9 + i) 1 ((-1))) i 0)) i (slA (up M (9 + i) 1 ((-1))) i 0) (tmA (up M (9 + i) 1 ((-1))) i 0) ((drp (up M (9 + i) 1 ((-1))) i (slA (up M (9 + i) 1 ((-1))) i 0)) 0 2) (clkV (drp (up M (9 + i) 1 ((-1))) i (slA (up M (9 + i) 1 ((-1))) i 0)) (slA (up M (9 + i) 1 ((-1))) i 0))) := ok_ln hok (by omega)
    exact wd_vret (O := (dkO G)) hx hb hr hlocks hK hP hS dX3_passOn_52 (by simp only [psM, if_neg c1])
set_option maxRecDepth 100000 in
set_option maxHeartbeats 4000000 in
theorem c_X3_endSession {l : Launch} {G : DG} (hj : wj (dkO G)) {M : Mem} (hok : dk_ok M) {i : Nat} (hi : i < 6) (sz : Nat) (x : Int32) : Met l yX3_endSession wsX3_endSession ({ frames := 3, cells := 0, slots := 0, locals := 70 }) (va_Pc [.ref (wa (dkO G) 0), .ref (wa (dkO G) (3 + i)), .int x] (wp (dkO G) sz M)) (wQi (dkO G) sz (endV M x) (endM M i x)) 0 0 (wA (dkO G) sz) := by
  refine wd_ofW (O := (dkO G)) (M := M) (Qc := fun z => wQi (dkO G) z (endV M x) (endM M i x)) (cc := cX3_endSession) (maxL := 8) (ret := (some .int)) (lv := [(0, .ref (wa (dkO G) 0)), (1, .ref (wa (dkO G) (3 + i))), (2, .int x)]) (by decide) rfl (Nat.le_of_ble_eq_true rfl) rfl ?_
  intro p e s m below meth c ls hx hb hr hml hown hts hlocks hP hK hS hl
  have hi0 : ∀ w ∈ wsX00, w ∈ wsX3_endSession := by decide +kernel
  have hi2 : ∀ w ∈ wsX20, w ∈ wsX3_endSession := by decide +kernel
  have hi3 : ∀ w ∈ wsX30, w ∈ wsX3_endSession := by decide +kernel
  refine lv_aload_n hx hb dX3_endSession_0 rfl (lv_at hl 0 rfl) ?_
  refine wd_get (O := (dkO G)) (v := .ref (wa (dkO G) 2)) hx hb hts hi3 hown hK hP (dk_lt (by omega)) dE_0 rfl 1 (by decide) (hts (.fieldLink RX3 18 "LeaseDesk" "locks" "[LLeaseDesk$Lock;") (by decide +kernel)) (fun _ h9 => h9) rfl dX3_endSession_1 ?_
  refine lv_astore_n (lv' := [(3, .ref (wa (dkO G) 2)), (0, .ref (wa (dkO G) 0)), (1, .ref (wa (dkO G) (3 + i))), (2, .int x)]) hx hb dX3_endSession_4 rfl hl (by decide) rfl (fun ls hl => ?_)
  refine lv_aload_n hx hb dX3_endSession_5 rfl (lv_at hl 0 rfl) ?_
  refine wd_alen (O := (dkO G)) (v := 4) hx hb hK hP (dk_lt (by omega)) 2 dE_2 rfl rfl dX3_endSession_6 ?_
  refine lv_istore (lv' := [(4, .int 4), (3, .ref (wa (dkO G) 2)), (0, .ref (wa (dkO G) 0)), (1, .ref (wa (dkO G) (3 + i))), (2, .int x)]) hx hb dX3_endSession_7 hl (by decide) rfl (fun ls hl => ?_)
  refine lv_iconst (v := 0) hx hb dX3_endSession_9 (by decide) ?_
  refine lv_istore (lv' := [(5, .int 0), (4, .int 4), (3, .ref (wa (dkO G) 2)), (0, .ref (wa (dkO G) 0)), (1, .ref (wa (dkO G) (3 + i))), (2, .int x)]) hx hb dX3_endSession_10 hl (by decide) rfl (fun ls hl => ?_)
  refine wl_loop (pc := 12) (fun k j N v ls H locs => (j + k = 4) ∧ (dk_ok N) ∧ (dpA x k j N = dpA x 4 0 M) ∧ va_P (wD (dkO G)) vwCl (wd (dkO G) N) H ∧ va_S (wA (dkO G) s.heap.size) s.heap H locs ∧ lv_has ls 8 [(5, .int (nI j)), (0, .ref (wa (dkO G) 0)), (1, .ref (wa (dkO G) (3 + i))), (2, .int x), (3, .ref (wa (dkO G) 2)), (4, .int 4)]) ?_ ?_ 4 0 M 0 ⟨by omega, hok, rfl, hP, hS, lv_sub hl [0, 3, 4, 5, 2, 1] rfl⟩
  · rintro j N v ls H locs ⟨h1, h2, h3, hP, hS, hl⟩
    have hok := h2
    refine lv_iload hx hb dX3_endSession_12 (lv_at hl 0 rfl) ?_
    refine lv_iload hx hb dX3_endSession_14 (lv_at hl 5 rfl) ?_
    refine lv_icmp_ge (tgt := 41) hx hb dX3_endSession_16 (by decide) (fun c1 => ?_) (fun c1 => absurd (show nI 4 ≤ nI j from nI_le (by omega) (by omega)) c1)
    refine lv_iconst (v := 0) hx hb dX3_endSession_41 (by decide) ?_
    refine lv_istore_n (lv' := [(3, .int 0), (5, .int (nI j)), (0, .ref (wa (dkO G) 0)), (1, .ref (wa (dkO G) (3 + i))), (2, .int x), (4, .int 4)]) hx hb dX3_endSession_42 rfl hl (by decide) rfl (fun ls hl => ?_)
    refine lv_aload_n hx hb dX3_endSession_43 rfl (lv_at hl 2 rfl) ?_
    refine wd_get (O := (dkO G)) (v := .ref (wa (dkO G) 2)) hx hb hts hi3 hown hK hP (dk_lt (by omega)) dE_0 rfl 1 (by decide) (hts (.fieldLink RX3 18 "LeaseDesk" "locks" "[LLeaseDesk$Lock;") (by decide +kernel)) (fun _ h9 => h9) rfl dX3_endSession_44 ?_
    refine lv_astore (lv' := [(4, .ref (wa (dkO G) 2)), (3, .int 0), (5, .int (nI j)), (0, .ref (wa (dkO G) 0)), (1, .ref (wa (dkO G) (3 + i))), (2, .int x)]) hx hb dX3_endSession_47 hl (by decide) rfl (fun ls hl => ?_)
    refine lv_aload hx hb dX3_endSession_49 (lv_at hl 0 rfl) ?_
    refine wd_alen (O := (dkO G)) (v := 4) hx hb hK hP (dk_lt (by omega)) 2 dE_2 rfl rfl dX3_endSession_51 ?_
    refine lv_istore (lv' := [(5, .int 4), (4, .ref (wa (dkO G) 2)), (3, .int 0), (0, .ref (wa (dkO G) 0)), (1, .ref (wa (dkO G) (3 + i))), (2, .int x)]) hx hb dX3_endSession_52 hl (by decide) rfl (fun ls hl => ?_)
    refine lv_iconst (v := 0) hx hb dX3_endSession_54 (by decide) ?_
    refine lv_istore (lv' := [(6, .int 0), (5, .int 4), (4, .ref (wa (dkO G) 2)), (3, .int 0), (0, .ref (wa (dkO G) 0)), (1, .ref (wa (dkO G) (3 + i))), (2, .int x)]) hx hb dX3_endSession_55 hl (by decide) rfl (fun ls hl => ?_)
    refine wl_loop (pc := 57) (fun k j N v ls H locs => (j + k = 4) ∧ (dk_ok N) ∧ (esM x k j N = esM x 4 0 (dpA x 4 0 M)) ∧ (esV x k j N v = endV M x) ∧ va_P (wD (dkO G)) vwCl (wd (dkO G) N) H ∧ va_S (wA (dkO G) s.heap.size) s.heap H locs ∧ lv_has ls 8 [(6, .int (nI j)), (3, .int v), (0, .ref (wa (dkO G) 0)), (1, .ref (wa (dkO G) (3 + i))), (2, .int x), (4, .ref (wa (dkO G) 2)), (5, .int 4)]) ?_ ?_ 4 0 N 0 ⟨by omega, hok, by rw [← h3]; rfl, by unfold endV; rw [← h3]; rfl, hP, hS, lv_sub hl [0, 3, 4, 5, 6, 2, 1] rfl⟩
    · rintro j N v ls H locs ⟨h1, h2, h3, h4, hP, hS, hl⟩
      have hok := h2
      refine lv_iload hx hb dX3_endSession_57 (lv_at hl 0 rfl) ?_
      refine lv_iload hx hb dX3_endSession_59 (lv_at hl 6 rfl) ?_
      refine lv_icmp_ge (tgt := 95) hx hb dX3_endSession_61 (by decide) (fun c2 => ?_) (fun c2 => absurd (show nI 4 ≤ nI j from nI_le (by omega) (by omega)) c2)
      refine lv_aload_n hx hb dX3_endSession_95 rfl (lv_at hl 3 rfl) ?_
      refine lv_iconst (v := 0) hx hb dX3_endSession_96 (by decide) ?_
      refine wd_put (O := (dkO G)) (ty := .boolean) hj hx hb hts hi2 tyX2 tyX2_ok nmX2 hown hK hP hS (dk_lt (by omega)) (dE_ses (by omega)) rfl 0 (by decide) (hts (.fieldLink RX3 27 "LeaseDesk$Session" "isOpen" "Z") (by decide +kernel)) (fun _ h9 => h9) rfl (by decide +kernel) (by decide) (by decide) (Nat.le_of_ble_eq_true rfl) ((dE_ses (by omega)).trans rfl) dX3_endSession_97 (fun H locs hP hS => ?_)
      have hok : dk_ok (up N (3 + i) 0 0) := ok_up hok (by omega)
      refine lv_iload_n hx hb dX3_endSession_100 rfl (lv_at hl 1 rfl) ?_
      exact wd_iret (O := (dkO G)) hx hb hr hlocks hK hP hS rfl dX3_endSession_101 (h4) (by unfold endM; rw [← h3]; rfl)
    · rintro k j N v ls H locs ih ⟨h1, h2, h3, h4, hP, hS, hl⟩
      have hok := h2
      refine lv_iload hx hb dX3_endSession_57 (lv_at hl 0 rfl) ?_
      refine lv_iload hx hb dX3_endSession_59 (lv_at hl 6 rfl) ?_
      refine lv_icmp_ge (tgt := 95) hx hb dX3_endSession_61 (by decide) (fun c3 => absurd c3 (show ¬ nI 4 ≤ nI j from nI_ge (by omega) (by omega))) (fun c3 => ?_)
      refine lv_aload hx hb dX3_endSession_64 (lv_at hl 5 rfl) ?_
      refine lv_iload hx hb dX3_endSession_66 (lv_at hl 0 rfl) ?_
      refine wd_aald (O := (dkO G)) (b := wa (dkO G) (9 + j)) hx hb hK hP (dk_lt (by omega)) 2 dE_2 rfl (i := j) rfl (by omega) (by decide) (if_pos (by omega)) dX3_endSession_68 ?_
      refine lv_astore (lv' := [(7, .ref (wa (dkO G) (9 + j))), (6, .int (nI j)), (3, .int v), (0, .ref (wa (dkO G) 0)), (1, .ref (wa (dkO G) (3 + i))), (2, .int x), (4, .ref (wa (dkO G) 2)), (5, .int 4)]) hx hb dX3_endSession_69 hl (by decide) rfl (fun ls hl => ?_)
      refine lv_aload hx hb dX3_endSession_71 (lv_at hl 0 rfl) ?_
      refine wd_get (O := (dkO G)) (v := .int (N (9 + j) 1)) hx hb hts hi0 hown hK hP (dk_lt (by omega)) (dE_lock (by omega)) rfl 1 (by decide) (hts (.fieldLink RX3 78 "LeaseDesk$Lock" "holder" "I") (by decide +kernel)) (fun _ h9 => h9) rfl dX3_endSession_73 ?_
      refine lv_iload_n hx hb dX3_endSession_76 rfl (lv_at hl 5 rfl) ?_
      refine lv_icmp_ne (tgt := 89) hx hb dX3_endSession_77 (by decide) (fun c4 => ?_) (fun c4 => ?_)
      · refine lv_iinc (v := nI (j + 1)) (lv' := [(6, .int (nI (j + 1))), (7, .ref (wa (dkO G) (9 + j))), (3, .int v), (0, .ref (wa (dkO G) 0)), (1, .ref (wa (dkO G) (3 + i))), (2, .int x), (4, .ref (wa (dkO G) 2)), (5, .int 4)]) hx hb dX3_endSession_89 hl (k := 1) rfl (nI_1 j) (by decide) rfl (fun ls hl => ?_)
        refine lv_goto (tgt := 57) hx hb dX3_endSession_92 (by decide) ?_
        exact ih (j + 1) N v ls H locs ⟨by omega, hok, by rw [← h3]; simp only [esM, if_neg c4], by rw [← h4]; simp only [esV, if_neg c4], hP, hS, lv_sub hl [0, 2, 3, 4, 5, 6, 7] rfl⟩
      · refine lv_aload_n hx hb dX3_endSession_80 rfl (lv_at hl 3 rfl) ?_
        refine lv_aload hx hb dX3_endSession_81 (lv_at hl 0 rfl) ?_
        refine wd_cv (O := (dkO G)) hS (va_runV (As := [.ref (wa (dkO G) (9 + j))]) (rest := []) ⟨hx, hb, hml, hown, hts⟩ (c_X3_passOn (G := G) hj hok (by omega) H.size) (cwV 1 hts gX3_endSession_X3_passOn rfl rfl rfl (by decide +kernel) ⟨Nat.le_of_ble_eq_true rfl, Nat.le_of_ble_eq_true rfl⟩) (wd_pre hK hP (dk_lt (by omega)) dE_0 rfl) rfl rfl hl.1 rfl (lv_room (Nat.le_of_ble_eq_true rfl)) dX3_endSession_83 ⟨Nat.le_of_ble_eq_true rfl, Nat.le_of_ble_eq_true rfl⟩) (fun H locs hP hS => ?_)
        have hok : dk_ok (psM N j) := ok_ps hok (by omega)
        refine lv_iinc (v := v + 1) (lv' := [(3, .int (v + 1)), (7, .ref (wa (dkO G) (9 + j))), (6, .int (nI j)), (0, .ref (wa (dkO G) 0)), (1, .ref (wa (dkO G) (3 + i))), (2, .int x), (4, .ref (wa (dkO G) 2)), (5, .int 4)]) hx hb dX3_endSession_86 hl (k := 2) rfl rfl (by decide) rfl (fun ls hl => ?_)
        refine lv_iinc (v := nI (j + 1)) (lv' := [(6, .int (nI (j + 1))), (3, .int (v + 1)), (7, .ref (wa (dkO G) (9 + j))), (0, .ref (wa (dkO G) 0)), (1, .ref (wa (dkO G) (3 + i))), (2, .int x), (4, .ref (wa (dkO G) 2)), (5, .int 4)]) hx hb dX3_endSession_89 hl (k := 2) rfl (nI_1 j) (by decide) rfl (fun ls hl => ?_)
        refine lv_goto (tgt := 57) hx hb dX3_endSession_92 (by decide) ?_
        exact ih (j + 1) (psM N j) (v + 1) ls H locs ⟨by omega, hok, by rw [← h3]; simp only [esM, if_pos c4], by rw [← h4]; simp only [esV, if_pos c4], hP, hS, lv_sub hl [0, 1, 3, 4, 5, 6, 7] rfl⟩
  · rintro k j N v ls H locs ih ⟨h1, h2, h3, hP, hS, hl⟩
    have hok := h2
    refine lv_iload hx hb dX3_endSession_12 (lv_at hl 0 rfl) ?_
    refine lv_iload hx hb dX3_endSession_14 (lv_at hl 5 rfl) ?_
    refine lv_icmp_ge (tgt := 41) hx hb dX3_endSession_16 (by decide) (fun c5 => absurd c5 (show ¬ nI 4 ≤ nI j from nI_ge (by omega) (by omega))) (fun c5 => ?_)
    refine lv_aload_n hx hb dX3_endSession_19 rfl (lv_at hl 4 rfl) ?_
    refine lv_iload hx hb dX3_endSession_20 (lv_at hl 0 rfl) ?_
    refine wd_aald (O := (dkO G)) (b := wa (dkO G) (9 + j)) hx hb hK hP (dk_lt (by omega)) 2 dE_2 rfl (i := j) rfl (by omega) (by decide) (if_pos (by omega)) dX3_endSession_22 ?_
    refine lv_astore (lv' := [(6, .ref (wa (dkO G) (9 + j))), (5, .int (nI j)), (0, .ref (wa (dkO G) 0)), (1, .ref (wa (dkO G) (3 + i))), (2, .int x), (3, .ref (wa (dkO G) 2)), (4, .int 4)]) hx hb dX3_endSession_23 hl (by decide) rfl (fun ls hl => ?_)
    refine lv_aload hx hb dX3_endSession_25 (lv_at hl 0 rfl) ?_
    refine wd_get (O := (dkO G)) (v := .ref (wa (dkO G) (13 + j))) hx hb hts hi0 hown hK hP (dk_lt (by omega)) (dE_lock (by omega)) rfl 0 (by decide) (hts (.fieldLink RX3 99 "LeaseDesk$Lock" "row" "LLeaseDesk$Row;") (by decide +kernel)) (fun _ h9 => h9) rfl dX3_endSession_27 ?_
    refine lv_iload_n hx hb dX3_endSession_30 rfl (lv_at hl 4 rfl) ?_
    refine wd_ci (O := (dkO G)) hS (va_runV (As := [.int x]) (rest := []) ⟨hx, hb, hml, hown, hts⟩ (c_X1_drop (G := G) hj hok (by omega) H.size x) (cwV 1 hts gX3_endSession_X1_drop rfl rfl rfl (by decide +kernel) ⟨Nat.le_of_ble_eq_true rfl, Nat.le_of_ble_eq_true rfl⟩) (wd_pre hK hP (dk_lt (by omega)) (dE_row (by omega)) rfl) rfl rfl hl.1 rfl (lv_room (Nat.le_of_ble_eq_true rfl)) dX3_endSession_31 ⟨Nat.le_of_ble_eq_true rfl, Nat.le_of_ble_eq_true rfl⟩) (fun H locs hP hS => ?_)
    have hok : dk_ok (drp N j x) := ok_drp hok (by omega)
    refine lv_pop hx hb dX3_endSession_34 rfl ?_
    refine lv_iinc (v := nI (j + 1)) (lv' := [(5, .int (nI (j + 1))), (6, .ref (wa (dkO G) (9 + j))), (0, .ref (wa (dkO G) 0)), (1, .ref (wa (dkO G) (3 + i))), (2, .int x), (3, .ref (wa (dkO G) 2)), (4, .int 4)]) hx hb dX3_endSession_35 hl (k := 1) rfl (nI_1 j) (by decide) rfl (fun ls hl => ?_)
    refine lv_goto (tgt := 12) hx hb dX3_endSession_38 (by decide) ?_
    exact ih (j + 1) (drp N j x) v ls H locs ⟨by omega, hok, by rw [← h3]; rfl, hP, hS, lv_sub hl [0, 2, 3, 4, 5, 6] rfl⟩
set_option maxRecDepth 100000 in
set_option maxHeartbeats 4000000 in
theorem c_X3_endSilentSessions {l : Launch} {G : DG} (hj : wj (dkO G)) {M : Mem} (hok : dk_ok M) (sz : Nat) : Met l yX3_endSilentSessions wsX3_endSilentSessions ({ frames := 4, cells := 0, slots := 0, locals := 97 }) (va_Pc [.ref (wa (dkO G) 0)] (wp (dkO G) sz M)) (wQi (dkO G) sz (slV 6 0 M 0) (slM 6 0 M)) 0 0 (wA (dkO G) sz) := by
  refine wd_ofW (O := (dkO G)) (M := M) (Qc := fun z => wQi (dkO G) z (slV 6 0 M 0) (slM 6 0 M)) (cc := cX3_endSilentSessions) (maxL := 4) (ret := (some .int)) (lv := [(0, .ref (wa (dkO G) 0))]) (by decide) rfl (Nat.le_of_ble_eq_true rfl) rfl ?_
  intro p e s m below meth c ls hx hb hr hml hown hts hlocks hP hK hS hl
  have hi2 : ∀ w ∈ wsX20, w ∈ wsX3_endSilentSessions := by decide +kernel
  have hi3 : ∀ w ∈ wsX30, w ∈ wsX3_endSilentSessions := by decide +kernel
  refine lv_iconst (v := 0) hx hb dX3_endSilentSessions_0 (by decide) ?_
  refine lv_istore_n (lv' := [(1, .int 0), (0, .ref (wa (dkO G) 0))]) hx hb dX3_endSilentSessions_1 rfl hl (by decide) rfl (fun ls hl => ?_)
  refine lv_iconst (v := 0) hx hb dX3_endSilentSessions_2 (by decide) ?_
  refine lv_istore_n (lv' := [(2, .int 0), (1, .int 0), (0, .ref (wa (dkO G) 0))]) hx hb dX3_endSilentSessions_3 rfl hl (by decide) rfl (fun ls hl => ?_)
  refine wl_loop (pc := 4) (fun k j N v ls H locs => (j + k = 6) ∧ (dk_ok N) ∧ (slM k j N = slM 6 0 M) ∧ (slV k j N v = slV 6 0 M 0) ∧ va_P (wD (dkO G)) vwCl (wd (dkO G) N) H ∧ va_S (wA (dkO G) s.heap.size) s.heap H locs ∧ lv_has ls 4 [(2, .int (nI j)), (1, .int v), (0, .ref (wa (dkO G) 0))]) ?_ ?_ 6 0 M 0 ⟨by omega, hok, rfl, rfl, hP, hS, lv_sub hl [0, 1, 2] rfl⟩
  · rintro j N v ls H locs ⟨h1, h2, h3, h4, hP, hS, hl⟩
    refine lv_iload_n hx hb dX3_endSilentSessions_4 rfl (lv_at hl 0 rfl) ?_
    refine lv_bipush (v := 6) hx hb dX3_endSilentSessions_5 (by decide) ?_
    refine lv_icmp_ge (tgt := 53) hx hb dX3_endSilentSessions_7 (by decide) (fun c1 => ?_) (fun c1 => absurd (show nI 6 ≤ nI j from nI_le (by omega) (by omega)) c1)
    refine lv_iload_n hx hb dX3_endSilentSessions_53 rfl (lv_at hl 1 rfl) ?_
    exact wd_iret (O := (dkO G)) hx hb hr hlocks hK hP hS rfl dX3_endSilentSessions_54 (h4) (h3)
  · rintro k j N v ls H locs ih ⟨h1, h2, h3, h4, hP, hS, hl⟩
    have hok := h2
    refine lv_iload_n hx hb dX3_endSilentSessions_4 rfl (lv_at hl 0 rfl) ?_
    refine lv_bipush (v := 6) hx hb dX3_endSilentSessions_5 (by decide) ?_
    refine lv_icmp_ge (tgt := 53) hx hb dX3_endSilentSessions_7 (by decide) (fun c2 => absurd c2 (show ¬ nI 6 ≤ nI j from nI_ge (by omega) (by omega))) (fun c2 => ?_)
    refine lv_aload_n hx hb dX3_endSilentSessions_10 rfl (lv_at hl 2 rfl) ?_
    refine wd_get (O := (dkO G)) (v := .ref (wa (dkO G) 1)) hx hb hts hi3 hown hK hP (dk_lt (by omega)) dE_0 rfl 0 (by decide) (hts (.fieldLink RX3 11 "LeaseDesk" "sessions" "[LLeaseDesk$Session;") (by decide +kernel)) (fun _ h9 => h9) rfl dX3_endSilentSessions_11 ?_
    refine lv_iload_n hx hb dX3_endSilentSessions_14 rfl (lv_at hl 0 rfl) ?_
    refine wd_aald (O := (dkO G)) (b := wa (dkO G) (3 + j)) hx hb hK hP (dk_lt (by omega)) 1 dE_1 rfl (i := j) rfl (by omega) (by decide) (if_pos (by omega)) dX3_endSilentSessions_15 ?_
    refine lv_astore_n (lv' := [(3, .ref (wa (dkO G) (3 + j))), (2, .int (nI j)), (1, .int v), (0, .ref (wa (dkO G) 0))]) hx hb dX3_endSilentSessions_16 rfl hl (by decide) rfl (fun ls hl => ?_)
    refine lv_aload_n hx hb dX3_endSilentSessions_17 rfl (lv_at hl 0 rfl) ?_
    refine wd_get (O := (dkO G)) (v := .int (N (3 + j) 0)) hx hb hts hi2 hown hK hP (dk_lt (by omega)) (dE_ses (by omega)) rfl 0 (by decide) (hts (.fieldLink RX3 27 "LeaseDesk$Session" "isOpen" "Z") (by decide +kernel)) (fun _ h9 => h9) rfl dX3_endSilentSessions_18 ?_
    refine lv_if_eq (tgt := 47) hx hb dX3_endSilentSessions_21 (by decide) (fun c3 => ?_) (fun c3 => ?_)
    · refine lv_iinc (v := nI (j + 1)) (lv' := [(2, .int (nI (j + 1))), (3, .ref (wa (dkO G) (3 + j))), (1, .int v), (0, .ref (wa (dkO G) 0))]) hx hb dX3_endSilentSessions_47 hl (k := 1) rfl (nI_1 j) (by decide) rfl (fun ls hl => ?_)
      refine lv_goto (tgt := 4) hx hb dX3_endSilentSessions_50 (by decide) ?_
      exact ih (j + 1) N v ls H locs ⟨by omega, hok, by rw [← h3]; simp only [slM, if_pos c3], by rw [← h4]; simp only [slV, if_pos c3], hP, hS, lv_sub hl [0, 2, 3] rfl⟩
    · refine lv_aload_n hx hb dX3_endSilentSessions_24 rfl (lv_at hl 3 rfl) ?_
      refine wd_get (O := (dkO G)) (v := .int (N 0 2)) hx hb hts hi3 hown hK hP (dk_lt (by omega)) dE_0 rfl 2 (by decide) (hts (.fieldLink RX3 23 "LeaseDesk" "now" "I") (by decide +kernel)) (fun _ h9 => h9) rfl dX3_endSilentSessions_25 ?_
      refine lv_aload_n hx hb dX3_endSilentSessions_28 rfl (lv_at hl 0 rfl) ?_
      refine wd_get (O := (dkO G)) (v := .int (N (3 + j) 1)) hx hb hts hi2 hown hK hP (dk_lt (by omega)) (dE_ses (by omega)) rfl 1 (by decide) (hts (.fieldLink RX3 50 "LeaseDesk$Session" "sign" "I") (by decide +kernel)) (fun _ h9 => h9) rfl dX3_endSilentSessions_29 ?_
      refine lv_isub hx hb dX3_endSilentSessions_32 ?_
      refine lv_bipush (v := 50) hx hb dX3_endSilentSessions_33 (by decide) ?_
      refine lv_icmp_le (tgt := 47) hx hb dX3_endSilentSessions_35 (by decide) (fun c4 => ?_) (fun c4 => ?_)
      · refine lv_iinc (v := nI (j + 1)) (lv' := [(2, .int (nI (j + 1))), (3, .ref (wa (dkO G) (3 + j))), (1, .int v), (0, .ref (wa (dkO G) 0))]) hx hb dX3_endSilentSessions_47 hl (k := 1) rfl (nI_1 j) (by decide) rfl (fun ls hl => ?_)
        refine lv_goto (tgt := 4) hx hb dX3_endSilentSessions_50 (by decide) ?_
        exact ih (j + 1) N v ls H locs ⟨by omega, hok, by rw [← h3]; simp only [slM, if_neg c3, if_pos c4], by rw [← h4]; simp only [slV, if_neg c3, if_pos c4], hP, hS, lv_sub hl [0, 2, 3] rfl⟩
      · refine lv_iload_n hx hb dX3_endSilentSessions_38 rfl (lv_at hl 2 rfl) ?_
        refine lv_aload_n hx hb dX3_endSilentSessions_39 rfl (lv_at hl 3 rfl) ?_
        refine lv_aload_n hx hb dX3_endSilentSessions_40 rfl (lv_at hl 0 rfl) ?_
        refine lv_iload_n hx hb dX3_endSilentSessions_41 rfl (lv_at hl 1 rfl) ?_
        refine wd_ci (O := (dkO G)) hS (va_runV (As := [.ref (wa (dkO G) (3 + j)), .int (nI j)]) (rest := [.int v]) ⟨hx, hb, hml, hown, hts⟩ (c_X3_endSession (G := G) hj hok (by omega) H.size (nI j)) (cwV 2 hts gX3_endSilentSessions_X3_endSession rfl rfl rfl (by decide +kernel) ⟨Nat.le_of_ble_eq_true rfl, Nat.le_of_ble_eq_true rfl⟩) (wd_pre hK hP (dk_lt (by omega)) dE_0 rfl) rfl rfl hl.1 rfl (lv_room (Nat.le_of_ble_eq_true rfl)) dX3_endSilentSessions_42 ⟨Nat.le_of_ble_eq_true rfl, Nat.le_of_ble_eq_true rfl⟩) (fun H locs hP hS => ?_)
        have hok : dk_ok (endM N j (nI j)) := ok_end hok (by omega)
        refine lv_iadd hx hb dX3_endSilentSessions_45 ?_
        refine lv_istore_n (lv' := [(1, .int (v + (endV N (nI j)))), (3, .ref (wa (dkO G) (3 + j))), (2, .int (nI j)), (0, .ref (wa (dkO G) 0))]) hx hb dX3_endSilentSessions_46 rfl hl (by decide) rfl (fun ls hl => ?_)
        refine lv_iinc (v := nI (j + 1)) (lv' := [(2, .int (nI (j + 1))), (1, .int (v + (endV N (nI j)))), (3, .ref (wa (dkO G) (3 + j))), (0, .ref (wa (dkO G) 0))]) hx hb dX3_endSilentSessions_47 hl (k := 2) rfl (nI_1 j) (by decide) rfl (fun ls hl => ?_)
        refine lv_goto (tgt := 4) hx hb dX3_endSilentSessions_50 (by decide) ?_
        exact ih (j + 1) (endM N j (nI j)) (v + (endV N (nI j))) ls H locs ⟨by omega, hok, by rw [← h3]; simp only [slM, if_neg c3, if_neg c4], by rw [← h4]; simp only [slV, if_neg c3, if_neg c4], hP, hS, lv_sub hl [0, 1, 3] rfl⟩
set_option maxRecDepth 100000 in
set_option maxHeartbeats 4000000 in
theorem c_X3_passOnLeasesDue {l : Launch} {G : DG} (hj : wj (dkO G)) {M : Mem} (hok : dk_ok M) (sz : Nat) : Met l yX3_passOnLeasesDue wsX3_passOnLeasesDue ({ frames := 3, cells := 0, slots := 0, locals := 70 }) (va_Pc [.ref (wa (dkO G) 0)] (wp (dkO G) sz M)) (wQi (dkO G) sz (duV 4 0 M 0) (duM 4 0 M)) 0 0 (wA (dkO G) sz) := by
  refine wd_ofW (O := (dkO G)) (M := M) (Qc := fun z => wQi (dkO G) z (duV 4 0 M 0) (duM 4 0 M)) (cc := cX3_passOnLeasesDue) (maxL := 6) (ret := (some .int)) (lv := [(0, .ref (wa (dkO G) 0))]) (by decide) rfl (Nat.le_of_ble_eq_true rfl) rfl ?_
  intro p e s m below meth c ls hx hb hr hml hown hts hlocks hP hK hS hl
  have hi0 : ∀ w ∈ wsX00, w ∈ wsX3_passOnLeasesDue := by decide +kernel
  have hi3 : ∀ w ∈ wsX30, w ∈ wsX3_passOnLeasesDue := by decide +kernel
  refine lv_iconst (v := 0) hx hb dX3_passOnLeasesDue_0 (by decide) ?_
  refine lv_istore_n (lv' := [(1, .int 0), (0, .ref (wa (dkO G) 0))]) hx hb dX3_passOnLeasesDue_1 rfl hl (by decide) rfl (fun ls hl => ?_)
  refine lv_aload_n hx hb dX3_passOnLeasesDue_2 rfl (lv_at hl 1 rfl) ?_
  refine wd_get (O := (dkO G)) (v := .ref (wa (dkO G) 2)) hx hb hts hi3 hown hK hP (dk_lt (by omega)) dE_0 rfl 1 (by decide) (hts (.fieldLink RX3 18 "LeaseDesk" "locks" "[LLeaseDesk$Lock;") (by decide +kernel)) (fun _ h9 => h9) rfl dX3_passOnLeasesDue_3 ?_
  refine lv_astore_n (lv' := [(2, .ref (wa (dkO G) 2)), (1, .int 0), (0, .ref (wa (dkO G) 0))]) hx hb dX3_passOnLeasesDue_6 rfl hl (by decide) rfl (fun ls hl => ?_)
  refine lv_aload_n hx hb dX3_passOnLeasesDue_7 rfl (lv_at hl 0 rfl) ?_
  refine wd_alen (O := (dkO G)) (v := 4) hx hb hK hP (dk_lt (by omega)) 2 dE_2 rfl rfl dX3_passOnLeasesDue_8 ?_
  refine lv_istore_n (lv' := [(3, .int 4), (2, .ref (wa (dkO G) 2)), (1, .int 0), (0, .ref (wa (dkO G) 0))]) hx hb dX3_passOnLeasesDue_9 rfl hl (by decide) rfl (fun ls hl => ?_)
  refine lv_iconst (v := 0) hx hb dX3_passOnLeasesDue_10 (by decide) ?_
  refine lv_istore (lv' := [(4, .int 0), (3, .int 4), (2, .ref (wa (dkO G) 2)), (1, .int 0), (0, .ref (wa (dkO G) 0))]) hx hb dX3_passOnLeasesDue_11 hl (by decide) rfl (fun ls hl => ?_)
  refine wl_loop (pc := 13) (fun k j N v ls H locs => (j + k = 4) ∧ (dk_ok N) ∧ (duM k j N = duM 4 0 M) ∧ (duV k j N v = duV 4 0 M 0) ∧ va_P (wD (dkO G)) vwCl (wd (dkO G) N) H ∧ va_S (wA (dkO G) s.heap.size) s.heap H locs ∧ lv_has ls 6 [(4, .int (nI j)), (1, .int v), (0, .ref (wa (dkO G) 0)), (2, .ref (wa (dkO G) 2)), (3, .int 4)]) ?_ ?_ 4 0 M 0 ⟨by omega, hok, rfl, rfl, hP, hS, lv_sub hl [0, 3, 4, 2, 1] rfl⟩
  · rintro j N v ls H locs ⟨h1, h2, h3, h4, hP, hS, hl⟩
    refine lv_iload hx hb dX3_passOnLeasesDue_13 (lv_at hl 0 rfl) ?_
    refine lv_iload_n hx hb dX3_passOnLeasesDue_15 rfl (lv_at hl 4 rfl) ?_
    refine lv_icmp_ge (tgt := 60) hx hb dX3_passOnLeasesDue_16 (by decide) (fun c1 => ?_) (fun c1 => absurd (show nI 4 ≤ nI j from nI_le (by omega) (by omega)) c1)
    refine lv_iload_n hx hb dX3_passOnLeasesDue_60 rfl (lv_at hl 1 rfl) ?_
    exact wd_iret (O := (dkO G)) hx hb hr hlocks hK hP hS rfl dX3_passOnLeasesDue_61 (h4) (h3)
  · rintro k j N v ls H locs ih ⟨h1, h2, h3, h4, hP, hS, hl⟩
    have hok := h2
    refine lv_iload hx hb dX3_passOnLeasesDue_13 (lv_at hl 0 rfl) ?_
    refine lv_iload_n hx hb dX3_passOnLeasesDue_15 rfl (lv_at hl 4 rfl) ?_
    refine lv_icmp_ge (tgt := 60) hx hb dX3_passOnLeasesDue_16 (by decide) (fun c2 => absurd c2 (show ¬ nI 4 ≤ nI j from nI_ge (by omega) (by omega))) (fun c2 => ?_)
    refine lv_aload_n hx hb dX3_passOnLeasesDue_19 rfl (lv_at hl 3 rfl) ?_
    refine lv_iload hx hb dX3_passOnLeasesDue_20 (lv_at hl 0 rfl) ?_
    refine wd_aald (O := (dkO G)) (b := wa (dkO G) (9 + j)) hx hb hK hP (dk_lt (by omega)) 2 dE_2 rfl (i := j) rfl (by omega) (by decide) (if_pos (by omega)) dX3_passOnLeasesDue_22 ?_
    refine lv_astore (lv' := [(5, .ref (wa (dkO G) (9 + j))), (4, .int (nI j)), (1, .int v), (0, .ref (wa (dkO G) 0)), (2, .ref (wa (dkO G) 2)), (3, .int 4)]) hx hb dX3_passOnLeasesDue_23 hl (by decide) rfl (fun ls hl => ?_)
    refine lv_aload hx hb dX3_passOnLeasesDue_25 (lv_at hl 0 rfl) ?_
    refine wd_ci (O := (dkO G)) hS (va_runV (As := []) (rest := []) ⟨hx, hb, hml, hown, hts⟩ (c_X0_isFree (G := G) hj hok (by omega) H.size) (cwV 0 hts gX3_passOnLeasesDue_X0_isFree rfl rfl rfl (by decide +kernel) ⟨Nat.le_of_ble_eq_true rfl, Nat.le_of_ble_eq_true rfl⟩) (wd_pre hK hP (dk_lt (by omega)) (dE_lock (by omega)) rfl) rfl rfl hl.1 rfl (lv_room (Nat.le_of_ble_eq_true rfl)) dX3_passOnLeasesDue_27 ⟨Nat.le_of_ble_eq_true rfl, Nat.le_of_ble_eq_true rfl⟩) (fun H locs hP hS => ?_)
    refine lv_if_ne (tgt := 54) hx hb dX3_passOnLeasesDue_30 (by decide) (fun c3 => ?_) (fun c3 => ?_)
    · refine lv_iinc (v := nI (j + 1)) (lv' := [(4, .int (nI (j + 1))), (5, .ref (wa (dkO G) (9 + j))), (1, .int v), (0, .ref (wa (dkO G) 0)), (2, .ref (wa (dkO G) 2)), (3, .int 4)]) hx hb dX3_passOnLeasesDue_54 hl (k := 1) rfl (nI_1 j) (by decide) rfl (fun ls hl => ?_)
      refine lv_goto (tgt := 13) hx hb dX3_passOnLeasesDue_57 (by decide) ?_
      exact ih (j + 1) N v ls H locs ⟨by omega, hok, by rw [← h3]; simp only [duM, if_neg c3], by rw [← h4]; simp only [duV, if_neg c3], hP, hS, lv_sub hl [0, 2, 3, 4, 5] rfl⟩
    · refine lv_aload hx hb dX3_passOnLeasesDue_33 (lv_at hl 0 rfl) ?_
      refine wd_get (O := (dkO G)) (v := .int (N (9 + j) 3)) hx hb hts hi0 hown hK hP (dk_lt (by omega)) (dE_lock (by omega)) rfl 3 (by decide) (hts (.fieldLink RX3 122 "LeaseDesk$Lock" "ends" "I") (by decide +kernel)) (fun _ h9 => h9) rfl dX3_passOnLeasesDue_35 ?_
      refine lv_aload_n hx hb dX3_passOnLeasesDue_38 rfl (lv_at hl 3 rfl) ?_
      refine wd_get (O := (dkO G)) (v := .int (N 0 2)) hx hb hts hi3 hown hK hP (dk_lt (by omega)) dE_0 rfl 2 (by decide) (hts (.fieldLink RX3 23 "LeaseDesk" "now" "I") (by decide +kernel)) (fun _ h9 => h9) rfl dX3_passOnLeasesDue_39 ?_
      refine lv_icmp_gt (tgt := 54) hx hb dX3_passOnLeasesDue_42 (by decide) (fun c4 => ?_) (fun c4 => ?_)
      · refine lv_iinc (v := nI (j + 1)) (lv' := [(4, .int (nI (j + 1))), (5, .ref (wa (dkO G) (9 + j))), (1, .int v), (0, .ref (wa (dkO G) 0)), (2, .ref (wa (dkO G) 2)), (3, .int 4)]) hx hb dX3_passOnLeasesDue_54 hl (k := 1) rfl (nI_1 j) (by decide) rfl (fun ls hl => ?_)
        refine lv_goto (tgt := 13) hx hb dX3_passOnLeasesDue_57 (by decide) ?_
        exact ih (j + 1) N v ls H locs ⟨by omega, hok, by rw [← h3]; simp only [duM, if_pos c3, if_pos c4], by rw [← h4]; simp only [duV, if_pos c3, if_pos c4], hP, hS, lv_sub hl [0, 2, 3, 4, 5] rfl⟩
      · refine lv_aload_n hx hb dX3_passOnLeasesDue_45 rfl (lv_at hl 3 rfl) ?_
        refine lv_aload hx hb dX3_passOnLeasesDue_46 (lv_at hl 0 rfl) ?_
        refine wd_cv (O := (dkO G)) hS (va_runV (As := [.ref (wa (dkO G) (9 + j))]) (rest := []) ⟨hx, hb, hml, hown, hts⟩ (c_X3_passOn (G := G) hj hok (by omega) H.size) (cwV 1 hts gX3_passOnLeasesDue_X3_passOn rfl rfl rfl (by decide +kernel) ⟨Nat.le_of_ble_eq_true rfl, Nat.le_of_ble_eq_true rfl⟩) (wd_pre hK hP (dk_lt (by omega)) dE_0 rfl) rfl rfl hl.1 rfl (lv_room (Nat.le_of_ble_eq_true rfl)) dX3_passOnLeasesDue_48 ⟨Nat.le_of_ble_eq_true rfl, Nat.le_of_ble_eq_true rfl⟩) (fun H locs hP hS => ?_)
        have hok : dk_ok (psM N j) := ok_ps hok (by omega)
        refine lv_iinc (v := v + 1) (lv' := [(1, .int (v + 1)), (5, .ref (wa (dkO G) (9 + j))), (4, .int (nI j)), (0, .ref (wa (dkO G) 0)), (2, .ref (wa (dkO G) 2)), (3, .int 4)]) hx hb dX3_passOnLeasesDue_51 hl (k := 2) rfl rfl (by decide) rfl (fun ls hl => ?_)
        refine lv_iinc (v := nI (j + 1)) (lv' := [(4, .int (nI (j + 1))), (1, .int (v + 1)), (5, .ref (wa (dkO G) (9 + j))), (0, .ref (wa (dkO G) 0)), (2, .ref (wa (dkO G) 2)), (3, .int 4)]) hx hb dX3_passOnLeasesDue_54 hl (k := 2) rfl (nI_1 j) (by decide) rfl (fun ls hl => ?_)
        refine lv_goto (tgt := 13) hx hb dX3_passOnLeasesDue_57 (by decide) ?_
        exact ih (j + 1) (psM N j) (v + 1) ls H locs ⟨by omega, hok, by rw [← h3]; simp only [duM, if_pos c3, if_neg c4], by rw [← h4]; simp only [duV, if_pos c3, if_neg c4], hP, hS, lv_sub hl [0, 1, 3, 4, 5] rfl⟩
set_option maxRecDepth 100000 in
set_option maxHeartbeats 4000000 in
theorem c_X3_tick {l : Launch} {G : DG} (hj : wj (dkO G)) {M : Mem} (hok : dk_ok M) (sz : Nat) (d : Int32) : Met l yX3_tick wsX3_tick ({ frames := 5, cells := 0, slots := 0, locals := 120 }) (va_Pc [.ref (wa (dkO G) 0), .int d] (wp (dkO G) sz M)) (wQi (dkO G) sz (tcV M d) (tcM M d)) 0 0 (wA (dkO G) sz) := by
  refine wd_ofW (O := (dkO G)) (M := M) (Qc := fun z => wQi (dkO G) z (tcV M d) (tcM M d)) (cc := cX3_tick) (maxL := 3) (ret := (some .int)) (lv := [(0, .ref (wa (dkO G) 0)), (1, .int d)]) (by decide) rfl (Nat.le_of_ble_eq_true rfl) rfl ?_
  intro p e s m below meth c ls hx hb hr hml hown hts hlocks hP hK hS hl
  have hi3 : ∀ w ∈ wsX30, w ∈ wsX3_tick := by decide +kernel
  refine lv_iload_n hx hb dX3_tick_0 rfl (lv_at hl 1 rfl) ?_
  refine lv_if_lt (tgt := 10) hx hb dX3_tick_1 (by decide) (fun c1 => ?_) (fun c1 => ?_)
  · refine lv_iconst (v := (-1)) hx hb dX3_tick_10 (by decide) ?_
    exact wd_iret (O := (dkO G)) hx hb hr hlocks hK hP hS rfl dX3_tick_11 (by simp only [tcV, if_pos c1]) (by simp only [tcM, if_pos c1])
  · refine lv_iload_n hx hb dX3_tick_4 rfl (lv_at hl 1 rfl) ?_
    refine lv_bipush (v := 100) hx hb dX3_tick_5 (by decide) ?_
    refine lv_icmp_le (tgt := 12) hx hb dX3_tick_7 (by decide) (fun c2 => ?_) (fun c2 => ?_)
    · refine lv_aload_n hx hb dX3_tick_12 rfl (lv_at hl 0 rfl) ?_
      refine lv_dup hx hb dX3_tick_13 rfl ?_
      refine wd_get (O := (dkO G)) (v := .int (M 0 2)) hx hb hts hi3 hown hK hP (dk_lt (by omega)) dE_0 rfl 2 (by decide) (hts (.fieldLink RX3 23 "LeaseDesk" "now" "I") (by decide +kernel)) (fun _ h9 => h9) rfl dX3_tick_14 ?_
      refine lv_iload_n hx hb dX3_tick_17 rfl (lv_at hl 1 rfl) ?_
      refine lv_iadd hx hb dX3_tick_18 ?_
      refine wd_put (O := (dkO G)) (ty := .int) hj hx hb hts hi3 tyX3 tyX3_ok nmX3 hown hK hP hS (dk_lt (by omega)) dE_0 rfl 2 (by decide) (hts (.fieldLink RX3 23 "LeaseDesk" "now" "I") (by decide +kernel)) (fun _ h9 => h9) rfl (by decide +kernel) rfl rfl (Nat.le_of_ble_eq_true rfl) (dE_0.trans rfl) dX3_tick_19 (fun H locs hP hS => ?_)
      have hok : dk_ok (up M 0 2 ((M 0 2) + d)) := ok_up hok (by omega)
      refine lv_aload_n hx hb dX3_tick_22 rfl (lv_at hl 0 rfl) ?_
      refine lv_iload_n hx hb dX3_tick_23 rfl (lv_at hl 1 rfl) ?_
      refine wd_cv (O := (dkO G)) hS (va_runV (As := [.int d]) (rest := []) ⟨hx, hb, hml, hown, hts⟩ (c_X3_moveClocks (G := G) hj hok H.size d) (cwV 1 hts gX3_tick_X3_moveClocks rfl rfl rfl (by decide +kernel) ⟨Nat.le_of_ble_eq_true rfl, Nat.le_of_ble_eq_true rfl⟩) (wd_pre hK hP (dk_lt (by omega)) dE_0 rfl) rfl rfl hl.1 rfl (lv_room (Nat.le_of_ble_eq_true rfl)) dX3_tick_24 ⟨Nat.le_of_ble_eq_true rfl, Nat.le_of_ble_eq_true rfl⟩) (fun H locs hP hS => ?_)
      have hok : dk_ok (mvM d 6 0 (up M 0 2 ((M 0 2) + d))) := ok_mv 6 0 (by omega) hok
      refine lv_aload_n hx hb dX3_tick_27 rfl (lv_at hl 0 rfl) ?_
      refine wd_ci (O := (dkO G)) hS (va_runV (As := []) (rest := []) ⟨hx, hb, hml, hown, hts⟩ (c_X3_endSilentSessions (G := G) hj hok H.size) (cwV 0 hts gX3_tick_X3_endSilentSessions rfl rfl rfl (by decide +kernel) ⟨Nat.le_of_ble_eq_true rfl, Nat.le_of_ble_eq_true rfl⟩) (wd_pre hK hP (dk_lt (by omega)) dE_0 rfl) rfl rfl hl.1 rfl (lv_room (Nat.le_of_ble_eq_true rfl)) dX3_tick_28 ⟨Nat.le_of_ble_eq_true rfl, Nat.le_of_ble_eq_true rfl⟩) (fun H locs hP hS => ?_)
      have hok : dk_ok (slM 6 0 (mvM d 6 0 (up M 0 2 ((M 0 2) + d)))) := ok_sl 6 0 (by omega) hok
      refine lv_istore_n (lv' := [(2, .int (slV 6 0 (mvM d 6 0 (up M 0 2 ((M 0 2) + d))) 0)), (0, .ref (wa (dkO G) 0)), (1, .int d)]) hx hb dX3_tick_31 rfl hl (by decide) rfl (fun ls hl => ?_)
      refine lv_iload_n hx hb dX3_tick_32 rfl (lv_at hl 0 rfl) ?_
      refine lv_aload_n hx hb dX3_tick_33 rfl (lv_at hl 1 rfl) ?_
      refine wd_ci (O := (dkO G)) hS (va_runV (As := []) (rest := [.int (slV 6 0 (mvM d 6 0 (up M 0 2 ((M 0 2) + d))) 0)]) ⟨hx, hb, hml, hown, hts⟩ (c_X3_passOnLeasesDue (G := G) hj hok H.size) (cwV 0 hts gX3_tick_X3_passOnLeasesDue rfl rfl rfl (by decide +kernel) ⟨Nat.le_of_ble_eq_true rfl, Nat.le_of_ble_eq_true rfl⟩) (wd_pre hK hP (dk_lt (by omega)) dE_0 rfl) rfl rfl hl.1 rfl (lv_room (Nat.le_of_ble_eq_true rfl)) dX3_tick_34 ⟨Nat.le_of_ble_eq_true rfl, Nat.le_of_ble_eq_true rfl⟩) (fun H locs hP hS => ?_)
      have hok : dk_ok (duM 4 0 (slM 6 0 (mvM d 6 0 (up M 0 2 ((M 0 2) + d))))) := ok_du 4 0 (by omega) hok
      refine lv_iadd hx hb dX3_tick_37 ?_
      refine lv_istore_n (lv' := [(2, .int ((slV 6 0 (mvM d 6 0 (up M 0 2 ((M 0 2) + d))) 0) + (duV 4 0 (slM 6 0 (mvM d 6 0 (up M 0 2 ((M 0 2) + d)))) 0))), (0, .ref (wa (dkO G) 0)), (1, .int d)]) hx hb dX3_tick_38 rfl hl (by decide) rfl (fun ls hl => ?_)
      refine lv_iload_n hx hb dX3_tick_39 rfl (lv_at hl 0 rfl) ?_
      exact wd_iret (O := (dkO G)) hx hb hr hlocks hK hP hS rfl dX3_tick_40 (by simp only [tcV, if_neg c1, if_pos c2, tiV, tiA]) (by simp only [tcM, if_neg c1, if_pos c2, tiM, tiA])
    · refine lv_iconst (v := (-1)) hx hb dX3_tick_10 (by decide) ?_
      exact wd_iret (O := (dkO G)) hx hb hr hlocks hK hP hS rfl dX3_tick_11 (by simp only [tcV, if_neg c1, if_neg c2]) (by simp only [tcM, if_neg c1, if_neg c2])
end
section
/-! WHAT A THROW NEEDS, and how throwing methods are walked -/
abbrev eISE : String := "java/lang/IllegalStateException"
abbrev eNSE : String := "java/util/NoSuchElementException"
abbrev eIAE : String := "java/lang/IllegalArgumentException"
abbrev eNm : List String := ["java/lang/RuntimeException", "java/lang/Exception"]
def xB : List Cond := [.declares (Bundle.initS "java/lang/RuntimeException"), .declares (Bundle.initS "java/lang/Exception"), .declares (Bundle.initS "java/lang/Throwable"), .castable eISE eISE, .castable eNSE eNSE, .castable eIAE eIAE]
theorem xB_face : ∀ w ∈ xB, w.faceAtom = true ∧ w.onTables = true := by decide +kernel
/-- the texts, the words that the tables decide, which classes don't fit which -/
def xS (U : State) : Prop := (∃ a, vk_R RX3 37 "no slot is free" a U) ∧ (∃ a, vk_R RX3 75 "the term is not 1 to 100" a U) ∧ (∃ a, vk_R RX3 109 "the session does not hold the lock" a U) ∧ (∃ a, vk_R RX3 143 "the session is not open" a U) ∧ (∃ a, vk_R RX3 146 "there is no such lock" a U) ∧ (∀ w ∈ xB, va_Nw w U) ∧ va_Nc eIAE eNSE U ∧ va_Nc eISE eNSE U ∧ va_Nc eISE eIAE U
theorem xS_warm {s U : State} (hW : s.WarmedH U.vm) (h : xS s) : xS U := by
  obtain ⟨⟨a1, h1⟩, ⟨a2, h2⟩, ⟨a3, h3⟩, ⟨a4, h4⟩, ⟨a5, h5⟩, h6, h7, h8, h9⟩ := h
  refine ⟨⟨a1, h1.warm hW⟩, ⟨a2, h2.warm hW⟩, ⟨a3, h3.warm hW⟩, ⟨a4, h4.warm hW⟩, ⟨a5, h5.warm hW⟩, fun w hw => ?_, h7.moved hW.alike, h8.moved hW.alike, h9.moved hW.alike⟩
  have hb := xB_face w hw
  exact va_tabs hb.2 (rfl : (s.setVm U.vm).vm = U.vm) (Cond.faceAtom_setVm hW.alike w hb.1 (h6 w hw))
theorem xS_same {u U : State} (hv : U.vm = u.vm) (h : xS u) : xS U := by
  obtain ⟨⟨a1, h1⟩, ⟨a2, h2⟩, ⟨a3, h3⟩, ⟨a4, h4⟩, ⟨a5, h5⟩, h6, h7, h8, h9⟩ := h
  have hal : u.vm.Alike U.vm := by rw [hv]; exact Vm.Alike.refl _
  exact ⟨⟨a1, h1.same hv⟩, ⟨a2, h2.same hv⟩, ⟨a3, h3.same hv⟩, ⟨a4, h4.same hv⟩, ⟨a5, h5.same hv⟩, fun w hw => va_tabs (xB_face w hw).2 hv.symm (h6 w hw), h7.moved hal, h8.moved hal, h9.moved hal⟩
def xE (A : Nat → Prop) (U : State) (H : Heap) : Prop := vx_Zq Bundle.tN "UNASSIGNED_STACK" Bundle.steD A U H ∧ vx_Zq Bundle.tN "SUPPRESSED_SENTINEL" Bundle.listD A U H ∧ xS U
theorem xE_call {A B : Nat → Prop} {s U : State} {H : Heap} {locs : List Loc} (h : xE A s s.heap) (hS : va_S A s.heap H locs) (hAB : ∀ q, B q → A q) (hU : U.heap = H) (hW : s.WarmedH U.vm) : xE B U U.heap := by
  obtain ⟨h1, h2, h3⟩ := h
  rw [hU]
  exact ⟨((h1.kept hS.2.1).moved hW.alike).narrow hAB, ((h2.kept hS.2.1).moved hW.alike).narrow hAB, xS_warm hW h3⟩
def wpx (O : WS) (sz : Nat) (M : Mem) (U : State) : Prop := wp O sz M U ∧ xE (wA O sz) U U.heap
theorem wpx_blind {O : WS} {sz : Nat} {M : Mem} {av : List Value} : FrameBlind (va_Pc av (wpx O sz M)) := by
  intro a U g mk q
  obtain ⟨q0, ⟨q1, qP, qK⟩, e1, e2, e3⟩ := q
  have hal : U.vm.Alike (U.calling g mk a).vm := Vm.Alike.refl U.vm
  exact ⟨q0, ⟨q1, qP, va_K.moved (u := U) (U := U.calling g mk a) (Vm.Alike.refl U.vm) qK⟩, vx_Zq.moved hal e1, vx_Zq.moved hal e2, xS_same (u := U) rfl e3⟩
/-- it throws an E, and nothing has changed but what is new -/
def xX (O : WS) (sz : Nat) (E0 : String) (M : Mem) : String → State → State → Prop := fun E st t => E = E0 ∧ wq O M t ∧ va_F (wA O sz) st t
abbrev xQ : Array Value → State → Outcome → State → Prop := fun _ _ _ _ => False
section WX
variable {p : Program} {l : Launch} {e : Env} {R : Room} {s : State} {m : MethodId} {args : Array Value} {below : List Frame} {meth : Method} {c : Code} {H : Heap} {locs : List Loc} {cells slots : Nat} {Q : State → Prop}
variable {cc : ByteArray} {pc : Nat} {ls : Array Slot} {rest : List Value} {O : WS} {M : Mem}
theorem wx_ofW {y : MethodName} {ws ws' : List Cond} {rm : Room} {E0 : String} {mc ms sz maxL : Nat} {ret : Option FieldType} {av : List Value} {lv : List (Nat × Value)} {M' : Mem}
    (hy : plainName y.cls = true) (hw : ws = Cond.code y cc maxL ret :: ws') (hlen : (lg_sl av).length ≤ maxL) (hlv : lv_args 0 av = lv)
    (body : ∀ (p : Program) (e : Env) (s : State) (m : MethodId) (below : List Frame) (meth : Method) (c : Code) (ls : Array Slot), p.tables.exec = Jvm.exec → c.code = cc → meth.sig.returnType = ret → c.maxLocals = maxL → s.vm.findClass y.cls = some m.cls → (∀ w ∈ ws, w.before av.toArray s = true) → meth.locks = false →
      va_P (wD O) vwCl (wd O M) s.heap → va_K (wD O) vwCl (wt O) s → va_S (wA O s.heap.size) s.heap s.heap [] → lv_has ls maxL lv → (∀ x ∈ c.exceptionTable.toList, False) → xE (wA O s.heap.size) s s.heap →
      W p l e rm s m av.toArray below meth c s.heap [] 0 0 (vx_MQ below xQ (xX O s.heap.size E0 M') av.toArray s mc ms (wA O s.heap.size)) (F0 m 0 ls [])) :
    vx_Met l y ws rm (va_Pc av (wpx O sz M)) xQ (xX O sz E0 M') mc ms (wA O sz) := by
  refine vx_ofW (cc := cc) (maxL := maxL) (ret := ret) hy hw ?_
  intro p e s m args below meth c s₁ B hml htab hv
  obtain ⟨rfl, ⟨rfl, hP, hK⟩, hE⟩ := hv
  have hl := lv_entry av (n := maxL) hlen
  rw [lg_entry_eq]
  rw [hlv] at hl
  exact body p e s m below meth c _ B.exec B.bytes B.returns hml (findClass_of_methodNamed B.named) (atoms_spec (ws := ws) B.pre) B.notSynchronized hP hK va_S.rf hl htab hE
/-- what a throw here owes -/
theorem xX_of {E0 : String} (hP : va_P (wD O) vwCl (wd O M) H) (hK : va_K (wD O) vwCl (wt O) s) (hS : va_S (wA O s.heap.size) s.heap H locs) : ∀ t : State, s.vm.Alike t.vm → H.size ≤ t.heap.size → (∀ q : Nat, q < H.size → t.heap[q]? = H[q]?) → xX O s.heap.size E0 M E0 s t := by
  intro t hvm hz hk
  refine ⟨rfl, ⟨hP.kept (fun k q hq => hk q.1 ((hP k q hq).lt)), va_K.moved hvm hK⟩, Nat.le_trans hS.1 hz, fun q h1 h2 => ?_⟩
  rw [hk q (Nat.lt_of_lt_of_le h1 hS.1)]
  exact hS.2.1 q h1 h2
theorem xX_out {E0 : String} {H1 : Heap} (hP : va_P (wD O) vwCl (wd O M) H1) (hK : va_K (wD O) vwCl (wt O) s) (hS : va_S (wA O s.heap.size) s.heap H1 locs) : ∀ t : State, t.heap = H1 → s.vm.Alike t.vm → xX O s.heap.size E0 M E0 s t := by
  intro t ht hvm
  exact ⟨rfl, ⟨by rw [ht]; exact hP, va_K.moved hvm hK⟩, hS.F ht⟩
theorem wx_pre {C : String} {T : u_T} {N ci k : Nat} {fs : List Value} {As : List Value} (hK : va_K (wD O) vwCl (wt O) s) (hP : va_P (wD O) vwCl (wd O M) H) (hS : va_S (wA O s.heap.size) s.heap H locs) (hE : xE (wA O s.heap.size) s s.heap) (hk : k < wn O) (he : wE O k (M k) = .inr (ci, fs)) (hc : vwCl[ci]? = some (C, T, N)) : PreV s H C (wa O k) (va_Pc (.ref (wa O k) :: As) (wpx O H.size M)) As :=
  ⟨wpx_blind, va_recv hK hP hc (q0 := k) (by rw [wd_at hk, he]), fun U hU hW => ⟨rfl, ⟨by rw [hU], by rw [hU]; exact hP, va_K.moved hW.alike hK⟩, xE_call hE hS (fun q h => wd_sub hS h) hU hW⟩⟩
variable {st0 : List Value} {mc ms : Nat} {a : Array Value}
/-- a call that throws -/
theorem wx_call {E0 : String} {M' : Mem} (hS : va_S (wA O s.heap.size) s.heap H locs) (hr : vx_Run p l e R s m args below meth c H locs cells slots mc ms (F0 m pc ls st0) rest (xQ a) (xX O H.size E0 M') (wA O H.size))
    (kx : ∀ (q : Addr) (ce : Cell) (H1 : Heap) (locs1 : List Loc), va_P (wD O) vwCl (wd O M') H1 → va_S (wA O s.heap.size) s.heap H1 locs1 → H1[q]? = some ce → ce.vm = .none → s.vm.findClass E0 = some ce.cls → vx_W p l e R s m args below meth c H1 locs1 (cells + mc) (slots + ms) Q (F0 m pc ls rest) q) : W p l e R s m args below meth c H locs cells slots Q (F0 m pc ls st0) := by
  intro T hT X
  rcases hr T hT X with ⟨v, st₀, t, T', L, h0, X', hL, e1, e2, hF, st⟩ | ⟨q, st₀, t, T', L, E, ce, h0, X', hL, e1, e2, ⟨rfl, ⟨hP1, hK1⟩, hF⟩, hce, hcv, hcl, st⟩
  · exact hF.elim
  · obtain ⟨k1, k2, k3⟩ := vx_keep h0 e1 hS (fun q _ h => wd_sub hS h) (fun q h => wd_sub hS h) hL hF
    obtain ⟨t2, a1, b1⟩ := kx q ce T'.heap (locs ++ L) (by rw [e1]; exact hP1) k3 (by rw [e1]; exact hce) hcv hcl T' rfl X'
    exact ⟨t2, st.trans a1, b1⟩
end WX
end
section
/-- the first free slot from j on, of k -/
def fo (M : Mem) : Nat → Nat → Option Nat
  | 0, _ => none
  | k + 1, j => if M (3 + j) 0 = 0 then some j else fo M k (j + 1)
theorem fo_some {M : Mem} : ∀ {k j a : Nat}, fo M k j = some a → a < j + k
  | 0, j, a, h => by cases h
  | k + 1, j, a, h => by
    unfold fo at h
    by_cases e : M (3 + j) 0 = 0
    · rw [if_pos e] at h; cases h; omega
    · rw [if_neg e] at h; have := fo_some h; omega
/-- acquire, past its tests: session j, lock i -/
def aqA (M : Mem) (j : Nat) : Mem := up M (3 + j) 1 (M 0 2)
def aqM (M : Mem) (j i : Nat) (t : Int32) : Mem :=
  if aqA M j (9 + i) 1 = nI j then rwM (aqA M j) i t (aqA M j 0 2) (aqA M j (3 + j) 3)
  else if freV (aqA M j) i = 0 then askM (aqA M j) i (nI j) t
  else lnM (aqA M j) i (nI j) t (aqA M j 0 2) (aqA M j (3 + j) 3)
def aqV (M : Mem) (j i : Nat) (t : Int32) : Int32 :=
  if aqA M j (9 + i) 1 = nI j then aqM M j i t (9 + i) 2
  else if freV (aqA M j) i = 0 then 0
  else aqM M j i t (9 + i) 2
theorem ok_aq {M : Mem} {j i : Nat} {t : Int32} (h : dk_ok M) (hj : j < 6) (hi : i < 4) : dk_ok (aqM M j i t) := by
  have h1 : dk_ok (aqA M j) := ok_up h (by omega)
  unfold aqM
  by_cases e : aqA M j (9 + i) 1 = nI j
  · rw [if_pos e]; exact ok_rw h1 hi
  · rw [if_neg e]
    by_cases e2 : freV (aqA M j) i = 0
    · rw [if_pos e2]; exact ok_ask h1 hi
    · rw [if_neg e2]; exact ok_ln h1 hi
end
section
set_option maxRecDepth 100000 in
set_option maxHeartbeats 4000000 in
theorem c_X3_open_s {l : Launch} {G : DG} (hj : wj (dkO G)) {M : Mem} (hok : dk_ok M) (sz : Nat) {j0 : Nat} (ho : fo M 6 0 = some j0) : Met l yX3_open wsX3_open ({ frames := 1, cells := 0, slots := 0, locals := 21 }) (va_Pc [.ref (wa (dkO G) 0)] (wp (dkO G) sz M)) (wQi (dkO G) sz (nI j0) (bgM M j0 (M 0 2))) 0 0 (wA (dkO G) sz) := by
  refine wd_ofW (O := (dkO G)) (M := M) (Qc := fun z => wQi (dkO G) z (nI j0) (bgM M j0 (M 0 2))) (cc := cX3_open) (maxL := 2) (ret := (some .int)) (lv := [(0, .ref (wa (dkO G) 0))]) (by decide) rfl (Nat.le_of_ble_eq_true rfl) rfl ?_
  intro p e s m below meth c ls hx hb hr hml hown hts hlocks hP hK hS hl
  have hi2 : ∀ w ∈ wsX20, w ∈ wsX3_open := by decide +kernel
  have hi3 : ∀ w ∈ wsX30, w ∈ wsX3_open := by decide +kernel
  refine lv_iconst (v := 0) hx hb dX3_open_0 (by decide) ?_
  refine lv_istore_n (lv' := [(1, .int 0), (0, .ref (wa (dkO G) 0))]) hx hb dX3_open_1 rfl hl (by decide) rfl (fun ls hl => ?_)
  refine wl_loop (pc := 2) (fun k j N v ls H locs => (j + k = 6) ∧ (fo M k j = some j0) ∧ va_P (wD (dkO G)) vwCl (wd (dkO G) M) H ∧ va_S (wA (dkO G) s.heap.size) s.heap H locs ∧ lv_has ls 2 [(1, .int (nI j)), (0, .ref (wa (dkO G) 0))]) ?_ ?_ 6 0 M 0 ⟨by omega, ho, hP, hS, lv_sub hl [0, 1] rfl⟩
  · rintro j N v ls H locs ⟨h1, h2, hP, hS, hl⟩
    exact absurd h2 (by simp [fo])
  · rintro k j N v ls H locs ih ⟨h1, h2, hP, hS, hl⟩
    refine lv_iload_n hx hb dX3_open_2 rfl (lv_at hl 0 rfl) ?_
    refine lv_bipush (v := 6) hx hb dX3_open_3 (by decide) ?_
    refine lv_icmp_ge (tgt := 41) hx hb dX3_open_5 (by decide) (fun c1 => absurd c1 (show ¬ nI 6 ≤ nI j from nI_ge (by omega) (by omega))) (fun c1 => ?_)
    refine lv_aload_n hx hb dX3_open_8 rfl (lv_at hl 1 rfl) ?_
    refine wd_get (O := (dkO G)) (v := .ref (wa (dkO G) 1)) hx hb hts hi3 hown hK hP (dk_lt (by omega)) dE_0 rfl 0 (by decide) (hts (.fieldLink RX3 11 "LeaseDesk" "sessions" "[LLeaseDesk$Session;") (by decide +kernel)) (fun _ h9 => h9) rfl dX3_open_9 ?_
    refine lv_iload_n hx hb dX3_open_12 rfl (lv_at hl 0 rfl) ?_
    refine wd_aald (O := (dkO G)) (b := wa (dkO G) (3 + j)) hx hb hK hP (dk_lt (by omega)) 1 dE_1 rfl (i := j) rfl (by omega) (by decide) (if_pos (by omega)) dX3_open_13 ?_
    refine wd_get (O := (dkO G)) (v := .int (M (3 + j) 0)) hx hb hts hi2 hown hK hP (dk_lt (by omega)) (dE_ses (by omega)) rfl 0 (by decide) (hts (.fieldLink RX3 27 "LeaseDesk$Session" "isOpen" "Z") (by decide +kernel)) (fun _ h9 => h9) rfl dX3_open_14 ?_
    refine lv_if_ne (tgt := 35) hx hb dX3_open_17 (by decide) (fun c2 => ?_) (fun c2 => ?_)
    · refine lv_iinc (v := nI (j + 1)) (lv' := [(1, .int (nI (j + 1))), (0, .ref (wa (dkO G) 0))]) hx hb dX3_open_35 hl (k := 0) rfl (nI_1 j) (by decide) rfl (fun ls hl => ?_)
      refine lv_goto (tgt := 2) hx hb dX3_open_38 (by decide) ?_
      exact ih (j + 1) N v ls H locs ⟨by omega, by rw [← h2]; simp only [fo, if_neg c2], hP, hS, lv_sub hl [0, 1] rfl⟩
    · have hjj : j = j0 := by simp only [fo, if_pos c2] at h2; exact Option.some.inj h2
      subst hjj
      refine lv_aload_n hx hb dX3_open_20 rfl (lv_at hl 1 rfl) ?_
      refine wd_get (O := (dkO G)) (v := .ref (wa (dkO G) 1)) hx hb hts hi3 hown hK hP (dk_lt (by omega)) dE_0 rfl 0 (by decide) (hts (.fieldLink RX3 11 "LeaseDesk" "sessions" "[LLeaseDesk$Session;") (by decide +kernel)) (fun _ h9 => h9) rfl dX3_open_21 ?_
      refine lv_iload_n hx hb dX3_open_24 rfl (lv_at hl 0 rfl) ?_
      refine wd_aald (O := (dkO G)) (b := wa (dkO G) (3 + j)) hx hb hK hP (dk_lt (by omega)) 1 dE_1 rfl (i := j) rfl (by omega) (by decide) (if_pos (by omega)) dX3_open_25 ?_
      refine lv_aload_n hx hb dX3_open_26 rfl (lv_at hl 1 rfl) ?_
      refine wd_get (O := (dkO G)) (v := .int (M 0 2)) hx hb hts hi3 hown hK hP (dk_lt (by omega)) dE_0 rfl 2 (by decide) (hts (.fieldLink RX3 23 "LeaseDesk" "now" "I") (by decide +kernel)) (fun _ h9 => h9) rfl dX3_open_27 ?_
      refine wd_cv (O := (dkO G)) hS (va_runV (As := [.int (M 0 2)]) (rest := []) ⟨hx, hb, hml, hown, hts⟩ (c_X2_begin (G := G) hj hok (by omega) H.size (M 0 2)) (cwV 1 hts gX3_open_X2_begin rfl rfl rfl (by decide +kernel) ⟨Nat.le_of_ble_eq_true rfl, Nat.le_of_ble_eq_true rfl⟩) (wd_pre hK hP (dk_lt (by omega)) (dE_ses (by omega)) rfl) rfl rfl hl.1 rfl (lv_room (Nat.le_of_ble_eq_true rfl)) dX3_open_30 ⟨Nat.le_of_ble_eq_true rfl, Nat.le_of_ble_eq_true rfl⟩) (fun H locs hP hS => ?_)
      have hok : dk_ok (bgM M j (M 0 2)) := ok_bg hok (by omega)
      refine lv_iload_n hx hb dX3_open_33 rfl (lv_at hl 0 rfl) ?_
      exact wd_iret (O := (dkO G)) hx hb hr hlocks hK hP hS rfl dX3_open_34 (rfl) (rfl)
set_option maxRecDepth 100000 in
set_option maxHeartbeats 4000000 in
theorem c_X3_requireSession_s {l : Launch} {G : DG} (hj : wj (dkO G)) {M : Mem} (hok : dk_ok M) {j : Nat} (hj6 : j < 6) (hon : M (3 + j) 0 ≠ 0) (sz : Nat) : Met l yX3_requireSession wsX3_requireSession ({ frames := 1, cells := 0, slots := 0, locals := 21 }) (va_Pc [.ref (wa (dkO G) 0), .int (nI j)] (wp (dkO G) sz M)) (wQq (dkO G) sz (some (wa (dkO G) (3 + j))) (M)) 0 0 (wA (dkO G) sz) := by
  refine wd_ofW (O := (dkO G)) (M := M) (Qc := fun z => wQq (dkO G) z (some (wa (dkO G) (3 + j))) (M)) (cc := cX3_requireSession) (maxL := 3) (ret := (some (.object "LeaseDesk$Session"))) (lv := [(0, .ref (wa (dkO G) 0)), (1, .int (nI j))]) (by decide) rfl (Nat.le_of_ble_eq_true rfl) rfl ?_
  intro p e s m below meth c ls hx hb hr hml hown hts hlocks hP hK hS hl
  refine lv_aload_n hx hb dX3_requireSession_0 rfl (lv_at hl 0 rfl) ?_
  refine lv_iload_n hx hb dX3_requireSession_1 rfl (lv_at hl 1 rfl) ?_
  refine wd_cqs (O := (dkO G)) hS (va_runV (As := [.int (nI j)]) (rest := []) ⟨hx, hb, hml, hown, hts⟩ (c_X3_openSession_s (G := G) hj hok (by omega) hon s.heap.size) (cwV 1 hts gX3_requireSession_X3_openSession rfl rfl rfl (by decide +kernel) ⟨Nat.le_of_ble_eq_true rfl, Nat.le_of_ble_eq_true rfl⟩) (wd_pre hK hP (dk_lt (by omega)) dE_0 rfl) rfl rfl hl.1 rfl (lv_room (Nat.le_of_ble_eq_true rfl)) dX3_requireSession_2 ⟨Nat.le_of_ble_eq_true rfl, Nat.le_of_ble_eq_true rfl⟩) (fun H locs hP hS => ?_)
  refine lv_astore_n (lv' := [(2, .ref (wa (dkO G) (3 + j))), (0, .ref (wa (dkO G) 0)), (1, .int (nI j))]) hx hb dX3_requireSession_5 rfl hl (by decide) rfl (fun ls hl => ?_)
  refine lv_aload_n hx hb dX3_requireSession_6 rfl (lv_at hl 0 rfl) ?_
  refine lv_ifnonnull (tgt := 20) hx hb dX3_requireSession_7 (by decide) ?_
  refine lv_aload_n hx hb dX3_requireSession_20 rfl (lv_at hl 0 rfl) ?_
  exact wd_aret (O := (dkO G)) hx hb hr hlocks hK hP hS dX3_requireSession_21 (rfl) (rfl)
set_option maxRecDepth 100000 in
set_option maxHeartbeats 4000000 in
theorem c_X3_requireLock_s {l : Launch} {G : DG} (hj : wj (dkO G)) {M : Mem} (hok : dk_ok M) {i : Nat} (hi4 : i < 4) (sz : Nat) : Met l yX3_requireLock wsX3_requireLock ({ frames := 1, cells := 0, slots := 0, locals := 21 }) (va_Pc [.ref (wa (dkO G) 0), .int (nI i)] (wp (dkO G) sz M)) (wQq (dkO G) sz (some (wa (dkO G) (9 + i))) (M)) 0 0 (wA (dkO G) sz) := by
  refine wd_ofW (O := (dkO G)) (M := M) (Qc := fun z => wQq (dkO G) z (some (wa (dkO G) (9 + i))) (M)) (cc := cX3_requireLock) (maxL := 3) (ret := (some (.object "LeaseDesk$Lock"))) (lv := [(0, .ref (wa (dkO G) 0)), (1, .int (nI i))]) (by decide) rfl (Nat.le_of_ble_eq_true rfl) rfl ?_
  intro p e s m below meth c ls hx hb hr hml hown hts hlocks hP hK hS hl
  refine lv_aload_n hx hb dX3_requireLock_0 rfl (lv_at hl 0 rfl) ?_
  refine lv_iload_n hx hb dX3_requireLock_1 rfl (lv_at hl 1 rfl) ?_
  refine wd_cqs (O := (dkO G)) hS (va_runV (As := [.int (nI i)]) (rest := []) ⟨hx, hb, hml, hown, hts⟩ (c_X3_knownLock_s (G := G) hj hok (by omega) s.heap.size) (cwV 1 hts gX3_requireLock_X3_knownLock rfl rfl rfl (by decide +kernel) ⟨Nat.le_of_ble_eq_true rfl, Nat.le_of_ble_eq_true rfl⟩) (wd_pre hK hP (dk_lt (by omega)) dE_0 rfl) rfl rfl hl.1 rfl (lv_room (Nat.le_of_ble_eq_true rfl)) dX3_requireLock_2 ⟨Nat.le_of_ble_eq_true rfl, Nat.le_of_ble_eq_true rfl⟩) (fun H locs hP hS => ?_)
  refine lv_astore_n (lv' := [(2, .ref (wa (dkO G) (9 + i))), (0, .ref (wa (dkO G) 0)), (1, .int (nI i))]) hx hb dX3_requireLock_5 rfl hl (by decide) rfl (fun ls hl => ?_)
  refine lv_aload_n hx hb dX3_requireLock_6 rfl (lv_at hl 0 rfl) ?_
  refine lv_ifnonnull (tgt := 20) hx hb dX3_requireLock_7 (by decide) ?_
  refine lv_aload_n hx hb dX3_requireLock_20 rfl (lv_at hl 0 rfl) ?_
  exact wd_aret (O := (dkO G)) hx hb hr hlocks hK hP hS dX3_requireLock_21 (rfl) (rfl)
set_option maxRecDepth 100000 in
set_option maxHeartbeats 4000000 in
theorem c_X3_close_s {l : Launch} {G : DG} (hj : wj (dkO G)) {M : Mem} (hok : dk_ok M) {j : Nat} (hj6 : j < 6) (hon : M (3 + j) 0 ≠ 0) (sz : Nat) : Met l yX3_close wsX3_close ({ frames := 4, cells := 0, slots := 0, locals := 97 }) (va_Pc [.ref (wa (dkO G) 0), .int (nI j)] (wp (dkO G) sz M)) (wQi (dkO G) sz (endV M (nI j)) (endM M j (nI j))) 0 0 (wA (dkO G) sz) := by
  refine wd_ofW (O := (dkO G)) (M := M) (Qc := fun z => wQi (dkO G) z (endV M (nI j)) (endM M j (nI j))) (cc := cX3_close) (maxL := 2) (ret := (some .int)) (lv := [(0, .ref (wa (dkO G) 0)), (1, .int (nI j))]) (by decide) rfl (Nat.le_of_ble_eq_true rfl) rfl ?_
  intro p e s m below meth c ls hx hb hr hml hown hts hlocks hP hK hS hl
  refine lv_aload_n hx hb dX3_close_0 rfl (lv_at hl 0 rfl) ?_
  refine lv_aload_n hx hb dX3_close_1 rfl (lv_at hl 0 rfl) ?_
  refine lv_iload_n hx hb dX3_close_2 rfl (lv_at hl 1 rfl) ?_
  refine wd_cqs (O := (dkO G)) hS (va_runV (As := [.int (nI j)]) (rest := [.ref (wa (dkO G) 0)]) ⟨hx, hb, hml, hown, hts⟩ (c_X3_requireSession_s (G := G) hj hok (by omega) hon s.heap.size) (cwV 1 hts gX3_close_X3_requireSession rfl rfl rfl (by decide +kernel) ⟨Nat.le_of_ble_eq_true rfl, Nat.le_of_ble_eq_true rfl⟩) (wd_pre hK hP (dk_lt (by omega)) dE_0 rfl) rfl rfl hl.1 rfl (lv_room (Nat.le_of_ble_eq_true rfl)) dX3_close_3 ⟨Nat.le_of_ble_eq_true rfl, Nat.le_of_ble_eq_true rfl⟩) (fun H locs hP hS => ?_)
  refine lv_iload_n hx hb dX3_close_6 rfl (lv_at hl 1 rfl) ?_
  refine wd_ci (O := (dkO G)) hS (va_runV (As := [.ref (wa (dkO G) (3 + j)), .int (nI j)]) (rest := []) ⟨hx, hb, hml, hown, hts⟩ (c_X3_endSession (G := G) hj hok (by omega) H.size (nI j)) (cwV 2 hts gX3_close_X3_endSession rfl rfl rfl (by decide +kernel) ⟨Nat.le_of_ble_eq_true rfl, Nat.le_of_ble_eq_true rfl⟩) (wd_pre hK hP (dk_lt (by omega)) dE_0 rfl) rfl rfl hl.1 rfl (lv_room (Nat.le_of_ble_eq_true rfl)) dX3_close_7 ⟨Nat.le_of_ble_eq_true rfl, Nat.le_of_ble_eq_true rfl⟩) (fun H locs hP hS => ?_)
  have hok : dk_ok (endM M j (nI j)) := ok_end hok (by omega)
  exact wd_iret (O := (dkO G)) hx hb hr hlocks hK hP hS rfl dX3_close_10 (rfl) (rfl)
set_option maxRecDepth 100000 in
set_option maxHeartbeats 4000000 in
theorem c_X3_keep_s {l : Launch} {G : DG} (hj : wj (dkO G)) {M : Mem} (hok : dk_ok M) {j : Nat} (hj6 : j < 6) (hon : M (3 + j) 0 ≠ 0) (sz : Nat) : Met l yX3_keep wsX3_keep ({ frames := 2, cells := 0, slots := 0, locals := 43 }) (va_Pc [.ref (wa (dkO G) 0), .int (nI j)] (wp (dkO G) sz M)) (wQv (dkO G) sz (up M (3 + j) 1 (M 0 2))) 0 0 (wA (dkO G) sz) := by
  refine wd_ofW (O := (dkO G)) (M := M) (Qc := fun z => wQv (dkO G) z (up M (3 + j) 1 (M 0 2))) (cc := cX3_keep) (maxL := 2) (ret := none) (lv := [(0, .ref (wa (dkO G) 0)), (1, .int (nI j))]) (by decide) rfl (Nat.le_of_ble_eq_true rfl) rfl ?_
  intro p e s m below meth c ls hx hb hr hml hown hts hlocks hP hK hS hl
  have hi2 : ∀ w ∈ wsX20, w ∈ wsX3_keep := by decide +kernel
  have hi3 : ∀ w ∈ wsX30, w ∈ wsX3_keep := by decide +kernel
  refine lv_aload_n hx hb dX3_keep_0 rfl (lv_at hl 0 rfl) ?_
  refine lv_iload_n hx hb dX3_keep_1 rfl (lv_at hl 1 rfl) ?_
  refine wd_cqs (O := (dkO G)) hS (va_runV (As := [.int (nI j)]) (rest := []) ⟨hx, hb, hml, hown, hts⟩ (c_X3_requireSession_s (G := G) hj hok (by omega) hon s.heap.size) (cwV 1 hts gX3_keep_X3_requireSession rfl rfl rfl (by decide +kernel) ⟨Nat.le_of_ble_eq_true rfl, Nat.le_of_ble_eq_true rfl⟩) (wd_pre hK hP (dk_lt (by omega)) dE_0 rfl) rfl rfl hl.1 rfl (lv_room (Nat.le_of_ble_eq_true rfl)) dX3_keep_2 ⟨Nat.le_of_ble_eq_true rfl, Nat.le_of_ble_eq_true rfl⟩) (fun H locs hP hS => ?_)
  refine lv_aload_n hx hb dX3_keep_5 rfl (lv_at hl 0 rfl) ?_
  refine wd_get (O := (dkO G)) (v := .int (M 0 2)) hx hb hts hi3 hown hK hP (dk_lt (by omega)) dE_0 rfl 2 (by decide) (hts (.fieldLink RX3 23 "LeaseDesk" "now" "I") (by decide +kernel)) (fun _ h9 => h9) rfl dX3_keep_6 ?_
  refine wd_put (O := (dkO G)) (ty := .int) hj hx hb hts hi2 tyX2 tyX2_ok nmX2 hown hK hP hS (dk_lt (by omega)) (dE_ses (by omega)) rfl 1 (by decide) (hts (.fieldLink RX3 50 "LeaseDesk$Session" "sign" "I") (by decide +kernel)) (fun _ h9 => h9) rfl (by decide +kernel) rfl rfl (Nat.le_of_ble_eq_true rfl) ((dE_ses (by omega)).trans rfl) dX3_keep_9 (fun H locs hP hS => ?_)
  have hok : dk_ok (up M (3 + j) 1 (M 0 2)) := ok_up hok (by omega)
  exact wd_vret (O := (dkO G)) hx hb hr hlocks hK hP hS dX3_keep_12 (rfl)
set_option maxRecDepth 100000 in
set_option maxHeartbeats 4000000 in
theorem c_X3_acquire_s {l : Launch} {G : DG} (hj : wj (dkO G)) {M : Mem} (hok : dk_ok M) {j i : Nat} (hj6 : j < 6) (hon : M (3 + j) 0 ≠ 0) (hi4 : i < 4) (t : Int32) (ht1 : ¬ t < 1) (ht2 : t ≤ 100) (sz : Nat) : Met l yX3_acquire wsX3_acquire ({ frames := 2, cells := 0, slots := 0, locals := 47 }) (va_Pc [.ref (wa (dkO G) 0), .int (nI j), .int (nI i), .int t] (wp (dkO G) sz M)) (wQi (dkO G) sz (aqV M j i t) (aqM M j i t)) 0 0 (wA (dkO G) sz) := by
  refine wd_ofW (O := (dkO G)) (M := M) (Qc := fun z => wQi (dkO G) z (aqV M j i t) (aqM M j i t)) (cc := cX3_acquire) (maxL := 6) (ret := (some .int)) (lv := [(0, .ref (wa (dkO G) 0)), (1, .int (nI j)), (2, .int (nI i)), (3, .int t)]) (by decide) rfl (Nat.le_of_ble_eq_true rfl) rfl ?_
  intro p e s m below meth c ls hx hb hr hml hown hts hlocks hP hK hS hl
  have hi0 : ∀ w ∈ wsX00, w ∈ wsX3_acquire := by decide +kernel
  have hi2 : ∀ w ∈ wsX20, w ∈ wsX3_acquire := by decide +kernel
  have hi3 : ∀ w ∈ wsX30, w ∈ wsX3_acquire := by decide +kernel
  refine lv_aload_n hx hb dX3_acquire_0 rfl (lv_at hl 0 rfl) ?_
  refine lv_iload_n hx hb dX3_acquire_1 rfl (lv_at hl 1 rfl) ?_
  refine wd_cqs (O := (dkO G)) hS (va_runV (As := [.int (nI j)]) (rest := []) ⟨hx, hb, hml, hown, hts⟩ (c_X3_requireSession_s (G := G) hj hok (by omega) hon s.heap.size) (cwV 1 hts gX3_acquire_X3_requireSession rfl rfl rfl (by decide +kernel) ⟨Nat.le_of_ble_eq_true rfl, Nat.le_of_ble_eq_true rfl⟩) (wd_pre hK hP (dk_lt (by omega)) dE_0 rfl) rfl rfl hl.1 rfl (lv_room (Nat.le_of_ble_eq_true rfl)) dX3_acquire_2 ⟨Nat.le_of_ble_eq_true rfl, Nat.le_of_ble_eq_true rfl⟩) (fun H locs hP hS => ?_)
  refine lv_astore (lv' := [(4, .ref (wa (dkO G) (3 + j))), (0, .ref (wa (dkO G) 0)), (1, .int (nI j)), (2, .int (nI i)), (3, .int t)]) hx hb dX3_acquire_5 hl (by decide) rfl (fun ls hl => ?_)
  refine lv_aload_n hx hb dX3_acquire_7 rfl (lv_at hl 1 rfl) ?_
  refine lv_iload_n hx hb dX3_acquire_8 rfl (lv_at hl 3 rfl) ?_
  refine wd_cqs (O := (dkO G)) hS (va_runV (As := [.int (nI i)]) (rest := []) ⟨hx, hb, hml, hown, hts⟩ (c_X3_requireLock_s (G := G) hj hok (by omega) H.size) (cwV 1 hts gX3_acquire_X3_requireLock rfl rfl rfl (by decide +kernel) ⟨Nat.le_of_ble_eq_true rfl, Nat.le_of_ble_eq_true rfl⟩) (wd_pre hK hP (dk_lt (by omega)) dE_0 rfl) rfl rfl hl.1 rfl (lv_room (Nat.le_of_ble_eq_true rfl)) dX3_acquire_9 ⟨Nat.le_of_ble_eq_true rfl, Nat.le_of_ble_eq_true rfl⟩) (fun H locs hP hS => ?_)
  refine lv_astore (lv' := [(5, .ref (wa (dkO G) (9 + i))), (4, .ref (wa (dkO G) (3 + j))), (0, .ref (wa (dkO G) 0)), (1, .int (nI j)), (2, .int (nI i)), (3, .int t)]) hx hb dX3_acquire_12 hl (by decide) rfl (fun ls hl => ?_)
  refine lv_iload_n hx hb dX3_acquire_14 rfl (lv_at hl 5 rfl) ?_
  refine lv_iconst (v := 1) hx hb dX3_acquire_15 (by decide) ?_
  refine lv_icmp_lt (tgt := 25) hx hb dX3_acquire_16 (by decide) (fun c1 => absurd c1 ht1) (fun c1 => ?_)
  refine lv_iload_n hx hb dX3_acquire_19 rfl (lv_at hl 5 rfl) ?_
  refine lv_bipush (v := 100) hx hb dX3_acquire_20 (by decide) ?_
  refine lv_icmp_le (tgt := 35) hx hb dX3_acquire_22 (by decide) (fun c2 => ?_) (fun c2 => absurd ht2 c2)
  refine lv_aload hx hb dX3_acquire_35 (lv_at hl 1 rfl) ?_
  refine lv_aload_n hx hb dX3_acquire_37 rfl (lv_at hl 2 rfl) ?_
  refine wd_get (O := (dkO G)) (v := .int (M 0 2)) hx hb hts hi3 hown hK hP (dk_lt (by omega)) dE_0 rfl 2 (by decide) (hts (.fieldLink RX3 23 "LeaseDesk" "now" "I") (by decide +kernel)) (fun _ h9 => h9) rfl dX3_acquire_38 ?_
  refine wd_put (O := (dkO G)) (ty := .int) hj hx hb hts hi2 tyX2 tyX2_ok nmX2 hown hK hP hS (dk_lt (by omega)) (dE_ses (by omega)) rfl 1 (by decide) (hts (.fieldLink RX3 50 "LeaseDesk$Session" "sign" "I") (by decide +kernel)) (fun _ h9 => h9) rfl (by decide +kernel) rfl rfl (Nat.le_of_ble_eq_true rfl) ((dE_ses (by omega)).trans rfl) dX3_acquire_41 (fun H locs hP hS => ?_)
  have hok : dk_ok (up M (3 + j) 1 (M 0 2)) := ok_up hok (by omega)
  refine lv_aload hx hb dX3_acquire_44 (lv_at hl 0 rfl) ?_
  refine wd_get (O := (dkO G)) (v := .int ((up M (3 + j) 1 (M 0 2)) (9 + i) 1)) hx hb hts hi0 hown hK hP (dk_lt (by omega)) (dE_lock (by omega)) rfl 1 (by decide) (hts (.fieldLink RX3 78 "LeaseDesk$Lock" "holder" "I") (by decide +kernel)) (fun _ h9 => h9) rfl dX3_acquire_46 ?_
  refine lv_iload_n hx hb dX3_acquire_49 rfl (lv_at hl 3 rfl) ?_
  refine lv_icmp_ne (tgt := 74) hx hb dX3_acquire_50 (by decide) (fun c3 => ?_) (fun c3 => ?_)
  · refine lv_aload hx hb dX3_acquire_74 (lv_at hl 0 rfl) ?_
    refine wd_ci (O := (dkO G)) hS (va_runV (As := []) (rest := []) ⟨hx, hb, hml, hown, hts⟩ (c_X0_isFree (G := G) hj hok (by omega) H.size) (cwV 0 hts gX3_acquire_X0_isFree rfl rfl rfl (by decide +kernel) ⟨Nat.le_of_ble_eq_true rfl, Nat.le_of_ble_eq_true rfl⟩) (wd_pre hK hP (dk_lt (by omega)) (dE_lock (by omega)) rfl) rfl rfl hl.1 rfl (lv_room (Nat.le_of_ble_eq_true rfl)) dX3_acquire_76 ⟨Nat.le_of_ble_eq_true rfl, Nat.le_of_ble_eq_true rfl⟩) (fun H locs hP hS => ?_)
    refine lv_if_eq (tgt := 104) hx hb dX3_acquire_79 (by decide) (fun c4 => ?_) (fun c4 => ?_)
    · refine lv_aload hx hb dX3_acquire_104 (lv_at hl 0 rfl) ?_
      refine wd_get (O := (dkO G)) (v := .ref (wa (dkO G) (13 + i))) hx hb hts hi0 hown hK hP (dk_lt (by omega)) (dE_lock (by omega)) rfl 0 (by decide) (hts (.fieldLink RX3 99 "LeaseDesk$Lock" "row" "LLeaseDesk$Row;") (by decide +kernel)) (fun _ h9 => h9) rfl dX3_acquire_106 ?_
      refine lv_iload_n hx hb dX3_acquire_109 rfl (lv_at hl 3 rfl) ?_
      refine lv_iload_n hx hb dX3_acquire_110 rfl (lv_at hl 5 rfl) ?_
      refine wd_cv (O := (dkO G)) hS (va_runV (As := [.int (nI j), .int t]) (rest := []) ⟨hx, hb, hml, hown, hts⟩ (c_X1_ask (G := G) hj hok (by omega) H.size (nI j) t) (cwV 2 hts gX3_acquire_X1_ask rfl rfl rfl (by decide +kernel) ⟨Nat.le_of_ble_eq_true rfl, Nat.le_of_ble_eq_true rfl⟩) (wd_pre hK hP (dk_lt (by omega)) (dE_row (by omega)) rfl) rfl rfl hl.1 rfl (lv_room (Nat.le_of_ble_eq_true rfl)) dX3_acquire_111 ⟨Nat.le_of_ble_eq_true rfl, Nat.le_of_ble_eq_true rfl⟩) (fun H locs hP hS => ?_)
      have hok : dk_ok (askM (up M (3 + j) 1 (M 0 2)) i (nI j) t) := ok_ask hok (by omega)
      refine lv_iconst (v := 0) hx hb dX3_acquire_114 (by decide) ?_
      exact wd_iret (O := (dkO G)) hx hb hr hlocks hK hP hS rfl dX3_acquire_115 (by have c3 : ¬ aqA M j (9 + i) 1 = nI j := c3; have c4 : freV (aqA M j) i = 0 := c4; simp only [aqV, aqM, if_neg c3, if_pos c4] <;> rfl) (by have c3 : ¬ aqA M j (9 + i) 1 = nI j := c3; have c4 : freV (aqA M j) i = 0 := c4; simp only [aqM, if_neg c3, if_pos c4] <;> rfl)
    · refine lv_aload hx hb dX3_acquire_82 (lv_at hl 0 rfl) ?_
      refine lv_iload_n hx hb dX3_acquire_84 rfl (lv_at hl 3 rfl) ?_
      refine lv_iload_n hx hb dX3_acquire_85 rfl (lv_at hl 5 rfl) ?_
      refine lv_aload_n hx hb dX3_acquire_86 rfl (lv_at hl 2 rfl) ?_
      refine wd_get (O := (dkO G)) (v := .int ((up M (3 + j) 1 (M 0 2)) 0 2)) hx hb hts hi3 hown hK hP (dk_lt (by omega)) dE_0 rfl 2 (by decide) (hts (.fieldLink RX3 23 "LeaseDesk" "now" "I") (by decide +kernel)) (fun _ h9 => h9) rfl dX3_acquire_87 ?_
      refine lv_aload hx hb dX3_acquire_90 (lv_at hl 1 rfl) ?_
      refine wd_get (O := (dkO G)) (v := .int ((up M (3 + j) 1 (M 0 2)) (3 + j) 3)) hx hb hts hi2 hown hK hP (dk_lt (by omega)) (dE_ses (by omega)) rfl 3 (by decide) (hts (.fieldLink RX3 81 "LeaseDesk$Session" "clock" "I") (by decide +kernel)) (fun _ h9 => h9) rfl dX3_acquire_92 ?_
      refine wd_cv (O := (dkO G)) hS (va_runV (As := [.int (nI j), .int t, .int ((up M (3 + j) 1 (M 0 2)) 0 2), .int ((up M (3 + j) 1 (M 0 2)) (3 + j) 3)]) (rest := []) ⟨hx, hb, hml, hown, hts⟩ (c_X0_lend (G := G) hj hok (by omega) H.size (nI j) t ((up M (3 + j) 1 (M 0 2)) 0 2) ((up M (3 + j) 1 (M 0 2)) (3 + j) 3)) (cwV 4 hts gX3_acquire_X0_lend rfl rfl rfl (by decide +kernel) ⟨Nat.le_of_ble_eq_true rfl, Nat.le_of_ble_eq_true rfl⟩) (wd_pre hK hP (dk_lt (by omega)) (dE_lock (by omega)) rfl) rfl rfl hl.1 rfl (lv_room (Nat.le_of_ble_eq_true rfl)) dX3_acquire_95 ⟨Nat.le_of_ble_eq_true rfl, Nat.le_of_ble_eq_true rfl⟩) (fun H locs hP hS => ?_)
      have hok : dk_ok (lnM (up M (3 + j) 1 (M 0 2)) i (nI j) t ((up M (3 + j) 1 (M 0 2)) 0 2) ((up M (3 + j) 1 (M 0 2)) (3 + j) 3)) := ok_ln hok (by omega)
      refine lv_aload hx hb dX3_acquire_98 (lv_at hl 0 rfl) ?_
      refine wd_get (O := (dkO G)) (v := .int ((lnM (up M (3 + j) 1 (M 0 2)) i (nI j) t ((up M (3 + j) 1 (M 0 2)) 0 2) ((up M (3 + j) 1 (M 0 2)) (3 + j) 3)) (9 + i) 2)) hx hb hts hi0 hown hK hP (dk_lt (by omega)) (dE_lock (by omega)) rfl 2 (by decide) (hts (.fieldLink RX3 88 "LeaseDesk$Lock" "token" "I") (by decide +kernel)) (fun _ h9 => h9) rfl dX3_acquire_100 ?_
      exact wd_iret (O := (dkO G)) hx hb hr hlocks hK hP hS rfl dX3_acquire_103 (by have c3 : ¬ aqA M j (9 + i) 1 = nI j := c3; have c4 : ¬ freV (aqA M j) i = 0 := c4; simp only [aqV, aqM, if_neg c3, if_neg c4] <;> rfl) (by have c3 : ¬ aqA M j (9 + i) 1 = nI j := c3; have c4 : ¬ freV (aqA M j) i = 0 := c4; simp only [aqM, if_neg c3, if_neg c4] <;> rfl)
  · refine lv_aload hx hb dX3_acquire_53 (lv_at hl 0 rfl) ?_
    refine lv_iload_n hx hb dX3_acquire_55 rfl (lv_at hl 5 rfl) ?_
    refine lv_aload_n hx hb dX3_acquire_56 rfl (lv_at hl 2 rfl) ?_
    refine wd_get (O := (dkO G)) (v := .int ((up M (3 + j) 1 (M 0 2)) 0 2)) hx hb hts hi3 hown hK hP (dk_lt (by omega)) dE_0 rfl 2 (by decide) (hts (.fieldLink RX3 23 "LeaseDesk" "now" "I") (by decide +kernel)) (fun _ h9 => h9) rfl dX3_acquire_57 ?_
    refine lv_aload hx hb dX3_acquire_60 (lv_at hl 1 rfl) ?_
    refine wd_get (O := (dkO G)) (v := .int ((up M (3 + j) 1 (M 0 2)) (3 + j) 3)) hx hb hts hi2 hown hK hP (dk_lt (by omega)) (dE_ses (by omega)) rfl 3 (by decide) (hts (.fieldLink RX3 81 "LeaseDesk$Session" "clock" "I") (by decide +kernel)) (fun _ h9 => h9) rfl dX3_acquire_62 ?_
    refine wd_cv (O := (dkO G)) hS (va_runV (As := [.int t, .int ((up M (3 + j) 1 (M 0 2)) 0 2), .int ((up M (3 + j) 1 (M 0 2)) (3 + j) 3)]) (rest := []) ⟨hx, hb, hml, hown, hts⟩ (c_X0_renew (G := G) hj hok (by omega) H.size t ((up M (3 + j) 1 (M 0 2)) 0 2) ((up M (3 + j) 1 (M 0 2)) (3 + j) 3)) (cwV 3 hts gX3_acquire_X0_renew rfl rfl rfl (by decide +kernel) ⟨Nat.le_of_ble_eq_true rfl, Nat.le_of_ble_eq_true rfl⟩) (wd_pre hK hP (dk_lt (by omega)) (dE_lock (by omega)) rfl) rfl rfl hl.1 rfl (lv_room (Nat.le_of_ble_eq_true rfl)) dX3_acquire_65 ⟨Nat.le_of_ble_eq_true rfl, Nat.le_of_ble_eq_true rfl⟩) (fun H locs hP hS => ?_)
    have hok : dk_ok (rwM (up M (3 + j) 1 (M 0 2)) i t ((up M (3 + j) 1 (M 0 2)) 0 2) ((up M (3 + j) 1 (M 0 2)) (3 + j) 3)) := ok_rw hok (by omega)
    refine lv_aload hx hb dX3_acquire_68 (lv_at hl 0 rfl) ?_
    refine wd_get (O := (dkO G)) (v := .int ((rwM (up M (3 + j) 1 (M 0 2)) i t ((up M (3 + j) 1 (M 0 2)) 0 2) ((up M (3 + j) 1 (M 0 2)) (3 + j) 3)) (9 + i) 2)) hx hb hts hi0 hown hK hP (dk_lt (by omega)) (dE_lock (by omega)) rfl 2 (by decide) (hts (.fieldLink RX3 88 "LeaseDesk$Lock" "token" "I") (by decide +kernel)) (fun _ h9 => h9) rfl dX3_acquire_70 ?_
    exact wd_iret (O := (dkO G)) hx hb hr hlocks hK hP hS rfl dX3_acquire_73 (by have c3 : aqA M j (9 + i) 1 = nI j := c3; simp only [aqV, aqM, if_pos c3] <;> rfl) (by have c3 : aqA M j (9 + i) 1 = nI j := c3; simp only [aqM, if_pos c3] <;> rfl)
set_option maxRecDepth 100000 in
set_option maxHeartbeats 4000000 in
theorem c_X3_release_s {l : Launch} {G : DG} (hj : wj (dkO G)) {M : Mem} (hok : dk_ok M) {j i : Nat} (hj6 : j < 6) (hon : M (3 + j) 0 ≠ 0) (hi4 : i < 4) (hh : M (9 + i) 1 = nI j) (sz : Nat) : Met l yX3_release wsX3_release ({ frames := 3, cells := 0, slots := 0, locals := 70 }) (va_Pc [.ref (wa (dkO G) 0), .int (nI j), .int (nI i)] (wp (dkO G) sz M)) (wQv (dkO G) sz (psM M i)) 0 0 (wA (dkO G) sz) := by
  refine wd_ofW (O := (dkO G)) (M := M) (Qc := fun z => wQv (dkO G) z (psM M i)) (cc := cX3_release) (maxL := 4) (ret := none) (lv := [(0, .ref (wa (dkO G) 0)), (1, .int (nI j)), (2, .int (nI i))]) (by decide) rfl (Nat.le_of_ble_eq_true rfl) rfl ?_
  intro p e s m below meth c ls hx hb hr hml hown hts hlocks hP hK hS hl
  have hi0 : ∀ w ∈ wsX00, w ∈ wsX3_release := by decide +kernel
  refine lv_aload_n hx hb dX3_release_0 rfl (lv_at hl 0 rfl) ?_
  refine lv_iload_n hx hb dX3_release_1 rfl (lv_at hl 1 rfl) ?_
  refine wd_cqs (O := (dkO G)) hS (va_runV (As := [.int (nI j)]) (rest := []) ⟨hx, hb, hml, hown, hts⟩ (c_X3_requireSession_s (G := G) hj hok (by omega) hon s.heap.size) (cwV 1 hts gX3_release_X3_requireSession rfl rfl rfl (by decide +kernel) ⟨Nat.le_of_ble_eq_true rfl, Nat.le_of_ble_eq_true rfl⟩) (wd_pre hK hP (dk_lt (by omega)) dE_0 rfl) rfl rfl hl.1 rfl (lv_room (Nat.le_of_ble_eq_true rfl)) dX3_release_2 ⟨Nat.le_of_ble_eq_true rfl, Nat.le_of_ble_eq_true rfl⟩) (fun H locs hP hS => ?_)
  refine lv_pop hx hb dX3_release_5 rfl ?_
  refine lv_aload_n hx hb dX3_release_6 rfl (lv_at hl 0 rfl) ?_
  refine lv_iload_n hx hb dX3_release_7 rfl (lv_at hl 2 rfl) ?_
  refine wd_cqs (O := (dkO G)) hS (va_runV (As := [.int (nI i)]) (rest := []) ⟨hx, hb, hml, hown, hts⟩ (c_X3_requireLock_s (G := G) hj hok (by omega) H.size) (cwV 1 hts gX3_release_X3_requireLock rfl rfl rfl (by decide +kernel) ⟨Nat.le_of_ble_eq_true rfl, Nat.le_of_ble_eq_true rfl⟩) (wd_pre hK hP (dk_lt (by omega)) dE_0 rfl) rfl rfl hl.1 rfl (lv_room (Nat.le_of_ble_eq_true rfl)) dX3_release_8 ⟨Nat.le_of_ble_eq_true rfl, Nat.le_of_ble_eq_true rfl⟩) (fun H locs hP hS => ?_)
  refine lv_astore_n (lv' := [(3, .ref (wa (dkO G) (9 + i))), (0, .ref (wa (dkO G) 0)), (1, .int (nI j)), (2, .int (nI i))]) hx hb dX3_release_11 rfl hl (by decide) rfl (fun ls hl => ?_)
  refine lv_aload_n hx hb dX3_release_12 rfl (lv_at hl 0 rfl) ?_
  refine wd_get (O := (dkO G)) (v := .int (M (9 + i) 1)) hx hb hts hi0 hown hK hP (dk_lt (by omega)) (dE_lock (by omega)) rfl 1 (by decide) (hts (.fieldLink RX3 78 "LeaseDesk$Lock" "holder" "I") (by decide +kernel)) (fun _ h9 => h9) rfl dX3_release_13 ?_
  refine lv_iload_n hx hb dX3_release_16 rfl (lv_at hl 2 rfl) ?_
  refine lv_icmp_eq (tgt := 30) hx hb dX3_release_17 (by decide) (fun c1 => ?_) (fun c1 => absurd hh c1)
  refine lv_aload_n hx hb dX3_release_30 rfl (lv_at hl 1 rfl) ?_
  refine lv_aload_n hx hb dX3_release_31 rfl (lv_at hl 0 rfl) ?_
  refine wd_cv (O := (dkO G)) hS (va_runV (As := [.ref (wa (dkO G) (9 + i))]) (rest := []) ⟨hx, hb, hml, hown, hts⟩ (c_X3_passOn (G := G) hj hok (by omega) H.size) (cwV 1 hts gX3_release_X3_passOn rfl rfl rfl (by decide +kernel) ⟨Nat.le_of_ble_eq_true rfl, Nat.le_of_ble_eq_true rfl⟩) (wd_pre hK hP (dk_lt (by omega)) dE_0 rfl) rfl rfl hl.1 rfl (lv_room (Nat.le_of_ble_eq_true rfl)) dX3_release_32 ⟨Nat.le_of_ble_eq_true rfl, Nat.le_of_ble_eq_true rfl⟩) (fun H locs hP hS => ?_)
  have hok : dk_ok (psM M i) := ok_ps hok (by omega)
  exact wd_vret (O := (dkO G)) hx hb hr hlocks hK hP hS dX3_release_35 (rfl)
set_option maxRecDepth 100000 in
set_option maxHeartbeats 4000000 in
theorem c_X3_open_n {l : Launch} (hst : l.stackTraces = false) {G : DG} (hj : wj (dkO G)) {M : Mem} (hok : dk_ok M) (sz : Nat) (ho : fo M 6 0 = none) : vx_Met l yX3_open wsX3_open ({ frames := 6, cells := 1, slots := 6, locals := 82 }) (va_Pc [.ref (wa (dkO G) 0)] (wpx (dkO G) sz M)) xQ (xX (dkO G) sz eISE M) 1 6 (wA (dkO G) sz) := by
  refine wx_ofW (O := (dkO G)) (M := M) (M' := M) (E0 := eISE) (cc := cX3_open) (maxL := 2) (ret := (some .int)) (lv := [(0, .ref (wa (dkO G) 0))]) (by decide) rfl (Nat.le_of_ble_eq_true rfl) rfl ?_
  intro p e s m below meth c ls hx hb hr hml hown hts hlocks hP hK hS hl htab hE
  have hi2 : ∀ w ∈ wsX20, w ∈ wsX3_open := by decide +kernel
  have hi3 : ∀ w ∈ wsX30, w ∈ wsX3_open := by decide +kernel
  refine lv_iconst (v := 0) hx hb dX3_open_0 (by decide) ?_
  refine lv_istore_n (lv' := [(1, .int 0), (0, .ref (wa (dkO G) 0))]) hx hb dX3_open_1 rfl hl (by decide) rfl (fun ls hl => ?_)
  refine wl_loop (pc := 2) (fun k j N v ls H locs => (j + k = 6) ∧ (fo M k j = none) ∧ va_P (wD (dkO G)) vwCl (wd (dkO G) M) H ∧ va_S (wA (dkO G) s.heap.size) s.heap H locs ∧ lv_has ls 2 [(1, .int (nI j)), (0, .ref (wa (dkO G) 0))]) ?_ ?_ 6 0 M 0 ⟨by omega, ho, hP, hS, lv_sub hl [0, 1] rfl⟩
  · rintro j N v ls H locs ⟨h1, h2, hP, hS, hl⟩
    refine lv_iload_n hx hb dX3_open_2 rfl (lv_at hl 0 rfl) ?_
    refine lv_bipush (v := 6) hx hb dX3_open_3 (by decide) ?_
    refine lv_icmp_ge (tgt := 41) hx hb dX3_open_5 (by decide) (fun c1 => ?_) (fun c1 => absurd (show nI 6 ≤ nI j from nI_le (by omega) (by omega)) c1)
    have hs := hE.2.2
    obtain ⟨sa, hsa⟩ := hs.1
    exact vx_throwS (own := RX3) (cls := "java/lang/IllegalStateException") (text := "no slot is free") (names := eNm) hx hb hst hown (by decide +kernel) (by decide +kernel) (hts (.classLink RX3 35 "java/lang/IllegalStateException") (by decide +kernel)) (hts (.initialized "java/lang/IllegalStateException") (by decide +kernel)) hsa (vx_hat (B := xB) (fun w h => hts w ((by decide +kernel : ∀ w ∈ (vx_atS RX3 39 "java/lang/IllegalStateException" eNm).filter goodWord, w ∈ wsX3_open) w h)) (by decide +kernel) (fun w h => va_Nw.use (xB_face w h).2 (hs.2.2.2.2.2.1 w h))) (by decide +kernel) hE.1 hE.2.1 hS (hl.1.trans hml.symm) dX3_open_41 dX3_open_44 dX3_open_45 dX3_open_47 dX3_open_50 (fun x h => absurd h (fun h => htab x h)) (Nat.le_of_ble_eq_true rfl) (Nat.le_of_ble_eq_true rfl) (Nat.le_of_ble_eq_true rfl) (Nat.le_of_ble_eq_true rfl) hlocks (xX_of hP hK hS) hS.2.2 (Nat.le_of_ble_eq_true rfl) (Nat.le_of_ble_eq_true rfl)
  · rintro k j N v ls H locs ih ⟨h1, h2, hP, hS, hl⟩
    refine lv_iload_n hx hb dX3_open_2 rfl (lv_at hl 0 rfl) ?_
    refine lv_bipush (v := 6) hx hb dX3_open_3 (by decide) ?_
    refine lv_icmp_ge (tgt := 41) hx hb dX3_open_5 (by decide) (fun c2 => absurd c2 (show ¬ nI 6 ≤ nI j from nI_ge (by omega) (by omega))) (fun c2 => ?_)
    refine lv_aload_n hx hb dX3_open_8 rfl (lv_at hl 1 rfl) ?_
    refine wd_get (O := (dkO G)) (v := .ref (wa (dkO G) 1)) hx hb hts hi3 hown hK hP (dk_lt (by omega)) dE_0 rfl 0 (by decide) (hts (.fieldLink RX3 11 "LeaseDesk" "sessions" "[LLeaseDesk$Session;") (by decide +kernel)) (fun _ h9 => h9) rfl dX3_open_9 ?_
    refine lv_iload_n hx hb dX3_open_12 rfl (lv_at hl 0 rfl) ?_
    refine wd_aald (O := (dkO G)) (b := wa (dkO G) (3 + j)) hx hb hK hP (dk_lt (by omega)) 1 dE_1 rfl (i := j) rfl (by omega) (by decide) (if_pos (by omega)) dX3_open_13 ?_
    refine wd_get (O := (dkO G)) (v := .int (M (3 + j) 0)) hx hb hts hi2 hown hK hP (dk_lt (by omega)) (dE_ses (by omega)) rfl 0 (by decide) (hts (.fieldLink RX3 27 "LeaseDesk$Session" "isOpen" "Z") (by decide +kernel)) (fun _ h9 => h9) rfl dX3_open_14 ?_
    refine lv_if_ne (tgt := 35) hx hb dX3_open_17 (by decide) (fun c3 => ?_) (fun c3 => ?_)
    · refine lv_iinc (v := nI (j + 1)) (lv' := [(1, .int (nI (j + 1))), (0, .ref (wa (dkO G) 0))]) hx hb dX3_open_35 hl (k := 0) rfl (nI_1 j) (by decide) rfl (fun ls hl => ?_)
      refine lv_goto (tgt := 2) hx hb dX3_open_38 (by decide) ?_
      exact ih (j + 1) N v ls H locs ⟨by omega, by rw [← h2]; simp only [fo, if_neg c3], hP, hS, lv_sub hl [0, 1] rfl⟩
    · exact absurd h2 (by simp [fo, c3])
set_option maxRecDepth 100000 in
set_option maxHeartbeats 4000000 in
theorem c_X3_requireSession_n {l : Launch} (hst : l.stackTraces = false) {G : DG} (hj : wj (dkO G)) {M : Mem} (hok : dk_ok M) (sz : Nat) (x : Int32) (ho : osV M x = none) : vx_Met l yX3_requireSession wsX3_requireSession ({ frames := 6, cells := 1, slots := 6, locals := 82 }) (va_Pc [.ref (wa (dkO G) 0), .int x] (wpx (dkO G) sz M)) xQ (xX (dkO G) sz eNSE M) 1 6 (wA (dkO G) sz) := by
  refine wx_ofW (O := (dkO G)) (M := M) (M' := M) (E0 := eNSE) (cc := cX3_requireSession) (maxL := 3) (ret := (some (.object "LeaseDesk$Session"))) (lv := [(0, .ref (wa (dkO G) 0)), (1, .int x)]) (by decide) rfl (Nat.le_of_ble_eq_true rfl) rfl ?_
  intro p e s m below meth c ls hx hb hr hml hown hts hlocks hP hK hS hl htab hE
  refine lv_aload_n hx hb dX3_requireSession_0 rfl (lv_at hl 0 rfl) ?_
  refine lv_iload_n hx hb dX3_requireSession_1 rfl (lv_at hl 1 rfl) ?_
  refine wd_cqn (O := (dkO G)) hS (va_runV (As := [.int x]) (rest := []) ⟨hx, hb, hml, hown, hts⟩ (c_X3_openSession_n (G := G) hj hok s.heap.size x ho) (cwV 1 hts gX3_requireSession_X3_openSession rfl rfl rfl (by decide +kernel) ⟨Nat.le_of_ble_eq_true rfl, Nat.le_of_ble_eq_true rfl⟩) (wd_pre hK hP (dk_lt (by omega)) dE_0 rfl) rfl rfl hl.1 rfl (lv_room (Nat.le_of_ble_eq_true rfl)) dX3_requireSession_2 ⟨Nat.le_of_ble_eq_true rfl, Nat.le_of_ble_eq_true rfl⟩) (fun H locs hP hS => ?_)
  refine lv_astore_nN (lv' := [(2, .null), (0, .ref (wa (dkO G) 0)), (1, .int x)]) hx hb dX3_requireSession_5 rfl hl (by decide) rfl (fun ls hl => ?_)
  refine lv_aload_nN hx hb dX3_requireSession_6 rfl (lv_at hl 0 rfl) ?_
  refine lv_ifnonnullN hx hb dX3_requireSession_7 ?_
  have hs := hE.2.2
  obtain ⟨sa, hsa⟩ := hs.2.2.2.1
  exact nse_throw (own := RX3) (cls := "java/util/NoSuchElementException") (text := "the session is not open") (names := eNm) (ix := 13) (rx := prog_13_method_4_code) hx hb hst (by decide +kernel) (by decide +kernel) (by decide +kernel) (by decide +kernel) hown (by decide +kernel) (by decide +kernel) (hts (.classLink RX3 141 "java/util/NoSuchElementException") (by decide +kernel)) (hts (.initialized "java/util/NoSuchElementException") (by decide +kernel)) hsa (vx_hat (B := xB) (fun w h => hts w ((by decide +kernel : ∀ w ∈ (nse_at).filter goodWord, w ∈ wsX3_requireSession) w h)) (by decide +kernel) (fun w h => va_Nw.use (xB_face w h).2 (hs.2.2.2.2.2.1 w h))) (by decide +kernel) hE.1 hE.2.1 hS (hl.1.trans hml.symm) dX3_requireSession_10 dX3_requireSession_13 dX3_requireSession_14 dX3_requireSession_16 dX3_requireSession_19 (fun x h => absurd h (fun h => htab x h)) (Nat.le_of_ble_eq_true rfl) (Nat.le_of_ble_eq_true rfl) (Nat.le_of_ble_eq_true rfl) (Nat.le_of_ble_eq_true rfl) hlocks (xX_of hP hK hS) hS.2.2 (Nat.le_of_ble_eq_true rfl) (Nat.le_of_ble_eq_true rfl)
set_option maxRecDepth 100000 in
set_option maxHeartbeats 4000000 in
theorem c_X3_requireLock_n {l : Launch} (hst : l.stackTraces = false) {G : DG} (hj : wj (dkO G)) {M : Mem} (hok : dk_ok M) (sz : Nat) (x : Int32) (hd : dN x 4 = none) : vx_Met l yX3_requireLock wsX3_requireLock ({ frames := 6, cells := 1, slots := 6, locals := 82 }) (va_Pc [.ref (wa (dkO G) 0), .int x] (wpx (dkO G) sz M)) xQ (xX (dkO G) sz eIAE M) 1 6 (wA (dkO G) sz) := by
  refine wx_ofW (O := (dkO G)) (M := M) (M' := M) (E0 := eIAE) (cc := cX3_requireLock) (maxL := 3) (ret := (some (.object "LeaseDesk$Lock"))) (lv := [(0, .ref (wa (dkO G) 0)), (1, .int x)]) (by decide) rfl (Nat.le_of_ble_eq_true rfl) rfl ?_
  intro p e s m below meth c ls hx hb hr hml hown hts hlocks hP hK hS hl htab hE
  refine lv_aload_n hx hb dX3_requireLock_0 rfl (lv_at hl 0 rfl) ?_
  refine lv_iload_n hx hb dX3_requireLock_1 rfl (lv_at hl 1 rfl) ?_
  refine wd_cqn (O := (dkO G)) hS (va_runV (As := [.int x]) (rest := []) ⟨hx, hb, hml, hown, hts⟩ (c_X3_knownLock_n (G := G) hj hok s.heap.size x hd) (cwV 1 hts gX3_requireLock_X3_knownLock rfl rfl rfl (by decide +kernel) ⟨Nat.le_of_ble_eq_true rfl, Nat.le_of_ble_eq_true rfl⟩) (wd_pre hK hP (dk_lt (by omega)) dE_0 rfl) rfl rfl hl.1 rfl (lv_room (Nat.le_of_ble_eq_true rfl)) dX3_requireLock_2 ⟨Nat.le_of_ble_eq_true rfl, Nat.le_of_ble_eq_true rfl⟩) (fun H locs hP hS => ?_)
  refine lv_astore_nN (lv' := [(2, .null), (0, .ref (wa (dkO G) 0)), (1, .int x)]) hx hb dX3_requireLock_5 rfl hl (by decide) rfl (fun ls hl => ?_)
  refine lv_aload_nN hx hb dX3_requireLock_6 rfl (lv_at hl 0 rfl) ?_
  refine lv_ifnonnullN hx hb dX3_requireLock_7 ?_
  have hs := hE.2.2
  obtain ⟨sa, hsa⟩ := hs.2.2.2.2.1
  exact vx_throwS (own := RX3) (cls := "java/lang/IllegalArgumentException") (text := "there is no such lock") (names := eNm) hx hb hst hown (by decide +kernel) (by decide +kernel) (hts (.classLink RX3 73 "java/lang/IllegalArgumentException") (by decide +kernel)) (hts (.initialized "java/lang/IllegalArgumentException") (by decide +kernel)) hsa (vx_hat (B := xB) (fun w h => hts w ((by decide +kernel : ∀ w ∈ (vx_atS RX3 77 "java/lang/IllegalArgumentException" eNm).filter goodWord, w ∈ wsX3_requireLock) w h)) (by decide +kernel) (fun w h => va_Nw.use (xB_face w h).2 (hs.2.2.2.2.2.1 w h))) (by decide +kernel) hE.1 hE.2.1 hS (hl.1.trans hml.symm) dX3_requireLock_10 dX3_requireLock_13 dX3_requireLock_14 dX3_requireLock_16 dX3_requireLock_19 (fun x h => absurd h (fun h => htab x h)) (Nat.le_of_ble_eq_true rfl) (Nat.le_of_ble_eq_true rfl) (Nat.le_of_ble_eq_true rfl) (Nat.le_of_ble_eq_true rfl) hlocks (xX_of hP hK hS) hS.2.2 (Nat.le_of_ble_eq_true rfl) (Nat.le_of_ble_eq_true rfl)
set_option maxRecDepth 100000 in
set_option maxHeartbeats 4000000 in
theorem c_X3_close_n {l : Launch} (hst : l.stackTraces = false) {G : DG} (hj : wj (dkO G)) {M : Mem} (hok : dk_ok M) (sz : Nat) (x : Int32) (ho : osV M x = none) : vx_Met l yX3_close wsX3_close ({ frames := 7, cells := 1, slots := 6, locals := 104 }) (va_Pc [.ref (wa (dkO G) 0), .int x] (wpx (dkO G) sz M)) xQ (xX (dkO G) sz eNSE M) 1 6 (wA (dkO G) sz) := by
  refine wx_ofW (O := (dkO G)) (M := M) (M' := M) (E0 := eNSE) (cc := cX3_close) (maxL := 2) (ret := (some .int)) (lv := [(0, .ref (wa (dkO G) 0)), (1, .int x)]) (by decide) rfl (Nat.le_of_ble_eq_true rfl) rfl ?_
  intro p e s m below meth c ls hx hb hr hml hown hts hlocks hP hK hS hl htab hE
  refine lv_aload_n hx hb dX3_close_0 rfl (lv_at hl 0 rfl) ?_
  refine lv_aload_n hx hb dX3_close_1 rfl (lv_at hl 0 rfl) ?_
  refine lv_iload_n hx hb dX3_close_2 rfl (lv_at hl 1 rfl) ?_
  refine wx_call (O := (dkO G)) hS (vx_runV (As := [.int x]) (rest := [.ref (wa (dkO G) 0)]) ⟨hx, hb, hml, hown, hts⟩ (c_X3_requireSession_n hst (G := G) hj hok s.heap.size x ho) (cwV 1 hts gX3_close_X3_requireSession rfl rfl rfl (by decide +kernel) ⟨Nat.le_of_ble_eq_true rfl, Nat.le_of_ble_eq_true rfl⟩) (wx_pre hK hP hS hE (dk_lt (by omega)) dE_0 rfl) rfl rfl hl.1 rfl (lv_room (Nat.le_of_ble_eq_true rfl)) dX3_close_3 ⟨Nat.le_of_ble_eq_true rfl, Nat.le_of_ble_eq_true rfl⟩) (fun q ce H1 locs1 hP1 hS1 hce hcv hcl => ?_)
  exact vx_out (fun x h => absurd h (fun h => htab x h)) hlocks hce hcv hcl (xX_out hP1 hK hS1) hS1.2.2 (Nat.le_of_ble_eq_true rfl) (Nat.le_of_ble_eq_true rfl)
set_option maxRecDepth 100000 in
set_option maxHeartbeats 4000000 in
theorem c_X3_keep_n {l : Launch} (hst : l.stackTraces = false) {G : DG} (hj : wj (dkO G)) {M : Mem} (hok : dk_ok M) (sz : Nat) (x : Int32) (ho : osV M x = none) : vx_Met l yX3_keep wsX3_keep ({ frames := 7, cells := 1, slots := 6, locals := 104 }) (va_Pc [.ref (wa (dkO G) 0), .int x] (wpx (dkO G) sz M)) xQ (xX (dkO G) sz eNSE M) 1 6 (wA (dkO G) sz) := by
  refine wx_ofW (O := (dkO G)) (M := M) (M' := M) (E0 := eNSE) (cc := cX3_keep) (maxL := 2) (ret := none) (lv := [(0, .ref (wa (dkO G) 0)), (1, .int x)]) (by decide) rfl (Nat.le_of_ble_eq_true rfl) rfl ?_
  intro p e s m below meth c ls hx hb hr hml hown hts hlocks hP hK hS hl htab hE
  refine lv_aload_n hx hb dX3_keep_0 rfl (lv_at hl 0 rfl) ?_
  refine lv_iload_n hx hb dX3_keep_1 rfl (lv_at hl 1 rfl) ?_
  refine wx_call (O := (dkO G)) hS (vx_runV (As := [.int x]) (rest := []) ⟨hx, hb, hml, hown, hts⟩ (c_X3_requireSession_n hst (G := G) hj hok s.heap.size x ho) (cwV 1 hts gX3_keep_X3_requireSession rfl rfl rfl (by decide +kernel) ⟨Nat.le_of_ble_eq_true rfl, Nat.le_of_ble_eq_true rfl⟩) (wx_pre hK hP hS hE (dk_lt (by omega)) dE_0 rfl) rfl rfl hl.1 rfl (lv_room (Nat.le_of_ble_eq_true rfl)) dX3_keep_2 ⟨Nat.le_of_ble_eq_true rfl, Nat.le_of_ble_eq_true rfl⟩) (fun q ce H1 locs1 hP1 hS1 hce hcv hcl => ?_)
  exact vx_out (fun x h => absurd h (fun h => htab x h)) hlocks hce hcv hcl (xX_out hP1 hK hS1) hS1.2.2 (Nat.le_of_ble_eq_true rfl) (Nat.le_of_ble_eq_true rfl)
set_option maxRecDepth 100000 in
set_option maxHeartbeats 4000000 in
theorem c_X3_acquire_n1 {l : Launch} (hst : l.stackTraces = false) {G : DG} (hj : wj (dkO G)) {M : Mem} (hok : dk_ok M) (sz : Nat) (x y t : Int32) (ho : osV M x = none) : vx_Met l yX3_acquire wsX3_acquire ({ frames := 7, cells := 1, slots := 6, locals := 104 }) (va_Pc [.ref (wa (dkO G) 0), .int x, .int y, .int t] (wpx (dkO G) sz M)) xQ (xX (dkO G) sz eNSE M) 1 6 (wA (dkO G) sz) := by
  refine wx_ofW (O := (dkO G)) (M := M) (M' := M) (E0 := eNSE) (cc := cX3_acquire) (maxL := 6) (ret := (some .int)) (lv := [(0, .ref (wa (dkO G) 0)), (1, .int x), (2, .int y), (3, .int t)]) (by decide) rfl (Nat.le_of_ble_eq_true rfl) rfl ?_
  intro p e s m below meth c ls hx hb hr hml hown hts hlocks hP hK hS hl htab hE
  refine lv_aload_n hx hb dX3_acquire_0 rfl (lv_at hl 0 rfl) ?_
  refine lv_iload_n hx hb dX3_acquire_1 rfl (lv_at hl 1 rfl) ?_
  refine wx_call (O := (dkO G)) hS (vx_runV (As := [.int x]) (rest := []) ⟨hx, hb, hml, hown, hts⟩ (c_X3_requireSession_n hst (G := G) hj hok s.heap.size x ho) (cwV 1 hts gX3_acquire_X3_requireSession rfl rfl rfl (by decide +kernel) ⟨Nat.le_of_ble_eq_true rfl, Nat.le_of_ble_eq_true rfl⟩) (wx_pre hK hP hS hE (dk_lt (by omega)) dE_0 rfl) rfl rfl hl.1 rfl (lv_room (Nat.le_of_ble_eq_true rfl)) dX3_acquire_2 ⟨Nat.le_of_ble_eq_true rfl, Nat.le_of_ble_eq_true rfl⟩) (fun q ce H1 locs1 hP1 hS1 hce hcv hcl => ?_)
  exact vx_out (fun x h => absurd h (fun h => htab x h)) hlocks hce hcv hcl (xX_out hP1 hK hS1) hS1.2.2 (Nat.le_of_ble_eq_true rfl) (Nat.le_of_ble_eq_true rfl)
set_option maxRecDepth 100000 in
set_option maxHeartbeats 4000000 in
theorem c_X3_acquire_n2 {l : Launch} (hst : l.stackTraces = false) {G : DG} (hj : wj (dkO G)) {M : Mem} (hok : dk_ok M) {j : Nat} (hj6 : j < 6) (hon : M (3 + j) 0 ≠ 0) (sz : Nat) (y t : Int32) (hd : dN y 4 = none) : vx_Met l yX3_acquire wsX3_acquire ({ frames := 7, cells := 1, slots := 6, locals := 104 }) (va_Pc [.ref (wa (dkO G) 0), .int (nI j), .int y, .int t] (wpx (dkO G) sz M)) xQ (xX (dkO G) sz eIAE M) 1 6 (wA (dkO G) sz) := by
  refine wx_ofW (O := (dkO G)) (M := M) (M' := M) (E0 := eIAE) (cc := cX3_acquire) (maxL := 6) (ret := (some .int)) (lv := [(0, .ref (wa (dkO G) 0)), (1, .int (nI j)), (2, .int y), (3, .int t)]) (by decide) rfl (Nat.le_of_ble_eq_true rfl) rfl ?_
  intro p e s m below meth c ls hx hb hr hml hown hts hlocks hP hK hS hl htab hE
  refine lv_aload_n hx hb dX3_acquire_0 rfl (lv_at hl 0 rfl) ?_
  refine lv_iload_n hx hb dX3_acquire_1 rfl (lv_at hl 1 rfl) ?_
  refine wd_cqs (O := (dkO G)) hS (va_runV (As := [.int (nI j)]) (rest := []) ⟨hx, hb, hml, hown, hts⟩ (c_X3_requireSession_s (G := G) hj hok (by omega) hon s.heap.size) (cwV 1 hts gX3_acquire_X3_requireSession rfl rfl rfl (by decide +kernel) ⟨Nat.le_of_ble_eq_true rfl, Nat.le_of_ble_eq_true rfl⟩) (wd_pre hK hP (dk_lt (by omega)) dE_0 rfl) rfl rfl hl.1 rfl (lv_room (Nat.le_of_ble_eq_true rfl)) dX3_acquire_2 ⟨Nat.le_of_ble_eq_true rfl, Nat.le_of_ble_eq_true rfl⟩) (fun H locs hP hS => ?_)
  refine lv_astore (lv' := [(4, .ref (wa (dkO G) (3 + j))), (0, .ref (wa (dkO G) 0)), (1, .int (nI j)), (2, .int y), (3, .int t)]) hx hb dX3_acquire_5 hl (by decide) rfl (fun ls hl => ?_)
  refine lv_aload_n hx hb dX3_acquire_7 rfl (lv_at hl 1 rfl) ?_
  refine lv_iload_n hx hb dX3_acquire_8 rfl (lv_at hl 3 rfl) ?_
  refine wx_call (O := (dkO G)) hS (vx_runV (As := [.int y]) (rest := []) ⟨hx, hb, hml, hown, hts⟩ (c_X3_requireLock_n hst (G := G) hj hok H.size y hd) (cwV 1 hts gX3_acquire_X3_requireLock rfl rfl rfl (by decide +kernel) ⟨Nat.le_of_ble_eq_true rfl, Nat.le_of_ble_eq_true rfl⟩) (wx_pre hK hP hS hE (dk_lt (by omega)) dE_0 rfl) rfl rfl hl.1 rfl (lv_room (Nat.le_of_ble_eq_true rfl)) dX3_acquire_9 ⟨Nat.le_of_ble_eq_true rfl, Nat.le_of_ble_eq_true rfl⟩) (fun q ce H1 locs1 hP1 hS1 hce hcv hcl => ?_)
  exact vx_out (fun x h => absurd h (fun h => htab x h)) hlocks hce hcv hcl (xX_out hP1 hK hS1) hS1.2.2 (Nat.le_of_ble_eq_true rfl) (Nat.le_of_ble_eq_true rfl)
set_option maxRecDepth 100000 in
set_option maxHeartbeats 4000000 in
theorem c_X3_acquire_n3 {l : Launch} (hst : l.stackTraces = false) {G : DG} (hj : wj (dkO G)) {M : Mem} (hok : dk_ok M) {j i : Nat} (hj6 : j < 6) (hon : M (3 + j) 0 ≠ 0) (hi4 : i < 4) (t : Int32) (ht : ¬ (¬ t < 1 ∧ t ≤ 100)) (sz : Nat) : vx_Met l yX3_acquire wsX3_acquire ({ frames := 6, cells := 1, slots := 6, locals := 82 }) (va_Pc [.ref (wa (dkO G) 0), .int (nI j), .int (nI i), .int t] (wpx (dkO G) sz M)) xQ (xX (dkO G) sz eIAE M) 1 6 (wA (dkO G) sz) := by
  refine wx_ofW (O := (dkO G)) (M := M) (M' := M) (E0 := eIAE) (cc := cX3_acquire) (maxL := 6) (ret := (some .int)) (lv := [(0, .ref (wa (dkO G) 0)), (1, .int (nI j)), (2, .int (nI i)), (3, .int t)]) (by decide) rfl (Nat.le_of_ble_eq_true rfl) rfl ?_
  intro p e s m below meth c ls hx hb hr hml hown hts hlocks hP hK hS hl htab hE
  refine lv_aload_n hx hb dX3_acquire_0 rfl (lv_at hl 0 rfl) ?_
  refine lv_iload_n hx hb dX3_acquire_1 rfl (lv_at hl 1 rfl) ?_
  refine wd_cqs (O := (dkO G)) hS (va_runV (As := [.int (nI j)]) (rest := []) ⟨hx, hb, hml, hown, hts⟩ (c_X3_requireSession_s (G := G) hj hok (by omega) hon s.heap.size) (cwV 1 hts gX3_acquire_X3_requireSession rfl rfl rfl (by decide +kernel) ⟨Nat.le_of_ble_eq_true rfl, Nat.le_of_ble_eq_true rfl⟩) (wd_pre hK hP (dk_lt (by omega)) dE_0 rfl) rfl rfl hl.1 rfl (lv_room (Nat.le_of_ble_eq_true rfl)) dX3_acquire_2 ⟨Nat.le_of_ble_eq_true rfl, Nat.le_of_ble_eq_true rfl⟩) (fun H locs hP hS => ?_)
  refine lv_astore (lv' := [(4, .ref (wa (dkO G) (3 + j))), (0, .ref (wa (dkO G) 0)), (1, .int (nI j)), (2, .int (nI i)), (3, .int t)]) hx hb dX3_acquire_5 hl (by decide) rfl (fun ls hl => ?_)
  refine lv_aload_n hx hb dX3_acquire_7 rfl (lv_at hl 1 rfl) ?_
  refine lv_iload_n hx hb dX3_acquire_8 rfl (lv_at hl 3 rfl) ?_
  refine wd_cqs (O := (dkO G)) hS (va_runV (As := [.int (nI i)]) (rest := []) ⟨hx, hb, hml, hown, hts⟩ (c_X3_requireLock_s (G := G) hj hok (by omega) H.size) (cwV 1 hts gX3_acquire_X3_requireLock rfl rfl rfl (by decide +kernel) ⟨Nat.le_of_ble_eq_true rfl, Nat.le_of_ble_eq_true rfl⟩) (wd_pre hK hP (dk_lt (by omega)) dE_0 rfl) rfl rfl hl.1 rfl (lv_room (Nat.le_of_ble_eq_true rfl)) dX3_acquire_9 ⟨Nat.le_of_ble_eq_true rfl, Nat.le_of_ble_eq_true rfl⟩) (fun H locs hP hS => ?_)
  refine lv_astore (lv' := [(5, .ref (wa (dkO G) (9 + i))), (4, .ref (wa (dkO G) (3 + j))), (0, .ref (wa (dkO G) 0)), (1, .int (nI j)), (2, .int (nI i)), (3, .int t)]) hx hb dX3_acquire_12 hl (by decide) rfl (fun ls hl => ?_)
  refine lv_iload_n hx hb dX3_acquire_14 rfl (lv_at hl 5 rfl) ?_
  refine lv_iconst (v := 1) hx hb dX3_acquire_15 (by decide) ?_
  refine lv_icmp_lt (tgt := 25) hx hb dX3_acquire_16 (by decide) (fun c1 => ?_) (fun c1 => ?_)
  · have hs := hE.2.2
    obtain ⟨sa, hsa⟩ := hs.2.1
    exact vx_throwS (own := RX3) (cls := "java/lang/IllegalArgumentException") (text := "the term is not 1 to 100") (names := eNm) hx hb hst hown (by decide +kernel) (by decide +kernel) (hts (.classLink RX3 73 "java/lang/IllegalArgumentException") (by decide +kernel)) (hts (.initialized "java/lang/IllegalArgumentException") (by decide +kernel)) hsa (vx_hat (B := xB) (fun w h => hts w ((by decide +kernel : ∀ w ∈ (vx_atS RX3 77 "java/lang/IllegalArgumentException" eNm).filter goodWord, w ∈ wsX3_acquire) w h)) (by decide +kernel) (fun w h => va_Nw.use (xB_face w h).2 (hs.2.2.2.2.2.1 w h))) (by decide +kernel) hE.1 hE.2.1 hS (hl.1.trans hml.symm) dX3_acquire_25 dX3_acquire_28 dX3_acquire_29 dX3_acquire_31 dX3_acquire_34 (fun x h => absurd h (fun h => htab x h)) (Nat.le_of_ble_eq_true rfl) (Nat.le_of_ble_eq_true rfl) (Nat.le_of_ble_eq_true rfl) (Nat.le_of_ble_eq_true rfl) hlocks (xX_of hP hK hS) hS.2.2 (Nat.le_of_ble_eq_true rfl) (Nat.le_of_ble_eq_true rfl)
  · refine lv_iload_n hx hb dX3_acquire_19 rfl (lv_at hl 5 rfl) ?_
    refine lv_bipush (v := 100) hx hb dX3_acquire_20 (by decide) ?_
    refine lv_icmp_le (tgt := 35) hx hb dX3_acquire_22 (by decide) (fun c2 => absurd c2 (fun h9 => ht ⟨c1, h9⟩)) (fun c2 => ?_)
    have hs := hE.2.2
    obtain ⟨sa, hsa⟩ := hs.2.1
    exact vx_throwS (own := RX3) (cls := "java/lang/IllegalArgumentException") (text := "the term is not 1 to 100") (names := eNm) hx hb hst hown (by decide +kernel) (by decide +kernel) (hts (.classLink RX3 73 "java/lang/IllegalArgumentException") (by decide +kernel)) (hts (.initialized "java/lang/IllegalArgumentException") (by decide +kernel)) hsa (vx_hat (B := xB) (fun w h => hts w ((by decide +kernel : ∀ w ∈ (vx_atS RX3 77 "java/lang/IllegalArgumentException" eNm).filter goodWord, w ∈ wsX3_acquire) w h)) (by decide +kernel) (fun w h => va_Nw.use (xB_face w h).2 (hs.2.2.2.2.2.1 w h))) (by decide +kernel) hE.1 hE.2.1 hS (hl.1.trans hml.symm) dX3_acquire_25 dX3_acquire_28 dX3_acquire_29 dX3_acquire_31 dX3_acquire_34 (fun x h => absurd h (fun h => htab x h)) (Nat.le_of_ble_eq_true rfl) (Nat.le_of_ble_eq_true rfl) (Nat.le_of_ble_eq_true rfl) (Nat.le_of_ble_eq_true rfl) hlocks (xX_of hP hK hS) hS.2.2 (Nat.le_of_ble_eq_true rfl) (Nat.le_of_ble_eq_true rfl)
set_option maxRecDepth 100000 in
set_option maxHeartbeats 4000000 in
theorem c_X3_release_n1 {l : Launch} (hst : l.stackTraces = false) {G : DG} (hj : wj (dkO G)) {M : Mem} (hok : dk_ok M) (sz : Nat) (x y : Int32) (ho : osV M x = none) : vx_Met l yX3_release wsX3_release ({ frames := 7, cells := 1, slots := 6, locals := 104 }) (va_Pc [.ref (wa (dkO G) 0), .int x, .int y] (wpx (dkO G) sz M)) xQ (xX (dkO G) sz eNSE M) 1 6 (wA (dkO G) sz) := by
  refine wx_ofW (O := (dkO G)) (M := M) (M' := M) (E0 := eNSE) (cc := cX3_release) (maxL := 4) (ret := none) (lv := [(0, .ref (wa (dkO G) 0)), (1, .int x), (2, .int y)]) (by decide) rfl (Nat.le_of_ble_eq_true rfl) rfl ?_
  intro p e s m below meth c ls hx hb hr hml hown hts hlocks hP hK hS hl htab hE
  refine lv_aload_n hx hb dX3_release_0 rfl (lv_at hl 0 rfl) ?_
  refine lv_iload_n hx hb dX3_release_1 rfl (lv_at hl 1 rfl) ?_
  refine wx_call (O := (dkO G)) hS (vx_runV (As := [.int x]) (rest := []) ⟨hx, hb, hml, hown, hts⟩ (c_X3_requireSession_n hst (G := G) hj hok s.heap.size x ho) (cwV 1 hts gX3_release_X3_requireSession rfl rfl rfl (by decide +kernel) ⟨Nat.le_of_ble_eq_true rfl, Nat.le_of_ble_eq_true rfl⟩) (wx_pre hK hP hS hE (dk_lt (by omega)) dE_0 rfl) rfl rfl hl.1 rfl (lv_room (Nat.le_of_ble_eq_true rfl)) dX3_release_2 ⟨Nat.le_of_ble_eq_true rfl, Nat.le_of_ble_eq_true rfl⟩) (fun q ce H1 locs1 hP1 hS1 hce hcv hcl => ?_)
  exact vx_out (fun x h => absurd h (fun h => htab x h)) hlocks hce hcv hcl (xX_out hP1 hK hS1) hS1.2.2 (Nat.le_of_ble_eq_true rfl) (Nat.le_of_ble_eq_true rfl)
set_option maxRecDepth 100000 in
set_option maxHeartbeats 4000000 in
theorem c_X3_release_n2 {l : Launch} (hst : l.stackTraces = false) {G : DG} (hj : wj (dkO G)) {M : Mem} (hok : dk_ok M) {j : Nat} (hj6 : j < 6) (hon : M (3 + j) 0 ≠ 0) (sz : Nat) (y : Int32) (hd : dN y 4 = none) : vx_Met l yX3_release wsX3_release ({ frames := 7, cells := 1, slots := 6, locals := 104 }) (va_Pc [.ref (wa (dkO G) 0), .int (nI j), .int y] (wpx (dkO G) sz M)) xQ (xX (dkO G) sz eIAE M) 1 6 (wA (dkO G) sz) := by
  refine wx_ofW (O := (dkO G)) (M := M) (M' := M) (E0 := eIAE) (cc := cX3_release) (maxL := 4) (ret := none) (lv := [(0, .ref (wa (dkO G) 0)), (1, .int (nI j)), (2, .int y)]) (by decide) rfl (Nat.le_of_ble_eq_true rfl) rfl ?_
  intro p e s m below meth c ls hx hb hr hml hown hts hlocks hP hK hS hl htab hE
  refine lv_aload_n hx hb dX3_release_0 rfl (lv_at hl 0 rfl) ?_
  refine lv_iload_n hx hb dX3_release_1 rfl (lv_at hl 1 rfl) ?_
  refine wd_cqs (O := (dkO G)) hS (va_runV (As := [.int (nI j)]) (rest := []) ⟨hx, hb, hml, hown, hts⟩ (c_X3_requireSession_s (G := G) hj hok (by omega) hon s.heap.size) (cwV 1 hts gX3_release_X3_requireSession rfl rfl rfl (by decide +kernel) ⟨Nat.le_of_ble_eq_true rfl, Nat.le_of_ble_eq_true rfl⟩) (wd_pre hK hP (dk_lt (by omega)) dE_0 rfl) rfl rfl hl.1 rfl (lv_room (Nat.le_of_ble_eq_true rfl)) dX3_release_2 ⟨Nat.le_of_ble_eq_true rfl, Nat.le_of_ble_eq_true rfl⟩) (fun H locs hP hS => ?_)
  refine lv_pop hx hb dX3_release_5 rfl ?_
  refine lv_aload_n hx hb dX3_release_6 rfl (lv_at hl 0 rfl) ?_
  refine lv_iload_n hx hb dX3_release_7 rfl (lv_at hl 2 rfl) ?_
  refine wx_call (O := (dkO G)) hS (vx_runV (As := [.int y]) (rest := []) ⟨hx, hb, hml, hown, hts⟩ (c_X3_requireLock_n hst (G := G) hj hok H.size y hd) (cwV 1 hts gX3_release_X3_requireLock rfl rfl rfl (by decide +kernel) ⟨Nat.le_of_ble_eq_true rfl, Nat.le_of_ble_eq_true rfl⟩) (wx_pre hK hP hS hE (dk_lt (by omega)) dE_0 rfl) rfl rfl hl.1 rfl (lv_room (Nat.le_of_ble_eq_true rfl)) dX3_release_8 ⟨Nat.le_of_ble_eq_true rfl, Nat.le_of_ble_eq_true rfl⟩) (fun q ce H1 locs1 hP1 hS1 hce hcv hcl => ?_)
  exact vx_out (fun x h => absurd h (fun h => htab x h)) hlocks hce hcv hcl (xX_out hP1 hK hS1) hS1.2.2 (Nat.le_of_ble_eq_true rfl) (Nat.le_of_ble_eq_true rfl)
set_option maxRecDepth 100000 in
set_option maxHeartbeats 4000000 in
theorem c_X3_release_n3 {l : Launch} (hst : l.stackTraces = false) {G : DG} (hj : wj (dkO G)) {M : Mem} (hok : dk_ok M) {j i : Nat} (hj6 : j < 6) (hon : M (3 + j) 0 ≠ 0) (hi4 : i < 4) (hh : M (9 + i) 1 ≠ nI j) (sz : Nat) : vx_Met l yX3_release wsX3_release ({ frames := 6, cells := 1, slots := 6, locals := 82 }) (va_Pc [.ref (wa (dkO G) 0), .int (nI j), .int (nI i)] (wpx (dkO G) sz M)) xQ (xX (dkO G) sz eISE M) 1 6 (wA (dkO G) sz) := by
  refine wx_ofW (O := (dkO G)) (M := M) (M' := M) (E0 := eISE) (cc := cX3_release) (maxL := 4) (ret := none) (lv := [(0, .ref (wa (dkO G) 0)), (1, .int (nI j)), (2, .int (nI i))]) (by decide) rfl (Nat.le_of_ble_eq_true rfl) rfl ?_
  intro p e s m below meth c ls hx hb hr hml hown hts hlocks hP hK hS hl htab hE
  have hi0 : ∀ w ∈ wsX00, w ∈ wsX3_release := by decide +kernel
  refine lv_aload_n hx hb dX3_release_0 rfl (lv_at hl 0 rfl) ?_
  refine lv_iload_n hx hb dX3_release_1 rfl (lv_at hl 1 rfl) ?_
  refine wd_cqs (O := (dkO G)) hS (va_runV (As := [.int (nI j)]) (rest := []) ⟨hx, hb, hml, hown, hts⟩ (c_X3_requireSession_s (G := G) hj hok (by omega) hon s.heap.size) (cwV 1 hts gX3_release_X3_requireSession rfl rfl rfl (by decide +kernel) ⟨Nat.le_of_ble_eq_true rfl, Nat.le_of_ble_eq_true rfl⟩) (wd_pre hK hP (dk_lt (by omega)) dE_0 rfl) rfl rfl hl.1 rfl (lv_room (Nat.le_of_ble_eq_true rfl)) dX3_release_2 ⟨Nat.le_of_ble_eq_true rfl, Nat.le_of_ble_eq_true rfl⟩) (fun H locs hP hS => ?_)
  refine lv_pop hx hb dX3_release_5 rfl ?_
  refine lv_aload_n hx hb dX3_release_6 rfl (lv_at hl 0 rfl) ?_
  refine lv_iload_n hx hb dX3_release_7 rfl (lv_at hl 2 rfl) ?_
  refine wd_cqs (O := (dkO G)) hS (va_runV (As := [.int (nI i)]) (rest := []) ⟨hx, hb, hml, hown, hts⟩ (c_X3_requireLock_s (G := G) hj hok (by omega) H.size) (cwV 1 hts gX3_release_X3_requireLock rfl rfl rfl (by decide +kernel) ⟨Nat.le_of_ble_eq_true rfl, Nat.le_of_ble_eq_true rfl⟩) (wd_pre hK hP (dk_lt (by omega)) dE_0 rfl) rfl rfl hl.1 rfl (lv_room (Nat.le_of_ble_eq_true rfl)) dX3_release_8 ⟨Nat.le_of_ble_eq_true rfl, Nat.le_of_ble_eq_true rfl⟩) (fun H locs hP hS => ?_)
  refine lv_astore_n (lv' := [(3, .ref (wa (dkO G) (9 + i))), (0, .ref (wa (dkO G) 0)), (1, .int (nI j)), (2, .int (nI i))]) hx hb dX3_release_11 rfl hl (by decide) rfl (fun ls hl => ?_)
  refine lv_aload_n hx hb dX3_release_12 rfl (lv_at hl 0 rfl) ?_
  refine wd_get (O := (dkO G)) (v := .int (M (9 + i) 1)) hx hb hts hi0 hown hK hP (dk_lt (by omega)) (dE_lock (by omega)) rfl 1 (by decide) (hts (.fieldLink RX3 78 "LeaseDesk$Lock" "holder" "I") (by decide +kernel)) (fun _ h9 => h9) rfl dX3_release_13 ?_
  refine lv_iload_n hx hb dX3_release_16 rfl (lv_at hl 2 rfl) ?_
  refine lv_icmp_eq (tgt := 30) hx hb dX3_release_17 (by decide) (fun c1 => absurd c1 hh) (fun c1 => ?_)
  have hs := hE.2.2
  obtain ⟨sa, hsa⟩ := hs.2.2.1
  exact vx_throwS (own := RX3) (cls := "java/lang/IllegalStateException") (text := "the session does not hold the lock") (names := eNm) hx hb hst hown (by decide +kernel) (by decide +kernel) (hts (.classLink RX3 35 "java/lang/IllegalStateException") (by decide +kernel)) (hts (.initialized "java/lang/IllegalStateException") (by decide +kernel)) hsa (vx_hat (B := xB) (fun w h => hts w ((by decide +kernel : ∀ w ∈ (vx_atS RX3 39 "java/lang/IllegalStateException" eNm).filter goodWord, w ∈ wsX3_release) w h)) (by decide +kernel) (fun w h => va_Nw.use (xB_face w h).2 (hs.2.2.2.2.2.1 w h))) (by decide +kernel) hE.1 hE.2.1 hS (hl.1.trans hml.symm) dX3_release_20 dX3_release_23 dX3_release_24 dX3_release_26 dX3_release_29 (fun x h => absurd h (fun h => htab x h)) (Nat.le_of_ble_eq_true rfl) (Nat.le_of_ble_eq_true rfl) (Nat.le_of_ble_eq_true rfl) (Nat.le_of_ble_eq_true rfl) hlocks (xX_of hP hK hS) hS.2.2 (Nat.le_of_ble_eq_true rfl) (Nat.le_of_ble_eq_true rfl)
end
section
/-! WHAT THE REFERENCE's METHODS DO, over its memory -/
theorem ml_ix (a b : Nat) : nI a * 6 + nI b = nI (a * 6 + b) := by
  rw [show (6 : Int32) = nI 6 from rfl, pk_mul, nI_add]
def moV (M : Mem) (x : Int32) : Option Nat := match dN x 6 with
  | none => none
  | some j => if M 1 j = 0 then none else some j
theorem moV_some {M : Mem} {x : Int32} {j : Nat} (h : moV M x = some j) : j < 6 ∧ x = nI j ∧ M 1 j ≠ 0 := by
  unfold moV at h
  cases hd : dN x 6 with
  | none => rw [hd] at h; cases h
  | some a =>
    rw [hd] at h
    dsimp only at h
    obtain ⟨h1, h2⟩ := dN_some (by decide) hd
    by_cases e : M 1 a = 0
    · rw [if_pos e] at h; cases h
    · rw [if_neg e] at h
      cases h
      exact ⟨h1, h2, e⟩
def mlM (M : Mem) (l s : Nat) (t : Int32) : Mem :=
  let N1 := up M 5 l (nI s + 1)
  let N2 := up N1 6 l (N1 6 l + 1)
  let N3 := up N2 7 l (N2 0 0 + t)
  let N4 := up N3 8 l t
  let N5 := up N4 9 l (N4 4 s)
  up N5 10 (l * 6 + s) 0
/-- how many wishes are above 0 and below own -/
def cnt (w : Nat → Int32) (own : Int32) : Nat → Nat → Int32 → Int32
  | 0, _, v => v
  | k + 1, o, v => cnt w own k (o + 1) (if w o ≤ 0 then v else if own ≤ w o then v else v + 1)
def inR (w : Nat → Int32) (x : Int32) : Nat → Nat → Int32
  | 0, _ => -1
  | k + 1, j => if w j ≤ 0 then inR w x k (j + 1) else if cnt w (w j) 6 0 0 = x then nI j else inR w x k (j + 1)
theorem inR_cases (w : Nat → Int32) (x : Int32) : ∀ k j, inR w x k j = -1 ∨ ∃ a, a < j + k ∧ inR w x k j = nI a
  | 0, j => Or.inl rfl
  | k + 1, j => by
    unfold inR
    by_cases e : w j ≤ 0
    · rw [if_pos e]
      rcases inR_cases w x k (j + 1) with h | ⟨a, h1, h2⟩
      · exact Or.inl h
      · exact Or.inr ⟨a, by omega, h2⟩
    · rw [if_neg e]
      by_cases e2 : cnt w (w j) 6 0 0 = x
      · rw [if_pos e2]; exact Or.inr ⟨j, by omega, rfl⟩
      · rw [if_neg e2]
        rcases inR_cases w x k (j + 1) with h | ⟨a, h1, h2⟩
        · exact Or.inl h
        · exact Or.inr ⟨a, by omega, h2⟩
def wsh (M : Mem) (l : Nat) : Nat → Int32 := fun o => M 10 (l * 6 + o)
def inV (M : Mem) (l : Nat) (x : Int32) : Int32 := inR (wsh M l) x 6 0
def ovM (M : Mem) (l : Nat) : Mem := match dN (inV (up M 5 l 0) l 0) 6 with
  | none => up M 5 l 0
  | some s => mlM (up M 5 l 0) l s ((up M 5 l 0) 11 (l * 6 + s))
def gwM (s : Nat) : Nat → Nat → Mem → Mem
  | 0, _, N => N
  | k + 1, l, N => gwM s k (l + 1) (up N 10 (l * 6 + s) 0)
def gnM (s : Nat) : Nat → Nat → Mem → Mem
  | 0, _, N => N
  | k + 1, l, N => gnM s k (l + 1) (if N 5 l = nI s + 1 then ovM N l else N)
def gnV (s : Nat) : Nat → Nat → Mem → Int32 → Int32
  | 0, _, _, v => v
  | k + 1, l, N, v => gnV s k (l + 1) (if N 5 l = nI s + 1 then ovM N l else N) (if N 5 l = nI s + 1 then v + 1 else v)
def goM (M : Mem) (s : Nat) : Mem := up (gnM s 4 0 (gwM s 4 0 M)) 1 s 0
def goV (M : Mem) (s : Nat) : Int32 := gnV s 4 0 (gwM s 4 0 M) 0
def mfo (M : Mem) : Nat → Nat → Option Nat
  | 0, _ => none
  | k + 1, j => if M 1 j = 0 then some j else mfo M k (j + 1)
def mbM (M : Mem) (j : Nat) : Mem :=
  let N1 := up M 1 j 1
  let N2 := up N1 2 j (N1 0 0)
  let N3 := up N2 3 j 10
  let N4 := up N3 4 j 0
  up N4 0 1 0
def mopV (M : Mem) : Int32 := match mfo M 6 0 with
  | none => 0
  | some j => nI j
def mopM (M : Mem) : Mem := match mfo M 6 0 with
  | none => up M 0 1 1
  | some j => mbM M j
def mclV (M : Mem) (x : Int32) : Int32 := match moV M x with
  | none => 0
  | some j => goV (up M 0 1 0) j
def mclM (M : Mem) (x : Int32) : Mem := match moV M x with
  | none => up M 0 1 1
  | some j => goM (up M 0 1 0) j
def mkpM (M : Mem) (x : Int32) : Mem := match moV M x with
  | none => up M 0 1 1
  | some j => up (up M 0 1 0) 2 j ((up M 0 1 0) 0 0)
def mrtV (M : Mem) (x r : Int32) : Int32 := match moV M x with
  | none => 0
  | some _ => if r < 9 then 0 else if r ≤ 11 then 1 else 0
def mrtM (M : Mem) (x r : Int32) : Mem := match moV M x with
  | none => M
  | some j => if r < 9 then M else if r ≤ 11 then up M 3 j r else M
def mmv (d : Int32) : Nat → Nat → Mem → Mem
  | 0, _, N => N
  | k + 1, j, N => mmv d k (j + 1) (if N 1 j = 0 then N else up N 4 j (N 4 j + N 3 j * d))
def mslM : Nat → Nat → Mem → Mem
  | 0, _, N => N
  | k + 1, j, N => mslM k (j + 1) (if N 1 j = 0 then N else if N 0 0 - N 2 j ≤ 50 then N else goM N j)
def mslV : Nat → Nat → Mem → Int32 → Int32
  | 0, _, _, v => v
  | k + 1, j, N, v => mslV k (j + 1) (if N 1 j = 0 then N else if N 0 0 - N 2 j ≤ 50 then N else goM N j) (if N 1 j = 0 then v else if N 0 0 - N 2 j ≤ 50 then v else v + goV N j)
def mduM : Nat → Nat → Mem → Mem
  | 0, _, N => N
  | k + 1, l, N => mduM k (l + 1) (if N 5 l = 0 then N else if N 7 l ≤ N 0 0 then ovM N l else N)
def mduV : Nat → Nat → Mem → Int32 → Int32
  | 0, _, _, v => v
  | k + 1, l, N, v => mduV k (l + 1) (if N 5 l = 0 then N else if N 7 l ≤ N 0 0 then ovM N l else N) (if N 5 l = 0 then v else if N 7 l ≤ N 0 0 then v + 1 else v)
def mtA (M : Mem) (d : Int32) : Mem := mmv d 6 0 (up M 0 0 (M 0 0 + d))
def mtV (M : Mem) (d : Int32) : Int32 := mduV 4 0 (mslM 6 0 (mtA M d)) (mslV 6 0 (mtA M d) 0)
def mtM (M : Mem) (d : Int32) : Mem := mduM 4 0 (mslM 6 0 (mtA M d))
def mtcV (M : Mem) (d : Int32) : Int32 := if d < 0 then -1 else if d ≤ 100 then mtV M d else -1
def mtcM (M : Mem) (d : Int32) : Mem := if d < 0 then M else if d ≤ 100 then mtM M d else M
def maA (M : Mem) (j : Nat) : Mem := up (up M 0 1 0) 2 j ((up M 0 1 0) 0 0)
def maR (A : Mem) (j i : Nat) (t : Int32) : Mem :=
  if A 0 0 + t ≤ A 7 i then A else
  let B1 := up A 7 i (A 0 0 + t)
  let B2 := up B1 8 i t
  up B2 9 i (B2 4 j)
def maW (A : Mem) (j i : Nat) (t : Int32) : Mem :=
  if A 10 (i * 6 + j) = 0 then up (up (up A 0 2 (A 0 2 + 1)) 10 (i * 6 + j) ((up A 0 2 (A 0 2 + 1)) 0 2)) 11 (i * 6 + j) t
  else up A 11 (i * 6 + j) t
def maM (M : Mem) (j i : Nat) (t : Int32) : Mem :=
  if maA M j 5 i = nI j + 1 then maR (maA M j) j i t
  else if maA M j 5 i = 0 then mlM (maA M j) i j t
  else maW (maA M j) j i t
def maV (M : Mem) (j i : Nat) (t : Int32) : Int32 :=
  if maA M j 5 i = nI j + 1 then maM M j i t 6 i
  else if maA M j 5 i = 0 then maM M j i t 6 i
  else 0
def maqM (M : Mem) (x y t : Int32) : Mem := match moV M x with
  | none => up M 0 1 1
  | some j => match dN y 4 with
    | none => up M 0 1 2
    | some i => if t < 1 then up M 0 1 2 else if t ≤ 100 then maM M j i t else up M 0 1 2
def maqV (M : Mem) (x y t : Int32) : Int32 := match moV M x with
  | none => 0
  | some j => match dN y 4 with
    | none => 0
    | some i => if t < 1 then 0 else if t ≤ 100 then maV M j i t else 0
def mrlM (M : Mem) (x y : Int32) : Mem := match moV M x with
  | none => up M 0 1 1
  | some j => match dN y 4 with
    | none => up M 0 1 2
    | some i => if M 5 i = nI j + 1 then ovM (up M 0 1 0) i else up M 0 1 3
def mcnV (M : Mem) (x y : Int32) : Int32 := match moV M x with
  | none => 0
  | some j => match dN y 4 with
    | none => 0
    | some i => if M 10 (i * 6 + j) = 0 then 0 else 1
def mcnM (M : Mem) (x y : Int32) : Mem := match moV M x with
  | none => M
  | some j => match dN y 4 with
    | none => M
    | some i => if M 10 (i * 6 + j) = 0 then M else up M 10 (i * 6 + j) 0
def mkcV (M : Mem) (x none' : Int32) (r : Nat) : Int32 := match dN x 4 with
  | none => none'
  | some j => M r j
def mhdV (M : Mem) (x : Int32) : Int32 := match dN x 4 with
  | none => -1
  | some j => M 5 j - 1
def mutV (M : Mem) (x : Int32) : Int32 := match dN x 4 with
  | none => -1
  | some j => if M 5 j ≤ 0 then -1 else M 7 j
def mwtV (M : Mem) (x k : Int32) : Int32 := match dN x 4 with
  | none => -1
  | some j => inV M j k
def mckV (M : Mem) (x : Int32) : Int32 := match moV M x with
  | none => -1
  | some j => M 4 j
def mblV (M : Mem) (x y : Int32) : Int32 := match moV M x with
  | none => 0
  | some j => match dN y 4 with
    | none => 0
    | some i => if M 5 i = nI j + 1 then (if 9 * M 8 i ≤ M 4 j - M 9 i then 0 else 1) else 0
def mwrV (M : Mem) (x t : Int32) : Int32 := match dN x 4 with
  | none => 0
  | some j => if t < 1 then 0 else if M 12 j ≤ t then 1 else 0
def mwrM (M : Mem) (x t v : Int32) : Mem := match dN x 4 with
  | none => M
  | some j => if t < 1 then M else if M 12 j ≤ t then up (up M 12 j t) 13 j v else M
end
section
set_option maxRecDepth 100000 in
set_option maxHeartbeats 4000000 in
theorem c_X4_thrown {l : Launch} {G : MG} (hj : wj (mdO G)) {M : Mem} (sz : Nat) : Met l yX4_thrown wsX4_thrown ({ frames := 0, cells := 0, slots := 0, locals := 0 }) (va_Pc [.ref (wa (mdO G) 0)] (wp (mdO G) sz M)) (wQi (mdO G) sz (M 0 1) (M)) 0 0 (wA (mdO G) sz) := by
  refine wd_ofW (O := (mdO G)) (M := M) (Qc := fun z => wQi (mdO G) z (M 0 1) (M)) (cc := cX4_thrown) (maxL := 1) (ret := (some .int)) (lv := [(0, .ref (wa (mdO G) 0))]) (by decide) rfl (Nat.le_of_ble_eq_true rfl) rfl ?_
  intro p e s m below meth c ls hx hb hr hml hown hts hlocks hP hK hS hl
  have hi4 : ∀ w ∈ wsX40, w ∈ wsX4_thrown := by decide +kernel
  refine lv_aload_n hx hb dX4_thrown_0 rfl (lv_at hl 0 rfl) ?_
  refine wd_get (O := (mdO G)) (v := .int (M 0 1)) hx hb hts hi4 hown hK hP (md_lt (by omega)) mE_0 rfl 1 (by decide) (hts (.fieldLink RX4 50 "LeaseDeskModel" "thrown" "I") (by decide +kernel)) (fun _ h9 => h9) rfl dX4_thrown_1 ?_
  exact wd_iret (O := (mdO G)) hx hb hr hlocks hK hP hS rfl dX4_thrown_4 (rfl) (rfl)
set_option maxRecDepth 100000 in
set_option maxHeartbeats 4000000 in
theorem c_X4_time {l : Launch} {G : MG} (hj : wj (mdO G)) {M : Mem} (sz : Nat) : Met l yX4_time wsX4_time ({ frames := 0, cells := 0, slots := 0, locals := 0 }) (va_Pc [.ref (wa (mdO G) 0)] (wp (mdO G) sz M)) (wQi (mdO G) sz (M 0 0) (M)) 0 0 (wA (mdO G) sz) := by
  refine wd_ofW (O := (mdO G)) (M := M) (Qc := fun z => wQi (mdO G) z (M 0 0) (M)) (cc := cX4_time) (maxL := 1) (ret := (some .int)) (lv := [(0, .ref (wa (mdO G) 0))]) (by decide) rfl (Nat.le_of_ble_eq_true rfl) rfl ?_
  intro p e s m below meth c ls hx hb hr hml hown hts hlocks hP hK hS hl
  have hi4 : ∀ w ∈ wsX40, w ∈ wsX4_time := by decide +kernel
  refine lv_aload_n hx hb dX4_time_0 rfl (lv_at hl 0 rfl) ?_
  refine wd_get (O := (mdO G)) (v := .int (M 0 0)) hx hb hts hi4 hown hK hP (md_lt (by omega)) mE_0 rfl 0 (by decide) (hts (.fieldLink RX4 54 "LeaseDeskModel" "time" "I") (by decide +kernel)) (fun _ h9 => h9) rfl dX4_time_1 ?_
  exact wd_iret (O := (mdO G)) hx hb hr hlocks hK hP hS rfl dX4_time_4 (rfl) (rfl)
set_option maxRecDepth 100000 in
set_option maxHeartbeats 4000000 in
theorem c_X4_isOpen {l : Launch} {G : MG} (hj : wj (mdO G)) {M : Mem} (sz : Nat) (x : Int32) : Met l yX4_isOpen wsX4_isOpen ({ frames := 0, cells := 0, slots := 0, locals := 0 }) (va_Pc [.ref (wa (mdO G) 0), .int x] (wp (mdO G) sz M)) (wQi (mdO G) sz (tkv (moV M x)) (M)) 0 0 (wA (mdO G) sz) := by
  rcases op_cases (dN x 6) with hd | ⟨j2, hd⟩
  · refine wd_ofW (O := (mdO G)) (M := M) (Qc := fun z => wQi (mdO G) z (tkv (moV M x)) (M)) (cc := cX4_isOpen) (maxL := 2) (ret := (some .boolean)) (lv := [(0, .ref (wa (mdO G) 0)), (1, .int x)]) (by decide) rfl (Nat.le_of_ble_eq_true rfl) rfl ?_
    intro p e s m below meth c ls hx hb hr hml hown hts hlocks hP hK hS hl
    have hi4 : ∀ w ∈ wsX40, w ∈ wsX4_isOpen := by decide +kernel
    refine lv_iload_n hx hb dX4_isOpen_0 rfl (lv_at hl 1 rfl) ?_
    refine lv_if_lt (tgt := 23) hx hb dX4_isOpen_1 (by decide) (fun c1 => ?_) (fun c1 => ?_)
    · refine lv_iconst (v := 0) hx hb dX4_isOpen_23 (by decide) ?_
      exact wd_iret (O := (mdO G)) hx hb hr hlocks hK hP hS (by decide) dX4_isOpen_24 (by simp only [moV, hd, tkv]) (rfl)
    · refine lv_iload_n hx hb dX4_isOpen_4 rfl (lv_at hl 1 rfl) ?_
      refine lv_bipush (v := 6) hx hb dX4_isOpen_5 (by decide) ?_
      refine lv_icmp_ge (tgt := 23) hx hb dX4_isOpen_7 (by decide) (fun c2 => ?_) (fun c2 => absurd (dN_none hd c1) c2)
      refine lv_iconst (v := 0) hx hb dX4_isOpen_23 (by decide) ?_
      exact wd_iret (O := (mdO G)) hx hb hr hlocks hK hP hS (by decide) dX4_isOpen_24 (by simp only [moV, hd, tkv]) (rfl)
  · obtain ⟨hj2, rfl⟩ := dN_some (by decide) hd
    refine wd_ofW (O := (mdO G)) (M := M) (Qc := fun z => wQi (mdO G) z (tkv (moV M (nI j2))) (M)) (cc := cX4_isOpen) (maxL := 2) (ret := (some .boolean)) (lv := [(0, .ref (wa (mdO G) 0)), (1, .int (nI j2))]) (by decide) rfl (Nat.le_of_ble_eq_true rfl) rfl ?_
    intro p e s m below meth c ls hx hb hr hml hown hts hlocks hP hK hS hl
    have hi4 : ∀ w ∈ wsX40, w ∈ wsX4_isOpen := by decide +kernel
    refine lv_iload_n hx hb dX4_isOpen_0 rfl (lv_at hl 1 rfl) ?_
    refine lv_if_lt (tgt := 23) hx hb dX4_isOpen_1 (by decide) (fun c3 => absurd c3 (nI_pos (by omega))) (fun c3 => ?_)
    refine lv_iload_n hx hb dX4_isOpen_4 rfl (lv_at hl 1 rfl) ?_
    refine lv_bipush (v := 6) hx hb dX4_isOpen_5 (by decide) ?_
    refine lv_icmp_ge (tgt := 23) hx hb dX4_isOpen_7 (by decide) (fun c4 => absurd c4 (nI_ge hj2 (by decide))) (fun c4 => ?_)
    refine lv_aload_n hx hb dX4_isOpen_10 rfl (lv_at hl 0 rfl) ?_
    refine wd_get (O := (mdO G)) (v := .ref (wa (mdO G) 1)) hx hb hts hi4 hown hK hP (md_lt (by omega)) mE_0 rfl 3 (by decide) (hts (.fieldLink RX4 9 "LeaseDeskModel" "there" "[Z") (by decide +kernel)) (fun _ h9 => h9) rfl dX4_isOpen_11 ?_
    refine lv_iload_n hx hb dX4_isOpen_14 rfl (lv_at hl 1 rfl) ?_
    refine wd_zald (O := (mdO G)) hx hb hK hP (md_lt (by omega)) 1 (mE_z _) rfl (i := j2) rfl (by omega) (by decide) dX4_isOpen_15 ?_
    refine lv_if_eq (tgt := 23) hx hb dX4_isOpen_16 (by decide) (fun c5 => ?_) (fun c5 => ?_)
    · refine lv_iconst (v := 0) hx hb dX4_isOpen_23 (by decide) ?_
      exact wd_iret (O := (mdO G)) hx hb hr hlocks hK hP hS (by decide) dX4_isOpen_24 (by simp only [moV, hd, if_pos c5, tkv]) (rfl)
    · refine lv_iconst (v := 1) hx hb dX4_isOpen_19 (by decide) ?_
      refine lv_goto (tgt := 24) hx hb dX4_isOpen_20 (by decide) ?_
      exact wd_iret (O := (mdO G)) hx hb hr hlocks hK hP hS (by decide) dX4_isOpen_24 (by simp only [moV, hd, if_neg c5, tkv]) (rfl)
set_option maxRecDepth 100000 in
set_option maxHeartbeats 4000000 in
theorem c_X4_isLock {l : Launch} {G : MG} (hj : wj (mdO G)) {M : Mem} (sz : Nat) (x : Int32) : Met l yX4_isLock wsX4_isLock ({ frames := 0, cells := 0, slots := 0, locals := 0 }) (va_Pc [.int x] (wp (mdO G) sz M)) (wQi (mdO G) sz (tkv (dN x 4)) (M)) 0 0 (wA (mdO G) sz) := by
  rcases op_cases (dN x 4) with hd | ⟨j2, hd⟩
  · refine wd_ofW (O := (mdO G)) (M := M) (Qc := fun z => wQi (mdO G) z (tkv (dN x 4)) (M)) (cc := cX4_isLock) (maxL := 1) (ret := (some .boolean)) (lv := [(0, .int x)]) (by decide) rfl (Nat.le_of_ble_eq_true rfl) rfl ?_
    intro p e s m below meth c ls hx hb hr hml hown hts hlocks hP hK hS hl
    refine lv_iload_n hx hb dX4_isLock_0 rfl (lv_at hl 0 rfl) ?_
    refine lv_if_lt (tgt := 13) hx hb dX4_isLock_1 (by decide) (fun c1 => ?_) (fun c1 => ?_)
    · refine lv_iconst (v := 0) hx hb dX4_isLock_13 (by decide) ?_
      exact wd_iret (O := (mdO G)) hx hb hr hlocks hK hP hS (by decide) dX4_isLock_14 (by simp only [hd, tkv]) (rfl)
    · refine lv_iload_n hx hb dX4_isLock_4 rfl (lv_at hl 0 rfl) ?_
      refine lv_iconst (v := 4) hx hb dX4_isLock_5 (by decide) ?_
      refine lv_icmp_ge (tgt := 13) hx hb dX4_isLock_6 (by decide) (fun c2 => ?_) (fun c2 => absurd (dN_none hd c1) c2)
      refine lv_iconst (v := 0) hx hb dX4_isLock_13 (by decide) ?_
      exact wd_iret (O := (mdO G)) hx hb hr hlocks hK hP hS (by decide) dX4_isLock_14 (by simp only [hd, tkv]) (rfl)
  · obtain ⟨hj2, rfl⟩ := dN_some (by decide) hd
    refine wd_ofW (O := (mdO G)) (M := M) (Qc := fun z => wQi (mdO G) z (tkv (dN (nI j2) 4)) (M)) (cc := cX4_isLock) (maxL := 1) (ret := (some .boolean)) (lv := [(0, .int (nI j2))]) (by decide) rfl (Nat.le_of_ble_eq_true rfl) rfl ?_
    intro p e s m below meth c ls hx hb hr hml hown hts hlocks hP hK hS hl
    refine lv_iload_n hx hb dX4_isLock_0 rfl (lv_at hl 0 rfl) ?_
    refine lv_if_lt (tgt := 13) hx hb dX4_isLock_1 (by decide) (fun c3 => absurd c3 (nI_pos (by omega))) (fun c3 => ?_)
    refine lv_iload_n hx hb dX4_isLock_4 rfl (lv_at hl 0 rfl) ?_
    refine lv_iconst (v := 4) hx hb dX4_isLock_5 (by decide) ?_
    refine lv_icmp_ge (tgt := 13) hx hb dX4_isLock_6 (by decide) (fun c4 => absurd c4 (nI_ge hj2 (by decide))) (fun c4 => ?_)
    refine lv_iconst (v := 1) hx hb dX4_isLock_9 (by decide) ?_
    refine lv_goto (tgt := 14) hx hb dX4_isLock_10 (by decide) ?_
    exact wd_iret (O := (mdO G)) hx hb hr hlocks hK hP hS (by decide) dX4_isLock_14 (by simp only [hd, tkv]) (rfl)
set_option maxRecDepth 100000 in
set_option maxHeartbeats 4000000 in
theorem c_X4_lend {l : Launch} {G : MG} (hj : wj (mdO G)) {M : Mem} (sz : Nat) (i j : Nat) (t : Int32) (hi : i < 4) (hj6 : j < 6) : Met l yX4_lend wsX4_lend ({ frames := 0, cells := 0, slots := 0, locals := 0 }) (va_Pc [.ref (wa (mdO G) 0), .int (nI i), .int (nI j), .int t] (wp (mdO G) sz M)) (wQv (mdO G) sz (mlM M i j t)) 0 0 (wA (mdO G) sz) := by
  refine wd_ofW (O := (mdO G)) (M := M) (Qc := fun z => wQv (mdO G) z (mlM M i j t)) (cc := cX4_lend) (maxL := 4) (ret := none) (lv := [(0, .ref (wa (mdO G) 0)), (1, .int (nI i)), (2, .int (nI j)), (3, .int t)]) (by decide) rfl (Nat.le_of_ble_eq_true rfl) rfl ?_
  intro p e s m below meth c ls hx hb hr hml hown hts hlocks hP hK hS hl
  have hi4 : ∀ w ∈ wsX40, w ∈ wsX4_lend := by decide +kernel
  refine lv_aload_n hx hb dX4_lend_0 rfl (lv_at hl 0 rfl) ?_
  refine wd_get (O := (mdO G)) (v := .ref (wa (mdO G) 5)) hx hb hts hi4 hown hK hP (md_lt (by omega)) mE_0 rfl 7 (by decide) (hts (.fieldLink RX4 23 "LeaseDeskModel" "has" "[I") (by decide +kernel)) (fun _ h9 => h9) rfl dX4_lend_1 ?_
  refine lv_iload_n hx hb dX4_lend_4 rfl (lv_at hl 1 rfl) ?_
  refine lv_iload_n hx hb dX4_lend_5 rfl (lv_at hl 2 rfl) ?_
  refine lv_iconst (v := 1) hx hb dX4_lend_6 (by decide) ?_
  refine lv_iadd hx hb dX4_lend_7 ?_
  refine wd_iast (O := (mdO G)) hj hx hb hK hP hS (md_lt (by omega)) 0 mE_5 rfl (i := i) rfl (by omega) (by decide) dX4_lend_8 (fun H locs hP hS => ?_)
  refine lv_aload_n hx hb dX4_lend_9 rfl (lv_at hl 0 rfl) ?_
  refine wd_get (O := (mdO G)) (v := .ref (wa (mdO G) 6)) hx hb hts hi4 hown hK hP (md_lt (by omega)) mE_0 rfl 8 (by decide) (hts (.fieldLink RX4 26 "LeaseDeskModel" "tokens" "[I") (by decide +kernel)) (fun _ h9 => h9) rfl dX4_lend_10 ?_
  refine lv_iload_n hx hb dX4_lend_13 rfl (lv_at hl 1 rfl) ?_
  refine lv_aload_n hx hb dX4_lend_14 rfl (lv_at hl 0 rfl) ?_
  refine wd_get (O := (mdO G)) (v := .ref (wa (mdO G) 6)) hx hb hts hi4 hown hK hP (md_lt (by omega)) mE_0 rfl 8 (by decide) (hts (.fieldLink RX4 26 "LeaseDeskModel" "tokens" "[I") (by decide +kernel)) (fun _ h9 => h9) rfl dX4_lend_15 ?_
  refine lv_iload_n hx hb dX4_lend_18 rfl (lv_at hl 1 rfl) ?_
  refine wd_iald (O := (mdO G)) hx hb hK hP (md_lt (by omega)) 0 (mE_6 _) rfl (i := i) rfl (by omega) (by decide) dX4_lend_19 ?_
  refine lv_iconst (v := 1) hx hb dX4_lend_20 (by decide) ?_
  refine lv_iadd hx hb dX4_lend_21 ?_
  refine wd_iast (O := (mdO G)) hj hx hb hK hP hS (md_lt (by omega)) 0 mE_6 rfl (i := i) rfl (by omega) (by decide) dX4_lend_22 (fun H locs hP hS => ?_)
  refine lv_aload_n hx hb dX4_lend_23 rfl (lv_at hl 0 rfl) ?_
  refine wd_get (O := (mdO G)) (v := .ref (wa (mdO G) 7)) hx hb hts hi4 hown hK hP (md_lt (by omega)) mE_0 rfl 9 (by decide) (hts (.fieldLink RX4 29 "LeaseDeskModel" "ends" "[I") (by decide +kernel)) (fun _ h9 => h9) rfl dX4_lend_24 ?_
  refine lv_iload_n hx hb dX4_lend_27 rfl (lv_at hl 1 rfl) ?_
  refine lv_aload_n hx hb dX4_lend_28 rfl (lv_at hl 0 rfl) ?_
  refine wd_get (O := (mdO G)) (v := .int ((up (up M 5 i ((nI j) + 1)) 6 i (((up M 5 i ((nI j) + 1)) 6 i) + 1)) 0 0)) hx hb hts hi4 hown hK hP (md_lt (by omega)) mE_0 rfl 0 (by decide) (hts (.fieldLink RX4 54 "LeaseDeskModel" "time" "I") (by decide +kernel)) (fun _ h9 => h9) rfl dX4_lend_29 ?_
  refine lv_iload_n hx hb dX4_lend_32 rfl (lv_at hl 3 rfl) ?_
  refine lv_iadd hx hb dX4_lend_33 ?_
  refine wd_iast (O := (mdO G)) hj hx hb hK hP hS (md_lt (by omega)) 0 mE_7 rfl (i := i) rfl (by omega) (by decide) dX4_lend_34 (fun H locs hP hS => ?_)
  refine lv_aload_n hx hb dX4_lend_35 rfl (lv_at hl 0 rfl) ?_
  refine wd_get (O := (mdO G)) (v := .ref (wa (mdO G) 8)) hx hb hts hi4 hown hK hP (md_lt (by omega)) mE_0 rfl 10 (by decide) (hts (.fieldLink RX4 32 "LeaseDeskModel" "terms" "[I") (by decide +kernel)) (fun _ h9 => h9) rfl dX4_lend_36 ?_
  refine lv_iload_n hx hb dX4_lend_39 rfl (lv_at hl 1 rfl) ?_
  refine lv_iload_n hx hb dX4_lend_40 rfl (lv_at hl 3 rfl) ?_
  refine wd_iast (O := (mdO G)) hj hx hb hK hP hS (md_lt (by omega)) 0 mE_8 rfl (i := i) rfl (by omega) (by decide) dX4_lend_41 (fun H locs hP hS => ?_)
  refine lv_aload_n hx hb dX4_lend_42 rfl (lv_at hl 0 rfl) ?_
  refine wd_get (O := (mdO G)) (v := .ref (wa (mdO G) 9)) hx hb hts hi4 hown hK hP (md_lt (by omega)) mE_0 rfl 11 (by decide) (hts (.fieldLink RX4 35 "LeaseDeskModel" "starts" "[I") (by decide +kernel)) (fun _ h9 => h9) rfl dX4_lend_43 ?_
  refine lv_iload_n hx hb dX4_lend_46 rfl (lv_at hl 1 rfl) ?_
  refine lv_aload_n hx hb dX4_lend_47 rfl (lv_at hl 0 rfl) ?_
  refine wd_get (O := (mdO G)) (v := .ref (wa (mdO G) 4)) hx hb hts hi4 hown hK hP (md_lt (by omega)) mE_0 rfl 6 (by decide) (hts (.fieldLink RX4 20 "LeaseDeskModel" "clocks" "[I") (by decide +kernel)) (fun _ h9 => h9) rfl dX4_lend_48 ?_
  refine lv_iload_n hx hb dX4_lend_51 rfl (lv_at hl 2 rfl) ?_
  refine wd_iald (O := (mdO G)) hx hb hK hP (md_lt (by omega)) 0 (mE_4 _) rfl (i := j) rfl (by omega) (by decide) dX4_lend_52 ?_
  refine wd_iast (O := (mdO G)) hj hx hb hK hP hS (md_lt (by omega)) 0 mE_9 rfl (i := i) rfl (by omega) (by decide) dX4_lend_53 (fun H locs hP hS => ?_)
  refine lv_aload_n hx hb dX4_lend_54 rfl (lv_at hl 0 rfl) ?_
  refine wd_get (O := (mdO G)) (v := .ref (wa (mdO G) 10)) hx hb hts hi4 hown hK hP (md_lt (by omega)) mE_0 rfl 12 (by decide) (hts (.fieldLink RX4 38 "LeaseDeskModel" "wishes" "[I") (by decide +kernel)) (fun _ h9 => h9) rfl dX4_lend_55 ?_
  refine lv_iload_n hx hb dX4_lend_58 rfl (lv_at hl 1 rfl) ?_
  refine lv_bipush (v := 6) hx hb dX4_lend_59 (by decide) ?_
  refine lv_imul hx hb dX4_lend_61 ?_
  refine lv_iload_n hx hb dX4_lend_62 rfl (lv_at hl 2 rfl) ?_
  refine lv_iadd hx hb dX4_lend_63 ?_
  refine wd_re (y := nI (i * 6 + j)) (ml_ix i j) ?_
  refine lv_iconst (v := 0) hx hb dX4_lend_64 (by decide) ?_
  refine wd_iast (O := (mdO G)) hj hx hb hK hP hS (md_lt (by omega)) 0 mE_10 rfl (i := (i * 6 + j)) rfl (by omega) (by decide) dX4_lend_65 (fun H locs hP hS => ?_)
  exact wd_vret (O := (mdO G)) hx hb hr hlocks hK hP hS dX4_lend_66 (rfl)
set_option maxRecDepth 100000 in
set_option maxHeartbeats 4000000 in
theorem c_X4_inRow {l : Launch} {G : MG} (hj : wj (mdO G)) {M : Mem} (sz : Nat) (i : Nat) (x : Int32) (hi : i < 4) : Met l yX4_inRow wsX4_inRow ({ frames := 0, cells := 0, slots := 0, locals := 0 }) (va_Pc [.ref (wa (mdO G) 0), .int (nI i), .int x] (wp (mdO G) sz M)) (wQi (mdO G) sz (inV M i x) (M)) 0 0 (wA (mdO G) sz) := by
  refine wd_ofW (O := (mdO G)) (M := M) (Qc := fun z => wQi (mdO G) z (inV M i x) (M)) (cc := cX4_inRow) (maxL := 7) (ret := (some .int)) (lv := [(0, .ref (wa (mdO G) 0)), (1, .int (nI i)), (2, .int x)]) (by decide) rfl (Nat.le_of_ble_eq_true rfl) rfl ?_
  intro p e s m below meth c ls hx hb hr hml hown hts hlocks hP hK hS hl
  have hi4 : ∀ w ∈ wsX40, w ∈ wsX4_inRow := by decide +kernel
  refine lv_iconst (v := 0) hx hb dX4_inRow_0 (by decide) ?_
  refine lv_istore_n (lv' := [(3, .int 0), (0, .ref (wa (mdO G) 0)), (1, .int (nI i)), (2, .int x)]) hx hb dX4_inRow_1 rfl hl (by decide) rfl (fun ls hl => ?_)
  refine wl_loop (pc := 2) (fun k j N v ls H locs => (j + k = 6) ∧ (inR (wsh M i) x k j = inV M i x) ∧ va_P (wD (mdO G)) vwCl (wd (mdO G) M) H ∧ va_S (wA (mdO G) s.heap.size) s.heap H locs ∧ lv_has ls 7 [(3, .int (nI j)), (0, .ref (wa (mdO G) 0)), (1, .int (nI i)), (2, .int x)]) ?_ ?_ 6 0 M 0 ⟨by omega, rfl, hP, hS, lv_sub hl [0, 1, 2, 3] rfl⟩
  · rintro j N v ls H locs ⟨h1, h2, hP, hS, hl⟩
    refine lv_iload_n hx hb dX4_inRow_2 rfl (lv_at hl 0 rfl) ?_
    refine lv_bipush (v := 6) hx hb dX4_inRow_3 (by decide) ?_
    refine lv_icmp_ge (tgt := 97) hx hb dX4_inRow_5 (by decide) (fun c1 => ?_) (fun c1 => absurd (show nI 6 ≤ nI j from nI_le (by omega) (by omega)) c1)
    refine lv_iconst (v := (-1)) hx hb dX4_inRow_97 (by decide) ?_
    exact wd_iret (O := (mdO G)) hx hb hr hlocks hK hP hS rfl dX4_inRow_98 (h2) (rfl)
  · rintro k j N v ls H locs ih ⟨h1, h2, hP, hS, hl⟩
    refine lv_iload_n hx hb dX4_inRow_2 rfl (lv_at hl 0 rfl) ?_
    refine lv_bipush (v := 6) hx hb dX4_inRow_3 (by decide) ?_
    refine lv_icmp_ge (tgt := 97) hx hb dX4_inRow_5 (by decide) (fun c2 => absurd c2 (show ¬ nI 6 ≤ nI j from nI_ge (by omega) (by omega))) (fun c2 => ?_)
    refine lv_aload_n hx hb dX4_inRow_8 rfl (lv_at hl 1 rfl) ?_
    refine wd_get (O := (mdO G)) (v := .ref (wa (mdO G) 10)) hx hb hts hi4 hown hK hP (md_lt (by omega)) mE_0 rfl 12 (by decide) (hts (.fieldLink RX4 38 "LeaseDeskModel" "wishes" "[I") (by decide +kernel)) (fun _ h9 => h9) rfl dX4_inRow_9 ?_
    refine lv_iload_n hx hb dX4_inRow_12 rfl (lv_at hl 2 rfl) ?_
    refine lv_bipush (v := 6) hx hb dX4_inRow_13 (by decide) ?_
    refine lv_imul hx hb dX4_inRow_15 ?_
    refine lv_iload_n hx hb dX4_inRow_16 rfl (lv_at hl 0 rfl) ?_
    refine lv_iadd hx hb dX4_inRow_17 ?_
    refine wd_re (y := nI (i * 6 + j)) (ml_ix i j) ?_
    refine wd_iald (O := (mdO G)) hx hb hK hP (md_lt (by omega)) 0 (mE_10 _) rfl (i := (i * 6 + j)) rfl (by omega) (by decide) dX4_inRow_18 ?_
    refine lv_istore (lv' := [(4, .int (M 10 ((i * 6 + j)))), (3, .int (nI j)), (0, .ref (wa (mdO G) 0)), (1, .int (nI i)), (2, .int x)]) hx hb dX4_inRow_19 hl (by decide) rfl (fun ls hl => ?_)
    refine lv_iconst (v := 0) hx hb dX4_inRow_21 (by decide) ?_
    refine lv_istore (lv' := [(5, .int 0), (4, .int (M 10 ((i * 6 + j)))), (3, .int (nI j)), (0, .ref (wa (mdO G) 0)), (1, .int (nI i)), (2, .int x)]) hx hb dX4_inRow_22 hl (by decide) rfl (fun ls hl => ?_)
    refine lv_iconst (v := 0) hx hb dX4_inRow_24 (by decide) ?_
    refine lv_istore (lv' := [(6, .int 0), (5, .int 0), (4, .int (M 10 ((i * 6 + j)))), (3, .int (nI j)), (0, .ref (wa (mdO G) 0)), (1, .int (nI i)), (2, .int x)]) hx hb dX4_inRow_25 hl (by decide) rfl (fun ls hl => ?_)
    have ih1 := ih
    clear ih
    refine wl_loop (pc := 27) (fun k2 o N v ls H locs => (o + k2 = 6) ∧ (cnt (wsh M i) (M 10 (i * 6 + j)) k2 o v = cnt (wsh M i) (M 10 (i * 6 + j)) 6 0 0) ∧ va_P (wD (mdO G)) vwCl (wd (mdO G) M) H ∧ va_S (wA (mdO G) s.heap.size) s.heap H locs ∧ lv_has ls 7 [(6, .int (nI o)), (5, .int v), (4, .int (M 10 (i * 6 + j))), (3, .int (nI j)), (0, .ref (wa (mdO G) 0)), (1, .int (nI i)), (2, .int x)]) ?_ ?_ 6 0 M 0 ⟨by omega, rfl, hP, hS, lv_sub hl [0, 1, 2, 3, 4, 5, 6] rfl⟩
    · rintro o N v ls H locs ⟨h3, h4, hP, hS, hl⟩
      refine lv_iload hx hb dX4_inRow_27 (lv_at hl 0 rfl) ?_
      refine lv_bipush (v := 6) hx hb dX4_inRow_29 (by decide) ?_
      refine lv_icmp_ge (tgt := 78) hx hb dX4_inRow_31 (by decide) (fun c3 => ?_) (fun c3 => absurd (show nI 6 ≤ nI o from nI_le (by omega) (by omega)) c3)
      refine lv_iload hx hb dX4_inRow_78 (lv_at hl 2 rfl) ?_
      refine lv_if_le (tgt := 91) hx hb dX4_inRow_80 (by decide) (fun c4 => ?_) (fun c4 => ?_)
      · refine lv_iinc (v := nI (j + 1)) (lv' := [(3, .int (nI (j + 1))), (6, .int (nI o)), (5, .int v), (4, .int (M 10 (i * 6 + j))), (0, .ref (wa (mdO G) 0)), (1, .int (nI i)), (2, .int x)]) hx hb dX4_inRow_91 hl (k := 3) rfl (nI_1 j) (by decide) rfl (fun ls hl => ?_)
        refine lv_goto (tgt := 2) hx hb dX4_inRow_94 (by decide) ?_
        exact ih1 (j + 1) N v ls H locs ⟨by omega, by rw [← h2]; simp only [inR]; rw [if_pos (show wsh M i j ≤ 0 from c4)], hP, hS, lv_sub hl [0, 4, 5, 6] rfl⟩
      · have hcv : v = cnt (wsh M i) (wsh M i j) 6 0 0 := h4
        refine lv_iload hx hb dX4_inRow_83 (lv_at hl 1 rfl) ?_
        refine lv_iload_n hx hb dX4_inRow_85 rfl (lv_at hl 6 rfl) ?_
        refine lv_icmp_ne (tgt := 91) hx hb dX4_inRow_86 (by decide) (fun c5 => ?_) (fun c5 => ?_)
        · refine lv_iinc (v := nI (j + 1)) (lv' := [(3, .int (nI (j + 1))), (6, .int (nI o)), (5, .int v), (4, .int (M 10 (i * 6 + j))), (0, .ref (wa (mdO G) 0)), (1, .int (nI i)), (2, .int x)]) hx hb dX4_inRow_91 hl (k := 3) rfl (nI_1 j) (by decide) rfl (fun ls hl => ?_)
          refine lv_goto (tgt := 2) hx hb dX4_inRow_94 (by decide) ?_
          exact ih1 (j + 1) N v ls H locs ⟨by omega, by rw [← h2]; simp only [inR]; rw [if_neg (show ¬ wsh M i j ≤ 0 from c4), if_neg (fun h9 => c5 (hcv.trans h9))], hP, hS, lv_sub hl [0, 4, 5, 6] rfl⟩
        · refine lv_iload_n hx hb dX4_inRow_89 rfl (lv_at hl 3 rfl) ?_
          exact wd_iret (O := (mdO G)) hx hb hr hlocks hK hP hS rfl dX4_inRow_90 (by rw [← h2]; simp only [inR]; rw [if_neg (show ¬ wsh M i j ≤ 0 from c4), if_pos (hcv.symm.trans c5)]) (rfl)
    · rintro k2 o N v ls H locs ih ⟨h3, h4, hP, hS, hl⟩
      refine lv_iload hx hb dX4_inRow_27 (lv_at hl 0 rfl) ?_
      refine lv_bipush (v := 6) hx hb dX4_inRow_29 (by decide) ?_
      refine lv_icmp_ge (tgt := 78) hx hb dX4_inRow_31 (by decide) (fun c6 => absurd c6 (show ¬ nI 6 ≤ nI o from nI_ge (by omega) (by omega))) (fun c6 => ?_)
      refine lv_aload_n hx hb dX4_inRow_34 rfl (lv_at hl 4 rfl) ?_
      refine wd_get (O := (mdO G)) (v := .ref (wa (mdO G) 10)) hx hb hts hi4 hown hK hP (md_lt (by omega)) mE_0 rfl 12 (by decide) (hts (.fieldLink RX4 38 "LeaseDeskModel" "wishes" "[I") (by decide +kernel)) (fun _ h9 => h9) rfl dX4_inRow_35 ?_
      refine lv_iload_n hx hb dX4_inRow_38 rfl (lv_at hl 5 rfl) ?_
      refine lv_bipush (v := 6) hx hb dX4_inRow_39 (by decide) ?_
      refine lv_imul hx hb dX4_inRow_41 ?_
      refine lv_iload hx hb dX4_inRow_42 (lv_at hl 0 rfl) ?_
      refine lv_iadd hx hb dX4_inRow_44 ?_
      refine wd_re (y := nI (i * 6 + o)) (ml_ix i o) ?_
      refine wd_iald (O := (mdO G)) hx hb hK hP (md_lt (by omega)) 0 (mE_10 _) rfl (i := (i * 6 + o)) rfl (by omega) (by decide) dX4_inRow_45 ?_
      refine lv_if_le (tgt := 72) hx hb dX4_inRow_46 (by decide) (fun c7 => ?_) (fun c7 => ?_)
      · refine lv_iinc (v := nI (o + 1)) (lv' := [(6, .int (nI (o + 1))), (5, .int v), (4, .int (M 10 (i * 6 + j))), (3, .int (nI j)), (0, .ref (wa (mdO G) 0)), (1, .int (nI i)), (2, .int x)]) hx hb dX4_inRow_72 hl (k := 0) rfl (nI_1 o) (by decide) rfl (fun ls hl => ?_)
        refine lv_goto (tgt := 27) hx hb dX4_inRow_75 (by decide) ?_
        exact ih (o + 1) N v ls H locs ⟨by omega, by rw [← h4]; simp only [cnt]; rw [if_pos (show wsh M i o ≤ 0 from c7)], hP, hS, lv_sub hl [0, 1, 2, 3, 4, 5, 6] rfl⟩
      · refine lv_aload_n hx hb dX4_inRow_49 rfl (lv_at hl 4 rfl) ?_
        refine wd_get (O := (mdO G)) (v := .ref (wa (mdO G) 10)) hx hb hts hi4 hown hK hP (md_lt (by omega)) mE_0 rfl 12 (by decide) (hts (.fieldLink RX4 38 "LeaseDeskModel" "wishes" "[I") (by decide +kernel)) (fun _ h9 => h9) rfl dX4_inRow_50 ?_
        refine lv_iload_n hx hb dX4_inRow_53 rfl (lv_at hl 5 rfl) ?_
        refine lv_bipush (v := 6) hx hb dX4_inRow_54 (by decide) ?_
        refine lv_imul hx hb dX4_inRow_56 ?_
        refine lv_iload hx hb dX4_inRow_57 (lv_at hl 0 rfl) ?_
        refine lv_iadd hx hb dX4_inRow_59 ?_
        refine wd_re (y := nI (i * 6 + o)) (ml_ix i o) ?_
        refine wd_iald (O := (mdO G)) hx hb hK hP (md_lt (by omega)) 0 (mE_10 _) rfl (i := (i * 6 + o)) rfl (by omega) (by decide) dX4_inRow_60 ?_
        refine lv_iload hx hb dX4_inRow_61 (lv_at hl 2 rfl) ?_
        refine lv_icmp_ge (tgt := 72) hx hb dX4_inRow_63 (by decide) (fun c8 => ?_) (fun c8 => ?_)
        · refine lv_iinc (v := nI (o + 1)) (lv' := [(6, .int (nI (o + 1))), (5, .int v), (4, .int (M 10 (i * 6 + j))), (3, .int (nI j)), (0, .ref (wa (mdO G) 0)), (1, .int (nI i)), (2, .int x)]) hx hb dX4_inRow_72 hl (k := 0) rfl (nI_1 o) (by decide) rfl (fun ls hl => ?_)
          refine lv_goto (tgt := 27) hx hb dX4_inRow_75 (by decide) ?_
          exact ih (o + 1) N v ls H locs ⟨by omega, by rw [← h4]; simp only [cnt]; rw [if_neg (show ¬ wsh M i o ≤ 0 from c7), if_pos (show M 10 (i * 6 + j) ≤ wsh M i o from c8)], hP, hS, lv_sub hl [0, 1, 2, 3, 4, 5, 6] rfl⟩
        · refine lv_iload hx hb dX4_inRow_66 (lv_at hl 1 rfl) ?_
          refine lv_iconst (v := 1) hx hb dX4_inRow_68 (by decide) ?_
          refine lv_iadd hx hb dX4_inRow_69 ?_
          refine lv_istore (lv' := [(5, .int (v + 1)), (6, .int (nI o)), (4, .int (M 10 (i * 6 + j))), (3, .int (nI j)), (0, .ref (wa (mdO G) 0)), (1, .int (nI i)), (2, .int x)]) hx hb dX4_inRow_70 hl (by decide) rfl (fun ls hl => ?_)
          refine lv_iinc (v := nI (o + 1)) (lv' := [(6, .int (nI (o + 1))), (5, .int (v + 1)), (4, .int (M 10 (i * 6 + j))), (3, .int (nI j)), (0, .ref (wa (mdO G) 0)), (1, .int (nI i)), (2, .int x)]) hx hb dX4_inRow_72 hl (k := 1) rfl (nI_1 o) (by decide) rfl (fun ls hl => ?_)
          refine lv_goto (tgt := 27) hx hb dX4_inRow_75 (by decide) ?_
          exact ih (o + 1) N (v + 1) ls H locs ⟨by omega, by rw [← h4]; simp only [cnt]; rw [if_neg (show ¬ wsh M i o ≤ 0 from c7), if_neg (show ¬ M 10 (i * 6 + j) ≤ wsh M i o from c8)], hP, hS, lv_sub hl [0, 1, 2, 3, 4, 5, 6] rfl⟩
set_option maxRecDepth 100000 in
set_option maxHeartbeats 4000000 in
theorem c_X4_over {l : Launch} {G : MG} (hj : wj (mdO G)) {M : Mem} (sz : Nat) (i : Nat) (hi : i < 4) : Met l yX4_over wsX4_over ({ frames := 1, cells := 0, slots := 0, locals := 26 }) (va_Pc [.ref (wa (mdO G) 0), .int (nI i)] (wp (mdO G) sz M)) (wQv (mdO G) sz (ovM M i)) 0 0 (wA (mdO G) sz) := by
  rcases inR_cases (wsh (up M 5 i 0) i) 0 6 0 with hq | ⟨j, hj6, hq⟩
  · refine wd_ofW (O := (mdO G)) (M := M) (Qc := fun z => wQv (mdO G) z (ovM M i)) (cc := cX4_over) (maxL := 3) (ret := none) (lv := [(0, .ref (wa (mdO G) 0)), (1, .int (nI i))]) (by decide) rfl (Nat.le_of_ble_eq_true rfl) rfl ?_
    intro p e s m below meth c ls hx hb hr hml hown hts hlocks hP hK hS hl
    have hi4 : ∀ w ∈ wsX40, w ∈ wsX4_over := by decide +kernel
    refine lv_aload_n hx hb dX4_over_0 rfl (lv_at hl 0 rfl) ?_
    refine wd_get (O := (mdO G)) (v := .ref (wa (mdO G) 5)) hx hb hts hi4 hown hK hP (md_lt (by omega)) mE_0 rfl 7 (by decide) (hts (.fieldLink RX4 23 "LeaseDeskModel" "has" "[I") (by decide +kernel)) (fun _ h9 => h9) rfl dX4_over_1 ?_
    refine lv_iload_n hx hb dX4_over_4 rfl (lv_at hl 1 rfl) ?_
    refine lv_iconst (v := 0) hx hb dX4_over_5 (by decide) ?_
    refine wd_iast (O := (mdO G)) hj hx hb hK hP hS (md_lt (by omega)) 0 mE_5 rfl (i := i) rfl (by omega) (by decide) dX4_over_6 (fun H locs hP hS => ?_)
    refine lv_aload_n hx hb dX4_over_7 rfl (lv_at hl 0 rfl) ?_
    refine lv_iload_n hx hb dX4_over_8 rfl (lv_at hl 1 rfl) ?_
    refine lv_iconst (v := 0) hx hb dX4_over_9 (by decide) ?_
    refine wd_ci (O := (mdO G)) hS (va_runV (As := [.int (nI i), .int 0]) (rest := []) ⟨hx, hb, hml, hown, hts⟩ (c_X4_inRow (G := G) hj H.size i 0 (by omega)) (cwV 2 hts gX4_over_X4_inRow rfl rfl rfl (by decide +kernel) ⟨Nat.le_of_ble_eq_true rfl, Nat.le_of_ble_eq_true rfl⟩) (wd_pre hK hP (md_lt (by omega)) mE_0 rfl) rfl rfl hl.1 rfl (lv_room (Nat.le_of_ble_eq_true rfl)) dX4_over_10 ⟨Nat.le_of_ble_eq_true rfl, Nat.le_of_ble_eq_true rfl⟩) (fun H locs hP hS => ?_)
    refine wd_re (y := (-1)) (hq) ?_
    refine lv_istore_n (lv' := [(2, .int ((-1))), (0, .ref (wa (mdO G) 0)), (1, .int (nI i))]) hx hb dX4_over_13 rfl hl (by decide) rfl (fun ls hl => ?_)
    refine lv_iload_n hx hb dX4_over_14 rfl (lv_at hl 0 rfl) ?_
    refine lv_if_lt (tgt := 35) hx hb dX4_over_15 (by decide) (fun c1 => ?_) (fun c1 => absurd (by decide) c1)
    exact wd_vret (O := (mdO G)) hx hb hr hlocks hK hP hS dX4_over_35 (by unfold ovM inV; rw [hq]; rfl)
  · refine wd_ofW (O := (mdO G)) (M := M) (Qc := fun z => wQv (mdO G) z (ovM M i)) (cc := cX4_over) (maxL := 3) (ret := none) (lv := [(0, .ref (wa (mdO G) 0)), (1, .int (nI i))]) (by decide) rfl (Nat.le_of_ble_eq_true rfl) rfl ?_
    intro p e s m below meth c ls hx hb hr hml hown hts hlocks hP hK hS hl
    have hi4 : ∀ w ∈ wsX40, w ∈ wsX4_over := by decide +kernel
    refine lv_aload_n hx hb dX4_over_0 rfl (lv_at hl 0 rfl) ?_
    refine wd_get (O := (mdO G)) (v := .ref (wa (mdO G) 5)) hx hb hts hi4 hown hK hP (md_lt (by omega)) mE_0 rfl 7 (by decide) (hts (.fieldLink RX4 23 "LeaseDeskModel" "has" "[I") (by decide +kernel)) (fun _ h9 => h9) rfl dX4_over_1 ?_
    refine lv_iload_n hx hb dX4_over_4 rfl (lv_at hl 1 rfl) ?_
    refine lv_iconst (v := 0) hx hb dX4_over_5 (by decide) ?_
    refine wd_iast (O := (mdO G)) hj hx hb hK hP hS (md_lt (by omega)) 0 mE_5 rfl (i := i) rfl (by omega) (by decide) dX4_over_6 (fun H locs hP hS => ?_)
    refine lv_aload_n hx hb dX4_over_7 rfl (lv_at hl 0 rfl) ?_
    refine lv_iload_n hx hb dX4_over_8 rfl (lv_at hl 1 rfl) ?_
    refine lv_iconst (v := 0) hx hb dX4_over_9 (by decide) ?_
    refine wd_ci (O := (mdO G)) hS (va_runV (As := [.int (nI i), .int 0]) (rest := []) ⟨hx, hb, hml, hown, hts⟩ (c_X4_inRow (G := G) hj H.size i 0 (by omega)) (cwV 2 hts gX4_over_X4_inRow rfl rfl rfl (by decide +kernel) ⟨Nat.le_of_ble_eq_true rfl, Nat.le_of_ble_eq_true rfl⟩) (wd_pre hK hP (md_lt (by omega)) mE_0 rfl) rfl rfl hl.1 rfl (lv_room (Nat.le_of_ble_eq_true rfl)) dX4_over_10 ⟨Nat.le_of_ble_eq_true rfl, Nat.le_of_ble_eq_true rfl⟩) (fun H locs hP hS => ?_)
    refine wd_re (y := nI j) (hq) ?_
    refine lv_istore_n (lv' := [(2, .int (nI j)), (0, .ref (wa (mdO G) 0)), (1, .int (nI i))]) hx hb dX4_over_13 rfl hl (by decide) rfl (fun ls hl => ?_)
    refine lv_iload_n hx hb dX4_over_14 rfl (lv_at hl 0 rfl) ?_
    refine lv_if_lt (tgt := 35) hx hb dX4_over_15 (by decide) (fun c2 => absurd c2 (nI_pos (by omega))) (fun c2 => ?_)
    refine lv_aload_n hx hb dX4_over_18 rfl (lv_at hl 1 rfl) ?_
    refine lv_iload_n hx hb dX4_over_19 rfl (lv_at hl 2 rfl) ?_
    refine lv_iload_n hx hb dX4_over_20 rfl (lv_at hl 0 rfl) ?_
    refine lv_aload_n hx hb dX4_over_21 rfl (lv_at hl 1 rfl) ?_
    refine wd_get (O := (mdO G)) (v := .ref (wa (mdO G) 11)) hx hb hts hi4 hown hK hP (md_lt (by omega)) mE_0 rfl 13 (by decide) (hts (.fieldLink RX4 41 "LeaseDeskModel" "wished" "[I") (by decide +kernel)) (fun _ h9 => h9) rfl dX4_over_22 ?_
    refine lv_iload_n hx hb dX4_over_25 rfl (lv_at hl 2 rfl) ?_
    refine lv_bipush (v := 6) hx hb dX4_over_26 (by decide) ?_
    refine lv_imul hx hb dX4_over_28 ?_
    refine lv_iload_n hx hb dX4_over_29 rfl (lv_at hl 0 rfl) ?_
    refine lv_iadd hx hb dX4_over_30 ?_
    refine wd_re (y := nI (i * 6 + j)) (ml_ix i j) ?_
    refine wd_iald (O := (mdO G)) hx hb hK hP (md_lt (by omega)) 0 (mE_11 _) rfl (i := (i * 6 + j)) rfl (by omega) (by decide) dX4_over_31 ?_
    refine wd_cv (O := (mdO G)) hS (va_runV (As := [.int (nI i), .int (nI j), .int ((up M 5 i 0) 11 ((i * 6 + j)))]) (rest := []) ⟨hx, hb, hml, hown, hts⟩ (c_X4_lend (G := G) hj H.size i j ((up M 5 i 0) 11 ((i * 6 + j))) (by omega) (by omega)) (cwV 3 hts gX4_over_X4_lend rfl rfl rfl (by decide +kernel) ⟨Nat.le_of_ble_eq_true rfl, Nat.le_of_ble_eq_true rfl⟩) (wd_pre hK hP (md_lt (by omega)) mE_0 rfl) rfl rfl hl.1 rfl (lv_room (Nat.le_of_ble_eq_true rfl)) dX4_over_32 ⟨Nat.le_of_ble_eq_true rfl, Nat.le_of_ble_eq_true rfl⟩) (fun H locs hP hS => ?_)
    exact wd_vret (O := (mdO G)) hx hb hr hlocks hK hP hS dX4_over_35 (by unfold ovM inV; rw [hq, dN_nI (by decide) (by omega)])
set_option maxRecDepth 100000 in
set_option maxHeartbeats 4000000 in
theorem c_X4_gone {l : Launch} {G : MG} (hj : wj (mdO G)) {M : Mem} (sz : Nat) (i : Nat) (hi : i < 6) : Met l yX4_gone wsX4_gone ({ frames := 2, cells := 0, slots := 0, locals := 48 }) (va_Pc [.ref (wa (mdO G) 0), .int (nI i)] (wp (mdO G) sz M)) (wQi (mdO G) sz (goV M i) (goM M i)) 0 0 (wA (mdO G) sz) := by
  refine wd_ofW (O := (mdO G)) (M := M) (Qc := fun z => wQi (mdO G) z (goV M i) (goM M i)) (cc := cX4_gone) (maxL := 4) (ret := (some .int)) (lv := [(0, .ref (wa (mdO G) 0)), (1, .int (nI i))]) (by decide) rfl (Nat.le_of_ble_eq_true rfl) rfl ?_
  intro p e s m below meth c ls hx hb hr hml hown hts hlocks hP hK hS hl
  have hi4 : ∀ w ∈ wsX40, w ∈ wsX4_gone := by decide +kernel
  refine lv_iconst (v := 0) hx hb dX4_gone_0 (by decide) ?_
  refine lv_istore_n (lv' := [(2, .int 0), (0, .ref (wa (mdO G) 0)), (1, .int (nI i))]) hx hb dX4_gone_1 rfl hl (by decide) rfl (fun ls hl => ?_)
  refine wl_loop (pc := 2) (fun k j N v ls H locs => (j + k = 4) ∧ (gwM i k j N = gwM i 4 0 M) ∧ va_P (wD (mdO G)) vwCl (wd (mdO G) N) H ∧ va_S (wA (mdO G) s.heap.size) s.heap H locs ∧ lv_has ls 4 [(2, .int (nI j)), (0, .ref (wa (mdO G) 0)), (1, .int (nI i))]) ?_ ?_ 4 0 M 0 ⟨by omega, rfl, hP, hS, lv_sub hl [0, 1, 2] rfl⟩
  · rintro j N v ls H locs ⟨h1, h2, hP, hS, hl⟩
    refine lv_iload_n hx hb dX4_gone_2 rfl (lv_at hl 0 rfl) ?_
    refine lv_iconst (v := 4) hx hb dX4_gone_3 (by decide) ?_
    refine lv_icmp_ge (tgt := 25) hx hb dX4_gone_4 (by decide) (fun c1 => ?_) (fun c1 => absurd (show nI 4 ≤ nI j from nI_le (by omega) (by omega)) c1)
    refine lv_iconst (v := 0) hx hb dX4_gone_25 (by decide) ?_
    refine lv_istore_n (lv' := [(2, .int 0), (0, .ref (wa (mdO G) 0)), (1, .int (nI i))]) hx hb dX4_gone_26 rfl hl (by decide) rfl (fun ls hl => ?_)
    refine lv_iconst (v := 0) hx hb dX4_gone_27 (by decide) ?_
    refine lv_istore_n (lv' := [(3, .int 0), (2, .int 0), (0, .ref (wa (mdO G) 0)), (1, .int (nI i))]) hx hb dX4_gone_28 rfl hl (by decide) rfl (fun ls hl => ?_)
    refine wl_loop (pc := 29) (fun k j N v ls H locs => (j + k = 4) ∧ (gnM i k j N = gnM i 4 0 (gwM i 4 0 M)) ∧ (gnV i k j N v = goV M i) ∧ va_P (wD (mdO G)) vwCl (wd (mdO G) N) H ∧ va_S (wA (mdO G) s.heap.size) s.heap H locs ∧ lv_has ls 4 [(3, .int (nI j)), (2, .int v), (0, .ref (wa (mdO G) 0)), (1, .int (nI i))]) ?_ ?_ 4 0 N 0 ⟨by omega, by rw [← h2]; rfl, by unfold goV; rw [← h2]; rfl, hP, hS, lv_sub hl [0, 1, 2, 3] rfl⟩
    · rintro j N v ls H locs ⟨h1, h2, h3, hP, hS, hl⟩
      refine lv_iload_n hx hb dX4_gone_29 rfl (lv_at hl 0 rfl) ?_
      refine lv_iconst (v := 4) hx hb dX4_gone_30 (by decide) ?_
      refine lv_icmp_ge (tgt := 64) hx hb dX4_gone_31 (by decide) (fun c2 => ?_) (fun c2 => absurd (show nI 4 ≤ nI j from nI_le (by omega) (by omega)) c2)
      refine lv_aload_n hx hb dX4_gone_64 rfl (lv_at hl 2 rfl) ?_
      refine wd_get (O := (mdO G)) (v := .ref (wa (mdO G) 1)) hx hb hts hi4 hown hK hP (md_lt (by omega)) mE_0 rfl 3 (by decide) (hts (.fieldLink RX4 9 "LeaseDeskModel" "there" "[Z") (by decide +kernel)) (fun _ h9 => h9) rfl dX4_gone_65 ?_
      refine lv_iload_n hx hb dX4_gone_68 rfl (lv_at hl 3 rfl) ?_
      refine lv_iconst (v := 0) hx hb dX4_gone_69 (by decide) ?_
      refine wd_zast (O := (mdO G)) hj hx hb hK hP hS (md_lt (by omega)) 1 mE_z rfl (i := i) rfl (by omega) (by decide) (by decide) dX4_gone_70 (fun H locs hP hS => ?_)
      refine lv_iload_n hx hb dX4_gone_71 rfl (lv_at hl 1 rfl) ?_
      exact wd_iret (O := (mdO G)) hx hb hr hlocks hK hP hS rfl dX4_gone_72 (h3) (by unfold goM; rw [← h2]; rfl)
    · rintro k j N v ls H locs ih ⟨h1, h2, h3, hP, hS, hl⟩
      refine lv_iload_n hx hb dX4_gone_29 rfl (lv_at hl 0 rfl) ?_
      refine lv_iconst (v := 4) hx hb dX4_gone_30 (by decide) ?_
      refine lv_icmp_ge (tgt := 64) hx hb dX4_gone_31 (by decide) (fun c3 => absurd c3 (show ¬ nI 4 ≤ nI j from nI_ge (by omega) (by omega))) (fun c3 => ?_)
      refine lv_aload_n hx hb dX4_gone_34 rfl (lv_at hl 2 rfl) ?_
      refine wd_get (O := (mdO G)) (v := .ref (wa (mdO G) 5)) hx hb hts hi4 hown hK hP (md_lt (by omega)) mE_0 rfl 7 (by decide) (hts (.fieldLink RX4 23 "LeaseDeskModel" "has" "[I") (by decide +kernel)) (fun _ h9 => h9) rfl dX4_gone_35 ?_
      refine lv_iload_n hx hb dX4_gone_38 rfl (lv_at hl 0 rfl) ?_
      refine wd_iald (O := (mdO G)) hx hb hK hP (md_lt (by omega)) 0 (mE_5 _) rfl (i := j) rfl (by omega) (by decide) dX4_gone_39 ?_
      refine lv_iload_n hx hb dX4_gone_40 rfl (lv_at hl 3 rfl) ?_
      refine lv_iconst (v := 1) hx hb dX4_gone_41 (by decide) ?_
      refine lv_iadd hx hb dX4_gone_42 ?_
      refine lv_icmp_eq (tgt := 49) hx hb dX4_gone_43 (by decide) (fun c4 => ?_) (fun c4 => ?_)
      · refine lv_iload_n hx hb dX4_gone_49 rfl (lv_at hl 1 rfl) ?_
        refine lv_iconst (v := 1) hx hb dX4_gone_50 (by decide) ?_
        refine lv_iadd hx hb dX4_gone_51 ?_
        refine lv_istore_n (lv' := [(2, .int (v + 1)), (3, .int (nI j)), (0, .ref (wa (mdO G) 0)), (1, .int (nI i))]) hx hb dX4_gone_52 rfl hl (by decide) rfl (fun ls hl => ?_)
        refine lv_aload_n hx hb dX4_gone_53 rfl (lv_at hl 2 rfl) ?_
        refine lv_iload_n hx hb dX4_gone_54 rfl (lv_at hl 1 rfl) ?_
        refine wd_cv (O := (mdO G)) hS (va_runV (As := [.int (nI j)]) (rest := []) ⟨hx, hb, hml, hown, hts⟩ (c_X4_over (G := G) hj H.size j (by omega)) (cwV 1 hts gX4_gone_X4_over rfl rfl rfl (by decide +kernel) ⟨Nat.le_of_ble_eq_true rfl, Nat.le_of_ble_eq_true rfl⟩) (wd_pre hK hP (md_lt (by omega)) mE_0 rfl) rfl rfl hl.1 rfl (lv_room (Nat.le_of_ble_eq_true rfl)) dX4_gone_55 ⟨Nat.le_of_ble_eq_true rfl, Nat.le_of_ble_eq_true rfl⟩) (fun H locs hP hS => ?_)
        refine lv_iinc (v := nI (j + 1)) (lv' := [(3, .int (nI (j + 1))), (2, .int (v + 1)), (0, .ref (wa (mdO G) 0)), (1, .int (nI i))]) hx hb dX4_gone_58 hl (k := 1) rfl (nI_1 j) (by decide) rfl (fun ls hl => ?_)
        refine lv_goto (tgt := 29) hx hb dX4_gone_61 (by decide) ?_
        exact ih (j + 1) (ovM N j) (v + 1) ls H locs ⟨by omega, by rw [← h2]; simp only [gnM, if_pos c4], by rw [← h3]; simp only [gnV, if_pos c4], hP, hS, lv_sub hl [0, 1, 2, 3] rfl⟩
      · refine lv_goto (tgt := 58) hx hb dX4_gone_46 (by decide) ?_
        refine lv_iinc (v := nI (j + 1)) (lv' := [(3, .int (nI (j + 1))), (2, .int v), (0, .ref (wa (mdO G) 0)), (1, .int (nI i))]) hx hb dX4_gone_58 hl (k := 0) rfl (nI_1 j) (by decide) rfl (fun ls hl => ?_)
        refine lv_goto (tgt := 29) hx hb dX4_gone_61 (by decide) ?_
        exact ih (j + 1) N v ls H locs ⟨by omega, by rw [← h2]; simp only [gnM, if_neg c4], by rw [← h3]; simp only [gnV, if_neg c4], hP, hS, lv_sub hl [0, 1, 2, 3] rfl⟩
  · rintro k j N v ls H locs ih ⟨h1, h2, hP, hS, hl⟩
    refine lv_iload_n hx hb dX4_gone_2 rfl (lv_at hl 0 rfl) ?_
    refine lv_iconst (v := 4) hx hb dX4_gone_3 (by decide) ?_
    refine lv_icmp_ge (tgt := 25) hx hb dX4_gone_4 (by decide) (fun c5 => absurd c5 (show ¬ nI 4 ≤ nI j from nI_ge (by omega) (by omega))) (fun c5 => ?_)
    refine lv_aload_n hx hb dX4_gone_7 rfl (lv_at hl 1 rfl) ?_
    refine wd_get (O := (mdO G)) (v := .ref (wa (mdO G) 10)) hx hb hts hi4 hown hK hP (md_lt (by omega)) mE_0 rfl 12 (by decide) (hts (.fieldLink RX4 38 "LeaseDeskModel" "wishes" "[I") (by decide +kernel)) (fun _ h9 => h9) rfl dX4_gone_8 ?_
    refine lv_iload_n hx hb dX4_gone_11 rfl (lv_at hl 0 rfl) ?_
    refine lv_bipush (v := 6) hx hb dX4_gone_12 (by decide) ?_
    refine lv_imul hx hb dX4_gone_14 ?_
    refine lv_iload_n hx hb dX4_gone_15 rfl (lv_at hl 2 rfl) ?_
    refine lv_iadd hx hb dX4_gone_16 ?_
    refine wd_re (y := nI (j * 6 + i)) (ml_ix j i) ?_
    refine lv_iconst (v := 0) hx hb dX4_gone_17 (by decide) ?_
    refine wd_iast (O := (mdO G)) hj hx hb hK hP hS (md_lt (by omega)) 0 mE_10 rfl (i := (j * 6 + i)) rfl (by omega) (by decide) dX4_gone_18 (fun H locs hP hS => ?_)
    refine lv_iinc (v := nI (j + 1)) (lv' := [(2, .int (nI (j + 1))), (0, .ref (wa (mdO G) 0)), (1, .int (nI i))]) hx hb dX4_gone_19 hl (k := 0) rfl (nI_1 j) (by decide) rfl (fun ls hl => ?_)
    refine lv_goto (tgt := 2) hx hb dX4_gone_22 (by decide) ?_
    exact ih (j + 1) (up N 10 ((j * 6 + i)) 0) v ls H locs ⟨by omega, by rw [← h2]; rfl, hP, hS, lv_sub hl [0, 1, 2] rfl⟩
set_option maxRecDepth 100000 in
set_option maxHeartbeats 4000000 in
theorem c_X4_open {l : Launch} {G : MG} (hj : wj (mdO G)) {M : Mem} (sz : Nat) : Met l yX4_open wsX4_open ({ frames := 0, cells := 0, slots := 0, locals := 0 }) (va_Pc [.ref (wa (mdO G) 0)] (wp (mdO G) sz M)) (wQi (mdO G) sz (mopV M) (mopM M)) 0 0 (wA (mdO G) sz) := by
  refine wd_ofW (O := (mdO G)) (M := M) (Qc := fun z => wQi (mdO G) z (mopV M) (mopM M)) (cc := cX4_open) (maxL := 2) (ret := (some .int)) (lv := [(0, .ref (wa (mdO G) 0))]) (by decide) rfl (Nat.le_of_ble_eq_true rfl) rfl ?_
  intro p e s m below meth c ls hx hb hr hml hown hts hlocks hP hK hS hl
  have hi4 : ∀ w ∈ wsX40, w ∈ wsX4_open := by decide +kernel
  refine lv_iconst (v := 0) hx hb dX4_open_0 (by decide) ?_
  refine lv_istore_n (lv' := [(1, .int 0), (0, .ref (wa (mdO G) 0))]) hx hb dX4_open_1 rfl hl (by decide) rfl (fun ls hl => ?_)
  refine wl_loop (pc := 2) (fun k j N v ls H locs => (j + k = 6) ∧ (mfo M k j = mfo M 6 0) ∧ va_P (wD (mdO G)) vwCl (wd (mdO G) M) H ∧ va_S (wA (mdO G) s.heap.size) s.heap H locs ∧ lv_has ls 2 [(1, .int (nI j)), (0, .ref (wa (mdO G) 0))]) ?_ ?_ 6 0 M 0 ⟨by omega, rfl, hP, hS, lv_sub hl [0, 1] rfl⟩
  · rintro j N v ls H locs ⟨h1, h2, hP, hS, hl⟩
    refine lv_iload_n hx hb dX4_open_2 rfl (lv_at hl 0 rfl) ?_
    refine lv_bipush (v := 6) hx hb dX4_open_3 (by decide) ?_
    refine lv_icmp_ge (tgt := 65) hx hb dX4_open_5 (by decide) (fun c1 => ?_) (fun c1 => absurd (show nI 6 ≤ nI j from nI_le (by omega) (by omega)) c1)
    refine lv_aload_n hx hb dX4_open_65 rfl (lv_at hl 1 rfl) ?_
    refine lv_iconst (v := 1) hx hb dX4_open_66 (by decide) ?_
    refine wd_put (O := (mdO G)) (ty := .int) hj hx hb hts hi4 tyX4 tyX4_ok nmX4 hown hK hP hS (md_lt (by omega)) mE_0 rfl 1 (by decide) (hts (.fieldLink RX4 50 "LeaseDeskModel" "thrown" "I") (by decide +kernel)) (fun _ h9 => h9) rfl (by decide +kernel) rfl rfl (Nat.le_of_ble_eq_true rfl) (mE_0.trans rfl) dX4_open_67 (fun H locs hP hS => ?_)
    refine lv_iconst (v := 0) hx hb dX4_open_70 (by decide) ?_
    exact wd_iret (O := (mdO G)) hx hb hr hlocks hK hP hS rfl dX4_open_71 (by unfold mopV; rw [← h2]; rfl) (by unfold mopM; rw [← h2]; rfl)
  · rintro k j N v ls H locs ih ⟨h1, h2, hP, hS, hl⟩
    refine lv_iload_n hx hb dX4_open_2 rfl (lv_at hl 0 rfl) ?_
    refine lv_bipush (v := 6) hx hb dX4_open_3 (by decide) ?_
    refine lv_icmp_ge (tgt := 65) hx hb dX4_open_5 (by decide) (fun c2 => absurd c2 (show ¬ nI 6 ≤ nI j from nI_ge (by omega) (by omega))) (fun c2 => ?_)
    refine lv_aload_n hx hb dX4_open_8 rfl (lv_at hl 1 rfl) ?_
    refine wd_get (O := (mdO G)) (v := .ref (wa (mdO G) 1)) hx hb hts hi4 hown hK hP (md_lt (by omega)) mE_0 rfl 3 (by decide) (hts (.fieldLink RX4 9 "LeaseDeskModel" "there" "[Z") (by decide +kernel)) (fun _ h9 => h9) rfl dX4_open_9 ?_
    refine lv_iload_n hx hb dX4_open_12 rfl (lv_at hl 0 rfl) ?_
    refine wd_zald (O := (mdO G)) hx hb hK hP (md_lt (by omega)) 1 (mE_z _) rfl (i := j) rfl (by omega) (by decide) dX4_open_13 ?_
    refine lv_if_eq (tgt := 20) hx hb dX4_open_14 (by decide) (fun c3 => ?_) (fun c3 => ?_)
    · refine lv_aload_n hx hb dX4_open_20 rfl (lv_at hl 1 rfl) ?_
      refine wd_get (O := (mdO G)) (v := .ref (wa (mdO G) 1)) hx hb hts hi4 hown hK hP (md_lt (by omega)) mE_0 rfl 3 (by decide) (hts (.fieldLink RX4 9 "LeaseDeskModel" "there" "[Z") (by decide +kernel)) (fun _ h9 => h9) rfl dX4_open_21 ?_
      refine lv_iload_n hx hb dX4_open_24 rfl (lv_at hl 0 rfl) ?_
      refine lv_iconst (v := 1) hx hb dX4_open_25 (by decide) ?_
      refine wd_zast (O := (mdO G)) hj hx hb hK hP hS (md_lt (by omega)) 1 mE_z rfl (i := j) rfl (by omega) (by decide) (by decide) dX4_open_26 (fun H locs hP hS => ?_)
      refine lv_aload_n hx hb dX4_open_27 rfl (lv_at hl 1 rfl) ?_
      refine wd_get (O := (mdO G)) (v := .ref (wa (mdO G) 2)) hx hb hts hi4 hown hK hP (md_lt (by omega)) mE_0 rfl 4 (by decide) (hts (.fieldLink RX4 13 "LeaseDeskModel" "signed" "[I") (by decide +kernel)) (fun _ h9 => h9) rfl dX4_open_28 ?_
      refine lv_iload_n hx hb dX4_open_31 rfl (lv_at hl 0 rfl) ?_
      refine lv_aload_n hx hb dX4_open_32 rfl (lv_at hl 1 rfl) ?_
      refine wd_get (O := (mdO G)) (v := .int ((up M 1 j 1) 0 0)) hx hb hts hi4 hown hK hP (md_lt (by omega)) mE_0 rfl 0 (by decide) (hts (.fieldLink RX4 54 "LeaseDeskModel" "time" "I") (by decide +kernel)) (fun _ h9 => h9) rfl dX4_open_33 ?_
      refine wd_iast (O := (mdO G)) hj hx hb hK hP hS (md_lt (by omega)) 0 mE_2 rfl (i := j) rfl (by omega) (by decide) dX4_open_36 (fun H locs hP hS => ?_)
      refine lv_aload_n hx hb dX4_open_37 rfl (lv_at hl 1 rfl) ?_
      refine wd_get (O := (mdO G)) (v := .ref (wa (mdO G) 3)) hx hb hts hi4 hown hK hP (md_lt (by omega)) mE_0 rfl 5 (by decide) (hts (.fieldLink RX4 17 "LeaseDeskModel" "rates" "[I") (by decide +kernel)) (fun _ h9 => h9) rfl dX4_open_38 ?_
      refine lv_iload_n hx hb dX4_open_41 rfl (lv_at hl 0 rfl) ?_
      refine lv_bipush (v := 10) hx hb dX4_open_42 (by decide) ?_
      refine wd_iast (O := (mdO G)) hj hx hb hK hP hS (md_lt (by omega)) 0 mE_3 rfl (i := j) rfl (by omega) (by decide) dX4_open_44 (fun H locs hP hS => ?_)
      refine lv_aload_n hx hb dX4_open_45 rfl (lv_at hl 1 rfl) ?_
      refine wd_get (O := (mdO G)) (v := .ref (wa (mdO G) 4)) hx hb hts hi4 hown hK hP (md_lt (by omega)) mE_0 rfl 6 (by decide) (hts (.fieldLink RX4 20 "LeaseDeskModel" "clocks" "[I") (by decide +kernel)) (fun _ h9 => h9) rfl dX4_open_46 ?_
      refine lv_iload_n hx hb dX4_open_49 rfl (lv_at hl 0 rfl) ?_
      refine lv_iconst (v := 0) hx hb dX4_open_50 (by decide) ?_
      refine wd_iast (O := (mdO G)) hj hx hb hK hP hS (md_lt (by omega)) 0 mE_4 rfl (i := j) rfl (by omega) (by decide) dX4_open_51 (fun H locs hP hS => ?_)
      refine lv_aload_n hx hb dX4_open_52 rfl (lv_at hl 1 rfl) ?_
      refine lv_iconst (v := 0) hx hb dX4_open_53 (by decide) ?_
      refine wd_put (O := (mdO G)) (ty := .int) hj hx hb hts hi4 tyX4 tyX4_ok nmX4 hown hK hP hS (md_lt (by omega)) mE_0 rfl 1 (by decide) (hts (.fieldLink RX4 50 "LeaseDeskModel" "thrown" "I") (by decide +kernel)) (fun _ h9 => h9) rfl (by decide +kernel) rfl rfl (Nat.le_of_ble_eq_true rfl) (mE_0.trans rfl) dX4_open_54 (fun H locs hP hS => ?_)
      refine lv_iload_n hx hb dX4_open_57 rfl (lv_at hl 0 rfl) ?_
      exact wd_iret (O := (mdO G)) hx hb hr hlocks hK hP hS rfl dX4_open_58 (by unfold mopV; rw [← h2]; simp only [mfo, if_pos c3]) (by unfold mopM; rw [← h2]; simp only [mfo, if_pos c3] <;> rfl)
    · refine lv_goto (tgt := 59) hx hb dX4_open_17 (by decide) ?_
      refine lv_iinc (v := nI (j + 1)) (lv' := [(1, .int (nI (j + 1))), (0, .ref (wa (mdO G) 0))]) hx hb dX4_open_59 hl (k := 0) rfl (nI_1 j) (by decide) rfl (fun ls hl => ?_)
      refine lv_goto (tgt := 2) hx hb dX4_open_62 (by decide) ?_
      exact ih (j + 1) N v ls H locs ⟨by omega, by rw [← h2]; simp only [mfo, if_neg c3], hP, hS, lv_sub hl [0, 1] rfl⟩
set_option maxRecDepth 100000 in
set_option maxHeartbeats 4000000 in
theorem c_X4_close {l : Launch} {G : MG} (hj : wj (mdO G)) {M : Mem} (sz : Nat) (x : Int32) : Met l yX4_close wsX4_close ({ frames := 3, cells := 0, slots := 0, locals := 71 }) (va_Pc [.ref (wa (mdO G) 0), .int x] (wp (mdO G) sz M)) (wQi (mdO G) sz (mclV M x) (mclM M x)) 0 0 (wA (mdO G) sz) := by
  rcases op_cases (moV M x) with ho | ⟨j1, ho⟩
  · refine wd_ofW (O := (mdO G)) (M := M) (Qc := fun z => wQi (mdO G) z (mclV M x) (mclM M x)) (cc := cX4_close) (maxL := 2) (ret := (some .int)) (lv := [(0, .ref (wa (mdO G) 0)), (1, .int x)]) (by decide) rfl (Nat.le_of_ble_eq_true rfl) rfl ?_
    intro p e s m below meth c ls hx hb hr hml hown hts hlocks hP hK hS hl
    have hi4 : ∀ w ∈ wsX40, w ∈ wsX4_close := by decide +kernel
    refine lv_aload_n hx hb dX4_close_0 rfl (lv_at hl 0 rfl) ?_
    refine lv_aload_n hx hb dX4_close_1 rfl (lv_at hl 0 rfl) ?_
    refine lv_iload_n hx hb dX4_close_2 rfl (lv_at hl 1 rfl) ?_
    refine wd_ci (O := (mdO G)) hS (va_runV (As := [.int x]) (rest := [.ref (wa (mdO G) 0)]) ⟨hx, hb, hml, hown, hts⟩ (c_X4_isOpen (G := G) hj s.heap.size x ) (cwV 1 hts gX4_close_X4_isOpen rfl rfl rfl (by decide +kernel) ⟨Nat.le_of_ble_eq_true rfl, Nat.le_of_ble_eq_true rfl⟩) (wd_pre hK hP (md_lt (by omega)) mE_0 rfl) rfl rfl hl.1 rfl (lv_room (Nat.le_of_ble_eq_true rfl)) dX4_close_3 ⟨Nat.le_of_ble_eq_true rfl, Nat.le_of_ble_eq_true rfl⟩) (fun H locs hP hS => ?_)
    refine wd_re (y := 0) (by rw [ho]; rfl) ?_
    refine lv_if_eq (tgt := 13) hx hb dX4_close_6 (by decide) (fun c1 => ?_) (fun c1 => absurd rfl c1)
    refine lv_iconst (v := 1) hx hb dX4_close_13 (by decide) ?_
    refine wd_put (O := (mdO G)) (ty := .int) hj hx hb hts hi4 tyX4 tyX4_ok nmX4 hown hK hP hS (md_lt (by omega)) mE_0 rfl 1 (by decide) (hts (.fieldLink RX4 50 "LeaseDeskModel" "thrown" "I") (by decide +kernel)) (fun _ h9 => h9) rfl (by decide +kernel) rfl rfl (Nat.le_of_ble_eq_true rfl) (mE_0.trans rfl) dX4_close_14 (fun H locs hP hS => ?_)
    refine lv_aload_n hx hb dX4_close_17 rfl (lv_at hl 0 rfl) ?_
    refine wd_get (O := (mdO G)) (v := .int ((up M 0 1 1) 0 1)) hx hb hts hi4 hown hK hP (md_lt (by omega)) mE_0 rfl 1 (by decide) (hts (.fieldLink RX4 50 "LeaseDeskModel" "thrown" "I") (by decide +kernel)) (fun _ h9 => h9) rfl dX4_close_18 ?_
    refine wd_re (y := 1) (up_s _ _ _ _) ?_
    refine lv_if_le (tgt := 28) hx hb dX4_close_21 (by decide) (fun c2 => absurd c2 (by decide)) (fun c2 => ?_)
    refine lv_iconst (v := 0) hx hb dX4_close_24 (by decide) ?_
    refine lv_goto (tgt := 33) hx hb dX4_close_25 (by decide) ?_
    exact wd_iret (O := (mdO G)) hx hb hr hlocks hK hP hS rfl dX4_close_33 (by simp only [mclV, ho]) (by simp only [mclM, ho])
  · obtain ⟨hj1, rfl, hon⟩ := moV_some ho
    refine wd_ofW (O := (mdO G)) (M := M) (Qc := fun z => wQi (mdO G) z (mclV M (nI j1)) (mclM M (nI j1))) (cc := cX4_close) (maxL := 2) (ret := (some .int)) (lv := [(0, .ref (wa (mdO G) 0)), (1, .int (nI j1))]) (by decide) rfl (Nat.le_of_ble_eq_true rfl) rfl ?_
    intro p e s m below meth c ls hx hb hr hml hown hts hlocks hP hK hS hl
    have hi4 : ∀ w ∈ wsX40, w ∈ wsX4_close := by decide +kernel
    refine lv_aload_n hx hb dX4_close_0 rfl (lv_at hl 0 rfl) ?_
    refine lv_aload_n hx hb dX4_close_1 rfl (lv_at hl 0 rfl) ?_
    refine lv_iload_n hx hb dX4_close_2 rfl (lv_at hl 1 rfl) ?_
    refine wd_ci (O := (mdO G)) hS (va_runV (As := [.int (nI j1)]) (rest := [.ref (wa (mdO G) 0)]) ⟨hx, hb, hml, hown, hts⟩ (c_X4_isOpen (G := G) hj s.heap.size (nI j1) ) (cwV 1 hts gX4_close_X4_isOpen rfl rfl rfl (by decide +kernel) ⟨Nat.le_of_ble_eq_true rfl, Nat.le_of_ble_eq_true rfl⟩) (wd_pre hK hP (md_lt (by omega)) mE_0 rfl) rfl rfl hl.1 rfl (lv_room (Nat.le_of_ble_eq_true rfl)) dX4_close_3 ⟨Nat.le_of_ble_eq_true rfl, Nat.le_of_ble_eq_true rfl⟩) (fun H locs hP hS => ?_)
    refine wd_re (y := 1) (by rw [ho]; rfl) ?_
    refine lv_if_eq (tgt := 13) hx hb dX4_close_6 (by decide) (fun c3 => absurd c3 (by decide)) (fun c3 => ?_)
    refine lv_iconst (v := 0) hx hb dX4_close_9 (by decide) ?_
    refine lv_goto (tgt := 14) hx hb dX4_close_10 (by decide) ?_
    refine wd_put (O := (mdO G)) (ty := .int) hj hx hb hts hi4 tyX4 tyX4_ok nmX4 hown hK hP hS (md_lt (by omega)) mE_0 rfl 1 (by decide) (hts (.fieldLink RX4 50 "LeaseDeskModel" "thrown" "I") (by decide +kernel)) (fun _ h9 => h9) rfl (by decide +kernel) rfl rfl (Nat.le_of_ble_eq_true rfl) (mE_0.trans rfl) dX4_close_14 (fun H locs hP hS => ?_)
    refine lv_aload_n hx hb dX4_close_17 rfl (lv_at hl 0 rfl) ?_
    refine wd_get (O := (mdO G)) (v := .int ((up M 0 1 0) 0 1)) hx hb hts hi4 hown hK hP (md_lt (by omega)) mE_0 rfl 1 (by decide) (hts (.fieldLink RX4 50 "LeaseDeskModel" "thrown" "I") (by decide +kernel)) (fun _ h9 => h9) rfl dX4_close_18 ?_
    refine wd_re (y := 0) (up_s _ _ _ _) ?_
    refine lv_if_le (tgt := 28) hx hb dX4_close_21 (by decide) (fun c4 => ?_) (fun c4 => absurd (by decide) c4)
    refine lv_aload_n hx hb dX4_close_28 rfl (lv_at hl 0 rfl) ?_
    refine lv_iload_n hx hb dX4_close_29 rfl (lv_at hl 1 rfl) ?_
    refine wd_ci (O := (mdO G)) hS (va_runV (As := [.int (nI j1)]) (rest := []) ⟨hx, hb, hml, hown, hts⟩ (c_X4_gone (G := G) hj H.size j1 (by omega)) (cwV 1 hts gX4_close_X4_gone rfl rfl rfl (by decide +kernel) ⟨Nat.le_of_ble_eq_true rfl, Nat.le_of_ble_eq_true rfl⟩) (wd_pre hK hP (md_lt (by omega)) mE_0 rfl) rfl rfl hl.1 rfl (lv_room (Nat.le_of_ble_eq_true rfl)) dX4_close_30 ⟨Nat.le_of_ble_eq_true rfl, Nat.le_of_ble_eq_true rfl⟩) (fun H locs hP hS => ?_)
    exact wd_iret (O := (mdO G)) hx hb hr hlocks hK hP hS rfl dX4_close_33 (by simp only [mclV, ho]) (by simp only [mclM, ho])
set_option maxRecDepth 100000 in
set_option maxHeartbeats 4000000 in
theorem c_X4_keep {l : Launch} {G : MG} (hj : wj (mdO G)) {M : Mem} (sz : Nat) (x : Int32) : Met l yX4_keep wsX4_keep ({ frames := 1, cells := 0, slots := 0, locals := 21 }) (va_Pc [.ref (wa (mdO G) 0), .int x] (wp (mdO G) sz M)) (wQv (mdO G) sz (mkpM M x)) 0 0 (wA (mdO G) sz) := by
  rcases op_cases (moV M x) with ho | ⟨j1, ho⟩
  · refine wd_ofW (O := (mdO G)) (M := M) (Qc := fun z => wQv (mdO G) z (mkpM M x)) (cc := cX4_keep) (maxL := 2) (ret := none) (lv := [(0, .ref (wa (mdO G) 0)), (1, .int x)]) (by decide) rfl (Nat.le_of_ble_eq_true rfl) rfl ?_
    intro p e s m below meth c ls hx hb hr hml hown hts hlocks hP hK hS hl
    have hi4 : ∀ w ∈ wsX40, w ∈ wsX4_keep := by decide +kernel
    refine lv_aload_n hx hb dX4_keep_0 rfl (lv_at hl 0 rfl) ?_
    refine lv_aload_n hx hb dX4_keep_1 rfl (lv_at hl 0 rfl) ?_
    refine lv_iload_n hx hb dX4_keep_2 rfl (lv_at hl 1 rfl) ?_
    refine wd_ci (O := (mdO G)) hS (va_runV (As := [.int x]) (rest := [.ref (wa (mdO G) 0)]) ⟨hx, hb, hml, hown, hts⟩ (c_X4_isOpen (G := G) hj s.heap.size x ) (cwV 1 hts gX4_keep_X4_isOpen rfl rfl rfl (by decide +kernel) ⟨Nat.le_of_ble_eq_true rfl, Nat.le_of_ble_eq_true rfl⟩) (wd_pre hK hP (md_lt (by omega)) mE_0 rfl) rfl rfl hl.1 rfl (lv_room (Nat.le_of_ble_eq_true rfl)) dX4_keep_3 ⟨Nat.le_of_ble_eq_true rfl, Nat.le_of_ble_eq_true rfl⟩) (fun H locs hP hS => ?_)
    refine wd_re (y := 0) (by rw [ho]; rfl) ?_
    refine lv_if_eq (tgt := 13) hx hb dX4_keep_6 (by decide) (fun c1 => ?_) (fun c1 => absurd rfl c1)
    refine lv_iconst (v := 1) hx hb dX4_keep_13 (by decide) ?_
    refine wd_put (O := (mdO G)) (ty := .int) hj hx hb hts hi4 tyX4 tyX4_ok nmX4 hown hK hP hS (md_lt (by omega)) mE_0 rfl 1 (by decide) (hts (.fieldLink RX4 50 "LeaseDeskModel" "thrown" "I") (by decide +kernel)) (fun _ h9 => h9) rfl (by decide +kernel) rfl rfl (Nat.le_of_ble_eq_true rfl) (mE_0.trans rfl) dX4_keep_14 (fun H locs hP hS => ?_)
    refine lv_aload_n hx hb dX4_keep_17 rfl (lv_at hl 0 rfl) ?_
    refine wd_get (O := (mdO G)) (v := .int ((up M 0 1 1) 0 1)) hx hb hts hi4 hown hK hP (md_lt (by omega)) mE_0 rfl 1 (by decide) (hts (.fieldLink RX4 50 "LeaseDeskModel" "thrown" "I") (by decide +kernel)) (fun _ h9 => h9) rfl dX4_keep_18 ?_
    refine wd_re (y := 1) (up_s _ _ _ _) ?_
    refine lv_if_ne (tgt := 34) hx hb dX4_keep_21 (by decide) (fun c2 => ?_) (fun c2 => absurd c2 (by decide))
    exact wd_vret (O := (mdO G)) hx hb hr hlocks hK hP hS dX4_keep_34 (by simp only [mkpM, ho])
  · obtain ⟨hj1, rfl, hon⟩ := moV_some ho
    refine wd_ofW (O := (mdO G)) (M := M) (Qc := fun z => wQv (mdO G) z (mkpM M (nI j1))) (cc := cX4_keep) (maxL := 2) (ret := none) (lv := [(0, .ref (wa (mdO G) 0)), (1, .int (nI j1))]) (by decide) rfl (Nat.le_of_ble_eq_true rfl) rfl ?_
    intro p e s m below meth c ls hx hb hr hml hown hts hlocks hP hK hS hl
    have hi4 : ∀ w ∈ wsX40, w ∈ wsX4_keep := by decide +kernel
    refine lv_aload_n hx hb dX4_keep_0 rfl (lv_at hl 0 rfl) ?_
    refine lv_aload_n hx hb dX4_keep_1 rfl (lv_at hl 0 rfl) ?_
    refine lv_iload_n hx hb dX4_keep_2 rfl (lv_at hl 1 rfl) ?_
    refine wd_ci (O := (mdO G)) hS (va_runV (As := [.int (nI j1)]) (rest := [.ref (wa (mdO G) 0)]) ⟨hx, hb, hml, hown, hts⟩ (c_X4_isOpen (G := G) hj s.heap.size (nI j1) ) (cwV 1 hts gX4_keep_X4_isOpen rfl rfl rfl (by decide +kernel) ⟨Nat.le_of_ble_eq_true rfl, Nat.le_of_ble_eq_true rfl⟩) (wd_pre hK hP (md_lt (by omega)) mE_0 rfl) rfl rfl hl.1 rfl (lv_room (Nat.le_of_ble_eq_true rfl)) dX4_keep_3 ⟨Nat.le_of_ble_eq_true rfl, Nat.le_of_ble_eq_true rfl⟩) (fun H locs hP hS => ?_)
    refine wd_re (y := 1) (by rw [ho]; rfl) ?_
    refine lv_if_eq (tgt := 13) hx hb dX4_keep_6 (by decide) (fun c3 => absurd c3 (by decide)) (fun c3 => ?_)
    refine lv_iconst (v := 0) hx hb dX4_keep_9 (by decide) ?_
    refine lv_goto (tgt := 14) hx hb dX4_keep_10 (by decide) ?_
    refine wd_put (O := (mdO G)) (ty := .int) hj hx hb hts hi4 tyX4 tyX4_ok nmX4 hown hK hP hS (md_lt (by omega)) mE_0 rfl 1 (by decide) (hts (.fieldLink RX4 50 "LeaseDeskModel" "thrown" "I") (by decide +kernel)) (fun _ h9 => h9) rfl (by decide +kernel) rfl rfl (Nat.le_of_ble_eq_true rfl) (mE_0.trans rfl) dX4_keep_14 (fun H locs hP hS => ?_)
    refine lv_aload_n hx hb dX4_keep_17 rfl (lv_at hl 0 rfl) ?_
    refine wd_get (O := (mdO G)) (v := .int ((up M 0 1 0) 0 1)) hx hb hts hi4 hown hK hP (md_lt (by omega)) mE_0 rfl 1 (by decide) (hts (.fieldLink RX4 50 "LeaseDeskModel" "thrown" "I") (by decide +kernel)) (fun _ h9 => h9) rfl dX4_keep_18 ?_
    refine wd_re (y := 0) (up_s _ _ _ _) ?_
    refine lv_if_ne (tgt := 34) hx hb dX4_keep_21 (by decide) (fun c4 => absurd rfl c4) (fun c4 => ?_)
    refine lv_aload_n hx hb dX4_keep_24 rfl (lv_at hl 0 rfl) ?_
    refine wd_get (O := (mdO G)) (v := .ref (wa (mdO G) 2)) hx hb hts hi4 hown hK hP (md_lt (by omega)) mE_0 rfl 4 (by decide) (hts (.fieldLink RX4 13 "LeaseDeskModel" "signed" "[I") (by decide +kernel)) (fun _ h9 => h9) rfl dX4_keep_25 ?_
    refine lv_iload_n hx hb dX4_keep_28 rfl (lv_at hl 1 rfl) ?_
    refine lv_aload_n hx hb dX4_keep_29 rfl (lv_at hl 0 rfl) ?_
    refine wd_get (O := (mdO G)) (v := .int ((up M 0 1 0) 0 0)) hx hb hts hi4 hown hK hP (md_lt (by omega)) mE_0 rfl 0 (by decide) (hts (.fieldLink RX4 54 "LeaseDeskModel" "time" "I") (by decide +kernel)) (fun _ h9 => h9) rfl dX4_keep_30 ?_
    refine wd_iast (O := (mdO G)) hj hx hb hK hP hS (md_lt (by omega)) 0 mE_2 rfl (i := j1) rfl (by omega) (by decide) dX4_keep_33 (fun H locs hP hS => ?_)
    exact wd_vret (O := (mdO G)) hx hb hr hlocks hK hP hS dX4_keep_34 (by simp only [mkpM, ho])
set_option maxRecDepth 100000 in
set_option maxHeartbeats 4000000 in
theorem c_X4_rate {l : Launch} {G : MG} (hj : wj (mdO G)) {M : Mem} (sz : Nat) (x r : Int32) : Met l yX4_rate wsX4_rate ({ frames := 1, cells := 0, slots := 0, locals := 21 }) (va_Pc [.ref (wa (mdO G) 0), .int x, .int r] (wp (mdO G) sz M)) (wQi (mdO G) sz (mrtV M x r) (mrtM M x r)) 0 0 (wA (mdO G) sz) := by
  rcases op_cases (moV M x) with ho | ⟨j1, ho⟩
  · refine wd_ofW (O := (mdO G)) (M := M) (Qc := fun z => wQi (mdO G) z (mrtV M x r) (mrtM M x r)) (cc := cX4_rate) (maxL := 3) (ret := (some .boolean)) (lv := [(0, .ref (wa (mdO G) 0)), (1, .int x), (2, .int r)]) (by decide) rfl (Nat.le_of_ble_eq_true rfl) rfl ?_
    intro p e s m below meth c ls hx hb hr hml hown hts hlocks hP hK hS hl
    have hi4 : ∀ w ∈ wsX40, w ∈ wsX4_rate := by decide +kernel
    refine lv_aload_n hx hb dX4_rate_0 rfl (lv_at hl 0 rfl) ?_
    refine lv_iload_n hx hb dX4_rate_1 rfl (lv_at hl 1 rfl) ?_
    refine wd_ci (O := (mdO G)) hS (va_runV (As := [.int x]) (rest := []) ⟨hx, hb, hml, hown, hts⟩ (c_X4_isOpen (G := G) hj s.heap.size x ) (cwV 1 hts gX4_rate_X4_isOpen rfl rfl rfl (by decide +kernel) ⟨Nat.le_of_ble_eq_true rfl, Nat.le_of_ble_eq_true rfl⟩) (wd_pre hK hP (md_lt (by omega)) mE_0 rfl) rfl rfl hl.1 rfl (lv_room (Nat.le_of_ble_eq_true rfl)) dX4_rate_2 ⟨Nat.le_of_ble_eq_true rfl, Nat.le_of_ble_eq_true rfl⟩) (fun H locs hP hS => ?_)
    refine wd_re (y := 0) (by rw [ho]; rfl) ?_
    refine lv_if_eq (tgt := 20) hx hb dX4_rate_5 (by decide) (fun c1 => ?_) (fun c1 => absurd rfl c1)
    refine lv_iconst (v := 0) hx hb dX4_rate_20 (by decide) ?_
    exact wd_iret (O := (mdO G)) hx hb hr hlocks hK hP hS (by decide) dX4_rate_21 (by simp only [mrtV, ho]) (by simp only [mrtM, ho])
  · obtain ⟨hj1, rfl, hon⟩ := moV_some ho
    refine wd_ofW (O := (mdO G)) (M := M) (Qc := fun z => wQi (mdO G) z (mrtV M (nI j1) r) (mrtM M (nI j1) r)) (cc := cX4_rate) (maxL := 3) (ret := (some .boolean)) (lv := [(0, .ref (wa (mdO G) 0)), (1, .int (nI j1)), (2, .int r)]) (by decide) rfl (Nat.le_of_ble_eq_true rfl) rfl ?_
    intro p e s m below meth c ls hx hb hr hml hown hts hlocks hP hK hS hl
    have hi4 : ∀ w ∈ wsX40, w ∈ wsX4_rate := by decide +kernel
    refine lv_aload_n hx hb dX4_rate_0 rfl (lv_at hl 0 rfl) ?_
    refine lv_iload_n hx hb dX4_rate_1 rfl (lv_at hl 1 rfl) ?_
    refine wd_ci (O := (mdO G)) hS (va_runV (As := [.int (nI j1)]) (rest := []) ⟨hx, hb, hml, hown, hts⟩ (c_X4_isOpen (G := G) hj s.heap.size (nI j1) ) (cwV 1 hts gX4_rate_X4_isOpen rfl rfl rfl (by decide +kernel) ⟨Nat.le_of_ble_eq_true rfl, Nat.le_of_ble_eq_true rfl⟩) (wd_pre hK hP (md_lt (by omega)) mE_0 rfl) rfl rfl hl.1 rfl (lv_room (Nat.le_of_ble_eq_true rfl)) dX4_rate_2 ⟨Nat.le_of_ble_eq_true rfl, Nat.le_of_ble_eq_true rfl⟩) (fun H locs hP hS => ?_)
    refine wd_re (y := 1) (by rw [ho]; rfl) ?_
    refine lv_if_eq (tgt := 20) hx hb dX4_rate_5 (by decide) (fun c2 => absurd c2 (by decide)) (fun c2 => ?_)
    refine lv_iload_n hx hb dX4_rate_8 rfl (lv_at hl 2 rfl) ?_
    refine lv_bipush (v := 9) hx hb dX4_rate_9 (by decide) ?_
    refine lv_icmp_lt (tgt := 20) hx hb dX4_rate_11 (by decide) (fun c3 => ?_) (fun c3 => ?_)
    · refine lv_iconst (v := 0) hx hb dX4_rate_20 (by decide) ?_
      exact wd_iret (O := (mdO G)) hx hb hr hlocks hK hP hS (by decide) dX4_rate_21 (by simp only [mrtV, ho, if_pos c3]) (by simp only [mrtM, ho, if_pos c3])
    · refine lv_iload_n hx hb dX4_rate_14 rfl (lv_at hl 2 rfl) ?_
      refine lv_bipush (v := 11) hx hb dX4_rate_15 (by decide) ?_
      refine lv_icmp_le (tgt := 22) hx hb dX4_rate_17 (by decide) (fun c4 => ?_) (fun c4 => ?_)
      · refine lv_aload_n hx hb dX4_rate_22 rfl (lv_at hl 0 rfl) ?_
        refine wd_get (O := (mdO G)) (v := .ref (wa (mdO G) 3)) hx hb hts hi4 hown hK hP (md_lt (by omega)) mE_0 rfl 5 (by decide) (hts (.fieldLink RX4 17 "LeaseDeskModel" "rates" "[I") (by decide +kernel)) (fun _ h9 => h9) rfl dX4_rate_23 ?_
        refine lv_iload_n hx hb dX4_rate_26 rfl (lv_at hl 1 rfl) ?_
        refine lv_iload_n hx hb dX4_rate_27 rfl (lv_at hl 2 rfl) ?_
        refine wd_iast (O := (mdO G)) hj hx hb hK hP hS (md_lt (by omega)) 0 mE_3 rfl (i := j1) rfl (by omega) (by decide) dX4_rate_28 (fun H locs hP hS => ?_)
        refine lv_iconst (v := 1) hx hb dX4_rate_29 (by decide) ?_
        exact wd_iret (O := (mdO G)) hx hb hr hlocks hK hP hS (by decide) dX4_rate_30 (by simp only [mrtV, ho, if_neg c3, if_pos c4]) (by simp only [mrtM, ho, if_neg c3, if_pos c4])
      · refine lv_iconst (v := 0) hx hb dX4_rate_20 (by decide) ?_
        exact wd_iret (O := (mdO G)) hx hb hr hlocks hK hP hS (by decide) dX4_rate_21 (by simp only [mrtV, ho, if_neg c3, if_neg c4]) (by simp only [mrtM, ho, if_neg c3, if_neg c4])
set_option maxRecDepth 100000 in
set_option maxHeartbeats 4000000 in
theorem c_X4_tick {l : Launch} {G : MG} (hj : wj (mdO G)) {M : Mem} (sz : Nat) (d : Int32) : Met l yX4_tick wsX4_tick ({ frames := 3, cells := 0, slots := 0, locals := 71 }) (va_Pc [.ref (wa (mdO G) 0), .int d] (wp (mdO G) sz M)) (wQi (mdO G) sz (mtcV M d) (mtcM M d)) 0 0 (wA (mdO G) sz) := by
  refine wd_ofW (O := (mdO G)) (M := M) (Qc := fun z => wQi (mdO G) z (mtcV M d) (mtcM M d)) (cc := cX4_tick) (maxL := 4) (ret := (some .int)) (lv := [(0, .ref (wa (mdO G) 0)), (1, .int d)]) (by decide) rfl (Nat.le_of_ble_eq_true rfl) rfl ?_
  intro p e s m below meth c ls hx hb hr hml hown hts hlocks hP hK hS hl
  have hi4 : ∀ w ∈ wsX40, w ∈ wsX4_tick := by decide +kernel
  refine lv_iload_n hx hb dX4_tick_0 rfl (lv_at hl 1 rfl) ?_
  refine lv_if_lt (tgt := 10) hx hb dX4_tick_1 (by decide) (fun c1 => ?_) (fun c1 => ?_)
  · refine lv_iconst (v := (-1)) hx hb dX4_tick_10 (by decide) ?_
    exact wd_iret (O := (mdO G)) hx hb hr hlocks hK hP hS rfl dX4_tick_11 (by simp only [mtcV, if_pos c1]) (by simp only [mtcM, if_pos c1])
  · refine lv_iload_n hx hb dX4_tick_4 rfl (lv_at hl 1 rfl) ?_
    refine lv_bipush (v := 100) hx hb dX4_tick_5 (by decide) ?_
    refine lv_icmp_le (tgt := 12) hx hb dX4_tick_7 (by decide) (fun c2 => ?_) (fun c2 => ?_)
    · refine lv_aload_n hx hb dX4_tick_12 rfl (lv_at hl 0 rfl) ?_
      refine lv_aload_n hx hb dX4_tick_13 rfl (lv_at hl 0 rfl) ?_
      refine wd_get (O := (mdO G)) (v := .int (M 0 0)) hx hb hts hi4 hown hK hP (md_lt (by omega)) mE_0 rfl 0 (by decide) (hts (.fieldLink RX4 54 "LeaseDeskModel" "time" "I") (by decide +kernel)) (fun _ h9 => h9) rfl dX4_tick_14 ?_
      refine lv_iload_n hx hb dX4_tick_17 rfl (lv_at hl 1 rfl) ?_
      refine lv_iadd hx hb dX4_tick_18 ?_
      refine wd_put (O := (mdO G)) (ty := .int) hj hx hb hts hi4 tyX4 tyX4_ok nmX4 hown hK hP hS (md_lt (by omega)) mE_0 rfl 0 (by decide) (hts (.fieldLink RX4 54 "LeaseDeskModel" "time" "I") (by decide +kernel)) (fun _ h9 => h9) rfl (by decide +kernel) rfl rfl (Nat.le_of_ble_eq_true rfl) (mE_0.trans rfl) dX4_tick_19 (fun H locs hP hS => ?_)
      refine lv_iconst (v := 0) hx hb dX4_tick_22 (by decide) ?_
      refine lv_istore_n (lv' := [(2, .int 0), (0, .ref (wa (mdO G) 0)), (1, .int d)]) hx hb dX4_tick_23 rfl hl (by decide) rfl (fun ls hl => ?_)
      refine lv_iconst (v := 0) hx hb dX4_tick_24 (by decide) ?_
      refine lv_istore_n (lv' := [(3, .int 0), (2, .int 0), (0, .ref (wa (mdO G) 0)), (1, .int d)]) hx hb dX4_tick_25 rfl hl (by decide) rfl (fun ls hl => ?_)
      refine wl_loop (pc := 26) (fun k j N v ls H locs => (j + k = 6) ∧ (mmv d k j N = mmv d 6 0 (up M 0 0 (M 0 0 + d))) ∧ (v = 0) ∧ va_P (wD (mdO G)) vwCl (wd (mdO G) N) H ∧ va_S (wA (mdO G) s.heap.size) s.heap H locs ∧ lv_has ls 4 [(3, .int (nI j)), (2, .int v), (0, .ref (wa (mdO G) 0)), (1, .int d)]) ?_ ?_ 6 0 (up M 0 0 ((M 0 0) + d)) 0 ⟨by omega, rfl, rfl, hP, hS, lv_sub hl [0, 1, 2, 3] rfl⟩
      · rintro j N v ls H locs ⟨h1, h2, h3, hP, hS, hl⟩
        refine lv_iload_n hx hb dX4_tick_26 rfl (lv_at hl 0 rfl) ?_
        refine lv_bipush (v := 6) hx hb dX4_tick_27 (by decide) ?_
        refine lv_icmp_ge (tgt := 68) hx hb dX4_tick_29 (by decide) (fun c3 => ?_) (fun c3 => absurd (show nI 6 ≤ nI j from nI_le (by omega) (by omega)) c3)
        refine lv_iconst (v := 0) hx hb dX4_tick_68 (by decide) ?_
        refine lv_istore_n (lv' := [(3, .int 0), (2, .int v), (0, .ref (wa (mdO G) 0)), (1, .int d)]) hx hb dX4_tick_69 rfl hl (by decide) rfl (fun ls hl => ?_)
        refine wl_loop (pc := 70) (fun k j N v ls H locs => (j + k = 6) ∧ (mslM k j N = mslM 6 0 (mtA M d)) ∧ (mslV k j N v = mslV 6 0 (mtA M d) 0) ∧ va_P (wD (mdO G)) vwCl (wd (mdO G) N) H ∧ va_S (wA (mdO G) s.heap.size) s.heap H locs ∧ lv_has ls 4 [(3, .int (nI j)), (2, .int v), (0, .ref (wa (mdO G) 0)), (1, .int d)]) ?_ ?_ 6 0 N v ⟨by omega, by unfold mtA; rw [← h2]; rfl, by unfold mtA; rw [← h2, h3]; rfl, hP, hS, lv_sub hl [0, 1, 2, 3] rfl⟩
        · rintro j N v ls H locs ⟨h1, h2, h3, hP, hS, hl⟩
          refine lv_iload_n hx hb dX4_tick_70 rfl (lv_at hl 0 rfl) ?_
          refine lv_bipush (v := 6) hx hb dX4_tick_71 (by decide) ?_
          refine lv_icmp_ge (tgt := 115) hx hb dX4_tick_73 (by decide) (fun c4 => ?_) (fun c4 => absurd (show nI 6 ≤ nI j from nI_le (by omega) (by omega)) c4)
          refine lv_iconst (v := 0) hx hb dX4_tick_115 (by decide) ?_
          refine lv_istore_n (lv' := [(3, .int 0), (2, .int v), (0, .ref (wa (mdO G) 0)), (1, .int d)]) hx hb dX4_tick_116 rfl hl (by decide) rfl (fun ls hl => ?_)
          refine wl_loop (pc := 117) (fun k j N v ls H locs => (j + k = 4) ∧ (mduM k j N = mtM M d) ∧ (mduV k j N v = mtV M d) ∧ va_P (wD (mdO G)) vwCl (wd (mdO G) N) H ∧ va_S (wA (mdO G) s.heap.size) s.heap H locs ∧ lv_has ls 4 [(3, .int (nI j)), (2, .int v), (0, .ref (wa (mdO G) 0)), (1, .int d)]) ?_ ?_ 4 0 N v ⟨by omega, by unfold mtM; rw [← h2]; rfl, by unfold mtV; rw [← h2, ← h3]; rfl, hP, hS, lv_sub hl [0, 1, 2, 3] rfl⟩
          · rintro j N v ls H locs ⟨h1, h2, h3, hP, hS, hl⟩
            refine lv_iload_n hx hb dX4_tick_117 rfl (lv_at hl 0 rfl) ?_
            refine lv_iconst (v := 4) hx hb dX4_tick_118 (by decide) ?_
            refine lv_icmp_ge (tgt := 162) hx hb dX4_tick_119 (by decide) (fun c5 => ?_) (fun c5 => absurd (show nI 4 ≤ nI j from nI_le (by omega) (by omega)) c5)
            refine lv_iload_n hx hb dX4_tick_162 rfl (lv_at hl 1 rfl) ?_
            exact wd_iret (O := (mdO G)) hx hb hr hlocks hK hP hS rfl dX4_tick_163 (by rw [mtcV, if_neg c1, if_pos c2]; exact h3) (by rw [mtcM, if_neg c1, if_pos c2]; exact h2)
          · rintro k j N v ls H locs ih ⟨h1, h2, h3, hP, hS, hl⟩
            refine lv_iload_n hx hb dX4_tick_117 rfl (lv_at hl 0 rfl) ?_
            refine lv_iconst (v := 4) hx hb dX4_tick_118 (by decide) ?_
            refine lv_icmp_ge (tgt := 162) hx hb dX4_tick_119 (by decide) (fun c6 => absurd c6 (show ¬ nI 4 ≤ nI j from nI_ge (by omega) (by omega))) (fun c6 => ?_)
            refine lv_aload_n hx hb dX4_tick_122 rfl (lv_at hl 2 rfl) ?_
            refine wd_get (O := (mdO G)) (v := .ref (wa (mdO G) 5)) hx hb hts hi4 hown hK hP (md_lt (by omega)) mE_0 rfl 7 (by decide) (hts (.fieldLink RX4 23 "LeaseDeskModel" "has" "[I") (by decide +kernel)) (fun _ h9 => h9) rfl dX4_tick_123 ?_
            refine lv_iload_n hx hb dX4_tick_126 rfl (lv_at hl 0 rfl) ?_
            refine wd_iald (O := (mdO G)) hx hb hK hP (md_lt (by omega)) 0 (mE_5 _) rfl (i := j) rfl (by omega) (by decide) dX4_tick_127 ?_
            refine lv_if_eq (tgt := 156) hx hb dX4_tick_128 (by decide) (fun c7 => ?_) (fun c7 => ?_)
            · refine lv_iinc (v := nI (j + 1)) (lv' := [(3, .int (nI (j + 1))), (2, .int v), (0, .ref (wa (mdO G) 0)), (1, .int d)]) hx hb dX4_tick_156 hl (k := 0) rfl (nI_1 j) (by decide) rfl (fun ls hl => ?_)
              refine lv_goto (tgt := 117) hx hb dX4_tick_159 (by decide) ?_
              exact ih (j + 1) N v ls H locs ⟨by omega, by rw [← h2]; simp only [mduM, if_pos c7], by rw [← h3]; simp only [mduV, if_pos c7], hP, hS, lv_sub hl [0, 1, 2, 3] rfl⟩
            · refine lv_aload_n hx hb dX4_tick_131 rfl (lv_at hl 2 rfl) ?_
              refine wd_get (O := (mdO G)) (v := .ref (wa (mdO G) 7)) hx hb hts hi4 hown hK hP (md_lt (by omega)) mE_0 rfl 9 (by decide) (hts (.fieldLink RX4 29 "LeaseDeskModel" "ends" "[I") (by decide +kernel)) (fun _ h9 => h9) rfl dX4_tick_132 ?_
              refine lv_iload_n hx hb dX4_tick_135 rfl (lv_at hl 0 rfl) ?_
              refine wd_iald (O := (mdO G)) hx hb hK hP (md_lt (by omega)) 0 (mE_7 _) rfl (i := j) rfl (by omega) (by decide) dX4_tick_136 ?_
              refine lv_aload_n hx hb dX4_tick_137 rfl (lv_at hl 2 rfl) ?_
              refine wd_get (O := (mdO G)) (v := .int (N 0 0)) hx hb hts hi4 hown hK hP (md_lt (by omega)) mE_0 rfl 0 (by decide) (hts (.fieldLink RX4 54 "LeaseDeskModel" "time" "I") (by decide +kernel)) (fun _ h9 => h9) rfl dX4_tick_138 ?_
              refine lv_icmp_le (tgt := 147) hx hb dX4_tick_141 (by decide) (fun c8 => ?_) (fun c8 => ?_)
              · refine lv_iload_n hx hb dX4_tick_147 rfl (lv_at hl 1 rfl) ?_
                refine lv_iconst (v := 1) hx hb dX4_tick_148 (by decide) ?_
                refine lv_iadd hx hb dX4_tick_149 ?_
                refine lv_istore_n (lv' := [(2, .int (v + 1)), (3, .int (nI j)), (0, .ref (wa (mdO G) 0)), (1, .int d)]) hx hb dX4_tick_150 rfl hl (by decide) rfl (fun ls hl => ?_)
                refine lv_aload_n hx hb dX4_tick_151 rfl (lv_at hl 2 rfl) ?_
                refine lv_iload_n hx hb dX4_tick_152 rfl (lv_at hl 1 rfl) ?_
                refine wd_cv (O := (mdO G)) hS (va_runV (As := [.int (nI j)]) (rest := []) ⟨hx, hb, hml, hown, hts⟩ (c_X4_over (G := G) hj H.size j (by omega)) (cwV 1 hts gX4_tick_X4_over rfl rfl rfl (by decide +kernel) ⟨Nat.le_of_ble_eq_true rfl, Nat.le_of_ble_eq_true rfl⟩) (wd_pre hK hP (md_lt (by omega)) mE_0 rfl) rfl rfl hl.1 rfl (lv_room (Nat.le_of_ble_eq_true rfl)) dX4_tick_153 ⟨Nat.le_of_ble_eq_true rfl, Nat.le_of_ble_eq_true rfl⟩) (fun H locs hP hS => ?_)
                refine lv_iinc (v := nI (j + 1)) (lv' := [(3, .int (nI (j + 1))), (2, .int (v + 1)), (0, .ref (wa (mdO G) 0)), (1, .int d)]) hx hb dX4_tick_156 hl (k := 1) rfl (nI_1 j) (by decide) rfl (fun ls hl => ?_)
                refine lv_goto (tgt := 117) hx hb dX4_tick_159 (by decide) ?_
                exact ih (j + 1) (ovM N j) (v + 1) ls H locs ⟨by omega, by rw [← h2]; simp only [mduM, if_neg c7, if_pos c8], by rw [← h3]; simp only [mduV, if_neg c7, if_pos c8], hP, hS, lv_sub hl [0, 1, 2, 3] rfl⟩
              · refine lv_goto (tgt := 156) hx hb dX4_tick_144 (by decide) ?_
                refine lv_iinc (v := nI (j + 1)) (lv' := [(3, .int (nI (j + 1))), (2, .int v), (0, .ref (wa (mdO G) 0)), (1, .int d)]) hx hb dX4_tick_156 hl (k := 0) rfl (nI_1 j) (by decide) rfl (fun ls hl => ?_)
                refine lv_goto (tgt := 117) hx hb dX4_tick_159 (by decide) ?_
                exact ih (j + 1) N v ls H locs ⟨by omega, by rw [← h2]; simp only [mduM, if_neg c7, if_neg c8], by rw [← h3]; simp only [mduV, if_neg c7, if_neg c8], hP, hS, lv_sub hl [0, 1, 2, 3] rfl⟩
        · rintro k j N v ls H locs ih ⟨h1, h2, h3, hP, hS, hl⟩
          refine lv_iload_n hx hb dX4_tick_70 rfl (lv_at hl 0 rfl) ?_
          refine lv_bipush (v := 6) hx hb dX4_tick_71 (by decide) ?_
          refine lv_icmp_ge (tgt := 115) hx hb dX4_tick_73 (by decide) (fun c9 => absurd c9 (show ¬ nI 6 ≤ nI j from nI_ge (by omega) (by omega))) (fun c9 => ?_)
          refine lv_aload_n hx hb dX4_tick_76 rfl (lv_at hl 2 rfl) ?_
          refine wd_get (O := (mdO G)) (v := .ref (wa (mdO G) 1)) hx hb hts hi4 hown hK hP (md_lt (by omega)) mE_0 rfl 3 (by decide) (hts (.fieldLink RX4 9 "LeaseDeskModel" "there" "[Z") (by decide +kernel)) (fun _ h9 => h9) rfl dX4_tick_77 ?_
          refine lv_iload_n hx hb dX4_tick_80 rfl (lv_at hl 0 rfl) ?_
          refine wd_zald (O := (mdO G)) hx hb hK hP (md_lt (by omega)) 1 (mE_z _) rfl (i := j) rfl (by omega) (by decide) dX4_tick_81 ?_
          refine lv_if_eq (tgt := 109) hx hb dX4_tick_82 (by decide) (fun c10 => ?_) (fun c10 => ?_)
          · refine lv_iinc (v := nI (j + 1)) (lv' := [(3, .int (nI (j + 1))), (2, .int v), (0, .ref (wa (mdO G) 0)), (1, .int d)]) hx hb dX4_tick_109 hl (k := 0) rfl (nI_1 j) (by decide) rfl (fun ls hl => ?_)
            refine lv_goto (tgt := 70) hx hb dX4_tick_112 (by decide) ?_
            exact ih (j + 1) N v ls H locs ⟨by omega, by rw [← h2]; simp only [mslM, if_pos c10], by rw [← h3]; simp only [mslV, if_pos c10], hP, hS, lv_sub hl [0, 1, 2, 3] rfl⟩
          · refine lv_aload_n hx hb dX4_tick_85 rfl (lv_at hl 2 rfl) ?_
            refine wd_get (O := (mdO G)) (v := .int (N 0 0)) hx hb hts hi4 hown hK hP (md_lt (by omega)) mE_0 rfl 0 (by decide) (hts (.fieldLink RX4 54 "LeaseDeskModel" "time" "I") (by decide +kernel)) (fun _ h9 => h9) rfl dX4_tick_86 ?_
            refine lv_aload_n hx hb dX4_tick_89 rfl (lv_at hl 2 rfl) ?_
            refine wd_get (O := (mdO G)) (v := .ref (wa (mdO G) 2)) hx hb hts hi4 hown hK hP (md_lt (by omega)) mE_0 rfl 4 (by decide) (hts (.fieldLink RX4 13 "LeaseDeskModel" "signed" "[I") (by decide +kernel)) (fun _ h9 => h9) rfl dX4_tick_90 ?_
            refine lv_iload_n hx hb dX4_tick_93 rfl (lv_at hl 0 rfl) ?_
            refine wd_iald (O := (mdO G)) hx hb hK hP (md_lt (by omega)) 0 (mE_2 _) rfl (i := j) rfl (by omega) (by decide) dX4_tick_94 ?_
            refine lv_isub hx hb dX4_tick_95 ?_
            refine lv_bipush (v := 50) hx hb dX4_tick_96 (by decide) ?_
            refine lv_icmp_le (tgt := 109) hx hb dX4_tick_98 (by decide) (fun c11 => ?_) (fun c11 => ?_)
            · refine lv_iinc (v := nI (j + 1)) (lv' := [(3, .int (nI (j + 1))), (2, .int v), (0, .ref (wa (mdO G) 0)), (1, .int d)]) hx hb dX4_tick_109 hl (k := 0) rfl (nI_1 j) (by decide) rfl (fun ls hl => ?_)
              refine lv_goto (tgt := 70) hx hb dX4_tick_112 (by decide) ?_
              exact ih (j + 1) N v ls H locs ⟨by omega, by rw [← h2]; simp only [mslM, if_neg c10, if_pos c11], by rw [← h3]; simp only [mslV, if_neg c10, if_pos c11], hP, hS, lv_sub hl [0, 1, 2, 3] rfl⟩
            · refine lv_iload_n hx hb dX4_tick_101 rfl (lv_at hl 1 rfl) ?_
              refine lv_aload_n hx hb dX4_tick_102 rfl (lv_at hl 2 rfl) ?_
              refine lv_iload_n hx hb dX4_tick_103 rfl (lv_at hl 0 rfl) ?_
              refine wd_ci (O := (mdO G)) hS (va_runV (As := [.int (nI j)]) (rest := [.int v]) ⟨hx, hb, hml, hown, hts⟩ (c_X4_gone (G := G) hj H.size j (by omega)) (cwV 1 hts gX4_tick_X4_gone rfl rfl rfl (by decide +kernel) ⟨Nat.le_of_ble_eq_true rfl, Nat.le_of_ble_eq_true rfl⟩) (wd_pre hK hP (md_lt (by omega)) mE_0 rfl) rfl rfl hl.1 rfl (lv_room (Nat.le_of_ble_eq_true rfl)) dX4_tick_104 ⟨Nat.le_of_ble_eq_true rfl, Nat.le_of_ble_eq_true rfl⟩) (fun H locs hP hS => ?_)
              refine lv_iadd hx hb dX4_tick_107 ?_
              refine lv_istore_n (lv' := [(2, .int (v + (goV N j))), (3, .int (nI j)), (0, .ref (wa (mdO G) 0)), (1, .int d)]) hx hb dX4_tick_108 rfl hl (by decide) rfl (fun ls hl => ?_)
              refine lv_iinc (v := nI (j + 1)) (lv' := [(3, .int (nI (j + 1))), (2, .int (v + (goV N j))), (0, .ref (wa (mdO G) 0)), (1, .int d)]) hx hb dX4_tick_109 hl (k := 1) rfl (nI_1 j) (by decide) rfl (fun ls hl => ?_)
              refine lv_goto (tgt := 70) hx hb dX4_tick_112 (by decide) ?_
              exact ih (j + 1) (goM N j) (v + (goV N j)) ls H locs ⟨by omega, by rw [← h2]; simp only [mslM, if_neg c10, if_neg c11], by rw [← h3]; simp only [mslV, if_neg c10, if_neg c11], hP, hS, lv_sub hl [0, 1, 2, 3] rfl⟩
      · rintro k j N v ls H locs ih ⟨h1, h2, h3, hP, hS, hl⟩
        refine lv_iload_n hx hb dX4_tick_26 rfl (lv_at hl 0 rfl) ?_
        refine lv_bipush (v := 6) hx hb dX4_tick_27 (by decide) ?_
        refine lv_icmp_ge (tgt := 68) hx hb dX4_tick_29 (by decide) (fun c12 => absurd c12 (show ¬ nI 6 ≤ nI j from nI_ge (by omega) (by omega))) (fun c12 => ?_)
        refine lv_aload_n hx hb dX4_tick_32 rfl (lv_at hl 2 rfl) ?_
        refine wd_get (O := (mdO G)) (v := .ref (wa (mdO G) 1)) hx hb hts hi4 hown hK hP (md_lt (by omega)) mE_0 rfl 3 (by decide) (hts (.fieldLink RX4 9 "LeaseDeskModel" "there" "[Z") (by decide +kernel)) (fun _ h9 => h9) rfl dX4_tick_33 ?_
        refine lv_iload_n hx hb dX4_tick_36 rfl (lv_at hl 0 rfl) ?_
        refine wd_zald (O := (mdO G)) hx hb hK hP (md_lt (by omega)) 1 (mE_z _) rfl (i := j) rfl (by omega) (by decide) dX4_tick_37 ?_
        refine lv_if_eq (tgt := 62) hx hb dX4_tick_38 (by decide) (fun c13 => ?_) (fun c13 => ?_)
        · refine lv_iinc (v := nI (j + 1)) (lv' := [(3, .int (nI (j + 1))), (2, .int v), (0, .ref (wa (mdO G) 0)), (1, .int d)]) hx hb dX4_tick_62 hl (k := 0) rfl (nI_1 j) (by decide) rfl (fun ls hl => ?_)
          refine lv_goto (tgt := 26) hx hb dX4_tick_65 (by decide) ?_
          exact ih (j + 1) N v ls H locs ⟨by omega, by rw [← h2]; simp only [mmv, if_pos c13], h3, hP, hS, lv_sub hl [0, 1, 2, 3] rfl⟩
        · refine lv_aload_n hx hb dX4_tick_41 rfl (lv_at hl 2 rfl) ?_
          refine wd_get (O := (mdO G)) (v := .ref (wa (mdO G) 4)) hx hb hts hi4 hown hK hP (md_lt (by omega)) mE_0 rfl 6 (by decide) (hts (.fieldLink RX4 20 "LeaseDeskModel" "clocks" "[I") (by decide +kernel)) (fun _ h9 => h9) rfl dX4_tick_42 ?_
          refine lv_iload_n hx hb dX4_tick_45 rfl (lv_at hl 0 rfl) ?_
          refine lv_aload_n hx hb dX4_tick_46 rfl (lv_at hl 2 rfl) ?_
          refine wd_get (O := (mdO G)) (v := .ref (wa (mdO G) 4)) hx hb hts hi4 hown hK hP (md_lt (by omega)) mE_0 rfl 6 (by decide) (hts (.fieldLink RX4 20 "LeaseDeskModel" "clocks" "[I") (by decide +kernel)) (fun _ h9 => h9) rfl dX4_tick_47 ?_
          refine lv_iload_n hx hb dX4_tick_50 rfl (lv_at hl 0 rfl) ?_
          refine wd_iald (O := (mdO G)) hx hb hK hP (md_lt (by omega)) 0 (mE_4 _) rfl (i := j) rfl (by omega) (by decide) dX4_tick_51 ?_
          refine lv_aload_n hx hb dX4_tick_52 rfl (lv_at hl 2 rfl) ?_
          refine wd_get (O := (mdO G)) (v := .ref (wa (mdO G) 3)) hx hb hts hi4 hown hK hP (md_lt (by omega)) mE_0 rfl 5 (by decide) (hts (.fieldLink RX4 17 "LeaseDeskModel" "rates" "[I") (by decide +kernel)) (fun _ h9 => h9) rfl dX4_tick_53 ?_
          refine lv_iload_n hx hb dX4_tick_56 rfl (lv_at hl 0 rfl) ?_
          refine wd_iald (O := (mdO G)) hx hb hK hP (md_lt (by omega)) 0 (mE_3 _) rfl (i := j) rfl (by omega) (by decide) dX4_tick_57 ?_
          refine lv_iload_n hx hb dX4_tick_58 rfl (lv_at hl 3 rfl) ?_
          refine lv_imul hx hb dX4_tick_59 ?_
          refine lv_iadd hx hb dX4_tick_60 ?_
          refine wd_iast (O := (mdO G)) hj hx hb hK hP hS (md_lt (by omega)) 0 mE_4 rfl (i := j) rfl (by omega) (by decide) dX4_tick_61 (fun H locs hP hS => ?_)
          refine lv_iinc (v := nI (j + 1)) (lv' := [(3, .int (nI (j + 1))), (2, .int v), (0, .ref (wa (mdO G) 0)), (1, .int d)]) hx hb dX4_tick_62 hl (k := 0) rfl (nI_1 j) (by decide) rfl (fun ls hl => ?_)
          refine lv_goto (tgt := 26) hx hb dX4_tick_65 (by decide) ?_
          exact ih (j + 1) (up N 4 j ((N 4 j) + ((N 3 j) * d))) v ls H locs ⟨by omega, by rw [← h2]; simp only [mmv, if_neg c13], h3, hP, hS, lv_sub hl [0, 1, 2, 3] rfl⟩
    · refine lv_iconst (v := (-1)) hx hb dX4_tick_10 (by decide) ?_
      exact wd_iret (O := (mdO G)) hx hb hr hlocks hK hP hS rfl dX4_tick_11 (by simp only [mtcV, if_neg c1, if_neg c2]) (by simp only [mtcM, if_neg c1, if_neg c2])
set_option maxRecDepth 100000 in
set_option maxHeartbeats 4000000 in
theorem c_X4_acquire {l : Launch} {G : MG} (hj : wj (mdO G)) {M : Mem} (sz : Nat) (x y t : Int32) : Met l yX4_acquire wsX4_acquire ({ frames := 1, cells := 0, slots := 0, locals := 23 }) (va_Pc [.ref (wa (mdO G) 0), .int x, .int y, .int t] (wp (mdO G) sz M)) (wQi (mdO G) sz (maqV M x y t) (maqM M x y t)) 0 0 (wA (mdO G) sz) := by
  rcases op_cases (moV M x) with ho | ⟨j1, ho⟩
  · refine wd_ofW (O := (mdO G)) (M := M) (Qc := fun z => wQi (mdO G) z (maqV M x y t) (maqM M x y t)) (cc := cX4_acquire) (maxL := 5) (ret := (some .int)) (lv := [(0, .ref (wa (mdO G) 0)), (1, .int x), (2, .int y), (3, .int t)]) (by decide) rfl (Nat.le_of_ble_eq_true rfl) rfl ?_
    intro p e s m below meth c ls hx hb hr hml hown hts hlocks hP hK hS hl
    have hi4 : ∀ w ∈ wsX40, w ∈ wsX4_acquire := by decide +kernel
    refine lv_aload_n hx hb dX4_acquire_0 rfl (lv_at hl 0 rfl) ?_
    refine lv_aload_n hx hb dX4_acquire_1 rfl (lv_at hl 0 rfl) ?_
    refine lv_iload_n hx hb dX4_acquire_2 rfl (lv_at hl 1 rfl) ?_
    refine wd_ci (O := (mdO G)) hS (va_runV (As := [.int x]) (rest := [.ref (wa (mdO G) 0)]) ⟨hx, hb, hml, hown, hts⟩ (c_X4_isOpen (G := G) hj s.heap.size x ) (cwV 1 hts gX4_acquire_X4_isOpen rfl rfl rfl (by decide +kernel) ⟨Nat.le_of_ble_eq_true rfl, Nat.le_of_ble_eq_true rfl⟩) (wd_pre hK hP (md_lt (by omega)) mE_0 rfl) rfl rfl hl.1 rfl (lv_room (Nat.le_of_ble_eq_true rfl)) dX4_acquire_3 ⟨Nat.le_of_ble_eq_true rfl, Nat.le_of_ble_eq_true rfl⟩) (fun H locs hP hS => ?_)
    refine wd_re (y := 0) (by rw [ho]; rfl) ?_
    refine lv_if_ne (tgt := 13) hx hb dX4_acquire_6 (by decide) (fun c1 => absurd rfl c1) (fun c1 => ?_)
    refine lv_iconst (v := 1) hx hb dX4_acquire_9 (by decide) ?_
    refine lv_goto (tgt := 36) hx hb dX4_acquire_10 (by decide) ?_
    refine wd_put (O := (mdO G)) (ty := .int) hj hx hb hts hi4 tyX4 tyX4_ok nmX4 hown hK hP hS (md_lt (by omega)) mE_0 rfl 1 (by decide) (hts (.fieldLink RX4 50 "LeaseDeskModel" "thrown" "I") (by decide +kernel)) (fun _ h9 => h9) rfl (by decide +kernel) rfl rfl (Nat.le_of_ble_eq_true rfl) (mE_0.trans rfl) dX4_acquire_36 (fun H locs hP hS => ?_)
    refine lv_aload_n hx hb dX4_acquire_39 rfl (lv_at hl 0 rfl) ?_
    refine wd_get (O := (mdO G)) (v := .int ((up M 0 1 1) 0 1)) hx hb hts hi4 hown hK hP (md_lt (by omega)) mE_0 rfl 1 (by decide) (hts (.fieldLink RX4 50 "LeaseDeskModel" "thrown" "I") (by decide +kernel)) (fun _ h9 => h9) rfl dX4_acquire_40 ?_
    refine wd_re (y := 1) (up_s _ _ _ _) ?_
    refine lv_if_le (tgt := 48) hx hb dX4_acquire_43 (by decide) (fun c2 => absurd c2 (by decide)) (fun c2 => ?_)
    refine lv_iconst (v := 0) hx hb dX4_acquire_46 (by decide) ?_
    exact wd_iret (O := (mdO G)) hx hb hr hlocks hK hP hS rfl dX4_acquire_47 (by simp only [maqV, ho]) (by simp only [maqM, ho])
  · obtain ⟨hj1, rfl, hon⟩ := moV_some ho
    rcases op_cases (dN y 4) with hd | ⟨j2, hd⟩
    · refine wd_ofW (O := (mdO G)) (M := M) (Qc := fun z => wQi (mdO G) z (maqV M (nI j1) y t) (maqM M (nI j1) y t)) (cc := cX4_acquire) (maxL := 5) (ret := (some .int)) (lv := [(0, .ref (wa (mdO G) 0)), (1, .int (nI j1)), (2, .int y), (3, .int t)]) (by decide) rfl (Nat.le_of_ble_eq_true rfl) rfl ?_
      intro p e s m below meth c ls hx hb hr hml hown hts hlocks hP hK hS hl
      have hi4 : ∀ w ∈ wsX40, w ∈ wsX4_acquire := by decide +kernel
      refine lv_aload_n hx hb dX4_acquire_0 rfl (lv_at hl 0 rfl) ?_
      refine lv_aload_n hx hb dX4_acquire_1 rfl (lv_at hl 0 rfl) ?_
      refine lv_iload_n hx hb dX4_acquire_2 rfl (lv_at hl 1 rfl) ?_
      refine wd_ci (O := (mdO G)) hS (va_runV (As := [.int (nI j1)]) (rest := [.ref (wa (mdO G) 0)]) ⟨hx, hb, hml, hown, hts⟩ (c_X4_isOpen (G := G) hj s.heap.size (nI j1) ) (cwV 1 hts gX4_acquire_X4_isOpen rfl rfl rfl (by decide +kernel) ⟨Nat.le_of_ble_eq_true rfl, Nat.le_of_ble_eq_true rfl⟩) (wd_pre hK hP (md_lt (by omega)) mE_0 rfl) rfl rfl hl.1 rfl (lv_room (Nat.le_of_ble_eq_true rfl)) dX4_acquire_3 ⟨Nat.le_of_ble_eq_true rfl, Nat.le_of_ble_eq_true rfl⟩) (fun H locs hP hS => ?_)
      refine wd_re (y := 1) (by rw [ho]; rfl) ?_
      refine lv_if_ne (tgt := 13) hx hb dX4_acquire_6 (by decide) (fun c3 => ?_) (fun c3 => absurd c3 (by decide))
      refine lv_iload_n hx hb dX4_acquire_13 rfl (lv_at hl 2 rfl) ?_
      refine wd_ci (O := (mdO G)) hS (va_runS (As := [.int y]) (rest := [.ref (wa (mdO G) 0)]) ⟨hx, hb, hml, hown, hts⟩ (c_X4_isLock (G := G) hj H.size y ) (va_cwS 1 hts gX4_acquire_X4_isLock rfl rfl rfl (by decide +kernel) ⟨Nat.le_of_ble_eq_true rfl, Nat.le_of_ble_eq_true rfl⟩) (wd_preS hK hP) rfl rfl hl.1 rfl (lv_room (Nat.le_of_ble_eq_true rfl)) dX4_acquire_14 ⟨Nat.le_of_ble_eq_true rfl, Nat.le_of_ble_eq_true rfl⟩) (fun H locs hP hS => ?_)
      refine wd_re (y := 0) (by rw [hd]; rfl) ?_
      refine lv_if_eq (tgt := 31) hx hb dX4_acquire_17 (by decide) (fun c4 => ?_) (fun c4 => absurd rfl c4)
      refine lv_iconst (v := 2) hx hb dX4_acquire_31 (by decide) ?_
      refine lv_goto (tgt := 36) hx hb dX4_acquire_32 (by decide) ?_
      refine wd_put (O := (mdO G)) (ty := .int) hj hx hb hts hi4 tyX4 tyX4_ok nmX4 hown hK hP hS (md_lt (by omega)) mE_0 rfl 1 (by decide) (hts (.fieldLink RX4 50 "LeaseDeskModel" "thrown" "I") (by decide +kernel)) (fun _ h9 => h9) rfl (by decide +kernel) rfl rfl (Nat.le_of_ble_eq_true rfl) (mE_0.trans rfl) dX4_acquire_36 (fun H locs hP hS => ?_)
      refine lv_aload_n hx hb dX4_acquire_39 rfl (lv_at hl 0 rfl) ?_
      refine wd_get (O := (mdO G)) (v := .int ((up M 0 1 2) 0 1)) hx hb hts hi4 hown hK hP (md_lt (by omega)) mE_0 rfl 1 (by decide) (hts (.fieldLink RX4 50 "LeaseDeskModel" "thrown" "I") (by decide +kernel)) (fun _ h9 => h9) rfl dX4_acquire_40 ?_
      refine wd_re (y := 2) (up_s _ _ _ _) ?_
      refine lv_if_le (tgt := 48) hx hb dX4_acquire_43 (by decide) (fun c5 => absurd c5 (by decide)) (fun c5 => ?_)
      refine lv_iconst (v := 0) hx hb dX4_acquire_46 (by decide) ?_
      exact wd_iret (O := (mdO G)) hx hb hr hlocks hK hP hS rfl dX4_acquire_47 (by simp only [maqV, ho, hd]) (by simp only [maqM, ho, hd])
    · obtain ⟨hj2, rfl⟩ := dN_some (by decide) hd
      refine wd_ofW (O := (mdO G)) (M := M) (Qc := fun z => wQi (mdO G) z (maqV M (nI j1) (nI j2) t) (maqM M (nI j1) (nI j2) t)) (cc := cX4_acquire) (maxL := 5) (ret := (some .int)) (lv := [(0, .ref (wa (mdO G) 0)), (1, .int (nI j1)), (2, .int (nI j2)), (3, .int t)]) (by decide) rfl (Nat.le_of_ble_eq_true rfl) rfl ?_
      intro p e s m below meth c ls hx hb hr hml hown hts hlocks hP hK hS hl
      have hi4 : ∀ w ∈ wsX40, w ∈ wsX4_acquire := by decide +kernel
      refine lv_aload_n hx hb dX4_acquire_0 rfl (lv_at hl 0 rfl) ?_
      refine lv_aload_n hx hb dX4_acquire_1 rfl (lv_at hl 0 rfl) ?_
      refine lv_iload_n hx hb dX4_acquire_2 rfl (lv_at hl 1 rfl) ?_
      refine wd_ci (O := (mdO G)) hS (va_runV (As := [.int (nI j1)]) (rest := [.ref (wa (mdO G) 0)]) ⟨hx, hb, hml, hown, hts⟩ (c_X4_isOpen (G := G) hj s.heap.size (nI j1) ) (cwV 1 hts gX4_acquire_X4_isOpen rfl rfl rfl (by decide +kernel) ⟨Nat.le_of_ble_eq_true rfl, Nat.le_of_ble_eq_true rfl⟩) (wd_pre hK hP (md_lt (by omega)) mE_0 rfl) rfl rfl hl.1 rfl (lv_room (Nat.le_of_ble_eq_true rfl)) dX4_acquire_3 ⟨Nat.le_of_ble_eq_true rfl, Nat.le_of_ble_eq_true rfl⟩) (fun H locs hP hS => ?_)
      refine wd_re (y := 1) (by rw [ho]; rfl) ?_
      refine lv_if_ne (tgt := 13) hx hb dX4_acquire_6 (by decide) (fun c6 => ?_) (fun c6 => absurd c6 (by decide))
      refine lv_iload_n hx hb dX4_acquire_13 rfl (lv_at hl 2 rfl) ?_
      refine wd_ci (O := (mdO G)) hS (va_runS (As := [.int (nI j2)]) (rest := [.ref (wa (mdO G) 0)]) ⟨hx, hb, hml, hown, hts⟩ (c_X4_isLock (G := G) hj H.size (nI j2) ) (va_cwS 1 hts gX4_acquire_X4_isLock rfl rfl rfl (by decide +kernel) ⟨Nat.le_of_ble_eq_true rfl, Nat.le_of_ble_eq_true rfl⟩) (wd_preS hK hP) rfl rfl hl.1 rfl (lv_room (Nat.le_of_ble_eq_true rfl)) dX4_acquire_14 ⟨Nat.le_of_ble_eq_true rfl, Nat.le_of_ble_eq_true rfl⟩) (fun H locs hP hS => ?_)
      refine wd_re (y := 1) (by rw [hd]; rfl) ?_
      refine lv_if_eq (tgt := 31) hx hb dX4_acquire_17 (by decide) (fun c7 => absurd c7 (by decide)) (fun c7 => ?_)
      refine lv_iload_n hx hb dX4_acquire_20 rfl (lv_at hl 3 rfl) ?_
      refine lv_iconst (v := 1) hx hb dX4_acquire_21 (by decide) ?_
      refine lv_icmp_lt (tgt := 31) hx hb dX4_acquire_22 (by decide) (fun c8 => ?_) (fun c8 => ?_)
      · refine lv_iconst (v := 2) hx hb dX4_acquire_31 (by decide) ?_
        refine lv_goto (tgt := 36) hx hb dX4_acquire_32 (by decide) ?_
        refine wd_put (O := (mdO G)) (ty := .int) hj hx hb hts hi4 tyX4 tyX4_ok nmX4 hown hK hP hS (md_lt (by omega)) mE_0 rfl 1 (by decide) (hts (.fieldLink RX4 50 "LeaseDeskModel" "thrown" "I") (by decide +kernel)) (fun _ h9 => h9) rfl (by decide +kernel) rfl rfl (Nat.le_of_ble_eq_true rfl) (mE_0.trans rfl) dX4_acquire_36 (fun H locs hP hS => ?_)
        refine lv_aload_n hx hb dX4_acquire_39 rfl (lv_at hl 0 rfl) ?_
        refine wd_get (O := (mdO G)) (v := .int ((up M 0 1 2) 0 1)) hx hb hts hi4 hown hK hP (md_lt (by omega)) mE_0 rfl 1 (by decide) (hts (.fieldLink RX4 50 "LeaseDeskModel" "thrown" "I") (by decide +kernel)) (fun _ h9 => h9) rfl dX4_acquire_40 ?_
        refine wd_re (y := 2) (up_s _ _ _ _) ?_
        refine lv_if_le (tgt := 48) hx hb dX4_acquire_43 (by decide) (fun c9 => absurd c9 (by decide)) (fun c9 => ?_)
        refine lv_iconst (v := 0) hx hb dX4_acquire_46 (by decide) ?_
        exact wd_iret (O := (mdO G)) hx hb hr hlocks hK hP hS rfl dX4_acquire_47 (by simp only [maqV, ho, hd, if_pos c8]) (by simp only [maqM, ho, hd, if_pos c8])
      · refine lv_iload_n hx hb dX4_acquire_25 rfl (lv_at hl 3 rfl) ?_
        refine lv_bipush (v := 100) hx hb dX4_acquire_26 (by decide) ?_
        refine lv_icmp_le (tgt := 35) hx hb dX4_acquire_28 (by decide) (fun c10 => ?_) (fun c10 => ?_)
        · refine lv_iconst (v := 0) hx hb dX4_acquire_35 (by decide) ?_
          refine wd_put (O := (mdO G)) (ty := .int) hj hx hb hts hi4 tyX4 tyX4_ok nmX4 hown hK hP hS (md_lt (by omega)) mE_0 rfl 1 (by decide) (hts (.fieldLink RX4 50 "LeaseDeskModel" "thrown" "I") (by decide +kernel)) (fun _ h9 => h9) rfl (by decide +kernel) rfl rfl (Nat.le_of_ble_eq_true rfl) (mE_0.trans rfl) dX4_acquire_36 (fun H locs hP hS => ?_)
          refine lv_aload_n hx hb dX4_acquire_39 rfl (lv_at hl 0 rfl) ?_
          refine wd_get (O := (mdO G)) (v := .int ((up M 0 1 0) 0 1)) hx hb hts hi4 hown hK hP (md_lt (by omega)) mE_0 rfl 1 (by decide) (hts (.fieldLink RX4 50 "LeaseDeskModel" "thrown" "I") (by decide +kernel)) (fun _ h9 => h9) rfl dX4_acquire_40 ?_
          refine wd_re (y := 0) (up_s _ _ _ _) ?_
          refine lv_if_le (tgt := 48) hx hb dX4_acquire_43 (by decide) (fun c11 => ?_) (fun c11 => absurd (by decide) c11)
          refine lv_aload_n hx hb dX4_acquire_48 rfl (lv_at hl 0 rfl) ?_
          refine wd_get (O := (mdO G)) (v := .ref (wa (mdO G) 2)) hx hb hts hi4 hown hK hP (md_lt (by omega)) mE_0 rfl 4 (by decide) (hts (.fieldLink RX4 13 "LeaseDeskModel" "signed" "[I") (by decide +kernel)) (fun _ h9 => h9) rfl dX4_acquire_49 ?_
          refine lv_iload_n hx hb dX4_acquire_52 rfl (lv_at hl 1 rfl) ?_
          refine lv_aload_n hx hb dX4_acquire_53 rfl (lv_at hl 0 rfl) ?_
          refine wd_get (O := (mdO G)) (v := .int ((up M 0 1 0) 0 0)) hx hb hts hi4 hown hK hP (md_lt (by omega)) mE_0 rfl 0 (by decide) (hts (.fieldLink RX4 54 "LeaseDeskModel" "time" "I") (by decide +kernel)) (fun _ h9 => h9) rfl dX4_acquire_54 ?_
          refine wd_iast (O := (mdO G)) hj hx hb hK hP hS (md_lt (by omega)) 0 mE_2 rfl (i := j1) rfl (by omega) (by decide) dX4_acquire_57 (fun H locs hP hS => ?_)
          refine lv_aload_n hx hb dX4_acquire_58 rfl (lv_at hl 0 rfl) ?_
          refine wd_get (O := (mdO G)) (v := .ref (wa (mdO G) 5)) hx hb hts hi4 hown hK hP (md_lt (by omega)) mE_0 rfl 7 (by decide) (hts (.fieldLink RX4 23 "LeaseDeskModel" "has" "[I") (by decide +kernel)) (fun _ h9 => h9) rfl dX4_acquire_59 ?_
          refine lv_iload_n hx hb dX4_acquire_62 rfl (lv_at hl 2 rfl) ?_
          refine wd_iald (O := (mdO G)) hx hb hK hP (md_lt (by omega)) 0 (mE_5 _) rfl (i := j2) rfl (by omega) (by decide) dX4_acquire_63 ?_
          refine lv_iload_n hx hb dX4_acquire_64 rfl (lv_at hl 1 rfl) ?_
          refine lv_iconst (v := 1) hx hb dX4_acquire_65 (by decide) ?_
          refine lv_iadd hx hb dX4_acquire_66 ?_
          refine lv_icmp_ne (tgt := 123) hx hb dX4_acquire_67 (by decide) (fun c12 => ?_) (fun c12 => ?_)
          · refine lv_aload_n hx hb dX4_acquire_123 rfl (lv_at hl 0 rfl) ?_
            refine wd_get (O := (mdO G)) (v := .ref (wa (mdO G) 5)) hx hb hts hi4 hown hK hP (md_lt (by omega)) mE_0 rfl 7 (by decide) (hts (.fieldLink RX4 23 "LeaseDeskModel" "has" "[I") (by decide +kernel)) (fun _ h9 => h9) rfl dX4_acquire_124 ?_
            refine lv_iload_n hx hb dX4_acquire_127 rfl (lv_at hl 2 rfl) ?_
            refine wd_iald (O := (mdO G)) hx hb hK hP (md_lt (by omega)) 0 (mE_5 _) rfl (i := j2) rfl (by omega) (by decide) dX4_acquire_128 ?_
            refine lv_if_ne (tgt := 146) hx hb dX4_acquire_129 (by decide) (fun c13 => ?_) (fun c13 => ?_)
            · refine lv_iload_n hx hb dX4_acquire_146 rfl (lv_at hl 2 rfl) ?_
              refine lv_bipush (v := 6) hx hb dX4_acquire_147 (by decide) ?_
              refine lv_imul hx hb dX4_acquire_149 ?_
              refine lv_iload_n hx hb dX4_acquire_150 rfl (lv_at hl 1 rfl) ?_
              refine lv_iadd hx hb dX4_acquire_151 ?_
              refine wd_re (y := nI (j2 * 6 + j1)) (ml_ix j2 j1) ?_
              refine lv_istore (lv' := [(4, .int (nI (j2 * 6 + j1))), (0, .ref (wa (mdO G) 0)), (1, .int (nI j1)), (2, .int (nI j2)), (3, .int t)]) hx hb dX4_acquire_152 hl (by decide) rfl (fun ls hl => ?_)
              refine lv_aload_n hx hb dX4_acquire_154 rfl (lv_at hl 1 rfl) ?_
              refine wd_get (O := (mdO G)) (v := .ref (wa (mdO G) 10)) hx hb hts hi4 hown hK hP (md_lt (by omega)) mE_0 rfl 12 (by decide) (hts (.fieldLink RX4 38 "LeaseDeskModel" "wishes" "[I") (by decide +kernel)) (fun _ h9 => h9) rfl dX4_acquire_155 ?_
              refine lv_iload hx hb dX4_acquire_158 (lv_at hl 0 rfl) ?_
              refine wd_iald (O := (mdO G)) hx hb hK hP (md_lt (by omega)) 0 (mE_10 _) rfl (i := (j2 * 6 + j1)) rfl (by omega) (by decide) dX4_acquire_160 ?_
              refine lv_if_ne (tgt := 185) hx hb dX4_acquire_161 (by decide) (fun c14 => ?_) (fun c14 => ?_)
              · refine lv_aload_n hx hb dX4_acquire_185 rfl (lv_at hl 1 rfl) ?_
                refine wd_get (O := (mdO G)) (v := .ref (wa (mdO G) 11)) hx hb hts hi4 hown hK hP (md_lt (by omega)) mE_0 rfl 13 (by decide) (hts (.fieldLink RX4 41 "LeaseDeskModel" "wished" "[I") (by decide +kernel)) (fun _ h9 => h9) rfl dX4_acquire_186 ?_
                refine lv_iload hx hb dX4_acquire_189 (lv_at hl 0 rfl) ?_
                refine lv_iload_n hx hb dX4_acquire_191 rfl (lv_at hl 4 rfl) ?_
                refine wd_iast (O := (mdO G)) hj hx hb hK hP hS (md_lt (by omega)) 0 mE_11 rfl (i := (j2 * 6 + j1)) rfl (by omega) (by decide) dX4_acquire_192 (fun H locs hP hS => ?_)
                refine lv_iconst (v := 0) hx hb dX4_acquire_193 (by decide) ?_
                exact wd_iret (O := (mdO G)) hx hb hr hlocks hK hP hS rfl dX4_acquire_194 (by have c12 : ¬ maA M j1 5 j2 = nI j1 + 1 := c12; have c13 : ¬ maA M j1 5 j2 = 0 := c13; have c14 : ¬ maA M j1 10 (j2 * 6 + j1) = 0 := c14; simp only [maqV, ho, hd, if_neg c8, if_pos c10, maV, maM, maR, maW, if_neg c12, if_neg c13, if_neg c14] <;> rfl) (by have c12 : ¬ maA M j1 5 j2 = nI j1 + 1 := c12; have c13 : ¬ maA M j1 5 j2 = 0 := c13; have c14 : ¬ maA M j1 10 (j2 * 6 + j1) = 0 := c14; simp only [maqM, ho, hd, if_neg c8, if_pos c10, maM, maR, maW, if_neg c12, if_neg c13, if_neg c14] <;> rfl)
              · refine lv_aload_n hx hb dX4_acquire_164 rfl (lv_at hl 1 rfl) ?_
                refine lv_aload_n hx hb dX4_acquire_165 rfl (lv_at hl 1 rfl) ?_
                refine wd_get (O := (mdO G)) (v := .int ((up (up M 0 1 0) 2 j1 ((up M 0 1 0) 0 0)) 0 2)) hx hb hts hi4 hown hK hP (md_lt (by omega)) mE_0 rfl 2 (by decide) (hts (.fieldLink RX4 80 "LeaseDeskModel" "numbers" "I") (by decide +kernel)) (fun _ h9 => h9) rfl dX4_acquire_166 ?_
                refine lv_iconst (v := 1) hx hb dX4_acquire_169 (by decide) ?_
                refine lv_iadd hx hb dX4_acquire_170 ?_
                refine wd_put (O := (mdO G)) (ty := .int) hj hx hb hts hi4 tyX4 tyX4_ok nmX4 hown hK hP hS (md_lt (by omega)) mE_0 rfl 2 (by decide) (hts (.fieldLink RX4 80 "LeaseDeskModel" "numbers" "I") (by decide +kernel)) (fun _ h9 => h9) rfl (by decide +kernel) rfl rfl (Nat.le_of_ble_eq_true rfl) (mE_0.trans rfl) dX4_acquire_171 (fun H locs hP hS => ?_)
                refine lv_aload_n hx hb dX4_acquire_174 rfl (lv_at hl 1 rfl) ?_
                refine wd_get (O := (mdO G)) (v := .ref (wa (mdO G) 10)) hx hb hts hi4 hown hK hP (md_lt (by omega)) mE_0 rfl 12 (by decide) (hts (.fieldLink RX4 38 "LeaseDeskModel" "wishes" "[I") (by decide +kernel)) (fun _ h9 => h9) rfl dX4_acquire_175 ?_
                refine lv_iload hx hb dX4_acquire_178 (lv_at hl 0 rfl) ?_
                refine lv_aload_n hx hb dX4_acquire_180 rfl (lv_at hl 1 rfl) ?_
                refine wd_get (O := (mdO G)) (v := .int ((up (up (up M 0 1 0) 2 j1 ((up M 0 1 0) 0 0)) 0 2 (((up (up M 0 1 0) 2 j1 ((up M 0 1 0) 0 0)) 0 2) + 1)) 0 2)) hx hb hts hi4 hown hK hP (md_lt (by omega)) mE_0 rfl 2 (by decide) (hts (.fieldLink RX4 80 "LeaseDeskModel" "numbers" "I") (by decide +kernel)) (fun _ h9 => h9) rfl dX4_acquire_181 ?_
                refine wd_iast (O := (mdO G)) hj hx hb hK hP hS (md_lt (by omega)) 0 mE_10 rfl (i := (j2 * 6 + j1)) rfl (by omega) (by decide) dX4_acquire_184 (fun H locs hP hS => ?_)
                refine lv_aload_n hx hb dX4_acquire_185 rfl (lv_at hl 1 rfl) ?_
                refine wd_get (O := (mdO G)) (v := .ref (wa (mdO G) 11)) hx hb hts hi4 hown hK hP (md_lt (by omega)) mE_0 rfl 13 (by decide) (hts (.fieldLink RX4 41 "LeaseDeskModel" "wished" "[I") (by decide +kernel)) (fun _ h9 => h9) rfl dX4_acquire_186 ?_
                refine lv_iload hx hb dX4_acquire_189 (lv_at hl 0 rfl) ?_
                refine lv_iload_n hx hb dX4_acquire_191 rfl (lv_at hl 4 rfl) ?_
                refine wd_iast (O := (mdO G)) hj hx hb hK hP hS (md_lt (by omega)) 0 mE_11 rfl (i := (j2 * 6 + j1)) rfl (by omega) (by decide) dX4_acquire_192 (fun H locs hP hS => ?_)
                refine lv_iconst (v := 0) hx hb dX4_acquire_193 (by decide) ?_
                exact wd_iret (O := (mdO G)) hx hb hr hlocks hK hP hS rfl dX4_acquire_194 (by have c12 : ¬ maA M j1 5 j2 = nI j1 + 1 := c12; have c13 : ¬ maA M j1 5 j2 = 0 := c13; have c14 : maA M j1 10 (j2 * 6 + j1) = 0 := c14; simp only [maqV, ho, hd, if_neg c8, if_pos c10, maV, maM, maR, maW, if_neg c12, if_neg c13, if_pos c14] <;> rfl) (by have c12 : ¬ maA M j1 5 j2 = nI j1 + 1 := c12; have c13 : ¬ maA M j1 5 j2 = 0 := c13; have c14 : maA M j1 10 (j2 * 6 + j1) = 0 := c14; simp only [maqM, ho, hd, if_neg c8, if_pos c10, maM, maR, maW, if_neg c12, if_neg c13, if_pos c14] <;> rfl)
            · refine lv_aload_n hx hb dX4_acquire_132 rfl (lv_at hl 0 rfl) ?_
              refine lv_iload_n hx hb dX4_acquire_133 rfl (lv_at hl 2 rfl) ?_
              refine lv_iload_n hx hb dX4_acquire_134 rfl (lv_at hl 1 rfl) ?_
              refine lv_iload_n hx hb dX4_acquire_135 rfl (lv_at hl 3 rfl) ?_
              refine wd_cv (O := (mdO G)) hS (va_runV (As := [.int (nI j2), .int (nI j1), .int t]) (rest := []) ⟨hx, hb, hml, hown, hts⟩ (c_X4_lend (G := G) hj H.size j2 j1 t (by omega) (by omega)) (cwV 3 hts gX4_acquire_X4_lend rfl rfl rfl (by decide +kernel) ⟨Nat.le_of_ble_eq_true rfl, Nat.le_of_ble_eq_true rfl⟩) (wd_pre hK hP (md_lt (by omega)) mE_0 rfl) rfl rfl hl.1 rfl (lv_room (Nat.le_of_ble_eq_true rfl)) dX4_acquire_136 ⟨Nat.le_of_ble_eq_true rfl, Nat.le_of_ble_eq_true rfl⟩) (fun H locs hP hS => ?_)
              refine lv_aload_n hx hb dX4_acquire_139 rfl (lv_at hl 0 rfl) ?_
              refine wd_get (O := (mdO G)) (v := .ref (wa (mdO G) 6)) hx hb hts hi4 hown hK hP (md_lt (by omega)) mE_0 rfl 8 (by decide) (hts (.fieldLink RX4 26 "LeaseDeskModel" "tokens" "[I") (by decide +kernel)) (fun _ h9 => h9) rfl dX4_acquire_140 ?_
              refine lv_iload_n hx hb dX4_acquire_143 rfl (lv_at hl 2 rfl) ?_
              refine wd_iald (O := (mdO G)) hx hb hK hP (md_lt (by omega)) 0 (mE_6 _) rfl (i := j2) rfl (by omega) (by decide) dX4_acquire_144 ?_
              exact wd_iret (O := (mdO G)) hx hb hr hlocks hK hP hS rfl dX4_acquire_145 (by have c12 : ¬ maA M j1 5 j2 = nI j1 + 1 := c12; have c13 : maA M j1 5 j2 = 0 := c13; simp only [maqV, ho, hd, if_neg c8, if_pos c10, maV, maM, maR, maW, if_neg c12, if_pos c13] <;> rfl) (by have c12 : ¬ maA M j1 5 j2 = nI j1 + 1 := c12; have c13 : maA M j1 5 j2 = 0 := c13; simp only [maqM, ho, hd, if_neg c8, if_pos c10, maM, maR, maW, if_neg c12, if_pos c13] <;> rfl)
          · refine lv_aload_n hx hb dX4_acquire_70 rfl (lv_at hl 0 rfl) ?_
            refine wd_get (O := (mdO G)) (v := .int ((up (up M 0 1 0) 2 j1 ((up M 0 1 0) 0 0)) 0 0)) hx hb hts hi4 hown hK hP (md_lt (by omega)) mE_0 rfl 0 (by decide) (hts (.fieldLink RX4 54 "LeaseDeskModel" "time" "I") (by decide +kernel)) (fun _ h9 => h9) rfl dX4_acquire_71 ?_
            refine lv_iload_n hx hb dX4_acquire_74 rfl (lv_at hl 3 rfl) ?_
            refine lv_iadd hx hb dX4_acquire_75 ?_
            refine lv_aload_n hx hb dX4_acquire_76 rfl (lv_at hl 0 rfl) ?_
            refine wd_get (O := (mdO G)) (v := .ref (wa (mdO G) 7)) hx hb hts hi4 hown hK hP (md_lt (by omega)) mE_0 rfl 9 (by decide) (hts (.fieldLink RX4 29 "LeaseDeskModel" "ends" "[I") (by decide +kernel)) (fun _ h9 => h9) rfl dX4_acquire_77 ?_
            refine lv_iload_n hx hb dX4_acquire_80 rfl (lv_at hl 2 rfl) ?_
            refine wd_iald (O := (mdO G)) hx hb hK hP (md_lt (by omega)) 0 (mE_7 _) rfl (i := j2) rfl (by omega) (by decide) dX4_acquire_81 ?_
            refine lv_icmp_le (tgt := 116) hx hb dX4_acquire_82 (by decide) (fun c15 => ?_) (fun c15 => ?_)
            · refine lv_aload_n hx hb dX4_acquire_116 rfl (lv_at hl 0 rfl) ?_
              refine wd_get (O := (mdO G)) (v := .ref (wa (mdO G) 6)) hx hb hts hi4 hown hK hP (md_lt (by omega)) mE_0 rfl 8 (by decide) (hts (.fieldLink RX4 26 "LeaseDeskModel" "tokens" "[I") (by decide +kernel)) (fun _ h9 => h9) rfl dX4_acquire_117 ?_
              refine lv_iload_n hx hb dX4_acquire_120 rfl (lv_at hl 2 rfl) ?_
              refine wd_iald (O := (mdO G)) hx hb hK hP (md_lt (by omega)) 0 (mE_6 _) rfl (i := j2) rfl (by omega) (by decide) dX4_acquire_121 ?_
              exact wd_iret (O := (mdO G)) hx hb hr hlocks hK hP hS rfl dX4_acquire_122 (by have c12 : maA M j1 5 j2 = nI j1 + 1 := c12; have c15 : maA M j1 0 0 + t ≤ maA M j1 7 j2 := c15; simp only [maqV, ho, hd, if_neg c8, if_pos c10, maV, maM, maR, maW, if_pos c12, if_pos c15] <;> rfl) (by have c12 : maA M j1 5 j2 = nI j1 + 1 := c12; have c15 : maA M j1 0 0 + t ≤ maA M j1 7 j2 := c15; simp only [maqM, ho, hd, if_neg c8, if_pos c10, maM, maR, maW, if_pos c12, if_pos c15] <;> rfl)
            · refine lv_aload_n hx hb dX4_acquire_85 rfl (lv_at hl 0 rfl) ?_
              refine wd_get (O := (mdO G)) (v := .ref (wa (mdO G) 7)) hx hb hts hi4 hown hK hP (md_lt (by omega)) mE_0 rfl 9 (by decide) (hts (.fieldLink RX4 29 "LeaseDeskModel" "ends" "[I") (by decide +kernel)) (fun _ h9 => h9) rfl dX4_acquire_86 ?_
              refine lv_iload_n hx hb dX4_acquire_89 rfl (lv_at hl 2 rfl) ?_
              refine lv_aload_n hx hb dX4_acquire_90 rfl (lv_at hl 0 rfl) ?_
              refine wd_get (O := (mdO G)) (v := .int ((up (up M 0 1 0) 2 j1 ((up M 0 1 0) 0 0)) 0 0)) hx hb hts hi4 hown hK hP (md_lt (by omega)) mE_0 rfl 0 (by decide) (hts (.fieldLink RX4 54 "LeaseDeskModel" "time" "I") (by decide +kernel)) (fun _ h9 => h9) rfl dX4_acquire_91 ?_
              refine lv_iload_n hx hb dX4_acquire_94 rfl (lv_at hl 3 rfl) ?_
              refine lv_iadd hx hb dX4_acquire_95 ?_
              refine wd_iast (O := (mdO G)) hj hx hb hK hP hS (md_lt (by omega)) 0 mE_7 rfl (i := j2) rfl (by omega) (by decide) dX4_acquire_96 (fun H locs hP hS => ?_)
              refine lv_aload_n hx hb dX4_acquire_97 rfl (lv_at hl 0 rfl) ?_
              refine wd_get (O := (mdO G)) (v := .ref (wa (mdO G) 8)) hx hb hts hi4 hown hK hP (md_lt (by omega)) mE_0 rfl 10 (by decide) (hts (.fieldLink RX4 32 "LeaseDeskModel" "terms" "[I") (by decide +kernel)) (fun _ h9 => h9) rfl dX4_acquire_98 ?_
              refine lv_iload_n hx hb dX4_acquire_101 rfl (lv_at hl 2 rfl) ?_
              refine lv_iload_n hx hb dX4_acquire_102 rfl (lv_at hl 3 rfl) ?_
              refine wd_iast (O := (mdO G)) hj hx hb hK hP hS (md_lt (by omega)) 0 mE_8 rfl (i := j2) rfl (by omega) (by decide) dX4_acquire_103 (fun H locs hP hS => ?_)
              refine lv_aload_n hx hb dX4_acquire_104 rfl (lv_at hl 0 rfl) ?_
              refine wd_get (O := (mdO G)) (v := .ref (wa (mdO G) 9)) hx hb hts hi4 hown hK hP (md_lt (by omega)) mE_0 rfl 11 (by decide) (hts (.fieldLink RX4 35 "LeaseDeskModel" "starts" "[I") (by decide +kernel)) (fun _ h9 => h9) rfl dX4_acquire_105 ?_
              refine lv_iload_n hx hb dX4_acquire_108 rfl (lv_at hl 2 rfl) ?_
              refine lv_aload_n hx hb dX4_acquire_109 rfl (lv_at hl 0 rfl) ?_
              refine wd_get (O := (mdO G)) (v := .ref (wa (mdO G) 4)) hx hb hts hi4 hown hK hP (md_lt (by omega)) mE_0 rfl 6 (by decide) (hts (.fieldLink RX4 20 "LeaseDeskModel" "clocks" "[I") (by decide +kernel)) (fun _ h9 => h9) rfl dX4_acquire_110 ?_
              refine lv_iload_n hx hb dX4_acquire_113 rfl (lv_at hl 1 rfl) ?_
              refine wd_iald (O := (mdO G)) hx hb hK hP (md_lt (by omega)) 0 (mE_4 _) rfl (i := j1) rfl (by omega) (by decide) dX4_acquire_114 ?_
              refine wd_iast (O := (mdO G)) hj hx hb hK hP hS (md_lt (by omega)) 0 mE_9 rfl (i := j2) rfl (by omega) (by decide) dX4_acquire_115 (fun H locs hP hS => ?_)
              refine lv_aload_n hx hb dX4_acquire_116 rfl (lv_at hl 0 rfl) ?_
              refine wd_get (O := (mdO G)) (v := .ref (wa (mdO G) 6)) hx hb hts hi4 hown hK hP (md_lt (by omega)) mE_0 rfl 8 (by decide) (hts (.fieldLink RX4 26 "LeaseDeskModel" "tokens" "[I") (by decide +kernel)) (fun _ h9 => h9) rfl dX4_acquire_117 ?_
              refine lv_iload_n hx hb dX4_acquire_120 rfl (lv_at hl 2 rfl) ?_
              refine wd_iald (O := (mdO G)) hx hb hK hP (md_lt (by omega)) 0 (mE_6 _) rfl (i := j2) rfl (by omega) (by decide) dX4_acquire_121 ?_
              exact wd_iret (O := (mdO G)) hx hb hr hlocks hK hP hS rfl dX4_acquire_122 (by have c12 : maA M j1 5 j2 = nI j1 + 1 := c12; have c15 : ¬ maA M j1 0 0 + t ≤ maA M j1 7 j2 := c15; simp only [maqV, ho, hd, if_neg c8, if_pos c10, maV, maM, maR, maW, if_pos c12, if_neg c15] <;> rfl) (by have c12 : maA M j1 5 j2 = nI j1 + 1 := c12; have c15 : ¬ maA M j1 0 0 + t ≤ maA M j1 7 j2 := c15; simp only [maqM, ho, hd, if_neg c8, if_pos c10, maM, maR, maW, if_pos c12, if_neg c15] <;> rfl)
        · refine lv_iconst (v := 2) hx hb dX4_acquire_31 (by decide) ?_
          refine lv_goto (tgt := 36) hx hb dX4_acquire_32 (by decide) ?_
          refine wd_put (O := (mdO G)) (ty := .int) hj hx hb hts hi4 tyX4 tyX4_ok nmX4 hown hK hP hS (md_lt (by omega)) mE_0 rfl 1 (by decide) (hts (.fieldLink RX4 50 "LeaseDeskModel" "thrown" "I") (by decide +kernel)) (fun _ h9 => h9) rfl (by decide +kernel) rfl rfl (Nat.le_of_ble_eq_true rfl) (mE_0.trans rfl) dX4_acquire_36 (fun H locs hP hS => ?_)
          refine lv_aload_n hx hb dX4_acquire_39 rfl (lv_at hl 0 rfl) ?_
          refine wd_get (O := (mdO G)) (v := .int ((up M 0 1 2) 0 1)) hx hb hts hi4 hown hK hP (md_lt (by omega)) mE_0 rfl 1 (by decide) (hts (.fieldLink RX4 50 "LeaseDeskModel" "thrown" "I") (by decide +kernel)) (fun _ h9 => h9) rfl dX4_acquire_40 ?_
          refine wd_re (y := 2) (up_s _ _ _ _) ?_
          refine lv_if_le (tgt := 48) hx hb dX4_acquire_43 (by decide) (fun c16 => absurd c16 (by decide)) (fun c16 => ?_)
          refine lv_iconst (v := 0) hx hb dX4_acquire_46 (by decide) ?_
          exact wd_iret (O := (mdO G)) hx hb hr hlocks hK hP hS rfl dX4_acquire_47 (by simp only [maqV, ho, hd, if_neg c8, if_neg c10]) (by simp only [maqM, ho, hd, if_neg c8, if_neg c10])
set_option maxRecDepth 100000 in
set_option maxHeartbeats 4000000 in
theorem c_X4_release {l : Launch} {G : MG} (hj : wj (mdO G)) {M : Mem} (sz : Nat) (x y : Int32) : Met l yX4_release wsX4_release ({ frames := 2, cells := 0, slots := 0, locals := 48 }) (va_Pc [.ref (wa (mdO G) 0), .int x, .int y] (wp (mdO G) sz M)) (wQv (mdO G) sz (mrlM M x y)) 0 0 (wA (mdO G) sz) := by
  rcases op_cases (moV M x) with ho | ⟨j1, ho⟩
  · refine wd_ofW (O := (mdO G)) (M := M) (Qc := fun z => wQv (mdO G) z (mrlM M x y)) (cc := cX4_release) (maxL := 3) (ret := none) (lv := [(0, .ref (wa (mdO G) 0)), (1, .int x), (2, .int y)]) (by decide) rfl (Nat.le_of_ble_eq_true rfl) rfl ?_
    intro p e s m below meth c ls hx hb hr hml hown hts hlocks hP hK hS hl
    have hi4 : ∀ w ∈ wsX40, w ∈ wsX4_release := by decide +kernel
    refine lv_aload_n hx hb dX4_release_0 rfl (lv_at hl 0 rfl) ?_
    refine lv_aload_n hx hb dX4_release_1 rfl (lv_at hl 0 rfl) ?_
    refine lv_iload_n hx hb dX4_release_2 rfl (lv_at hl 1 rfl) ?_
    refine wd_ci (O := (mdO G)) hS (va_runV (As := [.int x]) (rest := [.ref (wa (mdO G) 0)]) ⟨hx, hb, hml, hown, hts⟩ (c_X4_isOpen (G := G) hj s.heap.size x ) (cwV 1 hts gX4_release_X4_isOpen rfl rfl rfl (by decide +kernel) ⟨Nat.le_of_ble_eq_true rfl, Nat.le_of_ble_eq_true rfl⟩) (wd_pre hK hP (md_lt (by omega)) mE_0 rfl) rfl rfl hl.1 rfl (lv_room (Nat.le_of_ble_eq_true rfl)) dX4_release_3 ⟨Nat.le_of_ble_eq_true rfl, Nat.le_of_ble_eq_true rfl⟩) (fun H locs hP hS => ?_)
    refine wd_re (y := 0) (by rw [ho]; rfl) ?_
    refine lv_if_ne (tgt := 13) hx hb dX4_release_6 (by decide) (fun c1 => absurd rfl c1) (fun c1 => ?_)
    refine lv_iconst (v := 1) hx hb dX4_release_9 (by decide) ?_
    refine lv_goto (tgt := 41) hx hb dX4_release_10 (by decide) ?_
    refine wd_put (O := (mdO G)) (ty := .int) hj hx hb hts hi4 tyX4 tyX4_ok nmX4 hown hK hP hS (md_lt (by omega)) mE_0 rfl 1 (by decide) (hts (.fieldLink RX4 50 "LeaseDeskModel" "thrown" "I") (by decide +kernel)) (fun _ h9 => h9) rfl (by decide +kernel) rfl rfl (Nat.le_of_ble_eq_true rfl) (mE_0.trans rfl) dX4_release_41 (fun H locs hP hS => ?_)
    refine lv_aload_n hx hb dX4_release_44 rfl (lv_at hl 0 rfl) ?_
    refine wd_get (O := (mdO G)) (v := .int ((up M 0 1 1) 0 1)) hx hb hts hi4 hown hK hP (md_lt (by omega)) mE_0 rfl 1 (by decide) (hts (.fieldLink RX4 50 "LeaseDeskModel" "thrown" "I") (by decide +kernel)) (fun _ h9 => h9) rfl dX4_release_45 ?_
    refine wd_re (y := 1) (up_s _ _ _ _) ?_
    refine lv_if_ne (tgt := 56) hx hb dX4_release_48 (by decide) (fun c2 => ?_) (fun c2 => absurd c2 (by decide))
    exact wd_vret (O := (mdO G)) hx hb hr hlocks hK hP hS dX4_release_56 (by simp only [mrlM, ho])
  · obtain ⟨hj1, rfl, hon⟩ := moV_some ho
    rcases op_cases (dN y 4) with hd | ⟨j2, hd⟩
    · refine wd_ofW (O := (mdO G)) (M := M) (Qc := fun z => wQv (mdO G) z (mrlM M (nI j1) y)) (cc := cX4_release) (maxL := 3) (ret := none) (lv := [(0, .ref (wa (mdO G) 0)), (1, .int (nI j1)), (2, .int y)]) (by decide) rfl (Nat.le_of_ble_eq_true rfl) rfl ?_
      intro p e s m below meth c ls hx hb hr hml hown hts hlocks hP hK hS hl
      have hi4 : ∀ w ∈ wsX40, w ∈ wsX4_release := by decide +kernel
      refine lv_aload_n hx hb dX4_release_0 rfl (lv_at hl 0 rfl) ?_
      refine lv_aload_n hx hb dX4_release_1 rfl (lv_at hl 0 rfl) ?_
      refine lv_iload_n hx hb dX4_release_2 rfl (lv_at hl 1 rfl) ?_
      refine wd_ci (O := (mdO G)) hS (va_runV (As := [.int (nI j1)]) (rest := [.ref (wa (mdO G) 0)]) ⟨hx, hb, hml, hown, hts⟩ (c_X4_isOpen (G := G) hj s.heap.size (nI j1) ) (cwV 1 hts gX4_release_X4_isOpen rfl rfl rfl (by decide +kernel) ⟨Nat.le_of_ble_eq_true rfl, Nat.le_of_ble_eq_true rfl⟩) (wd_pre hK hP (md_lt (by omega)) mE_0 rfl) rfl rfl hl.1 rfl (lv_room (Nat.le_of_ble_eq_true rfl)) dX4_release_3 ⟨Nat.le_of_ble_eq_true rfl, Nat.le_of_ble_eq_true rfl⟩) (fun H locs hP hS => ?_)
      refine wd_re (y := 1) (by rw [ho]; rfl) ?_
      refine lv_if_ne (tgt := 13) hx hb dX4_release_6 (by decide) (fun c3 => ?_) (fun c3 => absurd c3 (by decide))
      refine lv_iload_n hx hb dX4_release_13 rfl (lv_at hl 2 rfl) ?_
      refine wd_ci (O := (mdO G)) hS (va_runS (As := [.int y]) (rest := [.ref (wa (mdO G) 0)]) ⟨hx, hb, hml, hown, hts⟩ (c_X4_isLock (G := G) hj H.size y ) (va_cwS 1 hts gX4_release_X4_isLock rfl rfl rfl (by decide +kernel) ⟨Nat.le_of_ble_eq_true rfl, Nat.le_of_ble_eq_true rfl⟩) (wd_preS hK hP) rfl rfl hl.1 rfl (lv_room (Nat.le_of_ble_eq_true rfl)) dX4_release_14 ⟨Nat.le_of_ble_eq_true rfl, Nat.le_of_ble_eq_true rfl⟩) (fun H locs hP hS => ?_)
      refine wd_re (y := 0) (by rw [hd]; rfl) ?_
      refine lv_if_ne (tgt := 24) hx hb dX4_release_17 (by decide) (fun c4 => absurd rfl c4) (fun c4 => ?_)
      refine lv_iconst (v := 2) hx hb dX4_release_20 (by decide) ?_
      refine lv_goto (tgt := 41) hx hb dX4_release_21 (by decide) ?_
      refine wd_put (O := (mdO G)) (ty := .int) hj hx hb hts hi4 tyX4 tyX4_ok nmX4 hown hK hP hS (md_lt (by omega)) mE_0 rfl 1 (by decide) (hts (.fieldLink RX4 50 "LeaseDeskModel" "thrown" "I") (by decide +kernel)) (fun _ h9 => h9) rfl (by decide +kernel) rfl rfl (Nat.le_of_ble_eq_true rfl) (mE_0.trans rfl) dX4_release_41 (fun H locs hP hS => ?_)
      refine lv_aload_n hx hb dX4_release_44 rfl (lv_at hl 0 rfl) ?_
      refine wd_get (O := (mdO G)) (v := .int ((up M 0 1 2) 0 1)) hx hb hts hi4 hown hK hP (md_lt (by omega)) mE_0 rfl 1 (by decide) (hts (.fieldLink RX4 50 "LeaseDeskModel" "thrown" "I") (by decide +kernel)) (fun _ h9 => h9) rfl dX4_release_45 ?_
      refine wd_re (y := 2) (up_s _ _ _ _) ?_
      refine lv_if_ne (tgt := 56) hx hb dX4_release_48 (by decide) (fun c5 => ?_) (fun c5 => absurd c5 (by decide))
      exact wd_vret (O := (mdO G)) hx hb hr hlocks hK hP hS dX4_release_56 (by simp only [mrlM, ho, hd])
    · obtain ⟨hj2, rfl⟩ := dN_some (by decide) hd
      refine wd_ofW (O := (mdO G)) (M := M) (Qc := fun z => wQv (mdO G) z (mrlM M (nI j1) (nI j2))) (cc := cX4_release) (maxL := 3) (ret := none) (lv := [(0, .ref (wa (mdO G) 0)), (1, .int (nI j1)), (2, .int (nI j2))]) (by decide) rfl (Nat.le_of_ble_eq_true rfl) rfl ?_
      intro p e s m below meth c ls hx hb hr hml hown hts hlocks hP hK hS hl
      have hi4 : ∀ w ∈ wsX40, w ∈ wsX4_release := by decide +kernel
      refine lv_aload_n hx hb dX4_release_0 rfl (lv_at hl 0 rfl) ?_
      refine lv_aload_n hx hb dX4_release_1 rfl (lv_at hl 0 rfl) ?_
      refine lv_iload_n hx hb dX4_release_2 rfl (lv_at hl 1 rfl) ?_
      refine wd_ci (O := (mdO G)) hS (va_runV (As := [.int (nI j1)]) (rest := [.ref (wa (mdO G) 0)]) ⟨hx, hb, hml, hown, hts⟩ (c_X4_isOpen (G := G) hj s.heap.size (nI j1) ) (cwV 1 hts gX4_release_X4_isOpen rfl rfl rfl (by decide +kernel) ⟨Nat.le_of_ble_eq_true rfl, Nat.le_of_ble_eq_true rfl⟩) (wd_pre hK hP (md_lt (by omega)) mE_0 rfl) rfl rfl hl.1 rfl (lv_room (Nat.le_of_ble_eq_true rfl)) dX4_release_3 ⟨Nat.le_of_ble_eq_true rfl, Nat.le_of_ble_eq_true rfl⟩) (fun H locs hP hS => ?_)
      refine wd_re (y := 1) (by rw [ho]; rfl) ?_
      refine lv_if_ne (tgt := 13) hx hb dX4_release_6 (by decide) (fun c6 => ?_) (fun c6 => absurd c6 (by decide))
      refine lv_iload_n hx hb dX4_release_13 rfl (lv_at hl 2 rfl) ?_
      refine wd_ci (O := (mdO G)) hS (va_runS (As := [.int (nI j2)]) (rest := [.ref (wa (mdO G) 0)]) ⟨hx, hb, hml, hown, hts⟩ (c_X4_isLock (G := G) hj H.size (nI j2) ) (va_cwS 1 hts gX4_release_X4_isLock rfl rfl rfl (by decide +kernel) ⟨Nat.le_of_ble_eq_true rfl, Nat.le_of_ble_eq_true rfl⟩) (wd_preS hK hP) rfl rfl hl.1 rfl (lv_room (Nat.le_of_ble_eq_true rfl)) dX4_release_14 ⟨Nat.le_of_ble_eq_true rfl, Nat.le_of_ble_eq_true rfl⟩) (fun H locs hP hS => ?_)
      refine wd_re (y := 1) (by rw [hd]; rfl) ?_
      refine lv_if_ne (tgt := 24) hx hb dX4_release_17 (by decide) (fun c7 => ?_) (fun c7 => absurd c7 (by decide))
      refine lv_aload_n hx hb dX4_release_24 rfl (lv_at hl 0 rfl) ?_
      refine wd_get (O := (mdO G)) (v := .ref (wa (mdO G) 5)) hx hb hts hi4 hown hK hP (md_lt (by omega)) mE_0 rfl 7 (by decide) (hts (.fieldLink RX4 23 "LeaseDeskModel" "has" "[I") (by decide +kernel)) (fun _ h9 => h9) rfl dX4_release_25 ?_
      refine lv_iload_n hx hb dX4_release_28 rfl (lv_at hl 2 rfl) ?_
      refine wd_iald (O := (mdO G)) hx hb hK hP (md_lt (by omega)) 0 (mE_5 _) rfl (i := j2) rfl (by omega) (by decide) dX4_release_29 ?_
      refine lv_iload_n hx hb dX4_release_30 rfl (lv_at hl 1 rfl) ?_
      refine lv_iconst (v := 1) hx hb dX4_release_31 (by decide) ?_
      refine lv_iadd hx hb dX4_release_32 ?_
      refine lv_icmp_eq (tgt := 40) hx hb dX4_release_33 (by decide) (fun c8 => ?_) (fun c8 => ?_)
      · refine lv_iconst (v := 0) hx hb dX4_release_40 (by decide) ?_
        refine wd_put (O := (mdO G)) (ty := .int) hj hx hb hts hi4 tyX4 tyX4_ok nmX4 hown hK hP hS (md_lt (by omega)) mE_0 rfl 1 (by decide) (hts (.fieldLink RX4 50 "LeaseDeskModel" "thrown" "I") (by decide +kernel)) (fun _ h9 => h9) rfl (by decide +kernel) rfl rfl (Nat.le_of_ble_eq_true rfl) (mE_0.trans rfl) dX4_release_41 (fun H locs hP hS => ?_)
        refine lv_aload_n hx hb dX4_release_44 rfl (lv_at hl 0 rfl) ?_
        refine wd_get (O := (mdO G)) (v := .int ((up M 0 1 0) 0 1)) hx hb hts hi4 hown hK hP (md_lt (by omega)) mE_0 rfl 1 (by decide) (hts (.fieldLink RX4 50 "LeaseDeskModel" "thrown" "I") (by decide +kernel)) (fun _ h9 => h9) rfl dX4_release_45 ?_
        refine wd_re (y := 0) (up_s _ _ _ _) ?_
        refine lv_if_ne (tgt := 56) hx hb dX4_release_48 (by decide) (fun c9 => absurd rfl c9) (fun c9 => ?_)
        refine lv_aload_n hx hb dX4_release_51 rfl (lv_at hl 0 rfl) ?_
        refine lv_iload_n hx hb dX4_release_52 rfl (lv_at hl 2 rfl) ?_
        refine wd_cv (O := (mdO G)) hS (va_runV (As := [.int (nI j2)]) (rest := []) ⟨hx, hb, hml, hown, hts⟩ (c_X4_over (G := G) hj H.size j2 (by omega)) (cwV 1 hts gX4_release_X4_over rfl rfl rfl (by decide +kernel) ⟨Nat.le_of_ble_eq_true rfl, Nat.le_of_ble_eq_true rfl⟩) (wd_pre hK hP (md_lt (by omega)) mE_0 rfl) rfl rfl hl.1 rfl (lv_room (Nat.le_of_ble_eq_true rfl)) dX4_release_53 ⟨Nat.le_of_ble_eq_true rfl, Nat.le_of_ble_eq_true rfl⟩) (fun H locs hP hS => ?_)
        exact wd_vret (O := (mdO G)) hx hb hr hlocks hK hP hS dX4_release_56 (by simp only [mrlM, ho, hd, if_pos c8])
      · refine lv_iconst (v := 3) hx hb dX4_release_36 (by decide) ?_
        refine lv_goto (tgt := 41) hx hb dX4_release_37 (by decide) ?_
        refine wd_put (O := (mdO G)) (ty := .int) hj hx hb hts hi4 tyX4 tyX4_ok nmX4 hown hK hP hS (md_lt (by omega)) mE_0 rfl 1 (by decide) (hts (.fieldLink RX4 50 "LeaseDeskModel" "thrown" "I") (by decide +kernel)) (fun _ h9 => h9) rfl (by decide +kernel) rfl rfl (Nat.le_of_ble_eq_true rfl) (mE_0.trans rfl) dX4_release_41 (fun H locs hP hS => ?_)
        refine lv_aload_n hx hb dX4_release_44 rfl (lv_at hl 0 rfl) ?_
        refine wd_get (O := (mdO G)) (v := .int ((up M 0 1 3) 0 1)) hx hb hts hi4 hown hK hP (md_lt (by omega)) mE_0 rfl 1 (by decide) (hts (.fieldLink RX4 50 "LeaseDeskModel" "thrown" "I") (by decide +kernel)) (fun _ h9 => h9) rfl dX4_release_45 ?_
        refine wd_re (y := 3) (up_s _ _ _ _) ?_
        refine lv_if_ne (tgt := 56) hx hb dX4_release_48 (by decide) (fun c10 => ?_) (fun c10 => absurd c10 (by decide))
        exact wd_vret (O := (mdO G)) hx hb hr hlocks hK hP hS dX4_release_56 (by simp only [mrlM, ho, hd, if_neg c8])
set_option maxRecDepth 100000 in
set_option maxHeartbeats 4000000 in
theorem c_X4_cancel {l : Launch} {G : MG} (hj : wj (mdO G)) {M : Mem} (sz : Nat) (x y : Int32) : Met l yX4_cancel wsX4_cancel ({ frames := 1, cells := 0, slots := 0, locals := 21 }) (va_Pc [.ref (wa (mdO G) 0), .int x, .int y] (wp (mdO G) sz M)) (wQi (mdO G) sz (mcnV M x y) (mcnM M x y)) 0 0 (wA (mdO G) sz) := by
  rcases op_cases (moV M x) with ho | ⟨j1, ho⟩
  · refine wd_ofW (O := (mdO G)) (M := M) (Qc := fun z => wQi (mdO G) z (mcnV M x y) (mcnM M x y)) (cc := cX4_cancel) (maxL := 3) (ret := (some .boolean)) (lv := [(0, .ref (wa (mdO G) 0)), (1, .int x), (2, .int y)]) (by decide) rfl (Nat.le_of_ble_eq_true rfl) rfl ?_
    intro p e s m below meth c ls hx hb hr hml hown hts hlocks hP hK hS hl
    have hi4 : ∀ w ∈ wsX40, w ∈ wsX4_cancel := by decide +kernel
    refine lv_aload_n hx hb dX4_cancel_0 rfl (lv_at hl 0 rfl) ?_
    refine lv_iload_n hx hb dX4_cancel_1 rfl (lv_at hl 1 rfl) ?_
    refine wd_ci (O := (mdO G)) hS (va_runV (As := [.int x]) (rest := []) ⟨hx, hb, hml, hown, hts⟩ (c_X4_isOpen (G := G) hj s.heap.size x ) (cwV 1 hts gX4_cancel_X4_isOpen rfl rfl rfl (by decide +kernel) ⟨Nat.le_of_ble_eq_true rfl, Nat.le_of_ble_eq_true rfl⟩) (wd_pre hK hP (md_lt (by omega)) mE_0 rfl) rfl rfl hl.1 rfl (lv_room (Nat.le_of_ble_eq_true rfl)) dX4_cancel_2 ⟨Nat.le_of_ble_eq_true rfl, Nat.le_of_ble_eq_true rfl⟩) (fun H locs hP hS => ?_)
    refine wd_re (y := 0) (by rw [ho]; rfl) ?_
    refine lv_if_eq (tgt := 29) hx hb dX4_cancel_5 (by decide) (fun c1 => ?_) (fun c1 => absurd rfl c1)
    refine lv_iconst (v := 0) hx hb dX4_cancel_29 (by decide) ?_
    exact wd_iret (O := (mdO G)) hx hb hr hlocks hK hP hS (by decide) dX4_cancel_30 (by simp only [mcnV, ho]) (by simp only [mcnM, ho])
  · obtain ⟨hj1, rfl, hon⟩ := moV_some ho
    rcases op_cases (dN y 4) with hd | ⟨j2, hd⟩
    · refine wd_ofW (O := (mdO G)) (M := M) (Qc := fun z => wQi (mdO G) z (mcnV M (nI j1) y) (mcnM M (nI j1) y)) (cc := cX4_cancel) (maxL := 3) (ret := (some .boolean)) (lv := [(0, .ref (wa (mdO G) 0)), (1, .int (nI j1)), (2, .int y)]) (by decide) rfl (Nat.le_of_ble_eq_true rfl) rfl ?_
      intro p e s m below meth c ls hx hb hr hml hown hts hlocks hP hK hS hl
      have hi4 : ∀ w ∈ wsX40, w ∈ wsX4_cancel := by decide +kernel
      refine lv_aload_n hx hb dX4_cancel_0 rfl (lv_at hl 0 rfl) ?_
      refine lv_iload_n hx hb dX4_cancel_1 rfl (lv_at hl 1 rfl) ?_
      refine wd_ci (O := (mdO G)) hS (va_runV (As := [.int (nI j1)]) (rest := []) ⟨hx, hb, hml, hown, hts⟩ (c_X4_isOpen (G := G) hj s.heap.size (nI j1) ) (cwV 1 hts gX4_cancel_X4_isOpen rfl rfl rfl (by decide +kernel) ⟨Nat.le_of_ble_eq_true rfl, Nat.le_of_ble_eq_true rfl⟩) (wd_pre hK hP (md_lt (by omega)) mE_0 rfl) rfl rfl hl.1 rfl (lv_room (Nat.le_of_ble_eq_true rfl)) dX4_cancel_2 ⟨Nat.le_of_ble_eq_true rfl, Nat.le_of_ble_eq_true rfl⟩) (fun H locs hP hS => ?_)
      refine wd_re (y := 1) (by rw [ho]; rfl) ?_
      refine lv_if_eq (tgt := 29) hx hb dX4_cancel_5 (by decide) (fun c2 => absurd c2 (by decide)) (fun c2 => ?_)
      refine lv_iload_n hx hb dX4_cancel_8 rfl (lv_at hl 2 rfl) ?_
      refine wd_ci (O := (mdO G)) hS (va_runS (As := [.int y]) (rest := []) ⟨hx, hb, hml, hown, hts⟩ (c_X4_isLock (G := G) hj H.size y ) (va_cwS 1 hts gX4_cancel_X4_isLock rfl rfl rfl (by decide +kernel) ⟨Nat.le_of_ble_eq_true rfl, Nat.le_of_ble_eq_true rfl⟩) (wd_preS hK hP) rfl rfl hl.1 rfl (lv_room (Nat.le_of_ble_eq_true rfl)) dX4_cancel_9 ⟨Nat.le_of_ble_eq_true rfl, Nat.le_of_ble_eq_true rfl⟩) (fun H locs hP hS => ?_)
      refine wd_re (y := 0) (by rw [hd]; rfl) ?_
      refine lv_if_eq (tgt := 29) hx hb dX4_cancel_12 (by decide) (fun c3 => ?_) (fun c3 => absurd rfl c3)
      refine lv_iconst (v := 0) hx hb dX4_cancel_29 (by decide) ?_
      exact wd_iret (O := (mdO G)) hx hb hr hlocks hK hP hS (by decide) dX4_cancel_30 (by simp only [mcnV, ho, hd]) (by simp only [mcnM, ho, hd])
    · obtain ⟨hj2, rfl⟩ := dN_some (by decide) hd
      refine wd_ofW (O := (mdO G)) (M := M) (Qc := fun z => wQi (mdO G) z (mcnV M (nI j1) (nI j2)) (mcnM M (nI j1) (nI j2))) (cc := cX4_cancel) (maxL := 3) (ret := (some .boolean)) (lv := [(0, .ref (wa (mdO G) 0)), (1, .int (nI j1)), (2, .int (nI j2))]) (by decide) rfl (Nat.le_of_ble_eq_true rfl) rfl ?_
      intro p e s m below meth c ls hx hb hr hml hown hts hlocks hP hK hS hl
      have hi4 : ∀ w ∈ wsX40, w ∈ wsX4_cancel := by decide +kernel
      refine lv_aload_n hx hb dX4_cancel_0 rfl (lv_at hl 0 rfl) ?_
      refine lv_iload_n hx hb dX4_cancel_1 rfl (lv_at hl 1 rfl) ?_
      refine wd_ci (O := (mdO G)) hS (va_runV (As := [.int (nI j1)]) (rest := []) ⟨hx, hb, hml, hown, hts⟩ (c_X4_isOpen (G := G) hj s.heap.size (nI j1) ) (cwV 1 hts gX4_cancel_X4_isOpen rfl rfl rfl (by decide +kernel) ⟨Nat.le_of_ble_eq_true rfl, Nat.le_of_ble_eq_true rfl⟩) (wd_pre hK hP (md_lt (by omega)) mE_0 rfl) rfl rfl hl.1 rfl (lv_room (Nat.le_of_ble_eq_true rfl)) dX4_cancel_2 ⟨Nat.le_of_ble_eq_true rfl, Nat.le_of_ble_eq_true rfl⟩) (fun H locs hP hS => ?_)
      refine wd_re (y := 1) (by rw [ho]; rfl) ?_
      refine lv_if_eq (tgt := 29) hx hb dX4_cancel_5 (by decide) (fun c4 => absurd c4 (by decide)) (fun c4 => ?_)
      refine lv_iload_n hx hb dX4_cancel_8 rfl (lv_at hl 2 rfl) ?_
      refine wd_ci (O := (mdO G)) hS (va_runS (As := [.int (nI j2)]) (rest := []) ⟨hx, hb, hml, hown, hts⟩ (c_X4_isLock (G := G) hj H.size (nI j2) ) (va_cwS 1 hts gX4_cancel_X4_isLock rfl rfl rfl (by decide +kernel) ⟨Nat.le_of_ble_eq_true rfl, Nat.le_of_ble_eq_true rfl⟩) (wd_preS hK hP) rfl rfl hl.1 rfl (lv_room (Nat.le_of_ble_eq_true rfl)) dX4_cancel_9 ⟨Nat.le_of_ble_eq_true rfl, Nat.le_of_ble_eq_true rfl⟩) (fun H locs hP hS => ?_)
      refine wd_re (y := 1) (by rw [hd]; rfl) ?_
      refine lv_if_eq (tgt := 29) hx hb dX4_cancel_12 (by decide) (fun c5 => absurd c5 (by decide)) (fun c5 => ?_)
      refine lv_aload_n hx hb dX4_cancel_15 rfl (lv_at hl 0 rfl) ?_
      refine wd_get (O := (mdO G)) (v := .ref (wa (mdO G) 10)) hx hb hts hi4 hown hK hP (md_lt (by omega)) mE_0 rfl 12 (by decide) (hts (.fieldLink RX4 38 "LeaseDeskModel" "wishes" "[I") (by decide +kernel)) (fun _ h9 => h9) rfl dX4_cancel_16 ?_
      refine lv_iload_n hx hb dX4_cancel_19 rfl (lv_at hl 2 rfl) ?_
      refine lv_bipush (v := 6) hx hb dX4_cancel_20 (by decide) ?_
      refine lv_imul hx hb dX4_cancel_22 ?_
      refine lv_iload_n hx hb dX4_cancel_23 rfl (lv_at hl 1 rfl) ?_
      refine lv_iadd hx hb dX4_cancel_24 ?_
      refine wd_re (y := nI (j2 * 6 + j1)) (ml_ix j2 j1) ?_
      refine wd_iald (O := (mdO G)) hx hb hK hP (md_lt (by omega)) 0 (mE_10 _) rfl (i := (j2 * 6 + j1)) rfl (by omega) (by decide) dX4_cancel_25 ?_
      refine lv_if_ne (tgt := 31) hx hb dX4_cancel_26 (by decide) (fun c6 => ?_) (fun c6 => ?_)
      · refine lv_aload_n hx hb dX4_cancel_31 rfl (lv_at hl 0 rfl) ?_
        refine wd_get (O := (mdO G)) (v := .ref (wa (mdO G) 10)) hx hb hts hi4 hown hK hP (md_lt (by omega)) mE_0 rfl 12 (by decide) (hts (.fieldLink RX4 38 "LeaseDeskModel" "wishes" "[I") (by decide +kernel)) (fun _ h9 => h9) rfl dX4_cancel_32 ?_
        refine lv_iload_n hx hb dX4_cancel_35 rfl (lv_at hl 2 rfl) ?_
        refine lv_bipush (v := 6) hx hb dX4_cancel_36 (by decide) ?_
        refine lv_imul hx hb dX4_cancel_38 ?_
        refine lv_iload_n hx hb dX4_cancel_39 rfl (lv_at hl 1 rfl) ?_
        refine lv_iadd hx hb dX4_cancel_40 ?_
        refine wd_re (y := nI (j2 * 6 + j1)) (ml_ix j2 j1) ?_
        refine lv_iconst (v := 0) hx hb dX4_cancel_41 (by decide) ?_
        refine wd_iast (O := (mdO G)) hj hx hb hK hP hS (md_lt (by omega)) 0 mE_10 rfl (i := (j2 * 6 + j1)) rfl (by omega) (by decide) dX4_cancel_42 (fun H locs hP hS => ?_)
        refine lv_iconst (v := 1) hx hb dX4_cancel_43 (by decide) ?_
        exact wd_iret (O := (mdO G)) hx hb hr hlocks hK hP hS (by decide) dX4_cancel_44 (by simp only [mcnV, ho, hd, if_neg c6]) (by simp only [mcnM, ho, hd, if_neg c6])
      · refine lv_iconst (v := 0) hx hb dX4_cancel_29 (by decide) ?_
        exact wd_iret (O := (mdO G)) hx hb hr hlocks hK hP hS (by decide) dX4_cancel_30 (by simp only [mcnV, ho, hd, if_pos c6]) (by simp only [mcnM, ho, hd, if_pos c6])
set_option maxRecDepth 100000 in
set_option maxHeartbeats 4000000 in
theorem c_X4_holder {l : Launch} {G : MG} (hj : wj (mdO G)) {M : Mem} (sz : Nat) (x  : Int32) : Met l yX4_holder wsX4_holder ({ frames := 1, cells := 0, slots := 0, locals := 20 }) (va_Pc [.ref (wa (mdO G) 0), .int x] (wp (mdO G) sz M)) (wQi (mdO G) sz (mhdV M x) (M)) 0 0 (wA (mdO G) sz) := by
  rcases op_cases (dN x 4) with hd | ⟨j2, hd⟩
  · refine wd_ofW (O := (mdO G)) (M := M) (Qc := fun z => wQi (mdO G) z (mhdV M x) (M)) (cc := cX4_holder) (maxL := 2) (ret := (some .int)) (lv := [(0, .ref (wa (mdO G) 0)), (1, .int x)]) (by decide) rfl (Nat.le_of_ble_eq_true rfl) rfl ?_
    intro p e s m below meth c ls hx hb hr hml hown hts hlocks hP hK hS hl
    have hi4 : ∀ w ∈ wsX40, w ∈ wsX4_holder := by decide +kernel
    refine lv_iload_n hx hb dX4_holder_0 rfl (lv_at hl 1 rfl) ?_
    refine wd_ci (O := (mdO G)) hS (va_runS (As := [.int x]) (rest := []) ⟨hx, hb, hml, hown, hts⟩ (c_X4_isLock (G := G) hj s.heap.size x ) (va_cwS 1 hts gX4_holder_X4_isLock rfl rfl rfl (by decide +kernel) ⟨Nat.le_of_ble_eq_true rfl, Nat.le_of_ble_eq_true rfl⟩) (wd_preS hK hP) rfl rfl hl.1 rfl (lv_room (Nat.le_of_ble_eq_true rfl)) dX4_holder_1 ⟨Nat.le_of_ble_eq_true rfl, Nat.le_of_ble_eq_true rfl⟩) (fun H locs hP hS => ?_)
    refine wd_re (y := 0) (by rw [hd]; rfl) ?_
    refine lv_if_eq (tgt := 18) hx hb dX4_holder_4 (by decide) (fun c1 => ?_) (fun c1 => absurd rfl c1)
    refine lv_iconst (v := (-1)) hx hb dX4_holder_18 (by decide) ?_
    exact wd_iret (O := (mdO G)) hx hb hr hlocks hK hP hS rfl dX4_holder_19 (by simp only [mhdV, hd]) (rfl)
  · obtain ⟨hj2, rfl⟩ := dN_some (by decide) hd
    refine wd_ofW (O := (mdO G)) (M := M) (Qc := fun z => wQi (mdO G) z (mhdV M (nI j2)) (M)) (cc := cX4_holder) (maxL := 2) (ret := (some .int)) (lv := [(0, .ref (wa (mdO G) 0)), (1, .int (nI j2))]) (by decide) rfl (Nat.le_of_ble_eq_true rfl) rfl ?_
    intro p e s m below meth c ls hx hb hr hml hown hts hlocks hP hK hS hl
    have hi4 : ∀ w ∈ wsX40, w ∈ wsX4_holder := by decide +kernel
    refine lv_iload_n hx hb dX4_holder_0 rfl (lv_at hl 1 rfl) ?_
    refine wd_ci (O := (mdO G)) hS (va_runS (As := [.int (nI j2)]) (rest := []) ⟨hx, hb, hml, hown, hts⟩ (c_X4_isLock (G := G) hj s.heap.size (nI j2) ) (va_cwS 1 hts gX4_holder_X4_isLock rfl rfl rfl (by decide +kernel) ⟨Nat.le_of_ble_eq_true rfl, Nat.le_of_ble_eq_true rfl⟩) (wd_preS hK hP) rfl rfl hl.1 rfl (lv_room (Nat.le_of_ble_eq_true rfl)) dX4_holder_1 ⟨Nat.le_of_ble_eq_true rfl, Nat.le_of_ble_eq_true rfl⟩) (fun H locs hP hS => ?_)
    refine wd_re (y := 1) (by rw [hd]; rfl) ?_
    refine lv_if_eq (tgt := 18) hx hb dX4_holder_4 (by decide) (fun c2 => absurd c2 (by decide)) (fun c2 => ?_)
    refine lv_aload_n hx hb dX4_holder_7 rfl (lv_at hl 0 rfl) ?_
    refine wd_get (O := (mdO G)) (v := .ref (wa (mdO G) 5)) hx hb hts hi4 hown hK hP (md_lt (by omega)) mE_0 rfl 7 (by decide) (hts (.fieldLink RX4 23 "LeaseDeskModel" "has" "[I") (by decide +kernel)) (fun _ h9 => h9) rfl dX4_holder_8 ?_
    refine lv_iload_n hx hb dX4_holder_11 rfl (lv_at hl 1 rfl) ?_
    refine wd_iald (O := (mdO G)) hx hb hK hP (md_lt (by omega)) 0 (mE_5 _) rfl (i := j2) rfl (by omega) (by decide) dX4_holder_12 ?_
    refine lv_iconst (v := 1) hx hb dX4_holder_13 (by decide) ?_
    refine lv_isub hx hb dX4_holder_14 ?_
    refine lv_goto (tgt := 19) hx hb dX4_holder_15 (by decide) ?_
    exact wd_iret (O := (mdO G)) hx hb hr hlocks hK hP hS rfl dX4_holder_19 (by simp only [mhdV, hd]) (rfl)
set_option maxRecDepth 100000 in
set_option maxHeartbeats 4000000 in
theorem c_X4_token {l : Launch} {G : MG} (hj : wj (mdO G)) {M : Mem} (sz : Nat) (x  : Int32) : Met l yX4_token wsX4_token ({ frames := 1, cells := 0, slots := 0, locals := 20 }) (va_Pc [.ref (wa (mdO G) 0), .int x] (wp (mdO G) sz M)) (wQi (mdO G) sz (mkcV M x (-1) 6) (M)) 0 0 (wA (mdO G) sz) := by
  rcases op_cases (dN x 4) with hd | ⟨j2, hd⟩
  · refine wd_ofW (O := (mdO G)) (M := M) (Qc := fun z => wQi (mdO G) z (mkcV M x (-1) 6) (M)) (cc := cX4_token) (maxL := 2) (ret := (some .int)) (lv := [(0, .ref (wa (mdO G) 0)), (1, .int x)]) (by decide) rfl (Nat.le_of_ble_eq_true rfl) rfl ?_
    intro p e s m below meth c ls hx hb hr hml hown hts hlocks hP hK hS hl
    have hi4 : ∀ w ∈ wsX40, w ∈ wsX4_token := by decide +kernel
    refine lv_iload_n hx hb dX4_token_0 rfl (lv_at hl 1 rfl) ?_
    refine wd_ci (O := (mdO G)) hS (va_runS (As := [.int x]) (rest := []) ⟨hx, hb, hml, hown, hts⟩ (c_X4_isLock (G := G) hj s.heap.size x ) (va_cwS 1 hts gX4_token_X4_isLock rfl rfl rfl (by decide +kernel) ⟨Nat.le_of_ble_eq_true rfl, Nat.le_of_ble_eq_true rfl⟩) (wd_preS hK hP) rfl rfl hl.1 rfl (lv_room (Nat.le_of_ble_eq_true rfl)) dX4_token_1 ⟨Nat.le_of_ble_eq_true rfl, Nat.le_of_ble_eq_true rfl⟩) (fun H locs hP hS => ?_)
    refine wd_re (y := 0) (by rw [hd]; rfl) ?_
    refine lv_if_eq (tgt := 16) hx hb dX4_token_4 (by decide) (fun c1 => ?_) (fun c1 => absurd rfl c1)
    refine lv_iconst (v := (-1)) hx hb dX4_token_16 (by decide) ?_
    exact wd_iret (O := (mdO G)) hx hb hr hlocks hK hP hS rfl dX4_token_17 (by simp only [mkcV, hd]) (rfl)
  · obtain ⟨hj2, rfl⟩ := dN_some (by decide) hd
    refine wd_ofW (O := (mdO G)) (M := M) (Qc := fun z => wQi (mdO G) z (mkcV M (nI j2) (-1) 6) (M)) (cc := cX4_token) (maxL := 2) (ret := (some .int)) (lv := [(0, .ref (wa (mdO G) 0)), (1, .int (nI j2))]) (by decide) rfl (Nat.le_of_ble_eq_true rfl) rfl ?_
    intro p e s m below meth c ls hx hb hr hml hown hts hlocks hP hK hS hl
    have hi4 : ∀ w ∈ wsX40, w ∈ wsX4_token := by decide +kernel
    refine lv_iload_n hx hb dX4_token_0 rfl (lv_at hl 1 rfl) ?_
    refine wd_ci (O := (mdO G)) hS (va_runS (As := [.int (nI j2)]) (rest := []) ⟨hx, hb, hml, hown, hts⟩ (c_X4_isLock (G := G) hj s.heap.size (nI j2) ) (va_cwS 1 hts gX4_token_X4_isLock rfl rfl rfl (by decide +kernel) ⟨Nat.le_of_ble_eq_true rfl, Nat.le_of_ble_eq_true rfl⟩) (wd_preS hK hP) rfl rfl hl.1 rfl (lv_room (Nat.le_of_ble_eq_true rfl)) dX4_token_1 ⟨Nat.le_of_ble_eq_true rfl, Nat.le_of_ble_eq_true rfl⟩) (fun H locs hP hS => ?_)
    refine wd_re (y := 1) (by rw [hd]; rfl) ?_
    refine lv_if_eq (tgt := 16) hx hb dX4_token_4 (by decide) (fun c2 => absurd c2 (by decide)) (fun c2 => ?_)
    refine lv_aload_n hx hb dX4_token_7 rfl (lv_at hl 0 rfl) ?_
    refine wd_get (O := (mdO G)) (v := .ref (wa (mdO G) 6)) hx hb hts hi4 hown hK hP (md_lt (by omega)) mE_0 rfl 8 (by decide) (hts (.fieldLink RX4 26 "LeaseDeskModel" "tokens" "[I") (by decide +kernel)) (fun _ h9 => h9) rfl dX4_token_8 ?_
    refine lv_iload_n hx hb dX4_token_11 rfl (lv_at hl 1 rfl) ?_
    refine wd_iald (O := (mdO G)) hx hb hK hP (md_lt (by omega)) 0 (mE_6 _) rfl (i := j2) rfl (by omega) (by decide) dX4_token_12 ?_
    refine lv_goto (tgt := 17) hx hb dX4_token_13 (by decide) ?_
    exact wd_iret (O := (mdO G)) hx hb hr hlocks hK hP hS rfl dX4_token_17 (by simp only [mkcV, hd]) (rfl)
set_option maxRecDepth 100000 in
set_option maxHeartbeats 4000000 in
theorem c_X4_stored {l : Launch} {G : MG} (hj : wj (mdO G)) {M : Mem} (sz : Nat) (x  : Int32) : Met l yX4_stored wsX4_stored ({ frames := 1, cells := 0, slots := 0, locals := 20 }) (va_Pc [.ref (wa (mdO G) 0), .int x] (wp (mdO G) sz M)) (wQi (mdO G) sz (mkcV M x 0 13) (M)) 0 0 (wA (mdO G) sz) := by
  rcases op_cases (dN x 4) with hd | ⟨j2, hd⟩
  · refine wd_ofW (O := (mdO G)) (M := M) (Qc := fun z => wQi (mdO G) z (mkcV M x 0 13) (M)) (cc := cX4_stored) (maxL := 2) (ret := (some .int)) (lv := [(0, .ref (wa (mdO G) 0)), (1, .int x)]) (by decide) rfl (Nat.le_of_ble_eq_true rfl) rfl ?_
    intro p e s m below meth c ls hx hb hr hml hown hts hlocks hP hK hS hl
    have hi4 : ∀ w ∈ wsX40, w ∈ wsX4_stored := by decide +kernel
    refine lv_iload_n hx hb dX4_stored_0 rfl (lv_at hl 1 rfl) ?_
    refine wd_ci (O := (mdO G)) hS (va_runS (As := [.int x]) (rest := []) ⟨hx, hb, hml, hown, hts⟩ (c_X4_isLock (G := G) hj s.heap.size x ) (va_cwS 1 hts gX4_stored_X4_isLock rfl rfl rfl (by decide +kernel) ⟨Nat.le_of_ble_eq_true rfl, Nat.le_of_ble_eq_true rfl⟩) (wd_preS hK hP) rfl rfl hl.1 rfl (lv_room (Nat.le_of_ble_eq_true rfl)) dX4_stored_1 ⟨Nat.le_of_ble_eq_true rfl, Nat.le_of_ble_eq_true rfl⟩) (fun H locs hP hS => ?_)
    refine wd_re (y := 0) (by rw [hd]; rfl) ?_
    refine lv_if_eq (tgt := 16) hx hb dX4_stored_4 (by decide) (fun c1 => ?_) (fun c1 => absurd rfl c1)
    refine lv_iconst (v := 0) hx hb dX4_stored_16 (by decide) ?_
    exact wd_iret (O := (mdO G)) hx hb hr hlocks hK hP hS rfl dX4_stored_17 (by simp only [mkcV, hd]) (rfl)
  · obtain ⟨hj2, rfl⟩ := dN_some (by decide) hd
    refine wd_ofW (O := (mdO G)) (M := M) (Qc := fun z => wQi (mdO G) z (mkcV M (nI j2) 0 13) (M)) (cc := cX4_stored) (maxL := 2) (ret := (some .int)) (lv := [(0, .ref (wa (mdO G) 0)), (1, .int (nI j2))]) (by decide) rfl (Nat.le_of_ble_eq_true rfl) rfl ?_
    intro p e s m below meth c ls hx hb hr hml hown hts hlocks hP hK hS hl
    have hi4 : ∀ w ∈ wsX40, w ∈ wsX4_stored := by decide +kernel
    refine lv_iload_n hx hb dX4_stored_0 rfl (lv_at hl 1 rfl) ?_
    refine wd_ci (O := (mdO G)) hS (va_runS (As := [.int (nI j2)]) (rest := []) ⟨hx, hb, hml, hown, hts⟩ (c_X4_isLock (G := G) hj s.heap.size (nI j2) ) (va_cwS 1 hts gX4_stored_X4_isLock rfl rfl rfl (by decide +kernel) ⟨Nat.le_of_ble_eq_true rfl, Nat.le_of_ble_eq_true rfl⟩) (wd_preS hK hP) rfl rfl hl.1 rfl (lv_room (Nat.le_of_ble_eq_true rfl)) dX4_stored_1 ⟨Nat.le_of_ble_eq_true rfl, Nat.le_of_ble_eq_true rfl⟩) (fun H locs hP hS => ?_)
    refine wd_re (y := 1) (by rw [hd]; rfl) ?_
    refine lv_if_eq (tgt := 16) hx hb dX4_stored_4 (by decide) (fun c2 => absurd c2 (by decide)) (fun c2 => ?_)
    refine lv_aload_n hx hb dX4_stored_7 rfl (lv_at hl 0 rfl) ?_
    refine wd_get (O := (mdO G)) (v := .ref (wa (mdO G) 13)) hx hb hts hi4 hown hK hP (md_lt (by omega)) mE_0 rfl 15 (by decide) (hts (.fieldLink RX4 47 "LeaseDeskModel" "values" "[I") (by decide +kernel)) (fun _ h9 => h9) rfl dX4_stored_8 ?_
    refine lv_iload_n hx hb dX4_stored_11 rfl (lv_at hl 1 rfl) ?_
    refine wd_iald (O := (mdO G)) hx hb hK hP (md_lt (by omega)) 0 (mE_13 _) rfl (i := j2) rfl (by omega) (by decide) dX4_stored_12 ?_
    refine lv_goto (tgt := 17) hx hb dX4_stored_13 (by decide) ?_
    exact wd_iret (O := (mdO G)) hx hb hr hlocks hK hP hS rfl dX4_stored_17 (by simp only [mkcV, hd]) (rfl)
set_option maxRecDepth 100000 in
set_option maxHeartbeats 4000000 in
theorem c_X4_seen {l : Launch} {G : MG} (hj : wj (mdO G)) {M : Mem} (sz : Nat) (x  : Int32) : Met l yX4_seen wsX4_seen ({ frames := 1, cells := 0, slots := 0, locals := 20 }) (va_Pc [.ref (wa (mdO G) 0), .int x] (wp (mdO G) sz M)) (wQi (mdO G) sz (mkcV M x (-1) 12) (M)) 0 0 (wA (mdO G) sz) := by
  rcases op_cases (dN x 4) with hd | ⟨j2, hd⟩
  · refine wd_ofW (O := (mdO G)) (M := M) (Qc := fun z => wQi (mdO G) z (mkcV M x (-1) 12) (M)) (cc := cX4_seen) (maxL := 2) (ret := (some .int)) (lv := [(0, .ref (wa (mdO G) 0)), (1, .int x)]) (by decide) rfl (Nat.le_of_ble_eq_true rfl) rfl ?_
    intro p e s m below meth c ls hx hb hr hml hown hts hlocks hP hK hS hl
    have hi4 : ∀ w ∈ wsX40, w ∈ wsX4_seen := by decide +kernel
    refine lv_iload_n hx hb dX4_seen_0 rfl (lv_at hl 1 rfl) ?_
    refine wd_ci (O := (mdO G)) hS (va_runS (As := [.int x]) (rest := []) ⟨hx, hb, hml, hown, hts⟩ (c_X4_isLock (G := G) hj s.heap.size x ) (va_cwS 1 hts gX4_seen_X4_isLock rfl rfl rfl (by decide +kernel) ⟨Nat.le_of_ble_eq_true rfl, Nat.le_of_ble_eq_true rfl⟩) (wd_preS hK hP) rfl rfl hl.1 rfl (lv_room (Nat.le_of_ble_eq_true rfl)) dX4_seen_1 ⟨Nat.le_of_ble_eq_true rfl, Nat.le_of_ble_eq_true rfl⟩) (fun H locs hP hS => ?_)
    refine wd_re (y := 0) (by rw [hd]; rfl) ?_
    refine lv_if_eq (tgt := 16) hx hb dX4_seen_4 (by decide) (fun c1 => ?_) (fun c1 => absurd rfl c1)
    refine lv_iconst (v := (-1)) hx hb dX4_seen_16 (by decide) ?_
    exact wd_iret (O := (mdO G)) hx hb hr hlocks hK hP hS rfl dX4_seen_17 (by simp only [mkcV, hd]) (rfl)
  · obtain ⟨hj2, rfl⟩ := dN_some (by decide) hd
    refine wd_ofW (O := (mdO G)) (M := M) (Qc := fun z => wQi (mdO G) z (mkcV M (nI j2) (-1) 12) (M)) (cc := cX4_seen) (maxL := 2) (ret := (some .int)) (lv := [(0, .ref (wa (mdO G) 0)), (1, .int (nI j2))]) (by decide) rfl (Nat.le_of_ble_eq_true rfl) rfl ?_
    intro p e s m below meth c ls hx hb hr hml hown hts hlocks hP hK hS hl
    have hi4 : ∀ w ∈ wsX40, w ∈ wsX4_seen := by decide +kernel
    refine lv_iload_n hx hb dX4_seen_0 rfl (lv_at hl 1 rfl) ?_
    refine wd_ci (O := (mdO G)) hS (va_runS (As := [.int (nI j2)]) (rest := []) ⟨hx, hb, hml, hown, hts⟩ (c_X4_isLock (G := G) hj s.heap.size (nI j2) ) (va_cwS 1 hts gX4_seen_X4_isLock rfl rfl rfl (by decide +kernel) ⟨Nat.le_of_ble_eq_true rfl, Nat.le_of_ble_eq_true rfl⟩) (wd_preS hK hP) rfl rfl hl.1 rfl (lv_room (Nat.le_of_ble_eq_true rfl)) dX4_seen_1 ⟨Nat.le_of_ble_eq_true rfl, Nat.le_of_ble_eq_true rfl⟩) (fun H locs hP hS => ?_)
    refine wd_re (y := 1) (by rw [hd]; rfl) ?_
    refine lv_if_eq (tgt := 16) hx hb dX4_seen_4 (by decide) (fun c2 => absurd c2 (by decide)) (fun c2 => ?_)
    refine lv_aload_n hx hb dX4_seen_7 rfl (lv_at hl 0 rfl) ?_
    refine wd_get (O := (mdO G)) (v := .ref (wa (mdO G) 12)) hx hb hts hi4 hown hK hP (md_lt (by omega)) mE_0 rfl 14 (by decide) (hts (.fieldLink RX4 44 "LeaseDeskModel" "greatest" "[I") (by decide +kernel)) (fun _ h9 => h9) rfl dX4_seen_8 ?_
    refine lv_iload_n hx hb dX4_seen_11 rfl (lv_at hl 1 rfl) ?_
    refine wd_iald (O := (mdO G)) hx hb hK hP (md_lt (by omega)) 0 (mE_12 _) rfl (i := j2) rfl (by omega) (by decide) dX4_seen_12 ?_
    refine lv_goto (tgt := 17) hx hb dX4_seen_13 (by decide) ?_
    exact wd_iret (O := (mdO G)) hx hb hr hlocks hK hP hS rfl dX4_seen_17 (by simp only [mkcV, hd]) (rfl)
set_option maxRecDepth 100000 in
set_option maxHeartbeats 4000000 in
theorem c_X4_until {l : Launch} {G : MG} (hj : wj (mdO G)) {M : Mem} (sz : Nat) (x  : Int32) : Met l yX4_until wsX4_until ({ frames := 1, cells := 0, slots := 0, locals := 20 }) (va_Pc [.ref (wa (mdO G) 0), .int x] (wp (mdO G) sz M)) (wQi (mdO G) sz (mutV M x) (M)) 0 0 (wA (mdO G) sz) := by
  rcases op_cases (dN x 4) with hd | ⟨j2, hd⟩
  · refine wd_ofW (O := (mdO G)) (M := M) (Qc := fun z => wQi (mdO G) z (mutV M x) (M)) (cc := cX4_until) (maxL := 2) (ret := (some .int)) (lv := [(0, .ref (wa (mdO G) 0)), (1, .int x)]) (by decide) rfl (Nat.le_of_ble_eq_true rfl) rfl ?_
    intro p e s m below meth c ls hx hb hr hml hown hts hlocks hP hK hS hl
    have hi4 : ∀ w ∈ wsX40, w ∈ wsX4_until := by decide +kernel
    refine lv_iload_n hx hb dX4_until_0 rfl (lv_at hl 1 rfl) ?_
    refine wd_ci (O := (mdO G)) hS (va_runS (As := [.int x]) (rest := []) ⟨hx, hb, hml, hown, hts⟩ (c_X4_isLock (G := G) hj s.heap.size x ) (va_cwS 1 hts gX4_until_X4_isLock rfl rfl rfl (by decide +kernel) ⟨Nat.le_of_ble_eq_true rfl, Nat.le_of_ble_eq_true rfl⟩) (wd_preS hK hP) rfl rfl hl.1 rfl (lv_room (Nat.le_of_ble_eq_true rfl)) dX4_until_1 ⟨Nat.le_of_ble_eq_true rfl, Nat.le_of_ble_eq_true rfl⟩) (fun H locs hP hS => ?_)
    refine wd_re (y := 0) (by rw [hd]; rfl) ?_
    refine lv_if_eq (tgt := 25) hx hb dX4_until_4 (by decide) (fun c1 => ?_) (fun c1 => absurd rfl c1)
    refine lv_iconst (v := (-1)) hx hb dX4_until_25 (by decide) ?_
    exact wd_iret (O := (mdO G)) hx hb hr hlocks hK hP hS rfl dX4_until_26 (by simp only [mutV, hd]) (rfl)
  · obtain ⟨hj2, rfl⟩ := dN_some (by decide) hd
    refine wd_ofW (O := (mdO G)) (M := M) (Qc := fun z => wQi (mdO G) z (mutV M (nI j2)) (M)) (cc := cX4_until) (maxL := 2) (ret := (some .int)) (lv := [(0, .ref (wa (mdO G) 0)), (1, .int (nI j2))]) (by decide) rfl (Nat.le_of_ble_eq_true rfl) rfl ?_
    intro p e s m below meth c ls hx hb hr hml hown hts hlocks hP hK hS hl
    have hi4 : ∀ w ∈ wsX40, w ∈ wsX4_until := by decide +kernel
    refine lv_iload_n hx hb dX4_until_0 rfl (lv_at hl 1 rfl) ?_
    refine wd_ci (O := (mdO G)) hS (va_runS (As := [.int (nI j2)]) (rest := []) ⟨hx, hb, hml, hown, hts⟩ (c_X4_isLock (G := G) hj s.heap.size (nI j2) ) (va_cwS 1 hts gX4_until_X4_isLock rfl rfl rfl (by decide +kernel) ⟨Nat.le_of_ble_eq_true rfl, Nat.le_of_ble_eq_true rfl⟩) (wd_preS hK hP) rfl rfl hl.1 rfl (lv_room (Nat.le_of_ble_eq_true rfl)) dX4_until_1 ⟨Nat.le_of_ble_eq_true rfl, Nat.le_of_ble_eq_true rfl⟩) (fun H locs hP hS => ?_)
    refine wd_re (y := 1) (by rw [hd]; rfl) ?_
    refine lv_if_eq (tgt := 25) hx hb dX4_until_4 (by decide) (fun c2 => absurd c2 (by decide)) (fun c2 => ?_)
    refine lv_aload_n hx hb dX4_until_7 rfl (lv_at hl 0 rfl) ?_
    refine wd_get (O := (mdO G)) (v := .ref (wa (mdO G) 5)) hx hb hts hi4 hown hK hP (md_lt (by omega)) mE_0 rfl 7 (by decide) (hts (.fieldLink RX4 23 "LeaseDeskModel" "has" "[I") (by decide +kernel)) (fun _ h9 => h9) rfl dX4_until_8 ?_
    refine lv_iload_n hx hb dX4_until_11 rfl (lv_at hl 1 rfl) ?_
    refine wd_iald (O := (mdO G)) hx hb hK hP (md_lt (by omega)) 0 (mE_5 _) rfl (i := j2) rfl (by omega) (by decide) dX4_until_12 ?_
    refine lv_if_le (tgt := 25) hx hb dX4_until_13 (by decide) (fun c3 => ?_) (fun c3 => ?_)
    · refine lv_iconst (v := (-1)) hx hb dX4_until_25 (by decide) ?_
      exact wd_iret (O := (mdO G)) hx hb hr hlocks hK hP hS rfl dX4_until_26 (by simp only [mutV, hd, if_pos c3]) (rfl)
    · refine lv_aload_n hx hb dX4_until_16 rfl (lv_at hl 0 rfl) ?_
      refine wd_get (O := (mdO G)) (v := .ref (wa (mdO G) 7)) hx hb hts hi4 hown hK hP (md_lt (by omega)) mE_0 rfl 9 (by decide) (hts (.fieldLink RX4 29 "LeaseDeskModel" "ends" "[I") (by decide +kernel)) (fun _ h9 => h9) rfl dX4_until_17 ?_
      refine lv_iload_n hx hb dX4_until_20 rfl (lv_at hl 1 rfl) ?_
      refine wd_iald (O := (mdO G)) hx hb hK hP (md_lt (by omega)) 0 (mE_7 _) rfl (i := j2) rfl (by omega) (by decide) dX4_until_21 ?_
      refine lv_goto (tgt := 26) hx hb dX4_until_22 (by decide) ?_
      exact wd_iret (O := (mdO G)) hx hb hr hlocks hK hP hS rfl dX4_until_26 (by simp only [mutV, hd, if_neg c3]) (rfl)
set_option maxRecDepth 100000 in
set_option maxHeartbeats 4000000 in
theorem c_X4_waiter {l : Launch} {G : MG} (hj : wj (mdO G)) {M : Mem} (sz : Nat) (x k : Int32) : Met l yX4_waiter wsX4_waiter ({ frames := 1, cells := 0, slots := 0, locals := 26 }) (va_Pc [.ref (wa (mdO G) 0), .int x, .int k] (wp (mdO G) sz M)) (wQi (mdO G) sz (mwtV M x k) (M)) 0 0 (wA (mdO G) sz) := by
  rcases op_cases (dN x 4) with hd | ⟨j2, hd⟩
  · refine wd_ofW (O := (mdO G)) (M := M) (Qc := fun z => wQi (mdO G) z (mwtV M x k) (M)) (cc := cX4_waiter) (maxL := 3) (ret := (some .int)) (lv := [(0, .ref (wa (mdO G) 0)), (1, .int x), (2, .int k)]) (by decide) rfl (Nat.le_of_ble_eq_true rfl) rfl ?_
    intro p e s m below meth c ls hx hb hr hml hown hts hlocks hP hK hS hl
    refine lv_iload_n hx hb dX4_waiter_0 rfl (lv_at hl 1 rfl) ?_
    refine wd_ci (O := (mdO G)) hS (va_runS (As := [.int x]) (rest := []) ⟨hx, hb, hml, hown, hts⟩ (c_X4_isLock (G := G) hj s.heap.size x ) (va_cwS 1 hts gX4_waiter_X4_isLock rfl rfl rfl (by decide +kernel) ⟨Nat.le_of_ble_eq_true rfl, Nat.le_of_ble_eq_true rfl⟩) (wd_preS hK hP) rfl rfl hl.1 rfl (lv_room (Nat.le_of_ble_eq_true rfl)) dX4_waiter_1 ⟨Nat.le_of_ble_eq_true rfl, Nat.le_of_ble_eq_true rfl⟩) (fun H locs hP hS => ?_)
    refine wd_re (y := 0) (by rw [hd]; rfl) ?_
    refine lv_if_eq (tgt := 16) hx hb dX4_waiter_4 (by decide) (fun c1 => ?_) (fun c1 => absurd rfl c1)
    refine lv_iconst (v := (-1)) hx hb dX4_waiter_16 (by decide) ?_
    exact wd_iret (O := (mdO G)) hx hb hr hlocks hK hP hS rfl dX4_waiter_17 (by simp only [mwtV, hd]) (rfl)
  · obtain ⟨hj2, rfl⟩ := dN_some (by decide) hd
    refine wd_ofW (O := (mdO G)) (M := M) (Qc := fun z => wQi (mdO G) z (mwtV M (nI j2) k) (M)) (cc := cX4_waiter) (maxL := 3) (ret := (some .int)) (lv := [(0, .ref (wa (mdO G) 0)), (1, .int (nI j2)), (2, .int k)]) (by decide) rfl (Nat.le_of_ble_eq_true rfl) rfl ?_
    intro p e s m below meth c ls hx hb hr hml hown hts hlocks hP hK hS hl
    refine lv_iload_n hx hb dX4_waiter_0 rfl (lv_at hl 1 rfl) ?_
    refine wd_ci (O := (mdO G)) hS (va_runS (As := [.int (nI j2)]) (rest := []) ⟨hx, hb, hml, hown, hts⟩ (c_X4_isLock (G := G) hj s.heap.size (nI j2) ) (va_cwS 1 hts gX4_waiter_X4_isLock rfl rfl rfl (by decide +kernel) ⟨Nat.le_of_ble_eq_true rfl, Nat.le_of_ble_eq_true rfl⟩) (wd_preS hK hP) rfl rfl hl.1 rfl (lv_room (Nat.le_of_ble_eq_true rfl)) dX4_waiter_1 ⟨Nat.le_of_ble_eq_true rfl, Nat.le_of_ble_eq_true rfl⟩) (fun H locs hP hS => ?_)
    refine wd_re (y := 1) (by rw [hd]; rfl) ?_
    refine lv_if_eq (tgt := 16) hx hb dX4_waiter_4 (by decide) (fun c2 => absurd c2 (by decide)) (fun c2 => ?_)
    refine lv_aload_n hx hb dX4_waiter_7 rfl (lv_at hl 0 rfl) ?_
    refine lv_iload_n hx hb dX4_waiter_8 rfl (lv_at hl 1 rfl) ?_
    refine lv_iload_n hx hb dX4_waiter_9 rfl (lv_at hl 2 rfl) ?_
    refine wd_ci (O := (mdO G)) hS (va_runV (As := [.int (nI j2), .int k]) (rest := []) ⟨hx, hb, hml, hown, hts⟩ (c_X4_inRow (G := G) hj H.size j2 k (by omega)) (cwV 2 hts gX4_waiter_X4_inRow rfl rfl rfl (by decide +kernel) ⟨Nat.le_of_ble_eq_true rfl, Nat.le_of_ble_eq_true rfl⟩) (wd_pre hK hP (md_lt (by omega)) mE_0 rfl) rfl rfl hl.1 rfl (lv_room (Nat.le_of_ble_eq_true rfl)) dX4_waiter_10 ⟨Nat.le_of_ble_eq_true rfl, Nat.le_of_ble_eq_true rfl⟩) (fun H locs hP hS => ?_)
    refine lv_goto (tgt := 17) hx hb dX4_waiter_13 (by decide) ?_
    exact wd_iret (O := (mdO G)) hx hb hr hlocks hK hP hS rfl dX4_waiter_17 (by simp only [mwtV, hd]) (rfl)
set_option maxRecDepth 100000 in
set_option maxHeartbeats 4000000 in
theorem c_X4_clock {l : Launch} {G : MG} (hj : wj (mdO G)) {M : Mem} (sz : Nat) (x : Int32) : Met l yX4_clock wsX4_clock ({ frames := 1, cells := 0, slots := 0, locals := 21 }) (va_Pc [.ref (wa (mdO G) 0), .int x] (wp (mdO G) sz M)) (wQi (mdO G) sz (mckV M x) (M)) 0 0 (wA (mdO G) sz) := by
  rcases op_cases (moV M x) with ho | ⟨j1, ho⟩
  · refine wd_ofW (O := (mdO G)) (M := M) (Qc := fun z => wQi (mdO G) z (mckV M x) (M)) (cc := cX4_clock) (maxL := 2) (ret := (some .int)) (lv := [(0, .ref (wa (mdO G) 0)), (1, .int x)]) (by decide) rfl (Nat.le_of_ble_eq_true rfl) rfl ?_
    intro p e s m below meth c ls hx hb hr hml hown hts hlocks hP hK hS hl
    have hi4 : ∀ w ∈ wsX40, w ∈ wsX4_clock := by decide +kernel
    refine lv_aload_n hx hb dX4_clock_0 rfl (lv_at hl 0 rfl) ?_
    refine lv_iload_n hx hb dX4_clock_1 rfl (lv_at hl 1 rfl) ?_
    refine wd_ci (O := (mdO G)) hS (va_runV (As := [.int x]) (rest := []) ⟨hx, hb, hml, hown, hts⟩ (c_X4_isOpen (G := G) hj s.heap.size x ) (cwV 1 hts gX4_clock_X4_isOpen rfl rfl rfl (by decide +kernel) ⟨Nat.le_of_ble_eq_true rfl, Nat.le_of_ble_eq_true rfl⟩) (wd_pre hK hP (md_lt (by omega)) mE_0 rfl) rfl rfl hl.1 rfl (lv_room (Nat.le_of_ble_eq_true rfl)) dX4_clock_2 ⟨Nat.le_of_ble_eq_true rfl, Nat.le_of_ble_eq_true rfl⟩) (fun H locs hP hS => ?_)
    refine wd_re (y := 0) (by rw [ho]; rfl) ?_
    refine lv_if_eq (tgt := 17) hx hb dX4_clock_5 (by decide) (fun c1 => ?_) (fun c1 => absurd rfl c1)
    refine lv_iconst (v := (-1)) hx hb dX4_clock_17 (by decide) ?_
    exact wd_iret (O := (mdO G)) hx hb hr hlocks hK hP hS rfl dX4_clock_18 (by simp only [mckV, ho]) (rfl)
  · obtain ⟨hj1, rfl, hon⟩ := moV_some ho
    refine wd_ofW (O := (mdO G)) (M := M) (Qc := fun z => wQi (mdO G) z (mckV M (nI j1)) (M)) (cc := cX4_clock) (maxL := 2) (ret := (some .int)) (lv := [(0, .ref (wa (mdO G) 0)), (1, .int (nI j1))]) (by decide) rfl (Nat.le_of_ble_eq_true rfl) rfl ?_
    intro p e s m below meth c ls hx hb hr hml hown hts hlocks hP hK hS hl
    have hi4 : ∀ w ∈ wsX40, w ∈ wsX4_clock := by decide +kernel
    refine lv_aload_n hx hb dX4_clock_0 rfl (lv_at hl 0 rfl) ?_
    refine lv_iload_n hx hb dX4_clock_1 rfl (lv_at hl 1 rfl) ?_
    refine wd_ci (O := (mdO G)) hS (va_runV (As := [.int (nI j1)]) (rest := []) ⟨hx, hb, hml, hown, hts⟩ (c_X4_isOpen (G := G) hj s.heap.size (nI j1) ) (cwV 1 hts gX4_clock_X4_isOpen rfl rfl rfl (by decide +kernel) ⟨Nat.le_of_ble_eq_true rfl, Nat.le_of_ble_eq_true rfl⟩) (wd_pre hK hP (md_lt (by omega)) mE_0 rfl) rfl rfl hl.1 rfl (lv_room (Nat.le_of_ble_eq_true rfl)) dX4_clock_2 ⟨Nat.le_of_ble_eq_true rfl, Nat.le_of_ble_eq_true rfl⟩) (fun H locs hP hS => ?_)
    refine wd_re (y := 1) (by rw [ho]; rfl) ?_
    refine lv_if_eq (tgt := 17) hx hb dX4_clock_5 (by decide) (fun c2 => absurd c2 (by decide)) (fun c2 => ?_)
    refine lv_aload_n hx hb dX4_clock_8 rfl (lv_at hl 0 rfl) ?_
    refine wd_get (O := (mdO G)) (v := .ref (wa (mdO G) 4)) hx hb hts hi4 hown hK hP (md_lt (by omega)) mE_0 rfl 6 (by decide) (hts (.fieldLink RX4 20 "LeaseDeskModel" "clocks" "[I") (by decide +kernel)) (fun _ h9 => h9) rfl dX4_clock_9 ?_
    refine lv_iload_n hx hb dX4_clock_12 rfl (lv_at hl 1 rfl) ?_
    refine wd_iald (O := (mdO G)) hx hb hK hP (md_lt (by omega)) 0 (mE_4 _) rfl (i := j1) rfl (by omega) (by decide) dX4_clock_13 ?_
    refine lv_goto (tgt := 18) hx hb dX4_clock_14 (by decide) ?_
    exact wd_iret (O := (mdO G)) hx hb hr hlocks hK hP hS rfl dX4_clock_18 (by simp only [mckV, ho]) (rfl)
set_option maxRecDepth 100000 in
set_option maxHeartbeats 4000000 in
theorem c_X4_believes {l : Launch} {G : MG} (hj : wj (mdO G)) {M : Mem} (sz : Nat) (x y : Int32) : Met l yX4_believes wsX4_believes ({ frames := 1, cells := 0, slots := 0, locals := 21 }) (va_Pc [.ref (wa (mdO G) 0), .int x, .int y] (wp (mdO G) sz M)) (wQi (mdO G) sz (mblV M x y) (M)) 0 0 (wA (mdO G) sz) := by
  rcases op_cases (moV M x) with ho | ⟨j1, ho⟩
  · refine wd_ofW (O := (mdO G)) (M := M) (Qc := fun z => wQi (mdO G) z (mblV M x y) (M)) (cc := cX4_believes) (maxL := 3) (ret := (some .boolean)) (lv := [(0, .ref (wa (mdO G) 0)), (1, .int x), (2, .int y)]) (by decide) rfl (Nat.le_of_ble_eq_true rfl) rfl ?_
    intro p e s m below meth c ls hx hb hr hml hown hts hlocks hP hK hS hl
    have hi4 : ∀ w ∈ wsX40, w ∈ wsX4_believes := by decide +kernel
    refine lv_aload_n hx hb dX4_believes_0 rfl (lv_at hl 0 rfl) ?_
    refine lv_iload_n hx hb dX4_believes_1 rfl (lv_at hl 1 rfl) ?_
    refine wd_ci (O := (mdO G)) hS (va_runV (As := [.int x]) (rest := []) ⟨hx, hb, hml, hown, hts⟩ (c_X4_isOpen (G := G) hj s.heap.size x ) (cwV 1 hts gX4_believes_X4_isOpen rfl rfl rfl (by decide +kernel) ⟨Nat.le_of_ble_eq_true rfl, Nat.le_of_ble_eq_true rfl⟩) (wd_pre hK hP (md_lt (by omega)) mE_0 rfl) rfl rfl hl.1 rfl (lv_room (Nat.le_of_ble_eq_true rfl)) dX4_believes_2 ⟨Nat.le_of_ble_eq_true rfl, Nat.le_of_ble_eq_true rfl⟩) (fun H locs hP hS => ?_)
    refine wd_re (y := 0) (by rw [ho]; rfl) ?_
    refine lv_if_eq (tgt := 56) hx hb dX4_believes_5 (by decide) (fun c1 => ?_) (fun c1 => absurd rfl c1)
    refine lv_iconst (v := 0) hx hb dX4_believes_56 (by decide) ?_
    exact wd_iret (O := (mdO G)) hx hb hr hlocks hK hP hS (by decide) dX4_believes_57 (by simp only [mblV, ho]) (rfl)
  · obtain ⟨hj1, rfl, hon⟩ := moV_some ho
    rcases op_cases (dN y 4) with hd | ⟨j2, hd⟩
    · refine wd_ofW (O := (mdO G)) (M := M) (Qc := fun z => wQi (mdO G) z (mblV M (nI j1) y) (M)) (cc := cX4_believes) (maxL := 3) (ret := (some .boolean)) (lv := [(0, .ref (wa (mdO G) 0)), (1, .int (nI j1)), (2, .int y)]) (by decide) rfl (Nat.le_of_ble_eq_true rfl) rfl ?_
      intro p e s m below meth c ls hx hb hr hml hown hts hlocks hP hK hS hl
      have hi4 : ∀ w ∈ wsX40, w ∈ wsX4_believes := by decide +kernel
      refine lv_aload_n hx hb dX4_believes_0 rfl (lv_at hl 0 rfl) ?_
      refine lv_iload_n hx hb dX4_believes_1 rfl (lv_at hl 1 rfl) ?_
      refine wd_ci (O := (mdO G)) hS (va_runV (As := [.int (nI j1)]) (rest := []) ⟨hx, hb, hml, hown, hts⟩ (c_X4_isOpen (G := G) hj s.heap.size (nI j1) ) (cwV 1 hts gX4_believes_X4_isOpen rfl rfl rfl (by decide +kernel) ⟨Nat.le_of_ble_eq_true rfl, Nat.le_of_ble_eq_true rfl⟩) (wd_pre hK hP (md_lt (by omega)) mE_0 rfl) rfl rfl hl.1 rfl (lv_room (Nat.le_of_ble_eq_true rfl)) dX4_believes_2 ⟨Nat.le_of_ble_eq_true rfl, Nat.le_of_ble_eq_true rfl⟩) (fun H locs hP hS => ?_)
      refine wd_re (y := 1) (by rw [ho]; rfl) ?_
      refine lv_if_eq (tgt := 56) hx hb dX4_believes_5 (by decide) (fun c2 => absurd c2 (by decide)) (fun c2 => ?_)
      refine lv_iload_n hx hb dX4_believes_8 rfl (lv_at hl 2 rfl) ?_
      refine wd_ci (O := (mdO G)) hS (va_runS (As := [.int y]) (rest := []) ⟨hx, hb, hml, hown, hts⟩ (c_X4_isLock (G := G) hj H.size y ) (va_cwS 1 hts gX4_believes_X4_isLock rfl rfl rfl (by decide +kernel) ⟨Nat.le_of_ble_eq_true rfl, Nat.le_of_ble_eq_true rfl⟩) (wd_preS hK hP) rfl rfl hl.1 rfl (lv_room (Nat.le_of_ble_eq_true rfl)) dX4_believes_9 ⟨Nat.le_of_ble_eq_true rfl, Nat.le_of_ble_eq_true rfl⟩) (fun H locs hP hS => ?_)
      refine wd_re (y := 0) (by rw [hd]; rfl) ?_
      refine lv_if_eq (tgt := 56) hx hb dX4_believes_12 (by decide) (fun c3 => ?_) (fun c3 => absurd rfl c3)
      refine lv_iconst (v := 0) hx hb dX4_believes_56 (by decide) ?_
      exact wd_iret (O := (mdO G)) hx hb hr hlocks hK hP hS (by decide) dX4_believes_57 (by simp only [mblV, ho, hd]) (rfl)
    · obtain ⟨hj2, rfl⟩ := dN_some (by decide) hd
      refine wd_ofW (O := (mdO G)) (M := M) (Qc := fun z => wQi (mdO G) z (mblV M (nI j1) (nI j2)) (M)) (cc := cX4_believes) (maxL := 3) (ret := (some .boolean)) (lv := [(0, .ref (wa (mdO G) 0)), (1, .int (nI j1)), (2, .int (nI j2))]) (by decide) rfl (Nat.le_of_ble_eq_true rfl) rfl ?_
      intro p e s m below meth c ls hx hb hr hml hown hts hlocks hP hK hS hl
      have hi4 : ∀ w ∈ wsX40, w ∈ wsX4_believes := by decide +kernel
      refine lv_aload_n hx hb dX4_believes_0 rfl (lv_at hl 0 rfl) ?_
      refine lv_iload_n hx hb dX4_believes_1 rfl (lv_at hl 1 rfl) ?_
      refine wd_ci (O := (mdO G)) hS (va_runV (As := [.int (nI j1)]) (rest := []) ⟨hx, hb, hml, hown, hts⟩ (c_X4_isOpen (G := G) hj s.heap.size (nI j1) ) (cwV 1 hts gX4_believes_X4_isOpen rfl rfl rfl (by decide +kernel) ⟨Nat.le_of_ble_eq_true rfl, Nat.le_of_ble_eq_true rfl⟩) (wd_pre hK hP (md_lt (by omega)) mE_0 rfl) rfl rfl hl.1 rfl (lv_room (Nat.le_of_ble_eq_true rfl)) dX4_believes_2 ⟨Nat.le_of_ble_eq_true rfl, Nat.le_of_ble_eq_true rfl⟩) (fun H locs hP hS => ?_)
      refine wd_re (y := 1) (by rw [ho]; rfl) ?_
      refine lv_if_eq (tgt := 56) hx hb dX4_believes_5 (by decide) (fun c4 => absurd c4 (by decide)) (fun c4 => ?_)
      refine lv_iload_n hx hb dX4_believes_8 rfl (lv_at hl 2 rfl) ?_
      refine wd_ci (O := (mdO G)) hS (va_runS (As := [.int (nI j2)]) (rest := []) ⟨hx, hb, hml, hown, hts⟩ (c_X4_isLock (G := G) hj H.size (nI j2) ) (va_cwS 1 hts gX4_believes_X4_isLock rfl rfl rfl (by decide +kernel) ⟨Nat.le_of_ble_eq_true rfl, Nat.le_of_ble_eq_true rfl⟩) (wd_preS hK hP) rfl rfl hl.1 rfl (lv_room (Nat.le_of_ble_eq_true rfl)) dX4_believes_9 ⟨Nat.le_of_ble_eq_true rfl, Nat.le_of_ble_eq_true rfl⟩) (fun H locs hP hS => ?_)
      refine wd_re (y := 1) (by rw [hd]; rfl) ?_
      refine lv_if_eq (tgt := 56) hx hb dX4_believes_12 (by decide) (fun c5 => absurd c5 (by decide)) (fun c5 => ?_)
      refine lv_aload_n hx hb dX4_believes_15 rfl (lv_at hl 0 rfl) ?_
      refine wd_get (O := (mdO G)) (v := .ref (wa (mdO G) 5)) hx hb hts hi4 hown hK hP (md_lt (by omega)) mE_0 rfl 7 (by decide) (hts (.fieldLink RX4 23 "LeaseDeskModel" "has" "[I") (by decide +kernel)) (fun _ h9 => h9) rfl dX4_believes_16 ?_
      refine lv_iload_n hx hb dX4_believes_19 rfl (lv_at hl 2 rfl) ?_
      refine wd_iald (O := (mdO G)) hx hb hK hP (md_lt (by omega)) 0 (mE_5 _) rfl (i := j2) rfl (by omega) (by decide) dX4_believes_20 ?_
      refine lv_iload_n hx hb dX4_believes_21 rfl (lv_at hl 1 rfl) ?_
      refine lv_iconst (v := 1) hx hb dX4_believes_22 (by decide) ?_
      refine lv_iadd hx hb dX4_believes_23 ?_
      refine lv_icmp_ne (tgt := 56) hx hb dX4_believes_24 (by decide) (fun c6 => ?_) (fun c6 => ?_)
      · refine lv_iconst (v := 0) hx hb dX4_believes_56 (by decide) ?_
        exact wd_iret (O := (mdO G)) hx hb hr hlocks hK hP hS (by decide) dX4_believes_57 (by simp only [mblV, ho, hd, if_neg c6]) (rfl)
      · refine lv_aload_n hx hb dX4_believes_27 rfl (lv_at hl 0 rfl) ?_
        refine wd_get (O := (mdO G)) (v := .ref (wa (mdO G) 4)) hx hb hts hi4 hown hK hP (md_lt (by omega)) mE_0 rfl 6 (by decide) (hts (.fieldLink RX4 20 "LeaseDeskModel" "clocks" "[I") (by decide +kernel)) (fun _ h9 => h9) rfl dX4_believes_28 ?_
        refine lv_iload_n hx hb dX4_believes_31 rfl (lv_at hl 1 rfl) ?_
        refine wd_iald (O := (mdO G)) hx hb hK hP (md_lt (by omega)) 0 (mE_4 _) rfl (i := j1) rfl (by omega) (by decide) dX4_believes_32 ?_
        refine lv_aload_n hx hb dX4_believes_33 rfl (lv_at hl 0 rfl) ?_
        refine wd_get (O := (mdO G)) (v := .ref (wa (mdO G) 9)) hx hb hts hi4 hown hK hP (md_lt (by omega)) mE_0 rfl 11 (by decide) (hts (.fieldLink RX4 35 "LeaseDeskModel" "starts" "[I") (by decide +kernel)) (fun _ h9 => h9) rfl dX4_believes_34 ?_
        refine lv_iload_n hx hb dX4_believes_37 rfl (lv_at hl 2 rfl) ?_
        refine wd_iald (O := (mdO G)) hx hb hK hP (md_lt (by omega)) 0 (mE_9 _) rfl (i := j2) rfl (by omega) (by decide) dX4_believes_38 ?_
        refine lv_isub hx hb dX4_believes_39 ?_
        refine lv_bipush (v := 9) hx hb dX4_believes_40 (by decide) ?_
        refine lv_aload_n hx hb dX4_believes_42 rfl (lv_at hl 0 rfl) ?_
        refine wd_get (O := (mdO G)) (v := .ref (wa (mdO G) 8)) hx hb hts hi4 hown hK hP (md_lt (by omega)) mE_0 rfl 10 (by decide) (hts (.fieldLink RX4 32 "LeaseDeskModel" "terms" "[I") (by decide +kernel)) (fun _ h9 => h9) rfl dX4_believes_43 ?_
        refine lv_iload_n hx hb dX4_believes_46 rfl (lv_at hl 2 rfl) ?_
        refine wd_iald (O := (mdO G)) hx hb hK hP (md_lt (by omega)) 0 (mE_8 _) rfl (i := j2) rfl (by omega) (by decide) dX4_believes_47 ?_
        refine lv_imul hx hb dX4_believes_48 ?_
        refine lv_icmp_ge (tgt := 56) hx hb dX4_believes_49 (by decide) (fun c7 => ?_) (fun c7 => ?_)
        · refine lv_iconst (v := 0) hx hb dX4_believes_56 (by decide) ?_
          exact wd_iret (O := (mdO G)) hx hb hr hlocks hK hP hS (by decide) dX4_believes_57 (by simp only [mblV, ho, hd, if_pos c6, if_pos c7]) (rfl)
        · refine lv_iconst (v := 1) hx hb dX4_believes_52 (by decide) ?_
          refine lv_goto (tgt := 57) hx hb dX4_believes_53 (by decide) ?_
          exact wd_iret (O := (mdO G)) hx hb hr hlocks hK hP hS (by decide) dX4_believes_57 (by simp only [mblV, ho, hd, if_pos c6, if_neg c7]) (rfl)
set_option maxRecDepth 100000 in
set_option maxHeartbeats 4000000 in
theorem c_X4_write {l : Launch} {G : MG} (hj : wj (mdO G)) {M : Mem} (sz : Nat) (x t v : Int32) : Met l yX4_write wsX4_write ({ frames := 1, cells := 0, slots := 0, locals := 20 }) (va_Pc [.ref (wa (mdO G) 0), .int x, .int t, .int v] (wp (mdO G) sz M)) (wQi (mdO G) sz (mwrV M x t) (mwrM M x t v)) 0 0 (wA (mdO G) sz) := by
  rcases op_cases (dN x 4) with hd | ⟨j2, hd⟩
  · refine wd_ofW (O := (mdO G)) (M := M) (Qc := fun z => wQi (mdO G) z (mwrV M x t) (mwrM M x t v)) (cc := cX4_write) (maxL := 4) (ret := (some .boolean)) (lv := [(0, .ref (wa (mdO G) 0)), (1, .int x), (2, .int t), (3, .int v)]) (by decide) rfl (Nat.le_of_ble_eq_true rfl) rfl ?_
    intro p e s m below meth c ls hx hb hr hml hown hts hlocks hP hK hS hl
    have hi4 : ∀ w ∈ wsX40, w ∈ wsX4_write := by decide +kernel
    refine lv_iload_n hx hb dX4_write_0 rfl (lv_at hl 1 rfl) ?_
    refine wd_ci (O := (mdO G)) hS (va_runS (As := [.int x]) (rest := []) ⟨hx, hb, hml, hown, hts⟩ (c_X4_isLock (G := G) hj s.heap.size x ) (va_cwS 1 hts gX4_write_X4_isLock rfl rfl rfl (by decide +kernel) ⟨Nat.le_of_ble_eq_true rfl, Nat.le_of_ble_eq_true rfl⟩) (wd_preS hK hP) rfl rfl hl.1 rfl (lv_room (Nat.le_of_ble_eq_true rfl)) dX4_write_1 ⟨Nat.le_of_ble_eq_true rfl, Nat.le_of_ble_eq_true rfl⟩) (fun H locs hP hS => ?_)
    refine wd_re (y := 0) (by rw [hd]; rfl) ?_
    refine lv_if_eq (tgt := 22) hx hb dX4_write_4 (by decide) (fun c1 => ?_) (fun c1 => absurd rfl c1)
    refine lv_iconst (v := 0) hx hb dX4_write_22 (by decide) ?_
    exact wd_iret (O := (mdO G)) hx hb hr hlocks hK hP hS (by decide) dX4_write_23 (by simp only [mwrV, hd]) (by simp only [mwrM, hd])
  · obtain ⟨hj2, rfl⟩ := dN_some (by decide) hd
    refine wd_ofW (O := (mdO G)) (M := M) (Qc := fun z => wQi (mdO G) z (mwrV M (nI j2) t) (mwrM M (nI j2) t v)) (cc := cX4_write) (maxL := 4) (ret := (some .boolean)) (lv := [(0, .ref (wa (mdO G) 0)), (1, .int (nI j2)), (2, .int t), (3, .int v)]) (by decide) rfl (Nat.le_of_ble_eq_true rfl) rfl ?_
    intro p e s m below meth c ls hx hb hr hml hown hts hlocks hP hK hS hl
    have hi4 : ∀ w ∈ wsX40, w ∈ wsX4_write := by decide +kernel
    refine lv_iload_n hx hb dX4_write_0 rfl (lv_at hl 1 rfl) ?_
    refine wd_ci (O := (mdO G)) hS (va_runS (As := [.int (nI j2)]) (rest := []) ⟨hx, hb, hml, hown, hts⟩ (c_X4_isLock (G := G) hj s.heap.size (nI j2) ) (va_cwS 1 hts gX4_write_X4_isLock rfl rfl rfl (by decide +kernel) ⟨Nat.le_of_ble_eq_true rfl, Nat.le_of_ble_eq_true rfl⟩) (wd_preS hK hP) rfl rfl hl.1 rfl (lv_room (Nat.le_of_ble_eq_true rfl)) dX4_write_1 ⟨Nat.le_of_ble_eq_true rfl, Nat.le_of_ble_eq_true rfl⟩) (fun H locs hP hS => ?_)
    refine wd_re (y := 1) (by rw [hd]; rfl) ?_
    refine lv_if_eq (tgt := 22) hx hb dX4_write_4 (by decide) (fun c2 => absurd c2 (by decide)) (fun c2 => ?_)
    refine lv_iload_n hx hb dX4_write_7 rfl (lv_at hl 2 rfl) ?_
    refine lv_iconst (v := 1) hx hb dX4_write_8 (by decide) ?_
    refine lv_icmp_lt (tgt := 22) hx hb dX4_write_9 (by decide) (fun c3 => ?_) (fun c3 => ?_)
    · refine lv_iconst (v := 0) hx hb dX4_write_22 (by decide) ?_
      exact wd_iret (O := (mdO G)) hx hb hr hlocks hK hP hS (by decide) dX4_write_23 (by simp only [mwrV, hd, if_pos c3]) (by simp only [mwrM, hd, if_pos c3])
    · refine lv_iload_n hx hb dX4_write_12 rfl (lv_at hl 2 rfl) ?_
      refine lv_aload_n hx hb dX4_write_13 rfl (lv_at hl 0 rfl) ?_
      refine wd_get (O := (mdO G)) (v := .ref (wa (mdO G) 12)) hx hb hts hi4 hown hK hP (md_lt (by omega)) mE_0 rfl 14 (by decide) (hts (.fieldLink RX4 44 "LeaseDeskModel" "greatest" "[I") (by decide +kernel)) (fun _ h9 => h9) rfl dX4_write_14 ?_
      refine lv_iload_n hx hb dX4_write_17 rfl (lv_at hl 1 rfl) ?_
      refine wd_iald (O := (mdO G)) hx hb hK hP (md_lt (by omega)) 0 (mE_12 _) rfl (i := j2) rfl (by omega) (by decide) dX4_write_18 ?_
      refine lv_icmp_ge (tgt := 24) hx hb dX4_write_19 (by decide) (fun c4 => ?_) (fun c4 => ?_)
      · refine lv_aload_n hx hb dX4_write_24 rfl (lv_at hl 0 rfl) ?_
        refine wd_get (O := (mdO G)) (v := .ref (wa (mdO G) 12)) hx hb hts hi4 hown hK hP (md_lt (by omega)) mE_0 rfl 14 (by decide) (hts (.fieldLink RX4 44 "LeaseDeskModel" "greatest" "[I") (by decide +kernel)) (fun _ h9 => h9) rfl dX4_write_25 ?_
        refine lv_iload_n hx hb dX4_write_28 rfl (lv_at hl 1 rfl) ?_
        refine lv_iload_n hx hb dX4_write_29 rfl (lv_at hl 2 rfl) ?_
        refine wd_iast (O := (mdO G)) hj hx hb hK hP hS (md_lt (by omega)) 0 mE_12 rfl (i := j2) rfl (by omega) (by decide) dX4_write_30 (fun H locs hP hS => ?_)
        refine lv_aload_n hx hb dX4_write_31 rfl (lv_at hl 0 rfl) ?_
        refine wd_get (O := (mdO G)) (v := .ref (wa (mdO G) 13)) hx hb hts hi4 hown hK hP (md_lt (by omega)) mE_0 rfl 15 (by decide) (hts (.fieldLink RX4 47 "LeaseDeskModel" "values" "[I") (by decide +kernel)) (fun _ h9 => h9) rfl dX4_write_32 ?_
        refine lv_iload_n hx hb dX4_write_35 rfl (lv_at hl 1 rfl) ?_
        refine lv_iload_n hx hb dX4_write_36 rfl (lv_at hl 3 rfl) ?_
        refine wd_iast (O := (mdO G)) hj hx hb hK hP hS (md_lt (by omega)) 0 mE_13 rfl (i := j2) rfl (by omega) (by decide) dX4_write_37 (fun H locs hP hS => ?_)
        refine lv_iconst (v := 1) hx hb dX4_write_38 (by decide) ?_
        exact wd_iret (O := (mdO G)) hx hb hr hlocks hK hP hS (by decide) dX4_write_39 (by simp only [mwrV, hd, if_neg c3, if_pos c4]) (by simp only [mwrM, hd, if_neg c3, if_pos c4])
      · refine lv_iconst (v := 0) hx hb dX4_write_22 (by decide) ?_
        exact wd_iret (O := (mdO G)) hx hb hr hlocks hK hP hS (by decide) dX4_write_23 (by simp only [mwrV, hd, if_neg c3, if_neg c4]) (by simp only [mwrM, hd, if_neg c3, if_neg c4])
end
section
/-! THE CONSTRUCTORS -/
theorem ra_eq {U : State} {a b : ClassId} {ty : FieldType} (h1 : va_RA U a ty) (h2 : va_RA U b ty) (ht : (ty = .int || ty = .boolean) = true) : a = b := by
  have e : ty = .int ∨ ty = .boolean := by simpa using ht
  rcases e with rfl | rfl
  · exact Option.some.inj (Eq.trans (Eq.symm h1) h2)
  · exact Option.some.inj (Eq.trans (Eq.symm h1) h2)
abbrev row0 (h0 : Nat) : va_W := [(h0, .inr (1, [.null, .null, .int 0]))]
abbrev rowW (h0 q1 q2 : Nat) (cI : ClassId) : va_W := [(h0, .inr (1, [.ref q1, .ref q2, .int 0])), (q1, .inl (cI, 6, .inl (fun _ => 0))), (q2, .inl (cI, 6, .inl (fun _ => 0)))]
abbrev lock0 (h0 : Nat) : va_W := [(h0, .inr (0, [.null, .int 0, .int 0, .int 0, .int 0, .int 0, .int 0, .int 0]))]
abbrev lockW (h0 r q1 q2 : Nat) (cI : ClassId) : va_W := [(h0, .inr (0, [.ref r, .int (-1), .int 0, .int 0, .int 0, .int 0, .int 0, .int 0])), (r, .inr (1, [.ref q1, .ref q2, .int 0])), (q1, .inl (cI, 6, .inl (fun _ => 0))), (q2, .inl (cI, 6, .inl (fun _ => 0)))]
abbrev cpre (dC : Nat → ClassId) (dI : Nat → Nat → Nat) (w : va_W) (sz : Nat) (E : State → Prop) (U : State) : Prop := U.heap.size = sz ∧ va_P (dC, dI) vwCl w U.heap ∧ va_K (dC, dI) vwCl [] U ∧ va_D (fun _ => True) w ∧ E U
/-- the words on private constructors, and on arrays of objects -/
def nwR (U : State) : Prop := va_Nw (.methodLinkNest RX0 11 yX1_init "LeaseDesk") U
def nwD (U : State) : Prop := va_Nw (.methodLinkNest RX3 15 yX2_init "LeaseDesk") U ∧ va_Nw (.methodLinkNest RX3 22 yX0_init "LeaseDesk") U ∧ nwR U ∧ va_AO RX2 U ∧ va_AO RX0 U
theorem nwR_warm {s U : State} (hW : s.WarmedH U.vm) (h : nwR s) : nwR U := va_Nw.warmM hW h
theorem nwR_same {u U : State} (hv : u.vm = U.vm) (h : nwR u) : nwR U := va_Nw.same rfl hv h
theorem cpre_blind {dC : Nat → ClassId} {dI : Nat → Nat → Nat} {w : va_W} {sz : Nat} {E : State → Prop} {av : List Value} (hE : ∀ u U : State, u.vm = U.vm → E u → E U) : FrameBlind (va_Pc av (cpre dC dI w sz E)) := by
  intro a U g mk q
  obtain ⟨q0, q1, qP, qK, qD, qE⟩ := q
  exact ⟨q0, q1, qP, va_K.moved (u := U) (U := U.calling g mk a) (Vm.Alike.refl U.vm) qK, qD, hE U (U.calling g mk a) rfl qE⟩

set_option maxRecDepth 100000 in
set_option maxHeartbeats 400000 in
theorem c_X2_init (l : Launch) (h0 sz : Nat) : Met l yX2_init wsX2_init ({ frames := 1, cells := 0, slots := 0, locals := 12 }) (va_Pc [.ref h0] (fun U => U.heap.size = sz)) (va_Qv (fun _ : Unit => True) (fun _ _ => True) (fun q : Nat => sz ≤ q)) 0 0 (fun q : Nat => sz ≤ q) := by
  refine Met.ofW (cc := cX2_init) (maxL := 1) (ret := none) (by decide) rfl ?_
  intro p e s m args below meth c s₁ B hml hv
  obtain ⟨rfl, rfl⟩ := hv
  have hx := B.exec
  have hb := B.bytes
  have hr := B.returns
  have hts := atoms_spec (ws := wsX2_init) B.pre
  have hown : s.vm.findClass RX2 = some m.cls := findClass_of_methodNamed B.named
  have hlocks := B.notSynchronized
  have hS : va_S (fun q : Nat => s.heap.size ≤ q) s.heap s.heap [] := va_S.rf
  have hl := lv_entry ([.ref h0]) (n := 1) (Nat.le_of_ble_eq_true rfl)
  rw [lg_entry_eq]
  generalize (lg_sl ([.ref h0]) ++ List.replicate (1 - (lg_sl ([.ref h0])).length) Slot.unset).toArray = ls at hl ⊢
  have hl : lv_has ls 1 [(0, .ref h0)] := hl
  refine lv_aload_n hx hb dX2_init_0 rfl (lv_at hl 0 rfl) ?_
  refine W.objInit hx hb hown (hts (.methodLink RX2 3 objectInit) (by decide +kernel)) (hts (.instanceMethod objectInit) (by decide +kernel)) (hts (.code objectInit ⟨#[0xb1]⟩ 1 none) (by decide +kernel)) rfl (by rw [hml]; exact hl.1) rfl dX2_init_1 (Nat.le_of_ble_eq_true rfl) (Nat.le_of_ble_eq_true rfl) ?_
  refine W.eq (g2 := F0 m 4 ls []) rfl ?_
  exact W.vret hx hb hr (fun t ht hW => ⟨⟨(), rfl, trivial, trivial⟩, hS.F ht⟩) hS.2.2 dX2_init_4
set_option maxRecDepth 100000 in
set_option maxHeartbeats 400000 in
theorem c_X1_init (l : Launch) (dC : Nat → ClassId) (dI : Nat → Nat → Nat) (h0 sz : Nat) : Met l yX1_init wsX1_init ({ frames := 1, cells := 2, slots := 12, locals := 12 }) (va_Pc [.ref h0] (cpre dC dI (row0 h0) sz (fun _ => True))) (va_Qv (fun _ : Nat × Nat × ClassId => True) (fun u t => va_P (dC, dI) vwCl (rowW h0 u.1 u.2.1 u.2.2) t.heap ∧ va_K (dC, dI) vwCl [(u.2.2, .int)] t ∧ va_D (va_A (row0 h0) sz) (rowW h0 u.1 u.2.1 u.2.2)) (va_A (row0 h0) sz)) 2 12 (va_A (row0 h0) sz) := by
  refine Met.ofW (cc := cX1_init) (maxL := 1) (ret := none) (by decide) rfl ?_
  intro p e s m args below meth c s₁ B hml hv
  obtain ⟨rfl, hsz, hP, hK, hD0, hNw⟩ := hv
  have hx := B.exec
  have hb := B.bytes
  have hr := B.returns
  have hts := atoms_spec (ws := wsX1_init) B.pre
  have hown : s.vm.findClass RX1 = some m.cls := findClass_of_methodNamed B.named
  have hlocks := B.notSynchronized
  have hin : meth.name = "<init>" := (name_of_methodNamed B.named B.method).1
  subst hsz
  have hD := hD0.self (sz := s.heap.size)
  generalize hAe : va_A [(h0, .inr (1, [.null, .null, .int 0]))] s.heap.size = A at hD ⊢
  have hA : ∀ q : Nat, s.heap.size ≤ q → A q := fun q h => by rw [← hAe]; exact Or.inr h
  have hS : va_S A s.heap s.heap [] := va_S.rf
  have hP : va_P (dC, dI) vwCl [(h0, .inr (1, [.null, .null, .int 0]))] s.heap := hP
  have hl := lv_entry ([.ref h0]) (n := 1) (Nat.le_of_ble_eq_true rfl)
  rw [lg_entry_eq]
  generalize (lg_sl ([.ref h0]) ++ List.replicate (1 - (lg_sl ([.ref h0])).length) Slot.unset).toArray = ls at hl ⊢
  have hl : lv_has ls 1 [(0, .ref h0)] := hl
  have hi1 : ∀ w ∈ wsX10, w ∈ wsX1_init := by decide +kernel
  refine lv_aload_n hx hb dX1_init_0 rfl (lv_at hl 0 rfl) ?_
  refine W.objInit hx hb hown (hts (.methodLink RX1 3 objectInit) (by decide +kernel)) (hts (.instanceMethod objectInit) (by decide +kernel)) (hts (.code objectInit ⟨#[0xb1]⟩ 1 none) (by decide +kernel)) rfl (by rw [hml]; exact hl.1) rfl dX1_init_1 (Nat.le_of_ble_eq_true rfl) (Nat.le_of_ble_eq_true rfl) ?_
  refine W.eq (g2 := F0 m 4 ls []) rfl ?_
  refine lv_aload_n hx hb dX1_init_4 rfl (lv_at hl 0 rfl) ?_
  refine lv_bipush (v := 6) hx hb dX1_init_5 (by decide) ?_
  refine va_newa (atype := .int) (a0 := (6, .inl (fun _ => 0))) (ty := .int) hx hb (hts (.arrayClass .int) (by decide +kernel)) rfl hK hP hD hS hA (N' := 6) (fun _ => rfl) (by decide +kernel) (by decide +kernel) (by decide +kernel) (Nat.le_of_ble_eq_true rfl) (Nat.le_of_ble_eq_true rfl) dX1_init_7 (fun q1 c1 H hK hP hD hS => ?_)
  have hP : va_P (dC, dI) vwCl [(h0, .inr (1, [.null, .null, .int 0])), (q1, .inl (c1, 6, .inl (fun _ => 0)))] H := hP
  have hD : va_D A [(h0, .inr (1, [.null, .null, .int 0])), (q1, .inl (c1, 6, .inl (fun _ => 0)))] := hD
  have hK : va_K (dC, dI) vwCl [(c1, .int)] s := hK
  refine va_putF (D := (dC, dI)) (ci := 1) (v := .ref q1) (ty := .array .int) (C := RX1) (T := TX1) (N := 3) hx hb hts hi1 tyX1 tyX1_ok nmX1 hown hK hP hD hS 0 rfl rfl 0 (by decide) (hts (.fieldLink RX1 9 "LeaseDesk$Row" "slots" "[I") (by decide +kernel)) (fun _ h9 => h9) rfl hin rfl (by decide +kernel) rfl rfl (Nat.le_of_ble_eq_true rfl) dX1_init_9 (fun H locs hP hD hS => ?_)
  have hP : va_P (dC, dI) vwCl [(h0, .inr (1, [.ref q1, .null, .int 0])), (q1, .inl (c1, 6, .inl (fun _ => 0)))] H := hP
  have hD : va_D A [(h0, .inr (1, [.ref q1, .null, .int 0])), (q1, .inl (c1, 6, .inl (fun _ => 0)))] := hD
  refine lv_aload_n hx hb dX1_init_12 rfl (lv_at hl 0 rfl) ?_
  refine lv_bipush (v := 6) hx hb dX1_init_13 (by decide) ?_
  refine va_newa (atype := .int) (a0 := (6, .inl (fun _ => 0))) (ty := .int) hx hb (hts (.arrayClass .int) (by decide +kernel)) rfl hK hP hD hS hA (N' := 6) (fun _ => rfl) (by decide +kernel) (by decide +kernel) (by decide +kernel) (Nat.le_of_ble_eq_true rfl) (Nat.le_of_ble_eq_true rfl) dX1_init_15 (fun q2 c2 H hK hP hD hS => ?_)
  have hP : va_P (dC, dI) vwCl [(h0, .inr (1, [.ref q1, .null, .int 0])), (q1, .inl (c1, 6, .inl (fun _ => 0))), (q2, .inl (c2, 6, .inl (fun _ => 0)))] H := hP
  have hD : va_D A [(h0, .inr (1, [.ref q1, .null, .int 0])), (q1, .inl (c1, 6, .inl (fun _ => 0))), (q2, .inl (c2, 6, .inl (fun _ => 0)))] := hD
  have hK : va_K (dC, dI) vwCl [(c1, .int), (c2, .int)] s := hK
  have c2_e : c2 = c1 := ra_eq (hK.2 1 _ rfl).2 (hK.2 0 _ rfl).2 rfl
  subst c2_e
  have hP : va_P (dC, dI) vwCl [(h0, .inr (1, [.ref q1, .null, .int 0])), (q1, .inl (c2, 6, .inl (fun _ => 0))), (q2, .inl (c2, 6, .inl (fun _ => 0)))] H := hP
  have hD : va_D A [(h0, .inr (1, [.ref q1, .null, .int 0])), (q1, .inl (c2, 6, .inl (fun _ => 0))), (q2, .inl (c2, 6, .inl (fun _ => 0)))] := hD
  refine va_putF (D := (dC, dI)) (ci := 1) (v := .ref q2) (ty := .array .int) (C := RX1) (T := TX1) (N := 3) hx hb hts hi1 tyX1 tyX1_ok nmX1 hown hK hP hD hS 0 rfl rfl 1 (by decide) (hts (.fieldLink RX1 15 "LeaseDesk$Row" "terms" "[I") (by decide +kernel)) (fun _ h9 => h9) rfl hin rfl (by decide +kernel) rfl rfl (Nat.le_of_ble_eq_true rfl) dX1_init_17 (fun H locs hP hD hS => ?_)
  have hP : va_P (dC, dI) vwCl [(h0, .inr (1, [.ref q1, .ref q2, .int 0])), (q1, .inl (c2, 6, .inl (fun _ => 0))), (q2, .inl (c2, 6, .inl (fun _ => 0)))] H := hP
  have hD : va_D A [(h0, .inr (1, [.ref q1, .ref q2, .int 0])), (q1, .inl (c2, 6, .inl (fun _ => 0))), (q2, .inl (c2, 6, .inl (fun _ => 0)))] := hD
  have hK9 := hK.sub (tys' := [(c2, .int)]) [0] rfl
  have hP9 := hP.sub (ws' := rowW h0 q1 q2 c2) [0, 1, 2] rfl
  have hD9 := hD.sub (ws' := rowW h0 q1 q2 c2) [0, 1, 2] (by decide) rfl
  exact W.vret hx hb hr (fun t ht hW => ⟨⟨(q1, q2, c2), rfl, trivial, by rw [ht]; exact hP9, va_K.moved hW.alike hK9, hD9⟩, hS.F ht⟩) hS.2.2 dX1_init_20
set_option maxRecDepth 100000 in
set_option maxHeartbeats 400000 in
theorem c_X0_init (l : Launch) (dC : Nat → ClassId) (dI : Nat → Nat → Nat) (h0 sz : Nat) : Met l yX0_init wsX0_init ({ frames := 2, cells := 3, slots := 15, locals := 32 }) (va_Pc [.ref h0] (cpre dC dI (lock0 h0) sz nwR)) (va_Qv (fun _ : Nat × Nat × Nat × ClassId => True) (fun u t => va_P (dC, dI) vwCl (lockW h0 u.1 u.2.1 u.2.2.1 u.2.2.2) t.heap ∧ va_K (dC, dI) vwCl [(u.2.2.2, .int)] t ∧ va_D (va_A (lock0 h0) sz) (lockW h0 u.1 u.2.1 u.2.2.1 u.2.2.2)) (va_A (lock0 h0) sz)) 3 15 (va_A (lock0 h0) sz) := by
  refine Met.ofW (cc := cX0_init) (maxL := 1) (ret := none) (by decide) rfl ?_
  intro p e s m args below meth c s₁ B hml hv
  obtain ⟨rfl, hsz, hP, hK, hD0, hNw⟩ := hv
  have hx := B.exec
  have hb := B.bytes
  have hr := B.returns
  have hts := atoms_spec (ws := wsX0_init) B.pre
  have hown : s.vm.findClass RX0 = some m.cls := findClass_of_methodNamed B.named
  have hlocks := B.notSynchronized
  have hin : meth.name = "<init>" := (name_of_methodNamed B.named B.method).1
  subst hsz
  have hD := hD0.self (sz := s.heap.size)
  generalize hAe : va_A [(h0, .inr (0, [.null, .int 0, .int 0, .int 0, .int 0, .int 0, .int 0, .int 0]))] s.heap.size = A at hD ⊢
  have hA : ∀ q : Nat, s.heap.size ≤ q → A q := fun q h => by rw [← hAe]; exact Or.inr h
  have hS : va_S A s.heap s.heap [] := va_S.rf
  have hP : va_P (dC, dI) vwCl [(h0, .inr (0, [.null, .int 0, .int 0, .int 0, .int 0, .int 0, .int 0, .int 0]))] s.heap := hP
  have hl := lv_entry ([.ref h0]) (n := 1) (Nat.le_of_ble_eq_true rfl)
  rw [lg_entry_eq]
  generalize (lg_sl ([.ref h0]) ++ List.replicate (1 - (lg_sl ([.ref h0])).length) Slot.unset).toArray = ls at hl ⊢
  have hl : lv_has ls 1 [(0, .ref h0)] := hl
  have hi0 : ∀ w ∈ wsX00, w ∈ wsX0_init := by decide +kernel
  have hi1 : ∀ w ∈ wsX10, w ∈ wsX0_init := by decide +kernel
  refine lv_aload_n hx hb dX0_init_0 rfl (lv_at hl 0 rfl) ?_
  refine W.objInit hx hb hown (hts (.methodLink RX0 3 objectInit) (by decide +kernel)) (hts (.instanceMethod objectInit) (by decide +kernel)) (hts (.code objectInit ⟨#[0xb1]⟩ 1 none) (by decide +kernel)) rfl (by rw [hml]; exact hl.1) rfl dX0_init_1 (Nat.le_of_ble_eq_true rfl) (Nat.le_of_ble_eq_true rfl) ?_
  refine W.eq (g2 := F0 m 4 ls []) rfl ?_
  refine lv_aload_n hx hb dX0_init_4 rfl (lv_at hl 0 rfl) ?_
  refine va_new (ci := 1) (fs := [.null, .null, .int 0]) (C := RX1) (T := TX1) (N := 3) hx hb hts hi1 tyX1 tyX1_ok hown (hts (.classLink RX0 9 RX1) (by decide +kernel)) (hts (.instantiable RX1 3) (by decide +kernel)) (hts (.initialized RX1) (by decide +kernel)) hK hP hD hS hA rfl (fun j hj => by rcases (show j = 0 ∨ j = 1 ∨ j = 2 by omega) with rfl | rfl | rfl <;> rfl) (Nat.le_of_ble_eq_true rfl) (Nat.le_of_ble_eq_true rfl) dX0_init_5 (fun r H hP hD hS => ?_)
  have hP : va_P (dC, dI) vwCl [(h0, .inr (0, [.null, .int 0, .int 0, .int 0, .int 0, .int 0, .int 0, .int 0])), (r, .inr (1, [.null, .null, .int 0]))] H := hP
  have hD : va_D A [(h0, .inr (0, [.null, .int 0, .int 0, .int 0, .int 0, .int 0, .int 0, .int 0])), (r, .inr (1, [.null, .null, .int 0]))] := hD
  refine lv_dup hx hb dX0_init_8 rfl ?_
  have hPc := hP.sub (ws' := row0 r) [1] rfl
  have hDc := hD.sub (ws' := row0 r) [1] (by decide) rfl
  have hFc := va_free (wc := row0 r) hD hS hA [1] rfl
  refine va_callv (va_runIN (As := []) (rest := [.ref r, .ref h0]) ⟨hx, hb, hml, hown, hts⟩ (c_X1_init l dC dI r H.size) ⟨va_cnB 0 hts gX0_init_X1_init_n11 rfl rfl rfl hNw (hts (.initialized RX1) (by decide +kernel)) (by decide +kernel) ⟨Nat.le_of_ble_eq_true rfl, Nat.le_of_ble_eq_true rfl⟩, rfl, hts (.instanceMethod yX1_init) (by decide +kernel)⟩ ⟨cpre_blind (fun _ _ _ _ => trivial), fun U hU hW => ⟨rfl, by rw [hU], by rw [hU]; exact hPc, va_K.moved hW.alike hK, hDc.weaken (fun _ _ _ _ => trivial), trivial⟩⟩ rfl rfl hl.1 rfl (lv_room (Nat.le_of_ble_eq_true rfl)) dX0_init_9 ⟨Nat.le_of_ble_eq_true rfl, Nat.le_of_ble_eq_true rfl⟩) hS (fun q _ h => hFc q h) hFc (fun u t H1 locs ht hvm hw hB hz1 hk1 hS => ?_)
  obtain ⟨q1, q2, cI⟩ := u
  obtain ⟨hP1, hK1, hD1⟩ := hB
  rw [ht] at hP1
  have hK := va_K.moved hvm.symm hK1
  obtain ⟨hP, hD⟩ := va_join (wr := [(h0, .inr (0, [.null, .int 0, .int 0, .int 0, .int 0, .int 0, .int 0, .int 0]))]) (w1 := rowW r q1 q2 cI) hP hD [1] [0] rfl rfl (by decide) (by decide) hk1 hFc hP1 hD1
  generalize H1 = H at hP hS ⊢
  have hP : va_P (dC, dI) vwCl [(h0, .inr (0, [.null, .int 0, .int 0, .int 0, .int 0, .int 0, .int 0, .int 0])), (r, .inr (1, [.ref q1, .ref q2, .int 0])), (q1, .inl (cI, 6, .inl (fun _ => 0))), (q2, .inl (cI, 6, .inl (fun _ => 0)))] H := hP
  have hD : va_D A [(h0, .inr (0, [.null, .int 0, .int 0, .int 0, .int 0, .int 0, .int 0, .int 0])), (r, .inr (1, [.ref q1, .ref q2, .int 0])), (q1, .inl (cI, 6, .inl (fun _ => 0))), (q2, .inl (cI, 6, .inl (fun _ => 0)))] := hD
  have hK : va_K (dC, dI) vwCl [(cI, .int)] s := hK
  refine va_putF (D := (dC, dI)) (ci := 0) (v := .ref r) (ty := .object "LeaseDesk$Row") (C := RX0) (T := TX0) (N := 8) hx hb hts hi0 tyX0 tyX0_ok nmX0 hown hK hP hD hS 0 rfl rfl 0 (by decide) (hts (.fieldLink RX0 12 "LeaseDesk$Lock" "row" "LLeaseDesk$Row;") (by decide +kernel)) (fun _ h9 => h9) rfl hin rfl (by decide +kernel) rfl rfl (Nat.le_of_ble_eq_true rfl) dX0_init_12 (fun H locs hP hD hS => ?_)
  have hP : va_P (dC, dI) vwCl [(h0, .inr (0, [.ref r, .int 0, .int 0, .int 0, .int 0, .int 0, .int 0, .int 0])), (r, .inr (1, [.ref q1, .ref q2, .int 0])), (q1, .inl (cI, 6, .inl (fun _ => 0))), (q2, .inl (cI, 6, .inl (fun _ => 0)))] H := hP
  have hD : va_D A [(h0, .inr (0, [.ref r, .int 0, .int 0, .int 0, .int 0, .int 0, .int 0, .int 0])), (r, .inr (1, [.ref q1, .ref q2, .int 0])), (q1, .inl (cI, 6, .inl (fun _ => 0))), (q2, .inl (cI, 6, .inl (fun _ => 0)))] := hD
  refine lv_aload_n hx hb dX0_init_15 rfl (lv_at hl 0 rfl) ?_
  refine lv_iconst (v := (-1)) hx hb dX0_init_16 (by decide) ?_
  refine va_put (D := (dC, dI)) (ci := 0) (v := .int (-1)) (ty := .int) (C := RX0) (T := TX0) (N := 8) hx hb hts hi0 tyX0 tyX0_ok nmX0 hown hK hP hD hS 0 rfl rfl 1 (by decide) (hts (.fieldLink RX0 18 "LeaseDesk$Lock" "holder" "I") (by decide +kernel)) (fun _ h9 => h9) rfl (by decide +kernel) rfl rfl (Nat.le_of_ble_eq_true rfl) dX0_init_17 (fun H locs hP hD hS => ?_)
  have hP : va_P (dC, dI) vwCl [(h0, .inr (0, [.ref r, .int (-1), .int 0, .int 0, .int 0, .int 0, .int 0, .int 0])), (r, .inr (1, [.ref q1, .ref q2, .int 0])), (q1, .inl (cI, 6, .inl (fun _ => 0))), (q2, .inl (cI, 6, .inl (fun _ => 0)))] H := hP
  have hD : va_D A [(h0, .inr (0, [.ref r, .int (-1), .int 0, .int 0, .int 0, .int 0, .int 0, .int 0])), (r, .inr (1, [.ref q1, .ref q2, .int 0])), (q1, .inl (cI, 6, .inl (fun _ => 0))), (q2, .inl (cI, 6, .inl (fun _ => 0)))] := hD
  have hP9 := hP.sub (ws' := lockW h0 r q1 q2 cI) [0, 1, 2, 3] rfl
  have hD9 := hD.sub (ws' := lockW h0 r q1 q2 cI) [0, 1, 2, 3] (by decide) rfl
  exact W.vret hx hb hr (fun t ht hW => ⟨⟨(r, q1, q2, cI), rfl, trivial, by rw [ht]; exact hP9, va_K.moved hW.alike hK, hD9⟩, hS.F ht⟩) hS.2.2 dX0_init_20
end
