/-! THE CLAIM OUT OF ONE WALK OF THE LAW'S BODY. Your part is whole_start (and what it stands on); all else here is the same for every law, but numbers. -/
def R_law : String := "LeaseDeskLaw"
def lw_P (b : Addr) (xs : List Int32) (args : Array Value) (s : State) : Prop := args = #[.ref b] ∧ s.IntsAt b xs ∧ xs.length ≤ 2048 ∧ (Jvm.Cond.and given_1 narrow_1).before args s = true
def lw_Q (_ : Array Value) (s : State) (o : Outcome) (t : State) : Prop := o = .returned (some (.int 1)) ∧ Framed s o t [] 674246 7073367
def lw_Z (below : List Frame) (a : Array Value) (s : State) : State → Prop := fun t => ∃ o, t.status = .running ∧ Ended t below o ∧ lw_Q a s o t
/-- the law's own end, with 1 on the stack, nothing written that was there before, its room as the claim has it -/
theorem lw_ret {p : Program} {l : Launch} {e : Env} {s : State} {m : MethodId} {below : List Frame} {meth : Method} {c : Code} {b : Nat} (hx : p.tables.exec = Jvm.exec) (hb : c.code = code) (hr : meth.sig.returnType = ret) (hlocks : meth.locks = false) {pc : Nat} {H : Heap} {ls : Array Slot} (hdg : decode code pc = .ok (.ireturn, 1)) : W p l e room_1 s m #[Value.ref b] below meth c H [] 674246 7073367 (lw_Z below #[Value.ref b] s) (F0 m pc ls [.int 1]) := by
  intro T hT X
  obtain ⟨fs, hret, hrun, hended, hW, hframe⟩ := X.leave (v := some (.int 1)) (hlocks := hlocks) (fun h => by rw [hr] at h; cases h)
  have hmeth' : T.vm.method? m = some meth := X.method'
  refine ⟨T.setFrames fs, ?_, .returned (some (.int 1)), hrun, hended, rfl, ⟨_, rfl⟩, hW, hframe⟩
  jvm_step X.here [X.here.top, hx, hb, hdg, hmeth', hr, ret, narrow_b1]
  (try refine ⟨rfl, ?_⟩); (try refine ⟨rfl, ?_⟩)
  first | (intro acts; rw [hret _ acts rfl rfl rfl]) | rw [hret _ _ rfl rfl rfl]
  exact Steps.refl _
/-- what holds at the law's entry: the machine, the code, the tables' words (any of lw_tbl by 'hts w (by decide +kernel)'), the script of L ints xs at the cell b, what the Statement gives of the start (any of its parts by flat_of_before) -/
def lw_At (p : Program) (s : State) (m : MethodId) (meth : Method) (c : Code) (b L : Nat) (xs : Nat → Int32) : Prop :=
  p.tables.exec = Jvm.exec ∧ c.code = code ∧ meth.sig.returnType = ret ∧ c.maxLocals = 7 ∧ s.vm.findClass R_law = some m.cls ∧ (∀ w ∈ lw_tbl, w.before #[Value.ref b] s = true) ∧ va_X b L xs s s.heap ∧ b < s.heap.size ∧ meth.locks = false ∧ (Jvm.Cond.and given_1 narrow_1).before #[Value.ref b] s = true
/-! THE LAW's OWN WORLD: desk, reference, the cell of longs -/
theorem P_l {D : va_G} {cl : List vw_C} {a b : va_W} {H : Heap} (h : va_P D cl (a ++ b) H) : va_P D cl a H := fun k q hk => h k q (by rw [List.getElem?_append_left (List.getElem?_eq_some_iff.mp hk).1]; exact hk)
theorem P_r {D : va_G} {cl : List vw_C} {a b : va_W} {H : Heap} (h : va_P D cl (a ++ b) H) : va_P D cl b H := fun k q hk => h (a.length + k) q (by rw [List.getElem?_append_right (by omega), show a.length + k - a.length = k by omega]; exact hk)
def LF (s : State) (D : va_G) (cs : ClassId × ClassId × ClassId) (ad : Nat → Nat) (cm : ClassId × ClassId) (am : Nat → Nat) (o : Nat) (cJ : ClassId) : Prop :=
  wj (dkO (D, cs, ad)) ∧ wj (mdO (D, cm, am)) ∧ va_K D vwCl (wt (dkO (D, cs, ad))) s ∧ va_K D vwCl (wt (mdO (D, cm, am))) s ∧ va_K D vwCl [(cJ, .long)] s ∧ (∀ k, k < 25 → s.heap.size ≤ ad k) ∧ (∀ k, k < 14 → s.heap.size ≤ am k) ∧ s.heap.size ≤ o ∧ (∀ i j, i < 25 → j < 14 → ad i ≠ am j) ∧ (∀ i, i < 25 → ad i ≠ o) ∧ (∀ j, j < 14 → am j ≠ o) ∧ xE (fun q : Nat => s.heap.size ≤ q) s s.heap
def LI (s : State) (D : va_G) (cs : ClassId × ClassId × ClassId) (ad : Nat → Nat) (cm : ClassId × ClassId) (am : Nat → Nat) (o : Nat) (cJ : ClassId) (M N : Mem) (fo : Nat → Int64) (H : Heap) (locs : List Loc) : Prop :=
  va_P D vwCl (wd (dkO (D, cs, ad)) M) H ∧ va_P D vwCl (wd (mdO (D, cm, am)) N) H ∧ va_P D vwCl (oW o cJ fo) H ∧ va_S (fun q : Nat => s.heap.size ≤ q) s.heap H locs
abbrev LV (b : Nat) (ad am : Nat → Nat) (o k : Nat) : List (Nat × Value) := [(0, .ref b), (1, .ref (ad 0)), (2, .ref (am 0)), (3, .ref o), (4, .int (nI (4 * k)))]
theorem ap_m {D : va_G} {cm : ClassId × ClassId} {am : Nat → Nat} {O : WS} {N : Mem} {o : Nat} {cJ : ClassId} {fo : Nat → Int64} (h1 : ∀ i j, i < wn O → j < 14 → wa O i ≠ am j) (h2 : ∀ i, i < wn O → wa O i ≠ o) : ∀ (k : Nat) (q : Nat × va_E), (wd (mdO (D, cm, am)) N ++ oW o cJ fo)[k]? = some q → ∀ j, j < wn O → wa O j ≠ q.1 := by
  intro k q hq j hj
  rcases List.mem_append.mp (List.mem_of_getElem? hq) with h | h
  · obtain ⟨i, hi⟩ := List.getElem?_of_mem h
    obtain ⟨k1, rfl⟩ := wd_at' hi
    exact h1 j i hj k1
  · simp only [oW, List.mem_singleton] at h
    rw [h]
    exact h2 j hj
theorem ap_d {D : va_G} {cs : ClassId × ClassId × ClassId} {ad : Nat → Nat} {O : WS} {M : Mem} {o : Nat} {cJ : ClassId} {fo : Nat → Int64} (h1 : ∀ i j, i < 25 → j < wn O → ad i ≠ wa O j) (h2 : ∀ i, i < wn O → wa O i ≠ o) : ∀ (k : Nat) (q : Nat × va_E), (wd (dkO (D, cs, ad)) M ++ oW o cJ fo)[k]? = some q → ∀ j, j < wn O → wa O j ≠ q.1 := by
  intro k q hq j hj
  rcases List.mem_append.mp (List.mem_of_getElem? hq) with h | h
  · obtain ⟨i, hi⟩ := List.getElem?_of_mem h
    obtain ⟨k1, rfl⟩ := wd_at' hi
    exact fun e => h1 i j k1 hj e.symm
  · simp only [oW, List.mem_singleton] at h
    rw [h]
    exact h2 j hj
theorem new_A {O : WS} {s : State} {H : Heap} {locs : List Loc} (h : ∀ k, k < wn O → s.heap.size ≤ wa O k) (hS : va_S (fun q : Nat => s.heap.size ≤ q) s.heap H locs) : ∀ q, wA O H.size q → s.heap.size ≤ q := by
  intro q hq
  rcases hq with ⟨k, hk, rfl⟩ | hq
  · exact h k hk
  · exact Nat.le_trans hS.1 hq
section LL
variable {p : Program} {l : Launch} {e : Env} {R : Room} {s : State} {m : MethodId} {args : Array Value} {below : List Frame} {meth : Method} {c : Code} {H : Heap} {locs : List Loc} {cells slots : Nat} {Q : State → Prop}
variable {cc : ByteArray} {pc : Nat} {ls : Array Slot} {rest st0 : List Value} {mc ms : Nat} {a : Array Value} {A : Nat → Prop}
theorem ll_sld (hx : p.tables.exec = Jvm.exec) (hb : c.code = cc) {b L : Nat} {xs : Nat → Int32} (hX : va_X b L xs s s.heap) (hbl : b < s.heap.size) (hbA : ¬ A b) (hS : va_S A s.heap H locs) {i : Nat} (hi : i < L) (hL : L < 2 ^ 31) (hdg : decode cc pc = .ok (.iaload, 1))
    (kk : W p l e R s m args below meth c H locs cells slots Q (F0 m (pc + 1) ls (.int (xs i) :: rest))) : W p l e R s m args below meth c H locs cells slots Q (F0 m pc ls (.int (nI i) :: .ref b :: rest)) := by
  refine va_sld hx hb hX hbl hbA hS (vp_in_nI hi hL) hdg ?_
  rw [nI_clamp (by omega)]
  exact kk
/-- a call of a helper -/
theorem xl_h {O : WS} {o : Nat} {cJ : ClassId} {r : Int32} {M' : Mem} {pf : (Nat → Int64) → Prop} {W2 : va_W} (hS : va_S A s.heap H locs) (hn : ∀ q, hA O o H.size q → A q) (h2 : va_P (wD O) vwCl W2 H) (hap : ∀ (k : Nat) (q : Nat × va_E), W2[k]? = some q → q.1 ≠ o ∧ ∀ j, j < wn O → wa O j ≠ q.1)
    (hr : va_Run p l e R s m args below meth c H locs cells slots mc ms (F0 m pc ls st0) rest (hQ O o cJ H.size r M' pf a) (hA O o H.size))
    (kk : ∀ (fo : Nat → Int64) (H1 : Heap) (locs1 : List Loc), pf fo → va_P (wD O) vwCl (wd O M') H1 → va_P (wD O) vwCl (oW o cJ fo) H1 → va_P (wD O) vwCl W2 H1 → va_S A s.heap H1 locs1 → W p l e R s m args below meth c H1 locs1 (cells + mc) (slots + ms) Q (F0 m (pc + 3) ls (.int r :: rest))) : W p l e R s m args below meth c H locs cells slots Q (F0 m pc ls st0) := by
  refine va_calli hr hS (fun q _ h => hn q h) hn (fun r' u t H1 locs1 ht hvm hw hB hz1 hk1 hS1 => ?_)
  obtain ⟨hP1, hO1⟩ := hB
  rw [ht] at hP1 hO1
  obtain ⟨rfl, hpf⟩ := hw
  refine kk u H1 locs1 hpf hP1 hO1 (h2.kept (fun k q hq => hk1 q.1 ((h2 k q hq).lt) (fun h => ?_))) hS1
  rcases h with (⟨j, hj, e⟩ | h) | h
  · exact (hap k q hq).2 j hj e.symm
  · have := (h2 k q hq).lt
    omega
  · exact (hap k q hq).1 h
theorem hp_pre {O : WS} {o : Nat} {cJ : ClassId} {M : Mem} {fo : Nat → Int64} {As : List Value} (hK : va_K (wD O) vwCl (wt O) s) (hKo : va_K (wD O) vwCl [(cJ, .long)] s) (hP : va_P (wD O) vwCl (wd O M) H) (hO : va_P (wD O) vwCl (oW o cJ fo) H) (hS : va_S A s.heap H locs) (hn : ∀ q, hA O o H.size q → A q) (hE : xE A s s.heap) : PreS s H (va_Pc As (hp O o cJ H.size M fo)) As :=
  ⟨hp_blind, fun U hU hW => ⟨rfl, by rw [hU], by rw [hU]; exact hP, va_K.moved hW.alike hK, by rw [hU]; exact hO, va_K.moved hW.alike hKo, xE_call hE hS hn hU hW⟩⟩
theorem ll_lald {D : va_G} {o : Nat} {cJ : ClassId} {fo : Nat → Int64} {v : Int64} (hx : p.tables.exec = Jvm.exec) (hb : c.code = cc) (hKo : va_K D vwCl [(cJ, .long)] s) (hO : va_P D vwCl (oW o cJ fo) H) (hv : fo 0 = v) (hdg : decode cc pc = .ok (.laload, 1))
    (kk : W p l e R s m args below meth c H locs cells slots Q (F0 m (pc + 1) ls (.long v :: rest))) : W p l e R s m args below meth c H locs cells slots Q (F0 m pc ls (.int 0 :: .ref o :: rest)) := by
  subst hv
  refine va_lald hx hb hKo hO 0 0 rfl rfl (show vp_in 0 1 from vp_in_nI (n := 0) (by decide) (by decide)) hdg ?_
  exact kk
theorem ll_lcmp {x y : Int64} (hxy : x = y) (hx : p.tables.exec = Jvm.exec) (hb : c.code = cc) (hdg : decode cc pc = .ok (.lcmp, 1))
    (kk : W p l e R s m args below meth c H locs cells slots Q (F0 m (pc + 1) ls (.int 0 :: rest))) : W p l e R s m args below meth c H locs cells slots Q (F0 m pc ls (.long y :: .long x :: rest)) := by
  refine W.lcmp hx hb hdg ?_
  have e : lg_cmp x y = 0 := by subst hxy; simp [lg_cmp]
  rw [e]
  exact kk
end LL
/-- 'thrown' stays -/
theorem gw_t {s : Nat} : ∀ (k i : Nat) (N : Mem) (r : Nat), gwM s k i N 0 r = N 0 r
  | 0, i, N, r => rfl
  | k + 1, i, N, r => by unfold gwM; rw [gw_t k (i + 1), up_n (by omega)]
theorem gn_t {s : Nat} : ∀ (k i : Nat) (N : Mem) (r : Nat), gnM s k i N 0 r = N 0 r
  | 0, i, N, r => rfl
  | k + 1, i, N, r => by
    unfold gnM
    rw [gn_t k (i + 1)]
    by_cases e : N 5 i = nI s + 1
    · rw [if_pos e]; exact ov_ses (by omega)
    · rw [if_neg e]
theorem go_t {N : Mem} {s r : Nat} : goM N s 0 r = N 0 r := by
  unfold goM
  rw [up_n (by omega), gn_t, gw_t]
theorem ma_t {N : Mem} {j i : Nat} {t : Int32} : maM N j i t 0 1 = 0 := by
  have e0 : maA N j 0 1 = 0 := by unfold maA; simp [up_e]
  unfold maM
  by_cases e : maA N j 5 i = nI j + 1
  · rw [if_pos e]
    unfold maR
    by_cases e2 : maA N j 0 0 + t ≤ maA N j 7 i
    · rw [if_pos e2]; exact e0
    · rw [if_neg e2]; simp only [up_e]; simp [e0]
  · rw [if_neg e]
    by_cases e2 : maA N j 5 i = 0
    · rw [if_pos e2, ml_n (by omega) (by omega)]; exact e0
    · rw [if_neg e2]
      unfold maW
      by_cases e3 : maA N j 10 (i * 6 + j) = 0
      · rw [if_pos e3]; simp only [up_e]; simp [e0]
      · rw [if_neg e3]; simp only [up_e]; simp [e0]
