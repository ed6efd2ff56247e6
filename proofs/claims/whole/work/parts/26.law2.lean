/-! THE LAW's LOOP -/
set_option maxRecDepth 100000 in
set_option maxHeartbeats 4000000 in
/-- one turn: the k-th call -/
theorem law_step {p : Program} {l : Launch} {e : Env} {s : State} {m : MethodId} {below : List Frame} {meth : Method} {c : Code} (hst : l.stackTraces = false) {b L : Nat} {xs : Nat → Int32} (hL : L ≤ 2048) (C0 : lw_At p s m meth c b L xs) {D : va_G} {cs : ClassId × ClassId × ClassId} {ad : Nat → Nat} {cm : ClassId × ClassId} {am : Nat → Nat} {o : Nat} {cJ : ClassId} (F : LF s D cs ad cm am o cJ) {M N : Mem} {n : Nat} {fq : Nat → Int64} {H : Heap} {locs : List Loc} {k : Nat} (hnk : n ≤ k) (hR : Rel M N n) (hI : LI s D cs ad cm am o cJ M N fq H locs) {ls : Array Slot} (hl : lv_has ls 7 (LV b ad am o k))
    (kk : 4 * k + 4 ≤ L → ∀ (M' N' : Mem) (n' : Nat) (fo' : Nat → Int64) (H' : Heap) (locs' : List Loc) (ls' : Array Slot), n' ≤ k + 1 → Rel M' N' n' → LI s D cs ad cm am o cJ M' N' fo' H' locs' → lv_has ls' 7 (LV b ad am o (k + 1)) → W p l e room_1 s m #[Value.ref b] below meth c H' locs' (60 + (k + 1)) (500 + 6 * (k + 1)) (lw_Z below #[Value.ref b] s) (F0 m 23 ls' [])) (hk0 : 4 * k ≤ 2100) :
    W p l e room_1 s m #[Value.ref b] below meth c H locs (60 + k) (500 + 6 * k) (lw_Z below #[Value.ref b] s) (F0 m 23 ls []) := by
  obtain ⟨hx, hb, hr, hml, hown, hts, hX, hbl, hlocks, hgv⟩ := id C0
  have hbA : ¬ (fun q : Nat => s.heap.size ≤ q) b := Nat.not_le.mpr hbl
  obtain ⟨hP, hQ, hO, hS⟩ := id hI
  refine lv_iload hx hb dL_law_23 (lv_at hl 4 rfl) ?_
  refine lv_aload_n hx hb dL_law_25 rfl (lv_at hl 0 rfl) ?_
  refine va_slen hx hb hX hbl hbA hS dL_law_26 ?_
  refine lv_iconst (v := 4) hx hb dL_law_27 (by decide) ?_
  refine lv_isub hx hb dL_law_28 ?_
  have hsub : (Int32.ofNat L - 4).toInt = (L : Int) - 4 := pk_sub_toInt (a := L) (b := 4) (by omega) (by omega)
  have hti : (nI (4 * k)).toInt = ((4 * k : Nat) : Int) := nI_toInt (by omega)
  refine lv_icmp_gt (tgt := 779) hx hb dL_law_29 (by decide) (fun c1 => ?_) (fun c1 => ?_)
  · refine lv_iconst (v := 1) hx hb dL_law_779 (by decide) ?_
    refine va_forget (fun q hq => hS.2.2 q hq) ?_
    refine W.widen (k := 674246) (n := 7073367) (by omega) (by omega) ?_
    exact lw_ret hx hb hr hlocks dL_law_780
  · have hk : 4 * k + 4 ≤ L := by
      rw [Int32.lt_iff_toInt_lt, hsub, hti] at c1
      omega
    have cont : ∀ (M' N' : Mem) (n' : Nat) (fo' : Nat → Int64) (H' : Heap) (locs' : List Loc) (ls' : Array Slot), n' ≤ n + 1 → Rel M' N' n' → LI s D cs ad cm am o cJ M' N' fo' H' locs' → lv_has ls' 7 (LV b ad am o k) → W p l e room_1 s m #[Value.ref b] below meth c H' locs' (60 + k + 1) (500 + 6 * k + 6) (lw_Z below #[Value.ref b] s) (F0 m 773 ls' []) := by
      intro M' N' n' fo' H' locs' ls' h1 h2 h3 hl
      refine lv_iinc (v := nI (4 * (k + 1))) (lv' := [(4, .int (nI (4 * (k + 1)))), (0, .ref b), (1, .ref (ad 0)), (2, .ref (am 0)), (3, .ref o)]) hx hb dL_law_773 hl (k := 4) rfl ((show nI (4 * k) + nI 4 = nI (4 * k + 4) from nI_add _ _).trans (congrArg nI (by omega))) (by decide) rfl (fun ls hl => ?_)
      refine lv_goto (tgt := 23) hx hb dL_law_776 (by decide) ?_
      refine W.widen (k := 60 + (k + 1)) (n := 500 + 6 * (k + 1)) (by omega) (by omega) ?_
      exact kk hk M' N' n' fo' H' locs' ls (by omega) h2 h3 (lv_sub hl [1, 2, 3, 4, 0] rfl)
    refine lv_aload_n hx hb dL_law_32 rfl (lv_at hl 0 rfl) ?_
    refine lv_iload hx hb dL_law_33 (lv_at hl 4 rfl) ?_
    refine ll_sld hx hb hX hbl hbA hS (i := 4 * k) (by omega) (by omega) dL_law_35 ?_
    refine lv_bipush (v := 31) hx hb dL_law_36 (by decide) ?_
    refine lv_iand hx hb dL_law_38 ?_
    obtain ⟨j, hj, ej⟩ := pk_andE (xs (4 * k)) (m := 31) 5 (by decide)
    refine wd_re (y := nI j) ej ?_
    by_cases hj18 : 18 ≤ j
    · refine lv_tableOut (tgt := 773) hx hb dL_law_39 (Or.inr (by rw [nI_toInt (by omega)]; omega)) (by decide) ?_
      refine W.widen (k := 60 + k + 1) (n := 500 + 6 * k + 6) (by omega) (by omega) ?_
      exact cont M N n fq H locs ls (by omega) hR hI hl
    · have hcases : j = 0 ∨ j = 1 ∨ j = 2 ∨ j = 3 ∨ j = 4 ∨ j = 5 ∨ j = 6 ∨ j = 7 ∨ j = 8 ∨ j = 9 ∨ j = 10 ∨ j = 11 ∨ j = 12 ∨ j = 13 ∨ j = 14 ∨ j = 15 ∨ j = 16 ∨ j = 17 := by omega
      rcases hcases with rfl | rfl | rfl | rfl | rfl | rfl | rfl | rfl | rfl | rfl | rfl | rfl | rfl | rfl | rfl | rfl | rfl | rfl
      · refine lv_tableIn (tgt := 124) hx hb dL_law_39 (by decide +kernel) (by decide +kernel) (show _ = some 85 from by decide +kernel) (by decide) ?_
        exact law_0 hst hL C0 F hR (by omega) hI (by omega) (by omega) hk hl cont
      · refine lv_tableIn (tgt := 168) hx hb dL_law_39 (by decide +kernel) (by decide +kernel) (show _ = some 129 from by decide +kernel) (by decide) ?_
        exact law_1 hst hL C0 F hR (by omega) hI (by omega) (by omega) hk hl cont
      · refine lv_tableIn (tgt := 224) hx hb dL_law_39 (by decide +kernel) (by decide +kernel) (show _ = some 185 from by decide +kernel) (by decide) ?_
        exact law_2 hst hL C0 F hR (by omega) hI (by omega) (by omega) hk hl cont
      · refine lv_tableIn (tgt := 260) hx hb dL_law_39 (by decide +kernel) (by decide +kernel) (show _ = some 221 from by decide +kernel) (by decide) ?_
        exact law_3 hst hL C0 F hR (by omega) hI (by omega) (by omega) hk hl cont
      · refine lv_tableIn (tgt := 297) hx hb dL_law_39 (by decide +kernel) (by decide +kernel) (show _ = some 258 from by decide +kernel) (by decide) ?_
        exact law_4 hst hL C0 F hR (by omega) hI (by omega) (by omega) hk hl cont
      · refine lv_tableIn (tgt := 322) hx hb dL_law_39 (by decide +kernel) (by decide +kernel) (show _ = some 283 from by decide +kernel) (by decide) ?_
        exact law_5 hst hL C0 F hR (by omega) hI (by omega) (by omega) hk hl cont
      · refine lv_tableIn (tgt := 402) hx hb dL_law_39 (by decide +kernel) (by decide +kernel) (show _ = some 363 from by decide +kernel) (by decide) ?_
        exact law_6 hst hL C0 F hR (by omega) hI (by omega) (by omega) hk hl cont
      · refine lv_tableIn (tgt := 450) hx hb dL_law_39 (by decide +kernel) (by decide +kernel) (show _ = some 411 from by decide +kernel) (by decide) ?_
        exact law_7 hst hL C0 F hR (by omega) hI (by omega) (by omega) hk hl cont
      · refine lv_tableIn (tgt := 487) hx hb dL_law_39 (by decide +kernel) (by decide +kernel) (show _ = some 448 from by decide +kernel) (by decide) ?_
        exact law_8 hst hL C0 F hR (by omega) hI (by omega) (by omega) hk hl cont
      · refine lv_tableIn (tgt := 512) hx hb dL_law_39 (by decide +kernel) (by decide +kernel) (show _ = some 473 from by decide +kernel) (by decide) ?_
        exact law_9 hst hL C0 F hR (by omega) hI (by omega) (by omega) hk hl cont
      · refine lv_tableIn (tgt := 537) hx hb dL_law_39 (by decide +kernel) (by decide +kernel) (show _ = some 498 from by decide +kernel) (by decide) ?_
        exact law_10 hst hL C0 F hR (by omega) hI (by omega) (by omega) hk hl cont
      · refine lv_tableIn (tgt := 562) hx hb dL_law_39 (by decide +kernel) (by decide +kernel) (show _ = some 523 from by decide +kernel) (by decide) ?_
        exact law_11 hst hL C0 F hR (by omega) hI (by omega) (by omega) hk hl cont
      · refine lv_tableIn (tgt := 599) hx hb dL_law_39 (by decide +kernel) (by decide +kernel) (show _ = some 560 from by decide +kernel) (by decide) ?_
        exact law_12 hst hL C0 F hR (by omega) hI (by omega) (by omega) hk hl cont
      · refine lv_tableIn (tgt := 612) hx hb dL_law_39 (by decide +kernel) (by decide +kernel) (show _ = some 573 from by decide +kernel) (by decide) ?_
        exact law_13 hst hL C0 F hR (by omega) hI (by omega) (by omega) hk hl cont
      · refine lv_tableIn (tgt := 637) hx hb dL_law_39 (by decide +kernel) (by decide +kernel) (show _ = some 598 from by decide +kernel) (by decide) ?_
        exact law_14 hst hL C0 F hR (by omega) hI (by omega) (by omega) hk hl cont
      · refine lv_tableIn (tgt := 674) hx hb dL_law_39 (by decide +kernel) (by decide +kernel) (show _ = some 635 from by decide +kernel) (by decide) ?_
        exact law_15 hst hL C0 F hR (by omega) hI (by omega) (by omega) hk hl cont
      · refine lv_tableIn (tgt := 723) hx hb dL_law_39 (by decide +kernel) (by decide +kernel) (show _ = some 684 from by decide +kernel) (by decide) ?_
        exact law_16 hst hL C0 F hR (by omega) hI (by omega) (by omega) hk hl cont
      · refine lv_tableIn (tgt := 748) hx hb dL_law_39 (by decide +kernel) (by decide +kernel) (show _ = some 709 from by decide +kernel) (by decide) ?_
        exact law_17 hst hL C0 F hR (by omega) hI (by omega) (by omega) hk hl cont

theorem law_loop {p : Program} {l : Launch} {e : Env} {s : State} {m : MethodId} {below : List Frame} {meth : Method} {c : Code} (hst : l.stackTraces = false) {b L : Nat} {xs : Nat → Int32} (hL : L ≤ 2048) (C0 : lw_At p s m meth c b L xs) {D : va_G} {cs : ClassId × ClassId × ClassId} {ad : Nat → Nat} {cm : ClassId × ClassId} {am : Nat → Nat} {o : Nat} {cJ : ClassId} (F : LF s D cs ad cm am o cJ) : ∀ (f k : Nat) (M N : Mem) (n : Nat) (fq : Nat → Int64) (H : Heap) (locs : List Loc) (ls : Array Slot), L ≤ 4 * (k + f) → 4 * k ≤ 2100 → n ≤ k → Rel M N n → LI s D cs ad cm am o cJ M N fq H locs → lv_has ls 7 (LV b ad am o k) → W p l e room_1 s m #[Value.ref b] below meth c H locs (60 + k) (500 + 6 * k) (lw_Z below #[Value.ref b] s) (F0 m 23 ls []) := by
  intro f
  induction f with
  | zero =>
    intro k M N n fq H locs ls h1 h2 h3 h4 h5 h6
    exact law_step hst hL C0 F h3 h4 h5 h6 (fun h => by omega) h2
  | succ f ih =>
    intro k M N n fq H locs ls h1 h2 h3 h4 h5 h6
    exact law_step hst hL C0 F h3 h4 h5 h6 (fun h M' N' n' fo' H' locs' ls' g1 g2 g3 g4 => ih (k + 1) M' N' n' fo' H' locs' ls' (by omega) (by omega) g1 g2 g3 g4) h2
theorem dk_len {G : DG} {M : Mem} : (wd (dkO G) M).length = 25 := by unfold wd; rw [List.length_map, List.length_range]; rfl
theorem md_len {G : MG} {M : Mem} : (wd (mdO G) M).length = 14 := by unfold wd; rw [List.length_map, List.length_range]; rfl
theorem lw_nt {l : Launch} (h : l.flags = flags0) : l.stackTraces = false := by
  unfold Launch.stackTraces
  rw [h]
  decide +kernel
/-- what a throw needs, at the start -/
theorem xE_start {p : Program} {s : State} {m : MethodId} {meth : Method} {c : Code} {b L : Nat} {xs : Nat → Int32} (C0 : lw_At p s m meth c b L xs) {cD : ClassId} (hcur : s.vm.findClass RX3 = some cD) : xE (fun q : Nat => s.heap.size ≤ q) s s.heap := by
  obtain ⟨hx, hb, hr, hml, hown, hts, hX, hbl, hlocks, hgv⟩ := id C0
  have hs := flat_of_before _ hgv
  have hA : ∀ a : Nat, a < s.heap.size → ¬ (fun q : Nat => s.heap.size ≤ q) a := fun a h => Nat.not_le.mpr h
  have str : ∀ (k : Nat) (tx : String), (Cond.stringRef RX3 k tx).before #[Value.ref b] s = true → ∃ a, vk_R RX3 k tx a s := by
    intro k tx h
    obtain ⟨-, -, -, a, -, -, -, -, -, he⟩ := Cond.stringRef_spec (args := #[Value.ref b]) (first := s) (o := none) (s := s) (idx := []) hcur h
    exact ⟨a, vk_R.of h he⟩
  refine ⟨vx_Zqof (args := #[Value.ref b]) (hts (.laysStatic Bundle.tN "UNASSIGNED_STACK" Bundle.steD) (by decide +kernel)) (hts (.initialized Bundle.tN) (by decide +kernel)) (hs (.isRef (.static Bundle.tN "UNASSIGNED_STACK" Bundle.steD)) (by decide +kernel)) hA,
    vx_Zqof (args := #[Value.ref b]) (hts (.laysStatic Bundle.tN "SUPPRESSED_SENTINEL" Bundle.listD) (by decide +kernel)) (hts (.initialized Bundle.tN) (by decide +kernel)) (hs (.isRef (.static Bundle.tN "SUPPRESSED_SENTINEL" Bundle.listD)) (by decide +kernel)) hA,
    str 37 _ (hts (.stringRef RX3 37 "no slot is free") (by decide +kernel)), str 75 _ (hts (.stringRef RX3 75 "the term is not 1 to 100") (by decide +kernel)), str 109 _ (hts (.stringRef RX3 109 "the session does not hold the lock") (by decide +kernel)), str 143 _ (hts (.stringRef RX3 143 "the session is not open") (by decide +kernel)), str 146 _ (hts (.stringRef RX3 146 "there is no such lock") (by decide +kernel)),
    fun w hw => va_Nw.of (xB_face w hw).2 (hts w ((by decide +kernel : ∀ w ∈ xB, w ∈ lw_tbl) w hw)),
    va_Nc.of (args := #[Value.ref b]) (hs (.not (.castable eIAE eNSE)) (by decide +kernel)), va_Nc.of (args := #[Value.ref b]) (hs (.not (.castable eISE eNSE)) (by decide +kernel)), va_Nc.of (args := #[Value.ref b]) (hs (.not (.castable eISE eIAE)) (by decide +kernel))⟩
set_option maxHeartbeats 4000000 in
set_option maxRecDepth 100000 in
/-- THE LAW, from its entry -/
theorem whole_start {p : Program} {e : Env} {s : State} {m : MethodId} {below : List Frame} {meth : Method} {c : Code} (l : Launch) (hst : l.stackTraces = false) {b L : Nat} {xs : Nat → Int32} (hL : L ≤ 2048) (C0 : lw_At p s m meth c b L xs) : W p l e room_1 s m #[Value.ref b] below meth c s.heap [] 0 0 (lw_Z below #[Value.ref b] s) (entryFrame m ([Value.ref b] : List Value).toArray 7) := by
  obtain ⟨hx, hb, hr, hml, hown, hts0, hX, hbl, hlocks, hgv⟩ := id C0
  have hown : s.vm.findClass RL = some m.cls := hown
  have hts : ∀ w ∈ wsL_law, w.before #[Value.ref b] s = true := fun w h => hts0 w (wsL_law_in w h)
  have hA : ∀ q : Nat, s.heap.size ≤ q → (fun q : Nat => s.heap.size ≤ q) q := fun _ h => h
  obtain ⟨c0, iS0, hKn0⟩ := u_known (C := RX0) (T := TX0) (N := 8) (n := 8) hts inlX0 (hts (.instantiable RX0 8) (by decide +kernel))
  obtain ⟨c1, iS1, hKn1⟩ := u_known (C := RX1) (T := TX1) (N := 3) (n := 3) hts inlX1 (hts (.instantiable RX1 3) (by decide +kernel))
  obtain ⟨c2, iS2, hKn2⟩ := u_known (C := RX2) (T := TX2) (N := 4) (n := 4) hts inlX2 (hts (.instantiable RX2 4) (by decide +kernel))
  obtain ⟨c3, iS3, hKn3⟩ := u_known (C := RX3) (T := TX3) (N := 3) (n := 3) hts inlX3 (hts (.instantiable RX3 3) (by decide +kernel))
  obtain ⟨c4, iS4, hKn4⟩ := u_known (C := RX4) (T := TX4) (N := 16) (n := 16) hts inlX4 (hts (.instantiable RX4 16) (by decide +kernel))
  have hE := xE_start C0 hKn3.2.1
  obtain ⟨dC, dI, hKc⟩ : ∃ (dC : Nat → ClassId) (dI : Nat → Nat → Nat), ∀ (k : Nat) (q : vw_C), vwCl[k]? = some q → u_Kn s q.1 q.2.1 q.2.2 (dC k) (dI k) := by
    refine ⟨fun k => if k = 0 then c0 else if k = 1 then c1 else if k = 2 then c2 else if k = 3 then c3 else c4, fun k => if k = 0 then iS0 else if k = 1 then iS1 else if k = 2 then iS2 else if k = 3 then iS3 else iS4, ?_⟩
    intro k q hq
    match k, hq with
    | 0, hq => cases hq; exact hKn0
    | 1, hq => cases hq; exact hKn1
    | 2, hq => cases hq; exact hKn2
    | 3, hq => cases hq; exact hKn3
    | 4, hq => cases hq; exact hKn4
    | k + 5, hq => simp [vwCl] at hq
  have hS : va_S (fun q : Nat => s.heap.size ≤ q) s.heap s.heap [] := va_S.rf
  have hK : va_K (dC, dI) vwCl [] s := ⟨hKc, fun k q h => by simp at h⟩
  have hP : va_P (dC, dI) vwCl [] s.heap := fun k q h => by simp at h
  have hD : va_D (fun q : Nat => s.heap.size ≤ q) [] := ⟨fun i j p q h => by simp at h, fun k q h => by simp at h⟩
  have hNw : nwD s := ⟨va_Nw.of rfl (hts0 (.methodLinkNest RX3 15 yX2_init "LeaseDesk") (by decide +kernel)), va_Nw.of rfl (hts0 (.methodLinkNest RX3 22 yX0_init "LeaseDesk") (by decide +kernel)), va_Nw.of rfl (hts0 (.methodLinkNest RX0 11 yX1_init "LeaseDesk") (by decide +kernel)), va_AO.of (hts0 (.arrayOver (.object RX2)) (by decide +kernel)), va_AO.of (hts0 (.arrayOver (.object RX0)) (by decide +kernel))⟩
  have hl := lv_entry ([.ref b]) (n := 7) (Nat.le_of_ble_eq_true rfl)
  rw [lg_entry_eq]
  generalize (lg_sl ([.ref b]) ++ List.replicate (7 - (lg_sl ([.ref b])).length) Slot.unset).toArray = ls at hl ⊢
  have hl : lv_has ls 7 [(0, .ref b)] := hl
  refine va_new (ci := 3) (fs := [.null, .null, .int 0]) (C := RX3) (T := TX3) (N := 3) hx hb hts inlX3 tyX3 tyX3_ok hown (hts (.classLink RL 8 RX3) (by decide +kernel)) (hts (.instantiable RX3 3) (by decide +kernel)) (hts (.initialized RX3) (by decide +kernel)) hK hP hD hS hA rfl (fun j hj => by rcases (show j = 0 ∨ j = 1 ∨ j = 2 by omega) with rfl | rfl | rfl <;> rfl) (Nat.le_of_ble_eq_true rfl) (Nat.le_of_ble_eq_true rfl) dL_law_0 (fun q0 H hP hD hS => ?_)
  have hP : va_P (dC, dI) vwCl (desk0 q0) H := hP
  have hD : va_D (fun q : Nat => s.heap.size ≤ q) (desk0 q0) := hD
  have hq0 : s.heap.size ≤ q0 := hD.2 0 _ rfl
  refine lv_dup hx hb dL_law_3 rfl ?_
  have hFc := va_free (wc := desk0 q0) hD hS hA [0] rfl
  refine va_callv (va_runI (As := []) (rest := [.ref q0]) ⟨hx, hb, hml, hown, hts⟩ (c_X3_init l dC dI q0 H.size) (cwI 0 hts gL_law_X3_init rfl rfl rfl (hts (.initialized RX3) (by decide +kernel)) (hts (.methodLink RL 35 yX3_init) (by decide +kernel)) (hts (.instanceMethod yX3_init) (by decide +kernel)) rfl (by decide +kernel) ⟨Nat.le_of_ble_eq_true rfl, Nat.le_of_ble_eq_true rfl⟩) ⟨cpre_blind (fun _ _ hv h => nwD_same hv h), fun U hU hW => ⟨rfl, by rw [hU], by rw [hU]; exact hP, va_K.moved hW.alike hK, hD.weaken (fun _ _ _ _ => trivial), nwD_warm hW hNw⟩⟩ rfl rfl hl.1 rfl (lv_room (Nat.le_of_ble_eq_true rfl)) dL_law_4 ⟨Nat.le_of_ble_eq_true rfl, Nat.le_of_ble_eq_true rfl⟩) hS (fun q _ h => hFc q h) hFc (fun u t H1 locs ht hvm hw hB hz1 hk1 hS => ?_)
  obtain ⟨D1, cs, ad⟩ := u
  obtain ⟨e1, e2, hj1, hnew1⟩ := hw
  have e1 : D1 = (dC, dI) := e1
  subst e1
  have e2 : ad 0 = q0 := e2
  obtain ⟨hP, hKd⟩ := hB
  rw [ht] at hP
  have hKd : va_K (dC, dI) vwCl (wt (dkO ((dC, dI), cs, ad))) s := va_K.moved hvm.symm hKd
  have hP : va_P (dC, dI) vwCl (wd (dkO ((dC, dI), cs, ad)) dM0) H1 := hP
  have had : ∀ k, k < 25 → s.heap.size ≤ ad k := by
    intro k hk
    rcases Nat.eq_zero_or_pos k with rfl | h0
    · rw [e2]; exact hq0
    · have := hnew1 k h0 hk
      have hh : s.heap.size ≤ H.size := by have := (hD.2 0 _ rfl); have := vx_lt (k := 0) ‹va_P (dC, dI) vwCl (desk0 q0) H› rfl; omega
      exact Nat.le_trans hh this
  clear hk1 hz1 hD hFc hnew1
  generalize H1 = H at hP hS ⊢
  rw [← e2]
  refine lv_astore_n (lv' := [(1, .ref (ad 0)), (0, .ref b)]) hx hb dL_law_7 rfl hl (by decide) rfl (fun ls hl => ?_)
  have hD : va_D (fun q : Nat => s.heap.size ≤ q) (wd (dkO ((dC, dI), cs, ad)) dM0) := ⟨(wd_D hj1 dM0 0).1, fun k q h => by obtain ⟨k1, rfl⟩ := wd_at' h; exact had k k1⟩
  refine va_new (ci := 4) (fs := [.int 0, .int 0, .int 0, .null, .null, .null, .null, .null, .null, .null, .null, .null, .null, .null, .null, .null]) (C := RX4) (T := TX4) (N := 16) hx hb hts inlX4 tyX4 tyX4_ok hown (hts (.classLink RL 36 RX4) (by decide +kernel)) (hts (.instantiable RX4 16) (by decide +kernel)) (hts (.initialized RX4) (by decide +kernel)) hK hP hD hS hA rfl (fun j hj => by rcases (show j = 0 ∨ j = 1 ∨ j = 2 ∨ j = 3 ∨ j = 4 ∨ j = 5 ∨ j = 6 ∨ j = 7 ∨ j = 8 ∨ j = 9 ∨ j = 10 ∨ j = 11 ∨ j = 12 ∨ j = 13 ∨ j = 14 ∨ j = 15 by omega) with rfl | rfl | rfl | rfl | rfl | rfl | rfl | rfl | rfl | rfl | rfl | rfl | rfl | rfl | rfl | rfl <;> rfl) (Nat.le_of_ble_eq_true rfl) (Nat.le_of_ble_eq_true rfl) dL_law_8 (fun q1 H hPQ hDQ hS => ?_)
  have hP := P_l hPQ
  have hM0 : va_P (dC, dI) vwCl (mod0 q1) H := P_r hPQ
  have hq1 : ∀ i, i < 25 → ad i ≠ q1 := by
    intro i hi e
    have h1 : (wd (dkO ((dC, dI), cs, ad)) dM0 ++ mod0 q1)[i]? = some (ad i, wE (dkO ((dC, dI), cs, ad)) i (dM0 i)) := by
      rw [List.getElem?_append_left (by rw [dk_len]; exact hi)]
      exact wd_at hi
    obtain ⟨e9, h2⟩ : ∃ e9, (wd (dkO ((dC, dI), cs, ad)) dM0 ++ mod0 q1)[25]? = some (q1, e9) := ⟨_, by rw [List.getElem?_append_right (by rw [dk_len]; exact Nat.le_refl _), dk_len]; rfl⟩
    have := hDQ.1 i 25 _ _ h1 h2 e
    omega
  have hq1n : s.heap.size ≤ q1 := by
    obtain ⟨e9, h2⟩ : ∃ e9, (wd (dkO ((dC, dI), cs, ad)) dM0 ++ mod0 q1)[25]? = some (q1, e9) := ⟨_, by rw [List.getElem?_append_right (by rw [dk_len]; exact Nat.le_refl _), dk_len]; rfl⟩
    exact hDQ.2 25 _ h2
  have hadH : ∀ i, i < 25 → ad i < H.size := fun i hi => vx_lt hP (wd_at hi)
  refine lv_dup hx hb dL_law_11 rfl ?_
  have hDm : va_D (fun _ => True) (mod0 q1) := ⟨fun i j p q h1 h2 _ => by have a1 : i < 1 := (List.getElem?_eq_some_iff.mp h1).1; have a2 : j < 1 := (List.getElem?_eq_some_iff.mp h2).1; omega, fun _ _ _ => trivial⟩
  have hFc : ∀ q, va_A (mod0 q1) H.size q → s.heap.size ≤ q := by
    intro q h
    rcases h with ⟨k, e9, h⟩ | h
    · have := List.mem_of_getElem? h
      simp only [mod0, List.mem_singleton, Prod.mk.injEq] at this
      rw [this.1]
      exact hq1n
    · exact Nat.le_trans hS.1 h
  refine va_callv (va_runI (As := []) (rest := [.ref q1]) ⟨hx, hb, hml, hown, hts⟩ (c_X4_init l dC dI q1 H.size) (cwI 0 hts gL_law_X4_init rfl rfl rfl (hts (.initialized RX4) (by decide +kernel)) (hts (.methodLink RL 38 yX4_init) (by decide +kernel)) (hts (.instanceMethod yX4_init) (by decide +kernel)) rfl (by decide +kernel) ⟨Nat.le_of_ble_eq_true rfl, Nat.le_of_ble_eq_true rfl⟩) ⟨cpre_blind (fun _ _ _ _ => trivial), fun U hU hW => ⟨rfl, by rw [hU], by rw [hU]; exact hM0, va_K.moved hW.alike hK, hDm, trivial⟩⟩ rfl rfl hl.1 rfl (lv_room (Nat.le_of_ble_eq_true rfl)) dL_law_12 ⟨Nat.le_of_ble_eq_true rfl, Nat.le_of_ble_eq_true rfl⟩) hS (fun q _ h => hFc q h) hFc (fun u t H1 locs ht hvm hw hB hz1 hk1 hS => ?_)
  obtain ⟨D2, cm, am⟩ := u
  obtain ⟨e3, e4, hj2, hnew2⟩ := hw
  have e3 : D2 = (dC, dI) := e3
  subst e3
  have e4 : am 0 = q1 := e4
  obtain ⟨hQ, hKm⟩ := hB
  rw [ht] at hQ
  have hKm : va_K (dC, dI) vwCl (wt (mdO ((dC, dI), cm, am))) s := va_K.moved hvm.symm hKm
  have hQ : va_P (dC, dI) vwCl (wd (mdO ((dC, dI), cm, am)) mM0) H1 := hQ
  have hP : va_P (dC, dI) vwCl (wd (dkO ((dC, dI), cs, ad)) dM0) H1 := by
    refine hP.kept (fun k q hq => hk1 q.1 ((hP k q hq).lt) (fun h => ?_))
    obtain ⟨k1, rfl⟩ := wd_at' hq
    rcases h with ⟨k, e9, h⟩ | h
    · have := List.mem_of_getElem? h
      simp only [mod0, List.mem_singleton, Prod.mk.injEq] at this
      exact hq1 _ k1 this.1
    · have := hadH _ k1
      have h : H.size ≤ ad _ := h
      omega
  have ham : ∀ k, k < 14 → s.heap.size ≤ am k := by
    intro k hk
    rcases Nat.eq_zero_or_pos k with rfl | h0
    · rw [e4]; exact hq1n
    · exact Nat.le_trans (by have := hadH 0 (by omega); have := had 0 (by omega); omega) (hnew2 k h0 hk)
  have hapart : ∀ i j, i < 25 → j < 14 → ad i ≠ am j := by
    intro i j hi hj e9
    rcases Nat.eq_zero_or_pos j with rfl | h0
    · rw [e4] at e9; exact hq1 i hi e9
    · have a1 : H.size ≤ am j := hnew2 j h0 hj
      have := hadH i hi
      omega
  clear hk1 hz1 hPQ hDQ hM0 hFc hnew2 hq1 hadH
  generalize H1 = H at hP hQ hS ⊢
  rw [← e4]
  refine lv_astore_n (lv' := [(2, .ref (am 0)), (1, .ref (ad 0)), (0, .ref b)]) hx hb dL_law_15 rfl hl (by decide) rfl (fun ls hl => ?_)
  refine lv_iconst (v := 1) hx hb dL_law_16 (by decide) ?_
  have hDm : va_D (fun q : Nat => s.heap.size ≤ q) (wd (mdO ((dC, dI), cm, am)) mM0) := ⟨(wd_D hj2 mM0 0).1, fun k q h => by obtain ⟨k1, rfl⟩ := wd_at' h; exact ham k k1⟩
  have hDD : va_D (fun q : Nat => s.heap.size ≤ q) (wd (dkO ((dC, dI), cs, ad)) dM0 ++ wd (mdO ((dC, dI), cm, am)) mM0) := va_D.app hD hDm (fun i j x y h1 h2 => by obtain ⟨k1, rfl⟩ := wd_at' h1; obtain ⟨k2, rfl⟩ := wd_at' h2; exact hapart i j k1 k2)
  refine va_newa (atype := .long) (a0 := (1, .inr (.inl (fun _ => 0)))) (ty := .long) hx hb (hts (.arrayClass .long) (by decide +kernel)) rfl hK (va_P.app hP hQ) hDD hS hA (N' := 1) (fun _ => rfl) (by decide +kernel) (by decide +kernel) (by decide +kernel) (Nat.le_of_ble_eq_true rfl) (Nat.le_of_ble_eq_true rfl) dL_law_17 (fun o cJ H hKo hPO hDO hS => ?_)
  have hKo : va_K (dC, dI) vwCl [(cJ, .long)] s := hKo
  have hP := P_l (P_l hPO)
  have hQ := P_r (P_l hPO)
  have hO : va_P (dC, dI) vwCl (oW o cJ (fun _ => 0)) H := P_r hPO
  have hlen : (wd (dkO ((dC, dI), cs, ad)) dM0 ++ wd (mdO ((dC, dI), cm, am)) mM0).length = 39 := by rw [List.length_append, dk_len, md_len]
  have hat : ((wd (dkO ((dC, dI), cs, ad)) dM0 ++ wd (mdO ((dC, dI), cm, am)) mM0) ++ oW o cJ (fun _ => 0))[39]? = some (o, .inl (cJ, 1, .inr (.inl (fun _ => 0)))) := by
    rw [List.getElem?_append_right (by omega), hlen]
    rfl
  have ho : s.heap.size ≤ o := hDO.2 39 _ hat
  have ho1 : ∀ i, i < 25 → ad i ≠ o := by
    intro i hi e9
    have h1 : ((wd (dkO ((dC, dI), cs, ad)) dM0 ++ wd (mdO ((dC, dI), cm, am)) mM0) ++ oW o cJ (fun _ => 0))[i]? = some (ad i, wE (dkO ((dC, dI), cs, ad)) i (dM0 i)) := by
      rw [List.getElem?_append_left (by omega), List.getElem?_append_left (by rw [dk_len]; exact hi)]
      exact wd_at hi
    have := hDO.1 i 39 _ _ h1 hat e9
    omega
  have ho2 : ∀ j, j < 14 → am j ≠ o := by
    intro j hj e9
    have h1 : ((wd (dkO ((dC, dI), cs, ad)) dM0 ++ wd (mdO ((dC, dI), cm, am)) mM0) ++ oW o cJ (fun _ => 0))[25 + j]? = some (am j, wE (mdO ((dC, dI), cm, am)) j (mM0 j)) := by
      have hl25 : (wd (dkO ((dC, dI), cs, ad)) dM0).length = 25 := dk_len
      rw [List.getElem?_append_left (by omega), List.getElem?_append_right (by omega), hl25, show 25 + j - 25 = j by omega]
      exact wd_at hj
    have := hDO.1 (25 + j) 39 _ _ h1 hat e9
    omega
  have F : LF s (dC, dI) cs ad cm am o cJ := ⟨hj1, hj2, hKd, hKm, hKo, had, ham, ho, hapart, ho1, ho2, hE⟩
  refine lv_astore_n (lv' := [(3, .ref o), (2, .ref (am 0)), (1, .ref (ad 0)), (0, .ref b)]) hx hb dL_law_19 rfl hl (by decide) rfl (fun ls hl => ?_)
  refine lv_iconst (v := 0) hx hb dL_law_20 (by decide) ?_
  refine lv_istore (lv' := [(4, .int 0), (3, .ref o), (2, .ref (am 0)), (1, .ref (ad 0)), (0, .ref b)]) hx hb dL_law_21 hl (by decide) rfl (fun ls hl => ?_)
  refine W.widen (k := 60 + 0) (n := 500 + 6 * 0) (Nat.le_of_ble_eq_true rfl) (Nat.le_of_ble_eq_true rfl) ?_
  exact law_loop hst hL C0 F L 0 dM0 mM0 0 (fun _ => 0) H _ ls (by omega) (by omega) (Nat.le_refl _) Rel_0 ⟨hP, hQ, hO, hS⟩ (lv_sub hl [4, 3, 2, 1, 0] rfl)
