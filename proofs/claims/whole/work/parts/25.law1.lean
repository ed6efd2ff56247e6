set_option maxRecDepth 100000 in
set_option maxHeartbeats 4000000 in
theorem law_3 {p : Program} {l : Launch} {e : Env} {s : State} {m : MethodId} {below : List Frame} {meth : Method} {c : Code} (hst : l.stackTraces = false) {b L : Nat} {xs : Nat → Int32} (hL : L ≤ 2048) (C0 : lw_At p s m meth c b L xs) {D : va_G} {cs : ClassId × ClassId × ClassId} {ad : Nat → Nat} {cm : ClassId × ClassId} {am : Nat → Nat} {o : Nat} {cJ : ClassId} (F : LF s D cs ad cm am o cJ) {M N : Mem} {n : Nat} {fq : Nat → Int64} {H : Heap} {locs : List Loc} {cells slots : Nat} (hR : Rel M N n) (hn : n + 1 < 2 ^ 31) (hI : LI s D cs ad cm am o cJ M N fq H locs) (hc : cells + 1 ≤ 674246) (hsl : slots + 6 ≤ 7073367) {k : Nat} (hk : 4 * k + 4 ≤ L) {ls : Array Slot} (hl : lv_has ls 7 (LV b ad am o k))
    (kk : ∀ (M' N' : Mem) (n' : Nat) (fo' : Nat → Int64) (H' : Heap) (locs' : List Loc) (ls' : Array Slot), n' ≤ n + 1 → Rel M' N' n' → LI s D cs ad cm am o cJ M' N' fo' H' locs' → lv_has ls' 7 (LV b ad am o k) → W p l e room_1 s m #[Value.ref b] below meth c H' locs' (cells + 1) (slots + 6) (lw_Z below #[Value.ref b] s) (F0 m 773 ls' [])) : W p l e room_1 s m #[Value.ref b] below meth c H locs cells slots (lw_Z below #[Value.ref b] s) (F0 m 260 ls []) := by
  obtain ⟨hx, hb, hr, hml, hown, hts, hX, hbl, hlocks, hgv⟩ := id C0
  have hown : s.vm.findClass RL = some m.cls := hown
  have hts : ∀ w ∈ wsL_law, w.before #[Value.ref b] s = true := fun w h => hts w (wsL_law_in w h)
  have hbA : ¬ (fun q : Nat => s.heap.size ≤ q) b := Nat.not_le.mpr hbl
  obtain ⟨hP, hQ, hO, hS⟩ := hI
  have hj1 := F.1
  have hj2 := F.2.1
  have hok := hR.1
  refine lv_aload_n hx hb dL_law_260 rfl (lv_at hl 1 rfl) ?_
  refine lv_aload_n hx hb dL_law_261 rfl (lv_at hl 0 rfl) ?_
  refine lv_iload hx hb dL_law_262 (lv_at hl 4 rfl) ?_
  refine lv_iconst (v := 1) hx hb dL_law_264 (by decide) ?_
  refine lv_iadd hx hb dL_law_265 ?_
  refine wd_re (y := nI (4 * k + 1)) (show nI (4 * k) + nI 1 = nI (4 * k + 1) from nI_add _ _) ?_
  refine ll_sld hx hb hX hbl hbA hS (i := 4 * k + 1) (by omega) (by omega) dL_law_266 ?_
  refine lv_aload_n hx hb dL_law_267 rfl (lv_at hl 0 rfl) ?_
  refine lv_iload hx hb dL_law_268 (lv_at hl 4 rfl) ?_
  refine lv_iconst (v := 2) hx hb dL_law_270 (by decide) ?_
  refine lv_iadd hx hb dL_law_271 ?_
  refine wd_re (y := nI (4 * k + 2)) (show nI (4 * k) + nI 2 = nI (4 * k + 2) from nI_add _ _) ?_
  refine ll_sld hx hb hX hbl hbA hS (i := 4 * k + 2) (by omega) (by omega) dL_law_272 ?_
  refine xl_i (O := (dkO (D, cs, ad))) (W2 := wd (mdO (D, cm, am)) N ++ oW o cJ fq) hS (new_A F.2.2.2.2.2.1 hS) (va_P.app hQ hO) (ap_m F.2.2.2.2.2.2.2.2.1 F.2.2.2.2.2.2.2.2.2.1) (va_runV (As := [.int (xs (4 * k + 1)), .int (xs (4 * k + 2))]) (rest := []) ⟨hx, hb, hml, hown, hts⟩ (c_X3_rate (G := (D, cs, ad)) hj1 hok H.size (xs (4 * k + 1)) (xs (4 * k + 2))) (cwV 2 hts gL_law_X3_rate rfl rfl rfl (by decide +kernel) ⟨Nat.le_of_ble_eq_true rfl, Nat.le_of_ble_eq_true rfl⟩) (wd_pre F.2.2.1 hP (dk_lt (by omega)) dE_0 rfl) rfl rfl hl.1 rfl (lv_room (Nat.le_of_ble_eq_true rfl)) dL_law_273 ⟨by show cells + 0 ≤ 674246; omega, by show slots + 0 ≤ 7073367; omega⟩) (fun H locs hP hQO hS => ?_)
  have hQ := P_l hQO
  have hO := P_r hQO
  refine lv_aload_n hx hb dL_law_276 rfl (lv_at hl 2 rfl) ?_
  refine lv_aload_n hx hb dL_law_277 rfl (lv_at hl 0 rfl) ?_
  refine lv_iload hx hb dL_law_278 (lv_at hl 4 rfl) ?_
  refine lv_iconst (v := 1) hx hb dL_law_280 (by decide) ?_
  refine lv_iadd hx hb dL_law_281 ?_
  refine wd_re (y := nI (4 * k + 1)) (show nI (4 * k) + nI 1 = nI (4 * k + 1) from nI_add _ _) ?_
  refine ll_sld hx hb hX hbl hbA hS (i := 4 * k + 1) (by omega) (by omega) dL_law_282 ?_
  refine lv_aload_n hx hb dL_law_283 rfl (lv_at hl 0 rfl) ?_
  refine lv_iload hx hb dL_law_284 (lv_at hl 4 rfl) ?_
  refine lv_iconst (v := 2) hx hb dL_law_286 (by decide) ?_
  refine lv_iadd hx hb dL_law_287 ?_
  refine wd_re (y := nI (4 * k + 2)) (show nI (4 * k) + nI 2 = nI (4 * k + 2) from nI_add _ _) ?_
  refine ll_sld hx hb hX hbl hbA hS (i := 4 * k + 2) (by omega) (by omega) dL_law_288 ?_
  refine xl_i (O := (mdO (D, cm, am))) (W2 := wd (dkO (D, cs, ad)) (rtM M (xs (4 * k + 1)) (xs (4 * k + 2))) ++ oW o cJ fq) hS (new_A F.2.2.2.2.2.2.1 hS) (va_P.app hP hO) (ap_d F.2.2.2.2.2.2.2.2.1 F.2.2.2.2.2.2.2.2.2.2.1) (va_runV (As := [.int (xs (4 * k + 1)), .int (xs (4 * k + 2))]) (rest := [.int (rtV M (xs (4 * k + 1)) (xs (4 * k + 2)))]) ⟨hx, hb, hml, hown, hts⟩ (c_X4_rate (G := (D, cm, am)) hj2 H.size (xs (4 * k + 1)) (xs (4 * k + 2))) (cwV 2 hts gL_law_X4_rate rfl rfl rfl (by decide +kernel) ⟨Nat.le_of_ble_eq_true rfl, Nat.le_of_ble_eq_true rfl⟩) (wd_pre F.2.2.2.1 hQ (md_lt (by omega)) mE_0 rfl) rfl rfl hl.1 rfl (lv_room (Nat.le_of_ble_eq_true rfl)) dL_law_289 ⟨by show cells + 0 + 0 ≤ 674246; omega, by show slots + 0 + 0 ≤ 7073367; omega⟩) (fun H locs hQ hPO hS => ?_)
  have hP := P_l hPO
  have hO := P_r hPO
  refine lv_icmp_eq (tgt := 773) hx hb dL_law_292 (by decide) (fun _ => ?_) (fun c9 => absurd (A_rt hR (xs (4 * k + 1)) (xs (4 * k + 2))).1 c9)
  refine W.widen (k := cells + 1) (n := slots + 6) (by omega) (by omega) ?_
  exact kk _ _ n _ _ _ _ (by omega) ((A_rt hR (xs (4 * k + 1)) (xs (4 * k + 2))).2) ⟨hP, hQ, hO, hS⟩ (lv_sub hl [0, 1, 2, 3, 4] rfl)
set_option maxRecDepth 100000 in
set_option maxHeartbeats 4000000 in
theorem law_4 {p : Program} {l : Launch} {e : Env} {s : State} {m : MethodId} {below : List Frame} {meth : Method} {c : Code} (hst : l.stackTraces = false) {b L : Nat} {xs : Nat → Int32} (hL : L ≤ 2048) (C0 : lw_At p s m meth c b L xs) {D : va_G} {cs : ClassId × ClassId × ClassId} {ad : Nat → Nat} {cm : ClassId × ClassId} {am : Nat → Nat} {o : Nat} {cJ : ClassId} (F : LF s D cs ad cm am o cJ) {M N : Mem} {n : Nat} {fq : Nat → Int64} {H : Heap} {locs : List Loc} {cells slots : Nat} (hR : Rel M N n) (hn : n + 1 < 2 ^ 31) (hI : LI s D cs ad cm am o cJ M N fq H locs) (hc : cells + 1 ≤ 674246) (hsl : slots + 6 ≤ 7073367) {k : Nat} (hk : 4 * k + 4 ≤ L) {ls : Array Slot} (hl : lv_has ls 7 (LV b ad am o k))
    (kk : ∀ (M' N' : Mem) (n' : Nat) (fo' : Nat → Int64) (H' : Heap) (locs' : List Loc) (ls' : Array Slot), n' ≤ n + 1 → Rel M' N' n' → LI s D cs ad cm am o cJ M' N' fo' H' locs' → lv_has ls' 7 (LV b ad am o k) → W p l e room_1 s m #[Value.ref b] below meth c H' locs' (cells + 1) (slots + 6) (lw_Z below #[Value.ref b] s) (F0 m 773 ls' [])) : W p l e room_1 s m #[Value.ref b] below meth c H locs cells slots (lw_Z below #[Value.ref b] s) (F0 m 297 ls []) := by
  obtain ⟨hx, hb, hr, hml, hown, hts, hX, hbl, hlocks, hgv⟩ := id C0
  have hown : s.vm.findClass RL = some m.cls := hown
  have hts : ∀ w ∈ wsL_law, w.before #[Value.ref b] s = true := fun w h => hts w (wsL_law_in w h)
  have hbA : ¬ (fun q : Nat => s.heap.size ≤ q) b := Nat.not_le.mpr hbl
  obtain ⟨hP, hQ, hO, hS⟩ := hI
  have hj1 := F.1
  have hj2 := F.2.1
  have hok := hR.1
  refine lv_aload_n hx hb dL_law_297 rfl (lv_at hl 1 rfl) ?_
  refine lv_aload_n hx hb dL_law_298 rfl (lv_at hl 0 rfl) ?_
  refine lv_iload hx hb dL_law_299 (lv_at hl 4 rfl) ?_
  refine lv_iconst (v := 1) hx hb dL_law_301 (by decide) ?_
  refine lv_iadd hx hb dL_law_302 ?_
  refine wd_re (y := nI (4 * k + 1)) (show nI (4 * k) + nI 1 = nI (4 * k + 1) from nI_add _ _) ?_
  refine ll_sld hx hb hX hbl hbA hS (i := 4 * k + 1) (by omega) (by omega) dL_law_303 ?_
  refine xl_i (O := (dkO (D, cs, ad))) (W2 := wd (mdO (D, cm, am)) N ++ oW o cJ fq) hS (new_A F.2.2.2.2.2.1 hS) (va_P.app hQ hO) (ap_m F.2.2.2.2.2.2.2.2.1 F.2.2.2.2.2.2.2.2.2.1) (va_runV (As := [.int (xs (4 * k + 1))]) (rest := []) ⟨hx, hb, hml, hown, hts⟩ (c_X3_tick (G := (D, cs, ad)) hj1 hok H.size (xs (4 * k + 1))) (cwV 1 hts gL_law_X3_tick rfl rfl rfl (by decide +kernel) ⟨Nat.le_of_ble_eq_true rfl, Nat.le_of_ble_eq_true rfl⟩) (wd_pre F.2.2.1 hP (dk_lt (by omega)) dE_0 rfl) rfl rfl hl.1 rfl (lv_room (Nat.le_of_ble_eq_true rfl)) dL_law_304 ⟨by show cells + 0 ≤ 674246; omega, by show slots + 0 ≤ 7073367; omega⟩) (fun H locs hP hQO hS => ?_)
  have hQ := P_l hQO
  have hO := P_r hQO
  refine lv_aload_n hx hb dL_law_307 rfl (lv_at hl 2 rfl) ?_
  refine lv_aload_n hx hb dL_law_308 rfl (lv_at hl 0 rfl) ?_
  refine lv_iload hx hb dL_law_309 (lv_at hl 4 rfl) ?_
  refine lv_iconst (v := 1) hx hb dL_law_311 (by decide) ?_
  refine lv_iadd hx hb dL_law_312 ?_
  refine wd_re (y := nI (4 * k + 1)) (show nI (4 * k) + nI 1 = nI (4 * k + 1) from nI_add _ _) ?_
  refine ll_sld hx hb hX hbl hbA hS (i := 4 * k + 1) (by omega) (by omega) dL_law_313 ?_
  refine xl_i (O := (mdO (D, cm, am))) (W2 := wd (dkO (D, cs, ad)) (tcM M (xs (4 * k + 1))) ++ oW o cJ fq) hS (new_A F.2.2.2.2.2.2.1 hS) (va_P.app hP hO) (ap_d F.2.2.2.2.2.2.2.2.1 F.2.2.2.2.2.2.2.2.2.2.1) (va_runV (As := [.int (xs (4 * k + 1))]) (rest := [.int (tcV M (xs (4 * k + 1)))]) ⟨hx, hb, hml, hown, hts⟩ (c_X4_tick (G := (D, cm, am)) hj2 H.size (xs (4 * k + 1))) (cwV 1 hts gL_law_X4_tick rfl rfl rfl (by decide +kernel) ⟨Nat.le_of_ble_eq_true rfl, Nat.le_of_ble_eq_true rfl⟩) (wd_pre F.2.2.2.1 hQ (md_lt (by omega)) mE_0 rfl) rfl rfl hl.1 rfl (lv_room (Nat.le_of_ble_eq_true rfl)) dL_law_314 ⟨by show cells + 0 + 0 ≤ 674246; omega, by show slots + 0 + 0 ≤ 7073367; omega⟩) (fun H locs hQ hPO hS => ?_)
  have hP := P_l hPO
  have hO := P_r hPO
  refine lv_icmp_eq (tgt := 773) hx hb dL_law_317 (by decide) (fun _ => ?_) (fun c9 => absurd (Rel_tick (by omega) hR).2 c9)
  refine W.widen (k := cells + 1) (n := slots + 6) (by omega) (by omega) ?_
  exact kk _ _ n _ _ _ _ (by omega) ((Rel_tick (by omega) hR).1) ⟨hP, hQ, hO, hS⟩ (lv_sub hl [0, 1, 2, 3, 4] rfl)
set_option maxRecDepth 100000 in
set_option maxHeartbeats 4000000 in
theorem law_7 {p : Program} {l : Launch} {e : Env} {s : State} {m : MethodId} {below : List Frame} {meth : Method} {c : Code} (hst : l.stackTraces = false) {b L : Nat} {xs : Nat → Int32} (hL : L ≤ 2048) (C0 : lw_At p s m meth c b L xs) {D : va_G} {cs : ClassId × ClassId × ClassId} {ad : Nat → Nat} {cm : ClassId × ClassId} {am : Nat → Nat} {o : Nat} {cJ : ClassId} (F : LF s D cs ad cm am o cJ) {M N : Mem} {n : Nat} {fq : Nat → Int64} {H : Heap} {locs : List Loc} {cells slots : Nat} (hR : Rel M N n) (hn : n + 1 < 2 ^ 31) (hI : LI s D cs ad cm am o cJ M N fq H locs) (hc : cells + 1 ≤ 674246) (hsl : slots + 6 ≤ 7073367) {k : Nat} (hk : 4 * k + 4 ≤ L) {ls : Array Slot} (hl : lv_has ls 7 (LV b ad am o k))
    (kk : ∀ (M' N' : Mem) (n' : Nat) (fo' : Nat → Int64) (H' : Heap) (locs' : List Loc) (ls' : Array Slot), n' ≤ n + 1 → Rel M' N' n' → LI s D cs ad cm am o cJ M' N' fo' H' locs' → lv_has ls' 7 (LV b ad am o k) → W p l e room_1 s m #[Value.ref b] below meth c H' locs' (cells + 1) (slots + 6) (lw_Z below #[Value.ref b] s) (F0 m 773 ls' [])) : W p l e room_1 s m #[Value.ref b] below meth c H locs cells slots (lw_Z below #[Value.ref b] s) (F0 m 450 ls []) := by
  obtain ⟨hx, hb, hr, hml, hown, hts, hX, hbl, hlocks, hgv⟩ := id C0
  have hown : s.vm.findClass RL = some m.cls := hown
  have hts : ∀ w ∈ wsL_law, w.before #[Value.ref b] s = true := fun w h => hts w (wsL_law_in w h)
  have hbA : ¬ (fun q : Nat => s.heap.size ≤ q) b := Nat.not_le.mpr hbl
  obtain ⟨hP, hQ, hO, hS⟩ := hI
  have hj1 := F.1
  have hj2 := F.2.1
  have hok := hR.1
  refine lv_aload_n hx hb dL_law_450 rfl (lv_at hl 1 rfl) ?_
  refine lv_aload_n hx hb dL_law_451 rfl (lv_at hl 0 rfl) ?_
  refine lv_iload hx hb dL_law_452 (lv_at hl 4 rfl) ?_
  refine lv_iconst (v := 1) hx hb dL_law_454 (by decide) ?_
  refine lv_iadd hx hb dL_law_455 ?_
  refine wd_re (y := nI (4 * k + 1)) (show nI (4 * k) + nI 1 = nI (4 * k + 1) from nI_add _ _) ?_
  refine ll_sld hx hb hX hbl hbA hS (i := 4 * k + 1) (by omega) (by omega) dL_law_456 ?_
  refine lv_aload_n hx hb dL_law_457 rfl (lv_at hl 0 rfl) ?_
  refine lv_iload hx hb dL_law_458 (lv_at hl 4 rfl) ?_
  refine lv_iconst (v := 2) hx hb dL_law_460 (by decide) ?_
  refine lv_iadd hx hb dL_law_461 ?_
  refine wd_re (y := nI (4 * k + 2)) (show nI (4 * k) + nI 2 = nI (4 * k + 2) from nI_add _ _) ?_
  refine ll_sld hx hb hX hbl hbA hS (i := 4 * k + 2) (by omega) (by omega) dL_law_462 ?_
  refine xl_i (O := (dkO (D, cs, ad))) (W2 := wd (mdO (D, cm, am)) N ++ oW o cJ fq) hS (new_A F.2.2.2.2.2.1 hS) (va_P.app hQ hO) (ap_m F.2.2.2.2.2.2.2.2.1 F.2.2.2.2.2.2.2.2.2.1) (va_runV (As := [.int (xs (4 * k + 1)), .int (xs (4 * k + 2))]) (rest := []) ⟨hx, hb, hml, hown, hts⟩ (c_X3_cancel (G := (D, cs, ad)) hj1 hok H.size (xs (4 * k + 1)) (xs (4 * k + 2))) (cwV 2 hts gL_law_X3_cancel rfl rfl rfl (by decide +kernel) ⟨Nat.le_of_ble_eq_true rfl, Nat.le_of_ble_eq_true rfl⟩) (wd_pre F.2.2.1 hP (dk_lt (by omega)) dE_0 rfl) rfl rfl hl.1 rfl (lv_room (Nat.le_of_ble_eq_true rfl)) dL_law_463 ⟨by show cells + 0 ≤ 674246; omega, by show slots + 0 ≤ 7073367; omega⟩) (fun H locs hP hQO hS => ?_)
  have hQ := P_l hQO
  have hO := P_r hQO
  refine lv_aload_n hx hb dL_law_466 rfl (lv_at hl 2 rfl) ?_
  refine lv_aload_n hx hb dL_law_467 rfl (lv_at hl 0 rfl) ?_
  refine lv_iload hx hb dL_law_468 (lv_at hl 4 rfl) ?_
  refine lv_iconst (v := 1) hx hb dL_law_470 (by decide) ?_
  refine lv_iadd hx hb dL_law_471 ?_
  refine wd_re (y := nI (4 * k + 1)) (show nI (4 * k) + nI 1 = nI (4 * k + 1) from nI_add _ _) ?_
  refine ll_sld hx hb hX hbl hbA hS (i := 4 * k + 1) (by omega) (by omega) dL_law_472 ?_
  refine lv_aload_n hx hb dL_law_473 rfl (lv_at hl 0 rfl) ?_
  refine lv_iload hx hb dL_law_474 (lv_at hl 4 rfl) ?_
  refine lv_iconst (v := 2) hx hb dL_law_476 (by decide) ?_
  refine lv_iadd hx hb dL_law_477 ?_
  refine wd_re (y := nI (4 * k + 2)) (show nI (4 * k) + nI 2 = nI (4 * k + 2) from nI_add _ _) ?_
  refine ll_sld hx hb hX hbl hbA hS (i := 4 * k + 2) (by omega) (by omega) dL_law_478 ?_
  refine xl_i (O := (mdO (D, cm, am))) (W2 := wd (dkO (D, cs, ad)) (cnM M (xs (4 * k + 1)) (xs (4 * k + 2))) ++ oW o cJ fq) hS (new_A F.2.2.2.2.2.2.1 hS) (va_P.app hP hO) (ap_d F.2.2.2.2.2.2.2.2.1 F.2.2.2.2.2.2.2.2.2.2.1) (va_runV (As := [.int (xs (4 * k + 1)), .int (xs (4 * k + 2))]) (rest := [.int (cnV M (xs (4 * k + 1)) (xs (4 * k + 2)))]) ⟨hx, hb, hml, hown, hts⟩ (c_X4_cancel (G := (D, cm, am)) hj2 H.size (xs (4 * k + 1)) (xs (4 * k + 2))) (cwV 2 hts gL_law_X4_cancel rfl rfl rfl (by decide +kernel) ⟨Nat.le_of_ble_eq_true rfl, Nat.le_of_ble_eq_true rfl⟩) (wd_pre F.2.2.2.1 hQ (md_lt (by omega)) mE_0 rfl) rfl rfl hl.1 rfl (lv_room (Nat.le_of_ble_eq_true rfl)) dL_law_479 ⟨by show cells + 0 + 0 ≤ 674246; omega, by show slots + 0 + 0 ≤ 7073367; omega⟩) (fun H locs hQ hPO hS => ?_)
  have hP := P_l hPO
  have hO := P_r hPO
  refine lv_icmp_eq (tgt := 773) hx hb dL_law_482 (by decide) (fun _ => ?_) (fun c9 => absurd (A_cn (by omega) hR (xs (4 * k + 1)) (xs (4 * k + 2))).1 c9)
  refine W.widen (k := cells + 1) (n := slots + 6) (by omega) (by omega) ?_
  exact kk _ _ n _ _ _ _ (by omega) ((A_cn (by omega) hR (xs (4 * k + 1)) (xs (4 * k + 2))).2) ⟨hP, hQ, hO, hS⟩ (lv_sub hl [0, 1, 2, 3, 4] rfl)
set_option maxRecDepth 100000 in
set_option maxHeartbeats 4000000 in
theorem law_8 {p : Program} {l : Launch} {e : Env} {s : State} {m : MethodId} {below : List Frame} {meth : Method} {c : Code} (hst : l.stackTraces = false) {b L : Nat} {xs : Nat → Int32} (hL : L ≤ 2048) (C0 : lw_At p s m meth c b L xs) {D : va_G} {cs : ClassId × ClassId × ClassId} {ad : Nat → Nat} {cm : ClassId × ClassId} {am : Nat → Nat} {o : Nat} {cJ : ClassId} (F : LF s D cs ad cm am o cJ) {M N : Mem} {n : Nat} {fq : Nat → Int64} {H : Heap} {locs : List Loc} {cells slots : Nat} (hR : Rel M N n) (hn : n + 1 < 2 ^ 31) (hI : LI s D cs ad cm am o cJ M N fq H locs) (hc : cells + 1 ≤ 674246) (hsl : slots + 6 ≤ 7073367) {k : Nat} (hk : 4 * k + 4 ≤ L) {ls : Array Slot} (hl : lv_has ls 7 (LV b ad am o k))
    (kk : ∀ (M' N' : Mem) (n' : Nat) (fo' : Nat → Int64) (H' : Heap) (locs' : List Loc) (ls' : Array Slot), n' ≤ n + 1 → Rel M' N' n' → LI s D cs ad cm am o cJ M' N' fo' H' locs' → lv_has ls' 7 (LV b ad am o k) → W p l e room_1 s m #[Value.ref b] below meth c H' locs' (cells + 1) (slots + 6) (lw_Z below #[Value.ref b] s) (F0 m 773 ls' [])) : W p l e room_1 s m #[Value.ref b] below meth c H locs cells slots (lw_Z below #[Value.ref b] s) (F0 m 487 ls []) := by
  obtain ⟨hx, hb, hr, hml, hown, hts, hX, hbl, hlocks, hgv⟩ := id C0
  have hown : s.vm.findClass RL = some m.cls := hown
  have hts : ∀ w ∈ wsL_law, w.before #[Value.ref b] s = true := fun w h => hts w (wsL_law_in w h)
  have hbA : ¬ (fun q : Nat => s.heap.size ≤ q) b := Nat.not_le.mpr hbl
  obtain ⟨hP, hQ, hO, hS⟩ := hI
  have hj1 := F.1
  have hj2 := F.2.1
  have hok := hR.1
  refine lv_aload_n hx hb dL_law_487 rfl (lv_at hl 1 rfl) ?_
  refine lv_aload_n hx hb dL_law_488 rfl (lv_at hl 0 rfl) ?_
  refine lv_iload hx hb dL_law_489 (lv_at hl 4 rfl) ?_
  refine lv_iconst (v := 1) hx hb dL_law_491 (by decide) ?_
  refine lv_iadd hx hb dL_law_492 ?_
  refine wd_re (y := nI (4 * k + 1)) (show nI (4 * k) + nI 1 = nI (4 * k + 1) from nI_add _ _) ?_
  refine ll_sld hx hb hX hbl hbA hS (i := 4 * k + 1) (by omega) (by omega) dL_law_493 ?_
  refine xl_i (O := (dkO (D, cs, ad))) (W2 := wd (mdO (D, cm, am)) N ++ oW o cJ fq) hS (new_A F.2.2.2.2.2.1 hS) (va_P.app hQ hO) (ap_m F.2.2.2.2.2.2.2.2.1 F.2.2.2.2.2.2.2.2.2.1) (va_runV (As := [.int (xs (4 * k + 1))]) (rest := []) ⟨hx, hb, hml, hown, hts⟩ (c_X3_holder (G := (D, cs, ad)) hj1 hok H.size (xs (4 * k + 1))) (cwV 1 hts gL_law_X3_holder rfl rfl rfl (by decide +kernel) ⟨Nat.le_of_ble_eq_true rfl, Nat.le_of_ble_eq_true rfl⟩) (wd_pre F.2.2.1 hP (dk_lt (by omega)) dE_0 rfl) rfl rfl hl.1 rfl (lv_room (Nat.le_of_ble_eq_true rfl)) dL_law_494 ⟨by show cells + 0 ≤ 674246; omega, by show slots + 0 ≤ 7073367; omega⟩) (fun H locs hP hQO hS => ?_)
  have hQ := P_l hQO
  have hO := P_r hQO
  refine lv_aload_n hx hb dL_law_497 rfl (lv_at hl 2 rfl) ?_
  refine lv_aload_n hx hb dL_law_498 rfl (lv_at hl 0 rfl) ?_
  refine lv_iload hx hb dL_law_499 (lv_at hl 4 rfl) ?_
  refine lv_iconst (v := 1) hx hb dL_law_501 (by decide) ?_
  refine lv_iadd hx hb dL_law_502 ?_
  refine wd_re (y := nI (4 * k + 1)) (show nI (4 * k) + nI 1 = nI (4 * k + 1) from nI_add _ _) ?_
  refine ll_sld hx hb hX hbl hbA hS (i := 4 * k + 1) (by omega) (by omega) dL_law_503 ?_
  refine xl_i (O := (mdO (D, cm, am))) (W2 := wd (dkO (D, cs, ad)) M ++ oW o cJ fq) hS (new_A F.2.2.2.2.2.2.1 hS) (va_P.app hP hO) (ap_d F.2.2.2.2.2.2.2.2.1 F.2.2.2.2.2.2.2.2.2.2.1) (va_runV (As := [.int (xs (4 * k + 1))]) (rest := [.int (kcV M (xs (4 * k + 1)) (-1) 1)]) ⟨hx, hb, hml, hown, hts⟩ (c_X4_holder (G := (D, cm, am)) hj2 H.size (xs (4 * k + 1))) (cwV 1 hts gL_law_X4_holder rfl rfl rfl (by decide +kernel) ⟨Nat.le_of_ble_eq_true rfl, Nat.le_of_ble_eq_true rfl⟩) (wd_pre F.2.2.2.1 hQ (md_lt (by omega)) mE_0 rfl) rfl rfl hl.1 rfl (lv_room (Nat.le_of_ble_eq_true rfl)) dL_law_504 ⟨by show cells + 0 + 0 ≤ 674246; omega, by show slots + 0 + 0 ≤ 7073367; omega⟩) (fun H locs hQ hPO hS => ?_)
  have hP := P_l hPO
  have hO := P_r hPO
  refine lv_icmp_eq (tgt := 773) hx hb dL_law_507 (by decide) (fun _ => ?_) (fun c9 => absurd (A_hold hR (xs (4 * k + 1))) c9)
  refine W.widen (k := cells + 1) (n := slots + 6) (by omega) (by omega) ?_
  exact kk _ _ n _ _ _ _ (by omega) (hR) ⟨hP, hQ, hO, hS⟩ (lv_sub hl [0, 1, 2, 3, 4] rfl)
set_option maxRecDepth 100000 in
set_option maxHeartbeats 4000000 in
theorem law_9 {p : Program} {l : Launch} {e : Env} {s : State} {m : MethodId} {below : List Frame} {meth : Method} {c : Code} (hst : l.stackTraces = false) {b L : Nat} {xs : Nat → Int32} (hL : L ≤ 2048) (C0 : lw_At p s m meth c b L xs) {D : va_G} {cs : ClassId × ClassId × ClassId} {ad : Nat → Nat} {cm : ClassId × ClassId} {am : Nat → Nat} {o : Nat} {cJ : ClassId} (F : LF s D cs ad cm am o cJ) {M N : Mem} {n : Nat} {fq : Nat → Int64} {H : Heap} {locs : List Loc} {cells slots : Nat} (hR : Rel M N n) (hn : n + 1 < 2 ^ 31) (hI : LI s D cs ad cm am o cJ M N fq H locs) (hc : cells + 1 ≤ 674246) (hsl : slots + 6 ≤ 7073367) {k : Nat} (hk : 4 * k + 4 ≤ L) {ls : Array Slot} (hl : lv_has ls 7 (LV b ad am o k))
    (kk : ∀ (M' N' : Mem) (n' : Nat) (fo' : Nat → Int64) (H' : Heap) (locs' : List Loc) (ls' : Array Slot), n' ≤ n + 1 → Rel M' N' n' → LI s D cs ad cm am o cJ M' N' fo' H' locs' → lv_has ls' 7 (LV b ad am o k) → W p l e room_1 s m #[Value.ref b] below meth c H' locs' (cells + 1) (slots + 6) (lw_Z below #[Value.ref b] s) (F0 m 773 ls' [])) : W p l e room_1 s m #[Value.ref b] below meth c H locs cells slots (lw_Z below #[Value.ref b] s) (F0 m 512 ls []) := by
  obtain ⟨hx, hb, hr, hml, hown, hts, hX, hbl, hlocks, hgv⟩ := id C0
  have hown : s.vm.findClass RL = some m.cls := hown
  have hts : ∀ w ∈ wsL_law, w.before #[Value.ref b] s = true := fun w h => hts w (wsL_law_in w h)
  have hbA : ¬ (fun q : Nat => s.heap.size ≤ q) b := Nat.not_le.mpr hbl
  obtain ⟨hP, hQ, hO, hS⟩ := hI
  have hj1 := F.1
  have hj2 := F.2.1
  have hok := hR.1
  refine lv_aload_n hx hb dL_law_512 rfl (lv_at hl 1 rfl) ?_
  refine lv_aload_n hx hb dL_law_513 rfl (lv_at hl 0 rfl) ?_
  refine lv_iload hx hb dL_law_514 (lv_at hl 4 rfl) ?_
  refine lv_iconst (v := 1) hx hb dL_law_516 (by decide) ?_
  refine lv_iadd hx hb dL_law_517 ?_
  refine wd_re (y := nI (4 * k + 1)) (show nI (4 * k) + nI 1 = nI (4 * k + 1) from nI_add _ _) ?_
  refine ll_sld hx hb hX hbl hbA hS (i := 4 * k + 1) (by omega) (by omega) dL_law_518 ?_
  refine xl_i (O := (dkO (D, cs, ad))) (W2 := wd (mdO (D, cm, am)) N ++ oW o cJ fq) hS (new_A F.2.2.2.2.2.1 hS) (va_P.app hQ hO) (ap_m F.2.2.2.2.2.2.2.2.1 F.2.2.2.2.2.2.2.2.2.1) (va_runV (As := [.int (xs (4 * k + 1))]) (rest := []) ⟨hx, hb, hml, hown, hts⟩ (c_X3_token (G := (D, cs, ad)) hj1 hok H.size (xs (4 * k + 1))) (cwV 1 hts gL_law_X3_token rfl rfl rfl (by decide +kernel) ⟨Nat.le_of_ble_eq_true rfl, Nat.le_of_ble_eq_true rfl⟩) (wd_pre F.2.2.1 hP (dk_lt (by omega)) dE_0 rfl) rfl rfl hl.1 rfl (lv_room (Nat.le_of_ble_eq_true rfl)) dL_law_519 ⟨by show cells + 0 ≤ 674246; omega, by show slots + 0 ≤ 7073367; omega⟩) (fun H locs hP hQO hS => ?_)
  have hQ := P_l hQO
  have hO := P_r hQO
  refine lv_aload_n hx hb dL_law_522 rfl (lv_at hl 2 rfl) ?_
  refine lv_aload_n hx hb dL_law_523 rfl (lv_at hl 0 rfl) ?_
  refine lv_iload hx hb dL_law_524 (lv_at hl 4 rfl) ?_
  refine lv_iconst (v := 1) hx hb dL_law_526 (by decide) ?_
  refine lv_iadd hx hb dL_law_527 ?_
  refine wd_re (y := nI (4 * k + 1)) (show nI (4 * k) + nI 1 = nI (4 * k + 1) from nI_add _ _) ?_
  refine ll_sld hx hb hX hbl hbA hS (i := 4 * k + 1) (by omega) (by omega) dL_law_528 ?_
  refine xl_i (O := (mdO (D, cm, am))) (W2 := wd (dkO (D, cs, ad)) M ++ oW o cJ fq) hS (new_A F.2.2.2.2.2.2.1 hS) (va_P.app hP hO) (ap_d F.2.2.2.2.2.2.2.2.1 F.2.2.2.2.2.2.2.2.2.2.1) (va_runV (As := [.int (xs (4 * k + 1))]) (rest := [.int (kcV M (xs (4 * k + 1)) (-1) 2)]) ⟨hx, hb, hml, hown, hts⟩ (c_X4_token (G := (D, cm, am)) hj2 H.size (xs (4 * k + 1))) (cwV 1 hts gL_law_X4_token rfl rfl rfl (by decide +kernel) ⟨Nat.le_of_ble_eq_true rfl, Nat.le_of_ble_eq_true rfl⟩) (wd_pre F.2.2.2.1 hQ (md_lt (by omega)) mE_0 rfl) rfl rfl hl.1 rfl (lv_room (Nat.le_of_ble_eq_true rfl)) dL_law_529 ⟨by show cells + 0 + 0 ≤ 674246; omega, by show slots + 0 + 0 ≤ 7073367; omega⟩) (fun H locs hQ hPO hS => ?_)
  have hP := P_l hPO
  have hO := P_r hPO
  refine lv_icmp_eq (tgt := 773) hx hb dL_law_532 (by decide) (fun _ => ?_) (fun c9 => absurd (A_kc hR (xs (4 * k + 1)) (-1) (by omega)) c9)
  refine W.widen (k := cells + 1) (n := slots + 6) (by omega) (by omega) ?_
  exact kk _ _ n _ _ _ _ (by omega) (hR) ⟨hP, hQ, hO, hS⟩ (lv_sub hl [0, 1, 2, 3, 4] rfl)
set_option maxRecDepth 100000 in
set_option maxHeartbeats 4000000 in
theorem law_10 {p : Program} {l : Launch} {e : Env} {s : State} {m : MethodId} {below : List Frame} {meth : Method} {c : Code} (hst : l.stackTraces = false) {b L : Nat} {xs : Nat → Int32} (hL : L ≤ 2048) (C0 : lw_At p s m meth c b L xs) {D : va_G} {cs : ClassId × ClassId × ClassId} {ad : Nat → Nat} {cm : ClassId × ClassId} {am : Nat → Nat} {o : Nat} {cJ : ClassId} (F : LF s D cs ad cm am o cJ) {M N : Mem} {n : Nat} {fq : Nat → Int64} {H : Heap} {locs : List Loc} {cells slots : Nat} (hR : Rel M N n) (hn : n + 1 < 2 ^ 31) (hI : LI s D cs ad cm am o cJ M N fq H locs) (hc : cells + 1 ≤ 674246) (hsl : slots + 6 ≤ 7073367) {k : Nat} (hk : 4 * k + 4 ≤ L) {ls : Array Slot} (hl : lv_has ls 7 (LV b ad am o k))
    (kk : ∀ (M' N' : Mem) (n' : Nat) (fo' : Nat → Int64) (H' : Heap) (locs' : List Loc) (ls' : Array Slot), n' ≤ n + 1 → Rel M' N' n' → LI s D cs ad cm am o cJ M' N' fo' H' locs' → lv_has ls' 7 (LV b ad am o k) → W p l e room_1 s m #[Value.ref b] below meth c H' locs' (cells + 1) (slots + 6) (lw_Z below #[Value.ref b] s) (F0 m 773 ls' [])) : W p l e room_1 s m #[Value.ref b] below meth c H locs cells slots (lw_Z below #[Value.ref b] s) (F0 m 537 ls []) := by
  obtain ⟨hx, hb, hr, hml, hown, hts, hX, hbl, hlocks, hgv⟩ := id C0
  have hown : s.vm.findClass RL = some m.cls := hown
  have hts : ∀ w ∈ wsL_law, w.before #[Value.ref b] s = true := fun w h => hts w (wsL_law_in w h)
  have hbA : ¬ (fun q : Nat => s.heap.size ≤ q) b := Nat.not_le.mpr hbl
  obtain ⟨hP, hQ, hO, hS⟩ := hI
  have hj1 := F.1
  have hj2 := F.2.1
  have hok := hR.1
  refine lv_aload_n hx hb dL_law_537 rfl (lv_at hl 1 rfl) ?_
  refine lv_aload_n hx hb dL_law_538 rfl (lv_at hl 0 rfl) ?_
  refine lv_iload hx hb dL_law_539 (lv_at hl 4 rfl) ?_
  refine lv_iconst (v := 1) hx hb dL_law_541 (by decide) ?_
  refine lv_iadd hx hb dL_law_542 ?_
  refine wd_re (y := nI (4 * k + 1)) (show nI (4 * k) + nI 1 = nI (4 * k + 1) from nI_add _ _) ?_
  refine ll_sld hx hb hX hbl hbA hS (i := 4 * k + 1) (by omega) (by omega) dL_law_543 ?_
  refine xl_i (O := (dkO (D, cs, ad))) (W2 := wd (mdO (D, cm, am)) N ++ oW o cJ fq) hS (new_A F.2.2.2.2.2.1 hS) (va_P.app hQ hO) (ap_m F.2.2.2.2.2.2.2.2.1 F.2.2.2.2.2.2.2.2.2.1) (va_runV (As := [.int (xs (4 * k + 1))]) (rest := []) ⟨hx, hb, hml, hown, hts⟩ (c_X3_until (G := (D, cs, ad)) hj1 hok H.size (xs (4 * k + 1))) (cwV 1 hts gL_law_X3_until rfl rfl rfl (by decide +kernel) ⟨Nat.le_of_ble_eq_true rfl, Nat.le_of_ble_eq_true rfl⟩) (wd_pre F.2.2.1 hP (dk_lt (by omega)) dE_0 rfl) rfl rfl hl.1 rfl (lv_room (Nat.le_of_ble_eq_true rfl)) dL_law_544 ⟨by show cells + 0 ≤ 674246; omega, by show slots + 0 ≤ 7073367; omega⟩) (fun H locs hP hQO hS => ?_)
  have hQ := P_l hQO
  have hO := P_r hQO
  refine lv_aload_n hx hb dL_law_547 rfl (lv_at hl 2 rfl) ?_
  refine lv_aload_n hx hb dL_law_548 rfl (lv_at hl 0 rfl) ?_
  refine lv_iload hx hb dL_law_549 (lv_at hl 4 rfl) ?_
  refine lv_iconst (v := 1) hx hb dL_law_551 (by decide) ?_
  refine lv_iadd hx hb dL_law_552 ?_
  refine wd_re (y := nI (4 * k + 1)) (show nI (4 * k) + nI 1 = nI (4 * k + 1) from nI_add _ _) ?_
  refine ll_sld hx hb hX hbl hbA hS (i := 4 * k + 1) (by omega) (by omega) dL_law_553 ?_
  refine xl_i (O := (mdO (D, cm, am))) (W2 := wd (dkO (D, cs, ad)) M ++ oW o cJ fq) hS (new_A F.2.2.2.2.2.2.1 hS) (va_P.app hP hO) (ap_d F.2.2.2.2.2.2.2.2.1 F.2.2.2.2.2.2.2.2.2.2.1) (va_runV (As := [.int (xs (4 * k + 1))]) (rest := [.int (untV M (xs (4 * k + 1)))]) ⟨hx, hb, hml, hown, hts⟩ (c_X4_until (G := (D, cm, am)) hj2 H.size (xs (4 * k + 1))) (cwV 1 hts gL_law_X4_until rfl rfl rfl (by decide +kernel) ⟨Nat.le_of_ble_eq_true rfl, Nat.le_of_ble_eq_true rfl⟩) (wd_pre F.2.2.2.1 hQ (md_lt (by omega)) mE_0 rfl) rfl rfl hl.1 rfl (lv_room (Nat.le_of_ble_eq_true rfl)) dL_law_554 ⟨by show cells + 0 + 0 ≤ 674246; omega, by show slots + 0 + 0 ≤ 7073367; omega⟩) (fun H locs hQ hPO hS => ?_)
  have hP := P_l hPO
  have hO := P_r hPO
  refine lv_icmp_eq (tgt := 773) hx hb dL_law_557 (by decide) (fun _ => ?_) (fun c9 => absurd (A_unt hR (xs (4 * k + 1))) c9)
  refine W.widen (k := cells + 1) (n := slots + 6) (by omega) (by omega) ?_
  exact kk _ _ n _ _ _ _ (by omega) (hR) ⟨hP, hQ, hO, hS⟩ (lv_sub hl [0, 1, 2, 3, 4] rfl)
set_option maxRecDepth 100000 in
set_option maxHeartbeats 4000000 in
theorem law_11 {p : Program} {l : Launch} {e : Env} {s : State} {m : MethodId} {below : List Frame} {meth : Method} {c : Code} (hst : l.stackTraces = false) {b L : Nat} {xs : Nat → Int32} (hL : L ≤ 2048) (C0 : lw_At p s m meth c b L xs) {D : va_G} {cs : ClassId × ClassId × ClassId} {ad : Nat → Nat} {cm : ClassId × ClassId} {am : Nat → Nat} {o : Nat} {cJ : ClassId} (F : LF s D cs ad cm am o cJ) {M N : Mem} {n : Nat} {fq : Nat → Int64} {H : Heap} {locs : List Loc} {cells slots : Nat} (hR : Rel M N n) (hn : n + 1 < 2 ^ 31) (hI : LI s D cs ad cm am o cJ M N fq H locs) (hc : cells + 1 ≤ 674246) (hsl : slots + 6 ≤ 7073367) {k : Nat} (hk : 4 * k + 4 ≤ L) {ls : Array Slot} (hl : lv_has ls 7 (LV b ad am o k))
    (kk : ∀ (M' N' : Mem) (n' : Nat) (fo' : Nat → Int64) (H' : Heap) (locs' : List Loc) (ls' : Array Slot), n' ≤ n + 1 → Rel M' N' n' → LI s D cs ad cm am o cJ M' N' fo' H' locs' → lv_has ls' 7 (LV b ad am o k) → W p l e room_1 s m #[Value.ref b] below meth c H' locs' (cells + 1) (slots + 6) (lw_Z below #[Value.ref b] s) (F0 m 773 ls' [])) : W p l e room_1 s m #[Value.ref b] below meth c H locs cells slots (lw_Z below #[Value.ref b] s) (F0 m 562 ls []) := by
  obtain ⟨hx, hb, hr, hml, hown, hts, hX, hbl, hlocks, hgv⟩ := id C0
  have hown : s.vm.findClass RL = some m.cls := hown
  have hts : ∀ w ∈ wsL_law, w.before #[Value.ref b] s = true := fun w h => hts w (wsL_law_in w h)
  have hbA : ¬ (fun q : Nat => s.heap.size ≤ q) b := Nat.not_le.mpr hbl
  obtain ⟨hP, hQ, hO, hS⟩ := hI
  have hj1 := F.1
  have hj2 := F.2.1
  have hok := hR.1
  refine lv_aload_n hx hb dL_law_562 rfl (lv_at hl 1 rfl) ?_
  refine lv_aload_n hx hb dL_law_563 rfl (lv_at hl 0 rfl) ?_
  refine lv_iload hx hb dL_law_564 (lv_at hl 4 rfl) ?_
  refine lv_iconst (v := 1) hx hb dL_law_566 (by decide) ?_
  refine lv_iadd hx hb dL_law_567 ?_
  refine wd_re (y := nI (4 * k + 1)) (show nI (4 * k) + nI 1 = nI (4 * k + 1) from nI_add _ _) ?_
  refine ll_sld hx hb hX hbl hbA hS (i := 4 * k + 1) (by omega) (by omega) dL_law_568 ?_
  refine lv_aload_n hx hb dL_law_569 rfl (lv_at hl 0 rfl) ?_
  refine lv_iload hx hb dL_law_570 (lv_at hl 4 rfl) ?_
  refine lv_iconst (v := 2) hx hb dL_law_572 (by decide) ?_
  refine lv_iadd hx hb dL_law_573 ?_
  refine wd_re (y := nI (4 * k + 2)) (show nI (4 * k) + nI 2 = nI (4 * k + 2) from nI_add _ _) ?_
  refine ll_sld hx hb hX hbl hbA hS (i := 4 * k + 2) (by omega) (by omega) dL_law_574 ?_
  refine xl_i (O := (dkO (D, cs, ad))) (W2 := wd (mdO (D, cm, am)) N ++ oW o cJ fq) hS (new_A F.2.2.2.2.2.1 hS) (va_P.app hQ hO) (ap_m F.2.2.2.2.2.2.2.2.1 F.2.2.2.2.2.2.2.2.2.1) (va_runV (As := [.int (xs (4 * k + 1)), .int (xs (4 * k + 2))]) (rest := []) ⟨hx, hb, hml, hown, hts⟩ (c_X3_waiter (G := (D, cs, ad)) hj1 hok H.size (xs (4 * k + 1)) (xs (4 * k + 2))) (cwV 2 hts gL_law_X3_waiter rfl rfl rfl (by decide +kernel) ⟨Nat.le_of_ble_eq_true rfl, Nat.le_of_ble_eq_true rfl⟩) (wd_pre F.2.2.1 hP (dk_lt (by omega)) dE_0 rfl) rfl rfl hl.1 rfl (lv_room (Nat.le_of_ble_eq_true rfl)) dL_law_575 ⟨by show cells + 0 ≤ 674246; omega, by show slots + 0 ≤ 7073367; omega⟩) (fun H locs hP hQO hS => ?_)
  have hQ := P_l hQO
  have hO := P_r hQO
  refine lv_aload_n hx hb dL_law_578 rfl (lv_at hl 2 rfl) ?_
  refine lv_aload_n hx hb dL_law_579 rfl (lv_at hl 0 rfl) ?_
  refine lv_iload hx hb dL_law_580 (lv_at hl 4 rfl) ?_
  refine lv_iconst (v := 1) hx hb dL_law_582 (by decide) ?_
  refine lv_iadd hx hb dL_law_583 ?_
  refine wd_re (y := nI (4 * k + 1)) (show nI (4 * k) + nI 1 = nI (4 * k + 1) from nI_add _ _) ?_
  refine ll_sld hx hb hX hbl hbA hS (i := 4 * k + 1) (by omega) (by omega) dL_law_584 ?_
  refine lv_aload_n hx hb dL_law_585 rfl (lv_at hl 0 rfl) ?_
  refine lv_iload hx hb dL_law_586 (lv_at hl 4 rfl) ?_
  refine lv_iconst (v := 2) hx hb dL_law_588 (by decide) ?_
  refine lv_iadd hx hb dL_law_589 ?_
  refine wd_re (y := nI (4 * k + 2)) (show nI (4 * k) + nI 2 = nI (4 * k + 2) from nI_add _ _) ?_
  refine ll_sld hx hb hX hbl hbA hS (i := 4 * k + 2) (by omega) (by omega) dL_law_590 ?_
  refine xl_i (O := (mdO (D, cm, am))) (W2 := wd (dkO (D, cs, ad)) M ++ oW o cJ fq) hS (new_A F.2.2.2.2.2.2.1 hS) (va_P.app hP hO) (ap_d F.2.2.2.2.2.2.2.2.1 F.2.2.2.2.2.2.2.2.2.2.1) (va_runV (As := [.int (xs (4 * k + 1)), .int (xs (4 * k + 2))]) (rest := [.int (wtV M (xs (4 * k + 1)) (xs (4 * k + 2)))]) ⟨hx, hb, hml, hown, hts⟩ (c_X4_waiter (G := (D, cm, am)) hj2 H.size (xs (4 * k + 1)) (xs (4 * k + 2))) (cwV 2 hts gL_law_X4_waiter rfl rfl rfl (by decide +kernel) ⟨Nat.le_of_ble_eq_true rfl, Nat.le_of_ble_eq_true rfl⟩) (wd_pre F.2.2.2.1 hQ (md_lt (by omega)) mE_0 rfl) rfl rfl hl.1 rfl (lv_room (Nat.le_of_ble_eq_true rfl)) dL_law_591 ⟨by show cells + 0 + 0 ≤ 674246; omega, by show slots + 0 + 0 ≤ 7073367; omega⟩) (fun H locs hQ hPO hS => ?_)
  have hP := P_l hPO
  have hO := P_r hPO
  refine lv_icmp_eq (tgt := 773) hx hb dL_law_594 (by decide) (fun _ => ?_) (fun c9 => absurd (A_wt (by omega) hR (xs (4 * k + 1)) (xs (4 * k + 2))) c9)
  refine W.widen (k := cells + 1) (n := slots + 6) (by omega) (by omega) ?_
  exact kk _ _ n _ _ _ _ (by omega) (hR) ⟨hP, hQ, hO, hS⟩ (lv_sub hl [0, 1, 2, 3, 4] rfl)
set_option maxRecDepth 100000 in
set_option maxHeartbeats 4000000 in
theorem law_12 {p : Program} {l : Launch} {e : Env} {s : State} {m : MethodId} {below : List Frame} {meth : Method} {c : Code} (hst : l.stackTraces = false) {b L : Nat} {xs : Nat → Int32} (hL : L ≤ 2048) (C0 : lw_At p s m meth c b L xs) {D : va_G} {cs : ClassId × ClassId × ClassId} {ad : Nat → Nat} {cm : ClassId × ClassId} {am : Nat → Nat} {o : Nat} {cJ : ClassId} (F : LF s D cs ad cm am o cJ) {M N : Mem} {n : Nat} {fq : Nat → Int64} {H : Heap} {locs : List Loc} {cells slots : Nat} (hR : Rel M N n) (hn : n + 1 < 2 ^ 31) (hI : LI s D cs ad cm am o cJ M N fq H locs) (hc : cells + 1 ≤ 674246) (hsl : slots + 6 ≤ 7073367) {k : Nat} (hk : 4 * k + 4 ≤ L) {ls : Array Slot} (hl : lv_has ls 7 (LV b ad am o k))
    (kk : ∀ (M' N' : Mem) (n' : Nat) (fo' : Nat → Int64) (H' : Heap) (locs' : List Loc) (ls' : Array Slot), n' ≤ n + 1 → Rel M' N' n' → LI s D cs ad cm am o cJ M' N' fo' H' locs' → lv_has ls' 7 (LV b ad am o k) → W p l e room_1 s m #[Value.ref b] below meth c H' locs' (cells + 1) (slots + 6) (lw_Z below #[Value.ref b] s) (F0 m 773 ls' [])) : W p l e room_1 s m #[Value.ref b] below meth c H locs cells slots (lw_Z below #[Value.ref b] s) (F0 m 599 ls []) := by
  obtain ⟨hx, hb, hr, hml, hown, hts, hX, hbl, hlocks, hgv⟩ := id C0
  have hown : s.vm.findClass RL = some m.cls := hown
  have hts : ∀ w ∈ wsL_law, w.before #[Value.ref b] s = true := fun w h => hts w (wsL_law_in w h)
  have hbA : ¬ (fun q : Nat => s.heap.size ≤ q) b := Nat.not_le.mpr hbl
  obtain ⟨hP, hQ, hO, hS⟩ := hI
  have hj1 := F.1
  have hj2 := F.2.1
  have hok := hR.1
  refine lv_aload_n hx hb dL_law_599 rfl (lv_at hl 1 rfl) ?_
  refine xl_i (O := (dkO (D, cs, ad))) (W2 := wd (mdO (D, cm, am)) N ++ oW o cJ fq) hS (new_A F.2.2.2.2.2.1 hS) (va_P.app hQ hO) (ap_m F.2.2.2.2.2.2.2.2.1 F.2.2.2.2.2.2.2.2.2.1) (va_runV (As := []) (rest := []) ⟨hx, hb, hml, hown, hts⟩ (c_X3_time (G := (D, cs, ad)) hj1 hok H.size ) (cwV 0 hts gL_law_X3_time rfl rfl rfl (by decide +kernel) ⟨Nat.le_of_ble_eq_true rfl, Nat.le_of_ble_eq_true rfl⟩) (wd_pre F.2.2.1 hP (dk_lt (by omega)) dE_0 rfl) rfl rfl hl.1 rfl (lv_room (Nat.le_of_ble_eq_true rfl)) dL_law_600 ⟨by show cells + 0 ≤ 674246; omega, by show slots + 0 ≤ 7073367; omega⟩) (fun H locs hP hQO hS => ?_)
  have hQ := P_l hQO
  have hO := P_r hQO
  refine lv_aload_n hx hb dL_law_603 rfl (lv_at hl 2 rfl) ?_
  refine xl_i (O := (mdO (D, cm, am))) (W2 := wd (dkO (D, cs, ad)) M ++ oW o cJ fq) hS (new_A F.2.2.2.2.2.2.1 hS) (va_P.app hP hO) (ap_d F.2.2.2.2.2.2.2.2.1 F.2.2.2.2.2.2.2.2.2.2.1) (va_runV (As := []) (rest := [.int (M 0 2)]) ⟨hx, hb, hml, hown, hts⟩ (c_X4_time (G := (D, cm, am)) hj2 H.size ) (cwV 0 hts gL_law_X4_time rfl rfl rfl (by decide +kernel) ⟨Nat.le_of_ble_eq_true rfl, Nat.le_of_ble_eq_true rfl⟩) (wd_pre F.2.2.2.1 hQ (md_lt (by omega)) mE_0 rfl) rfl rfl hl.1 rfl (lv_room (Nat.le_of_ble_eq_true rfl)) dL_law_604 ⟨by show cells + 0 + 0 ≤ 674246; omega, by show slots + 0 + 0 ≤ 7073367; omega⟩) (fun H locs hQ hPO hS => ?_)
  have hP := P_l hPO
  have hO := P_r hPO
  refine lv_icmp_eq (tgt := 773) hx hb dL_law_607 (by decide) (fun _ => ?_) (fun c9 => absurd hR.2.1.2 c9)
  refine W.widen (k := cells + 1) (n := slots + 6) (by omega) (by omega) ?_
  exact kk _ _ n _ _ _ _ (by omega) (hR) ⟨hP, hQ, hO, hS⟩ (lv_sub hl [0, 1, 2, 3, 4] rfl)
set_option maxRecDepth 100000 in
set_option maxHeartbeats 4000000 in
theorem law_13 {p : Program} {l : Launch} {e : Env} {s : State} {m : MethodId} {below : List Frame} {meth : Method} {c : Code} (hst : l.stackTraces = false) {b L : Nat} {xs : Nat → Int32} (hL : L ≤ 2048) (C0 : lw_At p s m meth c b L xs) {D : va_G} {cs : ClassId × ClassId × ClassId} {ad : Nat → Nat} {cm : ClassId × ClassId} {am : Nat → Nat} {o : Nat} {cJ : ClassId} (F : LF s D cs ad cm am o cJ) {M N : Mem} {n : Nat} {fq : Nat → Int64} {H : Heap} {locs : List Loc} {cells slots : Nat} (hR : Rel M N n) (hn : n + 1 < 2 ^ 31) (hI : LI s D cs ad cm am o cJ M N fq H locs) (hc : cells + 1 ≤ 674246) (hsl : slots + 6 ≤ 7073367) {k : Nat} (hk : 4 * k + 4 ≤ L) {ls : Array Slot} (hl : lv_has ls 7 (LV b ad am o k))
    (kk : ∀ (M' N' : Mem) (n' : Nat) (fo' : Nat → Int64) (H' : Heap) (locs' : List Loc) (ls' : Array Slot), n' ≤ n + 1 → Rel M' N' n' → LI s D cs ad cm am o cJ M' N' fo' H' locs' → lv_has ls' 7 (LV b ad am o k) → W p l e room_1 s m #[Value.ref b] below meth c H' locs' (cells + 1) (slots + 6) (lw_Z below #[Value.ref b] s) (F0 m 773 ls' [])) : W p l e room_1 s m #[Value.ref b] below meth c H locs cells slots (lw_Z below #[Value.ref b] s) (F0 m 612 ls []) := by
  obtain ⟨hx, hb, hr, hml, hown, hts, hX, hbl, hlocks, hgv⟩ := id C0
  have hown : s.vm.findClass RL = some m.cls := hown
  have hts : ∀ w ∈ wsL_law, w.before #[Value.ref b] s = true := fun w h => hts w (wsL_law_in w h)
  have hbA : ¬ (fun q : Nat => s.heap.size ≤ q) b := Nat.not_le.mpr hbl
  obtain ⟨hP, hQ, hO, hS⟩ := hI
  have hj1 := F.1
  have hj2 := F.2.1
  have hok := hR.1
  refine lv_aload_n hx hb dL_law_612 rfl (lv_at hl 1 rfl) ?_
  refine lv_aload_n hx hb dL_law_613 rfl (lv_at hl 0 rfl) ?_
  refine lv_iload hx hb dL_law_614 (lv_at hl 4 rfl) ?_
  refine lv_iconst (v := 1) hx hb dL_law_616 (by decide) ?_
  refine lv_iadd hx hb dL_law_617 ?_
  refine wd_re (y := nI (4 * k + 1)) (show nI (4 * k) + nI 1 = nI (4 * k + 1) from nI_add _ _) ?_
  refine ll_sld hx hb hX hbl hbA hS (i := 4 * k + 1) (by omega) (by omega) dL_law_618 ?_
  refine xl_i (O := (dkO (D, cs, ad))) (W2 := wd (mdO (D, cm, am)) N ++ oW o cJ fq) hS (new_A F.2.2.2.2.2.1 hS) (va_P.app hQ hO) (ap_m F.2.2.2.2.2.2.2.2.1 F.2.2.2.2.2.2.2.2.2.1) (va_runV (As := [.int (xs (4 * k + 1))]) (rest := []) ⟨hx, hb, hml, hown, hts⟩ (c_X3_clock (G := (D, cs, ad)) hj1 hok H.size (xs (4 * k + 1))) (cwV 1 hts gL_law_X3_clock rfl rfl rfl (by decide +kernel) ⟨Nat.le_of_ble_eq_true rfl, Nat.le_of_ble_eq_true rfl⟩) (wd_pre F.2.2.1 hP (dk_lt (by omega)) dE_0 rfl) rfl rfl hl.1 rfl (lv_room (Nat.le_of_ble_eq_true rfl)) dL_law_619 ⟨by show cells + 0 ≤ 674246; omega, by show slots + 0 ≤ 7073367; omega⟩) (fun H locs hP hQO hS => ?_)
  have hQ := P_l hQO
  have hO := P_r hQO
  refine lv_aload_n hx hb dL_law_622 rfl (lv_at hl 2 rfl) ?_
  refine lv_aload_n hx hb dL_law_623 rfl (lv_at hl 0 rfl) ?_
  refine lv_iload hx hb dL_law_624 (lv_at hl 4 rfl) ?_
  refine lv_iconst (v := 1) hx hb dL_law_626 (by decide) ?_
  refine lv_iadd hx hb dL_law_627 ?_
  refine wd_re (y := nI (4 * k + 1)) (show nI (4 * k) + nI 1 = nI (4 * k + 1) from nI_add _ _) ?_
  refine ll_sld hx hb hX hbl hbA hS (i := 4 * k + 1) (by omega) (by omega) dL_law_628 ?_
  refine xl_i (O := (mdO (D, cm, am))) (W2 := wd (dkO (D, cs, ad)) M ++ oW o cJ fq) hS (new_A F.2.2.2.2.2.2.1 hS) (va_P.app hP hO) (ap_d F.2.2.2.2.2.2.2.2.1 F.2.2.2.2.2.2.2.2.2.2.1) (va_runV (As := [.int (xs (4 * k + 1))]) (rest := [.int (clkV M (xs (4 * k + 1)))]) ⟨hx, hb, hml, hown, hts⟩ (c_X4_clock (G := (D, cm, am)) hj2 H.size (xs (4 * k + 1))) (cwV 1 hts gL_law_X4_clock rfl rfl rfl (by decide +kernel) ⟨Nat.le_of_ble_eq_true rfl, Nat.le_of_ble_eq_true rfl⟩) (wd_pre F.2.2.2.1 hQ (md_lt (by omega)) mE_0 rfl) rfl rfl hl.1 rfl (lv_room (Nat.le_of_ble_eq_true rfl)) dL_law_629 ⟨by show cells + 0 + 0 ≤ 674246; omega, by show slots + 0 + 0 ≤ 7073367; omega⟩) (fun H locs hQ hPO hS => ?_)
  have hP := P_l hPO
  have hO := P_r hPO
  refine lv_icmp_eq (tgt := 773) hx hb dL_law_632 (by decide) (fun _ => ?_) (fun c9 => absurd (A_clk hR (xs (4 * k + 1))) c9)
  refine W.widen (k := cells + 1) (n := slots + 6) (by omega) (by omega) ?_
  exact kk _ _ n _ _ _ _ (by omega) (hR) ⟨hP, hQ, hO, hS⟩ (lv_sub hl [0, 1, 2, 3, 4] rfl)
set_option maxRecDepth 100000 in
set_option maxHeartbeats 4000000 in
theorem law_14 {p : Program} {l : Launch} {e : Env} {s : State} {m : MethodId} {below : List Frame} {meth : Method} {c : Code} (hst : l.stackTraces = false) {b L : Nat} {xs : Nat → Int32} (hL : L ≤ 2048) (C0 : lw_At p s m meth c b L xs) {D : va_G} {cs : ClassId × ClassId × ClassId} {ad : Nat → Nat} {cm : ClassId × ClassId} {am : Nat → Nat} {o : Nat} {cJ : ClassId} (F : LF s D cs ad cm am o cJ) {M N : Mem} {n : Nat} {fq : Nat → Int64} {H : Heap} {locs : List Loc} {cells slots : Nat} (hR : Rel M N n) (hn : n + 1 < 2 ^ 31) (hI : LI s D cs ad cm am o cJ M N fq H locs) (hc : cells + 1 ≤ 674246) (hsl : slots + 6 ≤ 7073367) {k : Nat} (hk : 4 * k + 4 ≤ L) {ls : Array Slot} (hl : lv_has ls 7 (LV b ad am o k))
    (kk : ∀ (M' N' : Mem) (n' : Nat) (fo' : Nat → Int64) (H' : Heap) (locs' : List Loc) (ls' : Array Slot), n' ≤ n + 1 → Rel M' N' n' → LI s D cs ad cm am o cJ M' N' fo' H' locs' → lv_has ls' 7 (LV b ad am o k) → W p l e room_1 s m #[Value.ref b] below meth c H' locs' (cells + 1) (slots + 6) (lw_Z below #[Value.ref b] s) (F0 m 773 ls' [])) : W p l e room_1 s m #[Value.ref b] below meth c H locs cells slots (lw_Z below #[Value.ref b] s) (F0 m 637 ls []) := by
  obtain ⟨hx, hb, hr, hml, hown, hts, hX, hbl, hlocks, hgv⟩ := id C0
  have hown : s.vm.findClass RL = some m.cls := hown
  have hts : ∀ w ∈ wsL_law, w.before #[Value.ref b] s = true := fun w h => hts w (wsL_law_in w h)
  have hbA : ¬ (fun q : Nat => s.heap.size ≤ q) b := Nat.not_le.mpr hbl
  obtain ⟨hP, hQ, hO, hS⟩ := hI
  have hj1 := F.1
  have hj2 := F.2.1
  have hok := hR.1
  refine lv_aload_n hx hb dL_law_637 rfl (lv_at hl 1 rfl) ?_
  refine lv_aload_n hx hb dL_law_638 rfl (lv_at hl 0 rfl) ?_
  refine lv_iload hx hb dL_law_639 (lv_at hl 4 rfl) ?_
  refine lv_iconst (v := 1) hx hb dL_law_641 (by decide) ?_
  refine lv_iadd hx hb dL_law_642 ?_
  refine wd_re (y := nI (4 * k + 1)) (show nI (4 * k) + nI 1 = nI (4 * k + 1) from nI_add _ _) ?_
  refine ll_sld hx hb hX hbl hbA hS (i := 4 * k + 1) (by omega) (by omega) dL_law_643 ?_
  refine lv_aload_n hx hb dL_law_644 rfl (lv_at hl 0 rfl) ?_
  refine lv_iload hx hb dL_law_645 (lv_at hl 4 rfl) ?_
  refine lv_iconst (v := 2) hx hb dL_law_647 (by decide) ?_
  refine lv_iadd hx hb dL_law_648 ?_
  refine wd_re (y := nI (4 * k + 2)) (show nI (4 * k) + nI 2 = nI (4 * k + 2) from nI_add _ _) ?_
  refine ll_sld hx hb hX hbl hbA hS (i := 4 * k + 2) (by omega) (by omega) dL_law_649 ?_
  refine xl_i (O := (dkO (D, cs, ad))) (W2 := wd (mdO (D, cm, am)) N ++ oW o cJ fq) hS (new_A F.2.2.2.2.2.1 hS) (va_P.app hQ hO) (ap_m F.2.2.2.2.2.2.2.2.1 F.2.2.2.2.2.2.2.2.2.1) (va_runV (As := [.int (xs (4 * k + 1)), .int (xs (4 * k + 2))]) (rest := []) ⟨hx, hb, hml, hown, hts⟩ (c_X3_believes (G := (D, cs, ad)) hj1 hok H.size (xs (4 * k + 1)) (xs (4 * k + 2))) (cwV 2 hts gL_law_X3_believes rfl rfl rfl (by decide +kernel) ⟨Nat.le_of_ble_eq_true rfl, Nat.le_of_ble_eq_true rfl⟩) (wd_pre F.2.2.1 hP (dk_lt (by omega)) dE_0 rfl) rfl rfl hl.1 rfl (lv_room (Nat.le_of_ble_eq_true rfl)) dL_law_650 ⟨by show cells + 0 ≤ 674246; omega, by show slots + 0 ≤ 7073367; omega⟩) (fun H locs hP hQO hS => ?_)
  have hQ := P_l hQO
  have hO := P_r hQO
  refine lv_aload_n hx hb dL_law_653 rfl (lv_at hl 2 rfl) ?_
  refine lv_aload_n hx hb dL_law_654 rfl (lv_at hl 0 rfl) ?_
  refine lv_iload hx hb dL_law_655 (lv_at hl 4 rfl) ?_
  refine lv_iconst (v := 1) hx hb dL_law_657 (by decide) ?_
  refine lv_iadd hx hb dL_law_658 ?_
  refine wd_re (y := nI (4 * k + 1)) (show nI (4 * k) + nI 1 = nI (4 * k + 1) from nI_add _ _) ?_
  refine ll_sld hx hb hX hbl hbA hS (i := 4 * k + 1) (by omega) (by omega) dL_law_659 ?_
  refine lv_aload_n hx hb dL_law_660 rfl (lv_at hl 0 rfl) ?_
  refine lv_iload hx hb dL_law_661 (lv_at hl 4 rfl) ?_
  refine lv_iconst (v := 2) hx hb dL_law_663 (by decide) ?_
  refine lv_iadd hx hb dL_law_664 ?_
  refine wd_re (y := nI (4 * k + 2)) (show nI (4 * k) + nI 2 = nI (4 * k + 2) from nI_add _ _) ?_
  refine ll_sld hx hb hX hbl hbA hS (i := 4 * k + 2) (by omega) (by omega) dL_law_665 ?_
  refine xl_i (O := (mdO (D, cm, am))) (W2 := wd (dkO (D, cs, ad)) M ++ oW o cJ fq) hS (new_A F.2.2.2.2.2.2.1 hS) (va_P.app hP hO) (ap_d F.2.2.2.2.2.2.2.2.1 F.2.2.2.2.2.2.2.2.2.2.1) (va_runV (As := [.int (xs (4 * k + 1)), .int (xs (4 * k + 2))]) (rest := [.int (blV M (xs (4 * k + 1)) (xs (4 * k + 2)))]) ⟨hx, hb, hml, hown, hts⟩ (c_X4_believes (G := (D, cm, am)) hj2 H.size (xs (4 * k + 1)) (xs (4 * k + 2))) (cwV 2 hts gL_law_X4_believes rfl rfl rfl (by decide +kernel) ⟨Nat.le_of_ble_eq_true rfl, Nat.le_of_ble_eq_true rfl⟩) (wd_pre F.2.2.2.1 hQ (md_lt (by omega)) mE_0 rfl) rfl rfl hl.1 rfl (lv_room (Nat.le_of_ble_eq_true rfl)) dL_law_666 ⟨by show cells + 0 + 0 ≤ 674246; omega, by show slots + 0 + 0 ≤ 7073367; omega⟩) (fun H locs hQ hPO hS => ?_)
  have hP := P_l hPO
  have hO := P_r hPO
  refine lv_icmp_eq (tgt := 773) hx hb dL_law_669 (by decide) (fun _ => ?_) (fun c9 => absurd (A_bl hR (xs (4 * k + 1)) (xs (4 * k + 2))) c9)
  refine W.widen (k := cells + 1) (n := slots + 6) (by omega) (by omega) ?_
  exact kk _ _ n _ _ _ _ (by omega) (hR) ⟨hP, hQ, hO, hS⟩ (lv_sub hl [0, 1, 2, 3, 4] rfl)
set_option maxRecDepth 100000 in
set_option maxHeartbeats 4000000 in
theorem law_15 {p : Program} {l : Launch} {e : Env} {s : State} {m : MethodId} {below : List Frame} {meth : Method} {c : Code} (hst : l.stackTraces = false) {b L : Nat} {xs : Nat → Int32} (hL : L ≤ 2048) (C0 : lw_At p s m meth c b L xs) {D : va_G} {cs : ClassId × ClassId × ClassId} {ad : Nat → Nat} {cm : ClassId × ClassId} {am : Nat → Nat} {o : Nat} {cJ : ClassId} (F : LF s D cs ad cm am o cJ) {M N : Mem} {n : Nat} {fq : Nat → Int64} {H : Heap} {locs : List Loc} {cells slots : Nat} (hR : Rel M N n) (hn : n + 1 < 2 ^ 31) (hI : LI s D cs ad cm am o cJ M N fq H locs) (hc : cells + 1 ≤ 674246) (hsl : slots + 6 ≤ 7073367) {k : Nat} (hk : 4 * k + 4 ≤ L) {ls : Array Slot} (hl : lv_has ls 7 (LV b ad am o k))
    (kk : ∀ (M' N' : Mem) (n' : Nat) (fo' : Nat → Int64) (H' : Heap) (locs' : List Loc) (ls' : Array Slot), n' ≤ n + 1 → Rel M' N' n' → LI s D cs ad cm am o cJ M' N' fo' H' locs' → lv_has ls' 7 (LV b ad am o k) → W p l e room_1 s m #[Value.ref b] below meth c H' locs' (cells + 1) (slots + 6) (lw_Z below #[Value.ref b] s) (F0 m 773 ls' [])) : W p l e room_1 s m #[Value.ref b] below meth c H locs cells slots (lw_Z below #[Value.ref b] s) (F0 m 674 ls []) := by
  obtain ⟨hx, hb, hr, hml, hown, hts, hX, hbl, hlocks, hgv⟩ := id C0
  have hown : s.vm.findClass RL = some m.cls := hown
  have hts : ∀ w ∈ wsL_law, w.before #[Value.ref b] s = true := fun w h => hts w (wsL_law_in w h)
  have hbA : ¬ (fun q : Nat => s.heap.size ≤ q) b := Nat.not_le.mpr hbl
  obtain ⟨hP, hQ, hO, hS⟩ := hI
  have hj1 := F.1
  have hj2 := F.2.1
  have hok := hR.1
  refine lv_aload_n hx hb dL_law_674 rfl (lv_at hl 1 rfl) ?_
  refine lv_aload_n hx hb dL_law_675 rfl (lv_at hl 0 rfl) ?_
  refine lv_iload hx hb dL_law_676 (lv_at hl 4 rfl) ?_
  refine lv_iconst (v := 1) hx hb dL_law_678 (by decide) ?_
  refine lv_iadd hx hb dL_law_679 ?_
  refine wd_re (y := nI (4 * k + 1)) (show nI (4 * k) + nI 1 = nI (4 * k + 1) from nI_add _ _) ?_
  refine ll_sld hx hb hX hbl hbA hS (i := 4 * k + 1) (by omega) (by omega) dL_law_680 ?_
  refine lv_aload_n hx hb dL_law_681 rfl (lv_at hl 0 rfl) ?_
  refine lv_iload hx hb dL_law_682 (lv_at hl 4 rfl) ?_
  refine lv_iconst (v := 2) hx hb dL_law_684 (by decide) ?_
  refine lv_iadd hx hb dL_law_685 ?_
  refine wd_re (y := nI (4 * k + 2)) (show nI (4 * k) + nI 2 = nI (4 * k + 2) from nI_add _ _) ?_
  refine ll_sld hx hb hX hbl hbA hS (i := 4 * k + 2) (by omega) (by omega) dL_law_686 ?_
  refine lv_aload_n hx hb dL_law_687 rfl (lv_at hl 0 rfl) ?_
  refine lv_iload hx hb dL_law_688 (lv_at hl 4 rfl) ?_
  refine lv_iconst (v := 3) hx hb dL_law_690 (by decide) ?_
  refine lv_iadd hx hb dL_law_691 ?_
  refine wd_re (y := nI (4 * k + 3)) (show nI (4 * k) + nI 3 = nI (4 * k + 3) from nI_add _ _) ?_
  refine ll_sld hx hb hX hbl hbA hS (i := 4 * k + 3) (by omega) (by omega) dL_law_692 ?_
  refine xl_i (O := (dkO (D, cs, ad))) (W2 := wd (mdO (D, cm, am)) N ++ oW o cJ fq) hS (new_A F.2.2.2.2.2.1 hS) (va_P.app hQ hO) (ap_m F.2.2.2.2.2.2.2.2.1 F.2.2.2.2.2.2.2.2.2.1) (va_runV (As := [.int (xs (4 * k + 1)), .int (xs (4 * k + 2)), .int (xs (4 * k + 3))]) (rest := []) ⟨hx, hb, hml, hown, hts⟩ (c_X3_write (G := (D, cs, ad)) hj1 hok H.size (xs (4 * k + 1)) (xs (4 * k + 2)) (xs (4 * k + 3))) (cwV 3 hts gL_law_X3_write rfl rfl rfl (by decide +kernel) ⟨Nat.le_of_ble_eq_true rfl, Nat.le_of_ble_eq_true rfl⟩) (wd_pre F.2.2.1 hP (dk_lt (by omega)) dE_0 rfl) rfl rfl hl.1 rfl (lv_room (Nat.le_of_ble_eq_true rfl)) dL_law_693 ⟨by show cells + 0 ≤ 674246; omega, by show slots + 0 ≤ 7073367; omega⟩) (fun H locs hP hQO hS => ?_)
  have hQ := P_l hQO
  have hO := P_r hQO
  refine lv_aload_n hx hb dL_law_696 rfl (lv_at hl 2 rfl) ?_
  refine lv_aload_n hx hb dL_law_697 rfl (lv_at hl 0 rfl) ?_
  refine lv_iload hx hb dL_law_698 (lv_at hl 4 rfl) ?_
  refine lv_iconst (v := 1) hx hb dL_law_700 (by decide) ?_
  refine lv_iadd hx hb dL_law_701 ?_
  refine wd_re (y := nI (4 * k + 1)) (show nI (4 * k) + nI 1 = nI (4 * k + 1) from nI_add _ _) ?_
  refine ll_sld hx hb hX hbl hbA hS (i := 4 * k + 1) (by omega) (by omega) dL_law_702 ?_
  refine lv_aload_n hx hb dL_law_703 rfl (lv_at hl 0 rfl) ?_
  refine lv_iload hx hb dL_law_704 (lv_at hl 4 rfl) ?_
  refine lv_iconst (v := 2) hx hb dL_law_706 (by decide) ?_
  refine lv_iadd hx hb dL_law_707 ?_
  refine wd_re (y := nI (4 * k + 2)) (show nI (4 * k) + nI 2 = nI (4 * k + 2) from nI_add _ _) ?_
  refine ll_sld hx hb hX hbl hbA hS (i := 4 * k + 2) (by omega) (by omega) dL_law_708 ?_
  refine lv_aload_n hx hb dL_law_709 rfl (lv_at hl 0 rfl) ?_
  refine lv_iload hx hb dL_law_710 (lv_at hl 4 rfl) ?_
  refine lv_iconst (v := 3) hx hb dL_law_712 (by decide) ?_
  refine lv_iadd hx hb dL_law_713 ?_
  refine wd_re (y := nI (4 * k + 3)) (show nI (4 * k) + nI 3 = nI (4 * k + 3) from nI_add _ _) ?_
  refine ll_sld hx hb hX hbl hbA hS (i := 4 * k + 3) (by omega) (by omega) dL_law_714 ?_
  refine xl_i (O := (mdO (D, cm, am))) (W2 := wd (dkO (D, cs, ad)) (wrM M (xs (4 * k + 1)) (xs (4 * k + 2)) (xs (4 * k + 3))) ++ oW o cJ fq) hS (new_A F.2.2.2.2.2.2.1 hS) (va_P.app hP hO) (ap_d F.2.2.2.2.2.2.2.2.1 F.2.2.2.2.2.2.2.2.2.2.1) (va_runV (As := [.int (xs (4 * k + 1)), .int (xs (4 * k + 2)), .int (xs (4 * k + 3))]) (rest := [.int (wrV M (xs (4 * k + 1)) (xs (4 * k + 2)))]) ⟨hx, hb, hml, hown, hts⟩ (c_X4_write (G := (D, cm, am)) hj2 H.size (xs (4 * k + 1)) (xs (4 * k + 2)) (xs (4 * k + 3))) (cwV 3 hts gL_law_X4_write rfl rfl rfl (by decide +kernel) ⟨Nat.le_of_ble_eq_true rfl, Nat.le_of_ble_eq_true rfl⟩) (wd_pre F.2.2.2.1 hQ (md_lt (by omega)) mE_0 rfl) rfl rfl hl.1 rfl (lv_room (Nat.le_of_ble_eq_true rfl)) dL_law_715 ⟨by show cells + 0 + 0 ≤ 674246; omega, by show slots + 0 + 0 ≤ 7073367; omega⟩) (fun H locs hQ hPO hS => ?_)
  have hP := P_l hPO
  have hO := P_r hPO
  refine lv_icmp_eq (tgt := 773) hx hb dL_law_718 (by decide) (fun _ => ?_) (fun c9 => absurd (A_wr hR (xs (4 * k + 1)) (xs (4 * k + 2)) (xs (4 * k + 3))).1 c9)
  refine W.widen (k := cells + 1) (n := slots + 6) (by omega) (by omega) ?_
  exact kk _ _ n _ _ _ _ (by omega) ((A_wr hR (xs (4 * k + 1)) (xs (4 * k + 2)) (xs (4 * k + 3))).2) ⟨hP, hQ, hO, hS⟩ (lv_sub hl [0, 1, 2, 3, 4] rfl)
set_option maxRecDepth 100000 in
set_option maxHeartbeats 4000000 in
theorem law_16 {p : Program} {l : Launch} {e : Env} {s : State} {m : MethodId} {below : List Frame} {meth : Method} {c : Code} (hst : l.stackTraces = false) {b L : Nat} {xs : Nat → Int32} (hL : L ≤ 2048) (C0 : lw_At p s m meth c b L xs) {D : va_G} {cs : ClassId × ClassId × ClassId} {ad : Nat → Nat} {cm : ClassId × ClassId} {am : Nat → Nat} {o : Nat} {cJ : ClassId} (F : LF s D cs ad cm am o cJ) {M N : Mem} {n : Nat} {fq : Nat → Int64} {H : Heap} {locs : List Loc} {cells slots : Nat} (hR : Rel M N n) (hn : n + 1 < 2 ^ 31) (hI : LI s D cs ad cm am o cJ M N fq H locs) (hc : cells + 1 ≤ 674246) (hsl : slots + 6 ≤ 7073367) {k : Nat} (hk : 4 * k + 4 ≤ L) {ls : Array Slot} (hl : lv_has ls 7 (LV b ad am o k))
    (kk : ∀ (M' N' : Mem) (n' : Nat) (fo' : Nat → Int64) (H' : Heap) (locs' : List Loc) (ls' : Array Slot), n' ≤ n + 1 → Rel M' N' n' → LI s D cs ad cm am o cJ M' N' fo' H' locs' → lv_has ls' 7 (LV b ad am o k) → W p l e room_1 s m #[Value.ref b] below meth c H' locs' (cells + 1) (slots + 6) (lw_Z below #[Value.ref b] s) (F0 m 773 ls' [])) : W p l e room_1 s m #[Value.ref b] below meth c H locs cells slots (lw_Z below #[Value.ref b] s) (F0 m 723 ls []) := by
  obtain ⟨hx, hb, hr, hml, hown, hts, hX, hbl, hlocks, hgv⟩ := id C0
  have hown : s.vm.findClass RL = some m.cls := hown
  have hts : ∀ w ∈ wsL_law, w.before #[Value.ref b] s = true := fun w h => hts w (wsL_law_in w h)
  have hbA : ¬ (fun q : Nat => s.heap.size ≤ q) b := Nat.not_le.mpr hbl
  obtain ⟨hP, hQ, hO, hS⟩ := hI
  have hj1 := F.1
  have hj2 := F.2.1
  have hok := hR.1
  refine lv_aload_n hx hb dL_law_723 rfl (lv_at hl 1 rfl) ?_
  refine lv_aload_n hx hb dL_law_724 rfl (lv_at hl 0 rfl) ?_
  refine lv_iload hx hb dL_law_725 (lv_at hl 4 rfl) ?_
  refine lv_iconst (v := 1) hx hb dL_law_727 (by decide) ?_
  refine lv_iadd hx hb dL_law_728 ?_
  refine wd_re (y := nI (4 * k + 1)) (show nI (4 * k) + nI 1 = nI (4 * k + 1) from nI_add _ _) ?_
  refine ll_sld hx hb hX hbl hbA hS (i := 4 * k + 1) (by omega) (by omega) dL_law_729 ?_
  refine xl_i (O := (dkO (D, cs, ad))) (W2 := wd (mdO (D, cm, am)) N ++ oW o cJ fq) hS (new_A F.2.2.2.2.2.1 hS) (va_P.app hQ hO) (ap_m F.2.2.2.2.2.2.2.2.1 F.2.2.2.2.2.2.2.2.2.1) (va_runV (As := [.int (xs (4 * k + 1))]) (rest := []) ⟨hx, hb, hml, hown, hts⟩ (c_X3_stored (G := (D, cs, ad)) hj1 hok H.size (xs (4 * k + 1))) (cwV 1 hts gL_law_X3_stored rfl rfl rfl (by decide +kernel) ⟨Nat.le_of_ble_eq_true rfl, Nat.le_of_ble_eq_true rfl⟩) (wd_pre F.2.2.1 hP (dk_lt (by omega)) dE_0 rfl) rfl rfl hl.1 rfl (lv_room (Nat.le_of_ble_eq_true rfl)) dL_law_730 ⟨by show cells + 0 ≤ 674246; omega, by show slots + 0 ≤ 7073367; omega⟩) (fun H locs hP hQO hS => ?_)
  have hQ := P_l hQO
  have hO := P_r hQO
  refine lv_aload_n hx hb dL_law_733 rfl (lv_at hl 2 rfl) ?_
  refine lv_aload_n hx hb dL_law_734 rfl (lv_at hl 0 rfl) ?_
  refine lv_iload hx hb dL_law_735 (lv_at hl 4 rfl) ?_
  refine lv_iconst (v := 1) hx hb dL_law_737 (by decide) ?_
  refine lv_iadd hx hb dL_law_738 ?_
  refine wd_re (y := nI (4 * k + 1)) (show nI (4 * k) + nI 1 = nI (4 * k + 1) from nI_add _ _) ?_
  refine ll_sld hx hb hX hbl hbA hS (i := 4 * k + 1) (by omega) (by omega) dL_law_739 ?_
  refine xl_i (O := (mdO (D, cm, am))) (W2 := wd (dkO (D, cs, ad)) M ++ oW o cJ fq) hS (new_A F.2.2.2.2.2.2.1 hS) (va_P.app hP hO) (ap_d F.2.2.2.2.2.2.2.2.1 F.2.2.2.2.2.2.2.2.2.2.1) (va_runV (As := [.int (xs (4 * k + 1))]) (rest := [.int (kcV M (xs (4 * k + 1)) 0 7)]) ⟨hx, hb, hml, hown, hts⟩ (c_X4_stored (G := (D, cm, am)) hj2 H.size (xs (4 * k + 1))) (cwV 1 hts gL_law_X4_stored rfl rfl rfl (by decide +kernel) ⟨Nat.le_of_ble_eq_true rfl, Nat.le_of_ble_eq_true rfl⟩) (wd_pre F.2.2.2.1 hQ (md_lt (by omega)) mE_0 rfl) rfl rfl hl.1 rfl (lv_room (Nat.le_of_ble_eq_true rfl)) dL_law_740 ⟨by show cells + 0 + 0 ≤ 674246; omega, by show slots + 0 + 0 ≤ 7073367; omega⟩) (fun H locs hQ hPO hS => ?_)
  have hP := P_l hPO
  have hO := P_r hPO
  refine lv_icmp_eq (tgt := 773) hx hb dL_law_743 (by decide) (fun _ => ?_) (fun c9 => absurd (A_kc hR (xs (4 * k + 1)) 0 (by omega)) c9)
  refine W.widen (k := cells + 1) (n := slots + 6) (by omega) (by omega) ?_
  exact kk _ _ n _ _ _ _ (by omega) (hR) ⟨hP, hQ, hO, hS⟩ (lv_sub hl [0, 1, 2, 3, 4] rfl)
set_option maxRecDepth 100000 in
set_option maxHeartbeats 4000000 in
theorem law_17 {p : Program} {l : Launch} {e : Env} {s : State} {m : MethodId} {below : List Frame} {meth : Method} {c : Code} (hst : l.stackTraces = false) {b L : Nat} {xs : Nat → Int32} (hL : L ≤ 2048) (C0 : lw_At p s m meth c b L xs) {D : va_G} {cs : ClassId × ClassId × ClassId} {ad : Nat → Nat} {cm : ClassId × ClassId} {am : Nat → Nat} {o : Nat} {cJ : ClassId} (F : LF s D cs ad cm am o cJ) {M N : Mem} {n : Nat} {fq : Nat → Int64} {H : Heap} {locs : List Loc} {cells slots : Nat} (hR : Rel M N n) (hn : n + 1 < 2 ^ 31) (hI : LI s D cs ad cm am o cJ M N fq H locs) (hc : cells + 1 ≤ 674246) (hsl : slots + 6 ≤ 7073367) {k : Nat} (hk : 4 * k + 4 ≤ L) {ls : Array Slot} (hl : lv_has ls 7 (LV b ad am o k))
    (kk : ∀ (M' N' : Mem) (n' : Nat) (fo' : Nat → Int64) (H' : Heap) (locs' : List Loc) (ls' : Array Slot), n' ≤ n + 1 → Rel M' N' n' → LI s D cs ad cm am o cJ M' N' fo' H' locs' → lv_has ls' 7 (LV b ad am o k) → W p l e room_1 s m #[Value.ref b] below meth c H' locs' (cells + 1) (slots + 6) (lw_Z below #[Value.ref b] s) (F0 m 773 ls' [])) : W p l e room_1 s m #[Value.ref b] below meth c H locs cells slots (lw_Z below #[Value.ref b] s) (F0 m 748 ls []) := by
  obtain ⟨hx, hb, hr, hml, hown, hts, hX, hbl, hlocks, hgv⟩ := id C0
  have hown : s.vm.findClass RL = some m.cls := hown
  have hts : ∀ w ∈ wsL_law, w.before #[Value.ref b] s = true := fun w h => hts w (wsL_law_in w h)
  have hbA : ¬ (fun q : Nat => s.heap.size ≤ q) b := Nat.not_le.mpr hbl
  obtain ⟨hP, hQ, hO, hS⟩ := hI
  have hj1 := F.1
  have hj2 := F.2.1
  have hok := hR.1
  refine lv_aload_n hx hb dL_law_748 rfl (lv_at hl 1 rfl) ?_
  refine lv_aload_n hx hb dL_law_749 rfl (lv_at hl 0 rfl) ?_
  refine lv_iload hx hb dL_law_750 (lv_at hl 4 rfl) ?_
  refine lv_iconst (v := 1) hx hb dL_law_752 (by decide) ?_
  refine lv_iadd hx hb dL_law_753 ?_
  refine wd_re (y := nI (4 * k + 1)) (show nI (4 * k) + nI 1 = nI (4 * k + 1) from nI_add _ _) ?_
  refine ll_sld hx hb hX hbl hbA hS (i := 4 * k + 1) (by omega) (by omega) dL_law_754 ?_
  refine xl_i (O := (dkO (D, cs, ad))) (W2 := wd (mdO (D, cm, am)) N ++ oW o cJ fq) hS (new_A F.2.2.2.2.2.1 hS) (va_P.app hQ hO) (ap_m F.2.2.2.2.2.2.2.2.1 F.2.2.2.2.2.2.2.2.2.1) (va_runV (As := [.int (xs (4 * k + 1))]) (rest := []) ⟨hx, hb, hml, hown, hts⟩ (c_X3_seen (G := (D, cs, ad)) hj1 hok H.size (xs (4 * k + 1))) (cwV 1 hts gL_law_X3_seen rfl rfl rfl (by decide +kernel) ⟨Nat.le_of_ble_eq_true rfl, Nat.le_of_ble_eq_true rfl⟩) (wd_pre F.2.2.1 hP (dk_lt (by omega)) dE_0 rfl) rfl rfl hl.1 rfl (lv_room (Nat.le_of_ble_eq_true rfl)) dL_law_755 ⟨by show cells + 0 ≤ 674246; omega, by show slots + 0 ≤ 7073367; omega⟩) (fun H locs hP hQO hS => ?_)
  have hQ := P_l hQO
  have hO := P_r hQO
  refine lv_aload_n hx hb dL_law_758 rfl (lv_at hl 2 rfl) ?_
  refine lv_aload_n hx hb dL_law_759 rfl (lv_at hl 0 rfl) ?_
  refine lv_iload hx hb dL_law_760 (lv_at hl 4 rfl) ?_
  refine lv_iconst (v := 1) hx hb dL_law_762 (by decide) ?_
  refine lv_iadd hx hb dL_law_763 ?_
  refine wd_re (y := nI (4 * k + 1)) (show nI (4 * k) + nI 1 = nI (4 * k + 1) from nI_add _ _) ?_
  refine ll_sld hx hb hX hbl hbA hS (i := 4 * k + 1) (by omega) (by omega) dL_law_764 ?_
  refine xl_i (O := (mdO (D, cm, am))) (W2 := wd (dkO (D, cs, ad)) M ++ oW o cJ fq) hS (new_A F.2.2.2.2.2.2.1 hS) (va_P.app hP hO) (ap_d F.2.2.2.2.2.2.2.2.1 F.2.2.2.2.2.2.2.2.2.2.1) (va_runV (As := [.int (xs (4 * k + 1))]) (rest := [.int (kcV M (xs (4 * k + 1)) (-1) 6)]) ⟨hx, hb, hml, hown, hts⟩ (c_X4_seen (G := (D, cm, am)) hj2 H.size (xs (4 * k + 1))) (cwV 1 hts gL_law_X4_seen rfl rfl rfl (by decide +kernel) ⟨Nat.le_of_ble_eq_true rfl, Nat.le_of_ble_eq_true rfl⟩) (wd_pre F.2.2.2.1 hQ (md_lt (by omega)) mE_0 rfl) rfl rfl hl.1 rfl (lv_room (Nat.le_of_ble_eq_true rfl)) dL_law_765 ⟨by show cells + 0 + 0 ≤ 674246; omega, by show slots + 0 + 0 ≤ 7073367; omega⟩) (fun H locs hQ hPO hS => ?_)
  have hP := P_l hPO
  have hO := P_r hPO
  refine lv_icmp_eq (tgt := 773) hx hb dL_law_768 (by decide) (fun _ => ?_) (fun c9 => absurd (A_kc hR (xs (4 * k + 1)) (-1) (by omega)) c9)
  refine W.widen (k := cells + 1) (n := slots + 6) (by omega) (by omega) ?_
  exact kk _ _ n _ _ _ _ (by omega) (hR) ⟨hP, hQ, hO, hS⟩ (lv_sub hl [0, 1, 2, 3, 4] rfl)
set_option maxRecDepth 100000 in
set_option maxHeartbeats 4000000 in
theorem law_0 {p : Program} {l : Launch} {e : Env} {s : State} {m : MethodId} {below : List Frame} {meth : Method} {c : Code} (hst : l.stackTraces = false) {b L : Nat} {xs : Nat → Int32} (hL : L ≤ 2048) (C0 : lw_At p s m meth c b L xs) {D : va_G} {cs : ClassId × ClassId × ClassId} {ad : Nat → Nat} {cm : ClassId × ClassId} {am : Nat → Nat} {o : Nat} {cJ : ClassId} (F : LF s D cs ad cm am o cJ) {M N : Mem} {n : Nat} {fq : Nat → Int64} {H : Heap} {locs : List Loc} {cells slots : Nat} (hR : Rel M N n) (hn : n + 1 < 2 ^ 31) (hI : LI s D cs ad cm am o cJ M N fq H locs) (hc : cells + 1 ≤ 674246) (hsl : slots + 6 ≤ 7073367) {k : Nat} (hk : 4 * k + 4 ≤ L) {ls : Array Slot} (hl : lv_has ls 7 (LV b ad am o k))
    (kk : ∀ (M' N' : Mem) (n' : Nat) (fo' : Nat → Int64) (H' : Heap) (locs' : List Loc) (ls' : Array Slot), n' ≤ n + 1 → Rel M' N' n' → LI s D cs ad cm am o cJ M' N' fo' H' locs' → lv_has ls' 7 (LV b ad am o k) → W p l e room_1 s m #[Value.ref b] below meth c H' locs' (cells + 1) (slots + 6) (lw_Z below #[Value.ref b] s) (F0 m 773 ls' [])) : W p l e room_1 s m #[Value.ref b] below meth c H locs cells slots (lw_Z below #[Value.ref b] s) (F0 m 124 ls []) := by
  obtain ⟨hx, hb, hr, hml, hown, hts, hX, hbl, hlocks, hgv⟩ := id C0
  have hown : s.vm.findClass RL = some m.cls := hown
  have hts : ∀ w ∈ wsL_law, w.before #[Value.ref b] s = true := fun w h => hts w (wsL_law_in w h)
  have hbA : ¬ (fun q : Nat => s.heap.size ≤ q) b := Nat.not_le.mpr hbl
  obtain ⟨hP, hQ, hO, hS⟩ := hI
  have hj1 := F.1
  have hj2 := F.2.1
  have hok := hR.1
  have hmf := fo_mfo hR 6 0 (by omega)
  rcases op_cases (fo M 6 0) with h0 | ⟨j, h0⟩
  · rw [h0] at hmf
    have emo : mopM N = up N 0 1 1 := by unfold mopM; rw [hmf]
    refine lv_aload_n hx hb dL_law_124 rfl (lv_at hl 1 rfl) ?_
    refine lv_aload_n hx hb dL_law_125 rfl (lv_at hl 3 rfl) ?_
    have hsub : ∀ q, hA (dkO (D, cs, ad)) o H.size q → s.heap.size ≤ q := fun q h => h.elim (new_A F.2.2.2.2.2.1 hS q) (fun e9 => by rw [e9]; exact F.2.2.2.2.2.2.2.1)
    refine xl_h (O := (dkO (D, cs, ad))) (W2 := wd (mdO (D, cm, am)) N) hS hsub hQ (fun k9 q9 h9 => by obtain ⟨k1, rfl⟩ := wd_at' h9; exact ⟨F.2.2.2.2.2.2.2.2.2.2.1 k9 k1, fun j9 hj9 => F.2.2.2.2.2.2.2.2.1 j9 k9 hj9 k1⟩) (vx_runSW (As := [.ref (ad 0), .ref o]) (rest := []) ⟨hx, hb, hml, hown, hts⟩ (c_L_open_n hst (G := (D, cs, ad)) hj1 hok (cJ := cJ) F.2.2.2.2.2.2.2.2.2.1 H.size h0) (vx_cwSW 2 hts gL_law_L_open rfl rfl rfl (by decide +kernel) ⟨Nat.le_of_ble_eq_true rfl, Nat.le_of_ble_eq_true rfl⟩) (hp_pre F.2.2.1 F.2.2.2.2.1 hP hO hS hsub F.2.2.2.2.2.2.2.2.2.2.2) rfl rfl hl.1 rfl (lv_room (Nat.le_of_ble_eq_true rfl)) dL_law_126 ⟨by show cells + 1 ≤ 674246; omega, by show slots + 6 ≤ 7073367; omega⟩) (fun fp H locs hfo hP hO hQ hS => ?_)
    refine lv_istore (lv' := [(5, .int 1), (0, .ref b), (1, .ref (ad 0)), (2, .ref (am 0)), (3, .ref o), (4, .int (nI (4 * k)))]) hx hb dL_law_129 hl (by decide) rfl (fun ls hl => ?_)
    refine lv_aload_n hx hb dL_law_131 rfl (lv_at hl 3 rfl) ?_
    refine xl_i (O := (mdO (D, cm, am))) (W2 := wd (dkO (D, cs, ad)) M ++ oW o cJ fp) hS (new_A F.2.2.2.2.2.2.1 hS) (va_P.app hP hO) (ap_d F.2.2.2.2.2.2.2.2.1 F.2.2.2.2.2.2.2.2.2.2.1) (va_runV (As := []) (rest := []) ⟨hx, hb, hml, hown, hts⟩ (c_X4_open (G := (D, cm, am)) hj2 H.size) (cwV 0 hts gL_law_X4_open rfl rfl rfl (by decide +kernel) ⟨Nat.le_of_ble_eq_true rfl, Nat.le_of_ble_eq_true rfl⟩) (wd_pre F.2.2.2.1 hQ (md_lt (by omega)) mE_0 rfl) rfl rfl hl.1 rfl (lv_room (Nat.le_of_ble_eq_true rfl)) dL_law_132 ⟨by show cells + 1 + 0 ≤ 674246; omega, by show slots + 6 + 0 ≤ 7073367; omega⟩) (fun H locs hQ hPO hS => ?_)
    have hP := P_l hPO
    have hO := P_r hPO
    refine lv_istore (lv' := [(6, .int (mopV N)), (5, .int 1), (0, .ref b), (1, .ref (ad 0)), (2, .ref (am 0)), (3, .ref o), (4, .int (nI (4 * k)))]) hx hb dL_law_135 hl (by decide) rfl (fun ls hl => ?_)
    refine lv_aload_n hx hb dL_law_137 rfl (lv_at hl 4 rfl) ?_
    refine xl_i (O := (mdO (D, cm, am))) (W2 := wd (dkO (D, cs, ad)) M ++ oW o cJ fp) hS (new_A F.2.2.2.2.2.2.1 hS) (va_P.app hP hO) (ap_d F.2.2.2.2.2.2.2.2.1 F.2.2.2.2.2.2.2.2.2.2.1) (va_runV (As := []) (rest := []) ⟨hx, hb, hml, hown, hts⟩ (c_X4_thrown (G := (D, cm, am)) hj2 H.size) (cwV 0 hts gL_law_X4_thrown rfl rfl rfl (by decide +kernel) ⟨Nat.le_of_ble_eq_true rfl, Nat.le_of_ble_eq_true rfl⟩) (wd_pre F.2.2.2.1 hQ (md_lt (by omega)) mE_0 rfl) rfl rfl hl.1 rfl (lv_room (Nat.le_of_ble_eq_true rfl)) dL_law_138 ⟨by show cells + 1 + 0 + 0 ≤ 674246; omega, by show slots + 6 + 0 + 0 ≤ 7073367; omega⟩) (fun H locs hQ hPO hS => ?_)
    have hP := P_l hPO
    have hO := P_r hPO
    refine lv_iload hx hb dL_law_141 (lv_at hl 1 rfl) ?_
    refine lv_icmp_eq (tgt := 148) hx hb dL_law_143 (by decide) (fun _ => ?_) (fun c9 => absurd (by rw [emo]; exact up_s _ _ _ _) c9)
    refine lv_iload hx hb dL_law_148 (lv_at hl 1 rfl) ?_
    refine lv_if_ne (tgt := 165) hx hb dL_law_150 (by decide) (fun _ => ?_) (fun c9 => absurd c9 (by decide))
    refine lv_goto (tgt := 773) hx hb dL_law_165 (by decide) ?_
    refine W.widen (k := cells + 1) (n := slots + 6) (by omega) (by omega) ?_
    exact kk _ _ n _ _ _ _ (by omega) (by rw [emo]; exact Rel_t 1 hR) ⟨hP, hQ, hO, hS⟩ (lv_sub hl [2, 3, 4, 5, 6] rfl)
  · rw [h0] at hmf
    have hj6 : j < 6 := by have := fo_some h0; omega
    have emo : mopM N = mbM N j := by unfold mopM; rw [hmf]
    have emv : mopV N = nI j := by unfold mopV; rw [hmf]
    refine lv_aload_n hx hb dL_law_124 rfl (lv_at hl 1 rfl) ?_
    refine lv_aload_n hx hb dL_law_125 rfl (lv_at hl 3 rfl) ?_
    have hsub : ∀ q, hA (dkO (D, cs, ad)) o H.size q → s.heap.size ≤ q := fun q h => h.elim (new_A F.2.2.2.2.2.1 hS q) (fun e9 => by rw [e9]; exact F.2.2.2.2.2.2.2.1)
    refine xl_h (O := (dkO (D, cs, ad))) (W2 := wd (mdO (D, cm, am)) N) hS hsub hQ (fun k9 q9 h9 => by obtain ⟨k1, rfl⟩ := wd_at' h9; exact ⟨F.2.2.2.2.2.2.2.2.2.2.1 k9 k1, fun j9 hj9 => F.2.2.2.2.2.2.2.2.1 j9 k9 hj9 k1⟩) (vx_runSW (As := [.ref (ad 0), .ref o]) (rest := []) ⟨hx, hb, hml, hown, hts⟩ (c_L_open_s (G := (D, cs, ad)) hj1 hok (cJ := cJ) F.2.2.2.2.2.2.2.2.2.1 H.size h0) (vx_cwSW 2 hts gL_law_L_open rfl rfl rfl (by decide +kernel) ⟨Nat.le_of_ble_eq_true rfl, Nat.le_of_ble_eq_true rfl⟩) (hp_pre F.2.2.1 F.2.2.2.2.1 hP hO hS hsub F.2.2.2.2.2.2.2.2.2.2.2) rfl rfl hl.1 rfl (lv_room (Nat.le_of_ble_eq_true rfl)) dL_law_126 ⟨by show cells + 0 ≤ 674246; omega, by show slots + 0 ≤ 7073367; omega⟩) (fun fp H locs hfo hP hO hQ hS => ?_)
    refine lv_istore (lv' := [(5, .int 0), (0, .ref b), (1, .ref (ad 0)), (2, .ref (am 0)), (3, .ref o), (4, .int (nI (4 * k)))]) hx hb dL_law_129 hl (by decide) rfl (fun ls hl => ?_)
    refine lv_aload_n hx hb dL_law_131 rfl (lv_at hl 3 rfl) ?_
    refine xl_i (O := (mdO (D, cm, am))) (W2 := wd (dkO (D, cs, ad)) (bgM M j (M 0 2)) ++ oW o cJ fp) hS (new_A F.2.2.2.2.2.2.1 hS) (va_P.app hP hO) (ap_d F.2.2.2.2.2.2.2.2.1 F.2.2.2.2.2.2.2.2.2.2.1) (va_runV (As := []) (rest := []) ⟨hx, hb, hml, hown, hts⟩ (c_X4_open (G := (D, cm, am)) hj2 H.size) (cwV 0 hts gL_law_X4_open rfl rfl rfl (by decide +kernel) ⟨Nat.le_of_ble_eq_true rfl, Nat.le_of_ble_eq_true rfl⟩) (wd_pre F.2.2.2.1 hQ (md_lt (by omega)) mE_0 rfl) rfl rfl hl.1 rfl (lv_room (Nat.le_of_ble_eq_true rfl)) dL_law_132 ⟨by show cells + 0 + 0 ≤ 674246; omega, by show slots + 0 + 0 ≤ 7073367; omega⟩) (fun H locs hQ hPO hS => ?_)
    have hP := P_l hPO
    have hO := P_r hPO
    refine lv_istore (lv' := [(6, .int (mopV N)), (5, .int 0), (0, .ref b), (1, .ref (ad 0)), (2, .ref (am 0)), (3, .ref o), (4, .int (nI (4 * k)))]) hx hb dL_law_135 hl (by decide) rfl (fun ls hl => ?_)
    refine lv_aload_n hx hb dL_law_137 rfl (lv_at hl 4 rfl) ?_
    refine xl_i (O := (mdO (D, cm, am))) (W2 := wd (dkO (D, cs, ad)) (bgM M j (M 0 2)) ++ oW o cJ fp) hS (new_A F.2.2.2.2.2.2.1 hS) (va_P.app hP hO) (ap_d F.2.2.2.2.2.2.2.2.1 F.2.2.2.2.2.2.2.2.2.2.1) (va_runV (As := []) (rest := []) ⟨hx, hb, hml, hown, hts⟩ (c_X4_thrown (G := (D, cm, am)) hj2 H.size) (cwV 0 hts gL_law_X4_thrown rfl rfl rfl (by decide +kernel) ⟨Nat.le_of_ble_eq_true rfl, Nat.le_of_ble_eq_true rfl⟩) (wd_pre F.2.2.2.1 hQ (md_lt (by omega)) mE_0 rfl) rfl rfl hl.1 rfl (lv_room (Nat.le_of_ble_eq_true rfl)) dL_law_138 ⟨by show cells + 0 + 0 + 0 ≤ 674246; omega, by show slots + 0 + 0 + 0 ≤ 7073367; omega⟩) (fun H locs hQ hPO hS => ?_)
    have hP := P_l hPO
    have hO := P_r hPO
    refine lv_iload hx hb dL_law_141 (lv_at hl 1 rfl) ?_
    refine lv_icmp_eq (tgt := 148) hx hb dL_law_143 (by decide) (fun _ => ?_) (fun c9 => absurd (by rw [emo]; unfold mbM; exact up_s _ _ _ _) c9)
    refine lv_iload hx hb dL_law_148 (lv_at hl 1 rfl) ?_
    refine lv_if_ne (tgt := 165) hx hb dL_law_150 (by decide) (fun c9 => absurd rfl c9) (fun _ => ?_)
    refine lv_aload_n hx hb dL_law_153 rfl (lv_at hl 5 rfl) ?_
    refine lv_iconst (v := 0) hx hb dL_law_154 (by decide) ?_
    refine ll_lald hx hb F.2.2.2.2.1 hO hfo dL_law_155 ?_
    refine lv_iload hx hb dL_law_156 (lv_at hl 0 rfl) ?_
    refine lv_i2l hx hb dL_law_158 rfl ?_
    refine ll_lcmp (by rw [emv]) hx hb dL_law_159 ?_
    refine lv_if_eq (tgt := 165) hx hb dL_law_160 (by decide) (fun _ => ?_) (fun c9 => absurd rfl c9)
    refine lv_goto (tgt := 773) hx hb dL_law_165 (by decide) ?_
    refine W.widen (k := cells + 1) (n := slots + 6) (by omega) (by omega) ?_
    exact kk _ _ n _ _ _ _ (by omega) (by rw [emo]; exact Rel_open hR hj6) ⟨hP, hQ, hO, hS⟩ (lv_sub hl [2, 3, 4, 5, 6] rfl)
set_option maxRecDepth 100000 in
set_option maxHeartbeats 4000000 in
theorem law_1 {p : Program} {l : Launch} {e : Env} {s : State} {m : MethodId} {below : List Frame} {meth : Method} {c : Code} (hst : l.stackTraces = false) {b L : Nat} {xs : Nat → Int32} (hL : L ≤ 2048) (C0 : lw_At p s m meth c b L xs) {D : va_G} {cs : ClassId × ClassId × ClassId} {ad : Nat → Nat} {cm : ClassId × ClassId} {am : Nat → Nat} {o : Nat} {cJ : ClassId} (F : LF s D cs ad cm am o cJ) {M N : Mem} {n : Nat} {fq : Nat → Int64} {H : Heap} {locs : List Loc} {cells slots : Nat} (hR : Rel M N n) (hn : n + 1 < 2 ^ 31) (hI : LI s D cs ad cm am o cJ M N fq H locs) (hc : cells + 1 ≤ 674246) (hsl : slots + 6 ≤ 7073367) {k : Nat} (hk : 4 * k + 4 ≤ L) {ls : Array Slot} (hl : lv_has ls 7 (LV b ad am o k))
    (kk : ∀ (M' N' : Mem) (n' : Nat) (fo' : Nat → Int64) (H' : Heap) (locs' : List Loc) (ls' : Array Slot), n' ≤ n + 1 → Rel M' N' n' → LI s D cs ad cm am o cJ M' N' fo' H' locs' → lv_has ls' 7 (LV b ad am o k) → W p l e room_1 s m #[Value.ref b] below meth c H' locs' (cells + 1) (slots + 6) (lw_Z below #[Value.ref b] s) (F0 m 773 ls' [])) : W p l e room_1 s m #[Value.ref b] below meth c H locs cells slots (lw_Z below #[Value.ref b] s) (F0 m 168 ls []) := by
  obtain ⟨hx, hb, hr, hml, hown, hts, hX, hbl, hlocks, hgv⟩ := id C0
  have hown : s.vm.findClass RL = some m.cls := hown
  have hts : ∀ w ∈ wsL_law, w.before #[Value.ref b] s = true := fun w h => hts w (wsL_law_in w h)
  have hbA : ¬ (fun q : Nat => s.heap.size ≤ q) b := Nat.not_le.mpr hbl
  obtain ⟨hP, hQ, hO, hS⟩ := hI
  have hj1 := F.1
  have hj2 := F.2.1
  have hok := hR.1
  have hmo := os_mo hR (xs (4 * k + 1))
  rcases op_cases (osV M (xs (4 * k + 1))) with ho | ⟨j, ho⟩
  · rw [ho] at hmo
    have em : mclM N (xs (4 * k + 1)) = up N 0 1 1 := by unfold mclM; rw [hmo]
    refine lv_aload_n hx hb dL_law_168 rfl (lv_at hl 1 rfl) ?_
    refine lv_aload_n hx hb dL_law_169 rfl (lv_at hl 0 rfl) ?_
    refine lv_iload hx hb dL_law_170 (lv_at hl 4 rfl) ?_
    refine lv_iconst (v := 1) hx hb dL_law_172 (by decide) ?_
    refine lv_iadd hx hb dL_law_173 ?_
    refine wd_re (y := nI (4 * k + 1)) (show nI (4 * k) + nI 1 = nI (4 * k + 1) from nI_add _ _) ?_
    refine ll_sld hx hb hX hbl hbA hS (i := 4 * k + 1) (by omega) (by omega) dL_law_174 ?_
    refine lv_aload_n hx hb dL_law_175 rfl (lv_at hl 3 rfl) ?_
    have hsub : ∀ q, hA (dkO (D, cs, ad)) o H.size q → s.heap.size ≤ q := fun q h => h.elim (new_A F.2.2.2.2.2.1 hS q) (fun e9 => by rw [e9]; exact F.2.2.2.2.2.2.2.1)
    refine xl_h (O := (dkO (D, cs, ad))) (W2 := wd (mdO (D, cm, am)) N) hS hsub hQ (fun k9 q9 h9 => by obtain ⟨k1, rfl⟩ := wd_at' h9; exact ⟨F.2.2.2.2.2.2.2.2.2.2.1 k9 k1, fun j9 hj9 => F.2.2.2.2.2.2.2.2.1 j9 k9 hj9 k1⟩) (vx_runSW (As := [.ref (ad 0), .int (xs (4 * k + 1)), .ref o]) (rest := []) ⟨hx, hb, hml, hown, hts⟩ (c_L_close_n hst (G := (D, cs, ad)) hj1 hok (cJ := cJ) F.2.2.2.2.2.2.2.2.2.1 H.size (xs (4 * k + 1)) ho) (vx_cwSW 3 hts gL_law_L_close rfl rfl rfl (by decide +kernel) ⟨Nat.le_of_ble_eq_true rfl, Nat.le_of_ble_eq_true rfl⟩) (hp_pre F.2.2.1 F.2.2.2.2.1 hP hO hS hsub F.2.2.2.2.2.2.2.2.2.2.2) rfl rfl hl.1 rfl (lv_room (Nat.le_of_ble_eq_true rfl)) dL_law_176 ⟨by show cells + 1 ≤ 674246; omega, by show slots + 6 ≤ 7073367; omega⟩) (fun fp H locs hfo hP hO hQ hS => ?_)
    refine lv_istore (lv' := [(5, .int 1), (0, .ref b), (1, .ref (ad 0)), (2, .ref (am 0)), (3, .ref o), (4, .int (nI (4 * k)))]) hx hb dL_law_179 hl (by decide) rfl (fun ls hl => ?_)
    refine lv_aload_n hx hb dL_law_181 rfl (lv_at hl 3 rfl) ?_
    refine lv_aload_n hx hb dL_law_182 rfl (lv_at hl 1 rfl) ?_
    refine lv_iload hx hb dL_law_183 (lv_at hl 5 rfl) ?_
    refine lv_iconst (v := 1) hx hb dL_law_185 (by decide) ?_
    refine lv_iadd hx hb dL_law_186 ?_
    refine wd_re (y := nI (4 * k + 1)) (show nI (4 * k) + nI 1 = nI (4 * k + 1) from nI_add _ _) ?_
    refine ll_sld hx hb hX hbl hbA hS (i := 4 * k + 1) (by omega) (by omega) dL_law_187 ?_
    refine xl_i (O := (mdO (D, cm, am))) (W2 := wd (dkO (D, cs, ad)) M ++ oW o cJ fp) hS (new_A F.2.2.2.2.2.2.1 hS) (va_P.app hP hO) (ap_d F.2.2.2.2.2.2.2.2.1 F.2.2.2.2.2.2.2.2.2.2.1) (va_runV (As := [.int (xs (4 * k + 1))]) (rest := []) ⟨hx, hb, hml, hown, hts⟩ (c_X4_close (G := (D, cm, am)) hj2 H.size (xs (4 * k + 1))) (cwV 1 hts gL_law_X4_close rfl rfl rfl (by decide +kernel) ⟨Nat.le_of_ble_eq_true rfl, Nat.le_of_ble_eq_true rfl⟩) (wd_pre F.2.2.2.1 hQ (md_lt (by omega)) mE_0 rfl) rfl rfl hl.1 rfl (lv_room (Nat.le_of_ble_eq_true rfl)) dL_law_188 ⟨by show cells + 1 + 0 ≤ 674246; omega, by show slots + 6 + 0 ≤ 7073367; omega⟩) (fun H locs hQ hPO hS => ?_)
    have hP := P_l hPO
    have hO := P_r hPO
    refine lv_istore (lv' := [(6, .int (mclV N (xs (4 * k + 1)))), (5, .int 1), (0, .ref b), (1, .ref (ad 0)), (2, .ref (am 0)), (3, .ref o), (4, .int (nI (4 * k)))]) hx hb dL_law_191 hl (by decide) rfl (fun ls hl => ?_)
    refine lv_aload_n hx hb dL_law_193 rfl (lv_at hl 4 rfl) ?_
    refine xl_i (O := (mdO (D, cm, am))) (W2 := wd (dkO (D, cs, ad)) M ++ oW o cJ fp) hS (new_A F.2.2.2.2.2.2.1 hS) (va_P.app hP hO) (ap_d F.2.2.2.2.2.2.2.2.1 F.2.2.2.2.2.2.2.2.2.2.1) (va_runV (As := []) (rest := []) ⟨hx, hb, hml, hown, hts⟩ (c_X4_thrown (G := (D, cm, am)) hj2 H.size) (cwV 0 hts gL_law_X4_thrown rfl rfl rfl (by decide +kernel) ⟨Nat.le_of_ble_eq_true rfl, Nat.le_of_ble_eq_true rfl⟩) (wd_pre F.2.2.2.1 hQ (md_lt (by omega)) mE_0 rfl) rfl rfl hl.1 rfl (lv_room (Nat.le_of_ble_eq_true rfl)) dL_law_194 ⟨by show cells + 1 + 0 + 0 ≤ 674246; omega, by show slots + 6 + 0 + 0 ≤ 7073367; omega⟩) (fun H locs hQ hPO hS => ?_)
    have hP := P_l hPO
    have hO := P_r hPO
    refine lv_iload hx hb dL_law_197 (lv_at hl 1 rfl) ?_
    refine lv_icmp_eq (tgt := 204) hx hb dL_law_199 (by decide) (fun _ => ?_) (fun c9 => absurd (by rw [em]; exact up_s _ _ _ _) c9)
    refine lv_iload hx hb dL_law_204 (lv_at hl 1 rfl) ?_
    refine lv_if_ne (tgt := 221) hx hb dL_law_206 (by decide) (fun _ => ?_) (fun c9 => absurd c9 (by decide))
    refine lv_goto (tgt := 773) hx hb dL_law_221 (by decide) ?_
    refine W.widen (k := cells + 1) (n := slots + 6) (by omega) (by omega) ?_
    exact kk _ _ n _ _ _ _ (by omega) (by rw [em]; exact Rel_t 1 hR) ⟨hP, hQ, hO, hS⟩ (lv_sub hl [2, 3, 4, 5, 6] rfl)
  · obtain ⟨hj6, hx1, hon⟩ := osV_some ho
    rw [ho] at hmo
    rw [hx1] at hmo
    have em : mclM N (nI j) = goM (up N 0 1 0) j := by unfold mclM; rw [hmo]
    have ev : mclV N (nI j) = goV (up N 0 1 0) j := by unfold mclV; rw [hmo]
    obtain ⟨e1, e2⟩ := Rel_end (by omega) (Rel_t 0 hR) hj6
    refine lv_aload_n hx hb dL_law_168 rfl (lv_at hl 1 rfl) ?_
    refine lv_aload_n hx hb dL_law_169 rfl (lv_at hl 0 rfl) ?_
    refine lv_iload hx hb dL_law_170 (lv_at hl 4 rfl) ?_
    refine lv_iconst (v := 1) hx hb dL_law_172 (by decide) ?_
    refine lv_iadd hx hb dL_law_173 ?_
    refine wd_re (y := nI (4 * k + 1)) (show nI (4 * k) + nI 1 = nI (4 * k + 1) from nI_add _ _) ?_
    refine ll_sld hx hb hX hbl hbA hS (i := 4 * k + 1) (by omega) (by omega) dL_law_174 ?_
    refine wd_re (y := nI j) (hx1) ?_
    refine lv_aload_n hx hb dL_law_175 rfl (lv_at hl 3 rfl) ?_
    have hsub : ∀ q, hA (dkO (D, cs, ad)) o H.size q → s.heap.size ≤ q := fun q h => h.elim (new_A F.2.2.2.2.2.1 hS q) (fun e9 => by rw [e9]; exact F.2.2.2.2.2.2.2.1)
    refine xl_h (O := (dkO (D, cs, ad))) (W2 := wd (mdO (D, cm, am)) N) hS hsub hQ (fun k9 q9 h9 => by obtain ⟨k1, rfl⟩ := wd_at' h9; exact ⟨F.2.2.2.2.2.2.2.2.2.2.1 k9 k1, fun j9 hj9 => F.2.2.2.2.2.2.2.2.1 j9 k9 hj9 k1⟩) (vx_runSW (As := [.ref (ad 0), .int (nI j), .ref o]) (rest := []) ⟨hx, hb, hml, hown, hts⟩ (c_L_close_s (G := (D, cs, ad)) hj1 hok (cJ := cJ) F.2.2.2.2.2.2.2.2.2.1 H.size hj6 hon) (vx_cwSW 3 hts gL_law_L_close rfl rfl rfl (by decide +kernel) ⟨Nat.le_of_ble_eq_true rfl, Nat.le_of_ble_eq_true rfl⟩) (hp_pre F.2.2.1 F.2.2.2.2.1 hP hO hS hsub F.2.2.2.2.2.2.2.2.2.2.2) rfl rfl hl.1 rfl (lv_room (Nat.le_of_ble_eq_true rfl)) dL_law_176 ⟨by show cells + 0 ≤ 674246; omega, by show slots + 0 ≤ 7073367; omega⟩) (fun fp H locs hfo hP hO hQ hS => ?_)
    refine lv_istore (lv' := [(5, .int 0), (0, .ref b), (1, .ref (ad 0)), (2, .ref (am 0)), (3, .ref o), (4, .int (nI (4 * k)))]) hx hb dL_law_179 hl (by decide) rfl (fun ls hl => ?_)
    refine lv_aload_n hx hb dL_law_181 rfl (lv_at hl 3 rfl) ?_
    refine lv_aload_n hx hb dL_law_182 rfl (lv_at hl 1 rfl) ?_
    refine lv_iload hx hb dL_law_183 (lv_at hl 5 rfl) ?_
    refine lv_iconst (v := 1) hx hb dL_law_185 (by decide) ?_
    refine lv_iadd hx hb dL_law_186 ?_
    refine wd_re (y := nI (4 * k + 1)) (show nI (4 * k) + nI 1 = nI (4 * k + 1) from nI_add _ _) ?_
    refine ll_sld hx hb hX hbl hbA hS (i := 4 * k + 1) (by omega) (by omega) dL_law_187 ?_
    refine wd_re (y := nI j) (hx1) ?_
    refine xl_i (O := (mdO (D, cm, am))) (W2 := wd (dkO (D, cs, ad)) (endM M j (nI j)) ++ oW o cJ fp) hS (new_A F.2.2.2.2.2.2.1 hS) (va_P.app hP hO) (ap_d F.2.2.2.2.2.2.2.2.1 F.2.2.2.2.2.2.2.2.2.2.1) (va_runV (As := [.int (nI j)]) (rest := []) ⟨hx, hb, hml, hown, hts⟩ (c_X4_close (G := (D, cm, am)) hj2 H.size (nI j)) (cwV 1 hts gL_law_X4_close rfl rfl rfl (by decide +kernel) ⟨Nat.le_of_ble_eq_true rfl, Nat.le_of_ble_eq_true rfl⟩) (wd_pre F.2.2.2.1 hQ (md_lt (by omega)) mE_0 rfl) rfl rfl hl.1 rfl (lv_room (Nat.le_of_ble_eq_true rfl)) dL_law_188 ⟨by show cells + 0 + 0 ≤ 674246; omega, by show slots + 0 + 0 ≤ 7073367; omega⟩) (fun H locs hQ hPO hS => ?_)
    have hP := P_l hPO
    have hO := P_r hPO
    refine lv_istore (lv' := [(6, .int (mclV N (nI j))), (5, .int 0), (0, .ref b), (1, .ref (ad 0)), (2, .ref (am 0)), (3, .ref o), (4, .int (nI (4 * k)))]) hx hb dL_law_191 hl (by decide) rfl (fun ls hl => ?_)
    refine lv_aload_n hx hb dL_law_193 rfl (lv_at hl 4 rfl) ?_
    refine xl_i (O := (mdO (D, cm, am))) (W2 := wd (dkO (D, cs, ad)) (endM M j (nI j)) ++ oW o cJ fp) hS (new_A F.2.2.2.2.2.2.1 hS) (va_P.app hP hO) (ap_d F.2.2.2.2.2.2.2.2.1 F.2.2.2.2.2.2.2.2.2.2.1) (va_runV (As := []) (rest := []) ⟨hx, hb, hml, hown, hts⟩ (c_X4_thrown (G := (D, cm, am)) hj2 H.size) (cwV 0 hts gL_law_X4_thrown rfl rfl rfl (by decide +kernel) ⟨Nat.le_of_ble_eq_true rfl, Nat.le_of_ble_eq_true rfl⟩) (wd_pre F.2.2.2.1 hQ (md_lt (by omega)) mE_0 rfl) rfl rfl hl.1 rfl (lv_room (Nat.le_of_ble_eq_true rfl)) dL_law_194 ⟨by show cells + 0 + 0 + 0 ≤ 674246; omega, by show slots + 0 + 0 + 0 ≤ 7073367; omega⟩) (fun H locs hQ hPO hS => ?_)
    have hP := P_l hPO
    have hO := P_r hPO
    refine lv_iload hx hb dL_law_197 (lv_at hl 1 rfl) ?_
    refine lv_icmp_eq (tgt := 204) hx hb dL_law_199 (by decide) (fun _ => ?_) (fun c9 => absurd (by rw [em, go_t]; exact up_s _ _ _ _) c9)
    refine lv_iload hx hb dL_law_204 (lv_at hl 1 rfl) ?_
    refine lv_if_ne (tgt := 221) hx hb dL_law_206 (by decide) (fun c9 => absurd rfl c9) (fun _ => ?_)
    refine lv_aload_n hx hb dL_law_209 rfl (lv_at hl 5 rfl) ?_
    refine lv_iconst (v := 0) hx hb dL_law_210 (by decide) ?_
    refine ll_lald hx hb F.2.2.2.2.1 hO hfo dL_law_211 ?_
    refine lv_iload hx hb dL_law_212 (lv_at hl 0 rfl) ?_
    refine lv_i2l hx hb dL_law_214 rfl ?_
    refine ll_lcmp (by rw [ev, e2]) hx hb dL_law_215 ?_
    refine lv_if_eq (tgt := 221) hx hb dL_law_216 (by decide) (fun _ => ?_) (fun c9 => absurd rfl c9)
    refine lv_goto (tgt := 773) hx hb dL_law_221 (by decide) ?_
    refine W.widen (k := cells + 1) (n := slots + 6) (by omega) (by omega) ?_
    exact kk _ _ n _ _ _ _ (by omega) (by rw [em]; exact e1) ⟨hP, hQ, hO, hS⟩ (lv_sub hl [2, 3, 4, 5, 6] rfl)
set_option maxRecDepth 100000 in
set_option maxHeartbeats 4000000 in
theorem law_2 {p : Program} {l : Launch} {e : Env} {s : State} {m : MethodId} {below : List Frame} {meth : Method} {c : Code} (hst : l.stackTraces = false) {b L : Nat} {xs : Nat → Int32} (hL : L ≤ 2048) (C0 : lw_At p s m meth c b L xs) {D : va_G} {cs : ClassId × ClassId × ClassId} {ad : Nat → Nat} {cm : ClassId × ClassId} {am : Nat → Nat} {o : Nat} {cJ : ClassId} (F : LF s D cs ad cm am o cJ) {M N : Mem} {n : Nat} {fq : Nat → Int64} {H : Heap} {locs : List Loc} {cells slots : Nat} (hR : Rel M N n) (hn : n + 1 < 2 ^ 31) (hI : LI s D cs ad cm am o cJ M N fq H locs) (hc : cells + 1 ≤ 674246) (hsl : slots + 6 ≤ 7073367) {k : Nat} (hk : 4 * k + 4 ≤ L) {ls : Array Slot} (hl : lv_has ls 7 (LV b ad am o k))
    (kk : ∀ (M' N' : Mem) (n' : Nat) (fo' : Nat → Int64) (H' : Heap) (locs' : List Loc) (ls' : Array Slot), n' ≤ n + 1 → Rel M' N' n' → LI s D cs ad cm am o cJ M' N' fo' H' locs' → lv_has ls' 7 (LV b ad am o k) → W p l e room_1 s m #[Value.ref b] below meth c H' locs' (cells + 1) (slots + 6) (lw_Z below #[Value.ref b] s) (F0 m 773 ls' [])) : W p l e room_1 s m #[Value.ref b] below meth c H locs cells slots (lw_Z below #[Value.ref b] s) (F0 m 224 ls []) := by
  obtain ⟨hx, hb, hr, hml, hown, hts, hX, hbl, hlocks, hgv⟩ := id C0
  have hown : s.vm.findClass RL = some m.cls := hown
  have hts : ∀ w ∈ wsL_law, w.before #[Value.ref b] s = true := fun w h => hts w (wsL_law_in w h)
  have hbA : ¬ (fun q : Nat => s.heap.size ≤ q) b := Nat.not_le.mpr hbl
  obtain ⟨hP, hQ, hO, hS⟩ := hI
  have hj1 := F.1
  have hj2 := F.2.1
  have hok := hR.1
  have hmo := os_mo hR (xs (4 * k + 1))
  rcases op_cases (osV M (xs (4 * k + 1))) with ho | ⟨j, ho⟩
  · rw [ho] at hmo
    have em : mkpM N (xs (4 * k + 1)) = up N 0 1 1 := by unfold mkpM; rw [hmo]
    refine lv_aload_n hx hb dL_law_224 rfl (lv_at hl 1 rfl) ?_
    refine lv_aload_n hx hb dL_law_225 rfl (lv_at hl 0 rfl) ?_
    refine lv_iload hx hb dL_law_226 (lv_at hl 4 rfl) ?_
    refine lv_iconst (v := 1) hx hb dL_law_228 (by decide) ?_
    refine lv_iadd hx hb dL_law_229 ?_
    refine wd_re (y := nI (4 * k + 1)) (show nI (4 * k) + nI 1 = nI (4 * k + 1) from nI_add _ _) ?_
    refine ll_sld hx hb hX hbl hbA hS (i := 4 * k + 1) (by omega) (by omega) dL_law_230 ?_
    have hsub : ∀ q, hA (dkO (D, cs, ad)) o H.size q → s.heap.size ≤ q := fun q h => h.elim (new_A F.2.2.2.2.2.1 hS q) (fun e9 => by rw [e9]; exact F.2.2.2.2.2.2.2.1)
    refine xl_h (O := (dkO (D, cs, ad))) (W2 := wd (mdO (D, cm, am)) N) hS hsub hQ (fun k9 q9 h9 => by obtain ⟨k1, rfl⟩ := wd_at' h9; exact ⟨F.2.2.2.2.2.2.2.2.2.2.1 k9 k1, fun j9 hj9 => F.2.2.2.2.2.2.2.2.1 j9 k9 hj9 k1⟩) (vx_runSW (As := [.ref (ad 0), .int (xs (4 * k + 1))]) (rest := []) ⟨hx, hb, hml, hown, hts⟩ (c_L_keep_n hst (G := (D, cs, ad)) hj1 hok (cJ := cJ) F.2.2.2.2.2.2.2.2.2.1 H.size (xs (4 * k + 1)) ho) (vx_cwSW 2 hts gL_law_L_keep rfl rfl rfl (by decide +kernel) ⟨Nat.le_of_ble_eq_true rfl, Nat.le_of_ble_eq_true rfl⟩) (hp_pre F.2.2.1 F.2.2.2.2.1 hP hO hS hsub F.2.2.2.2.2.2.2.2.2.2.2) rfl rfl hl.1 rfl (lv_room (Nat.le_of_ble_eq_true rfl)) dL_law_231 ⟨by show cells + 1 ≤ 674246; omega, by show slots + 6 ≤ 7073367; omega⟩) (fun fp H locs hfo hP hO hQ hS => ?_)
    refine lv_istore (lv' := [(5, .int 1), (0, .ref b), (1, .ref (ad 0)), (2, .ref (am 0)), (3, .ref o), (4, .int (nI (4 * k)))]) hx hb dL_law_234 hl (by decide) rfl (fun ls hl => ?_)
    refine lv_aload_n hx hb dL_law_236 rfl (lv_at hl 3 rfl) ?_
    refine lv_aload_n hx hb dL_law_237 rfl (lv_at hl 1 rfl) ?_
    refine lv_iload hx hb dL_law_238 (lv_at hl 5 rfl) ?_
    refine lv_iconst (v := 1) hx hb dL_law_240 (by decide) ?_
    refine lv_iadd hx hb dL_law_241 ?_
    refine wd_re (y := nI (4 * k + 1)) (show nI (4 * k) + nI 1 = nI (4 * k + 1) from nI_add _ _) ?_
    refine ll_sld hx hb hX hbl hbA hS (i := 4 * k + 1) (by omega) (by omega) dL_law_242 ?_
    refine xl_v (O := (mdO (D, cm, am))) (W2 := wd (dkO (D, cs, ad)) M ++ oW o cJ fp) hS (new_A F.2.2.2.2.2.2.1 hS) (va_P.app hP hO) (ap_d F.2.2.2.2.2.2.2.2.1 F.2.2.2.2.2.2.2.2.2.2.1) (va_runV (As := [.int (xs (4 * k + 1))]) (rest := []) ⟨hx, hb, hml, hown, hts⟩ (c_X4_keep (G := (D, cm, am)) hj2 H.size (xs (4 * k + 1))) (cwV 1 hts gL_law_X4_keep rfl rfl rfl (by decide +kernel) ⟨Nat.le_of_ble_eq_true rfl, Nat.le_of_ble_eq_true rfl⟩) (wd_pre F.2.2.2.1 hQ (md_lt (by omega)) mE_0 rfl) rfl rfl hl.1 rfl (lv_room (Nat.le_of_ble_eq_true rfl)) dL_law_243 ⟨by show cells + 1 + 0 ≤ 674246; omega, by show slots + 6 + 0 ≤ 7073367; omega⟩) (fun H locs hQ hPO hS => ?_)
    have hP := P_l hPO
    have hO := P_r hPO
    refine lv_aload_n hx hb dL_law_246 rfl (lv_at hl 3 rfl) ?_
    refine xl_i (O := (mdO (D, cm, am))) (W2 := wd (dkO (D, cs, ad)) M ++ oW o cJ fp) hS (new_A F.2.2.2.2.2.2.1 hS) (va_P.app hP hO) (ap_d F.2.2.2.2.2.2.2.2.1 F.2.2.2.2.2.2.2.2.2.2.1) (va_runV (As := []) (rest := []) ⟨hx, hb, hml, hown, hts⟩ (c_X4_thrown (G := (D, cm, am)) hj2 H.size) (cwV 0 hts gL_law_X4_thrown rfl rfl rfl (by decide +kernel) ⟨Nat.le_of_ble_eq_true rfl, Nat.le_of_ble_eq_true rfl⟩) (wd_pre F.2.2.2.1 hQ (md_lt (by omega)) mE_0 rfl) rfl rfl hl.1 rfl (lv_room (Nat.le_of_ble_eq_true rfl)) dL_law_247 ⟨by show cells + 1 + 0 + 0 ≤ 674246; omega, by show slots + 6 + 0 + 0 ≤ 7073367; omega⟩) (fun H locs hQ hPO hS => ?_)
    have hP := P_l hPO
    have hO := P_r hPO
    refine lv_iload hx hb dL_law_250 (lv_at hl 0 rfl) ?_
    refine lv_icmp_eq (tgt := 257) hx hb dL_law_252 (by decide) (fun _ => ?_) (fun c9 => absurd (by rw [em]; exact up_s _ _ _ _) c9)
    refine lv_goto (tgt := 773) hx hb dL_law_257 (by decide) ?_
    refine W.widen (k := cells + 1) (n := slots + 6) (by omega) (by omega) ?_
    exact kk _ _ n _ _ _ _ (by omega) (by rw [em]; exact Rel_t 1 hR) ⟨hP, hQ, hO, hS⟩ (lv_sub hl [1, 2, 3, 4, 5] rfl)
  · obtain ⟨hj6, hx1, hon⟩ := osV_some ho
    rw [ho] at hmo
    rw [hx1] at hmo
    have em : mkpM N (nI j) = maA N j := by unfold mkpM; rw [hmo]; rfl
    refine lv_aload_n hx hb dL_law_224 rfl (lv_at hl 1 rfl) ?_
    refine lv_aload_n hx hb dL_law_225 rfl (lv_at hl 0 rfl) ?_
    refine lv_iload hx hb dL_law_226 (lv_at hl 4 rfl) ?_
    refine lv_iconst (v := 1) hx hb dL_law_228 (by decide) ?_
    refine lv_iadd hx hb dL_law_229 ?_
    refine wd_re (y := nI (4 * k + 1)) (show nI (4 * k) + nI 1 = nI (4 * k + 1) from nI_add _ _) ?_
    refine ll_sld hx hb hX hbl hbA hS (i := 4 * k + 1) (by omega) (by omega) dL_law_230 ?_
    refine wd_re (y := nI j) (hx1) ?_
    have hsub : ∀ q, hA (dkO (D, cs, ad)) o H.size q → s.heap.size ≤ q := fun q h => h.elim (new_A F.2.2.2.2.2.1 hS q) (fun e9 => by rw [e9]; exact F.2.2.2.2.2.2.2.1)
    refine xl_h (O := (dkO (D, cs, ad))) (W2 := wd (mdO (D, cm, am)) N) hS hsub hQ (fun k9 q9 h9 => by obtain ⟨k1, rfl⟩ := wd_at' h9; exact ⟨F.2.2.2.2.2.2.2.2.2.2.1 k9 k1, fun j9 hj9 => F.2.2.2.2.2.2.2.2.1 j9 k9 hj9 k1⟩) (vx_runSW (As := [.ref (ad 0), .int (nI j)]) (rest := []) ⟨hx, hb, hml, hown, hts⟩ (c_L_keep_s (G := (D, cs, ad)) hj1 hok (cJ := cJ) F.2.2.2.2.2.2.2.2.2.1 H.size hj6 hon) (vx_cwSW 2 hts gL_law_L_keep rfl rfl rfl (by decide +kernel) ⟨Nat.le_of_ble_eq_true rfl, Nat.le_of_ble_eq_true rfl⟩) (hp_pre F.2.2.1 F.2.2.2.2.1 hP hO hS hsub F.2.2.2.2.2.2.2.2.2.2.2) rfl rfl hl.1 rfl (lv_room (Nat.le_of_ble_eq_true rfl)) dL_law_231 ⟨by show cells + 0 ≤ 674246; omega, by show slots + 0 ≤ 7073367; omega⟩) (fun fp H locs hfo hP hO hQ hS => ?_)
    refine lv_istore (lv' := [(5, .int 0), (0, .ref b), (1, .ref (ad 0)), (2, .ref (am 0)), (3, .ref o), (4, .int (nI (4 * k)))]) hx hb dL_law_234 hl (by decide) rfl (fun ls hl => ?_)
    refine lv_aload_n hx hb dL_law_236 rfl (lv_at hl 3 rfl) ?_
    refine lv_aload_n hx hb dL_law_237 rfl (lv_at hl 1 rfl) ?_
    refine lv_iload hx hb dL_law_238 (lv_at hl 5 rfl) ?_
    refine lv_iconst (v := 1) hx hb dL_law_240 (by decide) ?_
    refine lv_iadd hx hb dL_law_241 ?_
    refine wd_re (y := nI (4 * k + 1)) (show nI (4 * k) + nI 1 = nI (4 * k + 1) from nI_add _ _) ?_
    refine ll_sld hx hb hX hbl hbA hS (i := 4 * k + 1) (by omega) (by omega) dL_law_242 ?_
    refine wd_re (y := nI j) (hx1) ?_
    refine xl_v (O := (mdO (D, cm, am))) (W2 := wd (dkO (D, cs, ad)) (up M (3 + j) 1 (M 0 2)) ++ oW o cJ fp) hS (new_A F.2.2.2.2.2.2.1 hS) (va_P.app hP hO) (ap_d F.2.2.2.2.2.2.2.2.1 F.2.2.2.2.2.2.2.2.2.2.1) (va_runV (As := [.int (nI j)]) (rest := []) ⟨hx, hb, hml, hown, hts⟩ (c_X4_keep (G := (D, cm, am)) hj2 H.size (nI j)) (cwV 1 hts gL_law_X4_keep rfl rfl rfl (by decide +kernel) ⟨Nat.le_of_ble_eq_true rfl, Nat.le_of_ble_eq_true rfl⟩) (wd_pre F.2.2.2.1 hQ (md_lt (by omega)) mE_0 rfl) rfl rfl hl.1 rfl (lv_room (Nat.le_of_ble_eq_true rfl)) dL_law_243 ⟨by show cells + 0 + 0 ≤ 674246; omega, by show slots + 0 + 0 ≤ 7073367; omega⟩) (fun H locs hQ hPO hS => ?_)
    have hP := P_l hPO
    have hO := P_r hPO
    refine lv_aload_n hx hb dL_law_246 rfl (lv_at hl 3 rfl) ?_
    refine xl_i (O := (mdO (D, cm, am))) (W2 := wd (dkO (D, cs, ad)) (up M (3 + j) 1 (M 0 2)) ++ oW o cJ fp) hS (new_A F.2.2.2.2.2.2.1 hS) (va_P.app hP hO) (ap_d F.2.2.2.2.2.2.2.2.1 F.2.2.2.2.2.2.2.2.2.2.1) (va_runV (As := []) (rest := []) ⟨hx, hb, hml, hown, hts⟩ (c_X4_thrown (G := (D, cm, am)) hj2 H.size) (cwV 0 hts gL_law_X4_thrown rfl rfl rfl (by decide +kernel) ⟨Nat.le_of_ble_eq_true rfl, Nat.le_of_ble_eq_true rfl⟩) (wd_pre F.2.2.2.1 hQ (md_lt (by omega)) mE_0 rfl) rfl rfl hl.1 rfl (lv_room (Nat.le_of_ble_eq_true rfl)) dL_law_247 ⟨by show cells + 0 + 0 + 0 ≤ 674246; omega, by show slots + 0 + 0 + 0 ≤ 7073367; omega⟩) (fun H locs hQ hPO hS => ?_)
    have hP := P_l hPO
    have hO := P_r hPO
    refine lv_iload hx hb dL_law_250 (lv_at hl 0 rfl) ?_
    refine lv_icmp_eq (tgt := 257) hx hb dL_law_252 (by decide) (fun _ => ?_) (fun c9 => absurd (by rw [em]; unfold maA; simp [up_e]) c9)
    refine lv_goto (tgt := 773) hx hb dL_law_257 (by decide) ?_
    refine W.widen (k := cells + 1) (n := slots + 6) (by omega) (by omega) ?_
    exact kk _ _ n _ _ _ _ (by omega) (by rw [em]; exact Rel_aqA hR hj6) ⟨hP, hQ, hO, hS⟩ (lv_sub hl [1, 2, 3, 4, 5] rfl)
set_option maxRecDepth 100000 in
set_option maxHeartbeats 4000000 in
theorem law_5 {p : Program} {l : Launch} {e : Env} {s : State} {m : MethodId} {below : List Frame} {meth : Method} {c : Code} (hst : l.stackTraces = false) {b L : Nat} {xs : Nat → Int32} (hL : L ≤ 2048) (C0 : lw_At p s m meth c b L xs) {D : va_G} {cs : ClassId × ClassId × ClassId} {ad : Nat → Nat} {cm : ClassId × ClassId} {am : Nat → Nat} {o : Nat} {cJ : ClassId} (F : LF s D cs ad cm am o cJ) {M N : Mem} {n : Nat} {fq : Nat → Int64} {H : Heap} {locs : List Loc} {cells slots : Nat} (hR : Rel M N n) (hn : n + 1 < 2 ^ 31) (hI : LI s D cs ad cm am o cJ M N fq H locs) (hc : cells + 1 ≤ 674246) (hsl : slots + 6 ≤ 7073367) {k : Nat} (hk : 4 * k + 4 ≤ L) {ls : Array Slot} (hl : lv_has ls 7 (LV b ad am o k))
    (kk : ∀ (M' N' : Mem) (n' : Nat) (fo' : Nat → Int64) (H' : Heap) (locs' : List Loc) (ls' : Array Slot), n' ≤ n + 1 → Rel M' N' n' → LI s D cs ad cm am o cJ M' N' fo' H' locs' → lv_has ls' 7 (LV b ad am o k) → W p l e room_1 s m #[Value.ref b] below meth c H' locs' (cells + 1) (slots + 6) (lw_Z below #[Value.ref b] s) (F0 m 773 ls' [])) : W p l e room_1 s m #[Value.ref b] below meth c H locs cells slots (lw_Z below #[Value.ref b] s) (F0 m 322 ls []) := by
  obtain ⟨hx, hb, hr, hml, hown, hts, hX, hbl, hlocks, hgv⟩ := id C0
  have hown : s.vm.findClass RL = some m.cls := hown
  have hts : ∀ w ∈ wsL_law, w.before #[Value.ref b] s = true := fun w h => hts w (wsL_law_in w h)
  have hbA : ¬ (fun q : Nat => s.heap.size ≤ q) b := Nat.not_le.mpr hbl
  obtain ⟨hP, hQ, hO, hS⟩ := hI
  have hj1 := F.1
  have hj2 := F.2.1
  have hok := hR.1
  have hmo := os_mo hR (xs (4 * k + 1))
  rcases op_cases (osV M (xs (4 * k + 1))) with ho | ⟨j, ho⟩
  · rw [ho] at hmo
    have em : maqM N (xs (4 * k + 1)) (xs (4 * k + 2)) (xs (4 * k + 3)) = up N 0 1 1 := by unfold maqM; rw [hmo]
    refine lv_aload_n hx hb dL_law_322 rfl (lv_at hl 1 rfl) ?_
    refine lv_aload_n hx hb dL_law_323 rfl (lv_at hl 0 rfl) ?_
    refine lv_iload hx hb dL_law_324 (lv_at hl 4 rfl) ?_
    refine lv_iconst (v := 1) hx hb dL_law_326 (by decide) ?_
    refine lv_iadd hx hb dL_law_327 ?_
    refine wd_re (y := nI (4 * k + 1)) (show nI (4 * k) + nI 1 = nI (4 * k + 1) from nI_add _ _) ?_
    refine ll_sld hx hb hX hbl hbA hS (i := 4 * k + 1) (by omega) (by omega) dL_law_328 ?_
    refine lv_aload_n hx hb dL_law_329 rfl (lv_at hl 0 rfl) ?_
    refine lv_iload hx hb dL_law_330 (lv_at hl 4 rfl) ?_
    refine lv_iconst (v := 2) hx hb dL_law_332 (by decide) ?_
    refine lv_iadd hx hb dL_law_333 ?_
    refine wd_re (y := nI (4 * k + 2)) (show nI (4 * k) + nI 2 = nI (4 * k + 2) from nI_add _ _) ?_
    refine ll_sld hx hb hX hbl hbA hS (i := 4 * k + 2) (by omega) (by omega) dL_law_334 ?_
    refine lv_aload_n hx hb dL_law_335 rfl (lv_at hl 0 rfl) ?_
    refine lv_iload hx hb dL_law_336 (lv_at hl 4 rfl) ?_
    refine lv_iconst (v := 3) hx hb dL_law_338 (by decide) ?_
    refine lv_iadd hx hb dL_law_339 ?_
    refine wd_re (y := nI (4 * k + 3)) (show nI (4 * k) + nI 3 = nI (4 * k + 3) from nI_add _ _) ?_
    refine ll_sld hx hb hX hbl hbA hS (i := 4 * k + 3) (by omega) (by omega) dL_law_340 ?_
    refine lv_aload_n hx hb dL_law_341 rfl (lv_at hl 3 rfl) ?_
    have hsub : ∀ q, hA (dkO (D, cs, ad)) o H.size q → s.heap.size ≤ q := fun q h => h.elim (new_A F.2.2.2.2.2.1 hS q) (fun e9 => by rw [e9]; exact F.2.2.2.2.2.2.2.1)
    refine xl_h (O := (dkO (D, cs, ad))) (W2 := wd (mdO (D, cm, am)) N) hS hsub hQ (fun k9 q9 h9 => by obtain ⟨k1, rfl⟩ := wd_at' h9; exact ⟨F.2.2.2.2.2.2.2.2.2.2.1 k9 k1, fun j9 hj9 => F.2.2.2.2.2.2.2.2.1 j9 k9 hj9 k1⟩) (vx_runSW (As := [.ref (ad 0), .int (xs (4 * k + 1)), .int (xs (4 * k + 2)), .int (xs (4 * k + 3)), .ref o]) (rest := []) ⟨hx, hb, hml, hown, hts⟩ (c_L_acquire_n1 hst (G := (D, cs, ad)) hj1 hok (cJ := cJ) F.2.2.2.2.2.2.2.2.2.1 H.size (xs (4 * k + 1)) (xs (4 * k + 2)) (xs (4 * k + 3)) ho) (vx_cwSW 5 hts gL_law_L_acquire rfl rfl rfl (by decide +kernel) ⟨Nat.le_of_ble_eq_true rfl, Nat.le_of_ble_eq_true rfl⟩) (hp_pre F.2.2.1 F.2.2.2.2.1 hP hO hS hsub F.2.2.2.2.2.2.2.2.2.2.2) rfl rfl hl.1 rfl (lv_room (Nat.le_of_ble_eq_true rfl)) dL_law_342 ⟨by show cells + 1 ≤ 674246; omega, by show slots + 6 ≤ 7073367; omega⟩) (fun fp H locs hfo hP hO hQ hS => ?_)
    refine lv_istore (lv' := [(5, .int 1), (0, .ref b), (1, .ref (ad 0)), (2, .ref (am 0)), (3, .ref o), (4, .int (nI (4 * k)))]) hx hb dL_law_345 hl (by decide) rfl (fun ls hl => ?_)
    refine lv_aload_n hx hb dL_law_347 rfl (lv_at hl 3 rfl) ?_
    refine lv_aload_n hx hb dL_law_348 rfl (lv_at hl 1 rfl) ?_
    refine lv_iload hx hb dL_law_349 (lv_at hl 5 rfl) ?_
    refine lv_iconst (v := 1) hx hb dL_law_351 (by decide) ?_
    refine lv_iadd hx hb dL_law_352 ?_
    refine wd_re (y := nI (4 * k + 1)) (show nI (4 * k) + nI 1 = nI (4 * k + 1) from nI_add _ _) ?_
    refine ll_sld hx hb hX hbl hbA hS (i := 4 * k + 1) (by omega) (by omega) dL_law_353 ?_
    refine lv_aload_n hx hb dL_law_354 rfl (lv_at hl 1 rfl) ?_
    refine lv_iload hx hb dL_law_355 (lv_at hl 5 rfl) ?_
    refine lv_iconst (v := 2) hx hb dL_law_357 (by decide) ?_
    refine lv_iadd hx hb dL_law_358 ?_
    refine wd_re (y := nI (4 * k + 2)) (show nI (4 * k) + nI 2 = nI (4 * k + 2) from nI_add _ _) ?_
    refine ll_sld hx hb hX hbl hbA hS (i := 4 * k + 2) (by omega) (by omega) dL_law_359 ?_
    refine lv_aload_n hx hb dL_law_360 rfl (lv_at hl 1 rfl) ?_
    refine lv_iload hx hb dL_law_361 (lv_at hl 5 rfl) ?_
    refine lv_iconst (v := 3) hx hb dL_law_363 (by decide) ?_
    refine lv_iadd hx hb dL_law_364 ?_
    refine wd_re (y := nI (4 * k + 3)) (show nI (4 * k) + nI 3 = nI (4 * k + 3) from nI_add _ _) ?_
    refine ll_sld hx hb hX hbl hbA hS (i := 4 * k + 3) (by omega) (by omega) dL_law_365 ?_
    refine xl_i (O := (mdO (D, cm, am))) (W2 := wd (dkO (D, cs, ad)) M ++ oW o cJ fp) hS (new_A F.2.2.2.2.2.2.1 hS) (va_P.app hP hO) (ap_d F.2.2.2.2.2.2.2.2.1 F.2.2.2.2.2.2.2.2.2.2.1) (va_runV (As := [.int (xs (4 * k + 1)), .int (xs (4 * k + 2)), .int (xs (4 * k + 3))]) (rest := []) ⟨hx, hb, hml, hown, hts⟩ (c_X4_acquire (G := (D, cm, am)) hj2 H.size (xs (4 * k + 1)) (xs (4 * k + 2)) (xs (4 * k + 3))) (cwV 3 hts gL_law_X4_acquire rfl rfl rfl (by decide +kernel) ⟨Nat.le_of_ble_eq_true rfl, Nat.le_of_ble_eq_true rfl⟩) (wd_pre F.2.2.2.1 hQ (md_lt (by omega)) mE_0 rfl) rfl rfl hl.1 rfl (lv_room (Nat.le_of_ble_eq_true rfl)) dL_law_366 ⟨by show cells + 1 + 0 ≤ 674246; omega, by show slots + 6 + 0 ≤ 7073367; omega⟩) (fun H locs hQ hPO hS => ?_)
    have hP := P_l hPO
    have hO := P_r hPO
    refine lv_istore (lv' := [(6, .int (maqV N (xs (4 * k + 1)) (xs (4 * k + 2)) (xs (4 * k + 3)))), (5, .int 1), (0, .ref b), (1, .ref (ad 0)), (2, .ref (am 0)), (3, .ref o), (4, .int (nI (4 * k)))]) hx hb dL_law_369 hl (by decide) rfl (fun ls hl => ?_)
    refine lv_aload_n hx hb dL_law_371 rfl (lv_at hl 4 rfl) ?_
    refine xl_i (O := (mdO (D, cm, am))) (W2 := wd (dkO (D, cs, ad)) M ++ oW o cJ fp) hS (new_A F.2.2.2.2.2.2.1 hS) (va_P.app hP hO) (ap_d F.2.2.2.2.2.2.2.2.1 F.2.2.2.2.2.2.2.2.2.2.1) (va_runV (As := []) (rest := []) ⟨hx, hb, hml, hown, hts⟩ (c_X4_thrown (G := (D, cm, am)) hj2 H.size) (cwV 0 hts gL_law_X4_thrown rfl rfl rfl (by decide +kernel) ⟨Nat.le_of_ble_eq_true rfl, Nat.le_of_ble_eq_true rfl⟩) (wd_pre F.2.2.2.1 hQ (md_lt (by omega)) mE_0 rfl) rfl rfl hl.1 rfl (lv_room (Nat.le_of_ble_eq_true rfl)) dL_law_372 ⟨by show cells + 1 + 0 + 0 ≤ 674246; omega, by show slots + 6 + 0 + 0 ≤ 7073367; omega⟩) (fun H locs hQ hPO hS => ?_)
    have hP := P_l hPO
    have hO := P_r hPO
    refine lv_iload hx hb dL_law_375 (lv_at hl 1 rfl) ?_
    refine lv_icmp_eq (tgt := 382) hx hb dL_law_377 (by decide) (fun _ => ?_) (fun c9 => absurd (by rw [em]; exact up_s _ _ _ _) c9)
    refine lv_iload hx hb dL_law_382 (lv_at hl 1 rfl) ?_
    refine lv_if_ne (tgt := 399) hx hb dL_law_384 (by decide) (fun _ => ?_) (fun c9 => absurd c9 (by decide))
    refine lv_goto (tgt := 773) hx hb dL_law_399 (by decide) ?_
    refine W.widen (k := cells + 1) (n := slots + 6) (by omega) (by omega) ?_
    exact kk _ _ n _ _ _ _ (by omega) (by rw [em]; exact Rel_t 1 hR) ⟨hP, hQ, hO, hS⟩ (lv_sub hl [2, 3, 4, 5, 6] rfl)
  · obtain ⟨hj6, hx1, hon⟩ := osV_some ho
    rw [ho] at hmo
    rw [hx1] at hmo
    rcases op_cases (dN (xs (4 * k + 2)) 4) with hd | ⟨i, hd⟩
    · have em : maqM N (nI j) (xs (4 * k + 2)) (xs (4 * k + 3)) = up N 0 1 2 := by simp only [maqM, hmo, hd]
      refine lv_aload_n hx hb dL_law_322 rfl (lv_at hl 1 rfl) ?_
      refine lv_aload_n hx hb dL_law_323 rfl (lv_at hl 0 rfl) ?_
      refine lv_iload hx hb dL_law_324 (lv_at hl 4 rfl) ?_
      refine lv_iconst (v := 1) hx hb dL_law_326 (by decide) ?_
      refine lv_iadd hx hb dL_law_327 ?_
      refine wd_re (y := nI (4 * k + 1)) (show nI (4 * k) + nI 1 = nI (4 * k + 1) from nI_add _ _) ?_
      refine ll_sld hx hb hX hbl hbA hS (i := 4 * k + 1) (by omega) (by omega) dL_law_328 ?_
      refine wd_re (y := nI j) (hx1) ?_
      refine lv_aload_n hx hb dL_law_329 rfl (lv_at hl 0 rfl) ?_
      refine lv_iload hx hb dL_law_330 (lv_at hl 4 rfl) ?_
      refine lv_iconst (v := 2) hx hb dL_law_332 (by decide) ?_
      refine lv_iadd hx hb dL_law_333 ?_
      refine wd_re (y := nI (4 * k + 2)) (show nI (4 * k) + nI 2 = nI (4 * k + 2) from nI_add _ _) ?_
      refine ll_sld hx hb hX hbl hbA hS (i := 4 * k + 2) (by omega) (by omega) dL_law_334 ?_
      refine lv_aload_n hx hb dL_law_335 rfl (lv_at hl 0 rfl) ?_
      refine lv_iload hx hb dL_law_336 (lv_at hl 4 rfl) ?_
      refine lv_iconst (v := 3) hx hb dL_law_338 (by decide) ?_
      refine lv_iadd hx hb dL_law_339 ?_
      refine wd_re (y := nI (4 * k + 3)) (show nI (4 * k) + nI 3 = nI (4 * k + 3) from nI_add _ _) ?_
      refine ll_sld hx hb hX hbl hbA hS (i := 4 * k + 3) (by omega) (by omega) dL_law_340 ?_
      refine lv_aload_n hx hb dL_law_341 rfl (lv_at hl 3 rfl) ?_
      have hsub : ∀ q, hA (dkO (D, cs, ad)) o H.size q → s.heap.size ≤ q := fun q h => h.elim (new_A F.2.2.2.2.2.1 hS q) (fun e9 => by rw [e9]; exact F.2.2.2.2.2.2.2.1)
      refine xl_h (O := (dkO (D, cs, ad))) (W2 := wd (mdO (D, cm, am)) N) hS hsub hQ (fun k9 q9 h9 => by obtain ⟨k1, rfl⟩ := wd_at' h9; exact ⟨F.2.2.2.2.2.2.2.2.2.2.1 k9 k1, fun j9 hj9 => F.2.2.2.2.2.2.2.2.1 j9 k9 hj9 k1⟩) (vx_runSW (As := [.ref (ad 0), .int (nI j), .int (xs (4 * k + 2)), .int (xs (4 * k + 3)), .ref o]) (rest := []) ⟨hx, hb, hml, hown, hts⟩ (c_L_acquire_n2 hst (G := (D, cs, ad)) hj1 hok (cJ := cJ) F.2.2.2.2.2.2.2.2.2.1 H.size hj6 hon (xs (4 * k + 2)) (xs (4 * k + 3)) hd) (vx_cwSW 5 hts gL_law_L_acquire rfl rfl rfl (by decide +kernel) ⟨Nat.le_of_ble_eq_true rfl, Nat.le_of_ble_eq_true rfl⟩) (hp_pre F.2.2.1 F.2.2.2.2.1 hP hO hS hsub F.2.2.2.2.2.2.2.2.2.2.2) rfl rfl hl.1 rfl (lv_room (Nat.le_of_ble_eq_true rfl)) dL_law_342 ⟨by show cells + 1 ≤ 674246; omega, by show slots + 6 ≤ 7073367; omega⟩) (fun fp H locs hfo hP hO hQ hS => ?_)
      refine lv_istore (lv' := [(5, .int 2), (0, .ref b), (1, .ref (ad 0)), (2, .ref (am 0)), (3, .ref o), (4, .int (nI (4 * k)))]) hx hb dL_law_345 hl (by decide) rfl (fun ls hl => ?_)
      refine lv_aload_n hx hb dL_law_347 rfl (lv_at hl 3 rfl) ?_
      refine lv_aload_n hx hb dL_law_348 rfl (lv_at hl 1 rfl) ?_
      refine lv_iload hx hb dL_law_349 (lv_at hl 5 rfl) ?_
      refine lv_iconst (v := 1) hx hb dL_law_351 (by decide) ?_
      refine lv_iadd hx hb dL_law_352 ?_
      refine wd_re (y := nI (4 * k + 1)) (show nI (4 * k) + nI 1 = nI (4 * k + 1) from nI_add _ _) ?_
      refine ll_sld hx hb hX hbl hbA hS (i := 4 * k + 1) (by omega) (by omega) dL_law_353 ?_
      refine wd_re (y := nI j) (hx1) ?_
      refine lv_aload_n hx hb dL_law_354 rfl (lv_at hl 1 rfl) ?_
      refine lv_iload hx hb dL_law_355 (lv_at hl 5 rfl) ?_
      refine lv_iconst (v := 2) hx hb dL_law_357 (by decide) ?_
      refine lv_iadd hx hb dL_law_358 ?_
      refine wd_re (y := nI (4 * k + 2)) (show nI (4 * k) + nI 2 = nI (4 * k + 2) from nI_add _ _) ?_
      refine ll_sld hx hb hX hbl hbA hS (i := 4 * k + 2) (by omega) (by omega) dL_law_359 ?_
      refine lv_aload_n hx hb dL_law_360 rfl (lv_at hl 1 rfl) ?_
      refine lv_iload hx hb dL_law_361 (lv_at hl 5 rfl) ?_
      refine lv_iconst (v := 3) hx hb dL_law_363 (by decide) ?_
      refine lv_iadd hx hb dL_law_364 ?_
      refine wd_re (y := nI (4 * k + 3)) (show nI (4 * k) + nI 3 = nI (4 * k + 3) from nI_add _ _) ?_
      refine ll_sld hx hb hX hbl hbA hS (i := 4 * k + 3) (by omega) (by omega) dL_law_365 ?_
      refine xl_i (O := (mdO (D, cm, am))) (W2 := wd (dkO (D, cs, ad)) M ++ oW o cJ fp) hS (new_A F.2.2.2.2.2.2.1 hS) (va_P.app hP hO) (ap_d F.2.2.2.2.2.2.2.2.1 F.2.2.2.2.2.2.2.2.2.2.1) (va_runV (As := [.int (nI j), .int (xs (4 * k + 2)), .int (xs (4 * k + 3))]) (rest := []) ⟨hx, hb, hml, hown, hts⟩ (c_X4_acquire (G := (D, cm, am)) hj2 H.size (nI j) (xs (4 * k + 2)) (xs (4 * k + 3))) (cwV 3 hts gL_law_X4_acquire rfl rfl rfl (by decide +kernel) ⟨Nat.le_of_ble_eq_true rfl, Nat.le_of_ble_eq_true rfl⟩) (wd_pre F.2.2.2.1 hQ (md_lt (by omega)) mE_0 rfl) rfl rfl hl.1 rfl (lv_room (Nat.le_of_ble_eq_true rfl)) dL_law_366 ⟨by show cells + 1 + 0 ≤ 674246; omega, by show slots + 6 + 0 ≤ 7073367; omega⟩) (fun H locs hQ hPO hS => ?_)
      have hP := P_l hPO
      have hO := P_r hPO
      refine lv_istore (lv' := [(6, .int (maqV N (nI j) (xs (4 * k + 2)) (xs (4 * k + 3)))), (5, .int 2), (0, .ref b), (1, .ref (ad 0)), (2, .ref (am 0)), (3, .ref o), (4, .int (nI (4 * k)))]) hx hb dL_law_369 hl (by decide) rfl (fun ls hl => ?_)
      refine lv_aload_n hx hb dL_law_371 rfl (lv_at hl 4 rfl) ?_
      refine xl_i (O := (mdO (D, cm, am))) (W2 := wd (dkO (D, cs, ad)) M ++ oW o cJ fp) hS (new_A F.2.2.2.2.2.2.1 hS) (va_P.app hP hO) (ap_d F.2.2.2.2.2.2.2.2.1 F.2.2.2.2.2.2.2.2.2.2.1) (va_runV (As := []) (rest := []) ⟨hx, hb, hml, hown, hts⟩ (c_X4_thrown (G := (D, cm, am)) hj2 H.size) (cwV 0 hts gL_law_X4_thrown rfl rfl rfl (by decide +kernel) ⟨Nat.le_of_ble_eq_true rfl, Nat.le_of_ble_eq_true rfl⟩) (wd_pre F.2.2.2.1 hQ (md_lt (by omega)) mE_0 rfl) rfl rfl hl.1 rfl (lv_room (Nat.le_of_ble_eq_true rfl)) dL_law_372 ⟨by show cells + 1 + 0 + 0 ≤ 674246; omega, by show slots + 6 + 0 + 0 ≤ 7073367; omega⟩) (fun H locs hQ hPO hS => ?_)
      have hP := P_l hPO
      have hO := P_r hPO
      refine lv_iload hx hb dL_law_375 (lv_at hl 1 rfl) ?_
      refine lv_icmp_eq (tgt := 382) hx hb dL_law_377 (by decide) (fun _ => ?_) (fun c9 => absurd (by rw [em]; exact up_s _ _ _ _) c9)
      refine lv_iload hx hb dL_law_382 (lv_at hl 1 rfl) ?_
      refine lv_if_ne (tgt := 399) hx hb dL_law_384 (by decide) (fun _ => ?_) (fun c9 => absurd c9 (by decide))
      refine lv_goto (tgt := 773) hx hb dL_law_399 (by decide) ?_
      refine W.widen (k := cells + 1) (n := slots + 6) (by omega) (by omega) ?_
      exact kk _ _ n _ _ _ _ (by omega) (by rw [em]; exact Rel_t 2 hR) ⟨hP, hQ, hO, hS⟩ (lv_sub hl [2, 3, 4, 5, 6] rfl)
    · obtain ⟨hi4, hx2⟩ := dN_some (by decide) hd
      rw [hx2] at hd
      by_cases ht : ¬ (xs (4 * k + 3)) < 1 ∧ (xs (4 * k + 3)) ≤ 100
      · have em : maqM N (nI j) (nI i) (xs (4 * k + 3)) = maM N j i (xs (4 * k + 3)) := by simp only [maqM, hmo, hd, if_neg ht.1, if_pos ht.2]
        have ev : maqV N (nI j) (nI i) (xs (4 * k + 3)) = maV N j i (xs (4 * k + 3)) := by simp only [maqV, hmo, hd, if_neg ht.1, if_pos ht.2]
        obtain ⟨⟨n2, hn1, hn2, e1⟩, e2⟩ := Rel_acq (t := (xs (4 * k + 3))) hn hR hj6 hi4 hon
        refine lv_aload_n hx hb dL_law_322 rfl (lv_at hl 1 rfl) ?_
        refine lv_aload_n hx hb dL_law_323 rfl (lv_at hl 0 rfl) ?_
        refine lv_iload hx hb dL_law_324 (lv_at hl 4 rfl) ?_
        refine lv_iconst (v := 1) hx hb dL_law_326 (by decide) ?_
        refine lv_iadd hx hb dL_law_327 ?_
        refine wd_re (y := nI (4 * k + 1)) (show nI (4 * k) + nI 1 = nI (4 * k + 1) from nI_add _ _) ?_
        refine ll_sld hx hb hX hbl hbA hS (i := 4 * k + 1) (by omega) (by omega) dL_law_328 ?_
        refine wd_re (y := nI j) (hx1) ?_
        refine lv_aload_n hx hb dL_law_329 rfl (lv_at hl 0 rfl) ?_
        refine lv_iload hx hb dL_law_330 (lv_at hl 4 rfl) ?_
        refine lv_iconst (v := 2) hx hb dL_law_332 (by decide) ?_
        refine lv_iadd hx hb dL_law_333 ?_
        refine wd_re (y := nI (4 * k + 2)) (show nI (4 * k) + nI 2 = nI (4 * k + 2) from nI_add _ _) ?_
        refine ll_sld hx hb hX hbl hbA hS (i := 4 * k + 2) (by omega) (by omega) dL_law_334 ?_
        refine wd_re (y := nI i) (hx2) ?_
        refine lv_aload_n hx hb dL_law_335 rfl (lv_at hl 0 rfl) ?_
        refine lv_iload hx hb dL_law_336 (lv_at hl 4 rfl) ?_
        refine lv_iconst (v := 3) hx hb dL_law_338 (by decide) ?_
        refine lv_iadd hx hb dL_law_339 ?_
        refine wd_re (y := nI (4 * k + 3)) (show nI (4 * k) + nI 3 = nI (4 * k + 3) from nI_add _ _) ?_
        refine ll_sld hx hb hX hbl hbA hS (i := 4 * k + 3) (by omega) (by omega) dL_law_340 ?_
        refine lv_aload_n hx hb dL_law_341 rfl (lv_at hl 3 rfl) ?_
        have hsub : ∀ q, hA (dkO (D, cs, ad)) o H.size q → s.heap.size ≤ q := fun q h => h.elim (new_A F.2.2.2.2.2.1 hS q) (fun e9 => by rw [e9]; exact F.2.2.2.2.2.2.2.1)
        refine xl_h (O := (dkO (D, cs, ad))) (W2 := wd (mdO (D, cm, am)) N) hS hsub hQ (fun k9 q9 h9 => by obtain ⟨k1, rfl⟩ := wd_at' h9; exact ⟨F.2.2.2.2.2.2.2.2.2.2.1 k9 k1, fun j9 hj9 => F.2.2.2.2.2.2.2.2.1 j9 k9 hj9 k1⟩) (vx_runSW (As := [.ref (ad 0), .int (nI j), .int (nI i), .int (xs (4 * k + 3)), .ref o]) (rest := []) ⟨hx, hb, hml, hown, hts⟩ (c_L_acquire_s (G := (D, cs, ad)) hj1 hok (cJ := cJ) F.2.2.2.2.2.2.2.2.2.1 H.size hj6 hon hi4 (xs (4 * k + 3)) ht.1 ht.2) (vx_cwSW 5 hts gL_law_L_acquire rfl rfl rfl (by decide +kernel) ⟨Nat.le_of_ble_eq_true rfl, Nat.le_of_ble_eq_true rfl⟩) (hp_pre F.2.2.1 F.2.2.2.2.1 hP hO hS hsub F.2.2.2.2.2.2.2.2.2.2.2) rfl rfl hl.1 rfl (lv_room (Nat.le_of_ble_eq_true rfl)) dL_law_342 ⟨by show cells + 0 ≤ 674246; omega, by show slots + 0 ≤ 7073367; omega⟩) (fun fp H locs hfo hP hO hQ hS => ?_)
        refine lv_istore (lv' := [(5, .int 0), (0, .ref b), (1, .ref (ad 0)), (2, .ref (am 0)), (3, .ref o), (4, .int (nI (4 * k)))]) hx hb dL_law_345 hl (by decide) rfl (fun ls hl => ?_)
        refine lv_aload_n hx hb dL_law_347 rfl (lv_at hl 3 rfl) ?_
        refine lv_aload_n hx hb dL_law_348 rfl (lv_at hl 1 rfl) ?_
        refine lv_iload hx hb dL_law_349 (lv_at hl 5 rfl) ?_
        refine lv_iconst (v := 1) hx hb dL_law_351 (by decide) ?_
        refine lv_iadd hx hb dL_law_352 ?_
        refine wd_re (y := nI (4 * k + 1)) (show nI (4 * k) + nI 1 = nI (4 * k + 1) from nI_add _ _) ?_
        refine ll_sld hx hb hX hbl hbA hS (i := 4 * k + 1) (by omega) (by omega) dL_law_353 ?_
        refine wd_re (y := nI j) (hx1) ?_
        refine lv_aload_n hx hb dL_law_354 rfl (lv_at hl 1 rfl) ?_
        refine lv_iload hx hb dL_law_355 (lv_at hl 5 rfl) ?_
        refine lv_iconst (v := 2) hx hb dL_law_357 (by decide) ?_
        refine lv_iadd hx hb dL_law_358 ?_
        refine wd_re (y := nI (4 * k + 2)) (show nI (4 * k) + nI 2 = nI (4 * k + 2) from nI_add _ _) ?_
        refine ll_sld hx hb hX hbl hbA hS (i := 4 * k + 2) (by omega) (by omega) dL_law_359 ?_
        refine wd_re (y := nI i) (hx2) ?_
        refine lv_aload_n hx hb dL_law_360 rfl (lv_at hl 1 rfl) ?_
        refine lv_iload hx hb dL_law_361 (lv_at hl 5 rfl) ?_
        refine lv_iconst (v := 3) hx hb dL_law_363 (by decide) ?_
        refine lv_iadd hx hb dL_law_364 ?_
        refine wd_re (y := nI (4 * k + 3)) (show nI (4 * k) + nI 3 = nI (4 * k + 3) from nI_add _ _) ?_
        refine ll_sld hx hb hX hbl hbA hS (i := 4 * k + 3) (by omega) (by omega) dL_law_365 ?_
        refine xl_i (O := (mdO (D, cm, am))) (W2 := wd (dkO (D, cs, ad)) (aqM M j i (xs (4 * k + 3))) ++ oW o cJ fp) hS (new_A F.2.2.2.2.2.2.1 hS) (va_P.app hP hO) (ap_d F.2.2.2.2.2.2.2.2.1 F.2.2.2.2.2.2.2.2.2.2.1) (va_runV (As := [.int (nI j), .int (nI i), .int (xs (4 * k + 3))]) (rest := []) ⟨hx, hb, hml, hown, hts⟩ (c_X4_acquire (G := (D, cm, am)) hj2 H.size (nI j) (nI i) (xs (4 * k + 3))) (cwV 3 hts gL_law_X4_acquire rfl rfl rfl (by decide +kernel) ⟨Nat.le_of_ble_eq_true rfl, Nat.le_of_ble_eq_true rfl⟩) (wd_pre F.2.2.2.1 hQ (md_lt (by omega)) mE_0 rfl) rfl rfl hl.1 rfl (lv_room (Nat.le_of_ble_eq_true rfl)) dL_law_366 ⟨by show cells + 0 + 0 ≤ 674246; omega, by show slots + 0 + 0 ≤ 7073367; omega⟩) (fun H locs hQ hPO hS => ?_)
        have hP := P_l hPO
        have hO := P_r hPO
        refine lv_istore (lv' := [(6, .int (maqV N (nI j) (nI i) (xs (4 * k + 3)))), (5, .int 0), (0, .ref b), (1, .ref (ad 0)), (2, .ref (am 0)), (3, .ref o), (4, .int (nI (4 * k)))]) hx hb dL_law_369 hl (by decide) rfl (fun ls hl => ?_)
        refine lv_aload_n hx hb dL_law_371 rfl (lv_at hl 4 rfl) ?_
        refine xl_i (O := (mdO (D, cm, am))) (W2 := wd (dkO (D, cs, ad)) (aqM M j i (xs (4 * k + 3))) ++ oW o cJ fp) hS (new_A F.2.2.2.2.2.2.1 hS) (va_P.app hP hO) (ap_d F.2.2.2.2.2.2.2.2.1 F.2.2.2.2.2.2.2.2.2.2.1) (va_runV (As := []) (rest := []) ⟨hx, hb, hml, hown, hts⟩ (c_X4_thrown (G := (D, cm, am)) hj2 H.size) (cwV 0 hts gL_law_X4_thrown rfl rfl rfl (by decide +kernel) ⟨Nat.le_of_ble_eq_true rfl, Nat.le_of_ble_eq_true rfl⟩) (wd_pre F.2.2.2.1 hQ (md_lt (by omega)) mE_0 rfl) rfl rfl hl.1 rfl (lv_room (Nat.le_of_ble_eq_true rfl)) dL_law_372 ⟨by show cells + 0 + 0 + 0 ≤ 674246; omega, by show slots + 0 + 0 + 0 ≤ 7073367; omega⟩) (fun H locs hQ hPO hS => ?_)
        have hP := P_l hPO
        have hO := P_r hPO
        refine lv_iload hx hb dL_law_375 (lv_at hl 1 rfl) ?_
        refine lv_icmp_eq (tgt := 382) hx hb dL_law_377 (by decide) (fun _ => ?_) (fun c9 => absurd (by rw [em]; exact ma_t) c9)
        refine lv_iload hx hb dL_law_382 (lv_at hl 1 rfl) ?_
        refine lv_if_ne (tgt := 399) hx hb dL_law_384 (by decide) (fun c9 => absurd rfl c9) (fun _ => ?_)
        refine lv_aload_n hx hb dL_law_387 rfl (lv_at hl 5 rfl) ?_
        refine lv_iconst (v := 0) hx hb dL_law_388 (by decide) ?_
        refine ll_lald hx hb F.2.2.2.2.1 hO hfo dL_law_389 ?_
        refine lv_iload hx hb dL_law_390 (lv_at hl 0 rfl) ?_
        refine lv_i2l hx hb dL_law_392 rfl ?_
        refine ll_lcmp (by rw [ev, e2]) hx hb dL_law_393 ?_
        refine lv_if_eq (tgt := 399) hx hb dL_law_394 (by decide) (fun _ => ?_) (fun c9 => absurd rfl c9)
        refine lv_goto (tgt := 773) hx hb dL_law_399 (by decide) ?_
        refine W.widen (k := cells + 1) (n := slots + 6) (by omega) (by omega) ?_
        exact kk _ _ n2 _ _ _ _ (hn2) (by rw [em]; exact e1) ⟨hP, hQ, hO, hS⟩ (lv_sub hl [2, 3, 4, 5, 6] rfl)
      · have em : maqM N (nI j) (nI i) (xs (4 * k + 3)) = up N 0 1 2 := by
          by_cases e1 : (xs (4 * k + 3)) < 1
          · simp only [maqM, hmo, hd, if_pos e1]
          · simp only [maqM, hmo, hd, if_neg e1, if_neg (fun e2 => ht ⟨e1, e2⟩)]
        refine lv_aload_n hx hb dL_law_322 rfl (lv_at hl 1 rfl) ?_
        refine lv_aload_n hx hb dL_law_323 rfl (lv_at hl 0 rfl) ?_
        refine lv_iload hx hb dL_law_324 (lv_at hl 4 rfl) ?_
        refine lv_iconst (v := 1) hx hb dL_law_326 (by decide) ?_
        refine lv_iadd hx hb dL_law_327 ?_
        refine wd_re (y := nI (4 * k + 1)) (show nI (4 * k) + nI 1 = nI (4 * k + 1) from nI_add _ _) ?_
        refine ll_sld hx hb hX hbl hbA hS (i := 4 * k + 1) (by omega) (by omega) dL_law_328 ?_
        refine wd_re (y := nI j) (hx1) ?_
        refine lv_aload_n hx hb dL_law_329 rfl (lv_at hl 0 rfl) ?_
        refine lv_iload hx hb dL_law_330 (lv_at hl 4 rfl) ?_
        refine lv_iconst (v := 2) hx hb dL_law_332 (by decide) ?_
        refine lv_iadd hx hb dL_law_333 ?_
        refine wd_re (y := nI (4 * k + 2)) (show nI (4 * k) + nI 2 = nI (4 * k + 2) from nI_add _ _) ?_
        refine ll_sld hx hb hX hbl hbA hS (i := 4 * k + 2) (by omega) (by omega) dL_law_334 ?_
        refine wd_re (y := nI i) (hx2) ?_
        refine lv_aload_n hx hb dL_law_335 rfl (lv_at hl 0 rfl) ?_
        refine lv_iload hx hb dL_law_336 (lv_at hl 4 rfl) ?_
        refine lv_iconst (v := 3) hx hb dL_law_338 (by decide) ?_
        refine lv_iadd hx hb dL_law_339 ?_
        refine wd_re (y := nI (4 * k + 3)) (show nI (4 * k) + nI 3 = nI (4 * k + 3) from nI_add _ _) ?_
        refine ll_sld hx hb hX hbl hbA hS (i := 4 * k + 3) (by omega) (by omega) dL_law_340 ?_
        refine lv_aload_n hx hb dL_law_341 rfl (lv_at hl 3 rfl) ?_
        have hsub : ∀ q, hA (dkO (D, cs, ad)) o H.size q → s.heap.size ≤ q := fun q h => h.elim (new_A F.2.2.2.2.2.1 hS q) (fun e9 => by rw [e9]; exact F.2.2.2.2.2.2.2.1)
        refine xl_h (O := (dkO (D, cs, ad))) (W2 := wd (mdO (D, cm, am)) N) hS hsub hQ (fun k9 q9 h9 => by obtain ⟨k1, rfl⟩ := wd_at' h9; exact ⟨F.2.2.2.2.2.2.2.2.2.2.1 k9 k1, fun j9 hj9 => F.2.2.2.2.2.2.2.2.1 j9 k9 hj9 k1⟩) (vx_runSW (As := [.ref (ad 0), .int (nI j), .int (nI i), .int (xs (4 * k + 3)), .ref o]) (rest := []) ⟨hx, hb, hml, hown, hts⟩ (c_L_acquire_n3 hst (G := (D, cs, ad)) hj1 hok (cJ := cJ) F.2.2.2.2.2.2.2.2.2.1 H.size hj6 hon hi4 (xs (4 * k + 3)) ht) (vx_cwSW 5 hts gL_law_L_acquire rfl rfl rfl (by decide +kernel) ⟨Nat.le_of_ble_eq_true rfl, Nat.le_of_ble_eq_true rfl⟩) (hp_pre F.2.2.1 F.2.2.2.2.1 hP hO hS hsub F.2.2.2.2.2.2.2.2.2.2.2) rfl rfl hl.1 rfl (lv_room (Nat.le_of_ble_eq_true rfl)) dL_law_342 ⟨by show cells + 1 ≤ 674246; omega, by show slots + 6 ≤ 7073367; omega⟩) (fun fp H locs hfo hP hO hQ hS => ?_)
        refine lv_istore (lv' := [(5, .int 2), (0, .ref b), (1, .ref (ad 0)), (2, .ref (am 0)), (3, .ref o), (4, .int (nI (4 * k)))]) hx hb dL_law_345 hl (by decide) rfl (fun ls hl => ?_)
        refine lv_aload_n hx hb dL_law_347 rfl (lv_at hl 3 rfl) ?_
        refine lv_aload_n hx hb dL_law_348 rfl (lv_at hl 1 rfl) ?_
        refine lv_iload hx hb dL_law_349 (lv_at hl 5 rfl) ?_
        refine lv_iconst (v := 1) hx hb dL_law_351 (by decide) ?_
        refine lv_iadd hx hb dL_law_352 ?_
        refine wd_re (y := nI (4 * k + 1)) (show nI (4 * k) + nI 1 = nI (4 * k + 1) from nI_add _ _) ?_
        refine ll_sld hx hb hX hbl hbA hS (i := 4 * k + 1) (by omega) (by omega) dL_law_353 ?_
        refine wd_re (y := nI j) (hx1) ?_
        refine lv_aload_n hx hb dL_law_354 rfl (lv_at hl 1 rfl) ?_
        refine lv_iload hx hb dL_law_355 (lv_at hl 5 rfl) ?_
        refine lv_iconst (v := 2) hx hb dL_law_357 (by decide) ?_
        refine lv_iadd hx hb dL_law_358 ?_
        refine wd_re (y := nI (4 * k + 2)) (show nI (4 * k) + nI 2 = nI (4 * k + 2) from nI_add _ _) ?_
        refine ll_sld hx hb hX hbl hbA hS (i := 4 * k + 2) (by omega) (by omega) dL_law_359 ?_
        refine wd_re (y := nI i) (hx2) ?_
        refine lv_aload_n hx hb dL_law_360 rfl (lv_at hl 1 rfl) ?_
        refine lv_iload hx hb dL_law_361 (lv_at hl 5 rfl) ?_
        refine lv_iconst (v := 3) hx hb dL_law_363 (by decide) ?_
        refine lv_iadd hx hb dL_law_364 ?_
        refine wd_re (y := nI (4 * k + 3)) (show nI (4 * k) + nI 3 = nI (4 * k + 3) from nI_add _ _) ?_
        refine ll_sld hx hb hX hbl hbA hS (i := 4 * k + 3) (by omega) (by omega) dL_law_365 ?_
        refine xl_i (O := (mdO (D, cm, am))) (W2 := wd (dkO (D, cs, ad)) M ++ oW o cJ fp) hS (new_A F.2.2.2.2.2.2.1 hS) (va_P.app hP hO) (ap_d F.2.2.2.2.2.2.2.2.1 F.2.2.2.2.2.2.2.2.2.2.1) (va_runV (As := [.int (nI j), .int (nI i), .int (xs (4 * k + 3))]) (rest := []) ⟨hx, hb, hml, hown, hts⟩ (c_X4_acquire (G := (D, cm, am)) hj2 H.size (nI j) (nI i) (xs (4 * k + 3))) (cwV 3 hts gL_law_X4_acquire rfl rfl rfl (by decide +kernel) ⟨Nat.le_of_ble_eq_true rfl, Nat.le_of_ble_eq_true rfl⟩) (wd_pre F.2.2.2.1 hQ (md_lt (by omega)) mE_0 rfl) rfl rfl hl.1 rfl (lv_room (Nat.le_of_ble_eq_true rfl)) dL_law_366 ⟨by show cells + 1 + 0 ≤ 674246; omega, by show slots + 6 + 0 ≤ 7073367; omega⟩) (fun H locs hQ hPO hS => ?_)
        have hP := P_l hPO
        have hO := P_r hPO
        refine lv_istore (lv' := [(6, .int (maqV N (nI j) (nI i) (xs (4 * k + 3)))), (5, .int 2), (0, .ref b), (1, .ref (ad 0)), (2, .ref (am 0)), (3, .ref o), (4, .int (nI (4 * k)))]) hx hb dL_law_369 hl (by decide) rfl (fun ls hl => ?_)
        refine lv_aload_n hx hb dL_law_371 rfl (lv_at hl 4 rfl) ?_
        refine xl_i (O := (mdO (D, cm, am))) (W2 := wd (dkO (D, cs, ad)) M ++ oW o cJ fp) hS (new_A F.2.2.2.2.2.2.1 hS) (va_P.app hP hO) (ap_d F.2.2.2.2.2.2.2.2.1 F.2.2.2.2.2.2.2.2.2.2.1) (va_runV (As := []) (rest := []) ⟨hx, hb, hml, hown, hts⟩ (c_X4_thrown (G := (D, cm, am)) hj2 H.size) (cwV 0 hts gL_law_X4_thrown rfl rfl rfl (by decide +kernel) ⟨Nat.le_of_ble_eq_true rfl, Nat.le_of_ble_eq_true rfl⟩) (wd_pre F.2.2.2.1 hQ (md_lt (by omega)) mE_0 rfl) rfl rfl hl.1 rfl (lv_room (Nat.le_of_ble_eq_true rfl)) dL_law_372 ⟨by show cells + 1 + 0 + 0 ≤ 674246; omega, by show slots + 6 + 0 + 0 ≤ 7073367; omega⟩) (fun H locs hQ hPO hS => ?_)
        have hP := P_l hPO
        have hO := P_r hPO
        refine lv_iload hx hb dL_law_375 (lv_at hl 1 rfl) ?_
        refine lv_icmp_eq (tgt := 382) hx hb dL_law_377 (by decide) (fun _ => ?_) (fun c9 => absurd (by rw [em]; exact up_s _ _ _ _) c9)
        refine lv_iload hx hb dL_law_382 (lv_at hl 1 rfl) ?_
        refine lv_if_ne (tgt := 399) hx hb dL_law_384 (by decide) (fun _ => ?_) (fun c9 => absurd c9 (by decide))
        refine lv_goto (tgt := 773) hx hb dL_law_399 (by decide) ?_
        refine W.widen (k := cells + 1) (n := slots + 6) (by omega) (by omega) ?_
        exact kk _ _ n _ _ _ _ (by omega) (by rw [em]; exact Rel_t 2 hR) ⟨hP, hQ, hO, hS⟩ (lv_sub hl [2, 3, 4, 5, 6] rfl)
set_option maxRecDepth 100000 in
set_option maxHeartbeats 4000000 in
theorem law_6 {p : Program} {l : Launch} {e : Env} {s : State} {m : MethodId} {below : List Frame} {meth : Method} {c : Code} (hst : l.stackTraces = false) {b L : Nat} {xs : Nat → Int32} (hL : L ≤ 2048) (C0 : lw_At p s m meth c b L xs) {D : va_G} {cs : ClassId × ClassId × ClassId} {ad : Nat → Nat} {cm : ClassId × ClassId} {am : Nat → Nat} {o : Nat} {cJ : ClassId} (F : LF s D cs ad cm am o cJ) {M N : Mem} {n : Nat} {fq : Nat → Int64} {H : Heap} {locs : List Loc} {cells slots : Nat} (hR : Rel M N n) (hn : n + 1 < 2 ^ 31) (hI : LI s D cs ad cm am o cJ M N fq H locs) (hc : cells + 1 ≤ 674246) (hsl : slots + 6 ≤ 7073367) {k : Nat} (hk : 4 * k + 4 ≤ L) {ls : Array Slot} (hl : lv_has ls 7 (LV b ad am o k))
    (kk : ∀ (M' N' : Mem) (n' : Nat) (fo' : Nat → Int64) (H' : Heap) (locs' : List Loc) (ls' : Array Slot), n' ≤ n + 1 → Rel M' N' n' → LI s D cs ad cm am o cJ M' N' fo' H' locs' → lv_has ls' 7 (LV b ad am o k) → W p l e room_1 s m #[Value.ref b] below meth c H' locs' (cells + 1) (slots + 6) (lw_Z below #[Value.ref b] s) (F0 m 773 ls' [])) : W p l e room_1 s m #[Value.ref b] below meth c H locs cells slots (lw_Z below #[Value.ref b] s) (F0 m 402 ls []) := by
  obtain ⟨hx, hb, hr, hml, hown, hts, hX, hbl, hlocks, hgv⟩ := id C0
  have hown : s.vm.findClass RL = some m.cls := hown
  have hts : ∀ w ∈ wsL_law, w.before #[Value.ref b] s = true := fun w h => hts w (wsL_law_in w h)
  have hbA : ¬ (fun q : Nat => s.heap.size ≤ q) b := Nat.not_le.mpr hbl
  obtain ⟨hP, hQ, hO, hS⟩ := hI
  have hj1 := F.1
  have hj2 := F.2.1
  have hok := hR.1
  have hmo := os_mo hR (xs (4 * k + 1))
  rcases op_cases (osV M (xs (4 * k + 1))) with ho | ⟨j, ho⟩
  · rw [ho] at hmo
    have em : mrlM N (xs (4 * k + 1)) (xs (4 * k + 2)) = up N 0 1 1 := by unfold mrlM; rw [hmo]
    refine lv_aload_n hx hb dL_law_402 rfl (lv_at hl 1 rfl) ?_
    refine lv_aload_n hx hb dL_law_403 rfl (lv_at hl 0 rfl) ?_
    refine lv_iload hx hb dL_law_404 (lv_at hl 4 rfl) ?_
    refine lv_iconst (v := 1) hx hb dL_law_406 (by decide) ?_
    refine lv_iadd hx hb dL_law_407 ?_
    refine wd_re (y := nI (4 * k + 1)) (show nI (4 * k) + nI 1 = nI (4 * k + 1) from nI_add _ _) ?_
    refine ll_sld hx hb hX hbl hbA hS (i := 4 * k + 1) (by omega) (by omega) dL_law_408 ?_
    refine lv_aload_n hx hb dL_law_409 rfl (lv_at hl 0 rfl) ?_
    refine lv_iload hx hb dL_law_410 (lv_at hl 4 rfl) ?_
    refine lv_iconst (v := 2) hx hb dL_law_412 (by decide) ?_
    refine lv_iadd hx hb dL_law_413 ?_
    refine wd_re (y := nI (4 * k + 2)) (show nI (4 * k) + nI 2 = nI (4 * k + 2) from nI_add _ _) ?_
    refine ll_sld hx hb hX hbl hbA hS (i := 4 * k + 2) (by omega) (by omega) dL_law_414 ?_
    have hsub : ∀ q, hA (dkO (D, cs, ad)) o H.size q → s.heap.size ≤ q := fun q h => h.elim (new_A F.2.2.2.2.2.1 hS q) (fun e9 => by rw [e9]; exact F.2.2.2.2.2.2.2.1)
    refine xl_h (O := (dkO (D, cs, ad))) (W2 := wd (mdO (D, cm, am)) N) hS hsub hQ (fun k9 q9 h9 => by obtain ⟨k1, rfl⟩ := wd_at' h9; exact ⟨F.2.2.2.2.2.2.2.2.2.2.1 k9 k1, fun j9 hj9 => F.2.2.2.2.2.2.2.2.1 j9 k9 hj9 k1⟩) (vx_runSW (As := [.ref (ad 0), .int (xs (4 * k + 1)), .int (xs (4 * k + 2))]) (rest := []) ⟨hx, hb, hml, hown, hts⟩ (c_L_release_n1 hst (G := (D, cs, ad)) hj1 hok (cJ := cJ) F.2.2.2.2.2.2.2.2.2.1 H.size (xs (4 * k + 1)) (xs (4 * k + 2)) ho) (vx_cwSW 3 hts gL_law_L_release rfl rfl rfl (by decide +kernel) ⟨Nat.le_of_ble_eq_true rfl, Nat.le_of_ble_eq_true rfl⟩) (hp_pre F.2.2.1 F.2.2.2.2.1 hP hO hS hsub F.2.2.2.2.2.2.2.2.2.2.2) rfl rfl hl.1 rfl (lv_room (Nat.le_of_ble_eq_true rfl)) dL_law_415 ⟨by show cells + 1 ≤ 674246; omega, by show slots + 6 ≤ 7073367; omega⟩) (fun fp H locs hfo hP hO hQ hS => ?_)
    refine lv_istore (lv' := [(5, .int 1), (0, .ref b), (1, .ref (ad 0)), (2, .ref (am 0)), (3, .ref o), (4, .int (nI (4 * k)))]) hx hb dL_law_418 hl (by decide) rfl (fun ls hl => ?_)
    refine lv_aload_n hx hb dL_law_420 rfl (lv_at hl 3 rfl) ?_
    refine lv_aload_n hx hb dL_law_421 rfl (lv_at hl 1 rfl) ?_
    refine lv_iload hx hb dL_law_422 (lv_at hl 5 rfl) ?_
    refine lv_iconst (v := 1) hx hb dL_law_424 (by decide) ?_
    refine lv_iadd hx hb dL_law_425 ?_
    refine wd_re (y := nI (4 * k + 1)) (show nI (4 * k) + nI 1 = nI (4 * k + 1) from nI_add _ _) ?_
    refine ll_sld hx hb hX hbl hbA hS (i := 4 * k + 1) (by omega) (by omega) dL_law_426 ?_
    refine lv_aload_n hx hb dL_law_427 rfl (lv_at hl 1 rfl) ?_
    refine lv_iload hx hb dL_law_428 (lv_at hl 5 rfl) ?_
    refine lv_iconst (v := 2) hx hb dL_law_430 (by decide) ?_
    refine lv_iadd hx hb dL_law_431 ?_
    refine wd_re (y := nI (4 * k + 2)) (show nI (4 * k) + nI 2 = nI (4 * k + 2) from nI_add _ _) ?_
    refine ll_sld hx hb hX hbl hbA hS (i := 4 * k + 2) (by omega) (by omega) dL_law_432 ?_
    refine xl_v (O := (mdO (D, cm, am))) (W2 := wd (dkO (D, cs, ad)) M ++ oW o cJ fp) hS (new_A F.2.2.2.2.2.2.1 hS) (va_P.app hP hO) (ap_d F.2.2.2.2.2.2.2.2.1 F.2.2.2.2.2.2.2.2.2.2.1) (va_runV (As := [.int (xs (4 * k + 1)), .int (xs (4 * k + 2))]) (rest := []) ⟨hx, hb, hml, hown, hts⟩ (c_X4_release (G := (D, cm, am)) hj2 H.size (xs (4 * k + 1)) (xs (4 * k + 2))) (cwV 2 hts gL_law_X4_release rfl rfl rfl (by decide +kernel) ⟨Nat.le_of_ble_eq_true rfl, Nat.le_of_ble_eq_true rfl⟩) (wd_pre F.2.2.2.1 hQ (md_lt (by omega)) mE_0 rfl) rfl rfl hl.1 rfl (lv_room (Nat.le_of_ble_eq_true rfl)) dL_law_433 ⟨by show cells + 1 + 0 ≤ 674246; omega, by show slots + 6 + 0 ≤ 7073367; omega⟩) (fun H locs hQ hPO hS => ?_)
    have hP := P_l hPO
    have hO := P_r hPO
    refine lv_aload_n hx hb dL_law_436 rfl (lv_at hl 3 rfl) ?_
    refine xl_i (O := (mdO (D, cm, am))) (W2 := wd (dkO (D, cs, ad)) M ++ oW o cJ fp) hS (new_A F.2.2.2.2.2.2.1 hS) (va_P.app hP hO) (ap_d F.2.2.2.2.2.2.2.2.1 F.2.2.2.2.2.2.2.2.2.2.1) (va_runV (As := []) (rest := []) ⟨hx, hb, hml, hown, hts⟩ (c_X4_thrown (G := (D, cm, am)) hj2 H.size) (cwV 0 hts gL_law_X4_thrown rfl rfl rfl (by decide +kernel) ⟨Nat.le_of_ble_eq_true rfl, Nat.le_of_ble_eq_true rfl⟩) (wd_pre F.2.2.2.1 hQ (md_lt (by omega)) mE_0 rfl) rfl rfl hl.1 rfl (lv_room (Nat.le_of_ble_eq_true rfl)) dL_law_437 ⟨by show cells + 1 + 0 + 0 ≤ 674246; omega, by show slots + 6 + 0 + 0 ≤ 7073367; omega⟩) (fun H locs hQ hPO hS => ?_)
    have hP := P_l hPO
    have hO := P_r hPO
    refine lv_iload hx hb dL_law_440 (lv_at hl 0 rfl) ?_
    refine lv_icmp_eq (tgt := 447) hx hb dL_law_442 (by decide) (fun _ => ?_) (fun c9 => absurd (by rw [em]; exact up_s _ _ _ _) c9)
    refine lv_goto (tgt := 773) hx hb dL_law_447 (by decide) ?_
    refine W.widen (k := cells + 1) (n := slots + 6) (by omega) (by omega) ?_
    exact kk _ _ n _ _ _ _ (by omega) (by rw [em]; exact Rel_t 1 hR) ⟨hP, hQ, hO, hS⟩ (lv_sub hl [1, 2, 3, 4, 5] rfl)
  · obtain ⟨hj6, hx1, hon⟩ := osV_some ho
    rw [ho] at hmo
    rw [hx1] at hmo
    rcases op_cases (dN (xs (4 * k + 2)) 4) with hd | ⟨i, hd⟩
    · have em : mrlM N (nI j) (xs (4 * k + 2)) = up N 0 1 2 := by simp only [mrlM, hmo, hd]
      refine lv_aload_n hx hb dL_law_402 rfl (lv_at hl 1 rfl) ?_
      refine lv_aload_n hx hb dL_law_403 rfl (lv_at hl 0 rfl) ?_
      refine lv_iload hx hb dL_law_404 (lv_at hl 4 rfl) ?_
      refine lv_iconst (v := 1) hx hb dL_law_406 (by decide) ?_
      refine lv_iadd hx hb dL_law_407 ?_
      refine wd_re (y := nI (4 * k + 1)) (show nI (4 * k) + nI 1 = nI (4 * k + 1) from nI_add _ _) ?_
      refine ll_sld hx hb hX hbl hbA hS (i := 4 * k + 1) (by omega) (by omega) dL_law_408 ?_
      refine wd_re (y := nI j) (hx1) ?_
      refine lv_aload_n hx hb dL_law_409 rfl (lv_at hl 0 rfl) ?_
      refine lv_iload hx hb dL_law_410 (lv_at hl 4 rfl) ?_
      refine lv_iconst (v := 2) hx hb dL_law_412 (by decide) ?_
      refine lv_iadd hx hb dL_law_413 ?_
      refine wd_re (y := nI (4 * k + 2)) (show nI (4 * k) + nI 2 = nI (4 * k + 2) from nI_add _ _) ?_
      refine ll_sld hx hb hX hbl hbA hS (i := 4 * k + 2) (by omega) (by omega) dL_law_414 ?_
      have hsub : ∀ q, hA (dkO (D, cs, ad)) o H.size q → s.heap.size ≤ q := fun q h => h.elim (new_A F.2.2.2.2.2.1 hS q) (fun e9 => by rw [e9]; exact F.2.2.2.2.2.2.2.1)
      refine xl_h (O := (dkO (D, cs, ad))) (W2 := wd (mdO (D, cm, am)) N) hS hsub hQ (fun k9 q9 h9 => by obtain ⟨k1, rfl⟩ := wd_at' h9; exact ⟨F.2.2.2.2.2.2.2.2.2.2.1 k9 k1, fun j9 hj9 => F.2.2.2.2.2.2.2.2.1 j9 k9 hj9 k1⟩) (vx_runSW (As := [.ref (ad 0), .int (nI j), .int (xs (4 * k + 2))]) (rest := []) ⟨hx, hb, hml, hown, hts⟩ (c_L_release_n2 hst (G := (D, cs, ad)) hj1 hok (cJ := cJ) F.2.2.2.2.2.2.2.2.2.1 H.size hj6 hon (xs (4 * k + 2)) hd) (vx_cwSW 3 hts gL_law_L_release rfl rfl rfl (by decide +kernel) ⟨Nat.le_of_ble_eq_true rfl, Nat.le_of_ble_eq_true rfl⟩) (hp_pre F.2.2.1 F.2.2.2.2.1 hP hO hS hsub F.2.2.2.2.2.2.2.2.2.2.2) rfl rfl hl.1 rfl (lv_room (Nat.le_of_ble_eq_true rfl)) dL_law_415 ⟨by show cells + 1 ≤ 674246; omega, by show slots + 6 ≤ 7073367; omega⟩) (fun fp H locs hfo hP hO hQ hS => ?_)
      refine lv_istore (lv' := [(5, .int 2), (0, .ref b), (1, .ref (ad 0)), (2, .ref (am 0)), (3, .ref o), (4, .int (nI (4 * k)))]) hx hb dL_law_418 hl (by decide) rfl (fun ls hl => ?_)
      refine lv_aload_n hx hb dL_law_420 rfl (lv_at hl 3 rfl) ?_
      refine lv_aload_n hx hb dL_law_421 rfl (lv_at hl 1 rfl) ?_
      refine lv_iload hx hb dL_law_422 (lv_at hl 5 rfl) ?_
      refine lv_iconst (v := 1) hx hb dL_law_424 (by decide) ?_
      refine lv_iadd hx hb dL_law_425 ?_
      refine wd_re (y := nI (4 * k + 1)) (show nI (4 * k) + nI 1 = nI (4 * k + 1) from nI_add _ _) ?_
      refine ll_sld hx hb hX hbl hbA hS (i := 4 * k + 1) (by omega) (by omega) dL_law_426 ?_
      refine wd_re (y := nI j) (hx1) ?_
      refine lv_aload_n hx hb dL_law_427 rfl (lv_at hl 1 rfl) ?_
      refine lv_iload hx hb dL_law_428 (lv_at hl 5 rfl) ?_
      refine lv_iconst (v := 2) hx hb dL_law_430 (by decide) ?_
      refine lv_iadd hx hb dL_law_431 ?_
      refine wd_re (y := nI (4 * k + 2)) (show nI (4 * k) + nI 2 = nI (4 * k + 2) from nI_add _ _) ?_
      refine ll_sld hx hb hX hbl hbA hS (i := 4 * k + 2) (by omega) (by omega) dL_law_432 ?_
      refine xl_v (O := (mdO (D, cm, am))) (W2 := wd (dkO (D, cs, ad)) M ++ oW o cJ fp) hS (new_A F.2.2.2.2.2.2.1 hS) (va_P.app hP hO) (ap_d F.2.2.2.2.2.2.2.2.1 F.2.2.2.2.2.2.2.2.2.2.1) (va_runV (As := [.int (nI j), .int (xs (4 * k + 2))]) (rest := []) ⟨hx, hb, hml, hown, hts⟩ (c_X4_release (G := (D, cm, am)) hj2 H.size (nI j) (xs (4 * k + 2))) (cwV 2 hts gL_law_X4_release rfl rfl rfl (by decide +kernel) ⟨Nat.le_of_ble_eq_true rfl, Nat.le_of_ble_eq_true rfl⟩) (wd_pre F.2.2.2.1 hQ (md_lt (by omega)) mE_0 rfl) rfl rfl hl.1 rfl (lv_room (Nat.le_of_ble_eq_true rfl)) dL_law_433 ⟨by show cells + 1 + 0 ≤ 674246; omega, by show slots + 6 + 0 ≤ 7073367; omega⟩) (fun H locs hQ hPO hS => ?_)
      have hP := P_l hPO
      have hO := P_r hPO
      refine lv_aload_n hx hb dL_law_436 rfl (lv_at hl 3 rfl) ?_
      refine xl_i (O := (mdO (D, cm, am))) (W2 := wd (dkO (D, cs, ad)) M ++ oW o cJ fp) hS (new_A F.2.2.2.2.2.2.1 hS) (va_P.app hP hO) (ap_d F.2.2.2.2.2.2.2.2.1 F.2.2.2.2.2.2.2.2.2.2.1) (va_runV (As := []) (rest := []) ⟨hx, hb, hml, hown, hts⟩ (c_X4_thrown (G := (D, cm, am)) hj2 H.size) (cwV 0 hts gL_law_X4_thrown rfl rfl rfl (by decide +kernel) ⟨Nat.le_of_ble_eq_true rfl, Nat.le_of_ble_eq_true rfl⟩) (wd_pre F.2.2.2.1 hQ (md_lt (by omega)) mE_0 rfl) rfl rfl hl.1 rfl (lv_room (Nat.le_of_ble_eq_true rfl)) dL_law_437 ⟨by show cells + 1 + 0 + 0 ≤ 674246; omega, by show slots + 6 + 0 + 0 ≤ 7073367; omega⟩) (fun H locs hQ hPO hS => ?_)
      have hP := P_l hPO
      have hO := P_r hPO
      refine lv_iload hx hb dL_law_440 (lv_at hl 0 rfl) ?_
      refine lv_icmp_eq (tgt := 447) hx hb dL_law_442 (by decide) (fun _ => ?_) (fun c9 => absurd (by rw [em]; exact up_s _ _ _ _) c9)
      refine lv_goto (tgt := 773) hx hb dL_law_447 (by decide) ?_
      refine W.widen (k := cells + 1) (n := slots + 6) (by omega) (by omega) ?_
      exact kk _ _ n _ _ _ _ (by omega) (by rw [em]; exact Rel_t 2 hR) ⟨hP, hQ, hO, hS⟩ (lv_sub hl [1, 2, 3, 4, 5] rfl)
    · obtain ⟨hi4, hx2⟩ := dN_some (by decide) hd
      rw [hx2] at hd
      by_cases hh : M (9 + i) 1 = nI j
      · have em : mrlM N (nI j) (nI i) = ovM (up N 0 1 0) i := by simp only [mrlM, hmo, hd, if_pos ((hold_iff hR hi4 (nI j)).mpr hh)]
        refine lv_aload_n hx hb dL_law_402 rfl (lv_at hl 1 rfl) ?_
        refine lv_aload_n hx hb dL_law_403 rfl (lv_at hl 0 rfl) ?_
        refine lv_iload hx hb dL_law_404 (lv_at hl 4 rfl) ?_
        refine lv_iconst (v := 1) hx hb dL_law_406 (by decide) ?_
        refine lv_iadd hx hb dL_law_407 ?_
        refine wd_re (y := nI (4 * k + 1)) (show nI (4 * k) + nI 1 = nI (4 * k + 1) from nI_add _ _) ?_
        refine ll_sld hx hb hX hbl hbA hS (i := 4 * k + 1) (by omega) (by omega) dL_law_408 ?_
        refine wd_re (y := nI j) (hx1) ?_
        refine lv_aload_n hx hb dL_law_409 rfl (lv_at hl 0 rfl) ?_
        refine lv_iload hx hb dL_law_410 (lv_at hl 4 rfl) ?_
        refine lv_iconst (v := 2) hx hb dL_law_412 (by decide) ?_
        refine lv_iadd hx hb dL_law_413 ?_
        refine wd_re (y := nI (4 * k + 2)) (show nI (4 * k) + nI 2 = nI (4 * k + 2) from nI_add _ _) ?_
        refine ll_sld hx hb hX hbl hbA hS (i := 4 * k + 2) (by omega) (by omega) dL_law_414 ?_
        refine wd_re (y := nI i) (hx2) ?_
        have hsub : ∀ q, hA (dkO (D, cs, ad)) o H.size q → s.heap.size ≤ q := fun q h => h.elim (new_A F.2.2.2.2.2.1 hS q) (fun e9 => by rw [e9]; exact F.2.2.2.2.2.2.2.1)
        refine xl_h (O := (dkO (D, cs, ad))) (W2 := wd (mdO (D, cm, am)) N) hS hsub hQ (fun k9 q9 h9 => by obtain ⟨k1, rfl⟩ := wd_at' h9; exact ⟨F.2.2.2.2.2.2.2.2.2.2.1 k9 k1, fun j9 hj9 => F.2.2.2.2.2.2.2.2.1 j9 k9 hj9 k1⟩) (vx_runSW (As := [.ref (ad 0), .int (nI j), .int (nI i)]) (rest := []) ⟨hx, hb, hml, hown, hts⟩ (c_L_release_s (G := (D, cs, ad)) hj1 hok (cJ := cJ) F.2.2.2.2.2.2.2.2.2.1 H.size hj6 hon hi4 hh) (vx_cwSW 3 hts gL_law_L_release rfl rfl rfl (by decide +kernel) ⟨Nat.le_of_ble_eq_true rfl, Nat.le_of_ble_eq_true rfl⟩) (hp_pre F.2.2.1 F.2.2.2.2.1 hP hO hS hsub F.2.2.2.2.2.2.2.2.2.2.2) rfl rfl hl.1 rfl (lv_room (Nat.le_of_ble_eq_true rfl)) dL_law_415 ⟨by show cells + 0 ≤ 674246; omega, by show slots + 0 ≤ 7073367; omega⟩) (fun fp H locs hfo hP hO hQ hS => ?_)
        refine lv_istore (lv' := [(5, .int 0), (0, .ref b), (1, .ref (ad 0)), (2, .ref (am 0)), (3, .ref o), (4, .int (nI (4 * k)))]) hx hb dL_law_418 hl (by decide) rfl (fun ls hl => ?_)
        refine lv_aload_n hx hb dL_law_420 rfl (lv_at hl 3 rfl) ?_
        refine lv_aload_n hx hb dL_law_421 rfl (lv_at hl 1 rfl) ?_
        refine lv_iload hx hb dL_law_422 (lv_at hl 5 rfl) ?_
        refine lv_iconst (v := 1) hx hb dL_law_424 (by decide) ?_
        refine lv_iadd hx hb dL_law_425 ?_
        refine wd_re (y := nI (4 * k + 1)) (show nI (4 * k) + nI 1 = nI (4 * k + 1) from nI_add _ _) ?_
        refine ll_sld hx hb hX hbl hbA hS (i := 4 * k + 1) (by omega) (by omega) dL_law_426 ?_
        refine wd_re (y := nI j) (hx1) ?_
        refine lv_aload_n hx hb dL_law_427 rfl (lv_at hl 1 rfl) ?_
        refine lv_iload hx hb dL_law_428 (lv_at hl 5 rfl) ?_
        refine lv_iconst (v := 2) hx hb dL_law_430 (by decide) ?_
        refine lv_iadd hx hb dL_law_431 ?_
        refine wd_re (y := nI (4 * k + 2)) (show nI (4 * k) + nI 2 = nI (4 * k + 2) from nI_add _ _) ?_
        refine ll_sld hx hb hX hbl hbA hS (i := 4 * k + 2) (by omega) (by omega) dL_law_432 ?_
        refine wd_re (y := nI i) (hx2) ?_
        refine xl_v (O := (mdO (D, cm, am))) (W2 := wd (dkO (D, cs, ad)) (psM M i) ++ oW o cJ fp) hS (new_A F.2.2.2.2.2.2.1 hS) (va_P.app hP hO) (ap_d F.2.2.2.2.2.2.2.2.1 F.2.2.2.2.2.2.2.2.2.2.1) (va_runV (As := [.int (nI j), .int (nI i)]) (rest := []) ⟨hx, hb, hml, hown, hts⟩ (c_X4_release (G := (D, cm, am)) hj2 H.size (nI j) (nI i)) (cwV 2 hts gL_law_X4_release rfl rfl rfl (by decide +kernel) ⟨Nat.le_of_ble_eq_true rfl, Nat.le_of_ble_eq_true rfl⟩) (wd_pre F.2.2.2.1 hQ (md_lt (by omega)) mE_0 rfl) rfl rfl hl.1 rfl (lv_room (Nat.le_of_ble_eq_true rfl)) dL_law_433 ⟨by show cells + 0 + 0 ≤ 674246; omega, by show slots + 0 + 0 ≤ 7073367; omega⟩) (fun H locs hQ hPO hS => ?_)
        have hP := P_l hPO
        have hO := P_r hPO
        refine lv_aload_n hx hb dL_law_436 rfl (lv_at hl 3 rfl) ?_
        refine xl_i (O := (mdO (D, cm, am))) (W2 := wd (dkO (D, cs, ad)) (psM M i) ++ oW o cJ fp) hS (new_A F.2.2.2.2.2.2.1 hS) (va_P.app hP hO) (ap_d F.2.2.2.2.2.2.2.2.1 F.2.2.2.2.2.2.2.2.2.2.1) (va_runV (As := []) (rest := []) ⟨hx, hb, hml, hown, hts⟩ (c_X4_thrown (G := (D, cm, am)) hj2 H.size) (cwV 0 hts gL_law_X4_thrown rfl rfl rfl (by decide +kernel) ⟨Nat.le_of_ble_eq_true rfl, Nat.le_of_ble_eq_true rfl⟩) (wd_pre F.2.2.2.1 hQ (md_lt (by omega)) mE_0 rfl) rfl rfl hl.1 rfl (lv_room (Nat.le_of_ble_eq_true rfl)) dL_law_437 ⟨by show cells + 0 + 0 + 0 ≤ 674246; omega, by show slots + 0 + 0 + 0 ≤ 7073367; omega⟩) (fun H locs hQ hPO hS => ?_)
        have hP := P_l hPO
        have hO := P_r hPO
        refine lv_iload hx hb dL_law_440 (lv_at hl 0 rfl) ?_
        refine lv_icmp_eq (tgt := 447) hx hb dL_law_442 (by decide) (fun _ => ?_) (fun c9 => absurd (by rw [em, ov_ses (by omega)]; exact up_s _ _ _ _) c9)
        refine lv_goto (tgt := 773) hx hb dL_law_447 (by decide) ?_
        refine W.widen (k := cells + 1) (n := slots + 6) (by omega) (by omega) ?_
        exact kk _ _ n _ _ _ _ (by omega) (by rw [em]; exact Rel_ps (by omega) (Rel_t 0 hR) hi4) ⟨hP, hQ, hO, hS⟩ (lv_sub hl [1, 2, 3, 4, 5] rfl)
      · have em : mrlM N (nI j) (nI i) = up N 0 1 3 := by simp only [mrlM, hmo, hd, if_neg (fun e9 => hh ((hold_iff hR hi4 (nI j)).mp e9))]
        refine lv_aload_n hx hb dL_law_402 rfl (lv_at hl 1 rfl) ?_
        refine lv_aload_n hx hb dL_law_403 rfl (lv_at hl 0 rfl) ?_
        refine lv_iload hx hb dL_law_404 (lv_at hl 4 rfl) ?_
        refine lv_iconst (v := 1) hx hb dL_law_406 (by decide) ?_
        refine lv_iadd hx hb dL_law_407 ?_
        refine wd_re (y := nI (4 * k + 1)) (show nI (4 * k) + nI 1 = nI (4 * k + 1) from nI_add _ _) ?_
        refine ll_sld hx hb hX hbl hbA hS (i := 4 * k + 1) (by omega) (by omega) dL_law_408 ?_
        refine wd_re (y := nI j) (hx1) ?_
        refine lv_aload_n hx hb dL_law_409 rfl (lv_at hl 0 rfl) ?_
        refine lv_iload hx hb dL_law_410 (lv_at hl 4 rfl) ?_
        refine lv_iconst (v := 2) hx hb dL_law_412 (by decide) ?_
        refine lv_iadd hx hb dL_law_413 ?_
        refine wd_re (y := nI (4 * k + 2)) (show nI (4 * k) + nI 2 = nI (4 * k + 2) from nI_add _ _) ?_
        refine ll_sld hx hb hX hbl hbA hS (i := 4 * k + 2) (by omega) (by omega) dL_law_414 ?_
        refine wd_re (y := nI i) (hx2) ?_
        have hsub : ∀ q, hA (dkO (D, cs, ad)) o H.size q → s.heap.size ≤ q := fun q h => h.elim (new_A F.2.2.2.2.2.1 hS q) (fun e9 => by rw [e9]; exact F.2.2.2.2.2.2.2.1)
        refine xl_h (O := (dkO (D, cs, ad))) (W2 := wd (mdO (D, cm, am)) N) hS hsub hQ (fun k9 q9 h9 => by obtain ⟨k1, rfl⟩ := wd_at' h9; exact ⟨F.2.2.2.2.2.2.2.2.2.2.1 k9 k1, fun j9 hj9 => F.2.2.2.2.2.2.2.2.1 j9 k9 hj9 k1⟩) (vx_runSW (As := [.ref (ad 0), .int (nI j), .int (nI i)]) (rest := []) ⟨hx, hb, hml, hown, hts⟩ (c_L_release_n3 hst (G := (D, cs, ad)) hj1 hok (cJ := cJ) F.2.2.2.2.2.2.2.2.2.1 H.size hj6 hon hi4 hh) (vx_cwSW 3 hts gL_law_L_release rfl rfl rfl (by decide +kernel) ⟨Nat.le_of_ble_eq_true rfl, Nat.le_of_ble_eq_true rfl⟩) (hp_pre F.2.2.1 F.2.2.2.2.1 hP hO hS hsub F.2.2.2.2.2.2.2.2.2.2.2) rfl rfl hl.1 rfl (lv_room (Nat.le_of_ble_eq_true rfl)) dL_law_415 ⟨by show cells + 1 ≤ 674246; omega, by show slots + 6 ≤ 7073367; omega⟩) (fun fp H locs hfo hP hO hQ hS => ?_)
        refine lv_istore (lv' := [(5, .int 3), (0, .ref b), (1, .ref (ad 0)), (2, .ref (am 0)), (3, .ref o), (4, .int (nI (4 * k)))]) hx hb dL_law_418 hl (by decide) rfl (fun ls hl => ?_)
        refine lv_aload_n hx hb dL_law_420 rfl (lv_at hl 3 rfl) ?_
        refine lv_aload_n hx hb dL_law_421 rfl (lv_at hl 1 rfl) ?_
        refine lv_iload hx hb dL_law_422 (lv_at hl 5 rfl) ?_
        refine lv_iconst (v := 1) hx hb dL_law_424 (by decide) ?_
        refine lv_iadd hx hb dL_law_425 ?_
        refine wd_re (y := nI (4 * k + 1)) (show nI (4 * k) + nI 1 = nI (4 * k + 1) from nI_add _ _) ?_
        refine ll_sld hx hb hX hbl hbA hS (i := 4 * k + 1) (by omega) (by omega) dL_law_426 ?_
        refine wd_re (y := nI j) (hx1) ?_
        refine lv_aload_n hx hb dL_law_427 rfl (lv_at hl 1 rfl) ?_
        refine lv_iload hx hb dL_law_428 (lv_at hl 5 rfl) ?_
        refine lv_iconst (v := 2) hx hb dL_law_430 (by decide) ?_
        refine lv_iadd hx hb dL_law_431 ?_
        refine wd_re (y := nI (4 * k + 2)) (show nI (4 * k) + nI 2 = nI (4 * k + 2) from nI_add _ _) ?_
        refine ll_sld hx hb hX hbl hbA hS (i := 4 * k + 2) (by omega) (by omega) dL_law_432 ?_
        refine wd_re (y := nI i) (hx2) ?_
        refine xl_v (O := (mdO (D, cm, am))) (W2 := wd (dkO (D, cs, ad)) M ++ oW o cJ fp) hS (new_A F.2.2.2.2.2.2.1 hS) (va_P.app hP hO) (ap_d F.2.2.2.2.2.2.2.2.1 F.2.2.2.2.2.2.2.2.2.2.1) (va_runV (As := [.int (nI j), .int (nI i)]) (rest := []) ⟨hx, hb, hml, hown, hts⟩ (c_X4_release (G := (D, cm, am)) hj2 H.size (nI j) (nI i)) (cwV 2 hts gL_law_X4_release rfl rfl rfl (by decide +kernel) ⟨Nat.le_of_ble_eq_true rfl, Nat.le_of_ble_eq_true rfl⟩) (wd_pre F.2.2.2.1 hQ (md_lt (by omega)) mE_0 rfl) rfl rfl hl.1 rfl (lv_room (Nat.le_of_ble_eq_true rfl)) dL_law_433 ⟨by show cells + 1 + 0 ≤ 674246; omega, by show slots + 6 + 0 ≤ 7073367; omega⟩) (fun H locs hQ hPO hS => ?_)
        have hP := P_l hPO
        have hO := P_r hPO
        refine lv_aload_n hx hb dL_law_436 rfl (lv_at hl 3 rfl) ?_
        refine xl_i (O := (mdO (D, cm, am))) (W2 := wd (dkO (D, cs, ad)) M ++ oW o cJ fp) hS (new_A F.2.2.2.2.2.2.1 hS) (va_P.app hP hO) (ap_d F.2.2.2.2.2.2.2.2.1 F.2.2.2.2.2.2.2.2.2.2.1) (va_runV (As := []) (rest := []) ⟨hx, hb, hml, hown, hts⟩ (c_X4_thrown (G := (D, cm, am)) hj2 H.size) (cwV 0 hts gL_law_X4_thrown rfl rfl rfl (by decide +kernel) ⟨Nat.le_of_ble_eq_true rfl, Nat.le_of_ble_eq_true rfl⟩) (wd_pre F.2.2.2.1 hQ (md_lt (by omega)) mE_0 rfl) rfl rfl hl.1 rfl (lv_room (Nat.le_of_ble_eq_true rfl)) dL_law_437 ⟨by show cells + 1 + 0 + 0 ≤ 674246; omega, by show slots + 6 + 0 + 0 ≤ 7073367; omega⟩) (fun H locs hQ hPO hS => ?_)
        have hP := P_l hPO
        have hO := P_r hPO
        refine lv_iload hx hb dL_law_440 (lv_at hl 0 rfl) ?_
        refine lv_icmp_eq (tgt := 447) hx hb dL_law_442 (by decide) (fun _ => ?_) (fun c9 => absurd (by rw [em]; exact up_s _ _ _ _) c9)
        refine lv_goto (tgt := 773) hx hb dL_law_447 (by decide) ?_
        refine W.widen (k := cells + 1) (n := slots + 6) (by omega) (by omega) ?_
        exact kk _ _ n _ _ _ _ (by omega) (by rw [em]; exact Rel_t 3 hR) ⟨hP, hQ, hO, hS⟩ (lv_sub hl [1, 2, 3, 4, 5] rfl)
