set_option maxRecDepth 100000 in
set_option maxHeartbeats 4000000 in
theorem c_X3_open_s {l : Launch} {G : DG} (hj : wj (dkO G)) {M : Mem} (hok : dk_ok M) (sz : Nat) {j0 : Nat} (ho : fo M 6 0 = some j0) : Met l yX3_open wsX3_open ({ frames := 1, cells := 0, slots := 0, locals := 21 }) (va_Pc [.ref (wa (dkO G) 0)] (wp (dkO G) sz M)) (wQi (dkO G) sz (nI j0) (bgM M j0 (M 0 2))) 0 0 (wA (dkO G) sz) := by
  refine wd_ofW (O := (dkO G)) (M := M) (Qc := fun z => wQi (dkO G) z (nI j0) (bgM M j0 (M 0 2))) (cc := cX3_open) (maxL := 2) (ret := (some .int)) (lv := [(0, .ref (wa (dkO G) 0))]) (by decide) rfl (Nat.le_of_ble_eq_true rfl) rfl ?_
  intro p e s m below meth c ls hx hb hr hml hown hts hlocks hP hK hS hl
  have hi2 : ∀ w ∈ wsX20, w ∈ wsX3_open := by decide +kernel
  have hi3 : ∀ w ∈ wsX30, w ∈ wsX3_open := by decide +kernel
  refine lv_iconst (v := 0) hx hb dX3_open_0 (by decide) ?_
  refine lv_istore_n (lv' := [(1, .int 0), (0, .ref (wa (dkO G) 0))]) hx hb dX3_open_1 rfl hl (by decide) rfl (fun ls hl => ?_)
  refine wl_loop (pc := 2) (fun k j N v ls H locs => (j + k = 6) ∧ (fo M k j = some j0) ∧ va_P (wD (dkO G)) vwCl (wd (dkO G) M) H ∧ va_S (wA (dkO G) s.heap.size) s.heap H locs ∧ lv_has ls 2 [(1, .int (nI j)), (0, .ref (wa (dkO G) 0))]) ?_ ?_ 6 0 M 0 ⟨by omega, ho, hP, hS, lv_sub hl [0, 1] rfl⟩
  · rintro j N v ls H locs ⟨h1, h2, hP, hS, hl⟩
    exact absurd h2 (by simp [fo])
  · rintro k j N v ls H locs ih ⟨h1, h2, hP, hS, hl⟩
    refine lv_iload_n hx hb dX3_open_2 rfl (lv_at hl 0 rfl) ?_
    refine lv_bipush (v := 6) hx hb dX3_open_3 (by decide) ?_
    refine lv_icmp_ge (tgt := 41) hx hb dX3_open_5 (by decide) (fun c1 => absurd c1 (show ¬ nI 6 ≤ nI j from nI_ge (by omega) (by omega))) (fun c1 => ?_)
    refine lv_aload_n hx hb dX3_open_8 rfl (lv_at hl 1 rfl) ?_
    refine wd_get (O := (dkO G)) (v := .ref (wa (dkO G) 1)) hx hb hts hi3 hown hK hP (dk_lt (by omega)) dE_0 rfl 0 (by decide) (hts (.fieldLink RX3 11 "LeaseDesk" "sessions" "[LLeaseDesk$Session;") (by decide +kernel)) (fun _ h9 => h9) rfl dX3_open_9 ?_
    refine lv_iload_n hx hb dX3_open_12 rfl (lv_at hl 0 rfl) ?_
    refine wd_aald (O := (dkO G)) (b := wa (dkO G) (3 + j)) hx hb hK hP (dk_lt (by omega)) 1 dE_1 rfl (i := j) rfl (by omega) (by decide) (if_pos (by omega)) dX3_open_13 ?_
    refine wd_get (O := (dkO G)) (v := .int (M (3 + j) 0)) hx hb hts hi2 hown hK hP (dk_lt (by omega)) (dE_ses (by omega)) rfl 0 (by decide) (hts (.fieldLink RX3 27 "LeaseDesk$Session" "isOpen" "Z") (by decide +kernel)) (fun _ h9 => h9) rfl dX3_open_14 ?_
    refine lv_if_ne (tgt := 35) hx hb dX3_open_17 (by decide) (fun c2 => ?_) (fun c2 => ?_)
    · refine lv_iinc (v := nI (j + 1)) (lv' := [(1, .int (nI (j + 1))), (0, .ref (wa (dkO G) 0))]) hx hb dX3_open_35 hl (k := 0) rfl (nI_1 j) (by decide) rfl (fun ls hl => ?_)
      refine lv_goto (tgt := 2) hx hb dX3_open_38 (by decide) ?_
      exact ih (j + 1) N v ls H locs ⟨by omega, by rw [← h2]; simp only [fo, if_neg c2], hP, hS, lv_sub hl [0, 1] rfl⟩
    · have hjj : j = j0 := by simp only [fo, if_pos c2] at h2; exact Option.some.inj h2
      subst hjj
      refine lv_aload_n hx hb dX3_open_20 rfl (lv_at hl 1 rfl) ?_
      refine wd_get (O := (dkO G)) (v := .ref (wa (dkO G) 1)) hx hb hts hi3 hown hK hP (dk_lt (by omega)) dE_0 rfl 0 (by decide) (hts (.fieldLink RX3 11 "LeaseDesk" "sessions" "[LLeaseDesk$Session;") (by decide +kernel)) (fun _ h9 => h9) rfl dX3_open_21 ?_
      refine lv_iload_n hx hb dX3_open_24 rfl (lv_at hl 0 rfl) ?_
      refine wd_aald (O := (dkO G)) (b := wa (dkO G) (3 + j)) hx hb hK hP (dk_lt (by omega)) 1 dE_1 rfl (i := j) rfl (by omega) (by decide) (if_pos (by omega)) dX3_open_25 ?_
      refine lv_aload_n hx hb dX3_open_26 rfl (lv_at hl 1 rfl) ?_
      refine wd_get (O := (dkO G)) (v := .int (M 0 2)) hx hb hts hi3 hown hK hP (dk_lt (by omega)) dE_0 rfl 2 (by decide) (hts (.fieldLink RX3 23 "LeaseDesk" "now" "I") (by decide +kernel)) (fun _ h9 => h9) rfl dX3_open_27 ?_
      refine wd_cv (O := (dkO G)) hS (va_runV (As := [.int (M 0 2)]) (rest := []) ⟨hx, hb, hml, hown, hts⟩ (c_X2_begin (G := G) hj hok (by omega) H.size (M 0 2)) (cwV 1 hts gX3_open_X2_begin rfl rfl rfl (by decide +kernel) ⟨Nat.le_of_ble_eq_true rfl, Nat.le_of_ble_eq_true rfl⟩) (wd_pre hK hP (dk_lt (by omega)) (dE_ses (by omega)) rfl) rfl rfl hl.1 rfl (lv_room (Nat.le_of_ble_eq_true rfl)) dX3_open_30 ⟨Nat.le_of_ble_eq_true rfl, Nat.le_of_ble_eq_true rfl⟩) (fun H locs hP hS => ?_)
      have hok : dk_ok (bgM M j (M 0 2)) := ok_bg hok (by omega)
      refine lv_iload_n hx hb dX3_open_33 rfl (lv_at hl 0 rfl) ?_
      exact wd_iret (O := (dkO G)) hx hb hr hlocks hK hP hS rfl dX3_open_34 (rfl) (rfl)
set_option maxRecDepth 100000 in
set_option maxHeartbeats 4000000 in
theorem c_X3_requireSession_s {l : Launch} {G : DG} (hj : wj (dkO G)) {M : Mem} (hok : dk_ok M) {j : Nat} (hj6 : j < 6) (hon : M (3 + j) 0 ≠ 0) (sz : Nat) : Met l yX3_requireSession wsX3_requireSession ({ frames := 1, cells := 0, slots := 0, locals := 21 }) (va_Pc [.ref (wa (dkO G) 0), .int (nI j)] (wp (dkO G) sz M)) (wQq (dkO G) sz (some (wa (dkO G) (3 + j))) (M)) 0 0 (wA (dkO G) sz) := by
  refine wd_ofW (O := (dkO G)) (M := M) (Qc := fun z => wQq (dkO G) z (some (wa (dkO G) (3 + j))) (M)) (cc := cX3_requireSession) (maxL := 3) (ret := (some (.object "LeaseDesk$Session"))) (lv := [(0, .ref (wa (dkO G) 0)), (1, .int (nI j))]) (by decide) rfl (Nat.le_of_ble_eq_true rfl) rfl ?_
  intro p e s m below meth c ls hx hb hr hml hown hts hlocks hP hK hS hl
  refine lv_aload_n hx hb dX3_requireSession_0 rfl (lv_at hl 0 rfl) ?_
  refine lv_iload_n hx hb dX3_requireSession_1 rfl (lv_at hl 1 rfl) ?_
  refine wd_cqs (O := (dkO G)) hS (va_runV (As := [.int (nI j)]) (rest := []) ⟨hx, hb, hml, hown, hts⟩ (c_X3_openSession_s (G := G) hj hok (by omega) hon s.heap.size) (cwV 1 hts gX3_requireSession_X3_openSession rfl rfl rfl (by decide +kernel) ⟨Nat.le_of_ble_eq_true rfl, Nat.le_of_ble_eq_true rfl⟩) (wd_pre hK hP (dk_lt (by omega)) dE_0 rfl) rfl rfl hl.1 rfl (lv_room (Nat.le_of_ble_eq_true rfl)) dX3_requireSession_2 ⟨Nat.le_of_ble_eq_true rfl, Nat.le_of_ble_eq_true rfl⟩) (fun H locs hP hS => ?_)
  refine lv_astore_n (lv' := [(2, .ref (wa (dkO G) (3 + j))), (0, .ref (wa (dkO G) 0)), (1, .int (nI j))]) hx hb dX3_requireSession_5 rfl hl (by decide) rfl (fun ls hl => ?_)
  refine lv_aload_n hx hb dX3_requireSession_6 rfl (lv_at hl 0 rfl) ?_
  refine lv_ifnonnull (tgt := 20) hx hb dX3_requireSession_7 (by decide) ?_
  refine lv_aload_n hx hb dX3_requireSession_20 rfl (lv_at hl 0 rfl) ?_
  exact wd_aret (O := (dkO G)) hx hb hr hlocks hK hP hS dX3_requireSession_21 (rfl) (rfl)
set_option maxRecDepth 100000 in
set_option maxHeartbeats 4000000 in
theorem c_X3_requireLock_s {l : Launch} {G : DG} (hj : wj (dkO G)) {M : Mem} (hok : dk_ok M) {i : Nat} (hi4 : i < 4) (sz : Nat) : Met l yX3_requireLock wsX3_requireLock ({ frames := 1, cells := 0, slots := 0, locals := 21 }) (va_Pc [.ref (wa (dkO G) 0), .int (nI i)] (wp (dkO G) sz M)) (wQq (dkO G) sz (some (wa (dkO G) (9 + i))) (M)) 0 0 (wA (dkO G) sz) := by
  refine wd_ofW (O := (dkO G)) (M := M) (Qc := fun z => wQq (dkO G) z (some (wa (dkO G) (9 + i))) (M)) (cc := cX3_requireLock) (maxL := 3) (ret := (some (.object "LeaseDesk$Lock"))) (lv := [(0, .ref (wa (dkO G) 0)), (1, .int (nI i))]) (by decide) rfl (Nat.le_of_ble_eq_true rfl) rfl ?_
  intro p e s m below meth c ls hx hb hr hml hown hts hlocks hP hK hS hl
  refine lv_aload_n hx hb dX3_requireLock_0 rfl (lv_at hl 0 rfl) ?_
  refine lv_iload_n hx hb dX3_requireLock_1 rfl (lv_at hl 1 rfl) ?_
  refine wd_cqs (O := (dkO G)) hS (va_runV (As := [.int (nI i)]) (rest := []) ⟨hx, hb, hml, hown, hts⟩ (c_X3_knownLock_s (G := G) hj hok (by omega) s.heap.size) (cwV 1 hts gX3_requireLock_X3_knownLock rfl rfl rfl (by decide +kernel) ⟨Nat.le_of_ble_eq_true rfl, Nat.le_of_ble_eq_true rfl⟩) (wd_pre hK hP (dk_lt (by omega)) dE_0 rfl) rfl rfl hl.1 rfl (lv_room (Nat.le_of_ble_eq_true rfl)) dX3_requireLock_2 ⟨Nat.le_of_ble_eq_true rfl, Nat.le_of_ble_eq_true rfl⟩) (fun H locs hP hS => ?_)
  refine lv_astore_n (lv' := [(2, .ref (wa (dkO G) (9 + i))), (0, .ref (wa (dkO G) 0)), (1, .int (nI i))]) hx hb dX3_requireLock_5 rfl hl (by decide) rfl (fun ls hl => ?_)
  refine lv_aload_n hx hb dX3_requireLock_6 rfl (lv_at hl 0 rfl) ?_
  refine lv_ifnonnull (tgt := 20) hx hb dX3_requireLock_7 (by decide) ?_
  refine lv_aload_n hx hb dX3_requireLock_20 rfl (lv_at hl 0 rfl) ?_
  exact wd_aret (O := (dkO G)) hx hb hr hlocks hK hP hS dX3_requireLock_21 (rfl) (rfl)
set_option maxRecDepth 100000 in
set_option maxHeartbeats 4000000 in
theorem c_X3_close_s {l : Launch} {G : DG} (hj : wj (dkO G)) {M : Mem} (hok : dk_ok M) {j : Nat} (hj6 : j < 6) (hon : M (3 + j) 0 ≠ 0) (sz : Nat) : Met l yX3_close wsX3_close ({ frames := 4, cells := 0, slots := 0, locals := 97 }) (va_Pc [.ref (wa (dkO G) 0), .int (nI j)] (wp (dkO G) sz M)) (wQi (dkO G) sz (endV M (nI j)) (endM M j (nI j))) 0 0 (wA (dkO G) sz) := by
  refine wd_ofW (O := (dkO G)) (M := M) (Qc := fun z => wQi (dkO G) z (endV M (nI j)) (endM M j (nI j))) (cc := cX3_close) (maxL := 2) (ret := (some .int)) (lv := [(0, .ref (wa (dkO G) 0)), (1, .int (nI j))]) (by decide) rfl (Nat.le_of_ble_eq_true rfl) rfl ?_
  intro p e s m below meth c ls hx hb hr hml hown hts hlocks hP hK hS hl
  refine lv_aload_n hx hb dX3_close_0 rfl (lv_at hl 0 rfl) ?_
  refine lv_aload_n hx hb dX3_close_1 rfl (lv_at hl 0 rfl) ?_
  refine lv_iload_n hx hb dX3_close_2 rfl (lv_at hl 1 rfl) ?_
  refine wd_cqs (O := (dkO G)) hS (va_runV (As := [.int (nI j)]) (rest := [.ref (wa (dkO G) 0)]) ⟨hx, hb, hml, hown, hts⟩ (c_X3_requireSession_s (G := G) hj hok (by omega) hon s.heap.size) (cwV 1 hts gX3_close_X3_requireSession rfl rfl rfl (by decide +kernel) ⟨Nat.le_of_ble_eq_true rfl, Nat.le_of_ble_eq_true rfl⟩) (wd_pre hK hP (dk_lt (by omega)) dE_0 rfl) rfl rfl hl.1 rfl (lv_room (Nat.le_of_ble_eq_true rfl)) dX3_close_3 ⟨Nat.le_of_ble_eq_true rfl, Nat.le_of_ble_eq_true rfl⟩) (fun H locs hP hS => ?_)
  refine lv_iload_n hx hb dX3_close_6 rfl (lv_at hl 1 rfl) ?_
  refine wd_ci (O := (dkO G)) hS (va_runV (As := [.ref (wa (dkO G) (3 + j)), .int (nI j)]) (rest := []) ⟨hx, hb, hml, hown, hts⟩ (c_X3_endSession (G := G) hj hok (by omega) H.size (nI j)) (cwV 2 hts gX3_close_X3_endSession rfl rfl rfl (by decide +kernel) ⟨Nat.le_of_ble_eq_true rfl, Nat.le_of_ble_eq_true rfl⟩) (wd_pre hK hP (dk_lt (by omega)) dE_0 rfl) rfl rfl hl.1 rfl (lv_room (Nat.le_of_ble_eq_true rfl)) dX3_close_7 ⟨Nat.le_of_ble_eq_true rfl, Nat.le_of_ble_eq_true rfl⟩) (fun H locs hP hS => ?_)
  have hok : dk_ok (endM M j (nI j)) := ok_end hok (by omega)
  exact wd_iret (O := (dkO G)) hx hb hr hlocks hK hP hS rfl dX3_close_10 (rfl) (rfl)
set_option maxRecDepth 100000 in
set_option maxHeartbeats 4000000 in
theorem c_X3_keep_s {l : Launch} {G : DG} (hj : wj (dkO G)) {M : Mem} (hok : dk_ok M) {j : Nat} (hj6 : j < 6) (hon : M (3 + j) 0 ≠ 0) (sz : Nat) : Met l yX3_keep wsX3_keep ({ frames := 2, cells := 0, slots := 0, locals := 43 }) (va_Pc [.ref (wa (dkO G) 0), .int (nI j)] (wp (dkO G) sz M)) (wQv (dkO G) sz (up M (3 + j) 1 (M 0 2))) 0 0 (wA (dkO G) sz) := by
  refine wd_ofW (O := (dkO G)) (M := M) (Qc := fun z => wQv (dkO G) z (up M (3 + j) 1 (M 0 2))) (cc := cX3_keep) (maxL := 2) (ret := none) (lv := [(0, .ref (wa (dkO G) 0)), (1, .int (nI j))]) (by decide) rfl (Nat.le_of_ble_eq_true rfl) rfl ?_
  intro p e s m below meth c ls hx hb hr hml hown hts hlocks hP hK hS hl
  have hi2 : ∀ w ∈ wsX20, w ∈ wsX3_keep := by decide +kernel
  have hi3 : ∀ w ∈ wsX30, w ∈ wsX3_keep := by decide +kernel
  refine lv_aload_n hx hb dX3_keep_0 rfl (lv_at hl 0 rfl) ?_
  refine lv_iload_n hx hb dX3_keep_1 rfl (lv_at hl 1 rfl) ?_
  refine wd_cqs (O := (dkO G)) hS (va_runV (As := [.int (nI j)]) (rest := []) ⟨hx, hb, hml, hown, hts⟩ (c_X3_requireSession_s (G := G) hj hok (by omega) hon s.heap.size) (cwV 1 hts gX3_keep_X3_requireSession rfl rfl rfl (by decide +kernel) ⟨Nat.le_of_ble_eq_true rfl, Nat.le_of_ble_eq_true rfl⟩) (wd_pre hK hP (dk_lt (by omega)) dE_0 rfl) rfl rfl hl.1 rfl (lv_room (Nat.le_of_ble_eq_true rfl)) dX3_keep_2 ⟨Nat.le_of_ble_eq_true rfl, Nat.le_of_ble_eq_true rfl⟩) (fun H locs hP hS => ?_)
  refine lv_aload_n hx hb dX3_keep_5 rfl (lv_at hl 0 rfl) ?_
  refine wd_get (O := (dkO G)) (v := .int (M 0 2)) hx hb hts hi3 hown hK hP (dk_lt (by omega)) dE_0 rfl 2 (by decide) (hts (.fieldLink RX3 23 "LeaseDesk" "now" "I") (by decide +kernel)) (fun _ h9 => h9) rfl dX3_keep_6 ?_
  refine wd_put (O := (dkO G)) (ty := .int) hj hx hb hts hi2 tyX2 tyX2_ok nmX2 hown hK hP hS (dk_lt (by omega)) (dE_ses (by omega)) rfl 1 (by decide) (hts (.fieldLink RX3 50 "LeaseDesk$Session" "sign" "I") (by decide +kernel)) (fun _ h9 => h9) rfl (by decide +kernel) rfl rfl (Nat.le_of_ble_eq_true rfl) ((dE_ses (by omega)).trans rfl) dX3_keep_9 (fun H locs hP hS => ?_)
  have hok : dk_ok (up M (3 + j) 1 (M 0 2)) := ok_up hok (by omega)
  exact wd_vret (O := (dkO G)) hx hb hr hlocks hK hP hS dX3_keep_12 (rfl)
set_option maxRecDepth 100000 in
set_option maxHeartbeats 4000000 in
theorem c_X3_acquire_s {l : Launch} {G : DG} (hj : wj (dkO G)) {M : Mem} (hok : dk_ok M) {j i : Nat} (hj6 : j < 6) (hon : M (3 + j) 0 ≠ 0) (hi4 : i < 4) (t : Int32) (ht1 : ¬ t < 1) (ht2 : t ≤ 100) (sz : Nat) : Met l yX3_acquire wsX3_acquire ({ frames := 2, cells := 0, slots := 0, locals := 47 }) (va_Pc [.ref (wa (dkO G) 0), .int (nI j), .int (nI i), .int t] (wp (dkO G) sz M)) (wQi (dkO G) sz (aqV M j i t) (aqM M j i t)) 0 0 (wA (dkO G) sz) := by
  refine wd_ofW (O := (dkO G)) (M := M) (Qc := fun z => wQi (dkO G) z (aqV M j i t) (aqM M j i t)) (cc := cX3_acquire) (maxL := 6) (ret := (some .int)) (lv := [(0, .ref (wa (dkO G) 0)), (1, .int (nI j)), (2, .int (nI i)), (3, .int t)]) (by decide) rfl (Nat.le_of_ble_eq_true rfl) rfl ?_
  intro p e s m below meth c ls hx hb hr hml hown hts hlocks hP hK hS hl
  have hi0 : ∀ w ∈ wsX00, w ∈ wsX3_acquire := by decide +kernel
  have hi2 : ∀ w ∈ wsX20, w ∈ wsX3_acquire := by decide +kernel
  have hi3 : ∀ w ∈ wsX30, w ∈ wsX3_acquire := by decide +kernel
  refine lv_aload_n hx hb dX3_acquire_0 rfl (lv_at hl 0 rfl) ?_
  refine lv_iload_n hx hb dX3_acquire_1 rfl (lv_at hl 1 rfl) ?_
  refine wd_cqs (O := (dkO G)) hS (va_runV (As := [.int (nI j)]) (rest := []) ⟨hx, hb, hml, hown, hts⟩ (c_X3_requireSession_s (G := G) hj hok (by omega) hon s.heap.size) (cwV 1 hts gX3_acquire_X3_requireSession rfl rfl rfl (by decide +kernel) ⟨Nat.le_of_ble_eq_true rfl, Nat.le_of_ble_eq_true rfl⟩) (wd_pre hK hP (dk_lt (by omega)) dE_0 rfl) rfl rfl hl.1 rfl (lv_room (Nat.le_of_ble_eq_true rfl)) dX3_acquire_2 ⟨Nat.le_of_ble_eq_true rfl, Nat.le_of_ble_eq_true rfl⟩) (fun H locs hP hS => ?_)
  refine lv_astore (lv' := [(4, .ref (wa (dkO G) (3 + j))), (0, .ref (wa (dkO G) 0)), (1, .int (nI j)), (2, .int (nI i)), (3, .int t)]) hx hb dX3_acquire_5 hl (by decide) rfl (fun ls hl => ?_)
  refine lv_aload_n hx hb dX3_acquire_7 rfl (lv_at hl 1 rfl) ?_
  refine lv_iload_n hx hb dX3_acquire_8 rfl (lv_at hl 3 rfl) ?_
  refine wd_cqs (O := (dkO G)) hS (va_runV (As := [.int (nI i)]) (rest := []) ⟨hx, hb, hml, hown, hts⟩ (c_X3_requireLock_s (G := G) hj hok (by omega) H.size) (cwV 1 hts gX3_acquire_X3_requireLock rfl rfl rfl (by decide +kernel) ⟨Nat.le_of_ble_eq_true rfl, Nat.le_of_ble_eq_true rfl⟩) (wd_pre hK hP (dk_lt (by omega)) dE_0 rfl) rfl rfl hl.1 rfl (lv_room (Nat.le_of_ble_eq_true rfl)) dX3_acquire_9 ⟨Nat.le_of_ble_eq_true rfl, Nat.le_of_ble_eq_true rfl⟩) (fun H locs hP hS => ?_)
  refine lv_astore (lv' := [(5, .ref (wa (dkO G) (9 + i))), (4, .ref (wa (dkO G) (3 + j))), (0, .ref (wa (dkO G) 0)), (1, .int (nI j)), (2, .int (nI i)), (3, .int t)]) hx hb dX3_acquire_12 hl (by decide) rfl (fun ls hl => ?_)
  refine lv_iload_n hx hb dX3_acquire_14 rfl (lv_at hl 5 rfl) ?_
  refine lv_iconst (v := 1) hx hb dX3_acquire_15 (by decide) ?_
  refine lv_icmp_lt (tgt := 25) hx hb dX3_acquire_16 (by decide) (fun c1 => absurd c1 ht1) (fun c1 => ?_)
  refine lv_iload_n hx hb dX3_acquire_19 rfl (lv_at hl 5 rfl) ?_
  refine lv_bipush (v := 100) hx hb dX3_acquire_20 (by decide) ?_
  refine lv_icmp_le (tgt := 35) hx hb dX3_acquire_22 (by decide) (fun c2 => ?_) (fun c2 => absurd ht2 c2)
  refine lv_aload hx hb dX3_acquire_35 (lv_at hl 1 rfl) ?_
  refine lv_aload_n hx hb dX3_acquire_37 rfl (lv_at hl 2 rfl) ?_
  refine wd_get (O := (dkO G)) (v := .int (M 0 2)) hx hb hts hi3 hown hK hP (dk_lt (by omega)) dE_0 rfl 2 (by decide) (hts (.fieldLink RX3 23 "LeaseDesk" "now" "I") (by decide +kernel)) (fun _ h9 => h9) rfl dX3_acquire_38 ?_
  refine wd_put (O := (dkO G)) (ty := .int) hj hx hb hts hi2 tyX2 tyX2_ok nmX2 hown hK hP hS (dk_lt (by omega)) (dE_ses (by omega)) rfl 1 (by decide) (hts (.fieldLink RX3 50 "LeaseDesk$Session" "sign" "I") (by decide +kernel)) (fun _ h9 => h9) rfl (by decide +kernel) rfl rfl (Nat.le_of_ble_eq_true rfl) ((dE_ses (by omega)).trans rfl) dX3_acquire_41 (fun H locs hP hS => ?_)
  have hok : dk_ok (up M (3 + j) 1 (M 0 2)) := ok_up hok (by omega)
  refine lv_aload hx hb dX3_acquire_44 (lv_at hl 0 rfl) ?_
  refine wd_get (O := (dkO G)) (v := .int ((up M (3 + j) 1 (M 0 2)) (9 + i) 1)) hx hb hts hi0 hown hK hP (dk_lt (by omega)) (dE_lock (by omega)) rfl 1 (by decide) (hts (.fieldLink RX3 78 "LeaseDesk$Lock" "holder" "I") (by decide +kernel)) (fun _ h9 => h9) rfl dX3_acquire_46 ?_
  refine lv_iload_n hx hb dX3_acquire_49 rfl (lv_at hl 3 rfl) ?_
  refine lv_icmp_ne (tgt := 74) hx hb dX3_acquire_50 (by decide) (fun c3 => ?_) (fun c3 => ?_)
  · refine lv_aload hx hb dX3_acquire_74 (lv_at hl 0 rfl) ?_
    refine wd_ci (O := (dkO G)) hS (va_runV (As := []) (rest := []) ⟨hx, hb, hml, hown, hts⟩ (c_X0_isFree (G := G) hj hok (by omega) H.size) (cwV 0 hts gX3_acquire_X0_isFree rfl rfl rfl (by decide +kernel) ⟨Nat.le_of_ble_eq_true rfl, Nat.le_of_ble_eq_true rfl⟩) (wd_pre hK hP (dk_lt (by omega)) (dE_lock (by omega)) rfl) rfl rfl hl.1 rfl (lv_room (Nat.le_of_ble_eq_true rfl)) dX3_acquire_76 ⟨Nat.le_of_ble_eq_true rfl, Nat.le_of_ble_eq_true rfl⟩) (fun H locs hP hS => ?_)
    refine lv_if_eq (tgt := 104) hx hb dX3_acquire_79 (by decide) (fun c4 => ?_) (fun c4 => ?_)
    · refine lv_aload hx hb dX3_acquire_104 (lv_at hl 0 rfl) ?_
      refine wd_get (O := (dkO G)) (v := .ref (wa (dkO G) (13 + i))) hx hb hts hi0 hown hK hP (dk_lt (by omega)) (dE_lock (by omega)) rfl 0 (by decide) (hts (.fieldLink RX3 99 "LeaseDesk$Lock" "row" "LLeaseDesk$Row;") (by decide +kernel)) (fun _ h9 => h9) rfl dX3_acquire_106 ?_
      refine lv_iload_n hx hb dX3_acquire_109 rfl (lv_at hl 3 rfl) ?_
      refine lv_iload_n hx hb dX3_acquire_110 rfl (lv_at hl 5 rfl) ?_
      refine wd_cv (O := (dkO G)) hS (va_runV (As := [.int (nI j), .int t]) (rest := []) ⟨hx, hb, hml, hown, hts⟩ (c_X1_ask (G := G) hj hok (by omega) H.size (nI j) t) (cwV 2 hts gX3_acquire_X1_ask rfl rfl rfl (by decide +kernel) ⟨Nat.le_of_ble_eq_true rfl, Nat.le_of_ble_eq_true rfl⟩) (wd_pre hK hP (dk_lt (by omega)) (dE_row (by omega)) rfl) rfl rfl hl.1 rfl (lv_room (Nat.le_of_ble_eq_true rfl)) dX3_acquire_111 ⟨Nat.le_of_ble_eq_true rfl, Nat.le_of_ble_eq_true rfl⟩) (fun H locs hP hS => ?_)
      have hok : dk_ok (askM (up M (3 + j) 1 (M 0 2)) i (nI j) t) := ok_ask hok (by omega)
      refine lv_iconst (v := 0) hx hb dX3_acquire_114 (by decide) ?_
      exact wd_iret (O := (dkO G)) hx hb hr hlocks hK hP hS rfl dX3_acquire_115 (by have c3 : ¬ aqA M j (9 + i) 1 = nI j := c3; have c4 : freV (aqA M j) i = 0 := c4; simp only [aqV, aqM, if_neg c3, if_pos c4] <;> rfl) (by have c3 : ¬ aqA M j (9 + i) 1 = nI j := c3; have c4 : freV (aqA M j) i = 0 := c4; simp only [aqM, if_neg c3, if_pos c4] <;> rfl)
    · refine lv_aload hx hb dX3_acquire_82 (lv_at hl 0 rfl) ?_
      refine lv_iload_n hx hb dX3_acquire_84 rfl (lv_at hl 3 rfl) ?_
      refine lv_iload_n hx hb dX3_acquire_85 rfl (lv_at hl 5 rfl) ?_
      refine lv_aload_n hx hb dX3_acquire_86 rfl (lv_at hl 2 rfl) ?_
      refine wd_get (O := (dkO G)) (v := .int ((up M (3 + j) 1 (M 0 2)) 0 2)) hx hb hts hi3 hown hK hP (dk_lt (by omega)) dE_0 rfl 2 (by decide) (hts (.fieldLink RX3 23 "LeaseDesk" "now" "I") (by decide +kernel)) (fun _ h9 => h9) rfl dX3_acquire_87 ?_
      refine lv_aload hx hb dX3_acquire_90 (lv_at hl 1 rfl) ?_
      refine wd_get (O := (dkO G)) (v := .int ((up M (3 + j) 1 (M 0 2)) (3 + j) 3)) hx hb hts hi2 hown hK hP (dk_lt (by omega)) (dE_ses (by omega)) rfl 3 (by decide) (hts (.fieldLink RX3 81 "LeaseDesk$Session" "clock" "I") (by decide +kernel)) (fun _ h9 => h9) rfl dX3_acquire_92 ?_
      refine wd_cv (O := (dkO G)) hS (va_runV (As := [.int (nI j), .int t, .int ((up M (3 + j) 1 (M 0 2)) 0 2), .int ((up M (3 + j) 1 (M 0 2)) (3 + j) 3)]) (rest := []) ⟨hx, hb, hml, hown, hts⟩ (c_X0_lend (G := G) hj hok (by omega) H.size (nI j) t ((up M (3 + j) 1 (M 0 2)) 0 2) ((up M (3 + j) 1 (M 0 2)) (3 + j) 3)) (cwV 4 hts gX3_acquire_X0_lend rfl rfl rfl (by decide +kernel) ⟨Nat.le_of_ble_eq_true rfl, Nat.le_of_ble_eq_true rfl⟩) (wd_pre hK hP (dk_lt (by omega)) (dE_lock (by omega)) rfl) rfl rfl hl.1 rfl (lv_room (Nat.le_of_ble_eq_true rfl)) dX3_acquire_95 ⟨Nat.le_of_ble_eq_true rfl, Nat.le_of_ble_eq_true rfl⟩) (fun H locs hP hS => ?_)
      have hok : dk_ok (lnM (up M (3 + j) 1 (M 0 2)) i (nI j) t ((up M (3 + j) 1 (M 0 2)) 0 2) ((up M (3 + j) 1 (M 0 2)) (3 + j) 3)) := ok_ln hok (by omega)
      refine lv_aload hx hb dX3_acquire_98 (lv_at hl 0 rfl) ?_
      refine wd_get (O := (dkO G)) (v := .int ((lnM (up M (3 + j) 1 (M 0 2)) i (nI j) t ((up M (3 + j) 1 (M 0 2)) 0 2) ((up M (3 + j) 1 (M 0 2)) (3 + j) 3)) (9 + i) 2)) hx hb hts hi0 hown hK hP (dk_lt (by omega)) (dE_lock (by omega)) rfl 2 (by decide) (hts (.fieldLink RX3 88 "LeaseDesk$Lock" "token" "I") (by decide +kernel)) (fun _ h9 => h9) rfl dX3_acquire_100 ?_
      exact wd_iret (O := (dkO G)) hx hb hr hlocks hK hP hS rfl dX3_acquire_103 (by have c3 : ¬ aqA M j (9 + i) 1 = nI j := c3; have c4 : ¬ freV (aqA M j) i = 0 := c4; simp only [aqV, aqM, if_neg c3, if_neg c4] <;> rfl) (by have c3 : ¬ aqA M j (9 + i) 1 = nI j := c3; have c4 : ¬ freV (aqA M j) i = 0 := c4; simp only [aqM, if_neg c3, if_neg c4] <;> rfl)
  · refine lv_aload hx hb dX3_acquire_53 (lv_at hl 0 rfl) ?_
    refine lv_iload_n hx hb dX3_acquire_55 rfl (lv_at hl 5 rfl) ?_
    refine lv_aload_n hx hb dX3_acquire_56 rfl (lv_at hl 2 rfl) ?_
    refine wd_get (O := (dkO G)) (v := .int ((up M (3 + j) 1 (M 0 2)) 0 2)) hx hb hts hi3 hown hK hP (dk_lt (by omega)) dE_0 rfl 2 (by decide) (hts (.fieldLink RX3 23 "LeaseDesk" "now" "I") (by decide +kernel)) (fun _ h9 => h9) rfl dX3_acquire_57 ?_
    refine lv_aload hx hb dX3_acquire_60 (lv_at hl 1 rfl) ?_
    refine wd_get (O := (dkO G)) (v := .int ((up M (3 + j) 1 (M 0 2)) (3 + j) 3)) hx hb hts hi2 hown hK hP (dk_lt (by omega)) (dE_ses (by omega)) rfl 3 (by decide) (hts (.fieldLink RX3 81 "LeaseDesk$Session" "clock" "I") (by decide +kernel)) (fun _ h9 => h9) rfl dX3_acquire_62 ?_
    refine wd_cv (O := (dkO G)) hS (va_runV (As := [.int t, .int ((up M (3 + j) 1 (M 0 2)) 0 2), .int ((up M (3 + j) 1 (M 0 2)) (3 + j) 3)]) (rest := []) ⟨hx, hb, hml, hown, hts⟩ (c_X0_renew (G := G) hj hok (by omega) H.size t ((up M (3 + j) 1 (M 0 2)) 0 2) ((up M (3 + j) 1 (M 0 2)) (3 + j) 3)) (cwV 3 hts gX3_acquire_X0_renew rfl rfl rfl (by decide +kernel) ⟨Nat.le_of_ble_eq_true rfl, Nat.le_of_ble_eq_true rfl⟩) (wd_pre hK hP (dk_lt (by omega)) (dE_lock (by omega)) rfl) rfl rfl hl.1 rfl (lv_room (Nat.le_of_ble_eq_true rfl)) dX3_acquire_65 ⟨Nat.le_of_ble_eq_true rfl, Nat.le_of_ble_eq_true rfl⟩) (fun H locs hP hS => ?_)
    have hok : dk_ok (rwM (up M (3 + j) 1 (M 0 2)) i t ((up M (3 + j) 1 (M 0 2)) 0 2) ((up M (3 + j) 1 (M 0 2)) (3 + j) 3)) := ok_rw hok (by omega)
    refine lv_aload hx hb dX3_acquire_68 (lv_at hl 0 rfl) ?_
    refine wd_get (O := (dkO G)) (v := .int ((rwM (up M (3 + j) 1 (M 0 2)) i t ((up M (3 + j) 1 (M 0 2)) 0 2) ((up M (3 + j) 1 (M 0 2)) (3 + j) 3)) (9 + i) 2)) hx hb hts hi0 hown hK hP (dk_lt (by omega)) (dE_lock (by omega)) rfl 2 (by decide) (hts (.fieldLink RX3 88 "LeaseDesk$Lock" "token" "I") (by decide +kernel)) (fun _ h9 => h9) rfl dX3_acquire_70 ?_
    exact wd_iret (O := (dkO G)) hx hb hr hlocks hK hP hS rfl dX3_acquire_73 (by have c3 : aqA M j (9 + i) 1 = nI j := c3; simp only [aqV, aqM, if_pos c3] <;> rfl) (by have c3 : aqA M j (9 + i) 1 = nI j := c3; simp only [aqM, if_pos c3] <;> rfl)
set_option maxRecDepth 100000 in
set_option maxHeartbeats 4000000 in
theorem c_X3_release_s {l : Launch} {G : DG} (hj : wj (dkO G)) {M : Mem} (hok : dk_ok M) {j i : Nat} (hj6 : j < 6) (hon : M (3 + j) 0 ≠ 0) (hi4 : i < 4) (hh : M (9 + i) 1 = nI j) (sz : Nat) : Met l yX3_release wsX3_release ({ frames := 3, cells := 0, slots := 0, locals := 70 }) (va_Pc [.ref (wa (dkO G) 0), .int (nI j), .int (nI i)] (wp (dkO G) sz M)) (wQv (dkO G) sz (psM M i)) 0 0 (wA (dkO G) sz) := by
  refine wd_ofW (O := (dkO G)) (M := M) (Qc := fun z => wQv (dkO G) z (psM M i)) (cc := cX3_release) (maxL := 4) (ret := none) (lv := [(0, .ref (wa (dkO G) 0)), (1, .int (nI j)), (2, .int (nI i))]) (by decide) rfl (Nat.le_of_ble_eq_true rfl) rfl ?_
  intro p e s m below meth c ls hx hb hr hml hown hts hlocks hP hK hS hl
  have hi0 : ∀ w ∈ wsX00, w ∈ wsX3_release := by decide +kernel
  refine lv_aload_n hx hb dX3_release_0 rfl (lv_at hl 0 rfl) ?_
  refine lv_iload_n hx hb dX3_release_1 rfl (lv_at hl 1 rfl) ?_
  refine wd_cqs (O := (dkO G)) hS (va_runV (As := [.int (nI j)]) (rest := []) ⟨hx, hb, hml, hown, hts⟩ (c_X3_requireSession_s (G := G) hj hok (by omega) hon s.heap.size) (cwV 1 hts gX3_release_X3_requireSession rfl rfl rfl (by decide +kernel) ⟨Nat.le_of_ble_eq_true rfl, Nat.le_of_ble_eq_true rfl⟩) (wd_pre hK hP (dk_lt (by omega)) dE_0 rfl) rfl rfl hl.1 rfl (lv_room (Nat.le_of_ble_eq_true rfl)) dX3_release_2 ⟨Nat.le_of_ble_eq_true rfl, Nat.le_of_ble_eq_true rfl⟩) (fun H locs hP hS => ?_)
  refine lv_pop hx hb dX3_release_5 rfl ?_
  refine lv_aload_n hx hb dX3_release_6 rfl (lv_at hl 0 rfl) ?_
  refine lv_iload_n hx hb dX3_release_7 rfl (lv_at hl 2 rfl) ?_
  refine wd_cqs (O := (dkO G)) hS (va_runV (As := [.int (nI i)]) (rest := []) ⟨hx, hb, hml, hown, hts⟩ (c_X3_requireLock_s (G := G) hj hok (by omega) H.size) (cwV 1 hts gX3_release_X3_requireLock rfl rfl rfl (by decide +kernel) ⟨Nat.le_of_ble_eq_true rfl, Nat.le_of_ble_eq_true rfl⟩) (wd_pre hK hP (dk_lt (by omega)) dE_0 rfl) rfl rfl hl.1 rfl (lv_room (Nat.le_of_ble_eq_true rfl)) dX3_release_8 ⟨Nat.le_of_ble_eq_true rfl, Nat.le_of_ble_eq_true rfl⟩) (fun H locs hP hS => ?_)
  refine lv_astore_n (lv' := [(3, .ref (wa (dkO G) (9 + i))), (0, .ref (wa (dkO G) 0)), (1, .int (nI j)), (2, .int (nI i))]) hx hb dX3_release_11 rfl hl (by decide) rfl (fun ls hl => ?_)
  refine lv_aload_n hx hb dX3_release_12 rfl (lv_at hl 0 rfl) ?_
  refine wd_get (O := (dkO G)) (v := .int (M (9 + i) 1)) hx hb hts hi0 hown hK hP (dk_lt (by omega)) (dE_lock (by omega)) rfl 1 (by decide) (hts (.fieldLink RX3 78 "LeaseDesk$Lock" "holder" "I") (by decide +kernel)) (fun _ h9 => h9) rfl dX3_release_13 ?_
  refine lv_iload_n hx hb dX3_release_16 rfl (lv_at hl 2 rfl) ?_
  refine lv_icmp_eq (tgt := 30) hx hb dX3_release_17 (by decide) (fun c1 => ?_) (fun c1 => absurd hh c1)
  refine lv_aload_n hx hb dX3_release_30 rfl (lv_at hl 1 rfl) ?_
  refine lv_aload_n hx hb dX3_release_31 rfl (lv_at hl 0 rfl) ?_
  refine wd_cv (O := (dkO G)) hS (va_runV (As := [.ref (wa (dkO G) (9 + i))]) (rest := []) ⟨hx, hb, hml, hown, hts⟩ (c_X3_passOn (G := G) hj hok (by omega) H.size) (cwV 1 hts gX3_release_X3_passOn rfl rfl rfl (by decide +kernel) ⟨Nat.le_of_ble_eq_true rfl, Nat.le_of_ble_eq_true rfl⟩) (wd_pre hK hP (dk_lt (by omega)) dE_0 rfl) rfl rfl hl.1 rfl (lv_room (Nat.le_of_ble_eq_true rfl)) dX3_release_32 ⟨Nat.le_of_ble_eq_true rfl, Nat.le_of_ble_eq_true rfl⟩) (fun H locs hP hS => ?_)
  have hok : dk_ok (psM M i) := ok_ps hok (by omega)
  exact wd_vret (O := (dkO G)) hx hb hr hlocks hK hP hS dX3_release_35 (rfl)
set_option maxRecDepth 100000 in
set_option maxHeartbeats 4000000 in
theorem c_X3_open_n {l : Launch} (hst : l.stackTraces = false) {G : DG} (hj : wj (dkO G)) {M : Mem} (hok : dk_ok M) (sz : Nat) (ho : fo M 6 0 = none) : vx_Met l yX3_open wsX3_open ({ frames := 6, cells := 1, slots := 6, locals := 82 }) (va_Pc [.ref (wa (dkO G) 0)] (wpx (dkO G) sz M)) xQ (xX (dkO G) sz eISE M) 1 6 (wA (dkO G) sz) := by
  refine wx_ofW (O := (dkO G)) (M := M) (M' := M) (E0 := eISE) (cc := cX3_open) (maxL := 2) (ret := (some .int)) (lv := [(0, .ref (wa (dkO G) 0))]) (by decide) rfl (Nat.le_of_ble_eq_true rfl) rfl ?_
  intro p e s m below meth c ls hx hb hr hml hown hts hlocks hP hK hS hl htab hE
  have hi2 : ∀ w ∈ wsX20, w ∈ wsX3_open := by decide +kernel
  have hi3 : ∀ w ∈ wsX30, w ∈ wsX3_open := by decide +kernel
  refine lv_iconst (v := 0) hx hb dX3_open_0 (by decide) ?_
  refine lv_istore_n (lv' := [(1, .int 0), (0, .ref (wa (dkO G) 0))]) hx hb dX3_open_1 rfl hl (by decide) rfl (fun ls hl => ?_)
  refine wl_loop (pc := 2) (fun k j N v ls H locs => (j + k = 6) ∧ (fo M k j = none) ∧ va_P (wD (dkO G)) vwCl (wd (dkO G) M) H ∧ va_S (wA (dkO G) s.heap.size) s.heap H locs ∧ lv_has ls 2 [(1, .int (nI j)), (0, .ref (wa (dkO G) 0))]) ?_ ?_ 6 0 M 0 ⟨by omega, ho, hP, hS, lv_sub hl [0, 1] rfl⟩
  · rintro j N v ls H locs ⟨h1, h2, hP, hS, hl⟩
    refine lv_iload_n hx hb dX3_open_2 rfl (lv_at hl 0 rfl) ?_
    refine lv_bipush (v := 6) hx hb dX3_open_3 (by decide) ?_
    refine lv_icmp_ge (tgt := 41) hx hb dX3_open_5 (by decide) (fun c1 => ?_) (fun c1 => absurd (show nI 6 ≤ nI j from nI_le (by omega) (by omega)) c1)
    have hs := hE.2.2
    obtain ⟨sa, hsa⟩ := hs.1
    exact vx_throwS (own := RX3) (cls := "java/lang/IllegalStateException") (text := "no slot is free") (names := eNm) hx hb hst hown (by decide +kernel) (by decide +kernel) (hts (.classLink RX3 35 "java/lang/IllegalStateException") (by decide +kernel)) (hts (.initialized "java/lang/IllegalStateException") (by decide +kernel)) hsa (vx_hat (B := xB) (fun w h => hts w ((by decide +kernel : ∀ w ∈ (vx_atS RX3 39 "java/lang/IllegalStateException" eNm).filter goodWord, w ∈ wsX3_open) w h)) (by decide +kernel) (fun w h => va_Nw.use (xB_face w h).2 (hs.2.2.2.2.2.1 w h))) (by decide +kernel) hE.1 hE.2.1 hS (hl.1.trans hml.symm) dX3_open_41 dX3_open_44 dX3_open_45 dX3_open_47 dX3_open_50 (fun x h => absurd h (fun h => htab x h)) (Nat.le_of_ble_eq_true rfl) (Nat.le_of_ble_eq_true rfl) (Nat.le_of_ble_eq_true rfl) (Nat.le_of_ble_eq_true rfl) hlocks (xX_of hP hK hS) hS.2.2 (Nat.le_of_ble_eq_true rfl) (Nat.le_of_ble_eq_true rfl)
  · rintro k j N v ls H locs ih ⟨h1, h2, hP, hS, hl⟩
    refine lv_iload_n hx hb dX3_open_2 rfl (lv_at hl 0 rfl) ?_
    refine lv_bipush (v := 6) hx hb dX3_open_3 (by decide) ?_
    refine lv_icmp_ge (tgt := 41) hx hb dX3_open_5 (by decide) (fun c2 => absurd c2 (show ¬ nI 6 ≤ nI j from nI_ge (by omega) (by omega))) (fun c2 => ?_)
    refine lv_aload_n hx hb dX3_open_8 rfl (lv_at hl 1 rfl) ?_
    refine wd_get (O := (dkO G)) (v := .ref (wa (dkO G) 1)) hx hb hts hi3 hown hK hP (dk_lt (by omega)) dE_0 rfl 0 (by decide) (hts (.fieldLink RX3 11 "LeaseDesk" "sessions" "[LLeaseDesk$Session;") (by decide +kernel)) (fun _ h9 => h9) rfl dX3_open_9 ?_
    refine lv_iload_n hx hb dX3_open_12 rfl (lv_at hl 0 rfl) ?_
    refine wd_aald (O := (dkO G)) (b := wa (dkO G) (3 + j)) hx hb hK hP (dk_lt (by omega)) 1 dE_1 rfl (i := j) rfl (by omega) (by decide) (if_pos (by omega)) dX3_open_13 ?_
    refine wd_get (O := (dkO G)) (v := .int (M (3 + j) 0)) hx hb hts hi2 hown hK hP (dk_lt (by omega)) (dE_ses (by omega)) rfl 0 (by decide) (hts (.fieldLink RX3 27 "LeaseDesk$Session" "isOpen" "Z") (by decide +kernel)) (fun _ h9 => h9) rfl dX3_open_14 ?_
    refine lv_if_ne (tgt := 35) hx hb dX3_open_17 (by decide) (fun c3 => ?_) (fun c3 => ?_)
    · refine lv_iinc (v := nI (j + 1)) (lv' := [(1, .int (nI (j + 1))), (0, .ref (wa (dkO G) 0))]) hx hb dX3_open_35 hl (k := 0) rfl (nI_1 j) (by decide) rfl (fun ls hl => ?_)
      refine lv_goto (tgt := 2) hx hb dX3_open_38 (by decide) ?_
      exact ih (j + 1) N v ls H locs ⟨by omega, by rw [← h2]; simp only [fo, if_neg c3], hP, hS, lv_sub hl [0, 1] rfl⟩
    · exact absurd h2 (by simp [fo, c3])
set_option maxRecDepth 100000 in
set_option maxHeartbeats 4000000 in
theorem c_X3_requireSession_n {l : Launch} (hst : l.stackTraces = false) {G : DG} (hj : wj (dkO G)) {M : Mem} (hok : dk_ok M) (sz : Nat) (x : Int32) (ho : osV M x = none) : vx_Met l yX3_requireSession wsX3_requireSession ({ frames := 6, cells := 1, slots := 6, locals := 82 }) (va_Pc [.ref (wa (dkO G) 0), .int x] (wpx (dkO G) sz M)) xQ (xX (dkO G) sz eNSE M) 1 6 (wA (dkO G) sz) := by
  refine wx_ofW (O := (dkO G)) (M := M) (M' := M) (E0 := eNSE) (cc := cX3_requireSession) (maxL := 3) (ret := (some (.object "LeaseDesk$Session"))) (lv := [(0, .ref (wa (dkO G) 0)), (1, .int x)]) (by decide) rfl (Nat.le_of_ble_eq_true rfl) rfl ?_
  intro p e s m below meth c ls hx hb hr hml hown hts hlocks hP hK hS hl htab hE
  refine lv_aload_n hx hb dX3_requireSession_0 rfl (lv_at hl 0 rfl) ?_
  refine lv_iload_n hx hb dX3_requireSession_1 rfl (lv_at hl 1 rfl) ?_
  refine wd_cqn (O := (dkO G)) hS (va_runV (As := [.int x]) (rest := []) ⟨hx, hb, hml, hown, hts⟩ (c_X3_openSession_n (G := G) hj hok s.heap.size x ho) (cwV 1 hts gX3_requireSession_X3_openSession rfl rfl rfl (by decide +kernel) ⟨Nat.le_of_ble_eq_true rfl, Nat.le_of_ble_eq_true rfl⟩) (wd_pre hK hP (dk_lt (by omega)) dE_0 rfl) rfl rfl hl.1 rfl (lv_room (Nat.le_of_ble_eq_true rfl)) dX3_requireSession_2 ⟨Nat.le_of_ble_eq_true rfl, Nat.le_of_ble_eq_true rfl⟩) (fun H locs hP hS => ?_)
  refine lv_astore_nN (lv' := [(2, .null), (0, .ref (wa (dkO G) 0)), (1, .int x)]) hx hb dX3_requireSession_5 rfl hl (by decide) rfl (fun ls hl => ?_)
  refine lv_aload_nN hx hb dX3_requireSession_6 rfl (lv_at hl 0 rfl) ?_
  refine lv_ifnonnullN hx hb dX3_requireSession_7 ?_
  have hs := hE.2.2
  obtain ⟨sa, hsa⟩ := hs.2.2.2.1
  exact nse_throw (own := RX3) (cls := "java/util/NoSuchElementException") (text := "the session is not open") (names := eNm) (ix := 13) (rx := prog_13_method_4_code) hx hb hst (by decide +kernel) (by decide +kernel) (by decide +kernel) (by decide +kernel) hown (by decide +kernel) (by decide +kernel) (hts (.classLink RX3 141 "java/util/NoSuchElementException") (by decide +kernel)) (hts (.initialized "java/util/NoSuchElementException") (by decide +kernel)) hsa (vx_hat (B := xB) (fun w h => hts w ((by decide +kernel : ∀ w ∈ (nse_at).filter goodWord, w ∈ wsX3_requireSession) w h)) (by decide +kernel) (fun w h => va_Nw.use (xB_face w h).2 (hs.2.2.2.2.2.1 w h))) (by decide +kernel) hE.1 hE.2.1 hS (hl.1.trans hml.symm) dX3_requireSession_10 dX3_requireSession_13 dX3_requireSession_14 dX3_requireSession_16 dX3_requireSession_19 (fun x h => absurd h (fun h => htab x h)) (Nat.le_of_ble_eq_true rfl) (Nat.le_of_ble_eq_true rfl) (Nat.le_of_ble_eq_true rfl) (Nat.le_of_ble_eq_true rfl) hlocks (xX_of hP hK hS) hS.2.2 (Nat.le_of_ble_eq_true rfl) (Nat.le_of_ble_eq_true rfl)
set_option maxRecDepth 100000 in
set_option maxHeartbeats 4000000 in
theorem c_X3_requireLock_n {l : Launch} (hst : l.stackTraces = false) {G : DG} (hj : wj (dkO G)) {M : Mem} (hok : dk_ok M) (sz : Nat) (x : Int32) (hd : dN x 4 = none) : vx_Met l yX3_requireLock wsX3_requireLock ({ frames := 6, cells := 1, slots := 6, locals := 82 }) (va_Pc [.ref (wa (dkO G) 0), .int x] (wpx (dkO G) sz M)) xQ (xX (dkO G) sz eIAE M) 1 6 (wA (dkO G) sz) := by
  refine wx_ofW (O := (dkO G)) (M := M) (M' := M) (E0 := eIAE) (cc := cX3_requireLock) (maxL := 3) (ret := (some (.object "LeaseDesk$Lock"))) (lv := [(0, .ref (wa (dkO G) 0)), (1, .int x)]) (by decide) rfl (Nat.le_of_ble_eq_true rfl) rfl ?_
  intro p e s m below meth c ls hx hb hr hml hown hts hlocks hP hK hS hl htab hE
  refine lv_aload_n hx hb dX3_requireLock_0 rfl (lv_at hl 0 rfl) ?_
  refine lv_iload_n hx hb dX3_requireLock_1 rfl (lv_at hl 1 rfl) ?_
  refine wd_cqn (O := (dkO G)) hS (va_runV (As := [.int x]) (rest := []) ⟨hx, hb, hml, hown, hts⟩ (c_X3_knownLock_n (G := G) hj hok s.heap.size x hd) (cwV 1 hts gX3_requireLock_X3_knownLock rfl rfl rfl (by decide +kernel) ⟨Nat.le_of_ble_eq_true rfl, Nat.le_of_ble_eq_true rfl⟩) (wd_pre hK hP (dk_lt (by omega)) dE_0 rfl) rfl rfl hl.1 rfl (lv_room (Nat.le_of_ble_eq_true rfl)) dX3_requireLock_2 ⟨Nat.le_of_ble_eq_true rfl, Nat.le_of_ble_eq_true rfl⟩) (fun H locs hP hS => ?_)
  refine lv_astore_nN (lv' := [(2, .null), (0, .ref (wa (dkO G) 0)), (1, .int x)]) hx hb dX3_requireLock_5 rfl hl (by decide) rfl (fun ls hl => ?_)
  refine lv_aload_nN hx hb dX3_requireLock_6 rfl (lv_at hl 0 rfl) ?_
  refine lv_ifnonnullN hx hb dX3_requireLock_7 ?_
  have hs := hE.2.2
  obtain ⟨sa, hsa⟩ := hs.2.2.2.2.1
  exact vx_throwS (own := RX3) (cls := "java/lang/IllegalArgumentException") (text := "there is no such lock") (names := eNm) hx hb hst hown (by decide +kernel) (by decide +kernel) (hts (.classLink RX3 73 "java/lang/IllegalArgumentException") (by decide +kernel)) (hts (.initialized "java/lang/IllegalArgumentException") (by decide +kernel)) hsa (vx_hat (B := xB) (fun w h => hts w ((by decide +kernel : ∀ w ∈ (vx_atS RX3 77 "java/lang/IllegalArgumentException" eNm).filter goodWord, w ∈ wsX3_requireLock) w h)) (by decide +kernel) (fun w h => va_Nw.use (xB_face w h).2 (hs.2.2.2.2.2.1 w h))) (by decide +kernel) hE.1 hE.2.1 hS (hl.1.trans hml.symm) dX3_requireLock_10 dX3_requireLock_13 dX3_requireLock_14 dX3_requireLock_16 dX3_requireLock_19 (fun x h => absurd h (fun h => htab x h)) (Nat.le_of_ble_eq_true rfl) (Nat.le_of_ble_eq_true rfl) (Nat.le_of_ble_eq_true rfl) (Nat.le_of_ble_eq_true rfl) hlocks (xX_of hP hK hS) hS.2.2 (Nat.le_of_ble_eq_true rfl) (Nat.le_of_ble_eq_true rfl)
set_option maxRecDepth 100000 in
set_option maxHeartbeats 4000000 in
theorem c_X3_close_n {l : Launch} (hst : l.stackTraces = false) {G : DG} (hj : wj (dkO G)) {M : Mem} (hok : dk_ok M) (sz : Nat) (x : Int32) (ho : osV M x = none) : vx_Met l yX3_close wsX3_close ({ frames := 7, cells := 1, slots := 6, locals := 104 }) (va_Pc [.ref (wa (dkO G) 0), .int x] (wpx (dkO G) sz M)) xQ (xX (dkO G) sz eNSE M) 1 6 (wA (dkO G) sz) := by
  refine wx_ofW (O := (dkO G)) (M := M) (M' := M) (E0 := eNSE) (cc := cX3_close) (maxL := 2) (ret := (some .int)) (lv := [(0, .ref (wa (dkO G) 0)), (1, .int x)]) (by decide) rfl (Nat.le_of_ble_eq_true rfl) rfl ?_
  intro p e s m below meth c ls hx hb hr hml hown hts hlocks hP hK hS hl htab hE
  refine lv_aload_n hx hb dX3_close_0 rfl (lv_at hl 0 rfl) ?_
  refine lv_aload_n hx hb dX3_close_1 rfl (lv_at hl 0 rfl) ?_
  refine lv_iload_n hx hb dX3_close_2 rfl (lv_at hl 1 rfl) ?_
  refine wx_call (O := (dkO G)) hS (vx_runV (As := [.int x]) (rest := [.ref (wa (dkO G) 0)]) ⟨hx, hb, hml, hown, hts⟩ (c_X3_requireSession_n hst (G := G) hj hok s.heap.size x ho) (cwV 1 hts gX3_close_X3_requireSession rfl rfl rfl (by decide +kernel) ⟨Nat.le_of_ble_eq_true rfl, Nat.le_of_ble_eq_true rfl⟩) (wx_pre hK hP hS hE (dk_lt (by omega)) dE_0 rfl) rfl rfl hl.1 rfl (lv_room (Nat.le_of_ble_eq_true rfl)) dX3_close_3 ⟨Nat.le_of_ble_eq_true rfl, Nat.le_of_ble_eq_true rfl⟩) (fun q ce H1 locs1 hP1 hS1 hce hcv hcl => ?_)
  exact vx_out (fun x h => absurd h (fun h => htab x h)) hlocks hce hcv hcl (xX_out hP1 hK hS1) hS1.2.2 (Nat.le_of_ble_eq_true rfl) (Nat.le_of_ble_eq_true rfl)
set_option maxRecDepth 100000 in
set_option maxHeartbeats 4000000 in
theorem c_X3_keep_n {l : Launch} (hst : l.stackTraces = false) {G : DG} (hj : wj (dkO G)) {M : Mem} (hok : dk_ok M) (sz : Nat) (x : Int32) (ho : osV M x = none) : vx_Met l yX3_keep wsX3_keep ({ frames := 7, cells := 1, slots := 6, locals := 104 }) (va_Pc [.ref (wa (dkO G) 0), .int x] (wpx (dkO G) sz M)) xQ (xX (dkO G) sz eNSE M) 1 6 (wA (dkO G) sz) := by
  refine wx_ofW (O := (dkO G)) (M := M) (M' := M) (E0 := eNSE) (cc := cX3_keep) (maxL := 2) (ret := none) (lv := [(0, .ref (wa (dkO G) 0)), (1, .int x)]) (by decide) rfl (Nat.le_of_ble_eq_true rfl) rfl ?_
  intro p e s m below meth c ls hx hb hr hml hown hts hlocks hP hK hS hl htab hE
  refine lv_aload_n hx hb dX3_keep_0 rfl (lv_at hl 0 rfl) ?_
  refine lv_iload_n hx hb dX3_keep_1 rfl (lv_at hl 1 rfl) ?_
  refine wx_call (O := (dkO G)) hS (vx_runV (As := [.int x]) (rest := []) ⟨hx, hb, hml, hown, hts⟩ (c_X3_requireSession_n hst (G := G) hj hok s.heap.size x ho) (cwV 1 hts gX3_keep_X3_requireSession rfl rfl rfl (by decide +kernel) ⟨Nat.le_of_ble_eq_true rfl, Nat.le_of_ble_eq_true rfl⟩) (wx_pre hK hP hS hE (dk_lt (by omega)) dE_0 rfl) rfl rfl hl.1 rfl (lv_room (Nat.le_of_ble_eq_true rfl)) dX3_keep_2 ⟨Nat.le_of_ble_eq_true rfl, Nat.le_of_ble_eq_true rfl⟩) (fun q ce H1 locs1 hP1 hS1 hce hcv hcl => ?_)
  exact vx_out (fun x h => absurd h (fun h => htab x h)) hlocks hce hcv hcl (xX_out hP1 hK hS1) hS1.2.2 (Nat.le_of_ble_eq_true rfl) (Nat.le_of_ble_eq_true rfl)
set_option maxRecDepth 100000 in
set_option maxHeartbeats 4000000 in
theorem c_X3_acquire_n1 {l : Launch} (hst : l.stackTraces = false) {G : DG} (hj : wj (dkO G)) {M : Mem} (hok : dk_ok M) (sz : Nat) (x y t : Int32) (ho : osV M x = none) : vx_Met l yX3_acquire wsX3_acquire ({ frames := 7, cells := 1, slots := 6, locals := 104 }) (va_Pc [.ref (wa (dkO G) 0), .int x, .int y, .int t] (wpx (dkO G) sz M)) xQ (xX (dkO G) sz eNSE M) 1 6 (wA (dkO G) sz) := by
  refine wx_ofW (O := (dkO G)) (M := M) (M' := M) (E0 := eNSE) (cc := cX3_acquire) (maxL := 6) (ret := (some .int)) (lv := [(0, .ref (wa (dkO G) 0)), (1, .int x), (2, .int y), (3, .int t)]) (by decide) rfl (Nat.le_of_ble_eq_true rfl) rfl ?_
  intro p e s m below meth c ls hx hb hr hml hown hts hlocks hP hK hS hl htab hE
  refine lv_aload_n hx hb dX3_acquire_0 rfl (lv_at hl 0 rfl) ?_
  refine lv_iload_n hx hb dX3_acquire_1 rfl (lv_at hl 1 rfl) ?_
  refine wx_call (O := (dkO G)) hS (vx_runV (As := [.int x]) (rest := []) ⟨hx, hb, hml, hown, hts⟩ (c_X3_requireSession_n hst (G := G) hj hok s.heap.size x ho) (cwV 1 hts gX3_acquire_X3_requireSession rfl rfl rfl (by decide +kernel) ⟨Nat.le_of_ble_eq_true rfl, Nat.le_of_ble_eq_true rfl⟩) (wx_pre hK hP hS hE (dk_lt (by omega)) dE_0 rfl) rfl rfl hl.1 rfl (lv_room (Nat.le_of_ble_eq_true rfl)) dX3_acquire_2 ⟨Nat.le_of_ble_eq_true rfl, Nat.le_of_ble_eq_true rfl⟩) (fun q ce H1 locs1 hP1 hS1 hce hcv hcl => ?_)
  exact vx_out (fun x h => absurd h (fun h => htab x h)) hlocks hce hcv hcl (xX_out hP1 hK hS1) hS1.2.2 (Nat.le_of_ble_eq_true rfl) (Nat.le_of_ble_eq_true rfl)
set_option maxRecDepth 100000 in
set_option maxHeartbeats 4000000 in
theorem c_X3_acquire_n2 {l : Launch} (hst : l.stackTraces = false) {G : DG} (hj : wj (dkO G)) {M : Mem} (hok : dk_ok M) {j : Nat} (hj6 : j < 6) (hon : M (3 + j) 0 ≠ 0) (sz : Nat) (y t : Int32) (hd : dN y 4 = none) : vx_Met l yX3_acquire wsX3_acquire ({ frames := 7, cells := 1, slots := 6, locals := 104 }) (va_Pc [.ref (wa (dkO G) 0), .int (nI j), .int y, .int t] (wpx (dkO G) sz M)) xQ (xX (dkO G) sz eIAE M) 1 6 (wA (dkO G) sz) := by
  refine wx_ofW (O := (dkO G)) (M := M) (M' := M) (E0 := eIAE) (cc := cX3_acquire) (maxL := 6) (ret := (some .int)) (lv := [(0, .ref (wa (dkO G) 0)), (1, .int (nI j)), (2, .int y), (3, .int t)]) (by decide) rfl (Nat.le_of_ble_eq_true rfl) rfl ?_
  intro p e s m below meth c ls hx hb hr hml hown hts hlocks hP hK hS hl htab hE
  refine lv_aload_n hx hb dX3_acquire_0 rfl (lv_at hl 0 rfl) ?_
  refine lv_iload_n hx hb dX3_acquire_1 rfl (lv_at hl 1 rfl) ?_
  refine wd_cqs (O := (dkO G)) hS (va_runV (As := [.int (nI j)]) (rest := []) ⟨hx, hb, hml, hown, hts⟩ (c_X3_requireSession_s (G := G) hj hok (by omega) hon s.heap.size) (cwV 1 hts gX3_acquire_X3_requireSession rfl rfl rfl (by decide +kernel) ⟨Nat.le_of_ble_eq_true rfl, Nat.le_of_ble_eq_true rfl⟩) (wd_pre hK hP (dk_lt (by omega)) dE_0 rfl) rfl rfl hl.1 rfl (lv_room (Nat.le_of_ble_eq_true rfl)) dX3_acquire_2 ⟨Nat.le_of_ble_eq_true rfl, Nat.le_of_ble_eq_true rfl⟩) (fun H locs hP hS => ?_)
  refine lv_astore (lv' := [(4, .ref (wa (dkO G) (3 + j))), (0, .ref (wa (dkO G) 0)), (1, .int (nI j)), (2, .int y), (3, .int t)]) hx hb dX3_acquire_5 hl (by decide) rfl (fun ls hl => ?_)
  refine lv_aload_n hx hb dX3_acquire_7 rfl (lv_at hl 1 rfl) ?_
  refine lv_iload_n hx hb dX3_acquire_8 rfl (lv_at hl 3 rfl) ?_
  refine wx_call (O := (dkO G)) hS (vx_runV (As := [.int y]) (rest := []) ⟨hx, hb, hml, hown, hts⟩ (c_X3_requireLock_n hst (G := G) hj hok H.size y hd) (cwV 1 hts gX3_acquire_X3_requireLock rfl rfl rfl (by decide +kernel) ⟨Nat.le_of_ble_eq_true rfl, Nat.le_of_ble_eq_true rfl⟩) (wx_pre hK hP hS hE (dk_lt (by omega)) dE_0 rfl) rfl rfl hl.1 rfl (lv_room (Nat.le_of_ble_eq_true rfl)) dX3_acquire_9 ⟨Nat.le_of_ble_eq_true rfl, Nat.le_of_ble_eq_true rfl⟩) (fun q ce H1 locs1 hP1 hS1 hce hcv hcl => ?_)
  exact vx_out (fun x h => absurd h (fun h => htab x h)) hlocks hce hcv hcl (xX_out hP1 hK hS1) hS1.2.2 (Nat.le_of_ble_eq_true rfl) (Nat.le_of_ble_eq_true rfl)
set_option maxRecDepth 100000 in
set_option maxHeartbeats 4000000 in
theorem c_X3_acquire_n3 {l : Launch} (hst : l.stackTraces = false) {G : DG} (hj : wj (dkO G)) {M : Mem} (hok : dk_ok M) {j i : Nat} (hj6 : j < 6) (hon : M (3 + j) 0 ≠ 0) (hi4 : i < 4) (t : Int32) (ht : ¬ (¬ t < 1 ∧ t ≤ 100)) (sz : Nat) : vx_Met l yX3_acquire wsX3_acquire ({ frames := 6, cells := 1, slots := 6, locals := 82 }) (va_Pc [.ref (wa (dkO G) 0), .int (nI j), .int (nI i), .int t] (wpx (dkO G) sz M)) xQ (xX (dkO G) sz eIAE M) 1 6 (wA (dkO G) sz) := by
  refine wx_ofW (O := (dkO G)) (M := M) (M' := M) (E0 := eIAE) (cc := cX3_acquire) (maxL := 6) (ret := (some .int)) (lv := [(0, .ref (wa (dkO G) 0)), (1, .int (nI j)), (2, .int (nI i)), (3, .int t)]) (by decide) rfl (Nat.le_of_ble_eq_true rfl) rfl ?_
  intro p e s m below meth c ls hx hb hr hml hown hts hlocks hP hK hS hl htab hE
  refine lv_aload_n hx hb dX3_acquire_0 rfl (lv_at hl 0 rfl) ?_
  refine lv_iload_n hx hb dX3_acquire_1 rfl (lv_at hl 1 rfl) ?_
  refine wd_cqs (O := (dkO G)) hS (va_runV (As := [.int (nI j)]) (rest := []) ⟨hx, hb, hml, hown, hts⟩ (c_X3_requireSession_s (G := G) hj hok (by omega) hon s.heap.size) (cwV 1 hts gX3_acquire_X3_requireSession rfl rfl rfl (by decide +kernel) ⟨Nat.le_of_ble_eq_true rfl, Nat.le_of_ble_eq_true rfl⟩) (wd_pre hK hP (dk_lt (by omega)) dE_0 rfl) rfl rfl hl.1 rfl (lv_room (Nat.le_of_ble_eq_true rfl)) dX3_acquire_2 ⟨Nat.le_of_ble_eq_true rfl, Nat.le_of_ble_eq_true rfl⟩) (fun H locs hP hS => ?_)
  refine lv_astore (lv' := [(4, .ref (wa (dkO G) (3 + j))), (0, .ref (wa (dkO G) 0)), (1, .int (nI j)), (2, .int (nI i)), (3, .int t)]) hx hb dX3_acquire_5 hl (by decide) rfl (fun ls hl => ?_)
  refine lv_aload_n hx hb dX3_acquire_7 rfl (lv_at hl 1 rfl) ?_
  refine lv_iload_n hx hb dX3_acquire_8 rfl (lv_at hl 3 rfl) ?_
  refine wd_cqs (O := (dkO G)) hS (va_runV (As := [.int (nI i)]) (rest := []) ⟨hx, hb, hml, hown, hts⟩ (c_X3_requireLock_s (G := G) hj hok (by omega) H.size) (cwV 1 hts gX3_acquire_X3_requireLock rfl rfl rfl (by decide +kernel) ⟨Nat.le_of_ble_eq_true rfl, Nat.le_of_ble_eq_true rfl⟩) (wd_pre hK hP (dk_lt (by omega)) dE_0 rfl) rfl rfl hl.1 rfl (lv_room (Nat.le_of_ble_eq_true rfl)) dX3_acquire_9 ⟨Nat.le_of_ble_eq_true rfl, Nat.le_of_ble_eq_true rfl⟩) (fun H locs hP hS => ?_)
  refine lv_astore (lv' := [(5, .ref (wa (dkO G) (9 + i))), (4, .ref (wa (dkO G) (3 + j))), (0, .ref (wa (dkO G) 0)), (1, .int (nI j)), (2, .int (nI i)), (3, .int t)]) hx hb dX3_acquire_12 hl (by decide) rfl (fun ls hl => ?_)
  refine lv_iload_n hx hb dX3_acquire_14 rfl (lv_at hl 5 rfl) ?_
  refine lv_iconst (v := 1) hx hb dX3_acquire_15 (by decide) ?_
  refine lv_icmp_lt (tgt := 25) hx hb dX3_acquire_16 (by decide) (fun c1 => ?_) (fun c1 => ?_)
  · have hs := hE.2.2
    obtain ⟨sa, hsa⟩ := hs.2.1
    exact vx_throwS (own := RX3) (cls := "java/lang/IllegalArgumentException") (text := "the term is not 1 to 100") (names := eNm) hx hb hst hown (by decide +kernel) (by decide +kernel) (hts (.classLink RX3 73 "java/lang/IllegalArgumentException") (by decide +kernel)) (hts (.initialized "java/lang/IllegalArgumentException") (by decide +kernel)) hsa (vx_hat (B := xB) (fun w h => hts w ((by decide +kernel : ∀ w ∈ (vx_atS RX3 77 "java/lang/IllegalArgumentException" eNm).filter goodWord, w ∈ wsX3_acquire) w h)) (by decide +kernel) (fun w h => va_Nw.use (xB_face w h).2 (hs.2.2.2.2.2.1 w h))) (by decide +kernel) hE.1 hE.2.1 hS (hl.1.trans hml.symm) dX3_acquire_25 dX3_acquire_28 dX3_acquire_29 dX3_acquire_31 dX3_acquire_34 (fun x h => absurd h (fun h => htab x h)) (Nat.le_of_ble_eq_true rfl) (Nat.le_of_ble_eq_true rfl) (Nat.le_of_ble_eq_true rfl) (Nat.le_of_ble_eq_true rfl) hlocks (xX_of hP hK hS) hS.2.2 (Nat.le_of_ble_eq_true rfl) (Nat.le_of_ble_eq_true rfl)
  · refine lv_iload_n hx hb dX3_acquire_19 rfl (lv_at hl 5 rfl) ?_
    refine lv_bipush (v := 100) hx hb dX3_acquire_20 (by decide) ?_
    refine lv_icmp_le (tgt := 35) hx hb dX3_acquire_22 (by decide) (fun c2 => absurd c2 (fun h9 => ht ⟨c1, h9⟩)) (fun c2 => ?_)
    have hs := hE.2.2
    obtain ⟨sa, hsa⟩ := hs.2.1
    exact vx_throwS (own := RX3) (cls := "java/lang/IllegalArgumentException") (text := "the term is not 1 to 100") (names := eNm) hx hb hst hown (by decide +kernel) (by decide +kernel) (hts (.classLink RX3 73 "java/lang/IllegalArgumentException") (by decide +kernel)) (hts (.initialized "java/lang/IllegalArgumentException") (by decide +kernel)) hsa (vx_hat (B := xB) (fun w h => hts w ((by decide +kernel : ∀ w ∈ (vx_atS RX3 77 "java/lang/IllegalArgumentException" eNm).filter goodWord, w ∈ wsX3_acquire) w h)) (by decide +kernel) (fun w h => va_Nw.use (xB_face w h).2 (hs.2.2.2.2.2.1 w h))) (by decide +kernel) hE.1 hE.2.1 hS (hl.1.trans hml.symm) dX3_acquire_25 dX3_acquire_28 dX3_acquire_29 dX3_acquire_31 dX3_acquire_34 (fun x h => absurd h (fun h => htab x h)) (Nat.le_of_ble_eq_true rfl) (Nat.le_of_ble_eq_true rfl) (Nat.le_of_ble_eq_true rfl) (Nat.le_of_ble_eq_true rfl) hlocks (xX_of hP hK hS) hS.2.2 (Nat.le_of_ble_eq_true rfl) (Nat.le_of_ble_eq_true rfl)
set_option maxRecDepth 100000 in
set_option maxHeartbeats 4000000 in
theorem c_X3_release_n1 {l : Launch} (hst : l.stackTraces = false) {G : DG} (hj : wj (dkO G)) {M : Mem} (hok : dk_ok M) (sz : Nat) (x y : Int32) (ho : osV M x = none) : vx_Met l yX3_release wsX3_release ({ frames := 7, cells := 1, slots := 6, locals := 104 }) (va_Pc [.ref (wa (dkO G) 0), .int x, .int y] (wpx (dkO G) sz M)) xQ (xX (dkO G) sz eNSE M) 1 6 (wA (dkO G) sz) := by
  refine wx_ofW (O := (dkO G)) (M := M) (M' := M) (E0 := eNSE) (cc := cX3_release) (maxL := 4) (ret := none) (lv := [(0, .ref (wa (dkO G) 0)), (1, .int x), (2, .int y)]) (by decide) rfl (Nat.le_of_ble_eq_true rfl) rfl ?_
  intro p e s m below meth c ls hx hb hr hml hown hts hlocks hP hK hS hl htab hE
  refine lv_aload_n hx hb dX3_release_0 rfl (lv_at hl 0 rfl) ?_
  refine lv_iload_n hx hb dX3_release_1 rfl (lv_at hl 1 rfl) ?_
  refine wx_call (O := (dkO G)) hS (vx_runV (As := [.int x]) (rest := []) ⟨hx, hb, hml, hown, hts⟩ (c_X3_requireSession_n hst (G := G) hj hok s.heap.size x ho) (cwV 1 hts gX3_release_X3_requireSession rfl rfl rfl (by decide +kernel) ⟨Nat.le_of_ble_eq_true rfl, Nat.le_of_ble_eq_true rfl⟩) (wx_pre hK hP hS hE (dk_lt (by omega)) dE_0 rfl) rfl rfl hl.1 rfl (lv_room (Nat.le_of_ble_eq_true rfl)) dX3_release_2 ⟨Nat.le_of_ble_eq_true rfl, Nat.le_of_ble_eq_true rfl⟩) (fun q ce H1 locs1 hP1 hS1 hce hcv hcl => ?_)
  exact vx_out (fun x h => absurd h (fun h => htab x h)) hlocks hce hcv hcl (xX_out hP1 hK hS1) hS1.2.2 (Nat.le_of_ble_eq_true rfl) (Nat.le_of_ble_eq_true rfl)
set_option maxRecDepth 100000 in
set_option maxHeartbeats 4000000 in
theorem c_X3_release_n2 {l : Launch} (hst : l.stackTraces = false) {G : DG} (hj : wj (dkO G)) {M : Mem} (hok : dk_ok M) {j : Nat} (hj6 : j < 6) (hon : M (3 + j) 0 ≠ 0) (sz : Nat) (y : Int32) (hd : dN y 4 = none) : vx_Met l yX3_release wsX3_release ({ frames := 7, cells := 1, slots := 6, locals := 104 }) (va_Pc [.ref (wa (dkO G) 0), .int (nI j), .int y] (wpx (dkO G) sz M)) xQ (xX (dkO G) sz eIAE M) 1 6 (wA (dkO G) sz) := by
  refine wx_ofW (O := (dkO G)) (M := M) (M' := M) (E0 := eIAE) (cc := cX3_release) (maxL := 4) (ret := none) (lv := [(0, .ref (wa (dkO G) 0)), (1, .int (nI j)), (2, .int y)]) (by decide) rfl (Nat.le_of_ble_eq_true rfl) rfl ?_
  intro p e s m below meth c ls hx hb hr hml hown hts hlocks hP hK hS hl htab hE
  refine lv_aload_n hx hb dX3_release_0 rfl (lv_at hl 0 rfl) ?_
  refine lv_iload_n hx hb dX3_release_1 rfl (lv_at hl 1 rfl) ?_
  refine wd_cqs (O := (dkO G)) hS (va_runV (As := [.int (nI j)]) (rest := []) ⟨hx, hb, hml, hown, hts⟩ (c_X3_requireSession_s (G := G) hj hok (by omega) hon s.heap.size) (cwV 1 hts gX3_release_X3_requireSession rfl rfl rfl (by decide +kernel) ⟨Nat.le_of_ble_eq_true rfl, Nat.le_of_ble_eq_true rfl⟩) (wd_pre hK hP (dk_lt (by omega)) dE_0 rfl) rfl rfl hl.1 rfl (lv_room (Nat.le_of_ble_eq_true rfl)) dX3_release_2 ⟨Nat.le_of_ble_eq_true rfl, Nat.le_of_ble_eq_true rfl⟩) (fun H locs hP hS => ?_)
  refine lv_pop hx hb dX3_release_5 rfl ?_
  refine lv_aload_n hx hb dX3_release_6 rfl (lv_at hl 0 rfl) ?_
  refine lv_iload_n hx hb dX3_release_7 rfl (lv_at hl 2 rfl) ?_
  refine wx_call (O := (dkO G)) hS (vx_runV (As := [.int y]) (rest := []) ⟨hx, hb, hml, hown, hts⟩ (c_X3_requireLock_n hst (G := G) hj hok H.size y hd) (cwV 1 hts gX3_release_X3_requireLock rfl rfl rfl (by decide +kernel) ⟨Nat.le_of_ble_eq_true rfl, Nat.le_of_ble_eq_true rfl⟩) (wx_pre hK hP hS hE (dk_lt (by omega)) dE_0 rfl) rfl rfl hl.1 rfl (lv_room (Nat.le_of_ble_eq_true rfl)) dX3_release_8 ⟨Nat.le_of_ble_eq_true rfl, Nat.le_of_ble_eq_true rfl⟩) (fun q ce H1 locs1 hP1 hS1 hce hcv hcl => ?_)
  exact vx_out (fun x h => absurd h (fun h => htab x h)) hlocks hce hcv hcl (xX_out hP1 hK hS1) hS1.2.2 (Nat.le_of_ble_eq_true rfl) (Nat.le_of_ble_eq_true rfl)
set_option maxRecDepth 100000 in
set_option maxHeartbeats 4000000 in
theorem c_X3_release_n3 {l : Launch} (hst : l.stackTraces = false) {G : DG} (hj : wj (dkO G)) {M : Mem} (hok : dk_ok M) {j i : Nat} (hj6 : j < 6) (hon : M (3 + j) 0 ≠ 0) (hi4 : i < 4) (hh : M (9 + i) 1 ≠ nI j) (sz : Nat) : vx_Met l yX3_release wsX3_release ({ frames := 6, cells := 1, slots := 6, locals := 82 }) (va_Pc [.ref (wa (dkO G) 0), .int (nI j), .int (nI i)] (wpx (dkO G) sz M)) xQ (xX (dkO G) sz eISE M) 1 6 (wA (dkO G) sz) := by
  refine wx_ofW (O := (dkO G)) (M := M) (M' := M) (E0 := eISE) (cc := cX3_release) (maxL := 4) (ret := none) (lv := [(0, .ref (wa (dkO G) 0)), (1, .int (nI j)), (2, .int (nI i))]) (by decide) rfl (Nat.le_of_ble_eq_true rfl) rfl ?_
  intro p e s m below meth c ls hx hb hr hml hown hts hlocks hP hK hS hl htab hE
  have hi0 : ∀ w ∈ wsX00, w ∈ wsX3_release := by decide +kernel
  refine lv_aload_n hx hb dX3_release_0 rfl (lv_at hl 0 rfl) ?_
  refine lv_iload_n hx hb dX3_release_1 rfl (lv_at hl 1 rfl) ?_
  refine wd_cqs (O := (dkO G)) hS (va_runV (As := [.int (nI j)]) (rest := []) ⟨hx, hb, hml, hown, hts⟩ (c_X3_requireSession_s (G := G) hj hok (by omega) hon s.heap.size) (cwV 1 hts gX3_release_X3_requireSession rfl rfl rfl (by decide +kernel) ⟨Nat.le_of_ble_eq_true rfl, Nat.le_of_ble_eq_true rfl⟩) (wd_pre hK hP (dk_lt (by omega)) dE_0 rfl) rfl rfl hl.1 rfl (lv_room (Nat.le_of_ble_eq_true rfl)) dX3_release_2 ⟨Nat.le_of_ble_eq_true rfl, Nat.le_of_ble_eq_true rfl⟩) (fun H locs hP hS => ?_)
  refine lv_pop hx hb dX3_release_5 rfl ?_
  refine lv_aload_n hx hb dX3_release_6 rfl (lv_at hl 0 rfl) ?_
  refine lv_iload_n hx hb dX3_release_7 rfl (lv_at hl 2 rfl) ?_
  refine wd_cqs (O := (dkO G)) hS (va_runV (As := [.int (nI i)]) (rest := []) ⟨hx, hb, hml, hown, hts⟩ (c_X3_requireLock_s (G := G) hj hok (by omega) H.size) (cwV 1 hts gX3_release_X3_requireLock rfl rfl rfl (by decide +kernel) ⟨Nat.le_of_ble_eq_true rfl, Nat.le_of_ble_eq_true rfl⟩) (wd_pre hK hP (dk_lt (by omega)) dE_0 rfl) rfl rfl hl.1 rfl (lv_room (Nat.le_of_ble_eq_true rfl)) dX3_release_8 ⟨Nat.le_of_ble_eq_true rfl, Nat.le_of_ble_eq_true rfl⟩) (fun H locs hP hS => ?_)
  refine lv_astore_n (lv' := [(3, .ref (wa (dkO G) (9 + i))), (0, .ref (wa (dkO G) 0)), (1, .int (nI j)), (2, .int (nI i))]) hx hb dX3_release_11 rfl hl (by decide) rfl (fun ls hl => ?_)
  refine lv_aload_n hx hb dX3_release_12 rfl (lv_at hl 0 rfl) ?_
  refine wd_get (O := (dkO G)) (v := .int (M (9 + i) 1)) hx hb hts hi0 hown hK hP (dk_lt (by omega)) (dE_lock (by omega)) rfl 1 (by decide) (hts (.fieldLink RX3 78 "LeaseDesk$Lock" "holder" "I") (by decide +kernel)) (fun _ h9 => h9) rfl dX3_release_13 ?_
  refine lv_iload_n hx hb dX3_release_16 rfl (lv_at hl 2 rfl) ?_
  refine lv_icmp_eq (tgt := 30) hx hb dX3_release_17 (by decide) (fun c1 => absurd c1 hh) (fun c1 => ?_)
  have hs := hE.2.2
  obtain ⟨sa, hsa⟩ := hs.2.2.1
  exact vx_throwS (own := RX3) (cls := "java/lang/IllegalStateException") (text := "the session does not hold the lock") (names := eNm) hx hb hst hown (by decide +kernel) (by decide +kernel) (hts (.classLink RX3 35 "java/lang/IllegalStateException") (by decide +kernel)) (hts (.initialized "java/lang/IllegalStateException") (by decide +kernel)) hsa (vx_hat (B := xB) (fun w h => hts w ((by decide +kernel : ∀ w ∈ (vx_atS RX3 39 "java/lang/IllegalStateException" eNm).filter goodWord, w ∈ wsX3_release) w h)) (by decide +kernel) (fun w h => va_Nw.use (xB_face w h).2 (hs.2.2.2.2.2.1 w h))) (by decide +kernel) hE.1 hE.2.1 hS (hl.1.trans hml.symm) dX3_release_20 dX3_release_23 dX3_release_24 dX3_release_26 dX3_release_29 (fun x h => absurd h (fun h => htab x h)) (Nat.le_of_ble_eq_true rfl) (Nat.le_of_ble_eq_true rfl) (Nat.le_of_ble_eq_true rfl) (Nat.le_of_ble_eq_true rfl) hlocks (xX_of hP hK hS) hS.2.2 (Nat.le_of_ble_eq_true rfl) (Nat.le_of_ble_eq_true rfl)
