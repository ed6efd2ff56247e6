set_option maxRecDepth 100000 in
set_option maxHeartbeats 4000000 in
theorem c_X3_knownLock_n {l : Launch} {G : DG} (hj : wj (dkO G)) {M : Mem} (hok : dk_ok M) (sz : Nat) (x : Int32) (hd : dN x 4 = none) : Met l yX3_knownLock wsX3_knownLock ({ frames := 0, cells := 0, slots := 0, locals := 0 }) (va_Pc [.ref (wa (dkO G) 0), .int x] (wp (dkO G) sz M)) (wQq (dkO G) sz (none) (M)) 0 0 (wA (dkO G) sz) := by
  refine wd_ofW (O := (dkO G)) (M := M) (Qc := fun z => wQq (dkO G) z (none) (M)) (cc := cX3_knownLock) (maxL := 2) (ret := (some (.object "LeaseDesk$Lock"))) (lv := [(0, .ref (wa (dkO G) 0)), (1, .int x)]) (by decide) rfl (Nat.le_of_ble_eq_true rfl) rfl ?_
  intro p e s m below meth c ls hx hb hr hml hown hts hlocks hP hK hS hl
  refine lv_iload_n hx hb dX3_knownLock_0 rfl (lv_at hl 1 rfl) ?_
  refine lv_if_lt (tgt := 9) hx hb dX3_knownLock_1 (by decide) (fun c1 => ?_) (fun c1 => ?_)
  · refine lv_null hx hb dX3_knownLock_9 ?_
    refine lv_goto (tgt := 19) hx hb dX3_knownLock_10 (by decide) ?_
    exact wd_aret (O := (dkO G)) hx hb hr hlocks hK hP hS dX3_knownLock_19 (rfl) (rfl)
  · refine lv_iload_n hx hb dX3_knownLock_4 rfl (lv_at hl 1 rfl) ?_
    refine lv_iconst (v := 4) hx hb dX3_knownLock_5 (by decide) ?_
    refine lv_icmp_lt (tgt := 13) hx hb dX3_knownLock_6 (by decide) (fun c2 => absurd c2 (Int32.not_lt.mpr (dN_none hd c1))) (fun c2 => ?_)
    refine lv_null hx hb dX3_knownLock_9 ?_
    refine lv_goto (tgt := 19) hx hb dX3_knownLock_10 (by decide) ?_
    exact wd_aret (O := (dkO G)) hx hb hr hlocks hK hP hS dX3_knownLock_19 (rfl) (rfl)
set_option maxRecDepth 100000 in
set_option maxHeartbeats 4000000 in
theorem c_X3_knownLock_s {l : Launch} {G : DG} (hj : wj (dkO G)) {M : Mem} (hok : dk_ok M) {j : Nat} (hj4 : j < 4) (sz : Nat) : Met l yX3_knownLock wsX3_knownLock ({ frames := 0, cells := 0, slots := 0, locals := 0 }) (va_Pc [.ref (wa (dkO G) 0), .int (nI j)] (wp (dkO G) sz M)) (wQq (dkO G) sz (some (wa (dkO G) (9 + j))) (M)) 0 0 (wA (dkO G) sz) := by
  refine wd_ofW (O := (dkO G)) (M := M) (Qc := fun z => wQq (dkO G) z (some (wa (dkO G) (9 + j))) (M)) (cc := cX3_knownLock) (maxL := 2) (ret := (some (.object "LeaseDesk$Lock"))) (lv := [(0, .ref (wa (dkO G) 0)), (1, .int (nI j))]) (by decide) rfl (Nat.le_of_ble_eq_true rfl) rfl ?_
  intro p e s m below meth c ls hx hb hr hml hown hts hlocks hP hK hS hl
  have hi3 : ∀ w ∈ wsX30, w ∈ wsX3_knownLock := by decide +kernel
  refine lv_iload_n hx hb dX3_knownLock_0 rfl (lv_at hl 1 rfl) ?_
  refine lv_if_lt (tgt := 9) hx hb dX3_knownLock_1 (by decide) (fun c1 => absurd c1 (nI_pos (by omega))) (fun c1 => ?_)
  refine lv_iload_n hx hb dX3_knownLock_4 rfl (lv_at hl 1 rfl) ?_
  refine lv_iconst (v := 4) hx hb dX3_knownLock_5 (by decide) ?_
  refine lv_icmp_lt (tgt := 13) hx hb dX3_knownLock_6 (by decide) (fun c2 => ?_) (fun c2 => absurd (show nI j < nI 4 from nI_lt hj4 (by decide)) c2)
  refine lv_aload_n hx hb dX3_knownLock_13 rfl (lv_at hl 0 rfl) ?_
  refine wd_get (O := (dkO G)) (v := .ref (wa (dkO G) 2)) hx hb hts hi3 hown hK hP (dk_lt (by omega)) dE_0 rfl 1 (by decide) (hts (.fieldLink RX3 18 "LeaseDesk" "locks" "[LLeaseDesk$Lock;") (by decide +kernel)) (fun _ h9 => h9) rfl dX3_knownLock_14 ?_
  refine lv_iload_n hx hb dX3_knownLock_17 rfl (lv_at hl 1 rfl) ?_
  refine wd_aald (O := (dkO G)) (b := wa (dkO G) (9 + j)) hx hb hK hP (dk_lt (by omega)) 2 dE_2 rfl (i := j) rfl (by omega) (by decide) (if_pos (by omega)) dX3_knownLock_18 ?_
  exact wd_aret (O := (dkO G)) hx hb hr hlocks hK hP hS dX3_knownLock_19 (rfl) (rfl)
set_option maxRecDepth 100000 in
set_option maxHeartbeats 4000000 in
theorem c_X3_openSession_n {l : Launch} {G : DG} (hj : wj (dkO G)) {M : Mem} (hok : dk_ok M) (sz : Nat) (x : Int32) (ho : osV M x = none) : Met l yX3_openSession wsX3_openSession ({ frames := 0, cells := 0, slots := 0, locals := 0 }) (va_Pc [.ref (wa (dkO G) 0), .int x] (wp (dkO G) sz M)) (wQq (dkO G) sz (none) (M)) 0 0 (wA (dkO G) sz) := by
  rcases op_cases (dN x 6) with hd | ⟨j2, hd⟩
  · refine wd_ofW (O := (dkO G)) (M := M) (Qc := fun z => wQq (dkO G) z (none) (M)) (cc := cX3_openSession) (maxL := 2) (ret := (some (.object "LeaseDesk$Session"))) (lv := [(0, .ref (wa (dkO G) 0)), (1, .int x)]) (by decide) rfl (Nat.le_of_ble_eq_true rfl) rfl ?_
    intro p e s m below meth c ls hx hb hr hml hown hts hlocks hP hK hS hl
    have hi2 : ∀ w ∈ wsX20, w ∈ wsX3_openSession := by decide +kernel
    have hi3 : ∀ w ∈ wsX30, w ∈ wsX3_openSession := by decide +kernel
    refine lv_iload_n hx hb dX3_openSession_0 rfl (lv_at hl 1 rfl) ?_
    refine lv_if_lt (tgt := 22) hx hb dX3_openSession_1 (by decide) (fun c1 => ?_) (fun c1 => ?_)
    · refine lv_null hx hb dX3_openSession_22 ?_
      exact wd_aret (O := (dkO G)) hx hb hr hlocks hK hP hS dX3_openSession_23 (rfl) (rfl)
    · refine lv_iload_n hx hb dX3_openSession_4 rfl (lv_at hl 1 rfl) ?_
      refine lv_bipush (v := 6) hx hb dX3_openSession_5 (by decide) ?_
      refine lv_icmp_ge (tgt := 22) hx hb dX3_openSession_7 (by decide) (fun c2 => ?_) (fun c2 => absurd (dN_none hd c1) c2)
      refine lv_null hx hb dX3_openSession_22 ?_
      exact wd_aret (O := (dkO G)) hx hb hr hlocks hK hP hS dX3_openSession_23 (rfl) (rfl)
  · obtain ⟨hj2, rfl⟩ := dN_some (by decide) hd
    have hcl : M (3 + j2) 0 = 0 := by
      by_cases e : M (3 + j2) 0 = 0
      · exact e
      · simp [osV, hd, e] at ho
    refine wd_ofW (O := (dkO G)) (M := M) (Qc := fun z => wQq (dkO G) z (none) (M)) (cc := cX3_openSession) (maxL := 2) (ret := (some (.object "LeaseDesk$Session"))) (lv := [(0, .ref (wa (dkO G) 0)), (1, .int (nI j2))]) (by decide) rfl (Nat.le_of_ble_eq_true rfl) rfl ?_
    intro p e s m below meth c ls hx hb hr hml hown hts hlocks hP hK hS hl
    have hi2 : ∀ w ∈ wsX20, w ∈ wsX3_openSession := by decide +kernel
    have hi3 : ∀ w ∈ wsX30, w ∈ wsX3_openSession := by decide +kernel
    refine lv_iload_n hx hb dX3_openSession_0 rfl (lv_at hl 1 rfl) ?_
    refine lv_if_lt (tgt := 22) hx hb dX3_openSession_1 (by decide) (fun c3 => absurd c3 (nI_pos (by omega))) (fun c3 => ?_)
    refine lv_iload_n hx hb dX3_openSession_4 rfl (lv_at hl 1 rfl) ?_
    refine lv_bipush (v := 6) hx hb dX3_openSession_5 (by decide) ?_
    refine lv_icmp_ge (tgt := 22) hx hb dX3_openSession_7 (by decide) (fun c4 => absurd c4 (nI_ge hj2 (by decide))) (fun c4 => ?_)
    refine lv_aload_n hx hb dX3_openSession_10 rfl (lv_at hl 0 rfl) ?_
    refine wd_get (O := (dkO G)) (v := .ref (wa (dkO G) 1)) hx hb hts hi3 hown hK hP (dk_lt (by omega)) dE_0 rfl 0 (by decide) (hts (.fieldLink RX3 11 "LeaseDesk" "sessions" "[LLeaseDesk$Session;") (by decide +kernel)) (fun _ h9 => h9) rfl dX3_openSession_11 ?_
    refine lv_iload_n hx hb dX3_openSession_14 rfl (lv_at hl 1 rfl) ?_
    refine wd_aald (O := (dkO G)) (b := wa (dkO G) (3 + j2)) hx hb hK hP (dk_lt (by omega)) 1 dE_1 rfl (i := j2) rfl (by omega) (by decide) (if_pos (by omega)) dX3_openSession_15 ?_
    refine wd_get (O := (dkO G)) (v := .int (M (3 + j2) 0)) hx hb hts hi2 hown hK hP (dk_lt (by omega)) (dE_ses (by omega)) rfl 0 (by decide) (hts (.fieldLink RX3 27 "LeaseDesk$Session" "isOpen" "Z") (by decide +kernel)) (fun _ h9 => h9) rfl dX3_openSession_16 ?_
    refine lv_if_ne (tgt := 24) hx hb dX3_openSession_19 (by decide) (fun c5 => absurd hcl c5) (fun c5 => ?_)
    refine lv_null hx hb dX3_openSession_22 ?_
    exact wd_aret (O := (dkO G)) hx hb hr hlocks hK hP hS dX3_openSession_23 (rfl) (rfl)
set_option maxRecDepth 100000 in
set_option maxHeartbeats 4000000 in
theorem c_X3_openSession_s {l : Launch} {G : DG} (hj : wj (dkO G)) {M : Mem} (hok : dk_ok M) {j : Nat} (hj6 : j < 6) (hon : M (3 + j) 0 ≠ 0) (sz : Nat) : Met l yX3_openSession wsX3_openSession ({ frames := 0, cells := 0, slots := 0, locals := 0 }) (va_Pc [.ref (wa (dkO G) 0), .int (nI j)] (wp (dkO G) sz M)) (wQq (dkO G) sz (some (wa (dkO G) (3 + j))) (M)) 0 0 (wA (dkO G) sz) := by
  refine wd_ofW (O := (dkO G)) (M := M) (Qc := fun z => wQq (dkO G) z (some (wa (dkO G) (3 + j))) (M)) (cc := cX3_openSession) (maxL := 2) (ret := (some (.object "LeaseDesk$Session"))) (lv := [(0, .ref (wa (dkO G) 0)), (1, .int (nI j))]) (by decide) rfl (Nat.le_of_ble_eq_true rfl) rfl ?_
  intro p e s m below meth c ls hx hb hr hml hown hts hlocks hP hK hS hl
  have hi2 : ∀ w ∈ wsX20, w ∈ wsX3_openSession := by decide +kernel
  have hi3 : ∀ w ∈ wsX30, w ∈ wsX3_openSession := by decide +kernel
  refine lv_iload_n hx hb dX3_openSession_0 rfl (lv_at hl 1 rfl) ?_
  refine lv_if_lt (tgt := 22) hx hb dX3_openSession_1 (by decide) (fun c1 => absurd c1 (nI_pos (by omega))) (fun c1 => ?_)
  refine lv_iload_n hx hb dX3_openSession_4 rfl (lv_at hl 1 rfl) ?_
  refine lv_bipush (v := 6) hx hb dX3_openSession_5 (by decide) ?_
  refine lv_icmp_ge (tgt := 22) hx hb dX3_openSession_7 (by decide) (fun c2 => absurd c2 (nI_ge hj6 (by decide))) (fun c2 => ?_)
  refine lv_aload_n hx hb dX3_openSession_10 rfl (lv_at hl 0 rfl) ?_
  refine wd_get (O := (dkO G)) (v := .ref (wa (dkO G) 1)) hx hb hts hi3 hown hK hP (dk_lt (by omega)) dE_0 rfl 0 (by decide) (hts (.fieldLink RX3 11 "LeaseDesk" "sessions" "[LLeaseDesk$Session;") (by decide +kernel)) (fun _ h9 => h9) rfl dX3_openSession_11 ?_
  refine lv_iload_n hx hb dX3_openSession_14 rfl (lv_at hl 1 rfl) ?_
  refine wd_aald (O := (dkO G)) (b := wa (dkO G) (3 + j)) hx hb hK hP (dk_lt (by omega)) 1 dE_1 rfl (i := j) rfl (by omega) (by decide) (if_pos (by omega)) dX3_openSession_15 ?_
  refine wd_get (O := (dkO G)) (v := .int (M (3 + j) 0)) hx hb hts hi2 hown hK hP (dk_lt (by omega)) (dE_ses (by omega)) rfl 0 (by decide) (hts (.fieldLink RX3 27 "LeaseDesk$Session" "isOpen" "Z") (by decide +kernel)) (fun _ h9 => h9) rfl dX3_openSession_16 ?_
  refine lv_if_ne (tgt := 24) hx hb dX3_openSession_19 (by decide) (fun c3 => ?_) (fun c3 => absurd c3 hon)
  refine lv_aload_n hx hb dX3_openSession_24 rfl (lv_at hl 0 rfl) ?_
  refine wd_get (O := (dkO G)) (v := .ref (wa (dkO G) 1)) hx hb hts hi3 hown hK hP (dk_lt (by omega)) dE_0 rfl 0 (by decide) (hts (.fieldLink RX3 11 "LeaseDesk" "sessions" "[LLeaseDesk$Session;") (by decide +kernel)) (fun _ h9 => h9) rfl dX3_openSession_25 ?_
  refine lv_iload_n hx hb dX3_openSession_28 rfl (lv_at hl 1 rfl) ?_
  refine wd_aald (O := (dkO G)) (b := wa (dkO G) (3 + j)) hx hb hK hP (dk_lt (by omega)) 1 dE_1 rfl (i := j) rfl (by omega) (by decide) (if_pos (by omega)) dX3_openSession_29 ?_
  exact wd_aret (O := (dkO G)) hx hb hr hlocks hK hP hS dX3_openSession_30 (rfl) (rfl)
set_option maxRecDepth 100000 in
set_option maxHeartbeats 4000000 in
theorem c_X3_holder {l : Launch} {G : DG} (hj : wj (dkO G)) {M : Mem} (hok : dk_ok M) (sz : Nat) (x : Int32) : Met l yX3_holder wsX3_holder ({ frames := 1, cells := 0, slots := 0, locals := 21 }) (va_Pc [.ref (wa (dkO G) 0), .int x] (wp (dkO G) sz M)) (wQi (dkO G) sz (kcV M x (-1) 1) (M)) 0 0 (wA (dkO G) sz) := by
  rcases op_cases (dN x 4) with hd | ⟨j2, hd⟩
  · refine wd_ofW (O := (dkO G)) (M := M) (Qc := fun z => wQi (dkO G) z (kcV M x (-1) 1) (M)) (cc := cX3_holder) (maxL := 3) (ret := (some .int)) (lv := [(0, .ref (wa (dkO G) 0)), (1, .int x)]) (by decide) rfl (Nat.le_of_ble_eq_true rfl) rfl ?_
    intro p e s m below meth c ls hx hb hr hml hown hts hlocks hP hK hS hl
    have hi0 : ∀ w ∈ wsX00, w ∈ wsX3_holder := by decide +kernel
    refine lv_aload_n hx hb dX3_holder_0 rfl (lv_at hl 0 rfl) ?_
    refine lv_iload_n hx hb dX3_holder_1 rfl (lv_at hl 1 rfl) ?_
    refine wd_cqn (O := (dkO G)) hS (va_runV (As := [.int x]) (rest := []) ⟨hx, hb, hml, hown, hts⟩ (c_X3_knownLock_n (G := G) hj hok s.heap.size x hd) (cwV 1 hts gX3_holder_X3_knownLock rfl rfl rfl (by decide +kernel) ⟨Nat.le_of_ble_eq_true rfl, Nat.le_of_ble_eq_true rfl⟩) (wd_pre hK hP (dk_lt (by omega)) dE_0 rfl) rfl rfl hl.1 rfl (lv_room (Nat.le_of_ble_eq_true rfl)) dX3_holder_2 ⟨Nat.le_of_ble_eq_true rfl, Nat.le_of_ble_eq_true rfl⟩) (fun H locs hP hS => ?_)
    refine lv_astore_nN (lv' := [(2, .null), (0, .ref (wa (dkO G) 0)), (1, .int x)]) hx hb dX3_holder_5 rfl hl (by decide) rfl (fun ls hl => ?_)
    refine lv_aload_nN hx hb dX3_holder_6 rfl (lv_at hl 0 rfl) ?_
    refine lv_ifnonnullN hx hb dX3_holder_7 ?_
    refine lv_iconst (v := (-1)) hx hb dX3_holder_10 (by decide) ?_
    refine lv_goto (tgt := 18) hx hb dX3_holder_11 (by decide) ?_
    exact wd_iret (O := (dkO G)) hx hb hr hlocks hK hP hS rfl dX3_holder_18 (by simp only [kcV, hd]) (rfl)
  · obtain ⟨hj2, rfl⟩ := dN_some (by decide) hd
    refine wd_ofW (O := (dkO G)) (M := M) (Qc := fun z => wQi (dkO G) z (kcV M (nI j2) (-1) 1) (M)) (cc := cX3_holder) (maxL := 3) (ret := (some .int)) (lv := [(0, .ref (wa (dkO G) 0)), (1, .int (nI j2))]) (by decide) rfl (Nat.le_of_ble_eq_true rfl) rfl ?_
    intro p e s m below meth c ls hx hb hr hml hown hts hlocks hP hK hS hl
    have hi0 : ∀ w ∈ wsX00, w ∈ wsX3_holder := by decide +kernel
    refine lv_aload_n hx hb dX3_holder_0 rfl (lv_at hl 0 rfl) ?_
    refine lv_iload_n hx hb dX3_holder_1 rfl (lv_at hl 1 rfl) ?_
    refine wd_cqs (O := (dkO G)) hS (va_runV (As := [.int (nI j2)]) (rest := []) ⟨hx, hb, hml, hown, hts⟩ (c_X3_knownLock_s (G := G) hj hok (by omega) s.heap.size) (cwV 1 hts gX3_holder_X3_knownLock rfl rfl rfl (by decide +kernel) ⟨Nat.le_of_ble_eq_true rfl, Nat.le_of_ble_eq_true rfl⟩) (wd_pre hK hP (dk_lt (by omega)) dE_0 rfl) rfl rfl hl.1 rfl (lv_room (Nat.le_of_ble_eq_true rfl)) dX3_holder_2 ⟨Nat.le_of_ble_eq_true rfl, Nat.le_of_ble_eq_true rfl⟩) (fun H locs hP hS => ?_)
    refine lv_astore_n (lv' := [(2, .ref (wa (dkO G) (9 + j2))), (0, .ref (wa (dkO G) 0)), (1, .int (nI j2))]) hx hb dX3_holder_5 rfl hl (by decide) rfl (fun ls hl => ?_)
    refine lv_aload_n hx hb dX3_holder_6 rfl (lv_at hl 0 rfl) ?_
    refine lv_ifnonnull (tgt := 14) hx hb dX3_holder_7 (by decide) ?_
    refine lv_aload_n hx hb dX3_holder_14 rfl (lv_at hl 0 rfl) ?_
    refine wd_get (O := (dkO G)) (v := .int (M (9 + j2) 1)) hx hb hts hi0 hown hK hP (dk_lt (by omega)) (dE_lock (by omega)) rfl 1 (by decide) (hts (.fieldLink RX3 78 "LeaseDesk$Lock" "holder" "I") (by decide +kernel)) (fun _ h9 => h9) rfl dX3_holder_15 ?_
    exact wd_iret (O := (dkO G)) hx hb hr hlocks hK hP hS rfl dX3_holder_18 (by simp only [kcV, hd]) (rfl)
set_option maxRecDepth 100000 in
set_option maxHeartbeats 4000000 in
theorem c_X3_token {l : Launch} {G : DG} (hj : wj (dkO G)) {M : Mem} (hok : dk_ok M) (sz : Nat) (x : Int32) : Met l yX3_token wsX3_token ({ frames := 1, cells := 0, slots := 0, locals := 21 }) (va_Pc [.ref (wa (dkO G) 0), .int x] (wp (dkO G) sz M)) (wQi (dkO G) sz (kcV M x (-1) 2) (M)) 0 0 (wA (dkO G) sz) := by
  rcases op_cases (dN x 4) with hd | ⟨j2, hd⟩
  · refine wd_ofW (O := (dkO G)) (M := M) (Qc := fun z => wQi (dkO G) z (kcV M x (-1) 2) (M)) (cc := cX3_token) (maxL := 3) (ret := (some .int)) (lv := [(0, .ref (wa (dkO G) 0)), (1, .int x)]) (by decide) rfl (Nat.le_of_ble_eq_true rfl) rfl ?_
    intro p e s m below meth c ls hx hb hr hml hown hts hlocks hP hK hS hl
    have hi0 : ∀ w ∈ wsX00, w ∈ wsX3_token := by decide +kernel
    refine lv_aload_n hx hb dX3_token_0 rfl (lv_at hl 0 rfl) ?_
    refine lv_iload_n hx hb dX3_token_1 rfl (lv_at hl 1 rfl) ?_
    refine wd_cqn (O := (dkO G)) hS (va_runV (As := [.int x]) (rest := []) ⟨hx, hb, hml, hown, hts⟩ (c_X3_knownLock_n (G := G) hj hok s.heap.size x hd) (cwV 1 hts gX3_token_X3_knownLock rfl rfl rfl (by decide +kernel) ⟨Nat.le_of_ble_eq_true rfl, Nat.le_of_ble_eq_true rfl⟩) (wd_pre hK hP (dk_lt (by omega)) dE_0 rfl) rfl rfl hl.1 rfl (lv_room (Nat.le_of_ble_eq_true rfl)) dX3_token_2 ⟨Nat.le_of_ble_eq_true rfl, Nat.le_of_ble_eq_true rfl⟩) (fun H locs hP hS => ?_)
    refine lv_astore_nN (lv' := [(2, .null), (0, .ref (wa (dkO G) 0)), (1, .int x)]) hx hb dX3_token_5 rfl hl (by decide) rfl (fun ls hl => ?_)
    refine lv_aload_nN hx hb dX3_token_6 rfl (lv_at hl 0 rfl) ?_
    refine lv_ifnonnullN hx hb dX3_token_7 ?_
    refine lv_iconst (v := (-1)) hx hb dX3_token_10 (by decide) ?_
    refine lv_goto (tgt := 18) hx hb dX3_token_11 (by decide) ?_
    exact wd_iret (O := (dkO G)) hx hb hr hlocks hK hP hS rfl dX3_token_18 (by simp only [kcV, hd]) (rfl)
  · obtain ⟨hj2, rfl⟩ := dN_some (by decide) hd
    refine wd_ofW (O := (dkO G)) (M := M) (Qc := fun z => wQi (dkO G) z (kcV M (nI j2) (-1) 2) (M)) (cc := cX3_token) (maxL := 3) (ret := (some .int)) (lv := [(0, .ref (wa (dkO G) 0)), (1, .int (nI j2))]) (by decide) rfl (Nat.le_of_ble_eq_true rfl) rfl ?_
    intro p e s m below meth c ls hx hb hr hml hown hts hlocks hP hK hS hl
    have hi0 : ∀ w ∈ wsX00, w ∈ wsX3_token := by decide +kernel
    refine lv_aload_n hx hb dX3_token_0 rfl (lv_at hl 0 rfl) ?_
    refine lv_iload_n hx hb dX3_token_1 rfl (lv_at hl 1 rfl) ?_
    refine wd_cqs (O := (dkO G)) hS (va_runV (As := [.int (nI j2)]) (rest := []) ⟨hx, hb, hml, hown, hts⟩ (c_X3_knownLock_s (G := G) hj hok (by omega) s.heap.size) (cwV 1 hts gX3_token_X3_knownLock rfl rfl rfl (by decide +kernel) ⟨Nat.le_of_ble_eq_true rfl, Nat.le_of_ble_eq_true rfl⟩) (wd_pre hK hP (dk_lt (by omega)) dE_0 rfl) rfl rfl hl.1 rfl (lv_room (Nat.le_of_ble_eq_true rfl)) dX3_token_2 ⟨Nat.le_of_ble_eq_true rfl, Nat.le_of_ble_eq_true rfl⟩) (fun H locs hP hS => ?_)
    refine lv_astore_n (lv' := [(2, .ref (wa (dkO G) (9 + j2))), (0, .ref (wa (dkO G) 0)), (1, .int (nI j2))]) hx hb dX3_token_5 rfl hl (by decide) rfl (fun ls hl => ?_)
    refine lv_aload_n hx hb dX3_token_6 rfl (lv_at hl 0 rfl) ?_
    refine lv_ifnonnull (tgt := 14) hx hb dX3_token_7 (by decide) ?_
    refine lv_aload_n hx hb dX3_token_14 rfl (lv_at hl 0 rfl) ?_
    refine wd_get (O := (dkO G)) (v := .int (M (9 + j2) 2)) hx hb hts hi0 hown hK hP (dk_lt (by omega)) (dE_lock (by omega)) rfl 2 (by decide) (hts (.fieldLink RX3 88 "LeaseDesk$Lock" "token" "I") (by decide +kernel)) (fun _ h9 => h9) rfl dX3_token_15 ?_
    exact wd_iret (O := (dkO G)) hx hb hr hlocks hK hP hS rfl dX3_token_18 (by simp only [kcV, hd]) (rfl)
set_option maxRecDepth 100000 in
set_option maxHeartbeats 4000000 in
theorem c_X3_stored {l : Launch} {G : DG} (hj : wj (dkO G)) {M : Mem} (hok : dk_ok M) (sz : Nat) (x : Int32) : Met l yX3_stored wsX3_stored ({ frames := 1, cells := 0, slots := 0, locals := 21 }) (va_Pc [.ref (wa (dkO G) 0), .int x] (wp (dkO G) sz M)) (wQi (dkO G) sz (kcV M x 0 7) (M)) 0 0 (wA (dkO G) sz) := by
  rcases op_cases (dN x 4) with hd | ⟨j2, hd⟩
  · refine wd_ofW (O := (dkO G)) (M := M) (Qc := fun z => wQi (dkO G) z (kcV M x 0 7) (M)) (cc := cX3_stored) (maxL := 3) (ret := (some .int)) (lv := [(0, .ref (wa (dkO G) 0)), (1, .int x)]) (by decide) rfl (Nat.le_of_ble_eq_true rfl) rfl ?_
    intro p e s m below meth c ls hx hb hr hml hown hts hlocks hP hK hS hl
    have hi0 : ∀ w ∈ wsX00, w ∈ wsX3_stored := by decide +kernel
    refine lv_aload_n hx hb dX3_stored_0 rfl (lv_at hl 0 rfl) ?_
    refine lv_iload_n hx hb dX3_stored_1 rfl (lv_at hl 1 rfl) ?_
    refine wd_cqn (O := (dkO G)) hS (va_runV (As := [.int x]) (rest := []) ⟨hx, hb, hml, hown, hts⟩ (c_X3_knownLock_n (G := G) hj hok s.heap.size x hd) (cwV 1 hts gX3_stored_X3_knownLock rfl rfl rfl (by decide +kernel) ⟨Nat.le_of_ble_eq_true rfl, Nat.le_of_ble_eq_true rfl⟩) (wd_pre hK hP (dk_lt (by omega)) dE_0 rfl) rfl rfl hl.1 rfl (lv_room (Nat.le_of_ble_eq_true rfl)) dX3_stored_2 ⟨Nat.le_of_ble_eq_true rfl, Nat.le_of_ble_eq_true rfl⟩) (fun H locs hP hS => ?_)
    refine lv_astore_nN (lv' := [(2, .null), (0, .ref (wa (dkO G) 0)), (1, .int x)]) hx hb dX3_stored_5 rfl hl (by decide) rfl (fun ls hl => ?_)
    refine lv_aload_nN hx hb dX3_stored_6 rfl (lv_at hl 0 rfl) ?_
    refine lv_ifnonnullN hx hb dX3_stored_7 ?_
    refine lv_iconst (v := 0) hx hb dX3_stored_10 (by decide) ?_
    refine lv_goto (tgt := 18) hx hb dX3_stored_11 (by decide) ?_
    exact wd_iret (O := (dkO G)) hx hb hr hlocks hK hP hS rfl dX3_stored_18 (by simp only [kcV, hd]) (rfl)
  · obtain ⟨hj2, rfl⟩ := dN_some (by decide) hd
    refine wd_ofW (O := (dkO G)) (M := M) (Qc := fun z => wQi (dkO G) z (kcV M (nI j2) 0 7) (M)) (cc := cX3_stored) (maxL := 3) (ret := (some .int)) (lv := [(0, .ref (wa (dkO G) 0)), (1, .int (nI j2))]) (by decide) rfl (Nat.le_of_ble_eq_true rfl) rfl ?_
    intro p e s m below meth c ls hx hb hr hml hown hts hlocks hP hK hS hl
    have hi0 : ∀ w ∈ wsX00, w ∈ wsX3_stored := by decide +kernel
    refine lv_aload_n hx hb dX3_stored_0 rfl (lv_at hl 0 rfl) ?_
    refine lv_iload_n hx hb dX3_stored_1 rfl (lv_at hl 1 rfl) ?_
    refine wd_cqs (O := (dkO G)) hS (va_runV (As := [.int (nI j2)]) (rest := []) ⟨hx, hb, hml, hown, hts⟩ (c_X3_knownLock_s (G := G) hj hok (by omega) s.heap.size) (cwV 1 hts gX3_stored_X3_knownLock rfl rfl rfl (by decide +kernel) ⟨Nat.le_of_ble_eq_true rfl, Nat.le_of_ble_eq_true rfl⟩) (wd_pre hK hP (dk_lt (by omega)) dE_0 rfl) rfl rfl hl.1 rfl (lv_room (Nat.le_of_ble_eq_true rfl)) dX3_stored_2 ⟨Nat.le_of_ble_eq_true rfl, Nat.le_of_ble_eq_true rfl⟩) (fun H locs hP hS => ?_)
    refine lv_astore_n (lv' := [(2, .ref (wa (dkO G) (9 + j2))), (0, .ref (wa (dkO G) 0)), (1, .int (nI j2))]) hx hb dX3_stored_5 rfl hl (by decide) rfl (fun ls hl => ?_)
    refine lv_aload_n hx hb dX3_stored_6 rfl (lv_at hl 0 rfl) ?_
    refine lv_ifnonnull (tgt := 14) hx hb dX3_stored_7 (by decide) ?_
    refine lv_aload_n hx hb dX3_stored_14 rfl (lv_at hl 0 rfl) ?_
    refine wd_get (O := (dkO G)) (v := .int (M (9 + j2) 7)) hx hb hts hi0 hown hK hP (dk_lt (by omega)) (dE_lock (by omega)) rfl 7 (by decide) (hts (.fieldLink RX3 138 "LeaseDesk$Lock" "value" "I") (by decide +kernel)) (fun _ h9 => h9) rfl dX3_stored_15 ?_
    exact wd_iret (O := (dkO G)) hx hb hr hlocks hK hP hS rfl dX3_stored_18 (by simp only [kcV, hd]) (rfl)
set_option maxRecDepth 100000 in
set_option maxHeartbeats 4000000 in
theorem c_X3_seen {l : Launch} {G : DG} (hj : wj (dkO G)) {M : Mem} (hok : dk_ok M) (sz : Nat) (x : Int32) : Met l yX3_seen wsX3_seen ({ frames := 1, cells := 0, slots := 0, locals := 21 }) (va_Pc [.ref (wa (dkO G) 0), .int x] (wp (dkO G) sz M)) (wQi (dkO G) sz (kcV M x (-1) 6) (M)) 0 0 (wA (dkO G) sz) := by
  rcases op_cases (dN x 4) with hd | ⟨j2, hd⟩
  · refine wd_ofW (O := (dkO G)) (M := M) (Qc := fun z => wQi (dkO G) z (kcV M x (-1) 6) (M)) (cc := cX3_seen) (maxL := 3) (ret := (some .int)) (lv := [(0, .ref (wa (dkO G) 0)), (1, .int x)]) (by decide) rfl (Nat.le_of_ble_eq_true rfl) rfl ?_
    intro p e s m below meth c ls hx hb hr hml hown hts hlocks hP hK hS hl
    have hi0 : ∀ w ∈ wsX00, w ∈ wsX3_seen := by decide +kernel
    refine lv_aload_n hx hb dX3_seen_0 rfl (lv_at hl 0 rfl) ?_
    refine lv_iload_n hx hb dX3_seen_1 rfl (lv_at hl 1 rfl) ?_
    refine wd_cqn (O := (dkO G)) hS (va_runV (As := [.int x]) (rest := []) ⟨hx, hb, hml, hown, hts⟩ (c_X3_knownLock_n (G := G) hj hok s.heap.size x hd) (cwV 1 hts gX3_seen_X3_knownLock rfl rfl rfl (by decide +kernel) ⟨Nat.le_of_ble_eq_true rfl, Nat.le_of_ble_eq_true rfl⟩) (wd_pre hK hP (dk_lt (by omega)) dE_0 rfl) rfl rfl hl.1 rfl (lv_room (Nat.le_of_ble_eq_true rfl)) dX3_seen_2 ⟨Nat.le_of_ble_eq_true rfl, Nat.le_of_ble_eq_true rfl⟩) (fun H locs hP hS => ?_)
    refine lv_astore_nN (lv' := [(2, .null), (0, .ref (wa (dkO G) 0)), (1, .int x)]) hx hb dX3_seen_5 rfl hl (by decide) rfl (fun ls hl => ?_)
    refine lv_aload_nN hx hb dX3_seen_6 rfl (lv_at hl 0 rfl) ?_
    refine lv_ifnonnullN hx hb dX3_seen_7 ?_
    refine lv_iconst (v := (-1)) hx hb dX3_seen_10 (by decide) ?_
    refine lv_goto (tgt := 18) hx hb dX3_seen_11 (by decide) ?_
    exact wd_iret (O := (dkO G)) hx hb hr hlocks hK hP hS rfl dX3_seen_18 (by simp only [kcV, hd]) (rfl)
  · obtain ⟨hj2, rfl⟩ := dN_some (by decide) hd
    refine wd_ofW (O := (dkO G)) (M := M) (Qc := fun z => wQi (dkO G) z (kcV M (nI j2) (-1) 6) (M)) (cc := cX3_seen) (maxL := 3) (ret := (some .int)) (lv := [(0, .ref (wa (dkO G) 0)), (1, .int (nI j2))]) (by decide) rfl (Nat.le_of_ble_eq_true rfl) rfl ?_
    intro p e s m below meth c ls hx hb hr hml hown hts hlocks hP hK hS hl
    have hi0 : ∀ w ∈ wsX00, w ∈ wsX3_seen := by decide +kernel
    refine lv_aload_n hx hb dX3_seen_0 rfl (lv_at hl 0 rfl) ?_
    refine lv_iload_n hx hb dX3_seen_1 rfl (lv_at hl 1 rfl) ?_
    refine wd_cqs (O := (dkO G)) hS (va_runV (As := [.int (nI j2)]) (rest := []) ⟨hx, hb, hml, hown, hts⟩ (c_X3_knownLock_s (G := G) hj hok (by omega) s.heap.size) (cwV 1 hts gX3_seen_X3_knownLock rfl rfl rfl (by decide +kernel) ⟨Nat.le_of_ble_eq_true rfl, Nat.le_of_ble_eq_true rfl⟩) (wd_pre hK hP (dk_lt (by omega)) dE_0 rfl) rfl rfl hl.1 rfl (lv_room (Nat.le_of_ble_eq_true rfl)) dX3_seen_2 ⟨Nat.le_of_ble_eq_true rfl, Nat.le_of_ble_eq_true rfl⟩) (fun H locs hP hS => ?_)
    refine lv_astore_n (lv' := [(2, .ref (wa (dkO G) (9 + j2))), (0, .ref (wa (dkO G) 0)), (1, .int (nI j2))]) hx hb dX3_seen_5 rfl hl (by decide) rfl (fun ls hl => ?_)
    refine lv_aload_n hx hb dX3_seen_6 rfl (lv_at hl 0 rfl) ?_
    refine lv_ifnonnull (tgt := 14) hx hb dX3_seen_7 (by decide) ?_
    refine lv_aload_n hx hb dX3_seen_14 rfl (lv_at hl 0 rfl) ?_
    refine wd_get (O := (dkO G)) (v := .int (M (9 + j2) 6)) hx hb hts hi0 hown hK hP (dk_lt (by omega)) (dE_lock (by omega)) rfl 6 (by decide) (hts (.fieldLink RX3 135 "LeaseDesk$Lock" "seenToken" "I") (by decide +kernel)) (fun _ h9 => h9) rfl dX3_seen_15 ?_
    exact wd_iret (O := (dkO G)) hx hb hr hlocks hK hP hS rfl dX3_seen_18 (by simp only [kcV, hd]) (rfl)
set_option maxRecDepth 100000 in
set_option maxHeartbeats 4000000 in
theorem c_X3_until {l : Launch} {G : DG} (hj : wj (dkO G)) {M : Mem} (hok : dk_ok M) (sz : Nat) (x : Int32) : Met l yX3_until wsX3_until ({ frames := 1, cells := 0, slots := 0, locals := 21 }) (va_Pc [.ref (wa (dkO G) 0), .int x] (wp (dkO G) sz M)) (wQi (dkO G) sz (untV M x) (M)) 0 0 (wA (dkO G) sz) := by
  rcases op_cases (dN x 4) with hd | ⟨j2, hd⟩
  · refine wd_ofW (O := (dkO G)) (M := M) (Qc := fun z => wQi (dkO G) z (untV M x) (M)) (cc := cX3_until) (maxL := 3) (ret := (some .int)) (lv := [(0, .ref (wa (dkO G) 0)), (1, .int x)]) (by decide) rfl (Nat.le_of_ble_eq_true rfl) rfl ?_
    intro p e s m below meth c ls hx hb hr hml hown hts hlocks hP hK hS hl
    have hi0 : ∀ w ∈ wsX00, w ∈ wsX3_until := by decide +kernel
    refine lv_aload_n hx hb dX3_until_0 rfl (lv_at hl 0 rfl) ?_
    refine lv_iload_n hx hb dX3_until_1 rfl (lv_at hl 1 rfl) ?_
    refine wd_cqn (O := (dkO G)) hS (va_runV (As := [.int x]) (rest := []) ⟨hx, hb, hml, hown, hts⟩ (c_X3_knownLock_n (G := G) hj hok s.heap.size x hd) (cwV 1 hts gX3_until_X3_knownLock rfl rfl rfl (by decide +kernel) ⟨Nat.le_of_ble_eq_true rfl, Nat.le_of_ble_eq_true rfl⟩) (wd_pre hK hP (dk_lt (by omega)) dE_0 rfl) rfl rfl hl.1 rfl (lv_room (Nat.le_of_ble_eq_true rfl)) dX3_until_2 ⟨Nat.le_of_ble_eq_true rfl, Nat.le_of_ble_eq_true rfl⟩) (fun H locs hP hS => ?_)
    refine lv_astore_nN (lv' := [(2, .null), (0, .ref (wa (dkO G) 0)), (1, .int x)]) hx hb dX3_until_5 rfl hl (by decide) rfl (fun ls hl => ?_)
    refine lv_aload_nN hx hb dX3_until_6 rfl (lv_at hl 0 rfl) ?_
    refine lv_ifnullN (tgt := 17) hx hb dX3_until_7 (by decide) ?_
    refine lv_iconst (v := (-1)) hx hb dX3_until_17 (by decide) ?_
    refine lv_goto (tgt := 25) hx hb dX3_until_18 (by decide) ?_
    exact wd_iret (O := (dkO G)) hx hb hr hlocks hK hP hS rfl dX3_until_25 (by simp only [untV, hd]) (rfl)
  · obtain ⟨hj2, rfl⟩ := dN_some (by decide) hd
    by_cases hf : M (9 + j2) 1 = -1
    · refine wd_ofW (O := (dkO G)) (M := M) (Qc := fun z => wQi (dkO G) z (untV M (nI j2)) (M)) (cc := cX3_until) (maxL := 3) (ret := (some .int)) (lv := [(0, .ref (wa (dkO G) 0)), (1, .int (nI j2))]) (by decide) rfl (Nat.le_of_ble_eq_true rfl) rfl ?_
      intro p e s m below meth c ls hx hb hr hml hown hts hlocks hP hK hS hl
      have hi0 : ∀ w ∈ wsX00, w ∈ wsX3_until := by decide +kernel
      refine lv_aload_n hx hb dX3_until_0 rfl (lv_at hl 0 rfl) ?_
      refine lv_iload_n hx hb dX3_until_1 rfl (lv_at hl 1 rfl) ?_
      refine wd_cqs (O := (dkO G)) hS (va_runV (As := [.int (nI j2)]) (rest := []) ⟨hx, hb, hml, hown, hts⟩ (c_X3_knownLock_s (G := G) hj hok (by omega) s.heap.size) (cwV 1 hts gX3_until_X3_knownLock rfl rfl rfl (by decide +kernel) ⟨Nat.le_of_ble_eq_true rfl, Nat.le_of_ble_eq_true rfl⟩) (wd_pre hK hP (dk_lt (by omega)) dE_0 rfl) rfl rfl hl.1 rfl (lv_room (Nat.le_of_ble_eq_true rfl)) dX3_until_2 ⟨Nat.le_of_ble_eq_true rfl, Nat.le_of_ble_eq_true rfl⟩) (fun H locs hP hS => ?_)
      refine lv_astore_n (lv' := [(2, .ref (wa (dkO G) (9 + j2))), (0, .ref (wa (dkO G) 0)), (1, .int (nI j2))]) hx hb dX3_until_5 rfl hl (by decide) rfl (fun ls hl => ?_)
      refine lv_aload_n hx hb dX3_until_6 rfl (lv_at hl 0 rfl) ?_
      refine lv_ifnull hx hb dX3_until_7 ?_
      refine lv_aload_n hx hb dX3_until_10 rfl (lv_at hl 0 rfl) ?_
      refine wd_ci (O := (dkO G)) hS (va_runV (As := []) (rest := []) ⟨hx, hb, hml, hown, hts⟩ (c_X0_isFree (G := G) hj hok (by omega) H.size) (cwV 0 hts gX3_until_X0_isFree rfl rfl rfl (by decide +kernel) ⟨Nat.le_of_ble_eq_true rfl, Nat.le_of_ble_eq_true rfl⟩) (wd_pre hK hP (dk_lt (by omega)) (dE_lock (by omega)) rfl) rfl rfl hl.1 rfl (lv_room (Nat.le_of_ble_eq_true rfl)) dX3_until_11 ⟨Nat.le_of_ble_eq_true rfl, Nat.le_of_ble_eq_true rfl⟩) (fun H locs hP hS => ?_)
      refine wd_re (y := 1) (by simp only [freV, if_pos hf]) ?_
      refine lv_if_eq (tgt := 21) hx hb dX3_until_14 (by decide) (fun c1 => absurd c1 (by decide)) (fun c1 => ?_)
      refine lv_iconst (v := (-1)) hx hb dX3_until_17 (by decide) ?_
      refine lv_goto (tgt := 25) hx hb dX3_until_18 (by decide) ?_
      exact wd_iret (O := (dkO G)) hx hb hr hlocks hK hP hS rfl dX3_until_25 (by simp only [untV, hd, if_pos hf]) (rfl)
    · refine wd_ofW (O := (dkO G)) (M := M) (Qc := fun z => wQi (dkO G) z (untV M (nI j2)) (M)) (cc := cX3_until) (maxL := 3) (ret := (some .int)) (lv := [(0, .ref (wa (dkO G) 0)), (1, .int (nI j2))]) (by decide) rfl (Nat.le_of_ble_eq_true rfl) rfl ?_
      intro p e s m below meth c ls hx hb hr hml hown hts hlocks hP hK hS hl
      have hi0 : ∀ w ∈ wsX00, w ∈ wsX3_until := by decide +kernel
      refine lv_aload_n hx hb dX3_until_0 rfl (lv_at hl 0 rfl) ?_
      refine lv_iload_n hx hb dX3_until_1 rfl (lv_at hl 1 rfl) ?_
      refine wd_cqs (O := (dkO G)) hS (va_runV (As := [.int (nI j2)]) (rest := []) ⟨hx, hb, hml, hown, hts⟩ (c_X3_knownLock_s (G := G) hj hok (by omega) s.heap.size) (cwV 1 hts gX3_until_X3_knownLock rfl rfl rfl (by decide +kernel) ⟨Nat.le_of_ble_eq_true rfl, Nat.le_of_ble_eq_true rfl⟩) (wd_pre hK hP (dk_lt (by omega)) dE_0 rfl) rfl rfl hl.1 rfl (lv_room (Nat.le_of_ble_eq_true rfl)) dX3_until_2 ⟨Nat.le_of_ble_eq_true rfl, Nat.le_of_ble_eq_true rfl⟩) (fun H locs hP hS => ?_)
      refine lv_astore_n (lv' := [(2, .ref (wa (dkO G) (9 + j2))), (0, .ref (wa (dkO G) 0)), (1, .int (nI j2))]) hx hb dX3_until_5 rfl hl (by decide) rfl (fun ls hl => ?_)
      refine lv_aload_n hx hb dX3_until_6 rfl (lv_at hl 0 rfl) ?_
      refine lv_ifnull hx hb dX3_until_7 ?_
      refine lv_aload_n hx hb dX3_until_10 rfl (lv_at hl 0 rfl) ?_
      refine wd_ci (O := (dkO G)) hS (va_runV (As := []) (rest := []) ⟨hx, hb, hml, hown, hts⟩ (c_X0_isFree (G := G) hj hok (by omega) H.size) (cwV 0 hts gX3_until_X0_isFree rfl rfl rfl (by decide +kernel) ⟨Nat.le_of_ble_eq_true rfl, Nat.le_of_ble_eq_true rfl⟩) (wd_pre hK hP (dk_lt (by omega)) (dE_lock (by omega)) rfl) rfl rfl hl.1 rfl (lv_room (Nat.le_of_ble_eq_true rfl)) dX3_until_11 ⟨Nat.le_of_ble_eq_true rfl, Nat.le_of_ble_eq_true rfl⟩) (fun H locs hP hS => ?_)
      refine wd_re (y := 0) (by simp only [freV, if_neg hf]) ?_
      refine lv_if_eq (tgt := 21) hx hb dX3_until_14 (by decide) (fun c2 => ?_) (fun c2 => absurd rfl c2)
      refine lv_aload_n hx hb dX3_until_21 rfl (lv_at hl 0 rfl) ?_
      refine wd_get (O := (dkO G)) (v := .int (M (9 + j2) 3)) hx hb hts hi0 hown hK hP (dk_lt (by omega)) (dE_lock (by omega)) rfl 3 (by decide) (hts (.fieldLink RX3 122 "LeaseDesk$Lock" "ends" "I") (by decide +kernel)) (fun _ h9 => h9) rfl dX3_until_22 ?_
      exact wd_iret (O := (dkO G)) hx hb hr hlocks hK hP hS rfl dX3_until_25 (by simp only [untV, hd, if_neg hf]) (rfl)
set_option maxRecDepth 100000 in
set_option maxHeartbeats 4000000 in
theorem c_X3_waiter {l : Launch} {G : DG} (hj : wj (dkO G)) {M : Mem} (hok : dk_ok M) (sz : Nat) (x k : Int32) : Met l yX3_waiter wsX3_waiter ({ frames := 2, cells := 0, slots := 0, locals := 42 }) (va_Pc [.ref (wa (dkO G) 0), .int x, .int k] (wp (dkO G) sz M)) (wQi (dkO G) sz (wtV M x k) (M)) 0 0 (wA (dkO G) sz) := by
  rcases op_cases (dN x 4) with hd | ⟨j2, hd⟩
  · refine wd_ofW (O := (dkO G)) (M := M) (Qc := fun z => wQi (dkO G) z (wtV M x k) (M)) (cc := cX3_waiter) (maxL := 4) (ret := (some .int)) (lv := [(0, .ref (wa (dkO G) 0)), (1, .int x), (2, .int k)]) (by decide) rfl (Nat.le_of_ble_eq_true rfl) rfl ?_
    intro p e s m below meth c ls hx hb hr hml hown hts hlocks hP hK hS hl
    have hi0 : ∀ w ∈ wsX00, w ∈ wsX3_waiter := by decide +kernel
    refine lv_aload_n hx hb dX3_waiter_0 rfl (lv_at hl 0 rfl) ?_
    refine lv_iload_n hx hb dX3_waiter_1 rfl (lv_at hl 1 rfl) ?_
    refine wd_cqn (O := (dkO G)) hS (va_runV (As := [.int x]) (rest := []) ⟨hx, hb, hml, hown, hts⟩ (c_X3_knownLock_n (G := G) hj hok s.heap.size x hd) (cwV 1 hts gX3_waiter_X3_knownLock rfl rfl rfl (by decide +kernel) ⟨Nat.le_of_ble_eq_true rfl, Nat.le_of_ble_eq_true rfl⟩) (wd_pre hK hP (dk_lt (by omega)) dE_0 rfl) rfl rfl hl.1 rfl (lv_room (Nat.le_of_ble_eq_true rfl)) dX3_waiter_2 ⟨Nat.le_of_ble_eq_true rfl, Nat.le_of_ble_eq_true rfl⟩) (fun H locs hP hS => ?_)
    refine lv_astore_nN (lv' := [(3, .null), (0, .ref (wa (dkO G) 0)), (1, .int x), (2, .int k)]) hx hb dX3_waiter_5 rfl hl (by decide) rfl (fun ls hl => ?_)
    refine lv_aload_nN hx hb dX3_waiter_6 rfl (lv_at hl 0 rfl) ?_
    refine lv_ifnonnullN hx hb dX3_waiter_7 ?_
    refine lv_iconst (v := (-1)) hx hb dX3_waiter_10 (by decide) ?_
    refine lv_goto (tgt := 22) hx hb dX3_waiter_11 (by decide) ?_
    exact wd_iret (O := (dkO G)) hx hb hr hlocks hK hP hS rfl dX3_waiter_22 (by simp only [wtV, hd]) (rfl)
  · obtain ⟨hj2, rfl⟩ := dN_some (by decide) hd
    refine wd_ofW (O := (dkO G)) (M := M) (Qc := fun z => wQi (dkO G) z (wtV M (nI j2) k) (M)) (cc := cX3_waiter) (maxL := 4) (ret := (some .int)) (lv := [(0, .ref (wa (dkO G) 0)), (1, .int (nI j2)), (2, .int k)]) (by decide) rfl (Nat.le_of_ble_eq_true rfl) rfl ?_
    intro p e s m below meth c ls hx hb hr hml hown hts hlocks hP hK hS hl
    have hi0 : ∀ w ∈ wsX00, w ∈ wsX3_waiter := by decide +kernel
    refine lv_aload_n hx hb dX3_waiter_0 rfl (lv_at hl 0 rfl) ?_
    refine lv_iload_n hx hb dX3_waiter_1 rfl (lv_at hl 1 rfl) ?_
    refine wd_cqs (O := (dkO G)) hS (va_runV (As := [.int (nI j2)]) (rest := []) ⟨hx, hb, hml, hown, hts⟩ (c_X3_knownLock_s (G := G) hj hok (by omega) s.heap.size) (cwV 1 hts gX3_waiter_X3_knownLock rfl rfl rfl (by decide +kernel) ⟨Nat.le_of_ble_eq_true rfl, Nat.le_of_ble_eq_true rfl⟩) (wd_pre hK hP (dk_lt (by omega)) dE_0 rfl) rfl rfl hl.1 rfl (lv_room (Nat.le_of_ble_eq_true rfl)) dX3_waiter_2 ⟨Nat.le_of_ble_eq_true rfl, Nat.le_of_ble_eq_true rfl⟩) (fun H locs hP hS => ?_)
    refine lv_astore_n (lv' := [(3, .ref (wa (dkO G) (9 + j2))), (0, .ref (wa (dkO G) 0)), (1, .int (nI j2)), (2, .int k)]) hx hb dX3_waiter_5 rfl hl (by decide) rfl (fun ls hl => ?_)
    refine lv_aload_n hx hb dX3_waiter_6 rfl (lv_at hl 0 rfl) ?_
    refine lv_ifnonnull (tgt := 14) hx hb dX3_waiter_7 (by decide) ?_
    refine lv_aload_n hx hb dX3_waiter_14 rfl (lv_at hl 0 rfl) ?_
    refine wd_get (O := (dkO G)) (v := .ref (wa (dkO G) (13 + j2))) hx hb hts hi0 hown hK hP (dk_lt (by omega)) (dE_lock (by omega)) rfl 0 (by decide) (hts (.fieldLink RX3 99 "LeaseDesk$Lock" "row" "LLeaseDesk$Row;") (by decide +kernel)) (fun _ h9 => h9) rfl dX3_waiter_15 ?_
    refine lv_iload_n hx hb dX3_waiter_18 rfl (lv_at hl 3 rfl) ?_
    refine wd_ci (O := (dkO G)) hS (va_runV (As := [.int k]) (rest := []) ⟨hx, hb, hml, hown, hts⟩ (c_X1_slotAt (G := G) hj hok (by omega) H.size k) (cwV 1 hts gX3_waiter_X1_slotAt rfl rfl rfl (by decide +kernel) ⟨Nat.le_of_ble_eq_true rfl, Nat.le_of_ble_eq_true rfl⟩) (wd_pre hK hP (dk_lt (by omega)) (dE_row (by omega)) rfl) rfl rfl hl.1 rfl (lv_room (Nat.le_of_ble_eq_true rfl)) dX3_waiter_19 ⟨Nat.le_of_ble_eq_true rfl, Nat.le_of_ble_eq_true rfl⟩) (fun H locs hP hS => ?_)
    exact wd_iret (O := (dkO G)) hx hb hr hlocks hK hP hS rfl dX3_waiter_22 (by simp only [wtV, hd]) (rfl)
set_option maxRecDepth 100000 in
set_option maxHeartbeats 4000000 in
theorem c_X3_time {l : Launch} {G : DG} (hj : wj (dkO G)) {M : Mem} (hok : dk_ok M) (sz : Nat) : Met l yX3_time wsX3_time ({ frames := 0, cells := 0, slots := 0, locals := 0 }) (va_Pc [.ref (wa (dkO G) 0)] (wp (dkO G) sz M)) (wQi (dkO G) sz (M 0 2) (M)) 0 0 (wA (dkO G) sz) := by
  refine wd_ofW (O := (dkO G)) (M := M) (Qc := fun z => wQi (dkO G) z (M 0 2) (M)) (cc := cX3_time) (maxL := 1) (ret := (some .int)) (lv := [(0, .ref (wa (dkO G) 0))]) (by decide) rfl (Nat.le_of_ble_eq_true rfl) rfl ?_
  intro p e s m below meth c ls hx hb hr hml hown hts hlocks hP hK hS hl
  have hi3 : ∀ w ∈ wsX30, w ∈ wsX3_time := by decide +kernel
  refine lv_aload_n hx hb dX3_time_0 rfl (lv_at hl 0 rfl) ?_
  refine wd_get (O := (dkO G)) (v := .int (M 0 2)) hx hb hts hi3 hown hK hP (dk_lt (by omega)) dE_0 rfl 2 (by decide) (hts (.fieldLink RX3 23 "LeaseDesk" "now" "I") (by decide +kernel)) (fun _ h9 => h9) rfl dX3_time_1 ?_
  exact wd_iret (O := (dkO G)) hx hb hr hlocks hK hP hS rfl dX3_time_4 (rfl) (rfl)
set_option maxRecDepth 100000 in
set_option maxHeartbeats 4000000 in
theorem c_X3_clock {l : Launch} {G : DG} (hj : wj (dkO G)) {M : Mem} (hok : dk_ok M) (sz : Nat) (x : Int32) : Met l yX3_clock wsX3_clock ({ frames := 1, cells := 0, slots := 0, locals := 21 }) (va_Pc [.ref (wa (dkO G) 0), .int x] (wp (dkO G) sz M)) (wQi (dkO G) sz (clkV M x) (M)) 0 0 (wA (dkO G) sz) := by
  rcases op_cases (osV M x) with ho | ⟨j1, ho⟩
  · refine wd_ofW (O := (dkO G)) (M := M) (Qc := fun z => wQi (dkO G) z (clkV M x) (M)) (cc := cX3_clock) (maxL := 3) (ret := (some .int)) (lv := [(0, .ref (wa (dkO G) 0)), (1, .int x)]) (by decide) rfl (Nat.le_of_ble_eq_true rfl) rfl ?_
    intro p e s m below meth c ls hx hb hr hml hown hts hlocks hP hK hS hl
    have hi2 : ∀ w ∈ wsX20, w ∈ wsX3_clock := by decide +kernel
    refine lv_aload_n hx hb dX3_clock_0 rfl (lv_at hl 0 rfl) ?_
    refine lv_iload_n hx hb dX3_clock_1 rfl (lv_at hl 1 rfl) ?_
    refine wd_cqn (O := (dkO G)) hS (va_runV (As := [.int x]) (rest := []) ⟨hx, hb, hml, hown, hts⟩ (c_X3_openSession_n (G := G) hj hok s.heap.size x ho) (cwV 1 hts gX3_clock_X3_openSession rfl rfl rfl (by decide +kernel) ⟨Nat.le_of_ble_eq_true rfl, Nat.le_of_ble_eq_true rfl⟩) (wd_pre hK hP (dk_lt (by omega)) dE_0 rfl) rfl rfl hl.1 rfl (lv_room (Nat.le_of_ble_eq_true rfl)) dX3_clock_2 ⟨Nat.le_of_ble_eq_true rfl, Nat.le_of_ble_eq_true rfl⟩) (fun H locs hP hS => ?_)
    refine lv_astore_nN (lv' := [(2, .null), (0, .ref (wa (dkO G) 0)), (1, .int x)]) hx hb dX3_clock_5 rfl hl (by decide) rfl (fun ls hl => ?_)
    refine lv_aload_nN hx hb dX3_clock_6 rfl (lv_at hl 0 rfl) ?_
    refine lv_ifnonnullN hx hb dX3_clock_7 ?_
    refine lv_iconst (v := (-1)) hx hb dX3_clock_10 (by decide) ?_
    refine lv_goto (tgt := 18) hx hb dX3_clock_11 (by decide) ?_
    exact wd_iret (O := (dkO G)) hx hb hr hlocks hK hP hS rfl dX3_clock_18 (by simp only [clkV, ho]) (rfl)
  · obtain ⟨hj1, rfl, hon⟩ := osV_some ho
    refine wd_ofW (O := (dkO G)) (M := M) (Qc := fun z => wQi (dkO G) z (clkV M (nI j1)) (M)) (cc := cX3_clock) (maxL := 3) (ret := (some .int)) (lv := [(0, .ref (wa (dkO G) 0)), (1, .int (nI j1))]) (by decide) rfl (Nat.le_of_ble_eq_true rfl) rfl ?_
    intro p e s m below meth c ls hx hb hr hml hown hts hlocks hP hK hS hl
    have hi2 : ∀ w ∈ wsX20, w ∈ wsX3_clock := by decide +kernel
    refine lv_aload_n hx hb dX3_clock_0 rfl (lv_at hl 0 rfl) ?_
    refine lv_iload_n hx hb dX3_clock_1 rfl (lv_at hl 1 rfl) ?_
    refine wd_cqs (O := (dkO G)) hS (va_runV (As := [.int (nI j1)]) (rest := []) ⟨hx, hb, hml, hown, hts⟩ (c_X3_openSession_s (G := G) hj hok (by omega) hon s.heap.size) (cwV 1 hts gX3_clock_X3_openSession rfl rfl rfl (by decide +kernel) ⟨Nat.le_of_ble_eq_true rfl, Nat.le_of_ble_eq_true rfl⟩) (wd_pre hK hP (dk_lt (by omega)) dE_0 rfl) rfl rfl hl.1 rfl (lv_room (Nat.le_of_ble_eq_true rfl)) dX3_clock_2 ⟨Nat.le_of_ble_eq_true rfl, Nat.le_of_ble_eq_true rfl⟩) (fun H locs hP hS => ?_)
    refine lv_astore_n (lv' := [(2, .ref (wa (dkO G) (3 + j1))), (0, .ref (wa (dkO G) 0)), (1, .int (nI j1))]) hx hb dX3_clock_5 rfl hl (by decide) rfl (fun ls hl => ?_)
    refine lv_aload_n hx hb dX3_clock_6 rfl (lv_at hl 0 rfl) ?_
    refine lv_ifnonnull (tgt := 14) hx hb dX3_clock_7 (by decide) ?_
    refine lv_aload_n hx hb dX3_clock_14 rfl (lv_at hl 0 rfl) ?_
    refine wd_get (O := (dkO G)) (v := .int (M (3 + j1) 3)) hx hb hts hi2 hown hK hP (dk_lt (by omega)) (dE_ses (by omega)) rfl 3 (by decide) (hts (.fieldLink RX3 81 "LeaseDesk$Session" "clock" "I") (by decide +kernel)) (fun _ h9 => h9) rfl dX3_clock_15 ?_
    exact wd_iret (O := (dkO G)) hx hb hr hlocks hK hP hS rfl dX3_clock_18 (by simp only [clkV, ho]) (rfl)
set_option maxRecDepth 100000 in
set_option maxHeartbeats 4000000 in
theorem c_X3_believes {l : Launch} {G : DG} (hj : wj (dkO G)) {M : Mem} (hok : dk_ok M) (sz : Nat) (x y : Int32) : Met l yX3_believes wsX3_believes ({ frames := 1, cells := 0, slots := 0, locals := 21 }) (va_Pc [.ref (wa (dkO G) 0), .int x, .int y] (wp (dkO G) sz M)) (wQi (dkO G) sz (blV M x y) (M)) 0 0 (wA (dkO G) sz) := by
  rcases op_cases (osV M x) with ho | ⟨j1, ho⟩
  · rcases op_cases (dN y 4) with hd | ⟨j2, hd⟩
    · refine wd_ofW (O := (dkO G)) (M := M) (Qc := fun z => wQi (dkO G) z (blV M x y) (M)) (cc := cX3_believes) (maxL := 5) (ret := (some .boolean)) (lv := [(0, .ref (wa (dkO G) 0)), (1, .int x), (2, .int y)]) (by decide) rfl (Nat.le_of_ble_eq_true rfl) rfl ?_
      intro p e s m below meth c ls hx hb hr hml hown hts hlocks hP hK hS hl
      have hi0 : ∀ w ∈ wsX00, w ∈ wsX3_believes := by decide +kernel
      have hi2 : ∀ w ∈ wsX20, w ∈ wsX3_believes := by decide +kernel
      refine lv_aload_n hx hb dX3_believes_0 rfl (lv_at hl 0 rfl) ?_
      refine lv_iload_n hx hb dX3_believes_1 rfl (lv_at hl 1 rfl) ?_
      refine wd_cqn (O := (dkO G)) hS (va_runV (As := [.int x]) (rest := []) ⟨hx, hb, hml, hown, hts⟩ (c_X3_openSession_n (G := G) hj hok s.heap.size x ho) (cwV 1 hts gX3_believes_X3_openSession rfl rfl rfl (by decide +kernel) ⟨Nat.le_of_ble_eq_true rfl, Nat.le_of_ble_eq_true rfl⟩) (wd_pre hK hP (dk_lt (by omega)) dE_0 rfl) rfl rfl hl.1 rfl (lv_room (Nat.le_of_ble_eq_true rfl)) dX3_believes_2 ⟨Nat.le_of_ble_eq_true rfl, Nat.le_of_ble_eq_true rfl⟩) (fun H locs hP hS => ?_)
      refine lv_astore_nN (lv' := [(3, .null), (0, .ref (wa (dkO G) 0)), (1, .int x), (2, .int y)]) hx hb dX3_believes_5 rfl hl (by decide) rfl (fun ls hl => ?_)
      refine lv_aload_n hx hb dX3_believes_6 rfl (lv_at hl 1 rfl) ?_
      refine lv_iload_n hx hb dX3_believes_7 rfl (lv_at hl 3 rfl) ?_
      refine wd_cqn (O := (dkO G)) hS (va_runV (As := [.int y]) (rest := []) ⟨hx, hb, hml, hown, hts⟩ (c_X3_knownLock_n (G := G) hj hok H.size y hd) (cwV 1 hts gX3_believes_X3_knownLock rfl rfl rfl (by decide +kernel) ⟨Nat.le_of_ble_eq_true rfl, Nat.le_of_ble_eq_true rfl⟩) (wd_pre hK hP (dk_lt (by omega)) dE_0 rfl) rfl rfl hl.1 rfl (lv_room (Nat.le_of_ble_eq_true rfl)) dX3_believes_8 ⟨Nat.le_of_ble_eq_true rfl, Nat.le_of_ble_eq_true rfl⟩) (fun H locs hP hS => ?_)
      refine lv_astoreN (lv' := [(4, .null), (3, .null), (0, .ref (wa (dkO G) 0)), (1, .int x), (2, .int y)]) hx hb dX3_believes_11 hl (by decide) rfl (fun ls hl => ?_)
      refine lv_aload_nN hx hb dX3_believes_13 rfl (lv_at hl 1 rfl) ?_
      refine lv_ifnullN (tgt := 31) hx hb dX3_believes_14 (by decide) ?_
      refine lv_iconst (v := 0) hx hb dX3_believes_31 (by decide) ?_
      exact wd_iret (O := (dkO G)) hx hb hr hlocks hK hP hS (by decide) dX3_believes_32 (by simp only [blV, ho, hd]) (rfl)
    · obtain ⟨hj2, rfl⟩ := dN_some (by decide) hd
      refine wd_ofW (O := (dkO G)) (M := M) (Qc := fun z => wQi (dkO G) z (blV M x (nI j2)) (M)) (cc := cX3_believes) (maxL := 5) (ret := (some .boolean)) (lv := [(0, .ref (wa (dkO G) 0)), (1, .int x), (2, .int (nI j2))]) (by decide) rfl (Nat.le_of_ble_eq_true rfl) rfl ?_
      intro p e s m below meth c ls hx hb hr hml hown hts hlocks hP hK hS hl
      have hi0 : ∀ w ∈ wsX00, w ∈ wsX3_believes := by decide +kernel
      have hi2 : ∀ w ∈ wsX20, w ∈ wsX3_believes := by decide +kernel
      refine lv_aload_n hx hb dX3_believes_0 rfl (lv_at hl 0 rfl) ?_
      refine lv_iload_n hx hb dX3_believes_1 rfl (lv_at hl 1 rfl) ?_
      refine wd_cqn (O := (dkO G)) hS (va_runV (As := [.int x]) (rest := []) ⟨hx, hb, hml, hown, hts⟩ (c_X3_openSession_n (G := G) hj hok s.heap.size x ho) (cwV 1 hts gX3_believes_X3_openSession rfl rfl rfl (by decide +kernel) ⟨Nat.le_of_ble_eq_true rfl, Nat.le_of_ble_eq_true rfl⟩) (wd_pre hK hP (dk_lt (by omega)) dE_0 rfl) rfl rfl hl.1 rfl (lv_room (Nat.le_of_ble_eq_true rfl)) dX3_believes_2 ⟨Nat.le_of_ble_eq_true rfl, Nat.le_of_ble_eq_true rfl⟩) (fun H locs hP hS => ?_)
      refine lv_astore_nN (lv' := [(3, .null), (0, .ref (wa (dkO G) 0)), (1, .int x), (2, .int (nI j2))]) hx hb dX3_believes_5 rfl hl (by decide) rfl (fun ls hl => ?_)
      refine lv_aload_n hx hb dX3_believes_6 rfl (lv_at hl 1 rfl) ?_
      refine lv_iload_n hx hb dX3_believes_7 rfl (lv_at hl 3 rfl) ?_
      refine wd_cqs (O := (dkO G)) hS (va_runV (As := [.int (nI j2)]) (rest := []) ⟨hx, hb, hml, hown, hts⟩ (c_X3_knownLock_s (G := G) hj hok (by omega) H.size) (cwV 1 hts gX3_believes_X3_knownLock rfl rfl rfl (by decide +kernel) ⟨Nat.le_of_ble_eq_true rfl, Nat.le_of_ble_eq_true rfl⟩) (wd_pre hK hP (dk_lt (by omega)) dE_0 rfl) rfl rfl hl.1 rfl (lv_room (Nat.le_of_ble_eq_true rfl)) dX3_believes_8 ⟨Nat.le_of_ble_eq_true rfl, Nat.le_of_ble_eq_true rfl⟩) (fun H locs hP hS => ?_)
      refine lv_astore (lv' := [(4, .ref (wa (dkO G) (9 + j2))), (3, .null), (0, .ref (wa (dkO G) 0)), (1, .int x), (2, .int (nI j2))]) hx hb dX3_believes_11 hl (by decide) rfl (fun ls hl => ?_)
      refine lv_aload_nN hx hb dX3_believes_13 rfl (lv_at hl 1 rfl) ?_
      refine lv_ifnullN (tgt := 31) hx hb dX3_believes_14 (by decide) ?_
      refine lv_iconst (v := 0) hx hb dX3_believes_31 (by decide) ?_
      exact wd_iret (O := (dkO G)) hx hb hr hlocks hK hP hS (by decide) dX3_believes_32 (by simp only [blV, ho, hd]) (rfl)
  · obtain ⟨hj1, rfl, hon⟩ := osV_some ho
    rcases op_cases (dN y 4) with hd | ⟨j2, hd⟩
    · refine wd_ofW (O := (dkO G)) (M := M) (Qc := fun z => wQi (dkO G) z (blV M (nI j1) y) (M)) (cc := cX3_believes) (maxL := 5) (ret := (some .boolean)) (lv := [(0, .ref (wa (dkO G) 0)), (1, .int (nI j1)), (2, .int y)]) (by decide) rfl (Nat.le_of_ble_eq_true rfl) rfl ?_
      intro p e s m below meth c ls hx hb hr hml hown hts hlocks hP hK hS hl
      have hi0 : ∀ w ∈ wsX00, w ∈ wsX3_believes := by decide +kernel
      have hi2 : ∀ w ∈ wsX20, w ∈ wsX3_believes := by decide +kernel
      refine lv_aload_n hx hb dX3_believes_0 rfl (lv_at hl 0 rfl) ?_
      refine lv_iload_n hx hb dX3_believes_1 rfl (lv_at hl 1 rfl) ?_
      refine wd_cqs (O := (dkO G)) hS (va_runV (As := [.int (nI j1)]) (rest := []) ⟨hx, hb, hml, hown, hts⟩ (c_X3_openSession_s (G := G) hj hok (by omega) hon s.heap.size) (cwV 1 hts gX3_believes_X3_openSession rfl rfl rfl (by decide +kernel) ⟨Nat.le_of_ble_eq_true rfl, Nat.le_of_ble_eq_true rfl⟩) (wd_pre hK hP (dk_lt (by omega)) dE_0 rfl) rfl rfl hl.1 rfl (lv_room (Nat.le_of_ble_eq_true rfl)) dX3_believes_2 ⟨Nat.le_of_ble_eq_true rfl, Nat.le_of_ble_eq_true rfl⟩) (fun H locs hP hS => ?_)
      refine lv_astore_n (lv' := [(3, .ref (wa (dkO G) (3 + j1))), (0, .ref (wa (dkO G) 0)), (1, .int (nI j1)), (2, .int y)]) hx hb dX3_believes_5 rfl hl (by decide) rfl (fun ls hl => ?_)
      refine lv_aload_n hx hb dX3_believes_6 rfl (lv_at hl 1 rfl) ?_
      refine lv_iload_n hx hb dX3_believes_7 rfl (lv_at hl 3 rfl) ?_
      refine wd_cqn (O := (dkO G)) hS (va_runV (As := [.int y]) (rest := []) ⟨hx, hb, hml, hown, hts⟩ (c_X3_knownLock_n (G := G) hj hok H.size y hd) (cwV 1 hts gX3_believes_X3_knownLock rfl rfl rfl (by decide +kernel) ⟨Nat.le_of_ble_eq_true rfl, Nat.le_of_ble_eq_true rfl⟩) (wd_pre hK hP (dk_lt (by omega)) dE_0 rfl) rfl rfl hl.1 rfl (lv_room (Nat.le_of_ble_eq_true rfl)) dX3_believes_8 ⟨Nat.le_of_ble_eq_true rfl, Nat.le_of_ble_eq_true rfl⟩) (fun H locs hP hS => ?_)
      refine lv_astoreN (lv' := [(4, .null), (3, .ref (wa (dkO G) (3 + j1))), (0, .ref (wa (dkO G) 0)), (1, .int (nI j1)), (2, .int y)]) hx hb dX3_believes_11 hl (by decide) rfl (fun ls hl => ?_)
      refine lv_aload_n hx hb dX3_believes_13 rfl (lv_at hl 1 rfl) ?_
      refine lv_ifnull hx hb dX3_believes_14 ?_
      refine lv_aloadN hx hb dX3_believes_17 (lv_at hl 0 rfl) ?_
      refine lv_ifnullN (tgt := 31) hx hb dX3_believes_19 (by decide) ?_
      refine lv_iconst (v := 0) hx hb dX3_believes_31 (by decide) ?_
      exact wd_iret (O := (dkO G)) hx hb hr hlocks hK hP hS (by decide) dX3_believes_32 (by simp only [blV, ho, hd]) (rfl)
    · obtain ⟨hj2, rfl⟩ := dN_some (by decide) hd
      refine wd_ofW (O := (dkO G)) (M := M) (Qc := fun z => wQi (dkO G) z (blV M (nI j1) (nI j2)) (M)) (cc := cX3_believes) (maxL := 5) (ret := (some .boolean)) (lv := [(0, .ref (wa (dkO G) 0)), (1, .int (nI j1)), (2, .int (nI j2))]) (by decide) rfl (Nat.le_of_ble_eq_true rfl) rfl ?_
      intro p e s m below meth c ls hx hb hr hml hown hts hlocks hP hK hS hl
      have hi0 : ∀ w ∈ wsX00, w ∈ wsX3_believes := by decide +kernel
      have hi2 : ∀ w ∈ wsX20, w ∈ wsX3_believes := by decide +kernel
      refine lv_aload_n hx hb dX3_believes_0 rfl (lv_at hl 0 rfl) ?_
      refine lv_iload_n hx hb dX3_believes_1 rfl (lv_at hl 1 rfl) ?_
      refine wd_cqs (O := (dkO G)) hS (va_runV (As := [.int (nI j1)]) (rest := []) ⟨hx, hb, hml, hown, hts⟩ (c_X3_openSession_s (G := G) hj hok (by omega) hon s.heap.size) (cwV 1 hts gX3_believes_X3_openSession rfl rfl rfl (by decide +kernel) ⟨Nat.le_of_ble_eq_true rfl, Nat.le_of_ble_eq_true rfl⟩) (wd_pre hK hP (dk_lt (by omega)) dE_0 rfl) rfl rfl hl.1 rfl (lv_room (Nat.le_of_ble_eq_true rfl)) dX3_believes_2 ⟨Nat.le_of_ble_eq_true rfl, Nat.le_of_ble_eq_true rfl⟩) (fun H locs hP hS => ?_)
      refine lv_astore_n (lv' := [(3, .ref (wa (dkO G) (3 + j1))), (0, .ref (wa (dkO G) 0)), (1, .int (nI j1)), (2, .int (nI j2))]) hx hb dX3_believes_5 rfl hl (by decide) rfl (fun ls hl => ?_)
      refine lv_aload_n hx hb dX3_believes_6 rfl (lv_at hl 1 rfl) ?_
      refine lv_iload_n hx hb dX3_believes_7 rfl (lv_at hl 3 rfl) ?_
      refine wd_cqs (O := (dkO G)) hS (va_runV (As := [.int (nI j2)]) (rest := []) ⟨hx, hb, hml, hown, hts⟩ (c_X3_knownLock_s (G := G) hj hok (by omega) H.size) (cwV 1 hts gX3_believes_X3_knownLock rfl rfl rfl (by decide +kernel) ⟨Nat.le_of_ble_eq_true rfl, Nat.le_of_ble_eq_true rfl⟩) (wd_pre hK hP (dk_lt (by omega)) dE_0 rfl) rfl rfl hl.1 rfl (lv_room (Nat.le_of_ble_eq_true rfl)) dX3_believes_8 ⟨Nat.le_of_ble_eq_true rfl, Nat.le_of_ble_eq_true rfl⟩) (fun H locs hP hS => ?_)
      refine lv_astore (lv' := [(4, .ref (wa (dkO G) (9 + j2))), (3, .ref (wa (dkO G) (3 + j1))), (0, .ref (wa (dkO G) 0)), (1, .int (nI j1)), (2, .int (nI j2))]) hx hb dX3_believes_11 hl (by decide) rfl (fun ls hl => ?_)
      refine lv_aload_n hx hb dX3_believes_13 rfl (lv_at hl 1 rfl) ?_
      refine lv_ifnull hx hb dX3_believes_14 ?_
      refine lv_aload hx hb dX3_believes_17 (lv_at hl 0 rfl) ?_
      refine lv_ifnull hx hb dX3_believes_19 ?_
      refine lv_aload hx hb dX3_believes_22 (lv_at hl 0 rfl) ?_
      refine wd_get (O := (dkO G)) (v := .int (M (9 + j2) 1)) hx hb hts hi0 hown hK hP (dk_lt (by omega)) (dE_lock (by omega)) rfl 1 (by decide) (hts (.fieldLink RX3 78 "LeaseDesk$Lock" "holder" "I") (by decide +kernel)) (fun _ h9 => h9) rfl dX3_believes_24 ?_
      refine lv_iload_n hx hb dX3_believes_27 rfl (lv_at hl 3 rfl) ?_
      refine lv_icmp_eq (tgt := 33) hx hb dX3_believes_28 (by decide) (fun c1 => ?_) (fun c1 => ?_)
      · refine lv_aload_n hx hb dX3_believes_33 rfl (lv_at hl 1 rfl) ?_
        refine wd_get (O := (dkO G)) (v := .int (M (3 + j1) 3)) hx hb hts hi2 hown hK hP (dk_lt (by omega)) (dE_ses (by omega)) rfl 3 (by decide) (hts (.fieldLink RX3 81 "LeaseDesk$Session" "clock" "I") (by decide +kernel)) (fun _ h9 => h9) rfl dX3_believes_34 ?_
        refine lv_aload hx hb dX3_believes_37 (lv_at hl 0 rfl) ?_
        refine wd_get (O := (dkO G)) (v := .int (M (9 + j2) 5)) hx hb hts hi0 hown hK hP (dk_lt (by omega)) (dE_lock (by omega)) rfl 5 (by decide) (hts (.fieldLink RX3 129 "LeaseDesk$Lock" "start" "I") (by decide +kernel)) (fun _ h9 => h9) rfl dX3_believes_39 ?_
        refine lv_isub hx hb dX3_believes_42 ?_
        refine lv_bipush (v := 9) hx hb dX3_believes_43 (by decide) ?_
        refine lv_aload hx hb dX3_believes_45 (lv_at hl 0 rfl) ?_
        refine wd_get (O := (dkO G)) (v := .int (M (9 + j2) 4)) hx hb hts hi0 hown hK hP (dk_lt (by omega)) (dE_lock (by omega)) rfl 4 (by decide) (hts (.fieldLink RX3 132 "LeaseDesk$Lock" "term" "I") (by decide +kernel)) (fun _ h9 => h9) rfl dX3_believes_47 ?_
        refine lv_imul hx hb dX3_believes_50 ?_
        refine lv_icmp_ge (tgt := 58) hx hb dX3_believes_51 (by decide) (fun c2 => ?_) (fun c2 => ?_)
        · refine lv_iconst (v := 0) hx hb dX3_believes_58 (by decide) ?_
          exact wd_iret (O := (dkO G)) hx hb hr hlocks hK hP hS (by decide) dX3_believes_59 (by simp only [blV, ho, hd, if_pos c1, if_pos c2]) (rfl)
        · refine lv_iconst (v := 1) hx hb dX3_believes_54 (by decide) ?_
          refine lv_goto (tgt := 59) hx hb dX3_believes_55 (by decide) ?_
          exact wd_iret (O := (dkO G)) hx hb hr hlocks hK hP hS (by decide) dX3_believes_59 (by simp only [blV, ho, hd, if_pos c1, if_neg c2]) (rfl)
      · refine lv_iconst (v := 0) hx hb dX3_believes_31 (by decide) ?_
        exact wd_iret (O := (dkO G)) hx hb hr hlocks hK hP hS (by decide) dX3_believes_32 (by simp only [blV, ho, hd, if_neg c1]) (rfl)
set_option maxRecDepth 100000 in
set_option maxHeartbeats 4000000 in
theorem c_X3_write {l : Launch} {G : DG} (hj : wj (dkO G)) {M : Mem} (hok : dk_ok M) (sz : Nat) (x t v : Int32) : Met l yX3_write wsX3_write ({ frames := 1, cells := 0, slots := 0, locals := 21 }) (va_Pc [.ref (wa (dkO G) 0), .int x, .int t, .int v] (wp (dkO G) sz M)) (wQi (dkO G) sz (wrV M x t) (wrM M x t v)) 0 0 (wA (dkO G) sz) := by
  rcases op_cases (dN x 4) with hd | ⟨j2, hd⟩
  · refine wd_ofW (O := (dkO G)) (M := M) (Qc := fun z => wQi (dkO G) z (wrV M x t) (wrM M x t v)) (cc := cX3_write) (maxL := 5) (ret := (some .boolean)) (lv := [(0, .ref (wa (dkO G) 0)), (1, .int x), (2, .int t), (3, .int v)]) (by decide) rfl (Nat.le_of_ble_eq_true rfl) rfl ?_
    intro p e s m below meth c ls hx hb hr hml hown hts hlocks hP hK hS hl
    have hi0 : ∀ w ∈ wsX00, w ∈ wsX3_write := by decide +kernel
    refine lv_aload_n hx hb dX3_write_0 rfl (lv_at hl 0 rfl) ?_
    refine lv_iload_n hx hb dX3_write_1 rfl (lv_at hl 1 rfl) ?_
    refine wd_cqn (O := (dkO G)) hS (va_runV (As := [.int x]) (rest := []) ⟨hx, hb, hml, hown, hts⟩ (c_X3_knownLock_n (G := G) hj hok s.heap.size x hd) (cwV 1 hts gX3_write_X3_knownLock rfl rfl rfl (by decide +kernel) ⟨Nat.le_of_ble_eq_true rfl, Nat.le_of_ble_eq_true rfl⟩) (wd_pre hK hP (dk_lt (by omega)) dE_0 rfl) rfl rfl hl.1 rfl (lv_room (Nat.le_of_ble_eq_true rfl)) dX3_write_2 ⟨Nat.le_of_ble_eq_true rfl, Nat.le_of_ble_eq_true rfl⟩) (fun H locs hP hS => ?_)
    refine lv_astoreN (lv' := [(4, .null), (0, .ref (wa (dkO G) 0)), (1, .int x), (2, .int t), (3, .int v)]) hx hb dX3_write_5 hl (by decide) rfl (fun ls hl => ?_)
    refine lv_aloadN hx hb dX3_write_7 (lv_at hl 0 rfl) ?_
    refine lv_ifnullN (tgt := 26) hx hb dX3_write_9 (by decide) ?_
    refine lv_iconst (v := 0) hx hb dX3_write_26 (by decide) ?_
    exact wd_iret (O := (dkO G)) hx hb hr hlocks hK hP hS (by decide) dX3_write_27 (by simp only [wrV, hd]) (by simp only [wrM, hd])
  · obtain ⟨hj2, rfl⟩ := dN_some (by decide) hd
    refine wd_ofW (O := (dkO G)) (M := M) (Qc := fun z => wQi (dkO G) z (wrV M (nI j2) t) (wrM M (nI j2) t v)) (cc := cX3_write) (maxL := 5) (ret := (some .boolean)) (lv := [(0, .ref (wa (dkO G) 0)), (1, .int (nI j2)), (2, .int t), (3, .int v)]) (by decide) rfl (Nat.le_of_ble_eq_true rfl) rfl ?_
    intro p e s m below meth c ls hx hb hr hml hown hts hlocks hP hK hS hl
    have hi0 : ∀ w ∈ wsX00, w ∈ wsX3_write := by decide +kernel
    refine lv_aload_n hx hb dX3_write_0 rfl (lv_at hl 0 rfl) ?_
    refine lv_iload_n hx hb dX3_write_1 rfl (lv_at hl 1 rfl) ?_
    refine wd_cqs (O := (dkO G)) hS (va_runV (As := [.int (nI j2)]) (rest := []) ⟨hx, hb, hml, hown, hts⟩ (c_X3_knownLock_s (G := G) hj hok (by omega) s.heap.size) (cwV 1 hts gX3_write_X3_knownLock rfl rfl rfl (by decide +kernel) ⟨Nat.le_of_ble_eq_true rfl, Nat.le_of_ble_eq_true rfl⟩) (wd_pre hK hP (dk_lt (by omega)) dE_0 rfl) rfl rfl hl.1 rfl (lv_room (Nat.le_of_ble_eq_true rfl)) dX3_write_2 ⟨Nat.le_of_ble_eq_true rfl, Nat.le_of_ble_eq_true rfl⟩) (fun H locs hP hS => ?_)
    refine lv_astore (lv' := [(4, .ref (wa (dkO G) (9 + j2))), (0, .ref (wa (dkO G) 0)), (1, .int (nI j2)), (2, .int t), (3, .int v)]) hx hb dX3_write_5 hl (by decide) rfl (fun ls hl => ?_)
    refine lv_aload hx hb dX3_write_7 (lv_at hl 0 rfl) ?_
    refine lv_ifnull hx hb dX3_write_9 ?_
    refine lv_iload_n hx hb dX3_write_12 rfl (lv_at hl 3 rfl) ?_
    refine lv_iconst (v := 1) hx hb dX3_write_13 (by decide) ?_
    refine lv_icmp_lt (tgt := 26) hx hb dX3_write_14 (by decide) (fun c1 => ?_) (fun c1 => ?_)
    · refine lv_iconst (v := 0) hx hb dX3_write_26 (by decide) ?_
      exact wd_iret (O := (dkO G)) hx hb hr hlocks hK hP hS (by decide) dX3_write_27 (by simp only [wrV, hd, if_pos c1]) (by simp only [wrM, hd, if_pos c1])
    · refine lv_iload_n hx hb dX3_write_17 rfl (lv_at hl 3 rfl) ?_
      refine lv_aload hx hb dX3_write_18 (lv_at hl 0 rfl) ?_
      refine wd_get (O := (dkO G)) (v := .int (M (9 + j2) 6)) hx hb hts hi0 hown hK hP (dk_lt (by omega)) (dE_lock (by omega)) rfl 6 (by decide) (hts (.fieldLink RX3 135 "LeaseDesk$Lock" "seenToken" "I") (by decide +kernel)) (fun _ h9 => h9) rfl dX3_write_20 ?_
      refine lv_icmp_ge (tgt := 28) hx hb dX3_write_23 (by decide) (fun c2 => ?_) (fun c2 => ?_)
      · refine lv_aload hx hb dX3_write_28 (lv_at hl 0 rfl) ?_
        refine lv_iload_n hx hb dX3_write_30 rfl (lv_at hl 3 rfl) ?_
        refine wd_put (O := (dkO G)) (ty := .int) hj hx hb hts hi0 tyX0 tyX0_ok nmX0 hown hK hP hS (dk_lt (by omega)) (dE_lock (by omega)) rfl 6 (by decide) (hts (.fieldLink RX3 135 "LeaseDesk$Lock" "seenToken" "I") (by decide +kernel)) (fun _ h9 => h9) rfl (by decide +kernel) rfl rfl (Nat.le_of_ble_eq_true rfl) ((dE_lock (by omega)).trans rfl) dX3_write_31 (fun H locs hP hS => ?_)
        have hok : dk_ok (up M (9 + j2) 6 t) := ok_up hok (by omega)
        refine lv_aload hx hb dX3_write_34 (lv_at hl 0 rfl) ?_
        refine lv_iload_n hx hb dX3_write_36 rfl (lv_at hl 4 rfl) ?_
        refine wd_put (O := (dkO G)) (ty := .int) hj hx hb hts hi0 tyX0 tyX0_ok nmX0 hown hK hP hS (dk_lt (by omega)) (dE_lock (by omega)) rfl 7 (by decide) (hts (.fieldLink RX3 138 "LeaseDesk$Lock" "value" "I") (by decide +kernel)) (fun _ h9 => h9) rfl (by decide +kernel) rfl rfl (Nat.le_of_ble_eq_true rfl) ((dE_lock (by omega)).trans rfl) dX3_write_37 (fun H locs hP hS => ?_)
        have hok : dk_ok (up (up M (9 + j2) 6 t) (9 + j2) 7 v) := ok_up hok (by omega)
        refine lv_iconst (v := 1) hx hb dX3_write_40 (by decide) ?_
        exact wd_iret (O := (dkO G)) hx hb hr hlocks hK hP hS (by decide) dX3_write_41 (by simp only [wrV, hd, if_neg c1, if_pos c2]) (by simp only [wrM, hd, if_neg c1, if_pos c2])
      · refine lv_iconst (v := 0) hx hb dX3_write_26 (by decide) ?_
        exact wd_iret (O := (dkO G)) hx hb hr hlocks hK hP hS (by decide) dX3_write_27 (by simp only [wrV, hd, if_neg c1, if_neg c2]) (by simp only [wrM, hd, if_neg c1, if_neg c2])
set_option maxRecDepth 100000 in
set_option maxHeartbeats 4000000 in
theorem c_X3_rate {l : Launch} {G : DG} (hj : wj (dkO G)) {M : Mem} (hok : dk_ok M) (sz : Nat) (x r : Int32) : Met l yX3_rate wsX3_rate ({ frames := 1, cells := 0, slots := 0, locals := 21 }) (va_Pc [.ref (wa (dkO G) 0), .int x, .int r] (wp (dkO G) sz M)) (wQi (dkO G) sz (rtV M x r) (rtM M x r)) 0 0 (wA (dkO G) sz) := by
  rcases op_cases (osV M x) with ho | ⟨j1, ho⟩
  · refine wd_ofW (O := (dkO G)) (M := M) (Qc := fun z => wQi (dkO G) z (rtV M x r) (rtM M x r)) (cc := cX3_rate) (maxL := 4) (ret := (some .boolean)) (lv := [(0, .ref (wa (dkO G) 0)), (1, .int x), (2, .int r)]) (by decide) rfl (Nat.le_of_ble_eq_true rfl) rfl ?_
    intro p e s m below meth c ls hx hb hr hml hown hts hlocks hP hK hS hl
    have hi2 : ∀ w ∈ wsX20, w ∈ wsX3_rate := by decide +kernel
    refine lv_aload_n hx hb dX3_rate_0 rfl (lv_at hl 0 rfl) ?_
    refine lv_iload_n hx hb dX3_rate_1 rfl (lv_at hl 1 rfl) ?_
    refine wd_cqn (O := (dkO G)) hS (va_runV (As := [.int x]) (rest := []) ⟨hx, hb, hml, hown, hts⟩ (c_X3_openSession_n (G := G) hj hok s.heap.size x ho) (cwV 1 hts gX3_rate_X3_openSession rfl rfl rfl (by decide +kernel) ⟨Nat.le_of_ble_eq_true rfl, Nat.le_of_ble_eq_true rfl⟩) (wd_pre hK hP (dk_lt (by omega)) dE_0 rfl) rfl rfl hl.1 rfl (lv_room (Nat.le_of_ble_eq_true rfl)) dX3_rate_2 ⟨Nat.le_of_ble_eq_true rfl, Nat.le_of_ble_eq_true rfl⟩) (fun H locs hP hS => ?_)
    refine lv_astore_nN (lv' := [(3, .null), (0, .ref (wa (dkO G) 0)), (1, .int x), (2, .int r)]) hx hb dX3_rate_5 rfl hl (by decide) rfl (fun ls hl => ?_)
    refine lv_aload_nN hx hb dX3_rate_6 rfl (lv_at hl 0 rfl) ?_
    refine lv_ifnullN (tgt := 22) hx hb dX3_rate_7 (by decide) ?_
    refine lv_iconst (v := 0) hx hb dX3_rate_22 (by decide) ?_
    exact wd_iret (O := (dkO G)) hx hb hr hlocks hK hP hS (by decide) dX3_rate_23 (by simp only [rtV, ho]) (by simp only [rtM, ho])
  · obtain ⟨hj1, rfl, hon⟩ := osV_some ho
    refine wd_ofW (O := (dkO G)) (M := M) (Qc := fun z => wQi (dkO G) z (rtV M (nI j1) r) (rtM M (nI j1) r)) (cc := cX3_rate) (maxL := 4) (ret := (some .boolean)) (lv := [(0, .ref (wa (dkO G) 0)), (1, .int (nI j1)), (2, .int r)]) (by decide) rfl (Nat.le_of_ble_eq_true rfl) rfl ?_
    intro p e s m below meth c ls hx hb hr hml hown hts hlocks hP hK hS hl
    have hi2 : ∀ w ∈ wsX20, w ∈ wsX3_rate := by decide +kernel
    refine lv_aload_n hx hb dX3_rate_0 rfl (lv_at hl 0 rfl) ?_
    refine lv_iload_n hx hb dX3_rate_1 rfl (lv_at hl 1 rfl) ?_
    refine wd_cqs (O := (dkO G)) hS (va_runV (As := [.int (nI j1)]) (rest := []) ⟨hx, hb, hml, hown, hts⟩ (c_X3_openSession_s (G := G) hj hok (by omega) hon s.heap.size) (cwV 1 hts gX3_rate_X3_openSession rfl rfl rfl (by decide +kernel) ⟨Nat.le_of_ble_eq_true rfl, Nat.le_of_ble_eq_true rfl⟩) (wd_pre hK hP (dk_lt (by omega)) dE_0 rfl) rfl rfl hl.1 rfl (lv_room (Nat.le_of_ble_eq_true rfl)) dX3_rate_2 ⟨Nat.le_of_ble_eq_true rfl, Nat.le_of_ble_eq_true rfl⟩) (fun H locs hP hS => ?_)
    refine lv_astore_n (lv' := [(3, .ref (wa (dkO G) (3 + j1))), (0, .ref (wa (dkO G) 0)), (1, .int (nI j1)), (2, .int r)]) hx hb dX3_rate_5 rfl hl (by decide) rfl (fun ls hl => ?_)
    refine lv_aload_n hx hb dX3_rate_6 rfl (lv_at hl 0 rfl) ?_
    refine lv_ifnull hx hb dX3_rate_7 ?_
    refine lv_iload_n hx hb dX3_rate_10 rfl (lv_at hl 3 rfl) ?_
    refine lv_bipush (v := 9) hx hb dX3_rate_11 (by decide) ?_
    refine lv_icmp_lt (tgt := 22) hx hb dX3_rate_13 (by decide) (fun c1 => ?_) (fun c1 => ?_)
    · refine lv_iconst (v := 0) hx hb dX3_rate_22 (by decide) ?_
      exact wd_iret (O := (dkO G)) hx hb hr hlocks hK hP hS (by decide) dX3_rate_23 (by simp only [rtV, ho, if_pos c1]) (by simp only [rtM, ho, if_pos c1])
    · refine lv_iload_n hx hb dX3_rate_16 rfl (lv_at hl 3 rfl) ?_
      refine lv_bipush (v := 11) hx hb dX3_rate_17 (by decide) ?_
      refine lv_icmp_le (tgt := 24) hx hb dX3_rate_19 (by decide) (fun c2 => ?_) (fun c2 => ?_)
      · refine lv_aload_n hx hb dX3_rate_24 rfl (lv_at hl 0 rfl) ?_
        refine lv_iload_n hx hb dX3_rate_25 rfl (lv_at hl 3 rfl) ?_
        refine wd_put (O := (dkO G)) (ty := .int) hj hx hb hts hi2 tyX2 tyX2_ok nmX2 hown hK hP hS (dk_lt (by omega)) (dE_ses (by omega)) rfl 2 (by decide) (hts (.fieldLink RX3 56 "LeaseDesk$Session" "rate" "I") (by decide +kernel)) (fun _ h9 => h9) rfl (by decide +kernel) rfl rfl (Nat.le_of_ble_eq_true rfl) ((dE_ses (by omega)).trans rfl) dX3_rate_26 (fun H locs hP hS => ?_)
        have hok : dk_ok (up M (3 + j1) 2 r) := ok_up hok (by omega)
        refine lv_iconst (v := 1) hx hb dX3_rate_29 (by decide) ?_
        exact wd_iret (O := (dkO G)) hx hb hr hlocks hK hP hS (by decide) dX3_rate_30 (by simp only [rtV, ho, if_neg c1, if_pos c2]) (by simp only [rtM, ho, if_neg c1, if_pos c2])
      · refine lv_iconst (v := 0) hx hb dX3_rate_22 (by decide) ?_
        exact wd_iret (O := (dkO G)) hx hb hr hlocks hK hP hS (by decide) dX3_rate_23 (by simp only [rtV, ho, if_neg c1, if_neg c2]) (by simp only [rtM, ho, if_neg c1, if_neg c2])
set_option maxRecDepth 100000 in
set_option maxHeartbeats 4000000 in
theorem c_X3_cancel {l : Launch} {G : DG} (hj : wj (dkO G)) {M : Mem} (hok : dk_ok M) (sz : Nat) (x y : Int32) : Met l yX3_cancel wsX3_cancel ({ frames := 2, cells := 0, slots := 0, locals := 45 }) (va_Pc [.ref (wa (dkO G) 0), .int x, .int y] (wp (dkO G) sz M)) (wQi (dkO G) sz (cnV M x y) (cnM M x y)) 0 0 (wA (dkO G) sz) := by
  rcases op_cases (dN y 4) with hd | ⟨j2, hd⟩
  · refine wd_ofW (O := (dkO G)) (M := M) (Qc := fun z => wQi (dkO G) z (cnV M x y) (cnM M x y)) (cc := cX3_cancel) (maxL := 4) (ret := (some .boolean)) (lv := [(0, .ref (wa (dkO G) 0)), (1, .int x), (2, .int y)]) (by decide) rfl (Nat.le_of_ble_eq_true rfl) rfl ?_
    intro p e s m below meth c ls hx hb hr hml hown hts hlocks hP hK hS hl
    have hi0 : ∀ w ∈ wsX00, w ∈ wsX3_cancel := by decide +kernel
    refine lv_aload_n hx hb dX3_cancel_0 rfl (lv_at hl 0 rfl) ?_
    refine lv_iload_n hx hb dX3_cancel_1 rfl (lv_at hl 2 rfl) ?_
    refine wd_cqn (O := (dkO G)) hS (va_runV (As := [.int y]) (rest := []) ⟨hx, hb, hml, hown, hts⟩ (c_X3_knownLock_n (G := G) hj hok s.heap.size y hd) (cwV 1 hts gX3_cancel_X3_knownLock rfl rfl rfl (by decide +kernel) ⟨Nat.le_of_ble_eq_true rfl, Nat.le_of_ble_eq_true rfl⟩) (wd_pre hK hP (dk_lt (by omega)) dE_0 rfl) rfl rfl hl.1 rfl (lv_room (Nat.le_of_ble_eq_true rfl)) dX3_cancel_2 ⟨Nat.le_of_ble_eq_true rfl, Nat.le_of_ble_eq_true rfl⟩) (fun H locs hP hS => ?_)
    refine lv_astore_nN (lv' := [(3, .null), (0, .ref (wa (dkO G) 0)), (1, .int x), (2, .int y)]) hx hb dX3_cancel_5 rfl hl (by decide) rfl (fun ls hl => ?_)
    refine lv_aload_nN hx hb dX3_cancel_6 rfl (lv_at hl 0 rfl) ?_
    refine lv_ifnullN (tgt := 25) hx hb dX3_cancel_7 (by decide) ?_
    refine lv_iconst (v := 0) hx hb dX3_cancel_25 (by decide) ?_
    exact wd_iret (O := (dkO G)) hx hb hr hlocks hK hP hS (by decide) dX3_cancel_26 (by simp only [cnV, hd]) (by simp only [cnM, hd])
  · obtain ⟨hj2, rfl⟩ := dN_some (by decide) hd
    refine wd_ofW (O := (dkO G)) (M := M) (Qc := fun z => wQi (dkO G) z (cnV M x (nI j2)) (cnM M x (nI j2))) (cc := cX3_cancel) (maxL := 4) (ret := (some .boolean)) (lv := [(0, .ref (wa (dkO G) 0)), (1, .int x), (2, .int (nI j2))]) (by decide) rfl (Nat.le_of_ble_eq_true rfl) rfl ?_
    intro p e s m below meth c ls hx hb hr hml hown hts hlocks hP hK hS hl
    have hi0 : ∀ w ∈ wsX00, w ∈ wsX3_cancel := by decide +kernel
    refine lv_aload_n hx hb dX3_cancel_0 rfl (lv_at hl 0 rfl) ?_
    refine lv_iload_n hx hb dX3_cancel_1 rfl (lv_at hl 2 rfl) ?_
    refine wd_cqs (O := (dkO G)) hS (va_runV (As := [.int (nI j2)]) (rest := []) ⟨hx, hb, hml, hown, hts⟩ (c_X3_knownLock_s (G := G) hj hok (by omega) s.heap.size) (cwV 1 hts gX3_cancel_X3_knownLock rfl rfl rfl (by decide +kernel) ⟨Nat.le_of_ble_eq_true rfl, Nat.le_of_ble_eq_true rfl⟩) (wd_pre hK hP (dk_lt (by omega)) dE_0 rfl) rfl rfl hl.1 rfl (lv_room (Nat.le_of_ble_eq_true rfl)) dX3_cancel_2 ⟨Nat.le_of_ble_eq_true rfl, Nat.le_of_ble_eq_true rfl⟩) (fun H locs hP hS => ?_)
    refine lv_astore_n (lv' := [(3, .ref (wa (dkO G) (9 + j2))), (0, .ref (wa (dkO G) 0)), (1, .int x), (2, .int (nI j2))]) hx hb dX3_cancel_5 rfl hl (by decide) rfl (fun ls hl => ?_)
    refine lv_aload_n hx hb dX3_cancel_6 rfl (lv_at hl 0 rfl) ?_
    refine lv_ifnull hx hb dX3_cancel_7 ?_
    refine lv_aload_n hx hb dX3_cancel_10 rfl (lv_at hl 0 rfl) ?_
    refine wd_get (O := (dkO G)) (v := .ref (wa (dkO G) (13 + j2))) hx hb hts hi0 hown hK hP (dk_lt (by omega)) (dE_lock (by omega)) rfl 0 (by decide) (hts (.fieldLink RX3 99 "LeaseDesk$Lock" "row" "LLeaseDesk$Row;") (by decide +kernel)) (fun _ h9 => h9) rfl dX3_cancel_11 ?_
    refine lv_iload_n hx hb dX3_cancel_14 rfl (lv_at hl 2 rfl) ?_
    refine wd_ci (O := (dkO G)) hS (va_runV (As := [.int x]) (rest := []) ⟨hx, hb, hml, hown, hts⟩ (c_X1_drop (G := G) hj hok (by omega) H.size x) (cwV 1 hts gX3_cancel_X1_drop rfl rfl rfl (by decide +kernel) ⟨Nat.le_of_ble_eq_true rfl, Nat.le_of_ble_eq_true rfl⟩) (wd_pre hK hP (dk_lt (by omega)) (dE_row (by omega)) rfl) rfl rfl hl.1 rfl (lv_room (Nat.le_of_ble_eq_true rfl)) dX3_cancel_15 ⟨Nat.le_of_ble_eq_true rfl, Nat.le_of_ble_eq_true rfl⟩) (fun H locs hP hS => ?_)
    have hok : dk_ok (drp M j2 x) := ok_drp hok (by omega)
    refine lv_if_eq (tgt := 25) hx hb dX3_cancel_18 (by decide) (fun c1 => ?_) (fun c1 => ?_)
    · refine lv_iconst (v := 0) hx hb dX3_cancel_25 (by decide) ?_
      exact wd_iret (O := (dkO G)) hx hb hr hlocks hK hP hS (by decide) dX3_cancel_26 (by simp only [cnV, hd, if_pos c1]) (by simp only [cnM, hd])
    · refine lv_iconst (v := 1) hx hb dX3_cancel_21 (by decide) ?_
      refine lv_goto (tgt := 26) hx hb dX3_cancel_22 (by decide) ?_
      exact wd_iret (O := (dkO G)) hx hb hr hlocks hK hP hS (by decide) dX3_cancel_26 (by simp only [cnV, hd, if_neg c1]) (by simp only [cnM, hd])
set_option maxRecDepth 100000 in
set_option maxHeartbeats 4000000 in
theorem c_X3_moveClocks {l : Launch} {G : DG} (hj : wj (dkO G)) {M : Mem} (hok : dk_ok M) (sz : Nat) (d : Int32) : Met l yX3_moveClocks wsX3_moveClocks ({ frames := 0, cells := 0, slots := 0, locals := 0 }) (va_Pc [.ref (wa (dkO G) 0), .int d] (wp (dkO G) sz M)) (wQv (dkO G) sz (mvM d 6 0 M)) 0 0 (wA (dkO G) sz) := by
  refine wd_ofW (O := (dkO G)) (M := M) (Qc := fun z => wQv (dkO G) z (mvM d 6 0 M)) (cc := cX3_moveClocks) (maxL := 6) (ret := none) (lv := [(0, .ref (wa (dkO G) 0)), (1, .int d)]) (by decide) rfl (Nat.le_of_ble_eq_true rfl) rfl ?_
  intro p e s m below meth c ls hx hb hr hml hown hts hlocks hP hK hS hl
  have hi2 : ∀ w ∈ wsX20, w ∈ wsX3_moveClocks := by decide +kernel
  have hi3 : ∀ w ∈ wsX30, w ∈ wsX3_moveClocks := by decide +kernel
  refine lv_aload_n hx hb dX3_moveClocks_0 rfl (lv_at hl 0 rfl) ?_
  refine wd_get (O := (dkO G)) (v := .ref (wa (dkO G) 1)) hx hb hts hi3 hown hK hP (dk_lt (by omega)) dE_0 rfl 0 (by decide) (hts (.fieldLink RX3 11 "LeaseDesk" "sessions" "[LLeaseDesk$Session;") (by decide +kernel)) (fun _ h9 => h9) rfl dX3_moveClocks_1 ?_
  refine lv_astore_n (lv' := [(2, .ref (wa (dkO G) 1)), (0, .ref (wa (dkO G) 0)), (1, .int d)]) hx hb dX3_moveClocks_4 rfl hl (by decide) rfl (fun ls hl => ?_)
  refine lv_aload_n hx hb dX3_moveClocks_5 rfl (lv_at hl 0 rfl) ?_
  refine wd_alen (O := (dkO G)) (v := 6) hx hb hK hP (dk_lt (by omega)) 1 dE_1 rfl rfl dX3_moveClocks_6 ?_
  refine lv_istore_n (lv' := [(3, .int 6), (2, .ref (wa (dkO G) 1)), (0, .ref (wa (dkO G) 0)), (1, .int d)]) hx hb dX3_moveClocks_7 rfl hl (by decide) rfl (fun ls hl => ?_)
  refine lv_iconst (v := 0) hx hb dX3_moveClocks_8 (by decide) ?_
  refine lv_istore (lv' := [(4, .int 0), (3, .int 6), (2, .ref (wa (dkO G) 1)), (0, .ref (wa (dkO G) 0)), (1, .int d)]) hx hb dX3_moveClocks_9 hl (by decide) rfl (fun ls hl => ?_)
  refine wl_loop (pc := 11) (fun k j N v ls H locs => (j + k = 6) ∧ (dk_ok N) ∧ (mvM d k j N = mvM d 6 0 M) ∧ va_P (wD (dkO G)) vwCl (wd (dkO G) N) H ∧ va_S (wA (dkO G) s.heap.size) s.heap H locs ∧ lv_has ls 6 [(4, .int (nI j)), (0, .ref (wa (dkO G) 0)), (1, .int d), (2, .ref (wa (dkO G) 1)), (3, .int 6)]) ?_ ?_ 6 0 M 0 ⟨by omega, hok, rfl, hP, hS, lv_sub hl [0, 3, 4, 2, 1] rfl⟩
  · rintro j N v ls H locs ⟨h1, h2, h3, hP, hS, hl⟩
    refine lv_iload hx hb dX3_moveClocks_11 (lv_at hl 0 rfl) ?_
    refine lv_iload_n hx hb dX3_moveClocks_13 rfl (lv_at hl 4 rfl) ?_
    refine lv_icmp_ge (tgt := 54) hx hb dX3_moveClocks_14 (by decide) (fun c1 => ?_) (fun c1 => absurd (show nI 6 ≤ nI j from nI_le (by omega) (by omega)) c1)
    exact wd_vret (O := (dkO G)) hx hb hr hlocks hK hP hS dX3_moveClocks_54 (h3)
  · rintro k j N v ls H locs ih ⟨h1, h2, h3, hP, hS, hl⟩
    have hok := h2
    refine lv_iload hx hb dX3_moveClocks_11 (lv_at hl 0 rfl) ?_
    refine lv_iload_n hx hb dX3_moveClocks_13 rfl (lv_at hl 4 rfl) ?_
    refine lv_icmp_ge (tgt := 54) hx hb dX3_moveClocks_14 (by decide) (fun c2 => absurd c2 (show ¬ nI 6 ≤ nI j from nI_ge (by omega) (by omega))) (fun c2 => ?_)
    refine lv_aload_n hx hb dX3_moveClocks_17 rfl (lv_at hl 3 rfl) ?_
    refine lv_iload hx hb dX3_moveClocks_18 (lv_at hl 0 rfl) ?_
    refine wd_aald (O := (dkO G)) (b := wa (dkO G) (3 + j)) hx hb hK hP (dk_lt (by omega)) 1 dE_1 rfl (i := j) rfl (by omega) (by decide) (if_pos (by omega)) dX3_moveClocks_20 ?_
    refine lv_astore (lv' := [(5, .ref (wa (dkO G) (3 + j))), (4, .int (nI j)), (0, .ref (wa (dkO G) 0)), (1, .int d), (2, .ref (wa (dkO G) 1)), (3, .int 6)]) hx hb dX3_moveClocks_21 hl (by decide) rfl (fun ls hl => ?_)
    refine lv_aload hx hb dX3_moveClocks_23 (lv_at hl 0 rfl) ?_
    refine wd_get (O := (dkO G)) (v := .int (N (3 + j) 0)) hx hb hts hi2 hown hK hP (dk_lt (by omega)) (dE_ses (by omega)) rfl 0 (by decide) (hts (.fieldLink RX3 27 "LeaseDesk$Session" "isOpen" "Z") (by decide +kernel)) (fun _ h9 => h9) rfl dX3_moveClocks_25 ?_
    refine lv_if_eq (tgt := 48) hx hb dX3_moveClocks_28 (by decide) (fun c3 => ?_) (fun c3 => ?_)
    · refine lv_iinc (v := nI (j + 1)) (lv' := [(4, .int (nI (j + 1))), (5, .ref (wa (dkO G) (3 + j))), (0, .ref (wa (dkO G) 0)), (1, .int d), (2, .ref (wa (dkO G) 1)), (3, .int 6)]) hx hb dX3_moveClocks_48 hl (k := 1) rfl (nI_1 j) (by decide) rfl (fun ls hl => ?_)
      refine lv_goto (tgt := 11) hx hb dX3_moveClocks_51 (by decide) ?_
      exact ih (j + 1) N v ls H locs ⟨by omega, hok, by rw [← h3]; simp only [mvM, if_pos c3], hP, hS, lv_sub hl [0, 2, 3, 4, 5] rfl⟩
    · refine lv_aload hx hb dX3_moveClocks_31 (lv_at hl 0 rfl) ?_
      refine lv_dup hx hb dX3_moveClocks_33 rfl ?_
      refine wd_get (O := (dkO G)) (v := .int (N (3 + j) 3)) hx hb hts hi2 hown hK hP (dk_lt (by omega)) (dE_ses (by omega)) rfl 3 (by decide) (hts (.fieldLink RX3 81 "LeaseDesk$Session" "clock" "I") (by decide +kernel)) (fun _ h9 => h9) rfl dX3_moveClocks_34 ?_
      refine lv_aload hx hb dX3_moveClocks_37 (lv_at hl 0 rfl) ?_
      refine wd_get (O := (dkO G)) (v := .int (N (3 + j) 2)) hx hb hts hi2 hown hK hP (dk_lt (by omega)) (dE_ses (by omega)) rfl 2 (by decide) (hts (.fieldLink RX3 56 "LeaseDesk$Session" "rate" "I") (by decide +kernel)) (fun _ h9 => h9) rfl dX3_moveClocks_39 ?_
      refine lv_iload_n hx hb dX3_moveClocks_42 rfl (lv_at hl 3 rfl) ?_
      refine lv_imul hx hb dX3_moveClocks_43 ?_
      refine lv_iadd hx hb dX3_moveClocks_44 ?_
      refine wd_put (O := (dkO G)) (ty := .int) hj hx hb hts hi2 tyX2 tyX2_ok nmX2 hown hK hP hS (dk_lt (by omega)) (dE_ses (by omega)) rfl 3 (by decide) (hts (.fieldLink RX3 81 "LeaseDesk$Session" "clock" "I") (by decide +kernel)) (fun _ h9 => h9) rfl (by decide +kernel) rfl rfl (Nat.le_of_ble_eq_true rfl) ((dE_ses (by omega)).trans rfl) dX3_moveClocks_45 (fun H locs hP hS => ?_)
      have hok : dk_ok (up N (3 + j) 3 ((N (3 + j) 3) + ((N (3 + j) 2) * d))) := ok_up hok (by omega)
      refine lv_iinc (v := nI (j + 1)) (lv' := [(4, .int (nI (j + 1))), (5, .ref (wa (dkO G) (3 + j))), (0, .ref (wa (dkO G) 0)), (1, .int d), (2, .ref (wa (dkO G) 1)), (3, .int 6)]) hx hb dX3_moveClocks_48 hl (k := 1) rfl (nI_1 j) (by decide) rfl (fun ls hl => ?_)
      refine lv_goto (tgt := 11) hx hb dX3_moveClocks_51 (by decide) ?_
      exact ih (j + 1) (up N (3 + j) 3 ((N (3 + j) 3) + ((N (3 + j) 2) * d))) v ls H locs ⟨by omega, hok, by rw [← h3]; simp only [mvM, if_neg c3], hP, hS, lv_sub hl [0, 2, 3, 4, 5] rfl⟩
set_option maxRecDepth 100000 in
set_option maxHeartbeats 4000000 in
theorem c_X3_passOn {l : Launch} {G : DG} (hj : wj (dkO G)) {M : Mem} (hok : dk_ok M) {i : Nat} (hi : i < 4) (sz : Nat) : Met l yX3_passOn wsX3_passOn ({ frames := 2, cells := 0, slots := 0, locals := 47 }) (va_Pc [.ref (wa (dkO G) 0), .ref (wa (dkO G) (9 + i))] (wp (dkO G) sz M)) (wQv (dkO G) sz (psM M i)) 0 0 (wA (dkO G) sz) := by
  refine wd_ofW (O := (dkO G)) (M := M) (Qc := fun z => wQv (dkO G) z (psM M i)) (cc := cX3_passOn) (maxL := 4) (ret := none) (lv := [(0, .ref (wa (dkO G) 0)), (1, .ref (wa (dkO G) (9 + i)))]) (by decide) rfl (Nat.le_of_ble_eq_true rfl) rfl ?_
  intro p e s m below meth c ls hx hb hr hml hown hts hlocks hP hK hS hl
  have hi0 : ∀ w ∈ wsX00, w ∈ wsX3_passOn := by decide +kernel
  have hi3 : ∀ w ∈ wsX30, w ∈ wsX3_passOn := by decide +kernel
  refine lv_aload_n hx hb dX3_passOn_0 rfl (lv_at hl 1 rfl) ?_
  refine lv_iconst (v := (-1)) hx hb dX3_passOn_1 (by decide) ?_
  refine wd_put (O := (dkO G)) (ty := .int) hj hx hb hts hi0 tyX0 tyX0_ok nmX0 hown hK hP hS (dk_lt (by omega)) (dE_lock (by omega)) rfl 1 (by decide) (hts (.fieldLink RX3 78 "LeaseDesk$Lock" "holder" "I") (by decide +kernel)) (fun _ h9 => h9) rfl (by decide +kernel) rfl rfl (Nat.le_of_ble_eq_true rfl) ((dE_lock (by omega)).trans rfl) dX3_passOn_2 (fun H locs hP hS => ?_)
  have hok : dk_ok (up M (9 + i) 1 ((-1))) := ok_up hok (by omega)
  refine lv_aload_n hx hb dX3_passOn_5 rfl (lv_at hl 1 rfl) ?_
  refine wd_get (O := (dkO G)) (v := .ref (wa (dkO G) (13 + i))) hx hb hts hi0 hown hK hP (dk_lt (by omega)) (dE_lock (by omega)) rfl 0 (by decide) (hts (.fieldLink RX3 99 "LeaseDesk$Lock" "row" "LLeaseDesk$Row;") (by decide +kernel)) (fun _ h9 => h9) rfl dX3_passOn_6 ?_
  refine lv_iconst (v := 0) hx hb dX3_passOn_9 (by decide) ?_
  refine wd_ci (O := (dkO G)) hS (va_runV (As := [.int 0]) (rest := []) ⟨hx, hb, hml, hown, hts⟩ (c_X1_slotAt (G := G) hj hok (by omega) H.size 0) (cwV 1 hts gX3_passOn_X1_slotAt rfl rfl rfl (by decide +kernel) ⟨Nat.le_of_ble_eq_true rfl, Nat.le_of_ble_eq_true rfl⟩) (wd_pre hK hP (dk_lt (by omega)) (dE_row (by omega)) rfl) rfl rfl hl.1 rfl (lv_room (Nat.le_of_ble_eq_true rfl)) dX3_passOn_10 ⟨Nat.le_of_ble_eq_true rfl, Nat.le_of_ble_eq_true rfl⟩) (fun H locs hP hS => ?_)
  refine lv_istore_n (lv' := [(2, .int (slA (up M (9 + i) 1 ((-1))) i 0)), (0, .ref (wa (dkO G) 0)), (1, .ref (wa (dkO G) (9 + i)))]) hx hb dX3_passOn_13 rfl hl (by decide) rfl (fun ls hl => ?_)
  refine lv_iload_n hx hb dX3_passOn_14 rfl (lv_at hl 0 rfl) ?_
  refine lv_iconst (v := (-1)) hx hb dX3_passOn_15 (by decide) ?_
  refine lv_icmp_eq (tgt := 52) hx hb dX3_passOn_16 (by decide) (fun c1 => ?_) (fun c1 => ?_)
  · exact wd_vret (O := (dkO G)) hx hb hr hlocks hK hP hS dX3_passOn_52 (by simp only [psM, if_pos c1])
  · refine lv_aload_n hx hb dX3_passOn_19 rfl (lv_at hl 2 rfl) ?_
    refine wd_get (O := (dkO G)) (v := .ref (wa (dkO G) (13 + i))) hx hb hts hi0 hown hK hP (dk_lt (by omega)) (dE_lock (by omega)) rfl 0 (by decide) (hts (.fieldLink RX3 99 "LeaseDesk$Lock" "row" "LLeaseDesk$Row;") (by decide +kernel)) (fun _ h9 => h9) rfl dX3_passOn_20 ?_
    refine lv_iconst (v := 0) hx hb dX3_passOn_23 (by decide) ?_
    refine wd_ci (O := (dkO G)) hS (va_runV (As := [.int 0]) (rest := []) ⟨hx, hb, hml, hown, hts⟩ (c_X1_termAt (G := G) hj hok (by omega) H.size 0) (cwV 1 hts gX3_passOn_X1_termAt rfl rfl rfl (by decide +kernel) ⟨Nat.le_of_ble_eq_true rfl, Nat.le_of_ble_eq_true rfl⟩) (wd_pre hK hP (dk_lt (by omega)) (dE_row (by omega)) rfl) rfl rfl hl.1 rfl (lv_room (Nat.le_of_ble_eq_true rfl)) dX3_passOn_24 ⟨Nat.le_of_ble_eq_true rfl, Nat.le_of_ble_eq_true rfl⟩) (fun H locs hP hS => ?_)
    refine lv_istore_n (lv' := [(3, .int (tmA (up M (9 + i) 1 ((-1))) i 0)), (2, .int (slA (up M (9 + i) 1 ((-1))) i 0)), (0, .ref (wa (dkO G) 0)), (1, .ref (wa (dkO G) (9 + i)))]) hx hb dX3_passOn_27 rfl hl (by decide) rfl (fun ls hl => ?_)
    refine lv_aload_n hx hb dX3_passOn_28 rfl (lv_at hl 3 rfl) ?_
    refine wd_get (O := (dkO G)) (v := .ref (wa (dkO G) (13 + i))) hx hb hts hi0 hown hK hP (dk_lt (by omega)) (dE_lock (by omega)) rfl 0 (by decide) (hts (.fieldLink RX3 99 "LeaseDesk$Lock" "row" "LLeaseDesk$Row;") (by decide +kernel)) (fun _ h9 => h9) rfl dX3_passOn_29 ?_
    refine lv_iload_n hx hb dX3_passOn_32 rfl (lv_at hl 1 rfl) ?_
    refine wd_ci (O := (dkO G)) hS (va_runV (As := [.int (slA (up M (9 + i) 1 ((-1))) i 0)]) (rest := []) ⟨hx, hb, hml, hown, hts⟩ (c_X1_drop (G := G) hj hok (by omega) H.size (slA (up M (9 + i) 1 ((-1))) i 0)) (cwV 1 hts gX3_passOn_X1_drop rfl rfl rfl (by decide +kernel) ⟨Nat.le_of_ble_eq_true rfl, Nat.le_of_ble_eq_true rfl⟩) (wd_pre hK hP (dk_lt (by omega)) (dE_row (by omega)) rfl) rfl rfl hl.1 rfl (lv_room (Nat.le_of_ble_eq_true rfl)) dX3_passOn_33 ⟨Nat.le_of_ble_eq_true rfl, Nat.le_of_ble_eq_true rfl⟩) (fun H locs hP hS => ?_)
    have hok : dk_ok (drp (up M (9 + i) 1 ((-1))) i (slA (up M (9 + i) 1 ((-1))) i 0)) := ok_drp hok (by omega)
    refine lv_pop hx hb dX3_passOn_36 rfl ?_
    refine lv_aload_n hx hb dX3_passOn_37 rfl (lv_at hl 3 rfl) ?_
    refine lv_iload_n hx hb dX3_passOn_38 rfl (lv_at hl 1 rfl) ?_
    refine lv_iload_n hx hb dX3_passOn_39 rfl (lv_at hl 0 rfl) ?_
    refine lv_aload_n hx hb dX3_passOn_40 rfl (lv_at hl 2 rfl) ?_
    refine wd_get (O := (dkO G)) (v := .int ((drp (up M (9 + i) 1 ((-1))) i (slA (up M (9 + i) 1 ((-1))) i 0)) 0 2)) hx hb hts hi3 hown hK hP (dk_lt (by omega)) dE_0 rfl 2 (by decide) (hts (.fieldLink RX3 23 "LeaseDesk" "now" "I") (by decide +kernel)) (fun _ h9 => h9) rfl dX3_passOn_41 ?_
    refine lv_aload_n hx hb dX3_passOn_44 rfl (lv_at hl 2 rfl) ?_
    refine lv_iload_n hx hb dX3_passOn_45 rfl (lv_at hl 1 rfl) ?_
    refine wd_ci (O := (dkO G)) hS (va_runV (As := [.int (slA (up M (9 + i) 1 ((-1))) i 0)]) (rest := [.int ((drp (up M (9 + i) 1 ((-1))) i (slA (up M (9 + i) 1 ((-1))) i 0)) 0 2), .int (tmA (up M (9 + i) 1 ((-1))) i 0), .int (slA (up M (9 + i) 1 ((-1))) i 0), .ref (wa (dkO G) (9 + i))]) ⟨hx, hb, hml, hown, hts⟩ (c_X3_clock (G := G) hj hok H.size (slA (up M (9 + i) 1 ((-1))) i 0)) (cwV 1 hts gX3_passOn_X3_clock rfl rfl rfl (by decide +kernel) ⟨Nat.le_of_ble_eq_true rfl, Nat.le_of_ble_eq_true rfl⟩) (wd_pre hK hP (dk_lt (by omega)) dE_0 rfl) rfl rfl hl.1 rfl (lv_room (Nat.le_of_ble_eq_true rfl)) dX3_passOn_46 ⟨Nat.le_of_ble_eq_true rfl, Nat.le_of_ble_eq_true rfl⟩) (fun H locs hP hS => ?_)
    refine wd_cv (O := (dkO G)) hS (va_runV (As := [.int (slA (up M (9 + i) 1 ((-1))) i 0), .int (tmA (up M (9 + i) 1 ((-1))) i 0), .int ((drp (up M (9 + i) 1 ((-1))) i (slA (up M (9 + i) 1 ((-1))) i 0)) 0 2), .int (clkV (drp (up M (9 + i) 1 ((-1))) i (slA (up M (9 + i) 1 ((-1))) i 0)) (slA (up M (9 + i) 1 ((-1))) i 0))]) (rest := []) ⟨hx, hb, hml, hown, hts⟩ (c_X0_lend (G := G) hj hok (by omega) H.size (slA (up M (9 + i) 1 ((-1))) i 0) (tmA (up M (9 + i) 1 ((-1))) i 0) ((drp (up M (9 + i) 1 ((-1))) i (slA (up M (9 + i) 1 ((-1))) i 0)) 0 2) (clkV (drp (up M (9 + i) 1 ((-1))) i (slA (up M (9 + i) 1 ((-1))) i 0)) (slA (up M (9 + i) 1 ((-1))) i 0))) (cwV 4 hts gX3_passOn_X0_lend rfl rfl rfl (by decide +kernel) ⟨Nat.le_of_ble_eq_true rfl, Nat.le_of_ble_eq_true rfl⟩) (wd_pre hK hP (dk_lt (by omega)) (dE_lock (by omega)) rfl) rfl rfl hl.1 rfl (lv_room (Nat.le_of_ble_eq_true rfl)) dX3_passOn_49 ⟨Nat.le_of_ble_eq_true rfl, Nat.le_of_ble_eq_true rfl⟩) (fun H locs hP hS => ?_)
    have hok : dk_ok (lnM (drp (up M (9 + i) 1 ((-1))) i (slA (up M (9 + i) 1 ((-1))) i 0)) i (slA (up M (9 + i) 1 ((-1))) i 0) (tmA (up M (9 + i) 1 ((-1))) i 0) ((drp (up M (9 + i) 1 ((-1))) i (slA (up M (9 + i) 1 ((-1))) i 0)) 0 2) (clkV (drp (up M (9 + i) 1 ((-1))) i (slA (up M (9 + i) 1 ((-1))) i 0)) (slA (up M (9 + i) 1 ((-1))) i 0))) := ok_ln hok (by omega)
    exact wd_vret (O := (dkO G)) hx hb hr hlocks hK hP hS dX3_passOn_52 (by simp only [psM, if_neg c1])
set_option maxRecDepth 100000 in
set_option maxHeartbeats 4000000 in
theorem c_X3_endSession {l : Launch} {G : DG} (hj : wj (dkO G)) {M : Mem} (hok : dk_ok M) {i : Nat} (hi : i < 6) (sz : Nat) (x : Int32) : Met l yX3_endSession wsX3_endSession ({ frames := 3, cells := 0, slots := 0, locals := 70 }) (va_Pc [.ref (wa (dkO G) 0), .ref (wa (dkO G) (3 + i)), .int x] (wp (dkO G) sz M)) (wQi (dkO G) sz (endV M x) (endM M i x)) 0 0 (wA (dkO G) sz) := by
  refine wd_ofW (O := (dkO G)) (M := M) (Qc := fun z => wQi (dkO G) z (endV M x) (endM M i x)) (cc := cX3_endSession) (maxL := 8) (ret := (some .int)) (lv := [(0, .ref (wa (dkO G) 0)), (1, .ref (wa (dkO G) (3 + i))), (2, .int x)]) (by decide) rfl (Nat.le_of_ble_eq_true rfl) rfl ?_
  intro p e s m below meth c ls hx hb hr hml hown hts hlocks hP hK hS hl
  have hi0 : ∀ w ∈ wsX00, w ∈ wsX3_endSession := by decide +kernel
  have hi2 : ∀ w ∈ wsX20, w ∈ wsX3_endSession := by decide +kernel
  have hi3 : ∀ w ∈ wsX30, w ∈ wsX3_endSession := by decide +kernel
  refine lv_aload_n hx hb dX3_endSession_0 rfl (lv_at hl 0 rfl) ?_
  refine wd_get (O := (dkO G)) (v := .ref (wa (dkO G) 2)) hx hb hts hi3 hown hK hP (dk_lt (by omega)) dE_0 rfl 1 (by decide) (hts (.fieldLink RX3 18 "LeaseDesk" "locks" "[LLeaseDesk$Lock;") (by decide +kernel)) (fun _ h9 => h9) rfl dX3_endSession_1 ?_
  refine lv_astore_n (lv' := [(3, .ref (wa (dkO G) 2)), (0, .ref (wa (dkO G) 0)), (1, .ref (wa (dkO G) (3 + i))), (2, .int x)]) hx hb dX3_endSession_4 rfl hl (by decide) rfl (fun ls hl => ?_)
  refine lv_aload_n hx hb dX3_endSession_5 rfl (lv_at hl 0 rfl) ?_
  refine wd_alen (O := (dkO G)) (v := 4) hx hb hK hP (dk_lt (by omega)) 2 dE_2 rfl rfl dX3_endSession_6 ?_
  refine lv_istore (lv' := [(4, .int 4), (3, .ref (wa (dkO G) 2)), (0, .ref (wa (dkO G) 0)), (1, .ref (wa (dkO G) (3 + i))), (2, .int x)]) hx hb dX3_endSession_7 hl (by decide) rfl (fun ls hl => ?_)
  refine lv_iconst (v := 0) hx hb dX3_endSession_9 (by decide) ?_
  refine lv_istore (lv' := [(5, .int 0), (4, .int 4), (3, .ref (wa (dkO G) 2)), (0, .ref (wa (dkO G) 0)), (1, .ref (wa (dkO G) (3 + i))), (2, .int x)]) hx hb dX3_endSession_10 hl (by decide) rfl (fun ls hl => ?_)
  refine wl_loop (pc := 12) (fun k j N v ls H locs => (j + k = 4) ∧ (dk_ok N) ∧ (dpA x k j N = dpA x 4 0 M) ∧ va_P (wD (dkO G)) vwCl (wd (dkO G) N) H ∧ va_S (wA (dkO G) s.heap.size) s.heap H locs ∧ lv_has ls 8 [(5, .int (nI j)), (0, .ref (wa (dkO G) 0)), (1, .ref (wa (dkO G) (3 + i))), (2, .int x), (3, .ref (wa (dkO G) 2)), (4, .int 4)]) ?_ ?_ 4 0 M 0 ⟨by omega, hok, rfl, hP, hS, lv_sub hl [0, 3, 4, 5, 2, 1] rfl⟩
  · rintro j N v ls H locs ⟨h1, h2, h3, hP, hS, hl⟩
    have hok := h2
    refine lv_iload hx hb dX3_endSession_12 (lv_at hl 0 rfl) ?_
    refine lv_iload hx hb dX3_endSession_14 (lv_at hl 5 rfl) ?_
    refine lv_icmp_ge (tgt := 41) hx hb dX3_endSession_16 (by decide) (fun c1 => ?_) (fun c1 => absurd (show nI 4 ≤ nI j from nI_le (by omega) (by omega)) c1)
    refine lv_iconst (v := 0) hx hb dX3_endSession_41 (by decide) ?_
    refine lv_istore_n (lv' := [(3, .int 0), (5, .int (nI j)), (0, .ref (wa (dkO G) 0)), (1, .ref (wa (dkO G) (3 + i))), (2, .int x), (4, .int 4)]) hx hb dX3_endSession_42 rfl hl (by decide) rfl (fun ls hl => ?_)
    refine lv_aload_n hx hb dX3_endSession_43 rfl (lv_at hl 2 rfl) ?_
    refine wd_get (O := (dkO G)) (v := .ref (wa (dkO G) 2)) hx hb hts hi3 hown hK hP (dk_lt (by omega)) dE_0 rfl 1 (by decide) (hts (.fieldLink RX3 18 "LeaseDesk" "locks" "[LLeaseDesk$Lock;") (by decide +kernel)) (fun _ h9 => h9) rfl dX3_endSession_44 ?_
    refine lv_astore (lv' := [(4, .ref (wa (dkO G) 2)), (3, .int 0), (5, .int (nI j)), (0, .ref (wa (dkO G) 0)), (1, .ref (wa (dkO G) (3 + i))), (2, .int x)]) hx hb dX3_endSession_47 hl (by decide) rfl (fun ls hl => ?_)
    refine lv_aload hx hb dX3_endSession_49 (lv_at hl 0 rfl) ?_
    refine wd_alen (O := (dkO G)) (v := 4) hx hb hK hP (dk_lt (by omega)) 2 dE_2 rfl rfl dX3_endSession_51 ?_
    refine lv_istore (lv' := [(5, .int 4), (4, .ref (wa (dkO G) 2)), (3, .int 0), (0, .ref (wa (dkO G) 0)), (1, .ref (wa (dkO G) (3 + i))), (2, .int x)]) hx hb dX3_endSession_52 hl (by decide) rfl (fun ls hl => ?_)
    refine lv_iconst (v := 0) hx hb dX3_endSession_54 (by decide) ?_
    refine lv_istore (lv' := [(6, .int 0), (5, .int 4), (4, .ref (wa (dkO G) 2)), (3, .int 0), (0, .ref (wa (dkO G) 0)), (1, .ref (wa (dkO G) (3 + i))), (2, .int x)]) hx hb dX3_endSession_55 hl (by decide) rfl (fun ls hl => ?_)
    refine wl_loop (pc := 57) (fun k j N v ls H locs => (j + k = 4) ∧ (dk_ok N) ∧ (esM x k j N = esM x 4 0 (dpA x 4 0 M)) ∧ (esV x k j N v = endV M x) ∧ va_P (wD (dkO G)) vwCl (wd (dkO G) N) H ∧ va_S (wA (dkO G) s.heap.size) s.heap H locs ∧ lv_has ls 8 [(6, .int (nI j)), (3, .int v), (0, .ref (wa (dkO G) 0)), (1, .ref (wa (dkO G) (3 + i))), (2, .int x), (4, .ref (wa (dkO G) 2)), (5, .int 4)]) ?_ ?_ 4 0 N 0 ⟨by omega, hok, by rw [← h3]; rfl, by unfold endV; rw [← h3]; rfl, hP, hS, lv_sub hl [0, 3, 4, 5, 6, 2, 1] rfl⟩
    · rintro j N v ls H locs ⟨h1, h2, h3, h4, hP, hS, hl⟩
      have hok := h2
      refine lv_iload hx hb dX3_endSession_57 (lv_at hl 0 rfl) ?_
      refine lv_iload hx hb dX3_endSession_59 (lv_at hl 6 rfl) ?_
      refine lv_icmp_ge (tgt := 95) hx hb dX3_endSession_61 (by decide) (fun c2 => ?_) (fun c2 => absurd (show nI 4 ≤ nI j from nI_le (by omega) (by omega)) c2)
      refine lv_aload_n hx hb dX3_endSession_95 rfl (lv_at hl 3 rfl) ?_
      refine lv_iconst (v := 0) hx hb dX3_endSession_96 (by decide) ?_
      refine wd_put (O := (dkO G)) (ty := .boolean) hj hx hb hts hi2 tyX2 tyX2_ok nmX2 hown hK hP hS (dk_lt (by omega)) (dE_ses (by omega)) rfl 0 (by decide) (hts (.fieldLink RX3 27 "LeaseDesk$Session" "isOpen" "Z") (by decide +kernel)) (fun _ h9 => h9) rfl (by decide +kernel) (by decide) (by decide) (Nat.le_of_ble_eq_true rfl) ((dE_ses (by omega)).trans rfl) dX3_endSession_97 (fun H locs hP hS => ?_)
      have hok : dk_ok (up N (3 + i) 0 0) := ok_up hok (by omega)
      refine lv_iload_n hx hb dX3_endSession_100 rfl (lv_at hl 1 rfl) ?_
      exact wd_iret (O := (dkO G)) hx hb hr hlocks hK hP hS rfl dX3_endSession_101 (h4) (by unfold endM; rw [← h3]; rfl)
    · rintro k j N v ls H locs ih ⟨h1, h2, h3, h4, hP, hS, hl⟩
      have hok := h2
      refine lv_iload hx hb dX3_endSession_57 (lv_at hl 0 rfl) ?_
      refine lv_iload hx hb dX3_endSession_59 (lv_at hl 6 rfl) ?_
      refine lv_icmp_ge (tgt := 95) hx hb dX3_endSession_61 (by decide) (fun c3 => absurd c3 (show ¬ nI 4 ≤ nI j from nI_ge (by omega) (by omega))) (fun c3 => ?_)
      refine lv_aload hx hb dX3_endSession_64 (lv_at hl 5 rfl) ?_
      refine lv_iload hx hb dX3_endSession_66 (lv_at hl 0 rfl) ?_
      refine wd_aald (O := (dkO G)) (b := wa (dkO G) (9 + j)) hx hb hK hP (dk_lt (by omega)) 2 dE_2 rfl (i := j) rfl (by omega) (by decide) (if_pos (by omega)) dX3_endSession_68 ?_
      refine lv_astore (lv' := [(7, .ref (wa (dkO G) (9 + j))), (6, .int (nI j)), (3, .int v), (0, .ref (wa (dkO G) 0)), (1, .ref (wa (dkO G) (3 + i))), (2, .int x), (4, .ref (wa (dkO G) 2)), (5, .int 4)]) hx hb dX3_endSession_69 hl (by decide) rfl (fun ls hl => ?_)
      refine lv_aload hx hb dX3_endSession_71 (lv_at hl 0 rfl) ?_
      refine wd_get (O := (dkO G)) (v := .int (N (9 + j) 1)) hx hb hts hi0 hown hK hP (dk_lt (by omega)) (dE_lock (by omega)) rfl 1 (by decide) (hts (.fieldLink RX3 78 "LeaseDesk$Lock" "holder" "I") (by decide +kernel)) (fun _ h9 => h9) rfl dX3_endSession_73 ?_
      refine lv_iload_n hx hb dX3_endSession_76 rfl (lv_at hl 5 rfl) ?_
      refine lv_icmp_ne (tgt := 89) hx hb dX3_endSession_77 (by decide) (fun c4 => ?_) (fun c4 => ?_)
      · refine lv_iinc (v := nI (j + 1)) (lv' := [(6, .int (nI (j + 1))), (7, .ref (wa (dkO G) (9 + j))), (3, .int v), (0, .ref (wa (dkO G) 0)), (1, .ref (wa (dkO G) (3 + i))), (2, .int x), (4, .ref (wa (dkO G) 2)), (5, .int 4)]) hx hb dX3_endSession_89 hl (k := 1) rfl (nI_1 j) (by decide) rfl (fun ls hl => ?_)
        refine lv_goto (tgt := 57) hx hb dX3_endSession_92 (by decide) ?_
        exact ih (j + 1) N v ls H locs ⟨by omega, hok, by rw [← h3]; simp only [esM, if_neg c4], by rw [← h4]; simp only [esV, if_neg c4], hP, hS, lv_sub hl [0, 2, 3, 4, 5, 6, 7] rfl⟩
      · refine lv_aload_n hx hb dX3_endSession_80 rfl (lv_at hl 3 rfl) ?_
        refine lv_aload hx hb dX3_endSession_81 (lv_at hl 0 rfl) ?_
        refine wd_cv (O := (dkO G)) hS (va_runV (As := [.ref (wa (dkO G) (9 + j))]) (rest := []) ⟨hx, hb, hml, hown, hts⟩ (c_X3_passOn (G := G) hj hok (by omega) H.size) (cwV 1 hts gX3_endSession_X3_passOn rfl rfl rfl (by decide +kernel) ⟨Nat.le_of_ble_eq_true rfl, Nat.le_of_ble_eq_true rfl⟩) (wd_pre hK hP (dk_lt (by omega)) dE_0 rfl) rfl rfl hl.1 rfl (lv_room (Nat.le_of_ble_eq_true rfl)) dX3_endSession_83 ⟨Nat.le_of_ble_eq_true rfl, Nat.le_of_ble_eq_true rfl⟩) (fun H locs hP hS => ?_)
        have hok : dk_ok (psM N j) := ok_ps hok (by omega)
        refine lv_iinc (v := v + 1) (lv' := [(3, .int (v + 1)), (7, .ref (wa (dkO G) (9 + j))), (6, .int (nI j)), (0, .ref (wa (dkO G) 0)), (1, .ref (wa (dkO G) (3 + i))), (2, .int x), (4, .ref (wa (dkO G) 2)), (5, .int 4)]) hx hb dX3_endSession_86 hl (k := 2) rfl rfl (by decide) rfl (fun ls hl => ?_)
        refine lv_iinc (v := nI (j + 1)) (lv' := [(6, .int (nI (j + 1))), (3, .int (v + 1)), (7, .ref (wa (dkO G) (9 + j))), (0, .ref (wa (dkO G) 0)), (1, .ref (wa (dkO G) (3 + i))), (2, .int x), (4, .ref (wa (dkO G) 2)), (5, .int 4)]) hx hb dX3_endSession_89 hl (k := 2) rfl (nI_1 j) (by decide) rfl (fun ls hl => ?_)
        refine lv_goto (tgt := 57) hx hb dX3_endSession_92 (by decide) ?_
        exact ih (j + 1) (psM N j) (v + 1) ls H locs ⟨by omega, hok, by rw [← h3]; simp only [esM, if_pos c4], by rw [← h4]; simp only [esV, if_pos c4], hP, hS, lv_sub hl [0, 1, 3, 4, 5, 6, 7] rfl⟩
  · rintro k j N v ls H locs ih ⟨h1, h2, h3, hP, hS, hl⟩
    have hok := h2
    refine lv_iload hx hb dX3_endSession_12 (lv_at hl 0 rfl) ?_
    refine lv_iload hx hb dX3_endSession_14 (lv_at hl 5 rfl) ?_
    refine lv_icmp_ge (tgt := 41) hx hb dX3_endSession_16 (by decide) (fun c5 => absurd c5 (show ¬ nI 4 ≤ nI j from nI_ge (by omega) (by omega))) (fun c5 => ?_)
    refine lv_aload_n hx hb dX3_endSession_19 rfl (lv_at hl 4 rfl) ?_
    refine lv_iload hx hb dX3_endSession_20 (lv_at hl 0 rfl) ?_
    refine wd_aald (O := (dkO G)) (b := wa (dkO G) (9 + j)) hx hb hK hP (dk_lt (by omega)) 2 dE_2 rfl (i := j) rfl (by omega) (by decide) (if_pos (by omega)) dX3_endSession_22 ?_
    refine lv_astore (lv' := [(6, .ref (wa (dkO G) (9 + j))), (5, .int (nI j)), (0, .ref (wa (dkO G) 0)), (1, .ref (wa (dkO G) (3 + i))), (2, .int x), (3, .ref (wa (dkO G) 2)), (4, .int 4)]) hx hb dX3_endSession_23 hl (by decide) rfl (fun ls hl => ?_)
    refine lv_aload hx hb dX3_endSession_25 (lv_at hl 0 rfl) ?_
    refine wd_get (O := (dkO G)) (v := .ref (wa (dkO G) (13 + j))) hx hb hts hi0 hown hK hP (dk_lt (by omega)) (dE_lock (by omega)) rfl 0 (by decide) (hts (.fieldLink RX3 99 "LeaseDesk$Lock" "row" "LLeaseDesk$Row;") (by decide +kernel)) (fun _ h9 => h9) rfl dX3_endSession_27 ?_
    refine lv_iload_n hx hb dX3_endSession_30 rfl (lv_at hl 4 rfl) ?_
    refine wd_ci (O := (dkO G)) hS (va_runV (As := [.int x]) (rest := []) ⟨hx, hb, hml, hown, hts⟩ (c_X1_drop (G := G) hj hok (by omega) H.size x) (cwV 1 hts gX3_endSession_X1_drop rfl rfl rfl (by decide +kernel) ⟨Nat.le_of_ble_eq_true rfl, Nat.le_of_ble_eq_true rfl⟩) (wd_pre hK hP (dk_lt (by omega)) (dE_row (by omega)) rfl) rfl rfl hl.1 rfl (lv_room (Nat.le_of_ble_eq_true rfl)) dX3_endSession_31 ⟨Nat.le_of_ble_eq_true rfl, Nat.le_of_ble_eq_true rfl⟩) (fun H locs hP hS => ?_)
    have hok : dk_ok (drp N j x) := ok_drp hok (by omega)
    refine lv_pop hx hb dX3_endSession_34 rfl ?_
    refine lv_iinc (v := nI (j + 1)) (lv' := [(5, .int (nI (j + 1))), (6, .ref (wa (dkO G) (9 + j))), (0, .ref (wa (dkO G) 0)), (1, .ref (wa (dkO G) (3 + i))), (2, .int x), (3, .ref (wa (dkO G) 2)), (4, .int 4)]) hx hb dX3_endSession_35 hl (k := 1) rfl (nI_1 j) (by decide) rfl (fun ls hl => ?_)
    refine lv_goto (tgt := 12) hx hb dX3_endSession_38 (by decide) ?_
    exact ih (j + 1) (drp N j x) v ls H locs ⟨by omega, hok, by rw [← h3]; rfl, hP, hS, lv_sub hl [0, 2, 3, 4, 5, 6] rfl⟩
set_option maxRecDepth 100000 in
set_option maxHeartbeats 4000000 in
theorem c_X3_endSilentSessions {l : Launch} {G : DG} (hj : wj (dkO G)) {M : Mem} (hok : dk_ok M) (sz : Nat) : Met l yX3_endSilentSessions wsX3_endSilentSessions ({ frames := 4, cells := 0, slots := 0, locals := 97 }) (va_Pc [.ref (wa (dkO G) 0)] (wp (dkO G) sz M)) (wQi (dkO G) sz (slV 6 0 M 0) (slM 6 0 M)) 0 0 (wA (dkO G) sz) := by
  refine wd_ofW (O := (dkO G)) (M := M) (Qc := fun z => wQi (dkO G) z (slV 6 0 M 0) (slM 6 0 M)) (cc := cX3_endSilentSessions) (maxL := 4) (ret := (some .int)) (lv := [(0, .ref (wa (dkO G) 0))]) (by decide) rfl (Nat.le_of_ble_eq_true rfl) rfl ?_
  intro p e s m below meth c ls hx hb hr hml hown hts hlocks hP hK hS hl
  have hi2 : ∀ w ∈ wsX20, w ∈ wsX3_endSilentSessions := by decide +kernel
  have hi3 : ∀ w ∈ wsX30, w ∈ wsX3_endSilentSessions := by decide +kernel
  refine lv_iconst (v := 0) hx hb dX3_endSilentSessions_0 (by decide) ?_
  refine lv_istore_n (lv' := [(1, .int 0), (0, .ref (wa (dkO G) 0))]) hx hb dX3_endSilentSessions_1 rfl hl (by decide) rfl (fun ls hl => ?_)
  refine lv_iconst (v := 0) hx hb dX3_endSilentSessions_2 (by decide) ?_
  refine lv_istore_n (lv' := [(2, .int 0), (1, .int 0), (0, .ref (wa (dkO G) 0))]) hx hb dX3_endSilentSessions_3 rfl hl (by decide) rfl (fun ls hl => ?_)
  refine wl_loop (pc := 4) (fun k j N v ls H locs => (j + k = 6) ∧ (dk_ok N) ∧ (slM k j N = slM 6 0 M) ∧ (slV k j N v = slV 6 0 M 0) ∧ va_P (wD (dkO G)) vwCl (wd (dkO G) N) H ∧ va_S (wA (dkO G) s.heap.size) s.heap H locs ∧ lv_has ls 4 [(2, .int (nI j)), (1, .int v), (0, .ref (wa (dkO G) 0))]) ?_ ?_ 6 0 M 0 ⟨by omega, hok, rfl, rfl, hP, hS, lv_sub hl [0, 1, 2] rfl⟩
  · rintro j N v ls H locs ⟨h1, h2, h3, h4, hP, hS, hl⟩
    refine lv_iload_n hx hb dX3_endSilentSessions_4 rfl (lv_at hl 0 rfl) ?_
    refine lv_bipush (v := 6) hx hb dX3_endSilentSessions_5 (by decide) ?_
    refine lv_icmp_ge (tgt := 53) hx hb dX3_endSilentSessions_7 (by decide) (fun c1 => ?_) (fun c1 => absurd (show nI 6 ≤ nI j from nI_le (by omega) (by omega)) c1)
    refine lv_iload_n hx hb dX3_endSilentSessions_53 rfl (lv_at hl 1 rfl) ?_
    exact wd_iret (O := (dkO G)) hx hb hr hlocks hK hP hS rfl dX3_endSilentSessions_54 (h4) (h3)
  · rintro k j N v ls H locs ih ⟨h1, h2, h3, h4, hP, hS, hl⟩
    have hok := h2
    refine lv_iload_n hx hb dX3_endSilentSessions_4 rfl (lv_at hl 0 rfl) ?_
    refine lv_bipush (v := 6) hx hb dX3_endSilentSessions_5 (by decide) ?_
    refine lv_icmp_ge (tgt := 53) hx hb dX3_endSilentSessions_7 (by decide) (fun c2 => absurd c2 (show ¬ nI 6 ≤ nI j from nI_ge (by omega) (by omega))) (fun c2 => ?_)
    refine lv_aload_n hx hb dX3_endSilentSessions_10 rfl (lv_at hl 2 rfl) ?_
    refine wd_get (O := (dkO G)) (v := .ref (wa (dkO G) 1)) hx hb hts hi3 hown hK hP (dk_lt (by omega)) dE_0 rfl 0 (by decide) (hts (.fieldLink RX3 11 "LeaseDesk" "sessions" "[LLeaseDesk$Session;") (by decide +kernel)) (fun _ h9 => h9) rfl dX3_endSilentSessions_11 ?_
    refine lv_iload_n hx hb dX3_endSilentSessions_14 rfl (lv_at hl 0 rfl) ?_
    refine wd_aald (O := (dkO G)) (b := wa (dkO G) (3 + j)) hx hb hK hP (dk_lt (by omega)) 1 dE_1 rfl (i := j) rfl (by omega) (by decide) (if_pos (by omega)) dX3_endSilentSessions_15 ?_
    refine lv_astore_n (lv' := [(3, .ref (wa (dkO G) (3 + j))), (2, .int (nI j)), (1, .int v), (0, .ref (wa (dkO G) 0))]) hx hb dX3_endSilentSessions_16 rfl hl (by decide) rfl (fun ls hl => ?_)
    refine lv_aload_n hx hb dX3_endSilentSessions_17 rfl (lv_at hl 0 rfl) ?_
    refine wd_get (O := (dkO G)) (v := .int (N (3 + j) 0)) hx hb hts hi2 hown hK hP (dk_lt (by omega)) (dE_ses (by omega)) rfl 0 (by decide) (hts (.fieldLink RX3 27 "LeaseDesk$Session" "isOpen" "Z") (by decide +kernel)) (fun _ h9 => h9) rfl dX3_endSilentSessions_18 ?_
    refine lv_if_eq (tgt := 47) hx hb dX3_endSilentSessions_21 (by decide) (fun c3 => ?_) (fun c3 => ?_)
    · refine lv_iinc (v := nI (j + 1)) (lv' := [(2, .int (nI (j + 1))), (3, .ref (wa (dkO G) (3 + j))), (1, .int v), (0, .ref (wa (dkO G) 0))]) hx hb dX3_endSilentSessions_47 hl (k := 1) rfl (nI_1 j) (by decide) rfl (fun ls hl => ?_)
      refine lv_goto (tgt := 4) hx hb dX3_endSilentSessions_50 (by decide) ?_
      exact ih (j + 1) N v ls H locs ⟨by omega, hok, by rw [← h3]; simp only [slM, if_pos c3], by rw [← h4]; simp only [slV, if_pos c3], hP, hS, lv_sub hl [0, 2, 3] rfl⟩
    · refine lv_aload_n hx hb dX3_endSilentSessions_24 rfl (lv_at hl 3 rfl) ?_
      refine wd_get (O := (dkO G)) (v := .int (N 0 2)) hx hb hts hi3 hown hK hP (dk_lt (by omega)) dE_0 rfl 2 (by decide) (hts (.fieldLink RX3 23 "LeaseDesk" "now" "I") (by decide +kernel)) (fun _ h9 => h9) rfl dX3_endSilentSessions_25 ?_
      refine lv_aload_n hx hb dX3_endSilentSessions_28 rfl (lv_at hl 0 rfl) ?_
      refine wd_get (O := (dkO G)) (v := .int (N (3 + j) 1)) hx hb hts hi2 hown hK hP (dk_lt (by omega)) (dE_ses (by omega)) rfl 1 (by decide) (hts (.fieldLink RX3 50 "LeaseDesk$Session" "sign" "I") (by decide +kernel)) (fun _ h9 => h9) rfl dX3_endSilentSessions_29 ?_
      refine lv_isub hx hb dX3_endSilentSessions_32 ?_
      refine lv_bipush (v := 50) hx hb dX3_endSilentSessions_33 (by decide) ?_
      refine lv_icmp_le (tgt := 47) hx hb dX3_endSilentSessions_35 (by decide) (fun c4 => ?_) (fun c4 => ?_)
      · refine lv_iinc (v := nI (j + 1)) (lv' := [(2, .int (nI (j + 1))), (3, .ref (wa (dkO G) (3 + j))), (1, .int v), (0, .ref (wa (dkO G) 0))]) hx hb dX3_endSilentSessions_47 hl (k := 1) rfl (nI_1 j) (by decide) rfl (fun ls hl => ?_)
        refine lv_goto (tgt := 4) hx hb dX3_endSilentSessions_50 (by decide) ?_
        exact ih (j + 1) N v ls H locs ⟨by omega, hok, by rw [← h3]; simp only [slM, if_neg c3, if_pos c4], by rw [← h4]; simp only [slV, if_neg c3, if_pos c4], hP, hS, lv_sub hl [0, 2, 3] rfl⟩
      · refine lv_iload_n hx hb dX3_endSilentSessions_38 rfl (lv_at hl 2 rfl) ?_
        refine lv_aload_n hx hb dX3_endSilentSessions_39 rfl (lv_at hl 3 rfl) ?_
        refine lv_aload_n hx hb dX3_endSilentSessions_40 rfl (lv_at hl 0 rfl) ?_
        refine lv_iload_n hx hb dX3_endSilentSessions_41 rfl (lv_at hl 1 rfl) ?_
        refine wd_ci (O := (dkO G)) hS (va_runV (As := [.ref (wa (dkO G) (3 + j)), .int (nI j)]) (rest := [.int v]) ⟨hx, hb, hml, hown, hts⟩ (c_X3_endSession (G := G) hj hok (by omega) H.size (nI j)) (cwV 2 hts gX3_endSilentSessions_X3_endSession rfl rfl rfl (by decide +kernel) ⟨Nat.le_of_ble_eq_true rfl, Nat.le_of_ble_eq_true rfl⟩) (wd_pre hK hP (dk_lt (by omega)) dE_0 rfl) rfl rfl hl.1 rfl (lv_room (Nat.le_of_ble_eq_true rfl)) dX3_endSilentSessions_42 ⟨Nat.le_of_ble_eq_true rfl, Nat.le_of_ble_eq_true rfl⟩) (fun H locs hP hS => ?_)
        have hok : dk_ok (endM N j (nI j)) := ok_end hok (by omega)
        refine lv_iadd hx hb dX3_endSilentSessions_45 ?_
        refine lv_istore_n (lv' := [(1, .int (v + (endV N (nI j)))), (3, .ref (wa (dkO G) (3 + j))), (2, .int (nI j)), (0, .ref (wa (dkO G) 0))]) hx hb dX3_endSilentSessions_46 rfl hl (by decide) rfl (fun ls hl => ?_)
        refine lv_iinc (v := nI (j + 1)) (lv' := [(2, .int (nI (j + 1))), (1, .int (v + (endV N (nI j)))), (3, .ref (wa (dkO G) (3 + j))), (0, .ref (wa (dkO G) 0))]) hx hb dX3_endSilentSessions_47 hl (k := 2) rfl (nI_1 j) (by decide) rfl (fun ls hl => ?_)
        refine lv_goto (tgt := 4) hx hb dX3_endSilentSessions_50 (by decide) ?_
        exact ih (j + 1) (endM N j (nI j)) (v + (endV N (nI j))) ls H locs ⟨by omega, hok, by rw [← h3]; simp only [slM, if_neg c3, if_neg c4], by rw [← h4]; simp only [slV, if_neg c3, if_neg c4], hP, hS, lv_sub hl [0, 1, 3] rfl⟩
set_option maxRecDepth 100000 in
set_option maxHeartbeats 4000000 in
theorem c_X3_passOnLeasesDue {l : Launch} {G : DG} (hj : wj (dkO G)) {M : Mem} (hok : dk_ok M) (sz : Nat) : Met l yX3_passOnLeasesDue wsX3_passOnLeasesDue ({ frames := 3, cells := 0, slots := 0, locals := 70 }) (va_Pc [.ref (wa (dkO G) 0)] (wp (dkO G) sz M)) (wQi (dkO G) sz (duV 4 0 M 0) (duM 4 0 M)) 0 0 (wA (dkO G) sz) := by
  refine wd_ofW (O := (dkO G)) (M := M) (Qc := fun z => wQi (dkO G) z (duV 4 0 M 0) (duM 4 0 M)) (cc := cX3_passOnLeasesDue) (maxL := 6) (ret := (some .int)) (lv := [(0, .ref (wa (dkO G) 0))]) (by decide) rfl (Nat.le_of_ble_eq_true rfl) rfl ?_
  intro p e s m below meth c ls hx hb hr hml hown hts hlocks hP hK hS hl
  have hi0 : ∀ w ∈ wsX00, w ∈ wsX3_passOnLeasesDue := by decide +kernel
  have hi3 : ∀ w ∈ wsX30, w ∈ wsX3_passOnLeasesDue := by decide +kernel
  refine lv_iconst (v := 0) hx hb dX3_passOnLeasesDue_0 (by decide) ?_
  refine lv_istore_n (lv' := [(1, .int 0), (0, .ref (wa (dkO G) 0))]) hx hb dX3_passOnLeasesDue_1 rfl hl (by decide) rfl (fun ls hl => ?_)
  refine lv_aload_n hx hb dX3_passOnLeasesDue_2 rfl (lv_at hl 1 rfl) ?_
  refine wd_get (O := (dkO G)) (v := .ref (wa (dkO G) 2)) hx hb hts hi3 hown hK hP (dk_lt (by omega)) dE_0 rfl 1 (by decide) (hts (.fieldLink RX3 18 "LeaseDesk" "locks" "[LLeaseDesk$Lock;") (by decide +kernel)) (fun _ h9 => h9) rfl dX3_passOnLeasesDue_3 ?_
  refine lv_astore_n (lv' := [(2, .ref (wa (dkO G) 2)), (1, .int 0), (0, .ref (wa (dkO G) 0))]) hx hb dX3_passOnLeasesDue_6 rfl hl (by decide) rfl (fun ls hl => ?_)
  refine lv_aload_n hx hb dX3_passOnLeasesDue_7 rfl (lv_at hl 0 rfl) ?_
  refine wd_alen (O := (dkO G)) (v := 4) hx hb hK hP (dk_lt (by omega)) 2 dE_2 rfl rfl dX3_passOnLeasesDue_8 ?_
  refine lv_istore_n (lv' := [(3, .int 4), (2, .ref (wa (dkO G) 2)), (1, .int 0), (0, .ref (wa (dkO G) 0))]) hx hb dX3_passOnLeasesDue_9 rfl hl (by decide) rfl (fun ls hl => ?_)
  refine lv_iconst (v := 0) hx hb dX3_passOnLeasesDue_10 (by decide) ?_
  refine lv_istore (lv' := [(4, .int 0), (3, .int 4), (2, .ref (wa (dkO G) 2)), (1, .int 0), (0, .ref (wa (dkO G) 0))]) hx hb dX3_passOnLeasesDue_11 hl (by decide) rfl (fun ls hl => ?_)
  refine wl_loop (pc := 13) (fun k j N v ls H locs => (j + k = 4) ∧ (dk_ok N) ∧ (duM k j N = duM 4 0 M) ∧ (duV k j N v = duV 4 0 M 0) ∧ va_P (wD (dkO G)) vwCl (wd (dkO G) N) H ∧ va_S (wA (dkO G) s.heap.size) s.heap H locs ∧ lv_has ls 6 [(4, .int (nI j)), (1, .int v), (0, .ref (wa (dkO G) 0)), (2, .ref (wa (dkO G) 2)), (3, .int 4)]) ?_ ?_ 4 0 M 0 ⟨by omega, hok, rfl, rfl, hP, hS, lv_sub hl [0, 3, 4, 2, 1] rfl⟩
  · rintro j N v ls H locs ⟨h1, h2, h3, h4, hP, hS, hl⟩
    refine lv_iload hx hb dX3_passOnLeasesDue_13 (lv_at hl 0 rfl) ?_
    refine lv_iload_n hx hb dX3_passOnLeasesDue_15 rfl (lv_at hl 4 rfl) ?_
    refine lv_icmp_ge (tgt := 60) hx hb dX3_passOnLeasesDue_16 (by decide) (fun c1 => ?_) (fun c1 => absurd (show nI 4 ≤ nI j from nI_le (by omega) (by omega)) c1)
    refine lv_iload_n hx hb dX3_passOnLeasesDue_60 rfl (lv_at hl 1 rfl) ?_
    exact wd_iret (O := (dkO G)) hx hb hr hlocks hK hP hS rfl dX3_passOnLeasesDue_61 (h4) (h3)
  · rintro k j N v ls H locs ih ⟨h1, h2, h3, h4, hP, hS, hl⟩
    have hok := h2
    refine lv_iload hx hb dX3_passOnLeasesDue_13 (lv_at hl 0 rfl) ?_
    refine lv_iload_n hx hb dX3_passOnLeasesDue_15 rfl (lv_at hl 4 rfl) ?_
    refine lv_icmp_ge (tgt := 60) hx hb dX3_passOnLeasesDue_16 (by decide) (fun c2 => absurd c2 (show ¬ nI 4 ≤ nI j from nI_ge (by omega) (by omega))) (fun c2 => ?_)
    refine lv_aload_n hx hb dX3_passOnLeasesDue_19 rfl (lv_at hl 3 rfl) ?_
    refine lv_iload hx hb dX3_passOnLeasesDue_20 (lv_at hl 0 rfl) ?_
    refine wd_aald (O := (dkO G)) (b := wa (dkO G) (9 + j)) hx hb hK hP (dk_lt (by omega)) 2 dE_2 rfl (i := j) rfl (by omega) (by decide) (if_pos (by omega)) dX3_passOnLeasesDue_22 ?_
    refine lv_astore (lv' := [(5, .ref (wa (dkO G) (9 + j))), (4, .int (nI j)), (1, .int v), (0, .ref (wa (dkO G) 0)), (2, .ref (wa (dkO G) 2)), (3, .int 4)]) hx hb dX3_passOnLeasesDue_23 hl (by decide) rfl (fun ls hl => ?_)
    refine lv_aload hx hb dX3_passOnLeasesDue_25 (lv_at hl 0 rfl) ?_
    refine wd_ci (O := (dkO G)) hS (va_runV (As := []) (rest := []) ⟨hx, hb, hml, hown, hts⟩ (c_X0_isFree (G := G) hj hok (by omega) H.size) (cwV 0 hts gX3_passOnLeasesDue_X0_isFree rfl rfl rfl (by decide +kernel) ⟨Nat.le_of_ble_eq_true rfl, Nat.le_of_ble_eq_true rfl⟩) (wd_pre hK hP (dk_lt (by omega)) (dE_lock (by omega)) rfl) rfl rfl hl.1 rfl (lv_room (Nat.le_of_ble_eq_true rfl)) dX3_passOnLeasesDue_27 ⟨Nat.le_of_ble_eq_true rfl, Nat.le_of_ble_eq_true rfl⟩) (fun H locs hP hS => ?_)
    refine lv_if_ne (tgt := 54) hx hb dX3_passOnLeasesDue_30 (by decide) (fun c3 => ?_) (fun c3 => ?_)
    · refine lv_iinc (v := nI (j + 1)) (lv' := [(4, .int (nI (j + 1))), (5, .ref (wa (dkO G) (9 + j))), (1, .int v), (0, .ref (wa (dkO G) 0)), (2, .ref (wa (dkO G) 2)), (3, .int 4)]) hx hb dX3_passOnLeasesDue_54 hl (k := 1) rfl (nI_1 j) (by decide) rfl (fun ls hl => ?_)
      refine lv_goto (tgt := 13) hx hb dX3_passOnLeasesDue_57 (by decide) ?_
      exact ih (j + 1) N v ls H locs ⟨by omega, hok, by rw [← h3]; simp only [duM, if_neg c3], by rw [← h4]; simp only [duV, if_neg c3], hP, hS, lv_sub hl [0, 2, 3, 4, 5] rfl⟩
    · refine lv_aload hx hb dX3_passOnLeasesDue_33 (lv_at hl 0 rfl) ?_
      refine wd_get (O := (dkO G)) (v := .int (N (9 + j) 3)) hx hb hts hi0 hown hK hP (dk_lt (by omega)) (dE_lock (by omega)) rfl 3 (by decide) (hts (.fieldLink RX3 122 "LeaseDesk$Lock" "ends" "I") (by decide +kernel)) (fun _ h9 => h9) rfl dX3_passOnLeasesDue_35 ?_
      refine lv_aload_n hx hb dX3_passOnLeasesDue_38 rfl (lv_at hl 3 rfl) ?_
      refine wd_get (O := (dkO G)) (v := .int (N 0 2)) hx hb hts hi3 hown hK hP (dk_lt (by omega)) dE_0 rfl 2 (by decide) (hts (.fieldLink RX3 23 "LeaseDesk" "now" "I") (by decide +kernel)) (fun _ h9 => h9) rfl dX3_passOnLeasesDue_39 ?_
      refine lv_icmp_gt (tgt := 54) hx hb dX3_passOnLeasesDue_42 (by decide) (fun c4 => ?_) (fun c4 => ?_)
      · refine lv_iinc (v := nI (j + 1)) (lv' := [(4, .int (nI (j + 1))), (5, .ref (wa (dkO G) (9 + j))), (1, .int v), (0, .ref (wa (dkO G) 0)), (2, .ref (wa (dkO G) 2)), (3, .int 4)]) hx hb dX3_passOnLeasesDue_54 hl (k := 1) rfl (nI_1 j) (by decide) rfl (fun ls hl => ?_)
        refine lv_goto (tgt := 13) hx hb dX3_passOnLeasesDue_57 (by decide) ?_
        exact ih (j + 1) N v ls H locs ⟨by omega, hok, by rw [← h3]; simp only [duM, if_pos c3, if_pos c4], by rw [← h4]; simp only [duV, if_pos c3, if_pos c4], hP, hS, lv_sub hl [0, 2, 3, 4, 5] rfl⟩
      · refine lv_aload_n hx hb dX3_passOnLeasesDue_45 rfl (lv_at hl 3 rfl) ?_
        refine lv_aload hx hb dX3_passOnLeasesDue_46 (lv_at hl 0 rfl) ?_
        refine wd_cv (O := (dkO G)) hS (va_runV (As := [.ref (wa (dkO G) (9 + j))]) (rest := []) ⟨hx, hb, hml, hown, hts⟩ (c_X3_passOn (G := G) hj hok (by omega) H.size) (cwV 1 hts gX3_passOnLeasesDue_X3_passOn rfl rfl rfl (by decide +kernel) ⟨Nat.le_of_ble_eq_true rfl, Nat.le_of_ble_eq_true rfl⟩) (wd_pre hK hP (dk_lt (by omega)) dE_0 rfl) rfl rfl hl.1 rfl (lv_room (Nat.le_of_ble_eq_true rfl)) dX3_passOnLeasesDue_48 ⟨Nat.le_of_ble_eq_true rfl, Nat.le_of_ble_eq_true rfl⟩) (fun H locs hP hS => ?_)
        have hok : dk_ok (psM N j) := ok_ps hok (by omega)
        refine lv_iinc (v := v + 1) (lv' := [(1, .int (v + 1)), (5, .ref (wa (dkO G) (9 + j))), (4, .int (nI j)), (0, .ref (wa (dkO G) 0)), (2, .ref (wa (dkO G) 2)), (3, .int 4)]) hx hb dX3_passOnLeasesDue_51 hl (k := 2) rfl rfl (by decide) rfl (fun ls hl => ?_)
        refine lv_iinc (v := nI (j + 1)) (lv' := [(4, .int (nI (j + 1))), (1, .int (v + 1)), (5, .ref (wa (dkO G) (9 + j))), (0, .ref (wa (dkO G) 0)), (2, .ref (wa (dkO G) 2)), (3, .int 4)]) hx hb dX3_passOnLeasesDue_54 hl (k := 2) rfl (nI_1 j) (by decide) rfl (fun ls hl => ?_)
        refine lv_goto (tgt := 13) hx hb dX3_passOnLeasesDue_57 (by decide) ?_
        exact ih (j + 1) (psM N j) (v + 1) ls H locs ⟨by omega, hok, by rw [← h3]; simp only [duM, if_pos c3, if_neg c4], by rw [← h4]; simp only [duV, if_pos c3, if_neg c4], hP, hS, lv_sub hl [0, 1, 3, 4, 5] rfl⟩
set_option maxRecDepth 100000 in
set_option maxHeartbeats 4000000 in
theorem c_X3_tick {l : Launch} {G : DG} (hj : wj (dkO G)) {M : Mem} (hok : dk_ok M) (sz : Nat) (d : Int32) : Met l yX3_tick wsX3_tick ({ frames := 5, cells := 0, slots := 0, locals := 120 }) (va_Pc [.ref (wa (dkO G) 0), .int d] (wp (dkO G) sz M)) (wQi (dkO G) sz (tcV M d) (tcM M d)) 0 0 (wA (dkO G) sz) := by
  refine wd_ofW (O := (dkO G)) (M := M) (Qc := fun z => wQi (dkO G) z (tcV M d) (tcM M d)) (cc := cX3_tick) (maxL := 3) (ret := (some .int)) (lv := [(0, .ref (wa (dkO G) 0)), (1, .int d)]) (by decide) rfl (Nat.le_of_ble_eq_true rfl) rfl ?_
  intro p e s m below meth c ls hx hb hr hml hown hts hlocks hP hK hS hl
  have hi3 : ∀ w ∈ wsX30, w ∈ wsX3_tick := by decide +kernel
  refine lv_iload_n hx hb dX3_tick_0 rfl (lv_at hl 1 rfl) ?_
  refine lv_if_lt (tgt := 10) hx hb dX3_tick_1 (by decide) (fun c1 => ?_) (fun c1 => ?_)
  · refine lv_iconst (v := (-1)) hx hb dX3_tick_10 (by decide) ?_
    exact wd_iret (O := (dkO G)) hx hb hr hlocks hK hP hS rfl dX3_tick_11 (by simp only [tcV, if_pos c1]) (by simp only [tcM, if_pos c1])
  · refine lv_iload_n hx hb dX3_tick_4 rfl (lv_at hl 1 rfl) ?_
    refine lv_bipush (v := 100) hx hb dX3_tick_5 (by decide) ?_
    refine lv_icmp_le (tgt := 12) hx hb dX3_tick_7 (by decide) (fun c2 => ?_) (fun c2 => ?_)
    · refine lv_aload_n hx hb dX3_tick_12 rfl (lv_at hl 0 rfl) ?_
      refine lv_dup hx hb dX3_tick_13 rfl ?_
      refine wd_get (O := (dkO G)) (v := .int (M 0 2)) hx hb hts hi3 hown hK hP (dk_lt (by omega)) dE_0 rfl 2 (by decide) (hts (.fieldLink RX3 23 "LeaseDesk" "now" "I") (by decide +kernel)) (fun _ h9 => h9) rfl dX3_tick_14 ?_
      refine lv_iload_n hx hb dX3_tick_17 rfl (lv_at hl 1 rfl) ?_
      refine lv_iadd hx hb dX3_tick_18 ?_
      refine wd_put (O := (dkO G)) (ty := .int) hj hx hb hts hi3 tyX3 tyX3_ok nmX3 hown hK hP hS (dk_lt (by omega)) dE_0 rfl 2 (by decide) (hts (.fieldLink RX3 23 "LeaseDesk" "now" "I") (by decide +kernel)) (fun _ h9 => h9) rfl (by decide +kernel) rfl rfl (Nat.le_of_ble_eq_true rfl) (dE_0.trans rfl) dX3_tick_19 (fun H locs hP hS => ?_)
      have hok : dk_ok (up M 0 2 ((M 0 2) + d)) := ok_up hok (by omega)
      refine lv_aload_n hx hb dX3_tick_22 rfl (lv_at hl 0 rfl) ?_
      refine lv_iload_n hx hb dX3_tick_23 rfl (lv_at hl 1 rfl) ?_
      refine wd_cv (O := (dkO G)) hS (va_runV (As := [.int d]) (rest := []) ⟨hx, hb, hml, hown, hts⟩ (c_X3_moveClocks (G := G) hj hok H.size d) (cwV 1 hts gX3_tick_X3_moveClocks rfl rfl rfl (by decide +kernel) ⟨Nat.le_of_ble_eq_true rfl, Nat.le_of_ble_eq_true rfl⟩) (wd_pre hK hP (dk_lt (by omega)) dE_0 rfl) rfl rfl hl.1 rfl (lv_room (Nat.le_of_ble_eq_true rfl)) dX3_tick_24 ⟨Nat.le_of_ble_eq_true rfl, Nat.le_of_ble_eq_true rfl⟩) (fun H locs hP hS => ?_)
      have hok : dk_ok (mvM d 6 0 (up M 0 2 ((M 0 2) + d))) := ok_mv 6 0 (by omega) hok
      refine lv_aload_n hx hb dX3_tick_27 rfl (lv_at hl 0 rfl) ?_
      refine wd_ci (O := (dkO G)) hS (va_runV (As := []) (rest := []) ⟨hx, hb, hml, hown, hts⟩ (c_X3_endSilentSessions (G := G) hj hok H.size) (cwV 0 hts gX3_tick_X3_endSilentSessions rfl rfl rfl (by decide +kernel) ⟨Nat.le_of_ble_eq_true rfl, Nat.le_of_ble_eq_true rfl⟩) (wd_pre hK hP (dk_lt (by omega)) dE_0 rfl) rfl rfl hl.1 rfl (lv_room (Nat.le_of_ble_eq_true rfl)) dX3_tick_28 ⟨Nat.le_of_ble_eq_true rfl, Nat.le_of_ble_eq_true rfl⟩) (fun H locs hP hS => ?_)
      have hok : dk_ok (slM 6 0 (mvM d 6 0 (up M 0 2 ((M 0 2) + d)))) := ok_sl 6 0 (by omega) hok
      refine lv_istore_n (lv' := [(2, .int (slV 6 0 (mvM d 6 0 (up M 0 2 ((M 0 2) + d))) 0)), (0, .ref (wa (dkO G) 0)), (1, .int d)]) hx hb dX3_tick_31 rfl hl (by decide) rfl (fun ls hl => ?_)
      refine lv_iload_n hx hb dX3_tick_32 rfl (lv_at hl 0 rfl) ?_
      refine lv_aload_n hx hb dX3_tick_33 rfl (lv_at hl 1 rfl) ?_
      refine wd_ci (O := (dkO G)) hS (va_runV (As := []) (rest := [.int (slV 6 0 (mvM d 6 0 (up M 0 2 ((M 0 2) + d))) 0)]) ⟨hx, hb, hml, hown, hts⟩ (c_X3_passOnLeasesDue (G := G) hj hok H.size) (cwV 0 hts gX3_tick_X3_passOnLeasesDue rfl rfl rfl (by decide +kernel) ⟨Nat.le_of_ble_eq_true rfl, Nat.le_of_ble_eq_true rfl⟩) (wd_pre hK hP (dk_lt (by omega)) dE_0 rfl) rfl rfl hl.1 rfl (lv_room (Nat.le_of_ble_eq_true rfl)) dX3_tick_34 ⟨Nat.le_of_ble_eq_true rfl, Nat.le_of_ble_eq_true rfl⟩) (fun H locs hP hS => ?_)
      have hok : dk_ok (duM 4 0 (slM 6 0 (mvM d 6 0 (up M 0 2 ((M 0 2) + d))))) := ok_du 4 0 (by omega) hok
      refine lv_iadd hx hb dX3_tick_37 ?_
      refine lv_istore_n (lv' := [(2, .int ((slV 6 0 (mvM d 6 0 (up M 0 2 ((M 0 2) + d))) 0) + (duV 4 0 (slM 6 0 (mvM d 6 0 (up M 0 2 ((M 0 2) + d)))) 0))), (0, .ref (wa (dkO G) 0)), (1, .int d)]) hx hb dX3_tick_38 rfl hl (by decide) rfl (fun ls hl => ?_)
      refine lv_iload_n hx hb dX3_tick_39 rfl (lv_at hl 0 rfl) ?_
      exact wd_iret (O := (dkO G)) hx hb hr hlocks hK hP hS rfl dX3_tick_40 (by simp only [tcV, if_neg c1, if_pos c2, tiV, tiA]) (by simp only [tcM, if_neg c1, if_pos c2, tiM, tiA])
    · refine lv_iconst (v := (-1)) hx hb dX3_tick_10 (by decide) ?_
      exact wd_iret (O := (dkO G)) hx hb hr hlocks hK hP hS rfl dX3_tick_11 (by simp only [tcV, if_neg c1, if_neg c2]) (by simp only [tcM, if_neg c1, if_neg c2])
