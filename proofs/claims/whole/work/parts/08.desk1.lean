set_option maxRecDepth 100000 in
set_option maxHeartbeats 4000000 in
theorem c_X0_isFree {l : Launch} {G : DG} (hj : wj (dkO G)) {M : Mem} (hok : dk_ok M) {i : Nat} (hi : i < 4) (sz : Nat) : Met l yX0_isFree wsX0_isFree ({ frames := 0, cells := 0, slots := 0, locals := 0 }) (va_Pc [.ref (wa (dkO G) (9 + i))] (wp (dkO G) sz M)) (wQi (dkO G) sz (freV M i) (M)) 0 0 (wA (dkO G) sz) := by
  refine wd_ofW (O := (dkO G)) (M := M) (Qc := fun z => wQi (dkO G) z (freV M i) (M)) (cc := cX0_isFree) (maxL := 1) (ret := (some .boolean)) (lv := [(0, .ref (wa (dkO G) (9 + i)))]) (by decide) rfl (Nat.le_of_ble_eq_true rfl) rfl ?_
  intro p e s m below meth c ls hx hb hr hml hown hts hlocks hP hK hS hl
  have hi0 : ∀ w ∈ wsX00, w ∈ wsX0_isFree := by decide +kernel
  refine lv_aload_n hx hb dX0_isFree_0 rfl (lv_at hl 0 rfl) ?_
  refine wd_get (O := (dkO G)) (v := .int (M (9 + i) 1)) hx hb hts hi0 hown hK hP (dk_lt (by omega)) (dE_lock (by omega)) rfl 1 (by decide) (hts (.fieldLink RX0 18 "LeaseDesk$Lock" "holder" "I") (by decide +kernel)) (fun _ h9 => h9) rfl dX0_isFree_1 ?_
  refine lv_iconst (v := (-1)) hx hb dX0_isFree_4 (by decide) ?_
  refine lv_icmp_ne (tgt := 12) hx hb dX0_isFree_5 (by decide) (fun c1 => ?_) (fun c1 => ?_)
  · refine lv_iconst (v := 0) hx hb dX0_isFree_12 (by decide) ?_
    exact wd_iret (O := (dkO G)) hx hb hr hlocks hK hP hS (by decide) dX0_isFree_13 (by simp only [freV, if_neg c1]) (rfl)
  · refine lv_iconst (v := 1) hx hb dX0_isFree_8 (by decide) ?_
    refine lv_goto (tgt := 13) hx hb dX0_isFree_9 (by decide) ?_
    exact wd_iret (O := (dkO G)) hx hb hr hlocks hK hP hS (by decide) dX0_isFree_13 (by simp only [freV, if_pos c1]) (rfl)
set_option maxRecDepth 100000 in
set_option maxHeartbeats 4000000 in
theorem c_X0_runFrom {l : Launch} {G : DG} (hj : wj (dkO G)) {M : Mem} (hok : dk_ok M) {i : Nat} (hi : i < 4) (sz : Nat) (now term clk : Int32) : Met l yX0_runFrom wsX0_runFrom ({ frames := 0, cells := 0, slots := 0, locals := 0 }) (va_Pc [.ref (wa (dkO G) (9 + i)), .int now, .int term, .int clk] (wp (dkO G) sz M)) (wQv (dkO G) sz (rfM M i now term clk)) 0 0 (wA (dkO G) sz) := by
  refine wd_ofW (O := (dkO G)) (M := M) (Qc := fun z => wQv (dkO G) z (rfM M i now term clk)) (cc := cX0_runFrom) (maxL := 4) (ret := none) (lv := [(0, .ref (wa (dkO G) (9 + i))), (1, .int now), (2, .int term), (3, .int clk)]) (by decide) rfl (Nat.le_of_ble_eq_true rfl) rfl ?_
  intro p e s m below meth c ls hx hb hr hml hown hts hlocks hP hK hS hl
  have hi0 : ∀ w ∈ wsX00, w ∈ wsX0_runFrom := by decide +kernel
  refine lv_aload_n hx hb dX0_runFrom_0 rfl (lv_at hl 0 rfl) ?_
  refine lv_iload_n hx hb dX0_runFrom_1 rfl (lv_at hl 1 rfl) ?_
  refine lv_iload_n hx hb dX0_runFrom_2 rfl (lv_at hl 2 rfl) ?_
  refine lv_iadd hx hb dX0_runFrom_3 ?_
  refine wd_put (O := (dkO G)) (ty := .int) hj hx hb hts hi0 tyX0 tyX0_ok nmX0 hown hK hP hS (dk_lt (by omega)) (dE_lock (by omega)) rfl 3 (by decide) (hts (.fieldLink RX0 29 "LeaseDesk$Lock" "ends" "I") (by decide +kernel)) (fun _ h9 => h9) rfl (by decide +kernel) rfl rfl (Nat.le_of_ble_eq_true rfl) ((dE_lock (by omega)).trans rfl) dX0_runFrom_4 (fun H locs hP hS => ?_)
  refine lv_aload_n hx hb dX0_runFrom_7 rfl (lv_at hl 0 rfl) ?_
  refine lv_iload_n hx hb dX0_runFrom_8 rfl (lv_at hl 2 rfl) ?_
  refine wd_put (O := (dkO G)) (ty := .int) hj hx hb hts hi0 tyX0 tyX0_ok nmX0 hown hK hP hS (dk_lt (by omega)) (dE_lock (by omega)) rfl 4 (by decide) (hts (.fieldLink RX0 32 "LeaseDesk$Lock" "term" "I") (by decide +kernel)) (fun _ h9 => h9) rfl (by decide +kernel) rfl rfl (Nat.le_of_ble_eq_true rfl) ((dE_lock (by omega)).trans rfl) dX0_runFrom_9 (fun H locs hP hS => ?_)
  refine lv_aload_n hx hb dX0_runFrom_12 rfl (lv_at hl 0 rfl) ?_
  refine lv_iload_n hx hb dX0_runFrom_13 rfl (lv_at hl 3 rfl) ?_
  refine wd_put (O := (dkO G)) (ty := .int) hj hx hb hts hi0 tyX0 tyX0_ok nmX0 hown hK hP hS (dk_lt (by omega)) (dE_lock (by omega)) rfl 5 (by decide) (hts (.fieldLink RX0 35 "LeaseDesk$Lock" "start" "I") (by decide +kernel)) (fun _ h9 => h9) rfl (by decide +kernel) rfl rfl (Nat.le_of_ble_eq_true rfl) ((dE_lock (by omega)).trans rfl) dX0_runFrom_14 (fun H locs hP hS => ?_)
  exact wd_vret (O := (dkO G)) hx hb hr hlocks hK hP hS dX0_runFrom_17 (rfl)
set_option maxRecDepth 100000 in
set_option maxHeartbeats 4000000 in
theorem c_X0_lend {l : Launch} {G : DG} (hj : wj (dkO G)) {M : Mem} (hok : dk_ok M) {i : Nat} (hi : i < 4) (sz : Nat) (x term now clk : Int32) : Met l yX0_lend wsX0_lend ({ frames := 1, cells := 0, slots := 0, locals := 23 }) (va_Pc [.ref (wa (dkO G) (9 + i)), .int x, .int term, .int now, .int clk] (wp (dkO G) sz M)) (wQv (dkO G) sz (lnM M i x term now clk)) 0 0 (wA (dkO G) sz) := by
  refine wd_ofW (O := (dkO G)) (M := M) (Qc := fun z => wQv (dkO G) z (lnM M i x term now clk)) (cc := cX0_lend) (maxL := 5) (ret := none) (lv := [(0, .ref (wa (dkO G) (9 + i))), (1, .int x), (2, .int term), (3, .int now), (4, .int clk)]) (by decide) rfl (Nat.le_of_ble_eq_true rfl) rfl ?_
  intro p e s m below meth c ls hx hb hr hml hown hts hlocks hP hK hS hl
  have hi0 : ∀ w ∈ wsX00, w ∈ wsX0_lend := by decide +kernel
  refine lv_aload_n hx hb dX0_lend_0 rfl (lv_at hl 0 rfl) ?_
  refine lv_iload_n hx hb dX0_lend_1 rfl (lv_at hl 1 rfl) ?_
  refine wd_put (O := (dkO G)) (ty := .int) hj hx hb hts hi0 tyX0 tyX0_ok nmX0 hown hK hP hS (dk_lt (by omega)) (dE_lock (by omega)) rfl 1 (by decide) (hts (.fieldLink RX0 18 "LeaseDesk$Lock" "holder" "I") (by decide +kernel)) (fun _ h9 => h9) rfl (by decide +kernel) rfl rfl (Nat.le_of_ble_eq_true rfl) ((dE_lock (by omega)).trans rfl) dX0_lend_2 (fun H locs hP hS => ?_)
  have hok : dk_ok (up M (9 + i) 1 x) := ok_up hok (by omega)
  refine lv_aload_n hx hb dX0_lend_5 rfl (lv_at hl 0 rfl) ?_
  refine lv_dup hx hb dX0_lend_6 rfl ?_
  refine wd_get (O := (dkO G)) (v := .int ((up M (9 + i) 1 x) (9 + i) 2)) hx hb hts hi0 hown hK hP (dk_lt (by omega)) (dE_lock (by omega)) rfl 2 (by decide) (hts (.fieldLink RX0 22 "LeaseDesk$Lock" "token" "I") (by decide +kernel)) (fun _ h9 => h9) rfl dX0_lend_7 ?_
  refine lv_iconst (v := 1) hx hb dX0_lend_10 (by decide) ?_
  refine lv_iadd hx hb dX0_lend_11 ?_
  refine wd_put (O := (dkO G)) (ty := .int) hj hx hb hts hi0 tyX0 tyX0_ok nmX0 hown hK hP hS (dk_lt (by omega)) (dE_lock (by omega)) rfl 2 (by decide) (hts (.fieldLink RX0 22 "LeaseDesk$Lock" "token" "I") (by decide +kernel)) (fun _ h9 => h9) rfl (by decide +kernel) rfl rfl (Nat.le_of_ble_eq_true rfl) ((dE_lock (by omega)).trans rfl) dX0_lend_12 (fun H locs hP hS => ?_)
  have hok : dk_ok (up (up M (9 + i) 1 x) (9 + i) 2 (((up M (9 + i) 1 x) (9 + i) 2) + 1)) := ok_up hok (by omega)
  refine lv_aload_n hx hb dX0_lend_15 rfl (lv_at hl 0 rfl) ?_
  refine lv_iload_n hx hb dX0_lend_16 rfl (lv_at hl 3 rfl) ?_
  refine lv_iload_n hx hb dX0_lend_17 rfl (lv_at hl 2 rfl) ?_
  refine lv_iload hx hb dX0_lend_18 (lv_at hl 4 rfl) ?_
  refine wd_cv (O := (dkO G)) hS (va_runV (As := [.int now, .int term, .int clk]) (rest := []) ⟨hx, hb, hml, hown, hts⟩ (c_X0_runFrom (G := G) hj hok (by omega) H.size now term clk) (cwV 3 hts gX0_lend_X0_runFrom rfl rfl rfl (by decide +kernel) ⟨Nat.le_of_ble_eq_true rfl, Nat.le_of_ble_eq_true rfl⟩) (wd_pre hK hP (dk_lt (by omega)) (dE_lock (by omega)) rfl) rfl rfl hl.1 rfl (lv_room (Nat.le_of_ble_eq_true rfl)) dX0_lend_20 ⟨Nat.le_of_ble_eq_true rfl, Nat.le_of_ble_eq_true rfl⟩) (fun H locs hP hS => ?_)
  have hok : dk_ok (rfM (up (up M (9 + i) 1 x) (9 + i) 2 (((up M (9 + i) 1 x) (9 + i) 2) + 1)) i now term clk) := ok_rf hok (by omega)
  exact wd_vret (O := (dkO G)) hx hb hr hlocks hK hP hS dX0_lend_23 (rfl)
set_option maxRecDepth 100000 in
set_option maxHeartbeats 4000000 in
theorem c_X0_renew {l : Launch} {G : DG} (hj : wj (dkO G)) {M : Mem} (hok : dk_ok M) {i : Nat} (hi : i < 4) (sz : Nat) (term now clk : Int32) : Met l yX0_renew wsX0_renew ({ frames := 1, cells := 0, slots := 0, locals := 23 }) (va_Pc [.ref (wa (dkO G) (9 + i)), .int term, .int now, .int clk] (wp (dkO G) sz M)) (wQv (dkO G) sz (rwM M i term now clk)) 0 0 (wA (dkO G) sz) := by
  refine wd_ofW (O := (dkO G)) (M := M) (Qc := fun z => wQv (dkO G) z (rwM M i term now clk)) (cc := cX0_renew) (maxL := 4) (ret := none) (lv := [(0, .ref (wa (dkO G) (9 + i))), (1, .int term), (2, .int now), (3, .int clk)]) (by decide) rfl (Nat.le_of_ble_eq_true rfl) rfl ?_
  intro p e s m below meth c ls hx hb hr hml hown hts hlocks hP hK hS hl
  have hi0 : ∀ w ∈ wsX00, w ∈ wsX0_renew := by decide +kernel
  refine lv_iload_n hx hb dX0_renew_0 rfl (lv_at hl 2 rfl) ?_
  refine lv_iload_n hx hb dX0_renew_1 rfl (lv_at hl 1 rfl) ?_
  refine lv_iadd hx hb dX0_renew_2 ?_
  refine lv_aload_n hx hb dX0_renew_3 rfl (lv_at hl 0 rfl) ?_
  refine wd_get (O := (dkO G)) (v := .int (M (9 + i) 3)) hx hb hts hi0 hown hK hP (dk_lt (by omega)) (dE_lock (by omega)) rfl 3 (by decide) (hts (.fieldLink RX0 29 "LeaseDesk$Lock" "ends" "I") (by decide +kernel)) (fun _ h9 => h9) rfl dX0_renew_4 ?_
  refine lv_icmp_le (tgt := 17) hx hb dX0_renew_7 (by decide) (fun c1 => ?_) (fun c1 => ?_)
  · exact wd_vret (O := (dkO G)) hx hb hr hlocks hK hP hS dX0_renew_17 (by simp only [rwM, if_pos c1])
  · refine lv_aload_n hx hb dX0_renew_10 rfl (lv_at hl 0 rfl) ?_
    refine lv_iload_n hx hb dX0_renew_11 rfl (lv_at hl 2 rfl) ?_
    refine lv_iload_n hx hb dX0_renew_12 rfl (lv_at hl 1 rfl) ?_
    refine lv_iload_n hx hb dX0_renew_13 rfl (lv_at hl 3 rfl) ?_
    refine wd_cv (O := (dkO G)) hS (va_runV (As := [.int now, .int term, .int clk]) (rest := []) ⟨hx, hb, hml, hown, hts⟩ (c_X0_runFrom (G := G) hj hok (by omega) s.heap.size now term clk) (cwV 3 hts gX0_renew_X0_runFrom rfl rfl rfl (by decide +kernel) ⟨Nat.le_of_ble_eq_true rfl, Nat.le_of_ble_eq_true rfl⟩) (wd_pre hK hP (dk_lt (by omega)) (dE_lock (by omega)) rfl) rfl rfl hl.1 rfl (lv_room (Nat.le_of_ble_eq_true rfl)) dX0_renew_14 ⟨Nat.le_of_ble_eq_true rfl, Nat.le_of_ble_eq_true rfl⟩) (fun H locs hP hS => ?_)
    have hok : dk_ok (rfM M i now term clk) := ok_rf hok (by omega)
    exact wd_vret (O := (dkO G)) hx hb hr hlocks hK hP hS dX0_renew_17 (by simp only [rwM, if_neg c1])
set_option maxRecDepth 100000 in
set_option maxHeartbeats 4000000 in
theorem c_X2_begin {l : Launch} {G : DG} (hj : wj (dkO G)) {M : Mem} (hok : dk_ok M) {i : Nat} (hi : i < 6) (sz : Nat) (now : Int32) : Met l yX2_begin wsX2_begin ({ frames := 0, cells := 0, slots := 0, locals := 0 }) (va_Pc [.ref (wa (dkO G) (3 + i)), .int now] (wp (dkO G) sz M)) (wQv (dkO G) sz (bgM M i now)) 0 0 (wA (dkO G) sz) := by
  refine wd_ofW (O := (dkO G)) (M := M) (Qc := fun z => wQv (dkO G) z (bgM M i now)) (cc := cX2_begin) (maxL := 2) (ret := none) (lv := [(0, .ref (wa (dkO G) (3 + i))), (1, .int now)]) (by decide) rfl (Nat.le_of_ble_eq_true rfl) rfl ?_
  intro p e s m below meth c ls hx hb hr hml hown hts hlocks hP hK hS hl
  have hi2 : ∀ w ∈ wsX20, w ∈ wsX2_begin := by decide +kernel
  refine lv_aload_n hx hb dX2_begin_0 rfl (lv_at hl 0 rfl) ?_
  refine lv_iconst (v := 1) hx hb dX2_begin_1 (by decide) ?_
  refine wd_put (O := (dkO G)) (ty := .boolean) hj hx hb hts hi2 tyX2 tyX2_ok nmX2 hown hK hP hS (dk_lt (by omega)) (dE_ses (by omega)) rfl 0 (by decide) (hts (.fieldLink RX2 9 "LeaseDesk$Session" "isOpen" "Z") (by decide +kernel)) (fun _ h9 => h9) rfl (by decide +kernel) (by decide) (by decide) (Nat.le_of_ble_eq_true rfl) ((dE_ses (by omega)).trans rfl) dX2_begin_2 (fun H locs hP hS => ?_)
  refine lv_aload_n hx hb dX2_begin_5 rfl (lv_at hl 0 rfl) ?_
  refine lv_iload_n hx hb dX2_begin_6 rfl (lv_at hl 1 rfl) ?_
  refine wd_put (O := (dkO G)) (ty := .int) hj hx hb hts hi2 tyX2 tyX2_ok nmX2 hown hK hP hS (dk_lt (by omega)) (dE_ses (by omega)) rfl 1 (by decide) (hts (.fieldLink RX2 15 "LeaseDesk$Session" "sign" "I") (by decide +kernel)) (fun _ h9 => h9) rfl (by decide +kernel) rfl rfl (Nat.le_of_ble_eq_true rfl) ((dE_ses (by omega)).trans rfl) dX2_begin_7 (fun H locs hP hS => ?_)
  refine lv_aload_n hx hb dX2_begin_10 rfl (lv_at hl 0 rfl) ?_
  refine lv_bipush (v := 10) hx hb dX2_begin_11 (by decide) ?_
  refine wd_put (O := (dkO G)) (ty := .int) hj hx hb hts hi2 tyX2 tyX2_ok nmX2 hown hK hP hS (dk_lt (by omega)) (dE_ses (by omega)) rfl 2 (by decide) (hts (.fieldLink RX2 19 "LeaseDesk$Session" "rate" "I") (by decide +kernel)) (fun _ h9 => h9) rfl (by decide +kernel) rfl rfl (Nat.le_of_ble_eq_true rfl) ((dE_ses (by omega)).trans rfl) dX2_begin_13 (fun H locs hP hS => ?_)
  refine lv_aload_n hx hb dX2_begin_16 rfl (lv_at hl 0 rfl) ?_
  refine lv_iconst (v := 0) hx hb dX2_begin_17 (by decide) ?_
  refine wd_put (O := (dkO G)) (ty := .int) hj hx hb hts hi2 tyX2 tyX2_ok nmX2 hown hK hP hS (dk_lt (by omega)) (dE_ses (by omega)) rfl 3 (by decide) (hts (.fieldLink RX2 22 "LeaseDesk$Session" "clock" "I") (by decide +kernel)) (fun _ h9 => h9) rfl (by decide +kernel) rfl rfl (Nat.le_of_ble_eq_true rfl) ((dE_ses (by omega)).trans rfl) dX2_begin_18 (fun H locs hP hS => ?_)
  exact wd_vret (O := (dkO G)) hx hb hr hlocks hK hP hS dX2_begin_21 (rfl)
set_option maxRecDepth 100000 in
set_option maxHeartbeats 4000000 in
theorem c_X1_isTaken {l : Launch} {G : DG} (hj : wj (dkO G)) {M : Mem} (hok : dk_ok M) {i : Nat} (hi : i < 4) (sz : Nat) (x : Int32) : Met l yX1_isTaken wsX1_isTaken ({ frames := 0, cells := 0, slots := 0, locals := 0 }) (va_Pc [.ref (wa (dkO G) (13 + i)), .int x] (wp (dkO G) sz M)) (wQi (dkO G) sz (tkv (dN x (rn M i))) (M)) 0 0 (wA (dkO G) sz) := by
  obtain ⟨hn6, hlen⟩ := hok i hi
  rcases op_cases (dN x (rn M i)) with hd | ⟨j2, hd⟩
  · refine wd_ofW (O := (dkO G)) (M := M) (Qc := fun z => wQi (dkO G) z (tkv (dN x (rn M i))) (M)) (cc := cX1_isTaken) (maxL := 2) (ret := (some .boolean)) (lv := [(0, .ref (wa (dkO G) (13 + i))), (1, .int x)]) (by decide) rfl (Nat.le_of_ble_eq_true rfl) rfl ?_
    intro p e s m below meth c ls hx hb hr hml hown hts hlocks hP hK hS hl
    have hi1 : ∀ w ∈ wsX10, w ∈ wsX1_isTaken := by decide +kernel
    refine lv_iload_n hx hb dX1_isTaken_0 rfl (lv_at hl 1 rfl) ?_
    refine lv_if_lt (tgt := 16) hx hb dX1_isTaken_1 (by decide) (fun c1 => ?_) (fun c1 => ?_)
    · refine lv_iconst (v := 0) hx hb dX1_isTaken_16 (by decide) ?_
      exact wd_iret (O := (dkO G)) hx hb hr hlocks hK hP hS (by decide) dX1_isTaken_17 (by simp only [hd, tkv]) (rfl)
    · refine lv_iload_n hx hb dX1_isTaken_4 rfl (lv_at hl 1 rfl) ?_
      refine lv_aload_n hx hb dX1_isTaken_5 rfl (lv_at hl 0 rfl) ?_
      refine wd_get (O := (dkO G)) (v := .int (M (13 + i) 2)) hx hb hts hi1 hown hK hP (dk_lt (by omega)) (dE_row (by omega)) rfl 2 (by decide) (hts (.fieldLink RX1 26 "LeaseDesk$Row" "length" "I") (by decide +kernel)) (fun _ h9 => h9) rfl dX1_isTaken_6 ?_
      refine wd_re (y := nI (rn M i)) (hlen) ?_
      refine lv_icmp_ge (tgt := 16) hx hb dX1_isTaken_9 (by decide) (fun c2 => ?_) (fun c2 => absurd (dN_none hd c1) c2)
      refine lv_iconst (v := 0) hx hb dX1_isTaken_16 (by decide) ?_
      exact wd_iret (O := (dkO G)) hx hb hr hlocks hK hP hS (by decide) dX1_isTaken_17 (by simp only [hd, tkv]) (rfl)
  · obtain ⟨hj2, rfl⟩ := dN_some (by omega) hd
    refine wd_ofW (O := (dkO G)) (M := M) (Qc := fun z => wQi (dkO G) z (tkv (dN (nI j2) (rn M i))) (M)) (cc := cX1_isTaken) (maxL := 2) (ret := (some .boolean)) (lv := [(0, .ref (wa (dkO G) (13 + i))), (1, .int (nI j2))]) (by decide) rfl (Nat.le_of_ble_eq_true rfl) rfl ?_
    intro p e s m below meth c ls hx hb hr hml hown hts hlocks hP hK hS hl
    have hi1 : ∀ w ∈ wsX10, w ∈ wsX1_isTaken := by decide +kernel
    refine lv_iload_n hx hb dX1_isTaken_0 rfl (lv_at hl 1 rfl) ?_
    refine lv_if_lt (tgt := 16) hx hb dX1_isTaken_1 (by decide) (fun c3 => absurd c3 (nI_pos (by omega))) (fun c3 => ?_)
    refine lv_iload_n hx hb dX1_isTaken_4 rfl (lv_at hl 1 rfl) ?_
    refine lv_aload_n hx hb dX1_isTaken_5 rfl (lv_at hl 0 rfl) ?_
    refine wd_get (O := (dkO G)) (v := .int (M (13 + i) 2)) hx hb hts hi1 hown hK hP (dk_lt (by omega)) (dE_row (by omega)) rfl 2 (by decide) (hts (.fieldLink RX1 26 "LeaseDesk$Row" "length" "I") (by decide +kernel)) (fun _ h9 => h9) rfl dX1_isTaken_6 ?_
    refine wd_re (y := nI (rn M i)) (hlen) ?_
    refine lv_icmp_ge (tgt := 16) hx hb dX1_isTaken_9 (by decide) (fun c4 => absurd c4 (nI_ge hj2 (by omega))) (fun c4 => ?_)
    refine lv_iconst (v := 1) hx hb dX1_isTaken_12 (by decide) ?_
    refine lv_goto (tgt := 17) hx hb dX1_isTaken_13 (by decide) ?_
    exact wd_iret (O := (dkO G)) hx hb hr hlocks hK hP hS (by decide) dX1_isTaken_17 (by simp only [hd, tkv]) (rfl)
set_option maxRecDepth 100000 in
set_option maxHeartbeats 4000000 in
theorem c_X1_slotAt {l : Launch} {G : DG} (hj : wj (dkO G)) {M : Mem} (hok : dk_ok M) {i : Nat} (hi : i < 4) (sz : Nat) (x : Int32) : Met l yX1_slotAt wsX1_slotAt ({ frames := 1, cells := 0, slots := 0, locals := 21 }) (va_Pc [.ref (wa (dkO G) (13 + i)), .int x] (wp (dkO G) sz M)) (wQi (dkO G) sz (slA M i x) (M)) 0 0 (wA (dkO G) sz) := by
  obtain ⟨hn6, hlen⟩ := hok i hi
  rcases op_cases (dN x (rn M i)) with hd | ⟨j2, hd⟩
  · refine wd_ofW (O := (dkO G)) (M := M) (Qc := fun z => wQi (dkO G) z (slA M i x) (M)) (cc := cX1_slotAt) (maxL := 2) (ret := (some .int)) (lv := [(0, .ref (wa (dkO G) (13 + i))), (1, .int x)]) (by decide) rfl (Nat.le_of_ble_eq_true rfl) rfl ?_
    intro p e s m below meth c ls hx hb hr hml hown hts hlocks hP hK hS hl
    have hi1 : ∀ w ∈ wsX10, w ∈ wsX1_slotAt := by decide +kernel
    refine lv_aload_n hx hb dX1_slotAt_0 rfl (lv_at hl 0 rfl) ?_
    refine lv_iload_n hx hb dX1_slotAt_1 rfl (lv_at hl 1 rfl) ?_
    refine wd_ci (O := (dkO G)) hS (va_runV (As := [.int x]) (rest := []) ⟨hx, hb, hml, hown, hts⟩ (c_X1_isTaken (G := G) hj hok (by omega) s.heap.size x) (cwV 1 hts gX1_slotAt_X1_isTaken rfl rfl rfl (by decide +kernel) ⟨Nat.le_of_ble_eq_true rfl, Nat.le_of_ble_eq_true rfl⟩) (wd_pre hK hP (dk_lt (by omega)) (dE_row (by omega)) rfl) rfl rfl hl.1 rfl (lv_room (Nat.le_of_ble_eq_true rfl)) dX1_slotAt_2 ⟨Nat.le_of_ble_eq_true rfl, Nat.le_of_ble_eq_true rfl⟩) (fun H locs hP hS => ?_)
    refine wd_re (y := 0) (by rw [hd]; rfl) ?_
    refine lv_if_eq (tgt := 17) hx hb dX1_slotAt_5 (by decide) (fun c1 => ?_) (fun c1 => absurd rfl c1)
    refine lv_iconst (v := (-1)) hx hb dX1_slotAt_17 (by decide) ?_
    exact wd_iret (O := (dkO G)) hx hb hr hlocks hK hP hS rfl dX1_slotAt_18 (by simp only [slA, hd]) (rfl)
  · obtain ⟨hj2, rfl⟩ := dN_some (by omega) hd
    refine wd_ofW (O := (dkO G)) (M := M) (Qc := fun z => wQi (dkO G) z (slA M i (nI j2)) (M)) (cc := cX1_slotAt) (maxL := 2) (ret := (some .int)) (lv := [(0, .ref (wa (dkO G) (13 + i))), (1, .int (nI j2))]) (by decide) rfl (Nat.le_of_ble_eq_true rfl) rfl ?_
    intro p e s m below meth c ls hx hb hr hml hown hts hlocks hP hK hS hl
    have hi1 : ∀ w ∈ wsX10, w ∈ wsX1_slotAt := by decide +kernel
    refine lv_aload_n hx hb dX1_slotAt_0 rfl (lv_at hl 0 rfl) ?_
    refine lv_iload_n hx hb dX1_slotAt_1 rfl (lv_at hl 1 rfl) ?_
    refine wd_ci (O := (dkO G)) hS (va_runV (As := [.int (nI j2)]) (rest := []) ⟨hx, hb, hml, hown, hts⟩ (c_X1_isTaken (G := G) hj hok (by omega) s.heap.size (nI j2)) (cwV 1 hts gX1_slotAt_X1_isTaken rfl rfl rfl (by decide +kernel) ⟨Nat.le_of_ble_eq_true rfl, Nat.le_of_ble_eq_true rfl⟩) (wd_pre hK hP (dk_lt (by omega)) (dE_row (by omega)) rfl) rfl rfl hl.1 rfl (lv_room (Nat.le_of_ble_eq_true rfl)) dX1_slotAt_2 ⟨Nat.le_of_ble_eq_true rfl, Nat.le_of_ble_eq_true rfl⟩) (fun H locs hP hS => ?_)
    refine wd_re (y := 1) (by rw [hd]; rfl) ?_
    refine lv_if_eq (tgt := 17) hx hb dX1_slotAt_5 (by decide) (fun c2 => absurd c2 (by decide)) (fun c2 => ?_)
    refine lv_aload_n hx hb dX1_slotAt_8 rfl (lv_at hl 0 rfl) ?_
    refine wd_get (O := (dkO G)) (v := .ref (wa (dkO G) (17 + i))) hx hb hts hi1 hown hK hP (dk_lt (by omega)) (dE_row (by omega)) rfl 0 (by decide) (hts (.fieldLink RX1 9 "LeaseDesk$Row" "slots" "[I") (by decide +kernel)) (fun _ h9 => h9) rfl dX1_slotAt_9 ?_
    refine lv_iload_n hx hb dX1_slotAt_12 rfl (lv_at hl 1 rfl) ?_
    refine wd_iald (O := (dkO G)) hx hb hK hP (dk_lt (by omega)) 0 (dE_sl (by omega) _) rfl (i := j2) rfl (by omega) (by decide) dX1_slotAt_13 ?_
    refine lv_goto (tgt := 18) hx hb dX1_slotAt_14 (by decide) ?_
    exact wd_iret (O := (dkO G)) hx hb hr hlocks hK hP hS rfl dX1_slotAt_18 (by simp only [slA, hd]) (rfl)
set_option maxRecDepth 100000 in
set_option maxHeartbeats 4000000 in
theorem c_X1_termAt {l : Launch} {G : DG} (hj : wj (dkO G)) {M : Mem} (hok : dk_ok M) {i : Nat} (hi : i < 4) (sz : Nat) (x : Int32) : Met l yX1_termAt wsX1_termAt ({ frames := 1, cells := 0, slots := 0, locals := 21 }) (va_Pc [.ref (wa (dkO G) (13 + i)), .int x] (wp (dkO G) sz M)) (wQi (dkO G) sz (tmA M i x) (M)) 0 0 (wA (dkO G) sz) := by
  obtain ⟨hn6, hlen⟩ := hok i hi
  rcases op_cases (dN x (rn M i)) with hd | ⟨j2, hd⟩
  · refine wd_ofW (O := (dkO G)) (M := M) (Qc := fun z => wQi (dkO G) z (tmA M i x) (M)) (cc := cX1_termAt) (maxL := 2) (ret := (some .int)) (lv := [(0, .ref (wa (dkO G) (13 + i))), (1, .int x)]) (by decide) rfl (Nat.le_of_ble_eq_true rfl) rfl ?_
    intro p e s m below meth c ls hx hb hr hml hown hts hlocks hP hK hS hl
    have hi1 : ∀ w ∈ wsX10, w ∈ wsX1_termAt := by decide +kernel
    refine lv_aload_n hx hb dX1_termAt_0 rfl (lv_at hl 0 rfl) ?_
    refine lv_iload_n hx hb dX1_termAt_1 rfl (lv_at hl 1 rfl) ?_
    refine wd_ci (O := (dkO G)) hS (va_runV (As := [.int x]) (rest := []) ⟨hx, hb, hml, hown, hts⟩ (c_X1_isTaken (G := G) hj hok (by omega) s.heap.size x) (cwV 1 hts gX1_termAt_X1_isTaken rfl rfl rfl (by decide +kernel) ⟨Nat.le_of_ble_eq_true rfl, Nat.le_of_ble_eq_true rfl⟩) (wd_pre hK hP (dk_lt (by omega)) (dE_row (by omega)) rfl) rfl rfl hl.1 rfl (lv_room (Nat.le_of_ble_eq_true rfl)) dX1_termAt_2 ⟨Nat.le_of_ble_eq_true rfl, Nat.le_of_ble_eq_true rfl⟩) (fun H locs hP hS => ?_)
    refine wd_re (y := 0) (by rw [hd]; rfl) ?_
    refine lv_if_eq (tgt := 17) hx hb dX1_termAt_5 (by decide) (fun c1 => ?_) (fun c1 => absurd rfl c1)
    refine lv_iconst (v := 0) hx hb dX1_termAt_17 (by decide) ?_
    exact wd_iret (O := (dkO G)) hx hb hr hlocks hK hP hS rfl dX1_termAt_18 (by simp only [tmA, hd]) (rfl)
  · obtain ⟨hj2, rfl⟩ := dN_some (by omega) hd
    refine wd_ofW (O := (dkO G)) (M := M) (Qc := fun z => wQi (dkO G) z (tmA M i (nI j2)) (M)) (cc := cX1_termAt) (maxL := 2) (ret := (some .int)) (lv := [(0, .ref (wa (dkO G) (13 + i))), (1, .int (nI j2))]) (by decide) rfl (Nat.le_of_ble_eq_true rfl) rfl ?_
    intro p e s m below meth c ls hx hb hr hml hown hts hlocks hP hK hS hl
    have hi1 : ∀ w ∈ wsX10, w ∈ wsX1_termAt := by decide +kernel
    refine lv_aload_n hx hb dX1_termAt_0 rfl (lv_at hl 0 rfl) ?_
    refine lv_iload_n hx hb dX1_termAt_1 rfl (lv_at hl 1 rfl) ?_
    refine wd_ci (O := (dkO G)) hS (va_runV (As := [.int (nI j2)]) (rest := []) ⟨hx, hb, hml, hown, hts⟩ (c_X1_isTaken (G := G) hj hok (by omega) s.heap.size (nI j2)) (cwV 1 hts gX1_termAt_X1_isTaken rfl rfl rfl (by decide +kernel) ⟨Nat.le_of_ble_eq_true rfl, Nat.le_of_ble_eq_true rfl⟩) (wd_pre hK hP (dk_lt (by omega)) (dE_row (by omega)) rfl) rfl rfl hl.1 rfl (lv_room (Nat.le_of_ble_eq_true rfl)) dX1_termAt_2 ⟨Nat.le_of_ble_eq_true rfl, Nat.le_of_ble_eq_true rfl⟩) (fun H locs hP hS => ?_)
    refine wd_re (y := 1) (by rw [hd]; rfl) ?_
    refine lv_if_eq (tgt := 17) hx hb dX1_termAt_5 (by decide) (fun c2 => absurd c2 (by decide)) (fun c2 => ?_)
    refine lv_aload_n hx hb dX1_termAt_8 rfl (lv_at hl 0 rfl) ?_
    refine wd_get (O := (dkO G)) (v := .ref (wa (dkO G) (21 + i))) hx hb hts hi1 hown hK hP (dk_lt (by omega)) (dE_row (by omega)) rfl 1 (by decide) (hts (.fieldLink RX1 15 "LeaseDesk$Row" "terms" "[I") (by decide +kernel)) (fun _ h9 => h9) rfl dX1_termAt_9 ?_
    refine lv_iload_n hx hb dX1_termAt_12 rfl (lv_at hl 1 rfl) ?_
    refine wd_iald (O := (dkO G)) hx hb hK hP (dk_lt (by omega)) 0 (dE_tm (by omega) _) rfl (i := j2) rfl (by omega) (by decide) dX1_termAt_13 ?_
    refine lv_goto (tgt := 18) hx hb dX1_termAt_14 (by decide) ?_
    exact wd_iret (O := (dkO G)) hx hb hr hlocks hK hP hS rfl dX1_termAt_18 (by simp only [tmA, hd]) (rfl)
set_option maxRecDepth 100000 in
set_option maxHeartbeats 4000000 in
theorem c_X1_placeOf {l : Launch} {G : DG} (hj : wj (dkO G)) {M : Mem} (hok : dk_ok M) {i : Nat} (hi : i < 4) (sz : Nat) (x : Int32) : Met l yX1_placeOf wsX1_placeOf ({ frames := 0, cells := 0, slots := 0, locals := 0 }) (va_Pc [.ref (wa (dkO G) (13 + i)), .int x] (wp (dkO G) sz M)) (wQi (dkO G) sz (oI (pl (M (17 + i)) x (rn M i) 0)) (M)) 0 0 (wA (dkO G) sz) := by
  obtain ⟨hn6, hlen⟩ := hok i hi
  refine wd_ofW (O := (dkO G)) (M := M) (Qc := fun z => wQi (dkO G) z (oI (pl (M (17 + i)) x (rn M i) 0)) (M)) (cc := cX1_placeOf) (maxL := 3) (ret := (some .int)) (lv := [(0, .ref (wa (dkO G) (13 + i))), (1, .int x)]) (by decide) rfl (Nat.le_of_ble_eq_true rfl) rfl ?_
  intro p e s m below meth c ls hx hb hr hml hown hts hlocks hP hK hS hl
  have hi1 : ∀ w ∈ wsX10, w ∈ wsX1_placeOf := by decide +kernel
  refine lv_iconst (v := 0) hx hb dX1_placeOf_0 (by decide) ?_
  refine lv_istore_n (lv' := [(2, .int 0), (0, .ref (wa (dkO G) (13 + i))), (1, .int x)]) hx hb dX1_placeOf_1 rfl hl (by decide) rfl (fun ls hl => ?_)
  refine wl_loop (pc := 2) (fun k j N v ls H locs => (j + k = rn M i) ∧ (oI (pl (M (17 + i)) x (rn M i) 0) = oI (pl (M (17 + i)) x k j)) ∧ va_P (wD (dkO G)) vwCl (wd (dkO G) M) H ∧ va_S (wA (dkO G) s.heap.size) s.heap H locs ∧ lv_has ls 3 [(2, .int (nI j)), (0, .ref (wa (dkO G) (13 + i))), (1, .int x)]) ?_ ?_ (rn M i) 0 M 0 ⟨by omega, rfl, hP, hS, lv_sub hl [0, 1, 2] rfl⟩
  · rintro j N v ls H locs ⟨h1, h2, hP, hS, hl⟩
    refine lv_iload_n hx hb dX1_placeOf_2 rfl (lv_at hl 0 rfl) ?_
    refine lv_aload_n hx hb dX1_placeOf_3 rfl (lv_at hl 1 rfl) ?_
    refine wd_get (O := (dkO G)) (v := .int (M (13 + i) 2)) hx hb hts hi1 hown hK hP (dk_lt (by omega)) (dE_row (by omega)) rfl 2 (by decide) (hts (.fieldLink RX1 26 "LeaseDesk$Row" "length" "I") (by decide +kernel)) (fun _ h9 => h9) rfl dX1_placeOf_4 ?_
    refine wd_re (y := nI (rn M i)) (hlen) ?_
    refine lv_icmp_ge (tgt := 28) hx hb dX1_placeOf_7 (by decide) (fun c1 => ?_) (fun c1 => absurd (nI_le (by omega) (by omega)) c1)
    refine lv_iconst (v := (-1)) hx hb dX1_placeOf_28 (by decide) ?_
    exact wd_iret (O := (dkO G)) hx hb hr hlocks hK hP hS rfl dX1_placeOf_29 (by rw [h2]; rfl) (rfl)
  · rintro k j N v ls H locs ih ⟨h1, h2, hP, hS, hl⟩
    refine lv_iload_n hx hb dX1_placeOf_2 rfl (lv_at hl 0 rfl) ?_
    refine lv_aload_n hx hb dX1_placeOf_3 rfl (lv_at hl 1 rfl) ?_
    refine wd_get (O := (dkO G)) (v := .int (M (13 + i) 2)) hx hb hts hi1 hown hK hP (dk_lt (by omega)) (dE_row (by omega)) rfl 2 (by decide) (hts (.fieldLink RX1 26 "LeaseDesk$Row" "length" "I") (by decide +kernel)) (fun _ h9 => h9) rfl dX1_placeOf_4 ?_
    refine wd_re (y := nI (rn M i)) (hlen) ?_
    refine lv_icmp_ge (tgt := 28) hx hb dX1_placeOf_7 (by decide) (fun c2 => absurd c2 (nI_ge (by omega) (by omega))) (fun c2 => ?_)
    refine lv_aload_n hx hb dX1_placeOf_10 rfl (lv_at hl 1 rfl) ?_
    refine wd_get (O := (dkO G)) (v := .ref (wa (dkO G) (17 + i))) hx hb hts hi1 hown hK hP (dk_lt (by omega)) (dE_row (by omega)) rfl 0 (by decide) (hts (.fieldLink RX1 9 "LeaseDesk$Row" "slots" "[I") (by decide +kernel)) (fun _ h9 => h9) rfl dX1_placeOf_11 ?_
    refine lv_iload_n hx hb dX1_placeOf_14 rfl (lv_at hl 0 rfl) ?_
    refine wd_iald (O := (dkO G)) hx hb hK hP (dk_lt (by omega)) 0 (dE_sl (by omega) _) rfl (i := j) rfl (by omega) (by decide) dX1_placeOf_15 ?_
    refine lv_iload_n hx hb dX1_placeOf_16 rfl (lv_at hl 2 rfl) ?_
    refine lv_icmp_ne (tgt := 22) hx hb dX1_placeOf_17 (by decide) (fun c3 => ?_) (fun c3 => ?_)
    · refine lv_iinc (v := nI (j + 1)) (lv' := [(2, .int (nI (j + 1))), (0, .ref (wa (dkO G) (13 + i))), (1, .int x)]) hx hb dX1_placeOf_22 hl (k := 0) rfl (nI_1 j) (by decide) rfl (fun ls hl => ?_)
      refine lv_goto (tgt := 2) hx hb dX1_placeOf_25 (by decide) ?_
      exact ih (j + 1) N v ls H locs ⟨by omega, by rw [h2]; simp only [pl, if_neg c3], hP, hS, lv_sub hl [0, 1, 2] rfl⟩
    · refine lv_iload_n hx hb dX1_placeOf_20 rfl (lv_at hl 0 rfl) ?_
      exact wd_iret (O := (dkO G)) hx hb hr hlocks hK hP hS rfl dX1_placeOf_21 (by rw [h2]; simp only [pl, if_pos c3, oI]) (rfl)
set_option maxRecDepth 100000 in
set_option maxHeartbeats 4000000 in
theorem c_X1_ask {l : Launch} {G : DG} (hj : wj (dkO G)) {M : Mem} (hok : dk_ok M) {i : Nat} (hi : i < 4) (sz : Nat) (x t : Int32) : Met l yX1_ask wsX1_ask ({ frames := 1, cells := 0, slots := 0, locals := 22 }) (va_Pc [.ref (wa (dkO G) (13 + i)), .int x, .int t] (wp (dkO G) sz M)) (wQv (dkO G) sz (askM M i x t)) 0 0 (wA (dkO G) sz) := by
  obtain ⟨hn6, hlen⟩ := hok i hi
  rcases op_cases (pl (M (17 + i)) x (rn M i) 0) with hd | ⟨j2, hd⟩
  · refine wd_ofW (O := (dkO G)) (M := M) (Qc := fun z => wQv (dkO G) z (askM M i x t)) (cc := cX1_ask) (maxL := 4) (ret := none) (lv := [(0, .ref (wa (dkO G) (13 + i))), (1, .int x), (2, .int t)]) (by decide) rfl (Nat.le_of_ble_eq_true rfl) rfl ?_
    intro p e s m below meth c ls hx hb hr hml hown hts hlocks hP hK hS hl
    have hi1 : ∀ w ∈ wsX10, w ∈ wsX1_ask := by decide +kernel
    refine lv_aload_n hx hb dX1_ask_0 rfl (lv_at hl 0 rfl) ?_
    refine lv_iload_n hx hb dX1_ask_1 rfl (lv_at hl 1 rfl) ?_
    refine wd_ci (O := (dkO G)) hS (va_runV (As := [.int x]) (rest := []) ⟨hx, hb, hml, hown, hts⟩ (c_X1_placeOf (G := G) hj hok (by omega) s.heap.size x) (cwV 1 hts gX1_ask_X1_placeOf rfl rfl rfl (by decide +kernel) ⟨Nat.le_of_ble_eq_true rfl, Nat.le_of_ble_eq_true rfl⟩) (wd_pre hK hP (dk_lt (by omega)) (dE_row (by omega)) rfl) rfl rfl hl.1 rfl (lv_room (Nat.le_of_ble_eq_true rfl)) dX1_ask_2 ⟨Nat.le_of_ble_eq_true rfl, Nat.le_of_ble_eq_true rfl⟩) (fun H locs hP hS => ?_)
    refine wd_re (y := (-1)) (by rw [hd]; rfl) ?_
    refine lv_istore_n (lv' := [(3, .int ((-1))), (0, .ref (wa (dkO G) (13 + i))), (1, .int x), (2, .int t)]) hx hb dX1_ask_5 rfl hl (by decide) rfl (fun ls hl => ?_)
    refine lv_iload_n hx hb dX1_ask_6 rfl (lv_at hl 0 rfl) ?_
    refine lv_iconst (v := (-1)) hx hb dX1_ask_7 (by decide) ?_
    refine lv_icmp_eq (tgt := 21) hx hb dX1_ask_8 (by decide) (fun c1 => ?_) (fun c1 => absurd rfl c1)
    refine lv_aload_n hx hb dX1_ask_21 rfl (lv_at hl 1 rfl) ?_
    refine wd_get (O := (dkO G)) (v := .int (M (13 + i) 2)) hx hb hts hi1 hown hK hP (dk_lt (by omega)) (dE_row (by omega)) rfl 2 (by decide) (hts (.fieldLink RX1 26 "LeaseDesk$Row" "length" "I") (by decide +kernel)) (fun _ h9 => h9) rfl dX1_ask_22 ?_
    refine wd_re (y := nI (rn M i)) (hlen) ?_
    refine lv_bipush (v := 6) hx hb dX1_ask_25 (by decide) ?_
    refine lv_icmp_ge (tgt := 60) hx hb dX1_ask_27 (by decide) (fun c2 => ?_) (fun c2 => ?_)
    · exact wd_vret (O := (dkO G)) hx hb hr hlocks hK hP hS dX1_ask_60 (by simp only [askM, hd, if_pos c2])
    · have hlt : rn M i < 6 := by have : rn M i ≠ 6 := fun e2 => c2 (by rw [e2]; decide); omega
      refine lv_aload_n hx hb dX1_ask_30 rfl (lv_at hl 1 rfl) ?_
      refine wd_get (O := (dkO G)) (v := .ref (wa (dkO G) (17 + i))) hx hb hts hi1 hown hK hP (dk_lt (by omega)) (dE_row (by omega)) rfl 0 (by decide) (hts (.fieldLink RX1 9 "LeaseDesk$Row" "slots" "[I") (by decide +kernel)) (fun _ h9 => h9) rfl dX1_ask_31 ?_
      refine lv_aload_n hx hb dX1_ask_34 rfl (lv_at hl 1 rfl) ?_
      refine wd_get (O := (dkO G)) (v := .int (M (13 + i) 2)) hx hb hts hi1 hown hK hP (dk_lt (by omega)) (dE_row (by omega)) rfl 2 (by decide) (hts (.fieldLink RX1 26 "LeaseDesk$Row" "length" "I") (by decide +kernel)) (fun _ h9 => h9) rfl dX1_ask_35 ?_
      refine wd_re (y := nI (rn M i)) (hlen) ?_
      refine lv_iload_n hx hb dX1_ask_38 rfl (lv_at hl 2 rfl) ?_
      refine wd_iast (O := (dkO G)) hj hx hb hK hP hS (dk_lt (by omega)) 0 (dE_sl (by omega)) rfl (i := (rn M i)) rfl hlt (by decide) dX1_ask_39 (fun H locs hP hS => ?_)
      refine lv_aload_n hx hb dX1_ask_40 rfl (lv_at hl 1 rfl) ?_
      refine wd_get (O := (dkO G)) (v := .ref (wa (dkO G) (21 + i))) hx hb hts hi1 hown hK hP (dk_lt (by omega)) (dE_row (by omega)) rfl 1 (by decide) (hts (.fieldLink RX1 15 "LeaseDesk$Row" "terms" "[I") (by decide +kernel)) (fun _ h9 => h9) rfl dX1_ask_41 ?_
      refine lv_aload_n hx hb dX1_ask_44 rfl (lv_at hl 1 rfl) ?_
      refine wd_get (O := (dkO G)) (v := .int ((up M (17 + i) ((rn M i)) x) (13 + i) 2)) hx hb hts hi1 hown hK hP (dk_lt (by omega)) (dE_row (by omega)) rfl 2 (by decide) (hts (.fieldLink RX1 26 "LeaseDesk$Row" "length" "I") (by decide +kernel)) (fun _ h9 => h9) rfl dX1_ask_45 ?_
      refine wd_re (y := nI (rn M i)) (by rw [up_n (by omega)]; exact hlen) ?_
      refine lv_iload_n hx hb dX1_ask_48 rfl (lv_at hl 3 rfl) ?_
      refine wd_iast (O := (dkO G)) hj hx hb hK hP hS (dk_lt (by omega)) 0 (dE_tm (by omega)) rfl (i := (rn M i)) rfl hlt (by decide) dX1_ask_49 (fun H locs hP hS => ?_)
      refine lv_aload_n hx hb dX1_ask_50 rfl (lv_at hl 1 rfl) ?_
      refine lv_dup hx hb dX1_ask_51 rfl ?_
      refine wd_get (O := (dkO G)) (v := .int ((up (up M (17 + i) ((rn M i)) x) (21 + i) ((rn M i)) t) (13 + i) 2)) hx hb hts hi1 hown hK hP (dk_lt (by omega)) (dE_row (by omega)) rfl 2 (by decide) (hts (.fieldLink RX1 26 "LeaseDesk$Row" "length" "I") (by decide +kernel)) (fun _ h9 => h9) rfl dX1_ask_52 ?_
      refine wd_re (y := nI (rn M i)) (by rw [up_n (by omega), up_n (by omega)]; exact hlen) ?_
      refine lv_iconst (v := 1) hx hb dX1_ask_55 (by decide) ?_
      refine lv_iadd hx hb dX1_ask_56 ?_
      refine wd_re (y := nI (rn M i + 1)) (nI_1 _) ?_
      refine wd_put (O := (dkO G)) (ty := .int) hj hx hb hts hi1 tyX1 tyX1_ok nmX1 hown hK hP hS (dk_lt (by omega)) (dE_row (by omega)) rfl 2 (by decide) (hts (.fieldLink RX1 26 "LeaseDesk$Row" "length" "I") (by decide +kernel)) (fun _ h9 => h9) rfl (by decide +kernel) rfl rfl (Nat.le_of_ble_eq_true rfl) ((dE_row (by omega)).trans rfl) dX1_ask_57 (fun H locs hP hS => ?_)
      exact wd_vret (O := (dkO G)) hx hb hr hlocks hK hP hS dX1_ask_60 (by simp only [askM, hd, if_neg c2])
  · obtain ⟨-, hj2, hg2, -⟩ := pl_some hd
    refine wd_ofW (O := (dkO G)) (M := M) (Qc := fun z => wQv (dkO G) z (askM M i x t)) (cc := cX1_ask) (maxL := 4) (ret := none) (lv := [(0, .ref (wa (dkO G) (13 + i))), (1, .int x), (2, .int t)]) (by decide) rfl (Nat.le_of_ble_eq_true rfl) rfl ?_
    intro p e s m below meth c ls hx hb hr hml hown hts hlocks hP hK hS hl
    have hi1 : ∀ w ∈ wsX10, w ∈ wsX1_ask := by decide +kernel
    refine lv_aload_n hx hb dX1_ask_0 rfl (lv_at hl 0 rfl) ?_
    refine lv_iload_n hx hb dX1_ask_1 rfl (lv_at hl 1 rfl) ?_
    refine wd_ci (O := (dkO G)) hS (va_runV (As := [.int x]) (rest := []) ⟨hx, hb, hml, hown, hts⟩ (c_X1_placeOf (G := G) hj hok (by omega) s.heap.size x) (cwV 1 hts gX1_ask_X1_placeOf rfl rfl rfl (by decide +kernel) ⟨Nat.le_of_ble_eq_true rfl, Nat.le_of_ble_eq_true rfl⟩) (wd_pre hK hP (dk_lt (by omega)) (dE_row (by omega)) rfl) rfl rfl hl.1 rfl (lv_room (Nat.le_of_ble_eq_true rfl)) dX1_ask_2 ⟨Nat.le_of_ble_eq_true rfl, Nat.le_of_ble_eq_true rfl⟩) (fun H locs hP hS => ?_)
    refine wd_re (y := nI j2) (by rw [hd]; rfl) ?_
    refine lv_istore_n (lv' := [(3, .int (nI j2)), (0, .ref (wa (dkO G) (13 + i))), (1, .int x), (2, .int t)]) hx hb dX1_ask_5 rfl hl (by decide) rfl (fun ls hl => ?_)
    refine lv_iload_n hx hb dX1_ask_6 rfl (lv_at hl 0 rfl) ?_
    refine lv_iconst (v := (-1)) hx hb dX1_ask_7 (by decide) ?_
    refine lv_icmp_eq (tgt := 21) hx hb dX1_ask_8 (by decide) (fun c3 => absurd c3 (nI_ne (by omega))) (fun c3 => ?_)
    refine lv_aload_n hx hb dX1_ask_11 rfl (lv_at hl 1 rfl) ?_
    refine wd_get (O := (dkO G)) (v := .ref (wa (dkO G) (21 + i))) hx hb hts hi1 hown hK hP (dk_lt (by omega)) (dE_row (by omega)) rfl 1 (by decide) (hts (.fieldLink RX1 15 "LeaseDesk$Row" "terms" "[I") (by decide +kernel)) (fun _ h9 => h9) rfl dX1_ask_12 ?_
    refine lv_iload_n hx hb dX1_ask_15 rfl (lv_at hl 0 rfl) ?_
    refine lv_iload_n hx hb dX1_ask_16 rfl (lv_at hl 3 rfl) ?_
    refine wd_iast (O := (dkO G)) hj hx hb hK hP hS (dk_lt (by omega)) 0 (dE_tm (by omega)) rfl (i := j2) rfl (by omega) (by decide) dX1_ask_17 (fun H locs hP hS => ?_)
    refine lv_goto (tgt := 60) hx hb dX1_ask_18 (by decide) ?_
    exact wd_vret (O := (dkO G)) hx hb hr hlocks hK hP hS dX1_ask_60 (by simp only [askM, hd])
set_option maxRecDepth 100000 in
set_option maxHeartbeats 4000000 in
theorem c_X1_drop {l : Launch} {G : DG} (hj : wj (dkO G)) {M : Mem} (hok : dk_ok M) {i : Nat} (hi : i < 4) (sz : Nat) (x : Int32) : Met l yX1_drop wsX1_drop ({ frames := 1, cells := 0, slots := 0, locals := 22 }) (va_Pc [.ref (wa (dkO G) (13 + i)), .int x] (wp (dkO G) sz M)) (wQi (dkO G) sz (drv M i x) (drp M i x)) 0 0 (wA (dkO G) sz) := by
  obtain ⟨hn6, hlen⟩ := hok i hi
  rcases op_cases (pl (M (17 + i)) x (rn M i) 0) with hd | ⟨j2, hd⟩
  · refine wd_ofW (O := (dkO G)) (M := M) (Qc := fun z => wQi (dkO G) z (drv M i x) (drp M i x)) (cc := cX1_drop) (maxL := 4) (ret := (some .boolean)) (lv := [(0, .ref (wa (dkO G) (13 + i))), (1, .int x)]) (by decide) rfl (Nat.le_of_ble_eq_true rfl) rfl ?_
    intro p e s m below meth c ls hx hb hr hml hown hts hlocks hP hK hS hl
    have hi1 : ∀ w ∈ wsX10, w ∈ wsX1_drop := by decide +kernel
    refine lv_aload_n hx hb dX1_drop_0 rfl (lv_at hl 0 rfl) ?_
    refine lv_iload_n hx hb dX1_drop_1 rfl (lv_at hl 1 rfl) ?_
    refine wd_ci (O := (dkO G)) hS (va_runV (As := [.int x]) (rest := []) ⟨hx, hb, hml, hown, hts⟩ (c_X1_placeOf (G := G) hj hok (by omega) s.heap.size x) (cwV 1 hts gX1_drop_X1_placeOf rfl rfl rfl (by decide +kernel) ⟨Nat.le_of_ble_eq_true rfl, Nat.le_of_ble_eq_true rfl⟩) (wd_pre hK hP (dk_lt (by omega)) (dE_row (by omega)) rfl) rfl rfl hl.1 rfl (lv_room (Nat.le_of_ble_eq_true rfl)) dX1_drop_2 ⟨Nat.le_of_ble_eq_true rfl, Nat.le_of_ble_eq_true rfl⟩) (fun H locs hP hS => ?_)
    refine wd_re (y := (-1)) (by rw [hd]; rfl) ?_
    refine lv_istore_n (lv' := [(2, .int ((-1))), (0, .ref (wa (dkO G) (13 + i))), (1, .int x)]) hx hb dX1_drop_5 rfl hl (by decide) rfl (fun ls hl => ?_)
    refine lv_iload_n hx hb dX1_drop_6 rfl (lv_at hl 0 rfl) ?_
    refine lv_iconst (v := (-1)) hx hb dX1_drop_7 (by decide) ?_
    refine lv_icmp_ne (tgt := 13) hx hb dX1_drop_8 (by decide) (fun c1 => absurd rfl c1) (fun c1 => ?_)
    refine lv_iconst (v := 0) hx hb dX1_drop_11 (by decide) ?_
    exact wd_iret (O := (dkO G)) hx hb hr hlocks hK hP hS (by decide) dX1_drop_12 (by simp only [drv, hd]) (by simp only [drp, hd])
  · obtain ⟨-, hj2, hg2, -⟩ := pl_some hd
    refine wd_ofW (O := (dkO G)) (M := M) (Qc := fun z => wQi (dkO G) z (drv M i x) (drp M i x)) (cc := cX1_drop) (maxL := 4) (ret := (some .boolean)) (lv := [(0, .ref (wa (dkO G) (13 + i))), (1, .int x)]) (by decide) rfl (Nat.le_of_ble_eq_true rfl) rfl ?_
    intro p e s m below meth c ls hx hb hr hml hown hts hlocks hP hK hS hl
    have hi1 : ∀ w ∈ wsX10, w ∈ wsX1_drop := by decide +kernel
    refine lv_aload_n hx hb dX1_drop_0 rfl (lv_at hl 0 rfl) ?_
    refine lv_iload_n hx hb dX1_drop_1 rfl (lv_at hl 1 rfl) ?_
    refine wd_ci (O := (dkO G)) hS (va_runV (As := [.int x]) (rest := []) ⟨hx, hb, hml, hown, hts⟩ (c_X1_placeOf (G := G) hj hok (by omega) s.heap.size x) (cwV 1 hts gX1_drop_X1_placeOf rfl rfl rfl (by decide +kernel) ⟨Nat.le_of_ble_eq_true rfl, Nat.le_of_ble_eq_true rfl⟩) (wd_pre hK hP (dk_lt (by omega)) (dE_row (by omega)) rfl) rfl rfl hl.1 rfl (lv_room (Nat.le_of_ble_eq_true rfl)) dX1_drop_2 ⟨Nat.le_of_ble_eq_true rfl, Nat.le_of_ble_eq_true rfl⟩) (fun H locs hP hS => ?_)
    refine wd_re (y := nI j2) (by rw [hd]; rfl) ?_
    refine lv_istore_n (lv' := [(2, .int (nI j2)), (0, .ref (wa (dkO G) (13 + i))), (1, .int x)]) hx hb dX1_drop_5 rfl hl (by decide) rfl (fun ls hl => ?_)
    refine lv_iload_n hx hb dX1_drop_6 rfl (lv_at hl 0 rfl) ?_
    refine lv_iconst (v := (-1)) hx hb dX1_drop_7 (by decide) ?_
    refine lv_icmp_ne (tgt := 13) hx hb dX1_drop_8 (by decide) (fun c2 => ?_) (fun c2 => absurd c2 (nI_ne (by omega)))
    refine lv_aload_n hx hb dX1_drop_13 rfl (lv_at hl 1 rfl) ?_
    refine lv_dup hx hb dX1_drop_14 rfl ?_
    refine wd_get (O := (dkO G)) (v := .int (M (13 + i) 2)) hx hb hts hi1 hown hK hP (dk_lt (by omega)) (dE_row (by omega)) rfl 2 (by decide) (hts (.fieldLink RX1 26 "LeaseDesk$Row" "length" "I") (by decide +kernel)) (fun _ h9 => h9) rfl dX1_drop_15 ?_
    refine wd_re (y := nI (rn M i)) (hlen) ?_
    refine lv_iconst (v := 1) hx hb dX1_drop_18 (by decide) ?_
    refine lv_isub hx hb dX1_drop_19 ?_
    refine wd_re (y := nI (rn M i - 1)) (by have := nI_pred (rn M i - 1); rw [show rn M i - 1 + 1 = rn M i by omega] at this; exact this) ?_
    refine wd_put (O := (dkO G)) (ty := .int) hj hx hb hts hi1 tyX1 tyX1_ok nmX1 hown hK hP hS (dk_lt (by omega)) (dE_row (by omega)) rfl 2 (by decide) (hts (.fieldLink RX1 26 "LeaseDesk$Row" "length" "I") (by decide +kernel)) (fun _ h9 => h9) rfl (by decide +kernel) rfl rfl (Nat.le_of_ble_eq_true rfl) ((dE_row (by omega)).trans rfl) dX1_drop_20 (fun H locs hP hS => ?_)
    refine lv_iload_n hx hb dX1_drop_23 rfl (lv_at hl 0 rfl) ?_
    refine lv_istore_n (lv' := [(3, .int (nI j2)), (2, .int (nI j2)), (0, .ref (wa (dkO G) (13 + i))), (1, .int x)]) hx hb dX1_drop_24 rfl hl (by decide) rfl (fun ls hl => ?_)
    refine wl_loop (pc := 25) (fun k j N v ls H locs => (j + k = rn M i - 1) ∧ (shf i k j N = drp M i x) ∧ (N (13 + i) 2 = nI (rn M i - 1)) ∧ va_P (wD (dkO G)) vwCl (wd (dkO G) N) H ∧ va_S (wA (dkO G) s.heap.size) s.heap H locs ∧ lv_has ls 4 [(3, .int (nI j)), (0, .ref (wa (dkO G) (13 + i)))]) ?_ ?_ (rn M i - 1 - j2) j2 (up M (13 + i) 2 (nI (rn M i - 1))) 0 ⟨by omega, by simp only [drp, hd], up_s _ _ _ _, hP, hS, lv_sub hl [0, 2] rfl⟩
    · rintro j N v ls H locs ⟨h1, h2, h3, hP, hS, hl⟩
      refine lv_iload_n hx hb dX1_drop_25 rfl (lv_at hl 0 rfl) ?_
      refine lv_aload_n hx hb dX1_drop_26 rfl (lv_at hl 1 rfl) ?_
      refine wd_get (O := (dkO G)) (v := .int (N (13 + i) 2)) hx hb hts hi1 hown hK hP (dk_lt (by omega)) (dE_row (by omega)) rfl 2 (by decide) (hts (.fieldLink RX1 26 "LeaseDesk$Row" "length" "I") (by decide +kernel)) (fun _ h9 => h9) rfl dX1_drop_27 ?_
      refine wd_re (y := nI (rn M i - 1)) (h3) ?_
      refine lv_icmp_ge (tgt := 67) hx hb dX1_drop_30 (by decide) (fun c3 => ?_) (fun c3 => absurd (nI_le (by omega) (by omega)) c3)
      refine lv_iconst (v := 1) hx hb dX1_drop_67 (by decide) ?_
      exact wd_iret (O := (dkO G)) hx hb hr hlocks hK hP hS (by decide) dX1_drop_68 (by simp only [drv, hd]) (h2)
    · rintro k j N v ls H locs ih ⟨h1, h2, h3, hP, hS, hl⟩
      refine lv_iload_n hx hb dX1_drop_25 rfl (lv_at hl 0 rfl) ?_
      refine lv_aload_n hx hb dX1_drop_26 rfl (lv_at hl 1 rfl) ?_
      refine wd_get (O := (dkO G)) (v := .int (N (13 + i) 2)) hx hb hts hi1 hown hK hP (dk_lt (by omega)) (dE_row (by omega)) rfl 2 (by decide) (hts (.fieldLink RX1 26 "LeaseDesk$Row" "length" "I") (by decide +kernel)) (fun _ h9 => h9) rfl dX1_drop_27 ?_
      refine wd_re (y := nI (rn M i - 1)) (h3) ?_
      refine lv_icmp_ge (tgt := 67) hx hb dX1_drop_30 (by decide) (fun c4 => absurd c4 (nI_ge (by omega) (by omega))) (fun c4 => ?_)
      refine lv_aload_n hx hb dX1_drop_33 rfl (lv_at hl 1 rfl) ?_
      refine wd_get (O := (dkO G)) (v := .ref (wa (dkO G) (17 + i))) hx hb hts hi1 hown hK hP (dk_lt (by omega)) (dE_row (by omega)) rfl 0 (by decide) (hts (.fieldLink RX1 9 "LeaseDesk$Row" "slots" "[I") (by decide +kernel)) (fun _ h9 => h9) rfl dX1_drop_34 ?_
      refine lv_iload_n hx hb dX1_drop_37 rfl (lv_at hl 0 rfl) ?_
      refine lv_aload_n hx hb dX1_drop_38 rfl (lv_at hl 1 rfl) ?_
      refine wd_get (O := (dkO G)) (v := .ref (wa (dkO G) (17 + i))) hx hb hts hi1 hown hK hP (dk_lt (by omega)) (dE_row (by omega)) rfl 0 (by decide) (hts (.fieldLink RX1 9 "LeaseDesk$Row" "slots" "[I") (by decide +kernel)) (fun _ h9 => h9) rfl dX1_drop_39 ?_
      refine lv_iload_n hx hb dX1_drop_42 rfl (lv_at hl 0 rfl) ?_
      refine lv_iconst (v := 1) hx hb dX1_drop_43 (by decide) ?_
      refine lv_iadd hx hb dX1_drop_44 ?_
      refine wd_re (y := nI (j + 1)) (nI_1 _) ?_
      refine wd_iald (O := (dkO G)) hx hb hK hP (dk_lt (by omega)) 0 (dE_sl (by omega) _) rfl (i := (j + 1)) rfl (by omega) (by decide) dX1_drop_45 ?_
      refine wd_iast (O := (dkO G)) hj hx hb hK hP hS (dk_lt (by omega)) 0 (dE_sl (by omega)) rfl (i := j) rfl (by omega) (by decide) dX1_drop_46 (fun H locs hP hS => ?_)
      refine lv_aload_n hx hb dX1_drop_47 rfl (lv_at hl 1 rfl) ?_
      refine wd_get (O := (dkO G)) (v := .ref (wa (dkO G) (21 + i))) hx hb hts hi1 hown hK hP (dk_lt (by omega)) (dE_row (by omega)) rfl 1 (by decide) (hts (.fieldLink RX1 15 "LeaseDesk$Row" "terms" "[I") (by decide +kernel)) (fun _ h9 => h9) rfl dX1_drop_48 ?_
      refine lv_iload_n hx hb dX1_drop_51 rfl (lv_at hl 0 rfl) ?_
      refine lv_aload_n hx hb dX1_drop_52 rfl (lv_at hl 1 rfl) ?_
      refine wd_get (O := (dkO G)) (v := .ref (wa (dkO G) (21 + i))) hx hb hts hi1 hown hK hP (dk_lt (by omega)) (dE_row (by omega)) rfl 1 (by decide) (hts (.fieldLink RX1 15 "LeaseDesk$Row" "terms" "[I") (by decide +kernel)) (fun _ h9 => h9) rfl dX1_drop_53 ?_
      refine lv_iload_n hx hb dX1_drop_56 rfl (lv_at hl 0 rfl) ?_
      refine lv_iconst (v := 1) hx hb dX1_drop_57 (by decide) ?_
      refine lv_iadd hx hb dX1_drop_58 ?_
      refine wd_re (y := nI (j + 1)) (nI_1 _) ?_
      refine wd_iald (O := (dkO G)) hx hb hK hP (dk_lt (by omega)) 0 (dE_tm (by omega) _) rfl (i := (j + 1)) rfl (by omega) (by decide) dX1_drop_59 ?_
      refine wd_iast (O := (dkO G)) hj hx hb hK hP hS (dk_lt (by omega)) 0 (dE_tm (by omega)) rfl (i := j) rfl (by omega) (by decide) dX1_drop_60 (fun H locs hP hS => ?_)
      refine lv_iinc (v := nI (j + 1)) (lv' := [(3, .int (nI (j + 1))), (0, .ref (wa (dkO G) (13 + i)))]) hx hb dX1_drop_61 hl (k := 0) rfl (nI_1 j) (by decide) rfl (fun ls hl => ?_)
      refine lv_goto (tgt := 25) hx hb dX1_drop_64 (by decide) ?_
      exact ih (j + 1) (up (up N (17 + i) j (N (17 + i) ((j + 1)))) (21 + i) j ((up N (17 + i) j (N (17 + i) ((j + 1)))) (21 + i) ((j + 1)))) v ls H locs ⟨by omega, by rw [← h2]; rfl, by rw [up_n (by omega), up_n (by omega)]; exact h3, hP, hS, lv_sub hl [0, 1] rfl⟩
