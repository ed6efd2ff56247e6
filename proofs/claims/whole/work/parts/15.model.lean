set_option maxRecDepth 100000 in
set_option maxHeartbeats 4000000 in
theorem c_X4_thrown {l : Launch} {G : MG} (hj : wj (mdO G)) {M : Mem} (sz : Nat) : Met l yX4_thrown wsX4_thrown ({ frames := 0, cells := 0, slots := 0, locals := 0 }) (va_Pc [.ref (wa (mdO G) 0)] (wp (mdO G) sz M)) (wQi (mdO G) sz (M 0 1) (M)) 0 0 (wA (mdO G) sz) := by
  refine wd_ofW (O := (mdO G)) (M := M) (Qc := fun z => wQi (mdO G) z (M 0 1) (M)) (cc := cX4_thrown) (maxL := 1) (ret := (some .int)) (lv := [(0, .ref (wa (mdO G) 0))]) (by decide) rfl (Nat.le_of_ble_eq_true rfl) rfl ?_
  intro p e s m below meth c ls hx hb hr hml hown hts hlocks hP hK hS hl
  have hi4 : ∀ w ∈ wsX40, w ∈ wsX4_thrown := by decide +kernel
  refine lv_aload_n hx hb dX4_thrown_0 rfl (lv_at hl 0 rfl) ?_
  refine wd_get (O := (mdO G)) (v := .int (M 0 1)) hx hb hts hi4 hown hK hP (md_lt (by omega)) mE_0 rfl 1 (by decide) (hts (.fieldLink RX4 50 "LeaseDeskModel" "thrown" "I") (by decide +kernel)) (fun _ h9 => h9) rfl dX4_thrown_1 ?_
  exact wd_iret (O := (mdO G)) hx hb hr hlocks hK hP hS rfl dX4_thrown_4 (rfl) (rfl)
set_option maxRecDepth 100000 in
set_option maxHeartbeats 4000000 in
theorem c_X4_time {l : Launch} {G : MG} (hj : wj (mdO G)) {M : Mem} (sz : Nat) : Met l yX4_time wsX4_time ({ frames := 0, cells := 0, slots := 0, locals := 0 }) (va_Pc [.ref (wa (mdO G) 0)] (wp (mdO G) sz M)) (wQi (mdO G) sz (M 0 0) (M)) 0 0 (wA (mdO G) sz) := by
  refine wd_ofW (O := (mdO G)) (M := M) (Qc := fun z => wQi (mdO G) z (M 0 0) (M)) (cc := cX4_time) (maxL := 1) (ret := (some .int)) (lv := [(0, .ref (wa (mdO G) 0))]) (by decide) rfl (Nat.le_of_ble_eq_true rfl) rfl ?_
  intro p e s m below meth c ls hx hb hr hml hown hts hlocks hP hK hS hl
  have hi4 : ∀ w ∈ wsX40, w ∈ wsX4_time := by decide +kernel
  refine lv_aload_n hx hb dX4_time_0 rfl (lv_at hl 0 rfl) ?_
  refine wd_get (O := (mdO G)) (v := .int (M 0 0)) hx hb hts hi4 hown hK hP (md_lt (by omega)) mE_0 rfl 0 (by decide) (hts (.fieldLink RX4 54 "LeaseDeskModel" "time" "I") (by decide +kernel)) (fun _ h9 => h9) rfl dX4_time_1 ?_
  exact wd_iret (O := (mdO G)) hx hb hr hlocks hK hP hS rfl dX4_time_4 (rfl) (rfl)
set_option maxRecDepth 100000 in
set_option maxHeartbeats 4000000 in
theorem c_X4_isOpen {l : Launch} {G : MG} (hj : wj (mdO G)) {M : Mem} (sz : Nat) (x : Int32) : Met l yX4_isOpen wsX4_isOpen ({ frames := 0, cells := 0, slots := 0, locals := 0 }) (va_Pc [.ref (wa (mdO G) 0), .int x] (wp (mdO G) sz M)) (wQi (mdO G) sz (tkv (moV M x)) (M)) 0 0 (wA (mdO G) sz) := by
  rcases op_cases (dN x 6) with hd | ⟨j2, hd⟩
  · refine wd_ofW (O := (mdO G)) (M := M) (Qc := fun z => wQi (mdO G) z (tkv (moV M x)) (M)) (cc := cX4_isOpen) (maxL := 2) (ret := (some .boolean)) (lv := [(0, .ref (wa (mdO G) 0)), (1, .int x)]) (by decide) rfl (Nat.le_of_ble_eq_true rfl) rfl ?_
    intro p e s m below meth c ls hx hb hr hml hown hts hlocks hP hK hS hl
    have hi4 : ∀ w ∈ wsX40, w ∈ wsX4_isOpen := by decide +kernel
    refine lv_iload_n hx hb dX4_isOpen_0 rfl (lv_at hl 1 rfl) ?_
    refine lv_if_lt (tgt := 23) hx hb dX4_isOpen_1 (by decide) (fun c1 => ?_) (fun c1 => ?_)
    · refine lv_iconst (v := 0) hx hb dX4_isOpen_23 (by decide) ?_
      exact wd_iret (O := (mdO G)) hx hb hr hlocks hK hP hS (by decide) dX4_isOpen_24 (by simp only [moV, hd, tkv]) (rfl)
    · refine lv_iload_n hx hb dX4_isOpen_4 rfl (lv_at hl 1 rfl) ?_
      refine lv_bipush (v := 6) hx hb dX4_isOpen_5 (by decide) ?_
      refine lv_icmp_ge (tgt := 23) hx hb dX4_isOpen_7 (by decide) (fun c2 => ?_) (fun c2 => absurd (dN_none hd c1) c2)
      refine lv_iconst (v := 0) hx hb dX4_isOpen_23 (by decide) ?_
      exact wd_iret (O := (mdO G)) hx hb hr hlocks hK hP hS (by decide) dX4_isOpen_24 (by simp only [moV, hd, tkv]) (rfl)
  · obtain ⟨hj2, rfl⟩ := dN_some (by decide) hd
    refine wd_ofW (O := (mdO G)) (M := M) (Qc := fun z => wQi (mdO G) z (tkv (moV M (nI j2))) (M)) (cc := cX4_isOpen) (maxL := 2) (ret := (some .boolean)) (lv := [(0, .ref (wa (mdO G) 0)), (1, .int (nI j2))]) (by decide) rfl (Nat.le_of_ble_eq_true rfl) rfl ?_
    intro p e s m below meth c ls hx hb hr hml hown hts hlocks hP hK hS hl
    have hi4 : ∀ w ∈ wsX40, w ∈ wsX4_isOpen := by decide +kernel
    refine lv_iload_n hx hb dX4_isOpen_0 rfl (lv_at hl 1 rfl) ?_
    refine lv_if_lt (tgt := 23) hx hb dX4_isOpen_1 (by decide) (fun c3 => absurd c3 (nI_pos (by omega))) (fun c3 => ?_)
    refine lv_iload_n hx hb dX4_isOpen_4 rfl (lv_at hl 1 rfl) ?_
    refine lv_bipush (v := 6) hx hb dX4_isOpen_5 (by decide) ?_
    refine lv_icmp_ge (tgt := 23) hx hb dX4_isOpen_7 (by decide) (fun c4 => absurd c4 (nI_ge hj2 (by decide))) (fun c4 => ?_)
    refine lv_aload_n hx hb dX4_isOpen_10 rfl (lv_at hl 0 rfl) ?_
    refine wd_get (O := (mdO G)) (v := .ref (wa (mdO G) 1)) hx hb hts hi4 hown hK hP (md_lt (by omega)) mE_0 rfl 3 (by decide) (hts (.fieldLink RX4 9 "LeaseDeskModel" "there" "[Z") (by decide +kernel)) (fun _ h9 => h9) rfl dX4_isOpen_11 ?_
    refine lv_iload_n hx hb dX4_isOpen_14 rfl (lv_at hl 1 rfl) ?_
    refine wd_zald (O := (mdO G)) hx hb hK hP (md_lt (by omega)) 1 (mE_z _) rfl (i := j2) rfl (by omega) (by decide) dX4_isOpen_15 ?_
    refine lv_if_eq (tgt := 23) hx hb dX4_isOpen_16 (by decide) (fun c5 => ?_) (fun c5 => ?_)
    · refine lv_iconst (v := 0) hx hb dX4_isOpen_23 (by decide) ?_
      exact wd_iret (O := (mdO G)) hx hb hr hlocks hK hP hS (by decide) dX4_isOpen_24 (by simp only [moV, hd, if_pos c5, tkv]) (rfl)
    · refine lv_iconst (v := 1) hx hb dX4_isOpen_19 (by decide) ?_
      refine lv_goto (tgt := 24) hx hb dX4_isOpen_20 (by decide) ?_
      exact wd_iret (O := (mdO G)) hx hb hr hlocks hK hP hS (by decide) dX4_isOpen_24 (by simp only [moV, hd, if_neg c5, tkv]) (rfl)
set_option maxRecDepth 100000 in
set_option maxHeartbeats 4000000 in
theorem c_X4_isLock {l : Launch} {G : MG} (hj : wj (mdO G)) {M : Mem} (sz : Nat) (x : Int32) : Met l yX4_isLock wsX4_isLock ({ frames := 0, cells := 0, slots := 0, locals := 0 }) (va_Pc [.int x] (wp (mdO G) sz M)) (wQi (mdO G) sz (tkv (dN x 4)) (M)) 0 0 (wA (mdO G) sz) := by
  rcases op_cases (dN x 4) with hd | ⟨j2, hd⟩
  · refine wd_ofW (O := (mdO G)) (M := M) (Qc := fun z => wQi (mdO G) z (tkv (dN x 4)) (M)) (cc := cX4_isLock) (maxL := 1) (ret := (some .boolean)) (lv := [(0, .int x)]) (by decide) rfl (Nat.le_of_ble_eq_true rfl) rfl ?_
    intro p e s m below meth c ls hx hb hr hml hown hts hlocks hP hK hS hl
    refine lv_iload_n hx hb dX4_isLock_0 rfl (lv_at hl 0 rfl) ?_
    refine lv_if_lt (tgt := 13) hx hb dX4_isLock_1 (by decide) (fun c1 => ?_) (fun c1 => ?_)
    · refine lv_iconst (v := 0) hx hb dX4_isLock_13 (by decide) ?_
      exact wd_iret (O := (mdO G)) hx hb hr hlocks hK hP hS (by decide) dX4_isLock_14 (by simp only [hd, tkv]) (rfl)
    · refine lv_iload_n hx hb dX4_isLock_4 rfl (lv_at hl 0 rfl) ?_
      refine lv_iconst (v := 4) hx hb dX4_isLock_5 (by decide) ?_
      refine lv_icmp_ge (tgt := 13) hx hb dX4_isLock_6 (by decide) (fun c2 => ?_) (fun c2 => absurd (dN_none hd c1) c2)
      refine lv_iconst (v := 0) hx hb dX4_isLock_13 (by decide) ?_
      exact wd_iret (O := (mdO G)) hx hb hr hlocks hK hP hS (by decide) dX4_isLock_14 (by simp only [hd, tkv]) (rfl)
  · obtain ⟨hj2, rfl⟩ := dN_some (by decide) hd
    refine wd_ofW (O := (mdO G)) (M := M) (Qc := fun z => wQi (mdO G) z (tkv (dN (nI j2) 4)) (M)) (cc := cX4_isLock) (maxL := 1) (ret := (some .boolean)) (lv := [(0, .int (nI j2))]) (by decide) rfl (Nat.le_of_ble_eq_true rfl) rfl ?_
    intro p e s m below meth c ls hx hb hr hml hown hts hlocks hP hK hS hl
    refine lv_iload_n hx hb dX4_isLock_0 rfl (lv_at hl 0 rfl) ?_
    refine lv_if_lt (tgt := 13) hx hb dX4_isLock_1 (by decide) (fun c3 => absurd c3 (nI_pos (by omega))) (fun c3 => ?_)
    refine lv_iload_n hx hb dX4_isLock_4 rfl (lv_at hl 0 rfl) ?_
    refine lv_iconst (v := 4) hx hb dX4_isLock_5 (by decide) ?_
    refine lv_icmp_ge (tgt := 13) hx hb dX4_isLock_6 (by decide) (fun c4 => absurd c4 (nI_ge hj2 (by decide))) (fun c4 => ?_)
    refine lv_iconst (v := 1) hx hb dX4_isLock_9 (by decide) ?_
    refine lv_goto (tgt := 14) hx hb dX4_isLock_10 (by decide) ?_
    exact wd_iret (O := (mdO G)) hx hb hr hlocks hK hP hS (by decide) dX4_isLock_14 (by simp only [hd, tkv]) (rfl)
set_option maxRecDepth 100000 in
set_option maxHeartbeats 4000000 in
theorem c_X4_lend {l : Launch} {G : MG} (hj : wj (mdO G)) {M : Mem} (sz : Nat) (i j : Nat) (t : Int32) (hi : i < 4) (hj6 : j < 6) : Met l yX4_lend wsX4_lend ({ frames := 0, cells := 0, slots := 0, locals := 0 }) (va_Pc [.ref (wa (mdO G) 0), .int (nI i), .int (nI j), .int t] (wp (mdO G) sz M)) (wQv (mdO G) sz (mlM M i j t)) 0 0 (wA (mdO G) sz) := by
  refine wd_ofW (O := (mdO G)) (M := M) (Qc := fun z => wQv (mdO G) z (mlM M i j t)) (cc := cX4_lend) (maxL := 4) (ret := none) (lv := [(0, .ref (wa (mdO G) 0)), (1, .int (nI i)), (2, .int (nI j)), (3, .int t)]) (by decide) rfl (Nat.le_of_ble_eq_true rfl) rfl ?_
  intro p e s m below meth c ls hx hb hr hml hown hts hlocks hP hK hS hl
  have hi4 : ∀ w ∈ wsX40, w ∈ wsX4_lend := by decide +kernel
  refine lv_aload_n hx hb dX4_lend_0 rfl (lv_at hl 0 rfl) ?_
  refine wd_get (O := (mdO G)) (v := .ref (wa (mdO G) 5)) hx hb hts hi4 hown hK hP (md_lt (by omega)) mE_0 rfl 7 (by decide) (hts (.fieldLink RX4 23 "LeaseDeskModel" "has" "[I") (by decide +kernel)) (fun _ h9 => h9) rfl dX4_lend_1 ?_
  refine lv_iload_n hx hb dX4_lend_4 rfl (lv_at hl 1 rfl) ?_
  refine lv_iload_n hx hb dX4_lend_5 rfl (lv_at hl 2 rfl) ?_
  refine lv_iconst (v := 1) hx hb dX4_lend_6 (by decide) ?_
  refine lv_iadd hx hb dX4_lend_7 ?_
  refine wd_iast (O := (mdO G)) hj hx hb hK hP hS (md_lt (by omega)) 0 mE_5 rfl (i := i) rfl (by omega) (by decide) dX4_lend_8 (fun H locs hP hS => ?_)
  refine lv_aload_n hx hb dX4_lend_9 rfl (lv_at hl 0 rfl) ?_
  refine wd_get (O := (mdO G)) (v := .ref (wa (mdO G) 6)) hx hb hts hi4 hown hK hP (md_lt (by omega)) mE_0 rfl 8 (by decide) (hts (.fieldLink RX4 26 "LeaseDeskModel" "tokens" "[I") (by decide +kernel)) (fun _ h9 => h9) rfl dX4_lend_10 ?_
  refine lv_iload_n hx hb dX4_lend_13 rfl (lv_at hl 1 rfl) ?_
  refine lv_aload_n hx hb dX4_lend_14 rfl (lv_at hl 0 rfl) ?_
  refine wd_get (O := (mdO G)) (v := .ref (wa (mdO G) 6)) hx hb hts hi4 hown hK hP (md_lt (by omega)) mE_0 rfl 8 (by decide) (hts (.fieldLink RX4 26 "LeaseDeskModel" "tokens" "[I") (by decide +kernel)) (fun _ h9 => h9) rfl dX4_lend_15 ?_
  refine lv_iload_n hx hb dX4_lend_18 rfl (lv_at hl 1 rfl) ?_
  refine wd_iald (O := (mdO G)) hx hb hK hP (md_lt (by omega)) 0 (mE_6 _) rfl (i := i) rfl (by omega) (by decide) dX4_lend_19 ?_
  refine lv_iconst (v := 1) hx hb dX4_lend_20 (by decide) ?_
  refine lv_iadd hx hb dX4_lend_21 ?_
  refine wd_iast (O := (mdO G)) hj hx hb hK hP hS (md_lt (by omega)) 0 mE_6 rfl (i := i) rfl (by omega) (by decide) dX4_lend_22 (fun H locs hP hS => ?_)
  refine lv_aload_n hx hb dX4_lend_23 rfl (lv_at hl 0 rfl) ?_
  refine wd_get (O := (mdO G)) (v := .ref (wa (mdO G) 7)) hx hb hts hi4 hown hK hP (md_lt (by omega)) mE_0 rfl 9 (by decide) (hts (.fieldLink RX4 29 "LeaseDeskModel" "ends" "[I") (by decide +kernel)) (fun _ h9 => h9) rfl dX4_lend_24 ?_
  refine lv_iload_n hx hb dX4_lend_27 rfl (lv_at hl 1 rfl) ?_
  refine lv_aload_n hx hb dX4_lend_28 rfl (lv_at hl 0 rfl) ?_
  refine wd_get (O := (mdO G)) (v := .int ((up (up M 5 i ((nI j) + 1)) 6 i (((up M 5 i ((nI j) + 1)) 6 i) + 1)) 0 0)) hx hb hts hi4 hown hK hP (md_lt (by omega)) mE_0 rfl 0 (by decide) (hts (.fieldLink RX4 54 "LeaseDeskModel" "time" "I") (by decide +kernel)) (fun _ h9 => h9) rfl dX4_lend_29 ?_
  refine lv_iload_n hx hb dX4_lend_32 rfl (lv_at hl 3 rfl) ?_
  refine lv_iadd hx hb dX4_lend_33 ?_
  refine wd_iast (O := (mdO G)) hj hx hb hK hP hS (md_lt (by omega)) 0 mE_7 rfl (i := i) rfl (by omega) (by decide) dX4_lend_34 (fun H locs hP hS => ?_)
  refine lv_aload_n hx hb dX4_lend_35 rfl (lv_at hl 0 rfl) ?_
  refine wd_get (O := (mdO G)) (v := .ref (wa (mdO G) 8)) hx hb hts hi4 hown hK hP (md_lt (by omega)) mE_0 rfl 10 (by decide) (hts (.fieldLink RX4 32 "LeaseDeskModel" "terms" "[I") (by decide +kernel)) (fun _ h9 => h9) rfl dX4_lend_36 ?_
  refine lv_iload_n hx hb dX4_lend_39 rfl (lv_at hl 1 rfl) ?_
  refine lv_iload_n hx hb dX4_lend_40 rfl (lv_at hl 3 rfl) ?_
  refine wd_iast (O := (mdO G)) hj hx hb hK hP hS (md_lt (by omega)) 0 mE_8 rfl (i := i) rfl (by omega) (by decide) dX4_lend_41 (fun H locs hP hS => ?_)
  refine lv_aload_n hx hb dX4_lend_42 rfl (lv_at hl 0 rfl) ?_
  refine wd_get (O := (mdO G)) (v := .ref (wa (mdO G) 9)) hx hb hts hi4 hown hK hP (md_lt (by omega)) mE_0 rfl 11 (by decide) (hts (.fieldLink RX4 35 "LeaseDeskModel" "starts" "[I") (by decide +kernel)) (fun _ h9 => h9) rfl dX4_lend_43 ?_
  refine lv_iload_n hx hb dX4_lend_46 rfl (lv_at hl 1 rfl) ?_
  refine lv_aload_n hx hb dX4_lend_47 rfl (lv_at hl 0 rfl) ?_
  refine wd_get (O := (mdO G)) (v := .ref (wa (mdO G) 4)) hx hb hts hi4 hown hK hP (md_lt (by omega)) mE_0 rfl 6 (by decide) (hts (.fieldLink RX4 20 "LeaseDeskModel" "clocks" "[I") (by decide +kernel)) (fun _ h9 => h9) rfl dX4_lend_48 ?_
  refine lv_iload_n hx hb dX4_lend_51 rfl (lv_at hl 2 rfl) ?_
  refine wd_iald (O := (mdO G)) hx hb hK hP (md_lt (by omega)) 0 (mE_4 _) rfl (i := j) rfl (by omega) (by decide) dX4_lend_52 ?_
  refine wd_iast (O := (mdO G)) hj hx hb hK hP hS (md_lt (by omega)) 0 mE_9 rfl (i := i) rfl (by omega) (by decide) dX4_lend_53 (fun H locs hP hS => ?_)
  refine lv_aload_n hx hb dX4_lend_54 rfl (lv_at hl 0 rfl) ?_
  refine wd_get (O := (mdO G)) (v := .ref (wa (mdO G) 10)) hx hb hts hi4 hown hK hP (md_lt (by omega)) mE_0 rfl 12 (by decide) (hts (.fieldLink RX4 38 "LeaseDeskModel" "wishes" "[I") (by decide +kernel)) (fun _ h9 => h9) rfl dX4_lend_55 ?_
  refine lv_iload_n hx hb dX4_lend_58 rfl (lv_at hl 1 rfl) ?_
  refine lv_bipush (v := 6) hx hb dX4_lend_59 (by decide) ?_
  refine lv_imul hx hb dX4_lend_61 ?_
  refine lv_iload_n hx hb dX4_lend_62 rfl (lv_at hl 2 rfl) ?_
  refine lv_iadd hx hb dX4_lend_63 ?_
  refine wd_re (y := nI (i * 6 + j)) (ml_ix i j) ?_
  refine lv_iconst (v := 0) hx hb dX4_lend_64 (by decide) ?_
  refine wd_iast (O := (mdO G)) hj hx hb hK hP hS (md_lt (by omega)) 0 mE_10 rfl (i := (i * 6 + j)) rfl (by omega) (by decide) dX4_lend_65 (fun H locs hP hS => ?_)
  exact wd_vret (O := (mdO G)) hx hb hr hlocks hK hP hS dX4_lend_66 (rfl)
set_option maxRecDepth 100000 in
set_option maxHeartbeats 4000000 in
theorem c_X4_inRow {l : Launch} {G : MG} (hj : wj (mdO G)) {M : Mem} (sz : Nat) (i : Nat) (x : Int32) (hi : i < 4) : Met l yX4_inRow wsX4_inRow ({ frames := 0, cells := 0, slots := 0, locals := 0 }) (va_Pc [.ref (wa (mdO G) 0), .int (nI i), .int x] (wp (mdO G) sz M)) (wQi (mdO G) sz (inV M i x) (M)) 0 0 (wA (mdO G) sz) := by
  refine wd_ofW (O := (mdO G)) (M := M) (Qc := fun z => wQi (mdO G) z (inV M i x) (M)) (cc := cX4_inRow) (maxL := 7) (ret := (some .int)) (lv := [(0, .ref (wa (mdO G) 0)), (1, .int (nI i)), (2, .int x)]) (by decide) rfl (Nat.le_of_ble_eq_true rfl) rfl ?_
  intro p e s m below meth c ls hx hb hr hml hown hts hlocks hP hK hS hl
  have hi4 : ∀ w ∈ wsX40, w ∈ wsX4_inRow := by decide +kernel
  refine lv_iconst (v := 0) hx hb dX4_inRow_0 (by decide) ?_
  refine lv_istore_n (lv' := [(3, .int 0), (0, .ref (wa (mdO G) 0)), (1, .int (nI i)), (2, .int x)]) hx hb dX4_inRow_1 rfl hl (by decide) rfl (fun ls hl => ?_)
  refine wl_loop (pc := 2) (fun k j N v ls H locs => (j + k = 6) ∧ (inR (wsh M i) x k j = inV M i x) ∧ va_P (wD (mdO G)) vwCl (wd (mdO G) M) H ∧ va_S (wA (mdO G) s.heap.size) s.heap H locs ∧ lv_has ls 7 [(3, .int (nI j)), (0, .ref (wa (mdO G) 0)), (1, .int (nI i)), (2, .int x)]) ?_ ?_ 6 0 M 0 ⟨by omega, rfl, hP, hS, lv_sub hl [0, 1, 2, 3] rfl⟩
  · rintro j N v ls H locs ⟨h1, h2, hP, hS, hl⟩
    refine lv_iload_n hx hb dX4_inRow_2 rfl (lv_at hl 0 rfl) ?_
    refine lv_bipush (v := 6) hx hb dX4_inRow_3 (by decide) ?_
    refine lv_icmp_ge (tgt := 97) hx hb dX4_inRow_5 (by decide) (fun c1 => ?_) (fun c1 => absurd (show nI 6 ≤ nI j from nI_le (by omega) (by omega)) c1)
    refine lv_iconst (v := (-1)) hx hb dX4_inRow_97 (by decide) ?_
    exact wd_iret (O := (mdO G)) hx hb hr hlocks hK hP hS rfl dX4_inRow_98 (h2) (rfl)
  · rintro k j N v ls H locs ih ⟨h1, h2, hP, hS, hl⟩
    refine lv_iload_n hx hb dX4_inRow_2 rfl (lv_at hl 0 rfl) ?_
    refine lv_bipush (v := 6) hx hb dX4_inRow_3 (by decide) ?_
    refine lv_icmp_ge (tgt := 97) hx hb dX4_inRow_5 (by decide) (fun c2 => absurd c2 (show ¬ nI 6 ≤ nI j from nI_ge (by omega) (by omega))) (fun c2 => ?_)
    refine lv_aload_n hx hb dX4_inRow_8 rfl (lv_at hl 1 rfl) ?_
    refine wd_get (O := (mdO G)) (v := .ref (wa (mdO G) 10)) hx hb hts hi4 hown hK hP (md_lt (by omega)) mE_0 rfl 12 (by decide) (hts (.fieldLink RX4 38 "LeaseDeskModel" "wishes" "[I") (by decide +kernel)) (fun _ h9 => h9) rfl dX4_inRow_9 ?_
    refine lv_iload_n hx hb dX4_inRow_12 rfl (lv_at hl 2 rfl) ?_
    refine lv_bipush (v := 6) hx hb dX4_inRow_13 (by decide) ?_
    refine lv_imul hx hb dX4_inRow_15 ?_
    refine lv_iload_n hx hb dX4_inRow_16 rfl (lv_at hl 0 rfl) ?_
    refine lv_iadd hx hb dX4_inRow_17 ?_
    refine wd_re (y := nI (i * 6 + j)) (ml_ix i j) ?_
    refine wd_iald (O := (mdO G)) hx hb hK hP (md_lt (by omega)) 0 (mE_10 _) rfl (i := (i * 6 + j)) rfl (by omega) (by decide) dX4_inRow_18 ?_
    refine lv_istore (lv' := [(4, .int (M 10 ((i * 6 + j)))), (3, .int (nI j)), (0, .ref (wa (mdO G) 0)), (1, .int (nI i)), (2, .int x)]) hx hb dX4_inRow_19 hl (by decide) rfl (fun ls hl => ?_)
    refine lv_iconst (v := 0) hx hb dX4_inRow_21 (by decide) ?_
    refine lv_istore (lv' := [(5, .int 0), (4, .int (M 10 ((i * 6 + j)))), (3, .int (nI j)), (0, .ref (wa (mdO G) 0)), (1, .int (nI i)), (2, .int x)]) hx hb dX4_inRow_22 hl (by decide) rfl (fun ls hl => ?_)
    refine lv_iconst (v := 0) hx hb dX4_inRow_24 (by decide) ?_
    refine lv_istore (lv' := [(6, .int 0), (5, .int 0), (4, .int (M 10 ((i * 6 + j)))), (3, .int (nI j)), (0, .ref (wa (mdO G) 0)), (1, .int (nI i)), (2, .int x)]) hx hb dX4_inRow_25 hl (by decide) rfl (fun ls hl => ?_)
    have ih1 := ih
    clear ih
    refine wl_loop (pc := 27) (fun k2 o N v ls H locs => (o + k2 = 6) ∧ (cnt (wsh M i) (M 10 (i * 6 + j)) k2 o v = cnt (wsh M i) (M 10 (i * 6 + j)) 6 0 0) ∧ va_P (wD (mdO G)) vwCl (wd (mdO G) M) H ∧ va_S (wA (mdO G) s.heap.size) s.heap H locs ∧ lv_has ls 7 [(6, .int (nI o)), (5, .int v), (4, .int (M 10 (i * 6 + j))), (3, .int (nI j)), (0, .ref (wa (mdO G) 0)), (1, .int (nI i)), (2, .int x)]) ?_ ?_ 6 0 M 0 ⟨by omega, rfl, hP, hS, lv_sub hl [0, 1, 2, 3, 4, 5, 6] rfl⟩
    · rintro o N v ls H locs ⟨h3, h4, hP, hS, hl⟩
      refine lv_iload hx hb dX4_inRow_27 (lv_at hl 0 rfl) ?_
      refine lv_bipush (v := 6) hx hb dX4_inRow_29 (by decide) ?_
      refine lv_icmp_ge (tgt := 78) hx hb dX4_inRow_31 (by decide) (fun c3 => ?_) (fun c3 => absurd (show nI 6 ≤ nI o from nI_le (by omega) (by omega)) c3)
      refine lv_iload hx hb dX4_inRow_78 (lv_at hl 2 rfl) ?_
      refine lv_if_le (tgt := 91) hx hb dX4_inRow_80 (by decide) (fun c4 => ?_) (fun c4 => ?_)
      · refine lv_iinc (v := nI (j + 1)) (lv' := [(3, .int (nI (j + 1))), (6, .int (nI o)), (5, .int v), (4, .int (M 10 (i * 6 + j))), (0, .ref (wa (mdO G) 0)), (1, .int (nI i)), (2, .int x)]) hx hb dX4_inRow_91 hl (k := 3) rfl (nI_1 j) (by decide) rfl (fun ls hl => ?_)
        refine lv_goto (tgt := 2) hx hb dX4_inRow_94 (by decide) ?_
        exact ih1 (j + 1) N v ls H locs ⟨by omega, by rw [← h2]; simp only [inR]; rw [if_pos (show wsh M i j ≤ 0 from c4)], hP, hS, lv_sub hl [0, 4, 5, 6] rfl⟩
      · have hcv : v = cnt (wsh M i) (wsh M i j) 6 0 0 := h4
        refine lv_iload hx hb dX4_inRow_83 (lv_at hl 1 rfl) ?_
        refine lv_iload_n hx hb dX4_inRow_85 rfl (lv_at hl 6 rfl) ?_
        refine lv_icmp_ne (tgt := 91) hx hb dX4_inRow_86 (by decide) (fun c5 => ?_) (fun c5 => ?_)
        · refine lv_iinc (v := nI (j + 1)) (lv' := [(3, .int (nI (j + 1))), (6, .int (nI o)), (5, .int v), (4, .int (M 10 (i * 6 + j))), (0, .ref (wa (mdO G) 0)), (1, .int (nI i)), (2, .int x)]) hx hb dX4_inRow_91 hl (k := 3) rfl (nI_1 j) (by decide) rfl (fun ls hl => ?_)
          refine lv_goto (tgt := 2) hx hb dX4_inRow_94 (by decide) ?_
          exact ih1 (j + 1) N v ls H locs ⟨by omega, by rw [← h2]; simp only [inR]; rw [if_neg (show ¬ wsh M i j ≤ 0 from c4), if_neg (fun h9 => c5 (hcv.trans h9))], hP, hS, lv_sub hl [0, 4, 5, 6] rfl⟩
        · refine lv_iload_n hx hb dX4_inRow_89 rfl (lv_at hl 3 rfl) ?_
          exact wd_iret (O := (mdO G)) hx hb hr hlocks hK hP hS rfl dX4_inRow_90 (by rw [← h2]; simp only [inR]; rw [if_neg (show ¬ wsh M i j ≤ 0 from c4), if_pos (hcv.symm.trans c5)]) (rfl)
    · rintro k2 o N v ls H locs ih ⟨h3, h4, hP, hS, hl⟩
      refine lv_iload hx hb dX4_inRow_27 (lv_at hl 0 rfl) ?_
      refine lv_bipush (v := 6) hx hb dX4_inRow_29 (by decide) ?_
      refine lv_icmp_ge (tgt := 78) hx hb dX4_inRow_31 (by decide) (fun c6 => absurd c6 (show ¬ nI 6 ≤ nI o from nI_ge (by omega) (by omega))) (fun c6 => ?_)
      refine lv_aload_n hx hb dX4_inRow_34 rfl (lv_at hl 4 rfl) ?_
      refine wd_get (O := (mdO G)) (v := .ref (wa (mdO G) 10)) hx hb hts hi4 hown hK hP (md_lt (by omega)) mE_0 rfl 12 (by decide) (hts (.fieldLink RX4 38 "LeaseDeskModel" "wishes" "[I") (by decide +kernel)) (fun _ h9 => h9) rfl dX4_inRow_35 ?_
      refine lv_iload_n hx hb dX4_inRow_38 rfl (lv_at hl 5 rfl) ?_
      refine lv_bipush (v := 6) hx hb dX4_inRow_39 (by decide) ?_
      refine lv_imul hx hb dX4_inRow_41 ?_
      refine lv_iload hx hb dX4_inRow_42 (lv_at hl 0 rfl) ?_
      refine lv_iadd hx hb dX4_inRow_44 ?_
      refine wd_re (y := nI (i * 6 + o)) (ml_ix i o) ?_
      refine wd_iald (O := (mdO G)) hx hb hK hP (md_lt (by omega)) 0 (mE_10 _) rfl (i := (i * 6 + o)) rfl (by omega) (by decide) dX4_inRow_45 ?_
      refine lv_if_le (tgt := 72) hx hb dX4_inRow_46 (by decide) (fun c7 => ?_) (fun c7 => ?_)
      · refine lv_iinc (v := nI (o + 1)) (lv' := [(6, .int (nI (o + 1))), (5, .int v), (4, .int (M 10 (i * 6 + j))), (3, .int (nI j)), (0, .ref (wa (mdO G) 0)), (1, .int (nI i)), (2, .int x)]) hx hb dX4_inRow_72 hl (k := 0) rfl (nI_1 o) (by decide) rfl (fun ls hl => ?_)
        refine lv_goto (tgt := 27) hx hb dX4_inRow_75 (by decide) ?_
        exact ih (o + 1) N v ls H locs ⟨by omega, by rw [← h4]; simp only [cnt]; rw [if_pos (show wsh M i o ≤ 0 from c7)], hP, hS, lv_sub hl [0, 1, 2, 3, 4, 5, 6] rfl⟩
      · refine lv_aload_n hx hb dX4_inRow_49 rfl (lv_at hl 4 rfl) ?_
        refine wd_get (O := (mdO G)) (v := .ref (wa (mdO G) 10)) hx hb hts hi4 hown hK hP (md_lt (by omega)) mE_0 rfl 12 (by decide) (hts (.fieldLink RX4 38 "LeaseDeskModel" "wishes" "[I") (by decide +kernel)) (fun _ h9 => h9) rfl dX4_inRow_50 ?_
        refine lv_iload_n hx hb dX4_inRow_53 rfl (lv_at hl 5 rfl) ?_
        refine lv_bipush (v := 6) hx hb dX4_inRow_54 (by decide) ?_
        refine lv_imul hx hb dX4_inRow_56 ?_
        refine lv_iload hx hb dX4_inRow_57 (lv_at hl 0 rfl) ?_
        refine lv_iadd hx hb dX4_inRow_59 ?_
        refine wd_re (y := nI (i * 6 + o)) (ml_ix i o) ?_
        refine wd_iald (O := (mdO G)) hx hb hK hP (md_lt (by omega)) 0 (mE_10 _) rfl (i := (i * 6 + o)) rfl (by omega) (by decide) dX4_inRow_60 ?_
        refine lv_iload hx hb dX4_inRow_61 (lv_at hl 2 rfl) ?_
        refine lv_icmp_ge (tgt := 72) hx hb dX4_inRow_63 (by decide) (fun c8 => ?_) (fun c8 => ?_)
        · refine lv_iinc (v := nI (o + 1)) (lv' := [(6, .int (nI (o + 1))), (5, .int v), (4, .int (M 10 (i * 6 + j))), (3, .int (nI j)), (0, .ref (wa (mdO G) 0)), (1, .int (nI i)), (2, .int x)]) hx hb dX4_inRow_72 hl (k := 0) rfl (nI_1 o) (by decide) rfl (fun ls hl => ?_)
          refine lv_goto (tgt := 27) hx hb dX4_inRow_75 (by decide) ?_
          exact ih (o + 1) N v ls H locs ⟨by omega, by rw [← h4]; simp only [cnt]; rw [if_neg (show ¬ wsh M i o ≤ 0 from c7), if_pos (show M 10 (i * 6 + j) ≤ wsh M i o from c8)], hP, hS, lv_sub hl [0, 1, 2, 3, 4, 5, 6] rfl⟩
        · refine lv_iload hx hb dX4_inRow_66 (lv_at hl 1 rfl) ?_
          refine lv_iconst (v := 1) hx hb dX4_inRow_68 (by decide) ?_
          refine lv_iadd hx hb dX4_inRow_69 ?_
          refine lv_istore (lv' := [(5, .int (v + 1)), (6, .int (nI o)), (4, .int (M 10 (i * 6 + j))), (3, .int (nI j)), (0, .ref (wa (mdO G) 0)), (1, .int (nI i)), (2, .int x)]) hx hb dX4_inRow_70 hl (by decide) rfl (fun ls hl => ?_)
          refine lv_iinc (v := nI (o + 1)) (lv' := [(6, .int (nI (o + 1))), (5, .int (v + 1)), (4, .int (M 10 (i * 6 + j))), (3, .int (nI j)), (0, .ref (wa (mdO G) 0)), (1, .int (nI i)), (2, .int x)]) hx hb dX4_inRow_72 hl (k := 1) rfl (nI_1 o) (by decide) rfl (fun ls hl => ?_)
          refine lv_goto (tgt := 27) hx hb dX4_inRow_75 (by decide) ?_
          exact ih (o + 1) N (v + 1) ls H locs ⟨by omega, by rw [← h4]; simp only [cnt]; rw [if_neg (show ¬ wsh M i o ≤ 0 from c7), if_neg (show ¬ M 10 (i * 6 + j) ≤ wsh M i o from c8)], hP, hS, lv_sub hl [0, 1, 2, 3, 4, 5, 6] rfl⟩
set_option maxRecDepth 100000 in
set_option maxHeartbeats 4000000 in
theorem c_X4_over {l : Launch} {G : MG} (hj : wj (mdO G)) {M : Mem} (sz : Nat) (i : Nat) (hi : i < 4) : Met l yX4_over wsX4_over ({ frames := 1, cells := 0, slots := 0, locals := 26 }) (va_Pc [.ref (wa (mdO G) 0), .int (nI i)] (wp (mdO G) sz M)) (wQv (mdO G) sz (ovM M i)) 0 0 (wA (mdO G) sz) := by
  rcases inR_cases (wsh (up M 5 i 0) i) 0 6 0 with hq | ⟨j, hj6, hq⟩
  · refine wd_ofW (O := (mdO G)) (M := M) (Qc := fun z => wQv (mdO G) z (ovM M i)) (cc := cX4_over) (maxL := 3) (ret := none) (lv := [(0, .ref (wa (mdO G) 0)), (1, .int (nI i))]) (by decide) rfl (Nat.le_of_ble_eq_true rfl) rfl ?_
    intro p e s m below meth c ls hx hb hr hml hown hts hlocks hP hK hS hl
    have hi4 : ∀ w ∈ wsX40, w ∈ wsX4_over := by decide +kernel
    refine lv_aload_n hx hb dX4_over_0 rfl (lv_at hl 0 rfl) ?_
    refine wd_get (O := (mdO G)) (v := .ref (wa (mdO G) 5)) hx hb hts hi4 hown hK hP (md_lt (by omega)) mE_0 rfl 7 (by decide) (hts (.fieldLink RX4 23 "LeaseDeskModel" "has" "[I") (by decide +kernel)) (fun _ h9 => h9) rfl dX4_over_1 ?_
    refine lv_iload_n hx hb dX4_over_4 rfl (lv_at hl 1 rfl) ?_
    refine lv_iconst (v := 0) hx hb dX4_over_5 (by decide) ?_
    refine wd_iast (O := (mdO G)) hj hx hb hK hP hS (md_lt (by omega)) 0 mE_5 rfl (i := i) rfl (by omega) (by decide) dX4_over_6 (fun H locs hP hS => ?_)
    refine lv_aload_n hx hb dX4_over_7 rfl (lv_at hl 0 rfl) ?_
    refine lv_iload_n hx hb dX4_over_8 rfl (lv_at hl 1 rfl) ?_
    refine lv_iconst (v := 0) hx hb dX4_over_9 (by decide) ?_
    refine wd_ci (O := (mdO G)) hS (va_runV (As := [.int (nI i), .int 0]) (rest := []) ⟨hx, hb, hml, hown, hts⟩ (c_X4_inRow (G := G) hj H.size i 0 (by omega)) (cwV 2 hts gX4_over_X4_inRow rfl rfl rfl (by decide +kernel) ⟨Nat.le_of_ble_eq_true rfl, Nat.le_of_ble_eq_true rfl⟩) (wd_pre hK hP (md_lt (by omega)) mE_0 rfl) rfl rfl hl.1 rfl (lv_room (Nat.le_of_ble_eq_true rfl)) dX4_over_10 ⟨Nat.le_of_ble_eq_true rfl, Nat.le_of_ble_eq_true rfl⟩) (fun H locs hP hS => ?_)
    refine wd_re (y := (-1)) (hq) ?_
    refine lv_istore_n (lv' := [(2, .int ((-1))), (0, .ref (wa (mdO G) 0)), (1, .int (nI i))]) hx hb dX4_over_13 rfl hl (by decide) rfl (fun ls hl => ?_)
    refine lv_iload_n hx hb dX4_over_14 rfl (lv_at hl 0 rfl) ?_
    refine lv_if_lt (tgt := 35) hx hb dX4_over_15 (by decide) (fun c1 => ?_) (fun c1 => absurd (by decide) c1)
    exact wd_vret (O := (mdO G)) hx hb hr hlocks hK hP hS dX4_over_35 (by unfold ovM inV; rw [hq]; rfl)
  · refine wd_ofW (O := (mdO G)) (M := M) (Qc := fun z => wQv (mdO G) z (ovM M i)) (cc := cX4_over) (maxL := 3) (ret := none) (lv := [(0, .ref (wa (mdO G) 0)), (1, .int (nI i))]) (by decide) rfl (Nat.le_of_ble_eq_true rfl) rfl ?_
    intro p e s m below meth c ls hx hb hr hml hown hts hlocks hP hK hS hl
    have hi4 : ∀ w ∈ wsX40, w ∈ wsX4_over := by decide +kernel
    refine lv_aload_n hx hb dX4_over_0 rfl (lv_at hl 0 rfl) ?_
    refine wd_get (O := (mdO G)) (v := .ref (wa (mdO G) 5)) hx hb hts hi4 hown hK hP (md_lt (by omega)) mE_0 rfl 7 (by decide) (hts (.fieldLink RX4 23 "LeaseDeskModel" "has" "[I") (by decide +kernel)) (fun _ h9 => h9) rfl dX4_over_1 ?_
    refine lv_iload_n hx hb dX4_over_4 rfl (lv_at hl 1 rfl) ?_
    refine lv_iconst (v := 0) hx hb dX4_over_5 (by decide) ?_
    refine wd_iast (O := (mdO G)) hj hx hb hK hP hS (md_lt (by omega)) 0 mE_5 rfl (i := i) rfl (by omega) (by decide) dX4_over_6 (fun H locs hP hS => ?_)
    refine lv_aload_n hx hb dX4_over_7 rfl (lv_at hl 0 rfl) ?_
    refine lv_iload_n hx hb dX4_over_8 rfl (lv_at hl 1 rfl) ?_
    refine lv_iconst (v := 0) hx hb dX4_over_9 (by decide) ?_
    refine wd_ci (O := (mdO G)) hS (va_runV (As := [.int (nI i), .int 0]) (rest := []) ⟨hx, hb, hml, hown, hts⟩ (c_X4_inRow (G := G) hj H.size i 0 (by omega)) (cwV 2 hts gX4_over_X4_inRow rfl rfl rfl (by decide +kernel) ⟨Nat.le_of_ble_eq_true rfl, Nat.le_of_ble_eq_true rfl⟩) (wd_pre hK hP (md_lt (by omega)) mE_0 rfl) rfl rfl hl.1 rfl (lv_room (Nat.le_of_ble_eq_true rfl)) dX4_over_10 ⟨Nat.le_of_ble_eq_true rfl, Nat.le_of_ble_eq_true rfl⟩) (fun H locs hP hS => ?_)
    refine wd_re (y := nI j) (hq) ?_
    refine lv_istore_n (lv' := [(2, .int (nI j)), (0, .ref (wa (mdO G) 0)), (1, .int (nI i))]) hx hb dX4_over_13 rfl hl (by decide) rfl (fun ls hl => ?_)
    refine lv_iload_n hx hb dX4_over_14 rfl (lv_at hl 0 rfl) ?_
    refine lv_if_lt (tgt := 35) hx hb dX4_over_15 (by decide) (fun c2 => absurd c2 (nI_pos (by omega))) (fun c2 => ?_)
    refine lv_aload_n hx hb dX4_over_18 rfl (lv_at hl 1 rfl) ?_
    refine lv_iload_n hx hb dX4_over_19 rfl (lv_at hl 2 rfl) ?_
    refine lv_iload_n hx hb dX4_over_20 rfl (lv_at hl 0 rfl) ?_
    refine lv_aload_n hx hb dX4_over_21 rfl (lv_at hl 1 rfl) ?_
    refine wd_get (O := (mdO G)) (v := .ref (wa (mdO G) 11)) hx hb hts hi4 hown hK hP (md_lt (by omega)) mE_0 rfl 13 (by decide) (hts (.fieldLink RX4 41 "LeaseDeskModel" "wished" "[I") (by decide +kernel)) (fun _ h9 => h9) rfl dX4_over_22 ?_
    refine lv_iload_n hx hb dX4_over_25 rfl (lv_at hl 2 rfl) ?_
    refine lv_bipush (v := 6) hx hb dX4_over_26 (by decide) ?_
    refine lv_imul hx hb dX4_over_28 ?_
    refine lv_iload_n hx hb dX4_over_29 rfl (lv_at hl 0 rfl) ?_
    refine lv_iadd hx hb dX4_over_30 ?_
    refine wd_re (y := nI (i * 6 + j)) (ml_ix i j) ?_
    refine wd_iald (O := (mdO G)) hx hb hK hP (md_lt (by omega)) 0 (mE_11 _) rfl (i := (i * 6 + j)) rfl (by omega) (by decide) dX4_over_31 ?_
    refine wd_cv (O := (mdO G)) hS (va_runV (As := [.int (nI i), .int (nI j), .int ((up M 5 i 0) 11 ((i * 6 + j)))]) (rest := []) ⟨hx, hb, hml, hown, hts⟩ (c_X4_lend (G := G) hj H.size i j ((up M 5 i 0) 11 ((i * 6 + j))) (by omega) (by omega)) (cwV 3 hts gX4_over_X4_lend rfl rfl rfl (by decide +kernel) ⟨Nat.le_of_ble_eq_true rfl, Nat.le_of_ble_eq_true rfl⟩) (wd_pre hK hP (md_lt (by omega)) mE_0 rfl) rfl rfl hl.1 rfl (lv_room (Nat.le_of_ble_eq_true rfl)) dX4_over_32 ⟨Nat.le_of_ble_eq_true rfl, Nat.le_of_ble_eq_true rfl⟩) (fun H locs hP hS => ?_)
    exact wd_vret (O := (mdO G)) hx hb hr hlocks hK hP hS dX4_over_35 (by unfold ovM inV; rw [hq, dN_nI (by decide) (by omega)])
set_option maxRecDepth 100000 in
set_option maxHeartbeats 4000000 in
theorem c_X4_gone {l : Launch} {G : MG} (hj : wj (mdO G)) {M : Mem} (sz : Nat) (i : Nat) (hi : i < 6) : Met l yX4_gone wsX4_gone ({ frames := 2, cells := 0, slots := 0, locals := 48 }) (va_Pc [.ref (wa (mdO G) 0), .int (nI i)] (wp (mdO G) sz M)) (wQi (mdO G) sz (goV M i) (goM M i)) 0 0 (wA (mdO G) sz) := by
  refine wd_ofW (O := (mdO G)) (M := M) (Qc := fun z => wQi (mdO G) z (goV M i) (goM M i)) (cc := cX4_gone) (maxL := 4) (ret := (some .int)) (lv := [(0, .ref (wa (mdO G) 0)), (1, .int (nI i))]) (by decide) rfl (Nat.le_of_ble_eq_true rfl) rfl ?_
  intro p e s m below meth c ls hx hb hr hml hown hts hlocks hP hK hS hl
  have hi4 : ∀ w ∈ wsX40, w ∈ wsX4_gone := by decide +kernel
  refine lv_iconst (v := 0) hx hb dX4_gone_0 (by decide) ?_
  refine lv_istore_n (lv' := [(2, .int 0), (0, .ref (wa (mdO G) 0)), (1, .int (nI i))]) hx hb dX4_gone_1 rfl hl (by decide) rfl (fun ls hl => ?_)
  refine wl_loop (pc := 2) (fun k j N v ls H locs => (j + k = 4) ∧ (gwM i k j N = gwM i 4 0 M) ∧ va_P (wD (mdO G)) vwCl (wd (mdO G) N) H ∧ va_S (wA (mdO G) s.heap.size) s.heap H locs ∧ lv_has ls 4 [(2, .int (nI j)), (0, .ref (wa (mdO G) 0)), (1, .int (nI i))]) ?_ ?_ 4 0 M 0 ⟨by omega, rfl, hP, hS, lv_sub hl [0, 1, 2] rfl⟩
  · rintro j N v ls H locs ⟨h1, h2, hP, hS, hl⟩
    refine lv_iload_n hx hb dX4_gone_2 rfl (lv_at hl 0 rfl) ?_
    refine lv_iconst (v := 4) hx hb dX4_gone_3 (by decide) ?_
    refine lv_icmp_ge (tgt := 25) hx hb dX4_gone_4 (by decide) (fun c1 => ?_) (fun c1 => absurd (show nI 4 ≤ nI j from nI_le (by omega) (by omega)) c1)
    refine lv_iconst (v := 0) hx hb dX4_gone_25 (by decide) ?_
    refine lv_istore_n (lv' := [(2, .int 0), (0, .ref (wa (mdO G) 0)), (1, .int (nI i))]) hx hb dX4_gone_26 rfl hl (by decide) rfl (fun ls hl => ?_)
    refine lv_iconst (v := 0) hx hb dX4_gone_27 (by decide) ?_
    refine lv_istore_n (lv' := [(3, .int 0), (2, .int 0), (0, .ref (wa (mdO G) 0)), (1, .int (nI i))]) hx hb dX4_gone_28 rfl hl (by decide) rfl (fun ls hl => ?_)
    refine wl_loop (pc := 29) (fun k j N v ls H locs => (j + k = 4) ∧ (gnM i k j N = gnM i 4 0 (gwM i 4 0 M)) ∧ (gnV i k j N v = goV M i) ∧ va_P (wD (mdO G)) vwCl (wd (mdO G) N) H ∧ va_S (wA (mdO G) s.heap.size) s.heap H locs ∧ lv_has ls 4 [(3, .int (nI j)), (2, .int v), (0, .ref (wa (mdO G) 0)), (1, .int (nI i))]) ?_ ?_ 4 0 N 0 ⟨by omega, by rw [← h2]; rfl, by unfold goV; rw [← h2]; rfl, hP, hS, lv_sub hl [0, 1, 2, 3] rfl⟩
    · rintro j N v ls H locs ⟨h1, h2, h3, hP, hS, hl⟩
      refine lv_iload_n hx hb dX4_gone_29 rfl (lv_at hl 0 rfl) ?_
      refine lv_iconst (v := 4) hx hb dX4_gone_30 (by decide) ?_
      refine lv_icmp_ge (tgt := 64) hx hb dX4_gone_31 (by decide) (fun c2 => ?_) (fun c2 => absurd (show nI 4 ≤ nI j from nI_le (by omega) (by omega)) c2)
      refine lv_aload_n hx hb dX4_gone_64 rfl (lv_at hl 2 rfl) ?_
      refine wd_get (O := (mdO G)) (v := .ref (wa (mdO G) 1)) hx hb hts hi4 hown hK hP (md_lt (by omega)) mE_0 rfl 3 (by decide) (hts (.fieldLink RX4 9 "LeaseDeskModel" "there" "[Z") (by decide +kernel)) (fun _ h9 => h9) rfl dX4_gone_65 ?_
      refine lv_iload_n hx hb dX4_gone_68 rfl (lv_at hl 3 rfl) ?_
      refine lv_iconst (v := 0) hx hb dX4_gone_69 (by decide) ?_
      refine wd_zast (O := (mdO G)) hj hx hb hK hP hS (md_lt (by omega)) 1 mE_z rfl (i := i) rfl (by omega) (by decide) (by decide) dX4_gone_70 (fun H locs hP hS => ?_)
      refine lv_iload_n hx hb dX4_gone_71 rfl (lv_at hl 1 rfl) ?_
      exact wd_iret (O := (mdO G)) hx hb hr hlocks hK hP hS rfl dX4_gone_72 (h3) (by unfold goM; rw [← h2]; rfl)
    · rintro k j N v ls H locs ih ⟨h1, h2, h3, hP, hS, hl⟩
      refine lv_iload_n hx hb dX4_gone_29 rfl (lv_at hl 0 rfl) ?_
      refine lv_iconst (v := 4) hx hb dX4_gone_30 (by decide) ?_
      refine lv_icmp_ge (tgt := 64) hx hb dX4_gone_31 (by decide) (fun c3 => absurd c3 (show ¬ nI 4 ≤ nI j from nI_ge (by omega) (by omega))) (fun c3 => ?_)
      refine lv_aload_n hx hb dX4_gone_34 rfl (lv_at hl 2 rfl) ?_
      refine wd_get (O := (mdO G)) (v := .ref (wa (mdO G) 5)) hx hb hts hi4 hown hK hP (md_lt (by omega)) mE_0 rfl 7 (by decide) (hts (.fieldLink RX4 23 "LeaseDeskModel" "has" "[I") (by decide +kernel)) (fun _ h9 => h9) rfl dX4_gone_35 ?_
      refine lv_iload_n hx hb dX4_gone_38 rfl (lv_at hl 0 rfl) ?_
      refine wd_iald (O := (mdO G)) hx hb hK hP (md_lt (by omega)) 0 (mE_5 _) rfl (i := j) rfl (by omega) (by decide) dX4_gone_39 ?_
      refine lv_iload_n hx hb dX4_gone_40 rfl (lv_at hl 3 rfl) ?_
      refine lv_iconst (v := 1) hx hb dX4_gone_41 (by decide) ?_
      refine lv_iadd hx hb dX4_gone_42 ?_
      refine lv_icmp_eq (tgt := 49) hx hb dX4_gone_43 (by decide) (fun c4 => ?_) (fun c4 => ?_)
      · refine lv_iload_n hx hb dX4_gone_49 rfl (lv_at hl 1 rfl) ?_
        refine lv_iconst (v := 1) hx hb dX4_gone_50 (by decide) ?_
        refine lv_iadd hx hb dX4_gone_51 ?_
        refine lv_istore_n (lv' := [(2, .int (v + 1)), (3, .int (nI j)), (0, .ref (wa (mdO G) 0)), (1, .int (nI i))]) hx hb dX4_gone_52 rfl hl (by decide) rfl (fun ls hl => ?_)
        refine lv_aload_n hx hb dX4_gone_53 rfl (lv_at hl 2 rfl) ?_
        refine lv_iload_n hx hb dX4_gone_54 rfl (lv_at hl 1 rfl) ?_
        refine wd_cv (O := (mdO G)) hS (va_runV (As := [.int (nI j)]) (rest := []) ⟨hx, hb, hml, hown, hts⟩ (c_X4_over (G := G) hj H.size j (by omega)) (cwV 1 hts gX4_gone_X4_over rfl rfl rfl (by decide +kernel) ⟨Nat.le_of_ble_eq_true rfl, Nat.le_of_ble_eq_true rfl⟩) (wd_pre hK hP (md_lt (by omega)) mE_0 rfl) rfl rfl hl.1 rfl (lv_room (Nat.le_of_ble_eq_true rfl)) dX4_gone_55 ⟨Nat.le_of_ble_eq_true rfl, Nat.le_of_ble_eq_true rfl⟩) (fun H locs hP hS => ?_)
        refine lv_iinc (v := nI (j + 1)) (lv' := [(3, .int (nI (j + 1))), (2, .int (v + 1)), (0, .ref (wa (mdO G) 0)), (1, .int (nI i))]) hx hb dX4_gone_58 hl (k := 1) rfl (nI_1 j) (by decide) rfl (fun ls hl => ?_)
        refine lv_goto (tgt := 29) hx hb dX4_gone_61 (by decide) ?_
        exact ih (j + 1) (ovM N j) (v + 1) ls H locs ⟨by omega, by rw [← h2]; simp only [gnM, if_pos c4], by rw [← h3]; simp only [gnV, if_pos c4], hP, hS, lv_sub hl [0, 1, 2, 3] rfl⟩
      · refine lv_goto (tgt := 58) hx hb dX4_gone_46 (by decide) ?_
        refine lv_iinc (v := nI (j + 1)) (lv' := [(3, .int (nI (j + 1))), (2, .int v), (0, .ref (wa (mdO G) 0)), (1, .int (nI i))]) hx hb dX4_gone_58 hl (k := 0) rfl (nI_1 j) (by decide) rfl (fun ls hl => ?_)
        refine lv_goto (tgt := 29) hx hb dX4_gone_61 (by decide) ?_
        exact ih (j + 1) N v ls H locs ⟨by omega, by rw [← h2]; simp only [gnM, if_neg c4], by rw [← h3]; simp only [gnV, if_neg c4], hP, hS, lv_sub hl [0, 1, 2, 3] rfl⟩
  · rintro k j N v ls H locs ih ⟨h1, h2, hP, hS, hl⟩
    refine lv_iload_n hx hb dX4_gone_2 rfl (lv_at hl 0 rfl) ?_
    refine lv_iconst (v := 4) hx hb dX4_gone_3 (by decide) ?_
    refine lv_icmp_ge (tgt := 25) hx hb dX4_gone_4 (by decide) (fun c5 => absurd c5 (show ¬ nI 4 ≤ nI j from nI_ge (by omega) (by omega))) (fun c5 => ?_)
    refine lv_aload_n hx hb dX4_gone_7 rfl (lv_at hl 1 rfl) ?_
    refine wd_get (O := (mdO G)) (v := .ref (wa (mdO G) 10)) hx hb hts hi4 hown hK hP (md_lt (by omega)) mE_0 rfl 12 (by decide) (hts (.fieldLink RX4 38 "LeaseDeskModel" "wishes" "[I") (by decide +kernel)) (fun _ h9 => h9) rfl dX4_gone_8 ?_
    refine lv_iload_n hx hb dX4_gone_11 rfl (lv_at hl 0 rfl) ?_
    refine lv_bipush (v := 6) hx hb dX4_gone_12 (by decide) ?_
    refine lv_imul hx hb dX4_gone_14 ?_
    refine lv_iload_n hx hb dX4_gone_15 rfl (lv_at hl 2 rfl) ?_
    refine lv_iadd hx hb dX4_gone_16 ?_
    refine wd_re (y := nI (j * 6 + i)) (ml_ix j i) ?_
    refine lv_iconst (v := 0) hx hb dX4_gone_17 (by decide) ?_
    refine wd_iast (O := (mdO G)) hj hx hb hK hP hS (md_lt (by omega)) 0 mE_10 rfl (i := (j * 6 + i)) rfl (by omega) (by decide) dX4_gone_18 (fun H locs hP hS => ?_)
    refine lv_iinc (v := nI (j + 1)) (lv' := [(2, .int (nI (j + 1))), (0, .ref (wa (mdO G) 0)), (1, .int (nI i))]) hx hb dX4_gone_19 hl (k := 0) rfl (nI_1 j) (by decide) rfl (fun ls hl => ?_)
    refine lv_goto (tgt := 2) hx hb dX4_gone_22 (by decide) ?_
    exact ih (j + 1) (up N 10 ((j * 6 + i)) 0) v ls H locs ⟨by omega, by rw [← h2]; rfl, hP, hS, lv_sub hl [0, 1, 2] rfl⟩
set_option maxRecDepth 100000 in
set_option maxHeartbeats 4000000 in
theorem c_X4_open {l : Launch} {G : MG} (hj : wj (mdO G)) {M : Mem} (sz : Nat) : Met l yX4_open wsX4_open ({ frames := 0, cells := 0, slots := 0, locals := 0 }) (va_Pc [.ref (wa (mdO G) 0)] (wp (mdO G) sz M)) (wQi (mdO G) sz (mopV M) (mopM M)) 0 0 (wA (mdO G) sz) := by
  refine wd_ofW (O := (mdO G)) (M := M) (Qc := fun z => wQi (mdO G) z (mopV M) (mopM M)) (cc := cX4_open) (maxL := 2) (ret := (some .int)) (lv := [(0, .ref (wa (mdO G) 0))]) (by decide) rfl (Nat.le_of_ble_eq_true rfl) rfl ?_
  intro p e s m below meth c ls hx hb hr hml hown hts hlocks hP hK hS hl
  have hi4 : ∀ w ∈ wsX40, w ∈ wsX4_open := by decide +kernel
  refine lv_iconst (v := 0) hx hb dX4_open_0 (by decide) ?_
  refine lv_istore_n (lv' := [(1, .int 0), (0, .ref (wa (mdO G) 0))]) hx hb dX4_open_1 rfl hl (by decide) rfl (fun ls hl => ?_)
  refine wl_loop (pc := 2) (fun k j N v ls H locs => (j + k = 6) ∧ (mfo M k j = mfo M 6 0) ∧ va_P (wD (mdO G)) vwCl (wd (mdO G) M) H ∧ va_S (wA (mdO G) s.heap.size) s.heap H locs ∧ lv_has ls 2 [(1, .int (nI j)), (0, .ref (wa (mdO G) 0))]) ?_ ?_ 6 0 M 0 ⟨by omega, rfl, hP, hS, lv_sub hl [0, 1] rfl⟩
  · rintro j N v ls H locs ⟨h1, h2, hP, hS, hl⟩
    refine lv_iload_n hx hb dX4_open_2 rfl (lv_at hl 0 rfl) ?_
    refine lv_bipush (v := 6) hx hb dX4_open_3 (by decide) ?_
    refine lv_icmp_ge (tgt := 65) hx hb dX4_open_5 (by decide) (fun c1 => ?_) (fun c1 => absurd (show nI 6 ≤ nI j from nI_le (by omega) (by omega)) c1)
    refine lv_aload_n hx hb dX4_open_65 rfl (lv_at hl 1 rfl) ?_
    refine lv_iconst (v := 1) hx hb dX4_open_66 (by decide) ?_
    refine wd_put (O := (mdO G)) (ty := .int) hj hx hb hts hi4 tyX4 tyX4_ok nmX4 hown hK hP hS (md_lt (by omega)) mE_0 rfl 1 (by decide) (hts (.fieldLink RX4 50 "LeaseDeskModel" "thrown" "I") (by decide +kernel)) (fun _ h9 => h9) rfl (by decide +kernel) rfl rfl (Nat.le_of_ble_eq_true rfl) (mE_0.trans rfl) dX4_open_67 (fun H locs hP hS => ?_)
    refine lv_iconst (v := 0) hx hb dX4_open_70 (by decide) ?_
    exact wd_iret (O := (mdO G)) hx hb hr hlocks hK hP hS rfl dX4_open_71 (by unfold mopV; rw [← h2]; rfl) (by unfold mopM; rw [← h2]; rfl)
  · rintro k j N v ls H locs ih ⟨h1, h2, hP, hS, hl⟩
    refine lv_iload_n hx hb dX4_open_2 rfl (lv_at hl 0 rfl) ?_
    refine lv_bipush (v := 6) hx hb dX4_open_3 (by decide) ?_
    refine lv_icmp_ge (tgt := 65) hx hb dX4_open_5 (by decide) (fun c2 => absurd c2 (show ¬ nI 6 ≤ nI j from nI_ge (by omega) (by omega))) (fun c2 => ?_)
    refine lv_aload_n hx hb dX4_open_8 rfl (lv_at hl 1 rfl) ?_
    refine wd_get (O := (mdO G)) (v := .ref (wa (mdO G) 1)) hx hb hts hi4 hown hK hP (md_lt (by omega)) mE_0 rfl 3 (by decide) (hts (.fieldLink RX4 9 "LeaseDeskModel" "there" "[Z") (by decide +kernel)) (fun _ h9 => h9) rfl dX4_open_9 ?_
    refine lv_iload_n hx hb dX4_open_12 rfl (lv_at hl 0 rfl) ?_
    refine wd_zald (O := (mdO G)) hx hb hK hP (md_lt (by omega)) 1 (mE_z _) rfl (i := j) rfl (by omega) (by decide) dX4_open_13 ?_
    refine lv_if_eq (tgt := 20) hx hb dX4_open_14 (by decide) (fun c3 => ?_) (fun c3 => ?_)
    · refine lv_aload_n hx hb dX4_open_20 rfl (lv_at hl 1 rfl) ?_
      refine wd_get (O := (mdO G)) (v := .ref (wa (mdO G) 1)) hx hb hts hi4 hown hK hP (md_lt (by omega)) mE_0 rfl 3 (by decide) (hts (.fieldLink RX4 9 "LeaseDeskModel" "there" "[Z") (by decide +kernel)) (fun _ h9 => h9) rfl dX4_open_21 ?_
      refine lv_iload_n hx hb dX4_open_24 rfl (lv_at hl 0 rfl) ?_
      refine lv_iconst (v := 1) hx hb dX4_open_25 (by decide) ?_
      refine wd_zast (O := (mdO G)) hj hx hb hK hP hS (md_lt (by omega)) 1 mE_z rfl (i := j) rfl (by omega) (by decide) (by decide) dX4_open_26 (fun H locs hP hS => ?_)
      refine lv_aload_n hx hb dX4_open_27 rfl (lv_at hl 1 rfl) ?_
      refine wd_get (O := (mdO G)) (v := .ref (wa (mdO G) 2)) hx hb hts hi4 hown hK hP (md_lt (by omega)) mE_0 rfl 4 (by decide) (hts (.fieldLink RX4 13 "LeaseDeskModel" "signed" "[I") (by decide +kernel)) (fun _ h9 => h9) rfl dX4_open_28 ?_
      refine lv_iload_n hx hb dX4_open_31 rfl (lv_at hl 0 rfl) ?_
      refine lv_aload_n hx hb dX4_open_32 rfl (lv_at hl 1 rfl) ?_
      refine wd_get (O := (mdO G)) (v := .int ((up M 1 j 1) 0 0)) hx hb hts hi4 hown hK hP (md_lt (by omega)) mE_0 rfl 0 (by decide) (hts (.fieldLink RX4 54 "LeaseDeskModel" "time" "I") (by decide +kernel)) (fun _ h9 => h9) rfl dX4_open_33 ?_
      refine wd_iast (O := (mdO G)) hj hx hb hK hP hS (md_lt (by omega)) 0 mE_2 rfl (i := j) rfl (by omega) (by decide) dX4_open_36 (fun H locs hP hS => ?_)
      refine lv_aload_n hx hb dX4_open_37 rfl (lv_at hl 1 rfl) ?_
      refine wd_get (O := (mdO G)) (v := .ref (wa (mdO G) 3)) hx hb hts hi4 hown hK hP (md_lt (by omega)) mE_0 rfl 5 (by decide) (hts (.fieldLink RX4 17 "LeaseDeskModel" "rates" "[I") (by decide +kernel)) (fun _ h9 => h9) rfl dX4_open_38 ?_
      refine lv_iload_n hx hb dX4_open_41 rfl (lv_at hl 0 rfl) ?_
      refine lv_bipush (v := 10) hx hb dX4_open_42 (by decide) ?_
      refine wd_iast (O := (mdO G)) hj hx hb hK hP hS (md_lt (by omega)) 0 mE_3 rfl (i := j) rfl (by omega) (by decide) dX4_open_44 (fun H locs hP hS => ?_)
      refine lv_aload_n hx hb dX4_open_45 rfl (lv_at hl 1 rfl) ?_
      refine wd_get (O := (mdO G)) (v := .ref (wa (mdO G) 4)) hx hb hts hi4 hown hK hP (md_lt (by omega)) mE_0 rfl 6 (by decide) (hts (.fieldLink RX4 20 "LeaseDeskModel" "clocks" "[I") (by decide +kernel)) (fun _ h9 => h9) rfl dX4_open_46 ?_
      refine lv_iload_n hx hb dX4_open_49 rfl (lv_at hl 0 rfl) ?_
      refine lv_iconst (v := 0) hx hb dX4_open_50 (by decide) ?_
      refine wd_iast (O := (mdO G)) hj hx hb hK hP hS (md_lt (by omega)) 0 mE_4 rfl (i := j) rfl (by omega) (by decide) dX4_open_51 (fun H locs hP hS => ?_)
      refine lv_aload_n hx hb dX4_open_52 rfl (lv_at hl 1 rfl) ?_
      refine lv_iconst (v := 0) hx hb dX4_open_53 (by decide) ?_
      refine wd_put (O := (mdO G)) (ty := .int) hj hx hb hts hi4 tyX4 tyX4_ok nmX4 hown hK hP hS (md_lt (by omega)) mE_0 rfl 1 (by decide) (hts (.fieldLink RX4 50 "LeaseDeskModel" "thrown" "I") (by decide +kernel)) (fun _ h9 => h9) rfl (by decide +kernel) rfl rfl (Nat.le_of_ble_eq_true rfl) (mE_0.trans rfl) dX4_open_54 (fun H locs hP hS => ?_)
      refine lv_iload_n hx hb dX4_open_57 rfl (lv_at hl 0 rfl) ?_
      exact wd_iret (O := (mdO G)) hx hb hr hlocks hK hP hS rfl dX4_open_58 (by unfold mopV; rw [← h2]; simp only [mfo, if_pos c3]) (by unfold mopM; rw [← h2]; simp only [mfo, if_pos c3] <;> rfl)
    · refine lv_goto (tgt := 59) hx hb dX4_open_17 (by decide) ?_
      refine lv_iinc (v := nI (j + 1)) (lv' := [(1, .int (nI (j + 1))), (0, .ref (wa (mdO G) 0))]) hx hb dX4_open_59 hl (k := 0) rfl (nI_1 j) (by decide) rfl (fun ls hl => ?_)
      refine lv_goto (tgt := 2) hx hb dX4_open_62 (by decide) ?_
      exact ih (j + 1) N v ls H locs ⟨by omega, by rw [← h2]; simp only [mfo, if_neg c3], hP, hS, lv_sub hl [0, 1] rfl⟩
set_option maxRecDepth 100000 in
set_option maxHeartbeats 4000000 in
theorem c_X4_close {l : Launch} {G : MG} (hj : wj (mdO G)) {M : Mem} (sz : Nat) (x : Int32) : Met l yX4_close wsX4_close ({ frames := 3, cells := 0, slots := 0, locals := 71 }) (va_Pc [.ref (wa (mdO G) 0), .int x] (wp (mdO G) sz M)) (wQi (mdO G) sz (mclV M x) (mclM M x)) 0 0 (wA (mdO G) sz) := by
  rcases op_cases (moV M x) with ho | ⟨j1, ho⟩
  · refine wd_ofW (O := (mdO G)) (M := M) (Qc := fun z => wQi (mdO G) z (mclV M x) (mclM M x)) (cc := cX4_close) (maxL := 2) (ret := (some .int)) (lv := [(0, .ref (wa (mdO G) 0)), (1, .int x)]) (by decide) rfl (Nat.le_of_ble_eq_true rfl) rfl ?_
    intro p e s m below meth c ls hx hb hr hml hown hts hlocks hP hK hS hl
    have hi4 : ∀ w ∈ wsX40, w ∈ wsX4_close := by decide +kernel
    refine lv_aload_n hx hb dX4_close_0 rfl (lv_at hl 0 rfl) ?_
    refine lv_aload_n hx hb dX4_close_1 rfl (lv_at hl 0 rfl) ?_
    refine lv_iload_n hx hb dX4_close_2 rfl (lv_at hl 1 rfl) ?_
    refine wd_ci (O := (mdO G)) hS (va_runV (As := [.int x]) (rest := [.ref (wa (mdO G) 0)]) ⟨hx, hb, hml, hown, hts⟩ (c_X4_isOpen (G := G) hj s.heap.size x ) (cwV 1 hts gX4_close_X4_isOpen rfl rfl rfl (by decide +kernel) ⟨Nat.le_of_ble_eq_true rfl, Nat.le_of_ble_eq_true rfl⟩) (wd_pre hK hP (md_lt (by omega)) mE_0 rfl) rfl rfl hl.1 rfl (lv_room (Nat.le_of_ble_eq_true rfl)) dX4_close_3 ⟨Nat.le_of_ble_eq_true rfl, Nat.le_of_ble_eq_true rfl⟩) (fun H locs hP hS => ?_)
    refine wd_re (y := 0) (by rw [ho]; rfl) ?_
    refine lv_if_eq (tgt := 13) hx hb dX4_close_6 (by decide) (fun c1 => ?_) (fun c1 => absurd rfl c1)
    refine lv_iconst (v := 1) hx hb dX4_close_13 (by decide) ?_
    refine wd_put (O := (mdO G)) (ty := .int) hj hx hb hts hi4 tyX4 tyX4_ok nmX4 hown hK hP hS (md_lt (by omega)) mE_0 rfl 1 (by decide) (hts (.fieldLink RX4 50 "LeaseDeskModel" "thrown" "I") (by decide +kernel)) (fun _ h9 => h9) rfl (by decide +kernel) rfl rfl (Nat.le_of_ble_eq_true rfl) (mE_0.trans rfl) dX4_close_14 (fun H locs hP hS => ?_)
    refine lv_aload_n hx hb dX4_close_17 rfl (lv_at hl 0 rfl) ?_
    refine wd_get (O := (mdO G)) (v := .int ((up M 0 1 1) 0 1)) hx hb hts hi4 hown hK hP (md_lt (by omega)) mE_0 rfl 1 (by decide) (hts (.fieldLink RX4 50 "LeaseDeskModel" "thrown" "I") (by decide +kernel)) (fun _ h9 => h9) rfl dX4_close_18 ?_
    refine wd_re (y := 1) (up_s _ _ _ _) ?_
    refine lv_if_le (tgt := 28) hx hb dX4_close_21 (by decide) (fun c2 => absurd c2 (by decide)) (fun c2 => ?_)
    refine lv_iconst (v := 0) hx hb dX4_close_24 (by decide) ?_
    refine lv_goto (tgt := 33) hx hb dX4_close_25 (by decide) ?_
    exact wd_iret (O := (mdO G)) hx hb hr hlocks hK hP hS rfl dX4_close_33 (by simp only [mclV, ho]) (by simp only [mclM, ho])
  · obtain ⟨hj1, rfl, hon⟩ := moV_some ho
    refine wd_ofW (O := (mdO G)) (M := M) (Qc := fun z => wQi (mdO G) z (mclV M (nI j1)) (mclM M (nI j1))) (cc := cX4_close) (maxL := 2) (ret := (some .int)) (lv := [(0, .ref (wa (mdO G) 0)), (1, .int (nI j1))]) (by decide) rfl (Nat.le_of_ble_eq_true rfl) rfl ?_
    intro p e s m below meth c ls hx hb hr hml hown hts hlocks hP hK hS hl
    have hi4 : ∀ w ∈ wsX40, w ∈ wsX4_close := by decide +kernel
    refine lv_aload_n hx hb dX4_close_0 rfl (lv_at hl 0 rfl) ?_
    refine lv_aload_n hx hb dX4_close_1 rfl (lv_at hl 0 rfl) ?_
    refine lv_iload_n hx hb dX4_close_2 rfl (lv_at hl 1 rfl) ?_
    refine wd_ci (O := (mdO G)) hS (va_runV (As := [.int (nI j1)]) (rest := [.ref (wa (mdO G) 0)]) ⟨hx, hb, hml, hown, hts⟩ (c_X4_isOpen (G := G) hj s.heap.size (nI j1) ) (cwV 1 hts gX4_close_X4_isOpen rfl rfl rfl (by decide +kernel) ⟨Nat.le_of_ble_eq_true rfl, Nat.le_of_ble_eq_true rfl⟩) (wd_pre hK hP (md_lt (by omega)) mE_0 rfl) rfl rfl hl.1 rfl (lv_room (Nat.le_of_ble_eq_true rfl)) dX4_close_3 ⟨Nat.le_of_ble_eq_true rfl, Nat.le_of_ble_eq_true rfl⟩) (fun H locs hP hS => ?_)
    refine wd_re (y := 1) (by rw [ho]; rfl) ?_
    refine lv_if_eq (tgt := 13) hx hb dX4_close_6 (by decide) (fun c3 => absurd c3 (by decide)) (fun c3 => ?_)
    refine lv_iconst (v := 0) hx hb dX4_close_9 (by decide) ?_
    refine lv_goto (tgt := 14) hx hb dX4_close_10 (by decide) ?_
    refine wd_put (O := (mdO G)) (ty := .int) hj hx hb hts hi4 tyX4 tyX4_ok nmX4 hown hK hP hS (md_lt (by omega)) mE_0 rfl 1 (by decide) (hts (.fieldLink RX4 50 "LeaseDeskModel" "thrown" "I") (by decide +kernel)) (fun _ h9 => h9) rfl (by decide +kernel) rfl rfl (Nat.le_of_ble_eq_true rfl) (mE_0.trans rfl) dX4_close_14 (fun H locs hP hS => ?_)
    refine lv_aload_n hx hb dX4_close_17 rfl (lv_at hl 0 rfl) ?_
    refine wd_get (O := (mdO G)) (v := .int ((up M 0 1 0) 0 1)) hx hb hts hi4 hown hK hP (md_lt (by omega)) mE_0 rfl 1 (by decide) (hts (.fieldLink RX4 50 "LeaseDeskModel" "thrown" "I") (by decide +kernel)) (fun _ h9 => h9) rfl dX4_close_18 ?_
    refine wd_re (y := 0) (up_s _ _ _ _) ?_
    refine lv_if_le (tgt := 28) hx hb dX4_close_21 (by decide) (fun c4 => ?_) (fun c4 => absurd (by decide) c4)
    refine lv_aload_n hx hb dX4_close_28 rfl (lv_at hl 0 rfl) ?_
    refine lv_iload_n hx hb dX4_close_29 rfl (lv_at hl 1 rfl) ?_
    refine wd_ci (O := (mdO G)) hS (va_runV (As := [.int (nI j1)]) (rest := []) ⟨hx, hb, hml, hown, hts⟩ (c_X4_gone (G := G) hj H.size j1 (by omega)) (cwV 1 hts gX4_close_X4_gone rfl rfl rfl (by decide +kernel) ⟨Nat.le_of_ble_eq_true rfl, Nat.le_of_ble_eq_true rfl⟩) (wd_pre hK hP (md_lt (by omega)) mE_0 rfl) rfl rfl hl.1 rfl (lv_room (Nat.le_of_ble_eq_true rfl)) dX4_close_30 ⟨Nat.le_of_ble_eq_true rfl, Nat.le_of_ble_eq_true rfl⟩) (fun H locs hP hS => ?_)
    exact wd_iret (O := (mdO G)) hx hb hr hlocks hK hP hS rfl dX4_close_33 (by simp only [mclV, ho]) (by simp only [mclM, ho])
set_option maxRecDepth 100000 in
set_option maxHeartbeats 4000000 in
theorem c_X4_keep {l : Launch} {G : MG} (hj : wj (mdO G)) {M : Mem} (sz : Nat) (x : Int32) : Met l yX4_keep wsX4_keep ({ frames := 1, cells := 0, slots := 0, locals := 21 }) (va_Pc [.ref (wa (mdO G) 0), .int x] (wp (mdO G) sz M)) (wQv (mdO G) sz (mkpM M x)) 0 0 (wA (mdO G) sz) := by
  rcases op_cases (moV M x) with ho | ⟨j1, ho⟩
  · refine wd_ofW (O := (mdO G)) (M := M) (Qc := fun z => wQv (mdO G) z (mkpM M x)) (cc := cX4_keep) (maxL := 2) (ret := none) (lv := [(0, .ref (wa (mdO G) 0)), (1, .int x)]) (by decide) rfl (Nat.le_of_ble_eq_true rfl) rfl ?_
    intro p e s m below meth c ls hx hb hr hml hown hts hlocks hP hK hS hl
    have hi4 : ∀ w ∈ wsX40, w ∈ wsX4_keep := by decide +kernel
    refine lv_aload_n hx hb dX4_keep_0 rfl (lv_at hl 0 rfl) ?_
    refine lv_aload_n hx hb dX4_keep_1 rfl (lv_at hl 0 rfl) ?_
    refine lv_iload_n hx hb dX4_keep_2 rfl (lv_at hl 1 rfl) ?_
    refine wd_ci (O := (mdO G)) hS (va_runV (As := [.int x]) (rest := [.ref (wa (mdO G) 0)]) ⟨hx, hb, hml, hown, hts⟩ (c_X4_isOpen (G := G) hj s.heap.size x ) (cwV 1 hts gX4_keep_X4_isOpen rfl rfl rfl (by decide +kernel) ⟨Nat.le_of_ble_eq_true rfl, Nat.le_of_ble_eq_true rfl⟩) (wd_pre hK hP (md_lt (by omega)) mE_0 rfl) rfl rfl hl.1 rfl (lv_room (Nat.le_of_ble_eq_true rfl)) dX4_keep_3 ⟨Nat.le_of_ble_eq_true rfl, Nat.le_of_ble_eq_true rfl⟩) (fun H locs hP hS => ?_)
    refine wd_re (y := 0) (by rw [ho]; rfl) ?_
    refine lv_if_eq (tgt := 13) hx hb dX4_keep_6 (by decide) (fun c1 => ?_) (fun c1 => absurd rfl c1)
    refine lv_iconst (v := 1) hx hb dX4_keep_13 (by decide) ?_
    refine wd_put (O := (mdO G)) (ty := .int) hj hx hb hts hi4 tyX4 tyX4_ok nmX4 hown hK hP hS (md_lt (by omega)) mE_0 rfl 1 (by decide) (hts (.fieldLink RX4 50 "LeaseDeskModel" "thrown" "I") (by decide +kernel)) (fun _ h9 => h9) rfl (by decide +kernel) rfl rfl (Nat.le_of_ble_eq_true rfl) (mE_0.trans rfl) dX4_keep_14 (fun H locs hP hS => ?_)
    refine lv_aload_n hx hb dX4_keep_17 rfl (lv_at hl 0 rfl) ?_
    refine wd_get (O := (mdO G)) (v := .int ((up M 0 1 1) 0 1)) hx hb hts hi4 hown hK hP (md_lt (by omega)) mE_0 rfl 1 (by decide) (hts (.fieldLink RX4 50 "LeaseDeskModel" "thrown" "I") (by decide +kernel)) (fun _ h9 => h9) rfl dX4_keep_18 ?_
    refine wd_re (y := 1) (up_s _ _ _ _) ?_
    refine lv_if_ne (tgt := 34) hx hb dX4_keep_21 (by decide) (fun c2 => ?_) (fun c2 => absurd c2 (by decide))
    exact wd_vret (O := (mdO G)) hx hb hr hlocks hK hP hS dX4_keep_34 (by simp only [mkpM, ho])
  · obtain ⟨hj1, rfl, hon⟩ := moV_some ho
    refine wd_ofW (O := (mdO G)) (M := M) (Qc := fun z => wQv (mdO G) z (mkpM M (nI j1))) (cc := cX4_keep) (maxL := 2) (ret := none) (lv := [(0, .ref (wa (mdO G) 0)), (1, .int (nI j1))]) (by decide) rfl (Nat.le_of_ble_eq_true rfl) rfl ?_
    intro p e s m below meth c ls hx hb hr hml hown hts hlocks hP hK hS hl
    have hi4 : ∀ w ∈ wsX40, w ∈ wsX4_keep := by decide +kernel
    refine lv_aload_n hx hb dX4_keep_0 rfl (lv_at hl 0 rfl) ?_
    refine lv_aload_n hx hb dX4_keep_1 rfl (lv_at hl 0 rfl) ?_
    refine lv_iload_n hx hb dX4_keep_2 rfl (lv_at hl 1 rfl) ?_
    refine wd_ci (O := (mdO G)) hS (va_runV (As := [.int (nI j1)]) (rest := [.ref (wa (mdO G) 0)]) ⟨hx, hb, hml, hown, hts⟩ (c_X4_isOpen (G := G) hj s.heap.size (nI j1) ) (cwV 1 hts gX4_keep_X4_isOpen rfl rfl rfl (by decide +kernel) ⟨Nat.le_of_ble_eq_true rfl, Nat.le_of_ble_eq_true rfl⟩) (wd_pre hK hP (md_lt (by omega)) mE_0 rfl) rfl rfl hl.1 rfl (lv_room (Nat.le_of_ble_eq_true rfl)) dX4_keep_3 ⟨Nat.le_of_ble_eq_true rfl, Nat.le_of_ble_eq_true rfl⟩) (fun H locs hP hS => ?_)
    refine wd_re (y := 1) (by rw [ho]; rfl) ?_
    refine lv_if_eq (tgt := 13) hx hb dX4_keep_6 (by decide) (fun c3 => absurd c3 (by decide)) (fun c3 => ?_)
    refine lv_iconst (v := 0) hx hb dX4_keep_9 (by decide) ?_
    refine lv_goto (tgt := 14) hx hb dX4_keep_10 (by decide) ?_
    refine wd_put (O := (mdO G)) (ty := .int) hj hx hb hts hi4 tyX4 tyX4_ok nmX4 hown hK hP hS (md_lt (by omega)) mE_0 rfl 1 (by decide) (hts (.fieldLink RX4 50 "LeaseDeskModel" "thrown" "I") (by decide +kernel)) (fun _ h9 => h9) rfl (by decide +kernel) rfl rfl (Nat.le_of_ble_eq_true rfl) (mE_0.trans rfl) dX4_keep_14 (fun H locs hP hS => ?_)
    refine lv_aload_n hx hb dX4_keep_17 rfl (lv_at hl 0 rfl) ?_
    refine wd_get (O := (mdO G)) (v := .int ((up M 0 1 0) 0 1)) hx hb hts hi4 hown hK hP (md_lt (by omega)) mE_0 rfl 1 (by decide) (hts (.fieldLink RX4 50 "LeaseDeskModel" "thrown" "I") (by decide +kernel)) (fun _ h9 => h9) rfl dX4_keep_18 ?_
    refine wd_re (y := 0) (up_s _ _ _ _) ?_
    refine lv_if_ne (tgt := 34) hx hb dX4_keep_21 (by decide) (fun c4 => absurd rfl c4) (fun c4 => ?_)
    refine lv_aload_n hx hb dX4_keep_24 rfl (lv_at hl 0 rfl) ?_
    refine wd_get (O := (mdO G)) (v := .ref (wa (mdO G) 2)) hx hb hts hi4 hown hK hP (md_lt (by omega)) mE_0 rfl 4 (by decide) (hts (.fieldLink RX4 13 "LeaseDeskModel" "signed" "[I") (by decide +kernel)) (fun _ h9 => h9) rfl dX4_keep_25 ?_
    refine lv_iload_n hx hb dX4_keep_28 rfl (lv_at hl 1 rfl) ?_
    refine lv_aload_n hx hb dX4_keep_29 rfl (lv_at hl 0 rfl) ?_
    refine wd_get (O := (mdO G)) (v := .int ((up M 0 1 0) 0 0)) hx hb hts hi4 hown hK hP (md_lt (by omega)) mE_0 rfl 0 (by decide) (hts (.fieldLink RX4 54 "LeaseDeskModel" "time" "I") (by decide +kernel)) (fun _ h9 => h9) rfl dX4_keep_30 ?_
    refine wd_iast (O := (mdO G)) hj hx hb hK hP hS (md_lt (by omega)) 0 mE_2 rfl (i := j1) rfl (by omega) (by decide) dX4_keep_33 (fun H locs hP hS => ?_)
    exact wd_vret (O := (mdO G)) hx hb hr hlocks hK hP hS dX4_keep_34 (by simp only [mkpM, ho])
set_option maxRecDepth 100000 in
set_option maxHeartbeats 4000000 in
theorem c_X4_rate {l : Launch} {G : MG} (hj : wj (mdO G)) {M : Mem} (sz : Nat) (x r : Int32) : Met l yX4_rate wsX4_rate ({ frames := 1, cells := 0, slots := 0, locals := 21 }) (va_Pc [.ref (wa (mdO G) 0), .int x, .int r] (wp (mdO G) sz M)) (wQi (mdO G) sz (mrtV M x r) (mrtM M x r)) 0 0 (wA (mdO G) sz) := by
  rcases op_cases (moV M x) with ho | ⟨j1, ho⟩
  · refine wd_ofW (O := (mdO G)) (M := M) (Qc := fun z => wQi (mdO G) z (mrtV M x r) (mrtM M x r)) (cc := cX4_rate) (maxL := 3) (ret := (some .boolean)) (lv := [(0, .ref (wa (mdO G) 0)), (1, .int x), (2, .int r)]) (by decide) rfl (Nat.le_of_ble_eq_true rfl) rfl ?_
    intro p e s m below meth c ls hx hb hr hml hown hts hlocks hP hK hS hl
    have hi4 : ∀ w ∈ wsX40, w ∈ wsX4_rate := by decide +kernel
    refine lv_aload_n hx hb dX4_rate_0 rfl (lv_at hl 0 rfl) ?_
    refine lv_iload_n hx hb dX4_rate_1 rfl (lv_at hl 1 rfl) ?_
    refine wd_ci (O := (mdO G)) hS (va_runV (As := [.int x]) (rest := []) ⟨hx, hb, hml, hown, hts⟩ (c_X4_isOpen (G := G) hj s.heap.size x ) (cwV 1 hts gX4_rate_X4_isOpen rfl rfl rfl (by decide +kernel) ⟨Nat.le_of_ble_eq_true rfl, Nat.le_of_ble_eq_true rfl⟩) (wd_pre hK hP (md_lt (by omega)) mE_0 rfl) rfl rfl hl.1 rfl (lv_room (Nat.le_of_ble_eq_true rfl)) dX4_rate_2 ⟨Nat.le_of_ble_eq_true rfl, Nat.le_of_ble_eq_true rfl⟩) (fun H locs hP hS => ?_)
    refine wd_re (y := 0) (by rw [ho]; rfl) ?_
    refine lv_if_eq (tgt := 20) hx hb dX4_rate_5 (by decide) (fun c1 => ?_) (fun c1 => absurd rfl c1)
    refine lv_iconst (v := 0) hx hb dX4_rate_20 (by decide) ?_
    exact wd_iret (O := (mdO G)) hx hb hr hlocks hK hP hS (by decide) dX4_rate_21 (by simp only [mrtV, ho]) (by simp only [mrtM, ho])
  · obtain ⟨hj1, rfl, hon⟩ := moV_some ho
    refine wd_ofW (O := (mdO G)) (M := M) (Qc := fun z => wQi (mdO G) z (mrtV M (nI j1) r) (mrtM M (nI j1) r)) (cc := cX4_rate) (maxL := 3) (ret := (some .boolean)) (lv := [(0, .ref (wa (mdO G) 0)), (1, .int (nI j1)), (2, .int r)]) (by decide) rfl (Nat.le_of_ble_eq_true rfl) rfl ?_
    intro p e s m below meth c ls hx hb hr hml hown hts hlocks hP hK hS hl
    have hi4 : ∀ w ∈ wsX40, w ∈ wsX4_rate := by decide +kernel
    refine lv_aload_n hx hb dX4_rate_0 rfl (lv_at hl 0 rfl) ?_
    refine lv_iload_n hx hb dX4_rate_1 rfl (lv_at hl 1 rfl) ?_
    refine wd_ci (O := (mdO G)) hS (va_runV (As := [.int (nI j1)]) (rest := []) ⟨hx, hb, hml, hown, hts⟩ (c_X4_isOpen (G := G) hj s.heap.size (nI j1) ) (cwV 1 hts gX4_rate_X4_isOpen rfl rfl rfl (by decide +kernel) ⟨Nat.le_of_ble_eq_true rfl, Nat.le_of_ble_eq_true rfl⟩) (wd_pre hK hP (md_lt (by omega)) mE_0 rfl) rfl rfl hl.1 rfl (lv_room (Nat.le_of_ble_eq_true rfl)) dX4_rate_2 ⟨Nat.le_of_ble_eq_true rfl, Nat.le_of_ble_eq_true rfl⟩) (fun H locs hP hS => ?_)
    refine wd_re (y := 1) (by rw [ho]; rfl) ?_
    refine lv_if_eq (tgt := 20) hx hb dX4_rate_5 (by decide) (fun c2 => absurd c2 (by decide)) (fun c2 => ?_)
    refine lv_iload_n hx hb dX4_rate_8 rfl (lv_at hl 2 rfl) ?_
    refine lv_bipush (v := 9) hx hb dX4_rate_9 (by decide) ?_
    refine lv_icmp_lt (tgt := 20) hx hb dX4_rate_11 (by decide) (fun c3 => ?_) (fun c3 => ?_)
    · refine lv_iconst (v := 0) hx hb dX4_rate_20 (by decide) ?_
      exact wd_iret (O := (mdO G)) hx hb hr hlocks hK hP hS (by decide) dX4_rate_21 (by simp only [mrtV, ho, if_pos c3]) (by simp only [mrtM, ho, if_pos c3])
    · refine lv_iload_n hx hb dX4_rate_14 rfl (lv_at hl 2 rfl) ?_
      refine lv_bipush (v := 11) hx hb dX4_rate_15 (by decide) ?_
      refine lv_icmp_le (tgt := 22) hx hb dX4_rate_17 (by decide) (fun c4 => ?_) (fun c4 => ?_)
      · refine lv_aload_n hx hb dX4_rate_22 rfl (lv_at hl 0 rfl) ?_
        refine wd_get (O := (mdO G)) (v := .ref (wa (mdO G) 3)) hx hb hts hi4 hown hK hP (md_lt (by omega)) mE_0 rfl 5 (by decide) (hts (.fieldLink RX4 17 "LeaseDeskModel" "rates" "[I") (by decide +kernel)) (fun _ h9 => h9) rfl dX4_rate_23 ?_
        refine lv_iload_n hx hb dX4_rate_26 rfl (lv_at hl 1 rfl) ?_
        refine lv_iload_n hx hb dX4_rate_27 rfl (lv_at hl 2 rfl) ?_
        refine wd_iast (O := (mdO G)) hj hx hb hK hP hS (md_lt (by omega)) 0 mE_3 rfl (i := j1) rfl (by omega) (by decide) dX4_rate_28 (fun H locs hP hS => ?_)
        refine lv_iconst (v := 1) hx hb dX4_rate_29 (by decide) ?_
        exact wd_iret (O := (mdO G)) hx hb hr hlocks hK hP hS (by decide) dX4_rate_30 (by simp only [mrtV, ho, if_neg c3, if_pos c4]) (by simp only [mrtM, ho, if_neg c3, if_pos c4])
      · refine lv_iconst (v := 0) hx hb dX4_rate_20 (by decide) ?_
        exact wd_iret (O := (mdO G)) hx hb hr hlocks hK hP hS (by decide) dX4_rate_21 (by simp only [mrtV, ho, if_neg c3, if_neg c4]) (by simp only [mrtM, ho, if_neg c3, if_neg c4])
set_option maxRecDepth 100000 in
set_option maxHeartbeats 4000000 in
theorem c_X4_tick {l : Launch} {G : MG} (hj : wj (mdO G)) {M : Mem} (sz : Nat) (d : Int32) : Met l yX4_tick wsX4_tick ({ frames := 3, cells := 0, slots := 0, locals := 71 }) (va_Pc [.ref (wa (mdO G) 0), .int d] (wp (mdO G) sz M)) (wQi (mdO G) sz (mtcV M d) (mtcM M d)) 0 0 (wA (mdO G) sz) := by
  refine wd_ofW (O := (mdO G)) (M := M) (Qc := fun z => wQi (mdO G) z (mtcV M d) (mtcM M d)) (cc := cX4_tick) (maxL := 4) (ret := (some .int)) (lv := [(0, .ref (wa (mdO G) 0)), (1, .int d)]) (by decide) rfl (Nat.le_of_ble_eq_true rfl) rfl ?_
  intro p e s m below meth c ls hx hb hr hml hown hts hlocks hP hK hS hl
  have hi4 : ∀ w ∈ wsX40, w ∈ wsX4_tick := by decide +kernel
  refine lv_iload_n hx hb dX4_tick_0 rfl (lv_at hl 1 rfl) ?_
  refine lv_if_lt (tgt := 10) hx hb dX4_tick_1 (by decide) (fun c1 => ?_) (fun c1 => ?_)
  · refine lv_iconst (v := (-1)) hx hb dX4_tick_10 (by decide) ?_
    exact wd_iret (O := (mdO G)) hx hb hr hlocks hK hP hS rfl dX4_tick_11 (by simp only [mtcV, if_pos c1]) (by simp only [mtcM, if_pos c1])
  · refine lv_iload_n hx hb dX4_tick_4 rfl (lv_at hl 1 rfl) ?_
    refine lv_bipush (v := 100) hx hb dX4_tick_5 (by decide) ?_
    refine lv_icmp_le (tgt := 12) hx hb dX4_tick_7 (by decide) (fun c2 => ?_) (fun c2 => ?_)
    · refine lv_aload_n hx hb dX4_tick_12 rfl (lv_at hl 0 rfl) ?_
      refine lv_aload_n hx hb dX4_tick_13 rfl (lv_at hl 0 rfl) ?_
      refine wd_get (O := (mdO G)) (v := .int (M 0 0)) hx hb hts hi4 hown hK hP (md_lt (by omega)) mE_0 rfl 0 (by decide) (hts (.fieldLink RX4 54 "LeaseDeskModel" "time" "I") (by decide +kernel)) (fun _ h9 => h9) rfl dX4_tick_14 ?_
      refine lv_iload_n hx hb dX4_tick_17 rfl (lv_at hl 1 rfl) ?_
      refine lv_iadd hx hb dX4_tick_18 ?_
      refine wd_put (O := (mdO G)) (ty := .int) hj hx hb hts hi4 tyX4 tyX4_ok nmX4 hown hK hP hS (md_lt (by omega)) mE_0 rfl 0 (by decide) (hts (.fieldLink RX4 54 "LeaseDeskModel" "time" "I") (by decide +kernel)) (fun _ h9 => h9) rfl (by decide +kernel) rfl rfl (Nat.le_of_ble_eq_true rfl) (mE_0.trans rfl) dX4_tick_19 (fun H locs hP hS => ?_)
      refine lv_iconst (v := 0) hx hb dX4_tick_22 (by decide) ?_
      refine lv_istore_n (lv' := [(2, .int 0), (0, .ref (wa (mdO G) 0)), (1, .int d)]) hx hb dX4_tick_23 rfl hl (by decide) rfl (fun ls hl => ?_)
      refine lv_iconst (v := 0) hx hb dX4_tick_24 (by decide) ?_
      refine lv_istore_n (lv' := [(3, .int 0), (2, .int 0), (0, .ref (wa (mdO G) 0)), (1, .int d)]) hx hb dX4_tick_25 rfl hl (by decide) rfl (fun ls hl => ?_)
      refine wl_loop (pc := 26) (fun k j N v ls H locs => (j + k = 6) ∧ (mmv d k j N = mmv d 6 0 (up M 0 0 (M 0 0 + d))) ∧ (v = 0) ∧ va_P (wD (mdO G)) vwCl (wd (mdO G) N) H ∧ va_S (wA (mdO G) s.heap.size) s.heap H locs ∧ lv_has ls 4 [(3, .int (nI j)), (2, .int v), (0, .ref (wa (mdO G) 0)), (1, .int d)]) ?_ ?_ 6 0 (up M 0 0 ((M 0 0) + d)) 0 ⟨by omega, rfl, rfl, hP, hS, lv_sub hl [0, 1, 2, 3] rfl⟩
      · rintro j N v ls H locs ⟨h1, h2, h3, hP, hS, hl⟩
        refine lv_iload_n hx hb dX4_tick_26 rfl (lv_at hl 0 rfl) ?_
        refine lv_bipush (v := 6) hx hb dX4_tick_27 (by decide) ?_
        refine lv_icmp_ge (tgt := 68) hx hb dX4_tick_29 (by decide) (fun c3 => ?_) (fun c3 => absurd (show nI 6 ≤ nI j from nI_le (by omega) (by omega)) c3)
        refine lv_iconst (v := 0) hx hb dX4_tick_68 (by decide) ?_
        refine lv_istore_n (lv' := [(3, .int 0), (2, .int v), (0, .ref (wa (mdO G) 0)), (1, .int d)]) hx hb dX4_tick_69 rfl hl (by decide) rfl (fun ls hl => ?_)
        refine wl_loop (pc := 70) (fun k j N v ls H locs => (j + k = 6) ∧ (mslM k j N = mslM 6 0 (mtA M d)) ∧ (mslV k j N v = mslV 6 0 (mtA M d) 0) ∧ va_P (wD (mdO G)) vwCl (wd (mdO G) N) H ∧ va_S (wA (mdO G) s.heap.size) s.heap H locs ∧ lv_has ls 4 [(3, .int (nI j)), (2, .int v), (0, .ref (wa (mdO G) 0)), (1, .int d)]) ?_ ?_ 6 0 N v ⟨by omega, by unfold mtA; rw [← h2]; rfl, by unfold mtA; rw [← h2, h3]; rfl, hP, hS, lv_sub hl [0, 1, 2, 3] rfl⟩
        · rintro j N v ls H locs ⟨h1, h2, h3, hP, hS, hl⟩
          refine lv_iload_n hx hb dX4_tick_70 rfl (lv_at hl 0 rfl) ?_
          refine lv_bipush (v := 6) hx hb dX4_tick_71 (by decide) ?_
          refine lv_icmp_ge (tgt := 115) hx hb dX4_tick_73 (by decide) (fun c4 => ?_) (fun c4 => absurd (show nI 6 ≤ nI j from nI_le (by omega) (by omega)) c4)
          refine lv_iconst (v := 0) hx hb dX4_tick_115 (by decide) ?_
          refine lv_istore_n (lv' := [(3, .int 0), (2, .int v), (0, .ref (wa (mdO G) 0)), (1, .int d)]) hx hb dX4_tick_116 rfl hl (by decide) rfl (fun ls hl => ?_)
          refine wl_loop (pc := 117) (fun k j N v ls H locs => (j + k = 4) ∧ (mduM k j N = mtM M d) ∧ (mduV k j N v = mtV M d) ∧ va_P (wD (mdO G)) vwCl (wd (mdO G) N) H ∧ va_S (wA (mdO G) s.heap.size) s.heap H locs ∧ lv_has ls 4 [(3, .int (nI j)), (2, .int v), (0, .ref (wa (mdO G) 0)), (1, .int d)]) ?_ ?_ 4 0 N v ⟨by omega, by unfold mtM; rw [← h2]; rfl, by unfold mtV; rw [← h2, ← h3]; rfl, hP, hS, lv_sub hl [0, 1, 2, 3] rfl⟩
          · rintro j N v ls H locs ⟨h1, h2, h3, hP, hS, hl⟩
            refine lv_iload_n hx hb dX4_tick_117 rfl (lv_at hl 0 rfl) ?_
            refine lv_iconst (v := 4) hx hb dX4_tick_118 (by decide) ?_
            refine lv_icmp_ge (tgt := 162) hx hb dX4_tick_119 (by decide) (fun c5 => ?_) (fun c5 => absurd (show nI 4 ≤ nI j from nI_le (by omega) (by omega)) c5)
            refine lv_iload_n hx hb dX4_tick_162 rfl (lv_at hl 1 rfl) ?_
            exact wd_iret (O := (mdO G)) hx hb hr hlocks hK hP hS rfl dX4_tick_163 (by rw [mtcV, if_neg c1, if_pos c2]; exact h3) (by rw [mtcM, if_neg c1, if_pos c2]; exact h2)
          · rintro k j N v ls H locs ih ⟨h1, h2, h3, hP, hS, hl⟩
            refine lv_iload_n hx hb dX4_tick_117 rfl (lv_at hl 0 rfl) ?_
            refine lv_iconst (v := 4) hx hb dX4_tick_118 (by decide) ?_
            refine lv_icmp_ge (tgt := 162) hx hb dX4_tick_119 (by decide) (fun c6 => absurd c6 (show ¬ nI 4 ≤ nI j from nI_ge (by omega) (by omega))) (fun c6 => ?_)
            refine lv_aload_n hx hb dX4_tick_122 rfl (lv_at hl 2 rfl) ?_
            refine wd_get (O := (mdO G)) (v := .ref (wa (mdO G) 5)) hx hb hts hi4 hown hK hP (md_lt (by omega)) mE_0 rfl 7 (by decide) (hts (.fieldLink RX4 23 "LeaseDeskModel" "has" "[I") (by decide +kernel)) (fun _ h9 => h9) rfl dX4_tick_123 ?_
            refine lv_iload_n hx hb dX4_tick_126 rfl (lv_at hl 0 rfl) ?_
            refine wd_iald (O := (mdO G)) hx hb hK hP (md_lt (by omega)) 0 (mE_5 _) rfl (i := j) rfl (by omega) (by decide) dX4_tick_127 ?_
            refine lv_if_eq (tgt := 156) hx hb dX4_tick_128 (by decide) (fun c7 => ?_) (fun c7 => ?_)
            · refine lv_iinc (v := nI (j + 1)) (lv' := [(3, .int (nI (j + 1))), (2, .int v), (0, .ref (wa (mdO G) 0)), (1, .int d)]) hx hb dX4_tick_156 hl (k := 0) rfl (nI_1 j) (by decide) rfl (fun ls hl => ?_)
              refine lv_goto (tgt := 117) hx hb dX4_tick_159 (by decide) ?_
              exact ih (j + 1) N v ls H locs ⟨by omega, by rw [← h2]; simp only [mduM, if_pos c7], by rw [← h3]; simp only [mduV, if_pos c7], hP, hS, lv_sub hl [0, 1, 2, 3] rfl⟩
            · refine lv_aload_n hx hb dX4_tick_131 rfl (lv_at hl 2 rfl) ?_
              refine wd_get (O := (mdO G)) (v := .ref (wa (mdO G) 7)) hx hb hts hi4 hown hK hP (md_lt (by omega)) mE_0 rfl 9 (by decide) (hts (.fieldLink RX4 29 "LeaseDeskModel" "ends" "[I") (by decide +kernel)) (fun _ h9 => h9) rfl dX4_tick_132 ?_
              refine lv_iload_n hx hb dX4_tick_135 rfl (lv_at hl 0 rfl) ?_
              refine wd_iald (O := (mdO G)) hx hb hK hP (md_lt (by omega)) 0 (mE_7 _) rfl (i := j) rfl (by omega) (by decide) dX4_tick_136 ?_
              refine lv_aload_n hx hb dX4_tick_137 rfl (lv_at hl 2 rfl) ?_
              refine wd_get (O := (mdO G)) (v := .int (N 0 0)) hx hb hts hi4 hown hK hP (md_lt (by omega)) mE_0 rfl 0 (by decide) (hts (.fieldLink RX4 54 "LeaseDeskModel" "time" "I") (by decide +kernel)) (fun _ h9 => h9) rfl dX4_tick_138 ?_
              refine lv_icmp_le (tgt := 147) hx hb dX4_tick_141 (by decide) (fun c8 => ?_) (fun c8 => ?_)
              · refine lv_iload_n hx hb dX4_tick_147 rfl (lv_at hl 1 rfl) ?_
                refine lv_iconst (v := 1) hx hb dX4_tick_148 (by decide) ?_
                refine lv_iadd hx hb dX4_tick_149 ?_
                refine lv_istore_n (lv' := [(2, .int (v + 1)), (3, .int (nI j)), (0, .ref (wa (mdO G) 0)), (1, .int d)]) hx hb dX4_tick_150 rfl hl (by decide) rfl (fun ls hl => ?_)
                refine lv_aload_n hx hb dX4_tick_151 rfl (lv_at hl 2 rfl) ?_
                refine lv_iload_n hx hb dX4_tick_152 rfl (lv_at hl 1 rfl) ?_
                refine wd_cv (O := (mdO G)) hS (va_runV (As := [.int (nI j)]) (rest := []) ⟨hx, hb, hml, hown, hts⟩ (c_X4_over (G := G) hj H.size j (by omega)) (cwV 1 hts gX4_tick_X4_over rfl rfl rfl (by decide +kernel) ⟨Nat.le_of_ble_eq_true rfl, Nat.le_of_ble_eq_true rfl⟩) (wd_pre hK hP (md_lt (by omega)) mE_0 rfl) rfl rfl hl.1 rfl (lv_room (Nat.le_of_ble_eq_true rfl)) dX4_tick_153 ⟨Nat.le_of_ble_eq_true rfl, Nat.le_of_ble_eq_true rfl⟩) (fun H locs hP hS => ?_)
                refine lv_iinc (v := nI (j + 1)) (lv' := [(3, .int (nI (j + 1))), (2, .int (v + 1)), (0, .ref (wa (mdO G) 0)), (1, .int d)]) hx hb dX4_tick_156 hl (k := 1) rfl (nI_1 j) (by decide) rfl (fun ls hl => ?_)
                refine lv_goto (tgt := 117) hx hb dX4_tick_159 (by decide) ?_
                exact ih (j + 1) (ovM N j) (v + 1) ls H locs ⟨by omega, by rw [← h2]; simp only [mduM, if_neg c7, if_pos c8], by rw [← h3]; simp only [mduV, if_neg c7, if_pos c8], hP, hS, lv_sub hl [0, 1, 2, 3] rfl⟩
              · refine lv_goto (tgt := 156) hx hb dX4_tick_144 (by decide) ?_
                refine lv_iinc (v := nI (j + 1)) (lv' := [(3, .int (nI (j + 1))), (2, .int v), (0, .ref (wa (mdO G) 0)), (1, .int d)]) hx hb dX4_tick_156 hl (k := 0) rfl (nI_1 j) (by decide) rfl (fun ls hl => ?_)
                refine lv_goto (tgt := 117) hx hb dX4_tick_159 (by decide) ?_
                exact ih (j + 1) N v ls H locs ⟨by omega, by rw [← h2]; simp only [mduM, if_neg c7, if_neg c8], by rw [← h3]; simp only [mduV, if_neg c7, if_neg c8], hP, hS, lv_sub hl [0, 1, 2, 3] rfl⟩
        · rintro k j N v ls H locs ih ⟨h1, h2, h3, hP, hS, hl⟩
          refine lv_iload_n hx hb dX4_tick_70 rfl (lv_at hl 0 rfl) ?_
          refine lv_bipush (v := 6) hx hb dX4_tick_71 (by decide) ?_
          refine lv_icmp_ge (tgt := 115) hx hb dX4_tick_73 (by decide) (fun c9 => absurd c9 (show ¬ nI 6 ≤ nI j from nI_ge (by omega) (by omega))) (fun c9 => ?_)
          refine lv_aload_n hx hb dX4_tick_76 rfl (lv_at hl 2 rfl) ?_
          refine wd_get (O := (mdO G)) (v := .ref (wa (mdO G) 1)) hx hb hts hi4 hown hK hP (md_lt (by omega)) mE_0 rfl 3 (by decide) (hts (.fieldLink RX4 9 "LeaseDeskModel" "there" "[Z") (by decide +kernel)) (fun _ h9 => h9) rfl dX4_tick_77 ?_
          refine lv_iload_n hx hb dX4_tick_80 rfl (lv_at hl 0 rfl) ?_
          refine wd_zald (O := (mdO G)) hx hb hK hP (md_lt (by omega)) 1 (mE_z _) rfl (i := j) rfl (by omega) (by decide) dX4_tick_81 ?_
          refine lv_if_eq (tgt := 109) hx hb dX4_tick_82 (by decide) (fun c10 => ?_) (fun c10 => ?_)
          · refine lv_iinc (v := nI (j + 1)) (lv' := [(3, .int (nI (j + 1))), (2, .int v), (0, .ref (wa (mdO G) 0)), (1, .int d)]) hx hb dX4_tick_109 hl (k := 0) rfl (nI_1 j) (by decide) rfl (fun ls hl => ?_)
            refine lv_goto (tgt := 70) hx hb dX4_tick_112 (by decide) ?_
            exact ih (j + 1) N v ls H locs ⟨by omega, by rw [← h2]; simp only [mslM, if_pos c10], by rw [← h3]; simp only [mslV, if_pos c10], hP, hS, lv_sub hl [0, 1, 2, 3] rfl⟩
          · refine lv_aload_n hx hb dX4_tick_85 rfl (lv_at hl 2 rfl) ?_
            refine wd_get (O := (mdO G)) (v := .int (N 0 0)) hx hb hts hi4 hown hK hP (md_lt (by omega)) mE_0 rfl 0 (by decide) (hts (.fieldLink RX4 54 "LeaseDeskModel" "time" "I") (by decide +kernel)) (fun _ h9 => h9) rfl dX4_tick_86 ?_
            refine lv_aload_n hx hb dX4_tick_89 rfl (lv_at hl 2 rfl) ?_
            refine wd_get (O := (mdO G)) (v := .ref (wa (mdO G) 2)) hx hb hts hi4 hown hK hP (md_lt (by omega)) mE_0 rfl 4 (by decide) (hts (.fieldLink RX4 13 "LeaseDeskModel" "signed" "[I") (by decide +kernel)) (fun _ h9 => h9) rfl dX4_tick_90 ?_
            refine lv_iload_n hx hb dX4_tick_93 rfl (lv_at hl 0 rfl) ?_
            refine wd_iald (O := (mdO G)) hx hb hK hP (md_lt (by omega)) 0 (mE_2 _) rfl (i := j) rfl (by omega) (by decide) dX4_tick_94 ?_
            refine lv_isub hx hb dX4_tick_95 ?_
            refine lv_bipush (v := 50) hx hb dX4_tick_96 (by decide) ?_
            refine lv_icmp_le (tgt := 109) hx hb dX4_tick_98 (by decide) (fun c11 => ?_) (fun c11 => ?_)
            · refine lv_iinc (v := nI (j + 1)) (lv' := [(3, .int (nI (j + 1))), (2, .int v), (0, .ref (wa (mdO G) 0)), (1, .int d)]) hx hb dX4_tick_109 hl (k := 0) rfl (nI_1 j) (by decide) rfl (fun ls hl => ?_)
              refine lv_goto (tgt := 70) hx hb dX4_tick_112 (by decide) ?_
              exact ih (j + 1) N v ls H locs ⟨by omega, by rw [← h2]; simp only [mslM, if_neg c10, if_pos c11], by rw [← h3]; simp only [mslV, if_neg c10, if_pos c11], hP, hS, lv_sub hl [0, 1, 2, 3] rfl⟩
            · refine lv_iload_n hx hb dX4_tick_101 rfl (lv_at hl 1 rfl) ?_
              refine lv_aload_n hx hb dX4_tick_102 rfl (lv_at hl 2 rfl) ?_
              refine lv_iload_n hx hb dX4_tick_103 rfl (lv_at hl 0 rfl) ?_
              refine wd_ci (O := (mdO G)) hS (va_runV (As := [.int (nI j)]) (rest := [.int v]) ⟨hx, hb, hml, hown, hts⟩ (c_X4_gone (G := G) hj H.size j (by omega)) (cwV 1 hts gX4_tick_X4_gone rfl rfl rfl (by decide +kernel) ⟨Nat.le_of_ble_eq_true rfl, Nat.le_of_ble_eq_true rfl⟩) (wd_pre hK hP (md_lt (by omega)) mE_0 rfl) rfl rfl hl.1 rfl (lv_room (Nat.le_of_ble_eq_true rfl)) dX4_tick_104 ⟨Nat.le_of_ble_eq_true rfl, Nat.le_of_ble_eq_true rfl⟩) (fun H locs hP hS => ?_)
              refine lv_iadd hx hb dX4_tick_107 ?_
              refine lv_istore_n (lv' := [(2, .int (v + (goV N j))), (3, .int (nI j)), (0, .ref (wa (mdO G) 0)), (1, .int d)]) hx hb dX4_tick_108 rfl hl (by decide) rfl (fun ls hl => ?_)
              refine lv_iinc (v := nI (j + 1)) (lv' := [(3, .int (nI (j + 1))), (2, .int (v + (goV N j))), (0, .ref (wa (mdO G) 0)), (1, .int d)]) hx hb dX4_tick_109 hl (k := 1) rfl (nI_1 j) (by decide) rfl (fun ls hl => ?_)
              refine lv_goto (tgt := 70) hx hb dX4_tick_112 (by decide) ?_
              exact ih (j + 1) (goM N j) (v + (goV N j)) ls H locs ⟨by omega, by rw [← h2]; simp only [mslM, if_neg c10, if_neg c11], by rw [← h3]; simp only [mslV, if_neg c10, if_neg c11], hP, hS, lv_sub hl [0, 1, 2, 3] rfl⟩
      · rintro k j N v ls H locs ih ⟨h1, h2, h3, hP, hS, hl⟩
        refine lv_iload_n hx hb dX4_tick_26 rfl (lv_at hl 0 rfl) ?_
        refine lv_bipush (v := 6) hx hb dX4_tick_27 (by decide) ?_
        refine lv_icmp_ge (tgt := 68) hx hb dX4_tick_29 (by decide) (fun c12 => absurd c12 (show ¬ nI 6 ≤ nI j from nI_ge (by omega) (by omega))) (fun c12 => ?_)
        refine lv_aload_n hx hb dX4_tick_32 rfl (lv_at hl 2 rfl) ?_
        refine wd_get (O := (mdO G)) (v := .ref (wa (mdO G) 1)) hx hb hts hi4 hown hK hP (md_lt (by omega)) mE_0 rfl 3 (by decide) (hts (.fieldLink RX4 9 "LeaseDeskModel" "there" "[Z") (by decide +kernel)) (fun _ h9 => h9) rfl dX4_tick_33 ?_
        refine lv_iload_n hx hb dX4_tick_36 rfl (lv_at hl 0 rfl) ?_
        refine wd_zald (O := (mdO G)) hx hb hK hP (md_lt (by omega)) 1 (mE_z _) rfl (i := j) rfl (by omega) (by decide) dX4_tick_37 ?_
        refine lv_if_eq (tgt := 62) hx hb dX4_tick_38 (by decide) (fun c13 => ?_) (fun c13 => ?_)
        · refine lv_iinc (v := nI (j + 1)) (lv' := [(3, .int (nI (j + 1))), (2, .int v), (0, .ref (wa (mdO G) 0)), (1, .int d)]) hx hb dX4_tick_62 hl (k := 0) rfl (nI_1 j) (by decide) rfl (fun ls hl => ?_)
          refine lv_goto (tgt := 26) hx hb dX4_tick_65 (by decide) ?_
          exact ih (j + 1) N v ls H locs ⟨by omega, by rw [← h2]; simp only [mmv, if_pos c13], h3, hP, hS, lv_sub hl [0, 1, 2, 3] rfl⟩
        · refine lv_aload_n hx hb dX4_tick_41 rfl (lv_at hl 2 rfl) ?_
          refine wd_get (O := (mdO G)) (v := .ref (wa (mdO G) 4)) hx hb hts hi4 hown hK hP (md_lt (by omega)) mE_0 rfl 6 (by decide) (hts (.fieldLink RX4 20 "LeaseDeskModel" "clocks" "[I") (by decide +kernel)) (fun _ h9 => h9) rfl dX4_tick_42 ?_
          refine lv_iload_n hx hb dX4_tick_45 rfl (lv_at hl 0 rfl) ?_
          refine lv_aload_n hx hb dX4_tick_46 rfl (lv_at hl 2 rfl) ?_
          refine wd_get (O := (mdO G)) (v := .ref (wa (mdO G) 4)) hx hb hts hi4 hown hK hP (md_lt (by omega)) mE_0 rfl 6 (by decide) (hts (.fieldLink RX4 20 "LeaseDeskModel" "clocks" "[I") (by decide +kernel)) (fun _ h9 => h9) rfl dX4_tick_47 ?_
          refine lv_iload_n hx hb dX4_tick_50 rfl (lv_at hl 0 rfl) ?_
          refine wd_iald (O := (mdO G)) hx hb hK hP (md_lt (by omega)) 0 (mE_4 _) rfl (i := j) rfl (by omega) (by decide) dX4_tick_51 ?_
          refine lv_aload_n hx hb dX4_tick_52 rfl (lv_at hl 2 rfl) ?_
          refine wd_get (O := (mdO G)) (v := .ref (wa (mdO G) 3)) hx hb hts hi4 hown hK hP (md_lt (by omega)) mE_0 rfl 5 (by decide) (hts (.fieldLink RX4 17 "LeaseDeskModel" "rates" "[I") (by decide +kernel)) (fun _ h9 => h9) rfl dX4_tick_53 ?_
          refine lv_iload_n hx hb dX4_tick_56 rfl (lv_at hl 0 rfl) ?_
          refine wd_iald (O := (mdO G)) hx hb hK hP (md_lt (by omega)) 0 (mE_3 _) rfl (i := j) rfl (by omega) (by decide) dX4_tick_57 ?_
          refine lv_iload_n hx hb dX4_tick_58 rfl (lv_at hl 3 rfl) ?_
          refine lv_imul hx hb dX4_tick_59 ?_
          refine lv_iadd hx hb dX4_tick_60 ?_
          refine wd_iast (O := (mdO G)) hj hx hb hK hP hS (md_lt (by omega)) 0 mE_4 rfl (i := j) rfl (by omega) (by decide) dX4_tick_61 (fun H locs hP hS => ?_)
          refine lv_iinc (v := nI (j + 1)) (lv' := [(3, .int (nI (j + 1))), (2, .int v), (0, .ref (wa (mdO G) 0)), (1, .int d)]) hx hb dX4_tick_62 hl (k := 0) rfl (nI_1 j) (by decide) rfl (fun ls hl => ?_)
          refine lv_goto (tgt := 26) hx hb dX4_tick_65 (by decide) ?_
          exact ih (j + 1) (up N 4 j ((N 4 j) + ((N 3 j) * d))) v ls H locs ⟨by omega, by rw [← h2]; simp only [mmv, if_neg c13], h3, hP, hS, lv_sub hl [0, 1, 2, 3] rfl⟩
    · refine lv_iconst (v := (-1)) hx hb dX4_tick_10 (by decide) ?_
      exact wd_iret (O := (mdO G)) hx hb hr hlocks hK hP hS rfl dX4_tick_11 (by simp only [mtcV, if_neg c1, if_neg c2]) (by simp only [mtcM, if_neg c1, if_neg c2])
set_option maxRecDepth 100000 in
set_option maxHeartbeats 4000000 in
theorem c_X4_acquire {l : Launch} {G : MG} (hj : wj (mdO G)) {M : Mem} (sz : Nat) (x y t : Int32) : Met l yX4_acquire wsX4_acquire ({ frames := 1, cells := 0, slots := 0, locals := 23 }) (va_Pc [.ref (wa (mdO G) 0), .int x, .int y, .int t] (wp (mdO G) sz M)) (wQi (mdO G) sz (maqV M x y t) (maqM M x y t)) 0 0 (wA (mdO G) sz) := by
  rcases op_cases (moV M x) with ho | ⟨j1, ho⟩
  · refine wd_ofW (O := (mdO G)) (M := M) (Qc := fun z => wQi (mdO G) z (maqV M x y t) (maqM M x y t)) (cc := cX4_acquire) (maxL := 5) (ret := (some .int)) (lv := [(0, .ref (wa (mdO G) 0)), (1, .int x), (2, .int y), (3, .int t)]) (by decide) rfl (Nat.le_of_ble_eq_true rfl) rfl ?_
    intro p e s m below meth c ls hx hb hr hml hown hts hlocks hP hK hS hl
    have hi4 : ∀ w ∈ wsX40, w ∈ wsX4_acquire := by decide +kernel
    refine lv_aload_n hx hb dX4_acquire_0 rfl (lv_at hl 0 rfl) ?_
    refine lv_aload_n hx hb dX4_acquire_1 rfl (lv_at hl 0 rfl) ?_
    refine lv_iload_n hx hb dX4_acquire_2 rfl (lv_at hl 1 rfl) ?_
    refine wd_ci (O := (mdO G)) hS (va_runV (As := [.int x]) (rest := [.ref (wa (mdO G) 0)]) ⟨hx, hb, hml, hown, hts⟩ (c_X4_isOpen (G := G) hj s.heap.size x ) (cwV 1 hts gX4_acquire_X4_isOpen rfl rfl rfl (by decide +kernel) ⟨Nat.le_of_ble_eq_true rfl, Nat.le_of_ble_eq_true rfl⟩) (wd_pre hK hP (md_lt (by omega)) mE_0 rfl) rfl rfl hl.1 rfl (lv_room (Nat.le_of_ble_eq_true rfl)) dX4_acquire_3 ⟨Nat.le_of_ble_eq_true rfl, Nat.le_of_ble_eq_true rfl⟩) (fun H locs hP hS => ?_)
    refine wd_re (y := 0) (by rw [ho]; rfl) ?_
    refine lv_if_ne (tgt := 13) hx hb dX4_acquire_6 (by decide) (fun c1 => absurd rfl c1) (fun c1 => ?_)
    refine lv_iconst (v := 1) hx hb dX4_acquire_9 (by decide) ?_
    refine lv_goto (tgt := 36) hx hb dX4_acquire_10 (by decide) ?_
    refine wd_put (O := (mdO G)) (ty := .int) hj hx hb hts hi4 tyX4 tyX4_ok nmX4 hown hK hP hS (md_lt (by omega)) mE_0 rfl 1 (by decide) (hts (.fieldLink RX4 50 "LeaseDeskModel" "thrown" "I") (by decide +kernel)) (fun _ h9 => h9) rfl (by decide +kernel) rfl rfl (Nat.le_of_ble_eq_true rfl) (mE_0.trans rfl) dX4_acquire_36 (fun H locs hP hS => ?_)
    refine lv_aload_n hx hb dX4_acquire_39 rfl (lv_at hl 0 rfl) ?_
    refine wd_get (O := (mdO G)) (v := .int ((up M 0 1 1) 0 1)) hx hb hts hi4 hown hK hP (md_lt (by omega)) mE_0 rfl 1 (by decide) (hts (.fieldLink RX4 50 "LeaseDeskModel" "thrown" "I") (by decide +kernel)) (fun _ h9 => h9) rfl dX4_acquire_40 ?_
    refine wd_re (y := 1) (up_s _ _ _ _) ?_
    refine lv_if_le (tgt := 48) hx hb dX4_acquire_43 (by decide) (fun c2 => absurd c2 (by decide)) (fun c2 => ?_)
    refine lv_iconst (v := 0) hx hb dX4_acquire_46 (by decide) ?_
    exact wd_iret (O := (mdO G)) hx hb hr hlocks hK hP hS rfl dX4_acquire_47 (by simp only [maqV, ho]) (by simp only [maqM, ho])
  · obtain ⟨hj1, rfl, hon⟩ := moV_some ho
    rcases op_cases (dN y 4) with hd | ⟨j2, hd⟩
    · refine wd_ofW (O := (mdO G)) (M := M) (Qc := fun z => wQi (mdO G) z (maqV M (nI j1) y t) (maqM M (nI j1) y t)) (cc := cX4_acquire) (maxL := 5) (ret := (some .int)) (lv := [(0, .ref (wa (mdO G) 0)), (1, .int (nI j1)), (2, .int y), (3, .int t)]) (by decide) rfl (Nat.le_of_ble_eq_true rfl) rfl ?_
      intro p e s m below meth c ls hx hb hr hml hown hts hlocks hP hK hS hl
      have hi4 : ∀ w ∈ wsX40, w ∈ wsX4_acquire := by decide +kernel
      refine lv_aload_n hx hb dX4_acquire_0 rfl (lv_at hl 0 rfl) ?_
      refine lv_aload_n hx hb dX4_acquire_1 rfl (lv_at hl 0 rfl) ?_
      refine lv_iload_n hx hb dX4_acquire_2 rfl (lv_at hl 1 rfl) ?_
      refine wd_ci (O := (mdO G)) hS (va_runV (As := [.int (nI j1)]) (rest := [.ref (wa (mdO G) 0)]) ⟨hx, hb, hml, hown, hts⟩ (c_X4_isOpen (G := G) hj s.heap.size (nI j1) ) (cwV 1 hts gX4_acquire_X4_isOpen rfl rfl rfl (by decide +kernel) ⟨Nat.le_of_ble_eq_true rfl, Nat.le_of_ble_eq_true rfl⟩) (wd_pre hK hP (md_lt (by omega)) mE_0 rfl) rfl rfl hl.1 rfl (lv_room (Nat.le_of_ble_eq_true rfl)) dX4_acquire_3 ⟨Nat.le_of_ble_eq_true rfl, Nat.le_of_ble_eq_true rfl⟩) (fun H locs hP hS => ?_)
      refine wd_re (y := 1) (by rw [ho]; rfl) ?_
      refine lv_if_ne (tgt := 13) hx hb dX4_acquire_6 (by decide) (fun c3 => ?_) (fun c3 => absurd c3 (by decide))
      refine lv_iload_n hx hb dX4_acquire_13 rfl (lv_at hl 2 rfl) ?_
      refine wd_ci (O := (mdO G)) hS (va_runS (As := [.int y]) (rest := [.ref (wa (mdO G) 0)]) ⟨hx, hb, hml, hown, hts⟩ (c_X4_isLock (G := G) hj H.size y ) (va_cwS 1 hts gX4_acquire_X4_isLock rfl rfl rfl (by decide +kernel) ⟨Nat.le_of_ble_eq_true rfl, Nat.le_of_ble_eq_true rfl⟩) (wd_preS hK hP) rfl rfl hl.1 rfl (lv_room (Nat.le_of_ble_eq_true rfl)) dX4_acquire_14 ⟨Nat.le_of_ble_eq_true rfl, Nat.le_of_ble_eq_true rfl⟩) (fun H locs hP hS => ?_)
      refine wd_re (y := 0) (by rw [hd]; rfl) ?_
      refine lv_if_eq (tgt := 31) hx hb dX4_acquire_17 (by decide) (fun c4 => ?_) (fun c4 => absurd rfl c4)
      refine lv_iconst (v := 2) hx hb dX4_acquire_31 (by decide) ?_
      refine lv_goto (tgt := 36) hx hb dX4_acquire_32 (by decide) ?_
      refine wd_put (O := (mdO G)) (ty := .int) hj hx hb hts hi4 tyX4 tyX4_ok nmX4 hown hK hP hS (md_lt (by omega)) mE_0 rfl 1 (by decide) (hts (.fieldLink RX4 50 "LeaseDeskModel" "thrown" "I") (by decide +kernel)) (fun _ h9 => h9) rfl (by decide +kernel) rfl rfl (Nat.le_of_ble_eq_true rfl) (mE_0.trans rfl) dX4_acquire_36 (fun H locs hP hS => ?_)
      refine lv_aload_n hx hb dX4_acquire_39 rfl (lv_at hl 0 rfl) ?_
      refine wd_get (O := (mdO G)) (v := .int ((up M 0 1 2) 0 1)) hx hb hts hi4 hown hK hP (md_lt (by omega)) mE_0 rfl 1 (by decide) (hts (.fieldLink RX4 50 "LeaseDeskModel" "thrown" "I") (by decide +kernel)) (fun _ h9 => h9) rfl dX4_acquire_40 ?_
      refine wd_re (y := 2) (up_s _ _ _ _) ?_
      refine lv_if_le (tgt := 48) hx hb dX4_acquire_43 (by decide) (fun c5 => absurd c5 (by decide)) (fun c5 => ?_)
      refine lv_iconst (v := 0) hx hb dX4_acquire_46 (by decide) ?_
      exact wd_iret (O := (mdO G)) hx hb hr hlocks hK hP hS rfl dX4_acquire_47 (by simp only [maqV, ho, hd]) (by simp only [maqM, ho, hd])
    · obtain ⟨hj2, rfl⟩ := dN_some (by decide) hd
      refine wd_ofW (O := (mdO G)) (M := M) (Qc := fun z => wQi (mdO G) z (maqV M (nI j1) (nI j2) t) (maqM M (nI j1) (nI j2) t)) (cc := cX4_acquire) (maxL := 5) (ret := (some .int)) (lv := [(0, .ref (wa (mdO G) 0)), (1, .int (nI j1)), (2, .int (nI j2)), (3, .int t)]) (by decide) rfl (Nat.le_of_ble_eq_true rfl) rfl ?_
      intro p e s m below meth c ls hx hb hr hml hown hts hlocks hP hK hS hl
      have hi4 : ∀ w ∈ wsX40, w ∈ wsX4_acquire := by decide +kernel
      refine lv_aload_n hx hb dX4_acquire_0 rfl (lv_at hl 0 rfl) ?_
      refine lv_aload_n hx hb dX4_acquire_1 rfl (lv_at hl 0 rfl) ?_
      refine lv_iload_n hx hb dX4_acquire_2 rfl (lv_at hl 1 rfl) ?_
      refine wd_ci (O := (mdO G)) hS (va_runV (As := [.int (nI j1)]) (rest := [.ref (wa (mdO G) 0)]) ⟨hx, hb, hml, hown, hts⟩ (c_X4_isOpen (G := G) hj s.heap.size (nI j1) ) (cwV 1 hts gX4_acquire_X4_isOpen rfl rfl rfl (by decide +kernel) ⟨Nat.le_of_ble_eq_true rfl, Nat.le_of_ble_eq_true rfl⟩) (wd_pre hK hP (md_lt (by omega)) mE_0 rfl) rfl rfl hl.1 rfl (lv_room (Nat.le_of_ble_eq_true rfl)) dX4_acquire_3 ⟨Nat.le_of_ble_eq_true rfl, Nat.le_of_ble_eq_true rfl⟩) (fun H locs hP hS => ?_)
      refine wd_re (y := 1) (by rw [ho]; rfl) ?_
      refine lv_if_ne (tgt := 13) hx hb dX4_acquire_6 (by decide) (fun c6 => ?_) (fun c6 => absurd c6 (by decide))
      refine lv_iload_n hx hb dX4_acquire_13 rfl (lv_at hl 2 rfl) ?_
      refine wd_ci (O := (mdO G)) hS (va_runS (As := [.int (nI j2)]) (rest := [.ref (wa (mdO G) 0)]) ⟨hx, hb, hml, hown, hts⟩ (c_X4_isLock (G := G) hj H.size (nI j2) ) (va_cwS 1 hts gX4_acquire_X4_isLock rfl rfl rfl (by decide +kernel) ⟨Nat.le_of_ble_eq_true rfl, Nat.le_of_ble_eq_true rfl⟩) (wd_preS hK hP) rfl rfl hl.1 rfl (lv_room (Nat.le_of_ble_eq_true rfl)) dX4_acquire_14 ⟨Nat.le_of_ble_eq_true rfl, Nat.le_of_ble_eq_true rfl⟩) (fun H locs hP hS => ?_)
      refine wd_re (y := 1) (by rw [hd]; rfl) ?_
      refine lv_if_eq (tgt := 31) hx hb dX4_acquire_17 (by decide) (fun c7 => absurd c7 (by decide)) (fun c7 => ?_)
      refine lv_iload_n hx hb dX4_acquire_20 rfl (lv_at hl 3 rfl) ?_
      refine lv_iconst (v := 1) hx hb dX4_acquire_21 (by decide) ?_
      refine lv_icmp_lt (tgt := 31) hx hb dX4_acquire_22 (by decide) (fun c8 => ?_) (fun c8 => ?_)
      · refine lv_iconst (v := 2) hx hb dX4_acquire_31 (by decide) ?_
        refine lv_goto (tgt := 36) hx hb dX4_acquire_32 (by decide) ?_
        refine wd_put (O := (mdO G)) (ty := .int) hj hx hb hts hi4 tyX4 tyX4_ok nmX4 hown hK hP hS (md_lt (by omega)) mE_0 rfl 1 (by decide) (hts (.fieldLink RX4 50 "LeaseDeskModel" "thrown" "I") (by decide +kernel)) (fun _ h9 => h9) rfl (by decide +kernel) rfl rfl (Nat.le_of_ble_eq_true rfl) (mE_0.trans rfl) dX4_acquire_36 (fun H locs hP hS => ?_)
        refine lv_aload_n hx hb dX4_acquire_39 rfl (lv_at hl 0 rfl) ?_
        refine wd_get (O := (mdO G)) (v := .int ((up M 0 1 2) 0 1)) hx hb hts hi4 hown hK hP (md_lt (by omega)) mE_0 rfl 1 (by decide) (hts (.fieldLink RX4 50 "LeaseDeskModel" "thrown" "I") (by decide +kernel)) (fun _ h9 => h9) rfl dX4_acquire_40 ?_
        refine wd_re (y := 2) (up_s _ _ _ _) ?_
        refine lv_if_le (tgt := 48) hx hb dX4_acquire_43 (by decide) (fun c9 => absurd c9 (by decide)) (fun c9 => ?_)
        refine lv_iconst (v := 0) hx hb dX4_acquire_46 (by decide) ?_
        exact wd_iret (O := (mdO G)) hx hb hr hlocks hK hP hS rfl dX4_acquire_47 (by simp only [maqV, ho, hd, if_pos c8]) (by simp only [maqM, ho, hd, if_pos c8])
      · refine lv_iload_n hx hb dX4_acquire_25 rfl (lv_at hl 3 rfl) ?_
        refine lv_bipush (v := 100) hx hb dX4_acquire_26 (by decide) ?_
        refine lv_icmp_le (tgt := 35) hx hb dX4_acquire_28 (by decide) (fun c10 => ?_) (fun c10 => ?_)
        · refine lv_iconst (v := 0) hx hb dX4_acquire_35 (by decide) ?_
          refine wd_put (O := (mdO G)) (ty := .int) hj hx hb hts hi4 tyX4 tyX4_ok nmX4 hown hK hP hS (md_lt (by omega)) mE_0 rfl 1 (by decide) (hts (.fieldLink RX4 50 "LeaseDeskModel" "thrown" "I") (by decide +kernel)) (fun _ h9 => h9) rfl (by decide +kernel) rfl rfl (Nat.le_of_ble_eq_true rfl) (mE_0.trans rfl) dX4_acquire_36 (fun H locs hP hS => ?_)
          refine lv_aload_n hx hb dX4_acquire_39 rfl (lv_at hl 0 rfl) ?_
          refine wd_get (O := (mdO G)) (v := .int ((up M 0 1 0) 0 1)) hx hb hts hi4 hown hK hP (md_lt (by omega)) mE_0 rfl 1 (by decide) (hts (.fieldLink RX4 50 "LeaseDeskModel" "thrown" "I") (by decide +kernel)) (fun _ h9 => h9) rfl dX4_acquire_40 ?_
          refine wd_re (y := 0) (up_s _ _ _ _) ?_
          refine lv_if_le (tgt := 48) hx hb dX4_acquire_43 (by decide) (fun c11 => ?_) (fun c11 => absurd (by decide) c11)
          refine lv_aload_n hx hb dX4_acquire_48 rfl (lv_at hl 0 rfl) ?_
          refine wd_get (O := (mdO G)) (v := .ref (wa (mdO G) 2)) hx hb hts hi4 hown hK hP (md_lt (by omega)) mE_0 rfl 4 (by decide) (hts (.fieldLink RX4 13 "LeaseDeskModel" "signed" "[I") (by decide +kernel)) (fun _ h9 => h9) rfl dX4_acquire_49 ?_
          refine lv_iload_n hx hb dX4_acquire_52 rfl (lv_at hl 1 rfl) ?_
          refine lv_aload_n hx hb dX4_acquire_53 rfl (lv_at hl 0 rfl) ?_
          refine wd_get (O := (mdO G)) (v := .int ((up M 0 1 0) 0 0)) hx hb hts hi4 hown hK hP (md_lt (by omega)) mE_0 rfl 0 (by decide) (hts (.fieldLink RX4 54 "LeaseDeskModel" "time" "I") (by decide +kernel)) (fun _ h9 => h9) rfl dX4_acquire_54 ?_
          refine wd_iast (O := (mdO G)) hj hx hb hK hP hS (md_lt (by omega)) 0 mE_2 rfl (i := j1) rfl (by omega) (by decide) dX4_acquire_57 (fun H locs hP hS => ?_)
          refine lv_aload_n hx hb dX4_acquire_58 rfl (lv_at hl 0 rfl) ?_
          refine wd_get (O := (mdO G)) (v := .ref (wa (mdO G) 5)) hx hb hts hi4 hown hK hP (md_lt (by omega)) mE_0 rfl 7 (by decide) (hts (.fieldLink RX4 23 "LeaseDeskModel" "has" "[I") (by decide +kernel)) (fun _ h9 => h9) rfl dX4_acquire_59 ?_
          refine lv_iload_n hx hb dX4_acquire_62 rfl (lv_at hl 2 rfl) ?_
          refine wd_iald (O := (mdO G)) hx hb hK hP (md_lt (by omega)) 0 (mE_5 _) rfl (i := j2) rfl (by omega) (by decide) dX4_acquire_63 ?_
          refine lv_iload_n hx hb dX4_acquire_64 rfl (lv_at hl 1 rfl) ?_
          refine lv_iconst (v := 1) hx hb dX4_acquire_65 (by decide) ?_
          refine lv_iadd hx hb dX4_acquire_66 ?_
          refine lv_icmp_ne (tgt := 123) hx hb dX4_acquire_67 (by decide) (fun c12 => ?_) (fun c12 => ?_)
          · refine lv_aload_n hx hb dX4_acquire_123 rfl (lv_at hl 0 rfl) ?_
            refine wd_get (O := (mdO G)) (v := .ref (wa (mdO G) 5)) hx hb hts hi4 hown hK hP (md_lt (by omega)) mE_0 rfl 7 (by decide) (hts (.fieldLink RX4 23 "LeaseDeskModel" "has" "[I") (by decide +kernel)) (fun _ h9 => h9) rfl dX4_acquire_124 ?_
            refine lv_iload_n hx hb dX4_acquire_127 rfl (lv_at hl 2 rfl) ?_
            refine wd_iald (O := (mdO G)) hx hb hK hP (md_lt (by omega)) 0 (mE_5 _) rfl (i := j2) rfl (by omega) (by decide) dX4_acquire_128 ?_
            refine lv_if_ne (tgt := 146) hx hb dX4_acquire_129 (by decide) (fun c13 => ?_) (fun c13 => ?_)
            · refine lv_iload_n hx hb dX4_acquire_146 rfl (lv_at hl 2 rfl) ?_
              refine lv_bipush (v := 6) hx hb dX4_acquire_147 (by decide) ?_
              refine lv_imul hx hb dX4_acquire_149 ?_
              refine lv_iload_n hx hb dX4_acquire_150 rfl (lv_at hl 1 rfl) ?_
              refine lv_iadd hx hb dX4_acquire_151 ?_
              refine wd_re (y := nI (j2 * 6 + j1)) (ml_ix j2 j1) ?_
              refine lv_istore (lv' := [(4, .int (nI (j2 * 6 + j1))), (0, .ref (wa (mdO G) 0)), (1, .int (nI j1)), (2, .int (nI j2)), (3, .int t)]) hx hb dX4_acquire_152 hl (by decide) rfl (fun ls hl => ?_)
              refine lv_aload_n hx hb dX4_acquire_154 rfl (lv_at hl 1 rfl) ?_
              refine wd_get (O := (mdO G)) (v := .ref (wa (mdO G) 10)) hx hb hts hi4 hown hK hP (md_lt (by omega)) mE_0 rfl 12 (by decide) (hts (.fieldLink RX4 38 "LeaseDeskModel" "wishes" "[I") (by decide +kernel)) (fun _ h9 => h9) rfl dX4_acquire_155 ?_
              refine lv_iload hx hb dX4_acquire_158 (lv_at hl 0 rfl) ?_
              refine wd_iald (O := (mdO G)) hx hb hK hP (md_lt (by omega)) 0 (mE_10 _) rfl (i := (j2 * 6 + j1)) rfl (by omega) (by decide) dX4_acquire_160 ?_
              refine lv_if_ne (tgt := 185) hx hb dX4_acquire_161 (by decide) (fun c14 => ?_) (fun c14 => ?_)
              · refine lv_aload_n hx hb dX4_acquire_185 rfl (lv_at hl 1 rfl) ?_
                refine wd_get (O := (mdO G)) (v := .ref (wa (mdO G) 11)) hx hb hts hi4 hown hK hP (md_lt (by omega)) mE_0 rfl 13 (by decide) (hts (.fieldLink RX4 41 "LeaseDeskModel" "wished" "[I") (by decide +kernel)) (fun _ h9 => h9) rfl dX4_acquire_186 ?_
                refine lv_iload hx hb dX4_acquire_189 (lv_at hl 0 rfl) ?_
                refine lv_iload_n hx hb dX4_acquire_191 rfl (lv_at hl 4 rfl) ?_
                refine wd_iast (O := (mdO G)) hj hx hb hK hP hS (md_lt (by omega)) 0 mE_11 rfl (i := (j2 * 6 + j1)) rfl (by omega) (by decide) dX4_acquire_192 (fun H locs hP hS => ?_)
                refine lv_iconst (v := 0) hx hb dX4_acquire_193 (by decide) ?_
                exact wd_iret (O := (mdO G)) hx hb hr hlocks hK hP hS rfl dX4_acquire_194 (by have c12 : ¬ maA M j1 5 j2 = nI j1 + 1 := c12; have c13 : ¬ maA M j1 5 j2 = 0 := c13; have c14 : ¬ maA M j1 10 (j2 * 6 + j1) = 0 := c14; simp only [maqV, ho, hd, if_neg c8, if_pos c10, maV, maM, maR, maW, if_neg c12, if_neg c13, if_neg c14] <;> rfl) (by have c12 : ¬ maA M j1 5 j2 = nI j1 + 1 := c12; have c13 : ¬ maA M j1 5 j2 = 0 := c13; have c14 : ¬ maA M j1 10 (j2 * 6 + j1) = 0 := c14; simp only [maqM, ho, hd, if_neg c8, if_pos c10, maM, maR, maW, if_neg c12, if_neg c13, if_neg c14] <;> rfl)
              · refine lv_aload_n hx hb dX4_acquire_164 rfl (lv_at hl 1 rfl) ?_
                refine lv_aload_n hx hb dX4_acquire_165 rfl (lv_at hl 1 rfl) ?_
                refine wd_get (O := (mdO G)) (v := .int ((up (up M 0 1 0) 2 j1 ((up M 0 1 0) 0 0)) 0 2)) hx hb hts hi4 hown hK hP (md_lt (by omega)) mE_0 rfl 2 (by decide) (hts (.fieldLink RX4 80 "LeaseDeskModel" "numbers" "I") (by decide +kernel)) (fun _ h9 => h9) rfl dX4_acquire_166 ?_
                refine lv_iconst (v := 1) hx hb dX4_acquire_169 (by decide) ?_
                refine lv_iadd hx hb dX4_acquire_170 ?_
                refine wd_put (O := (mdO G)) (ty := .int) hj hx hb hts hi4 tyX4 tyX4_ok nmX4 hown hK hP hS (md_lt (by omega)) mE_0 rfl 2 (by decide) (hts (.fieldLink RX4 80 "LeaseDeskModel" "numbers" "I") (by decide +kernel)) (fun _ h9 => h9) rfl (by decide +kernel) rfl rfl (Nat.le_of_ble_eq_true rfl) (mE_0.trans rfl) dX4_acquire_171 (fun H locs hP hS => ?_)
                refine lv_aload_n hx hb dX4_acquire_174 rfl (lv_at hl 1 rfl) ?_
                refine wd_get (O := (mdO G)) (v := .ref (wa (mdO G) 10)) hx hb hts hi4 hown hK hP (md_lt (by omega)) mE_0 rfl 12 (by decide) (hts (.fieldLink RX4 38 "LeaseDeskModel" "wishes" "[I") (by decide +kernel)) (fun _ h9 => h9) rfl dX4_acquire_175 ?_
                refine lv_iload hx hb dX4_acquire_178 (lv_at hl 0 rfl) ?_
                refine lv_aload_n hx hb dX4_acquire_180 rfl (lv_at hl 1 rfl) ?_
                refine wd_get (O := (mdO G)) (v := .int ((up (up (up M 0 1 0) 2 j1 ((up M 0 1 0) 0 0)) 0 2 (((up (up M 0 1 0) 2 j1 ((up M 0 1 0) 0 0)) 0 2) + 1)) 0 2)) hx hb hts hi4 hown hK hP (md_lt (by omega)) mE_0 rfl 2 (by decide) (hts (.fieldLink RX4 80 "LeaseDeskModel" "numbers" "I") (by decide +kernel)) (fun _ h9 => h9) rfl dX4_acquire_181 ?_
                refine wd_iast (O := (mdO G)) hj hx hb hK hP hS (md_lt (by omega)) 0 mE_10 rfl (i := (j2 * 6 + j1)) rfl (by omega) (by decide) dX4_acquire_184 (fun H locs hP hS => ?_)
                refine lv_aload_n hx hb dX4_acquire_185 rfl (lv_at hl 1 rfl) ?_
                refine wd_get (O := (mdO G)) (v := .ref (wa (mdO G) 11)) hx hb hts hi4 hown hK hP (md_lt (by omega)) mE_0 rfl 13 (by decide) (hts (.fieldLink RX4 41 "LeaseDeskModel" "wished" "[I") (by decide +kernel)) (fun _ h9 => h9) rfl dX4_acquire_186 ?_
                refine lv_iload hx hb dX4_acquire_189 (lv_at hl 0 rfl) ?_
                refine lv_iload_n hx hb dX4_acquire_191 rfl (lv_at hl 4 rfl) ?_
                refine wd_iast (O := (mdO G)) hj hx hb hK hP hS (md_lt (by omega)) 0 mE_11 rfl (i := (j2 * 6 + j1)) rfl (by omega) (by decide) dX4_acquire_192 (fun H locs hP hS => ?_)
                refine lv_iconst (v := 0) hx hb dX4_acquire_193 (by decide) ?_
                exact wd_iret (O := (mdO G)) hx hb hr hlocks hK hP hS rfl dX4_acquire_194 (by have c12 : ¬ maA M j1 5 j2 = nI j1 + 1 := c12; have c13 : ¬ maA M j1 5 j2 = 0 := c13; have c14 : maA M j1 10 (j2 * 6 + j1) = 0 := c14; simp only [maqV, ho, hd, if_neg c8, if_pos c10, maV, maM, maR, maW, if_neg c12, if_neg c13, if_pos c14] <;> rfl) (by have c12 : ¬ maA M j1 5 j2 = nI j1 + 1 := c12; have c13 : ¬ maA M j1 5 j2 = 0 := c13; have c14 : maA M j1 10 (j2 * 6 + j1) = 0 := c14; simp only [maqM, ho, hd, if_neg c8, if_pos c10, maM, maR, maW, if_neg c12, if_neg c13, if_pos c14] <;> rfl)
            · refine lv_aload_n hx hb dX4_acquire_132 rfl (lv_at hl 0 rfl) ?_
              refine lv_iload_n hx hb dX4_acquire_133 rfl (lv_at hl 2 rfl) ?_
              refine lv_iload_n hx hb dX4_acquire_134 rfl (lv_at hl 1 rfl) ?_
              refine lv_iload_n hx hb dX4_acquire_135 rfl (lv_at hl 3 rfl) ?_
              refine wd_cv (O := (mdO G)) hS (va_runV (As := [.int (nI j2), .int (nI j1), .int t]) (rest := []) ⟨hx, hb, hml, hown, hts⟩ (c_X4_lend (G := G) hj H.size j2 j1 t (by omega) (by omega)) (cwV 3 hts gX4_acquire_X4_lend rfl rfl rfl (by decide +kernel) ⟨Nat.le_of_ble_eq_true rfl, Nat.le_of_ble_eq_true rfl⟩) (wd_pre hK hP (md_lt (by omega)) mE_0 rfl) rfl rfl hl.1 rfl (lv_room (Nat.le_of_ble_eq_true rfl)) dX4_acquire_136 ⟨Nat.le_of_ble_eq_true rfl, Nat.le_of_ble_eq_true rfl⟩) (fun H locs hP hS => ?_)
              refine lv_aload_n hx hb dX4_acquire_139 rfl (lv_at hl 0 rfl) ?_
              refine wd_get (O := (mdO G)) (v := .ref (wa (mdO G) 6)) hx hb hts hi4 hown hK hP (md_lt (by omega)) mE_0 rfl 8 (by decide) (hts (.fieldLink RX4 26 "LeaseDeskModel" "tokens" "[I") (by decide +kernel)) (fun _ h9 => h9) rfl dX4_acquire_140 ?_
              refine lv_iload_n hx hb dX4_acquire_143 rfl (lv_at hl 2 rfl) ?_
              refine wd_iald (O := (mdO G)) hx hb hK hP (md_lt (by omega)) 0 (mE_6 _) rfl (i := j2) rfl (by omega) (by decide) dX4_acquire_144 ?_
              exact wd_iret (O := (mdO G)) hx hb hr hlocks hK hP hS rfl dX4_acquire_145 (by have c12 : ¬ maA M j1 5 j2 = nI j1 + 1 := c12; have c13 : maA M j1 5 j2 = 0 := c13; simp only [maqV, ho, hd, if_neg c8, if_pos c10, maV, maM, maR, maW, if_neg c12, if_pos c13] <;> rfl) (by have c12 : ¬ maA M j1 5 j2 = nI j1 + 1 := c12; have c13 : maA M j1 5 j2 = 0 := c13; simp only [maqM, ho, hd, if_neg c8, if_pos c10, maM, maR, maW, if_neg c12, if_pos c13] <;> rfl)
          · refine lv_aload_n hx hb dX4_acquire_70 rfl (lv_at hl 0 rfl) ?_
            refine wd_get (O := (mdO G)) (v := .int ((up (up M 0 1 0) 2 j1 ((up M 0 1 0) 0 0)) 0 0)) hx hb hts hi4 hown hK hP (md_lt (by omega)) mE_0 rfl 0 (by decide) (hts (.fieldLink RX4 54 "LeaseDeskModel" "time" "I") (by decide +kernel)) (fun _ h9 => h9) rfl dX4_acquire_71 ?_
            refine lv_iload_n hx hb dX4_acquire_74 rfl (lv_at hl 3 rfl) ?_
            refine lv_iadd hx hb dX4_acquire_75 ?_
            refine lv_aload_n hx hb dX4_acquire_76 rfl (lv_at hl 0 rfl) ?_
            refine wd_get (O := (mdO G)) (v := .ref (wa (mdO G) 7)) hx hb hts hi4 hown hK hP (md_lt (by omega)) mE_0 rfl 9 (by decide) (hts (.fieldLink RX4 29 "LeaseDeskModel" "ends" "[I") (by decide +kernel)) (fun _ h9 => h9) rfl dX4_acquire_77 ?_
            refine lv_iload_n hx hb dX4_acquire_80 rfl (lv_at hl 2 rfl) ?_
            refine wd_iald (O := (mdO G)) hx hb hK hP (md_lt (by omega)) 0 (mE_7 _) rfl (i := j2) rfl (by omega) (by decide) dX4_acquire_81 ?_
            refine lv_icmp_le (tgt := 116) hx hb dX4_acquire_82 (by decide) (fun c15 => ?_) (fun c15 => ?_)
            · refine lv_aload_n hx hb dX4_acquire_116 rfl (lv_at hl 0 rfl) ?_
              refine wd_get (O := (mdO G)) (v := .ref (wa (mdO G) 6)) hx hb hts hi4 hown hK hP (md_lt (by omega)) mE_0 rfl 8 (by decide) (hts (.fieldLink RX4 26 "LeaseDeskModel" "tokens" "[I") (by decide +kernel)) (fun _ h9 => h9) rfl dX4_acquire_117 ?_
              refine lv_iload_n hx hb dX4_acquire_120 rfl (lv_at hl 2 rfl) ?_
              refine wd_iald (O := (mdO G)) hx hb hK hP (md_lt (by omega)) 0 (mE_6 _) rfl (i := j2) rfl (by omega) (by decide) dX4_acquire_121 ?_
              exact wd_iret (O := (mdO G)) hx hb hr hlocks hK hP hS rfl dX4_acquire_122 (by have c12 : maA M j1 5 j2 = nI j1 + 1 := c12; have c15 : maA M j1 0 0 + t ≤ maA M j1 7 j2 := c15; simp only [maqV, ho, hd, if_neg c8, if_pos c10, maV, maM, maR, maW, if_pos c12, if_pos c15] <;> rfl) (by have c12 : maA M j1 5 j2 = nI j1 + 1 := c12; have c15 : maA M j1 0 0 + t ≤ maA M j1 7 j2 := c15; simp only [maqM, ho, hd, if_neg c8, if_pos c10, maM, maR, maW, if_pos c12, if_pos c15] <;> rfl)
            · refine lv_aload_n hx hb dX4_acquire_85 rfl (lv_at hl 0 rfl) ?_
              refine wd_get (O := (mdO G)) (v := .ref (wa (mdO G) 7)) hx hb hts hi4 hown hK hP (md_lt (by omega)) mE_0 rfl 9 (by decide) (hts (.fieldLink RX4 29 "LeaseDeskModel" "ends" "[I") (by decide +kernel)) (fun _ h9 => h9) rfl dX4_acquire_86 ?_
              refine lv_iload_n hx hb dX4_acquire_89 rfl (lv_at hl 2 rfl) ?_
              refine lv_aload_n hx hb dX4_acquire_90 rfl (lv_at hl 0 rfl) ?_
              refine wd_get (O := (mdO G)) (v := .int ((up (up M 0 1 0) 2 j1 ((up M 0 1 0) 0 0)) 0 0)) hx hb hts hi4 hown hK hP (md_lt (by omega)) mE_0 rfl 0 (by decide) (hts (.fieldLink RX4 54 "LeaseDeskModel" "time" "I") (by decide +kernel)) (fun _ h9 => h9) rfl dX4_acquire_91 ?_
              refine lv_iload_n hx hb dX4_acquire_94 rfl (lv_at hl 3 rfl) ?_
              refine lv_iadd hx hb dX4_acquire_95 ?_
              refine wd_iast (O := (mdO G)) hj hx hb hK hP hS (md_lt (by omega)) 0 mE_7 rfl (i := j2) rfl (by omega) (by decide) dX4_acquire_96 (fun H locs hP hS => ?_)
              refine lv_aload_n hx hb dX4_acquire_97 rfl (lv_at hl 0 rfl) ?_
              refine wd_get (O := (mdO G)) (v := .ref (wa (mdO G) 8)) hx hb hts hi4 hown hK hP (md_lt (by omega)) mE_0 rfl 10 (by decide) (hts (.fieldLink RX4 32 "LeaseDeskModel" "terms" "[I") (by decide +kernel)) (fun _ h9 => h9) rfl dX4_acquire_98 ?_
              refine lv_iload_n hx hb dX4_acquire_101 rfl (lv_at hl 2 rfl) ?_
              refine lv_iload_n hx hb dX4_acquire_102 rfl (lv_at hl 3 rfl) ?_
              refine wd_iast (O := (mdO G)) hj hx hb hK hP hS (md_lt (by omega)) 0 mE_8 rfl (i := j2) rfl (by omega) (by decide) dX4_acquire_103 (fun H locs hP hS => ?_)
              refine lv_aload_n hx hb dX4_acquire_104 rfl (lv_at hl 0 rfl) ?_
              refine wd_get (O := (mdO G)) (v := .ref (wa (mdO G) 9)) hx hb hts hi4 hown hK hP (md_lt (by omega)) mE_0 rfl 11 (by decide) (hts (.fieldLink RX4 35 "LeaseDeskModel" "starts" "[I") (by decide +kernel)) (fun _ h9 => h9) rfl dX4_acquire_105 ?_
              refine lv_iload_n hx hb dX4_acquire_108 rfl (lv_at hl 2 rfl) ?_
              refine lv_aload_n hx hb dX4_acquire_109 rfl (lv_at hl 0 rfl) ?_
              refine wd_get (O := (mdO G)) (v := .ref (wa (mdO G) 4)) hx hb hts hi4 hown hK hP (md_lt (by omega)) mE_0 rfl 6 (by decide) (hts (.fieldLink RX4 20 "LeaseDeskModel" "clocks" "[I") (by decide +kernel)) (fun _ h9 => h9) rfl dX4_acquire_110 ?_
              refine lv_iload_n hx hb dX4_acquire_113 rfl (lv_at hl 1 rfl) ?_
              refine wd_iald (O := (mdO G)) hx hb hK hP (md_lt (by omega)) 0 (mE_4 _) rfl (i := j1) rfl (by omega) (by decide) dX4_acquire_114 ?_
              refine wd_iast (O := (mdO G)) hj hx hb hK hP hS (md_lt (by omega)) 0 mE_9 rfl (i := j2) rfl (by omega) (by decide) dX4_acquire_115 (fun H locs hP hS => ?_)
              refine lv_aload_n hx hb dX4_acquire_116 rfl (lv_at hl 0 rfl) ?_
              refine wd_get (O := (mdO G)) (v := .ref (wa (mdO G) 6)) hx hb hts hi4 hown hK hP (md_lt (by omega)) mE_0 rfl 8 (by decide) (hts (.fieldLink RX4 26 "LeaseDeskModel" "tokens" "[I") (by decide +kernel)) (fun _ h9 => h9) rfl dX4_acquire_117 ?_
              refine lv_iload_n hx hb dX4_acquire_120 rfl (lv_at hl 2 rfl) ?_
              refine wd_iald (O := (mdO G)) hx hb hK hP (md_lt (by omega)) 0 (mE_6 _) rfl (i := j2) rfl (by omega) (by decide) dX4_acquire_121 ?_
              exact wd_iret (O := (mdO G)) hx hb hr hlocks hK hP hS rfl dX4_acquire_122 (by have c12 : maA M j1 5 j2 = nI j1 + 1 := c12; have c15 : ¬ maA M j1 0 0 + t ≤ maA M j1 7 j2 := c15; simp only [maqV, ho, hd, if_neg c8, if_pos c10, maV, maM, maR, maW, if_pos c12, if_neg c15] <;> rfl) (by have c12 : maA M j1 5 j2 = nI j1 + 1 := c12; have c15 : ¬ maA M j1 0 0 + t ≤ maA M j1 7 j2 := c15; simp only [maqM, ho, hd, if_neg c8, if_pos c10, maM, maR, maW, if_pos c12, if_neg c15] <;> rfl)
        · refine lv_iconst (v := 2) hx hb dX4_acquire_31 (by decide) ?_
          refine lv_goto (tgt := 36) hx hb dX4_acquire_32 (by decide) ?_
          refine wd_put (O := (mdO G)) (ty := .int) hj hx hb hts hi4 tyX4 tyX4_ok nmX4 hown hK hP hS (md_lt (by omega)) mE_0 rfl 1 (by decide) (hts (.fieldLink RX4 50 "LeaseDeskModel" "thrown" "I") (by decide +kernel)) (fun _ h9 => h9) rfl (by decide +kernel) rfl rfl (Nat.le_of_ble_eq_true rfl) (mE_0.trans rfl) dX4_acquire_36 (fun H locs hP hS => ?_)
          refine lv_aload_n hx hb dX4_acquire_39 rfl (lv_at hl 0 rfl) ?_
          refine wd_get (O := (mdO G)) (v := .int ((up M 0 1 2) 0 1)) hx hb hts hi4 hown hK hP (md_lt (by omega)) mE_0 rfl 1 (by decide) (hts (.fieldLink RX4 50 "LeaseDeskModel" "thrown" "I") (by decide +kernel)) (fun _ h9 => h9) rfl dX4_acquire_40 ?_
          refine wd_re (y := 2) (up_s _ _ _ _) ?_
          refine lv_if_le (tgt := 48) hx hb dX4_acquire_43 (by decide) (fun c16 => absurd c16 (by decide)) (fun c16 => ?_)
          refine lv_iconst (v := 0) hx hb dX4_acquire_46 (by decide) ?_
          exact wd_iret (O := (mdO G)) hx hb hr hlocks hK hP hS rfl dX4_acquire_47 (by simp only [maqV, ho, hd, if_neg c8, if_neg c10]) (by simp only [maqM, ho, hd, if_neg c8, if_neg c10])
set_option maxRecDepth 100000 in
set_option maxHeartbeats 4000000 in
theorem c_X4_release {l : Launch} {G : MG} (hj : wj (mdO G)) {M : Mem} (sz : Nat) (x y : Int32) : Met l yX4_release wsX4_release ({ frames := 2, cells := 0, slots := 0, locals := 48 }) (va_Pc [.ref (wa (mdO G) 0), .int x, .int y] (wp (mdO G) sz M)) (wQv (mdO G) sz (mrlM M x y)) 0 0 (wA (mdO G) sz) := by
  rcases op_cases (moV M x) with ho | ⟨j1, ho⟩
  · refine wd_ofW (O := (mdO G)) (M := M) (Qc := fun z => wQv (mdO G) z (mrlM M x y)) (cc := cX4_release) (maxL := 3) (ret := none) (lv := [(0, .ref (wa (mdO G) 0)), (1, .int x), (2, .int y)]) (by decide) rfl (Nat.le_of_ble_eq_true rfl) rfl ?_
    intro p e s m below meth c ls hx hb hr hml hown hts hlocks hP hK hS hl
    have hi4 : ∀ w ∈ wsX40, w ∈ wsX4_release := by decide +kernel
    refine lv_aload_n hx hb dX4_release_0 rfl (lv_at hl 0 rfl) ?_
    refine lv_aload_n hx hb dX4_release_1 rfl (lv_at hl 0 rfl) ?_
    refine lv_iload_n hx hb dX4_release_2 rfl (lv_at hl 1 rfl) ?_
    refine wd_ci (O := (mdO G)) hS (va_runV (As := [.int x]) (rest := [.ref (wa (mdO G) 0)]) ⟨hx, hb, hml, hown, hts⟩ (c_X4_isOpen (G := G) hj s.heap.size x ) (cwV 1 hts gX4_release_X4_isOpen rfl rfl rfl (by decide +kernel) ⟨Nat.le_of_ble_eq_true rfl, Nat.le_of_ble_eq_true rfl⟩) (wd_pre hK hP (md_lt (by omega)) mE_0 rfl) rfl rfl hl.1 rfl (lv_room (Nat.le_of_ble_eq_true rfl)) dX4_release_3 ⟨Nat.le_of_ble_eq_true rfl, Nat.le_of_ble_eq_true rfl⟩) (fun H locs hP hS => ?_)
    refine wd_re (y := 0) (by rw [ho]; rfl) ?_
    refine lv_if_ne (tgt := 13) hx hb dX4_release_6 (by decide) (fun c1 => absurd rfl c1) (fun c1 => ?_)
    refine lv_iconst (v := 1) hx hb dX4_release_9 (by decide) ?_
    refine lv_goto (tgt := 41) hx hb dX4_release_10 (by decide) ?_
    refine wd_put (O := (mdO G)) (ty := .int) hj hx hb hts hi4 tyX4 tyX4_ok nmX4 hown hK hP hS (md_lt (by omega)) mE_0 rfl 1 (by decide) (hts (.fieldLink RX4 50 "LeaseDeskModel" "thrown" "I") (by decide +kernel)) (fun _ h9 => h9) rfl (by decide +kernel) rfl rfl (Nat.le_of_ble_eq_true rfl) (mE_0.trans rfl) dX4_release_41 (fun H locs hP hS => ?_)
    refine lv_aload_n hx hb dX4_release_44 rfl (lv_at hl 0 rfl) ?_
    refine wd_get (O := (mdO G)) (v := .int ((up M 0 1 1) 0 1)) hx hb hts hi4 hown hK hP (md_lt (by omega)) mE_0 rfl 1 (by decide) (hts (.fieldLink RX4 50 "LeaseDeskModel" "thrown" "I") (by decide +kernel)) (fun _ h9 => h9) rfl dX4_release_45 ?_
    refine wd_re (y := 1) (up_s _ _ _ _) ?_
    refine lv_if_ne (tgt := 56) hx hb dX4_release_48 (by decide) (fun c2 => ?_) (fun c2 => absurd c2 (by decide))
    exact wd_vret (O := (mdO G)) hx hb hr hlocks hK hP hS dX4_release_56 (by simp only [mrlM, ho])
  · obtain ⟨hj1, rfl, hon⟩ := moV_some ho
    rcases op_cases (dN y 4) with hd | ⟨j2, hd⟩
    · refine wd_ofW (O := (mdO G)) (M := M) (Qc := fun z => wQv (mdO G) z (mrlM M (nI j1) y)) (cc := cX4_release) (maxL := 3) (ret := none) (lv := [(0, .ref (wa (mdO G) 0)), (1, .int (nI j1)), (2, .int y)]) (by decide) rfl (Nat.le_of_ble_eq_true rfl) rfl ?_
      intro p e s m below meth c ls hx hb hr hml hown hts hlocks hP hK hS hl
      have hi4 : ∀ w ∈ wsX40, w ∈ wsX4_release := by decide +kernel
      refine lv_aload_n hx hb dX4_release_0 rfl (lv_at hl 0 rfl) ?_
      refine lv_aload_n hx hb dX4_release_1 rfl (lv_at hl 0 rfl) ?_
      refine lv_iload_n hx hb dX4_release_2 rfl (lv_at hl 1 rfl) ?_
      refine wd_ci (O := (mdO G)) hS (va_runV (As := [.int (nI j1)]) (rest := [.ref (wa (mdO G) 0)]) ⟨hx, hb, hml, hown, hts⟩ (c_X4_isOpen (G := G) hj s.heap.size (nI j1) ) (cwV 1 hts gX4_release_X4_isOpen rfl rfl rfl (by decide +kernel) ⟨Nat.le_of_ble_eq_true rfl, Nat.le_of_ble_eq_true rfl⟩) (wd_pre hK hP (md_lt (by omega)) mE_0 rfl) rfl rfl hl.1 rfl (lv_room (Nat.le_of_ble_eq_true rfl)) dX4_release_3 ⟨Nat.le_of_ble_eq_true rfl, Nat.le_of_ble_eq_true rfl⟩) (fun H locs hP hS => ?_)
      refine wd_re (y := 1) (by rw [ho]; rfl) ?_
      refine lv_if_ne (tgt := 13) hx hb dX4_release_6 (by decide) (fun c3 => ?_) (fun c3 => absurd c3 (by decide))
      refine lv_iload_n hx hb dX4_release_13 rfl (lv_at hl 2 rfl) ?_
      refine wd_ci (O := (mdO G)) hS (va_runS (As := [.int y]) (rest := [.ref (wa (mdO G) 0)]) ⟨hx, hb, hml, hown, hts⟩ (c_X4_isLock (G := G) hj H.size y ) (va_cwS 1 hts gX4_release_X4_isLock rfl rfl rfl (by decide +kernel) ⟨Nat.le_of_ble_eq_true rfl, Nat.le_of_ble_eq_true rfl⟩) (wd_preS hK hP) rfl rfl hl.1 rfl (lv_room (Nat.le_of_ble_eq_true rfl)) dX4_release_14 ⟨Nat.le_of_ble_eq_true rfl, Nat.le_of_ble_eq_true rfl⟩) (fun H locs hP hS => ?_)
      refine wd_re (y := 0) (by rw [hd]; rfl) ?_
      refine lv_if_ne (tgt := 24) hx hb dX4_release_17 (by decide) (fun c4 => absurd rfl c4) (fun c4 => ?_)
      refine lv_iconst (v := 2) hx hb dX4_release_20 (by decide) ?_
      refine lv_goto (tgt := 41) hx hb dX4_release_21 (by decide) ?_
      refine wd_put (O := (mdO G)) (ty := .int) hj hx hb hts hi4 tyX4 tyX4_ok nmX4 hown hK hP hS (md_lt (by omega)) mE_0 rfl 1 (by decide) (hts (.fieldLink RX4 50 "LeaseDeskModel" "thrown" "I") (by decide +kernel)) (fun _ h9 => h9) rfl (by decide +kernel) rfl rfl (Nat.le_of_ble_eq_true rfl) (mE_0.trans rfl) dX4_release_41 (fun H locs hP hS => ?_)
      refine lv_aload_n hx hb dX4_release_44 rfl (lv_at hl 0 rfl) ?_
      refine wd_get (O := (mdO G)) (v := .int ((up M 0 1 2) 0 1)) hx hb hts hi4 hown hK hP (md_lt (by omega)) mE_0 rfl 1 (by decide) (hts (.fieldLink RX4 50 "LeaseDeskModel" "thrown" "I") (by decide +kernel)) (fun _ h9 => h9) rfl dX4_release_45 ?_
      refine wd_re (y := 2) (up_s _ _ _ _) ?_
      refine lv_if_ne (tgt := 56) hx hb dX4_release_48 (by decide) (fun c5 => ?_) (fun c5 => absurd c5 (by decide))
      exact wd_vret (O := (mdO G)) hx hb hr hlocks hK hP hS dX4_release_56 (by simp only [mrlM, ho, hd])
    · obtain ⟨hj2, rfl⟩ := dN_some (by decide) hd
      refine wd_ofW (O := (mdO G)) (M := M) (Qc := fun z => wQv (mdO G) z (mrlM M (nI j1) (nI j2))) (cc := cX4_release) (maxL := 3) (ret := none) (lv := [(0, .ref (wa (mdO G) 0)), (1, .int (nI j1)), (2, .int (nI j2))]) (by decide) rfl (Nat.le_of_ble_eq_true rfl) rfl ?_
      intro p e s m below meth c ls hx hb hr hml hown hts hlocks hP hK hS hl
      have hi4 : ∀ w ∈ wsX40, w ∈ wsX4_release := by decide +kernel
      refine lv_aload_n hx hb dX4_release_0 rfl (lv_at hl 0 rfl) ?_
      refine lv_aload_n hx hb dX4_release_1 rfl (lv_at hl 0 rfl) ?_
      refine lv_iload_n hx hb dX4_release_2 rfl (lv_at hl 1 rfl) ?_
      refine wd_ci (O := (mdO G)) hS (va_runV (As := [.int (nI j1)]) (rest := [.ref (wa (mdO G) 0)]) ⟨hx, hb, hml, hown, hts⟩ (c_X4_isOpen (G := G) hj s.heap.size (nI j1) ) (cwV 1 hts gX4_release_X4_isOpen rfl rfl rfl (by decide +kernel) ⟨Nat.le_of_ble_eq_true rfl, Nat.le_of_ble_eq_true rfl⟩) (wd_pre hK hP (md_lt (by omega)) mE_0 rfl) rfl rfl hl.1 rfl (lv_room (Nat.le_of_ble_eq_true rfl)) dX4_release_3 ⟨Nat.le_of_ble_eq_true rfl, Nat.le_of_ble_eq_true rfl⟩) (fun H locs hP hS => ?_)
      refine wd_re (y := 1) (by rw [ho]; rfl) ?_
      refine lv_if_ne (tgt := 13) hx hb dX4_release_6 (by decide) (fun c6 => ?_) (fun c6 => absurd c6 (by decide))
      refine lv_iload_n hx hb dX4_release_13 rfl (lv_at hl 2 rfl) ?_
      refine wd_ci (O := (mdO G)) hS (va_runS (As := [.int (nI j2)]) (rest := [.ref (wa (mdO G) 0)]) ⟨hx, hb, hml, hown, hts⟩ (c_X4_isLock (G := G) hj H.size (nI j2) ) (va_cwS 1 hts gX4_release_X4_isLock rfl rfl rfl (by decide +kernel) ⟨Nat.le_of_ble_eq_true rfl, Nat.le_of_ble_eq_true rfl⟩) (wd_preS hK hP) rfl rfl hl.1 rfl (lv_room (Nat.le_of_ble_eq_true rfl)) dX4_release_14 ⟨Nat.le_of_ble_eq_true rfl, Nat.le_of_ble_eq_true rfl⟩) (fun H locs hP hS => ?_)
      refine wd_re (y := 1) (by rw [hd]; rfl) ?_
      refine lv_if_ne (tgt := 24) hx hb dX4_release_17 (by decide) (fun c7 => ?_) (fun c7 => absurd c7 (by decide))
      refine lv_aload_n hx hb dX4_release_24 rfl (lv_at hl 0 rfl) ?_
      refine wd_get (O := (mdO G)) (v := .ref (wa (mdO G) 5)) hx hb hts hi4 hown hK hP (md_lt (by omega)) mE_0 rfl 7 (by decide) (hts (.fieldLink RX4 23 "LeaseDeskModel" "has" "[I") (by decide +kernel)) (fun _ h9 => h9) rfl dX4_release_25 ?_
      refine lv_iload_n hx hb dX4_release_28 rfl (lv_at hl 2 rfl) ?_
      refine wd_iald (O := (mdO G)) hx hb hK hP (md_lt (by omega)) 0 (mE_5 _) rfl (i := j2) rfl (by omega) (by decide) dX4_release_29 ?_
      refine lv_iload_n hx hb dX4_release_30 rfl (lv_at hl 1 rfl) ?_
      refine lv_iconst (v := 1) hx hb dX4_release_31 (by decide) ?_
      refine lv_iadd hx hb dX4_release_32 ?_
      refine lv_icmp_eq (tgt := 40) hx hb dX4_release_33 (by decide) (fun c8 => ?_) (fun c8 => ?_)
      · refine lv_iconst (v := 0) hx hb dX4_release_40 (by decide) ?_
        refine wd_put (O := (mdO G)) (ty := .int) hj hx hb hts hi4 tyX4 tyX4_ok nmX4 hown hK hP hS (md_lt (by omega)) mE_0 rfl 1 (by decide) (hts (.fieldLink RX4 50 "LeaseDeskModel" "thrown" "I") (by decide +kernel)) (fun _ h9 => h9) rfl (by decide +kernel) rfl rfl (Nat.le_of_ble_eq_true rfl) (mE_0.trans rfl) dX4_release_41 (fun H locs hP hS => ?_)
        refine lv_aload_n hx hb dX4_release_44 rfl (lv_at hl 0 rfl) ?_
        refine wd_get (O := (mdO G)) (v := .int ((up M 0 1 0) 0 1)) hx hb hts hi4 hown hK hP (md_lt (by omega)) mE_0 rfl 1 (by decide) (hts (.fieldLink RX4 50 "LeaseDeskModel" "thrown" "I") (by decide +kernel)) (fun _ h9 => h9) rfl dX4_release_45 ?_
        refine wd_re (y := 0) (up_s _ _ _ _) ?_
        refine lv_if_ne (tgt := 56) hx hb dX4_release_48 (by decide) (fun c9 => absurd rfl c9) (fun c9 => ?_)
        refine lv_aload_n hx hb dX4_release_51 rfl (lv_at hl 0 rfl) ?_
        refine lv_iload_n hx hb dX4_release_52 rfl (lv_at hl 2 rfl) ?_
        refine wd_cv (O := (mdO G)) hS (va_runV (As := [.int (nI j2)]) (rest := []) ⟨hx, hb, hml, hown, hts⟩ (c_X4_over (G := G) hj H.size j2 (by omega)) (cwV 1 hts gX4_release_X4_over rfl rfl rfl (by decide +kernel) ⟨Nat.le_of_ble_eq_true rfl, Nat.le_of_ble_eq_true rfl⟩) (wd_pre hK hP (md_lt (by omega)) mE_0 rfl) rfl rfl hl.1 rfl (lv_room (Nat.le_of_ble_eq_true rfl)) dX4_release_53 ⟨Nat.le_of_ble_eq_true rfl, Nat.le_of_ble_eq_true rfl⟩) (fun H locs hP hS => ?_)
        exact wd_vret (O := (mdO G)) hx hb hr hlocks hK hP hS dX4_release_56 (by simp only [mrlM, ho, hd, if_pos c8])
      · refine lv_iconst (v := 3) hx hb dX4_release_36 (by decide) ?_
        refine lv_goto (tgt := 41) hx hb dX4_release_37 (by decide) ?_
        refine wd_put (O := (mdO G)) (ty := .int) hj hx hb hts hi4 tyX4 tyX4_ok nmX4 hown hK hP hS (md_lt (by omega)) mE_0 rfl 1 (by decide) (hts (.fieldLink RX4 50 "LeaseDeskModel" "thrown" "I") (by decide +kernel)) (fun _ h9 => h9) rfl (by decide +kernel) rfl rfl (Nat.le_of_ble_eq_true rfl) (mE_0.trans rfl) dX4_release_41 (fun H locs hP hS => ?_)
        refine lv_aload_n hx hb dX4_release_44 rfl (lv_at hl 0 rfl) ?_
        refine wd_get (O := (mdO G)) (v := .int ((up M 0 1 3) 0 1)) hx hb hts hi4 hown hK hP (md_lt (by omega)) mE_0 rfl 1 (by decide) (hts (.fieldLink RX4 50 "LeaseDeskModel" "thrown" "I") (by decide +kernel)) (fun _ h9 => h9) rfl dX4_release_45 ?_
        refine wd_re (y := 3) (up_s _ _ _ _) ?_
        refine lv_if_ne (tgt := 56) hx hb dX4_release_48 (by decide) (fun c10 => ?_) (fun c10 => absurd c10 (by decide))
        exact wd_vret (O := (mdO G)) hx hb hr hlocks hK hP hS dX4_release_56 (by simp only [mrlM, ho, hd, if_neg c8])
set_option maxRecDepth 100000 in
set_option maxHeartbeats 4000000 in
theorem c_X4_cancel {l : Launch} {G : MG} (hj : wj (mdO G)) {M : Mem} (sz : Nat) (x y : Int32) : Met l yX4_cancel wsX4_cancel ({ frames := 1, cells := 0, slots := 0, locals := 21 }) (va_Pc [.ref (wa (mdO G) 0), .int x, .int y] (wp (mdO G) sz M)) (wQi (mdO G) sz (mcnV M x y) (mcnM M x y)) 0 0 (wA (mdO G) sz) := by
  rcases op_cases (moV M x) with ho | ⟨j1, ho⟩
  · refine wd_ofW (O := (mdO G)) (M := M) (Qc := fun z => wQi (mdO G) z (mcnV M x y) (mcnM M x y)) (cc := cX4_cancel) (maxL := 3) (ret := (some .boolean)) (lv := [(0, .ref (wa (mdO G) 0)), (1, .int x), (2, .int y)]) (by decide) rfl (Nat.le_of_ble_eq_true rfl) rfl ?_
    intro p e s m below meth c ls hx hb hr hml hown hts hlocks hP hK hS hl
    have hi4 : ∀ w ∈ wsX40, w ∈ wsX4_cancel := by decide +kernel
    refine lv_aload_n hx hb dX4_cancel_0 rfl (lv_at hl 0 rfl) ?_
    refine lv_iload_n hx hb dX4_cancel_1 rfl (lv_at hl 1 rfl) ?_
    refine wd_ci (O := (mdO G)) hS (va_runV (As := [.int x]) (rest := []) ⟨hx, hb, hml, hown, hts⟩ (c_X4_isOpen (G := G) hj s.heap.size x ) (cwV 1 hts gX4_cancel_X4_isOpen rfl rfl rfl (by decide +kernel) ⟨Nat.le_of_ble_eq_true rfl, Nat.le_of_ble_eq_true rfl⟩) (wd_pre hK hP (md_lt (by omega)) mE_0 rfl) rfl rfl hl.1 rfl (lv_room (Nat.le_of_ble_eq_true rfl)) dX4_cancel_2 ⟨Nat.le_of_ble_eq_true rfl, Nat.le_of_ble_eq_true rfl⟩) (fun H locs hP hS => ?_)
    refine wd_re (y := 0) (by rw [ho]; rfl) ?_
    refine lv_if_eq (tgt := 29) hx hb dX4_cancel_5 (by decide) (fun c1 => ?_) (fun c1 => absurd rfl c1)
    refine lv_iconst (v := 0) hx hb dX4_cancel_29 (by decide) ?_
    exact wd_iret (O := (mdO G)) hx hb hr hlocks hK hP hS (by decide) dX4_cancel_30 (by simp only [mcnV, ho]) (by simp only [mcnM, ho])
  · obtain ⟨hj1, rfl, hon⟩ := moV_some ho
    rcases op_cases (dN y 4) with hd | ⟨j2, hd⟩
    · refine wd_ofW (O := (mdO G)) (M := M) (Qc := fun z => wQi (mdO G) z (mcnV M (nI j1) y) (mcnM M (nI j1) y)) (cc := cX4_cancel) (maxL := 3) (ret := (some .boolean)) (lv := [(0, .ref (wa (mdO G) 0)), (1, .int (nI j1)), (2, .int y)]) (by decide) rfl (Nat.le_of_ble_eq_true rfl) rfl ?_
      intro p e s m below meth c ls hx hb hr hml hown hts hlocks hP hK hS hl
      have hi4 : ∀ w ∈ wsX40, w ∈ wsX4_cancel := by decide +kernel
      refine lv_aload_n hx hb dX4_cancel_0 rfl (lv_at hl 0 rfl) ?_
      refine lv_iload_n hx hb dX4_cancel_1 rfl (lv_at hl 1 rfl) ?_
      refine wd_ci (O := (mdO G)) hS (va_runV (As := [.int (nI j1)]) (rest := []) ⟨hx, hb, hml, hown, hts⟩ (c_X4_isOpen (G := G) hj s.heap.size (nI j1) ) (cwV 1 hts gX4_cancel_X4_isOpen rfl rfl rfl (by decide +kernel) ⟨Nat.le_of_ble_eq_true rfl, Nat.le_of_ble_eq_true rfl⟩) (wd_pre hK hP (md_lt (by omega)) mE_0 rfl) rfl rfl hl.1 rfl (lv_room (Nat.le_of_ble_eq_true rfl)) dX4_cancel_2 ⟨Nat.le_of_ble_eq_true rfl, Nat.le_of_ble_eq_true rfl⟩) (fun H locs hP hS => ?_)
      refine wd_re (y := 1) (by rw [ho]; rfl) ?_
      refine lv_if_eq (tgt := 29) hx hb dX4_cancel_5 (by decide) (fun c2 => absurd c2 (by decide)) (fun c2 => ?_)
      refine lv_iload_n hx hb dX4_cancel_8 rfl (lv_at hl 2 rfl) ?_
      refine wd_ci (O := (mdO G)) hS (va_runS (As := [.int y]) (rest := []) ⟨hx, hb, hml, hown, hts⟩ (c_X4_isLock (G := G) hj H.size y ) (va_cwS 1 hts gX4_cancel_X4_isLock rfl rfl rfl (by decide +kernel) ⟨Nat.le_of_ble_eq_true rfl, Nat.le_of_ble_eq_true rfl⟩) (wd_preS hK hP) rfl rfl hl.1 rfl (lv_room (Nat.le_of_ble_eq_true rfl)) dX4_cancel_9 ⟨Nat.le_of_ble_eq_true rfl, Nat.le_of_ble_eq_true rfl⟩) (fun H locs hP hS => ?_)
      refine wd_re (y := 0) (by rw [hd]; rfl) ?_
      refine lv_if_eq (tgt := 29) hx hb dX4_cancel_12 (by decide) (fun c3 => ?_) (fun c3 => absurd rfl c3)
      refine lv_iconst (v := 0) hx hb dX4_cancel_29 (by decide) ?_
      exact wd_iret (O := (mdO G)) hx hb hr hlocks hK hP hS (by decide) dX4_cancel_30 (by simp only [mcnV, ho, hd]) (by simp only [mcnM, ho, hd])
    · obtain ⟨hj2, rfl⟩ := dN_some (by decide) hd
      refine wd_ofW (O := (mdO G)) (M := M) (Qc := fun z => wQi (mdO G) z (mcnV M (nI j1) (nI j2)) (mcnM M (nI j1) (nI j2))) (cc := cX4_cancel) (maxL := 3) (ret := (some .boolean)) (lv := [(0, .ref (wa (mdO G) 0)), (1, .int (nI j1)), (2, .int (nI j2))]) (by decide) rfl (Nat.le_of_ble_eq_true rfl) rfl ?_
      intro p e s m below meth c ls hx hb hr hml hown hts hlocks hP hK hS hl
      have hi4 : ∀ w ∈ wsX40, w ∈ wsX4_cancel := by decide +kernel
      refine lv_aload_n hx hb dX4_cancel_0 rfl (lv_at hl 0 rfl) ?_
      refine lv_iload_n hx hb dX4_cancel_1 rfl (lv_at hl 1 rfl) ?_
      refine wd_ci (O := (mdO G)) hS (va_runV (As := [.int (nI j1)]) (rest := []) ⟨hx, hb, hml, hown, hts⟩ (c_X4_isOpen (G := G) hj s.heap.size (nI j1) ) (cwV 1 hts gX4_cancel_X4_isOpen rfl rfl rfl (by decide +kernel) ⟨Nat.le_of_ble_eq_true rfl, Nat.le_of_ble_eq_true rfl⟩) (wd_pre hK hP (md_lt (by omega)) mE_0 rfl) rfl rfl hl.1 rfl (lv_room (Nat.le_of_ble_eq_true rfl)) dX4_cancel_2 ⟨Nat.le_of_ble_eq_true rfl, Nat.le_of_ble_eq_true rfl⟩) (fun H locs hP hS => ?_)
      refine wd_re (y := 1) (by rw [ho]; rfl) ?_
      refine lv_if_eq (tgt := 29) hx hb dX4_cancel_5 (by decide) (fun c4 => absurd c4 (by decide)) (fun c4 => ?_)
      refine lv_iload_n hx hb dX4_cancel_8 rfl (lv_at hl 2 rfl) ?_
      refine wd_ci (O := (mdO G)) hS (va_runS (As := [.int (nI j2)]) (rest := []) ⟨hx, hb, hml, hown, hts⟩ (c_X4_isLock (G := G) hj H.size (nI j2) ) (va_cwS 1 hts gX4_cancel_X4_isLock rfl rfl rfl (by decide +kernel) ⟨Nat.le_of_ble_eq_true rfl, Nat.le_of_ble_eq_true rfl⟩) (wd_preS hK hP) rfl rfl hl.1 rfl (lv_room (Nat.le_of_ble_eq_true rfl)) dX4_cancel_9 ⟨Nat.le_of_ble_eq_true rfl, Nat.le_of_ble_eq_true rfl⟩) (fun H locs hP hS => ?_)
      refine wd_re (y := 1) (by rw [hd]; rfl) ?_
      refine lv_if_eq (tgt := 29) hx hb dX4_cancel_12 (by decide) (fun c5 => absurd c5 (by decide)) (fun c5 => ?_)
      refine lv_aload_n hx hb dX4_cancel_15 rfl (lv_at hl 0 rfl) ?_
      refine wd_get (O := (mdO G)) (v := .ref (wa (mdO G) 10)) hx hb hts hi4 hown hK hP (md_lt (by omega)) mE_0 rfl 12 (by decide) (hts (.fieldLink RX4 38 "LeaseDeskModel" "wishes" "[I") (by decide +kernel)) (fun _ h9 => h9) rfl dX4_cancel_16 ?_
      refine lv_iload_n hx hb dX4_cancel_19 rfl (lv_at hl 2 rfl) ?_
      refine lv_bipush (v := 6) hx hb dX4_cancel_20 (by decide) ?_
      refine lv_imul hx hb dX4_cancel_22 ?_
      refine lv_iload_n hx hb dX4_cancel_23 rfl (lv_at hl 1 rfl) ?_
      refine lv_iadd hx hb dX4_cancel_24 ?_
      refine wd_re (y := nI (j2 * 6 + j1)) (ml_ix j2 j1) ?_
      refine wd_iald (O := (mdO G)) hx hb hK hP (md_lt (by omega)) 0 (mE_10 _) rfl (i := (j2 * 6 + j1)) rfl (by omega) (by decide) dX4_cancel_25 ?_
      refine lv_if_ne (tgt := 31) hx hb dX4_cancel_26 (by decide) (fun c6 => ?_) (fun c6 => ?_)
      · refine lv_aload_n hx hb dX4_cancel_31 rfl (lv_at hl 0 rfl) ?_
        refine wd_get (O := (mdO G)) (v := .ref (wa (mdO G) 10)) hx hb hts hi4 hown hK hP (md_lt (by omega)) mE_0 rfl 12 (by decide) (hts (.fieldLink RX4 38 "LeaseDeskModel" "wishes" "[I") (by decide +kernel)) (fun _ h9 => h9) rfl dX4_cancel_32 ?_
        refine lv_iload_n hx hb dX4_cancel_35 rfl (lv_at hl 2 rfl) ?_
        refine lv_bipush (v := 6) hx hb dX4_cancel_36 (by decide) ?_
        refine lv_imul hx hb dX4_cancel_38 ?_
        refine lv_iload_n hx hb dX4_cancel_39 rfl (lv_at hl 1 rfl) ?_
        refine lv_iadd hx hb dX4_cancel_40 ?_
        refine wd_re (y := nI (j2 * 6 + j1)) (ml_ix j2 j1) ?_
        refine lv_iconst (v := 0) hx hb dX4_cancel_41 (by decide) ?_
        refine wd_iast (O := (mdO G)) hj hx hb hK hP hS (md_lt (by omega)) 0 mE_10 rfl (i := (j2 * 6 + j1)) rfl (by omega) (by decide) dX4_cancel_42 (fun H locs hP hS => ?_)
        refine lv_iconst (v := 1) hx hb dX4_cancel_43 (by decide) ?_
        exact wd_iret (O := (mdO G)) hx hb hr hlocks hK hP hS (by decide) dX4_cancel_44 (by simp only [mcnV, ho, hd, if_neg c6]) (by simp only [mcnM, ho, hd, if_neg c6])
      · refine lv_iconst (v := 0) hx hb dX4_cancel_29 (by decide) ?_
        exact wd_iret (O := (mdO G)) hx hb hr hlocks hK hP hS (by decide) dX4_cancel_30 (by simp only [mcnV, ho, hd, if_pos c6]) (by simp only [mcnM, ho, hd, if_pos c6])
set_option maxRecDepth 100000 in
set_option maxHeartbeats 4000000 in
theorem c_X4_holder {l : Launch} {G : MG} (hj : wj (mdO G)) {M : Mem} (sz : Nat) (x  : Int32) : Met l yX4_holder wsX4_holder ({ frames := 1, cells := 0, slots := 0, locals := 20 }) (va_Pc [.ref (wa (mdO G) 0), .int x] (wp (mdO G) sz M)) (wQi (mdO G) sz (mhdV M x) (M)) 0 0 (wA (mdO G) sz) := by
  rcases op_cases (dN x 4) with hd | ⟨j2, hd⟩
  · refine wd_ofW (O := (mdO G)) (M := M) (Qc := fun z => wQi (mdO G) z (mhdV M x) (M)) (cc := cX4_holder) (maxL := 2) (ret := (some .int)) (lv := [(0, .ref (wa (mdO G) 0)), (1, .int x)]) (by decide) rfl (Nat.le_of_ble_eq_true rfl) rfl ?_
    intro p e s m below meth c ls hx hb hr hml hown hts hlocks hP hK hS hl
    have hi4 : ∀ w ∈ wsX40, w ∈ wsX4_holder := by decide +kernel
    refine lv_iload_n hx hb dX4_holder_0 rfl (lv_at hl 1 rfl) ?_
    refine wd_ci (O := (mdO G)) hS (va_runS (As := [.int x]) (rest := []) ⟨hx, hb, hml, hown, hts⟩ (c_X4_isLock (G := G) hj s.heap.size x ) (va_cwS 1 hts gX4_holder_X4_isLock rfl rfl rfl (by decide +kernel) ⟨Nat.le_of_ble_eq_true rfl, Nat.le_of_ble_eq_true rfl⟩) (wd_preS hK hP) rfl rfl hl.1 rfl (lv_room (Nat.le_of_ble_eq_true rfl)) dX4_holder_1 ⟨Nat.le_of_ble_eq_true rfl, Nat.le_of_ble_eq_true rfl⟩) (fun H locs hP hS => ?_)
    refine wd_re (y := 0) (by rw [hd]; rfl) ?_
    refine lv_if_eq (tgt := 18) hx hb dX4_holder_4 (by decide) (fun c1 => ?_) (fun c1 => absurd rfl c1)
    refine lv_iconst (v := (-1)) hx hb dX4_holder_18 (by decide) ?_
    exact wd_iret (O := (mdO G)) hx hb hr hlocks hK hP hS rfl dX4_holder_19 (by simp only [mhdV, hd]) (rfl)
  · obtain ⟨hj2, rfl⟩ := dN_some (by decide) hd
    refine wd_ofW (O := (mdO G)) (M := M) (Qc := fun z => wQi (mdO G) z (mhdV M (nI j2)) (M)) (cc := cX4_holder) (maxL := 2) (ret := (some .int)) (lv := [(0, .ref (wa (mdO G) 0)), (1, .int (nI j2))]) (by decide) rfl (Nat.le_of_ble_eq_true rfl) rfl ?_
    intro p e s m below meth c ls hx hb hr hml hown hts hlocks hP hK hS hl
    have hi4 : ∀ w ∈ wsX40, w ∈ wsX4_holder := by decide +kernel
    refine lv_iload_n hx hb dX4_holder_0 rfl (lv_at hl 1 rfl) ?_
    refine wd_ci (O := (mdO G)) hS (va_runS (As := [.int (nI j2)]) (rest := []) ⟨hx, hb, hml, hown, hts⟩ (c_X4_isLock (G := G) hj s.heap.size (nI j2) ) (va_cwS 1 hts gX4_holder_X4_isLock rfl rfl rfl (by decide +kernel) ⟨Nat.le_of_ble_eq_true rfl, Nat.le_of_ble_eq_true rfl⟩) (wd_preS hK hP) rfl rfl hl.1 rfl (lv_room (Nat.le_of_ble_eq_true rfl)) dX4_holder_1 ⟨Nat.le_of_ble_eq_true rfl, Nat.le_of_ble_eq_true rfl⟩) (fun H locs hP hS => ?_)
    refine wd_re (y := 1) (by rw [hd]; rfl) ?_
    refine lv_if_eq (tgt := 18) hx hb dX4_holder_4 (by decide) (fun c2 => absurd c2 (by decide)) (fun c2 => ?_)
    refine lv_aload_n hx hb dX4_holder_7 rfl (lv_at hl 0 rfl) ?_
    refine wd_get (O := (mdO G)) (v := .ref (wa (mdO G) 5)) hx hb hts hi4 hown hK hP (md_lt (by omega)) mE_0 rfl 7 (by decide) (hts (.fieldLink RX4 23 "LeaseDeskModel" "has" "[I") (by decide +kernel)) (fun _ h9 => h9) rfl dX4_holder_8 ?_
    refine lv_iload_n hx hb dX4_holder_11 rfl (lv_at hl 1 rfl) ?_
    refine wd_iald (O := (mdO G)) hx hb hK hP (md_lt (by omega)) 0 (mE_5 _) rfl (i := j2) rfl (by omega) (by decide) dX4_holder_12 ?_
    refine lv_iconst (v := 1) hx hb dX4_holder_13 (by decide) ?_
    refine lv_isub hx hb dX4_holder_14 ?_
    refine lv_goto (tgt := 19) hx hb dX4_holder_15 (by decide) ?_
    exact wd_iret (O := (mdO G)) hx hb hr hlocks hK hP hS rfl dX4_holder_19 (by simp only [mhdV, hd]) (rfl)
set_option maxRecDepth 100000 in
set_option maxHeartbeats 4000000 in
theorem c_X4_token {l : Launch} {G : MG} (hj : wj (mdO G)) {M : Mem} (sz : Nat) (x  : Int32) : Met l yX4_token wsX4_token ({ frames := 1, cells := 0, slots := 0, locals := 20 }) (va_Pc [.ref (wa (mdO G) 0), .int x] (wp (mdO G) sz M)) (wQi (mdO G) sz (mkcV M x (-1) 6) (M)) 0 0 (wA (mdO G) sz) := by
  rcases op_cases (dN x 4) with hd | ⟨j2, hd⟩
  · refine wd_ofW (O := (mdO G)) (M := M) (Qc := fun z => wQi (mdO G) z (mkcV M x (-1) 6) (M)) (cc := cX4_token) (maxL := 2) (ret := (some .int)) (lv := [(0, .ref (wa (mdO G) 0)), (1, .int x)]) (by decide) rfl (Nat.le_of_ble_eq_true rfl) rfl ?_
    intro p e s m below meth c ls hx hb hr hml hown hts hlocks hP hK hS hl
    have hi4 : ∀ w ∈ wsX40, w ∈ wsX4_token := by decide +kernel
    refine lv_iload_n hx hb dX4_token_0 rfl (lv_at hl 1 rfl) ?_
    refine wd_ci (O := (mdO G)) hS (va_runS (As := [.int x]) (rest := []) ⟨hx, hb, hml, hown, hts⟩ (c_X4_isLock (G := G) hj s.heap.size x ) (va_cwS 1 hts gX4_token_X4_isLock rfl rfl rfl (by decide +kernel) ⟨Nat.le_of_ble_eq_true rfl, Nat.le_of_ble_eq_true rfl⟩) (wd_preS hK hP) rfl rfl hl.1 rfl (lv_room (Nat.le_of_ble_eq_true rfl)) dX4_token_1 ⟨Nat.le_of_ble_eq_true rfl, Nat.le_of_ble_eq_true rfl⟩) (fun H locs hP hS => ?_)
    refine wd_re (y := 0) (by rw [hd]; rfl) ?_
    refine lv_if_eq (tgt := 16) hx hb dX4_token_4 (by decide) (fun c1 => ?_) (fun c1 => absurd rfl c1)
    refine lv_iconst (v := (-1)) hx hb dX4_token_16 (by decide) ?_
    exact wd_iret (O := (mdO G)) hx hb hr hlocks hK hP hS rfl dX4_token_17 (by simp only [mkcV, hd]) (rfl)
  · obtain ⟨hj2, rfl⟩ := dN_some (by decide) hd
    refine wd_ofW (O := (mdO G)) (M := M) (Qc := fun z => wQi (mdO G) z (mkcV M (nI j2) (-1) 6) (M)) (cc := cX4_token) (maxL := 2) (ret := (some .int)) (lv := [(0, .ref (wa (mdO G) 0)), (1, .int (nI j2))]) (by decide) rfl (Nat.le_of_ble_eq_true rfl) rfl ?_
    intro p e s m below meth c ls hx hb hr hml hown hts hlocks hP hK hS hl
    have hi4 : ∀ w ∈ wsX40, w ∈ wsX4_token := by decide +kernel
    refine lv_iload_n hx hb dX4_token_0 rfl (lv_at hl 1 rfl) ?_
    refine wd_ci (O := (mdO G)) hS (va_runS (As := [.int (nI j2)]) (rest := []) ⟨hx, hb, hml, hown, hts⟩ (c_X4_isLock (G := G) hj s.heap.size (nI j2) ) (va_cwS 1 hts gX4_token_X4_isLock rfl rfl rfl (by decide +kernel) ⟨Nat.le_of_ble_eq_true rfl, Nat.le_of_ble_eq_true rfl⟩) (wd_preS hK hP) rfl rfl hl.1 rfl (lv_room (Nat.le_of_ble_eq_true rfl)) dX4_token_1 ⟨Nat.le_of_ble_eq_true rfl, Nat.le_of_ble_eq_true rfl⟩) (fun H locs hP hS => ?_)
    refine wd_re (y := 1) (by rw [hd]; rfl) ?_
    refine lv_if_eq (tgt := 16) hx hb dX4_token_4 (by decide) (fun c2 => absurd c2 (by decide)) (fun c2 => ?_)
    refine lv_aload_n hx hb dX4_token_7 rfl (lv_at hl 0 rfl) ?_
    refine wd_get (O := (mdO G)) (v := .ref (wa (mdO G) 6)) hx hb hts hi4 hown hK hP (md_lt (by omega)) mE_0 rfl 8 (by decide) (hts (.fieldLink RX4 26 "LeaseDeskModel" "tokens" "[I") (by decide +kernel)) (fun _ h9 => h9) rfl dX4_token_8 ?_
    refine lv_iload_n hx hb dX4_token_11 rfl (lv_at hl 1 rfl) ?_
    refine wd_iald (O := (mdO G)) hx hb hK hP (md_lt (by omega)) 0 (mE_6 _) rfl (i := j2) rfl (by omega) (by decide) dX4_token_12 ?_
    refine lv_goto (tgt := 17) hx hb dX4_token_13 (by decide) ?_
    exact wd_iret (O := (mdO G)) hx hb hr hlocks hK hP hS rfl dX4_token_17 (by simp only [mkcV, hd]) (rfl)
set_option maxRecDepth 100000 in
set_option maxHeartbeats 4000000 in
theorem c_X4_stored {l : Launch} {G : MG} (hj : wj (mdO G)) {M : Mem} (sz : Nat) (x  : Int32) : Met l yX4_stored wsX4_stored ({ frames := 1, cells := 0, slots := 0, locals := 20 }) (va_Pc [.ref (wa (mdO G) 0), .int x] (wp (mdO G) sz M)) (wQi (mdO G) sz (mkcV M x 0 13) (M)) 0 0 (wA (mdO G) sz) := by
  rcases op_cases (dN x 4) with hd | ⟨j2, hd⟩
  · refine wd_ofW (O := (mdO G)) (M := M) (Qc := fun z => wQi (mdO G) z (mkcV M x 0 13) (M)) (cc := cX4_stored) (maxL := 2) (ret := (some .int)) (lv := [(0, .ref (wa (mdO G) 0)), (1, .int x)]) (by decide) rfl (Nat.le_of_ble_eq_true rfl) rfl ?_
    intro p e s m below meth c ls hx hb hr hml hown hts hlocks hP hK hS hl
    have hi4 : ∀ w ∈ wsX40, w ∈ wsX4_stored := by decide +kernel
    refine lv_iload_n hx hb dX4_stored_0 rfl (lv_at hl 1 rfl) ?_
    refine wd_ci (O := (mdO G)) hS (va_runS (As := [.int x]) (rest := []) ⟨hx, hb, hml, hown, hts⟩ (c_X4_isLock (G := G) hj s.heap.size x ) (va_cwS 1 hts gX4_stored_X4_isLock rfl rfl rfl (by decide +kernel) ⟨Nat.le_of_ble_eq_true rfl, Nat.le_of_ble_eq_true rfl⟩) (wd_preS hK hP) rfl rfl hl.1 rfl (lv_room (Nat.le_of_ble_eq_true rfl)) dX4_stored_1 ⟨Nat.le_of_ble_eq_true rfl, Nat.le_of_ble_eq_true rfl⟩) (fun H locs hP hS => ?_)
    refine wd_re (y := 0) (by rw [hd]; rfl) ?_
    refine lv_if_eq (tgt := 16) hx hb dX4_stored_4 (by decide) (fun c1 => ?_) (fun c1 => absurd rfl c1)
    refine lv_iconst (v := 0) hx hb dX4_stored_16 (by decide) ?_
    exact wd_iret (O := (mdO G)) hx hb hr hlocks hK hP hS rfl dX4_stored_17 (by simp only [mkcV, hd]) (rfl)
  · obtain ⟨hj2, rfl⟩ := dN_some (by decide) hd
    refine wd_ofW (O := (mdO G)) (M := M) (Qc := fun z => wQi (mdO G) z (mkcV M (nI j2) 0 13) (M)) (cc := cX4_stored) (maxL := 2) (ret := (some .int)) (lv := [(0, .ref (wa (mdO G) 0)), (1, .int (nI j2))]) (by decide) rfl (Nat.le_of_ble_eq_true rfl) rfl ?_
    intro p e s m below meth c ls hx hb hr hml hown hts hlocks hP hK hS hl
    have hi4 : ∀ w ∈ wsX40, w ∈ wsX4_stored := by decide +kernel
    refine lv_iload_n hx hb dX4_stored_0 rfl (lv_at hl 1 rfl) ?_
    refine wd_ci (O := (mdO G)) hS (va_runS (As := [.int (nI j2)]) (rest := []) ⟨hx, hb, hml, hown, hts⟩ (c_X4_isLock (G := G) hj s.heap.size (nI j2) ) (va_cwS 1 hts gX4_stored_X4_isLock rfl rfl rfl (by decide +kernel) ⟨Nat.le_of_ble_eq_true rfl, Nat.le_of_ble_eq_true rfl⟩) (wd_preS hK hP) rfl rfl hl.1 rfl (lv_room (Nat.le_of_ble_eq_true rfl)) dX4_stored_1 ⟨Nat.le_of_ble_eq_true rfl, Nat.le_of_ble_eq_true rfl⟩) (fun H locs hP hS => ?_)
    refine wd_re (y := 1) (by rw [hd]; rfl) ?_
    refine lv_if_eq (tgt := 16) hx hb dX4_stored_4 (by decide) (fun c2 => absurd c2 (by decide)) (fun c2 => ?_)
    refine lv_aload_n hx hb dX4_stored_7 rfl (lv_at hl 0 rfl) ?_
    refine wd_get (O := (mdO G)) (v := .ref (wa (mdO G) 13)) hx hb hts hi4 hown hK hP (md_lt (by omega)) mE_0 rfl 15 (by decide) (hts (.fieldLink RX4 47 "LeaseDeskModel" "values" "[I") (by decide +kernel)) (fun _ h9 => h9) rfl dX4_stored_8 ?_
    refine lv_iload_n hx hb dX4_stored_11 rfl (lv_at hl 1 rfl) ?_
    refine wd_iald (O := (mdO G)) hx hb hK hP (md_lt (by omega)) 0 (mE_13 _) rfl (i := j2) rfl (by omega) (by decide) dX4_stored_12 ?_
    refine lv_goto (tgt := 17) hx hb dX4_stored_13 (by decide) ?_
    exact wd_iret (O := (mdO G)) hx hb hr hlocks hK hP hS rfl dX4_stored_17 (by simp only [mkcV, hd]) (rfl)
set_option maxRecDepth 100000 in
set_option maxHeartbeats 4000000 in
theorem c_X4_seen {l : Launch} {G : MG} (hj : wj (mdO G)) {M : Mem} (sz : Nat) (x  : Int32) : Met l yX4_seen wsX4_seen ({ frames := 1, cells := 0, slots := 0, locals := 20 }) (va_Pc [.ref (wa (mdO G) 0), .int x] (wp (mdO G) sz M)) (wQi (mdO G) sz (mkcV M x (-1) 12) (M)) 0 0 (wA (mdO G) sz) := by
  rcases op_cases (dN x 4) with hd | ⟨j2, hd⟩
  · refine wd_ofW (O := (mdO G)) (M := M) (Qc := fun z => wQi (mdO G) z (mkcV M x (-1) 12) (M)) (cc := cX4_seen) (maxL := 2) (ret := (some .int)) (lv := [(0, .ref (wa (mdO G) 0)), (1, .int x)]) (by decide) rfl (Nat.le_of_ble_eq_true rfl) rfl ?_
    intro p e s m below meth c ls hx hb hr hml hown hts hlocks hP hK hS hl
    have hi4 : ∀ w ∈ wsX40, w ∈ wsX4_seen := by decide +kernel
    refine lv_iload_n hx hb dX4_seen_0 rfl (lv_at hl 1 rfl) ?_
    refine wd_ci (O := (mdO G)) hS (va_runS (As := [.int x]) (rest := []) ⟨hx, hb, hml, hown, hts⟩ (c_X4_isLock (G := G) hj s.heap.size x ) (va_cwS 1 hts gX4_seen_X4_isLock rfl rfl rfl (by decide +kernel) ⟨Nat.le_of_ble_eq_true rfl, Nat.le_of_ble_eq_true rfl⟩) (wd_preS hK hP) rfl rfl hl.1 rfl (lv_room (Nat.le_of_ble_eq_true rfl)) dX4_seen_1 ⟨Nat.le_of_ble_eq_true rfl, Nat.le_of_ble_eq_true rfl⟩) (fun H locs hP hS => ?_)
    refine wd_re (y := 0) (by rw [hd]; rfl) ?_
    refine lv_if_eq (tgt := 16) hx hb dX4_seen_4 (by decide) (fun c1 => ?_) (fun c1 => absurd rfl c1)
    refine lv_iconst (v := (-1)) hx hb dX4_seen_16 (by decide) ?_
    exact wd_iret (O := (mdO G)) hx hb hr hlocks hK hP hS rfl dX4_seen_17 (by simp only [mkcV, hd]) (rfl)
  · obtain ⟨hj2, rfl⟩ := dN_some (by decide) hd
    refine wd_ofW (O := (mdO G)) (M := M) (Qc := fun z => wQi (mdO G) z (mkcV M (nI j2) (-1) 12) (M)) (cc := cX4_seen) (maxL := 2) (ret := (some .int)) (lv := [(0, .ref (wa (mdO G) 0)), (1, .int (nI j2))]) (by decide) rfl (Nat.le_of_ble_eq_true rfl) rfl ?_
    intro p e s m below meth c ls hx hb hr hml hown hts hlocks hP hK hS hl
    have hi4 : ∀ w ∈ wsX40, w ∈ wsX4_seen := by decide +kernel
    refine lv_iload_n hx hb dX4_seen_0 rfl (lv_at hl 1 rfl) ?_
    refine wd_ci (O := (mdO G)) hS (va_runS (As := [.int (nI j2)]) (rest := []) ⟨hx, hb, hml, hown, hts⟩ (c_X4_isLock (G := G) hj s.heap.size (nI j2) ) (va_cwS 1 hts gX4_seen_X4_isLock rfl rfl rfl (by decide +kernel) ⟨Nat.le_of_ble_eq_true rfl, Nat.le_of_ble_eq_true rfl⟩) (wd_preS hK hP) rfl rfl hl.1 rfl (lv_room (Nat.le_of_ble_eq_true rfl)) dX4_seen_1 ⟨Nat.le_of_ble_eq_true rfl, Nat.le_of_ble_eq_true rfl⟩) (fun H locs hP hS => ?_)
    refine wd_re (y := 1) (by rw [hd]; rfl) ?_
    refine lv_if_eq (tgt := 16) hx hb dX4_seen_4 (by decide) (fun c2 => absurd c2 (by decide)) (fun c2 => ?_)
    refine lv_aload_n hx hb dX4_seen_7 rfl (lv_at hl 0 rfl) ?_
    refine wd_get (O := (mdO G)) (v := .ref (wa (mdO G) 12)) hx hb hts hi4 hown hK hP (md_lt (by omega)) mE_0 rfl 14 (by decide) (hts (.fieldLink RX4 44 "LeaseDeskModel" "greatest" "[I") (by decide +kernel)) (fun _ h9 => h9) rfl dX4_seen_8 ?_
    refine lv_iload_n hx hb dX4_seen_11 rfl (lv_at hl 1 rfl) ?_
    refine wd_iald (O := (mdO G)) hx hb hK hP (md_lt (by omega)) 0 (mE_12 _) rfl (i := j2) rfl (by omega) (by decide) dX4_seen_12 ?_
    refine lv_goto (tgt := 17) hx hb dX4_seen_13 (by decide) ?_
    exact wd_iret (O := (mdO G)) hx hb hr hlocks hK hP hS rfl dX4_seen_17 (by simp only [mkcV, hd]) (rfl)
set_option maxRecDepth 100000 in
set_option maxHeartbeats 4000000 in
theorem c_X4_until {l : Launch} {G : MG} (hj : wj (mdO G)) {M : Mem} (sz : Nat) (x  : Int32) : Met l yX4_until wsX4_until ({ frames := 1, cells := 0, slots := 0, locals := 20 }) (va_Pc [.ref (wa (mdO G) 0), .int x] (wp (mdO G) sz M)) (wQi (mdO G) sz (mutV M x) (M)) 0 0 (wA (mdO G) sz) := by
  rcases op_cases (dN x 4) with hd | ⟨j2, hd⟩
  · refine wd_ofW (O := (mdO G)) (M := M) (Qc := fun z => wQi (mdO G) z (mutV M x) (M)) (cc := cX4_until) (maxL := 2) (ret := (some .int)) (lv := [(0, .ref (wa (mdO G) 0)), (1, .int x)]) (by decide) rfl (Nat.le_of_ble_eq_true rfl) rfl ?_
    intro p e s m below meth c ls hx hb hr hml hown hts hlocks hP hK hS hl
    have hi4 : ∀ w ∈ wsX40, w ∈ wsX4_until := by decide +kernel
    refine lv_iload_n hx hb dX4_until_0 rfl (lv_at hl 1 rfl) ?_
    refine wd_ci (O := (mdO G)) hS (va_runS (As := [.int x]) (rest := []) ⟨hx, hb, hml, hown, hts⟩ (c_X4_isLock (G := G) hj s.heap.size x ) (va_cwS 1 hts gX4_until_X4_isLock rfl rfl rfl (by decide +kernel) ⟨Nat.le_of_ble_eq_true rfl, Nat.le_of_ble_eq_true rfl⟩) (wd_preS hK hP) rfl rfl hl.1 rfl (lv_room (Nat.le_of_ble_eq_true rfl)) dX4_until_1 ⟨Nat.le_of_ble_eq_true rfl, Nat.le_of_ble_eq_true rfl⟩) (fun H locs hP hS => ?_)
    refine wd_re (y := 0) (by rw [hd]; rfl) ?_
    refine lv_if_eq (tgt := 25) hx hb dX4_until_4 (by decide) (fun c1 => ?_) (fun c1 => absurd rfl c1)
    refine lv_iconst (v := (-1)) hx hb dX4_until_25 (by decide) ?_
    exact wd_iret (O := (mdO G)) hx hb hr hlocks hK hP hS rfl dX4_until_26 (by simp only [mutV, hd]) (rfl)
  · obtain ⟨hj2, rfl⟩ := dN_some (by decide) hd
    refine wd_ofW (O := (mdO G)) (M := M) (Qc := fun z => wQi (mdO G) z (mutV M (nI j2)) (M)) (cc := cX4_until) (maxL := 2) (ret := (some .int)) (lv := [(0, .ref (wa (mdO G) 0)), (1, .int (nI j2))]) (by decide) rfl (Nat.le_of_ble_eq_true rfl) rfl ?_
    intro p e s m below meth c ls hx hb hr hml hown hts hlocks hP hK hS hl
    have hi4 : ∀ w ∈ wsX40, w ∈ wsX4_until := by decide +kernel
    refine lv_iload_n hx hb dX4_until_0 rfl (lv_at hl 1 rfl) ?_
    refine wd_ci (O := (mdO G)) hS (va_runS (As := [.int (nI j2)]) (rest := []) ⟨hx, hb, hml, hown, hts⟩ (c_X4_isLock (G := G) hj s.heap.size (nI j2) ) (va_cwS 1 hts gX4_until_X4_isLock rfl rfl rfl (by decide +kernel) ⟨Nat.le_of_ble_eq_true rfl, Nat.le_of_ble_eq_true rfl⟩) (wd_preS hK hP) rfl rfl hl.1 rfl (lv_room (Nat.le_of_ble_eq_true rfl)) dX4_until_1 ⟨Nat.le_of_ble_eq_true rfl, Nat.le_of_ble_eq_true rfl⟩) (fun H locs hP hS => ?_)
    refine wd_re (y := 1) (by rw [hd]; rfl) ?_
    refine lv_if_eq (tgt := 25) hx hb dX4_until_4 (by decide) (fun c2 => absurd c2 (by decide)) (fun c2 => ?_)
    refine lv_aload_n hx hb dX4_until_7 rfl (lv_at hl 0 rfl) ?_
    refine wd_get (O := (mdO G)) (v := .ref (wa (mdO G) 5)) hx hb hts hi4 hown hK hP (md_lt (by omega)) mE_0 rfl 7 (by decide) (hts (.fieldLink RX4 23 "LeaseDeskModel" "has" "[I") (by decide +kernel)) (fun _ h9 => h9) rfl dX4_until_8 ?_
    refine lv_iload_n hx hb dX4_until_11 rfl (lv_at hl 1 rfl) ?_
    refine wd_iald (O := (mdO G)) hx hb hK hP (md_lt (by omega)) 0 (mE_5 _) rfl (i := j2) rfl (by omega) (by decide) dX4_until_12 ?_
    refine lv_if_le (tgt := 25) hx hb dX4_until_13 (by decide) (fun c3 => ?_) (fun c3 => ?_)
    · refine lv_iconst (v := (-1)) hx hb dX4_until_25 (by decide) ?_
      exact wd_iret (O := (mdO G)) hx hb hr hlocks hK hP hS rfl dX4_until_26 (by simp only [mutV, hd, if_pos c3]) (rfl)
    · refine lv_aload_n hx hb dX4_until_16 rfl (lv_at hl 0 rfl) ?_
      refine wd_get (O := (mdO G)) (v := .ref (wa (mdO G) 7)) hx hb hts hi4 hown hK hP (md_lt (by omega)) mE_0 rfl 9 (by decide) (hts (.fieldLink RX4 29 "LeaseDeskModel" "ends" "[I") (by decide +kernel)) (fun _ h9 => h9) rfl dX4_until_17 ?_
      refine lv_iload_n hx hb dX4_until_20 rfl (lv_at hl 1 rfl) ?_
      refine wd_iald (O := (mdO G)) hx hb hK hP (md_lt (by omega)) 0 (mE_7 _) rfl (i := j2) rfl (by omega) (by decide) dX4_until_21 ?_
      refine lv_goto (tgt := 26) hx hb dX4_until_22 (by decide) ?_
      exact wd_iret (O := (mdO G)) hx hb hr hlocks hK hP hS rfl dX4_until_26 (by simp only [mutV, hd, if_neg c3]) (rfl)
set_option maxRecDepth 100000 in
set_option maxHeartbeats 4000000 in
theorem c_X4_waiter {l : Launch} {G : MG} (hj : wj (mdO G)) {M : Mem} (sz : Nat) (x k : Int32) : Met l yX4_waiter wsX4_waiter ({ frames := 1, cells := 0, slots := 0, locals := 26 }) (va_Pc [.ref (wa (mdO G) 0), .int x, .int k] (wp (mdO G) sz M)) (wQi (mdO G) sz (mwtV M x k) (M)) 0 0 (wA (mdO G) sz) := by
  rcases op_cases (dN x 4) with hd | ⟨j2, hd⟩
  · refine wd_ofW (O := (mdO G)) (M := M) (Qc := fun z => wQi (mdO G) z (mwtV M x k) (M)) (cc := cX4_waiter) (maxL := 3) (ret := (some .int)) (lv := [(0, .ref (wa (mdO G) 0)), (1, .int x), (2, .int k)]) (by decide) rfl (Nat.le_of_ble_eq_true rfl) rfl ?_
    intro p e s m below meth c ls hx hb hr hml hown hts hlocks hP hK hS hl
    refine lv_iload_n hx hb dX4_waiter_0 rfl (lv_at hl 1 rfl) ?_
    refine wd_ci (O := (mdO G)) hS (va_runS (As := [.int x]) (rest := []) ⟨hx, hb, hml, hown, hts⟩ (c_X4_isLock (G := G) hj s.heap.size x ) (va_cwS 1 hts gX4_waiter_X4_isLock rfl rfl rfl (by decide +kernel) ⟨Nat.le_of_ble_eq_true rfl, Nat.le_of_ble_eq_true rfl⟩) (wd_preS hK hP) rfl rfl hl.1 rfl (lv_room (Nat.le_of_ble_eq_true rfl)) dX4_waiter_1 ⟨Nat.le_of_ble_eq_true rfl, Nat.le_of_ble_eq_true rfl⟩) (fun H locs hP hS => ?_)
    refine wd_re (y := 0) (by rw [hd]; rfl) ?_
    refine lv_if_eq (tgt := 16) hx hb dX4_waiter_4 (by decide) (fun c1 => ?_) (fun c1 => absurd rfl c1)
    refine lv_iconst (v := (-1)) hx hb dX4_waiter_16 (by decide) ?_
    exact wd_iret (O := (mdO G)) hx hb hr hlocks hK hP hS rfl dX4_waiter_17 (by simp only [mwtV, hd]) (rfl)
  · obtain ⟨hj2, rfl⟩ := dN_some (by decide) hd
    refine wd_ofW (O := (mdO G)) (M := M) (Qc := fun z => wQi (mdO G) z (mwtV M (nI j2) k) (M)) (cc := cX4_waiter) (maxL := 3) (ret := (some .int)) (lv := [(0, .ref (wa (mdO G) 0)), (1, .int (nI j2)), (2, .int k)]) (by decide) rfl (Nat.le_of_ble_eq_true rfl) rfl ?_
    intro p e s m below meth c ls hx hb hr hml hown hts hlocks hP hK hS hl
    refine lv_iload_n hx hb dX4_waiter_0 rfl (lv_at hl 1 rfl) ?_
    refine wd_ci (O := (mdO G)) hS (va_runS (As := [.int (nI j2)]) (rest := []) ⟨hx, hb, hml, hown, hts⟩ (c_X4_isLock (G := G) hj s.heap.size (nI j2) ) (va_cwS 1 hts gX4_waiter_X4_isLock rfl rfl rfl (by decide +kernel) ⟨Nat.le_of_ble_eq_true rfl, Nat.le_of_ble_eq_true rfl⟩) (wd_preS hK hP) rfl rfl hl.1 rfl (lv_room (Nat.le_of_ble_eq_true rfl)) dX4_waiter_1 ⟨Nat.le_of_ble_eq_true rfl, Nat.le_of_ble_eq_true rfl⟩) (fun H locs hP hS => ?_)
    refine wd_re (y := 1) (by rw [hd]; rfl) ?_
    refine lv_if_eq (tgt := 16) hx hb dX4_waiter_4 (by decide) (fun c2 => absurd c2 (by decide)) (fun c2 => ?_)
    refine lv_aload_n hx hb dX4_waiter_7 rfl (lv_at hl 0 rfl) ?_
    refine lv_iload_n hx hb dX4_waiter_8 rfl (lv_at hl 1 rfl) ?_
    refine lv_iload_n hx hb dX4_waiter_9 rfl (lv_at hl 2 rfl) ?_
    refine wd_ci (O := (mdO G)) hS (va_runV (As := [.int (nI j2), .int k]) (rest := []) ⟨hx, hb, hml, hown, hts⟩ (c_X4_inRow (G := G) hj H.size j2 k (by omega)) (cwV 2 hts gX4_waiter_X4_inRow rfl rfl rfl (by decide +kernel) ⟨Nat.le_of_ble_eq_true rfl, Nat.le_of_ble_eq_true rfl⟩) (wd_pre hK hP (md_lt (by omega)) mE_0 rfl) rfl rfl hl.1 rfl (lv_room (Nat.le_of_ble_eq_true rfl)) dX4_waiter_10 ⟨Nat.le_of_ble_eq_true rfl, Nat.le_of_ble_eq_true rfl⟩) (fun H locs hP hS => ?_)
    refine lv_goto (tgt := 17) hx hb dX4_waiter_13 (by decide) ?_
    exact wd_iret (O := (mdO G)) hx hb hr hlocks hK hP hS rfl dX4_waiter_17 (by simp only [mwtV, hd]) (rfl)
set_option maxRecDepth 100000 in
set_option maxHeartbeats 4000000 in
theorem c_X4_clock {l : Launch} {G : MG} (hj : wj (mdO G)) {M : Mem} (sz : Nat) (x : Int32) : Met l yX4_clock wsX4_clock ({ frames := 1, cells := 0, slots := 0, locals := 21 }) (va_Pc [.ref (wa (mdO G) 0), .int x] (wp (mdO G) sz M)) (wQi (mdO G) sz (mckV M x) (M)) 0 0 (wA (mdO G) sz) := by
  rcases op_cases (moV M x) with ho | ⟨j1, ho⟩
  · refine wd_ofW (O := (mdO G)) (M := M) (Qc := fun z => wQi (mdO G) z (mckV M x) (M)) (cc := cX4_clock) (maxL := 2) (ret := (some .int)) (lv := [(0, .ref (wa (mdO G) 0)), (1, .int x)]) (by decide) rfl (Nat.le_of_ble_eq_true rfl) rfl ?_
    intro p e s m below meth c ls hx hb hr hml hown hts hlocks hP hK hS hl
    have hi4 : ∀ w ∈ wsX40, w ∈ wsX4_clock := by decide +kernel
    refine lv_aload_n hx hb dX4_clock_0 rfl (lv_at hl 0 rfl) ?_
    refine lv_iload_n hx hb dX4_clock_1 rfl (lv_at hl 1 rfl) ?_
    refine wd_ci (O := (mdO G)) hS (va_runV (As := [.int x]) (rest := []) ⟨hx, hb, hml, hown, hts⟩ (c_X4_isOpen (G := G) hj s.heap.size x ) (cwV 1 hts gX4_clock_X4_isOpen rfl rfl rfl (by decide +kernel) ⟨Nat.le_of_ble_eq_true rfl, Nat.le_of_ble_eq_true rfl⟩) (wd_pre hK hP (md_lt (by omega)) mE_0 rfl) rfl rfl hl.1 rfl (lv_room (Nat.le_of_ble_eq_true rfl)) dX4_clock_2 ⟨Nat.le_of_ble_eq_true rfl, Nat.le_of_ble_eq_true rfl⟩) (fun H locs hP hS => ?_)
    refine wd_re (y := 0) (by rw [ho]; rfl) ?_
    refine lv_if_eq (tgt := 17) hx hb dX4_clock_5 (by decide) (fun c1 => ?_) (fun c1 => absurd rfl c1)
    refine lv_iconst (v := (-1)) hx hb dX4_clock_17 (by decide) ?_
    exact wd_iret (O := (mdO G)) hx hb hr hlocks hK hP hS rfl dX4_clock_18 (by simp only [mckV, ho]) (rfl)
  · obtain ⟨hj1, rfl, hon⟩ := moV_some ho
    refine wd_ofW (O := (mdO G)) (M := M) (Qc := fun z => wQi (mdO G) z (mckV M (nI j1)) (M)) (cc := cX4_clock) (maxL := 2) (ret := (some .int)) (lv := [(0, .ref (wa (mdO G) 0)), (1, .int (nI j1))]) (by decide) rfl (Nat.le_of_ble_eq_true rfl) rfl ?_
    intro p e s m below meth c ls hx hb hr hml hown hts hlocks hP hK hS hl
    have hi4 : ∀ w ∈ wsX40, w ∈ wsX4_clock := by decide +kernel
    refine lv_aload_n hx hb dX4_clock_0 rfl (lv_at hl 0 rfl) ?_
    refine lv_iload_n hx hb dX4_clock_1 rfl (lv_at hl 1 rfl) ?_
    refine wd_ci (O := (mdO G)) hS (va_runV (As := [.int (nI j1)]) (rest := []) ⟨hx, hb, hml, hown, hts⟩ (c_X4_isOpen (G := G) hj s.heap.size (nI j1) ) (cwV 1 hts gX4_clock_X4_isOpen rfl rfl rfl (by decide +kernel) ⟨Nat.le_of_ble_eq_true rfl, Nat.le_of_ble_eq_true rfl⟩) (wd_pre hK hP (md_lt (by omega)) mE_0 rfl) rfl rfl hl.1 rfl (lv_room (Nat.le_of_ble_eq_true rfl)) dX4_clock_2 ⟨Nat.le_of_ble_eq_true rfl, Nat.le_of_ble_eq_true rfl⟩) (fun H locs hP hS => ?_)
    refine wd_re (y := 1) (by rw [ho]; rfl) ?_
    refine lv_if_eq (tgt := 17) hx hb dX4_clock_5 (by decide) (fun c2 => absurd c2 (by decide)) (fun c2 => ?_)
    refine lv_aload_n hx hb dX4_clock_8 rfl (lv_at hl 0 rfl) ?_
    refine wd_get (O := (mdO G)) (v := .ref (wa (mdO G) 4)) hx hb hts hi4 hown hK hP (md_lt (by omega)) mE_0 rfl 6 (by decide) (hts (.fieldLink RX4 20 "LeaseDeskModel" "clocks" "[I") (by decide +kernel)) (fun _ h9 => h9) rfl dX4_clock_9 ?_
    refine lv_iload_n hx hb dX4_clock_12 rfl (lv_at hl 1 rfl) ?_
    refine wd_iald (O := (mdO G)) hx hb hK hP (md_lt (by omega)) 0 (mE_4 _) rfl (i := j1) rfl (by omega) (by decide) dX4_clock_13 ?_
    refine lv_goto (tgt := 18) hx hb dX4_clock_14 (by decide) ?_
    exact wd_iret (O := (mdO G)) hx hb hr hlocks hK hP hS rfl dX4_clock_18 (by simp only [mckV, ho]) (rfl)
set_option maxRecDepth 100000 in
set_option maxHeartbeats 4000000 in
theorem c_X4_believes {l : Launch} {G : MG} (hj : wj (mdO G)) {M : Mem} (sz : Nat) (x y : Int32) : Met l yX4_believes wsX4_believes ({ frames := 1, cells := 0, slots := 0, locals := 21 }) (va_Pc [.ref (wa (mdO G) 0), .int x, .int y] (wp (mdO G) sz M)) (wQi (mdO G) sz (mblV M x y) (M)) 0 0 (wA (mdO G) sz) := by
  rcases op_cases (moV M x) with ho | ⟨j1, ho⟩
  · refine wd_ofW (O := (mdO G)) (M := M) (Qc := fun z => wQi (mdO G) z (mblV M x y) (M)) (cc := cX4_believes) (maxL := 3) (ret := (some .boolean)) (lv := [(0, .ref (wa (mdO G) 0)), (1, .int x), (2, .int y)]) (by decide) rfl (Nat.le_of_ble_eq_true rfl) rfl ?_
    intro p e s m below meth c ls hx hb hr hml hown hts hlocks hP hK hS hl
    have hi4 : ∀ w ∈ wsX40, w ∈ wsX4_believes := by decide +kernel
    refine lv_aload_n hx hb dX4_believes_0 rfl (lv_at hl 0 rfl) ?_
    refine lv_iload_n hx hb dX4_believes_1 rfl (lv_at hl 1 rfl) ?_
    refine wd_ci (O := (mdO G)) hS (va_runV (As := [.int x]) (rest := []) ⟨hx, hb, hml, hown, hts⟩ (c_X4_isOpen (G := G) hj s.heap.size x ) (cwV 1 hts gX4_believes_X4_isOpen rfl rfl rfl (by decide +kernel) ⟨Nat.le_of_ble_eq_true rfl, Nat.le_of_ble_eq_true rfl⟩) (wd_pre hK hP (md_lt (by omega)) mE_0 rfl) rfl rfl hl.1 rfl (lv_room (Nat.le_of_ble_eq_true rfl)) dX4_believes_2 ⟨Nat.le_of_ble_eq_true rfl, Nat.le_of_ble_eq_true rfl⟩) (fun H locs hP hS => ?_)
    refine wd_re (y := 0) (by rw [ho]; rfl) ?_
    refine lv_if_eq (tgt := 56) hx hb dX4_believes_5 (by decide) (fun c1 => ?_) (fun c1 => absurd rfl c1)
    refine lv_iconst (v := 0) hx hb dX4_believes_56 (by decide) ?_
    exact wd_iret (O := (mdO G)) hx hb hr hlocks hK hP hS (by decide) dX4_believes_57 (by simp only [mblV, ho]) (rfl)
  · obtain ⟨hj1, rfl, hon⟩ := moV_some ho
    rcases op_cases (dN y 4) with hd | ⟨j2, hd⟩
    · refine wd_ofW (O := (mdO G)) (M := M) (Qc := fun z => wQi (mdO G) z (mblV M (nI j1) y) (M)) (cc := cX4_believes) (maxL := 3) (ret := (some .boolean)) (lv := [(0, .ref (wa (mdO G) 0)), (1, .int (nI j1)), (2, .int y)]) (by decide) rfl (Nat.le_of_ble_eq_true rfl) rfl ?_
      intro p e s m below meth c ls hx hb hr hml hown hts hlocks hP hK hS hl
      have hi4 : ∀ w ∈ wsX40, w ∈ wsX4_believes := by decide +kernel
      refine lv_aload_n hx hb dX4_believes_0 rfl (lv_at hl 0 rfl) ?_
      refine lv_iload_n hx hb dX4_believes_1 rfl (lv_at hl 1 rfl) ?_
      refine wd_ci (O := (mdO G)) hS (va_runV (As := [.int (nI j1)]) (rest := []) ⟨hx, hb, hml, hown, hts⟩ (c_X4_isOpen (G := G) hj s.heap.size (nI j1) ) (cwV 1 hts gX4_believes_X4_isOpen rfl rfl rfl (by decide +kernel) ⟨Nat.le_of_ble_eq_true rfl, Nat.le_of_ble_eq_true rfl⟩) (wd_pre hK hP (md_lt (by omega)) mE_0 rfl) rfl rfl hl.1 rfl (lv_room (Nat.le_of_ble_eq_true rfl)) dX4_believes_2 ⟨Nat.le_of_ble_eq_true rfl, Nat.le_of_ble_eq_true rfl⟩) (fun H locs hP hS => ?_)
      refine wd_re (y := 1) (by rw [ho]; rfl) ?_
      refine lv_if_eq (tgt := 56) hx hb dX4_believes_5 (by decide) (fun c2 => absurd c2 (by decide)) (fun c2 => ?_)
      refine lv_iload_n hx hb dX4_believes_8 rfl (lv_at hl 2 rfl) ?_
      refine wd_ci (O := (mdO G)) hS (va_runS (As := [.int y]) (rest := []) ⟨hx, hb, hml, hown, hts⟩ (c_X4_isLock (G := G) hj H.size y ) (va_cwS 1 hts gX4_believes_X4_isLock rfl rfl rfl (by decide +kernel) ⟨Nat.le_of_ble_eq_true rfl, Nat.le_of_ble_eq_true rfl⟩) (wd_preS hK hP) rfl rfl hl.1 rfl (lv_room (Nat.le_of_ble_eq_true rfl)) dX4_believes_9 ⟨Nat.le_of_ble_eq_true rfl, Nat.le_of_ble_eq_true rfl⟩) (fun H locs hP hS => ?_)
      refine wd_re (y := 0) (by rw [hd]; rfl) ?_
      refine lv_if_eq (tgt := 56) hx hb dX4_believes_12 (by decide) (fun c3 => ?_) (fun c3 => absurd rfl c3)
      refine lv_iconst (v := 0) hx hb dX4_believes_56 (by decide) ?_
      exact wd_iret (O := (mdO G)) hx hb hr hlocks hK hP hS (by decide) dX4_believes_57 (by simp only [mblV, ho, hd]) (rfl)
    · obtain ⟨hj2, rfl⟩ := dN_some (by decide) hd
      refine wd_ofW (O := (mdO G)) (M := M) (Qc := fun z => wQi (mdO G) z (mblV M (nI j1) (nI j2)) (M)) (cc := cX4_believes) (maxL := 3) (ret := (some .boolean)) (lv := [(0, .ref (wa (mdO G) 0)), (1, .int (nI j1)), (2, .int (nI j2))]) (by decide) rfl (Nat.le_of_ble_eq_true rfl) rfl ?_
      intro p e s m below meth c ls hx hb hr hml hown hts hlocks hP hK hS hl
      have hi4 : ∀ w ∈ wsX40, w ∈ wsX4_believes := by decide +kernel
      refine lv_aload_n hx hb dX4_believes_0 rfl (lv_at hl 0 rfl) ?_
      refine lv_iload_n hx hb dX4_believes_1 rfl (lv_at hl 1 rfl) ?_
      refine wd_ci (O := (mdO G)) hS (va_runV (As := [.int (nI j1)]) (rest := []) ⟨hx, hb, hml, hown, hts⟩ (c_X4_isOpen (G := G) hj s.heap.size (nI j1) ) (cwV 1 hts gX4_believes_X4_isOpen rfl rfl rfl (by decide +kernel) ⟨Nat.le_of_ble_eq_true rfl, Nat.le_of_ble_eq_true rfl⟩) (wd_pre hK hP (md_lt (by omega)) mE_0 rfl) rfl rfl hl.1 rfl (lv_room (Nat.le_of_ble_eq_true rfl)) dX4_believes_2 ⟨Nat.le_of_ble_eq_true rfl, Nat.le_of_ble_eq_true rfl⟩) (fun H locs hP hS => ?_)
      refine wd_re (y := 1) (by rw [ho]; rfl) ?_
      refine lv_if_eq (tgt := 56) hx hb dX4_believes_5 (by decide) (fun c4 => absurd c4 (by decide)) (fun c4 => ?_)
      refine lv_iload_n hx hb dX4_believes_8 rfl (lv_at hl 2 rfl) ?_
      refine wd_ci (O := (mdO G)) hS (va_runS (As := [.int (nI j2)]) (rest := []) ⟨hx, hb, hml, hown, hts⟩ (c_X4_isLock (G := G) hj H.size (nI j2) ) (va_cwS 1 hts gX4_believes_X4_isLock rfl rfl rfl (by decide +kernel) ⟨Nat.le_of_ble_eq_true rfl, Nat.le_of_ble_eq_true rfl⟩) (wd_preS hK hP) rfl rfl hl.1 rfl (lv_room (Nat.le_of_ble_eq_true rfl)) dX4_believes_9 ⟨Nat.le_of_ble_eq_true rfl, Nat.le_of_ble_eq_true rfl⟩) (fun H locs hP hS => ?_)
      refine wd_re (y := 1) (by rw [hd]; rfl) ?_
      refine lv_if_eq (tgt := 56) hx hb dX4_believes_12 (by decide) (fun c5 => absurd c5 (by decide)) (fun c5 => ?_)
      refine lv_aload_n hx hb dX4_believes_15 rfl (lv_at hl 0 rfl) ?_
      refine wd_get (O := (mdO G)) (v := .ref (wa (mdO G) 5)) hx hb hts hi4 hown hK hP (md_lt (by omega)) mE_0 rfl 7 (by decide) (hts (.fieldLink RX4 23 "LeaseDeskModel" "has" "[I") (by decide +kernel)) (fun _ h9 => h9) rfl dX4_believes_16 ?_
      refine lv_iload_n hx hb dX4_believes_19 rfl (lv_at hl 2 rfl) ?_
      refine wd_iald (O := (mdO G)) hx hb hK hP (md_lt (by omega)) 0 (mE_5 _) rfl (i := j2) rfl (by omega) (by decide) dX4_believes_20 ?_
      refine lv_iload_n hx hb dX4_believes_21 rfl (lv_at hl 1 rfl) ?_
      refine lv_iconst (v := 1) hx hb dX4_believes_22 (by decide) ?_
      refine lv_iadd hx hb dX4_believes_23 ?_
      refine lv_icmp_ne (tgt := 56) hx hb dX4_believes_24 (by decide) (fun c6 => ?_) (fun c6 => ?_)
      · refine lv_iconst (v := 0) hx hb dX4_believes_56 (by decide) ?_
        exact wd_iret (O := (mdO G)) hx hb hr hlocks hK hP hS (by decide) dX4_believes_57 (by simp only [mblV, ho, hd, if_neg c6]) (rfl)
      · refine lv_aload_n hx hb dX4_believes_27 rfl (lv_at hl 0 rfl) ?_
        refine wd_get (O := (mdO G)) (v := .ref (wa (mdO G) 4)) hx hb hts hi4 hown hK hP (md_lt (by omega)) mE_0 rfl 6 (by decide) (hts (.fieldLink RX4 20 "LeaseDeskModel" "clocks" "[I") (by decide +kernel)) (fun _ h9 => h9) rfl dX4_believes_28 ?_
        refine lv_iload_n hx hb dX4_believes_31 rfl (lv_at hl 1 rfl) ?_
        refine wd_iald (O := (mdO G)) hx hb hK hP (md_lt (by omega)) 0 (mE_4 _) rfl (i := j1) rfl (by omega) (by decide) dX4_believes_32 ?_
        refine lv_aload_n hx hb dX4_believes_33 rfl (lv_at hl 0 rfl) ?_
        refine wd_get (O := (mdO G)) (v := .ref (wa (mdO G) 9)) hx hb hts hi4 hown hK hP (md_lt (by omega)) mE_0 rfl 11 (by decide) (hts (.fieldLink RX4 35 "LeaseDeskModel" "starts" "[I") (by decide +kernel)) (fun _ h9 => h9) rfl dX4_believes_34 ?_
        refine lv_iload_n hx hb dX4_believes_37 rfl (lv_at hl 2 rfl) ?_
        refine wd_iald (O := (mdO G)) hx hb hK hP (md_lt (by omega)) 0 (mE_9 _) rfl (i := j2) rfl (by omega) (by decide) dX4_believes_38 ?_
        refine lv_isub hx hb dX4_believes_39 ?_
        refine lv_bipush (v := 9) hx hb dX4_believes_40 (by decide) ?_
        refine lv_aload_n hx hb dX4_believes_42 rfl (lv_at hl 0 rfl) ?_
        refine wd_get (O := (mdO G)) (v := .ref (wa (mdO G) 8)) hx hb hts hi4 hown hK hP (md_lt (by omega)) mE_0 rfl 10 (by decide) (hts (.fieldLink RX4 32 "LeaseDeskModel" "terms" "[I") (by decide +kernel)) (fun _ h9 => h9) rfl dX4_believes_43 ?_
        refine lv_iload_n hx hb dX4_believes_46 rfl (lv_at hl 2 rfl) ?_
        refine wd_iald (O := (mdO G)) hx hb hK hP (md_lt (by omega)) 0 (mE_8 _) rfl (i := j2) rfl (by omega) (by decide) dX4_believes_47 ?_
        refine lv_imul hx hb dX4_believes_48 ?_
        refine lv_icmp_ge (tgt := 56) hx hb dX4_believes_49 (by decide) (fun c7 => ?_) (fun c7 => ?_)
        · refine lv_iconst (v := 0) hx hb dX4_believes_56 (by decide) ?_
          exact wd_iret (O := (mdO G)) hx hb hr hlocks hK hP hS (by decide) dX4_believes_57 (by simp only [mblV, ho, hd, if_pos c6, if_pos c7]) (rfl)
        · refine lv_iconst (v := 1) hx hb dX4_believes_52 (by decide) ?_
          refine lv_goto (tgt := 57) hx hb dX4_believes_53 (by decide) ?_
          exact wd_iret (O := (mdO G)) hx hb hr hlocks hK hP hS (by decide) dX4_believes_57 (by simp only [mblV, ho, hd, if_pos c6, if_neg c7]) (rfl)
set_option maxRecDepth 100000 in
set_option maxHeartbeats 4000000 in
theorem c_X4_write {l : Launch} {G : MG} (hj : wj (mdO G)) {M : Mem} (sz : Nat) (x t v : Int32) : Met l yX4_write wsX4_write ({ frames := 1, cells := 0, slots := 0, locals := 20 }) (va_Pc [.ref (wa (mdO G) 0), .int x, .int t, .int v] (wp (mdO G) sz M)) (wQi (mdO G) sz (mwrV M x t) (mwrM M x t v)) 0 0 (wA (mdO G) sz) := by
  rcases op_cases (dN x 4) with hd | ⟨j2, hd⟩
  · refine wd_ofW (O := (mdO G)) (M := M) (Qc := fun z => wQi (mdO G) z (mwrV M x t) (mwrM M x t v)) (cc := cX4_write) (maxL := 4) (ret := (some .boolean)) (lv := [(0, .ref (wa (mdO G) 0)), (1, .int x), (2, .int t), (3, .int v)]) (by decide) rfl (Nat.le_of_ble_eq_true rfl) rfl ?_
    intro p e s m below meth c ls hx hb hr hml hown hts hlocks hP hK hS hl
    have hi4 : ∀ w ∈ wsX40, w ∈ wsX4_write := by decide +kernel
    refine lv_iload_n hx hb dX4_write_0 rfl (lv_at hl 1 rfl) ?_
    refine wd_ci (O := (mdO G)) hS (va_runS (As := [.int x]) (rest := []) ⟨hx, hb, hml, hown, hts⟩ (c_X4_isLock (G := G) hj s.heap.size x ) (va_cwS 1 hts gX4_write_X4_isLock rfl rfl rfl (by decide +kernel) ⟨Nat.le_of_ble_eq_true rfl, Nat.le_of_ble_eq_true rfl⟩) (wd_preS hK hP) rfl rfl hl.1 rfl (lv_room (Nat.le_of_ble_eq_true rfl)) dX4_write_1 ⟨Nat.le_of_ble_eq_true rfl, Nat.le_of_ble_eq_true rfl⟩) (fun H locs hP hS => ?_)
    refine wd_re (y := 0) (by rw [hd]; rfl) ?_
    refine lv_if_eq (tgt := 22) hx hb dX4_write_4 (by decide) (fun c1 => ?_) (fun c1 => absurd rfl c1)
    refine lv_iconst (v := 0) hx hb dX4_write_22 (by decide) ?_
    exact wd_iret (O := (mdO G)) hx hb hr hlocks hK hP hS (by decide) dX4_write_23 (by simp only [mwrV, hd]) (by simp only [mwrM, hd])
  · obtain ⟨hj2, rfl⟩ := dN_some (by decide) hd
    refine wd_ofW (O := (mdO G)) (M := M) (Qc := fun z => wQi (mdO G) z (mwrV M (nI j2) t) (mwrM M (nI j2) t v)) (cc := cX4_write) (maxL := 4) (ret := (some .boolean)) (lv := [(0, .ref (wa (mdO G) 0)), (1, .int (nI j2)), (2, .int t), (3, .int v)]) (by decide) rfl (Nat.le_of_ble_eq_true rfl) rfl ?_
    intro p e s m below meth c ls hx hb hr hml hown hts hlocks hP hK hS hl
    have hi4 : ∀ w ∈ wsX40, w ∈ wsX4_write := by decide +kernel
    refine lv_iload_n hx hb dX4_write_0 rfl (lv_at hl 1 rfl) ?_
    refine wd_ci (O := (mdO G)) hS (va_runS (As := [.int (nI j2)]) (rest := []) ⟨hx, hb, hml, hown, hts⟩ (c_X4_isLock (G := G) hj s.heap.size (nI j2) ) (va_cwS 1 hts gX4_write_X4_isLock rfl rfl rfl (by decide +kernel) ⟨Nat.le_of_ble_eq_true rfl, Nat.le_of_ble_eq_true rfl⟩) (wd_preS hK hP) rfl rfl hl.1 rfl (lv_room (Nat.le_of_ble_eq_true rfl)) dX4_write_1 ⟨Nat.le_of_ble_eq_true rfl, Nat.le_of_ble_eq_true rfl⟩) (fun H locs hP hS => ?_)
    refine wd_re (y := 1) (by rw [hd]; rfl) ?_
    refine lv_if_eq (tgt := 22) hx hb dX4_write_4 (by decide) (fun c2 => absurd c2 (by decide)) (fun c2 => ?_)
    refine lv_iload_n hx hb dX4_write_7 rfl (lv_at hl 2 rfl) ?_
    refine lv_iconst (v := 1) hx hb dX4_write_8 (by decide) ?_
    refine lv_icmp_lt (tgt := 22) hx hb dX4_write_9 (by decide) (fun c3 => ?_) (fun c3 => ?_)
    · refine lv_iconst (v := 0) hx hb dX4_write_22 (by decide) ?_
      exact wd_iret (O := (mdO G)) hx hb hr hlocks hK hP hS (by decide) dX4_write_23 (by simp only [mwrV, hd, if_pos c3]) (by simp only [mwrM, hd, if_pos c3])
    · refine lv_iload_n hx hb dX4_write_12 rfl (lv_at hl 2 rfl) ?_
      refine lv_aload_n hx hb dX4_write_13 rfl (lv_at hl 0 rfl) ?_
      refine wd_get (O := (mdO G)) (v := .ref (wa (mdO G) 12)) hx hb hts hi4 hown hK hP (md_lt (by omega)) mE_0 rfl 14 (by decide) (hts (.fieldLink RX4 44 "LeaseDeskModel" "greatest" "[I") (by decide +kernel)) (fun _ h9 => h9) rfl dX4_write_14 ?_
      refine lv_iload_n hx hb dX4_write_17 rfl (lv_at hl 1 rfl) ?_
      refine wd_iald (O := (mdO G)) hx hb hK hP (md_lt (by omega)) 0 (mE_12 _) rfl (i := j2) rfl (by omega) (by decide) dX4_write_18 ?_
      refine lv_icmp_ge (tgt := 24) hx hb dX4_write_19 (by decide) (fun c4 => ?_) (fun c4 => ?_)
      · refine lv_aload_n hx hb dX4_write_24 rfl (lv_at hl 0 rfl) ?_
        refine wd_get (O := (mdO G)) (v := .ref (wa (mdO G) 12)) hx hb hts hi4 hown hK hP (md_lt (by omega)) mE_0 rfl 14 (by decide) (hts (.fieldLink RX4 44 "LeaseDeskModel" "greatest" "[I") (by decide +kernel)) (fun _ h9 => h9) rfl dX4_write_25 ?_
        refine lv_iload_n hx hb dX4_write_28 rfl (lv_at hl 1 rfl) ?_
        refine lv_iload_n hx hb dX4_write_29 rfl (lv_at hl 2 rfl) ?_
        refine wd_iast (O := (mdO G)) hj hx hb hK hP hS (md_lt (by omega)) 0 mE_12 rfl (i := j2) rfl (by omega) (by decide) dX4_write_30 (fun H locs hP hS => ?_)
        refine lv_aload_n hx hb dX4_write_31 rfl (lv_at hl 0 rfl) ?_
        refine wd_get (O := (mdO G)) (v := .ref (wa (mdO G) 13)) hx hb hts hi4 hown hK hP (md_lt (by omega)) mE_0 rfl 15 (by decide) (hts (.fieldLink RX4 47 "LeaseDeskModel" "values" "[I") (by decide +kernel)) (fun _ h9 => h9) rfl dX4_write_32 ?_
        refine lv_iload_n hx hb dX4_write_35 rfl (lv_at hl 1 rfl) ?_
        refine lv_iload_n hx hb dX4_write_36 rfl (lv_at hl 3 rfl) ?_
        refine wd_iast (O := (mdO G)) hj hx hb hK hP hS (md_lt (by omega)) 0 mE_13 rfl (i := j2) rfl (by omega) (by decide) dX4_write_37 (fun H locs hP hS => ?_)
        refine lv_iconst (v := 1) hx hb dX4_write_38 (by decide) ?_
        exact wd_iret (O := (mdO G)) hx hb hr hlocks hK hP hS (by decide) dX4_write_39 (by simp only [mwrV, hd, if_neg c3, if_pos c4]) (by simp only [mwrM, hd, if_neg c3, if_pos c4])
      · refine lv_iconst (v := 0) hx hb dX4_write_22 (by decide) ?_
        exact wd_iret (O := (mdO G)) hx hb hr hlocks hK hP hS (by decide) dX4_write_23 (by simp only [mwrV, hd, if_neg c3, if_neg c4]) (by simp only [mwrM, hd, if_neg c3, if_neg c4])
