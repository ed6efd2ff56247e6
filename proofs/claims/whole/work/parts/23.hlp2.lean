set_option maxRecDepth 100000 in
set_option maxHeartbeats 4000000 in
theorem c_L_open_s {l : Launch} {G : DG} (hj : wj (dkO G)) {M : Mem} (hok : dk_ok M) {o : Nat} {cJ : ClassId} (ho : ∀ j, j < wn (dkO G) → wa (dkO G) j ≠ o) {fq : Nat → Int64} (sz : Nat) {j0 : Nat} (h0 : fo M 6 0 = some j0) : Met l yL_open wsL_open ({ frames := 2, cells := 0, slots := 0, locals := 42 }) (va_Pc [.ref (wa (dkO G) 0), .ref o] (hp (dkO G) o cJ sz M fq)) (hQ (dkO G) o cJ sz 0 (bgM M j0 (M 0 2)) (fun f => f 0 = (nI j0).toInt64)) 0 0 (hA (dkO G) o sz) := by
  refine Met_ofWH (cc := cL_open) (maxL := 3) (ret := (some .int)) (hh := [(0, 8, 11, 13)]) (by decide) rfl ?_
  intro p e s m args below meth c s₁ B hml htab hv
  obtain ⟨rfl, rfl, hP, hK, hPo, hKo, hE⟩ := hv
  have hx := B.exec
  have hb := B.bytes
  have hr := B.returns
  have hlocks := B.notSynchronized
  have hts := atoms_spec (ws := wsL_open) B.pre
  have hown : s.vm.findClass RL = some m.cls := findClass_of_methodNamed B.named
  have hS : va_S (hA (dkO G) o s.heap.size) s.heap s.heap [] := va_S.rf
  have hl := lv_entry ([.ref (wa (dkO G) 0), .ref o]) (n := 3) (Nat.le_of_ble_eq_true rfl)
  rw [lg_entry_eq]
  generalize (lg_sl ([.ref (wa (dkO G) 0), .ref o]) ++ List.replicate (3 - (lg_sl ([.ref (wa (dkO G) 0), .ref o])).length) Slot.unset).toArray = ls at hl ⊢
  have hl : lv_has ls 3 [(0, .ref (wa (dkO G) 0)), (1, .ref o)] := hl
  refine lv_aload_n hx hb dL_open_0 rfl (lv_at hl 1 rfl) ?_
  refine lv_iconst (v := 0) hx hb dL_open_1 (by decide) ?_
  refine lv_aload_n hx hb dL_open_2 rfl (lv_at hl 0 rfl) ?_
  have hsub : ∀ q, wA (dkO G) s.heap.size q → hA (dkO G) o s.heap.size q := fun q h => Or.inl h
  refine xl_i (O := (dkO G)) hS hsub hPo (oW_ap ho) (va_runV (As := []) (rest := [.int 0, .ref o]) ⟨hx, hb, hml, hown, hts⟩ (c_X3_open_s (G := G) hj hok s.heap.size h0) (cwV 0 hts gL_open_X3_open rfl rfl rfl (by decide +kernel) ⟨Nat.le_of_ble_eq_true rfl, Nat.le_of_ble_eq_true rfl⟩) (wd_pre hK hP (dk_lt (by omega)) dE_0 rfl) rfl rfl hl.1 rfl (lv_room (Nat.le_of_ble_eq_true rfl)) dL_open_3 ⟨Nat.le_of_ble_eq_true rfl, Nat.le_of_ble_eq_true rfl⟩) (fun H locs hP hPo hS => ?_)
  refine lv_i2l hx hb dL_open_6 rfl ?_
  refine xl_last (O := (dkO G)) hj hx hb (fun _ h => h) rfl ho hKo hP hPo hS dL_open_7 (fun H locs hP hPo hS => ?_)
  refine lv_goto (tgt := 14) hx hb dL_open_8 (by decide) ?_
  refine lv_iconst (v := 0) hx hb dL_open_14 (by decide) ?_
  exact xl_iret hx hb hr hlocks hP hPo hS dL_open_15 rfl
set_option maxRecDepth 100000 in
set_option maxHeartbeats 4000000 in
theorem c_L_open_n {l : Launch} (hst : l.stackTraces = false) {G : DG} (hj : wj (dkO G)) {M : Mem} (hok : dk_ok M) {o : Nat} {cJ : ClassId} (ho : ∀ j, j < wn (dkO G) → wa (dkO G) j ≠ o) {fq : Nat → Int64} (sz : Nat) (h0 : fo M 6 0 = none) : Met l yL_open wsL_open ({ frames := 7, cells := 1, slots := 6, locals := 103 }) (va_Pc [.ref (wa (dkO G) 0), .ref o] (hp (dkO G) o cJ sz M fq)) (hQ (dkO G) o cJ sz 1 (M) (fun _ => True)) 1 6 (hA (dkO G) o sz) := by
  refine Met_ofWH (cc := cL_open) (maxL := 3) (ret := (some .int)) (hh := [(0, 8, 11, 13)]) (by decide) rfl ?_
  intro p e s m args below meth c s₁ B hml htab hv
  obtain ⟨rfl, rfl, hP, hK, hPo, hKo, hE⟩ := hv
  have hx := B.exec
  have hb := B.bytes
  have hr := B.returns
  have hlocks := B.notSynchronized
  have hts := atoms_spec (ws := wsL_open) B.pre
  have hown : s.vm.findClass RL = some m.cls := findClass_of_methodNamed B.named
  have hS : va_S (hA (dkO G) o s.heap.size) s.heap s.heap [] := va_S.rf
  have hl := lv_entry ([.ref (wa (dkO G) 0), .ref o]) (n := 3) (Nat.le_of_ble_eq_true rfl)
  rw [lg_entry_eq]
  generalize (lg_sl ([.ref (wa (dkO G) 0), .ref o]) ++ List.replicate (3 - (lg_sl ([.ref (wa (dkO G) 0), .ref o])).length) Slot.unset).toArray = ls at hl ⊢
  have hl : lv_has ls 3 [(0, .ref (wa (dkO G) 0)), (1, .ref o)] := hl
  refine lv_aload_n hx hb dL_open_0 rfl (lv_at hl 1 rfl) ?_
  refine lv_iconst (v := 0) hx hb dL_open_1 (by decide) ?_
  refine lv_aload_n hx hb dL_open_2 rfl (lv_at hl 0 rfl) ?_
  have hsub : ∀ q, wA (dkO G) s.heap.size q → hA (dkO G) o s.heap.size q := fun q h => Or.inl h
  have hs := hE.2.2
  refine xl_x (O := (dkO G)) hS hsub hPo (oW_ap ho) (vx_runV (As := []) (rest := [.int 0, .ref o]) ⟨hx, hb, hml, hown, hts⟩ (c_X3_open_n hst (G := G) hj hok s.heap.size h0) (cwV 0 hts gL_open_X3_open rfl rfl rfl (by decide +kernel) ⟨Nat.le_of_ble_eq_true rfl, Nat.le_of_ble_eq_true rfl⟩) (xl_pre hK hP hS hsub hE (dk_lt (by omega)) dE_0 rfl) rfl rfl hl.1 rfl (lv_room (Nat.le_of_ble_eq_true rfl)) dL_open_3 ⟨Nat.le_of_ble_eq_true rfl, Nat.le_of_ble_eq_true rfl⟩) (fun q ce H locs hP hPo hS hce hcv hcl => ?_)
  refine vx_catch (name := "java/lang/IllegalStateException") hown [] ⟨0, 8, 11, 13⟩ [] (by rw [htab]; rfl) (fun z hz => nomatch hz) (by decide) (by decide) (hts (.classLink RL 13 "java/lang/IllegalStateException") (by decide +kernel)) (va_Nw.use rfl (hs.2.2.2.2.2.1 (.castable eISE eISE) (by decide +kernel))) hce hcv hcl ?_
  refine lv_astore_n (lv' := [(2, .ref q), (0, .ref (wa (dkO G) 0)), (1, .ref o)]) hx hb dL_open_11 rfl hl (by decide) rfl (fun ls hl => ?_)
  refine lv_iconst (v := 1) hx hb dL_open_12 (by decide) ?_
  exact xl_iret hx hb hr hlocks hP hPo hS dL_open_13 trivial
set_option maxRecDepth 100000 in
set_option maxHeartbeats 4000000 in
theorem c_L_close_s {l : Launch} {G : DG} (hj : wj (dkO G)) {M : Mem} (hok : dk_ok M) {o : Nat} {cJ : ClassId} (ho : ∀ j, j < wn (dkO G) → wa (dkO G) j ≠ o) {fq : Nat → Int64} (sz : Nat) {j : Nat} (hj6 : j < 6) (hon : M (3 + j) 0 ≠ 0) : Met l yL_close wsL_close ({ frames := 5, cells := 0, slots := 0, locals := 118 }) (va_Pc [.ref (wa (dkO G) 0), .int (nI j), .ref o] (hp (dkO G) o cJ sz M fq)) (hQ (dkO G) o cJ sz 0 (endM M j (nI j)) (fun f => f 0 = (endV M (nI j)).toInt64)) 0 0 (hA (dkO G) o sz) := by
  refine Met_ofWH (cc := cL_close) (maxL := 4) (ret := (some .int)) (hh := [(0, 9, 12, 19)]) (by decide) rfl ?_
  intro p e s m args below meth c s₁ B hml htab hv
  obtain ⟨rfl, rfl, hP, hK, hPo, hKo, hE⟩ := hv
  have hx := B.exec
  have hb := B.bytes
  have hr := B.returns
  have hlocks := B.notSynchronized
  have hts := atoms_spec (ws := wsL_close) B.pre
  have hown : s.vm.findClass RL = some m.cls := findClass_of_methodNamed B.named
  have hS : va_S (hA (dkO G) o s.heap.size) s.heap s.heap [] := va_S.rf
  have hl := lv_entry ([.ref (wa (dkO G) 0), .int (nI j), .ref o]) (n := 4) (Nat.le_of_ble_eq_true rfl)
  rw [lg_entry_eq]
  generalize (lg_sl ([.ref (wa (dkO G) 0), .int (nI j), .ref o]) ++ List.replicate (4 - (lg_sl ([.ref (wa (dkO G) 0), .int (nI j), .ref o])).length) Slot.unset).toArray = ls at hl ⊢
  have hl : lv_has ls 4 [(0, .ref (wa (dkO G) 0)), (1, .int (nI j)), (2, .ref o)] := hl
  refine lv_aload_n hx hb dL_close_0 rfl (lv_at hl 2 rfl) ?_
  refine lv_iconst (v := 0) hx hb dL_close_1 (by decide) ?_
  refine lv_aload_n hx hb dL_close_2 rfl (lv_at hl 0 rfl) ?_
  refine lv_iload_n hx hb dL_close_3 rfl (lv_at hl 1 rfl) ?_
  have hsub : ∀ q, wA (dkO G) s.heap.size q → hA (dkO G) o s.heap.size q := fun q h => Or.inl h
  refine xl_i (O := (dkO G)) hS hsub hPo (oW_ap ho) (va_runV (As := [.int (nI j)]) (rest := [.int 0, .ref o]) ⟨hx, hb, hml, hown, hts⟩ (c_X3_close_s (G := G) hj hok hj6 hon s.heap.size) (cwV 1 hts gL_close_X3_close rfl rfl rfl (by decide +kernel) ⟨Nat.le_of_ble_eq_true rfl, Nat.le_of_ble_eq_true rfl⟩) (wd_pre hK hP (dk_lt (by omega)) dE_0 rfl) rfl rfl hl.1 rfl (lv_room (Nat.le_of_ble_eq_true rfl)) dL_close_4 ⟨Nat.le_of_ble_eq_true rfl, Nat.le_of_ble_eq_true rfl⟩) (fun H locs hP hPo hS => ?_)
  refine lv_i2l hx hb dL_close_7 rfl ?_
  refine xl_last (O := (dkO G)) hj hx hb (fun _ h => h) rfl ho hKo hP hPo hS dL_close_8 (fun H locs hP hPo hS => ?_)
  refine lv_goto (tgt := 15) hx hb dL_close_9 (by decide) ?_
  refine lv_iconst (v := 0) hx hb dL_close_15 (by decide) ?_
  exact xl_iret hx hb hr hlocks hP hPo hS dL_close_16 rfl
set_option maxRecDepth 100000 in
set_option maxHeartbeats 4000000 in
theorem c_L_close_n {l : Launch} (hst : l.stackTraces = false) {G : DG} (hj : wj (dkO G)) {M : Mem} (hok : dk_ok M) {o : Nat} {cJ : ClassId} (ho : ∀ j, j < wn (dkO G) → wa (dkO G) j ≠ o) {fq : Nat → Int64} (sz : Nat) (x : Int32) (hx0 : osV M x = none) : Met l yL_close wsL_close ({ frames := 8, cells := 1, slots := 6, locals := 125 }) (va_Pc [.ref (wa (dkO G) 0), .int x, .ref o] (hp (dkO G) o cJ sz M fq)) (hQ (dkO G) o cJ sz 1 (M) (fun _ => True)) 1 6 (hA (dkO G) o sz) := by
  refine Met_ofWH (cc := cL_close) (maxL := 4) (ret := (some .int)) (hh := [(0, 9, 12, 19)]) (by decide) rfl ?_
  intro p e s m args below meth c s₁ B hml htab hv
  obtain ⟨rfl, rfl, hP, hK, hPo, hKo, hE⟩ := hv
  have hx := B.exec
  have hb := B.bytes
  have hr := B.returns
  have hlocks := B.notSynchronized
  have hts := atoms_spec (ws := wsL_close) B.pre
  have hown : s.vm.findClass RL = some m.cls := findClass_of_methodNamed B.named
  have hS : va_S (hA (dkO G) o s.heap.size) s.heap s.heap [] := va_S.rf
  have hl := lv_entry ([.ref (wa (dkO G) 0), .int x, .ref o]) (n := 4) (Nat.le_of_ble_eq_true rfl)
  rw [lg_entry_eq]
  generalize (lg_sl ([.ref (wa (dkO G) 0), .int x, .ref o]) ++ List.replicate (4 - (lg_sl ([.ref (wa (dkO G) 0), .int x, .ref o])).length) Slot.unset).toArray = ls at hl ⊢
  have hl : lv_has ls 4 [(0, .ref (wa (dkO G) 0)), (1, .int x), (2, .ref o)] := hl
  refine lv_aload_n hx hb dL_close_0 rfl (lv_at hl 2 rfl) ?_
  refine lv_iconst (v := 0) hx hb dL_close_1 (by decide) ?_
  refine lv_aload_n hx hb dL_close_2 rfl (lv_at hl 0 rfl) ?_
  refine lv_iload_n hx hb dL_close_3 rfl (lv_at hl 1 rfl) ?_
  have hsub : ∀ q, wA (dkO G) s.heap.size q → hA (dkO G) o s.heap.size q := fun q h => Or.inl h
  have hs := hE.2.2
  refine xl_x (O := (dkO G)) hS hsub hPo (oW_ap ho) (vx_runV (As := [.int x]) (rest := [.int 0, .ref o]) ⟨hx, hb, hml, hown, hts⟩ (c_X3_close_n hst (G := G) hj hok s.heap.size x hx0) (cwV 1 hts gL_close_X3_close rfl rfl rfl (by decide +kernel) ⟨Nat.le_of_ble_eq_true rfl, Nat.le_of_ble_eq_true rfl⟩) (xl_pre hK hP hS hsub hE (dk_lt (by omega)) dE_0 rfl) rfl rfl hl.1 rfl (lv_room (Nat.le_of_ble_eq_true rfl)) dL_close_4 ⟨Nat.le_of_ble_eq_true rfl, Nat.le_of_ble_eq_true rfl⟩) (fun q ce H locs hP hPo hS hce hcv hcl => ?_)
  refine vx_catch (name := "java/util/NoSuchElementException") hown [] ⟨0, 9, 12, 19⟩ [] (by rw [htab]; rfl) (fun z hz => nomatch hz) (by decide) (by decide) (hts (.classLink RL 19 "java/util/NoSuchElementException") (by decide +kernel)) (va_Nw.use rfl (hs.2.2.2.2.2.1 (.castable eNSE eNSE) (by decide +kernel))) hce hcv hcl ?_
  refine lv_astore_n (lv' := [(3, .ref q), (0, .ref (wa (dkO G) 0)), (1, .int x), (2, .ref o)]) hx hb dL_close_12 rfl hl (by decide) rfl (fun ls hl => ?_)
  refine lv_iconst (v := 1) hx hb dL_close_13 (by decide) ?_
  exact xl_iret hx hb hr hlocks hP hPo hS dL_close_14 trivial
set_option maxRecDepth 100000 in
set_option maxHeartbeats 4000000 in
theorem c_L_keep_s {l : Launch} {G : DG} (hj : wj (dkO G)) {M : Mem} (hok : dk_ok M) {o : Nat} {cJ : ClassId} (ho : ∀ j, j < wn (dkO G) → wa (dkO G) j ≠ o) {fq : Nat → Int64} (sz : Nat) {j : Nat} (hj6 : j < 6) (hon : M (3 + j) 0 ≠ 0) : Met l yL_keep wsL_keep ({ frames := 3, cells := 0, slots := 0, locals := 64 }) (va_Pc [.ref (wa (dkO G) 0), .int (nI j)] (hp (dkO G) o cJ sz M fq)) (hQ (dkO G) o cJ sz 0 (up M (3 + j) 1 (M 0 2)) (fun _ => True)) 0 0 (hA (dkO G) o sz) := by
  refine Met_ofWH (cc := cL_keep) (maxL := 3) (ret := (some .int)) (hh := [(0, 5, 8, 19)]) (by decide) rfl ?_
  intro p e s m args below meth c s₁ B hml htab hv
  obtain ⟨rfl, rfl, hP, hK, hPo, hKo, hE⟩ := hv
  have hx := B.exec
  have hb := B.bytes
  have hr := B.returns
  have hlocks := B.notSynchronized
  have hts := atoms_spec (ws := wsL_keep) B.pre
  have hown : s.vm.findClass RL = some m.cls := findClass_of_methodNamed B.named
  have hS : va_S (hA (dkO G) o s.heap.size) s.heap s.heap [] := va_S.rf
  have hl := lv_entry ([.ref (wa (dkO G) 0), .int (nI j)]) (n := 3) (Nat.le_of_ble_eq_true rfl)
  rw [lg_entry_eq]
  generalize (lg_sl ([.ref (wa (dkO G) 0), .int (nI j)]) ++ List.replicate (3 - (lg_sl ([.ref (wa (dkO G) 0), .int (nI j)])).length) Slot.unset).toArray = ls at hl ⊢
  have hl : lv_has ls 3 [(0, .ref (wa (dkO G) 0)), (1, .int (nI j))] := hl
  refine lv_aload_n hx hb dL_keep_0 rfl (lv_at hl 0 rfl) ?_
  refine lv_iload_n hx hb dL_keep_1 rfl (lv_at hl 1 rfl) ?_
  have hsub : ∀ q, wA (dkO G) s.heap.size q → hA (dkO G) o s.heap.size q := fun q h => Or.inl h
  refine xl_v (O := (dkO G)) hS hsub hPo (oW_ap ho) (va_runV (As := [.int (nI j)]) (rest := []) ⟨hx, hb, hml, hown, hts⟩ (c_X3_keep_s (G := G) hj hok hj6 hon s.heap.size) (cwV 1 hts gL_keep_X3_keep rfl rfl rfl (by decide +kernel) ⟨Nat.le_of_ble_eq_true rfl, Nat.le_of_ble_eq_true rfl⟩) (wd_pre hK hP (dk_lt (by omega)) dE_0 rfl) rfl rfl hl.1 rfl (lv_room (Nat.le_of_ble_eq_true rfl)) dL_keep_2 ⟨Nat.le_of_ble_eq_true rfl, Nat.le_of_ble_eq_true rfl⟩) (fun H locs hP hPo hS => ?_)
  refine lv_goto (tgt := 11) hx hb dL_keep_5 (by decide) ?_
  refine lv_iconst (v := 0) hx hb dL_keep_11 (by decide) ?_
  exact xl_iret hx hb hr hlocks hP hPo hS dL_keep_12 trivial
set_option maxRecDepth 100000 in
set_option maxHeartbeats 4000000 in
theorem c_L_keep_n {l : Launch} (hst : l.stackTraces = false) {G : DG} (hj : wj (dkO G)) {M : Mem} (hok : dk_ok M) {o : Nat} {cJ : ClassId} (ho : ∀ j, j < wn (dkO G) → wa (dkO G) j ≠ o) {fq : Nat → Int64} (sz : Nat) (x : Int32) (hx0 : osV M x = none) : Met l yL_keep wsL_keep ({ frames := 8, cells := 1, slots := 6, locals := 125 }) (va_Pc [.ref (wa (dkO G) 0), .int x] (hp (dkO G) o cJ sz M fq)) (hQ (dkO G) o cJ sz 1 (M) (fun _ => True)) 1 6 (hA (dkO G) o sz) := by
  refine Met_ofWH (cc := cL_keep) (maxL := 3) (ret := (some .int)) (hh := [(0, 5, 8, 19)]) (by decide) rfl ?_
  intro p e s m args below meth c s₁ B hml htab hv
  obtain ⟨rfl, rfl, hP, hK, hPo, hKo, hE⟩ := hv
  have hx := B.exec
  have hb := B.bytes
  have hr := B.returns
  have hlocks := B.notSynchronized
  have hts := atoms_spec (ws := wsL_keep) B.pre
  have hown : s.vm.findClass RL = some m.cls := findClass_of_methodNamed B.named
  have hS : va_S (hA (dkO G) o s.heap.size) s.heap s.heap [] := va_S.rf
  have hl := lv_entry ([.ref (wa (dkO G) 0), .int x]) (n := 3) (Nat.le_of_ble_eq_true rfl)
  rw [lg_entry_eq]
  generalize (lg_sl ([.ref (wa (dkO G) 0), .int x]) ++ List.replicate (3 - (lg_sl ([.ref (wa (dkO G) 0), .int x])).length) Slot.unset).toArray = ls at hl ⊢
  have hl : lv_has ls 3 [(0, .ref (wa (dkO G) 0)), (1, .int x)] := hl
  refine lv_aload_n hx hb dL_keep_0 rfl (lv_at hl 0 rfl) ?_
  refine lv_iload_n hx hb dL_keep_1 rfl (lv_at hl 1 rfl) ?_
  have hsub : ∀ q, wA (dkO G) s.heap.size q → hA (dkO G) o s.heap.size q := fun q h => Or.inl h
  have hs := hE.2.2
  refine xl_x (O := (dkO G)) hS hsub hPo (oW_ap ho) (vx_runV (As := [.int x]) (rest := []) ⟨hx, hb, hml, hown, hts⟩ (c_X3_keep_n hst (G := G) hj hok s.heap.size x hx0) (cwV 1 hts gL_keep_X3_keep rfl rfl rfl (by decide +kernel) ⟨Nat.le_of_ble_eq_true rfl, Nat.le_of_ble_eq_true rfl⟩) (xl_pre hK hP hS hsub hE (dk_lt (by omega)) dE_0 rfl) rfl rfl hl.1 rfl (lv_room (Nat.le_of_ble_eq_true rfl)) dL_keep_2 ⟨Nat.le_of_ble_eq_true rfl, Nat.le_of_ble_eq_true rfl⟩) (fun q ce H locs hP hPo hS hce hcv hcl => ?_)
  refine vx_catch (name := "java/util/NoSuchElementException") hown [] ⟨0, 5, 8, 19⟩ [] (by rw [htab]; rfl) (fun z hz => nomatch hz) (by decide) (by decide) (hts (.classLink RL 19 "java/util/NoSuchElementException") (by decide +kernel)) (va_Nw.use rfl (hs.2.2.2.2.2.1 (.castable eNSE eNSE) (by decide +kernel))) hce hcv hcl ?_
  refine lv_astore_n (lv' := [(2, .ref q), (0, .ref (wa (dkO G) 0)), (1, .int x)]) hx hb dL_keep_8 rfl hl (by decide) rfl (fun ls hl => ?_)
  refine lv_iconst (v := 1) hx hb dL_keep_9 (by decide) ?_
  exact xl_iret hx hb hr hlocks hP hPo hS dL_keep_10 trivial
set_option maxRecDepth 100000 in
set_option maxHeartbeats 4000000 in
theorem c_L_acquire_s {l : Launch} {G : DG} (hj : wj (dkO G)) {M : Mem} (hok : dk_ok M) {o : Nat} {cJ : ClassId} (ho : ∀ j, j < wn (dkO G) → wa (dkO G) j ≠ o) {fq : Nat → Int64} (sz : Nat) {j i : Nat} (hj6 : j < 6) (hon : M (3 + j) 0 ≠ 0) (hi4 : i < 4) (t : Int32) (ht1 : ¬ t < 1) (ht2 : t ≤ 100) : Met l yL_acquire wsL_acquire ({ frames := 3, cells := 0, slots := 0, locals := 72 }) (va_Pc [.ref (wa (dkO G) 0), .int (nI j), .int (nI i), .int t, .ref o] (hp (dkO G) o cJ sz M fq)) (hQ (dkO G) o cJ sz 0 (aqM M j i t) (fun f => f 0 = (aqV M j i t).toInt64)) 0 0 (hA (dkO G) o sz) := by
  refine Met_ofWH (cc := cL_acquire) (maxL := 6) (ret := (some .int)) (hh := [(0, 12, 15, 19), (0, 12, 19, 29)]) (by decide) rfl ?_
  intro p e s m args below meth c s₁ B hml htab hv
  obtain ⟨rfl, rfl, hP, hK, hPo, hKo, hE⟩ := hv
  have hx := B.exec
  have hb := B.bytes
  have hr := B.returns
  have hlocks := B.notSynchronized
  have hts := atoms_spec (ws := wsL_acquire) B.pre
  have hown : s.vm.findClass RL = some m.cls := findClass_of_methodNamed B.named
  have hS : va_S (hA (dkO G) o s.heap.size) s.heap s.heap [] := va_S.rf
  have hl := lv_entry ([.ref (wa (dkO G) 0), .int (nI j), .int (nI i), .int t, .ref o]) (n := 6) (Nat.le_of_ble_eq_true rfl)
  rw [lg_entry_eq]
  generalize (lg_sl ([.ref (wa (dkO G) 0), .int (nI j), .int (nI i), .int t, .ref o]) ++ List.replicate (6 - (lg_sl ([.ref (wa (dkO G) 0), .int (nI j), .int (nI i), .int t, .ref o])).length) Slot.unset).toArray = ls at hl ⊢
  have hl : lv_has ls 6 [(0, .ref (wa (dkO G) 0)), (1, .int (nI j)), (2, .int (nI i)), (3, .int t), (4, .ref o)] := hl
  refine lv_aload hx hb dL_acquire_0 (lv_at hl 4 rfl) ?_
  refine lv_iconst (v := 0) hx hb dL_acquire_2 (by decide) ?_
  refine lv_aload_n hx hb dL_acquire_3 rfl (lv_at hl 0 rfl) ?_
  refine lv_iload_n hx hb dL_acquire_4 rfl (lv_at hl 1 rfl) ?_
  refine lv_iload_n hx hb dL_acquire_5 rfl (lv_at hl 2 rfl) ?_
  refine lv_iload_n hx hb dL_acquire_6 rfl (lv_at hl 3 rfl) ?_
  have hsub : ∀ q, wA (dkO G) s.heap.size q → hA (dkO G) o s.heap.size q := fun q h => Or.inl h
  refine xl_i (O := (dkO G)) hS hsub hPo (oW_ap ho) (va_runV (As := [.int (nI j), .int (nI i), .int t]) (rest := [.int 0, .ref o]) ⟨hx, hb, hml, hown, hts⟩ (c_X3_acquire_s (G := G) hj hok hj6 hon hi4 t ht1 ht2 s.heap.size) (cwV 3 hts gL_acquire_X3_acquire rfl rfl rfl (by decide +kernel) ⟨Nat.le_of_ble_eq_true rfl, Nat.le_of_ble_eq_true rfl⟩) (wd_pre hK hP (dk_lt (by omega)) dE_0 rfl) rfl rfl hl.1 rfl (lv_room (Nat.le_of_ble_eq_true rfl)) dL_acquire_7 ⟨Nat.le_of_ble_eq_true rfl, Nat.le_of_ble_eq_true rfl⟩) (fun H locs hP hPo hS => ?_)
  refine lv_i2l hx hb dL_acquire_10 rfl ?_
  refine xl_last (O := (dkO G)) hj hx hb (fun _ h => h) rfl ho hKo hP hPo hS dL_acquire_11 (fun H locs hP hPo hS => ?_)
  refine lv_goto (tgt := 23) hx hb dL_acquire_12 (by decide) ?_
  refine lv_iconst (v := 0) hx hb dL_acquire_23 (by decide) ?_
  exact xl_iret hx hb hr hlocks hP hPo hS dL_acquire_24 rfl
set_option maxRecDepth 100000 in
set_option maxHeartbeats 4000000 in
theorem c_L_acquire_n1 {l : Launch} (hst : l.stackTraces = false) {G : DG} (hj : wj (dkO G)) {M : Mem} (hok : dk_ok M) {o : Nat} {cJ : ClassId} (ho : ∀ j, j < wn (dkO G) → wa (dkO G) j ≠ o) {fq : Nat → Int64} (sz : Nat) (x y t : Int32) (hx0 : osV M x = none) : Met l yL_acquire wsL_acquire ({ frames := 8, cells := 1, slots := 6, locals := 129 }) (va_Pc [.ref (wa (dkO G) 0), .int x, .int y, .int t, .ref o] (hp (dkO G) o cJ sz M fq)) (hQ (dkO G) o cJ sz 1 (M) (fun _ => True)) 1 6 (hA (dkO G) o sz) := by
  refine Met_ofWH (cc := cL_acquire) (maxL := 6) (ret := (some .int)) (hh := [(0, 12, 15, 19), (0, 12, 19, 29)]) (by decide) rfl ?_
  intro p e s m args below meth c s₁ B hml htab hv
  obtain ⟨rfl, rfl, hP, hK, hPo, hKo, hE⟩ := hv
  have hx := B.exec
  have hb := B.bytes
  have hr := B.returns
  have hlocks := B.notSynchronized
  have hts := atoms_spec (ws := wsL_acquire) B.pre
  have hown : s.vm.findClass RL = some m.cls := findClass_of_methodNamed B.named
  have hS : va_S (hA (dkO G) o s.heap.size) s.heap s.heap [] := va_S.rf
  have hl := lv_entry ([.ref (wa (dkO G) 0), .int x, .int y, .int t, .ref o]) (n := 6) (Nat.le_of_ble_eq_true rfl)
  rw [lg_entry_eq]
  generalize (lg_sl ([.ref (wa (dkO G) 0), .int x, .int y, .int t, .ref o]) ++ List.replicate (6 - (lg_sl ([.ref (wa (dkO G) 0), .int x, .int y, .int t, .ref o])).length) Slot.unset).toArray = ls at hl ⊢
  have hl : lv_has ls 6 [(0, .ref (wa (dkO G) 0)), (1, .int x), (2, .int y), (3, .int t), (4, .ref o)] := hl
  refine lv_aload hx hb dL_acquire_0 (lv_at hl 4 rfl) ?_
  refine lv_iconst (v := 0) hx hb dL_acquire_2 (by decide) ?_
  refine lv_aload_n hx hb dL_acquire_3 rfl (lv_at hl 0 rfl) ?_
  refine lv_iload_n hx hb dL_acquire_4 rfl (lv_at hl 1 rfl) ?_
  refine lv_iload_n hx hb dL_acquire_5 rfl (lv_at hl 2 rfl) ?_
  refine lv_iload_n hx hb dL_acquire_6 rfl (lv_at hl 3 rfl) ?_
  have hsub : ∀ q, wA (dkO G) s.heap.size q → hA (dkO G) o s.heap.size q := fun q h => Or.inl h
  have hs := hE.2.2
  refine xl_x (O := (dkO G)) hS hsub hPo (oW_ap ho) (vx_runV (As := [.int x, .int y, .int t]) (rest := [.int 0, .ref o]) ⟨hx, hb, hml, hown, hts⟩ (c_X3_acquire_n1 hst (G := G) hj hok s.heap.size x y t hx0) (cwV 3 hts gL_acquire_X3_acquire rfl rfl rfl (by decide +kernel) ⟨Nat.le_of_ble_eq_true rfl, Nat.le_of_ble_eq_true rfl⟩) (xl_pre hK hP hS hsub hE (dk_lt (by omega)) dE_0 rfl) rfl rfl hl.1 rfl (lv_room (Nat.le_of_ble_eq_true rfl)) dL_acquire_7 ⟨Nat.le_of_ble_eq_true rfl, Nat.le_of_ble_eq_true rfl⟩) (fun q ce H locs hP hPo hS hce hcv hcl => ?_)
  refine vx_catch (name := "java/util/NoSuchElementException") hown [] ⟨0, 12, 15, 19⟩ [⟨0, 12, 19, 29⟩] (by rw [htab]; rfl) (fun z hz => nomatch hz) (by decide) (by decide) (hts (.classLink RL 19 "java/util/NoSuchElementException") (by decide +kernel)) (va_Nw.use rfl (hs.2.2.2.2.2.1 (.castable eNSE eNSE) (by decide +kernel))) hce hcv hcl ?_
  refine lv_astore (lv' := [(5, .ref q), (0, .ref (wa (dkO G) 0)), (1, .int x), (2, .int y), (3, .int t), (4, .ref o)]) hx hb dL_acquire_15 hl (by decide) rfl (fun ls hl => ?_)
  refine lv_iconst (v := 1) hx hb dL_acquire_17 (by decide) ?_
  exact xl_iret hx hb hr hlocks hP hPo hS dL_acquire_18 trivial
set_option maxRecDepth 100000 in
set_option maxHeartbeats 4000000 in
theorem c_L_acquire_n2 {l : Launch} (hst : l.stackTraces = false) {G : DG} (hj : wj (dkO G)) {M : Mem} (hok : dk_ok M) {o : Nat} {cJ : ClassId} (ho : ∀ j, j < wn (dkO G) → wa (dkO G) j ≠ o) {fq : Nat → Int64} (sz : Nat) {j : Nat} (hj6 : j < 6) (hon : M (3 + j) 0 ≠ 0) (y t : Int32) (hd : dN y 4 = none) : Met l yL_acquire wsL_acquire ({ frames := 8, cells := 1, slots := 6, locals := 129 }) (va_Pc [.ref (wa (dkO G) 0), .int (nI j), .int y, .int t, .ref o] (hp (dkO G) o cJ sz M fq)) (hQ (dkO G) o cJ sz 2 (M) (fun _ => True)) 1 6 (hA (dkO G) o sz) := by
  refine Met_ofWH (cc := cL_acquire) (maxL := 6) (ret := (some .int)) (hh := [(0, 12, 15, 19), (0, 12, 19, 29)]) (by decide) rfl ?_
  intro p e s m args below meth c s₁ B hml htab hv
  obtain ⟨rfl, rfl, hP, hK, hPo, hKo, hE⟩ := hv
  have hx := B.exec
  have hb := B.bytes
  have hr := B.returns
  have hlocks := B.notSynchronized
  have hts := atoms_spec (ws := wsL_acquire) B.pre
  have hown : s.vm.findClass RL = some m.cls := findClass_of_methodNamed B.named
  have hS : va_S (hA (dkO G) o s.heap.size) s.heap s.heap [] := va_S.rf
  have hl := lv_entry ([.ref (wa (dkO G) 0), .int (nI j), .int y, .int t, .ref o]) (n := 6) (Nat.le_of_ble_eq_true rfl)
  rw [lg_entry_eq]
  generalize (lg_sl ([.ref (wa (dkO G) 0), .int (nI j), .int y, .int t, .ref o]) ++ List.replicate (6 - (lg_sl ([.ref (wa (dkO G) 0), .int (nI j), .int y, .int t, .ref o])).length) Slot.unset).toArray = ls at hl ⊢
  have hl : lv_has ls 6 [(0, .ref (wa (dkO G) 0)), (1, .int (nI j)), (2, .int y), (3, .int t), (4, .ref o)] := hl
  refine lv_aload hx hb dL_acquire_0 (lv_at hl 4 rfl) ?_
  refine lv_iconst (v := 0) hx hb dL_acquire_2 (by decide) ?_
  refine lv_aload_n hx hb dL_acquire_3 rfl (lv_at hl 0 rfl) ?_
  refine lv_iload_n hx hb dL_acquire_4 rfl (lv_at hl 1 rfl) ?_
  refine lv_iload_n hx hb dL_acquire_5 rfl (lv_at hl 2 rfl) ?_
  refine lv_iload_n hx hb dL_acquire_6 rfl (lv_at hl 3 rfl) ?_
  have hsub : ∀ q, wA (dkO G) s.heap.size q → hA (dkO G) o s.heap.size q := fun q h => Or.inl h
  have hs := hE.2.2
  refine xl_x (O := (dkO G)) hS hsub hPo (oW_ap ho) (vx_runV (As := [.int (nI j), .int y, .int t]) (rest := [.int 0, .ref o]) ⟨hx, hb, hml, hown, hts⟩ (c_X3_acquire_n2 hst (G := G) hj hok hj6 hon s.heap.size y t hd) (cwV 3 hts gL_acquire_X3_acquire rfl rfl rfl (by decide +kernel) ⟨Nat.le_of_ble_eq_true rfl, Nat.le_of_ble_eq_true rfl⟩) (xl_pre hK hP hS hsub hE (dk_lt (by omega)) dE_0 rfl) rfl rfl hl.1 rfl (lv_room (Nat.le_of_ble_eq_true rfl)) dL_acquire_7 ⟨Nat.le_of_ble_eq_true rfl, Nat.le_of_ble_eq_true rfl⟩) (fun q ce H locs hP hPo hS hce hcv hcl => ?_)
  refine vx_catch (name := "java/lang/IllegalArgumentException") hown [⟨0, 12, 15, 19⟩] ⟨0, 12, 19, 29⟩ [] (by rw [htab]; rfl) (fun z hz => by
    simp only [List.mem_cons, List.not_mem_nil, or_false] at hz
    rcases hz with rfl
    · exact Or.inr ⟨by decide, "java/util/NoSuchElementException", hts (.classLink RL 19 "java/util/NoSuchElementException") (by decide +kernel), hs.2.2.2.2.2.2.1⟩) (by decide) (by decide) (hts (.classLink RL 29 "java/lang/IllegalArgumentException") (by decide +kernel)) (va_Nw.use rfl (hs.2.2.2.2.2.1 (.castable eIAE eIAE) (by decide +kernel))) hce hcv hcl ?_
  refine lv_astore (lv' := [(5, .ref q), (0, .ref (wa (dkO G) 0)), (1, .int (nI j)), (2, .int y), (3, .int t), (4, .ref o)]) hx hb dL_acquire_19 hl (by decide) rfl (fun ls hl => ?_)
  refine lv_iconst (v := 2) hx hb dL_acquire_21 (by decide) ?_
  exact xl_iret hx hb hr hlocks hP hPo hS dL_acquire_22 trivial
set_option maxRecDepth 100000 in
set_option maxHeartbeats 4000000 in
theorem c_L_acquire_n3 {l : Launch} (hst : l.stackTraces = false) {G : DG} (hj : wj (dkO G)) {M : Mem} (hok : dk_ok M) {o : Nat} {cJ : ClassId} (ho : ∀ j, j < wn (dkO G) → wa (dkO G) j ≠ o) {fq : Nat → Int64} (sz : Nat) {j i : Nat} (hj6 : j < 6) (hon : M (3 + j) 0 ≠ 0) (hi4 : i < 4) (t : Int32) (ht : ¬ (¬ t < 1 ∧ t ≤ 100)) : Met l yL_acquire wsL_acquire ({ frames := 8, cells := 1, slots := 6, locals := 129 }) (va_Pc [.ref (wa (dkO G) 0), .int (nI j), .int (nI i), .int t, .ref o] (hp (dkO G) o cJ sz M fq)) (hQ (dkO G) o cJ sz 2 (M) (fun _ => True)) 1 6 (hA (dkO G) o sz) := by
  refine Met_ofWH (cc := cL_acquire) (maxL := 6) (ret := (some .int)) (hh := [(0, 12, 15, 19), (0, 12, 19, 29)]) (by decide) rfl ?_
  intro p e s m args below meth c s₁ B hml htab hv
  obtain ⟨rfl, rfl, hP, hK, hPo, hKo, hE⟩ := hv
  have hx := B.exec
  have hb := B.bytes
  have hr := B.returns
  have hlocks := B.notSynchronized
  have hts := atoms_spec (ws := wsL_acquire) B.pre
  have hown : s.vm.findClass RL = some m.cls := findClass_of_methodNamed B.named
  have hS : va_S (hA (dkO G) o s.heap.size) s.heap s.heap [] := va_S.rf
  have hl := lv_entry ([.ref (wa (dkO G) 0), .int (nI j), .int (nI i), .int t, .ref o]) (n := 6) (Nat.le_of_ble_eq_true rfl)
  rw [lg_entry_eq]
  generalize (lg_sl ([.ref (wa (dkO G) 0), .int (nI j), .int (nI i), .int t, .ref o]) ++ List.replicate (6 - (lg_sl ([.ref (wa (dkO G) 0), .int (nI j), .int (nI i), .int t, .ref o])).length) Slot.unset).toArray = ls at hl ⊢
  have hl : lv_has ls 6 [(0, .ref (wa (dkO G) 0)), (1, .int (nI j)), (2, .int (nI i)), (3, .int t), (4, .ref o)] := hl
  refine lv_aload hx hb dL_acquire_0 (lv_at hl 4 rfl) ?_
  refine lv_iconst (v := 0) hx hb dL_acquire_2 (by decide) ?_
  refine lv_aload_n hx hb dL_acquire_3 rfl (lv_at hl 0 rfl) ?_
  refine lv_iload_n hx hb dL_acquire_4 rfl (lv_at hl 1 rfl) ?_
  refine lv_iload_n hx hb dL_acquire_5 rfl (lv_at hl 2 rfl) ?_
  refine lv_iload_n hx hb dL_acquire_6 rfl (lv_at hl 3 rfl) ?_
  have hsub : ∀ q, wA (dkO G) s.heap.size q → hA (dkO G) o s.heap.size q := fun q h => Or.inl h
  have hs := hE.2.2
  refine xl_x (O := (dkO G)) hS hsub hPo (oW_ap ho) (vx_runV (As := [.int (nI j), .int (nI i), .int t]) (rest := [.int 0, .ref o]) ⟨hx, hb, hml, hown, hts⟩ (c_X3_acquire_n3 hst (G := G) hj hok hj6 hon hi4 t ht s.heap.size) (cwV 3 hts gL_acquire_X3_acquire rfl rfl rfl (by decide +kernel) ⟨Nat.le_of_ble_eq_true rfl, Nat.le_of_ble_eq_true rfl⟩) (xl_pre hK hP hS hsub hE (dk_lt (by omega)) dE_0 rfl) rfl rfl hl.1 rfl (lv_room (Nat.le_of_ble_eq_true rfl)) dL_acquire_7 ⟨Nat.le_of_ble_eq_true rfl, Nat.le_of_ble_eq_true rfl⟩) (fun q ce H locs hP hPo hS hce hcv hcl => ?_)
  refine vx_catch (name := "java/lang/IllegalArgumentException") hown [⟨0, 12, 15, 19⟩] ⟨0, 12, 19, 29⟩ [] (by rw [htab]; rfl) (fun z hz => by
    simp only [List.mem_cons, List.not_mem_nil, or_false] at hz
    rcases hz with rfl
    · exact Or.inr ⟨by decide, "java/util/NoSuchElementException", hts (.classLink RL 19 "java/util/NoSuchElementException") (by decide +kernel), hs.2.2.2.2.2.2.1⟩) (by decide) (by decide) (hts (.classLink RL 29 "java/lang/IllegalArgumentException") (by decide +kernel)) (va_Nw.use rfl (hs.2.2.2.2.2.1 (.castable eIAE eIAE) (by decide +kernel))) hce hcv hcl ?_
  refine lv_astore (lv' := [(5, .ref q), (0, .ref (wa (dkO G) 0)), (1, .int (nI j)), (2, .int (nI i)), (3, .int t), (4, .ref o)]) hx hb dL_acquire_19 hl (by decide) rfl (fun ls hl => ?_)
  refine lv_iconst (v := 2) hx hb dL_acquire_21 (by decide) ?_
  exact xl_iret hx hb hr hlocks hP hPo hS dL_acquire_22 trivial
set_option maxRecDepth 100000 in
set_option maxHeartbeats 4000000 in
theorem c_L_release_s {l : Launch} {G : DG} (hj : wj (dkO G)) {M : Mem} (hok : dk_ok M) {o : Nat} {cJ : ClassId} (ho : ∀ j, j < wn (dkO G) → wa (dkO G) j ≠ o) {fq : Nat → Int64} (sz : Nat) {j i : Nat} (hj6 : j < 6) (hon : M (3 + j) 0 ≠ 0) (hi4 : i < 4) (hh : M (9 + i) 1 = nI j) : Met l yL_release wsL_release ({ frames := 4, cells := 0, slots := 0, locals := 93 }) (va_Pc [.ref (wa (dkO G) 0), .int (nI j), .int (nI i)] (hp (dkO G) o cJ sz M fq)) (hQ (dkO G) o cJ sz 0 (psM M i) (fun _ => True)) 0 0 (hA (dkO G) o sz) := by
  refine Met_ofWH (cc := cL_release) (maxL := 4) (ret := (some .int)) (hh := [(0, 6, 9, 19), (0, 6, 12, 29), (0, 6, 15, 13)]) (by decide) rfl ?_
  intro p e s m args below meth c s₁ B hml htab hv
  obtain ⟨rfl, rfl, hP, hK, hPo, hKo, hE⟩ := hv
  have hx := B.exec
  have hb := B.bytes
  have hr := B.returns
  have hlocks := B.notSynchronized
  have hts := atoms_spec (ws := wsL_release) B.pre
  have hown : s.vm.findClass RL = some m.cls := findClass_of_methodNamed B.named
  have hS : va_S (hA (dkO G) o s.heap.size) s.heap s.heap [] := va_S.rf
  have hl := lv_entry ([.ref (wa (dkO G) 0), .int (nI j), .int (nI i)]) (n := 4) (Nat.le_of_ble_eq_true rfl)
  rw [lg_entry_eq]
  generalize (lg_sl ([.ref (wa (dkO G) 0), .int (nI j), .int (nI i)]) ++ List.replicate (4 - (lg_sl ([.ref (wa (dkO G) 0), .int (nI j), .int (nI i)])).length) Slot.unset).toArray = ls at hl ⊢
  have hl : lv_has ls 4 [(0, .ref (wa (dkO G) 0)), (1, .int (nI j)), (2, .int (nI i))] := hl
  refine lv_aload_n hx hb dL_release_0 rfl (lv_at hl 0 rfl) ?_
  refine lv_iload_n hx hb dL_release_1 rfl (lv_at hl 1 rfl) ?_
  refine lv_iload_n hx hb dL_release_2 rfl (lv_at hl 2 rfl) ?_
  have hsub : ∀ q, wA (dkO G) s.heap.size q → hA (dkO G) o s.heap.size q := fun q h => Or.inl h
  refine xl_v (O := (dkO G)) hS hsub hPo (oW_ap ho) (va_runV (As := [.int (nI j), .int (nI i)]) (rest := []) ⟨hx, hb, hml, hown, hts⟩ (c_X3_release_s (G := G) hj hok hj6 hon hi4 hh s.heap.size) (cwV 2 hts gL_release_X3_release rfl rfl rfl (by decide +kernel) ⟨Nat.le_of_ble_eq_true rfl, Nat.le_of_ble_eq_true rfl⟩) (wd_pre hK hP (dk_lt (by omega)) dE_0 rfl) rfl rfl hl.1 rfl (lv_room (Nat.le_of_ble_eq_true rfl)) dL_release_3 ⟨Nat.le_of_ble_eq_true rfl, Nat.le_of_ble_eq_true rfl⟩) (fun H locs hP hPo hS => ?_)
  refine lv_goto (tgt := 18) hx hb dL_release_6 (by decide) ?_
  refine lv_iconst (v := 0) hx hb dL_release_18 (by decide) ?_
  exact xl_iret hx hb hr hlocks hP hPo hS dL_release_19 trivial
set_option maxRecDepth 100000 in
set_option maxHeartbeats 4000000 in
theorem c_L_release_n1 {l : Launch} (hst : l.stackTraces = false) {G : DG} (hj : wj (dkO G)) {M : Mem} (hok : dk_ok M) {o : Nat} {cJ : ClassId} (ho : ∀ j, j < wn (dkO G) → wa (dkO G) j ≠ o) {fq : Nat → Int64} (sz : Nat) (x y : Int32) (hx0 : osV M x = none) : Met l yL_release wsL_release ({ frames := 8, cells := 1, slots := 6, locals := 127 }) (va_Pc [.ref (wa (dkO G) 0), .int x, .int y] (hp (dkO G) o cJ sz M fq)) (hQ (dkO G) o cJ sz 1 (M) (fun _ => True)) 1 6 (hA (dkO G) o sz) := by
  refine Met_ofWH (cc := cL_release) (maxL := 4) (ret := (some .int)) (hh := [(0, 6, 9, 19), (0, 6, 12, 29), (0, 6, 15, 13)]) (by decide) rfl ?_
  intro p e s m args below meth c s₁ B hml htab hv
  obtain ⟨rfl, rfl, hP, hK, hPo, hKo, hE⟩ := hv
  have hx := B.exec
  have hb := B.bytes
  have hr := B.returns
  have hlocks := B.notSynchronized
  have hts := atoms_spec (ws := wsL_release) B.pre
  have hown : s.vm.findClass RL = some m.cls := findClass_of_methodNamed B.named
  have hS : va_S (hA (dkO G) o s.heap.size) s.heap s.heap [] := va_S.rf
  have hl := lv_entry ([.ref (wa (dkO G) 0), .int x, .int y]) (n := 4) (Nat.le_of_ble_eq_true rfl)
  rw [lg_entry_eq]
  generalize (lg_sl ([.ref (wa (dkO G) 0), .int x, .int y]) ++ List.replicate (4 - (lg_sl ([.ref (wa (dkO G) 0), .int x, .int y])).length) Slot.unset).toArray = ls at hl ⊢
  have hl : lv_has ls 4 [(0, .ref (wa (dkO G) 0)), (1, .int x), (2, .int y)] := hl
  refine lv_aload_n hx hb dL_release_0 rfl (lv_at hl 0 rfl) ?_
  refine lv_iload_n hx hb dL_release_1 rfl (lv_at hl 1 rfl) ?_
  refine lv_iload_n hx hb dL_release_2 rfl (lv_at hl 2 rfl) ?_
  have hsub : ∀ q, wA (dkO G) s.heap.size q → hA (dkO G) o s.heap.size q := fun q h => Or.inl h
  have hs := hE.2.2
  refine xl_x (O := (dkO G)) hS hsub hPo (oW_ap ho) (vx_runV (As := [.int x, .int y]) (rest := []) ⟨hx, hb, hml, hown, hts⟩ (c_X3_release_n1 hst (G := G) hj hok s.heap.size x y hx0) (cwV 2 hts gL_release_X3_release rfl rfl rfl (by decide +kernel) ⟨Nat.le_of_ble_eq_true rfl, Nat.le_of_ble_eq_true rfl⟩) (xl_pre hK hP hS hsub hE (dk_lt (by omega)) dE_0 rfl) rfl rfl hl.1 rfl (lv_room (Nat.le_of_ble_eq_true rfl)) dL_release_3 ⟨Nat.le_of_ble_eq_true rfl, Nat.le_of_ble_eq_true rfl⟩) (fun q ce H locs hP hPo hS hce hcv hcl => ?_)
  refine vx_catch (name := "java/util/NoSuchElementException") hown [] ⟨0, 6, 9, 19⟩ [⟨0, 6, 12, 29⟩, ⟨0, 6, 15, 13⟩] (by rw [htab]; rfl) (fun z hz => nomatch hz) (by decide) (by decide) (hts (.classLink RL 19 "java/util/NoSuchElementException") (by decide +kernel)) (va_Nw.use rfl (hs.2.2.2.2.2.1 (.castable eNSE eNSE) (by decide +kernel))) hce hcv hcl ?_
  refine lv_astore_n (lv' := [(3, .ref q), (0, .ref (wa (dkO G) 0)), (1, .int x), (2, .int y)]) hx hb dL_release_9 rfl hl (by decide) rfl (fun ls hl => ?_)
  refine lv_iconst (v := 1) hx hb dL_release_10 (by decide) ?_
  exact xl_iret hx hb hr hlocks hP hPo hS dL_release_11 trivial
set_option maxRecDepth 100000 in
set_option maxHeartbeats 4000000 in
theorem c_L_release_n2 {l : Launch} (hst : l.stackTraces = false) {G : DG} (hj : wj (dkO G)) {M : Mem} (hok : dk_ok M) {o : Nat} {cJ : ClassId} (ho : ∀ j, j < wn (dkO G) → wa (dkO G) j ≠ o) {fq : Nat → Int64} (sz : Nat) {j : Nat} (hj6 : j < 6) (hon : M (3 + j) 0 ≠ 0) (y : Int32) (hd : dN y 4 = none) : Met l yL_release wsL_release ({ frames := 8, cells := 1, slots := 6, locals := 127 }) (va_Pc [.ref (wa (dkO G) 0), .int (nI j), .int y] (hp (dkO G) o cJ sz M fq)) (hQ (dkO G) o cJ sz 2 (M) (fun _ => True)) 1 6 (hA (dkO G) o sz) := by
  refine Met_ofWH (cc := cL_release) (maxL := 4) (ret := (some .int)) (hh := [(0, 6, 9, 19), (0, 6, 12, 29), (0, 6, 15, 13)]) (by decide) rfl ?_
  intro p e s m args below meth c s₁ B hml htab hv
  obtain ⟨rfl, rfl, hP, hK, hPo, hKo, hE⟩ := hv
  have hx := B.exec
  have hb := B.bytes
  have hr := B.returns
  have hlocks := B.notSynchronized
  have hts := atoms_spec (ws := wsL_release) B.pre
  have hown : s.vm.findClass RL = some m.cls := findClass_of_methodNamed B.named
  have hS : va_S (hA (dkO G) o s.heap.size) s.heap s.heap [] := va_S.rf
  have hl := lv_entry ([.ref (wa (dkO G) 0), .int (nI j), .int y]) (n := 4) (Nat.le_of_ble_eq_true rfl)
  rw [lg_entry_eq]
  generalize (lg_sl ([.ref (wa (dkO G) 0), .int (nI j), .int y]) ++ List.replicate (4 - (lg_sl ([.ref (wa (dkO G) 0), .int (nI j), .int y])).length) Slot.unset).toArray = ls at hl ⊢
  have hl : lv_has ls 4 [(0, .ref (wa (dkO G) 0)), (1, .int (nI j)), (2, .int y)] := hl
  refine lv_aload_n hx hb dL_release_0 rfl (lv_at hl 0 rfl) ?_
  refine lv_iload_n hx hb dL_release_1 rfl (lv_at hl 1 rfl) ?_
  refine lv_iload_n hx hb dL_release_2 rfl (lv_at hl 2 rfl) ?_
  have hsub : ∀ q, wA (dkO G) s.heap.size q → hA (dkO G) o s.heap.size q := fun q h => Or.inl h
  have hs := hE.2.2
  refine xl_x (O := (dkO G)) hS hsub hPo (oW_ap ho) (vx_runV (As := [.int (nI j), .int y]) (rest := []) ⟨hx, hb, hml, hown, hts⟩ (c_X3_release_n2 hst (G := G) hj hok hj6 hon s.heap.size y hd) (cwV 2 hts gL_release_X3_release rfl rfl rfl (by decide +kernel) ⟨Nat.le_of_ble_eq_true rfl, Nat.le_of_ble_eq_true rfl⟩) (xl_pre hK hP hS hsub hE (dk_lt (by omega)) dE_0 rfl) rfl rfl hl.1 rfl (lv_room (Nat.le_of_ble_eq_true rfl)) dL_release_3 ⟨Nat.le_of_ble_eq_true rfl, Nat.le_of_ble_eq_true rfl⟩) (fun q ce H locs hP hPo hS hce hcv hcl => ?_)
  refine vx_catch (name := "java/lang/IllegalArgumentException") hown [⟨0, 6, 9, 19⟩] ⟨0, 6, 12, 29⟩ [⟨0, 6, 15, 13⟩] (by rw [htab]; rfl) (fun z hz => by
    simp only [List.mem_cons, List.not_mem_nil, or_false] at hz
    rcases hz with rfl
    · exact Or.inr ⟨by decide, "java/util/NoSuchElementException", hts (.classLink RL 19 "java/util/NoSuchElementException") (by decide +kernel), hs.2.2.2.2.2.2.1⟩) (by decide) (by decide) (hts (.classLink RL 29 "java/lang/IllegalArgumentException") (by decide +kernel)) (va_Nw.use rfl (hs.2.2.2.2.2.1 (.castable eIAE eIAE) (by decide +kernel))) hce hcv hcl ?_
  refine lv_astore_n (lv' := [(3, .ref q), (0, .ref (wa (dkO G) 0)), (1, .int (nI j)), (2, .int y)]) hx hb dL_release_12 rfl hl (by decide) rfl (fun ls hl => ?_)
  refine lv_iconst (v := 2) hx hb dL_release_13 (by decide) ?_
  exact xl_iret hx hb hr hlocks hP hPo hS dL_release_14 trivial
set_option maxRecDepth 100000 in
set_option maxHeartbeats 4000000 in
theorem c_L_release_n3 {l : Launch} (hst : l.stackTraces = false) {G : DG} (hj : wj (dkO G)) {M : Mem} (hok : dk_ok M) {o : Nat} {cJ : ClassId} (ho : ∀ j, j < wn (dkO G) → wa (dkO G) j ≠ o) {fq : Nat → Int64} (sz : Nat) {j i : Nat} (hj6 : j < 6) (hon : M (3 + j) 0 ≠ 0) (hi4 : i < 4) (hh : M (9 + i) 1 ≠ nI j) : Met l yL_release wsL_release ({ frames := 8, cells := 1, slots := 6, locals := 127 }) (va_Pc [.ref (wa (dkO G) 0), .int (nI j), .int (nI i)] (hp (dkO G) o cJ sz M fq)) (hQ (dkO G) o cJ sz 3 (M) (fun _ => True)) 1 6 (hA (dkO G) o sz) := by
  refine Met_ofWH (cc := cL_release) (maxL := 4) (ret := (some .int)) (hh := [(0, 6, 9, 19), (0, 6, 12, 29), (0, 6, 15, 13)]) (by decide) rfl ?_
  intro p e s m args below meth c s₁ B hml htab hv
  obtain ⟨rfl, rfl, hP, hK, hPo, hKo, hE⟩ := hv
  have hx := B.exec
  have hb := B.bytes
  have hr := B.returns
  have hlocks := B.notSynchronized
  have hts := atoms_spec (ws := wsL_release) B.pre
  have hown : s.vm.findClass RL = some m.cls := findClass_of_methodNamed B.named
  have hS : va_S (hA (dkO G) o s.heap.size) s.heap s.heap [] := va_S.rf
  have hl := lv_entry ([.ref (wa (dkO G) 0), .int (nI j), .int (nI i)]) (n := 4) (Nat.le_of_ble_eq_true rfl)
  rw [lg_entry_eq]
  generalize (lg_sl ([.ref (wa (dkO G) 0), .int (nI j), .int (nI i)]) ++ List.replicate (4 - (lg_sl ([.ref (wa (dkO G) 0), .int (nI j), .int (nI i)])).length) Slot.unset).toArray = ls at hl ⊢
  have hl : lv_has ls 4 [(0, .ref (wa (dkO G) 0)), (1, .int (nI j)), (2, .int (nI i))] := hl
  refine lv_aload_n hx hb dL_release_0 rfl (lv_at hl 0 rfl) ?_
  refine lv_iload_n hx hb dL_release_1 rfl (lv_at hl 1 rfl) ?_
  refine lv_iload_n hx hb dL_release_2 rfl (lv_at hl 2 rfl) ?_
  have hsub : ∀ q, wA (dkO G) s.heap.size q → hA (dkO G) o s.heap.size q := fun q h => Or.inl h
  have hs := hE.2.2
  refine xl_x (O := (dkO G)) hS hsub hPo (oW_ap ho) (vx_runV (As := [.int (nI j), .int (nI i)]) (rest := []) ⟨hx, hb, hml, hown, hts⟩ (c_X3_release_n3 hst (G := G) hj hok hj6 hon hi4 hh s.heap.size) (cwV 2 hts gL_release_X3_release rfl rfl rfl (by decide +kernel) ⟨Nat.le_of_ble_eq_true rfl, Nat.le_of_ble_eq_true rfl⟩) (xl_pre hK hP hS hsub hE (dk_lt (by omega)) dE_0 rfl) rfl rfl hl.1 rfl (lv_room (Nat.le_of_ble_eq_true rfl)) dL_release_3 ⟨Nat.le_of_ble_eq_true rfl, Nat.le_of_ble_eq_true rfl⟩) (fun q ce H locs hP hPo hS hce hcv hcl => ?_)
  refine vx_catch (name := "java/lang/IllegalStateException") hown [⟨0, 6, 9, 19⟩, ⟨0, 6, 12, 29⟩] ⟨0, 6, 15, 13⟩ [] (by rw [htab]; rfl) (fun z hz => by
    simp only [List.mem_cons, List.not_mem_nil, or_false] at hz
    rcases hz with rfl | rfl
    · exact Or.inr ⟨by decide, "java/util/NoSuchElementException", hts (.classLink RL 19 "java/util/NoSuchElementException") (by decide +kernel), hs.2.2.2.2.2.2.2.1⟩
    · exact Or.inr ⟨by decide, "java/lang/IllegalArgumentException", hts (.classLink RL 29 "java/lang/IllegalArgumentException") (by decide +kernel), hs.2.2.2.2.2.2.2.2⟩) (by decide) (by decide) (hts (.classLink RL 13 "java/lang/IllegalStateException") (by decide +kernel)) (va_Nw.use rfl (hs.2.2.2.2.2.1 (.castable eISE eISE) (by decide +kernel))) hce hcv hcl ?_
  refine lv_astore_n (lv' := [(3, .ref q), (0, .ref (wa (dkO G) 0)), (1, .int (nI j)), (2, .int (nI i))]) hx hb dL_release_15 rfl hl (by decide) rfl (fun ls hl => ?_)
  refine lv_iconst (v := 3) hx hb dL_release_16 (by decide) ?_
  exact xl_iret hx hb hr hlocks hP hPo hS dL_release_17 trivial
